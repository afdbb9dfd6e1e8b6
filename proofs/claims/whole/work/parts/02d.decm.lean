theorem d_207_0 : decode m207.2.1 0 = .ok (.aload_n 0, 1) := by decide +kernel
theorem d_207_1 : decode m207.2.1 1 = .ok (.invokespecial 1, 3) := by decide +kernel
theorem d_207_4 : decode m207.2.1 4 = .ok (.aload_n 0, 1) := by decide +kernel
theorem d_207_5 : decode m207.2.1 5 = .ok (.sipush 1600, 3) := by decide +kernel
theorem d_207_8 : decode m207.2.1 8 = .ok (.newarray .int, 2) := by decide +kernel
theorem d_207_10 : decode m207.2.1 10 = .ok (.putfield 7, 3) := by decide +kernel
theorem d_207_13 : decode m207.2.1 13 = .ok (.aload_n 0, 1) := by decide +kernel
theorem d_207_14 : decode m207.2.1 14 = .ok (.iconst (-1), 1) := by decide +kernel
theorem d_207_15 : decode m207.2.1 15 = .ok (.putfield 13, 3) := by decide +kernel
theorem d_207_18 : decode m207.2.1 18 = .ok (.aload_n 0, 1) := by decide +kernel
theorem d_207_19 : decode m207.2.1 19 = .ok (.bipush 14, 2) := by decide +kernel
theorem d_207_21 : decode m207.2.1 21 = .ok (.newarray .long, 2) := by decide +kernel
theorem d_207_23 : decode m207.2.1 23 = .ok (.putfield 17, 3) := by decide +kernel
theorem d_207_26 : decode m207.2.1 26 = .ok (.aload_n 0, 1) := by decide +kernel
theorem d_207_27 : decode m207.2.1 27 = .ok (.sipush 320, 3) := by decide +kernel
theorem d_207_30 : decode m207.2.1 30 = .ok (.newarray .int, 2) := by decide +kernel
theorem d_207_32 : decode m207.2.1 32 = .ok (.putfield 21, 3) := by decide +kernel
theorem d_207_35 : decode m207.2.1 35 = .ok (.aload_n 0, 1) := by decide +kernel
theorem d_207_36 : decode m207.2.1 36 = .ok (.sipush 320, 3) := by decide +kernel
theorem d_207_39 : decode m207.2.1 39 = .ok (.newarray .int, 2) := by decide +kernel
theorem d_207_41 : decode m207.2.1 41 = .ok (.putfield 24, 3) := by decide +kernel
theorem d_207_44 : decode m207.2.1 44 = .ok (.aload_n 0, 1) := by decide +kernel
theorem d_207_45 : decode m207.2.1 45 = .ok (.sipush 320, 3) := by decide +kernel
theorem d_207_48 : decode m207.2.1 48 = .ok (.newarray .int, 2) := by decide +kernel
theorem d_207_50 : decode m207.2.1 50 = .ok (.putfield 27, 3) := by decide +kernel
theorem d_207_53 : decode m207.2.1 53 = .ok (.aload_n 0, 1) := by decide +kernel
theorem d_207_54 : decode m207.2.1 54 = .ok (.sipush 320, 3) := by decide +kernel
theorem d_207_57 : decode m207.2.1 57 = .ok (.newarray .int, 2) := by decide +kernel
theorem d_207_59 : decode m207.2.1 59 = .ok (.putfield 30, 3) := by decide +kernel
theorem d_207_62 : decode m207.2.1 62 = .ok (.aload_n 0, 1) := by decide +kernel
theorem d_207_63 : decode m207.2.1 63 = .ok (.sipush 160, 3) := by decide +kernel
theorem d_207_66 : decode m207.2.1 66 = .ok (.newarray .int, 2) := by decide +kernel
theorem d_207_68 : decode m207.2.1 68 = .ok (.putfield 33, 3) := by decide +kernel
theorem d_207_71 : decode m207.2.1 71 = .ok (.aload_n 0, 1) := by decide +kernel
theorem d_207_72 : decode m207.2.1 72 = .ok (.bipush 64, 2) := by decide +kernel
theorem d_207_74 : decode m207.2.1 74 = .ok (.newarray .int, 2) := by decide +kernel
theorem d_207_76 : decode m207.2.1 76 = .ok (.putfield 36, 3) := by decide +kernel
theorem d_207_79 : decode m207.2.1 79 = .ok (.aload_n 0, 1) := by decide +kernel
theorem d_207_80 : decode m207.2.1 80 = .ok (.bipush 6, 2) := by decide +kernel
theorem d_207_82 : decode m207.2.1 82 = .ok (.newarray .int, 2) := by decide +kernel
theorem d_207_84 : decode m207.2.1 84 = .ok (.putfield 39, 3) := by decide +kernel
theorem d_207_87 : decode m207.2.1 87 = .ok (.aload_n 0, 1) := by decide +kernel
theorem d_207_88 : decode m207.2.1 88 = .ok (.iconst 4, 1) := by decide +kernel
theorem d_207_89 : decode m207.2.1 89 = .ok (.newarray .int, 2) := by decide +kernel
theorem d_207_91 : decode m207.2.1 91 = .ok (.putfield 42, 3) := by decide +kernel
theorem d_207_94 : decode m207.2.1 94 = .ok (.aload_n 0, 1) := by decide +kernel
theorem d_207_95 : decode m207.2.1 95 = .ok (.bipush 10, 2) := by decide +kernel
theorem d_207_97 : decode m207.2.1 97 = .ok (.newarray .int, 2) := by decide +kernel
theorem d_207_99 : decode m207.2.1 99 = .ok (.putfield 45, 3) := by decide +kernel
theorem d_207_102 : decode m207.2.1 102 = .ok (.aload_n 0, 1) := by decide +kernel
theorem d_207_103 : decode m207.2.1 103 = .ok (.bipush 10, 2) := by decide +kernel
theorem d_207_105 : decode m207.2.1 105 = .ok (.newarray .int, 2) := by decide +kernel
theorem d_207_107 : decode m207.2.1 107 = .ok (.putfield 48, 3) := by decide +kernel
theorem d_207_110 : decode m207.2.1 110 = .ok (.aload_n 0, 1) := by decide +kernel
theorem d_207_111 : decode m207.2.1 111 = .ok (.bipush 10, 2) := by decide +kernel
theorem d_207_113 : decode m207.2.1 113 = .ok (.newarray .int, 2) := by decide +kernel
theorem d_207_115 : decode m207.2.1 115 = .ok (.putfield 51, 3) := by decide +kernel
theorem d_207_118 : decode m207.2.1 118 = .ok (.aload_n 0, 1) := by decide +kernel
theorem d_207_119 : decode m207.2.1 119 = .ok (.bipush 10, 2) := by decide +kernel
theorem d_207_121 : decode m207.2.1 121 = .ok (.newarray .int, 2) := by decide +kernel
theorem d_207_123 : decode m207.2.1 123 = .ok (.putfield 54, 3) := by decide +kernel
theorem d_207_126 : decode m207.2.1 126 = .ok (.aload_n 0, 1) := by decide +kernel
theorem d_207_127 : decode m207.2.1 127 = .ok (.bipush 10, 2) := by decide +kernel
theorem d_207_129 : decode m207.2.1 129 = .ok (.newarray .int, 2) := by decide +kernel
theorem d_207_131 : decode m207.2.1 131 = .ok (.putfield 57, 3) := by decide +kernel
theorem d_207_134 : decode m207.2.1 134 = .ok (.aload_n 0, 1) := by decide +kernel
theorem d_207_135 : decode m207.2.1 135 = .ok (.iconst 4, 1) := by decide +kernel
theorem d_207_136 : decode m207.2.1 136 = .ok (.newarray .int, 2) := by decide +kernel
theorem d_207_138 : decode m207.2.1 138 = .ok (.putfield 60, 3) := by decide +kernel
theorem d_207_141 : decode m207.2.1 141 = .ok (.aload_n 0, 1) := by decide +kernel
theorem d_207_142 : decode m207.2.1 142 = .ok (.bipush 10, 2) := by decide +kernel
theorem d_207_144 : decode m207.2.1 144 = .ok (.newarray .int, 2) := by decide +kernel
theorem d_207_146 : decode m207.2.1 146 = .ok (.putfield 63, 3) := by decide +kernel
theorem d_207_149 : decode m207.2.1 149 = .ok (.aload_n 0, 1) := by decide +kernel
theorem d_207_150 : decode m207.2.1 150 = .ok (.bipush 10, 2) := by decide +kernel
theorem d_207_152 : decode m207.2.1 152 = .ok (.newarray .int, 2) := by decide +kernel
theorem d_207_154 : decode m207.2.1 154 = .ok (.putfield 66, 3) := by decide +kernel
theorem d_207_157 : decode m207.2.1 157 = .ok (.aload_n 0, 1) := by decide +kernel
theorem d_207_158 : decode m207.2.1 158 = .ok (.bipush 10, 2) := by decide +kernel
theorem d_207_160 : decode m207.2.1 160 = .ok (.newarray .int, 2) := by decide +kernel
theorem d_207_162 : decode m207.2.1 162 = .ok (.putfield 69, 3) := by decide +kernel
theorem d_207_165 : decode m207.2.1 165 = .ok (.aload_n 0, 1) := by decide +kernel
theorem d_207_166 : decode m207.2.1 166 = .ok (.bipush 10, 2) := by decide +kernel
theorem d_207_168 : decode m207.2.1 168 = .ok (.newarray .int, 2) := by decide +kernel
theorem d_207_170 : decode m207.2.1 170 = .ok (.putfield 72, 3) := by decide +kernel
theorem d_207_173 : decode m207.2.1 173 = .ok (.aload_n 0, 1) := by decide +kernel
theorem d_207_174 : decode m207.2.1 174 = .ok (.bipush 10, 2) := by decide +kernel
theorem d_207_176 : decode m207.2.1 176 = .ok (.newarray .int, 2) := by decide +kernel
theorem d_207_178 : decode m207.2.1 178 = .ok (.putfield 75, 3) := by decide +kernel
theorem d_207_181 : decode m207.2.1 181 = .ok (.aload_n 0, 1) := by decide +kernel
theorem d_207_182 : decode m207.2.1 182 = .ok (.bipush 12, 2) := by decide +kernel
theorem d_207_184 : decode m207.2.1 184 = .ok (.putfield 78, 3) := by decide +kernel
theorem d_207_187 : decode m207.2.1 187 = .ok (.aload_n 0, 1) := by decide +kernel
theorem d_207_188 : decode m207.2.1 188 = .ok (.bipush 12, 2) := by decide +kernel
theorem d_207_190 : decode m207.2.1 190 = .ok (.putfield 81, 3) := by decide +kernel
theorem d_207_193 : decode m207.2.1 193 = .ok (.aload_n 0, 1) := by decide +kernel
theorem d_207_194 : decode m207.2.1 194 = .ok (.iconst 5, 1) := by decide +kernel
theorem d_207_195 : decode m207.2.1 195 = .ok (.putfield 84, 3) := by decide +kernel
theorem d_207_198 : decode m207.2.1 198 = .ok (.aload_n 0, 1) := by decide +kernel
theorem d_207_199 : decode m207.2.1 199 = .ok (.bipush 20, 2) := by decide +kernel
theorem d_207_201 : decode m207.2.1 201 = .ok (.putfield 87, 3) := by decide +kernel
theorem d_207_204 : decode m207.2.1 204 = .ok (.aload_n 0, 1) := by decide +kernel
theorem d_207_205 : decode m207.2.1 205 = .ok (.iconst 2, 1) := by decide +kernel
theorem d_207_206 : decode m207.2.1 206 = .ok (.putfield 90, 3) := by decide +kernel
theorem d_207_209 : decode m207.2.1 209 = .ok (.aload_n 0, 1) := by decide +kernel
theorem d_207_210 : decode m207.2.1 210 = .ok (.bipush 41, 2) := by decide +kernel
theorem d_207_212 : decode m207.2.1 212 = .ok (.newarray .int, 2) := by decide +kernel
theorem d_207_214 : decode m207.2.1 214 = .ok (.putfield 93, 3) := by decide +kernel
theorem d_207_217 : decode m207.2.1 217 = .ok (.aload_n 0, 1) := by decide +kernel
theorem d_207_218 : decode m207.2.1 218 = .ok (.bipush 41, 2) := by decide +kernel
theorem d_207_220 : decode m207.2.1 220 = .ok (.newarray .int, 2) := by decide +kernel
theorem d_207_222 : decode m207.2.1 222 = .ok (.putfield 96, 3) := by decide +kernel
theorem d_207_225 : decode m207.2.1 225 = .ok (.aload_n 0, 1) := by decide +kernel
theorem d_207_226 : decode m207.2.1 226 = .ok (.bipush 12, 2) := by decide +kernel
theorem d_207_228 : decode m207.2.1 228 = .ok (.newarray .int, 2) := by decide +kernel
theorem d_207_230 : decode m207.2.1 230 = .ok (.putfield 99, 3) := by decide +kernel
theorem d_207_233 : decode m207.2.1 233 = .ok (.aload_n 0, 1) := by decide +kernel
theorem d_207_234 : decode m207.2.1 234 = .ok (.bipush 12, 2) := by decide +kernel
theorem d_207_236 : decode m207.2.1 236 = .ok (.newarray .int, 2) := by decide +kernel
theorem d_207_238 : decode m207.2.1 238 = .ok (.putfield 102, 3) := by decide +kernel
theorem d_207_241 : decode m207.2.1 241 = .ok (.aload_n 0, 1) := by decide +kernel
theorem d_207_242 : decode m207.2.1 242 = .ok (.sipush 1640, 3) := by decide +kernel
theorem d_207_245 : decode m207.2.1 245 = .ok (.newarray .int, 2) := by decide +kernel
theorem d_207_247 : decode m207.2.1 247 = .ok (.putfield 105, 3) := by decide +kernel
theorem d_207_250 : decode m207.2.1 250 = .ok (.aload_n 0, 1) := by decide +kernel
theorem d_207_251 : decode m207.2.1 251 = .ok (.bipush 10, 2) := by decide +kernel
theorem d_207_253 : decode m207.2.1 253 = .ok (.newarray .int, 2) := by decide +kernel
theorem d_207_255 : decode m207.2.1 255 = .ok (.putfield 108, 3) := by decide +kernel
theorem d_207_258 : decode m207.2.1 258 = .ok (.aload_n 0, 1) := by decide +kernel
theorem d_207_259 : decode m207.2.1 259 = .ok (.bipush 10, 2) := by decide +kernel
theorem d_207_261 : decode m207.2.1 261 = .ok (.newarray .int, 2) := by decide +kernel
theorem d_207_263 : decode m207.2.1 263 = .ok (.putfield 111, 3) := by decide +kernel
theorem d_207_266 : decode m207.2.1 266 = .ok (.aload_n 0, 1) := by decide +kernel
theorem d_207_267 : decode m207.2.1 267 = .ok (.bipush 10, 2) := by decide +kernel
theorem d_207_269 : decode m207.2.1 269 = .ok (.newarray .int, 2) := by decide +kernel
theorem d_207_271 : decode m207.2.1 271 = .ok (.putfield 114, 3) := by decide +kernel
theorem d_207_274 : decode m207.2.1 274 = .ok (.aload_n 0, 1) := by decide +kernel
theorem d_207_275 : decode m207.2.1 275 = .ok (.bipush 30, 2) := by decide +kernel
theorem d_207_277 : decode m207.2.1 277 = .ok (.newarray .int, 2) := by decide +kernel
theorem d_207_279 : decode m207.2.1 279 = .ok (.putfield 117, 3) := by decide +kernel
theorem d_207_282 : decode m207.2.1 282 = .ok (.aload_n 0, 1) := by decide +kernel
theorem d_207_283 : decode m207.2.1 283 = .ok (.bipush 30, 2) := by decide +kernel
theorem d_207_285 : decode m207.2.1 285 = .ok (.newarray .int, 2) := by decide +kernel
theorem d_207_287 : decode m207.2.1 287 = .ok (.putfield 120, 3) := by decide +kernel
theorem d_207_290 : decode m207.2.1 290 = .ok (.aload_n 0, 1) := by decide +kernel
theorem d_207_291 : decode m207.2.1 291 = .ok (.bipush 30, 2) := by decide +kernel
theorem d_207_293 : decode m207.2.1 293 = .ok (.newarray .int, 2) := by decide +kernel
theorem d_207_295 : decode m207.2.1 295 = .ok (.putfield 123, 3) := by decide +kernel
theorem d_207_298 : decode m207.2.1 298 = .ok (.aload_n 0, 1) := by decide +kernel
theorem d_207_299 : decode m207.2.1 299 = .ok (.bipush 30, 2) := by decide +kernel
theorem d_207_301 : decode m207.2.1 301 = .ok (.newarray .int, 2) := by decide +kernel
theorem d_207_303 : decode m207.2.1 303 = .ok (.putfield 126, 3) := by decide +kernel
theorem d_207_306 : decode m207.2.1 306 = .ok (.aload_n 0, 1) := by decide +kernel
theorem d_207_307 : decode m207.2.1 307 = .ok (.bipush 30, 2) := by decide +kernel
theorem d_207_309 : decode m207.2.1 309 = .ok (.newarray .boolean, 2) := by decide +kernel
theorem d_207_311 : decode m207.2.1 311 = .ok (.putfield 129, 3) := by decide +kernel
theorem d_207_314 : decode m207.2.1 314 = .ok (.aload_n 0, 1) := by decide +kernel
theorem d_207_315 : decode m207.2.1 315 = .ok (.bipush 30, 2) := by decide +kernel
theorem d_207_317 : decode m207.2.1 317 = .ok (.newarray .int, 2) := by decide +kernel
theorem d_207_319 : decode m207.2.1 319 = .ok (.putfield 133, 3) := by decide +kernel
theorem d_207_322 : decode m207.2.1 322 = .ok (.aload_n 0, 1) := by decide +kernel
theorem d_207_323 : decode m207.2.1 323 = .ok (.bipush 10, 2) := by decide +kernel
theorem d_207_325 : decode m207.2.1 325 = .ok (.newarray .int, 2) := by decide +kernel
theorem d_207_327 : decode m207.2.1 327 = .ok (.putfield 136, 3) := by decide +kernel
theorem d_207_330 : decode m207.2.1 330 = .ok (.aload_n 0, 1) := by decide +kernel
theorem d_207_331 : decode m207.2.1 331 = .ok (.iconst 3, 1) := by decide +kernel
theorem d_207_332 : decode m207.2.1 332 = .ok (.newarray .boolean, 2) := by decide +kernel
theorem d_207_334 : decode m207.2.1 334 = .ok (.putfield 139, 3) := by decide +kernel
theorem d_207_337 : decode m207.2.1 337 = .ok (.aload_n 0, 1) := by decide +kernel
theorem d_207_338 : decode m207.2.1 338 = .ok (.bipush 123, 2) := by decide +kernel
theorem d_207_340 : decode m207.2.1 340 = .ok (.newarray .int, 2) := by decide +kernel
theorem d_207_342 : decode m207.2.1 342 = .ok (.putfield 142, 3) := by decide +kernel
theorem d_207_345 : decode m207.2.1 345 = .ok (.return_, 1) := by decide +kernel
theorem d_208_0 : decode m208.2.1 0 = .ok (.aload_n 0, 1) := by decide +kernel
theorem d_208_1 : decode m208.2.1 1 = .ok (.getfield 145, 3) := by decide +kernel
theorem d_208_4 : decode m208.2.1 4 = .ok (.bipush 20, 2) := by decide +kernel
theorem d_208_6 : decode m208.2.1 6 = .ok (.iadd, 1) := by decide +kernel
theorem d_208_7 : decode m208.2.1 7 = .ok (.sipush 1600, 3) := by decide +kernel
theorem d_208_10 : decode m208.2.1 10 = .ok (.if_icmp .le 5, 3) := by decide +kernel
theorem d_208_13 : decode m208.2.1 13 = .ok (.iconst (-1), 1) := by decide +kernel
theorem d_208_14 : decode m208.2.1 14 = .ok (.ireturn, 1) := by decide +kernel
theorem d_208_15 : decode m208.2.1 15 = .ok (.aload_n 0, 1) := by decide +kernel
theorem d_208_16 : decode m208.2.1 16 = .ok (.iload_n 1, 1) := by decide +kernel
theorem d_208_17 : decode m208.2.1 17 = .ok (.invokevirtual 148, 3) := by decide +kernel
theorem d_208_20 : decode m208.2.1 20 = .ok (.aload_n 0, 1) := by decide +kernel
theorem d_208_21 : decode m208.2.1 21 = .ok (.iload_n 2, 1) := by decide +kernel
theorem d_208_22 : decode m208.2.1 22 = .ok (.invokevirtual 148, 3) := by decide +kernel
theorem d_208_25 : decode m208.2.1 25 = .ok (.aload_n 0, 1) := by decide +kernel
theorem d_208_26 : decode m208.2.1 26 = .ok (.iload_n 3, 1) := by decide +kernel
theorem d_208_27 : decode m208.2.1 27 = .ok (.invokevirtual 148, 3) := by decide +kernel
theorem d_208_30 : decode m208.2.1 30 = .ok (.aload_n 0, 1) := by decide +kernel
theorem d_208_31 : decode m208.2.1 31 = .ok (.iload 4, 2) := by decide +kernel
theorem d_208_33 : decode m208.2.1 33 = .ok (.invokevirtual 148, 3) := by decide +kernel
theorem d_208_36 : decode m208.2.1 36 = .ok (.aload_n 0, 1) := by decide +kernel
theorem d_208_37 : decode m208.2.1 37 = .ok (.iload 5, 2) := by decide +kernel
theorem d_208_39 : decode m208.2.1 39 = .ok (.invokevirtual 148, 3) := by decide +kernel
theorem d_208_42 : decode m208.2.1 42 = .ok (.aload_n 0, 1) := by decide +kernel
theorem d_208_43 : decode m208.2.1 43 = .ok (.getfield 145, 3) := by decide +kernel
theorem d_208_46 : decode m208.2.1 46 = .ok (.ireturn, 1) := by decide +kernel
theorem d_209_0 : decode m209.2.1 0 = .ok (.bipush 24, 2) := by decide +kernel
theorem d_209_2 : decode m209.2.1 2 = .ok (.istore_n 2, 1) := by decide +kernel
theorem d_209_3 : decode m209.2.1 3 = .ok (.iload_n 2, 1) := by decide +kernel
theorem d_209_4 : decode m209.2.1 4 = .ok (.ifCond .lt 35, 3) := by decide +kernel
theorem d_209_7 : decode m209.2.1 7 = .ok (.aload_n 0, 1) := by decide +kernel
theorem d_209_8 : decode m209.2.1 8 = .ok (.getfield 7, 3) := by decide +kernel
theorem d_209_11 : decode m209.2.1 11 = .ok (.aload_n 0, 1) := by decide +kernel
theorem d_209_12 : decode m209.2.1 12 = .ok (.getfield 145, 3) := by decide +kernel
theorem d_209_15 : decode m209.2.1 15 = .ok (.iload_n 1, 1) := by decide +kernel
theorem d_209_16 : decode m209.2.1 16 = .ok (.iload_n 2, 1) := by decide +kernel
theorem d_209_17 : decode m209.2.1 17 = .ok (.ishr, 1) := by decide +kernel
theorem d_209_18 : decode m209.2.1 18 = .ok (.sipush 255, 3) := by decide +kernel
theorem d_209_21 : decode m209.2.1 21 = .ok (.iand, 1) := by decide +kernel
theorem d_209_22 : decode m209.2.1 22 = .ok (.iastore, 1) := by decide +kernel
theorem d_209_23 : decode m209.2.1 23 = .ok (.aload_n 0, 1) := by decide +kernel
theorem d_209_24 : decode m209.2.1 24 = .ok (.dup, 1) := by decide +kernel
theorem d_209_25 : decode m209.2.1 25 = .ok (.getfield 145, 3) := by decide +kernel
theorem d_209_28 : decode m209.2.1 28 = .ok (.iconst 1, 1) := by decide +kernel
theorem d_209_29 : decode m209.2.1 29 = .ok (.iadd, 1) := by decide +kernel
theorem d_209_30 : decode m209.2.1 30 = .ok (.putfield 145, 3) := by decide +kernel
theorem d_209_33 : decode m209.2.1 33 = .ok (.iinc 2 (-8), 3) := by decide +kernel
theorem d_209_36 : decode m209.2.1 36 = .ok (.goto (-33), 3) := by decide +kernel
theorem d_209_39 : decode m209.2.1 39 = .ok (.return_, 1) := by decide +kernel
theorem d_210_0 : decode m210.2.1 0 = .ok (.iload_n 1, 1) := by decide +kernel
theorem d_210_1 : decode m210.2.1 1 = .ok (.ifCond .lt 11, 3) := by decide +kernel
theorem d_210_4 : decode m210.2.1 4 = .ok (.iload_n 1, 1) := by decide +kernel
theorem d_210_5 : decode m210.2.1 5 = .ok (.aload_n 0, 1) := by decide +kernel
theorem d_210_6 : decode m210.2.1 6 = .ok (.getfield 145, 3) := by decide +kernel
theorem d_210_9 : decode m210.2.1 9 = .ok (.if_icmp .le 5, 3) := by decide +kernel
theorem d_210_12 : decode m210.2.1 12 = .ok (.iconst (-1), 1) := by decide +kernel
theorem d_210_13 : decode m210.2.1 13 = .ok (.ireturn, 1) := by decide +kernel
theorem d_210_14 : decode m210.2.1 14 = .ok (.aload_n 0, 1) := by decide +kernel
theorem d_210_15 : decode m210.2.1 15 = .ok (.iload_n 1, 1) := by decide +kernel
theorem d_210_16 : decode m210.2.1 16 = .ok (.putfield 145, 3) := by decide +kernel
theorem d_210_19 : decode m210.2.1 19 = .ok (.iload_n 1, 1) := by decide +kernel
theorem d_210_20 : decode m210.2.1 20 = .ok (.ireturn, 1) := by decide +kernel
theorem d_211_0 : decode m211.2.1 0 = .ok (.aload_n 0, 1) := by decide +kernel
theorem d_211_1 : decode m211.2.1 1 = .ok (.invokevirtual 402, 3) := by decide +kernel
theorem d_211_4 : decode m211.2.1 4 = .ok (.aload_n 0, 1) := by decide +kernel
theorem d_211_5 : decode m211.2.1 5 = .ok (.getfield 185, 3) := by decide +kernel
theorem d_211_8 : decode m211.2.1 8 = .ok (.ifCond .le 5, 3) := by decide +kernel
theorem d_211_11 : decode m211.2.1 11 = .ok (.iconst (-1), 1) := by decide +kernel
theorem d_211_12 : decode m211.2.1 12 = .ok (.ireturn, 1) := by decide +kernel
theorem d_211_13 : decode m211.2.1 13 = .ok (.aload_n 0, 1) := by decide +kernel
theorem d_211_14 : decode m211.2.1 14 = .ok (.aload_n 0, 1) := by decide +kernel
theorem d_211_15 : decode m211.2.1 15 = .ok (.getfield 356, 3) := by decide +kernel
theorem d_211_18 : decode m211.2.1 18 = .ok (.putfield 78, 3) := by decide +kernel
theorem d_211_21 : decode m211.2.1 21 = .ok (.aload_n 0, 1) := by decide +kernel
theorem d_211_22 : decode m211.2.1 22 = .ok (.aload_n 0, 1) := by decide +kernel
theorem d_211_23 : decode m211.2.1 23 = .ok (.getfield 258, 3) := by decide +kernel
theorem d_211_26 : decode m211.2.1 26 = .ok (.putfield 405, 3) := by decide +kernel
theorem d_211_29 : decode m211.2.1 29 = .ok (.aload_n 0, 1) := by decide +kernel
theorem d_211_30 : decode m211.2.1 30 = .ok (.aload_n 0, 1) := by decide +kernel
theorem d_211_31 : decode m211.2.1 31 = .ok (.getfield 350, 3) := by decide +kernel
theorem d_211_34 : decode m211.2.1 34 = .ok (.putfield 322, 3) := by decide +kernel
theorem d_211_37 : decode m211.2.1 37 = .ok (.aload_n 0, 1) := by decide +kernel
theorem d_211_38 : decode m211.2.1 38 = .ok (.aload_n 0, 1) := by decide +kernel
theorem d_211_39 : decode m211.2.1 39 = .ok (.getfield 378, 3) := by decide +kernel
theorem d_211_42 : decode m211.2.1 42 = .ok (.putfield 81, 3) := by decide +kernel
theorem d_211_45 : decode m211.2.1 45 = .ok (.aload_n 0, 1) := by decide +kernel
theorem d_211_46 : decode m211.2.1 46 = .ok (.aload_n 0, 1) := by decide +kernel
theorem d_211_47 : decode m211.2.1 47 = .ok (.getfield 384, 3) := by decide +kernel
theorem d_211_50 : decode m211.2.1 50 = .ok (.putfield 84, 3) := by decide +kernel
theorem d_211_53 : decode m211.2.1 53 = .ok (.aload_n 0, 1) := by decide +kernel
theorem d_211_54 : decode m211.2.1 54 = .ok (.aload_n 0, 1) := by decide +kernel
theorem d_211_55 : decode m211.2.1 55 = .ok (.getfield 390, 3) := by decide +kernel
theorem d_211_58 : decode m211.2.1 58 = .ok (.putfield 87, 3) := by decide +kernel
theorem d_211_61 : decode m211.2.1 61 = .ok (.aload_n 0, 1) := by decide +kernel
theorem d_211_62 : decode m211.2.1 62 = .ok (.aload_n 0, 1) := by decide +kernel
theorem d_211_63 : decode m211.2.1 63 = .ok (.getfield 396, 3) := by decide +kernel
theorem d_211_66 : decode m211.2.1 66 = .ok (.putfield 90, 3) := by decide +kernel
theorem d_211_69 : decode m211.2.1 69 = .ok (.aload_n 0, 1) := by decide +kernel
theorem d_211_70 : decode m211.2.1 70 = .ok (.aload_n 0, 1) := by decide +kernel
theorem d_211_71 : decode m211.2.1 71 = .ok (.getfield 277, 3) := by decide +kernel
theorem d_211_74 : decode m211.2.1 74 = .ok (.putfield 408, 3) := by decide +kernel
theorem d_211_77 : decode m211.2.1 77 = .ok (.aload_n 0, 1) := by decide +kernel
theorem d_211_78 : decode m211.2.1 78 = .ok (.aload_n 0, 1) := by decide +kernel
theorem d_211_79 : decode m211.2.1 79 = .ok (.getfield 299, 3) := by decide +kernel
theorem d_211_82 : decode m211.2.1 82 = .ok (.putfield 334, 3) := by decide +kernel
theorem d_211_85 : decode m211.2.1 85 = .ok (.aload_n 0, 1) := by decide +kernel
theorem d_211_86 : decode m211.2.1 86 = .ok (.aload_n 0, 1) := by decide +kernel
theorem d_211_87 : decode m211.2.1 87 = .ok (.getfield 299, 3) := by decide +kernel
theorem d_211_90 : decode m211.2.1 90 = .ok (.ifCond .eq 10, 3) := by decide +kernel
theorem d_211_93 : decode m211.2.1 93 = .ok (.aload_n 0, 1) := by decide +kernel
theorem d_211_94 : decode m211.2.1 94 = .ok (.getfield 261, 3) := by decide +kernel
theorem d_211_97 : decode m211.2.1 97 = .ok (.goto 4, 3) := by decide +kernel
theorem d_211_100 : decode m211.2.1 100 = .ok (.iconst 0, 1) := by decide +kernel
theorem d_211_101 : decode m211.2.1 101 = .ok (.putfield 340, 3) := by decide +kernel
theorem d_211_104 : decode m211.2.1 104 = .ok (.iconst 0, 1) := by decide +kernel
theorem d_211_105 : decode m211.2.1 105 = .ok (.istore_n 1, 1) := by decide +kernel
theorem d_211_106 : decode m211.2.1 106 = .ok (.iload_n 1, 1) := by decide +kernel
theorem d_211_107 : decode m211.2.1 107 = .ok (.aload_n 0, 1) := by decide +kernel
theorem d_211_108 : decode m211.2.1 108 = .ok (.getfield 340, 3) := by decide +kernel
theorem d_211_111 : decode m211.2.1 111 = .ok (.if_icmp .ge 33, 3) := by decide +kernel
theorem d_211_114 : decode m211.2.1 114 = .ok (.aload_n 0, 1) := by decide +kernel
theorem d_211_115 : decode m211.2.1 115 = .ok (.getfield 27, 3) := by decide +kernel
theorem d_211_118 : decode m211.2.1 118 = .ok (.iload_n 1, 1) := by decide +kernel
theorem d_211_119 : decode m211.2.1 119 = .ok (.aload_n 0, 1) := by decide +kernel
theorem d_211_120 : decode m211.2.1 120 = .ok (.getfield 21, 3) := by decide +kernel
theorem d_211_123 : decode m211.2.1 123 = .ok (.iload_n 1, 1) := by decide +kernel
theorem d_211_124 : decode m211.2.1 124 = .ok (.iaload, 1) := by decide +kernel
theorem d_211_125 : decode m211.2.1 125 = .ok (.iastore, 1) := by decide +kernel
theorem d_211_126 : decode m211.2.1 126 = .ok (.aload_n 0, 1) := by decide +kernel
theorem d_211_127 : decode m211.2.1 127 = .ok (.getfield 30, 3) := by decide +kernel
theorem d_211_130 : decode m211.2.1 130 = .ok (.iload_n 1, 1) := by decide +kernel
theorem d_211_131 : decode m211.2.1 131 = .ok (.aload_n 0, 1) := by decide +kernel
theorem d_211_132 : decode m211.2.1 132 = .ok (.getfield 24, 3) := by decide +kernel
theorem d_211_135 : decode m211.2.1 135 = .ok (.iload_n 1, 1) := by decide +kernel
theorem d_211_136 : decode m211.2.1 136 = .ok (.iaload, 1) := by decide +kernel
theorem d_211_137 : decode m211.2.1 137 = .ok (.iastore, 1) := by decide +kernel
theorem d_211_138 : decode m211.2.1 138 = .ok (.iinc 1 1, 3) := by decide +kernel
theorem d_211_141 : decode m211.2.1 141 = .ok (.goto (-35), 3) := by decide +kernel
theorem d_211_144 : decode m211.2.1 144 = .ok (.iconst 0, 1) := by decide +kernel
theorem d_211_145 : decode m211.2.1 145 = .ok (.istore_n 1, 1) := by decide +kernel
theorem d_211_146 : decode m211.2.1 146 = .ok (.iload_n 1, 1) := by decide +kernel
theorem d_211_147 : decode m211.2.1 147 = .ok (.aload_n 0, 1) := by decide +kernel
theorem d_211_148 : decode m211.2.1 148 = .ok (.getfield 405, 3) := by decide +kernel
theorem d_211_151 : decode m211.2.1 151 = .ok (.if_icmp .ge 21, 3) := by decide +kernel
theorem d_211_154 : decode m211.2.1 154 = .ok (.aload_n 0, 1) := by decide +kernel
theorem d_211_155 : decode m211.2.1 155 = .ok (.getfield 60, 3) := by decide +kernel
theorem d_211_158 : decode m211.2.1 158 = .ok (.iload_n 1, 1) := by decide +kernel
theorem d_211_159 : decode m211.2.1 159 = .ok (.aload_n 0, 1) := by decide +kernel
theorem d_211_160 : decode m211.2.1 160 = .ok (.getfield 42, 3) := by decide +kernel
theorem d_211_163 : decode m211.2.1 163 = .ok (.iload_n 1, 1) := by decide +kernel
theorem d_211_164 : decode m211.2.1 164 = .ok (.iaload, 1) := by decide +kernel
theorem d_211_165 : decode m211.2.1 165 = .ok (.iastore, 1) := by decide +kernel
theorem d_211_166 : decode m211.2.1 166 = .ok (.iinc 1 1, 3) := by decide +kernel
theorem d_211_169 : decode m211.2.1 169 = .ok (.goto (-23), 3) := by decide +kernel
theorem d_211_172 : decode m211.2.1 172 = .ok (.iconst 0, 1) := by decide +kernel
theorem d_211_173 : decode m211.2.1 173 = .ok (.istore_n 1, 1) := by decide +kernel
theorem d_211_174 : decode m211.2.1 174 = .ok (.iload_n 1, 1) := by decide +kernel
theorem d_211_175 : decode m211.2.1 175 = .ok (.aload_n 0, 1) := by decide +kernel
theorem d_211_176 : decode m211.2.1 176 = .ok (.getfield 322, 3) := by decide +kernel
theorem d_211_179 : decode m211.2.1 179 = .ok (.if_icmp .ge 69, 3) := by decide +kernel
theorem d_211_182 : decode m211.2.1 182 = .ok (.aload_n 0, 1) := by decide +kernel
theorem d_211_183 : decode m211.2.1 183 = .ok (.getfield 63, 3) := by decide +kernel
theorem d_211_186 : decode m211.2.1 186 = .ok (.iload_n 1, 1) := by decide +kernel
theorem d_211_187 : decode m211.2.1 187 = .ok (.aload_n 0, 1) := by decide +kernel
theorem d_211_188 : decode m211.2.1 188 = .ok (.getfield 45, 3) := by decide +kernel
theorem d_211_191 : decode m211.2.1 191 = .ok (.iload_n 1, 1) := by decide +kernel
theorem d_211_192 : decode m211.2.1 192 = .ok (.iaload, 1) := by decide +kernel
theorem d_211_193 : decode m211.2.1 193 = .ok (.iastore, 1) := by decide +kernel
theorem d_211_194 : decode m211.2.1 194 = .ok (.aload_n 0, 1) := by decide +kernel
theorem d_211_195 : decode m211.2.1 195 = .ok (.getfield 66, 3) := by decide +kernel
theorem d_211_198 : decode m211.2.1 198 = .ok (.iload_n 1, 1) := by decide +kernel
theorem d_211_199 : decode m211.2.1 199 = .ok (.aload_n 0, 1) := by decide +kernel
theorem d_211_200 : decode m211.2.1 200 = .ok (.getfield 48, 3) := by decide +kernel
theorem d_211_203 : decode m211.2.1 203 = .ok (.iload_n 1, 1) := by decide +kernel
theorem d_211_204 : decode m211.2.1 204 = .ok (.iaload, 1) := by decide +kernel
theorem d_211_205 : decode m211.2.1 205 = .ok (.iastore, 1) := by decide +kernel
theorem d_211_206 : decode m211.2.1 206 = .ok (.aload_n 0, 1) := by decide +kernel
theorem d_211_207 : decode m211.2.1 207 = .ok (.getfield 69, 3) := by decide +kernel
theorem d_211_210 : decode m211.2.1 210 = .ok (.iload_n 1, 1) := by decide +kernel
theorem d_211_211 : decode m211.2.1 211 = .ok (.aload_n 0, 1) := by decide +kernel
theorem d_211_212 : decode m211.2.1 212 = .ok (.getfield 51, 3) := by decide +kernel
theorem d_211_215 : decode m211.2.1 215 = .ok (.iload_n 1, 1) := by decide +kernel
theorem d_211_216 : decode m211.2.1 216 = .ok (.iaload, 1) := by decide +kernel
theorem d_211_217 : decode m211.2.1 217 = .ok (.iastore, 1) := by decide +kernel
theorem d_211_218 : decode m211.2.1 218 = .ok (.aload_n 0, 1) := by decide +kernel
theorem d_211_219 : decode m211.2.1 219 = .ok (.getfield 72, 3) := by decide +kernel
theorem d_211_222 : decode m211.2.1 222 = .ok (.iload_n 1, 1) := by decide +kernel
theorem d_211_223 : decode m211.2.1 223 = .ok (.aload_n 0, 1) := by decide +kernel
theorem d_211_224 : decode m211.2.1 224 = .ok (.getfield 54, 3) := by decide +kernel
theorem d_211_227 : decode m211.2.1 227 = .ok (.iload_n 1, 1) := by decide +kernel
theorem d_211_228 : decode m211.2.1 228 = .ok (.iaload, 1) := by decide +kernel
theorem d_211_229 : decode m211.2.1 229 = .ok (.iastore, 1) := by decide +kernel
theorem d_211_230 : decode m211.2.1 230 = .ok (.aload_n 0, 1) := by decide +kernel
theorem d_211_231 : decode m211.2.1 231 = .ok (.getfield 75, 3) := by decide +kernel
theorem d_211_234 : decode m211.2.1 234 = .ok (.iload_n 1, 1) := by decide +kernel
theorem d_211_235 : decode m211.2.1 235 = .ok (.aload_n 0, 1) := by decide +kernel
theorem d_211_236 : decode m211.2.1 236 = .ok (.getfield 57, 3) := by decide +kernel
theorem d_211_239 : decode m211.2.1 239 = .ok (.iload_n 1, 1) := by decide +kernel
theorem d_211_240 : decode m211.2.1 240 = .ok (.iaload, 1) := by decide +kernel
theorem d_211_241 : decode m211.2.1 241 = .ok (.iastore, 1) := by decide +kernel
theorem d_211_242 : decode m211.2.1 242 = .ok (.iinc 1 1, 3) := by decide +kernel
theorem d_211_245 : decode m211.2.1 245 = .ok (.goto (-71), 3) := by decide +kernel
theorem d_211_248 : decode m211.2.1 248 = .ok (.aload_n 0, 1) := by decide +kernel
theorem d_211_249 : decode m211.2.1 249 = .ok (.invokevirtual 411, 3) := by decide +kernel
theorem d_211_252 : decode m211.2.1 252 = .ok (.aload_n 0, 1) := by decide +kernel
theorem d_211_253 : decode m211.2.1 253 = .ok (.invokevirtual 414, 3) := by decide +kernel
theorem d_211_256 : decode m211.2.1 256 = .ok (.aload_n 0, 1) := by decide +kernel
theorem d_211_257 : decode m211.2.1 257 = .ok (.iconst 0, 1) := by decide +kernel
theorem d_211_258 : decode m211.2.1 258 = .ok (.putfield 417, 3) := by decide +kernel
theorem d_211_261 : decode m211.2.1 261 = .ok (.aload_n 0, 1) := by decide +kernel
theorem d_211_262 : decode m211.2.1 262 = .ok (.iconst 0, 1) := by decide +kernel
theorem d_211_263 : decode m211.2.1 263 = .ok (.putfield 420, 3) := by decide +kernel
theorem d_211_266 : decode m211.2.1 266 = .ok (.aload_n 0, 1) := by decide +kernel
theorem d_211_267 : decode m211.2.1 267 = .ok (.iconst 0, 1) := by decide +kernel
theorem d_211_268 : decode m211.2.1 268 = .ok (.putfield 423, 3) := by decide +kernel
theorem d_211_271 : decode m211.2.1 271 = .ok (.aload_n 0, 1) := by decide +kernel
theorem d_211_272 : decode m211.2.1 272 = .ok (.iconst 0, 1) := by decide +kernel
theorem d_211_273 : decode m211.2.1 273 = .ok (.putfield 426, 3) := by decide +kernel
theorem d_211_276 : decode m211.2.1 276 = .ok (.iconst 0, 1) := by decide +kernel
theorem d_211_277 : decode m211.2.1 277 = .ok (.istore_n 1, 1) := by decide +kernel
theorem d_211_278 : decode m211.2.1 278 = .ok (.iload_n 1, 1) := by decide +kernel
theorem d_211_279 : decode m211.2.1 279 = .ok (.iconst 3, 1) := by decide +kernel
theorem d_211_280 : decode m211.2.1 280 = .ok (.if_icmp .ge 16, 3) := by decide +kernel
theorem d_211_283 : decode m211.2.1 283 = .ok (.aload_n 0, 1) := by decide +kernel
theorem d_211_284 : decode m211.2.1 284 = .ok (.getfield 139, 3) := by decide +kernel
theorem d_211_287 : decode m211.2.1 287 = .ok (.iload_n 1, 1) := by decide +kernel
theorem d_211_288 : decode m211.2.1 288 = .ok (.iconst 0, 1) := by decide +kernel
theorem d_211_289 : decode m211.2.1 289 = .ok (.bastore, 1) := by decide +kernel
theorem d_211_290 : decode m211.2.1 290 = .ok (.iinc 1 1, 3) := by decide +kernel
theorem d_211_293 : decode m211.2.1 293 = .ok (.goto (-15), 3) := by decide +kernel
theorem d_211_296 : decode m211.2.1 296 = .ok (.aload_n 0, 1) := by decide +kernel
theorem d_211_297 : decode m211.2.1 297 = .ok (.getfield 322, 3) := by decide +kernel
theorem d_211_300 : decode m211.2.1 300 = .ok (.ireturn, 1) := by decide +kernel
theorem d_212_0 : decode m212.2.1 0 = .ok (.aload_n 0, 1) := by decide +kernel
theorem d_212_1 : decode m212.2.1 1 = .ok (.aload_n 0, 1) := by decide +kernel
theorem d_212_2 : decode m212.2.1 2 = .ok (.getfield 145, 3) := by decide +kernel
theorem d_212_5 : decode m212.2.1 5 = .ok (.putfield 155, 3) := by decide +kernel
theorem d_212_8 : decode m212.2.1 8 = .ok (.aload_n 0, 1) := by decide +kernel
theorem d_212_9 : decode m212.2.1 9 = .ok (.iconst 0, 1) := by decide +kernel
theorem d_212_10 : decode m212.2.1 10 = .ok (.putfield 145, 3) := by decide +kernel
theorem d_212_13 : decode m212.2.1 13 = .ok (.aload_n 0, 1) := by decide +kernel
theorem d_212_14 : decode m212.2.1 14 = .ok (.iconst 0, 1) := by decide +kernel
theorem d_212_15 : decode m212.2.1 15 = .ok (.putfield 152, 3) := by decide +kernel
theorem d_212_18 : decode m212.2.1 18 = .ok (.aload_n 0, 1) := by decide +kernel
theorem d_212_19 : decode m212.2.1 19 = .ok (.iconst 0, 1) := by decide +kernel
theorem d_212_20 : decode m212.2.1 20 = .ok (.putfield 185, 3) := by decide +kernel
theorem d_212_23 : decode m212.2.1 23 = .ok (.aload_n 0, 1) := by decide +kernel
theorem d_212_24 : decode m212.2.1 24 = .ok (.iconst (-1), 1) := by decide +kernel
theorem d_212_25 : decode m212.2.1 25 = .ok (.putfield 13, 3) := by decide +kernel
theorem d_212_28 : decode m212.2.1 28 = .ok (.aload_n 0, 1) := by decide +kernel
theorem d_212_29 : decode m212.2.1 29 = .ok (.bipush 12, 2) := by decide +kernel
theorem d_212_31 : decode m212.2.1 31 = .ok (.putfield 356, 3) := by decide +kernel
theorem d_212_34 : decode m212.2.1 34 = .ok (.aload_n 0, 1) := by decide +kernel
theorem d_212_35 : decode m212.2.1 35 = .ok (.iconst 0, 1) := by decide +kernel
theorem d_212_36 : decode m212.2.1 36 = .ok (.putfield 258, 3) := by decide +kernel
theorem d_212_39 : decode m212.2.1 39 = .ok (.aload_n 0, 1) := by decide +kernel
theorem d_212_40 : decode m212.2.1 40 = .ok (.iconst 0, 1) := by decide +kernel
theorem d_212_41 : decode m212.2.1 41 = .ok (.putfield 350, 3) := by decide +kernel
theorem d_212_44 : decode m212.2.1 44 = .ok (.aload_n 0, 1) := by decide +kernel
theorem d_212_45 : decode m212.2.1 45 = .ok (.bipush 12, 2) := by decide +kernel
theorem d_212_47 : decode m212.2.1 47 = .ok (.putfield 378, 3) := by decide +kernel
theorem d_212_50 : decode m212.2.1 50 = .ok (.aload_n 0, 1) := by decide +kernel
theorem d_212_51 : decode m212.2.1 51 = .ok (.iconst 5, 1) := by decide +kernel
theorem d_212_52 : decode m212.2.1 52 = .ok (.putfield 384, 3) := by decide +kernel
theorem d_212_55 : decode m212.2.1 55 = .ok (.aload_n 0, 1) := by decide +kernel
theorem d_212_56 : decode m212.2.1 56 = .ok (.bipush 20, 2) := by decide +kernel
theorem d_212_58 : decode m212.2.1 58 = .ok (.putfield 390, 3) := by decide +kernel
theorem d_212_61 : decode m212.2.1 61 = .ok (.aload_n 0, 1) := by decide +kernel
theorem d_212_62 : decode m212.2.1 62 = .ok (.iconst 2, 1) := by decide +kernel
theorem d_212_63 : decode m212.2.1 63 = .ok (.putfield 396, 3) := by decide +kernel
theorem d_212_66 : decode m212.2.1 66 = .ok (.aload_n 0, 1) := by decide +kernel
theorem d_212_67 : decode m212.2.1 67 = .ok (.iconst 0, 1) := by decide +kernel
theorem d_212_68 : decode m212.2.1 68 = .ok (.putfield 363, 3) := by decide +kernel
theorem d_212_71 : decode m212.2.1 71 = .ok (.aload_n 0, 1) := by decide +kernel
theorem d_212_72 : decode m212.2.1 72 = .ok (.iconst 0, 1) := by decide +kernel
theorem d_212_73 : decode m212.2.1 73 = .ok (.putfield 375, 3) := by decide +kernel
theorem d_212_76 : decode m212.2.1 76 = .ok (.aload_n 0, 1) := by decide +kernel
theorem d_212_77 : decode m212.2.1 77 = .ok (.iconst 0, 1) := by decide +kernel
theorem d_212_78 : decode m212.2.1 78 = .ok (.putfield 381, 3) := by decide +kernel
theorem d_212_81 : decode m212.2.1 81 = .ok (.aload_n 0, 1) := by decide +kernel
theorem d_212_82 : decode m212.2.1 82 = .ok (.iconst 0, 1) := by decide +kernel
theorem d_212_83 : decode m212.2.1 83 = .ok (.putfield 387, 3) := by decide +kernel
theorem d_212_86 : decode m212.2.1 86 = .ok (.aload_n 0, 1) := by decide +kernel
theorem d_212_87 : decode m212.2.1 87 = .ok (.iconst 0, 1) := by decide +kernel
theorem d_212_88 : decode m212.2.1 88 = .ok (.putfield 393, 3) := by decide +kernel
theorem d_212_91 : decode m212.2.1 91 = .ok (.aload_n 0, 1) := by decide +kernel
theorem d_212_92 : decode m212.2.1 92 = .ok (.iconst 0, 1) := by decide +kernel
theorem d_212_93 : decode m212.2.1 93 = .ok (.putfield 299, 3) := by decide +kernel
theorem d_212_96 : decode m212.2.1 96 = .ok (.aload_n 0, 1) := by decide +kernel
theorem d_212_97 : decode m212.2.1 97 = .ok (.iconst 0, 1) := by decide +kernel
theorem d_212_98 : decode m212.2.1 98 = .ok (.putfield 277, 3) := by decide +kernel
theorem d_212_101 : decode m212.2.1 101 = .ok (.aload_n 0, 1) := by decide +kernel
theorem d_212_102 : decode m212.2.1 102 = .ok (.invokevirtual 241, 3) := by decide +kernel
theorem d_212_105 : decode m212.2.1 105 = .ok (.aload_n 0, 1) := by decide +kernel
theorem d_212_106 : decode m212.2.1 106 = .ok (.getfield 185, 3) := by decide +kernel
theorem d_212_109 : decode m212.2.1 109 = .ok (.ifCond .ne 17, 3) := by decide +kernel
theorem d_212_112 : decode m212.2.1 112 = .ok (.aload_n 0, 1) := by decide +kernel
theorem d_212_113 : decode m212.2.1 113 = .ok (.getfield 172, 3) := by decide +kernel
theorem d_212_116 : decode m212.2.1 116 = .ok (.ifCond .eq 10, 3) := by decide +kernel
theorem d_212_119 : decode m212.2.1 119 = .ok (.aload_n 0, 1) := by decide +kernel
theorem d_212_120 : decode m212.2.1 120 = .ok (.invokevirtual 399, 3) := by decide +kernel
theorem d_212_123 : decode m212.2.1 123 = .ok (.goto (-18), 3) := by decide +kernel
theorem d_212_126 : decode m212.2.1 126 = .ok (.return_, 1) := by decide +kernel
theorem d_213_0 : decode m213.2.1 0 = .ok (.aload_n 0, 1) := by decide +kernel
theorem d_213_1 : decode m213.2.1 1 = .ok (.iconst 0, 1) := by decide +kernel
theorem d_213_2 : decode m213.2.1 2 = .ok (.invokevirtual 158, 3) := by decide +kernel
theorem d_213_5 : decode m213.2.1 5 = .ok (.bipush 32, 2) := by decide +kernel
theorem d_213_7 : decode m213.2.1 7 = .ok (.if_icmp .eq 13, 3) := by decide +kernel
theorem d_213_10 : decode m213.2.1 10 = .ok (.aload_n 0, 1) := by decide +kernel
theorem d_213_11 : decode m213.2.1 11 = .ok (.iconst 0, 1) := by decide +kernel
theorem d_213_12 : decode m213.2.1 12 = .ok (.invokevirtual 158, 3) := by decide +kernel
theorem d_213_15 : decode m213.2.1 15 = .ok (.bipush 10, 2) := by decide +kernel
theorem d_213_17 : decode m213.2.1 17 = .ok (.if_icmp .ne 16, 3) := by decide +kernel
theorem d_213_20 : decode m213.2.1 20 = .ok (.aload_n 0, 1) := by decide +kernel
theorem d_213_21 : decode m213.2.1 21 = .ok (.dup, 1) := by decide +kernel
theorem d_213_22 : decode m213.2.1 22 = .ok (.getfield 152, 3) := by decide +kernel
theorem d_213_25 : decode m213.2.1 25 = .ok (.iconst 1, 1) := by decide +kernel
theorem d_213_26 : decode m213.2.1 26 = .ok (.iadd, 1) := by decide +kernel
theorem d_213_27 : decode m213.2.1 27 = .ok (.putfield 152, 3) := by decide +kernel
theorem d_213_30 : decode m213.2.1 30 = .ok (.goto (-30), 3) := by decide +kernel
theorem d_213_33 : decode m213.2.1 33 = .ok (.aload_n 0, 1) := by decide +kernel
theorem d_213_34 : decode m213.2.1 34 = .ok (.aload_n 0, 1) := by decide +kernel
theorem d_213_35 : decode m213.2.1 35 = .ok (.getfield 152, 3) := by decide +kernel
theorem d_213_38 : decode m213.2.1 38 = .ok (.putfield 162, 3) := by decide +kernel
theorem d_213_41 : decode m213.2.1 41 = .ok (.aload_n 0, 1) := by decide +kernel
theorem d_213_42 : decode m213.2.1 42 = .ok (.iconst 0, 1) := by decide +kernel
theorem d_213_43 : decode m213.2.1 43 = .ok (.invokevirtual 158, 3) := by decide +kernel
theorem d_213_46 : decode m213.2.1 46 = .ok (.istore_n 1, 1) := by decide +kernel
theorem d_213_47 : decode m213.2.1 47 = .ok (.iconst 0, 1) := by decide +kernel
theorem d_213_48 : decode m213.2.1 48 = .ok (.istore_n 2, 1) := by decide +kernel
theorem d_213_49 : decode m213.2.1 49 = .ok (.aload_n 0, 1) := by decide +kernel
theorem d_213_50 : decode m213.2.1 50 = .ok (.lconst 0, 1) := by decide +kernel
theorem d_213_51 : decode m213.2.1 51 = .ok (.putfield 165, 3) := by decide +kernel
theorem d_213_54 : decode m213.2.1 54 = .ok (.aload_n 0, 1) := by decide +kernel
theorem d_213_55 : decode m213.2.1 55 = .ok (.iconst 0, 1) := by decide +kernel
theorem d_213_56 : decode m213.2.1 56 = .ok (.putfield 169, 3) := by decide +kernel
theorem d_213_59 : decode m213.2.1 59 = .ok (.iload_n 1, 1) := by decide +kernel
theorem d_213_60 : decode m213.2.1 60 = .ok (.ifCond .ge 11, 3) := by decide +kernel
theorem d_213_63 : decode m213.2.1 63 = .ok (.aload_n 0, 1) := by decide +kernel
theorem d_213_64 : decode m213.2.1 64 = .ok (.iconst 0, 1) := by decide +kernel
theorem d_213_65 : decode m213.2.1 65 = .ok (.putfield 172, 3) := by decide +kernel
theorem d_213_68 : decode m213.2.1 68 = .ok (.goto 164, 3) := by decide +kernel
theorem d_213_71 : decode m213.2.1 71 = .ok (.iload_n 1, 1) := by decide +kernel
theorem d_213_72 : decode m213.2.1 72 = .ok (.invokestatic 175, 3) := by decide +kernel
theorem d_213_75 : decode m213.2.1 75 = .ok (.ifCond .eq 62, 3) := by decide +kernel
theorem d_213_78 : decode m213.2.1 78 = .ok (.aload_n 0, 1) := by decide +kernel
theorem d_213_79 : decode m213.2.1 79 = .ok (.iload_n 2, 1) := by decide +kernel
theorem d_213_80 : decode m213.2.1 80 = .ok (.invokevirtual 158, 3) := by decide +kernel
theorem d_213_83 : decode m213.2.1 83 = .ok (.invokestatic 175, 3) := by decide +kernel
theorem d_213_86 : decode m213.2.1 86 = .ok (.ifCond .eq 33, 3) := by decide +kernel
theorem d_213_89 : decode m213.2.1 89 = .ok (.iload_n 2, 1) := by decide +kernel
theorem d_213_90 : decode m213.2.1 90 = .ok (.bipush 8, 2) := by decide +kernel
theorem d_213_92 : decode m213.2.1 92 = .ok (.if_icmp .ge 21, 3) := by decide +kernel
theorem d_213_95 : decode m213.2.1 95 = .ok (.aload_n 0, 1) := by decide +kernel
theorem d_213_96 : decode m213.2.1 96 = .ok (.aload_n 0, 1) := by decide +kernel
theorem d_213_97 : decode m213.2.1 97 = .ok (.getfield 165, 3) := by decide +kernel
theorem d_213_100 : decode m213.2.1 100 = .ok (.bipush 8, 2) := by decide +kernel
theorem d_213_102 : decode m213.2.1 102 = .ok (.lshl, 1) := by decide +kernel
theorem d_213_103 : decode m213.2.1 103 = .ok (.aload_n 0, 1) := by decide +kernel
theorem d_213_104 : decode m213.2.1 104 = .ok (.iload_n 2, 1) := by decide +kernel
theorem d_213_105 : decode m213.2.1 105 = .ok (.invokevirtual 158, 3) := by decide +kernel
theorem d_213_108 : decode m213.2.1 108 = .ok (.i2l, 1) := by decide +kernel
theorem d_213_109 : decode m213.2.1 109 = .ok (.lor, 1) := by decide +kernel
theorem d_213_110 : decode m213.2.1 110 = .ok (.putfield 165, 3) := by decide +kernel
theorem d_213_113 : decode m213.2.1 113 = .ok (.iinc 2 1, 3) := by decide +kernel
theorem d_213_116 : decode m213.2.1 116 = .ok (.goto (-38), 3) := by decide +kernel
theorem d_213_119 : decode m213.2.1 119 = .ok (.aload_n 0, 1) := by decide +kernel
theorem d_213_120 : decode m213.2.1 120 = .ok (.iload_n 2, 1) := by decide +kernel
theorem d_213_121 : decode m213.2.1 121 = .ok (.bipush 8, 2) := by decide +kernel
theorem d_213_123 : decode m213.2.1 123 = .ok (.if_icmp .le 7, 3) := by decide +kernel
theorem d_213_126 : decode m213.2.1 126 = .ok (.iconst 3, 1) := by decide +kernel
theorem d_213_127 : decode m213.2.1 127 = .ok (.goto 4, 3) := by decide +kernel
theorem d_213_130 : decode m213.2.1 130 = .ok (.iconst 1, 1) := by decide +kernel
theorem d_213_131 : decode m213.2.1 131 = .ok (.putfield 172, 3) := by decide +kernel
theorem d_213_134 : decode m213.2.1 134 = .ok (.goto 98, 3) := by decide +kernel
theorem d_213_137 : decode m213.2.1 137 = .ok (.iload_n 1, 1) := by decide +kernel
theorem d_213_138 : decode m213.2.1 138 = .ok (.invokestatic 179, 3) := by decide +kernel
theorem d_213_141 : decode m213.2.1 141 = .ok (.ifCond .eq 73, 3) := by decide +kernel
theorem d_213_144 : decode m213.2.1 144 = .ok (.aload_n 0, 1) := by decide +kernel
theorem d_213_145 : decode m213.2.1 145 = .ok (.iload_n 2, 1) := by decide +kernel
theorem d_213_146 : decode m213.2.1 146 = .ok (.invokevirtual 158, 3) := by decide +kernel
theorem d_213_149 : decode m213.2.1 149 = .ok (.invokestatic 179, 3) := by decide +kernel
theorem d_213_152 : decode m213.2.1 152 = .ok (.ifCond .eq 34, 3) := by decide +kernel
theorem d_213_155 : decode m213.2.1 155 = .ok (.iload_n 2, 1) := by decide +kernel
theorem d_213_156 : decode m213.2.1 156 = .ok (.iconst 4, 1) := by decide +kernel
theorem d_213_157 : decode m213.2.1 157 = .ok (.if_icmp .ge 23, 3) := by decide +kernel
theorem d_213_160 : decode m213.2.1 160 = .ok (.aload_n 0, 1) := by decide +kernel
theorem d_213_161 : decode m213.2.1 161 = .ok (.bipush 10, 2) := by decide +kernel
theorem d_213_163 : decode m213.2.1 163 = .ok (.aload_n 0, 1) := by decide +kernel
theorem d_213_164 : decode m213.2.1 164 = .ok (.getfield 169, 3) := by decide +kernel
theorem d_213_167 : decode m213.2.1 167 = .ok (.imul, 1) := by decide +kernel
theorem d_213_168 : decode m213.2.1 168 = .ok (.aload_n 0, 1) := by decide +kernel
theorem d_213_169 : decode m213.2.1 169 = .ok (.iload_n 2, 1) := by decide +kernel
theorem d_213_170 : decode m213.2.1 170 = .ok (.invokevirtual 158, 3) := by decide +kernel
theorem d_213_173 : decode m213.2.1 173 = .ok (.iadd, 1) := by decide +kernel
theorem d_213_174 : decode m213.2.1 174 = .ok (.bipush 48, 2) := by decide +kernel
theorem d_213_176 : decode m213.2.1 176 = .ok (.isub, 1) := by decide +kernel
theorem d_213_177 : decode m213.2.1 177 = .ok (.putfield 169, 3) := by decide +kernel
theorem d_213_180 : decode m213.2.1 180 = .ok (.iinc 2 1, 3) := by decide +kernel
theorem d_213_183 : decode m213.2.1 183 = .ok (.goto (-39), 3) := by decide +kernel
theorem d_213_186 : decode m213.2.1 186 = .ok (.aload_n 0, 1) := by decide +kernel
theorem d_213_187 : decode m213.2.1 187 = .ok (.iload_n 2, 1) := by decide +kernel
theorem d_213_188 : decode m213.2.1 188 = .ok (.iconst 4, 1) := by decide +kernel
theorem d_213_189 : decode m213.2.1 189 = .ok (.if_icmp .gt 14, 3) := by decide +kernel
theorem d_213_192 : decode m213.2.1 192 = .ok (.aload_n 0, 1) := by decide +kernel
theorem d_213_193 : decode m213.2.1 193 = .ok (.iload_n 2, 1) := by decide +kernel
theorem d_213_194 : decode m213.2.1 194 = .ok (.invokevirtual 158, 3) := by decide +kernel
theorem d_213_197 : decode m213.2.1 197 = .ok (.invokestatic 175, 3) := by decide +kernel
theorem d_213_200 : decode m213.2.1 200 = .ok (.ifCond .eq 7, 3) := by decide +kernel
theorem d_213_203 : decode m213.2.1 203 = .ok (.iconst 3, 1) := by decide +kernel
theorem d_213_204 : decode m213.2.1 204 = .ok (.goto 4, 3) := by decide +kernel
theorem d_213_207 : decode m213.2.1 207 = .ok (.iconst 2, 1) := by decide +kernel
theorem d_213_208 : decode m213.2.1 208 = .ok (.putfield 172, 3) := by decide +kernel
theorem d_213_211 : decode m213.2.1 211 = .ok (.goto 21, 3) := by decide +kernel
theorem d_213_214 : decode m213.2.1 214 = .ok (.iconst 1, 1) := by decide +kernel
theorem d_213_215 : decode m213.2.1 215 = .ok (.istore_n 2, 1) := by decide +kernel
theorem d_213_216 : decode m213.2.1 216 = .ok (.aload_n 0, 1) := by decide +kernel
theorem d_213_217 : decode m213.2.1 217 = .ok (.iload_n 1, 1) := by decide +kernel
theorem d_213_218 : decode m213.2.1 218 = .ok (.invokestatic 182, 3) := by decide +kernel
theorem d_213_221 : decode m213.2.1 221 = .ok (.ifCond .eq 7, 3) := by decide +kernel
theorem d_213_224 : decode m213.2.1 224 = .ok (.iload_n 1, 1) := by decide +kernel
theorem d_213_225 : decode m213.2.1 225 = .ok (.goto 4, 3) := by decide +kernel
theorem d_213_228 : decode m213.2.1 228 = .ok (.iconst 3, 1) := by decide +kernel
theorem d_213_229 : decode m213.2.1 229 = .ok (.putfield 172, 3) := by decide +kernel
theorem d_213_232 : decode m213.2.1 232 = .ok (.aload_n 0, 1) := by decide +kernel
theorem d_213_233 : decode m213.2.1 233 = .ok (.getfield 172, 3) := by decide +kernel
theorem d_213_236 : decode m213.2.1 236 = .ok (.iconst 3, 1) := by decide +kernel
theorem d_213_237 : decode m213.2.1 237 = .ok (.if_icmp .eq 13, 3) := by decide +kernel
theorem d_213_240 : decode m213.2.1 240 = .ok (.aload_n 0, 1) := by decide +kernel
theorem d_213_241 : decode m213.2.1 241 = .ok (.dup, 1) := by decide +kernel
theorem d_213_242 : decode m213.2.1 242 = .ok (.getfield 152, 3) := by decide +kernel
theorem d_213_245 : decode m213.2.1 245 = .ok (.iload_n 2, 1) := by decide +kernel
theorem d_213_246 : decode m213.2.1 246 = .ok (.iadd, 1) := by decide +kernel
theorem d_213_247 : decode m213.2.1 247 = .ok (.putfield 152, 3) := by decide +kernel
theorem d_213_250 : decode m213.2.1 250 = .ok (.return_, 1) := by decide +kernel
theorem d_214_0 : decode m214.2.1 0 = .ok (.aload_n 0, 1) := by decide +kernel
theorem d_214_1 : decode m214.2.1 1 = .ok (.getfield 152, 3) := by decide +kernel
theorem d_214_4 : decode m214.2.1 4 = .ok (.iload_n 1, 1) := by decide +kernel
theorem d_214_5 : decode m214.2.1 5 = .ok (.iadd, 1) := by decide +kernel
theorem d_214_6 : decode m214.2.1 6 = .ok (.aload_n 0, 1) := by decide +kernel
theorem d_214_7 : decode m214.2.1 7 = .ok (.getfield 155, 3) := by decide +kernel
theorem d_214_10 : decode m214.2.1 10 = .ok (.if_icmp .ge 17, 3) := by decide +kernel
theorem d_214_13 : decode m214.2.1 13 = .ok (.aload_n 0, 1) := by decide +kernel
theorem d_214_14 : decode m214.2.1 14 = .ok (.getfield 7, 3) := by decide +kernel
theorem d_214_17 : decode m214.2.1 17 = .ok (.aload_n 0, 1) := by decide +kernel
theorem d_214_18 : decode m214.2.1 18 = .ok (.getfield 152, 3) := by decide +kernel
theorem d_214_21 : decode m214.2.1 21 = .ok (.iload_n 1, 1) := by decide +kernel
theorem d_214_22 : decode m214.2.1 22 = .ok (.iadd, 1) := by decide +kernel
theorem d_214_23 : decode m214.2.1 23 = .ok (.iaload, 1) := by decide +kernel
theorem d_214_24 : decode m214.2.1 24 = .ok (.goto 4, 3) := by decide +kernel
theorem d_214_27 : decode m214.2.1 27 = .ok (.iconst (-1), 1) := by decide +kernel
theorem d_214_28 : decode m214.2.1 28 = .ok (.ireturn, 1) := by decide +kernel
theorem d_215_0 : decode m215.2.1 0 = .ok (.iload_n 0, 1) := by decide +kernel
theorem d_215_1 : decode m215.2.1 1 = .ok (.bipush 97, 2) := by decide +kernel
theorem d_215_3 : decode m215.2.1 3 = .ok (.if_icmp .lt 13, 3) := by decide +kernel
theorem d_215_6 : decode m215.2.1 6 = .ok (.iload_n 0, 1) := by decide +kernel
theorem d_215_7 : decode m215.2.1 7 = .ok (.bipush 122, 2) := by decide +kernel
theorem d_215_9 : decode m215.2.1 9 = .ok (.if_icmp .gt 7, 3) := by decide +kernel
theorem d_215_12 : decode m215.2.1 12 = .ok (.iconst 1, 1) := by decide +kernel
theorem d_215_13 : decode m215.2.1 13 = .ok (.goto 4, 3) := by decide +kernel
theorem d_215_16 : decode m215.2.1 16 = .ok (.iconst 0, 1) := by decide +kernel
theorem d_215_17 : decode m215.2.1 17 = .ok (.ireturn, 1) := by decide +kernel
theorem d_216_0 : decode m216.2.1 0 = .ok (.iload_n 0, 1) := by decide +kernel
theorem d_216_1 : decode m216.2.1 1 = .ok (.bipush 48, 2) := by decide +kernel
theorem d_216_3 : decode m216.2.1 3 = .ok (.if_icmp .lt 13, 3) := by decide +kernel
theorem d_216_6 : decode m216.2.1 6 = .ok (.iload_n 0, 1) := by decide +kernel
theorem d_216_7 : decode m216.2.1 7 = .ok (.bipush 57, 2) := by decide +kernel
theorem d_216_9 : decode m216.2.1 9 = .ok (.if_icmp .gt 7, 3) := by decide +kernel
theorem d_216_12 : decode m216.2.1 12 = .ok (.iconst 1, 1) := by decide +kernel
theorem d_216_13 : decode m216.2.1 13 = .ok (.goto 4, 3) := by decide +kernel
theorem d_216_16 : decode m216.2.1 16 = .ok (.iconst 0, 1) := by decide +kernel
theorem d_216_17 : decode m216.2.1 17 = .ok (.ireturn, 1) := by decide +kernel
theorem d_217_0 : decode m217.2.1 0 = .ok (.iload_n 0, 1) := by decide +kernel
theorem d_217_1 : decode m217.2.1 1 = .ok (.bipush 59, 2) := by decide +kernel
theorem d_217_3 : decode m217.2.1 3 = .ok (.if_icmp .eq 63, 3) := by decide +kernel
theorem d_217_6 : decode m217.2.1 6 = .ok (.iload_n 0, 1) := by decide +kernel
theorem d_217_7 : decode m217.2.1 7 = .ok (.bipush 40, 2) := by decide +kernel
theorem d_217_9 : decode m217.2.1 9 = .ok (.if_icmp .eq 57, 3) := by decide +kernel
theorem d_217_12 : decode m217.2.1 12 = .ok (.iload_n 0, 1) := by decide +kernel
theorem d_217_13 : decode m217.2.1 13 = .ok (.bipush 41, 2) := by decide +kernel
theorem d_217_15 : decode m217.2.1 15 = .ok (.if_icmp .eq 51, 3) := by decide +kernel
theorem d_217_18 : decode m217.2.1 18 = .ok (.iload_n 0, 1) := by decide +kernel
theorem d_217_19 : decode m217.2.1 19 = .ok (.bipush 60, 2) := by decide +kernel
theorem d_217_21 : decode m217.2.1 21 = .ok (.if_icmp .eq 45, 3) := by decide +kernel
theorem d_217_24 : decode m217.2.1 24 = .ok (.iload_n 0, 1) := by decide +kernel
theorem d_217_25 : decode m217.2.1 25 = .ok (.bipush 62, 2) := by decide +kernel
theorem d_217_27 : decode m217.2.1 27 = .ok (.if_icmp .eq 39, 3) := by decide +kernel
theorem d_217_30 : decode m217.2.1 30 = .ok (.iload_n 0, 1) := by decide +kernel
theorem d_217_31 : decode m217.2.1 31 = .ok (.bipush 61, 2) := by decide +kernel
theorem d_217_33 : decode m217.2.1 33 = .ok (.if_icmp .eq 33, 3) := by decide +kernel
theorem d_217_36 : decode m217.2.1 36 = .ok (.iload_n 0, 1) := by decide +kernel
theorem d_217_37 : decode m217.2.1 37 = .ok (.bipush 43, 2) := by decide +kernel
theorem d_217_39 : decode m217.2.1 39 = .ok (.if_icmp .eq 27, 3) := by decide +kernel
theorem d_217_42 : decode m217.2.1 42 = .ok (.iload_n 0, 1) := by decide +kernel
theorem d_217_43 : decode m217.2.1 43 = .ok (.bipush 45, 2) := by decide +kernel
theorem d_217_45 : decode m217.2.1 45 = .ok (.if_icmp .eq 21, 3) := by decide +kernel
theorem d_217_48 : decode m217.2.1 48 = .ok (.iload_n 0, 1) := by decide +kernel
theorem d_217_49 : decode m217.2.1 49 = .ok (.bipush 42, 2) := by decide +kernel
theorem d_217_51 : decode m217.2.1 51 = .ok (.if_icmp .eq 15, 3) := by decide +kernel
theorem d_217_54 : decode m217.2.1 54 = .ok (.iload_n 0, 1) := by decide +kernel
theorem d_217_55 : decode m217.2.1 55 = .ok (.bipush 47, 2) := by decide +kernel
theorem d_217_57 : decode m217.2.1 57 = .ok (.if_icmp .eq 9, 3) := by decide +kernel
theorem d_217_60 : decode m217.2.1 60 = .ok (.iload_n 0, 1) := by decide +kernel
theorem d_217_61 : decode m217.2.1 61 = .ok (.bipush 37, 2) := by decide +kernel
theorem d_217_63 : decode m217.2.1 63 = .ok (.if_icmp .ne 7, 3) := by decide +kernel
theorem d_217_66 : decode m217.2.1 66 = .ok (.iconst 1, 1) := by decide +kernel
theorem d_217_67 : decode m217.2.1 67 = .ok (.goto 4, 3) := by decide +kernel
theorem d_217_70 : decode m217.2.1 70 = .ok (.iconst 0, 1) := by decide +kernel
theorem d_217_71 : decode m217.2.1 71 = .ok (.ireturn, 1) := by decide +kernel
theorem d_218_0 : decode m218.2.1 0 = .ok (.aload_n 0, 1) := by decide +kernel
theorem d_218_1 : decode m218.2.1 1 = .ok (.ldc2_w 188, 3) := by decide +kernel
theorem d_218_4 : decode m218.2.1 4 = .ok (.invokevirtual 234, 3) := by decide +kernel
theorem d_218_7 : decode m218.2.1 7 = .ok (.ifCond .eq 27, 3) := by decide +kernel
theorem d_218_10 : decode m218.2.1 10 = .ok (.aload_n 0, 1) := by decide +kernel
theorem d_218_11 : decode m218.2.1 11 = .ok (.getfield 363, 3) := by decide +kernel
theorem d_218_14 : decode m218.2.1 14 = .ok (.ifCond .ne 20, 3) := by decide +kernel
theorem d_218_17 : decode m218.2.1 17 = .ok (.aload_n 0, 1) := by decide +kernel
theorem d_218_18 : decode m218.2.1 18 = .ok (.aload_n 0, 1) := by decide +kernel
theorem d_218_19 : decode m218.2.1 19 = .ok (.ldc2_w 188, 3) := by decide +kernel
theorem d_218_22 : decode m218.2.1 22 = .ok (.iconst 1, 1) := by decide +kernel
theorem d_218_23 : decode m218.2.1 23 = .ok (.bipush 12, 2) := by decide +kernel
theorem d_218_25 : decode m218.2.1 25 = .ok (.invokevirtual 359, 3) := by decide +kernel
theorem d_218_28 : decode m218.2.1 28 = .ok (.putfield 356, 3) := by decide +kernel
theorem d_218_31 : decode m218.2.1 31 = .ok (.goto 238, 3) := by decide +kernel
theorem d_218_34 : decode m218.2.1 34 = .ok (.aload_n 0, 1) := by decide +kernel
theorem d_218_35 : decode m218.2.1 35 = .ok (.ldc2_w 190, 3) := by decide +kernel
theorem d_218_38 : decode m218.2.1 38 = .ok (.invokevirtual 234, 3) := by decide +kernel
theorem d_218_41 : decode m218.2.1 41 = .ok (.ifCond .eq 18, 3) := by decide +kernel
theorem d_218_44 : decode m218.2.1 44 = .ok (.aload_n 0, 1) := by decide +kernel
theorem d_218_45 : decode m218.2.1 45 = .ok (.getfield 258, 3) := by decide +kernel
theorem d_218_48 : decode m218.2.1 48 = .ok (.iconst 4, 1) := by decide +kernel
theorem d_218_49 : decode m218.2.1 49 = .ok (.if_icmp .ge 10, 3) := by decide +kernel
theorem d_218_52 : decode m218.2.1 52 = .ok (.aload_n 0, 1) := by decide +kernel
theorem d_218_53 : decode m218.2.1 53 = .ok (.invokevirtual 366, 3) := by decide +kernel
theorem d_218_56 : decode m218.2.1 56 = .ok (.goto 213, 3) := by decide +kernel
theorem d_218_59 : decode m218.2.1 59 = .ok (.aload_n 0, 1) := by decide +kernel
theorem d_218_60 : decode m218.2.1 60 = .ok (.ldc2_w 196, 3) := by decide +kernel
theorem d_218_63 : decode m218.2.1 63 = .ok (.invokevirtual 234, 3) := by decide +kernel
theorem d_218_66 : decode m218.2.1 66 = .ok (.ifCond .eq 19, 3) := by decide +kernel
theorem d_218_69 : decode m218.2.1 69 = .ok (.aload_n 0, 1) := by decide +kernel
theorem d_218_70 : decode m218.2.1 70 = .ok (.getfield 350, 3) := by decide +kernel
theorem d_218_73 : decode m218.2.1 73 = .ok (.bipush 10, 2) := by decide +kernel
theorem d_218_75 : decode m218.2.1 75 = .ok (.if_icmp .ge 10, 3) := by decide +kernel
theorem d_218_78 : decode m218.2.1 78 = .ok (.aload_n 0, 1) := by decide +kernel
theorem d_218_79 : decode m218.2.1 79 = .ok (.invokevirtual 369, 3) := by decide +kernel
theorem d_218_82 : decode m218.2.1 82 = .ok (.goto 187, 3) := by decide +kernel
theorem d_218_85 : decode m218.2.1 85 = .ok (.aload_n 0, 1) := by decide +kernel
theorem d_218_86 : decode m218.2.1 86 = .ok (.ldc2_w 208, 3) := by decide +kernel
theorem d_218_89 : decode m218.2.1 89 = .ok (.invokevirtual 234, 3) := by decide +kernel
theorem d_218_92 : decode m218.2.1 92 = .ok (.ifCond .eq 17, 3) := by decide +kernel
theorem d_218_95 : decode m218.2.1 95 = .ok (.aload_n 0, 1) := by decide +kernel
theorem d_218_96 : decode m218.2.1 96 = .ok (.getfield 299, 3) := by decide +kernel
theorem d_218_99 : decode m218.2.1 99 = .ok (.ifCond .ne 10, 3) := by decide +kernel
theorem d_218_102 : decode m218.2.1 102 = .ok (.aload_n 0, 1) := by decide +kernel
theorem d_218_103 : decode m218.2.1 103 = .ok (.invokevirtual 372, 3) := by decide +kernel
theorem d_218_106 : decode m218.2.1 106 = .ok (.goto 163, 3) := by decide +kernel
theorem d_218_109 : decode m218.2.1 109 = .ok (.aload_n 0, 1) := by decide +kernel
theorem d_218_110 : decode m218.2.1 110 = .ok (.ldc2_w 210, 3) := by decide +kernel
theorem d_218_113 : decode m218.2.1 113 = .ok (.invokevirtual 234, 3) := by decide +kernel
theorem d_218_116 : decode m218.2.1 116 = .ok (.ifCond .eq 32, 3) := by decide +kernel
theorem d_218_119 : decode m218.2.1 119 = .ok (.aload_n 0, 1) := by decide +kernel
theorem d_218_120 : decode m218.2.1 120 = .ok (.getfield 375, 3) := by decide +kernel
theorem d_218_123 : decode m218.2.1 123 = .ok (.ifCond .ne 25, 3) := by decide +kernel
theorem d_218_126 : decode m218.2.1 126 = .ok (.aload_n 0, 1) := by decide +kernel
theorem d_218_127 : decode m218.2.1 127 = .ok (.iconst 1, 1) := by decide +kernel
theorem d_218_128 : decode m218.2.1 128 = .ok (.putfield 375, 3) := by decide +kernel
theorem d_218_131 : decode m218.2.1 131 = .ok (.aload_n 0, 1) := by decide +kernel
theorem d_218_132 : decode m218.2.1 132 = .ok (.aload_n 0, 1) := by decide +kernel
theorem d_218_133 : decode m218.2.1 133 = .ok (.ldc2_w 210, 3) := by decide +kernel
theorem d_218_136 : decode m218.2.1 136 = .ok (.iconst 0, 1) := by decide +kernel
theorem d_218_137 : decode m218.2.1 137 = .ok (.bipush 87, 2) := by decide +kernel
theorem d_218_139 : decode m218.2.1 139 = .ok (.invokevirtual 359, 3) := by decide +kernel
theorem d_218_142 : decode m218.2.1 142 = .ok (.putfield 378, 3) := by decide +kernel
theorem d_218_145 : decode m218.2.1 145 = .ok (.goto 124, 3) := by decide +kernel
theorem d_218_148 : decode m218.2.1 148 = .ok (.aload_n 0, 1) := by decide +kernel
theorem d_218_149 : decode m218.2.1 149 = .ok (.ldc2_w 212, 3) := by decide +kernel
theorem d_218_152 : decode m218.2.1 152 = .ok (.invokevirtual 234, 3) := by decide +kernel
theorem d_218_155 : decode m218.2.1 155 = .ok (.ifCond .eq 31, 3) := by decide +kernel
theorem d_218_158 : decode m218.2.1 158 = .ok (.aload_n 0, 1) := by decide +kernel
theorem d_218_159 : decode m218.2.1 159 = .ok (.getfield 381, 3) := by decide +kernel
theorem d_218_162 : decode m218.2.1 162 = .ok (.ifCond .ne 24, 3) := by decide +kernel
theorem d_218_165 : decode m218.2.1 165 = .ok (.aload_n 0, 1) := by decide +kernel
theorem d_218_166 : decode m218.2.1 166 = .ok (.iconst 1, 1) := by decide +kernel
theorem d_218_167 : decode m218.2.1 167 = .ok (.putfield 381, 3) := by decide +kernel
theorem d_218_170 : decode m218.2.1 170 = .ok (.aload_n 0, 1) := by decide +kernel
theorem d_218_171 : decode m218.2.1 171 = .ok (.aload_n 0, 1) := by decide +kernel
theorem d_218_172 : decode m218.2.1 172 = .ok (.ldc2_w 212, 3) := by decide +kernel
theorem d_218_175 : decode m218.2.1 175 = .ok (.iconst 1, 1) := by decide +kernel
theorem d_218_176 : decode m218.2.1 176 = .ok (.iconst 5, 1) := by decide +kernel
theorem d_218_177 : decode m218.2.1 177 = .ok (.invokevirtual 359, 3) := by decide +kernel
theorem d_218_180 : decode m218.2.1 180 = .ok (.putfield 384, 3) := by decide +kernel
theorem d_218_183 : decode m218.2.1 183 = .ok (.goto 86, 3) := by decide +kernel
theorem d_218_186 : decode m218.2.1 186 = .ok (.aload_n 0, 1) := by decide +kernel
theorem d_218_187 : decode m218.2.1 187 = .ok (.ldc2_w 214, 3) := by decide +kernel
theorem d_218_190 : decode m218.2.1 190 = .ok (.invokevirtual 234, 3) := by decide +kernel
theorem d_218_193 : decode m218.2.1 193 = .ok (.ifCond .eq 32, 3) := by decide +kernel
theorem d_218_196 : decode m218.2.1 196 = .ok (.aload_n 0, 1) := by decide +kernel
theorem d_218_197 : decode m218.2.1 197 = .ok (.getfield 387, 3) := by decide +kernel
theorem d_218_200 : decode m218.2.1 200 = .ok (.ifCond .ne 25, 3) := by decide +kernel
theorem d_218_203 : decode m218.2.1 203 = .ok (.aload_n 0, 1) := by decide +kernel
theorem d_218_204 : decode m218.2.1 204 = .ok (.iconst 1, 1) := by decide +kernel
theorem d_218_205 : decode m218.2.1 205 = .ok (.putfield 387, 3) := by decide +kernel
theorem d_218_208 : decode m218.2.1 208 = .ok (.aload_n 0, 1) := by decide +kernel
theorem d_218_209 : decode m218.2.1 209 = .ok (.aload_n 0, 1) := by decide +kernel
theorem d_218_210 : decode m218.2.1 210 = .ok (.ldc2_w 214, 3) := by decide +kernel
theorem d_218_213 : decode m218.2.1 213 = .ok (.iconst 0, 1) := by decide +kernel
theorem d_218_214 : decode m218.2.1 214 = .ok (.bipush 87, 2) := by decide +kernel
theorem d_218_216 : decode m218.2.1 216 = .ok (.invokevirtual 359, 3) := by decide +kernel
theorem d_218_219 : decode m218.2.1 219 = .ok (.putfield 390, 3) := by decide +kernel
theorem d_218_222 : decode m218.2.1 222 = .ok (.goto 47, 3) := by decide +kernel
theorem d_218_225 : decode m218.2.1 225 = .ok (.aload_n 0, 1) := by decide +kernel
theorem d_218_226 : decode m218.2.1 226 = .ok (.ldc2_w 216, 3) := by decide +kernel
theorem d_218_229 : decode m218.2.1 229 = .ok (.invokevirtual 234, 3) := by decide +kernel
theorem d_218_232 : decode m218.2.1 232 = .ok (.ifCond .eq 32, 3) := by decide +kernel
theorem d_218_235 : decode m218.2.1 235 = .ok (.aload_n 0, 1) := by decide +kernel
theorem d_218_236 : decode m218.2.1 236 = .ok (.getfield 393, 3) := by decide +kernel
theorem d_218_239 : decode m218.2.1 239 = .ok (.ifCond .ne 25, 3) := by decide +kernel
theorem d_218_242 : decode m218.2.1 242 = .ok (.aload_n 0, 1) := by decide +kernel
theorem d_218_243 : decode m218.2.1 243 = .ok (.iconst 1, 1) := by decide +kernel
theorem d_218_244 : decode m218.2.1 244 = .ok (.putfield 393, 3) := by decide +kernel
theorem d_218_247 : decode m218.2.1 247 = .ok (.aload_n 0, 1) := by decide +kernel
theorem d_218_248 : decode m218.2.1 248 = .ok (.aload_n 0, 1) := by decide +kernel
theorem d_218_249 : decode m218.2.1 249 = .ok (.ldc2_w 216, 3) := by decide +kernel
theorem d_218_252 : decode m218.2.1 252 = .ok (.iconst 0, 1) := by decide +kernel
theorem d_218_253 : decode m218.2.1 253 = .ok (.bipush 9, 2) := by decide +kernel
theorem d_218_255 : decode m218.2.1 255 = .ok (.invokevirtual 359, 3) := by decide +kernel
theorem d_218_258 : decode m218.2.1 258 = .ok (.putfield 396, 3) := by decide +kernel
theorem d_218_261 : decode m218.2.1 261 = .ok (.goto 8, 3) := by decide +kernel
theorem d_218_264 : decode m218.2.1 264 = .ok (.aload_n 0, 1) := by decide +kernel
theorem d_218_265 : decode m218.2.1 265 = .ok (.iconst 2, 1) := by decide +kernel
theorem d_218_266 : decode m218.2.1 266 = .ok (.invokevirtual 238, 3) := by decide +kernel
theorem d_218_269 : decode m218.2.1 269 = .ok (.aload_n 0, 1) := by decide +kernel
theorem d_218_270 : decode m218.2.1 270 = .ok (.iconst 1, 1) := by decide +kernel
theorem d_218_271 : decode m218.2.1 271 = .ok (.putfield 363, 3) := by decide +kernel
theorem d_218_274 : decode m218.2.1 274 = .ok (.aload_n 0, 1) := by decide +kernel
theorem d_218_275 : decode m218.2.1 275 = .ok (.getfield 185, 3) := by decide +kernel
theorem d_218_278 : decode m218.2.1 278 = .ok (.ifCond .ne 17, 3) := by decide +kernel
theorem d_218_281 : decode m218.2.1 281 = .ok (.aload_n 0, 1) := by decide +kernel
theorem d_218_282 : decode m218.2.1 282 = .ok (.getfield 172, 3) := by decide +kernel
theorem d_218_285 : decode m218.2.1 285 = .ok (.bipush 59, 2) := by decide +kernel
theorem d_218_287 : decode m218.2.1 287 = .ok (.if_icmp .eq 8, 3) := by decide +kernel
theorem d_218_290 : decode m218.2.1 290 = .ok (.aload_n 0, 1) := by decide +kernel
theorem d_218_291 : decode m218.2.1 291 = .ok (.iconst 2, 1) := by decide +kernel
theorem d_218_292 : decode m218.2.1 292 = .ok (.invokevirtual 238, 3) := by decide +kernel
theorem d_218_295 : decode m218.2.1 295 = .ok (.aload_n 0, 1) := by decide +kernel
theorem d_218_296 : decode m218.2.1 296 = .ok (.getfield 185, 3) := by decide +kernel
theorem d_218_299 : decode m218.2.1 299 = .ok (.ifCond .ne 7, 3) := by decide +kernel
theorem d_218_302 : decode m218.2.1 302 = .ok (.aload_n 0, 1) := by decide +kernel
theorem d_218_303 : decode m218.2.1 303 = .ok (.invokevirtual 241, 3) := by decide +kernel
theorem d_218_306 : decode m218.2.1 306 = .ok (.return_, 1) := by decide +kernel
theorem d_219_0 : decode m219.2.1 0 = .ok (.aload_n 0, 1) := by decide +kernel
theorem d_219_1 : decode m219.2.1 1 = .ok (.getfield 172, 3) := by decide +kernel
theorem d_219_4 : decode m219.2.1 4 = .ok (.iconst 1, 1) := by decide +kernel
theorem d_219_5 : decode m219.2.1 5 = .ok (.if_icmp .ne 16, 3) := by decide +kernel
theorem d_219_8 : decode m219.2.1 8 = .ok (.aload_n 0, 1) := by decide +kernel
theorem d_219_9 : decode m219.2.1 9 = .ok (.getfield 165, 3) := by decide +kernel
theorem d_219_12 : decode m219.2.1 12 = .ok (.lload_n 1, 1) := by decide +kernel
theorem d_219_13 : decode m219.2.1 13 = .ok (.lcmp, 1) := by decide +kernel
theorem d_219_14 : decode m219.2.1 14 = .ok (.ifCond .ne 7, 3) := by decide +kernel
theorem d_219_17 : decode m219.2.1 17 = .ok (.iconst 1, 1) := by decide +kernel
theorem d_219_18 : decode m219.2.1 18 = .ok (.goto 4, 3) := by decide +kernel
theorem d_219_21 : decode m219.2.1 21 = .ok (.iconst 0, 1) := by decide +kernel
theorem d_219_22 : decode m219.2.1 22 = .ok (.ireturn, 1) := by decide +kernel
theorem d_220_0 : decode m220.2.1 0 = .ok (.aload_n 0, 1) := by decide +kernel
theorem d_220_1 : decode m220.2.1 1 = .ok (.lload_n 1, 1) := by decide +kernel
theorem d_220_2 : decode m220.2.1 2 = .ok (.invokevirtual 244, 3) := by decide +kernel
theorem d_220_5 : decode m220.2.1 5 = .ok (.aload_n 0, 1) := by decide +kernel
theorem d_220_6 : decode m220.2.1 6 = .ok (.iload_n 3, 1) := by decide +kernel
theorem d_220_7 : decode m220.2.1 7 = .ok (.iload 4, 2) := by decide +kernel
theorem d_220_9 : decode m220.2.1 9 = .ok (.invokevirtual 248, 3) := by decide +kernel
theorem d_220_12 : decode m220.2.1 12 = .ok (.ireturn, 1) := by decide +kernel
theorem d_221_0 : decode m221.2.1 0 = .ok (.aload_n 0, 1) := by decide +kernel
theorem d_221_1 : decode m221.2.1 1 = .ok (.getfield 185, 3) := by decide +kernel
theorem d_221_4 : decode m221.2.1 4 = .ok (.ifCond .le 4, 3) := by decide +kernel
theorem d_221_7 : decode m221.2.1 7 = .ok (.return_, 1) := by decide +kernel
theorem d_221_8 : decode m221.2.1 8 = .ok (.aload_n 0, 1) := by decide +kernel
theorem d_221_9 : decode m221.2.1 9 = .ok (.lload_n 1, 1) := by decide +kernel
theorem d_221_10 : decode m221.2.1 10 = .ok (.invokevirtual 234, 3) := by decide +kernel
theorem d_221_13 : decode m221.2.1 13 = .ok (.ifCond .ne 11, 3) := by decide +kernel
theorem d_221_16 : decode m221.2.1 16 = .ok (.aload_n 0, 1) := by decide +kernel
theorem d_221_17 : decode m221.2.1 17 = .ok (.iconst 2, 1) := by decide +kernel
theorem d_221_18 : decode m221.2.1 18 = .ok (.invokevirtual 238, 3) := by decide +kernel
theorem d_221_21 : decode m221.2.1 21 = .ok (.goto 7, 3) := by decide +kernel
theorem d_221_24 : decode m221.2.1 24 = .ok (.aload_n 0, 1) := by decide +kernel
theorem d_221_25 : decode m221.2.1 25 = .ok (.invokevirtual 241, 3) := by decide +kernel
theorem d_221_28 : decode m221.2.1 28 = .ok (.return_, 1) := by decide +kernel
theorem d_222_0 : decode m222.2.1 0 = .ok (.aload_n 0, 1) := by decide +kernel
theorem d_222_1 : decode m222.2.1 1 = .ok (.getfield 185, 3) := by decide +kernel
theorem d_222_4 : decode m222.2.1 4 = .ok (.ifCond .le 4, 3) := by decide +kernel
theorem d_222_7 : decode m222.2.1 7 = .ok (.return_, 1) := by decide +kernel
theorem d_222_8 : decode m222.2.1 8 = .ok (.aload_n 0, 1) := by decide +kernel
theorem d_222_9 : decode m222.2.1 9 = .ok (.aload_n 0, 1) := by decide +kernel
theorem d_222_10 : decode m222.2.1 10 = .ok (.getfield 172, 3) := by decide +kernel
theorem d_222_13 : decode m222.2.1 13 = .ok (.iconst 3, 1) := by decide +kernel
theorem d_222_14 : decode m222.2.1 14 = .ok (.if_icmp .ne 7, 3) := by decide +kernel
theorem d_222_17 : decode m222.2.1 17 = .ok (.iconst 1, 1) := by decide +kernel
theorem d_222_18 : decode m222.2.1 18 = .ok (.goto 4, 3) := by decide +kernel
theorem d_222_21 : decode m222.2.1 21 = .ok (.iload_n 1, 1) := by decide +kernel
theorem d_222_22 : decode m222.2.1 22 = .ok (.putfield 185, 3) := by decide +kernel
theorem d_222_25 : decode m222.2.1 25 = .ok (.aload_n 0, 1) := by decide +kernel
theorem d_222_26 : decode m222.2.1 26 = .ok (.aload_n 0, 1) := by decide +kernel
theorem d_222_27 : decode m222.2.1 27 = .ok (.getfield 162, 3) := by decide +kernel
theorem d_222_30 : decode m222.2.1 30 = .ok (.putfield 13, 3) := by decide +kernel
theorem d_222_33 : decode m222.2.1 33 = .ok (.return_, 1) := by decide +kernel
theorem d_223_0 : decode m223.2.1 0 = .ok (.aload_n 0, 1) := by decide +kernel
theorem d_223_1 : decode m223.2.1 1 = .ok (.getfield 185, 3) := by decide +kernel
theorem d_223_4 : decode m223.2.1 4 = .ok (.ifCond .le 5, 3) := by decide +kernel
theorem d_223_7 : decode m223.2.1 7 = .ok (.iconst 0, 1) := by decide +kernel
theorem d_223_8 : decode m223.2.1 8 = .ok (.ireturn, 1) := by decide +kernel
theorem d_223_9 : decode m223.2.1 9 = .ok (.aload_n 0, 1) := by decide +kernel
theorem d_223_10 : decode m223.2.1 10 = .ok (.getfield 172, 3) := by decide +kernel
theorem d_223_13 : decode m223.2.1 13 = .ok (.iconst 2, 1) := by decide +kernel
theorem d_223_14 : decode m223.2.1 14 = .ok (.if_icmp .eq 11, 3) := by decide +kernel
theorem d_223_17 : decode m223.2.1 17 = .ok (.aload_n 0, 1) := by decide +kernel
theorem d_223_18 : decode m223.2.1 18 = .ok (.iconst 2, 1) := by decide +kernel
theorem d_223_19 : decode m223.2.1 19 = .ok (.invokevirtual 238, 3) := by decide +kernel
theorem d_223_22 : decode m223.2.1 22 = .ok (.goto 24, 3) := by decide +kernel
theorem d_223_25 : decode m223.2.1 25 = .ok (.aload_n 0, 1) := by decide +kernel
theorem d_223_26 : decode m223.2.1 26 = .ok (.getfield 169, 3) := by decide +kernel
theorem d_223_29 : decode m223.2.1 29 = .ok (.iload_n 1, 1) := by decide +kernel
theorem d_223_30 : decode m223.2.1 30 = .ok (.if_icmp .lt 11, 3) := by decide +kernel
theorem d_223_33 : decode m223.2.1 33 = .ok (.aload_n 0, 1) := by decide +kernel
theorem d_223_34 : decode m223.2.1 34 = .ok (.getfield 169, 3) := by decide +kernel
theorem d_223_37 : decode m223.2.1 37 = .ok (.iload_n 2, 1) := by decide +kernel
theorem d_223_38 : decode m223.2.1 38 = .ok (.if_icmp .le 8, 3) := by decide +kernel
theorem d_223_41 : decode m223.2.1 41 = .ok (.aload_n 0, 1) := by decide +kernel
theorem d_223_42 : decode m223.2.1 42 = .ok (.iconst 4, 1) := by decide +kernel
theorem d_223_43 : decode m223.2.1 43 = .ok (.invokevirtual 238, 3) := by decide +kernel
theorem d_223_46 : decode m223.2.1 46 = .ok (.aload_n 0, 1) := by decide +kernel
theorem d_223_47 : decode m223.2.1 47 = .ok (.getfield 169, 3) := by decide +kernel
theorem d_223_50 : decode m223.2.1 50 = .ok (.istore_n 3, 1) := by decide +kernel
theorem d_223_51 : decode m223.2.1 51 = .ok (.aload_n 0, 1) := by decide +kernel
theorem d_223_52 : decode m223.2.1 52 = .ok (.getfield 185, 3) := by decide +kernel
theorem d_223_55 : decode m223.2.1 55 = .ok (.ifCond .ne 7, 3) := by decide +kernel
theorem d_223_58 : decode m223.2.1 58 = .ok (.aload_n 0, 1) := by decide +kernel
theorem d_223_59 : decode m223.2.1 59 = .ok (.invokevirtual 241, 3) := by decide +kernel
theorem d_223_62 : decode m223.2.1 62 = .ok (.iload_n 3, 1) := by decide +kernel
theorem d_223_63 : decode m223.2.1 63 = .ok (.ireturn, 1) := by decide +kernel
theorem d_224_0 : decode m224.2.1 0 = .ok (.aload_n 0, 1) := by decide +kernel
theorem d_224_1 : decode m224.2.1 1 = .ok (.iconst 0, 1) := by decide +kernel
theorem d_224_2 : decode m224.2.1 2 = .ok (.aload_n 0, 1) := by decide +kernel
theorem d_224_3 : decode m224.2.1 3 = .ok (.getfield 258, 3) := by decide +kernel
theorem d_224_6 : decode m224.2.1 6 = .ok (.invokevirtual 347, 3) := by decide +kernel
theorem d_224_9 : decode m224.2.1 9 = .ok (.aload_n 0, 1) := by decide +kernel
theorem d_224_10 : decode m224.2.1 10 = .ok (.getfield 42, 3) := by decide +kernel
theorem d_224_13 : decode m224.2.1 13 = .ok (.aload_n 0, 1) := by decide +kernel
theorem d_224_14 : decode m224.2.1 14 = .ok (.getfield 258, 3) := by decide +kernel
theorem d_224_17 : decode m224.2.1 17 = .ok (.aload_n 0, 1) := by decide +kernel
theorem d_224_18 : decode m224.2.1 18 = .ok (.getfield 185, 3) := by decide +kernel
theorem d_224_21 : decode m224.2.1 21 = .ok (.ifCond .le 7, 3) := by decide +kernel
theorem d_224_24 : decode m224.2.1 24 = .ok (.iconst 0, 1) := by decide +kernel
theorem d_224_25 : decode m224.2.1 25 = .ok (.goto 27, 3) := by decide +kernel
theorem d_224_28 : decode m224.2.1 28 = .ok (.aload_n 0, 1) := by decide +kernel
theorem d_224_29 : decode m224.2.1 29 = .ok (.ldc2_w 192, 3) := by decide +kernel
theorem d_224_32 : decode m224.2.1 32 = .ok (.invokevirtual 234, 3) := by decide +kernel
theorem d_224_35 : decode m224.2.1 35 = .ok (.ifCond .eq 7, 3) := by decide +kernel
theorem d_224_38 : decode m224.2.1 38 = .ok (.iconst 2, 1) := by decide +kernel
theorem d_224_39 : decode m224.2.1 39 = .ok (.goto 13, 3) := by decide +kernel
theorem d_224_42 : decode m224.2.1 42 = .ok (.aload_n 0, 1) := by decide +kernel
theorem d_224_43 : decode m224.2.1 43 = .ok (.ldc2_w 194, 3) := by decide +kernel
theorem d_224_46 : decode m224.2.1 46 = .ok (.invokevirtual 234, 3) := by decide +kernel
theorem d_224_49 : decode m224.2.1 49 = .ok (.invokestatic 318, 3) := by decide +kernel
theorem d_224_52 : decode m224.2.1 52 = .ok (.iastore, 1) := by decide +kernel
theorem d_224_53 : decode m224.2.1 53 = .ok (.aload_n 0, 1) := by decide +kernel
theorem d_224_54 : decode m224.2.1 54 = .ok (.getfield 185, 3) := by decide +kernel
theorem d_224_57 : decode m224.2.1 57 = .ok (.ifCond .ne 19, 3) := by decide +kernel
theorem d_224_60 : decode m224.2.1 60 = .ok (.aload_n 0, 1) := by decide +kernel
theorem d_224_61 : decode m224.2.1 61 = .ok (.getfield 42, 3) := by decide +kernel
theorem d_224_64 : decode m224.2.1 64 = .ok (.aload_n 0, 1) := by decide +kernel
theorem d_224_65 : decode m224.2.1 65 = .ok (.getfield 258, 3) := by decide +kernel
theorem d_224_68 : decode m224.2.1 68 = .ok (.iaload, 1) := by decide +kernel
theorem d_224_69 : decode m224.2.1 69 = .ok (.ifCond .le 7, 3) := by decide +kernel
theorem d_224_72 : decode m224.2.1 72 = .ok (.aload_n 0, 1) := by decide +kernel
theorem d_224_73 : decode m224.2.1 73 = .ok (.invokevirtual 241, 3) := by decide +kernel
theorem d_224_76 : decode m224.2.1 76 = .ok (.aload_n 0, 1) := by decide +kernel
theorem d_224_77 : decode m224.2.1 77 = .ok (.getfield 185, 3) := by decide +kernel
theorem d_224_80 : decode m224.2.1 80 = .ok (.ifCond .ne 13, 3) := by decide +kernel
theorem d_224_83 : decode m224.2.1 83 = .ok (.aload_n 0, 1) := by decide +kernel
theorem d_224_84 : decode m224.2.1 84 = .ok (.dup, 1) := by decide +kernel
theorem d_224_85 : decode m224.2.1 85 = .ok (.getfield 258, 3) := by decide +kernel
theorem d_224_88 : decode m224.2.1 88 = .ok (.iconst 1, 1) := by decide +kernel
theorem d_224_89 : decode m224.2.1 89 = .ok (.iadd, 1) := by decide +kernel
theorem d_224_90 : decode m224.2.1 90 = .ok (.putfield 258, 3) := by decide +kernel
theorem d_224_93 : decode m224.2.1 93 = .ok (.return_, 1) := by decide +kernel
theorem d_225_0 : decode m225.2.1 0 = .ok (.aload_n 0, 1) := by decide +kernel
theorem d_225_1 : decode m225.2.1 1 = .ok (.invokevirtual 241, 3) := by decide +kernel
theorem d_225_4 : decode m225.2.1 4 = .ok (.aload_n 0, 1) := by decide +kernel
theorem d_225_5 : decode m225.2.1 5 = .ok (.invokevirtual 252, 3) := by decide +kernel
theorem d_225_8 : decode m225.2.1 8 = .ok (.ifCond .ne 11, 3) := by decide +kernel
theorem d_225_11 : decode m225.2.1 11 = .ok (.aload_n 0, 1) := by decide +kernel
theorem d_225_12 : decode m225.2.1 12 = .ok (.iconst 2, 1) := by decide +kernel
theorem d_225_13 : decode m225.2.1 13 = .ok (.invokevirtual 238, 3) := by decide +kernel
theorem d_225_16 : decode m225.2.1 16 = .ok (.goto 17, 3) := by decide +kernel
theorem d_225_19 : decode m225.2.1 19 = .ok (.aload_n 0, 1) := by decide +kernel
theorem d_225_20 : decode m225.2.1 20 = .ok (.iload_n 1, 1) := by decide +kernel
theorem d_225_21 : decode m225.2.1 21 = .ok (.iload_n 2, 1) := by decide +kernel
theorem d_225_22 : decode m225.2.1 22 = .ok (.invokevirtual 255, 3) := by decide +kernel
theorem d_225_25 : decode m225.2.1 25 = .ok (.ifCond .lt 8, 3) := by decide +kernel
theorem d_225_28 : decode m225.2.1 28 = .ok (.aload_n 0, 1) := by decide +kernel
theorem d_225_29 : decode m225.2.1 29 = .ok (.iconst 3, 1) := by decide +kernel
theorem d_225_30 : decode m225.2.1 30 = .ok (.invokevirtual 238, 3) := by decide +kernel
theorem d_225_33 : decode m225.2.1 33 = .ok (.aload_n 0, 1) := by decide +kernel
theorem d_225_34 : decode m225.2.1 34 = .ok (.getfield 185, 3) := by decide +kernel
theorem d_225_37 : decode m225.2.1 37 = .ok (.ifCond .le 4, 3) := by decide +kernel
theorem d_225_40 : decode m225.2.1 40 = .ok (.return_, 1) := by decide +kernel
theorem d_225_41 : decode m225.2.1 41 = .ok (.aload_n 0, 1) := by decide +kernel
theorem d_225_42 : decode m225.2.1 42 = .ok (.getfield 17, 3) := by decide +kernel
theorem d_225_45 : decode m225.2.1 45 = .ok (.iload_n 1, 1) := by decide +kernel
theorem d_225_46 : decode m225.2.1 46 = .ok (.iload_n 2, 1) := by decide +kernel
theorem d_225_47 : decode m225.2.1 47 = .ok (.iadd, 1) := by decide +kernel
theorem d_225_48 : decode m225.2.1 48 = .ok (.aload_n 0, 1) := by decide +kernel
theorem d_225_49 : decode m225.2.1 49 = .ok (.getfield 165, 3) := by decide +kernel
theorem d_225_52 : decode m225.2.1 52 = .ok (.lastore, 1) := by decide +kernel
theorem d_225_53 : decode m225.2.1 53 = .ok (.aload_n 0, 1) := by decide +kernel
theorem d_225_54 : decode m225.2.1 54 = .ok (.invokevirtual 241, 3) := by decide +kernel
theorem d_225_57 : decode m225.2.1 57 = .ok (.return_, 1) := by decide +kernel
theorem d_226_0 : decode m226.2.1 0 = .ok (.aload_n 0, 1) := by decide +kernel
theorem d_226_1 : decode m226.2.1 1 = .ok (.getfield 172, 3) := by decide +kernel
theorem d_226_4 : decode m226.2.1 4 = .ok (.iconst 1, 1) := by decide +kernel
theorem d_226_5 : decode m226.2.1 5 = .ok (.if_icmp .ne 14, 3) := by decide +kernel
theorem d_226_8 : decode m226.2.1 8 = .ok (.aload_n 0, 1) := by decide +kernel
theorem d_226_9 : decode m226.2.1 9 = .ok (.invokevirtual 230, 3) := by decide +kernel
theorem d_226_12 : decode m226.2.1 12 = .ok (.ifCond .ne 7, 3) := by decide +kernel
theorem d_226_15 : decode m226.2.1 15 = .ok (.iconst 1, 1) := by decide +kernel
theorem d_226_16 : decode m226.2.1 16 = .ok (.goto 4, 3) := by decide +kernel
theorem d_226_19 : decode m226.2.1 19 = .ok (.iconst 0, 1) := by decide +kernel
theorem d_226_20 : decode m226.2.1 20 = .ok (.ireturn, 1) := by decide +kernel
theorem d_227_0 : decode m227.2.1 0 = .ok (.aload_n 0, 1) := by decide +kernel
theorem d_227_1 : decode m227.2.1 1 = .ok (.getfield 165, 3) := by decide +kernel
theorem d_227_4 : decode m227.2.1 4 = .ok (.ldc2_w 188, 3) := by decide +kernel
theorem d_227_7 : decode m227.2.1 7 = .ok (.lcmp, 1) := by decide +kernel
theorem d_227_8 : decode m227.2.1 8 = .ok (.ifCond .eq 223, 3) := by decide +kernel
theorem d_227_11 : decode m227.2.1 11 = .ok (.aload_n 0, 1) := by decide +kernel
theorem d_227_12 : decode m227.2.1 12 = .ok (.getfield 165, 3) := by decide +kernel
theorem d_227_15 : decode m227.2.1 15 = .ok (.ldc2_w 190, 3) := by decide +kernel
theorem d_227_18 : decode m227.2.1 18 = .ok (.lcmp, 1) := by decide +kernel
theorem d_227_19 : decode m227.2.1 19 = .ok (.ifCond .eq 212, 3) := by decide +kernel
theorem d_227_22 : decode m227.2.1 22 = .ok (.aload_n 0, 1) := by decide +kernel
theorem d_227_23 : decode m227.2.1 23 = .ok (.getfield 165, 3) := by decide +kernel
theorem d_227_26 : decode m227.2.1 26 = .ok (.ldc2_w 192, 3) := by decide +kernel
theorem d_227_29 : decode m227.2.1 29 = .ok (.lcmp, 1) := by decide +kernel
theorem d_227_30 : decode m227.2.1 30 = .ok (.ifCond .eq 201, 3) := by decide +kernel
theorem d_227_33 : decode m227.2.1 33 = .ok (.aload_n 0, 1) := by decide +kernel
theorem d_227_34 : decode m227.2.1 34 = .ok (.getfield 165, 3) := by decide +kernel
theorem d_227_37 : decode m227.2.1 37 = .ok (.ldc2_w 194, 3) := by decide +kernel
theorem d_227_40 : decode m227.2.1 40 = .ok (.lcmp, 1) := by decide +kernel
theorem d_227_41 : decode m227.2.1 41 = .ok (.ifCond .eq 190, 3) := by decide +kernel
theorem d_227_44 : decode m227.2.1 44 = .ok (.aload_n 0, 1) := by decide +kernel
theorem d_227_45 : decode m227.2.1 45 = .ok (.getfield 165, 3) := by decide +kernel
theorem d_227_48 : decode m227.2.1 48 = .ok (.ldc2_w 196, 3) := by decide +kernel
theorem d_227_51 : decode m227.2.1 51 = .ok (.lcmp, 1) := by decide +kernel
theorem d_227_52 : decode m227.2.1 52 = .ok (.ifCond .eq 179, 3) := by decide +kernel
theorem d_227_55 : decode m227.2.1 55 = .ok (.aload_n 0, 1) := by decide +kernel
theorem d_227_56 : decode m227.2.1 56 = .ok (.getfield 165, 3) := by decide +kernel
theorem d_227_59 : decode m227.2.1 59 = .ok (.ldc2_w 198, 3) := by decide +kernel
theorem d_227_62 : decode m227.2.1 62 = .ok (.lcmp, 1) := by decide +kernel
theorem d_227_63 : decode m227.2.1 63 = .ok (.ifCond .eq 168, 3) := by decide +kernel
theorem d_227_66 : decode m227.2.1 66 = .ok (.aload_n 0, 1) := by decide +kernel
theorem d_227_67 : decode m227.2.1 67 = .ok (.getfield 165, 3) := by decide +kernel
theorem d_227_70 : decode m227.2.1 70 = .ok (.ldc2_w 200, 3) := by decide +kernel
theorem d_227_73 : decode m227.2.1 73 = .ok (.lcmp, 1) := by decide +kernel
theorem d_227_74 : decode m227.2.1 74 = .ok (.ifCond .eq 157, 3) := by decide +kernel
theorem d_227_77 : decode m227.2.1 77 = .ok (.aload_n 0, 1) := by decide +kernel
theorem d_227_78 : decode m227.2.1 78 = .ok (.getfield 165, 3) := by decide +kernel
theorem d_227_81 : decode m227.2.1 81 = .ok (.ldc2_w 202, 3) := by decide +kernel
theorem d_227_84 : decode m227.2.1 84 = .ok (.lcmp, 1) := by decide +kernel
theorem d_227_85 : decode m227.2.1 85 = .ok (.ifCond .eq 146, 3) := by decide +kernel
theorem d_227_88 : decode m227.2.1 88 = .ok (.aload_n 0, 1) := by decide +kernel
theorem d_227_89 : decode m227.2.1 89 = .ok (.getfield 165, 3) := by decide +kernel
theorem d_227_92 : decode m227.2.1 92 = .ok (.ldc2_w 204, 3) := by decide +kernel
theorem d_227_95 : decode m227.2.1 95 = .ok (.lcmp, 1) := by decide +kernel
theorem d_227_96 : decode m227.2.1 96 = .ok (.ifCond .eq 135, 3) := by decide +kernel
theorem d_227_99 : decode m227.2.1 99 = .ok (.aload_n 0, 1) := by decide +kernel
theorem d_227_100 : decode m227.2.1 100 = .ok (.getfield 165, 3) := by decide +kernel
theorem d_227_103 : decode m227.2.1 103 = .ok (.ldc2_w 206, 3) := by decide +kernel
theorem d_227_106 : decode m227.2.1 106 = .ok (.lcmp, 1) := by decide +kernel
theorem d_227_107 : decode m227.2.1 107 = .ok (.ifCond .eq 124, 3) := by decide +kernel
theorem d_227_110 : decode m227.2.1 110 = .ok (.aload_n 0, 1) := by decide +kernel
theorem d_227_111 : decode m227.2.1 111 = .ok (.getfield 165, 3) := by decide +kernel
theorem d_227_114 : decode m227.2.1 114 = .ok (.ldc2_w 208, 3) := by decide +kernel
theorem d_227_117 : decode m227.2.1 117 = .ok (.lcmp, 1) := by decide +kernel
theorem d_227_118 : decode m227.2.1 118 = .ok (.ifCond .eq 113, 3) := by decide +kernel
theorem d_227_121 : decode m227.2.1 121 = .ok (.aload_n 0, 1) := by decide +kernel
theorem d_227_122 : decode m227.2.1 122 = .ok (.getfield 165, 3) := by decide +kernel
theorem d_227_125 : decode m227.2.1 125 = .ok (.ldc2_w 210, 3) := by decide +kernel
theorem d_227_128 : decode m227.2.1 128 = .ok (.lcmp, 1) := by decide +kernel
theorem d_227_129 : decode m227.2.1 129 = .ok (.ifCond .eq 102, 3) := by decide +kernel
theorem d_227_132 : decode m227.2.1 132 = .ok (.aload_n 0, 1) := by decide +kernel
theorem d_227_133 : decode m227.2.1 133 = .ok (.getfield 165, 3) := by decide +kernel
theorem d_227_136 : decode m227.2.1 136 = .ok (.ldc2_w 212, 3) := by decide +kernel
theorem d_227_139 : decode m227.2.1 139 = .ok (.lcmp, 1) := by decide +kernel
theorem d_227_140 : decode m227.2.1 140 = .ok (.ifCond .eq 91, 3) := by decide +kernel
theorem d_227_143 : decode m227.2.1 143 = .ok (.aload_n 0, 1) := by decide +kernel
theorem d_227_144 : decode m227.2.1 144 = .ok (.getfield 165, 3) := by decide +kernel
theorem d_227_147 : decode m227.2.1 147 = .ok (.ldc2_w 214, 3) := by decide +kernel
theorem d_227_150 : decode m227.2.1 150 = .ok (.lcmp, 1) := by decide +kernel
theorem d_227_151 : decode m227.2.1 151 = .ok (.ifCond .eq 80, 3) := by decide +kernel
theorem d_227_154 : decode m227.2.1 154 = .ok (.aload_n 0, 1) := by decide +kernel
theorem d_227_155 : decode m227.2.1 155 = .ok (.getfield 165, 3) := by decide +kernel
theorem d_227_158 : decode m227.2.1 158 = .ok (.ldc2_w 216, 3) := by decide +kernel
theorem d_227_161 : decode m227.2.1 161 = .ok (.lcmp, 1) := by decide +kernel
theorem d_227_162 : decode m227.2.1 162 = .ok (.ifCond .eq 69, 3) := by decide +kernel
theorem d_227_165 : decode m227.2.1 165 = .ok (.aload_n 0, 1) := by decide +kernel
theorem d_227_166 : decode m227.2.1 166 = .ok (.getfield 165, 3) := by decide +kernel
theorem d_227_169 : decode m227.2.1 169 = .ok (.ldc2_w 218, 3) := by decide +kernel
theorem d_227_172 : decode m227.2.1 172 = .ok (.lcmp, 1) := by decide +kernel
theorem d_227_173 : decode m227.2.1 173 = .ok (.ifCond .eq 58, 3) := by decide +kernel
theorem d_227_176 : decode m227.2.1 176 = .ok (.aload_n 0, 1) := by decide +kernel
theorem d_227_177 : decode m227.2.1 177 = .ok (.getfield 165, 3) := by decide +kernel
theorem d_227_180 : decode m227.2.1 180 = .ok (.ldc2_w 220, 3) := by decide +kernel
theorem d_227_183 : decode m227.2.1 183 = .ok (.lcmp, 1) := by decide +kernel
theorem d_227_184 : decode m227.2.1 184 = .ok (.ifCond .eq 47, 3) := by decide +kernel
theorem d_227_187 : decode m227.2.1 187 = .ok (.aload_n 0, 1) := by decide +kernel
theorem d_227_188 : decode m227.2.1 188 = .ok (.getfield 165, 3) := by decide +kernel
theorem d_227_191 : decode m227.2.1 191 = .ok (.ldc2_w 222, 3) := by decide +kernel
theorem d_227_194 : decode m227.2.1 194 = .ok (.lcmp, 1) := by decide +kernel
theorem d_227_195 : decode m227.2.1 195 = .ok (.ifCond .eq 36, 3) := by decide +kernel
theorem d_227_198 : decode m227.2.1 198 = .ok (.aload_n 0, 1) := by decide +kernel
theorem d_227_199 : decode m227.2.1 199 = .ok (.getfield 165, 3) := by decide +kernel
theorem d_227_202 : decode m227.2.1 202 = .ok (.ldc2_w 224, 3) := by decide +kernel
theorem d_227_205 : decode m227.2.1 205 = .ok (.lcmp, 1) := by decide +kernel
theorem d_227_206 : decode m227.2.1 206 = .ok (.ifCond .eq 25, 3) := by decide +kernel
theorem d_227_209 : decode m227.2.1 209 = .ok (.aload_n 0, 1) := by decide +kernel
theorem d_227_210 : decode m227.2.1 210 = .ok (.getfield 165, 3) := by decide +kernel
theorem d_227_213 : decode m227.2.1 213 = .ok (.ldc2_w 226, 3) := by decide +kernel
theorem d_227_216 : decode m227.2.1 216 = .ok (.lcmp, 1) := by decide +kernel
theorem d_227_217 : decode m227.2.1 217 = .ok (.ifCond .eq 14, 3) := by decide +kernel
theorem d_227_220 : decode m227.2.1 220 = .ok (.aload_n 0, 1) := by decide +kernel
theorem d_227_221 : decode m227.2.1 221 = .ok (.getfield 165, 3) := by decide +kernel
theorem d_227_224 : decode m227.2.1 224 = .ok (.ldc2_w 228, 3) := by decide +kernel
theorem d_227_227 : decode m227.2.1 227 = .ok (.lcmp, 1) := by decide +kernel
theorem d_227_228 : decode m227.2.1 228 = .ok (.ifCond .ne 7, 3) := by decide +kernel
theorem d_227_231 : decode m227.2.1 231 = .ok (.iconst 1, 1) := by decide +kernel
theorem d_227_232 : decode m227.2.1 232 = .ok (.goto 4, 3) := by decide +kernel
theorem d_227_235 : decode m227.2.1 235 = .ok (.iconst 0, 1) := by decide +kernel
theorem d_227_236 : decode m227.2.1 236 = .ok (.ireturn, 1) := by decide +kernel
theorem d_228_0 : decode m228.2.1 0 = .ok (.iconst (-1), 1) := by decide +kernel
theorem d_228_1 : decode m228.2.1 1 = .ok (.istore_n 3, 1) := by decide +kernel
theorem d_228_2 : decode m228.2.1 2 = .ok (.iconst 0, 1) := by decide +kernel
theorem d_228_3 : decode m228.2.1 3 = .ok (.istore 4, 2) := by decide +kernel
theorem d_228_5 : decode m228.2.1 5 = .ok (.iload 4, 2) := by decide +kernel
theorem d_228_7 : decode m228.2.1 7 = .ok (.iload_n 2, 1) := by decide +kernel
theorem d_228_8 : decode m228.2.1 8 = .ok (.if_icmp .ge 33, 3) := by decide +kernel
theorem d_228_11 : decode m228.2.1 11 = .ok (.aload_n 0, 1) := by decide +kernel
theorem d_228_12 : decode m228.2.1 12 = .ok (.getfield 17, 3) := by decide +kernel
theorem d_228_15 : decode m228.2.1 15 = .ok (.iload_n 1, 1) := by decide +kernel
theorem d_228_16 : decode m228.2.1 16 = .ok (.iload 4, 2) := by decide +kernel
theorem d_228_18 : decode m228.2.1 18 = .ok (.iadd, 1) := by decide +kernel
theorem d_228_19 : decode m228.2.1 19 = .ok (.laload, 1) := by decide +kernel
theorem d_228_20 : decode m228.2.1 20 = .ok (.aload_n 0, 1) := by decide +kernel
theorem d_228_21 : decode m228.2.1 21 = .ok (.getfield 165, 3) := by decide +kernel
theorem d_228_24 : decode m228.2.1 24 = .ok (.lcmp, 1) := by decide +kernel
theorem d_228_25 : decode m228.2.1 25 = .ok (.ifCond .ne 8, 3) := by decide +kernel
theorem d_228_28 : decode m228.2.1 28 = .ok (.iload 4, 2) := by decide +kernel
theorem d_228_30 : decode m228.2.1 30 = .ok (.goto 4, 3) := by decide +kernel
theorem d_228_33 : decode m228.2.1 33 = .ok (.iload_n 3, 1) := by decide +kernel
theorem d_228_34 : decode m228.2.1 34 = .ok (.istore_n 3, 1) := by decide +kernel
theorem d_228_35 : decode m228.2.1 35 = .ok (.iinc 4 1, 3) := by decide +kernel
theorem d_228_38 : decode m228.2.1 38 = .ok (.goto (-33), 3) := by decide +kernel
theorem d_228_41 : decode m228.2.1 41 = .ok (.iload_n 3, 1) := by decide +kernel
theorem d_228_42 : decode m228.2.1 42 = .ok (.ireturn, 1) := by decide +kernel
theorem d_229_0 : decode m229.2.1 0 = .ok (.iload_n 0, 1) := by decide +kernel
theorem d_229_1 : decode m229.2.1 1 = .ok (.ifCond .eq 7, 3) := by decide +kernel
theorem d_229_4 : decode m229.2.1 4 = .ok (.iconst 1, 1) := by decide +kernel
theorem d_229_5 : decode m229.2.1 5 = .ok (.goto 4, 3) := by decide +kernel
theorem d_229_8 : decode m229.2.1 8 = .ok (.iconst 0, 1) := by decide +kernel
theorem d_229_9 : decode m229.2.1 9 = .ok (.ireturn, 1) := by decide +kernel
theorem d_230_0 : decode m230.2.1 0 = .ok (.aload_n 0, 1) := by decide +kernel
theorem d_230_1 : decode m230.2.1 1 = .ok (.iconst 4, 1) := by decide +kernel
theorem d_230_2 : decode m230.2.1 2 = .ok (.aload_n 0, 1) := by decide +kernel
theorem d_230_3 : decode m230.2.1 3 = .ok (.getfield 350, 3) := by decide +kernel
theorem d_230_6 : decode m230.2.1 6 = .ok (.invokevirtual 347, 3) := by decide +kernel
theorem d_230_9 : decode m230.2.1 9 = .ok (.aload_n 0, 1) := by decide +kernel
theorem d_230_10 : decode m230.2.1 10 = .ok (.getfield 350, 3) := by decide +kernel
theorem d_230_13 : decode m230.2.1 13 = .ok (.istore_n 1, 1) := by decide +kernel
theorem d_230_14 : decode m230.2.1 14 = .ok (.aload_n 0, 1) := by decide +kernel
theorem d_230_15 : decode m230.2.1 15 = .ok (.ldc2_w 198, 3) := by decide +kernel
theorem d_230_18 : decode m230.2.1 18 = .ok (.invokevirtual 244, 3) := by decide +kernel
theorem d_230_21 : decode m230.2.1 21 = .ok (.aload_n 0, 1) := by decide +kernel
theorem d_230_22 : decode m230.2.1 22 = .ok (.getfield 45, 3) := by decide +kernel
theorem d_230_25 : decode m230.2.1 25 = .ok (.iload_n 1, 1) := by decide +kernel
theorem d_230_26 : decode m230.2.1 26 = .ok (.aload_n 0, 1) := by decide +kernel
theorem d_230_27 : decode m230.2.1 27 = .ok (.invokevirtual 353, 3) := by decide +kernel
theorem d_230_30 : decode m230.2.1 30 = .ok (.iastore, 1) := by decide +kernel
theorem d_230_31 : decode m230.2.1 31 = .ok (.aload_n 0, 1) := by decide +kernel
theorem d_230_32 : decode m230.2.1 32 = .ok (.getfield 48, 3) := by decide +kernel
theorem d_230_35 : decode m230.2.1 35 = .ok (.iload_n 1, 1) := by decide +kernel
theorem d_230_36 : decode m230.2.1 36 = .ok (.aload_n 0, 1) := by decide +kernel
theorem d_230_37 : decode m230.2.1 37 = .ok (.ldc2_w 200, 3) := by decide +kernel
theorem d_230_40 : decode m230.2.1 40 = .ok (.iconst 0, 1) := by decide +kernel
theorem d_230_41 : decode m230.2.1 41 = .ok (.aload_n 0, 1) := by decide +kernel
theorem d_230_42 : decode m230.2.1 42 = .ok (.getfield 356, 3) := by decide +kernel
theorem d_230_45 : decode m230.2.1 45 = .ok (.iconst 1, 1) := by decide +kernel
theorem d_230_46 : decode m230.2.1 46 = .ok (.isub, 1) := by decide +kernel
theorem d_230_47 : decode m230.2.1 47 = .ok (.invokevirtual 359, 3) := by decide +kernel
theorem d_230_50 : decode m230.2.1 50 = .ok (.iastore, 1) := by decide +kernel
theorem d_230_51 : decode m230.2.1 51 = .ok (.aload_n 0, 1) := by decide +kernel
theorem d_230_52 : decode m230.2.1 52 = .ok (.getfield 51, 3) := by decide +kernel
theorem d_230_55 : decode m230.2.1 55 = .ok (.iload_n 1, 1) := by decide +kernel
theorem d_230_56 : decode m230.2.1 56 = .ok (.aload_n 0, 1) := by decide +kernel
theorem d_230_57 : decode m230.2.1 57 = .ok (.ldc2_w 202, 3) := by decide +kernel
theorem d_230_60 : decode m230.2.1 60 = .ok (.iconst 0, 1) := by decide +kernel
theorem d_230_61 : decode m230.2.1 61 = .ok (.bipush 87, 2) := by decide +kernel
theorem d_230_63 : decode m230.2.1 63 = .ok (.invokevirtual 359, 3) := by decide +kernel
theorem d_230_66 : decode m230.2.1 66 = .ok (.iastore, 1) := by decide +kernel
theorem d_230_67 : decode m230.2.1 67 = .ok (.aload_n 0, 1) := by decide +kernel
theorem d_230_68 : decode m230.2.1 68 = .ok (.getfield 54, 3) := by decide +kernel
theorem d_230_71 : decode m230.2.1 71 = .ok (.iload_n 1, 1) := by decide +kernel
theorem d_230_72 : decode m230.2.1 72 = .ok (.aload_n 0, 1) := by decide +kernel
theorem d_230_73 : decode m230.2.1 73 = .ok (.ldc2_w 204, 3) := by decide +kernel
theorem d_230_76 : decode m230.2.1 76 = .ok (.iconst 1, 1) := by decide +kernel
theorem d_230_77 : decode m230.2.1 77 = .ok (.bipush 12, 2) := by decide +kernel
theorem d_230_79 : decode m230.2.1 79 = .ok (.invokevirtual 359, 3) := by decide +kernel
theorem d_230_82 : decode m230.2.1 82 = .ok (.iastore, 1) := by decide +kernel
theorem d_230_83 : decode m230.2.1 83 = .ok (.aload_n 0, 1) := by decide +kernel
theorem d_230_84 : decode m230.2.1 84 = .ok (.getfield 57, 3) := by decide +kernel
theorem d_230_87 : decode m230.2.1 87 = .ok (.iload_n 1, 1) := by decide +kernel
theorem d_230_88 : decode m230.2.1 88 = .ok (.aload_n 0, 1) := by decide +kernel
theorem d_230_89 : decode m230.2.1 89 = .ok (.getfield 185, 3) := by decide +kernel
theorem d_230_92 : decode m230.2.1 92 = .ok (.ifCond .ne 26, 3) := by decide +kernel
theorem d_230_95 : decode m230.2.1 95 = .ok (.aload_n 0, 1) := by decide +kernel
theorem d_230_96 : decode m230.2.1 96 = .ok (.ldc2_w 206, 3) := by decide +kernel
theorem d_230_99 : decode m230.2.1 99 = .ok (.invokevirtual 234, 3) := by decide +kernel
theorem d_230_102 : decode m230.2.1 102 = .ok (.ifCond .eq 16, 3) := by decide +kernel
theorem d_230_105 : decode m230.2.1 105 = .ok (.aload_n 0, 1) := by decide +kernel
theorem d_230_106 : decode m230.2.1 106 = .ok (.ldc2_w 206, 3) := by decide +kernel
theorem d_230_109 : decode m230.2.1 109 = .ok (.iconst 1, 1) := by decide +kernel
theorem d_230_110 : decode m230.2.1 110 = .ok (.bipush 9, 2) := by decide +kernel
theorem d_230_112 : decode m230.2.1 112 = .ok (.invokevirtual 359, 3) := by decide +kernel
theorem d_230_115 : decode m230.2.1 115 = .ok (.goto 4, 3) := by decide +kernel
theorem d_230_118 : decode m230.2.1 118 = .ok (.iconst 5, 1) := by decide +kernel
theorem d_230_119 : decode m230.2.1 119 = .ok (.iastore, 1) := by decide +kernel
theorem d_230_120 : decode m230.2.1 120 = .ok (.aload_n 0, 1) := by decide +kernel
theorem d_230_121 : decode m230.2.1 121 = .ok (.getfield 185, 3) := by decide +kernel
theorem d_230_124 : decode m230.2.1 124 = .ok (.ifCond .ne 13, 3) := by decide +kernel
theorem d_230_127 : decode m230.2.1 127 = .ok (.aload_n 0, 1) := by decide +kernel
theorem d_230_128 : decode m230.2.1 128 = .ok (.dup, 1) := by decide +kernel
theorem d_230_129 : decode m230.2.1 129 = .ok (.getfield 350, 3) := by decide +kernel
theorem d_230_132 : decode m230.2.1 132 = .ok (.iconst 1, 1) := by decide +kernel
theorem d_230_133 : decode m230.2.1 133 = .ok (.iadd, 1) := by decide +kernel
theorem d_230_134 : decode m230.2.1 134 = .ok (.putfield 350, 3) := by decide +kernel
theorem d_230_137 : decode m230.2.1 137 = .ok (.return_, 1) := by decide +kernel
theorem d_231_0 : decode m231.2.1 0 = .ok (.aload_n 0, 1) := by decide +kernel
theorem d_231_1 : decode m231.2.1 1 = .ok (.getfield 185, 3) := by decide +kernel
theorem d_231_4 : decode m231.2.1 4 = .ok (.ifCond .le 5, 3) := by decide +kernel
theorem d_231_7 : decode m231.2.1 7 = .ok (.iconst 0, 1) := by decide +kernel
theorem d_231_8 : decode m231.2.1 8 = .ok (.ireturn, 1) := by decide +kernel
theorem d_231_9 : decode m231.2.1 9 = .ok (.aload_n 0, 1) := by decide +kernel
theorem d_231_10 : decode m231.2.1 10 = .ok (.invokevirtual 252, 3) := by decide +kernel
theorem d_231_13 : decode m231.2.1 13 = .ok (.ifCond .ne 11, 3) := by decide +kernel
theorem d_231_16 : decode m231.2.1 16 = .ok (.aload_n 0, 1) := by decide +kernel
theorem d_231_17 : decode m231.2.1 17 = .ok (.iconst 2, 1) := by decide +kernel
theorem d_231_18 : decode m231.2.1 18 = .ok (.invokevirtual 238, 3) := by decide +kernel
theorem d_231_21 : decode m231.2.1 21 = .ok (.goto 20, 3) := by decide +kernel
theorem d_231_24 : decode m231.2.1 24 = .ok (.aload_n 0, 1) := by decide +kernel
theorem d_231_25 : decode m231.2.1 25 = .ok (.iconst 0, 1) := by decide +kernel
theorem d_231_26 : decode m231.2.1 26 = .ok (.aload_n 0, 1) := by decide +kernel
theorem d_231_27 : decode m231.2.1 27 = .ok (.getfield 258, 3) := by decide +kernel
theorem d_231_30 : decode m231.2.1 30 = .ok (.invokevirtual 255, 3) := by decide +kernel
theorem d_231_33 : decode m231.2.1 33 = .ok (.ifCond .ge 8, 3) := by decide +kernel
theorem d_231_36 : decode m231.2.1 36 = .ok (.aload_n 0, 1) := by decide +kernel
theorem d_231_37 : decode m231.2.1 37 = .ok (.iconst 5, 1) := by decide +kernel
theorem d_231_38 : decode m231.2.1 38 = .ok (.invokevirtual 238, 3) := by decide +kernel
theorem d_231_41 : decode m231.2.1 41 = .ok (.aload_n 0, 1) := by decide +kernel
theorem d_231_42 : decode m231.2.1 42 = .ok (.iconst 0, 1) := by decide +kernel
theorem d_231_43 : decode m231.2.1 43 = .ok (.aload_n 0, 1) := by decide +kernel
theorem d_231_44 : decode m231.2.1 44 = .ok (.getfield 258, 3) := by decide +kernel
theorem d_231_47 : decode m231.2.1 47 = .ok (.invokevirtual 255, 3) := by decide +kernel
theorem d_231_50 : decode m231.2.1 50 = .ok (.istore_n 1, 1) := by decide +kernel
theorem d_231_51 : decode m231.2.1 51 = .ok (.aload_n 0, 1) := by decide +kernel
theorem d_231_52 : decode m231.2.1 52 = .ok (.getfield 185, 3) := by decide +kernel
theorem d_231_55 : decode m231.2.1 55 = .ok (.ifCond .ne 7, 3) := by decide +kernel
theorem d_231_58 : decode m231.2.1 58 = .ok (.aload_n 0, 1) := by decide +kernel
theorem d_231_59 : decode m231.2.1 59 = .ok (.invokevirtual 241, 3) := by decide +kernel
theorem d_231_62 : decode m231.2.1 62 = .ok (.iload_n 1, 1) := by decide +kernel
theorem d_231_63 : decode m231.2.1 63 = .ok (.ireturn, 1) := by decide +kernel
theorem d_232_0 : decode m232.2.1 0 = .ok (.aload_n 0, 1) := by decide +kernel
theorem d_232_1 : decode m232.2.1 1 = .ok (.invokevirtual 241, 3) := by decide +kernel
theorem d_232_4 : decode m232.2.1 4 = .ok (.aload_n 0, 1) := by decide +kernel
theorem d_232_5 : decode m232.2.1 5 = .ok (.iconst 1, 1) := by decide +kernel
theorem d_232_6 : decode m232.2.1 6 = .ok (.putfield 299, 3) := by decide +kernel
theorem d_232_9 : decode m232.2.1 9 = .ok (.aload_n 0, 1) := by decide +kernel
theorem d_232_10 : decode m232.2.1 10 = .ok (.iconst 0, 1) := by decide +kernel
theorem d_232_11 : decode m232.2.1 11 = .ok (.putfield 261, 3) := by decide +kernel
theorem d_232_14 : decode m232.2.1 14 = .ok (.aload_n 0, 1) := by decide +kernel
theorem d_232_15 : decode m232.2.1 15 = .ok (.iconst 0, 1) := by decide +kernel
theorem d_232_16 : decode m232.2.1 16 = .ok (.putfield 264, 3) := by decide +kernel
theorem d_232_19 : decode m232.2.1 19 = .ok (.aload_n 0, 1) := by decide +kernel
theorem d_232_20 : decode m232.2.1 20 = .ok (.iconst 0, 1) := by decide +kernel
theorem d_232_21 : decode m232.2.1 21 = .ok (.putfield 274, 3) := by decide +kernel
theorem d_232_24 : decode m232.2.1 24 = .ok (.aload_n 0, 1) := by decide +kernel
theorem d_232_25 : decode m232.2.1 25 = .ok (.iconst 0, 1) := by decide +kernel
theorem d_232_26 : decode m232.2.1 26 = .ok (.putfield 280, 3) := by decide +kernel
theorem d_232_29 : decode m232.2.1 29 = .ok (.aload_n 0, 1) := by decide +kernel
theorem d_232_30 : decode m232.2.1 30 = .ok (.invokevirtual 303, 3) := by decide +kernel
theorem d_232_33 : decode m232.2.1 33 = .ok (.iconst 1, 1) := by decide +kernel
theorem d_232_34 : decode m232.2.1 34 = .ok (.istore_n 1, 1) := by decide +kernel
theorem d_232_35 : decode m232.2.1 35 = .ok (.iload_n 1, 1) := by decide +kernel
theorem d_232_36 : decode m232.2.1 36 = .ok (.ifCond .eq 126, 3) := by decide +kernel
theorem d_232_39 : decode m232.2.1 39 = .ok (.aload_n 0, 1) := by decide +kernel
theorem d_232_40 : decode m232.2.1 40 = .ok (.getfield 185, 3) := by decide +kernel
theorem d_232_43 : decode m232.2.1 43 = .ok (.ifCond .ne 119, 3) := by decide +kernel
theorem d_232_46 : decode m232.2.1 46 = .ok (.aload_n 0, 1) := by decide +kernel
theorem d_232_47 : decode m232.2.1 47 = .ok (.invokevirtual 306, 3) := by decide +kernel
theorem d_232_50 : decode m232.2.1 50 = .ok (.istore_n 2, 1) := by decide +kernel
theorem d_232_51 : decode m232.2.1 51 = .ok (.aload_n 0, 1) := by decide +kernel
theorem d_232_52 : decode m232.2.1 52 = .ok (.getfield 172, 3) := by decide +kernel
theorem d_232_55 : decode m232.2.1 55 = .ok (.bipush 41, 2) := by decide +kernel
theorem d_232_57 : decode m232.2.1 57 = .ok (.if_icmp .ne 42, 3) := by decide +kernel
theorem d_232_60 : decode m232.2.1 60 = .ok (.aload_n 0, 1) := by decide +kernel
theorem d_232_61 : decode m232.2.1 61 = .ok (.invokevirtual 309, 3) := by decide +kernel
theorem d_232_64 : decode m232.2.1 64 = .ok (.ifCond .eq 35, 3) := by decide +kernel
theorem d_232_67 : decode m232.2.1 67 = .ok (.aload_n 0, 1) := by decide +kernel
theorem d_232_68 : decode m232.2.1 68 = .ok (.iconst 0, 1) := by decide +kernel
theorem d_232_69 : decode m232.2.1 69 = .ok (.invokevirtual 312, 3) := by decide +kernel
theorem d_232_72 : decode m232.2.1 72 = .ok (.aload_n 0, 1) := by decide +kernel
theorem d_232_73 : decode m232.2.1 73 = .ok (.dup, 1) := by decide +kernel
theorem d_232_74 : decode m232.2.1 74 = .ok (.getfield 264, 3) := by decide +kernel
theorem d_232_77 : decode m232.2.1 77 = .ok (.iconst 1, 1) := by decide +kernel
theorem d_232_78 : decode m232.2.1 78 = .ok (.isub, 1) := by decide +kernel
theorem d_232_79 : decode m232.2.1 79 = .ok (.putfield 264, 3) := by decide +kernel
theorem d_232_82 : decode m232.2.1 82 = .ok (.aload_n 0, 1) := by decide +kernel
theorem d_232_83 : decode m232.2.1 83 = .ok (.dup, 1) := by decide +kernel
theorem d_232_84 : decode m232.2.1 84 = .ok (.getfield 274, 3) := by decide +kernel
theorem d_232_87 : decode m232.2.1 87 = .ok (.iconst 1, 1) := by decide +kernel
theorem d_232_88 : decode m232.2.1 88 = .ok (.isub, 1) := by decide +kernel
theorem d_232_89 : decode m232.2.1 89 = .ok (.putfield 274, 3) := by decide +kernel
theorem d_232_92 : decode m232.2.1 92 = .ok (.aload_n 0, 1) := by decide +kernel
theorem d_232_93 : decode m232.2.1 93 = .ok (.invokevirtual 241, 3) := by decide +kernel
theorem d_232_96 : decode m232.2.1 96 = .ok (.goto 63, 3) := by decide +kernel
theorem d_232_99 : decode m232.2.1 99 = .ok (.iload_n 2, 1) := by decide +kernel
theorem d_232_100 : decode m232.2.1 100 = .ok (.ifCond .eq 57, 3) := by decide +kernel
theorem d_232_103 : decode m232.2.1 103 = .ok (.iload_n 2, 1) := by decide +kernel
theorem d_232_104 : decode m232.2.1 104 = .ok (.invokestatic 267, 3) := by decide +kernel
theorem d_232_107 : decode m232.2.1 107 = .ok (.iconst 4, 1) := by decide +kernel
theorem d_232_108 : decode m232.2.1 108 = .ok (.if_icmp .ne 10, 3) := by decide +kernel
theorem d_232_111 : decode m232.2.1 111 = .ok (.aload_n 0, 1) := by decide +kernel
theorem d_232_112 : decode m232.2.1 112 = .ok (.invokevirtual 315, 3) := by decide +kernel
theorem d_232_115 : decode m232.2.1 115 = .ok (.ifCond .ne 42, 3) := by decide +kernel
theorem d_232_118 : decode m232.2.1 118 = .ok (.aload_n 0, 1) := by decide +kernel
theorem d_232_119 : decode m232.2.1 119 = .ok (.iload_n 2, 1) := by decide +kernel
theorem d_232_120 : decode m232.2.1 120 = .ok (.invokestatic 267, 3) := by decide +kernel
theorem d_232_123 : decode m232.2.1 123 = .ok (.invokevirtual 312, 3) := by decide +kernel
theorem d_232_126 : decode m232.2.1 126 = .ok (.aload_n 0, 1) := by decide +kernel
theorem d_232_127 : decode m232.2.1 127 = .ok (.getfield 33, 3) := by decide +kernel
theorem d_232_130 : decode m232.2.1 130 = .ok (.aload_n 0, 1) := by decide +kernel
theorem d_232_131 : decode m232.2.1 131 = .ok (.getfield 264, 3) := by decide +kernel
theorem d_232_134 : decode m232.2.1 134 = .ok (.iload_n 2, 1) := by decide +kernel
theorem d_232_135 : decode m232.2.1 135 = .ok (.iastore, 1) := by decide +kernel
theorem d_232_136 : decode m232.2.1 136 = .ok (.aload_n 0, 1) := by decide +kernel
theorem d_232_137 : decode m232.2.1 137 = .ok (.dup, 1) := by decide +kernel
theorem d_232_138 : decode m232.2.1 138 = .ok (.getfield 264, 3) := by decide +kernel
theorem d_232_141 : decode m232.2.1 141 = .ok (.iconst 1, 1) := by decide +kernel
theorem d_232_142 : decode m232.2.1 142 = .ok (.iadd, 1) := by decide +kernel
theorem d_232_143 : decode m232.2.1 143 = .ok (.putfield 264, 3) := by decide +kernel
theorem d_232_146 : decode m232.2.1 146 = .ok (.aload_n 0, 1) := by decide +kernel
theorem d_232_147 : decode m232.2.1 147 = .ok (.invokevirtual 241, 3) := by decide +kernel
theorem d_232_150 : decode m232.2.1 150 = .ok (.aload_n 0, 1) := by decide +kernel
theorem d_232_151 : decode m232.2.1 151 = .ok (.invokevirtual 303, 3) := by decide +kernel
theorem d_232_154 : decode m232.2.1 154 = .ok (.goto 5, 3) := by decide +kernel
theorem d_232_157 : decode m232.2.1 157 = .ok (.iconst 0, 1) := by decide +kernel
theorem d_232_158 : decode m232.2.1 158 = .ok (.istore_n 1, 1) := by decide +kernel
theorem d_232_159 : decode m232.2.1 159 = .ok (.goto (-124), 3) := by decide +kernel
theorem d_232_162 : decode m232.2.1 162 = .ok (.aload_n 0, 1) := by decide +kernel
theorem d_232_163 : decode m232.2.1 163 = .ok (.getfield 185, 3) := by decide +kernel
theorem d_232_166 : decode m232.2.1 166 = .ok (.ifCond .ne 15, 3) := by decide +kernel
theorem d_232_169 : decode m232.2.1 169 = .ok (.aload_n 0, 1) := by decide +kernel
theorem d_232_170 : decode m232.2.1 170 = .ok (.invokevirtual 309, 3) := by decide +kernel
theorem d_232_173 : decode m232.2.1 173 = .ok (.ifCond .eq 8, 3) := by decide +kernel
theorem d_232_176 : decode m232.2.1 176 = .ok (.aload_n 0, 1) := by decide +kernel
theorem d_232_177 : decode m232.2.1 177 = .ok (.iconst 2, 1) := by decide +kernel
theorem d_232_178 : decode m232.2.1 178 = .ok (.invokevirtual 238, 3) := by decide +kernel
theorem d_232_181 : decode m232.2.1 181 = .ok (.aload_n 0, 1) := by decide +kernel
theorem d_232_182 : decode m232.2.1 182 = .ok (.getfield 185, 3) := by decide +kernel
theorem d_232_185 : decode m232.2.1 185 = .ok (.ifCond .ne 8, 3) := by decide +kernel
theorem d_232_188 : decode m232.2.1 188 = .ok (.aload_n 0, 1) := by decide +kernel
theorem d_232_189 : decode m232.2.1 189 = .ok (.iconst 0, 1) := by decide +kernel
theorem d_232_190 : decode m232.2.1 190 = .ok (.invokevirtual 312, 3) := by decide +kernel
theorem d_232_193 : decode m232.2.1 193 = .ok (.return_, 1) := by decide +kernel
theorem d_233_0 : decode m233.2.1 0 = .ok (.iconst 1, 1) := by decide +kernel
theorem d_233_1 : decode m233.2.1 1 = .ok (.istore_n 1, 1) := by decide +kernel
theorem d_233_2 : decode m233.2.1 2 = .ok (.iload_n 1, 1) := by decide +kernel
theorem d_233_3 : decode m233.2.1 3 = .ok (.ifCond .eq 98, 3) := by decide +kernel
theorem d_233_6 : decode m233.2.1 6 = .ok (.aload_n 0, 1) := by decide +kernel
theorem d_233_7 : decode m233.2.1 7 = .ok (.getfield 185, 3) := by decide +kernel
theorem d_233_10 : decode m233.2.1 10 = .ok (.ifCond .ne 91, 3) := by decide +kernel
theorem d_233_13 : decode m233.2.1 13 = .ok (.aload_n 0, 1) := by decide +kernel
theorem d_233_14 : decode m233.2.1 14 = .ok (.ldc2_w 228, 3) := by decide +kernel
theorem d_233_17 : decode m233.2.1 17 = .ok (.invokevirtual 234, 3) := by decide +kernel
theorem d_233_20 : decode m233.2.1 20 = .ok (.ifCond .eq 33, 3) := by decide +kernel
theorem d_233_23 : decode m233.2.1 23 = .ok (.aload_n 0, 1) := by decide +kernel
theorem d_233_24 : decode m233.2.1 24 = .ok (.invokevirtual 283, 3) := by decide +kernel
theorem d_233_27 : decode m233.2.1 27 = .ok (.ifCond .eq 26, 3) := by decide +kernel
theorem d_233_30 : decode m233.2.1 30 = .ok (.aload_n 0, 1) := by decide +kernel
theorem d_233_31 : decode m233.2.1 31 = .ok (.getfield 274, 3) := by decide +kernel
theorem d_233_34 : decode m233.2.1 34 = .ok (.bipush 6, 2) := by decide +kernel
theorem d_233_36 : decode m233.2.1 36 = .ok (.if_icmp .le 8, 3) := by decide +kernel
theorem d_233_39 : decode m233.2.1 39 = .ok (.aload_n 0, 1) := by decide +kernel
theorem d_233_40 : decode m233.2.1 40 = .ok (.iconst 2, 1) := by decide +kernel
theorem d_233_41 : decode m233.2.1 41 = .ok (.invokevirtual 238, 3) := by decide +kernel
theorem d_233_44 : decode m233.2.1 44 = .ok (.aload_n 0, 1) := by decide +kernel
theorem d_233_45 : decode m233.2.1 45 = .ok (.bipush 21, 2) := by decide +kernel
theorem d_233_47 : decode m233.2.1 47 = .ok (.invokevirtual 286, 3) := by decide +kernel
theorem d_233_50 : decode m233.2.1 50 = .ok (.goto (-48), 3) := by decide +kernel
theorem d_233_53 : decode m233.2.1 53 = .ok (.aload_n 0, 1) := by decide +kernel
theorem d_233_54 : decode m233.2.1 54 = .ok (.getfield 172, 3) := by decide +kernel
theorem d_233_57 : decode m233.2.1 57 = .ok (.bipush 40, 2) := by decide +kernel
theorem d_233_59 : decode m233.2.1 59 = .ok (.if_icmp .ne 37, 3) := by decide +kernel
theorem d_233_62 : decode m233.2.1 62 = .ok (.aload_n 0, 1) := by decide +kernel
theorem d_233_63 : decode m233.2.1 63 = .ok (.invokevirtual 289, 3) := by decide +kernel
theorem d_233_66 : decode m233.2.1 66 = .ok (.ifCond .ne 12, 3) := by decide +kernel
theorem d_233_69 : decode m233.2.1 69 = .ok (.aload_n 0, 1) := by decide +kernel
theorem d_233_70 : decode m233.2.1 70 = .ok (.getfield 274, 3) := by decide +kernel
theorem d_233_73 : decode m233.2.1 73 = .ok (.bipush 6, 2) := by decide +kernel
theorem d_233_75 : decode m233.2.1 75 = .ok (.if_icmp .le 8, 3) := by decide +kernel
theorem d_233_78 : decode m233.2.1 78 = .ok (.aload_n 0, 1) := by decide +kernel
theorem d_233_79 : decode m233.2.1 79 = .ok (.iconst 2, 1) := by decide +kernel
theorem d_233_80 : decode m233.2.1 80 = .ok (.invokevirtual 238, 3) := by decide +kernel
theorem d_233_83 : decode m233.2.1 83 = .ok (.aload_n 0, 1) := by decide +kernel
theorem d_233_84 : decode m233.2.1 84 = .ok (.invokevirtual 292, 3) := by decide +kernel
theorem d_233_87 : decode m233.2.1 87 = .ok (.aload_n 0, 1) := by decide +kernel
theorem d_233_88 : decode m233.2.1 88 = .ok (.bipush 20, 2) := by decide +kernel
theorem d_233_90 : decode m233.2.1 90 = .ok (.invokevirtual 286, 3) := by decide +kernel
theorem d_233_93 : decode m233.2.1 93 = .ok (.goto (-91), 3) := by decide +kernel
theorem d_233_96 : decode m233.2.1 96 = .ok (.iconst 0, 1) := by decide +kernel
theorem d_233_97 : decode m233.2.1 97 = .ok (.istore_n 1, 1) := by decide +kernel
theorem d_233_98 : decode m233.2.1 98 = .ok (.goto (-96), 3) := by decide +kernel
theorem d_233_101 : decode m233.2.1 101 = .ok (.aload_n 0, 1) := by decide +kernel
theorem d_233_102 : decode m233.2.1 102 = .ok (.getfield 185, 3) := by decide +kernel
theorem d_233_105 : decode m233.2.1 105 = .ok (.ifCond .le 4, 3) := by decide +kernel
theorem d_233_108 : decode m233.2.1 108 = .ok (.return_, 1) := by decide +kernel
theorem d_233_109 : decode m233.2.1 109 = .ok (.aload_n 0, 1) := by decide +kernel
theorem d_233_110 : decode m233.2.1 110 = .ok (.invokevirtual 295, 3) := by decide +kernel
theorem d_233_113 : decode m233.2.1 113 = .ok (.istore_n 2, 1) := by decide +kernel
theorem d_233_114 : decode m233.2.1 114 = .ok (.aload_n 0, 1) := by decide +kernel
theorem d_233_115 : decode m233.2.1 115 = .ok (.getfield 172, 3) := by decide +kernel
theorem d_233_118 : decode m233.2.1 118 = .ok (.iconst 2, 1) := by decide +kernel
theorem d_233_119 : decode m233.2.1 119 = .ok (.if_icmp .eq 7, 3) := by decide +kernel
theorem d_233_122 : decode m233.2.1 122 = .ok (.iload_n 2, 1) := by decide +kernel
theorem d_233_123 : decode m233.2.1 123 = .ok (.ifCond .lt 10, 3) := by decide +kernel
theorem d_233_126 : decode m233.2.1 126 = .ok (.aload_n 0, 1) := by decide +kernel
theorem d_233_127 : decode m233.2.1 127 = .ok (.invokevirtual 289, 3) := by decide +kernel
theorem d_233_130 : decode m233.2.1 130 = .ok (.ifCond .eq 8, 3) := by decide +kernel
theorem d_233_133 : decode m233.2.1 133 = .ok (.aload_n 0, 1) := by decide +kernel
theorem d_233_134 : decode m233.2.1 134 = .ok (.iconst 2, 1) := by decide +kernel
theorem d_233_135 : decode m233.2.1 135 = .ok (.invokevirtual 238, 3) := by decide +kernel
theorem d_233_138 : decode m233.2.1 138 = .ok (.aload_n 0, 1) := by decide +kernel
theorem d_233_139 : decode m233.2.1 139 = .ok (.getfield 185, 3) := by decide +kernel
theorem d_233_142 : decode m233.2.1 142 = .ok (.ifCond .le 4, 3) := by decide +kernel
theorem d_233_145 : decode m233.2.1 145 = .ok (.return_, 1) := by decide +kernel
theorem d_233_146 : decode m233.2.1 146 = .ok (.aload_n 0, 1) := by decide +kernel
theorem d_233_147 : decode m233.2.1 147 = .ok (.invokevirtual 292, 3) := by decide +kernel
theorem d_233_150 : decode m233.2.1 150 = .ok (.aload_n 0, 1) := by decide +kernel
theorem d_233_151 : decode m233.2.1 151 = .ok (.iload_n 2, 1) := by decide +kernel
theorem d_233_152 : decode m233.2.1 152 = .ok (.ifCond .ge 7, 3) := by decide +kernel
theorem d_233_155 : decode m233.2.1 155 = .ok (.iconst 0, 1) := by decide +kernel
theorem d_233_156 : decode m233.2.1 156 = .ok (.goto 4, 3) := by decide +kernel
theorem d_233_159 : decode m233.2.1 159 = .ok (.iconst 1, 1) := by decide +kernel
theorem d_233_160 : decode m233.2.1 160 = .ok (.iload_n 2, 1) := by decide +kernel
theorem d_233_161 : decode m233.2.1 161 = .ok (.ifCond .ge 10, 3) := by decide +kernel
theorem d_233_164 : decode m233.2.1 164 = .ok (.aload_n 0, 1) := by decide +kernel
theorem d_233_165 : decode m233.2.1 165 = .ok (.getfield 169, 3) := by decide +kernel
theorem d_233_168 : decode m233.2.1 168 = .ok (.goto 4, 3) := by decide +kernel
theorem d_233_171 : decode m233.2.1 171 = .ok (.iload_n 2, 1) := by decide +kernel
theorem d_233_172 : decode m233.2.1 172 = .ok (.invokevirtual 270, 3) := by decide +kernel
theorem d_233_175 : decode m233.2.1 175 = .ok (.aload_n 0, 1) := by decide +kernel
theorem d_233_176 : decode m233.2.1 176 = .ok (.invokevirtual 241, 3) := by decide +kernel
theorem d_233_179 : decode m233.2.1 179 = .ok (.return_, 1) := by decide +kernel
theorem d_234_0 : decode m234.2.1 0 = .ok (.aload_n 0, 1) := by decide +kernel
theorem d_234_1 : decode m234.2.1 1 = .ok (.getfield 264, 3) := by decide +kernel
theorem d_234_4 : decode m234.2.1 4 = .ok (.ifCond .eq 37, 3) := by decide +kernel
theorem d_234_7 : decode m234.2.1 7 = .ok (.aload_n 0, 1) := by decide +kernel
theorem d_234_8 : decode m234.2.1 8 = .ok (.getfield 33, 3) := by decide +kernel
theorem d_234_11 : decode m234.2.1 11 = .ok (.aload_n 0, 1) := by decide +kernel
theorem d_234_12 : decode m234.2.1 12 = .ok (.getfield 264, 3) := by decide +kernel
theorem d_234_15 : decode m234.2.1 15 = .ok (.iconst 1, 1) := by decide +kernel
theorem d_234_16 : decode m234.2.1 16 = .ok (.isub, 1) := by decide +kernel
theorem d_234_17 : decode m234.2.1 17 = .ok (.iaload, 1) := by decide +kernel
theorem d_234_18 : decode m234.2.1 18 = .ok (.bipush 20, 2) := by decide +kernel
theorem d_234_20 : decode m234.2.1 20 = .ok (.if_icmp .eq 21, 3) := by decide +kernel
theorem d_234_23 : decode m234.2.1 23 = .ok (.aload_n 0, 1) := by decide +kernel
theorem d_234_24 : decode m234.2.1 24 = .ok (.getfield 33, 3) := by decide +kernel
theorem d_234_27 : decode m234.2.1 27 = .ok (.aload_n 0, 1) := by decide +kernel
theorem d_234_28 : decode m234.2.1 28 = .ok (.getfield 264, 3) := by decide +kernel
theorem d_234_31 : decode m234.2.1 31 = .ok (.iconst 1, 1) := by decide +kernel
theorem d_234_32 : decode m234.2.1 32 = .ok (.isub, 1) := by decide +kernel
theorem d_234_33 : decode m234.2.1 33 = .ok (.iaload, 1) := by decide +kernel
theorem d_234_34 : decode m234.2.1 34 = .ok (.invokestatic 267, 3) := by decide +kernel
theorem d_234_37 : decode m234.2.1 37 = .ok (.iconst 4, 1) := by decide +kernel
theorem d_234_38 : decode m234.2.1 38 = .ok (.if_icmp .ge 7, 3) := by decide +kernel
theorem d_234_41 : decode m234.2.1 41 = .ok (.iconst 1, 1) := by decide +kernel
theorem d_234_42 : decode m234.2.1 42 = .ok (.goto 4, 3) := by decide +kernel
theorem d_234_45 : decode m234.2.1 45 = .ok (.iconst 0, 1) := by decide +kernel
theorem d_234_46 : decode m234.2.1 46 = .ok (.ireturn, 1) := by decide +kernel
theorem d_235_0 : decode m235.2.1 0 = .ok (.iload_n 0, 1) := by decide +kernel
theorem d_235_1 : decode m235.2.1 1 = .ok (.lookupswitch 85 #[(21, 79), (38, 77), (43, 83), (45, 83), (60, 81), (61, 81), (62, 81), (124, 75)], 75) := by decide +kernel
theorem d_235_76 : decode m235.2.1 76 = .ok (.iconst 1, 1) := by decide +kernel
theorem d_235_77 : decode m235.2.1 77 = .ok (.ireturn, 1) := by decide +kernel
theorem d_235_78 : decode m235.2.1 78 = .ok (.iconst 2, 1) := by decide +kernel
theorem d_235_79 : decode m235.2.1 79 = .ok (.ireturn, 1) := by decide +kernel
theorem d_235_80 : decode m235.2.1 80 = .ok (.iconst 3, 1) := by decide +kernel
theorem d_235_81 : decode m235.2.1 81 = .ok (.ireturn, 1) := by decide +kernel
theorem d_235_82 : decode m235.2.1 82 = .ok (.iconst 4, 1) := by decide +kernel
theorem d_235_83 : decode m235.2.1 83 = .ok (.ireturn, 1) := by decide +kernel
theorem d_235_84 : decode m235.2.1 84 = .ok (.iconst 5, 1) := by decide +kernel
theorem d_235_85 : decode m235.2.1 85 = .ok (.ireturn, 1) := by decide +kernel
theorem d_235_86 : decode m235.2.1 86 = .ok (.bipush 6, 2) := by decide +kernel
theorem d_235_88 : decode m235.2.1 88 = .ok (.ireturn, 1) := by decide +kernel
theorem d_236_0 : decode m236.2.1 0 = .ok (.aload_n 0, 1) := by decide +kernel
theorem d_236_1 : decode m236.2.1 1 = .ok (.getfield 33, 3) := by decide +kernel
theorem d_236_4 : decode m236.2.1 4 = .ok (.aload_n 0, 1) := by decide +kernel
theorem d_236_5 : decode m236.2.1 5 = .ok (.getfield 264, 3) := by decide +kernel
theorem d_236_8 : decode m236.2.1 8 = .ok (.iload_n 1, 1) := by decide +kernel
theorem d_236_9 : decode m236.2.1 9 = .ok (.iastore, 1) := by decide +kernel
theorem d_236_10 : decode m236.2.1 10 = .ok (.aload_n 0, 1) := by decide +kernel
theorem d_236_11 : decode m236.2.1 11 = .ok (.dup, 1) := by decide +kernel
theorem d_236_12 : decode m236.2.1 12 = .ok (.getfield 264, 3) := by decide +kernel
theorem d_236_15 : decode m236.2.1 15 = .ok (.iconst 1, 1) := by decide +kernel
theorem d_236_16 : decode m236.2.1 16 = .ok (.iadd, 1) := by decide +kernel
theorem d_236_17 : decode m236.2.1 17 = .ok (.putfield 264, 3) := by decide +kernel
theorem d_236_20 : decode m236.2.1 20 = .ok (.aload_n 0, 1) := by decide +kernel
theorem d_236_21 : decode m236.2.1 21 = .ok (.dup, 1) := by decide +kernel
theorem d_236_22 : decode m236.2.1 22 = .ok (.getfield 274, 3) := by decide +kernel
theorem d_236_25 : decode m236.2.1 25 = .ok (.iconst 1, 1) := by decide +kernel
theorem d_236_26 : decode m236.2.1 26 = .ok (.iadd, 1) := by decide +kernel
theorem d_236_27 : decode m236.2.1 27 = .ok (.putfield 274, 3) := by decide +kernel
theorem d_236_30 : decode m236.2.1 30 = .ok (.aload_n 0, 1) := by decide +kernel
theorem d_236_31 : decode m236.2.1 31 = .ok (.getfield 185, 3) := by decide +kernel
theorem d_236_34 : decode m236.2.1 34 = .ok (.ifCond .ne 7, 3) := by decide +kernel
theorem d_236_37 : decode m236.2.1 37 = .ok (.aload_n 0, 1) := by decide +kernel
theorem d_236_38 : decode m236.2.1 38 = .ok (.invokevirtual 241, 3) := by decide +kernel
theorem d_236_41 : decode m236.2.1 41 = .ok (.return_, 1) := by decide +kernel
theorem d_237_0 : decode m237.2.1 0 = .ok (.aload_n 0, 1) := by decide +kernel
theorem d_237_1 : decode m237.2.1 1 = .ok (.getfield 277, 3) := by decide +kernel
theorem d_237_4 : decode m237.2.1 4 = .ok (.bipush 60, 2) := by decide +kernel
theorem d_237_6 : decode m237.2.1 6 = .ok (.if_icmp .eq 12, 3) := by decide +kernel
theorem d_237_9 : decode m237.2.1 9 = .ok (.aload_n 0, 1) := by decide +kernel
theorem d_237_10 : decode m237.2.1 10 = .ok (.getfield 280, 3) := by decide +kernel
theorem d_237_13 : decode m237.2.1 13 = .ok (.bipush 30, 2) := by decide +kernel
theorem d_237_15 : decode m237.2.1 15 = .ok (.if_icmp .ne 7, 3) := by decide +kernel
theorem d_237_18 : decode m237.2.1 18 = .ok (.iconst 1, 1) := by decide +kernel
theorem d_237_19 : decode m237.2.1 19 = .ok (.goto 4, 3) := by decide +kernel
theorem d_237_22 : decode m237.2.1 22 = .ok (.iconst 0, 1) := by decide +kernel
theorem d_237_23 : decode m237.2.1 23 = .ok (.ireturn, 1) := by decide +kernel
theorem d_238_0 : decode m238.2.1 0 = .ok (.aload_n 0, 1) := by decide +kernel
theorem d_238_1 : decode m238.2.1 1 = .ok (.dup, 1) := by decide +kernel
theorem d_238_2 : decode m238.2.1 2 = .ok (.getfield 277, 3) := by decide +kernel
theorem d_238_5 : decode m238.2.1 5 = .ok (.iconst 1, 1) := by decide +kernel
theorem d_238_6 : decode m238.2.1 6 = .ok (.iadd, 1) := by decide +kernel
theorem d_238_7 : decode m238.2.1 7 = .ok (.putfield 277, 3) := by decide +kernel
theorem d_238_10 : decode m238.2.1 10 = .ok (.aload_n 0, 1) := by decide +kernel
theorem d_238_11 : decode m238.2.1 11 = .ok (.dup, 1) := by decide +kernel
theorem d_238_12 : decode m238.2.1 12 = .ok (.getfield 280, 3) := by decide +kernel
theorem d_238_15 : decode m238.2.1 15 = .ok (.iconst 1, 1) := by decide +kernel
theorem d_238_16 : decode m238.2.1 16 = .ok (.iadd, 1) := by decide +kernel
theorem d_238_17 : decode m238.2.1 17 = .ok (.putfield 280, 3) := by decide +kernel
theorem d_238_20 : decode m238.2.1 20 = .ok (.return_, 1) := by decide +kernel
theorem d_239_0 : decode m239.2.1 0 = .ok (.aload_n 0, 1) := by decide +kernel
theorem d_239_1 : decode m239.2.1 1 = .ok (.getfield 172, 3) := by decide +kernel
theorem d_239_4 : decode m239.2.1 4 = .ok (.iconst 1, 1) := by decide +kernel
theorem d_239_5 : decode m239.2.1 5 = .ok (.if_icmp .eq 5, 3) := by decide +kernel
theorem d_239_8 : decode m239.2.1 8 = .ok (.iconst (-1), 1) := by decide +kernel
theorem d_239_9 : decode m239.2.1 9 = .ok (.ireturn, 1) := by decide +kernel
theorem d_239_10 : decode m239.2.1 10 = .ok (.aload_n 0, 1) := by decide +kernel
theorem d_239_11 : decode m239.2.1 11 = .ok (.getfield 165, 3) := by decide +kernel
theorem d_239_14 : decode m239.2.1 14 = .ok (.ldc2_w 218, 3) := by decide +kernel
theorem d_239_17 : decode m239.2.1 17 = .ok (.lcmp, 1) := by decide +kernel
theorem d_239_18 : decode m239.2.1 18 = .ok (.ifCond .ne 5, 3) := by decide +kernel
theorem d_239_21 : decode m239.2.1 21 = .ok (.iconst 0, 1) := by decide +kernel
theorem d_239_22 : decode m239.2.1 22 = .ok (.ireturn, 1) := by decide +kernel
theorem d_239_23 : decode m239.2.1 23 = .ok (.aload_n 0, 1) := by decide +kernel
theorem d_239_24 : decode m239.2.1 24 = .ok (.getfield 165, 3) := by decide +kernel
theorem d_239_27 : decode m239.2.1 27 = .ok (.ldc2_w 202, 3) := by decide +kernel
theorem d_239_30 : decode m239.2.1 30 = .ok (.lcmp, 1) := by decide +kernel
theorem d_239_31 : decode m239.2.1 31 = .ok (.ifCond .ne 5, 3) := by decide +kernel
theorem d_239_34 : decode m239.2.1 34 = .ok (.iconst 1, 1) := by decide +kernel
theorem d_239_35 : decode m239.2.1 35 = .ok (.ireturn, 1) := by decide +kernel
theorem d_239_36 : decode m239.2.1 36 = .ok (.aload_n 0, 1) := by decide +kernel
theorem d_239_37 : decode m239.2.1 37 = .ok (.getfield 165, 3) := by decide +kernel
theorem d_239_40 : decode m239.2.1 40 = .ok (.ldc2_w 204, 3) := by decide +kernel
theorem d_239_43 : decode m239.2.1 43 = .ok (.lcmp, 1) := by decide +kernel
theorem d_239_44 : decode m239.2.1 44 = .ok (.ifCond .ne 5, 3) := by decide +kernel
theorem d_239_47 : decode m239.2.1 47 = .ok (.iconst 2, 1) := by decide +kernel
theorem d_239_48 : decode m239.2.1 48 = .ok (.ireturn, 1) := by decide +kernel
theorem d_239_49 : decode m239.2.1 49 = .ok (.aload_n 0, 1) := by decide +kernel
theorem d_239_50 : decode m239.2.1 50 = .ok (.getfield 165, 3) := by decide +kernel
theorem d_239_53 : decode m239.2.1 53 = .ok (.ldc2_w 206, 3) := by decide +kernel
theorem d_239_56 : decode m239.2.1 56 = .ok (.lcmp, 1) := by decide +kernel
theorem d_239_57 : decode m239.2.1 57 = .ok (.ifCond .ne 5, 3) := by decide +kernel
theorem d_239_60 : decode m239.2.1 60 = .ok (.iconst 3, 1) := by decide +kernel
theorem d_239_61 : decode m239.2.1 61 = .ok (.ireturn, 1) := by decide +kernel
theorem d_239_62 : decode m239.2.1 62 = .ok (.aload_n 0, 1) := by decide +kernel
theorem d_239_63 : decode m239.2.1 63 = .ok (.getfield 165, 3) := by decide +kernel
theorem d_239_66 : decode m239.2.1 66 = .ok (.ldc2_w 220, 3) := by decide +kernel
theorem d_239_69 : decode m239.2.1 69 = .ok (.lcmp, 1) := by decide +kernel
theorem d_239_70 : decode m239.2.1 70 = .ok (.ifCond .ne 5, 3) := by decide +kernel
theorem d_239_73 : decode m239.2.1 73 = .ok (.iconst 4, 1) := by decide +kernel
theorem d_239_74 : decode m239.2.1 74 = .ok (.ireturn, 1) := by decide +kernel
theorem d_239_75 : decode m239.2.1 75 = .ok (.aload_n 0, 1) := by decide +kernel
theorem d_239_76 : decode m239.2.1 76 = .ok (.getfield 165, 3) := by decide +kernel
theorem d_239_79 : decode m239.2.1 79 = .ok (.ldc2_w 222, 3) := by decide +kernel
theorem d_239_82 : decode m239.2.1 82 = .ok (.lcmp, 1) := by decide +kernel
theorem d_239_83 : decode m239.2.1 83 = .ok (.ifCond .ne 7, 3) := by decide +kernel
theorem d_239_86 : decode m239.2.1 86 = .ok (.iconst 5, 1) := by decide +kernel
theorem d_239_87 : decode m239.2.1 87 = .ok (.goto 4, 3) := by decide +kernel
theorem d_239_90 : decode m239.2.1 90 = .ok (.iconst (-1), 1) := by decide +kernel
theorem d_239_91 : decode m239.2.1 91 = .ok (.ireturn, 1) := by decide +kernel
theorem d_240_0 : decode m240.2.1 0 = .ok (.aload_n 0, 1) := by decide +kernel
theorem d_240_1 : decode m240.2.1 1 = .ok (.getfield 21, 3) := by decide +kernel
theorem d_240_4 : decode m240.2.1 4 = .ok (.aload_n 0, 1) := by decide +kernel
theorem d_240_5 : decode m240.2.1 5 = .ok (.getfield 261, 3) := by decide +kernel
theorem d_240_8 : decode m240.2.1 8 = .ok (.iload_n 1, 1) := by decide +kernel
theorem d_240_9 : decode m240.2.1 9 = .ok (.iastore, 1) := by decide +kernel
theorem d_240_10 : decode m240.2.1 10 = .ok (.aload_n 0, 1) := by decide +kernel
theorem d_240_11 : decode m240.2.1 11 = .ok (.getfield 24, 3) := by decide +kernel
theorem d_240_14 : decode m240.2.1 14 = .ok (.aload_n 0, 1) := by decide +kernel
theorem d_240_15 : decode m240.2.1 15 = .ok (.getfield 261, 3) := by decide +kernel
theorem d_240_18 : decode m240.2.1 18 = .ok (.iload_n 2, 1) := by decide +kernel
theorem d_240_19 : decode m240.2.1 19 = .ok (.iastore, 1) := by decide +kernel
theorem d_240_20 : decode m240.2.1 20 = .ok (.aload_n 0, 1) := by decide +kernel
theorem d_240_21 : decode m240.2.1 21 = .ok (.dup, 1) := by decide +kernel
theorem d_240_22 : decode m240.2.1 22 = .ok (.getfield 261, 3) := by decide +kernel
theorem d_240_25 : decode m240.2.1 25 = .ok (.iconst 1, 1) := by decide +kernel
theorem d_240_26 : decode m240.2.1 26 = .ok (.iadd, 1) := by decide +kernel
theorem d_240_27 : decode m240.2.1 27 = .ok (.putfield 261, 3) := by decide +kernel
theorem d_240_30 : decode m240.2.1 30 = .ok (.return_, 1) := by decide +kernel
theorem d_241_0 : decode m241.2.1 0 = .ok (.aload_n 0, 1) := by decide +kernel
theorem d_241_1 : decode m241.2.1 1 = .ok (.ldc2_w 224, 3) := by decide +kernel
theorem d_241_4 : decode m241.2.1 4 = .ok (.invokevirtual 234, 3) := by decide +kernel
theorem d_241_7 : decode m241.2.1 7 = .ok (.ifCond .eq 6, 3) := by decide +kernel
theorem d_241_10 : decode m241.2.1 10 = .ok (.bipush 38, 2) := by decide +kernel
theorem d_241_12 : decode m241.2.1 12 = .ok (.ireturn, 1) := by decide +kernel
theorem d_241_13 : decode m241.2.1 13 = .ok (.aload_n 0, 1) := by decide +kernel
theorem d_241_14 : decode m241.2.1 14 = .ok (.ldc2_w 226, 3) := by decide +kernel
theorem d_241_17 : decode m241.2.1 17 = .ok (.invokevirtual 234, 3) := by decide +kernel
theorem d_241_20 : decode m241.2.1 20 = .ok (.ifCond .eq 6, 3) := by decide +kernel
theorem d_241_23 : decode m241.2.1 23 = .ok (.bipush 124, 2) := by decide +kernel
theorem d_241_25 : decode m241.2.1 25 = .ok (.ireturn, 1) := by decide +kernel
theorem d_241_26 : decode m241.2.1 26 = .ok (.aload_n 0, 1) := by decide +kernel
theorem d_241_27 : decode m241.2.1 27 = .ok (.getfield 172, 3) := by decide +kernel
theorem d_241_30 : decode m241.2.1 30 = .ok (.bipush 60, 2) := by decide +kernel
theorem d_241_32 : decode m241.2.1 32 = .ok (.if_icmp .eq 66, 3) := by decide +kernel
theorem d_241_35 : decode m241.2.1 35 = .ok (.aload_n 0, 1) := by decide +kernel
theorem d_241_36 : decode m241.2.1 36 = .ok (.getfield 172, 3) := by decide +kernel
theorem d_241_39 : decode m241.2.1 39 = .ok (.bipush 62, 2) := by decide +kernel
theorem d_241_41 : decode m241.2.1 41 = .ok (.if_icmp .eq 57, 3) := by decide +kernel
theorem d_241_44 : decode m241.2.1 44 = .ok (.aload_n 0, 1) := by decide +kernel
theorem d_241_45 : decode m241.2.1 45 = .ok (.getfield 172, 3) := by decide +kernel
theorem d_241_48 : decode m241.2.1 48 = .ok (.bipush 61, 2) := by decide +kernel
theorem d_241_50 : decode m241.2.1 50 = .ok (.if_icmp .eq 48, 3) := by decide +kernel
theorem d_241_53 : decode m241.2.1 53 = .ok (.aload_n 0, 1) := by decide +kernel
theorem d_241_54 : decode m241.2.1 54 = .ok (.getfield 172, 3) := by decide +kernel
theorem d_241_57 : decode m241.2.1 57 = .ok (.bipush 43, 2) := by decide +kernel
theorem d_241_59 : decode m241.2.1 59 = .ok (.if_icmp .eq 39, 3) := by decide +kernel
theorem d_241_62 : decode m241.2.1 62 = .ok (.aload_n 0, 1) := by decide +kernel
theorem d_241_63 : decode m241.2.1 63 = .ok (.getfield 172, 3) := by decide +kernel
theorem d_241_66 : decode m241.2.1 66 = .ok (.bipush 45, 2) := by decide +kernel
theorem d_241_68 : decode m241.2.1 68 = .ok (.if_icmp .eq 30, 3) := by decide +kernel
theorem d_241_71 : decode m241.2.1 71 = .ok (.aload_n 0, 1) := by decide +kernel
theorem d_241_72 : decode m241.2.1 72 = .ok (.getfield 172, 3) := by decide +kernel
theorem d_241_75 : decode m241.2.1 75 = .ok (.bipush 42, 2) := by decide +kernel
theorem d_241_77 : decode m241.2.1 77 = .ok (.if_icmp .eq 21, 3) := by decide +kernel
theorem d_241_80 : decode m241.2.1 80 = .ok (.aload_n 0, 1) := by decide +kernel
theorem d_241_81 : decode m241.2.1 81 = .ok (.getfield 172, 3) := by decide +kernel
theorem d_241_84 : decode m241.2.1 84 = .ok (.bipush 47, 2) := by decide +kernel
theorem d_241_86 : decode m241.2.1 86 = .ok (.if_icmp .eq 12, 3) := by decide +kernel
theorem d_241_89 : decode m241.2.1 89 = .ok (.aload_n 0, 1) := by decide +kernel
theorem d_241_90 : decode m241.2.1 90 = .ok (.getfield 172, 3) := by decide +kernel
theorem d_241_93 : decode m241.2.1 93 = .ok (.bipush 37, 2) := by decide +kernel
theorem d_241_95 : decode m241.2.1 95 = .ok (.if_icmp .ne 10, 3) := by decide +kernel
theorem d_241_98 : decode m241.2.1 98 = .ok (.aload_n 0, 1) := by decide +kernel
theorem d_241_99 : decode m241.2.1 99 = .ok (.getfield 172, 3) := by decide +kernel
theorem d_241_102 : decode m241.2.1 102 = .ok (.goto 4, 3) := by decide +kernel
theorem d_241_105 : decode m241.2.1 105 = .ok (.iconst 0, 1) := by decide +kernel
theorem d_241_106 : decode m241.2.1 106 = .ok (.ireturn, 1) := by decide +kernel
theorem d_242_0 : decode m242.2.1 0 = .ok (.iconst 0, 1) := by decide +kernel
theorem d_242_1 : decode m242.2.1 1 = .ok (.istore_n 1, 1) := by decide +kernel
theorem d_242_2 : decode m242.2.1 2 = .ok (.iconst 0, 1) := by decide +kernel
theorem d_242_3 : decode m242.2.1 3 = .ok (.istore_n 2, 1) := by decide +kernel
theorem d_242_4 : decode m242.2.1 4 = .ok (.iload_n 2, 1) := by decide +kernel
theorem d_242_5 : decode m242.2.1 5 = .ok (.aload_n 0, 1) := by decide +kernel
theorem d_242_6 : decode m242.2.1 6 = .ok (.getfield 264, 3) := by decide +kernel
theorem d_242_9 : decode m242.2.1 9 = .ok (.if_icmp .ge 30, 3) := by decide +kernel
theorem d_242_12 : decode m242.2.1 12 = .ok (.iload_n 1, 1) := by decide +kernel
theorem d_242_13 : decode m242.2.1 13 = .ok (.ifCond .ne 14, 3) := by decide +kernel
theorem d_242_16 : decode m242.2.1 16 = .ok (.aload_n 0, 1) := by decide +kernel
theorem d_242_17 : decode m242.2.1 17 = .ok (.getfield 33, 3) := by decide +kernel
theorem d_242_20 : decode m242.2.1 20 = .ok (.iload_n 2, 1) := by decide +kernel
theorem d_242_21 : decode m242.2.1 21 = .ok (.iaload, 1) := by decide +kernel
theorem d_242_22 : decode m242.2.1 22 = .ok (.bipush 20, 2) := by decide +kernel
theorem d_242_24 : decode m242.2.1 24 = .ok (.if_icmp .ne 7, 3) := by decide +kernel
theorem d_242_27 : decode m242.2.1 27 = .ok (.iconst 1, 1) := by decide +kernel
theorem d_242_28 : decode m242.2.1 28 = .ok (.goto 4, 3) := by decide +kernel
theorem d_242_31 : decode m242.2.1 31 = .ok (.iconst 0, 1) := by decide +kernel
theorem d_242_32 : decode m242.2.1 32 = .ok (.istore_n 1, 1) := by decide +kernel
theorem d_242_33 : decode m242.2.1 33 = .ok (.iinc 2 1, 3) := by decide +kernel
theorem d_242_36 : decode m242.2.1 36 = .ok (.goto (-32), 3) := by decide +kernel
theorem d_242_39 : decode m242.2.1 39 = .ok (.iload_n 1, 1) := by decide +kernel
theorem d_242_40 : decode m242.2.1 40 = .ok (.ireturn, 1) := by decide +kernel
theorem d_243_0 : decode m243.2.1 0 = .ok (.aload_n 0, 1) := by decide +kernel
theorem d_243_1 : decode m243.2.1 1 = .ok (.getfield 264, 3) := by decide +kernel
theorem d_243_4 : decode m243.2.1 4 = .ok (.ifCond .le 97, 3) := by decide +kernel
theorem d_243_7 : decode m243.2.1 7 = .ok (.aload_n 0, 1) := by decide +kernel
theorem d_243_8 : decode m243.2.1 8 = .ok (.getfield 33, 3) := by decide +kernel
theorem d_243_11 : decode m243.2.1 11 = .ok (.aload_n 0, 1) := by decide +kernel
theorem d_243_12 : decode m243.2.1 12 = .ok (.getfield 264, 3) := by decide +kernel
theorem d_243_15 : decode m243.2.1 15 = .ok (.iconst 1, 1) := by decide +kernel
theorem d_243_16 : decode m243.2.1 16 = .ok (.isub, 1) := by decide +kernel
theorem d_243_17 : decode m243.2.1 17 = .ok (.iaload, 1) := by decide +kernel
theorem d_243_18 : decode m243.2.1 18 = .ok (.bipush 20, 2) := by decide +kernel
theorem d_243_20 : decode m243.2.1 20 = .ok (.if_icmp .eq 81, 3) := by decide +kernel
theorem d_243_23 : decode m243.2.1 23 = .ok (.aload_n 0, 1) := by decide +kernel
theorem d_243_24 : decode m243.2.1 24 = .ok (.getfield 33, 3) := by decide +kernel
theorem d_243_27 : decode m243.2.1 27 = .ok (.aload_n 0, 1) := by decide +kernel
theorem d_243_28 : decode m243.2.1 28 = .ok (.getfield 264, 3) := by decide +kernel
theorem d_243_31 : decode m243.2.1 31 = .ok (.iconst 1, 1) := by decide +kernel
theorem d_243_32 : decode m243.2.1 32 = .ok (.isub, 1) := by decide +kernel
theorem d_243_33 : decode m243.2.1 33 = .ok (.iaload, 1) := by decide +kernel
theorem d_243_34 : decode m243.2.1 34 = .ok (.invokestatic 267, 3) := by decide +kernel
theorem d_243_37 : decode m243.2.1 37 = .ok (.iload_n 1, 1) := by decide +kernel
theorem d_243_38 : decode m243.2.1 38 = .ok (.if_icmp .lt 63, 3) := by decide +kernel
theorem d_243_41 : decode m243.2.1 41 = .ok (.aload_n 0, 1) := by decide +kernel
theorem d_243_42 : decode m243.2.1 42 = .ok (.dup, 1) := by decide +kernel
theorem d_243_43 : decode m243.2.1 43 = .ok (.getfield 264, 3) := by decide +kernel
theorem d_243_46 : decode m243.2.1 46 = .ok (.iconst 1, 1) := by decide +kernel
theorem d_243_47 : decode m243.2.1 47 = .ok (.isub, 1) := by decide +kernel
theorem d_243_48 : decode m243.2.1 48 = .ok (.putfield 264, 3) := by decide +kernel
theorem d_243_51 : decode m243.2.1 51 = .ok (.aload_n 0, 1) := by decide +kernel
theorem d_243_52 : decode m243.2.1 52 = .ok (.getfield 33, 3) := by decide +kernel
theorem d_243_55 : decode m243.2.1 55 = .ok (.aload_n 0, 1) := by decide +kernel
theorem d_243_56 : decode m243.2.1 56 = .ok (.getfield 264, 3) := by decide +kernel
theorem d_243_59 : decode m243.2.1 59 = .ok (.iaload, 1) := by decide +kernel
theorem d_243_60 : decode m243.2.1 60 = .ok (.bipush 21, 2) := by decide +kernel
theorem d_243_62 : decode m243.2.1 62 = .ok (.if_icmp .ne 22, 3) := by decide +kernel
theorem d_243_65 : decode m243.2.1 65 = .ok (.aload_n 0, 1) := by decide +kernel
theorem d_243_66 : decode m243.2.1 66 = .ok (.iconst 2, 1) := by decide +kernel
theorem d_243_67 : decode m243.2.1 67 = .ok (.iconst 0, 1) := by decide +kernel
theorem d_243_68 : decode m243.2.1 68 = .ok (.invokevirtual 270, 3) := by decide +kernel
theorem d_243_71 : decode m243.2.1 71 = .ok (.aload_n 0, 1) := by decide +kernel
theorem d_243_72 : decode m243.2.1 72 = .ok (.dup, 1) := by decide +kernel
theorem d_243_73 : decode m243.2.1 73 = .ok (.getfield 274, 3) := by decide +kernel
theorem d_243_76 : decode m243.2.1 76 = .ok (.iconst 1, 1) := by decide +kernel
theorem d_243_77 : decode m243.2.1 77 = .ok (.isub, 1) := by decide +kernel
theorem d_243_78 : decode m243.2.1 78 = .ok (.putfield 274, 3) := by decide +kernel
theorem d_243_81 : decode m243.2.1 81 = .ok (.goto (-81), 3) := by decide +kernel
theorem d_243_84 : decode m243.2.1 84 = .ok (.aload_n 0, 1) := by decide +kernel
theorem d_243_85 : decode m243.2.1 85 = .ok (.iconst 3, 1) := by decide +kernel
theorem d_243_86 : decode m243.2.1 86 = .ok (.aload_n 0, 1) := by decide +kernel
theorem d_243_87 : decode m243.2.1 87 = .ok (.getfield 33, 3) := by decide +kernel
theorem d_243_90 : decode m243.2.1 90 = .ok (.aload_n 0, 1) := by decide +kernel
theorem d_243_91 : decode m243.2.1 91 = .ok (.getfield 264, 3) := by decide +kernel
theorem d_243_94 : decode m243.2.1 94 = .ok (.iaload, 1) := by decide +kernel
theorem d_243_95 : decode m243.2.1 95 = .ok (.invokevirtual 270, 3) := by decide +kernel
theorem d_243_98 : decode m243.2.1 98 = .ok (.goto (-98), 3) := by decide +kernel
theorem d_243_101 : decode m243.2.1 101 = .ok (.return_, 1) := by decide +kernel
theorem d_244_0 : decode m244.2.1 0 = .ok (.aload_n 0, 1) := by decide +kernel
theorem d_244_1 : decode m244.2.1 1 = .ok (.getfield 264, 3) := by decide +kernel
theorem d_244_4 : decode m244.2.1 4 = .ok (.iconst 1, 1) := by decide +kernel
theorem d_244_5 : decode m244.2.1 5 = .ok (.isub, 1) := by decide +kernel
theorem d_244_6 : decode m244.2.1 6 = .ok (.istore_n 1, 1) := by decide +kernel
theorem d_244_7 : decode m244.2.1 7 = .ok (.iload_n 1, 1) := by decide +kernel
theorem d_244_8 : decode m244.2.1 8 = .ok (.ifCond .lt 33, 3) := by decide +kernel
theorem d_244_11 : decode m244.2.1 11 = .ok (.aload_n 0, 1) := by decide +kernel
theorem d_244_12 : decode m244.2.1 12 = .ok (.getfield 33, 3) := by decide +kernel
theorem d_244_15 : decode m244.2.1 15 = .ok (.iload_n 1, 1) := by decide +kernel
theorem d_244_16 : decode m244.2.1 16 = .ok (.iaload, 1) := by decide +kernel
theorem d_244_17 : decode m244.2.1 17 = .ok (.bipush 20, 2) := by decide +kernel
theorem d_244_19 : decode m244.2.1 19 = .ok (.if_icmp .eq 22, 3) := by decide +kernel
theorem d_244_22 : decode m244.2.1 22 = .ok (.aload_n 0, 1) := by decide +kernel
theorem d_244_23 : decode m244.2.1 23 = .ok (.getfield 33, 3) := by decide +kernel
theorem d_244_26 : decode m244.2.1 26 = .ok (.iload_n 1, 1) := by decide +kernel
theorem d_244_27 : decode m244.2.1 27 = .ok (.iaload, 1) := by decide +kernel
theorem d_244_28 : decode m244.2.1 28 = .ok (.invokestatic 267, 3) := by decide +kernel
theorem d_244_31 : decode m244.2.1 31 = .ok (.iconst 4, 1) := by decide +kernel
theorem d_244_32 : decode m244.2.1 32 = .ok (.if_icmp .le 9, 3) := by decide +kernel
theorem d_244_35 : decode m244.2.1 35 = .ok (.iinc 1 (-1), 3) := by decide +kernel
theorem d_244_38 : decode m244.2.1 38 = .ok (.goto (-31), 3) := by decide +kernel
theorem d_244_41 : decode m244.2.1 41 = .ok (.iload_n 1, 1) := by decide +kernel
theorem d_244_42 : decode m244.2.1 42 = .ok (.ifCond .lt 31, 3) := by decide +kernel
theorem d_244_45 : decode m244.2.1 45 = .ok (.aload_n 0, 1) := by decide +kernel
theorem d_244_46 : decode m244.2.1 46 = .ok (.getfield 33, 3) := by decide +kernel
theorem d_244_49 : decode m244.2.1 49 = .ok (.iload_n 1, 1) := by decide +kernel
theorem d_244_50 : decode m244.2.1 50 = .ok (.iaload, 1) := by decide +kernel
theorem d_244_51 : decode m244.2.1 51 = .ok (.bipush 20, 2) := by decide +kernel
theorem d_244_53 : decode m244.2.1 53 = .ok (.if_icmp .eq 20, 3) := by decide +kernel
theorem d_244_56 : decode m244.2.1 56 = .ok (.aload_n 0, 1) := by decide +kernel
theorem d_244_57 : decode m244.2.1 57 = .ok (.getfield 33, 3) := by decide +kernel
theorem d_244_60 : decode m244.2.1 60 = .ok (.iload_n 1, 1) := by decide +kernel
theorem d_244_61 : decode m244.2.1 61 = .ok (.iaload, 1) := by decide +kernel
theorem d_244_62 : decode m244.2.1 62 = .ok (.invokestatic 267, 3) := by decide +kernel
theorem d_244_65 : decode m244.2.1 65 = .ok (.iconst 4, 1) := by decide +kernel
theorem d_244_66 : decode m244.2.1 66 = .ok (.if_icmp .ne 7, 3) := by decide +kernel
theorem d_244_69 : decode m244.2.1 69 = .ok (.iconst 1, 1) := by decide +kernel
theorem d_244_70 : decode m244.2.1 70 = .ok (.goto 4, 3) := by decide +kernel
theorem d_244_73 : decode m244.2.1 73 = .ok (.iconst 0, 1) := by decide +kernel
theorem d_244_74 : decode m244.2.1 74 = .ok (.ireturn, 1) := by decide +kernel
theorem d_245_0 : decode m245.2.1 0 = .ok (.iconst 0, 1) := by decide +kernel
theorem d_245_1 : decode m245.2.1 1 = .ok (.istore_n 1, 1) := by decide +kernel
theorem d_245_2 : decode m245.2.1 2 = .ok (.iload_n 1, 1) := by decide +kernel
theorem d_245_3 : decode m245.2.1 3 = .ok (.bipush 41, 2) := by decide +kernel
theorem d_245_5 : decode m245.2.1 5 = .ok (.if_icmp .ge 16, 3) := by decide +kernel
theorem d_245_8 : decode m245.2.1 8 = .ok (.aload_n 0, 1) := by decide +kernel
theorem d_245_9 : decode m245.2.1 9 = .ok (.getfield 96, 3) := by decide +kernel
theorem d_245_12 : decode m245.2.1 12 = .ok (.iload_n 1, 1) := by decide +kernel
theorem d_245_13 : decode m245.2.1 13 = .ok (.iconst 0, 1) := by decide +kernel
theorem d_245_14 : decode m245.2.1 14 = .ok (.iastore, 1) := by decide +kernel
theorem d_245_15 : decode m245.2.1 15 = .ok (.iinc 1 1, 3) := by decide +kernel
theorem d_245_18 : decode m245.2.1 18 = .ok (.goto (-16), 3) := by decide +kernel
theorem d_245_21 : decode m245.2.1 21 = .ok (.iconst 0, 1) := by decide +kernel
theorem d_245_22 : decode m245.2.1 22 = .ok (.istore_n 1, 1) := by decide +kernel
theorem d_245_23 : decode m245.2.1 23 = .ok (.iload_n 1, 1) := by decide +kernel
theorem d_245_24 : decode m245.2.1 24 = .ok (.aload_n 0, 1) := by decide +kernel
theorem d_245_25 : decode m245.2.1 25 = .ok (.getfield 322, 3) := by decide +kernel
theorem d_245_28 : decode m245.2.1 28 = .ok (.if_icmp .ge 54, 3) := by decide +kernel
theorem d_245_31 : decode m245.2.1 31 = .ok (.aload_n 0, 1) := by decide +kernel
theorem d_245_32 : decode m245.2.1 32 = .ok (.getfield 96, 3) := by decide +kernel
theorem d_245_35 : decode m245.2.1 35 = .ok (.bipush 10, 2) := by decide +kernel
theorem d_245_37 : decode m245.2.1 37 = .ok (.iload_n 1, 1) := by decide +kernel
theorem d_245_38 : decode m245.2.1 38 = .ok (.iadd, 1) := by decide +kernel
theorem d_245_39 : decode m245.2.1 39 = .ok (.aload_n 0, 1) := by decide +kernel
theorem d_245_40 : decode m245.2.1 40 = .ok (.getfield 69, 3) := by decide +kernel
theorem d_245_43 : decode m245.2.1 43 = .ok (.iload_n 1, 1) := by decide +kernel
theorem d_245_44 : decode m245.2.1 44 = .ok (.iaload, 1) := by decide +kernel
theorem d_245_45 : decode m245.2.1 45 = .ok (.iastore, 1) := by decide +kernel
theorem d_245_46 : decode m245.2.1 46 = .ok (.aload_n 0, 1) := by decide +kernel
theorem d_245_47 : decode m245.2.1 47 = .ok (.getfield 96, 3) := by decide +kernel
theorem d_245_50 : decode m245.2.1 50 = .ok (.bipush 20, 2) := by decide +kernel
theorem d_245_52 : decode m245.2.1 52 = .ok (.iload_n 1, 1) := by decide +kernel
theorem d_245_53 : decode m245.2.1 53 = .ok (.iadd, 1) := by decide +kernel
theorem d_245_54 : decode m245.2.1 54 = .ok (.aload_n 0, 1) := by decide +kernel
theorem d_245_55 : decode m245.2.1 55 = .ok (.getfield 72, 3) := by decide +kernel
theorem d_245_58 : decode m245.2.1 58 = .ok (.iload_n 1, 1) := by decide +kernel
theorem d_245_59 : decode m245.2.1 59 = .ok (.iaload, 1) := by decide +kernel
theorem d_245_60 : decode m245.2.1 60 = .ok (.iastore, 1) := by decide +kernel
theorem d_245_61 : decode m245.2.1 61 = .ok (.aload_n 0, 1) := by decide +kernel
theorem d_245_62 : decode m245.2.1 62 = .ok (.getfield 96, 3) := by decide +kernel
theorem d_245_65 : decode m245.2.1 65 = .ok (.bipush 30, 2) := by decide +kernel
theorem d_245_67 : decode m245.2.1 67 = .ok (.iload_n 1, 1) := by decide +kernel
theorem d_245_68 : decode m245.2.1 68 = .ok (.iadd, 1) := by decide +kernel
theorem d_245_69 : decode m245.2.1 69 = .ok (.aload_n 0, 1) := by decide +kernel
theorem d_245_70 : decode m245.2.1 70 = .ok (.getfield 75, 3) := by decide +kernel
theorem d_245_73 : decode m245.2.1 73 = .ok (.iload_n 1, 1) := by decide +kernel
theorem d_245_74 : decode m245.2.1 74 = .ok (.iaload, 1) := by decide +kernel
theorem d_245_75 : decode m245.2.1 75 = .ok (.iastore, 1) := by decide +kernel
theorem d_245_76 : decode m245.2.1 76 = .ok (.iinc 1 1, 3) := by decide +kernel
theorem d_245_79 : decode m245.2.1 79 = .ok (.goto (-56), 3) := by decide +kernel
theorem d_245_82 : decode m245.2.1 82 = .ok (.return_, 1) := by decide +kernel
theorem d_246_0 : decode m246.2.1 0 = .ok (.iconst 0, 1) := by decide +kernel
theorem d_246_1 : decode m246.2.1 1 = .ok (.istore_n 1, 1) := by decide +kernel
theorem d_246_2 : decode m246.2.1 2 = .ok (.iload_n 1, 1) := by decide +kernel
theorem d_246_3 : decode m246.2.1 3 = .ok (.bipush 41, 2) := by decide +kernel
theorem d_246_5 : decode m246.2.1 5 = .ok (.if_icmp .ge 21, 3) := by decide +kernel
theorem d_246_8 : decode m246.2.1 8 = .ok (.aload_n 0, 1) := by decide +kernel
theorem d_246_9 : decode m246.2.1 9 = .ok (.getfield 93, 3) := by decide +kernel
theorem d_246_12 : decode m246.2.1 12 = .ok (.iload_n 1, 1) := by decide +kernel
theorem d_246_13 : decode m246.2.1 13 = .ok (.aload_n 0, 1) := by decide +kernel
theorem d_246_14 : decode m246.2.1 14 = .ok (.getfield 96, 3) := by decide +kernel
theorem d_246_17 : decode m246.2.1 17 = .ok (.iload_n 1, 1) := by decide +kernel
theorem d_246_18 : decode m246.2.1 18 = .ok (.iaload, 1) := by decide +kernel
theorem d_246_19 : decode m246.2.1 19 = .ok (.iastore, 1) := by decide +kernel
theorem d_246_20 : decode m246.2.1 20 = .ok (.iinc 1 1, 3) := by decide +kernel
theorem d_246_23 : decode m246.2.1 23 = .ok (.goto (-21), 3) := by decide +kernel
theorem d_246_26 : decode m246.2.1 26 = .ok (.return_, 1) := by decide +kernel
theorem d_247_0 : decode m247.2.1 0 = .ok (.iload_n 1, 1) := by decide +kernel
theorem d_247_1 : decode m247.2.1 1 = .ok (.ifCond .ne 10, 3) := by decide +kernel
theorem d_247_4 : decode m247.2.1 4 = .ok (.aload_n 0, 1) := by decide +kernel
theorem d_247_5 : decode m247.2.1 5 = .ok (.getfield 185, 3) := by decide +kernel
theorem d_247_8 : decode m247.2.1 8 = .ok (.goto 16, 3) := by decide +kernel
theorem d_247_11 : decode m247.2.1 11 = .ok (.iload_n 1, 1) := by decide +kernel
theorem d_247_12 : decode m247.2.1 12 = .ok (.iconst 1, 1) := by decide +kernel
theorem d_247_13 : decode m247.2.1 13 = .ok (.if_icmp .ne 10, 3) := by decide +kernel
theorem d_247_16 : decode m247.2.1 16 = .ok (.aload_n 0, 1) := by decide +kernel
theorem d_247_17 : decode m247.2.1 17 = .ok (.getfield 13, 3) := by decide +kernel
theorem d_247_20 : decode m247.2.1 20 = .ok (.goto 4, 3) := by decide +kernel
theorem d_247_23 : decode m247.2.1 23 = .ok (.iconst (-1), 1) := by decide +kernel
theorem d_247_24 : decode m247.2.1 24 = .ok (.ireturn, 1) := by decide +kernel
theorem d_248_0 : decode m248.2.1 0 = .ok (.aload_n 0, 1) := by decide +kernel
theorem d_248_1 : decode m248.2.1 1 = .ok (.iload_n 1, 1) := by decide +kernel
theorem d_248_2 : decode m248.2.1 2 = .ok (.invokevirtual 461, 3) := by decide +kernel
theorem d_248_5 : decode m248.2.1 5 = .ok (.ifCond .ne 5, 3) := by decide +kernel
theorem d_248_8 : decode m248.2.1 8 = .ok (.iconst (-1), 1) := by decide +kernel
theorem d_248_9 : decode m248.2.1 9 = .ok (.ireturn, 1) := by decide +kernel
theorem d_248_10 : decode m248.2.1 10 = .ok (.aload_n 0, 1) := by decide +kernel
theorem d_248_11 : decode m248.2.1 11 = .ok (.invokevirtual 464, 3) := by decide +kernel
theorem d_248_14 : decode m248.2.1 14 = .ok (.iload_n 2, 1) := by decide +kernel
theorem d_248_15 : decode m248.2.1 15 = .ok (.tableswitch 108 0 7 #[45, 52, 59, 69, 79, 89, 96, 102], 45) := by decide +kernel
theorem d_248_60 : decode m248.2.1 60 = .ok (.aload_n 0, 1) := by decide +kernel
theorem d_248_61 : decode m248.2.1 61 = .ok (.getfield 63, 3) := by decide +kernel
theorem d_248_64 : decode m248.2.1 64 = .ok (.iload_n 1, 1) := by decide +kernel
theorem d_248_65 : decode m248.2.1 65 = .ok (.iaload, 1) := by decide +kernel
theorem d_248_66 : decode m248.2.1 66 = .ok (.ireturn, 1) := by decide +kernel
theorem d_248_67 : decode m248.2.1 67 = .ok (.aload_n 0, 1) := by decide +kernel
theorem d_248_68 : decode m248.2.1 68 = .ok (.getfield 66, 3) := by decide +kernel
theorem d_248_71 : decode m248.2.1 71 = .ok (.iload_n 1, 1) := by decide +kernel
theorem d_248_72 : decode m248.2.1 72 = .ok (.iaload, 1) := by decide +kernel
theorem d_248_73 : decode m248.2.1 73 = .ok (.ireturn, 1) := by decide +kernel
theorem d_248_74 : decode m248.2.1 74 = .ok (.aload_n 0, 1) := by decide +kernel
theorem d_248_75 : decode m248.2.1 75 = .ok (.getfield 96, 3) := by decide +kernel
theorem d_248_78 : decode m248.2.1 78 = .ok (.bipush 10, 2) := by decide +kernel
theorem d_248_80 : decode m248.2.1 80 = .ok (.iload_n 1, 1) := by decide +kernel
theorem d_248_81 : decode m248.2.1 81 = .ok (.iadd, 1) := by decide +kernel
theorem d_248_82 : decode m248.2.1 82 = .ok (.iaload, 1) := by decide +kernel
theorem d_248_83 : decode m248.2.1 83 = .ok (.ireturn, 1) := by decide +kernel
theorem d_248_84 : decode m248.2.1 84 = .ok (.aload_n 0, 1) := by decide +kernel
theorem d_248_85 : decode m248.2.1 85 = .ok (.getfield 96, 3) := by decide +kernel
theorem d_248_88 : decode m248.2.1 88 = .ok (.bipush 20, 2) := by decide +kernel
theorem d_248_90 : decode m248.2.1 90 = .ok (.iload_n 1, 1) := by decide +kernel
theorem d_248_91 : decode m248.2.1 91 = .ok (.iadd, 1) := by decide +kernel
theorem d_248_92 : decode m248.2.1 92 = .ok (.iaload, 1) := by decide +kernel
theorem d_248_93 : decode m248.2.1 93 = .ok (.ireturn, 1) := by decide +kernel
theorem d_248_94 : decode m248.2.1 94 = .ok (.aload_n 0, 1) := by decide +kernel
theorem d_248_95 : decode m248.2.1 95 = .ok (.getfield 96, 3) := by decide +kernel
theorem d_248_98 : decode m248.2.1 98 = .ok (.bipush 30, 2) := by decide +kernel
theorem d_248_100 : decode m248.2.1 100 = .ok (.iload_n 1, 1) := by decide +kernel
theorem d_248_101 : decode m248.2.1 101 = .ok (.iadd, 1) := by decide +kernel
theorem d_248_102 : decode m248.2.1 102 = .ok (.iaload, 1) := by decide +kernel
theorem d_248_103 : decode m248.2.1 103 = .ok (.ireturn, 1) := by decide +kernel
theorem d_248_104 : decode m248.2.1 104 = .ok (.aload_n 0, 1) := by decide +kernel
theorem d_248_105 : decode m248.2.1 105 = .ok (.getfield 96, 3) := by decide +kernel
theorem d_248_108 : decode m248.2.1 108 = .ok (.iload_n 1, 1) := by decide +kernel
theorem d_248_109 : decode m248.2.1 109 = .ok (.iaload, 1) := by decide +kernel
theorem d_248_110 : decode m248.2.1 110 = .ok (.ireturn, 1) := by decide +kernel
theorem d_248_111 : decode m248.2.1 111 = .ok (.aload_n 0, 1) := by decide +kernel
theorem d_248_112 : decode m248.2.1 112 = .ok (.iload_n 1, 1) := by decide +kernel
theorem d_248_113 : decode m248.2.1 113 = .ok (.invokevirtual 467, 3) := by decide +kernel
theorem d_248_116 : decode m248.2.1 116 = .ok (.ireturn, 1) := by decide +kernel
theorem d_248_117 : decode m248.2.1 117 = .ok (.aload_n 0, 1) := by decide +kernel
theorem d_248_118 : decode m248.2.1 118 = .ok (.iload_n 1, 1) := by decide +kernel
theorem d_248_119 : decode m248.2.1 119 = .ok (.invokevirtual 328, 3) := by decide +kernel
theorem d_248_122 : decode m248.2.1 122 = .ok (.ireturn, 1) := by decide +kernel
theorem d_248_123 : decode m248.2.1 123 = .ok (.iconst (-1), 1) := by decide +kernel
theorem d_248_124 : decode m248.2.1 124 = .ok (.ireturn, 1) := by decide +kernel
theorem d_249_0 : decode m249.2.1 0 = .ok (.iload_n 1, 1) := by decide +kernel
theorem d_249_1 : decode m249.2.1 1 = .ok (.iconst 0, 1) := by decide +kernel
theorem d_249_2 : decode m249.2.1 2 = .ok (.aload_n 0, 1) := by decide +kernel
theorem d_249_3 : decode m249.2.1 3 = .ok (.getfield 322, 3) := by decide +kernel
theorem d_249_6 : decode m249.2.1 6 = .ok (.iconst 1, 1) := by decide +kernel
theorem d_249_7 : decode m249.2.1 7 = .ok (.isub, 1) := by decide +kernel
theorem d_249_8 : decode m249.2.1 8 = .ok (.invokestatic 429, 3) := by decide +kernel
theorem d_249_11 : decode m249.2.1 11 = .ok (.ireturn, 1) := by decide +kernel
theorem d_250_0 : decode m250.2.1 0 = .ok (.iload_n 0, 1) := by decide +kernel
theorem d_250_1 : decode m250.2.1 1 = .ok (.iload_n 1, 1) := by decide +kernel
theorem d_250_2 : decode m250.2.1 2 = .ok (.if_icmp .lt 12, 3) := by decide +kernel
theorem d_250_5 : decode m250.2.1 5 = .ok (.iload_n 0, 1) := by decide +kernel
theorem d_250_6 : decode m250.2.1 6 = .ok (.iload_n 2, 1) := by decide +kernel
theorem d_250_7 : decode m250.2.1 7 = .ok (.if_icmp .gt 7, 3) := by decide +kernel
theorem d_250_10 : decode m250.2.1 10 = .ok (.iconst 1, 1) := by decide +kernel
theorem d_250_11 : decode m250.2.1 11 = .ok (.goto 4, 3) := by decide +kernel
theorem d_250_14 : decode m250.2.1 14 = .ok (.iconst 0, 1) := by decide +kernel
theorem d_250_15 : decode m250.2.1 15 = .ok (.ireturn, 1) := by decide +kernel
theorem d_251_0 : decode m251.2.1 0 = .ok (.iconst 0, 1) := by decide +kernel
theorem d_251_1 : decode m251.2.1 1 = .ok (.istore_n 1, 1) := by decide +kernel
theorem d_251_2 : decode m251.2.1 2 = .ok (.iload_n 1, 1) := by decide +kernel
theorem d_251_3 : decode m251.2.1 3 = .ok (.bipush 41, 2) := by decide +kernel
theorem d_251_5 : decode m251.2.1 5 = .ok (.if_icmp .ge 21, 3) := by decide +kernel
theorem d_251_8 : decode m251.2.1 8 = .ok (.aload_n 0, 1) := by decide +kernel
theorem d_251_9 : decode m251.2.1 9 = .ok (.getfield 96, 3) := by decide +kernel
theorem d_251_12 : decode m251.2.1 12 = .ok (.iload_n 1, 1) := by decide +kernel
theorem d_251_13 : decode m251.2.1 13 = .ok (.aload_n 0, 1) := by decide +kernel
theorem d_251_14 : decode m251.2.1 14 = .ok (.getfield 93, 3) := by decide +kernel
theorem d_251_17 : decode m251.2.1 17 = .ok (.iload_n 1, 1) := by decide +kernel
theorem d_251_18 : decode m251.2.1 18 = .ok (.iaload, 1) := by decide +kernel
theorem d_251_19 : decode m251.2.1 19 = .ok (.iastore, 1) := by decide +kernel
theorem d_251_20 : decode m251.2.1 20 = .ok (.iinc 1 1, 3) := by decide +kernel
theorem d_251_23 : decode m251.2.1 23 = .ok (.goto (-21), 3) := by decide +kernel
theorem d_251_26 : decode m251.2.1 26 = .ok (.aload_n 0, 1) := by decide +kernel
theorem d_251_27 : decode m251.2.1 27 = .ok (.invokevirtual 433, 3) := by decide +kernel
theorem d_251_30 : decode m251.2.1 30 = .ok (.return_, 1) := by decide +kernel
theorem d_252_0 : decode m252.2.1 0 = .ok (.iconst 0, 1) := by decide +kernel
theorem d_252_1 : decode m252.2.1 1 = .ok (.istore_n 1, 1) := by decide +kernel
theorem d_252_2 : decode m252.2.1 2 = .ok (.iload_n 1, 1) := by decide +kernel
theorem d_252_3 : decode m252.2.1 3 = .ok (.bipush 12, 2) := by decide +kernel
theorem d_252_5 : decode m252.2.1 5 = .ok (.if_icmp .ge 16, 3) := by decide +kernel
theorem d_252_8 : decode m252.2.1 8 = .ok (.aload_n 0, 1) := by decide +kernel
theorem d_252_9 : decode m252.2.1 9 = .ok (.getfield 99, 3) := by decide +kernel
theorem d_252_12 : decode m252.2.1 12 = .ok (.iload_n 1, 1) := by decide +kernel
theorem d_252_13 : decode m252.2.1 13 = .ok (.iconst 0, 1) := by decide +kernel
theorem d_252_14 : decode m252.2.1 14 = .ok (.iastore, 1) := by decide +kernel
theorem d_252_15 : decode m252.2.1 15 = .ok (.iinc 1 1, 3) := by decide +kernel
theorem d_252_18 : decode m252.2.1 18 = .ok (.goto (-16), 3) := by decide +kernel
theorem d_252_21 : decode m252.2.1 21 = .ok (.iconst 0, 1) := by decide +kernel
theorem d_252_22 : decode m252.2.1 22 = .ok (.istore_n 1, 1) := by decide +kernel
theorem d_252_23 : decode m252.2.1 23 = .ok (.iload_n 1, 1) := by decide +kernel
theorem d_252_24 : decode m252.2.1 24 = .ok (.aload_n 0, 1) := by decide +kernel
theorem d_252_25 : decode m252.2.1 25 = .ok (.getfield 322, 3) := by decide +kernel
theorem d_252_28 : decode m252.2.1 28 = .ok (.if_icmp .ge 102, 3) := by decide +kernel
theorem d_252_31 : decode m252.2.1 31 = .ok (.iconst 1, 1) := by decide +kernel
theorem d_252_32 : decode m252.2.1 32 = .ok (.istore_n 2, 1) := by decide +kernel
theorem d_252_33 : decode m252.2.1 33 = .ok (.aload_n 0, 1) := by decide +kernel
theorem d_252_34 : decode m252.2.1 34 = .ok (.getfield 66, 3) := by decide +kernel
theorem d_252_37 : decode m252.2.1 37 = .ok (.iload_n 1, 1) := by decide +kernel
theorem d_252_38 : decode m252.2.1 38 = .ok (.iaload, 1) := by decide +kernel
theorem d_252_39 : decode m252.2.1 39 = .ok (.istore_n 3, 1) := by decide +kernel
theorem d_252_40 : decode m252.2.1 40 = .ok (.iload_n 3, 1) := by decide +kernel
theorem d_252_41 : decode m252.2.1 41 = .ok (.aload_n 0, 1) := by decide +kernel
theorem d_252_42 : decode m252.2.1 42 = .ok (.getfield 78, 3) := by decide +kernel
theorem d_252_45 : decode m252.2.1 45 = .ok (.if_icmp .ge 79, 3) := by decide +kernel
theorem d_252_48 : decode m252.2.1 48 = .ok (.iload_n 2, 1) := by decide +kernel
theorem d_252_49 : decode m252.2.1 49 = .ok (.ifCond .eq 75, 3) := by decide +kernel
theorem d_252_52 : decode m252.2.1 52 = .ok (.iload_n 3, 1) := by decide +kernel
theorem d_252_53 : decode m252.2.1 53 = .ok (.aload_n 0, 1) := by decide +kernel
theorem d_252_54 : decode m252.2.1 54 = .ok (.getfield 66, 3) := by decide +kernel
theorem d_252_57 : decode m252.2.1 57 = .ok (.iload_n 1, 1) := by decide +kernel
theorem d_252_58 : decode m252.2.1 58 = .ok (.iaload, 1) := by decide +kernel
theorem d_252_59 : decode m252.2.1 59 = .ok (.aload_n 0, 1) := by decide +kernel
theorem d_252_60 : decode m252.2.1 60 = .ok (.getfield 96, 3) := by decide +kernel
theorem d_252_63 : decode m252.2.1 63 = .ok (.bipush 20, 2) := by decide +kernel
theorem d_252_65 : decode m252.2.1 65 = .ok (.iload_n 1, 1) := by decide +kernel
theorem d_252_66 : decode m252.2.1 66 = .ok (.iadd, 1) := by decide +kernel
theorem d_252_67 : decode m252.2.1 67 = .ok (.iaload, 1) := by decide +kernel
theorem d_252_68 : decode m252.2.1 68 = .ok (.iadd, 1) := by decide +kernel
theorem d_252_69 : decode m252.2.1 69 = .ok (.if_icmp .ge 31, 3) := by decide +kernel
theorem d_252_72 : decode m252.2.1 72 = .ok (.iload_n 3, 1) := by decide +kernel
theorem d_252_73 : decode m252.2.1 73 = .ok (.aload_n 0, 1) := by decide +kernel
theorem d_252_74 : decode m252.2.1 74 = .ok (.getfield 66, 3) := by decide +kernel
theorem d_252_77 : decode m252.2.1 77 = .ok (.iload_n 1, 1) := by decide +kernel
theorem d_252_78 : decode m252.2.1 78 = .ok (.iaload, 1) := by decide +kernel
theorem d_252_79 : decode m252.2.1 79 = .ok (.if_icmp .eq 17, 3) := by decide +kernel
theorem d_252_82 : decode m252.2.1 82 = .ok (.aload_n 0, 1) := by decide +kernel
theorem d_252_83 : decode m252.2.1 83 = .ok (.getfield 96, 3) := by decide +kernel
theorem d_252_86 : decode m252.2.1 86 = .ok (.bipush 40, 2) := by decide +kernel
theorem d_252_88 : decode m252.2.1 88 = .ok (.iaload, 1) := by decide +kernel
theorem d_252_89 : decode m252.2.1 89 = .ok (.iload_n 3, 1) := by decide +kernel
theorem d_252_90 : decode m252.2.1 90 = .ok (.ishr, 1) := by decide +kernel
theorem d_252_91 : decode m252.2.1 91 = .ok (.iconst 1, 1) := by decide +kernel
theorem d_252_92 : decode m252.2.1 92 = .ok (.iand, 1) := by decide +kernel
theorem d_252_93 : decode m252.2.1 93 = .ok (.ifCond .ne 7, 3) := by decide +kernel
theorem d_252_96 : decode m252.2.1 96 = .ok (.iconst 1, 1) := by decide +kernel
theorem d_252_97 : decode m252.2.1 97 = .ok (.goto 4, 3) := by decide +kernel
theorem d_252_100 : decode m252.2.1 100 = .ok (.iconst 0, 1) := by decide +kernel
theorem d_252_101 : decode m252.2.1 101 = .ok (.istore_n 2, 1) := by decide +kernel
theorem d_252_102 : decode m252.2.1 102 = .ok (.iload_n 2, 1) := by decide +kernel
theorem d_252_103 : decode m252.2.1 103 = .ok (.ifCond .eq 15, 3) := by decide +kernel
theorem d_252_106 : decode m252.2.1 106 = .ok (.aload_n 0, 1) := by decide +kernel
theorem d_252_107 : decode m252.2.1 107 = .ok (.getfield 99, 3) := by decide +kernel
theorem d_252_110 : decode m252.2.1 110 = .ok (.iload_n 3, 1) := by decide +kernel
theorem d_252_111 : decode m252.2.1 111 = .ok (.dup2, 1) := by decide +kernel
theorem d_252_112 : decode m252.2.1 112 = .ok (.iaload, 1) := by decide +kernel
theorem d_252_113 : decode m252.2.1 113 = .ok (.iconst 1, 1) := by decide +kernel
theorem d_252_114 : decode m252.2.1 114 = .ok (.iload_n 1, 1) := by decide +kernel
theorem d_252_115 : decode m252.2.1 115 = .ok (.ishl, 1) := by decide +kernel
theorem d_252_116 : decode m252.2.1 116 = .ok (.ior, 1) := by decide +kernel
theorem d_252_117 : decode m252.2.1 117 = .ok (.iastore, 1) := by decide +kernel
theorem d_252_118 : decode m252.2.1 118 = .ok (.iinc 3 1, 3) := by decide +kernel
theorem d_252_121 : decode m252.2.1 121 = .ok (.goto (-81), 3) := by decide +kernel
theorem d_252_124 : decode m252.2.1 124 = .ok (.iinc 1 1, 3) := by decide +kernel
theorem d_252_127 : decode m252.2.1 127 = .ok (.goto (-104), 3) := by decide +kernel
theorem d_252_130 : decode m252.2.1 130 = .ok (.return_, 1) := by decide +kernel
theorem d_253_0 : decode m253.2.1 0 = .ok (.aload_n 0, 1) := by decide +kernel
theorem d_253_1 : decode m253.2.1 1 = .ok (.getfield 39, 3) := by decide +kernel
theorem d_253_4 : decode m253.2.1 4 = .ok (.iconst 0, 1) := by decide +kernel
theorem d_253_5 : decode m253.2.1 5 = .ok (.aload_n 0, 1) := by decide +kernel
theorem d_253_6 : decode m253.2.1 6 = .ok (.getfield 60, 3) := by decide +kernel
theorem d_253_9 : decode m253.2.1 9 = .ok (.aload_n 0, 1) := by decide +kernel
theorem d_253_10 : decode m253.2.1 10 = .ok (.getfield 63, 3) := by decide +kernel
theorem d_253_13 : decode m253.2.1 13 = .ok (.iload_n 1, 1) := by decide +kernel
theorem d_253_14 : decode m253.2.1 14 = .ok (.iaload, 1) := by decide +kernel
theorem d_253_15 : decode m253.2.1 15 = .ok (.iaload, 1) := by decide +kernel
theorem d_253_16 : decode m253.2.1 16 = .ok (.iastore, 1) := by decide +kernel
theorem d_253_17 : decode m253.2.1 17 = .ok (.aload_n 0, 1) := by decide +kernel
theorem d_253_18 : decode m253.2.1 18 = .ok (.getfield 39, 3) := by decide +kernel
theorem d_253_21 : decode m253.2.1 21 = .ok (.iconst 1, 1) := by decide +kernel
theorem d_253_22 : decode m253.2.1 22 = .ok (.aload_n 0, 1) := by decide +kernel
theorem d_253_23 : decode m253.2.1 23 = .ok (.getfield 96, 3) := by decide +kernel
theorem d_253_26 : decode m253.2.1 26 = .ok (.bipush 10, 2) := by decide +kernel
theorem d_253_28 : decode m253.2.1 28 = .ok (.iload_n 1, 1) := by decide +kernel
theorem d_253_29 : decode m253.2.1 29 = .ok (.iadd, 1) := by decide +kernel
theorem d_253_30 : decode m253.2.1 30 = .ok (.iaload, 1) := by decide +kernel
theorem d_253_31 : decode m253.2.1 31 = .ok (.iastore, 1) := by decide +kernel
theorem d_253_32 : decode m253.2.1 32 = .ok (.aload_n 0, 1) := by decide +kernel
theorem d_253_33 : decode m253.2.1 33 = .ok (.getfield 39, 3) := by decide +kernel
theorem d_253_36 : decode m253.2.1 36 = .ok (.iconst 2, 1) := by decide +kernel
theorem d_253_37 : decode m253.2.1 37 = .ok (.aload_n 0, 1) := by decide +kernel
theorem d_253_38 : decode m253.2.1 38 = .ok (.getfield 96, 3) := by decide +kernel
theorem d_253_41 : decode m253.2.1 41 = .ok (.bipush 20, 2) := by decide +kernel
theorem d_253_43 : decode m253.2.1 43 = .ok (.iload_n 1, 1) := by decide +kernel
theorem d_253_44 : decode m253.2.1 44 = .ok (.iadd, 1) := by decide +kernel
theorem d_253_45 : decode m253.2.1 45 = .ok (.iaload, 1) := by decide +kernel
theorem d_253_46 : decode m253.2.1 46 = .ok (.iastore, 1) := by decide +kernel
theorem d_253_47 : decode m253.2.1 47 = .ok (.aload_n 0, 1) := by decide +kernel
theorem d_253_48 : decode m253.2.1 48 = .ok (.getfield 39, 3) := by decide +kernel
theorem d_253_51 : decode m253.2.1 51 = .ok (.iconst 3, 1) := by decide +kernel
theorem d_253_52 : decode m253.2.1 52 = .ok (.aload_n 0, 1) := by decide +kernel
theorem d_253_53 : decode m253.2.1 53 = .ok (.getfield 96, 3) := by decide +kernel
theorem d_253_56 : decode m253.2.1 56 = .ok (.bipush 30, 2) := by decide +kernel
theorem d_253_58 : decode m253.2.1 58 = .ok (.iload_n 1, 1) := by decide +kernel
theorem d_253_59 : decode m253.2.1 59 = .ok (.iadd, 1) := by decide +kernel
theorem d_253_60 : decode m253.2.1 60 = .ok (.iaload, 1) := by decide +kernel
theorem d_253_61 : decode m253.2.1 61 = .ok (.iastore, 1) := by decide +kernel
theorem d_253_62 : decode m253.2.1 62 = .ok (.aload_n 0, 1) := by decide +kernel
theorem d_253_63 : decode m253.2.1 63 = .ok (.getfield 39, 3) := by decide +kernel
theorem d_253_66 : decode m253.2.1 66 = .ok (.iconst 4, 1) := by decide +kernel
theorem d_253_67 : decode m253.2.1 67 = .ok (.aload_n 0, 1) := by decide +kernel
theorem d_253_68 : decode m253.2.1 68 = .ok (.iload_n 1, 1) := by decide +kernel
theorem d_253_69 : decode m253.2.1 69 = .ok (.invokevirtual 328, 3) := by decide +kernel
theorem d_253_72 : decode m253.2.1 72 = .ok (.invokestatic 331, 3) := by decide +kernel
theorem d_253_75 : decode m253.2.1 75 = .ok (.iastore, 1) := by decide +kernel
theorem d_253_76 : decode m253.2.1 76 = .ok (.aload_n 0, 1) := by decide +kernel
theorem d_253_77 : decode m253.2.1 77 = .ok (.getfield 39, 3) := by decide +kernel
theorem d_253_80 : decode m253.2.1 80 = .ok (.iconst 5, 1) := by decide +kernel
theorem d_253_81 : decode m253.2.1 81 = .ok (.aload_n 0, 1) := by decide +kernel
theorem d_253_82 : decode m253.2.1 82 = .ok (.getfield 66, 3) := by decide +kernel
theorem d_253_85 : decode m253.2.1 85 = .ok (.iload_n 1, 1) := by decide +kernel
theorem d_253_86 : decode m253.2.1 86 = .ok (.iaload, 1) := by decide +kernel
theorem d_253_87 : decode m253.2.1 87 = .ok (.iastore, 1) := by decide +kernel
theorem d_253_88 : decode m253.2.1 88 = .ok (.aload_n 0, 1) := by decide +kernel
theorem d_253_89 : decode m253.2.1 89 = .ok (.getfield 334, 3) := by decide +kernel
theorem d_253_92 : decode m253.2.1 92 = .ok (.ifCond .ne 32, 3) := by decide +kernel
theorem d_253_95 : decode m253.2.1 95 = .ok (.aload_n 0, 1) := by decide +kernel
theorem d_253_96 : decode m253.2.1 96 = .ok (.getfield 39, 3) := by decide +kernel
theorem d_253_99 : decode m253.2.1 99 = .ok (.iconst 3, 1) := by decide +kernel
theorem d_253_100 : decode m253.2.1 100 = .ok (.iaload, 1) := by decide +kernel
theorem d_253_101 : decode m253.2.1 101 = .ok (.iconst 5, 1) := by decide +kernel
theorem d_253_102 : decode m253.2.1 102 = .ok (.aload_n 0, 1) := by decide +kernel
theorem d_253_103 : decode m253.2.1 103 = .ok (.getfield 39, 3) := by decide +kernel
theorem d_253_106 : decode m253.2.1 106 = .ok (.iconst 0, 1) := by decide +kernel
theorem d_253_107 : decode m253.2.1 107 = .ok (.iaload, 1) := by decide +kernel
theorem d_253_108 : decode m253.2.1 108 = .ok (.imul, 1) := by decide +kernel
theorem d_253_109 : decode m253.2.1 109 = .ok (.iadd, 1) := by decide +kernel
theorem d_253_110 : decode m253.2.1 110 = .ok (.aload_n 0, 1) := by decide +kernel
theorem d_253_111 : decode m253.2.1 111 = .ok (.getfield 39, 3) := by decide +kernel
theorem d_253_114 : decode m253.2.1 114 = .ok (.iconst 4, 1) := by decide +kernel
theorem d_253_115 : decode m253.2.1 115 = .ok (.iaload, 1) := by decide +kernel
theorem d_253_116 : decode m253.2.1 116 = .ok (.isub, 1) := by decide +kernel
theorem d_253_117 : decode m253.2.1 117 = .ok (.sipush 999, 3) := by decide +kernel
theorem d_253_120 : decode m253.2.1 120 = .ok (.invokestatic 337, 3) := by decide +kernel
theorem d_253_123 : decode m253.2.1 123 = .ok (.ireturn, 1) := by decide +kernel
theorem d_253_124 : decode m253.2.1 124 = .ok (.iconst 0, 1) := by decide +kernel
theorem d_253_125 : decode m253.2.1 125 = .ok (.istore_n 2, 1) := by decide +kernel
theorem d_253_126 : decode m253.2.1 126 = .ok (.iconst 0, 1) := by decide +kernel
theorem d_253_127 : decode m253.2.1 127 = .ok (.istore_n 3, 1) := by decide +kernel
theorem d_253_128 : decode m253.2.1 128 = .ok (.iload_n 3, 1) := by decide +kernel
theorem d_253_129 : decode m253.2.1 129 = .ok (.aload_n 0, 1) := by decide +kernel
theorem d_253_130 : decode m253.2.1 130 = .ok (.getfield 340, 3) := by decide +kernel
theorem d_253_133 : decode m253.2.1 133 = .ok (.if_icmp .ge 143, 3) := by decide +kernel
theorem d_253_136 : decode m253.2.1 136 = .ok (.aload_n 0, 1) := by decide +kernel
theorem d_253_137 : decode m253.2.1 137 = .ok (.getfield 27, 3) := by decide +kernel
theorem d_253_140 : decode m253.2.1 140 = .ok (.iload_n 3, 1) := by decide +kernel
theorem d_253_141 : decode m253.2.1 141 = .ok (.iaload, 1) := by decide +kernel
theorem d_253_142 : decode m253.2.1 142 = .ok (.ifCond .eq 13, 3) := by decide +kernel
theorem d_253_145 : decode m253.2.1 145 = .ok (.aload_n 0, 1) := by decide +kernel
theorem d_253_146 : decode m253.2.1 146 = .ok (.getfield 27, 3) := by decide +kernel
theorem d_253_149 : decode m253.2.1 149 = .ok (.iload_n 3, 1) := by decide +kernel
theorem d_253_150 : decode m253.2.1 150 = .ok (.iaload, 1) := by decide +kernel
theorem d_253_151 : decode m253.2.1 151 = .ok (.iconst 1, 1) := by decide +kernel
theorem d_253_152 : decode m253.2.1 152 = .ok (.if_icmp .ne 44, 3) := by decide +kernel
theorem d_253_155 : decode m253.2.1 155 = .ok (.aload_n 0, 1) := by decide +kernel
theorem d_253_156 : decode m253.2.1 156 = .ok (.getfield 36, 3) := by decide +kernel
theorem d_253_159 : decode m253.2.1 159 = .ok (.iload_n 2, 1) := by decide +kernel
theorem d_253_160 : decode m253.2.1 160 = .ok (.aload_n 0, 1) := by decide +kernel
theorem d_253_161 : decode m253.2.1 161 = .ok (.getfield 27, 3) := by decide +kernel
theorem d_253_164 : decode m253.2.1 164 = .ok (.iload_n 3, 1) := by decide +kernel
theorem d_253_165 : decode m253.2.1 165 = .ok (.iaload, 1) := by decide +kernel
theorem d_253_166 : decode m253.2.1 166 = .ok (.ifCond .ne 12, 3) := by decide +kernel
theorem d_253_169 : decode m253.2.1 169 = .ok (.aload_n 0, 1) := by decide +kernel
theorem d_253_170 : decode m253.2.1 170 = .ok (.getfield 30, 3) := by decide +kernel
theorem d_253_173 : decode m253.2.1 173 = .ok (.iload_n 3, 1) := by decide +kernel
theorem d_253_174 : decode m253.2.1 174 = .ok (.iaload, 1) := by decide +kernel
theorem d_253_175 : decode m253.2.1 175 = .ok (.goto 14, 3) := by decide +kernel
theorem d_253_178 : decode m253.2.1 178 = .ok (.aload_n 0, 1) := by decide +kernel
theorem d_253_179 : decode m253.2.1 179 = .ok (.getfield 39, 3) := by decide +kernel
theorem d_253_182 : decode m253.2.1 182 = .ok (.aload_n 0, 1) := by decide +kernel
theorem d_253_183 : decode m253.2.1 183 = .ok (.getfield 30, 3) := by decide +kernel
theorem d_253_186 : decode m253.2.1 186 = .ok (.iload_n 3, 1) := by decide +kernel
theorem d_253_187 : decode m253.2.1 187 = .ok (.iaload, 1) := by decide +kernel
theorem d_253_188 : decode m253.2.1 188 = .ok (.iaload, 1) := by decide +kernel
theorem d_253_189 : decode m253.2.1 189 = .ok (.iastore, 1) := by decide +kernel
theorem d_253_190 : decode m253.2.1 190 = .ok (.iinc 2 1, 3) := by decide +kernel
theorem d_253_193 : decode m253.2.1 193 = .ok (.goto 77, 3) := by decide +kernel
theorem d_253_196 : decode m253.2.1 196 = .ok (.aload_n 0, 1) := by decide +kernel
theorem d_253_197 : decode m253.2.1 197 = .ok (.getfield 27, 3) := by decide +kernel
theorem d_253_200 : decode m253.2.1 200 = .ok (.iload_n 3, 1) := by decide +kernel
theorem d_253_201 : decode m253.2.1 201 = .ok (.iaload, 1) := by decide +kernel
theorem d_253_202 : decode m253.2.1 202 = .ok (.iconst 2, 1) := by decide +kernel
theorem d_253_203 : decode m253.2.1 203 = .ok (.if_icmp .ne 33, 3) := by decide +kernel
theorem d_253_206 : decode m253.2.1 206 = .ok (.aload_n 0, 1) := by decide +kernel
theorem d_253_207 : decode m253.2.1 207 = .ok (.getfield 36, 3) := by decide +kernel
theorem d_253_210 : decode m253.2.1 210 = .ok (.iload_n 2, 1) := by decide +kernel
theorem d_253_211 : decode m253.2.1 211 = .ok (.iconst 1, 1) := by decide +kernel
theorem d_253_212 : decode m253.2.1 212 = .ok (.isub, 1) := by decide +kernel
theorem d_253_213 : decode m253.2.1 213 = .ok (.aload_n 0, 1) := by decide +kernel
theorem d_253_214 : decode m253.2.1 214 = .ok (.getfield 36, 3) := by decide +kernel
theorem d_253_217 : decode m253.2.1 217 = .ok (.iload_n 2, 1) := by decide +kernel
theorem d_253_218 : decode m253.2.1 218 = .ok (.iconst 1, 1) := by decide +kernel
theorem d_253_219 : decode m253.2.1 219 = .ok (.isub, 1) := by decide +kernel
theorem d_253_220 : decode m253.2.1 220 = .ok (.iaload, 1) := by decide +kernel
theorem d_253_221 : decode m253.2.1 221 = .ok (.ifCond .ne 7, 3) := by decide +kernel
theorem d_253_224 : decode m253.2.1 224 = .ok (.iconst 1, 1) := by decide +kernel
theorem d_253_225 : decode m253.2.1 225 = .ok (.goto 4, 3) := by decide +kernel
theorem d_253_228 : decode m253.2.1 228 = .ok (.iconst 0, 1) := by decide +kernel
theorem d_253_229 : decode m253.2.1 229 = .ok (.invokestatic 318, 3) := by decide +kernel
theorem d_253_232 : decode m253.2.1 232 = .ok (.iastore, 1) := by decide +kernel
theorem d_253_233 : decode m253.2.1 233 = .ok (.goto 37, 3) := by decide +kernel
theorem d_253_236 : decode m253.2.1 236 = .ok (.iinc 2 (-1), 3) := by decide +kernel
theorem d_253_239 : decode m253.2.1 239 = .ok (.aload_n 0, 1) := by decide +kernel
theorem d_253_240 : decode m253.2.1 240 = .ok (.getfield 36, 3) := by decide +kernel
theorem d_253_243 : decode m253.2.1 243 = .ok (.iload_n 2, 1) := by decide +kernel
theorem d_253_244 : decode m253.2.1 244 = .ok (.iconst 1, 1) := by decide +kernel
theorem d_253_245 : decode m253.2.1 245 = .ok (.isub, 1) := by decide +kernel
theorem d_253_246 : decode m253.2.1 246 = .ok (.aload_n 0, 1) := by decide +kernel
theorem d_253_247 : decode m253.2.1 247 = .ok (.getfield 30, 3) := by decide +kernel
theorem d_253_250 : decode m253.2.1 250 = .ok (.iload_n 3, 1) := by decide +kernel
theorem d_253_251 : decode m253.2.1 251 = .ok (.iaload, 1) := by decide +kernel
theorem d_253_252 : decode m253.2.1 252 = .ok (.aload_n 0, 1) := by decide +kernel
theorem d_253_253 : decode m253.2.1 253 = .ok (.getfield 36, 3) := by decide +kernel
theorem d_253_256 : decode m253.2.1 256 = .ok (.iload_n 2, 1) := by decide +kernel
theorem d_253_257 : decode m253.2.1 257 = .ok (.iconst 1, 1) := by decide +kernel
theorem d_253_258 : decode m253.2.1 258 = .ok (.isub, 1) := by decide +kernel
theorem d_253_259 : decode m253.2.1 259 = .ok (.iaload, 1) := by decide +kernel
theorem d_253_260 : decode m253.2.1 260 = .ok (.aload_n 0, 1) := by decide +kernel
theorem d_253_261 : decode m253.2.1 261 = .ok (.getfield 36, 3) := by decide +kernel
theorem d_253_264 : decode m253.2.1 264 = .ok (.iload_n 2, 1) := by decide +kernel
theorem d_253_265 : decode m253.2.1 265 = .ok (.iaload, 1) := by decide +kernel
theorem d_253_266 : decode m253.2.1 266 = .ok (.invokestatic 343, 3) := by decide +kernel
theorem d_253_269 : decode m253.2.1 269 = .ok (.iastore, 1) := by decide +kernel
theorem d_253_270 : decode m253.2.1 270 = .ok (.iinc 3 1, 3) := by decide +kernel
theorem d_253_273 : decode m253.2.1 273 = .ok (.goto (-145), 3) := by decide +kernel
theorem d_253_276 : decode m253.2.1 276 = .ok (.aload_n 0, 1) := by decide +kernel
theorem d_253_277 : decode m253.2.1 277 = .ok (.getfield 36, 3) := by decide +kernel
theorem d_253_280 : decode m253.2.1 280 = .ok (.iconst 0, 1) := by decide +kernel
theorem d_253_281 : decode m253.2.1 281 = .ok (.iaload, 1) := by decide +kernel
theorem d_253_282 : decode m253.2.1 282 = .ok (.sipush 999, 3) := by decide +kernel
theorem d_253_285 : decode m253.2.1 285 = .ok (.invokestatic 337, 3) := by decide +kernel
theorem d_253_288 : decode m253.2.1 288 = .ok (.ireturn, 1) := by decide +kernel
theorem d_254_0 : decode m254.2.1 0 = .ok (.iconst 0, 1) := by decide +kernel
theorem d_254_1 : decode m254.2.1 1 = .ok (.istore_n 2, 1) := by decide +kernel
theorem d_254_2 : decode m254.2.1 2 = .ok (.iconst 0, 1) := by decide +kernel
theorem d_254_3 : decode m254.2.1 3 = .ok (.istore_n 3, 1) := by decide +kernel
theorem d_254_4 : decode m254.2.1 4 = .ok (.iload_n 3, 1) := by decide +kernel
theorem d_254_5 : decode m254.2.1 5 = .ok (.aload_n 0, 1) := by decide +kernel
theorem d_254_6 : decode m254.2.1 6 = .ok (.getfield 322, 3) := by decide +kernel
theorem d_254_9 : decode m254.2.1 9 = .ok (.if_icmp .ge 70, 3) := by decide +kernel
theorem d_254_12 : decode m254.2.1 12 = .ok (.iload_n 2, 1) := by decide +kernel
theorem d_254_13 : decode m254.2.1 13 = .ok (.iload_n 3, 1) := by decide +kernel
theorem d_254_14 : decode m254.2.1 14 = .ok (.iload_n 1, 1) := by decide +kernel
theorem d_254_15 : decode m254.2.1 15 = .ok (.if_icmp .eq 50, 3) := by decide +kernel
theorem d_254_18 : decode m254.2.1 18 = .ok (.aload_n 0, 1) := by decide +kernel
theorem d_254_19 : decode m254.2.1 19 = .ok (.getfield 66, 3) := by decide +kernel
theorem d_254_22 : decode m254.2.1 22 = .ok (.iload_n 3, 1) := by decide +kernel
theorem d_254_23 : decode m254.2.1 23 = .ok (.iaload, 1) := by decide +kernel
theorem d_254_24 : decode m254.2.1 24 = .ok (.aload_n 0, 1) := by decide +kernel
theorem d_254_25 : decode m254.2.1 25 = .ok (.getfield 66, 3) := by decide +kernel
theorem d_254_28 : decode m254.2.1 28 = .ok (.iload_n 1, 1) := by decide +kernel
theorem d_254_29 : decode m254.2.1 29 = .ok (.iaload, 1) := by decide +kernel
theorem d_254_30 : decode m254.2.1 30 = .ok (.if_icmp .ne 35, 3) := by decide +kernel
theorem d_254_33 : decode m254.2.1 33 = .ok (.aload_n 0, 1) := by decide +kernel
theorem d_254_34 : decode m254.2.1 34 = .ok (.getfield 96, 3) := by decide +kernel
theorem d_254_37 : decode m254.2.1 37 = .ok (.bipush 10, 2) := by decide +kernel
theorem d_254_39 : decode m254.2.1 39 = .ok (.iload_n 3, 1) := by decide +kernel
theorem d_254_40 : decode m254.2.1 40 = .ok (.iadd, 1) := by decide +kernel
theorem d_254_41 : decode m254.2.1 41 = .ok (.iaload, 1) := by decide +kernel
theorem d_254_42 : decode m254.2.1 42 = .ok (.aload_n 0, 1) := by decide +kernel
theorem d_254_43 : decode m254.2.1 43 = .ok (.getfield 96, 3) := by decide +kernel
theorem d_254_46 : decode m254.2.1 46 = .ok (.bipush 10, 2) := by decide +kernel
theorem d_254_48 : decode m254.2.1 48 = .ok (.iload_n 1, 1) := by decide +kernel
theorem d_254_49 : decode m254.2.1 49 = .ok (.iadd, 1) := by decide +kernel
theorem d_254_50 : decode m254.2.1 50 = .ok (.iaload, 1) := by decide +kernel
theorem d_254_51 : decode m254.2.1 51 = .ok (.isub, 1) := by decide +kernel
theorem d_254_52 : decode m254.2.1 52 = .ok (.invokestatic 325, 3) := by decide +kernel
theorem d_254_55 : decode m254.2.1 55 = .ok (.bipush 12, 2) := by decide +kernel
theorem d_254_57 : decode m254.2.1 57 = .ok (.irem, 1) := by decide +kernel
theorem d_254_58 : decode m254.2.1 58 = .ok (.ifCond .ne 7, 3) := by decide +kernel
theorem d_254_61 : decode m254.2.1 61 = .ok (.iconst 1, 1) := by decide +kernel
theorem d_254_62 : decode m254.2.1 62 = .ok (.goto 4, 3) := by decide +kernel
theorem d_254_65 : decode m254.2.1 65 = .ok (.iconst 0, 1) := by decide +kernel
theorem d_254_66 : decode m254.2.1 66 = .ok (.invokestatic 318, 3) := by decide +kernel
theorem d_254_69 : decode m254.2.1 69 = .ok (.iload_n 3, 1) := by decide +kernel
theorem d_254_70 : decode m254.2.1 70 = .ok (.ishl, 1) := by decide +kernel
theorem d_254_71 : decode m254.2.1 71 = .ok (.ior, 1) := by decide +kernel
theorem d_254_72 : decode m254.2.1 72 = .ok (.istore_n 2, 1) := by decide +kernel
theorem d_254_73 : decode m254.2.1 73 = .ok (.iinc 3 1, 3) := by decide +kernel
theorem d_254_76 : decode m254.2.1 76 = .ok (.goto (-72), 3) := by decide +kernel
theorem d_254_79 : decode m254.2.1 79 = .ok (.iload_n 2, 1) := by decide +kernel
theorem d_254_80 : decode m254.2.1 80 = .ok (.ireturn, 1) := by decide +kernel
theorem d_255_0 : decode m255.2.1 0 = .ok (.iload_n 0, 1) := by decide +kernel
theorem d_255_1 : decode m255.2.1 1 = .ok (.ifCond .ge 8, 3) := by decide +kernel
theorem d_255_4 : decode m255.2.1 4 = .ok (.iload_n 0, 1) := by decide +kernel
theorem d_255_5 : decode m255.2.1 5 = .ok (.ineg, 1) := by decide +kernel
theorem d_255_6 : decode m255.2.1 6 = .ok (.goto 4, 3) := by decide +kernel
theorem d_255_9 : decode m255.2.1 9 = .ok (.iload_n 0, 1) := by decide +kernel
theorem d_255_10 : decode m255.2.1 10 = .ok (.ireturn, 1) := by decide +kernel
theorem d_256_0 : decode m256.2.1 0 = .ok (.iconst 0, 1) := by decide +kernel
theorem d_256_1 : decode m256.2.1 1 = .ok (.istore_n 1, 1) := by decide +kernel
theorem d_256_2 : decode m256.2.1 2 = .ok (.iconst 0, 1) := by decide +kernel
theorem d_256_3 : decode m256.2.1 3 = .ok (.istore_n 2, 1) := by decide +kernel
theorem d_256_4 : decode m256.2.1 4 = .ok (.iload_n 2, 1) := by decide +kernel
theorem d_256_5 : decode m256.2.1 5 = .ok (.bipush 12, 2) := by decide +kernel
theorem d_256_7 : decode m256.2.1 7 = .ok (.if_icmp .ge 17, 3) := by decide +kernel
theorem d_256_10 : decode m256.2.1 10 = .ok (.iload_n 1, 1) := by decide +kernel
theorem d_256_11 : decode m256.2.1 11 = .ok (.iload_n 0, 1) := by decide +kernel
theorem d_256_12 : decode m256.2.1 12 = .ok (.iload_n 2, 1) := by decide +kernel
theorem d_256_13 : decode m256.2.1 13 = .ok (.ishr, 1) := by decide +kernel
theorem d_256_14 : decode m256.2.1 14 = .ok (.iconst 1, 1) := by decide +kernel
theorem d_256_15 : decode m256.2.1 15 = .ok (.iand, 1) := by decide +kernel
theorem d_256_16 : decode m256.2.1 16 = .ok (.iadd, 1) := by decide +kernel
theorem d_256_17 : decode m256.2.1 17 = .ok (.istore_n 1, 1) := by decide +kernel
theorem d_256_18 : decode m256.2.1 18 = .ok (.iinc 2 1, 3) := by decide +kernel
theorem d_256_21 : decode m256.2.1 21 = .ok (.goto (-17), 3) := by decide +kernel
theorem d_256_24 : decode m256.2.1 24 = .ok (.iload_n 1, 1) := by decide +kernel
theorem d_256_25 : decode m256.2.1 25 = .ok (.ireturn, 1) := by decide +kernel
theorem d_257_0 : decode m257.2.1 0 = .ok (.iload_n 0, 1) := by decide +kernel
theorem d_257_1 : decode m257.2.1 1 = .ok (.ifCond .ge 7, 3) := by decide +kernel
theorem d_257_4 : decode m257.2.1 4 = .ok (.iconst 0, 1) := by decide +kernel
theorem d_257_5 : decode m257.2.1 5 = .ok (.goto 13, 3) := by decide +kernel
theorem d_257_8 : decode m257.2.1 8 = .ok (.iload_n 0, 1) := by decide +kernel
theorem d_257_9 : decode m257.2.1 9 = .ok (.iload_n 1, 1) := by decide +kernel
theorem d_257_10 : decode m257.2.1 10 = .ok (.if_icmp .le 7, 3) := by decide +kernel
theorem d_257_13 : decode m257.2.1 13 = .ok (.iload_n 1, 1) := by decide +kernel
theorem d_257_14 : decode m257.2.1 14 = .ok (.goto 4, 3) := by decide +kernel
theorem d_257_17 : decode m257.2.1 17 = .ok (.iload_n 0, 1) := by decide +kernel
theorem d_257_18 : decode m257.2.1 18 = .ok (.ireturn, 1) := by decide +kernel
theorem d_258_0 : decode m258.2.1 0 = .ok (.iload_n 0, 1) := by decide +kernel
theorem d_258_1 : decode m258.2.1 1 = .ok (.tableswitch 214 37 62 #[143, 197, 214, 214, 214, 127, 119, 214, 123, 214, 131, 214, 214, 214, 214, 214, 214, 214, 214, 214, 214, 214, 214, 155, 183, 169], 119) := by decide +kernel
theorem d_258_120 : decode m258.2.1 120 = .ok (.iload_n 1, 1) := by decide +kernel
theorem d_258_121 : decode m258.2.1 121 = .ok (.iload_n 2, 1) := by decide +kernel
theorem d_258_122 : decode m258.2.1 122 = .ok (.iadd, 1) := by decide +kernel
theorem d_258_123 : decode m258.2.1 123 = .ok (.ireturn, 1) := by decide +kernel
theorem d_258_124 : decode m258.2.1 124 = .ok (.iload_n 1, 1) := by decide +kernel
theorem d_258_125 : decode m258.2.1 125 = .ok (.iload_n 2, 1) := by decide +kernel
theorem d_258_126 : decode m258.2.1 126 = .ok (.isub, 1) := by decide +kernel
theorem d_258_127 : decode m258.2.1 127 = .ok (.ireturn, 1) := by decide +kernel
theorem d_258_128 : decode m258.2.1 128 = .ok (.iload_n 1, 1) := by decide +kernel
theorem d_258_129 : decode m258.2.1 129 = .ok (.iload_n 2, 1) := by decide +kernel
theorem d_258_130 : decode m258.2.1 130 = .ok (.imul, 1) := by decide +kernel
theorem d_258_131 : decode m258.2.1 131 = .ok (.ireturn, 1) := by decide +kernel
theorem d_258_132 : decode m258.2.1 132 = .ok (.iload_n 2, 1) := by decide +kernel
theorem d_258_133 : decode m258.2.1 133 = .ok (.ifCond .ne 7, 3) := by decide +kernel
theorem d_258_136 : decode m258.2.1 136 = .ok (.iconst 0, 1) := by decide +kernel
theorem d_258_137 : decode m258.2.1 137 = .ok (.goto 6, 3) := by decide +kernel
theorem d_258_140 : decode m258.2.1 140 = .ok (.iload_n 1, 1) := by decide +kernel
theorem d_258_141 : decode m258.2.1 141 = .ok (.iload_n 2, 1) := by decide +kernel
theorem d_258_142 : decode m258.2.1 142 = .ok (.idiv, 1) := by decide +kernel
theorem d_258_143 : decode m258.2.1 143 = .ok (.ireturn, 1) := by decide +kernel
theorem d_258_144 : decode m258.2.1 144 = .ok (.iload_n 2, 1) := by decide +kernel
theorem d_258_145 : decode m258.2.1 145 = .ok (.ifCond .ne 7, 3) := by decide +kernel
theorem d_258_148 : decode m258.2.1 148 = .ok (.iconst 0, 1) := by decide +kernel
theorem d_258_149 : decode m258.2.1 149 = .ok (.goto 6, 3) := by decide +kernel
theorem d_258_152 : decode m258.2.1 152 = .ok (.iload_n 1, 1) := by decide +kernel
theorem d_258_153 : decode m258.2.1 153 = .ok (.iload_n 2, 1) := by decide +kernel
theorem d_258_154 : decode m258.2.1 154 = .ok (.irem, 1) := by decide +kernel
theorem d_258_155 : decode m258.2.1 155 = .ok (.ireturn, 1) := by decide +kernel
theorem d_258_156 : decode m258.2.1 156 = .ok (.iload_n 1, 1) := by decide +kernel
theorem d_258_157 : decode m258.2.1 157 = .ok (.iload_n 2, 1) := by decide +kernel
theorem d_258_158 : decode m258.2.1 158 = .ok (.if_icmp .ge 7, 3) := by decide +kernel
theorem d_258_161 : decode m258.2.1 161 = .ok (.iconst 1, 1) := by decide +kernel
theorem d_258_162 : decode m258.2.1 162 = .ok (.goto 4, 3) := by decide +kernel
theorem d_258_165 : decode m258.2.1 165 = .ok (.iconst 0, 1) := by decide +kernel
theorem d_258_166 : decode m258.2.1 166 = .ok (.invokestatic 318, 3) := by decide +kernel
theorem d_258_169 : decode m258.2.1 169 = .ok (.ireturn, 1) := by decide +kernel
theorem d_258_170 : decode m258.2.1 170 = .ok (.iload_n 1, 1) := by decide +kernel
theorem d_258_171 : decode m258.2.1 171 = .ok (.iload_n 2, 1) := by decide +kernel
theorem d_258_172 : decode m258.2.1 172 = .ok (.if_icmp .le 7, 3) := by decide +kernel
theorem d_258_175 : decode m258.2.1 175 = .ok (.iconst 1, 1) := by decide +kernel
theorem d_258_176 : decode m258.2.1 176 = .ok (.goto 4, 3) := by decide +kernel
theorem d_258_179 : decode m258.2.1 179 = .ok (.iconst 0, 1) := by decide +kernel
theorem d_258_180 : decode m258.2.1 180 = .ok (.invokestatic 318, 3) := by decide +kernel
theorem d_258_183 : decode m258.2.1 183 = .ok (.ireturn, 1) := by decide +kernel
theorem d_258_184 : decode m258.2.1 184 = .ok (.iload_n 1, 1) := by decide +kernel
theorem d_258_185 : decode m258.2.1 185 = .ok (.iload_n 2, 1) := by decide +kernel
theorem d_258_186 : decode m258.2.1 186 = .ok (.if_icmp .ne 7, 3) := by decide +kernel
theorem d_258_189 : decode m258.2.1 189 = .ok (.iconst 1, 1) := by decide +kernel
theorem d_258_190 : decode m258.2.1 190 = .ok (.goto 4, 3) := by decide +kernel
theorem d_258_193 : decode m258.2.1 193 = .ok (.iconst 0, 1) := by decide +kernel
theorem d_258_194 : decode m258.2.1 194 = .ok (.invokestatic 318, 3) := by decide +kernel
theorem d_258_197 : decode m258.2.1 197 = .ok (.ireturn, 1) := by decide +kernel
theorem d_258_198 : decode m258.2.1 198 = .ok (.iload_n 1, 1) := by decide +kernel
theorem d_258_199 : decode m258.2.1 199 = .ok (.ifCond .eq 11, 3) := by decide +kernel
theorem d_258_202 : decode m258.2.1 202 = .ok (.iload_n 2, 1) := by decide +kernel
theorem d_258_203 : decode m258.2.1 203 = .ok (.ifCond .eq 7, 3) := by decide +kernel
theorem d_258_206 : decode m258.2.1 206 = .ok (.iconst 1, 1) := by decide +kernel
theorem d_258_207 : decode m258.2.1 207 = .ok (.goto 4, 3) := by decide +kernel
theorem d_258_210 : decode m258.2.1 210 = .ok (.iconst 0, 1) := by decide +kernel
theorem d_258_211 : decode m258.2.1 211 = .ok (.invokestatic 318, 3) := by decide +kernel
theorem d_258_214 : decode m258.2.1 214 = .ok (.ireturn, 1) := by decide +kernel
theorem d_258_215 : decode m258.2.1 215 = .ok (.iload_n 1, 1) := by decide +kernel
theorem d_258_216 : decode m258.2.1 216 = .ok (.ifCond .ne 7, 3) := by decide +kernel
theorem d_258_219 : decode m258.2.1 219 = .ok (.iload_n 2, 1) := by decide +kernel
theorem d_258_220 : decode m258.2.1 220 = .ok (.ifCond .eq 7, 3) := by decide +kernel
theorem d_258_223 : decode m258.2.1 223 = .ok (.iconst 1, 1) := by decide +kernel
theorem d_258_224 : decode m258.2.1 224 = .ok (.goto 4, 3) := by decide +kernel
theorem d_258_227 : decode m258.2.1 227 = .ok (.iconst 0, 1) := by decide +kernel
theorem d_258_228 : decode m258.2.1 228 = .ok (.invokestatic 318, 3) := by decide +kernel
theorem d_258_231 : decode m258.2.1 231 = .ok (.ireturn, 1) := by decide +kernel
theorem d_259_0 : decode m259.2.1 0 = .ok (.iload_n 1, 1) := by decide +kernel
theorem d_259_1 : decode m259.2.1 1 = .ok (.iconst 0, 1) := by decide +kernel
theorem d_259_2 : decode m259.2.1 2 = .ok (.aload_n 0, 1) := by decide +kernel
theorem d_259_3 : decode m259.2.1 3 = .ok (.getfield 405, 3) := by decide +kernel
theorem d_259_6 : decode m259.2.1 6 = .ok (.iconst 1, 1) := by decide +kernel
theorem d_259_7 : decode m259.2.1 7 = .ok (.isub, 1) := by decide +kernel
theorem d_259_8 : decode m259.2.1 8 = .ok (.invokestatic 429, 3) := by decide +kernel
theorem d_259_11 : decode m259.2.1 11 = .ok (.ifCond .ne 5, 3) := by decide +kernel
theorem d_259_14 : decode m259.2.1 14 = .ok (.iconst (-1), 1) := by decide +kernel
theorem d_259_15 : decode m259.2.1 15 = .ok (.ireturn, 1) := by decide +kernel
theorem d_259_16 : decode m259.2.1 16 = .ok (.aload_n 0, 1) := by decide +kernel
theorem d_259_17 : decode m259.2.1 17 = .ok (.invokevirtual 464, 3) := by decide +kernel
theorem d_259_20 : decode m259.2.1 20 = .ok (.iload_n 2, 1) := by decide +kernel
theorem d_259_21 : decode m259.2.1 21 = .ok (.ifCond .ne 12, 3) := by decide +kernel
theorem d_259_24 : decode m259.2.1 24 = .ok (.aload_n 0, 1) := by decide +kernel
theorem d_259_25 : decode m259.2.1 25 = .ok (.getfield 60, 3) := by decide +kernel
theorem d_259_28 : decode m259.2.1 28 = .ok (.iload_n 1, 1) := by decide +kernel
theorem d_259_29 : decode m259.2.1 29 = .ok (.iaload, 1) := by decide +kernel
theorem d_259_30 : decode m259.2.1 30 = .ok (.goto 38, 3) := by decide +kernel
theorem d_259_33 : decode m259.2.1 33 = .ok (.iload_n 2, 1) := by decide +kernel
theorem d_259_34 : decode m259.2.1 34 = .ok (.iconst 1, 1) := by decide +kernel
theorem d_259_35 : decode m259.2.1 35 = .ok (.if_icmp .ne 11, 3) := by decide +kernel
theorem d_259_38 : decode m259.2.1 38 = .ok (.aload_n 0, 1) := by decide +kernel
theorem d_259_39 : decode m259.2.1 39 = .ok (.iload_n 1, 1) := by decide +kernel
theorem d_259_40 : decode m259.2.1 40 = .ok (.invokevirtual 470, 3) := by decide +kernel
theorem d_259_43 : decode m259.2.1 43 = .ok (.goto 25, 3) := by decide +kernel
theorem d_259_46 : decode m259.2.1 46 = .ok (.iload_n 2, 1) := by decide +kernel
theorem d_259_47 : decode m259.2.1 47 = .ok (.iconst 2, 1) := by decide +kernel
theorem d_259_48 : decode m259.2.1 48 = .ok (.if_icmp .ne 19, 3) := by decide +kernel
theorem d_259_51 : decode m259.2.1 51 = .ok (.aload_n 0, 1) := by decide +kernel
theorem d_259_52 : decode m259.2.1 52 = .ok (.iload_n 1, 1) := by decide +kernel
theorem d_259_53 : decode m259.2.1 53 = .ok (.invokevirtual 470, 3) := by decide +kernel
theorem d_259_56 : decode m259.2.1 56 = .ok (.aload_n 0, 1) := by decide +kernel
theorem d_259_57 : decode m259.2.1 57 = .ok (.iconst 0, 1) := by decide +kernel
theorem d_259_58 : decode m259.2.1 58 = .ok (.invokevirtual 454, 3) := by decide +kernel
theorem d_259_61 : decode m259.2.1 61 = .ok (.iconst (-1), 1) := by decide +kernel
theorem d_259_62 : decode m259.2.1 62 = .ok (.ixor, 1) := by decide +kernel
theorem d_259_63 : decode m259.2.1 63 = .ok (.iand, 1) := by decide +kernel
theorem d_259_64 : decode m259.2.1 64 = .ok (.goto 4, 3) := by decide +kernel
theorem d_259_67 : decode m259.2.1 67 = .ok (.iconst (-1), 1) := by decide +kernel
theorem d_259_68 : decode m259.2.1 68 = .ok (.ireturn, 1) := by decide +kernel
theorem d_260_0 : decode m260.2.1 0 = .ok (.iconst 0, 1) := by decide +kernel
theorem d_260_1 : decode m260.2.1 1 = .ok (.istore_n 2, 1) := by decide +kernel
theorem d_260_2 : decode m260.2.1 2 = .ok (.iconst 0, 1) := by decide +kernel
theorem d_260_3 : decode m260.2.1 3 = .ok (.istore_n 3, 1) := by decide +kernel
theorem d_260_4 : decode m260.2.1 4 = .ok (.iload_n 3, 1) := by decide +kernel
theorem d_260_5 : decode m260.2.1 5 = .ok (.aload_n 0, 1) := by decide +kernel
theorem d_260_6 : decode m260.2.1 6 = .ok (.getfield 322, 3) := by decide +kernel
theorem d_260_9 : decode m260.2.1 9 = .ok (.if_icmp .ge 32, 3) := by decide +kernel
theorem d_260_12 : decode m260.2.1 12 = .ok (.iload_n 2, 1) := by decide +kernel
theorem d_260_13 : decode m260.2.1 13 = .ok (.aload_n 0, 1) := by decide +kernel
theorem d_260_14 : decode m260.2.1 14 = .ok (.getfield 63, 3) := by decide +kernel
theorem d_260_17 : decode m260.2.1 17 = .ok (.iload_n 3, 1) := by decide +kernel
theorem d_260_18 : decode m260.2.1 18 = .ok (.iaload, 1) := by decide +kernel
theorem d_260_19 : decode m260.2.1 19 = .ok (.iload_n 1, 1) := by decide +kernel
theorem d_260_20 : decode m260.2.1 20 = .ok (.if_icmp .ne 7, 3) := by decide +kernel
theorem d_260_23 : decode m260.2.1 23 = .ok (.iconst 1, 1) := by decide +kernel
theorem d_260_24 : decode m260.2.1 24 = .ok (.goto 4, 3) := by decide +kernel
theorem d_260_27 : decode m260.2.1 27 = .ok (.iconst 0, 1) := by decide +kernel
theorem d_260_28 : decode m260.2.1 28 = .ok (.invokestatic 318, 3) := by decide +kernel
theorem d_260_31 : decode m260.2.1 31 = .ok (.iload_n 3, 1) := by decide +kernel
theorem d_260_32 : decode m260.2.1 32 = .ok (.ishl, 1) := by decide +kernel
theorem d_260_33 : decode m260.2.1 33 = .ok (.ior, 1) := by decide +kernel
theorem d_260_34 : decode m260.2.1 34 = .ok (.istore_n 2, 1) := by decide +kernel
theorem d_260_35 : decode m260.2.1 35 = .ok (.iinc 3 1, 3) := by decide +kernel
theorem d_260_38 : decode m260.2.1 38 = .ok (.goto (-34), 3) := by decide +kernel
theorem d_260_41 : decode m260.2.1 41 = .ok (.iload_n 2, 1) := by decide +kernel
theorem d_260_42 : decode m260.2.1 42 = .ok (.ireturn, 1) := by decide +kernel
theorem d_261_0 : decode m261.2.1 0 = .ok (.iconst 0, 1) := by decide +kernel
theorem d_261_1 : decode m261.2.1 1 = .ok (.istore_n 2, 1) := by decide +kernel
theorem d_261_2 : decode m261.2.1 2 = .ok (.iconst 0, 1) := by decide +kernel
theorem d_261_3 : decode m261.2.1 3 = .ok (.istore_n 3, 1) := by decide +kernel
theorem d_261_4 : decode m261.2.1 4 = .ok (.iload_n 3, 1) := by decide +kernel
theorem d_261_5 : decode m261.2.1 5 = .ok (.aload_n 0, 1) := by decide +kernel
theorem d_261_6 : decode m261.2.1 6 = .ok (.getfield 322, 3) := by decide +kernel
theorem d_261_9 : decode m261.2.1 9 = .ok (.if_icmp .ge 32, 3) := by decide +kernel
theorem d_261_12 : decode m261.2.1 12 = .ok (.iload_n 2, 1) := by decide +kernel
theorem d_261_13 : decode m261.2.1 13 = .ok (.aload_n 0, 1) := by decide +kernel
theorem d_261_14 : decode m261.2.1 14 = .ok (.getfield 96, 3) := by decide +kernel
theorem d_261_17 : decode m261.2.1 17 = .ok (.iload_n 3, 1) := by decide +kernel
theorem d_261_18 : decode m261.2.1 18 = .ok (.iaload, 1) := by decide +kernel
theorem d_261_19 : decode m261.2.1 19 = .ok (.iload_n 1, 1) := by decide +kernel
theorem d_261_20 : decode m261.2.1 20 = .ok (.if_icmp .ne 7, 3) := by decide +kernel
theorem d_261_23 : decode m261.2.1 23 = .ok (.iconst 1, 1) := by decide +kernel
theorem d_261_24 : decode m261.2.1 24 = .ok (.goto 4, 3) := by decide +kernel
theorem d_261_27 : decode m261.2.1 27 = .ok (.iconst 0, 1) := by decide +kernel
theorem d_261_28 : decode m261.2.1 28 = .ok (.invokestatic 318, 3) := by decide +kernel
theorem d_261_31 : decode m261.2.1 31 = .ok (.iload_n 3, 1) := by decide +kernel
theorem d_261_32 : decode m261.2.1 32 = .ok (.ishl, 1) := by decide +kernel
theorem d_261_33 : decode m261.2.1 33 = .ok (.ior, 1) := by decide +kernel
theorem d_261_34 : decode m261.2.1 34 = .ok (.istore_n 2, 1) := by decide +kernel
theorem d_261_35 : decode m261.2.1 35 = .ok (.iinc 3 1, 3) := by decide +kernel
theorem d_261_38 : decode m261.2.1 38 = .ok (.goto (-34), 3) := by decide +kernel
theorem d_261_41 : decode m261.2.1 41 = .ok (.iload_n 2, 1) := by decide +kernel
theorem d_261_42 : decode m261.2.1 42 = .ok (.ireturn, 1) := by decide +kernel
theorem d_262_0 : decode m262.2.1 0 = .ok (.aload_n 0, 1) := by decide +kernel
theorem d_262_1 : decode m262.2.1 1 = .ok (.invokevirtual 464, 3) := by decide +kernel
theorem d_262_4 : decode m262.2.1 4 = .ok (.aload_n 0, 1) := by decide +kernel
theorem d_262_5 : decode m262.2.1 5 = .ok (.iload_n 1, 1) := by decide +kernel
theorem d_262_6 : decode m262.2.1 6 = .ok (.invokevirtual 473, 3) := by decide +kernel
theorem d_262_9 : decode m262.2.1 9 = .ok (.ifCond .eq 25, 3) := by decide +kernel
theorem d_262_12 : decode m262.2.1 12 = .ok (.iload_n 2, 1) := by decide +kernel
theorem d_262_13 : decode m262.2.1 13 = .ok (.invokestatic 476, 3) := by decide +kernel
theorem d_262_16 : decode m262.2.1 16 = .ok (.ifCond .eq 18, 3) := by decide +kernel
theorem d_262_19 : decode m262.2.1 19 = .ok (.aload_n 0, 1) := by decide +kernel
theorem d_262_20 : decode m262.2.1 20 = .ok (.iload_n 2, 1) := by decide +kernel
theorem d_262_21 : decode m262.2.1 21 = .ok (.invokevirtual 454, 3) := by decide +kernel
theorem d_262_24 : decode m262.2.1 24 = .ok (.aload_n 0, 1) := by decide +kernel
theorem d_262_25 : decode m262.2.1 25 = .ok (.getfield 99, 3) := by decide +kernel
theorem d_262_28 : decode m262.2.1 28 = .ok (.iload_n 1, 1) := by decide +kernel
theorem d_262_29 : decode m262.2.1 29 = .ok (.iaload, 1) := by decide +kernel
theorem d_262_30 : decode m262.2.1 30 = .ok (.iand, 1) := by decide +kernel
theorem d_262_31 : decode m262.2.1 31 = .ok (.goto 4, 3) := by decide +kernel
theorem d_262_34 : decode m262.2.1 34 = .ok (.iconst (-1), 1) := by decide +kernel
theorem d_262_35 : decode m262.2.1 35 = .ok (.ireturn, 1) := by decide +kernel
theorem d_263_0 : decode m263.2.1 0 = .ok (.iload_n 1, 1) := by decide +kernel
theorem d_263_1 : decode m263.2.1 1 = .ok (.iconst 0, 1) := by decide +kernel
theorem d_263_2 : decode m263.2.1 2 = .ok (.aload_n 0, 1) := by decide +kernel
theorem d_263_3 : decode m263.2.1 3 = .ok (.getfield 78, 3) := by decide +kernel
theorem d_263_6 : decode m263.2.1 6 = .ok (.iconst 1, 1) := by decide +kernel
theorem d_263_7 : decode m263.2.1 7 = .ok (.isub, 1) := by decide +kernel
theorem d_263_8 : decode m263.2.1 8 = .ok (.invokestatic 429, 3) := by decide +kernel
theorem d_263_11 : decode m263.2.1 11 = .ok (.ireturn, 1) := by decide +kernel
theorem d_264_0 : decode m264.2.1 0 = .ok (.iload_n 0, 1) := by decide +kernel
theorem d_264_1 : decode m264.2.1 1 = .ok (.iconst 1, 1) := by decide +kernel
theorem d_264_2 : decode m264.2.1 2 = .ok (.if_icmp .eq 8, 3) := by decide +kernel
theorem d_264_5 : decode m264.2.1 5 = .ok (.iload_n 0, 1) := by decide +kernel
theorem d_264_6 : decode m264.2.1 6 = .ok (.iconst 2, 1) := by decide +kernel
theorem d_264_7 : decode m264.2.1 7 = .ok (.if_icmp .ne 7, 3) := by decide +kernel
theorem d_264_10 : decode m264.2.1 10 = .ok (.iconst 1, 1) := by decide +kernel
theorem d_264_11 : decode m264.2.1 11 = .ok (.goto 4, 3) := by decide +kernel
theorem d_264_14 : decode m264.2.1 14 = .ok (.iconst 0, 1) := by decide +kernel
theorem d_264_15 : decode m264.2.1 15 = .ok (.ireturn, 1) := by decide +kernel
theorem d_265_0 : decode m265.2.1 0 = .ok (.aload_n 0, 1) := by decide +kernel
theorem d_265_1 : decode m265.2.1 1 = .ok (.iload_n 1, 1) := by decide +kernel
theorem d_265_2 : decode m265.2.1 2 = .ok (.invokevirtual 473, 3) := by decide +kernel
theorem d_265_5 : decode m265.2.1 5 = .ok (.ifCond .ne 5, 3) := by decide +kernel
theorem d_265_8 : decode m265.2.1 8 = .ok (.iconst (-1), 1) := by decide +kernel
theorem d_265_9 : decode m265.2.1 9 = .ok (.ireturn, 1) := by decide +kernel
theorem d_265_10 : decode m265.2.1 10 = .ok (.aload_n 0, 1) := by decide +kernel
theorem d_265_11 : decode m265.2.1 11 = .ok (.invokevirtual 464, 3) := by decide +kernel
theorem d_265_14 : decode m265.2.1 14 = .ok (.aload_n 0, 1) := by decide +kernel
theorem d_265_15 : decode m265.2.1 15 = .ok (.invokevirtual 479, 3) := by decide +kernel
theorem d_265_18 : decode m265.2.1 18 = .ok (.aload_n 0, 1) := by decide +kernel
theorem d_265_19 : decode m265.2.1 19 = .ok (.getfield 102, 3) := by decide +kernel
theorem d_265_22 : decode m265.2.1 22 = .ok (.iload_n 1, 1) := by decide +kernel
theorem d_265_23 : decode m265.2.1 23 = .ok (.iaload, 1) := by decide +kernel
theorem d_265_24 : decode m265.2.1 24 = .ok (.ireturn, 1) := by decide +kernel
theorem d_266_0 : decode m266.2.1 0 = .ok (.aload_n 0, 1) := by decide +kernel
theorem d_266_1 : decode m266.2.1 1 = .ok (.iconst 1, 1) := by decide +kernel
theorem d_266_2 : decode m266.2.1 2 = .ok (.invokevirtual 454, 3) := by decide +kernel
theorem d_266_5 : decode m266.2.1 5 = .ok (.aload_n 0, 1) := by decide +kernel
theorem d_266_6 : decode m266.2.1 6 = .ok (.iconst 2, 1) := by decide +kernel
theorem d_266_7 : decode m266.2.1 7 = .ok (.invokevirtual 454, 3) := by decide +kernel
theorem d_266_10 : decode m266.2.1 10 = .ok (.ior, 1) := by decide +kernel
theorem d_266_11 : decode m266.2.1 11 = .ok (.istore_n 1, 1) := by decide +kernel
theorem d_266_12 : decode m266.2.1 12 = .ok (.iconst 0, 1) := by decide +kernel
theorem d_266_13 : decode m266.2.1 13 = .ok (.istore_n 2, 1) := by decide +kernel
theorem d_266_14 : decode m266.2.1 14 = .ok (.iload_n 2, 1) := by decide +kernel
theorem d_266_15 : decode m266.2.1 15 = .ok (.aload_n 0, 1) := by decide +kernel
theorem d_266_16 : decode m266.2.1 16 = .ok (.getfield 78, 3) := by decide +kernel
theorem d_266_19 : decode m266.2.1 19 = .ok (.if_icmp .ge 59, 3) := by decide +kernel
theorem d_266_22 : decode m266.2.1 22 = .ok (.aload_n 0, 1) := by decide +kernel
theorem d_266_23 : decode m266.2.1 23 = .ok (.getfield 102, 3) := by decide +kernel
theorem d_266_26 : decode m266.2.1 26 = .ok (.iload_n 2, 1) := by decide +kernel
theorem d_266_27 : decode m266.2.1 27 = .ok (.aload_n 0, 1) := by decide +kernel
theorem d_266_28 : decode m266.2.1 28 = .ok (.getfield 99, 3) := by decide +kernel
theorem d_266_31 : decode m266.2.1 31 = .ok (.iload_n 2, 1) := by decide +kernel
theorem d_266_32 : decode m266.2.1 32 = .ok (.iaload, 1) := by decide +kernel
theorem d_266_33 : decode m266.2.1 33 = .ok (.iload_n 1, 1) := by decide +kernel
theorem d_266_34 : decode m266.2.1 34 = .ok (.iand, 1) := by decide +kernel
theorem d_266_35 : decode m266.2.1 35 = .ok (.iastore, 1) := by decide +kernel
theorem d_266_36 : decode m266.2.1 36 = .ok (.iload_n 2, 1) := by decide +kernel
theorem d_266_37 : decode m266.2.1 37 = .ok (.ifCond .le 35, 3) := by decide +kernel
theorem d_266_40 : decode m266.2.1 40 = .ok (.aload_n 0, 1) := by decide +kernel
theorem d_266_41 : decode m266.2.1 41 = .ok (.getfield 96, 3) := by decide +kernel
theorem d_266_44 : decode m266.2.1 44 = .ok (.bipush 40, 2) := by decide +kernel
theorem d_266_46 : decode m266.2.1 46 = .ok (.iaload, 1) := by decide +kernel
theorem d_266_47 : decode m266.2.1 47 = .ok (.iload_n 2, 1) := by decide +kernel
theorem d_266_48 : decode m266.2.1 48 = .ok (.ishr, 1) := by decide +kernel
theorem d_266_49 : decode m266.2.1 49 = .ok (.iconst 1, 1) := by decide +kernel
theorem d_266_50 : decode m266.2.1 50 = .ok (.iand, 1) := by decide +kernel
theorem d_266_51 : decode m266.2.1 51 = .ok (.iconst 1, 1) := by decide +kernel
theorem d_266_52 : decode m266.2.1 52 = .ok (.if_icmp .ne 20, 3) := by decide +kernel
theorem d_266_55 : decode m266.2.1 55 = .ok (.aload_n 0, 1) := by decide +kernel
theorem d_266_56 : decode m266.2.1 56 = .ok (.getfield 102, 3) := by decide +kernel
theorem d_266_59 : decode m266.2.1 59 = .ok (.iload_n 2, 1) := by decide +kernel
theorem d_266_60 : decode m266.2.1 60 = .ok (.dup2, 1) := by decide +kernel
theorem d_266_61 : decode m266.2.1 61 = .ok (.iaload, 1) := by decide +kernel
theorem d_266_62 : decode m266.2.1 62 = .ok (.aload_n 0, 1) := by decide +kernel
theorem d_266_63 : decode m266.2.1 63 = .ok (.getfield 102, 3) := by decide +kernel
theorem d_266_66 : decode m266.2.1 66 = .ok (.iload_n 2, 1) := by decide +kernel
theorem d_266_67 : decode m266.2.1 67 = .ok (.iconst 1, 1) := by decide +kernel
theorem d_266_68 : decode m266.2.1 68 = .ok (.isub, 1) := by decide +kernel
theorem d_266_69 : decode m266.2.1 69 = .ok (.iaload, 1) := by decide +kernel
theorem d_266_70 : decode m266.2.1 70 = .ok (.ior, 1) := by decide +kernel
theorem d_266_71 : decode m266.2.1 71 = .ok (.iastore, 1) := by decide +kernel
theorem d_266_72 : decode m266.2.1 72 = .ok (.iinc 2 1, 3) := by decide +kernel
theorem d_266_75 : decode m266.2.1 75 = .ok (.goto (-61), 3) := by decide +kernel
theorem d_266_78 : decode m266.2.1 78 = .ok (.return_, 1) := by decide +kernel
theorem d_267_0 : decode m267.2.1 0 = .ok (.aload_n 0, 1) := by decide +kernel
theorem d_267_1 : decode m267.2.1 1 = .ok (.invokevirtual 464, 3) := by decide +kernel
theorem d_267_4 : decode m267.2.1 4 = .ok (.aload_n 0, 1) := by decide +kernel
theorem d_267_5 : decode m267.2.1 5 = .ok (.iload_n 1, 1) := by decide +kernel
theorem d_267_6 : decode m267.2.1 6 = .ok (.invokevirtual 473, 3) := by decide +kernel
theorem d_267_9 : decode m267.2.1 9 = .ok (.ifCond .eq 29, 3) := by decide +kernel
theorem d_267_12 : decode m267.2.1 12 = .ok (.aload_n 0, 1) := by decide +kernel
theorem d_267_13 : decode m267.2.1 13 = .ok (.iload_n 1, 1) := by decide +kernel
theorem d_267_14 : decode m267.2.1 14 = .ok (.aload_n 0, 1) := by decide +kernel
theorem d_267_15 : decode m267.2.1 15 = .ok (.iconst 1, 1) := by decide +kernel
theorem d_267_16 : decode m267.2.1 16 = .ok (.invokevirtual 454, 3) := by decide +kernel
theorem d_267_19 : decode m267.2.1 19 = .ok (.aload_n 0, 1) := by decide +kernel
theorem d_267_20 : decode m267.2.1 20 = .ok (.iconst 2, 1) := by decide +kernel
theorem d_267_21 : decode m267.2.1 21 = .ok (.invokevirtual 454, 3) := by decide +kernel
theorem d_267_24 : decode m267.2.1 24 = .ok (.aload_n 0, 1) := by decide +kernel
theorem d_267_25 : decode m267.2.1 25 = .ok (.getfield 84, 3) := by decide +kernel
theorem d_267_28 : decode m267.2.1 28 = .ok (.aload_n 0, 1) := by decide +kernel
theorem d_267_29 : decode m267.2.1 29 = .ok (.getfield 81, 3) := by decide +kernel
theorem d_267_32 : decode m267.2.1 32 = .ok (.invokevirtual 450, 3) := by decide +kernel
theorem d_267_35 : decode m267.2.1 35 = .ok (.goto 4, 3) := by decide +kernel
theorem d_267_38 : decode m267.2.1 38 = .ok (.iconst (-1), 1) := by decide +kernel
theorem d_267_39 : decode m267.2.1 39 = .ok (.ireturn, 1) := by decide +kernel
theorem d_268_0 : decode m268.2.1 0 = .ok (.iload_n 2, 1) := by decide +kernel
theorem d_268_1 : decode m268.2.1 1 = .ok (.aload_n 0, 1) := by decide +kernel
theorem d_268_2 : decode m268.2.1 2 = .ok (.getfield 99, 3) := by decide +kernel
theorem d_268_5 : decode m268.2.1 5 = .ok (.iload_n 1, 1) := by decide +kernel
theorem d_268_6 : decode m268.2.1 6 = .ok (.iaload, 1) := by decide +kernel
theorem d_268_7 : decode m268.2.1 7 = .ok (.iand, 1) := by decide +kernel
theorem d_268_8 : decode m268.2.1 8 = .ok (.istore 6, 2) := by decide +kernel
theorem d_268_10 : decode m268.2.1 10 = .ok (.iload_n 3, 1) := by decide +kernel
theorem d_268_11 : decode m268.2.1 11 = .ok (.aload_n 0, 1) := by decide +kernel
theorem d_268_12 : decode m268.2.1 12 = .ok (.getfield 99, 3) := by decide +kernel
theorem d_268_15 : decode m268.2.1 15 = .ok (.iload_n 1, 1) := by decide +kernel
theorem d_268_16 : decode m268.2.1 16 = .ok (.iaload, 1) := by decide +kernel
theorem d_268_17 : decode m268.2.1 17 = .ok (.iand, 1) := by decide +kernel
theorem d_268_18 : decode m268.2.1 18 = .ok (.istore 7, 2) := by decide +kernel
theorem d_268_20 : decode m268.2.1 20 = .ok (.iload_n 1, 1) := by decide +kernel
theorem d_268_21 : decode m268.2.1 21 = .ok (.ifCond .ne 7, 3) := by decide +kernel
theorem d_268_24 : decode m268.2.1 24 = .ok (.iconst 0, 1) := by decide +kernel
theorem d_268_25 : decode m268.2.1 25 = .ok (.goto 11, 3) := by decide +kernel
theorem d_268_28 : decode m268.2.1 28 = .ok (.aload_n 0, 1) := by decide +kernel
theorem d_268_29 : decode m268.2.1 29 = .ok (.getfield 99, 3) := by decide +kernel
theorem d_268_32 : decode m268.2.1 32 = .ok (.iload_n 1, 1) := by decide +kernel
theorem d_268_33 : decode m268.2.1 33 = .ok (.iconst 1, 1) := by decide +kernel
theorem d_268_34 : decode m268.2.1 34 = .ok (.isub, 1) := by decide +kernel
theorem d_268_35 : decode m268.2.1 35 = .ok (.iaload, 1) := by decide +kernel
theorem d_268_36 : decode m268.2.1 36 = .ok (.istore 8, 2) := by decide +kernel
theorem d_268_38 : decode m268.2.1 38 = .ok (.aload_n 0, 1) := by decide +kernel
theorem d_268_39 : decode m268.2.1 39 = .ok (.iload 6, 2) := by decide +kernel
theorem d_268_41 : decode m268.2.1 41 = .ok (.iload_n 2, 1) := by decide +kernel
theorem d_268_42 : decode m268.2.1 42 = .ok (.iload 8, 2) := by decide +kernel
theorem d_268_44 : decode m268.2.1 44 = .ok (.iand, 1) := by decide +kernel
theorem d_268_45 : decode m268.2.1 45 = .ok (.iload 4, 2) := by decide +kernel
theorem d_268_47 : decode m268.2.1 47 = .ok (.iload 5, 2) := by decide +kernel
theorem d_268_49 : decode m268.2.1 49 = .ok (.invokevirtual 443, 3) := by decide +kernel
theorem d_268_52 : decode m268.2.1 52 = .ok (.aload_n 0, 1) := by decide +kernel
theorem d_268_53 : decode m268.2.1 53 = .ok (.iload 7, 2) := by decide +kernel
theorem d_268_55 : decode m268.2.1 55 = .ok (.iload_n 3, 1) := by decide +kernel
theorem d_268_56 : decode m268.2.1 56 = .ok (.iload 8, 2) := by decide +kernel
theorem d_268_58 : decode m268.2.1 58 = .ok (.iand, 1) := by decide +kernel
theorem d_268_59 : decode m268.2.1 59 = .ok (.iload 4, 2) := by decide +kernel
theorem d_268_61 : decode m268.2.1 61 = .ok (.iload 5, 2) := by decide +kernel
theorem d_268_63 : decode m268.2.1 63 = .ok (.invokevirtual 443, 3) := by decide +kernel
theorem d_268_66 : decode m268.2.1 66 = .ok (.ior, 1) := by decide +kernel
theorem d_268_67 : decode m268.2.1 67 = .ok (.istore 9, 2) := by decide +kernel
theorem d_268_69 : decode m268.2.1 69 = .ok (.iload 6, 2) := by decide +kernel
theorem d_268_71 : decode m268.2.1 71 = .ok (.ifCond .eq 29, 3) := by decide +kernel
theorem d_268_74 : decode m268.2.1 74 = .ok (.iload 7, 2) := by decide +kernel
theorem d_268_76 : decode m268.2.1 76 = .ok (.ifCond .eq 24, 3) := by decide +kernel
theorem d_268_79 : decode m268.2.1 79 = .ok (.aload_n 0, 1) := by decide +kernel
theorem d_268_80 : decode m268.2.1 80 = .ok (.iload 6, 2) := by decide +kernel
theorem d_268_82 : decode m268.2.1 82 = .ok (.invokevirtual 440, 3) := by decide +kernel
theorem d_268_85 : decode m268.2.1 85 = .ok (.aload_n 0, 1) := by decide +kernel
theorem d_268_86 : decode m268.2.1 86 = .ok (.iload 7, 2) := by decide +kernel
theorem d_268_88 : decode m268.2.1 88 = .ok (.invokevirtual 437, 3) := by decide +kernel
theorem d_268_91 : decode m268.2.1 91 = .ok (.if_icmp .lt 9, 3) := by decide +kernel
theorem d_268_94 : decode m268.2.1 94 = .ok (.iload 9, 2) := by decide +kernel
theorem d_268_96 : decode m268.2.1 96 = .ok (.iconst 4, 1) := by decide +kernel
theorem d_268_97 : decode m268.2.1 97 = .ok (.ior, 1) := by decide +kernel
theorem d_268_98 : decode m268.2.1 98 = .ok (.istore 9, 2) := by decide +kernel
theorem d_268_100 : decode m268.2.1 100 = .ok (.aload_n 0, 1) := by decide +kernel
theorem d_268_101 : decode m268.2.1 101 = .ok (.iload 6, 2) := by decide +kernel
theorem d_268_103 : decode m268.2.1 103 = .ok (.iload 7, 2) := by decide +kernel
theorem d_268_105 : decode m268.2.1 105 = .ok (.ior, 1) := by decide +kernel
theorem d_268_106 : decode m268.2.1 106 = .ok (.invokevirtual 447, 3) := by decide +kernel
theorem d_268_109 : decode m268.2.1 109 = .ok (.ifCond .eq 11, 3) := by decide +kernel
theorem d_268_112 : decode m268.2.1 112 = .ok (.iload 9, 2) := by decide +kernel
theorem d_268_114 : decode m268.2.1 114 = .ok (.bipush 8, 2) := by decide +kernel
theorem d_268_116 : decode m268.2.1 116 = .ok (.ior, 1) := by decide +kernel
theorem d_268_117 : decode m268.2.1 117 = .ok (.goto 5, 3) := by decide +kernel
theorem d_268_120 : decode m268.2.1 120 = .ok (.iload 9, 2) := by decide +kernel
theorem d_268_122 : decode m268.2.1 122 = .ok (.ireturn, 1) := by decide +kernel
theorem d_269_0 : decode m269.2.1 0 = .ok (.iload_n 1, 1) := by decide +kernel
theorem d_269_1 : decode m269.2.1 1 = .ok (.ifCond .ne 5, 3) := by decide +kernel
theorem d_269_4 : decode m269.2.1 4 = .ok (.iconst 0, 1) := by decide +kernel
theorem d_269_5 : decode m269.2.1 5 = .ok (.ireturn, 1) := by decide +kernel
theorem d_269_6 : decode m269.2.1 6 = .ok (.iload_n 1, 1) := by decide +kernel
theorem d_269_7 : decode m269.2.1 7 = .ok (.invokestatic 331, 3) := by decide +kernel
theorem d_269_10 : decode m269.2.1 10 = .ok (.iload_n 3, 1) := by decide +kernel
theorem d_269_11 : decode m269.2.1 11 = .ok (.if_icmp .le 7, 3) := by decide +kernel
theorem d_269_14 : decode m269.2.1 14 = .ok (.iconst 1, 1) := by decide +kernel
theorem d_269_15 : decode m269.2.1 15 = .ok (.goto 4, 3) := by decide +kernel
theorem d_269_18 : decode m269.2.1 18 = .ok (.iconst 0, 1) := by decide +kernel
theorem d_269_19 : decode m269.2.1 19 = .ok (.istore 5, 2) := by decide +kernel
theorem d_269_21 : decode m269.2.1 21 = .ok (.aload_n 0, 1) := by decide +kernel
theorem d_269_22 : decode m269.2.1 22 = .ok (.iload_n 1, 1) := by decide +kernel
theorem d_269_23 : decode m269.2.1 23 = .ok (.invokevirtual 437, 3) := by decide +kernel
theorem d_269_26 : decode m269.2.1 26 = .ok (.istore 6, 2) := by decide +kernel
theorem d_269_28 : decode m269.2.1 28 = .ok (.aload_n 0, 1) := by decide +kernel
theorem d_269_29 : decode m269.2.1 29 = .ok (.iload_n 1, 1) := by decide +kernel
theorem d_269_30 : decode m269.2.1 30 = .ok (.invokevirtual 440, 3) := by decide +kernel
theorem d_269_33 : decode m269.2.1 33 = .ok (.iload 6, 2) := by decide +kernel
theorem d_269_35 : decode m269.2.1 35 = .ok (.isub, 1) := by decide +kernel
theorem d_269_36 : decode m269.2.1 36 = .ok (.iload 4, 2) := by decide +kernel
theorem d_269_38 : decode m269.2.1 38 = .ok (.if_icmp .le 9, 3) := by decide +kernel
theorem d_269_41 : decode m269.2.1 41 = .ok (.iload 5, 2) := by decide +kernel
theorem d_269_43 : decode m269.2.1 43 = .ok (.iconst 2, 1) := by decide +kernel
theorem d_269_44 : decode m269.2.1 44 = .ok (.ior, 1) := by decide +kernel
theorem d_269_45 : decode m269.2.1 45 = .ok (.istore 5, 2) := by decide +kernel
theorem d_269_47 : decode m269.2.1 47 = .ok (.iload_n 2, 1) := by decide +kernel
theorem d_269_48 : decode m269.2.1 48 = .ok (.ifCond .eq 28, 3) := by decide +kernel
theorem d_269_51 : decode m269.2.1 51 = .ok (.iload 6, 2) := by decide +kernel
theorem d_269_53 : decode m269.2.1 53 = .ok (.aload_n 0, 1) := by decide +kernel
theorem d_269_54 : decode m269.2.1 54 = .ok (.iload_n 2, 1) := by decide +kernel
theorem d_269_55 : decode m269.2.1 55 = .ok (.invokevirtual 437, 3) := by decide +kernel
theorem d_269_58 : decode m269.2.1 58 = .ok (.isub, 1) := by decide +kernel
theorem d_269_59 : decode m269.2.1 59 = .ok (.invokestatic 325, 3) := by decide +kernel
theorem d_269_62 : decode m269.2.1 62 = .ok (.aload_n 0, 1) := by decide +kernel
theorem d_269_63 : decode m269.2.1 63 = .ok (.getfield 87, 3) := by decide +kernel
theorem d_269_66 : decode m269.2.1 66 = .ok (.if_icmp .le 10, 3) := by decide +kernel
theorem d_269_69 : decode m269.2.1 69 = .ok (.iload 5, 2) := by decide +kernel
theorem d_269_71 : decode m269.2.1 71 = .ok (.bipush 16, 2) := by decide +kernel
theorem d_269_73 : decode m269.2.1 73 = .ok (.ior, 1) := by decide +kernel
theorem d_269_74 : decode m269.2.1 74 = .ok (.istore 5, 2) := by decide +kernel
theorem d_269_76 : decode m269.2.1 76 = .ok (.iload 5, 2) := by decide +kernel
theorem d_269_78 : decode m269.2.1 78 = .ok (.ireturn, 1) := by decide +kernel
theorem d_270_0 : decode m270.2.1 0 = .ok (.ldc_w 436, 3) := by decide +kernel
theorem d_270_3 : decode m270.2.1 3 = .ok (.istore_n 2, 1) := by decide +kernel
theorem d_270_4 : decode m270.2.1 4 = .ok (.iconst 0, 1) := by decide +kernel
theorem d_270_5 : decode m270.2.1 5 = .ok (.istore_n 3, 1) := by decide +kernel
theorem d_270_6 : decode m270.2.1 6 = .ok (.iload_n 3, 1) := by decide +kernel
theorem d_270_7 : decode m270.2.1 7 = .ok (.aload_n 0, 1) := by decide +kernel
theorem d_270_8 : decode m270.2.1 8 = .ok (.getfield 322, 3) := by decide +kernel
theorem d_270_11 : decode m270.2.1 11 = .ok (.if_icmp .ge 41, 3) := by decide +kernel
theorem d_270_14 : decode m270.2.1 14 = .ok (.iload_n 1, 1) := by decide +kernel
theorem d_270_15 : decode m270.2.1 15 = .ok (.iload_n 3, 1) := by decide +kernel
theorem d_270_16 : decode m270.2.1 16 = .ok (.ishr, 1) := by decide +kernel
theorem d_270_17 : decode m270.2.1 17 = .ok (.iconst 1, 1) := by decide +kernel
theorem d_270_18 : decode m270.2.1 18 = .ok (.iand, 1) := by decide +kernel
theorem d_270_19 : decode m270.2.1 19 = .ok (.iconst 1, 1) := by decide +kernel
theorem d_270_20 : decode m270.2.1 20 = .ok (.if_icmp .ne 26, 3) := by decide +kernel
theorem d_270_23 : decode m270.2.1 23 = .ok (.aload_n 0, 1) := by decide +kernel
theorem d_270_24 : decode m270.2.1 24 = .ok (.getfield 96, 3) := by decide +kernel
theorem d_270_27 : decode m270.2.1 27 = .ok (.bipush 10, 2) := by decide +kernel
theorem d_270_29 : decode m270.2.1 29 = .ok (.iload_n 3, 1) := by decide +kernel
theorem d_270_30 : decode m270.2.1 30 = .ok (.iadd, 1) := by decide +kernel
theorem d_270_31 : decode m270.2.1 31 = .ok (.iaload, 1) := by decide +kernel
theorem d_270_32 : decode m270.2.1 32 = .ok (.iload_n 2, 1) := by decide +kernel
theorem d_270_33 : decode m270.2.1 33 = .ok (.if_icmp .ge 13, 3) := by decide +kernel
theorem d_270_36 : decode m270.2.1 36 = .ok (.aload_n 0, 1) := by decide +kernel
theorem d_270_37 : decode m270.2.1 37 = .ok (.getfield 96, 3) := by decide +kernel
theorem d_270_40 : decode m270.2.1 40 = .ok (.bipush 10, 2) := by decide +kernel
theorem d_270_42 : decode m270.2.1 42 = .ok (.iload_n 3, 1) := by decide +kernel
theorem d_270_43 : decode m270.2.1 43 = .ok (.iadd, 1) := by decide +kernel
theorem d_270_44 : decode m270.2.1 44 = .ok (.iaload, 1) := by decide +kernel
theorem d_270_45 : decode m270.2.1 45 = .ok (.istore_n 2, 1) := by decide +kernel
theorem d_270_46 : decode m270.2.1 46 = .ok (.iinc 3 1, 3) := by decide +kernel
theorem d_270_49 : decode m270.2.1 49 = .ok (.goto (-43), 3) := by decide +kernel
theorem d_270_52 : decode m270.2.1 52 = .ok (.iload_n 2, 1) := by decide +kernel
theorem d_270_53 : decode m270.2.1 53 = .ok (.ireturn, 1) := by decide +kernel
theorem d_271_0 : decode m271.2.1 0 = .ok (.iconst (-1), 1) := by decide +kernel
theorem d_271_1 : decode m271.2.1 1 = .ok (.istore_n 2, 1) := by decide +kernel
theorem d_271_2 : decode m271.2.1 2 = .ok (.iconst 0, 1) := by decide +kernel
theorem d_271_3 : decode m271.2.1 3 = .ok (.istore_n 3, 1) := by decide +kernel
theorem d_271_4 : decode m271.2.1 4 = .ok (.iload_n 3, 1) := by decide +kernel
theorem d_271_5 : decode m271.2.1 5 = .ok (.aload_n 0, 1) := by decide +kernel
theorem d_271_6 : decode m271.2.1 6 = .ok (.getfield 322, 3) := by decide +kernel
theorem d_271_9 : decode m271.2.1 9 = .ok (.if_icmp .ge 41, 3) := by decide +kernel
theorem d_271_12 : decode m271.2.1 12 = .ok (.iload_n 1, 1) := by decide +kernel
theorem d_271_13 : decode m271.2.1 13 = .ok (.iload_n 3, 1) := by decide +kernel
theorem d_271_14 : decode m271.2.1 14 = .ok (.ishr, 1) := by decide +kernel
theorem d_271_15 : decode m271.2.1 15 = .ok (.iconst 1, 1) := by decide +kernel
theorem d_271_16 : decode m271.2.1 16 = .ok (.iand, 1) := by decide +kernel
theorem d_271_17 : decode m271.2.1 17 = .ok (.iconst 1, 1) := by decide +kernel
theorem d_271_18 : decode m271.2.1 18 = .ok (.if_icmp .ne 26, 3) := by decide +kernel
theorem d_271_21 : decode m271.2.1 21 = .ok (.aload_n 0, 1) := by decide +kernel
theorem d_271_22 : decode m271.2.1 22 = .ok (.getfield 96, 3) := by decide +kernel
theorem d_271_25 : decode m271.2.1 25 = .ok (.bipush 10, 2) := by decide +kernel
theorem d_271_27 : decode m271.2.1 27 = .ok (.iload_n 3, 1) := by decide +kernel
theorem d_271_28 : decode m271.2.1 28 = .ok (.iadd, 1) := by decide +kernel
theorem d_271_29 : decode m271.2.1 29 = .ok (.iaload, 1) := by decide +kernel
theorem d_271_30 : decode m271.2.1 30 = .ok (.iload_n 2, 1) := by decide +kernel
theorem d_271_31 : decode m271.2.1 31 = .ok (.if_icmp .le 13, 3) := by decide +kernel
theorem d_271_34 : decode m271.2.1 34 = .ok (.aload_n 0, 1) := by decide +kernel
theorem d_271_35 : decode m271.2.1 35 = .ok (.getfield 96, 3) := by decide +kernel
theorem d_271_38 : decode m271.2.1 38 = .ok (.bipush 10, 2) := by decide +kernel
theorem d_271_40 : decode m271.2.1 40 = .ok (.iload_n 3, 1) := by decide +kernel
theorem d_271_41 : decode m271.2.1 41 = .ok (.iadd, 1) := by decide +kernel
theorem d_271_42 : decode m271.2.1 42 = .ok (.iaload, 1) := by decide +kernel
theorem d_271_43 : decode m271.2.1 43 = .ok (.istore_n 2, 1) := by decide +kernel
theorem d_271_44 : decode m271.2.1 44 = .ok (.iinc 3 1, 3) := by decide +kernel
theorem d_271_47 : decode m271.2.1 47 = .ok (.goto (-43), 3) := by decide +kernel
theorem d_271_50 : decode m271.2.1 50 = .ok (.iload_n 2, 1) := by decide +kernel
theorem d_271_51 : decode m271.2.1 51 = .ok (.ireturn, 1) := by decide +kernel
theorem d_272_0 : decode m272.2.1 0 = .ok (.iconst 0, 1) := by decide +kernel
theorem d_272_1 : decode m272.2.1 1 = .ok (.istore_n 2, 1) := by decide +kernel
theorem d_272_2 : decode m272.2.1 2 = .ok (.iconst 0, 1) := by decide +kernel
theorem d_272_3 : decode m272.2.1 3 = .ok (.istore_n 3, 1) := by decide +kernel
theorem d_272_4 : decode m272.2.1 4 = .ok (.iload_n 3, 1) := by decide +kernel
theorem d_272_5 : decode m272.2.1 5 = .ok (.aload_n 0, 1) := by decide +kernel
theorem d_272_6 : decode m272.2.1 6 = .ok (.getfield 322, 3) := by decide +kernel
theorem d_272_9 : decode m272.2.1 9 = .ok (.if_icmp .ge 81, 3) := by decide +kernel
theorem d_272_12 : decode m272.2.1 12 = .ok (.iload_n 2, 1) := by decide +kernel
theorem d_272_13 : decode m272.2.1 13 = .ok (.ifCond .ne 77, 3) := by decide +kernel
theorem d_272_16 : decode m272.2.1 16 = .ok (.iload_n 1, 1) := by decide +kernel
theorem d_272_17 : decode m272.2.1 17 = .ok (.iload_n 3, 1) := by decide +kernel
theorem d_272_18 : decode m272.2.1 18 = .ok (.ishr, 1) := by decide +kernel
theorem d_272_19 : decode m272.2.1 19 = .ok (.iconst 1, 1) := by decide +kernel
theorem d_272_20 : decode m272.2.1 20 = .ok (.iand, 1) := by decide +kernel
theorem d_272_21 : decode m272.2.1 21 = .ok (.ifCond .ne 6, 3) := by decide +kernel
theorem d_272_24 : decode m272.2.1 24 = .ok (.goto 60, 3) := by decide +kernel
theorem d_272_27 : decode m272.2.1 27 = .ok (.iconst 0, 1) := by decide +kernel
theorem d_272_28 : decode m272.2.1 28 = .ok (.istore 4, 2) := by decide +kernel
theorem d_272_30 : decode m272.2.1 30 = .ok (.iload 4, 2) := by decide +kernel
theorem d_272_32 : decode m272.2.1 32 = .ok (.iload_n 3, 1) := by decide +kernel
theorem d_272_33 : decode m272.2.1 33 = .ok (.if_icmp .ge 51, 3) := by decide +kernel
theorem d_272_36 : decode m272.2.1 36 = .ok (.iload_n 2, 1) := by decide +kernel
theorem d_272_37 : decode m272.2.1 37 = .ok (.ifCond .ne 35, 3) := by decide +kernel
theorem d_272_40 : decode m272.2.1 40 = .ok (.iload_n 1, 1) := by decide +kernel
theorem d_272_41 : decode m272.2.1 41 = .ok (.iload 4, 2) := by decide +kernel
theorem d_272_43 : decode m272.2.1 43 = .ok (.ishr, 1) := by decide +kernel
theorem d_272_44 : decode m272.2.1 44 = .ok (.iconst 1, 1) := by decide +kernel
theorem d_272_45 : decode m272.2.1 45 = .ok (.iand, 1) := by decide +kernel
theorem d_272_46 : decode m272.2.1 46 = .ok (.iconst 1, 1) := by decide +kernel
theorem d_272_47 : decode m272.2.1 47 = .ok (.if_icmp .ne 29, 3) := by decide +kernel
theorem d_272_50 : decode m272.2.1 50 = .ok (.aload_n 0, 1) := by decide +kernel
theorem d_272_51 : decode m272.2.1 51 = .ok (.getfield 96, 3) := by decide +kernel
theorem d_272_54 : decode m272.2.1 54 = .ok (.bipush 10, 2) := by decide +kernel
theorem d_272_56 : decode m272.2.1 56 = .ok (.iload_n 3, 1) := by decide +kernel
theorem d_272_57 : decode m272.2.1 57 = .ok (.iadd, 1) := by decide +kernel
theorem d_272_58 : decode m272.2.1 58 = .ok (.iaload, 1) := by decide +kernel
theorem d_272_59 : decode m272.2.1 59 = .ok (.aload_n 0, 1) := by decide +kernel
theorem d_272_60 : decode m272.2.1 60 = .ok (.getfield 96, 3) := by decide +kernel
theorem d_272_63 : decode m272.2.1 63 = .ok (.bipush 10, 2) := by decide +kernel
theorem d_272_65 : decode m272.2.1 65 = .ok (.iload 4, 2) := by decide +kernel
theorem d_272_67 : decode m272.2.1 67 = .ok (.iadd, 1) := by decide +kernel
theorem d_272_68 : decode m272.2.1 68 = .ok (.iaload, 1) := by decide +kernel
theorem d_272_69 : decode m272.2.1 69 = .ok (.if_icmp .ne 7, 3) := by decide +kernel
theorem d_272_72 : decode m272.2.1 72 = .ok (.iconst 1, 1) := by decide +kernel
theorem d_272_73 : decode m272.2.1 73 = .ok (.goto 4, 3) := by decide +kernel
theorem d_272_76 : decode m272.2.1 76 = .ok (.iconst 0, 1) := by decide +kernel
theorem d_272_77 : decode m272.2.1 77 = .ok (.istore_n 2, 1) := by decide +kernel
theorem d_272_78 : decode m272.2.1 78 = .ok (.iinc 4 1, 3) := by decide +kernel
theorem d_272_81 : decode m272.2.1 81 = .ok (.goto (-51), 3) := by decide +kernel
theorem d_272_84 : decode m272.2.1 84 = .ok (.iinc 3 1, 3) := by decide +kernel
theorem d_272_87 : decode m272.2.1 87 = .ok (.goto (-83), 3) := by decide +kernel
theorem d_272_90 : decode m272.2.1 90 = .ok (.iload_n 2, 1) := by decide +kernel
theorem d_272_91 : decode m272.2.1 91 = .ok (.ireturn, 1) := by decide +kernel
theorem d_273_0 : decode m273.2.1 0 = .ok (.aload_n 0, 1) := by decide +kernel
theorem d_273_1 : decode m273.2.1 1 = .ok (.invokevirtual 464, 3) := by decide +kernel
theorem d_273_4 : decode m273.2.1 4 = .ok (.aload_n 0, 1) := by decide +kernel
theorem d_273_5 : decode m273.2.1 5 = .ok (.aload_n 0, 1) := by decide +kernel
theorem d_273_6 : decode m273.2.1 6 = .ok (.getfield 81, 3) := by decide +kernel
theorem d_273_9 : decode m273.2.1 9 = .ok (.invokevirtual 482, 3) := by decide +kernel
theorem d_273_12 : decode m273.2.1 12 = .ok (.ireturn, 1) := by decide +kernel
theorem d_274_0 : decode m274.2.1 0 = .ok (.iconst 0, 1) := by decide +kernel
theorem d_274_1 : decode m274.2.1 1 = .ok (.istore_n 2, 1) := by decide +kernel
theorem d_274_2 : decode m274.2.1 2 = .ok (.iconst 0, 1) := by decide +kernel
theorem d_274_3 : decode m274.2.1 3 = .ok (.istore_n 3, 1) := by decide +kernel
theorem d_274_4 : decode m274.2.1 4 = .ok (.iload_n 3, 1) := by decide +kernel
theorem d_274_5 : decode m274.2.1 5 = .ok (.aload_n 0, 1) := by decide +kernel
theorem d_274_6 : decode m274.2.1 6 = .ok (.getfield 78, 3) := by decide +kernel
theorem d_274_9 : decode m274.2.1 9 = .ok (.if_icmp .ge 45, 3) := by decide +kernel
theorem d_274_12 : decode m274.2.1 12 = .ok (.iload_n 2, 1) := by decide +kernel
theorem d_274_13 : decode m274.2.1 13 = .ok (.aload_n 0, 1) := by decide +kernel
theorem d_274_14 : decode m274.2.1 14 = .ok (.iload_n 3, 1) := by decide +kernel
theorem d_274_15 : decode m274.2.1 15 = .ok (.aload_n 0, 1) := by decide +kernel
theorem d_274_16 : decode m274.2.1 16 = .ok (.iconst 1, 1) := by decide +kernel
theorem d_274_17 : decode m274.2.1 17 = .ok (.invokevirtual 454, 3) := by decide +kernel
theorem d_274_20 : decode m274.2.1 20 = .ok (.aload_n 0, 1) := by decide +kernel
theorem d_274_21 : decode m274.2.1 21 = .ok (.iconst 2, 1) := by decide +kernel
theorem d_274_22 : decode m274.2.1 22 = .ok (.invokevirtual 454, 3) := by decide +kernel
theorem d_274_25 : decode m274.2.1 25 = .ok (.aload_n 0, 1) := by decide +kernel
theorem d_274_26 : decode m274.2.1 26 = .ok (.getfield 84, 3) := by decide +kernel
theorem d_274_29 : decode m274.2.1 29 = .ok (.iload_n 1, 1) := by decide +kernel
theorem d_274_30 : decode m274.2.1 30 = .ok (.invokevirtual 450, 3) := by decide +kernel
theorem d_274_33 : decode m274.2.1 33 = .ok (.ifCond .eq 7, 3) := by decide +kernel
theorem d_274_36 : decode m274.2.1 36 = .ok (.iconst 1, 1) := by decide +kernel
theorem d_274_37 : decode m274.2.1 37 = .ok (.goto 4, 3) := by decide +kernel
theorem d_274_40 : decode m274.2.1 40 = .ok (.iconst 0, 1) := by decide +kernel
theorem d_274_41 : decode m274.2.1 41 = .ok (.invokestatic 318, 3) := by decide +kernel
theorem d_274_44 : decode m274.2.1 44 = .ok (.iload_n 3, 1) := by decide +kernel
theorem d_274_45 : decode m274.2.1 45 = .ok (.ishl, 1) := by decide +kernel
theorem d_274_46 : decode m274.2.1 46 = .ok (.ior, 1) := by decide +kernel
theorem d_274_47 : decode m274.2.1 47 = .ok (.istore_n 2, 1) := by decide +kernel
theorem d_274_48 : decode m274.2.1 48 = .ok (.iinc 3 1, 3) := by decide +kernel
theorem d_274_51 : decode m274.2.1 51 = .ok (.goto (-47), 3) := by decide +kernel
theorem d_274_54 : decode m274.2.1 54 = .ok (.iload_n 2, 1) := by decide +kernel
theorem d_274_55 : decode m274.2.1 55 = .ok (.ireturn, 1) := by decide +kernel
theorem d_275_0 : decode m275.2.1 0 = .ok (.aload_n 0, 1) := by decide +kernel
theorem d_275_1 : decode m275.2.1 1 = .ok (.iload_n 1, 1) := by decide +kernel
theorem d_275_2 : decode m275.2.1 2 = .ok (.invokevirtual 461, 3) := by decide +kernel
theorem d_275_5 : decode m275.2.1 5 = .ok (.ifCond .eq 22, 3) := by decide +kernel
theorem d_275_8 : decode m275.2.1 8 = .ok (.iload_n 2, 1) := by decide +kernel
theorem d_275_9 : decode m275.2.1 9 = .ok (.iconst 0, 1) := by decide +kernel
theorem d_275_10 : decode m275.2.1 10 = .ok (.iconst 2, 1) := by decide +kernel
theorem d_275_11 : decode m275.2.1 11 = .ok (.invokestatic 429, 3) := by decide +kernel
theorem d_275_14 : decode m275.2.1 14 = .ok (.ifCond .eq 13, 3) := by decide +kernel
theorem d_275_17 : decode m275.2.1 17 = .ok (.aload_n 0, 1) := by decide +kernel
theorem d_275_18 : decode m275.2.1 18 = .ok (.getfield 93, 3) := by decide +kernel
theorem d_275_21 : decode m275.2.1 21 = .ok (.iload_n 1, 1) := by decide +kernel
theorem d_275_22 : decode m275.2.1 22 = .ok (.iaload, 1) := by decide +kernel
theorem d_275_23 : decode m275.2.1 23 = .ok (.iload_n 2, 1) := by decide +kernel
theorem d_275_24 : decode m275.2.1 24 = .ok (.if_icmp .ne 5, 3) := by decide +kernel
theorem d_275_27 : decode m275.2.1 27 = .ok (.iconst (-1), 1) := by decide +kernel
theorem d_275_28 : decode m275.2.1 28 = .ok (.ireturn, 1) := by decide +kernel
theorem d_275_29 : decode m275.2.1 29 = .ok (.aload_n 0, 1) := by decide +kernel
theorem d_275_30 : decode m275.2.1 30 = .ok (.invokevirtual 485, 3) := by decide +kernel
theorem d_275_33 : decode m275.2.1 33 = .ok (.aload_n 0, 1) := by decide +kernel
theorem d_275_34 : decode m275.2.1 34 = .ok (.getfield 93, 3) := by decide +kernel
theorem d_275_37 : decode m275.2.1 37 = .ok (.iload_n 1, 1) := by decide +kernel
theorem d_275_38 : decode m275.2.1 38 = .ok (.iload_n 2, 1) := by decide +kernel
theorem d_275_39 : decode m275.2.1 39 = .ok (.iastore, 1) := by decide +kernel
theorem d_275_40 : decode m275.2.1 40 = .ok (.aload_n 0, 1) := by decide +kernel
theorem d_275_41 : decode m275.2.1 41 = .ok (.invokevirtual 488, 3) := by decide +kernel
theorem d_275_44 : decode m275.2.1 44 = .ok (.ireturn, 1) := by decide +kernel
theorem d_276_0 : decode m276.2.1 0 = .ok (.aload_n 0, 1) := by decide +kernel
theorem d_276_1 : decode m276.2.1 1 = .ok (.getfield 417, 3) := by decide +kernel
theorem d_276_4 : decode m276.2.1 4 = .ok (.bipush 40, 2) := by decide +kernel
theorem d_276_6 : decode m276.2.1 6 = .ok (.if_icmp .ne 43, 3) := by decide +kernel
theorem d_276_9 : decode m276.2.1 9 = .ok (.iconst 0, 1) := by decide +kernel
theorem d_276_10 : decode m276.2.1 10 = .ok (.istore_n 1, 1) := by decide +kernel
theorem d_276_11 : decode m276.2.1 11 = .ok (.iload_n 1, 1) := by decide +kernel
theorem d_276_12 : decode m276.2.1 12 = .ok (.sipush 1599, 3) := by decide +kernel
theorem d_276_15 : decode m276.2.1 15 = .ok (.if_icmp .ge 24, 3) := by decide +kernel
theorem d_276_18 : decode m276.2.1 18 = .ok (.aload_n 0, 1) := by decide +kernel
theorem d_276_19 : decode m276.2.1 19 = .ok (.getfield 105, 3) := by decide +kernel
theorem d_276_22 : decode m276.2.1 22 = .ok (.iload_n 1, 1) := by decide +kernel
theorem d_276_23 : decode m276.2.1 23 = .ok (.aload_n 0, 1) := by decide +kernel
theorem d_276_24 : decode m276.2.1 24 = .ok (.getfield 105, 3) := by decide +kernel
theorem d_276_27 : decode m276.2.1 27 = .ok (.bipush 41, 2) := by decide +kernel
theorem d_276_29 : decode m276.2.1 29 = .ok (.iload_n 1, 1) := by decide +kernel
theorem d_276_30 : decode m276.2.1 30 = .ok (.iadd, 1) := by decide +kernel
theorem d_276_31 : decode m276.2.1 31 = .ok (.iaload, 1) := by decide +kernel
theorem d_276_32 : decode m276.2.1 32 = .ok (.iastore, 1) := by decide +kernel
theorem d_276_33 : decode m276.2.1 33 = .ok (.iinc 1 1, 3) := by decide +kernel
theorem d_276_36 : decode m276.2.1 36 = .ok (.goto (-25), 3) := by decide +kernel
theorem d_276_39 : decode m276.2.1 39 = .ok (.aload_n 0, 1) := by decide +kernel
theorem d_276_40 : decode m276.2.1 40 = .ok (.dup, 1) := by decide +kernel
theorem d_276_41 : decode m276.2.1 41 = .ok (.getfield 417, 3) := by decide +kernel
theorem d_276_44 : decode m276.2.1 44 = .ok (.iconst 1, 1) := by decide +kernel
theorem d_276_45 : decode m276.2.1 45 = .ok (.isub, 1) := by decide +kernel
theorem d_276_46 : decode m276.2.1 46 = .ok (.putfield 417, 3) := by decide +kernel
theorem d_276_49 : decode m276.2.1 49 = .ok (.iconst 0, 1) := by decide +kernel
theorem d_276_50 : decode m276.2.1 50 = .ok (.istore_n 1, 1) := by decide +kernel
theorem d_276_51 : decode m276.2.1 51 = .ok (.iload_n 1, 1) := by decide +kernel
theorem d_276_52 : decode m276.2.1 52 = .ok (.bipush 41, 2) := by decide +kernel
theorem d_276_54 : decode m276.2.1 54 = .ok (.if_icmp .ge 29, 3) := by decide +kernel
theorem d_276_57 : decode m276.2.1 57 = .ok (.aload_n 0, 1) := by decide +kernel
theorem d_276_58 : decode m276.2.1 58 = .ok (.getfield 105, 3) := by decide +kernel
theorem d_276_61 : decode m276.2.1 61 = .ok (.bipush 41, 2) := by decide +kernel
theorem d_276_63 : decode m276.2.1 63 = .ok (.aload_n 0, 1) := by decide +kernel
theorem d_276_64 : decode m276.2.1 64 = .ok (.getfield 417, 3) := by decide +kernel
theorem d_276_67 : decode m276.2.1 67 = .ok (.imul, 1) := by decide +kernel
theorem d_276_68 : decode m276.2.1 68 = .ok (.iload_n 1, 1) := by decide +kernel
theorem d_276_69 : decode m276.2.1 69 = .ok (.iadd, 1) := by decide +kernel
theorem d_276_70 : decode m276.2.1 70 = .ok (.aload_n 0, 1) := by decide +kernel
theorem d_276_71 : decode m276.2.1 71 = .ok (.getfield 93, 3) := by decide +kernel
theorem d_276_74 : decode m276.2.1 74 = .ok (.iload_n 1, 1) := by decide +kernel
theorem d_276_75 : decode m276.2.1 75 = .ok (.iaload, 1) := by decide +kernel
theorem d_276_76 : decode m276.2.1 76 = .ok (.iastore, 1) := by decide +kernel
theorem d_276_77 : decode m276.2.1 77 = .ok (.iinc 1 1, 3) := by decide +kernel
theorem d_276_80 : decode m276.2.1 80 = .ok (.goto (-29), 3) := by decide +kernel
theorem d_276_83 : decode m276.2.1 83 = .ok (.aload_n 0, 1) := by decide +kernel
theorem d_276_84 : decode m276.2.1 84 = .ok (.dup, 1) := by decide +kernel
theorem d_276_85 : decode m276.2.1 85 = .ok (.getfield 417, 3) := by decide +kernel
theorem d_276_88 : decode m276.2.1 88 = .ok (.iconst 1, 1) := by decide +kernel
theorem d_276_89 : decode m276.2.1 89 = .ok (.iadd, 1) := by decide +kernel
theorem d_276_90 : decode m276.2.1 90 = .ok (.putfield 417, 3) := by decide +kernel
theorem d_276_93 : decode m276.2.1 93 = .ok (.aload_n 0, 1) := by decide +kernel
theorem d_276_94 : decode m276.2.1 94 = .ok (.iconst 0, 1) := by decide +kernel
theorem d_276_95 : decode m276.2.1 95 = .ok (.putfield 420, 3) := by decide +kernel
theorem d_276_98 : decode m276.2.1 98 = .ok (.return_, 1) := by decide +kernel
theorem d_277_0 : decode m277.2.1 0 = .ok (.aload_n 0, 1) := by decide +kernel
theorem d_277_1 : decode m277.2.1 1 = .ok (.iload_n 1, 1) := by decide +kernel
theorem d_277_2 : decode m277.2.1 2 = .ok (.invokevirtual 461, 3) := by decide +kernel
theorem d_277_5 : decode m277.2.1 5 = .ok (.ifCond .eq 41, 3) := by decide +kernel
theorem d_277_8 : decode m277.2.1 8 = .ok (.iload_n 2, 1) := by decide +kernel
theorem d_277_9 : decode m277.2.1 9 = .ok (.ifCond .eq 37, 3) := by decide +kernel
theorem d_277_12 : decode m277.2.1 12 = .ok (.iload_n 2, 1) := by decide +kernel
theorem d_277_13 : decode m277.2.1 13 = .ok (.bipush (-7), 2) := by decide +kernel
theorem d_277_15 : decode m277.2.1 15 = .ok (.bipush 7, 2) := by decide +kernel
theorem d_277_17 : decode m277.2.1 17 = .ok (.invokestatic 429, 3) := by decide +kernel
theorem d_277_20 : decode m277.2.1 20 = .ok (.ifCond .eq 26, 3) := by decide +kernel
theorem d_277_23 : decode m277.2.1 23 = .ok (.aload_n 0, 1) := by decide +kernel
theorem d_277_24 : decode m277.2.1 24 = .ok (.getfield 93, 3) := by decide +kernel
theorem d_277_27 : decode m277.2.1 27 = .ok (.bipush 10, 2) := by decide +kernel
theorem d_277_29 : decode m277.2.1 29 = .ok (.iload_n 1, 1) := by decide +kernel
theorem d_277_30 : decode m277.2.1 30 = .ok (.iadd, 1) := by decide +kernel
theorem d_277_31 : decode m277.2.1 31 = .ok (.iaload, 1) := by decide +kernel
theorem d_277_32 : decode m277.2.1 32 = .ok (.bipush 12, 2) := by decide +kernel
theorem d_277_34 : decode m277.2.1 34 = .ok (.iload_n 2, 1) := by decide +kernel
theorem d_277_35 : decode m277.2.1 35 = .ok (.imul, 1) := by decide +kernel
theorem d_277_36 : decode m277.2.1 36 = .ok (.iadd, 1) := by decide +kernel
theorem d_277_37 : decode m277.2.1 37 = .ok (.iconst 0, 1) := by decide +kernel
theorem d_277_38 : decode m277.2.1 38 = .ok (.bipush 87, 2) := by decide +kernel
theorem d_277_40 : decode m277.2.1 40 = .ok (.invokestatic 429, 3) := by decide +kernel
theorem d_277_43 : decode m277.2.1 43 = .ok (.ifCond .ne 5, 3) := by decide +kernel
theorem d_277_46 : decode m277.2.1 46 = .ok (.iconst (-1), 1) := by decide +kernel
theorem d_277_47 : decode m277.2.1 47 = .ok (.ireturn, 1) := by decide +kernel
theorem d_277_48 : decode m277.2.1 48 = .ok (.aload_n 0, 1) := by decide +kernel
theorem d_277_49 : decode m277.2.1 49 = .ok (.invokevirtual 485, 3) := by decide +kernel
theorem d_277_52 : decode m277.2.1 52 = .ok (.aload_n 0, 1) := by decide +kernel
theorem d_277_53 : decode m277.2.1 53 = .ok (.getfield 93, 3) := by decide +kernel
theorem d_277_56 : decode m277.2.1 56 = .ok (.bipush 10, 2) := by decide +kernel
theorem d_277_58 : decode m277.2.1 58 = .ok (.iload_n 1, 1) := by decide +kernel
theorem d_277_59 : decode m277.2.1 59 = .ok (.iadd, 1) := by decide +kernel
theorem d_277_60 : decode m277.2.1 60 = .ok (.dup2, 1) := by decide +kernel
theorem d_277_61 : decode m277.2.1 61 = .ok (.iaload, 1) := by decide +kernel
theorem d_277_62 : decode m277.2.1 62 = .ok (.bipush 12, 2) := by decide +kernel
theorem d_277_64 : decode m277.2.1 64 = .ok (.iload_n 2, 1) := by decide +kernel
theorem d_277_65 : decode m277.2.1 65 = .ok (.imul, 1) := by decide +kernel
theorem d_277_66 : decode m277.2.1 66 = .ok (.iadd, 1) := by decide +kernel
theorem d_277_67 : decode m277.2.1 67 = .ok (.iastore, 1) := by decide +kernel
theorem d_277_68 : decode m277.2.1 68 = .ok (.aload_n 0, 1) := by decide +kernel
theorem d_277_69 : decode m277.2.1 69 = .ok (.getfield 93, 3) := by decide +kernel
theorem d_277_72 : decode m277.2.1 72 = .ok (.bipush 10, 2) := by decide +kernel
theorem d_277_74 : decode m277.2.1 74 = .ok (.iload_n 1, 1) := by decide +kernel
theorem d_277_75 : decode m277.2.1 75 = .ok (.iadd, 1) := by decide +kernel
theorem d_277_76 : decode m277.2.1 76 = .ok (.iaload, 1) := by decide +kernel
theorem d_277_77 : decode m277.2.1 77 = .ok (.ireturn, 1) := by decide +kernel
theorem d_278_0 : decode m278.2.1 0 = .ok (.aload_n 0, 1) := by decide +kernel
theorem d_278_1 : decode m278.2.1 1 = .ok (.iload_n 1, 1) := by decide +kernel
theorem d_278_2 : decode m278.2.1 2 = .ok (.invokevirtual 461, 3) := by decide +kernel
theorem d_278_5 : decode m278.2.1 5 = .ok (.ifCond .eq 38, 3) := by decide +kernel
theorem d_278_8 : decode m278.2.1 8 = .ok (.iload_n 2, 1) := by decide +kernel
theorem d_278_9 : decode m278.2.1 9 = .ok (.iconst 1, 1) := by decide +kernel
theorem d_278_10 : decode m278.2.1 10 = .ok (.bipush 9, 2) := by decide +kernel
theorem d_278_12 : decode m278.2.1 12 = .ok (.invokestatic 429, 3) := by decide +kernel
theorem d_278_15 : decode m278.2.1 15 = .ok (.ifCond .eq 28, 3) := by decide +kernel
theorem d_278_18 : decode m278.2.1 18 = .ok (.aload_n 0, 1) := by decide +kernel
theorem d_278_19 : decode m278.2.1 19 = .ok (.getfield 93, 3) := by decide +kernel
theorem d_278_22 : decode m278.2.1 22 = .ok (.bipush 30, 2) := by decide +kernel
theorem d_278_24 : decode m278.2.1 24 = .ok (.iload_n 1, 1) := by decide +kernel
theorem d_278_25 : decode m278.2.1 25 = .ok (.iadd, 1) := by decide +kernel
theorem d_278_26 : decode m278.2.1 26 = .ok (.iaload, 1) := by decide +kernel
theorem d_278_27 : decode m278.2.1 27 = .ok (.iload_n 2, 1) := by decide +kernel
theorem d_278_28 : decode m278.2.1 28 = .ok (.if_icmp .eq 15, 3) := by decide +kernel
theorem d_278_31 : decode m278.2.1 31 = .ok (.aload_n 0, 1) := by decide +kernel
theorem d_278_32 : decode m278.2.1 32 = .ok (.bipush 30, 2) := by decide +kernel
theorem d_278_34 : decode m278.2.1 34 = .ok (.iload_n 1, 1) := by decide +kernel
theorem d_278_35 : decode m278.2.1 35 = .ok (.iadd, 1) := by decide +kernel
theorem d_278_36 : decode m278.2.1 36 = .ok (.iload_n 2, 1) := by decide +kernel
theorem d_278_37 : decode m278.2.1 37 = .ok (.invokevirtual 491, 3) := by decide +kernel
theorem d_278_40 : decode m278.2.1 40 = .ok (.goto 4, 3) := by decide +kernel
theorem d_278_43 : decode m278.2.1 43 = .ok (.iconst (-1), 1) := by decide +kernel
theorem d_278_44 : decode m278.2.1 44 = .ok (.ireturn, 1) := by decide +kernel
theorem d_279_0 : decode m279.2.1 0 = .ok (.aload_n 0, 1) := by decide +kernel
theorem d_279_1 : decode m279.2.1 1 = .ok (.invokevirtual 485, 3) := by decide +kernel
theorem d_279_4 : decode m279.2.1 4 = .ok (.aload_n 0, 1) := by decide +kernel
theorem d_279_5 : decode m279.2.1 5 = .ok (.getfield 93, 3) := by decide +kernel
theorem d_279_8 : decode m279.2.1 8 = .ok (.iload_n 1, 1) := by decide +kernel
theorem d_279_9 : decode m279.2.1 9 = .ok (.iaload, 1) := by decide +kernel
theorem d_279_10 : decode m279.2.1 10 = .ok (.istore_n 3, 1) := by decide +kernel
theorem d_279_11 : decode m279.2.1 11 = .ok (.aload_n 0, 1) := by decide +kernel
theorem d_279_12 : decode m279.2.1 12 = .ok (.getfield 93, 3) := by decide +kernel
theorem d_279_15 : decode m279.2.1 15 = .ok (.iload_n 1, 1) := by decide +kernel
theorem d_279_16 : decode m279.2.1 16 = .ok (.iload_n 2, 1) := by decide +kernel
theorem d_279_17 : decode m279.2.1 17 = .ok (.iastore, 1) := by decide +kernel
theorem d_279_18 : decode m279.2.1 18 = .ok (.iload_n 3, 1) := by decide +kernel
theorem d_279_19 : decode m279.2.1 19 = .ok (.ireturn, 1) := by decide +kernel
theorem d_280_0 : decode m280.2.1 0 = .ok (.aload_n 0, 1) := by decide +kernel
theorem d_280_1 : decode m280.2.1 1 = .ok (.iload_n 1, 1) := by decide +kernel
theorem d_280_2 : decode m280.2.1 2 = .ok (.invokevirtual 461, 3) := by decide +kernel
theorem d_280_5 : decode m280.2.1 5 = .ok (.ifCond .eq 38, 3) := by decide +kernel
theorem d_280_8 : decode m280.2.1 8 = .ok (.iload_n 2, 1) := by decide +kernel
theorem d_280_9 : decode m280.2.1 9 = .ok (.iconst 1, 1) := by decide +kernel
theorem d_280_10 : decode m280.2.1 10 = .ok (.bipush 12, 2) := by decide +kernel
theorem d_280_12 : decode m280.2.1 12 = .ok (.invokestatic 429, 3) := by decide +kernel
theorem d_280_15 : decode m280.2.1 15 = .ok (.ifCond .eq 28, 3) := by decide +kernel
theorem d_280_18 : decode m280.2.1 18 = .ok (.aload_n 0, 1) := by decide +kernel
theorem d_280_19 : decode m280.2.1 19 = .ok (.getfield 93, 3) := by decide +kernel
theorem d_280_22 : decode m280.2.1 22 = .ok (.bipush 20, 2) := by decide +kernel
theorem d_280_24 : decode m280.2.1 24 = .ok (.iload_n 1, 1) := by decide +kernel
theorem d_280_25 : decode m280.2.1 25 = .ok (.iadd, 1) := by decide +kernel
theorem d_280_26 : decode m280.2.1 26 = .ok (.iaload, 1) := by decide +kernel
theorem d_280_27 : decode m280.2.1 27 = .ok (.iload_n 2, 1) := by decide +kernel
theorem d_280_28 : decode m280.2.1 28 = .ok (.if_icmp .eq 15, 3) := by decide +kernel
theorem d_280_31 : decode m280.2.1 31 = .ok (.aload_n 0, 1) := by decide +kernel
theorem d_280_32 : decode m280.2.1 32 = .ok (.bipush 20, 2) := by decide +kernel
theorem d_280_34 : decode m280.2.1 34 = .ok (.iload_n 1, 1) := by decide +kernel
theorem d_280_35 : decode m280.2.1 35 = .ok (.iadd, 1) := by decide +kernel
theorem d_280_36 : decode m280.2.1 36 = .ok (.iload_n 2, 1) := by decide +kernel
theorem d_280_37 : decode m280.2.1 37 = .ok (.invokevirtual 491, 3) := by decide +kernel
theorem d_280_40 : decode m280.2.1 40 = .ok (.goto 4, 3) := by decide +kernel
theorem d_280_43 : decode m280.2.1 43 = .ok (.iconst (-1), 1) := by decide +kernel
theorem d_280_44 : decode m280.2.1 44 = .ok (.ireturn, 1) := by decide +kernel
theorem d_281_0 : decode m281.2.1 0 = .ok (.aload_n 0, 1) := by decide +kernel
theorem d_281_1 : decode m281.2.1 1 = .ok (.iload_n 1, 1) := by decide +kernel
theorem d_281_2 : decode m281.2.1 2 = .ok (.invokevirtual 473, 3) := by decide +kernel
theorem d_281_5 : decode m281.2.1 5 = .ok (.ifCond .ne 5, 3) := by decide +kernel
theorem d_281_8 : decode m281.2.1 8 = .ok (.iconst (-1), 1) := by decide +kernel
theorem d_281_9 : decode m281.2.1 9 = .ok (.ireturn, 1) := by decide +kernel
theorem d_281_10 : decode m281.2.1 10 = .ok (.aload_n 0, 1) := by decide +kernel
theorem d_281_11 : decode m281.2.1 11 = .ok (.invokevirtual 485, 3) := by decide +kernel
theorem d_281_14 : decode m281.2.1 14 = .ok (.aload_n 0, 1) := by decide +kernel
theorem d_281_15 : decode m281.2.1 15 = .ok (.getfield 93, 3) := by decide +kernel
theorem d_281_18 : decode m281.2.1 18 = .ok (.bipush 40, 2) := by decide +kernel
theorem d_281_20 : decode m281.2.1 20 = .ok (.dup2, 1) := by decide +kernel
theorem d_281_21 : decode m281.2.1 21 = .ok (.iaload, 1) := by decide +kernel
theorem d_281_22 : decode m281.2.1 22 = .ok (.iconst 1, 1) := by decide +kernel
theorem d_281_23 : decode m281.2.1 23 = .ok (.iload_n 1, 1) := by decide +kernel
theorem d_281_24 : decode m281.2.1 24 = .ok (.ishl, 1) := by decide +kernel
theorem d_281_25 : decode m281.2.1 25 = .ok (.ixor, 1) := by decide +kernel
theorem d_281_26 : decode m281.2.1 26 = .ok (.iastore, 1) := by decide +kernel
theorem d_281_27 : decode m281.2.1 27 = .ok (.aload_n 0, 1) := by decide +kernel
theorem d_281_28 : decode m281.2.1 28 = .ok (.getfield 93, 3) := by decide +kernel
theorem d_281_31 : decode m281.2.1 31 = .ok (.bipush 40, 2) := by decide +kernel
theorem d_281_33 : decode m281.2.1 33 = .ok (.iaload, 1) := by decide +kernel
theorem d_281_34 : decode m281.2.1 34 = .ok (.ireturn, 1) := by decide +kernel
theorem d_282_0 : decode m282.2.1 0 = .ok (.aload_n 0, 1) := by decide +kernel
theorem d_282_1 : decode m282.2.1 1 = .ok (.getfield 417, 3) := by decide +kernel
theorem d_282_4 : decode m282.2.1 4 = .ok (.ifCond .ne 5, 3) := by decide +kernel
theorem d_282_7 : decode m282.2.1 7 = .ok (.iconst 0, 1) := by decide +kernel
theorem d_282_8 : decode m282.2.1 8 = .ok (.ireturn, 1) := by decide +kernel
theorem d_282_9 : decode m282.2.1 9 = .ok (.aload_n 0, 1) := by decide +kernel
theorem d_282_10 : decode m282.2.1 10 = .ok (.dup, 1) := by decide +kernel
theorem d_282_11 : decode m282.2.1 11 = .ok (.getfield 417, 3) := by decide +kernel
theorem d_282_14 : decode m282.2.1 14 = .ok (.iconst 1, 1) := by decide +kernel
theorem d_282_15 : decode m282.2.1 15 = .ok (.isub, 1) := by decide +kernel
theorem d_282_16 : decode m282.2.1 16 = .ok (.putfield 417, 3) := by decide +kernel
theorem d_282_19 : decode m282.2.1 19 = .ok (.aload_n 0, 1) := by decide +kernel
theorem d_282_20 : decode m282.2.1 20 = .ok (.dup, 1) := by decide +kernel
theorem d_282_21 : decode m282.2.1 21 = .ok (.getfield 420, 3) := by decide +kernel
theorem d_282_24 : decode m282.2.1 24 = .ok (.iconst 1, 1) := by decide +kernel
theorem d_282_25 : decode m282.2.1 25 = .ok (.iadd, 1) := by decide +kernel
theorem d_282_26 : decode m282.2.1 26 = .ok (.putfield 420, 3) := by decide +kernel
theorem d_282_29 : decode m282.2.1 29 = .ok (.aload_n 0, 1) := by decide +kernel
theorem d_282_30 : decode m282.2.1 30 = .ok (.bipush 41, 2) := by decide +kernel
theorem d_282_32 : decode m282.2.1 32 = .ok (.aload_n 0, 1) := by decide +kernel
theorem d_282_33 : decode m282.2.1 33 = .ok (.getfield 417, 3) := by decide +kernel
theorem d_282_36 : decode m282.2.1 36 = .ok (.imul, 1) := by decide +kernel
theorem d_282_37 : decode m282.2.1 37 = .ok (.invokevirtual 494, 3) := by decide +kernel
theorem d_282_40 : decode m282.2.1 40 = .ok (.iconst 1, 1) := by decide +kernel
theorem d_282_41 : decode m282.2.1 41 = .ok (.ireturn, 1) := by decide +kernel
theorem d_283_0 : decode m283.2.1 0 = .ok (.iconst 0, 1) := by decide +kernel
theorem d_283_1 : decode m283.2.1 1 = .ok (.istore_n 2, 1) := by decide +kernel
theorem d_283_2 : decode m283.2.1 2 = .ok (.iload_n 2, 1) := by decide +kernel
theorem d_283_3 : decode m283.2.1 3 = .ok (.bipush 41, 2) := by decide +kernel
theorem d_283_5 : decode m283.2.1 5 = .ok (.if_icmp .ge 39, 3) := by decide +kernel
theorem d_283_8 : decode m283.2.1 8 = .ok (.aload_n 0, 1) := by decide +kernel
theorem d_283_9 : decode m283.2.1 9 = .ok (.getfield 105, 3) := by decide +kernel
theorem d_283_12 : decode m283.2.1 12 = .ok (.iload_n 1, 1) := by decide +kernel
theorem d_283_13 : decode m283.2.1 13 = .ok (.iload_n 2, 1) := by decide +kernel
theorem d_283_14 : decode m283.2.1 14 = .ok (.iadd, 1) := by decide +kernel
theorem d_283_15 : decode m283.2.1 15 = .ok (.iaload, 1) := by decide +kernel
theorem d_283_16 : decode m283.2.1 16 = .ok (.istore_n 3, 1) := by decide +kernel
theorem d_283_17 : decode m283.2.1 17 = .ok (.aload_n 0, 1) := by decide +kernel
theorem d_283_18 : decode m283.2.1 18 = .ok (.getfield 105, 3) := by decide +kernel
theorem d_283_21 : decode m283.2.1 21 = .ok (.iload_n 1, 1) := by decide +kernel
theorem d_283_22 : decode m283.2.1 22 = .ok (.iload_n 2, 1) := by decide +kernel
theorem d_283_23 : decode m283.2.1 23 = .ok (.iadd, 1) := by decide +kernel
theorem d_283_24 : decode m283.2.1 24 = .ok (.aload_n 0, 1) := by decide +kernel
theorem d_283_25 : decode m283.2.1 25 = .ok (.getfield 93, 3) := by decide +kernel
theorem d_283_28 : decode m283.2.1 28 = .ok (.iload_n 2, 1) := by decide +kernel
theorem d_283_29 : decode m283.2.1 29 = .ok (.iaload, 1) := by decide +kernel
theorem d_283_30 : decode m283.2.1 30 = .ok (.iastore, 1) := by decide +kernel
theorem d_283_31 : decode m283.2.1 31 = .ok (.aload_n 0, 1) := by decide +kernel
theorem d_283_32 : decode m283.2.1 32 = .ok (.getfield 93, 3) := by decide +kernel
theorem d_283_35 : decode m283.2.1 35 = .ok (.iload_n 2, 1) := by decide +kernel
theorem d_283_36 : decode m283.2.1 36 = .ok (.iload_n 3, 1) := by decide +kernel
theorem d_283_37 : decode m283.2.1 37 = .ok (.iastore, 1) := by decide +kernel
theorem d_283_38 : decode m283.2.1 38 = .ok (.iinc 2 1, 3) := by decide +kernel
theorem d_283_41 : decode m283.2.1 41 = .ok (.goto (-39), 3) := by decide +kernel
theorem d_283_44 : decode m283.2.1 44 = .ok (.return_, 1) := by decide +kernel
theorem d_284_0 : decode m284.2.1 0 = .ok (.aload_n 0, 1) := by decide +kernel
theorem d_284_1 : decode m284.2.1 1 = .ok (.getfield 420, 3) := by decide +kernel
theorem d_284_4 : decode m284.2.1 4 = .ok (.ifCond .ne 5, 3) := by decide +kernel
theorem d_284_7 : decode m284.2.1 7 = .ok (.iconst 0, 1) := by decide +kernel
theorem d_284_8 : decode m284.2.1 8 = .ok (.ireturn, 1) := by decide +kernel
theorem d_284_9 : decode m284.2.1 9 = .ok (.aload_n 0, 1) := by decide +kernel
theorem d_284_10 : decode m284.2.1 10 = .ok (.bipush 41, 2) := by decide +kernel
theorem d_284_12 : decode m284.2.1 12 = .ok (.aload_n 0, 1) := by decide +kernel
theorem d_284_13 : decode m284.2.1 13 = .ok (.getfield 417, 3) := by decide +kernel
theorem d_284_16 : decode m284.2.1 16 = .ok (.imul, 1) := by decide +kernel
theorem d_284_17 : decode m284.2.1 17 = .ok (.invokevirtual 494, 3) := by decide +kernel
theorem d_284_20 : decode m284.2.1 20 = .ok (.aload_n 0, 1) := by decide +kernel
theorem d_284_21 : decode m284.2.1 21 = .ok (.dup, 1) := by decide +kernel
theorem d_284_22 : decode m284.2.1 22 = .ok (.getfield 417, 3) := by decide +kernel
theorem d_284_25 : decode m284.2.1 25 = .ok (.iconst 1, 1) := by decide +kernel
theorem d_284_26 : decode m284.2.1 26 = .ok (.iadd, 1) := by decide +kernel
theorem d_284_27 : decode m284.2.1 27 = .ok (.putfield 417, 3) := by decide +kernel
theorem d_284_30 : decode m284.2.1 30 = .ok (.aload_n 0, 1) := by decide +kernel
theorem d_284_31 : decode m284.2.1 31 = .ok (.dup, 1) := by decide +kernel
theorem d_284_32 : decode m284.2.1 32 = .ok (.getfield 420, 3) := by decide +kernel
theorem d_284_35 : decode m284.2.1 35 = .ok (.iconst 1, 1) := by decide +kernel
theorem d_284_36 : decode m284.2.1 36 = .ok (.isub, 1) := by decide +kernel
theorem d_284_37 : decode m284.2.1 37 = .ok (.putfield 420, 3) := by decide +kernel
theorem d_284_40 : decode m284.2.1 40 = .ok (.iconst 1, 1) := by decide +kernel
theorem d_284_41 : decode m284.2.1 41 = .ok (.ireturn, 1) := by decide +kernel
theorem d_285_0 : decode m285.2.1 0 = .ok (.aload_n 0, 1) := by decide +kernel
theorem d_285_1 : decode m285.2.1 1 = .ok (.invokevirtual 464, 3) := by decide +kernel
theorem d_285_4 : decode m285.2.1 4 = .ok (.aload_n 0, 1) := by decide +kernel
theorem d_285_5 : decode m285.2.1 5 = .ok (.invokevirtual 497, 3) := by decide +kernel
theorem d_285_8 : decode m285.2.1 8 = .ok (.aload_n 0, 1) := by decide +kernel
theorem d_285_9 : decode m285.2.1 9 = .ok (.aload_n 0, 1) := by decide +kernel
theorem d_285_10 : decode m285.2.1 10 = .ok (.iconst 0, 1) := by decide +kernel
theorem d_285_11 : decode m285.2.1 11 = .ok (.invokevirtual 454, 3) := by decide +kernel
theorem d_285_14 : decode m285.2.1 14 = .ok (.invokevirtual 500, 3) := by decide +kernel
theorem d_285_17 : decode m285.2.1 17 = .ok (.ireturn, 1) := by decide +kernel
theorem d_286_0 : decode m286.2.1 0 = .ok (.iconst 0, 1) := by decide +kernel
theorem d_286_1 : decode m286.2.1 1 = .ok (.istore_n 1, 1) := by decide +kernel
theorem d_286_2 : decode m286.2.1 2 = .ok (.iload_n 1, 1) := by decide +kernel
theorem d_286_3 : decode m286.2.1 3 = .ok (.aload_n 0, 1) := by decide +kernel
theorem d_286_4 : decode m286.2.1 4 = .ok (.getfield 322, 3) := by decide +kernel
theorem d_286_7 : decode m286.2.1 7 = .ok (.if_icmp .ge 20, 3) := by decide +kernel
theorem d_286_10 : decode m286.2.1 10 = .ok (.aload_n 0, 1) := by decide +kernel
theorem d_286_11 : decode m286.2.1 11 = .ok (.getfield 114, 3) := by decide +kernel
theorem d_286_14 : decode m286.2.1 14 = .ok (.iload_n 1, 1) := by decide +kernel
theorem d_286_15 : decode m286.2.1 15 = .ok (.aload_n 0, 1) := by decide +kernel
theorem d_286_16 : decode m286.2.1 16 = .ok (.iload_n 1, 1) := by decide +kernel
theorem d_286_17 : decode m286.2.1 17 = .ok (.invokevirtual 467, 3) := by decide +kernel
theorem d_286_20 : decode m286.2.1 20 = .ok (.iastore, 1) := by decide +kernel
theorem d_286_21 : decode m286.2.1 21 = .ok (.iinc 1 1, 3) := by decide +kernel
theorem d_286_24 : decode m286.2.1 24 = .ok (.goto (-22), 3) := by decide +kernel
theorem d_286_27 : decode m286.2.1 27 = .ok (.return_, 1) := by decide +kernel
theorem d_287_0 : decode m287.2.1 0 = .ok (.iconst 0, 1) := by decide +kernel
theorem d_287_1 : decode m287.2.1 1 = .ok (.istore_n 2, 1) := by decide +kernel
theorem d_287_2 : decode m287.2.1 2 = .ok (.iconst 0, 1) := by decide +kernel
theorem d_287_3 : decode m287.2.1 3 = .ok (.istore_n 3, 1) := by decide +kernel
theorem d_287_4 : decode m287.2.1 4 = .ok (.iload_n 3, 1) := by decide +kernel
theorem d_287_5 : decode m287.2.1 5 = .ok (.aload_n 0, 1) := by decide +kernel
theorem d_287_6 : decode m287.2.1 6 = .ok (.getfield 322, 3) := by decide +kernel
theorem d_287_9 : decode m287.2.1 9 = .ok (.if_icmp .ge 31, 3) := by decide +kernel
theorem d_287_12 : decode m287.2.1 12 = .ok (.iload_n 2, 1) := by decide +kernel
theorem d_287_13 : decode m287.2.1 13 = .ok (.iload_n 1, 1) := by decide +kernel
theorem d_287_14 : decode m287.2.1 14 = .ok (.iload_n 3, 1) := by decide +kernel
theorem d_287_15 : decode m287.2.1 15 = .ok (.ishr, 1) := by decide +kernel
theorem d_287_16 : decode m287.2.1 16 = .ok (.iconst 1, 1) := by decide +kernel
theorem d_287_17 : decode m287.2.1 17 = .ok (.iand, 1) := by decide +kernel
theorem d_287_18 : decode m287.2.1 18 = .ok (.iconst 1, 1) := by decide +kernel
theorem d_287_19 : decode m287.2.1 19 = .ok (.if_icmp .ne 12, 3) := by decide +kernel
theorem d_287_22 : decode m287.2.1 22 = .ok (.aload_n 0, 1) := by decide +kernel
theorem d_287_23 : decode m287.2.1 23 = .ok (.getfield 114, 3) := by decide +kernel
theorem d_287_26 : decode m287.2.1 26 = .ok (.iload_n 3, 1) := by decide +kernel
theorem d_287_27 : decode m287.2.1 27 = .ok (.iaload, 1) := by decide +kernel
theorem d_287_28 : decode m287.2.1 28 = .ok (.goto 4, 3) := by decide +kernel
theorem d_287_31 : decode m287.2.1 31 = .ok (.iconst 0, 1) := by decide +kernel
theorem d_287_32 : decode m287.2.1 32 = .ok (.iadd, 1) := by decide +kernel
theorem d_287_33 : decode m287.2.1 33 = .ok (.istore_n 2, 1) := by decide +kernel
theorem d_287_34 : decode m287.2.1 34 = .ok (.iinc 3 1, 3) := by decide +kernel
theorem d_287_37 : decode m287.2.1 37 = .ok (.goto (-33), 3) := by decide +kernel
theorem d_287_40 : decode m287.2.1 40 = .ok (.iload_n 2, 1) := by decide +kernel
theorem d_287_41 : decode m287.2.1 41 = .ok (.ireturn, 1) := by decide +kernel
theorem d_288_0 : decode m288.2.1 0 = .ok (.iload_n 1, 1) := by decide +kernel
theorem d_288_1 : decode m288.2.1 1 = .ok (.iconst 0, 1) := by decide +kernel
theorem d_288_2 : decode m288.2.1 2 = .ok (.iconst 1, 1) := by decide +kernel
theorem d_288_3 : decode m288.2.1 3 = .ok (.invokestatic 429, 3) := by decide +kernel
theorem d_288_6 : decode m288.2.1 6 = .ok (.ifCond .ne 5, 3) := by decide +kernel
theorem d_288_9 : decode m288.2.1 9 = .ok (.iconst (-1), 1) := by decide +kernel
theorem d_288_10 : decode m288.2.1 10 = .ok (.ireturn, 1) := by decide +kernel
theorem d_288_11 : decode m288.2.1 11 = .ok (.aload_n 0, 1) := by decide +kernel
theorem d_288_12 : decode m288.2.1 12 = .ok (.aload_n 0, 1) := by decide +kernel
theorem d_288_13 : decode m288.2.1 13 = .ok (.getfield 84, 3) := by decide +kernel
theorem d_288_16 : decode m288.2.1 16 = .ok (.aload_n 0, 1) := by decide +kernel
theorem d_288_17 : decode m288.2.1 17 = .ok (.getfield 81, 3) := by decide +kernel
theorem d_288_20 : decode m288.2.1 20 = .ok (.invokevirtual 512, 3) := by decide +kernel
theorem d_288_23 : decode m288.2.1 23 = .ok (.istore_n 2, 1) := by decide +kernel
theorem d_288_24 : decode m288.2.1 24 = .ok (.iload_n 1, 1) := by decide +kernel
theorem d_288_25 : decode m288.2.1 25 = .ok (.ifCond .ne 5, 3) := by decide +kernel
theorem d_288_28 : decode m288.2.1 28 = .ok (.iload_n 2, 1) := by decide +kernel
theorem d_288_29 : decode m288.2.1 29 = .ok (.ireturn, 1) := by decide +kernel
theorem d_288_30 : decode m288.2.1 30 = .ok (.iconst 0, 1) := by decide +kernel
theorem d_288_31 : decode m288.2.1 31 = .ok (.istore_n 3, 1) := by decide +kernel
theorem d_288_32 : decode m288.2.1 32 = .ok (.iconst 0, 1) := by decide +kernel
theorem d_288_33 : decode m288.2.1 33 = .ok (.istore 4, 2) := by decide +kernel
theorem d_288_35 : decode m288.2.1 35 = .ok (.iload 4, 2) := by decide +kernel
theorem d_288_37 : decode m288.2.1 37 = .ok (.aload_n 0, 1) := by decide +kernel
theorem d_288_38 : decode m288.2.1 38 = .ok (.getfield 322, 3) := by decide +kernel
theorem d_288_41 : decode m288.2.1 41 = .ok (.if_icmp .ge 30, 3) := by decide +kernel
theorem d_288_44 : decode m288.2.1 44 = .ok (.iload_n 3, 1) := by decide +kernel
theorem d_288_45 : decode m288.2.1 45 = .ok (.aload_n 0, 1) := by decide +kernel
theorem d_288_46 : decode m288.2.1 46 = .ok (.getfield 108, 3) := by decide +kernel
theorem d_288_49 : decode m288.2.1 49 = .ok (.iload 4, 2) := by decide +kernel
theorem d_288_51 : decode m288.2.1 51 = .ok (.iaload, 1) := by decide +kernel
theorem d_288_52 : decode m288.2.1 52 = .ok (.ifCond .le 7, 3) := by decide +kernel
theorem d_288_55 : decode m288.2.1 55 = .ok (.iconst 1, 1) := by decide +kernel
theorem d_288_56 : decode m288.2.1 56 = .ok (.goto 4, 3) := by decide +kernel
theorem d_288_59 : decode m288.2.1 59 = .ok (.iconst 0, 1) := by decide +kernel
theorem d_288_60 : decode m288.2.1 60 = .ok (.invokestatic 318, 3) := by decide +kernel
theorem d_288_63 : decode m288.2.1 63 = .ok (.iadd, 1) := by decide +kernel
theorem d_288_64 : decode m288.2.1 64 = .ok (.istore_n 3, 1) := by decide +kernel
theorem d_288_65 : decode m288.2.1 65 = .ok (.iinc 4 1, 3) := by decide +kernel
theorem d_288_68 : decode m288.2.1 68 = .ok (.goto (-33), 3) := by decide +kernel
theorem d_288_71 : decode m288.2.1 71 = .ok (.iload_n 3, 1) := by decide +kernel
theorem d_288_72 : decode m288.2.1 72 = .ok (.ireturn, 1) := by decide +kernel
theorem d_289_0 : decode m289.2.1 0 = .ok (.aload_n 0, 1) := by decide +kernel
theorem d_289_1 : decode m289.2.1 1 = .ok (.invokevirtual 464, 3) := by decide +kernel
theorem d_289_4 : decode m289.2.1 4 = .ok (.aload_n 0, 1) := by decide +kernel
theorem d_289_5 : decode m289.2.1 5 = .ok (.invokevirtual 497, 3) := by decide +kernel
theorem d_289_8 : decode m289.2.1 8 = .ok (.ldc_w 436, 3) := by decide +kernel
theorem d_289_11 : decode m289.2.1 11 = .ok (.istore_n 3, 1) := by decide +kernel
theorem d_289_12 : decode m289.2.1 12 = .ok (.iconst 0, 1) := by decide +kernel
theorem d_289_13 : decode m289.2.1 13 = .ok (.istore 4, 2) := by decide +kernel
theorem d_289_15 : decode m289.2.1 15 = .ok (.iload 4, 2) := by decide +kernel
theorem d_289_17 : decode m289.2.1 17 = .ok (.iconst 3, 1) := by decide +kernel
theorem d_289_18 : decode m289.2.1 18 = .ok (.aload_n 0, 1) := by decide +kernel
theorem d_289_19 : decode m289.2.1 19 = .ok (.getfield 322, 3) := by decide +kernel
theorem d_289_22 : decode m289.2.1 22 = .ok (.invokestatic 503, 3) := by decide +kernel
theorem d_289_25 : decode m289.2.1 25 = .ok (.if_icmp .ge 80, 3) := by decide +kernel
theorem d_289_28 : decode m289.2.1 28 = .ok (.aload_n 0, 1) := by decide +kernel
theorem d_289_29 : decode m289.2.1 29 = .ok (.iload 4, 2) := by decide +kernel
theorem d_289_31 : decode m289.2.1 31 = .ok (.invokevirtual 506, 3) := by decide +kernel
theorem d_289_34 : decode m289.2.1 34 = .ok (.istore 5, 2) := by decide +kernel
theorem d_289_36 : decode m289.2.1 36 = .ok (.iload 5, 2) := by decide +kernel
theorem d_289_38 : decode m289.2.1 38 = .ok (.iload_n 3, 1) := by decide +kernel
theorem d_289_39 : decode m289.2.1 39 = .ok (.if_icmp .ge 60, 3) := by decide +kernel
theorem d_289_42 : decode m289.2.1 42 = .ok (.aload_n 0, 1) := by decide +kernel
theorem d_289_43 : decode m289.2.1 43 = .ok (.aload_n 0, 1) := by decide +kernel
theorem d_289_44 : decode m289.2.1 44 = .ok (.iconst 1, 1) := by decide +kernel
theorem d_289_45 : decode m289.2.1 45 = .ok (.invokevirtual 509, 3) := by decide +kernel
theorem d_289_48 : decode m289.2.1 48 = .ok (.aload_n 0, 1) := by decide +kernel
theorem d_289_49 : decode m289.2.1 49 = .ok (.iconst 2, 1) := by decide +kernel
theorem d_289_50 : decode m289.2.1 50 = .ok (.invokevirtual 509, 3) := by decide +kernel
theorem d_289_53 : decode m289.2.1 53 = .ok (.iload_n 1, 1) := by decide +kernel
theorem d_289_54 : decode m289.2.1 54 = .ok (.iload_n 2, 1) := by decide +kernel
theorem d_289_55 : decode m289.2.1 55 = .ok (.invokevirtual 457, 3) := by decide +kernel
theorem d_289_58 : decode m289.2.1 58 = .ok (.ifCond .ne 6, 3) := by decide +kernel
theorem d_289_61 : decode m289.2.1 61 = .ok (.goto 38, 3) := by decide +kernel
theorem d_289_64 : decode m289.2.1 64 = .ok (.iload 5, 2) := by decide +kernel
theorem d_289_66 : decode m289.2.1 66 = .ok (.istore_n 3, 1) := by decide +kernel
theorem d_289_67 : decode m289.2.1 67 = .ok (.iconst 0, 1) := by decide +kernel
theorem d_289_68 : decode m289.2.1 68 = .ok (.istore 6, 2) := by decide +kernel
theorem d_289_70 : decode m289.2.1 70 = .ok (.iload 6, 2) := by decide +kernel
theorem d_289_72 : decode m289.2.1 72 = .ok (.aload_n 0, 1) := by decide +kernel
theorem d_289_73 : decode m289.2.1 73 = .ok (.getfield 322, 3) := by decide +kernel
theorem d_289_76 : decode m289.2.1 76 = .ok (.if_icmp .ge 23, 3) := by decide +kernel
theorem d_289_79 : decode m289.2.1 79 = .ok (.aload_n 0, 1) := by decide +kernel
theorem d_289_80 : decode m289.2.1 80 = .ok (.getfield 108, 3) := by decide +kernel
theorem d_289_83 : decode m289.2.1 83 = .ok (.iload 6, 2) := by decide +kernel
theorem d_289_85 : decode m289.2.1 85 = .ok (.aload_n 0, 1) := by decide +kernel
theorem d_289_86 : decode m289.2.1 86 = .ok (.getfield 111, 3) := by decide +kernel
theorem d_289_89 : decode m289.2.1 89 = .ok (.iload 6, 2) := by decide +kernel
theorem d_289_91 : decode m289.2.1 91 = .ok (.iaload, 1) := by decide +kernel
theorem d_289_92 : decode m289.2.1 92 = .ok (.iastore, 1) := by decide +kernel
theorem d_289_93 : decode m289.2.1 93 = .ok (.iinc 6 1, 3) := by decide +kernel
theorem d_289_96 : decode m289.2.1 96 = .ok (.goto (-26), 3) := by decide +kernel
theorem d_289_99 : decode m289.2.1 99 = .ok (.iinc 4 1, 3) := by decide +kernel
theorem d_289_102 : decode m289.2.1 102 = .ok (.goto (-87), 3) := by decide +kernel
theorem d_289_105 : decode m289.2.1 105 = .ok (.aload_n 0, 1) := by decide +kernel
theorem d_289_106 : decode m289.2.1 106 = .ok (.aload_n 0, 1) := by decide +kernel
theorem d_289_107 : decode m289.2.1 107 = .ok (.getfield 322, 3) := by decide +kernel
theorem d_289_110 : decode m289.2.1 110 = .ok (.putfield 426, 3) := by decide +kernel
theorem d_289_113 : decode m289.2.1 113 = .ok (.iload_n 3, 1) := by decide +kernel
theorem d_289_114 : decode m289.2.1 114 = .ok (.ireturn, 1) := by decide +kernel
theorem d_290_0 : decode m290.2.1 0 = .ok (.iconst 1, 1) := by decide +kernel
theorem d_290_1 : decode m290.2.1 1 = .ok (.istore_n 2, 1) := by decide +kernel
theorem d_290_2 : decode m290.2.1 2 = .ok (.iconst 0, 1) := by decide +kernel
theorem d_290_3 : decode m290.2.1 3 = .ok (.istore_n 3, 1) := by decide +kernel
theorem d_290_4 : decode m290.2.1 4 = .ok (.iload_n 3, 1) := by decide +kernel
theorem d_290_5 : decode m290.2.1 5 = .ok (.iload_n 1, 1) := by decide +kernel
theorem d_290_6 : decode m290.2.1 6 = .ok (.if_icmp .ge 13, 3) := by decide +kernel
theorem d_290_9 : decode m290.2.1 9 = .ok (.iload_n 2, 1) := by decide +kernel
theorem d_290_10 : decode m290.2.1 10 = .ok (.iload_n 0, 1) := by decide +kernel
theorem d_290_11 : decode m290.2.1 11 = .ok (.imul, 1) := by decide +kernel
theorem d_290_12 : decode m290.2.1 12 = .ok (.istore_n 2, 1) := by decide +kernel
theorem d_290_13 : decode m290.2.1 13 = .ok (.iinc 3 1, 3) := by decide +kernel
theorem d_290_16 : decode m290.2.1 16 = .ok (.goto (-12), 3) := by decide +kernel
theorem d_290_19 : decode m290.2.1 19 = .ok (.iload_n 2, 1) := by decide +kernel
theorem d_290_20 : decode m290.2.1 20 = .ok (.ireturn, 1) := by decide +kernel
theorem d_291_0 : decode m291.2.1 0 = .ok (.iload_n 1, 1) := by decide +kernel
theorem d_291_1 : decode m291.2.1 1 = .ok (.istore_n 2, 1) := by decide +kernel
theorem d_291_2 : decode m291.2.1 2 = .ok (.iconst 0, 1) := by decide +kernel
theorem d_291_3 : decode m291.2.1 3 = .ok (.istore_n 3, 1) := by decide +kernel
theorem d_291_4 : decode m291.2.1 4 = .ok (.aload_n 0, 1) := by decide +kernel
theorem d_291_5 : decode m291.2.1 5 = .ok (.getfield 322, 3) := by decide +kernel
theorem d_291_8 : decode m291.2.1 8 = .ok (.iconst 1, 1) := by decide +kernel
theorem d_291_9 : decode m291.2.1 9 = .ok (.isub, 1) := by decide +kernel
theorem d_291_10 : decode m291.2.1 10 = .ok (.istore 4, 2) := by decide +kernel
theorem d_291_12 : decode m291.2.1 12 = .ok (.iload 4, 2) := by decide +kernel
theorem d_291_14 : decode m291.2.1 14 = .ok (.ifCond .lt 51, 3) := by decide +kernel
theorem d_291_17 : decode m291.2.1 17 = .ok (.aload_n 0, 1) := by decide +kernel
theorem d_291_18 : decode m291.2.1 18 = .ok (.getfield 111, 3) := by decide +kernel
theorem d_291_21 : decode m291.2.1 21 = .ok (.iload 4, 2) := by decide +kernel
theorem d_291_23 : decode m291.2.1 23 = .ok (.iload_n 2, 1) := by decide +kernel
theorem d_291_24 : decode m291.2.1 24 = .ok (.iconst 3, 1) := by decide +kernel
theorem d_291_25 : decode m291.2.1 25 = .ok (.irem, 1) := by decide +kernel
theorem d_291_26 : decode m291.2.1 26 = .ok (.iconst 1, 1) := by decide +kernel
theorem d_291_27 : decode m291.2.1 27 = .ok (.iadd, 1) := by decide +kernel
theorem d_291_28 : decode m291.2.1 28 = .ok (.iconst 3, 1) := by decide +kernel
theorem d_291_29 : decode m291.2.1 29 = .ok (.irem, 1) := by decide +kernel
theorem d_291_30 : decode m291.2.1 30 = .ok (.iastore, 1) := by decide +kernel
theorem d_291_31 : decode m291.2.1 31 = .ok (.iload_n 2, 1) := by decide +kernel
theorem d_291_32 : decode m291.2.1 32 = .ok (.iconst 3, 1) := by decide +kernel
theorem d_291_33 : decode m291.2.1 33 = .ok (.idiv, 1) := by decide +kernel
theorem d_291_34 : decode m291.2.1 34 = .ok (.istore_n 2, 1) := by decide +kernel
theorem d_291_35 : decode m291.2.1 35 = .ok (.iload_n 3, 1) := by decide +kernel
theorem d_291_36 : decode m291.2.1 36 = .ok (.aload_n 0, 1) := by decide +kernel
theorem d_291_37 : decode m291.2.1 37 = .ok (.getfield 111, 3) := by decide +kernel
theorem d_291_40 : decode m291.2.1 40 = .ok (.iload 4, 2) := by decide +kernel
theorem d_291_42 : decode m291.2.1 42 = .ok (.iaload, 1) := by decide +kernel
theorem d_291_43 : decode m291.2.1 43 = .ok (.ifCond .ne 13, 3) := by decide +kernel
theorem d_291_46 : decode m291.2.1 46 = .ok (.aload_n 0, 1) := by decide +kernel
theorem d_291_47 : decode m291.2.1 47 = .ok (.getfield 114, 3) := by decide +kernel
theorem d_291_50 : decode m291.2.1 50 = .ok (.iload 4, 2) := by decide +kernel
theorem d_291_52 : decode m291.2.1 52 = .ok (.iaload, 1) := by decide +kernel
theorem d_291_53 : decode m291.2.1 53 = .ok (.goto 4, 3) := by decide +kernel
theorem d_291_56 : decode m291.2.1 56 = .ok (.iconst 0, 1) := by decide +kernel
theorem d_291_57 : decode m291.2.1 57 = .ok (.iadd, 1) := by decide +kernel
theorem d_291_58 : decode m291.2.1 58 = .ok (.istore_n 3, 1) := by decide +kernel
theorem d_291_59 : decode m291.2.1 59 = .ok (.iinc 4 (-1), 3) := by decide +kernel
theorem d_291_62 : decode m291.2.1 62 = .ok (.goto (-50), 3) := by decide +kernel
theorem d_291_65 : decode m291.2.1 65 = .ok (.iload_n 3, 1) := by decide +kernel
theorem d_291_66 : decode m291.2.1 66 = .ok (.ireturn, 1) := by decide +kernel
theorem d_292_0 : decode m292.2.1 0 = .ok (.iconst 0, 1) := by decide +kernel
theorem d_292_1 : decode m292.2.1 1 = .ok (.istore_n 2, 1) := by decide +kernel
theorem d_292_2 : decode m292.2.1 2 = .ok (.iconst 0, 1) := by decide +kernel
theorem d_292_3 : decode m292.2.1 3 = .ok (.istore_n 3, 1) := by decide +kernel
theorem d_292_4 : decode m292.2.1 4 = .ok (.iload_n 3, 1) := by decide +kernel
theorem d_292_5 : decode m292.2.1 5 = .ok (.aload_n 0, 1) := by decide +kernel
theorem d_292_6 : decode m292.2.1 6 = .ok (.getfield 322, 3) := by decide +kernel
theorem d_292_9 : decode m292.2.1 9 = .ok (.if_icmp .ge 32, 3) := by decide +kernel
theorem d_292_12 : decode m292.2.1 12 = .ok (.iload_n 2, 1) := by decide +kernel
theorem d_292_13 : decode m292.2.1 13 = .ok (.aload_n 0, 1) := by decide +kernel
theorem d_292_14 : decode m292.2.1 14 = .ok (.getfield 111, 3) := by decide +kernel
theorem d_292_17 : decode m292.2.1 17 = .ok (.iload_n 3, 1) := by decide +kernel
theorem d_292_18 : decode m292.2.1 18 = .ok (.iaload, 1) := by decide +kernel
theorem d_292_19 : decode m292.2.1 19 = .ok (.iload_n 1, 1) := by decide +kernel
theorem d_292_20 : decode m292.2.1 20 = .ok (.if_icmp .ne 7, 3) := by decide +kernel
theorem d_292_23 : decode m292.2.1 23 = .ok (.iconst 1, 1) := by decide +kernel
theorem d_292_24 : decode m292.2.1 24 = .ok (.goto 4, 3) := by decide +kernel
theorem d_292_27 : decode m292.2.1 27 = .ok (.iconst 0, 1) := by decide +kernel
theorem d_292_28 : decode m292.2.1 28 = .ok (.invokestatic 318, 3) := by decide +kernel
theorem d_292_31 : decode m292.2.1 31 = .ok (.iload_n 3, 1) := by decide +kernel
theorem d_292_32 : decode m292.2.1 32 = .ok (.ishl, 1) := by decide +kernel
theorem d_292_33 : decode m292.2.1 33 = .ok (.ior, 1) := by decide +kernel
theorem d_292_34 : decode m292.2.1 34 = .ok (.istore_n 2, 1) := by decide +kernel
theorem d_292_35 : decode m292.2.1 35 = .ok (.iinc 3 1, 3) := by decide +kernel
theorem d_292_38 : decode m292.2.1 38 = .ok (.goto (-34), 3) := by decide +kernel
theorem d_292_41 : decode m292.2.1 41 = .ok (.iload_n 2, 1) := by decide +kernel
theorem d_292_42 : decode m292.2.1 42 = .ok (.ireturn, 1) := by decide +kernel
theorem d_293_0 : decode m293.2.1 0 = .ok (.iconst 1, 1) := by decide +kernel
theorem d_293_1 : decode m293.2.1 1 = .ok (.istore 5, 2) := by decide +kernel
theorem d_293_3 : decode m293.2.1 3 = .ok (.iconst 0, 1) := by decide +kernel
theorem d_293_4 : decode m293.2.1 4 = .ok (.istore 6, 2) := by decide +kernel
theorem d_293_6 : decode m293.2.1 6 = .ok (.iload 6, 2) := by decide +kernel
theorem d_293_8 : decode m293.2.1 8 = .ok (.aload_n 0, 1) := by decide +kernel
theorem d_293_9 : decode m293.2.1 9 = .ok (.getfield 78, 3) := by decide +kernel
theorem d_293_12 : decode m293.2.1 12 = .ok (.if_icmp .ge 35, 3) := by decide +kernel
theorem d_293_15 : decode m293.2.1 15 = .ok (.iload 5, 2) := by decide +kernel
theorem d_293_17 : decode m293.2.1 17 = .ok (.ifCond .eq 30, 3) := by decide +kernel
theorem d_293_20 : decode m293.2.1 20 = .ok (.aload_n 0, 1) := by decide +kernel
theorem d_293_21 : decode m293.2.1 21 = .ok (.iload 6, 2) := by decide +kernel
theorem d_293_23 : decode m293.2.1 23 = .ok (.iload_n 1, 1) := by decide +kernel
theorem d_293_24 : decode m293.2.1 24 = .ok (.iload_n 2, 1) := by decide +kernel
theorem d_293_25 : decode m293.2.1 25 = .ok (.iload_n 3, 1) := by decide +kernel
theorem d_293_26 : decode m293.2.1 26 = .ok (.iload 4, 2) := by decide +kernel
theorem d_293_28 : decode m293.2.1 28 = .ok (.invokevirtual 450, 3) := by decide +kernel
theorem d_293_31 : decode m293.2.1 31 = .ok (.ifCond .ne 7, 3) := by decide +kernel
theorem d_293_34 : decode m293.2.1 34 = .ok (.iconst 1, 1) := by decide +kernel
theorem d_293_35 : decode m293.2.1 35 = .ok (.goto 4, 3) := by decide +kernel
theorem d_293_38 : decode m293.2.1 38 = .ok (.iconst 0, 1) := by decide +kernel
theorem d_293_39 : decode m293.2.1 39 = .ok (.istore 5, 2) := by decide +kernel
theorem d_293_41 : decode m293.2.1 41 = .ok (.iinc 6 1, 3) := by decide +kernel
theorem d_293_44 : decode m293.2.1 44 = .ok (.goto (-38), 3) := by decide +kernel
theorem d_293_47 : decode m293.2.1 47 = .ok (.iload 5, 2) := by decide +kernel
theorem d_293_49 : decode m293.2.1 49 = .ok (.ireturn, 1) := by decide +kernel
theorem d_294_0 : decode m294.2.1 0 = .ok (.aload_n 0, 1) := by decide +kernel
theorem d_294_1 : decode m294.2.1 1 = .ok (.iconst 0, 1) := by decide +kernel
theorem d_294_2 : decode m294.2.1 2 = .ok (.putfield 426, 3) := by decide +kernel
theorem d_294_5 : decode m294.2.1 5 = .ok (.iload_n 1, 1) := by decide +kernel
theorem d_294_6 : decode m294.2.1 6 = .ok (.iconst 1, 1) := by decide +kernel
theorem d_294_7 : decode m294.2.1 7 = .ok (.iconst 5, 1) := by decide +kernel
theorem d_294_8 : decode m294.2.1 8 = .ok (.invokestatic 429, 3) := by decide +kernel
theorem d_294_11 : decode m294.2.1 11 = .ok (.ifCond .eq 22, 3) := by decide +kernel
theorem d_294_14 : decode m294.2.1 14 = .ok (.iload_n 2, 1) := by decide +kernel
theorem d_294_15 : decode m294.2.1 15 = .ok (.iconst 0, 1) := by decide +kernel
theorem d_294_16 : decode m294.2.1 16 = .ok (.bipush 87, 2) := by decide +kernel
theorem d_294_18 : decode m294.2.1 18 = .ok (.invokestatic 429, 3) := by decide +kernel
theorem d_294_21 : decode m294.2.1 21 = .ok (.ifCond .eq 12, 3) := by decide +kernel
theorem d_294_24 : decode m294.2.1 24 = .ok (.aload_n 0, 1) := by decide +kernel
theorem d_294_25 : decode m294.2.1 25 = .ok (.iload_n 1, 1) := by decide +kernel
theorem d_294_26 : decode m294.2.1 26 = .ok (.iload_n 2, 1) := by decide +kernel
theorem d_294_27 : decode m294.2.1 27 = .ok (.invokevirtual 512, 3) := by decide +kernel
theorem d_294_30 : decode m294.2.1 30 = .ok (.goto 4, 3) := by decide +kernel
theorem d_294_33 : decode m294.2.1 33 = .ok (.iconst (-1), 1) := by decide +kernel
theorem d_294_34 : decode m294.2.1 34 = .ok (.ireturn, 1) := by decide +kernel
theorem d_295_0 : decode m295.2.1 0 = .ok (.aload_n 0, 1) := by decide +kernel
theorem d_295_1 : decode m295.2.1 1 = .ok (.iload_n 1, 1) := by decide +kernel
theorem d_295_2 : decode m295.2.1 2 = .ok (.invokevirtual 515, 3) := by decide +kernel
theorem d_295_5 : decode m295.2.1 5 = .ok (.ifCond .eq 19, 3) := by decide +kernel
theorem d_295_8 : decode m295.2.1 8 = .ok (.iload_n 2, 1) := by decide +kernel
theorem d_295_9 : decode m295.2.1 9 = .ok (.invokestatic 476, 3) := by decide +kernel
theorem d_295_12 : decode m295.2.1 12 = .ok (.ifCond .eq 12, 3) := by decide +kernel
theorem d_295_15 : decode m295.2.1 15 = .ok (.aload_n 0, 1) := by decide +kernel
theorem d_295_16 : decode m295.2.1 16 = .ok (.iload_n 1, 1) := by decide +kernel
theorem d_295_17 : decode m295.2.1 17 = .ok (.iload_n 2, 1) := by decide +kernel
theorem d_295_18 : decode m295.2.1 18 = .ok (.invokevirtual 518, 3) := by decide +kernel
theorem d_295_21 : decode m295.2.1 21 = .ok (.goto 4, 3) := by decide +kernel
theorem d_295_24 : decode m295.2.1 24 = .ok (.iconst (-1), 1) := by decide +kernel
theorem d_295_25 : decode m295.2.1 25 = .ok (.ireturn, 1) := by decide +kernel
theorem d_296_0 : decode m296.2.1 0 = .ok (.aload_n 0, 1) := by decide +kernel
theorem d_296_1 : decode m296.2.1 1 = .ok (.iload_n 1, 1) := by decide +kernel
theorem d_296_2 : decode m296.2.1 2 = .ok (.invokevirtual 461, 3) := by decide +kernel
theorem d_296_5 : decode m296.2.1 5 = .ok (.ifCond .eq 16, 3) := by decide +kernel
theorem d_296_8 : decode m296.2.1 8 = .ok (.aload_n 0, 1) := by decide +kernel
theorem d_296_9 : decode m296.2.1 9 = .ok (.getfield 93, 3) := by decide +kernel
theorem d_296_12 : decode m296.2.1 12 = .ok (.iload_n 1, 1) := by decide +kernel
theorem d_296_13 : decode m296.2.1 13 = .ok (.iaload, 1) := by decide +kernel
theorem d_296_14 : decode m296.2.1 14 = .ok (.ifCond .ne 7, 3) := by decide +kernel
theorem d_296_17 : decode m296.2.1 17 = .ok (.iconst 1, 1) := by decide +kernel
theorem d_296_18 : decode m296.2.1 18 = .ok (.goto 4, 3) := by decide +kernel
theorem d_296_21 : decode m296.2.1 21 = .ok (.iconst 0, 1) := by decide +kernel
theorem d_296_22 : decode m296.2.1 22 = .ok (.ireturn, 1) := by decide +kernel
theorem d_297_0 : decode m297.2.1 0 = .ok (.aload_n 0, 1) := by decide +kernel
theorem d_297_1 : decode m297.2.1 1 = .ok (.invokevirtual 464, 3) := by decide +kernel
theorem d_297_4 : decode m297.2.1 4 = .ok (.aload_n 0, 1) := by decide +kernel
theorem d_297_5 : decode m297.2.1 5 = .ok (.iconst 1, 1) := by decide +kernel
theorem d_297_6 : decode m297.2.1 6 = .ok (.invokevirtual 454, 3) := by decide +kernel
theorem d_297_9 : decode m297.2.1 9 = .ok (.istore_n 3, 1) := by decide +kernel
theorem d_297_10 : decode m297.2.1 10 = .ok (.aload_n 0, 1) := by decide +kernel
theorem d_297_11 : decode m297.2.1 11 = .ok (.iconst 2, 1) := by decide +kernel
theorem d_297_12 : decode m297.2.1 12 = .ok (.invokevirtual 454, 3) := by decide +kernel
theorem d_297_15 : decode m297.2.1 15 = .ok (.istore 4, 2) := by decide +kernel
theorem d_297_17 : decode m297.2.1 17 = .ok (.iconst 1, 1) := by decide +kernel
theorem d_297_18 : decode m297.2.1 18 = .ok (.iload_n 1, 1) := by decide +kernel
theorem d_297_19 : decode m297.2.1 19 = .ok (.ishl, 1) := by decide +kernel
theorem d_297_20 : decode m297.2.1 20 = .ok (.istore 5, 2) := by decide +kernel
theorem d_297_22 : decode m297.2.1 22 = .ok (.iconst 0, 1) := by decide +kernel
theorem d_297_23 : decode m297.2.1 23 = .ok (.istore 6, 2) := by decide +kernel
theorem d_297_25 : decode m297.2.1 25 = .ok (.iconst 0, 1) := by decide +kernel
theorem d_297_26 : decode m297.2.1 26 = .ok (.istore 7, 2) := by decide +kernel
theorem d_297_28 : decode m297.2.1 28 = .ok (.iload 7, 2) := by decide +kernel
theorem d_297_30 : decode m297.2.1 30 = .ok (.aload_n 0, 1) := by decide +kernel
theorem d_297_31 : decode m297.2.1 31 = .ok (.getfield 78, 3) := by decide +kernel
theorem d_297_34 : decode m297.2.1 34 = .ok (.if_icmp .ge 90, 3) := by decide +kernel
theorem d_297_37 : decode m297.2.1 37 = .ok (.aload_n 0, 1) := by decide +kernel
theorem d_297_38 : decode m297.2.1 38 = .ok (.iload 7, 2) := by decide +kernel
theorem d_297_40 : decode m297.2.1 40 = .ok (.iload_n 3, 1) := by decide +kernel
theorem d_297_41 : decode m297.2.1 41 = .ok (.iload 4, 2) := by decide +kernel
theorem d_297_43 : decode m297.2.1 43 = .ok (.aload_n 0, 1) := by decide +kernel
theorem d_297_44 : decode m297.2.1 44 = .ok (.getfield 84, 3) := by decide +kernel
theorem d_297_47 : decode m297.2.1 47 = .ok (.aload_n 0, 1) := by decide +kernel
theorem d_297_48 : decode m297.2.1 48 = .ok (.getfield 81, 3) := by decide +kernel
theorem d_297_51 : decode m297.2.1 51 = .ok (.invokevirtual 450, 3) := by decide +kernel
theorem d_297_54 : decode m297.2.1 54 = .ok (.istore 8, 2) := by decide +kernel
theorem d_297_56 : decode m297.2.1 56 = .ok (.iload_n 2, 1) := by decide +kernel
theorem d_297_57 : decode m297.2.1 57 = .ok (.iconst 1, 1) := by decide +kernel
theorem d_297_58 : decode m297.2.1 58 = .ok (.if_icmp .ne 26, 3) := by decide +kernel
theorem d_297_61 : decode m297.2.1 61 = .ok (.aload_n 0, 1) := by decide +kernel
theorem d_297_62 : decode m297.2.1 62 = .ok (.iload 7, 2) := by decide +kernel
theorem d_297_64 : decode m297.2.1 64 = .ok (.iload_n 3, 1) := by decide +kernel
theorem d_297_65 : decode m297.2.1 65 = .ok (.iload 5, 2) := by decide +kernel
theorem d_297_67 : decode m297.2.1 67 = .ok (.ior, 1) := by decide +kernel
theorem d_297_68 : decode m297.2.1 68 = .ok (.iload 4, 2) := by decide +kernel
theorem d_297_70 : decode m297.2.1 70 = .ok (.aload_n 0, 1) := by decide +kernel
theorem d_297_71 : decode m297.2.1 71 = .ok (.getfield 84, 3) := by decide +kernel
theorem d_297_74 : decode m297.2.1 74 = .ok (.aload_n 0, 1) := by decide +kernel
theorem d_297_75 : decode m297.2.1 75 = .ok (.getfield 81, 3) := by decide +kernel
theorem d_297_78 : decode m297.2.1 78 = .ok (.invokevirtual 450, 3) := by decide +kernel
theorem d_297_81 : decode m297.2.1 81 = .ok (.goto 23, 3) := by decide +kernel
theorem d_297_84 : decode m297.2.1 84 = .ok (.aload_n 0, 1) := by decide +kernel
theorem d_297_85 : decode m297.2.1 85 = .ok (.iload 7, 2) := by decide +kernel
theorem d_297_87 : decode m297.2.1 87 = .ok (.iload_n 3, 1) := by decide +kernel
theorem d_297_88 : decode m297.2.1 88 = .ok (.iload 4, 2) := by decide +kernel
theorem d_297_90 : decode m297.2.1 90 = .ok (.iload 5, 2) := by decide +kernel
theorem d_297_92 : decode m297.2.1 92 = .ok (.ior, 1) := by decide +kernel
theorem d_297_93 : decode m297.2.1 93 = .ok (.aload_n 0, 1) := by decide +kernel
theorem d_297_94 : decode m297.2.1 94 = .ok (.getfield 84, 3) := by decide +kernel
theorem d_297_97 : decode m297.2.1 97 = .ok (.aload_n 0, 1) := by decide +kernel
theorem d_297_98 : decode m297.2.1 98 = .ok (.getfield 81, 3) := by decide +kernel
theorem d_297_101 : decode m297.2.1 101 = .ok (.invokevirtual 450, 3) := by decide +kernel
theorem d_297_104 : decode m297.2.1 104 = .ok (.istore 9, 2) := by decide +kernel
theorem d_297_106 : decode m297.2.1 106 = .ok (.iload 6, 2) := by decide +kernel
theorem d_297_108 : decode m297.2.1 108 = .ok (.iload 9, 2) := by decide +kernel
theorem d_297_110 : decode m297.2.1 110 = .ok (.iload 8, 2) := by decide +kernel
theorem d_297_112 : decode m297.2.1 112 = .ok (.iconst (-1), 1) := by decide +kernel
theorem d_297_113 : decode m297.2.1 113 = .ok (.ixor, 1) := by decide +kernel
theorem d_297_114 : decode m297.2.1 114 = .ok (.iand, 1) := by decide +kernel
theorem d_297_115 : decode m297.2.1 115 = .ok (.ior, 1) := by decide +kernel
theorem d_297_116 : decode m297.2.1 116 = .ok (.istore 6, 2) := by decide +kernel
theorem d_297_118 : decode m297.2.1 118 = .ok (.iinc 7 1, 3) := by decide +kernel
theorem d_297_121 : decode m297.2.1 121 = .ok (.goto (-93), 3) := by decide +kernel
theorem d_297_124 : decode m297.2.1 124 = .ok (.iload 6, 2) := by decide +kernel
theorem d_297_126 : decode m297.2.1 126 = .ok (.ireturn, 1) := by decide +kernel
theorem d_298_0 : decode m298.2.1 0 = .ok (.iload_n 1, 1) := by decide +kernel
theorem d_298_1 : decode m298.2.1 1 = .ok (.invokestatic 476, 3) := by decide +kernel
theorem d_298_4 : decode m298.2.1 4 = .ok (.ifCond .ne 5, 3) := by decide +kernel
theorem d_298_7 : decode m298.2.1 7 = .ok (.iconst (-1), 1) := by decide +kernel
theorem d_298_8 : decode m298.2.1 8 = .ok (.ireturn, 1) := by decide +kernel
theorem d_298_9 : decode m298.2.1 9 = .ok (.iconst 0, 1) := by decide +kernel
theorem d_298_10 : decode m298.2.1 10 = .ok (.istore_n 2, 1) := by decide +kernel
theorem d_298_11 : decode m298.2.1 11 = .ok (.iconst 0, 1) := by decide +kernel
theorem d_298_12 : decode m298.2.1 12 = .ok (.istore_n 3, 1) := by decide +kernel
theorem d_298_13 : decode m298.2.1 13 = .ok (.iload_n 3, 1) := by decide +kernel
theorem d_298_14 : decode m298.2.1 14 = .ok (.aload_n 0, 1) := by decide +kernel
theorem d_298_15 : decode m298.2.1 15 = .ok (.getfield 322, 3) := by decide +kernel
theorem d_298_18 : decode m298.2.1 18 = .ok (.if_icmp .ge 32, 3) := by decide +kernel
theorem d_298_21 : decode m298.2.1 21 = .ok (.aload_n 0, 1) := by decide +kernel
theorem d_298_22 : decode m298.2.1 22 = .ok (.iload_n 3, 1) := by decide +kernel
theorem d_298_23 : decode m298.2.1 23 = .ok (.invokevirtual 515, 3) := by decide +kernel
theorem d_298_26 : decode m298.2.1 26 = .ok (.ifCond .eq 18, 3) := by decide +kernel
theorem d_298_29 : decode m298.2.1 29 = .ok (.aload_n 0, 1) := by decide +kernel
theorem d_298_30 : decode m298.2.1 30 = .ok (.iload_n 3, 1) := by decide +kernel
theorem d_298_31 : decode m298.2.1 31 = .ok (.iload_n 1, 1) := by decide +kernel
theorem d_298_32 : decode m298.2.1 32 = .ok (.invokevirtual 518, 3) := by decide +kernel
theorem d_298_35 : decode m298.2.1 35 = .ok (.ifCond .ne 9, 3) := by decide +kernel
theorem d_298_38 : decode m298.2.1 38 = .ok (.iload_n 2, 1) := by decide +kernel
theorem d_298_39 : decode m298.2.1 39 = .ok (.iconst 1, 1) := by decide +kernel
theorem d_298_40 : decode m298.2.1 40 = .ok (.iload_n 3, 1) := by decide +kernel
theorem d_298_41 : decode m298.2.1 41 = .ok (.ishl, 1) := by decide +kernel
theorem d_298_42 : decode m298.2.1 42 = .ok (.ior, 1) := by decide +kernel
theorem d_298_43 : decode m298.2.1 43 = .ok (.istore_n 2, 1) := by decide +kernel
theorem d_298_44 : decode m298.2.1 44 = .ok (.iinc 3 1, 3) := by decide +kernel
theorem d_298_47 : decode m298.2.1 47 = .ok (.goto (-34), 3) := by decide +kernel
theorem d_298_50 : decode m298.2.1 50 = .ok (.iload_n 2, 1) := by decide +kernel
theorem d_298_51 : decode m298.2.1 51 = .ok (.ireturn, 1) := by decide +kernel
theorem d_299_0 : decode m299.2.1 0 = .ok (.aload_n 0, 1) := by decide +kernel
theorem d_299_1 : decode m299.2.1 1 = .ok (.iload_n 1, 1) := by decide +kernel
theorem d_299_2 : decode m299.2.1 2 = .ok (.invokevirtual 515, 3) := by decide +kernel
theorem d_299_5 : decode m299.2.1 5 = .ok (.ifCond .eq 19, 3) := by decide +kernel
theorem d_299_8 : decode m299.2.1 8 = .ok (.iload_n 2, 1) := by decide +kernel
theorem d_299_9 : decode m299.2.1 9 = .ok (.invokestatic 476, 3) := by decide +kernel
theorem d_299_12 : decode m299.2.1 12 = .ok (.ifCond .eq 12, 3) := by decide +kernel
theorem d_299_15 : decode m299.2.1 15 = .ok (.iload_n 3, 1) := by decide +kernel
theorem d_299_16 : decode m299.2.1 16 = .ok (.iconst 0, 1) := by decide +kernel
theorem d_299_17 : decode m299.2.1 17 = .ok (.iconst 1, 1) := by decide +kernel
theorem d_299_18 : decode m299.2.1 18 = .ok (.invokestatic 429, 3) := by decide +kernel
theorem d_299_21 : decode m299.2.1 21 = .ok (.ifCond .ne 5, 3) := by decide +kernel
theorem d_299_24 : decode m299.2.1 24 = .ok (.iconst (-1), 1) := by decide +kernel
theorem d_299_25 : decode m299.2.1 25 = .ok (.ireturn, 1) := by decide +kernel
theorem d_299_26 : decode m299.2.1 26 = .ok (.aload_n 0, 1) := by decide +kernel
theorem d_299_27 : decode m299.2.1 27 = .ok (.invokevirtual 464, 3) := by decide +kernel
theorem d_299_30 : decode m299.2.1 30 = .ok (.aload_n 0, 1) := by decide +kernel
theorem d_299_31 : decode m299.2.1 31 = .ok (.invokevirtual 497, 3) := by decide +kernel
theorem d_299_34 : decode m299.2.1 34 = .ok (.aload_n 0, 1) := by decide +kernel
theorem d_299_35 : decode m299.2.1 35 = .ok (.getfield 96, 3) := by decide +kernel
theorem d_299_38 : decode m299.2.1 38 = .ok (.iload_n 1, 1) := by decide +kernel
theorem d_299_39 : decode m299.2.1 39 = .ok (.iload_n 2, 1) := by decide +kernel
theorem d_299_40 : decode m299.2.1 40 = .ok (.iastore, 1) := by decide +kernel
theorem d_299_41 : decode m299.2.1 41 = .ok (.aload_n 0, 1) := by decide +kernel
theorem d_299_42 : decode m299.2.1 42 = .ok (.iconst 1, 1) := by decide +kernel
theorem d_299_43 : decode m299.2.1 43 = .ok (.invokevirtual 454, 3) := by decide +kernel
theorem d_299_46 : decode m299.2.1 46 = .ok (.istore 4, 2) := by decide +kernel
theorem d_299_48 : decode m299.2.1 48 = .ok (.aload_n 0, 1) := by decide +kernel
theorem d_299_49 : decode m299.2.1 49 = .ok (.iconst 2, 1) := by decide +kernel
theorem d_299_50 : decode m299.2.1 50 = .ok (.invokevirtual 454, 3) := by decide +kernel
theorem d_299_53 : decode m299.2.1 53 = .ok (.istore 5, 2) := by decide +kernel
theorem d_299_55 : decode m299.2.1 55 = .ok (.iload 4, 2) := by decide +kernel
theorem d_299_57 : decode m299.2.1 57 = .ok (.iload 5, 2) := by decide +kernel
theorem d_299_59 : decode m299.2.1 59 = .ok (.ior, 1) := by decide +kernel
theorem d_299_60 : decode m299.2.1 60 = .ok (.iconst 1, 1) := by decide +kernel
theorem d_299_61 : decode m299.2.1 61 = .ok (.iload_n 1, 1) := by decide +kernel
theorem d_299_62 : decode m299.2.1 62 = .ok (.ishl, 1) := by decide +kernel
theorem d_299_63 : decode m299.2.1 63 = .ok (.iconst (-1), 1) := by decide +kernel
theorem d_299_64 : decode m299.2.1 64 = .ok (.ixor, 1) := by decide +kernel
theorem d_299_65 : decode m299.2.1 65 = .ok (.iand, 1) := by decide +kernel
theorem d_299_66 : decode m299.2.1 66 = .ok (.istore 6, 2) := by decide +kernel
theorem d_299_68 : decode m299.2.1 68 = .ok (.iconst (-1), 1) := by decide +kernel
theorem d_299_69 : decode m299.2.1 69 = .ok (.istore 7, 2) := by decide +kernel
theorem d_299_71 : decode m299.2.1 71 = .ok (.iconst 0, 1) := by decide +kernel
theorem d_299_72 : decode m299.2.1 72 = .ok (.istore 8, 2) := by decide +kernel
theorem d_299_74 : decode m299.2.1 74 = .ok (.iload 8, 2) := by decide +kernel
theorem d_299_76 : decode m299.2.1 76 = .ok (.iload 6, 2) := by decide +kernel
theorem d_299_78 : decode m299.2.1 78 = .ok (.if_icmp .gt 101, 3) := by decide +kernel
theorem d_299_81 : decode m299.2.1 81 = .ok (.iload 8, 2) := by decide +kernel
theorem d_299_83 : decode m299.2.1 83 = .ok (.iload 6, 2) := by decide +kernel
theorem d_299_85 : decode m299.2.1 85 = .ok (.iconst (-1), 1) := by decide +kernel
theorem d_299_86 : decode m299.2.1 86 = .ok (.ixor, 1) := by decide +kernel
theorem d_299_87 : decode m299.2.1 87 = .ok (.iand, 1) := by decide +kernel
theorem d_299_88 : decode m299.2.1 88 = .ok (.ifCond .ne 85, 3) := by decide +kernel
theorem d_299_91 : decode m299.2.1 91 = .ok (.iload 7, 2) := by decide +kernel
theorem d_299_93 : decode m299.2.1 93 = .ok (.ifCond .lt 47, 3) := by decide +kernel
theorem d_299_96 : decode m299.2.1 96 = .ok (.iload 8, 2) := by decide +kernel
theorem d_299_98 : decode m299.2.1 98 = .ok (.invokestatic 331, 3) := by decide +kernel
theorem d_299_101 : decode m299.2.1 101 = .ok (.iload 7, 2) := by decide +kernel
theorem d_299_103 : decode m299.2.1 103 = .ok (.invokestatic 331, 3) := by decide +kernel
theorem d_299_106 : decode m299.2.1 106 = .ok (.if_icmp .gt 67, 3) := by decide +kernel
theorem d_299_109 : decode m299.2.1 109 = .ok (.iload 8, 2) := by decide +kernel
theorem d_299_111 : decode m299.2.1 111 = .ok (.invokestatic 331, 3) := by decide +kernel
theorem d_299_114 : decode m299.2.1 114 = .ok (.iload 7, 2) := by decide +kernel
theorem d_299_116 : decode m299.2.1 116 = .ok (.invokestatic 331, 3) := by decide +kernel
theorem d_299_119 : decode m299.2.1 119 = .ok (.if_icmp .ne 21, 3) := by decide +kernel
theorem d_299_122 : decode m299.2.1 122 = .ok (.aload_n 0, 1) := by decide +kernel
theorem d_299_123 : decode m299.2.1 123 = .ok (.iload 8, 2) := by decide +kernel
theorem d_299_125 : decode m299.2.1 125 = .ok (.invokevirtual 500, 3) := by decide +kernel
theorem d_299_128 : decode m299.2.1 128 = .ok (.aload_n 0, 1) := by decide +kernel
theorem d_299_129 : decode m299.2.1 129 = .ok (.iload 7, 2) := by decide +kernel
theorem d_299_131 : decode m299.2.1 131 = .ok (.invokevirtual 500, 3) := by decide +kernel
theorem d_299_134 : decode m299.2.1 134 = .ok (.if_icmp .lt 6, 3) := by decide +kernel
theorem d_299_137 : decode m299.2.1 137 = .ok (.goto 36, 3) := by decide +kernel
theorem d_299_140 : decode m299.2.1 140 = .ok (.aload_n 0, 1) := by decide +kernel
theorem d_299_141 : decode m299.2.1 141 = .ok (.iload 4, 2) := by decide +kernel
theorem d_299_143 : decode m299.2.1 143 = .ok (.iload 8, 2) := by decide +kernel
theorem d_299_145 : decode m299.2.1 145 = .ok (.iconst (-1), 1) := by decide +kernel
theorem d_299_146 : decode m299.2.1 146 = .ok (.ixor, 1) := by decide +kernel
theorem d_299_147 : decode m299.2.1 147 = .ok (.iand, 1) := by decide +kernel
theorem d_299_148 : decode m299.2.1 148 = .ok (.iload 5, 2) := by decide +kernel
theorem d_299_150 : decode m299.2.1 150 = .ok (.iload 8, 2) := by decide +kernel
theorem d_299_152 : decode m299.2.1 152 = .ok (.iconst (-1), 1) := by decide +kernel
theorem d_299_153 : decode m299.2.1 153 = .ok (.ixor, 1) := by decide +kernel
theorem d_299_154 : decode m299.2.1 154 = .ok (.iand, 1) := by decide +kernel
theorem d_299_155 : decode m299.2.1 155 = .ok (.aload_n 0, 1) := by decide +kernel
theorem d_299_156 : decode m299.2.1 156 = .ok (.getfield 84, 3) := by decide +kernel
theorem d_299_159 : decode m299.2.1 159 = .ok (.aload_n 0, 1) := by decide +kernel
theorem d_299_160 : decode m299.2.1 160 = .ok (.getfield 81, 3) := by decide +kernel
theorem d_299_163 : decode m299.2.1 163 = .ok (.invokevirtual 457, 3) := by decide +kernel
theorem d_299_166 : decode m299.2.1 166 = .ok (.ifCond .eq 7, 3) := by decide +kernel
theorem d_299_169 : decode m299.2.1 169 = .ok (.iload 8, 2) := by decide +kernel
theorem d_299_171 : decode m299.2.1 171 = .ok (.istore 7, 2) := by decide +kernel
theorem d_299_173 : decode m299.2.1 173 = .ok (.iinc 8 1, 3) := by decide +kernel
theorem d_299_176 : decode m299.2.1 176 = .ok (.goto (-102), 3) := by decide +kernel
theorem d_299_179 : decode m299.2.1 179 = .ok (.iload 7, 2) := by decide +kernel
theorem d_299_181 : decode m299.2.1 181 = .ok (.ifCond .ge 7, 3) := by decide +kernel
theorem d_299_184 : decode m299.2.1 184 = .ok (.iconst (-1), 1) := by decide +kernel
theorem d_299_185 : decode m299.2.1 185 = .ok (.goto 17, 3) := by decide +kernel
theorem d_299_188 : decode m299.2.1 188 = .ok (.iload_n 3, 1) := by decide +kernel
theorem d_299_189 : decode m299.2.1 189 = .ok (.ifCond .ne 11, 3) := by decide +kernel
theorem d_299_192 : decode m299.2.1 192 = .ok (.iload 7, 2) := by decide +kernel
theorem d_299_194 : decode m299.2.1 194 = .ok (.invokestatic 331, 3) := by decide +kernel
theorem d_299_197 : decode m299.2.1 197 = .ok (.goto 5, 3) := by decide +kernel
theorem d_299_200 : decode m299.2.1 200 = .ok (.iload 7, 2) := by decide +kernel
theorem d_299_202 : decode m299.2.1 202 = .ok (.ireturn, 1) := by decide +kernel
theorem d_300_0 : decode m300.2.1 0 = .ok (.aload_n 0, 1) := by decide +kernel
theorem d_300_1 : decode m300.2.1 1 = .ok (.iload_n 1, 1) := by decide +kernel
theorem d_300_2 : decode m300.2.1 2 = .ok (.invokevirtual 515, 3) := by decide +kernel
theorem d_300_5 : decode m300.2.1 5 = .ok (.ifCond .eq 12, 3) := by decide +kernel
theorem d_300_8 : decode m300.2.1 8 = .ok (.iload_n 2, 1) := by decide +kernel
theorem d_300_9 : decode m300.2.1 9 = .ok (.iconst 0, 1) := by decide +kernel
theorem d_300_10 : decode m300.2.1 10 = .ok (.iconst 1, 1) := by decide +kernel
theorem d_300_11 : decode m300.2.1 11 = .ok (.invokestatic 429, 3) := by decide +kernel
theorem d_300_14 : decode m300.2.1 14 = .ok (.ifCond .ne 6, 3) := by decide +kernel
theorem d_300_17 : decode m300.2.1 17 = .ok (.bipush (-100), 2) := by decide +kernel
theorem d_300_19 : decode m300.2.1 19 = .ok (.ireturn, 1) := by decide +kernel
theorem d_300_20 : decode m300.2.1 20 = .ok (.iconst 0, 1) := by decide +kernel
theorem d_300_21 : decode m300.2.1 21 = .ok (.istore_n 3, 1) := by decide +kernel
theorem d_300_22 : decode m300.2.1 22 = .ok (.iload_n 3, 1) := by decide +kernel
theorem d_300_23 : decode m300.2.1 23 = .ok (.bipush 14, 2) := by decide +kernel
theorem d_300_25 : decode m300.2.1 25 = .ok (.if_icmp .gt 69, 3) := by decide +kernel
theorem d_300_28 : decode m300.2.1 28 = .ok (.iload_n 3, 1) := by decide +kernel
theorem d_300_29 : decode m300.2.1 29 = .ok (.iconst 2, 1) := by decide +kernel
theorem d_300_30 : decode m300.2.1 30 = .ok (.irem, 1) := by decide +kernel
theorem d_300_31 : decode m300.2.1 31 = .ok (.iconst 1, 1) := by decide +kernel
theorem d_300_32 : decode m300.2.1 32 = .ok (.if_icmp .ne 11, 3) := by decide +kernel
theorem d_300_35 : decode m300.2.1 35 = .ok (.iload_n 3, 1) := by decide +kernel
theorem d_300_36 : decode m300.2.1 36 = .ok (.iconst 1, 1) := by decide +kernel
theorem d_300_37 : decode m300.2.1 37 = .ok (.iadd, 1) := by decide +kernel
theorem d_300_38 : decode m300.2.1 38 = .ok (.iconst 2, 1) := by decide +kernel
theorem d_300_39 : decode m300.2.1 39 = .ok (.idiv, 1) := by decide +kernel
theorem d_300_40 : decode m300.2.1 40 = .ok (.goto 7, 3) := by decide +kernel
theorem d_300_43 : decode m300.2.1 43 = .ok (.iload_n 3, 1) := by decide +kernel
theorem d_300_44 : decode m300.2.1 44 = .ok (.iconst 2, 1) := by decide +kernel
theorem d_300_45 : decode m300.2.1 45 = .ok (.idiv, 1) := by decide +kernel
theorem d_300_46 : decode m300.2.1 46 = .ok (.ineg, 1) := by decide +kernel
theorem d_300_47 : decode m300.2.1 47 = .ok (.istore 4, 2) := by decide +kernel
theorem d_300_49 : decode m300.2.1 49 = .ok (.iconst 1, 1) := by decide +kernel
theorem d_300_50 : decode m300.2.1 50 = .ok (.istore 5, 2) := by decide +kernel
theorem d_300_52 : decode m300.2.1 52 = .ok (.iload 5, 2) := by decide +kernel
theorem d_300_54 : decode m300.2.1 54 = .ok (.iconst 2, 1) := by decide +kernel
theorem d_300_55 : decode m300.2.1 55 = .ok (.if_icmp .gt 33, 3) := by decide +kernel
theorem d_300_58 : decode m300.2.1 58 = .ok (.aload_n 0, 1) := by decide +kernel
theorem d_300_59 : decode m300.2.1 59 = .ok (.iload_n 1, 1) := by decide +kernel
theorem d_300_60 : decode m300.2.1 60 = .ok (.iload 4, 2) := by decide +kernel
theorem d_300_62 : decode m300.2.1 62 = .ok (.iload 5, 2) := by decide +kernel
theorem d_300_64 : decode m300.2.1 64 = .ok (.invokevirtual 524, 3) := by decide +kernel
theorem d_300_67 : decode m300.2.1 67 = .ok (.ifCond .eq 15, 3) := by decide +kernel
theorem d_300_70 : decode m300.2.1 70 = .ok (.iload_n 2, 1) := by decide +kernel
theorem d_300_71 : decode m300.2.1 71 = .ok (.ifCond .ne 8, 3) := by decide +kernel
theorem d_300_74 : decode m300.2.1 74 = .ok (.iload 4, 2) := by decide +kernel
theorem d_300_76 : decode m300.2.1 76 = .ok (.goto 5, 3) := by decide +kernel
theorem d_300_79 : decode m300.2.1 79 = .ok (.iload 5, 2) := by decide +kernel
theorem d_300_81 : decode m300.2.1 81 = .ok (.ireturn, 1) := by decide +kernel
theorem d_300_82 : decode m300.2.1 82 = .ok (.iinc 5 1, 3) := by decide +kernel
theorem d_300_85 : decode m300.2.1 85 = .ok (.goto (-33), 3) := by decide +kernel
theorem d_300_88 : decode m300.2.1 88 = .ok (.iinc 3 1, 3) := by decide +kernel
theorem d_300_91 : decode m300.2.1 91 = .ok (.goto (-69), 3) := by decide +kernel
theorem d_300_94 : decode m300.2.1 94 = .ok (.bipush (-100), 2) := by decide +kernel
theorem d_300_96 : decode m300.2.1 96 = .ok (.ireturn, 1) := by decide +kernel
theorem d_301_0 : decode m301.2.1 0 = .ok (.aload_n 0, 1) := by decide +kernel
theorem d_301_1 : decode m301.2.1 1 = .ok (.getfield 93, 3) := by decide +kernel
theorem d_301_4 : decode m301.2.1 4 = .ok (.bipush 10, 2) := by decide +kernel
theorem d_301_6 : decode m301.2.1 6 = .ok (.iload_n 1, 1) := by decide +kernel
theorem d_301_7 : decode m301.2.1 7 = .ok (.iadd, 1) := by decide +kernel
theorem d_301_8 : decode m301.2.1 8 = .ok (.iaload, 1) := by decide +kernel
theorem d_301_9 : decode m301.2.1 9 = .ok (.bipush 12, 2) := by decide +kernel
theorem d_301_11 : decode m301.2.1 11 = .ok (.iload_n 2, 1) := by decide +kernel
theorem d_301_12 : decode m301.2.1 12 = .ok (.imul, 1) := by decide +kernel
theorem d_301_13 : decode m301.2.1 13 = .ok (.iadd, 1) := by decide +kernel
theorem d_301_14 : decode m301.2.1 14 = .ok (.istore 4, 2) := by decide +kernel
theorem d_301_16 : decode m301.2.1 16 = .ok (.iload 4, 2) := by decide +kernel
theorem d_301_18 : decode m301.2.1 18 = .ok (.iconst 0, 1) := by decide +kernel
theorem d_301_19 : decode m301.2.1 19 = .ok (.bipush 87, 2) := by decide +kernel
theorem d_301_21 : decode m301.2.1 21 = .ok (.invokestatic 429, 3) := by decide +kernel
theorem d_301_24 : decode m301.2.1 24 = .ok (.ifCond .ne 5, 3) := by decide +kernel
theorem d_301_27 : decode m301.2.1 27 = .ok (.iconst 0, 1) := by decide +kernel
theorem d_301_28 : decode m301.2.1 28 = .ok (.ireturn, 1) := by decide +kernel
theorem d_301_29 : decode m301.2.1 29 = .ok (.aload_n 0, 1) := by decide +kernel
theorem d_301_30 : decode m301.2.1 30 = .ok (.invokevirtual 464, 3) := by decide +kernel
theorem d_301_33 : decode m301.2.1 33 = .ok (.aload_n 0, 1) := by decide +kernel
theorem d_301_34 : decode m301.2.1 34 = .ok (.getfield 96, 3) := by decide +kernel
theorem d_301_37 : decode m301.2.1 37 = .ok (.bipush 10, 2) := by decide +kernel
theorem d_301_39 : decode m301.2.1 39 = .ok (.iload_n 1, 1) := by decide +kernel
theorem d_301_40 : decode m301.2.1 40 = .ok (.iadd, 1) := by decide +kernel
theorem d_301_41 : decode m301.2.1 41 = .ok (.iload 4, 2) := by decide +kernel
theorem d_301_43 : decode m301.2.1 43 = .ok (.iastore, 1) := by decide +kernel
theorem d_301_44 : decode m301.2.1 44 = .ok (.aload_n 0, 1) := by decide +kernel
theorem d_301_45 : decode m301.2.1 45 = .ok (.getfield 96, 3) := by decide +kernel
theorem d_301_48 : decode m301.2.1 48 = .ok (.iload_n 1, 1) := by decide +kernel
theorem d_301_49 : decode m301.2.1 49 = .ok (.iload_n 3, 1) := by decide +kernel
theorem d_301_50 : decode m301.2.1 50 = .ok (.iastore, 1) := by decide +kernel
theorem d_301_51 : decode m301.2.1 51 = .ok (.aload_n 0, 1) := by decide +kernel
theorem d_301_52 : decode m301.2.1 52 = .ok (.invokevirtual 521, 3) := by decide +kernel
theorem d_301_55 : decode m301.2.1 55 = .ok (.ireturn, 1) := by decide +kernel
theorem d_302_0 : decode m302.2.1 0 = .ok (.aload_n 0, 1) := by decide +kernel
theorem d_302_1 : decode m302.2.1 1 = .ok (.aload_n 0, 1) := by decide +kernel
theorem d_302_2 : decode m302.2.1 2 = .ok (.iconst 1, 1) := by decide +kernel
theorem d_302_3 : decode m302.2.1 3 = .ok (.invokevirtual 454, 3) := by decide +kernel
theorem d_302_6 : decode m302.2.1 6 = .ok (.aload_n 0, 1) := by decide +kernel
theorem d_302_7 : decode m302.2.1 7 = .ok (.iconst 2, 1) := by decide +kernel
theorem d_302_8 : decode m302.2.1 8 = .ok (.invokevirtual 454, 3) := by decide +kernel
theorem d_302_11 : decode m302.2.1 11 = .ok (.aload_n 0, 1) := by decide +kernel
theorem d_302_12 : decode m302.2.1 12 = .ok (.getfield 84, 3) := by decide +kernel
theorem d_302_15 : decode m302.2.1 15 = .ok (.aload_n 0, 1) := by decide +kernel
theorem d_302_16 : decode m302.2.1 16 = .ok (.getfield 81, 3) := by decide +kernel
theorem d_302_19 : decode m302.2.1 19 = .ok (.invokevirtual 457, 3) := by decide +kernel
theorem d_302_22 : decode m302.2.1 22 = .ok (.ireturn, 1) := by decide +kernel
theorem d_303_0 : decode m303.2.1 0 = .ok (.iload_n 1, 1) := by decide +kernel
theorem d_303_1 : decode m303.2.1 1 = .ok (.iconst 0, 1) := by decide +kernel
theorem d_303_2 : decode m303.2.1 2 = .ok (.iconst 1, 1) := by decide +kernel
theorem d_303_3 : decode m303.2.1 3 = .ok (.invokestatic 429, 3) := by decide +kernel
theorem d_303_6 : decode m303.2.1 6 = .ok (.ifCond .ne 5, 3) := by decide +kernel
theorem d_303_9 : decode m303.2.1 9 = .ok (.iconst (-1), 1) := by decide +kernel
theorem d_303_10 : decode m303.2.1 10 = .ok (.ireturn, 1) := by decide +kernel
theorem d_303_11 : decode m303.2.1 11 = .ok (.aload_n 0, 1) := by decide +kernel
theorem d_303_12 : decode m303.2.1 12 = .ok (.invokevirtual 464, 3) := by decide +kernel
theorem d_303_15 : decode m303.2.1 15 = .ok (.aload_n 0, 1) := by decide +kernel
theorem d_303_16 : decode m303.2.1 16 = .ok (.iconst 1, 1) := by decide +kernel
theorem d_303_17 : decode m303.2.1 17 = .ok (.invokevirtual 454, 3) := by decide +kernel
theorem d_303_20 : decode m303.2.1 20 = .ok (.istore_n 2, 1) := by decide +kernel
theorem d_303_21 : decode m303.2.1 21 = .ok (.aload_n 0, 1) := by decide +kernel
theorem d_303_22 : decode m303.2.1 22 = .ok (.iconst 2, 1) := by decide +kernel
theorem d_303_23 : decode m303.2.1 23 = .ok (.invokevirtual 454, 3) := by decide +kernel
theorem d_303_26 : decode m303.2.1 26 = .ok (.istore_n 3, 1) := by decide +kernel
theorem d_303_27 : decode m303.2.1 27 = .ok (.iconst (-1), 1) := by decide +kernel
theorem d_303_28 : decode m303.2.1 28 = .ok (.istore 4, 2) := by decide +kernel
theorem d_303_30 : decode m303.2.1 30 = .ok (.iconst 0, 1) := by decide +kernel
theorem d_303_31 : decode m303.2.1 31 = .ok (.istore 5, 2) := by decide +kernel
theorem d_303_33 : decode m303.2.1 33 = .ok (.iload 5, 2) := by decide +kernel
theorem d_303_35 : decode m303.2.1 35 = .ok (.iconst 1, 1) := by decide +kernel
theorem d_303_36 : decode m303.2.1 36 = .ok (.aload_n 0, 1) := by decide +kernel
theorem d_303_37 : decode m303.2.1 37 = .ok (.getfield 78, 3) := by decide +kernel
theorem d_303_40 : decode m303.2.1 40 = .ok (.ishl, 1) := by decide +kernel
theorem d_303_41 : decode m303.2.1 41 = .ok (.if_icmp .ge 64, 3) := by decide +kernel
theorem d_303_44 : decode m303.2.1 44 = .ok (.iload 4, 2) := by decide +kernel
theorem d_303_46 : decode m303.2.1 46 = .ok (.ifCond .lt 19, 3) := by decide +kernel
theorem d_303_49 : decode m303.2.1 49 = .ok (.iload 5, 2) := by decide +kernel
theorem d_303_51 : decode m303.2.1 51 = .ok (.invokestatic 331, 3) := by decide +kernel
theorem d_303_54 : decode m303.2.1 54 = .ok (.iload 4, 2) := by decide +kernel
theorem d_303_56 : decode m303.2.1 56 = .ok (.invokestatic 331, 3) := by decide +kernel
theorem d_303_59 : decode m303.2.1 59 = .ok (.if_icmp .lt 6, 3) := by decide +kernel
theorem d_303_62 : decode m303.2.1 62 = .ok (.goto 37, 3) := by decide +kernel
theorem d_303_65 : decode m303.2.1 65 = .ok (.aload_n 0, 1) := by decide +kernel
theorem d_303_66 : decode m303.2.1 66 = .ok (.getfield 96, 3) := by decide +kernel
theorem d_303_69 : decode m303.2.1 69 = .ok (.bipush 40, 2) := by decide +kernel
theorem d_303_71 : decode m303.2.1 71 = .ok (.iload 5, 2) := by decide +kernel
theorem d_303_73 : decode m303.2.1 73 = .ok (.iastore, 1) := by decide +kernel
theorem d_303_74 : decode m303.2.1 74 = .ok (.aload_n 0, 1) := by decide +kernel
theorem d_303_75 : decode m303.2.1 75 = .ok (.invokevirtual 433, 3) := by decide +kernel
theorem d_303_78 : decode m303.2.1 78 = .ok (.aload_n 0, 1) := by decide +kernel
theorem d_303_79 : decode m303.2.1 79 = .ok (.iload_n 2, 1) := by decide +kernel
theorem d_303_80 : decode m303.2.1 80 = .ok (.iload_n 3, 1) := by decide +kernel
theorem d_303_81 : decode m303.2.1 81 = .ok (.aload_n 0, 1) := by decide +kernel
theorem d_303_82 : decode m303.2.1 82 = .ok (.getfield 84, 3) := by decide +kernel
theorem d_303_85 : decode m303.2.1 85 = .ok (.aload_n 0, 1) := by decide +kernel
theorem d_303_86 : decode m303.2.1 86 = .ok (.getfield 81, 3) := by decide +kernel
theorem d_303_89 : decode m303.2.1 89 = .ok (.invokevirtual 457, 3) := by decide +kernel
theorem d_303_92 : decode m303.2.1 92 = .ok (.ifCond .eq 7, 3) := by decide +kernel
theorem d_303_95 : decode m303.2.1 95 = .ok (.iload 5, 2) := by decide +kernel
theorem d_303_97 : decode m303.2.1 97 = .ok (.istore 4, 2) := by decide +kernel
theorem d_303_99 : decode m303.2.1 99 = .ok (.iinc 5 1, 3) := by decide +kernel
theorem d_303_102 : decode m303.2.1 102 = .ok (.goto (-69), 3) := by decide +kernel
theorem d_303_105 : decode m303.2.1 105 = .ok (.iload 4, 2) := by decide +kernel
theorem d_303_107 : decode m303.2.1 107 = .ok (.ifCond .ge 7, 3) := by decide +kernel
theorem d_303_110 : decode m303.2.1 110 = .ok (.iconst (-1), 1) := by decide +kernel
theorem d_303_111 : decode m303.2.1 111 = .ok (.goto 17, 3) := by decide +kernel
theorem d_303_114 : decode m303.2.1 114 = .ok (.iload_n 1, 1) := by decide +kernel
theorem d_303_115 : decode m303.2.1 115 = .ok (.ifCond .ne 11, 3) := by decide +kernel
theorem d_303_118 : decode m303.2.1 118 = .ok (.iload 4, 2) := by decide +kernel
theorem d_303_120 : decode m303.2.1 120 = .ok (.invokestatic 331, 3) := by decide +kernel
theorem d_303_123 : decode m303.2.1 123 = .ok (.goto 5, 3) := by decide +kernel
theorem d_303_126 : decode m303.2.1 126 = .ok (.iload 4, 2) := by decide +kernel
theorem d_303_128 : decode m303.2.1 128 = .ok (.ireturn, 1) := by decide +kernel
theorem d_304_0 : decode m304.2.1 0 = .ok (.iload_n 1, 1) := by decide +kernel
theorem d_304_1 : decode m304.2.1 1 = .ok (.invokestatic 476, 3) := by decide +kernel
theorem d_304_4 : decode m304.2.1 4 = .ok (.ifCond .ne 5, 3) := by decide +kernel
theorem d_304_7 : decode m304.2.1 7 = .ok (.iconst (-1), 1) := by decide +kernel
theorem d_304_8 : decode m304.2.1 8 = .ok (.ireturn, 1) := by decide +kernel
theorem d_304_9 : decode m304.2.1 9 = .ok (.aload_n 0, 1) := by decide +kernel
theorem d_304_10 : decode m304.2.1 10 = .ok (.invokevirtual 464, 3) := by decide +kernel
theorem d_304_13 : decode m304.2.1 13 = .ok (.iconst 0, 1) := by decide +kernel
theorem d_304_14 : decode m304.2.1 14 = .ok (.istore_n 2, 1) := by decide +kernel
theorem d_304_15 : decode m304.2.1 15 = .ok (.iconst 0, 1) := by decide +kernel
theorem d_304_16 : decode m304.2.1 16 = .ok (.istore_n 3, 1) := by decide +kernel
theorem d_304_17 : decode m304.2.1 17 = .ok (.iload_n 3, 1) := by decide +kernel
theorem d_304_18 : decode m304.2.1 18 = .ok (.aload_n 0, 1) := by decide +kernel
theorem d_304_19 : decode m304.2.1 19 = .ok (.getfield 78, 3) := by decide +kernel
theorem d_304_22 : decode m304.2.1 22 = .ok (.if_icmp .ge 46, 3) := by decide +kernel
theorem d_304_25 : decode m304.2.1 25 = .ok (.aload_n 0, 1) := by decide +kernel
theorem d_304_26 : decode m304.2.1 26 = .ok (.iload_n 1, 1) := by decide +kernel
theorem d_304_27 : decode m304.2.1 27 = .ok (.invokevirtual 454, 3) := by decide +kernel
theorem d_304_30 : decode m304.2.1 30 = .ok (.aload_n 0, 1) := by decide +kernel
theorem d_304_31 : decode m304.2.1 31 = .ok (.getfield 99, 3) := by decide +kernel
theorem d_304_34 : decode m304.2.1 34 = .ok (.iload_n 3, 1) := by decide +kernel
theorem d_304_35 : decode m304.2.1 35 = .ok (.iaload, 1) := by decide +kernel
theorem d_304_36 : decode m304.2.1 36 = .ok (.iand, 1) := by decide +kernel
theorem d_304_37 : decode m304.2.1 37 = .ok (.istore 4, 2) := by decide +kernel
theorem d_304_39 : decode m304.2.1 39 = .ok (.iload 4, 2) := by decide +kernel
theorem d_304_41 : decode m304.2.1 41 = .ok (.ifCond .eq 21, 3) := by decide +kernel
theorem d_304_44 : decode m304.2.1 44 = .ok (.iload_n 2, 1) := by decide +kernel
theorem d_304_45 : decode m304.2.1 45 = .ok (.aload_n 0, 1) := by decide +kernel
theorem d_304_46 : decode m304.2.1 46 = .ok (.iload 4, 2) := by decide +kernel
theorem d_304_48 : decode m304.2.1 48 = .ok (.invokevirtual 440, 3) := by decide +kernel
theorem d_304_51 : decode m304.2.1 51 = .ok (.aload_n 0, 1) := by decide +kernel
theorem d_304_52 : decode m304.2.1 52 = .ok (.iload 4, 2) := by decide +kernel
theorem d_304_54 : decode m304.2.1 54 = .ok (.invokevirtual 437, 3) := by decide +kernel
theorem d_304_57 : decode m304.2.1 57 = .ok (.isub, 1) := by decide +kernel
theorem d_304_58 : decode m304.2.1 58 = .ok (.invokestatic 527, 3) := by decide +kernel
theorem d_304_61 : decode m304.2.1 61 = .ok (.istore_n 2, 1) := by decide +kernel
theorem d_304_62 : decode m304.2.1 62 = .ok (.iinc 3 1, 3) := by decide +kernel
theorem d_304_65 : decode m304.2.1 65 = .ok (.goto (-48), 3) := by decide +kernel
theorem d_304_68 : decode m304.2.1 68 = .ok (.iload_n 2, 1) := by decide +kernel
theorem d_304_69 : decode m304.2.1 69 = .ok (.ireturn, 1) := by decide +kernel
theorem d_305_0 : decode m305.2.1 0 = .ok (.iload_n 0, 1) := by decide +kernel
theorem d_305_1 : decode m305.2.1 1 = .ok (.iload_n 1, 1) := by decide +kernel
theorem d_305_2 : decode m305.2.1 2 = .ok (.if_icmp .le 7, 3) := by decide +kernel
theorem d_305_5 : decode m305.2.1 5 = .ok (.iload_n 0, 1) := by decide +kernel
theorem d_305_6 : decode m305.2.1 6 = .ok (.goto 4, 3) := by decide +kernel
theorem d_305_9 : decode m305.2.1 9 = .ok (.iload_n 1, 1) := by decide +kernel
theorem d_305_10 : decode m305.2.1 10 = .ok (.ireturn, 1) := by decide +kernel
theorem d_306_0 : decode m306.2.1 0 = .ok (.iload_n 1, 1) := by decide +kernel
theorem d_306_1 : decode m306.2.1 1 = .ok (.invokestatic 476, 3) := by decide +kernel
theorem d_306_4 : decode m306.2.1 4 = .ok (.ifCond .ne 5, 3) := by decide +kernel
theorem d_306_7 : decode m306.2.1 7 = .ok (.iconst (-1), 1) := by decide +kernel
theorem d_306_8 : decode m306.2.1 8 = .ok (.ireturn, 1) := by decide +kernel
theorem d_306_9 : decode m306.2.1 9 = .ok (.aload_n 0, 1) := by decide +kernel
theorem d_306_10 : decode m306.2.1 10 = .ok (.invokevirtual 464, 3) := by decide +kernel
theorem d_306_13 : decode m306.2.1 13 = .ok (.iconst 0, 1) := by decide +kernel
theorem d_306_14 : decode m306.2.1 14 = .ok (.istore_n 2, 1) := by decide +kernel
theorem d_306_15 : decode m306.2.1 15 = .ok (.iconst 1, 1) := by decide +kernel
theorem d_306_16 : decode m306.2.1 16 = .ok (.istore_n 3, 1) := by decide +kernel
theorem d_306_17 : decode m306.2.1 17 = .ok (.iload_n 3, 1) := by decide +kernel
theorem d_306_18 : decode m306.2.1 18 = .ok (.aload_n 0, 1) := by decide +kernel
theorem d_306_19 : decode m306.2.1 19 = .ok (.getfield 78, 3) := by decide +kernel
theorem d_306_22 : decode m306.2.1 22 = .ok (.if_icmp .ge 70, 3) := by decide +kernel
theorem d_306_25 : decode m306.2.1 25 = .ok (.aload_n 0, 1) := by decide +kernel
theorem d_306_26 : decode m306.2.1 26 = .ok (.iload_n 1, 1) := by decide +kernel
theorem d_306_27 : decode m306.2.1 27 = .ok (.invokevirtual 454, 3) := by decide +kernel
theorem d_306_30 : decode m306.2.1 30 = .ok (.aload_n 0, 1) := by decide +kernel
theorem d_306_31 : decode m306.2.1 31 = .ok (.getfield 99, 3) := by decide +kernel
theorem d_306_34 : decode m306.2.1 34 = .ok (.iload_n 3, 1) := by decide +kernel
theorem d_306_35 : decode m306.2.1 35 = .ok (.iaload, 1) := by decide +kernel
theorem d_306_36 : decode m306.2.1 36 = .ok (.iand, 1) := by decide +kernel
theorem d_306_37 : decode m306.2.1 37 = .ok (.istore 4, 2) := by decide +kernel
theorem d_306_39 : decode m306.2.1 39 = .ok (.aload_n 0, 1) := by decide +kernel
theorem d_306_40 : decode m306.2.1 40 = .ok (.iload_n 1, 1) := by decide +kernel
theorem d_306_41 : decode m306.2.1 41 = .ok (.invokevirtual 454, 3) := by decide +kernel
theorem d_306_44 : decode m306.2.1 44 = .ok (.aload_n 0, 1) := by decide +kernel
theorem d_306_45 : decode m306.2.1 45 = .ok (.getfield 99, 3) := by decide +kernel
theorem d_306_48 : decode m306.2.1 48 = .ok (.iload_n 3, 1) := by decide +kernel
theorem d_306_49 : decode m306.2.1 49 = .ok (.iconst 1, 1) := by decide +kernel
theorem d_306_50 : decode m306.2.1 50 = .ok (.isub, 1) := by decide +kernel
theorem d_306_51 : decode m306.2.1 51 = .ok (.iaload, 1) := by decide +kernel
theorem d_306_52 : decode m306.2.1 52 = .ok (.iand, 1) := by decide +kernel
theorem d_306_53 : decode m306.2.1 53 = .ok (.istore 5, 2) := by decide +kernel
theorem d_306_55 : decode m306.2.1 55 = .ok (.iload 4, 2) := by decide +kernel
theorem d_306_57 : decode m306.2.1 57 = .ok (.ifCond .eq 29, 3) := by decide +kernel
theorem d_306_60 : decode m306.2.1 60 = .ok (.iload 5, 2) := by decide +kernel
theorem d_306_62 : decode m306.2.1 62 = .ok (.ifCond .eq 24, 3) := by decide +kernel
theorem d_306_65 : decode m306.2.1 65 = .ok (.iload_n 2, 1) := by decide +kernel
theorem d_306_66 : decode m306.2.1 66 = .ok (.aload_n 0, 1) := by decide +kernel
theorem d_306_67 : decode m306.2.1 67 = .ok (.iload 4, 2) := by decide +kernel
theorem d_306_69 : decode m306.2.1 69 = .ok (.invokevirtual 437, 3) := by decide +kernel
theorem d_306_72 : decode m306.2.1 72 = .ok (.aload_n 0, 1) := by decide +kernel
theorem d_306_73 : decode m306.2.1 73 = .ok (.iload 5, 2) := by decide +kernel
theorem d_306_75 : decode m306.2.1 75 = .ok (.invokevirtual 437, 3) := by decide +kernel
theorem d_306_78 : decode m306.2.1 78 = .ok (.isub, 1) := by decide +kernel
theorem d_306_79 : decode m306.2.1 79 = .ok (.invokestatic 325, 3) := by decide +kernel
theorem d_306_82 : decode m306.2.1 82 = .ok (.invokestatic 527, 3) := by decide +kernel
theorem d_306_85 : decode m306.2.1 85 = .ok (.istore_n 2, 1) := by decide +kernel
theorem d_306_86 : decode m306.2.1 86 = .ok (.iinc 3 1, 3) := by decide +kernel
theorem d_306_89 : decode m306.2.1 89 = .ok (.goto (-72), 3) := by decide +kernel
theorem d_306_92 : decode m306.2.1 92 = .ok (.iload_n 2, 1) := by decide +kernel
theorem d_306_93 : decode m306.2.1 93 = .ok (.ireturn, 1) := by decide +kernel
theorem d_307_0 : decode m307.2.1 0 = .ok (.iload_n 1, 1) := by decide +kernel
theorem d_307_1 : decode m307.2.1 1 = .ok (.invokestatic 476, 3) := by decide +kernel
theorem d_307_4 : decode m307.2.1 4 = .ok (.ifCond .ne 5, 3) := by decide +kernel
theorem d_307_7 : decode m307.2.1 7 = .ok (.iconst (-1), 1) := by decide +kernel
theorem d_307_8 : decode m307.2.1 8 = .ok (.ireturn, 1) := by decide +kernel
theorem d_307_9 : decode m307.2.1 9 = .ok (.aload_n 0, 1) := by decide +kernel
theorem d_307_10 : decode m307.2.1 10 = .ok (.invokevirtual 464, 3) := by decide +kernel
theorem d_307_13 : decode m307.2.1 13 = .ok (.iconst 0, 1) := by decide +kernel
theorem d_307_14 : decode m307.2.1 14 = .ok (.istore_n 2, 1) := by decide +kernel
theorem d_307_15 : decode m307.2.1 15 = .ok (.iconst 1, 1) := by decide +kernel
theorem d_307_16 : decode m307.2.1 16 = .ok (.istore_n 3, 1) := by decide +kernel
theorem d_307_17 : decode m307.2.1 17 = .ok (.iload_n 3, 1) := by decide +kernel
theorem d_307_18 : decode m307.2.1 18 = .ok (.aload_n 0, 1) := by decide +kernel
theorem d_307_19 : decode m307.2.1 19 = .ok (.getfield 78, 3) := by decide +kernel
theorem d_307_22 : decode m307.2.1 22 = .ok (.if_icmp .ge 48, 3) := by decide +kernel
theorem d_307_25 : decode m307.2.1 25 = .ok (.aload_n 0, 1) := by decide +kernel
theorem d_307_26 : decode m307.2.1 26 = .ok (.iload_n 1, 1) := by decide +kernel
theorem d_307_27 : decode m307.2.1 27 = .ok (.invokevirtual 454, 3) := by decide +kernel
theorem d_307_30 : decode m307.2.1 30 = .ok (.aload_n 0, 1) := by decide +kernel
theorem d_307_31 : decode m307.2.1 31 = .ok (.getfield 99, 3) := by decide +kernel
theorem d_307_34 : decode m307.2.1 34 = .ok (.iload_n 3, 1) := by decide +kernel
theorem d_307_35 : decode m307.2.1 35 = .ok (.iaload, 1) := by decide +kernel
theorem d_307_36 : decode m307.2.1 36 = .ok (.iand, 1) := by decide +kernel
theorem d_307_37 : decode m307.2.1 37 = .ok (.invokestatic 331, 3) := by decide +kernel
theorem d_307_40 : decode m307.2.1 40 = .ok (.aload_n 0, 1) := by decide +kernel
theorem d_307_41 : decode m307.2.1 41 = .ok (.iload_n 1, 1) := by decide +kernel
theorem d_307_42 : decode m307.2.1 42 = .ok (.invokevirtual 454, 3) := by decide +kernel
theorem d_307_45 : decode m307.2.1 45 = .ok (.aload_n 0, 1) := by decide +kernel
theorem d_307_46 : decode m307.2.1 46 = .ok (.getfield 99, 3) := by decide +kernel
theorem d_307_49 : decode m307.2.1 49 = .ok (.iload_n 2, 1) := by decide +kernel
theorem d_307_50 : decode m307.2.1 50 = .ok (.iaload, 1) := by decide +kernel
theorem d_307_51 : decode m307.2.1 51 = .ok (.iand, 1) := by decide +kernel
theorem d_307_52 : decode m307.2.1 52 = .ok (.invokestatic 331, 3) := by decide +kernel
theorem d_307_55 : decode m307.2.1 55 = .ok (.if_icmp .le 7, 3) := by decide +kernel
theorem d_307_58 : decode m307.2.1 58 = .ok (.iload_n 3, 1) := by decide +kernel
theorem d_307_59 : decode m307.2.1 59 = .ok (.goto 4, 3) := by decide +kernel
theorem d_307_62 : decode m307.2.1 62 = .ok (.iload_n 2, 1) := by decide +kernel
theorem d_307_63 : decode m307.2.1 63 = .ok (.istore_n 2, 1) := by decide +kernel
theorem d_307_64 : decode m307.2.1 64 = .ok (.iinc 3 1, 3) := by decide +kernel
theorem d_307_67 : decode m307.2.1 67 = .ok (.goto (-50), 3) := by decide +kernel
theorem d_307_70 : decode m307.2.1 70 = .ok (.iload_n 2, 1) := by decide +kernel
theorem d_307_71 : decode m307.2.1 71 = .ok (.ireturn, 1) := by decide +kernel
theorem d_308_0 : decode m308.2.1 0 = .ok (.aload_n 0, 1) := by decide +kernel
theorem d_308_1 : decode m308.2.1 1 = .ok (.invokevirtual 464, 3) := by decide +kernel
theorem d_308_4 : decode m308.2.1 4 = .ok (.aload_n 0, 1) := by decide +kernel
theorem d_308_5 : decode m308.2.1 5 = .ok (.invokevirtual 479, 3) := by decide +kernel
theorem d_308_8 : decode m308.2.1 8 = .ok (.iconst 0, 1) := by decide +kernel
theorem d_308_9 : decode m308.2.1 9 = .ok (.istore_n 1, 1) := by decide +kernel
theorem d_308_10 : decode m308.2.1 10 = .ok (.iconst 0, 1) := by decide +kernel
theorem d_308_11 : decode m308.2.1 11 = .ok (.istore_n 2, 1) := by decide +kernel
theorem d_308_12 : decode m308.2.1 12 = .ok (.iload_n 2, 1) := by decide +kernel
theorem d_308_13 : decode m308.2.1 13 = .ok (.aload_n 0, 1) := by decide +kernel
theorem d_308_14 : decode m308.2.1 14 = .ok (.getfield 78, 3) := by decide +kernel
theorem d_308_17 : decode m308.2.1 17 = .ok (.if_icmp .ge 54, 3) := by decide +kernel
theorem d_308_20 : decode m308.2.1 20 = .ok (.iconst 0, 1) := by decide +kernel
theorem d_308_21 : decode m308.2.1 21 = .ok (.istore_n 3, 1) := by decide +kernel
theorem d_308_22 : decode m308.2.1 22 = .ok (.iload_n 3, 1) := by decide +kernel
theorem d_308_23 : decode m308.2.1 23 = .ok (.aload_n 0, 1) := by decide +kernel
theorem d_308_24 : decode m308.2.1 24 = .ok (.getfield 322, 3) := by decide +kernel
theorem d_308_27 : decode m308.2.1 27 = .ok (.if_icmp .ge 38, 3) := by decide +kernel
theorem d_308_30 : decode m308.2.1 30 = .ok (.iconst 0, 1) := by decide +kernel
theorem d_308_31 : decode m308.2.1 31 = .ok (.istore 4, 2) := by decide +kernel
theorem d_308_33 : decode m308.2.1 33 = .ok (.iload 4, 2) := by decide +kernel
theorem d_308_35 : decode m308.2.1 35 = .ok (.iload_n 3, 1) := by decide +kernel
theorem d_308_36 : decode m308.2.1 36 = .ok (.if_icmp .ge 23, 3) := by decide +kernel
theorem d_308_39 : decode m308.2.1 39 = .ok (.iload_n 1, 1) := by decide +kernel
theorem d_308_40 : decode m308.2.1 40 = .ok (.aload_n 0, 1) := by decide +kernel
theorem d_308_41 : decode m308.2.1 41 = .ok (.iload_n 2, 1) := by decide +kernel
theorem d_308_42 : decode m308.2.1 42 = .ok (.iload_n 3, 1) := by decide +kernel
theorem d_308_43 : decode m308.2.1 43 = .ok (.iload 4, 2) := by decide +kernel
theorem d_308_45 : decode m308.2.1 45 = .ok (.invokevirtual 530, 3) := by decide +kernel
theorem d_308_48 : decode m308.2.1 48 = .ok (.invokestatic 318, 3) := by decide +kernel
theorem d_308_51 : decode m308.2.1 51 = .ok (.iadd, 1) := by decide +kernel
theorem d_308_52 : decode m308.2.1 52 = .ok (.istore_n 1, 1) := by decide +kernel
theorem d_308_53 : decode m308.2.1 53 = .ok (.iinc 4 1, 3) := by decide +kernel
theorem d_308_56 : decode m308.2.1 56 = .ok (.goto (-23), 3) := by decide +kernel
theorem d_308_59 : decode m308.2.1 59 = .ok (.iinc 3 1, 3) := by decide +kernel
theorem d_308_62 : decode m308.2.1 62 = .ok (.goto (-40), 3) := by decide +kernel
theorem d_308_65 : decode m308.2.1 65 = .ok (.iinc 2 1, 3) := by decide +kernel
theorem d_308_68 : decode m308.2.1 68 = .ok (.goto (-56), 3) := by decide +kernel
theorem d_308_71 : decode m308.2.1 71 = .ok (.iload_n 1, 1) := by decide +kernel
theorem d_308_72 : decode m308.2.1 72 = .ok (.ireturn, 1) := by decide +kernel
theorem d_309_0 : decode m309.2.1 0 = .ok (.aload_n 0, 1) := by decide +kernel
theorem d_309_1 : decode m309.2.1 1 = .ok (.getfield 102, 3) := by decide +kernel
theorem d_309_4 : decode m309.2.1 4 = .ok (.iload_n 1, 1) := by decide +kernel
theorem d_309_5 : decode m309.2.1 5 = .ok (.iaload, 1) := by decide +kernel
theorem d_309_6 : decode m309.2.1 6 = .ok (.iload_n 2, 1) := by decide +kernel
theorem d_309_7 : decode m309.2.1 7 = .ok (.ishr, 1) := by decide +kernel
theorem d_309_8 : decode m309.2.1 8 = .ok (.iconst 1, 1) := by decide +kernel
theorem d_309_9 : decode m309.2.1 9 = .ok (.iand, 1) := by decide +kernel
theorem d_309_10 : decode m309.2.1 10 = .ok (.ifCond .eq 16, 3) := by decide +kernel
theorem d_309_13 : decode m309.2.1 13 = .ok (.aload_n 0, 1) := by decide +kernel
theorem d_309_14 : decode m309.2.1 14 = .ok (.getfield 102, 3) := by decide +kernel
theorem d_309_17 : decode m309.2.1 17 = .ok (.iload_n 1, 1) := by decide +kernel
theorem d_309_18 : decode m309.2.1 18 = .ok (.iaload, 1) := by decide +kernel
theorem d_309_19 : decode m309.2.1 19 = .ok (.iload_n 3, 1) := by decide +kernel
theorem d_309_20 : decode m309.2.1 20 = .ok (.ishr, 1) := by decide +kernel
theorem d_309_21 : decode m309.2.1 21 = .ok (.iconst 1, 1) := by decide +kernel
theorem d_309_22 : decode m309.2.1 22 = .ok (.iand, 1) := by decide +kernel
theorem d_309_23 : decode m309.2.1 23 = .ok (.ifCond .ne 5, 3) := by decide +kernel
theorem d_309_26 : decode m309.2.1 26 = .ok (.iconst 0, 1) := by decide +kernel
theorem d_309_27 : decode m309.2.1 27 = .ok (.ireturn, 1) := by decide +kernel
theorem d_309_28 : decode m309.2.1 28 = .ok (.aload_n 0, 1) := by decide +kernel
theorem d_309_29 : decode m309.2.1 29 = .ok (.getfield 96, 3) := by decide +kernel
theorem d_309_32 : decode m309.2.1 32 = .ok (.bipush 10, 2) := by decide +kernel
theorem d_309_34 : decode m309.2.1 34 = .ok (.iload_n 2, 1) := by decide +kernel
theorem d_309_35 : decode m309.2.1 35 = .ok (.iadd, 1) := by decide +kernel
theorem d_309_36 : decode m309.2.1 36 = .ok (.iaload, 1) := by decide +kernel
theorem d_309_37 : decode m309.2.1 37 = .ok (.aload_n 0, 1) := by decide +kernel
theorem d_309_38 : decode m309.2.1 38 = .ok (.getfield 96, 3) := by decide +kernel
theorem d_309_41 : decode m309.2.1 41 = .ok (.bipush 10, 2) := by decide +kernel
theorem d_309_43 : decode m309.2.1 43 = .ok (.iload_n 3, 1) := by decide +kernel
theorem d_309_44 : decode m309.2.1 44 = .ok (.iadd, 1) := by decide +kernel
theorem d_309_45 : decode m309.2.1 45 = .ok (.iaload, 1) := by decide +kernel
theorem d_309_46 : decode m309.2.1 46 = .ok (.isub, 1) := by decide +kernel
theorem d_309_47 : decode m309.2.1 47 = .ok (.invokestatic 325, 3) := by decide +kernel
theorem d_309_50 : decode m309.2.1 50 = .ok (.istore 4, 2) := by decide +kernel
theorem d_309_52 : decode m309.2.1 52 = .ok (.iload 4, 2) := by decide +kernel
theorem d_309_54 : decode m309.2.1 54 = .ok (.iconst 1, 1) := by decide +kernel
theorem d_309_55 : decode m309.2.1 55 = .ok (.if_icmp .eq 9, 3) := by decide +kernel
theorem d_309_58 : decode m309.2.1 58 = .ok (.iload 4, 2) := by decide +kernel
theorem d_309_60 : decode m309.2.1 60 = .ok (.iconst 2, 1) := by decide +kernel
theorem d_309_61 : decode m309.2.1 61 = .ok (.if_icmp .ne 35, 3) := by decide +kernel
theorem d_309_64 : decode m309.2.1 64 = .ok (.aload_n 0, 1) := by decide +kernel
theorem d_309_65 : decode m309.2.1 65 = .ok (.getfield 99, 3) := by decide +kernel
theorem d_309_68 : decode m309.2.1 68 = .ok (.iload_n 1, 1) := by decide +kernel
theorem d_309_69 : decode m309.2.1 69 = .ok (.iaload, 1) := by decide +kernel
theorem d_309_70 : decode m309.2.1 70 = .ok (.iload_n 2, 1) := by decide +kernel
theorem d_309_71 : decode m309.2.1 71 = .ok (.ishr, 1) := by decide +kernel
theorem d_309_72 : decode m309.2.1 72 = .ok (.iconst 1, 1) := by decide +kernel
theorem d_309_73 : decode m309.2.1 73 = .ok (.iand, 1) := by decide +kernel
theorem d_309_74 : decode m309.2.1 74 = .ok (.iconst 1, 1) := by decide +kernel
theorem d_309_75 : decode m309.2.1 75 = .ok (.if_icmp .ne 17, 3) := by decide +kernel
theorem d_309_78 : decode m309.2.1 78 = .ok (.aload_n 0, 1) := by decide +kernel
theorem d_309_79 : decode m309.2.1 79 = .ok (.getfield 99, 3) := by decide +kernel
theorem d_309_82 : decode m309.2.1 82 = .ok (.iload_n 1, 1) := by decide +kernel
theorem d_309_83 : decode m309.2.1 83 = .ok (.iaload, 1) := by decide +kernel
theorem d_309_84 : decode m309.2.1 84 = .ok (.iload_n 3, 1) := by decide +kernel
theorem d_309_85 : decode m309.2.1 85 = .ok (.ishr, 1) := by decide +kernel
theorem d_309_86 : decode m309.2.1 86 = .ok (.iconst 1, 1) := by decide +kernel
theorem d_309_87 : decode m309.2.1 87 = .ok (.iand, 1) := by decide +kernel
theorem d_309_88 : decode m309.2.1 88 = .ok (.iconst 1, 1) := by decide +kernel
theorem d_309_89 : decode m309.2.1 89 = .ok (.if_icmp .eq 7, 3) := by decide +kernel
theorem d_309_92 : decode m309.2.1 92 = .ok (.iconst 1, 1) := by decide +kernel
theorem d_309_93 : decode m309.2.1 93 = .ok (.goto 4, 3) := by decide +kernel
theorem d_309_96 : decode m309.2.1 96 = .ok (.iconst 0, 1) := by decide +kernel
theorem d_309_97 : decode m309.2.1 97 = .ok (.ireturn, 1) := by decide +kernel
theorem d_310_0 : decode m310.2.1 0 = .ok (.aload_n 0, 1) := by decide +kernel
theorem d_310_1 : decode m310.2.1 1 = .ok (.iload_n 1, 1) := by decide +kernel
theorem d_310_2 : decode m310.2.1 2 = .ok (.invokevirtual 473, 3) := by decide +kernel
theorem d_310_5 : decode m310.2.1 5 = .ok (.ifCond .ne 5, 3) := by decide +kernel
theorem d_310_8 : decode m310.2.1 8 = .ok (.iconst (-1), 1) := by decide +kernel
theorem d_310_9 : decode m310.2.1 9 = .ok (.ireturn, 1) := by decide +kernel
theorem d_310_10 : decode m310.2.1 10 = .ok (.aload_n 0, 1) := by decide +kernel
theorem d_310_11 : decode m310.2.1 11 = .ok (.invokevirtual 464, 3) := by decide +kernel
theorem d_310_14 : decode m310.2.1 14 = .ok (.aload_n 0, 1) := by decide +kernel
theorem d_310_15 : decode m310.2.1 15 = .ok (.invokevirtual 479, 3) := by decide +kernel
theorem d_310_18 : decode m310.2.1 18 = .ok (.aload_n 0, 1) := by decide +kernel
theorem d_310_19 : decode m310.2.1 19 = .ok (.iload_n 1, 1) := by decide +kernel
theorem d_310_20 : decode m310.2.1 20 = .ok (.invokevirtual 533, 3) := by decide +kernel
theorem d_310_23 : decode m310.2.1 23 = .ok (.ireturn, 1) := by decide +kernel
theorem d_311_0 : decode m311.2.1 0 = .ok (.iconst 0, 1) := by decide +kernel
theorem d_311_1 : decode m311.2.1 1 = .ok (.istore_n 2, 1) := by decide +kernel
theorem d_311_2 : decode m311.2.1 2 = .ok (.iconst 0, 1) := by decide +kernel
theorem d_311_3 : decode m311.2.1 3 = .ok (.istore_n 3, 1) := by decide +kernel
theorem d_311_4 : decode m311.2.1 4 = .ok (.iload_n 3, 1) := by decide +kernel
theorem d_311_5 : decode m311.2.1 5 = .ok (.aload_n 0, 1) := by decide +kernel
theorem d_311_6 : decode m311.2.1 6 = .ok (.getfield 322, 3) := by decide +kernel
theorem d_311_9 : decode m311.2.1 9 = .ok (.if_icmp .ge 111, 3) := by decide +kernel
theorem d_311_12 : decode m311.2.1 12 = .ok (.aload_n 0, 1) := by decide +kernel
theorem d_311_13 : decode m311.2.1 13 = .ok (.getfield 102, 3) := by decide +kernel
theorem d_311_16 : decode m311.2.1 16 = .ok (.iload_n 1, 1) := by decide +kernel
theorem d_311_17 : decode m311.2.1 17 = .ok (.iaload, 1) := by decide +kernel
theorem d_311_18 : decode m311.2.1 18 = .ok (.iload_n 3, 1) := by decide +kernel
theorem d_311_19 : decode m311.2.1 19 = .ok (.ishr, 1) := by decide +kernel
theorem d_311_20 : decode m311.2.1 20 = .ok (.iconst 1, 1) := by decide +kernel
theorem d_311_21 : decode m311.2.1 21 = .ok (.iand, 1) := by decide +kernel
theorem d_311_22 : decode m311.2.1 22 = .ok (.iconst 1, 1) := by decide +kernel
theorem d_311_23 : decode m311.2.1 23 = .ok (.if_icmp .ne 7, 3) := by decide +kernel
theorem d_311_26 : decode m311.2.1 26 = .ok (.iconst 1, 1) := by decide +kernel
theorem d_311_27 : decode m311.2.1 27 = .ok (.goto 4, 3) := by decide +kernel
theorem d_311_30 : decode m311.2.1 30 = .ok (.iconst 0, 1) := by decide +kernel
theorem d_311_31 : decode m311.2.1 31 = .ok (.istore 4, 2) := by decide +kernel
theorem d_311_33 : decode m311.2.1 33 = .ok (.iconst 0, 1) := by decide +kernel
theorem d_311_34 : decode m311.2.1 34 = .ok (.istore 5, 2) := by decide +kernel
theorem d_311_36 : decode m311.2.1 36 = .ok (.iload 5, 2) := by decide +kernel
theorem d_311_38 : decode m311.2.1 38 = .ok (.aload_n 0, 1) := by decide +kernel
theorem d_311_39 : decode m311.2.1 39 = .ok (.getfield 322, 3) := by decide +kernel
theorem d_311_42 : decode m311.2.1 42 = .ok (.if_icmp .ge 62, 3) := by decide +kernel
theorem d_311_45 : decode m311.2.1 45 = .ok (.iload 4, 2) := by decide +kernel
theorem d_311_47 : decode m311.2.1 47 = .ok (.ifCond .eq 57, 3) := by decide +kernel
theorem d_311_50 : decode m311.2.1 50 = .ok (.aload_n 0, 1) := by decide +kernel
theorem d_311_51 : decode m311.2.1 51 = .ok (.getfield 102, 3) := by decide +kernel
theorem d_311_54 : decode m311.2.1 54 = .ok (.iload_n 1, 1) := by decide +kernel
theorem d_311_55 : decode m311.2.1 55 = .ok (.iaload, 1) := by decide +kernel
theorem d_311_56 : decode m311.2.1 56 = .ok (.iload 5, 2) := by decide +kernel
theorem d_311_58 : decode m311.2.1 58 = .ok (.ishr, 1) := by decide +kernel
theorem d_311_59 : decode m311.2.1 59 = .ok (.iconst 1, 1) := by decide +kernel
theorem d_311_60 : decode m311.2.1 60 = .ok (.iand, 1) := by decide +kernel
theorem d_311_61 : decode m311.2.1 61 = .ok (.ifCond .eq 30, 3) := by decide +kernel
theorem d_311_64 : decode m311.2.1 64 = .ok (.aload_n 0, 1) := by decide +kernel
theorem d_311_65 : decode m311.2.1 65 = .ok (.getfield 96, 3) := by decide +kernel
theorem d_311_68 : decode m311.2.1 68 = .ok (.bipush 30, 2) := by decide +kernel
theorem d_311_70 : decode m311.2.1 70 = .ok (.iload 5, 2) := by decide +kernel
theorem d_311_72 : decode m311.2.1 72 = .ok (.iadd, 1) := by decide +kernel
theorem d_311_73 : decode m311.2.1 73 = .ok (.iaload, 1) := by decide +kernel
theorem d_311_74 : decode m311.2.1 74 = .ok (.aload_n 0, 1) := by decide +kernel
theorem d_311_75 : decode m311.2.1 75 = .ok (.getfield 96, 3) := by decide +kernel
theorem d_311_78 : decode m311.2.1 78 = .ok (.bipush 30, 2) := by decide +kernel
theorem d_311_80 : decode m311.2.1 80 = .ok (.iload_n 3, 1) := by decide +kernel
theorem d_311_81 : decode m311.2.1 81 = .ok (.iadd, 1) := by decide +kernel
theorem d_311_82 : decode m311.2.1 82 = .ok (.iaload, 1) := by decide +kernel
theorem d_311_83 : decode m311.2.1 83 = .ok (.isub, 1) := by decide +kernel
theorem d_311_84 : decode m311.2.1 84 = .ok (.aload_n 0, 1) := by decide +kernel
theorem d_311_85 : decode m311.2.1 85 = .ok (.getfield 90, 3) := by decide +kernel
theorem d_311_88 : decode m311.2.1 88 = .ok (.if_icmp .gt 7, 3) := by decide +kernel
theorem d_311_91 : decode m311.2.1 91 = .ok (.iconst 1, 1) := by decide +kernel
theorem d_311_92 : decode m311.2.1 92 = .ok (.goto 4, 3) := by decide +kernel
theorem d_311_95 : decode m311.2.1 95 = .ok (.iconst 0, 1) := by decide +kernel
theorem d_311_96 : decode m311.2.1 96 = .ok (.istore 4, 2) := by decide +kernel
theorem d_311_98 : decode m311.2.1 98 = .ok (.iinc 5 1, 3) := by decide +kernel
theorem d_311_101 : decode m311.2.1 101 = .ok (.goto (-65), 3) := by decide +kernel
theorem d_311_104 : decode m311.2.1 104 = .ok (.iload_n 2, 1) := by decide +kernel
theorem d_311_105 : decode m311.2.1 105 = .ok (.iload 4, 2) := by decide +kernel
theorem d_311_107 : decode m311.2.1 107 = .ok (.invokestatic 318, 3) := by decide +kernel
theorem d_311_110 : decode m311.2.1 110 = .ok (.iload_n 3, 1) := by decide +kernel
theorem d_311_111 : decode m311.2.1 111 = .ok (.ishl, 1) := by decide +kernel
theorem d_311_112 : decode m311.2.1 112 = .ok (.ior, 1) := by decide +kernel
theorem d_311_113 : decode m311.2.1 113 = .ok (.istore_n 2, 1) := by decide +kernel
theorem d_311_114 : decode m311.2.1 114 = .ok (.iinc 3 1, 3) := by decide +kernel
theorem d_311_117 : decode m311.2.1 117 = .ok (.goto (-113), 3) := by decide +kernel
theorem d_311_120 : decode m311.2.1 120 = .ok (.iload_n 2, 1) := by decide +kernel
theorem d_311_121 : decode m311.2.1 121 = .ok (.ireturn, 1) := by decide +kernel
theorem d_312_0 : decode m312.2.1 0 = .ok (.aload_n 0, 1) := by decide +kernel
theorem d_312_1 : decode m312.2.1 1 = .ok (.invokevirtual 464, 3) := by decide +kernel
theorem d_312_4 : decode m312.2.1 4 = .ok (.aload_n 0, 1) := by decide +kernel
theorem d_312_5 : decode m312.2.1 5 = .ok (.invokevirtual 479, 3) := by decide +kernel
theorem d_312_8 : decode m312.2.1 8 = .ok (.iconst 0, 1) := by decide +kernel
theorem d_312_9 : decode m312.2.1 9 = .ok (.istore_n 1, 1) := by decide +kernel
theorem d_312_10 : decode m312.2.1 10 = .ok (.iconst 0, 1) := by decide +kernel
theorem d_312_11 : decode m312.2.1 11 = .ok (.istore_n 2, 1) := by decide +kernel
theorem d_312_12 : decode m312.2.1 12 = .ok (.iload_n 2, 1) := by decide +kernel
theorem d_312_13 : decode m312.2.1 13 = .ok (.aload_n 0, 1) := by decide +kernel
theorem d_312_14 : decode m312.2.1 14 = .ok (.getfield 322, 3) := by decide +kernel
theorem d_312_17 : decode m312.2.1 17 = .ok (.if_icmp .ge 54, 3) := by decide +kernel
theorem d_312_20 : decode m312.2.1 20 = .ok (.iload_n 1, 1) := by decide +kernel
theorem d_312_21 : decode m312.2.1 21 = .ok (.aload_n 0, 1) := by decide +kernel
theorem d_312_22 : decode m312.2.1 22 = .ok (.invokevirtual 536, 3) := by decide +kernel
theorem d_312_25 : decode m312.2.1 25 = .ok (.aload_n 0, 1) := by decide +kernel
theorem d_312_26 : decode m312.2.1 26 = .ok (.iconst 0, 1) := by decide +kernel
theorem d_312_27 : decode m312.2.1 27 = .ok (.invokevirtual 454, 3) := by decide +kernel
theorem d_312_30 : decode m312.2.1 30 = .ok (.iconst (-1), 1) := by decide +kernel
theorem d_312_31 : decode m312.2.1 31 = .ok (.ixor, 1) := by decide +kernel
theorem d_312_32 : decode m312.2.1 32 = .ok (.iand, 1) := by decide +kernel
theorem d_312_33 : decode m312.2.1 33 = .ok (.aload_n 0, 1) := by decide +kernel
theorem d_312_34 : decode m312.2.1 34 = .ok (.aload_n 0, 1) := by decide +kernel
theorem d_312_35 : decode m312.2.1 35 = .ok (.getfield 66, 3) := by decide +kernel
theorem d_312_38 : decode m312.2.1 38 = .ok (.iload_n 2, 1) := by decide +kernel
theorem d_312_39 : decode m312.2.1 39 = .ok (.iaload, 1) := by decide +kernel
theorem d_312_40 : decode m312.2.1 40 = .ok (.invokevirtual 533, 3) := by decide +kernel
theorem d_312_43 : decode m312.2.1 43 = .ok (.iconst (-1), 1) := by decide +kernel
theorem d_312_44 : decode m312.2.1 44 = .ok (.ixor, 1) := by decide +kernel
theorem d_312_45 : decode m312.2.1 45 = .ok (.iand, 1) := by decide +kernel
theorem d_312_46 : decode m312.2.1 46 = .ok (.iconst 1, 1) := by decide +kernel
theorem d_312_47 : decode m312.2.1 47 = .ok (.iload_n 2, 1) := by decide +kernel
theorem d_312_48 : decode m312.2.1 48 = .ok (.ishl, 1) := by decide +kernel
theorem d_312_49 : decode m312.2.1 49 = .ok (.iand, 1) := by decide +kernel
theorem d_312_50 : decode m312.2.1 50 = .ok (.ifCond .eq 7, 3) := by decide +kernel
theorem d_312_53 : decode m312.2.1 53 = .ok (.iconst 1, 1) := by decide +kernel
theorem d_312_54 : decode m312.2.1 54 = .ok (.goto 4, 3) := by decide +kernel
theorem d_312_57 : decode m312.2.1 57 = .ok (.iconst 0, 1) := by decide +kernel
theorem d_312_58 : decode m312.2.1 58 = .ok (.invokestatic 318, 3) := by decide +kernel
theorem d_312_61 : decode m312.2.1 61 = .ok (.iload_n 2, 1) := by decide +kernel
theorem d_312_62 : decode m312.2.1 62 = .ok (.ishl, 1) := by decide +kernel
theorem d_312_63 : decode m312.2.1 63 = .ok (.ior, 1) := by decide +kernel
theorem d_312_64 : decode m312.2.1 64 = .ok (.istore_n 1, 1) := by decide +kernel
theorem d_312_65 : decode m312.2.1 65 = .ok (.iinc 2 1, 3) := by decide +kernel
theorem d_312_68 : decode m312.2.1 68 = .ok (.goto (-56), 3) := by decide +kernel
theorem d_312_71 : decode m312.2.1 71 = .ok (.iload_n 1, 1) := by decide +kernel
theorem d_312_72 : decode m312.2.1 72 = .ok (.ireturn, 1) := by decide +kernel
theorem d_313_0 : decode m313.2.1 0 = .ok (.iconst 0, 1) := by decide +kernel
theorem d_313_1 : decode m313.2.1 1 = .ok (.istore_n 1, 1) := by decide +kernel
theorem d_313_2 : decode m313.2.1 2 = .ok (.iconst 0, 1) := by decide +kernel
theorem d_313_3 : decode m313.2.1 3 = .ok (.istore_n 2, 1) := by decide +kernel
theorem d_313_4 : decode m313.2.1 4 = .ok (.iload_n 2, 1) := by decide +kernel
theorem d_313_5 : decode m313.2.1 5 = .ok (.aload_n 0, 1) := by decide +kernel
theorem d_313_6 : decode m313.2.1 6 = .ok (.getfield 322, 3) := by decide +kernel
theorem d_313_9 : decode m313.2.1 9 = .ok (.if_icmp .ge 37, 3) := by decide +kernel
theorem d_313_12 : decode m313.2.1 12 = .ok (.iload_n 1, 1) := by decide +kernel
theorem d_313_13 : decode m313.2.1 13 = .ok (.aload_n 0, 1) := by decide +kernel
theorem d_313_14 : decode m313.2.1 14 = .ok (.getfield 60, 3) := by decide +kernel
theorem d_313_17 : decode m313.2.1 17 = .ok (.aload_n 0, 1) := by decide +kernel
theorem d_313_18 : decode m313.2.1 18 = .ok (.getfield 63, 3) := by decide +kernel
theorem d_313_21 : decode m313.2.1 21 = .ok (.iload_n 2, 1) := by decide +kernel
theorem d_313_22 : decode m313.2.1 22 = .ok (.iaload, 1) := by decide +kernel
theorem d_313_23 : decode m313.2.1 23 = .ok (.iaload, 1) := by decide +kernel
theorem d_313_24 : decode m313.2.1 24 = .ok (.iconst 2, 1) := by decide +kernel
theorem d_313_25 : decode m313.2.1 25 = .ok (.if_icmp .ne 7, 3) := by decide +kernel
theorem d_313_28 : decode m313.2.1 28 = .ok (.iconst 1, 1) := by decide +kernel
theorem d_313_29 : decode m313.2.1 29 = .ok (.goto 4, 3) := by decide +kernel
theorem d_313_32 : decode m313.2.1 32 = .ok (.iconst 0, 1) := by decide +kernel
theorem d_313_33 : decode m313.2.1 33 = .ok (.invokestatic 318, 3) := by decide +kernel
theorem d_313_36 : decode m313.2.1 36 = .ok (.iload_n 2, 1) := by decide +kernel
theorem d_313_37 : decode m313.2.1 37 = .ok (.ishl, 1) := by decide +kernel
theorem d_313_38 : decode m313.2.1 38 = .ok (.ior, 1) := by decide +kernel
theorem d_313_39 : decode m313.2.1 39 = .ok (.istore_n 1, 1) := by decide +kernel
theorem d_313_40 : decode m313.2.1 40 = .ok (.iinc 2 1, 3) := by decide +kernel
theorem d_313_43 : decode m313.2.1 43 = .ok (.goto (-39), 3) := by decide +kernel
theorem d_313_46 : decode m313.2.1 46 = .ok (.iload_n 1, 1) := by decide +kernel
theorem d_313_47 : decode m313.2.1 47 = .ok (.ireturn, 1) := by decide +kernel
theorem d_314_0 : decode m314.2.1 0 = .ok (.aload_n 0, 1) := by decide +kernel
theorem d_314_1 : decode m314.2.1 1 = .ok (.invokevirtual 464, 3) := by decide +kernel
theorem d_314_4 : decode m314.2.1 4 = .ok (.aload_n 0, 1) := by decide +kernel
theorem d_314_5 : decode m314.2.1 5 = .ok (.invokevirtual 479, 3) := by decide +kernel
theorem d_314_8 : decode m314.2.1 8 = .ok (.iconst 0, 1) := by decide +kernel
theorem d_314_9 : decode m314.2.1 9 = .ok (.istore_n 1, 1) := by decide +kernel
theorem d_314_10 : decode m314.2.1 10 = .ok (.iconst 0, 1) := by decide +kernel
theorem d_314_11 : decode m314.2.1 11 = .ok (.istore_n 2, 1) := by decide +kernel
theorem d_314_12 : decode m314.2.1 12 = .ok (.iload_n 2, 1) := by decide +kernel
theorem d_314_13 : decode m314.2.1 13 = .ok (.aload_n 0, 1) := by decide +kernel
theorem d_314_14 : decode m314.2.1 14 = .ok (.getfield 78, 3) := by decide +kernel
theorem d_314_17 : decode m314.2.1 17 = .ok (.if_icmp .ge 36, 3) := by decide +kernel
theorem d_314_20 : decode m314.2.1 20 = .ok (.iload_n 1, 1) := by decide +kernel
theorem d_314_21 : decode m314.2.1 21 = .ok (.aload_n 0, 1) := by decide +kernel
theorem d_314_22 : decode m314.2.1 22 = .ok (.getfield 102, 3) := by decide +kernel
theorem d_314_25 : decode m314.2.1 25 = .ok (.iload_n 2, 1) := by decide +kernel
theorem d_314_26 : decode m314.2.1 26 = .ok (.iaload, 1) := by decide +kernel
theorem d_314_27 : decode m314.2.1 27 = .ok (.aload_n 0, 1) := by decide +kernel
theorem d_314_28 : decode m314.2.1 28 = .ok (.invokevirtual 536, 3) := by decide +kernel
theorem d_314_31 : decode m314.2.1 31 = .ok (.iand, 1) := by decide +kernel
theorem d_314_32 : decode m314.2.1 32 = .ok (.ifCond .ne 7, 3) := by decide +kernel
theorem d_314_35 : decode m314.2.1 35 = .ok (.iconst 1, 1) := by decide +kernel
theorem d_314_36 : decode m314.2.1 36 = .ok (.goto 4, 3) := by decide +kernel
theorem d_314_39 : decode m314.2.1 39 = .ok (.iconst 0, 1) := by decide +kernel
theorem d_314_40 : decode m314.2.1 40 = .ok (.invokestatic 318, 3) := by decide +kernel
theorem d_314_43 : decode m314.2.1 43 = .ok (.iload_n 2, 1) := by decide +kernel
theorem d_314_44 : decode m314.2.1 44 = .ok (.ishl, 1) := by decide +kernel
theorem d_314_45 : decode m314.2.1 45 = .ok (.ior, 1) := by decide +kernel
theorem d_314_46 : decode m314.2.1 46 = .ok (.istore_n 1, 1) := by decide +kernel
theorem d_314_47 : decode m314.2.1 47 = .ok (.iinc 2 1, 3) := by decide +kernel
theorem d_314_50 : decode m314.2.1 50 = .ok (.goto (-38), 3) := by decide +kernel
theorem d_314_53 : decode m314.2.1 53 = .ok (.iload_n 1, 1) := by decide +kernel
theorem d_314_54 : decode m314.2.1 54 = .ok (.ireturn, 1) := by decide +kernel
theorem d_315_0 : decode m315.2.1 0 = .ok (.aload_n 0, 1) := by decide +kernel
theorem d_315_1 : decode m315.2.1 1 = .ok (.iload_n 1, 1) := by decide +kernel
theorem d_315_2 : decode m315.2.1 2 = .ok (.invokevirtual 461, 3) := by decide +kernel
theorem d_315_5 : decode m315.2.1 5 = .ok (.ifCond .eq 12, 3) := by decide +kernel
theorem d_315_8 : decode m315.2.1 8 = .ok (.aload_n 0, 1) := by decide +kernel
theorem d_315_9 : decode m315.2.1 9 = .ok (.getfield 93, 3) := by decide +kernel
theorem d_315_12 : decode m315.2.1 12 = .ok (.iload_n 1, 1) := by decide +kernel
theorem d_315_13 : decode m315.2.1 13 = .ok (.iaload, 1) := by decide +kernel
theorem d_315_14 : decode m315.2.1 14 = .ok (.ifCond .ne 5, 3) := by decide +kernel
theorem d_315_17 : decode m315.2.1 17 = .ok (.iconst (-1), 1) := by decide +kernel
theorem d_315_18 : decode m315.2.1 18 = .ok (.ireturn, 1) := by decide +kernel
theorem d_315_19 : decode m315.2.1 19 = .ok (.aload_n 0, 1) := by decide +kernel
theorem d_315_20 : decode m315.2.1 20 = .ok (.invokevirtual 488, 3) := by decide +kernel
theorem d_315_23 : decode m315.2.1 23 = .ok (.invokestatic 331, 3) := by decide +kernel
theorem d_315_26 : decode m315.2.1 26 = .ok (.istore_n 2, 1) := by decide +kernel
theorem d_315_27 : decode m315.2.1 27 = .ok (.aload_n 0, 1) := by decide +kernel
theorem d_315_28 : decode m315.2.1 28 = .ok (.getfield 96, 3) := by decide +kernel
theorem d_315_31 : decode m315.2.1 31 = .ok (.iload_n 1, 1) := by decide +kernel
theorem d_315_32 : decode m315.2.1 32 = .ok (.iconst 0, 1) := by decide +kernel
theorem d_315_33 : decode m315.2.1 33 = .ok (.iastore, 1) := by decide +kernel
theorem d_315_34 : decode m315.2.1 34 = .ok (.iload_n 2, 1) := by decide +kernel
theorem d_315_35 : decode m315.2.1 35 = .ok (.aload_n 0, 1) := by decide +kernel
theorem d_315_36 : decode m315.2.1 36 = .ok (.aload_n 0, 1) := by decide +kernel
theorem d_315_37 : decode m315.2.1 37 = .ok (.getfield 81, 3) := by decide +kernel
theorem d_315_40 : decode m315.2.1 40 = .ok (.invokevirtual 482, 3) := by decide +kernel
theorem d_315_43 : decode m315.2.1 43 = .ok (.invokestatic 331, 3) := by decide +kernel
theorem d_315_46 : decode m315.2.1 46 = .ok (.isub, 1) := by decide +kernel
theorem d_315_47 : decode m315.2.1 47 = .ok (.ireturn, 1) := by decide +kernel
theorem d_316_0 : decode m316.2.1 0 = .ok (.aload_n 0, 1) := by decide +kernel
theorem d_316_1 : decode m316.2.1 1 = .ok (.invokevirtual 464, 3) := by decide +kernel
theorem d_316_4 : decode m316.2.1 4 = .ok (.aload_n 0, 1) := by decide +kernel
theorem d_316_5 : decode m316.2.1 5 = .ok (.iconst 1, 1) := by decide +kernel
theorem d_316_6 : decode m316.2.1 6 = .ok (.invokevirtual 454, 3) := by decide +kernel
theorem d_316_9 : decode m316.2.1 9 = .ok (.aload_n 0, 1) := by decide +kernel
theorem d_316_10 : decode m316.2.1 10 = .ok (.iconst 2, 1) := by decide +kernel
theorem d_316_11 : decode m316.2.1 11 = .ok (.invokevirtual 454, 3) := by decide +kernel
theorem d_316_14 : decode m316.2.1 14 = .ok (.ior, 1) := by decide +kernel
theorem d_316_15 : decode m316.2.1 15 = .ok (.istore_n 1, 1) := by decide +kernel
theorem d_316_16 : decode m316.2.1 16 = .ok (.iconst 0, 1) := by decide +kernel
theorem d_316_17 : decode m316.2.1 17 = .ok (.istore_n 2, 1) := by decide +kernel
theorem d_316_18 : decode m316.2.1 18 = .ok (.iconst 1, 1) := by decide +kernel
theorem d_316_19 : decode m316.2.1 19 = .ok (.istore_n 3, 1) := by decide +kernel
theorem d_316_20 : decode m316.2.1 20 = .ok (.iload_n 3, 1) := by decide +kernel
theorem d_316_21 : decode m316.2.1 21 = .ok (.aload_n 0, 1) := by decide +kernel
theorem d_316_22 : decode m316.2.1 22 = .ok (.getfield 78, 3) := by decide +kernel
theorem d_316_25 : decode m316.2.1 25 = .ok (.if_icmp .ge 40, 3) := by decide +kernel
theorem d_316_28 : decode m316.2.1 28 = .ok (.aload_n 0, 1) := by decide +kernel
theorem d_316_29 : decode m316.2.1 29 = .ok (.getfield 99, 3) := by decide +kernel
theorem d_316_32 : decode m316.2.1 32 = .ok (.iload_n 3, 1) := by decide +kernel
theorem d_316_33 : decode m316.2.1 33 = .ok (.iaload, 1) := by decide +kernel
theorem d_316_34 : decode m316.2.1 34 = .ok (.iload_n 1, 1) := by decide +kernel
theorem d_316_35 : decode m316.2.1 35 = .ok (.iand, 1) := by decide +kernel
theorem d_316_36 : decode m316.2.1 36 = .ok (.invokestatic 331, 3) := by decide +kernel
theorem d_316_39 : decode m316.2.1 39 = .ok (.aload_n 0, 1) := by decide +kernel
theorem d_316_40 : decode m316.2.1 40 = .ok (.getfield 99, 3) := by decide +kernel
theorem d_316_43 : decode m316.2.1 43 = .ok (.iload_n 2, 1) := by decide +kernel
theorem d_316_44 : decode m316.2.1 44 = .ok (.iaload, 1) := by decide +kernel
theorem d_316_45 : decode m316.2.1 45 = .ok (.iload_n 1, 1) := by decide +kernel
theorem d_316_46 : decode m316.2.1 46 = .ok (.iand, 1) := by decide +kernel
theorem d_316_47 : decode m316.2.1 47 = .ok (.invokestatic 331, 3) := by decide +kernel
theorem d_316_50 : decode m316.2.1 50 = .ok (.if_icmp .le 7, 3) := by decide +kernel
theorem d_316_53 : decode m316.2.1 53 = .ok (.iload_n 3, 1) := by decide +kernel
theorem d_316_54 : decode m316.2.1 54 = .ok (.goto 4, 3) := by decide +kernel
theorem d_316_57 : decode m316.2.1 57 = .ok (.iload_n 2, 1) := by decide +kernel
theorem d_316_58 : decode m316.2.1 58 = .ok (.istore_n 2, 1) := by decide +kernel
theorem d_316_59 : decode m316.2.1 59 = .ok (.iinc 3 1, 3) := by decide +kernel
theorem d_316_62 : decode m316.2.1 62 = .ok (.goto (-42), 3) := by decide +kernel
theorem d_316_65 : decode m316.2.1 65 = .ok (.iload_n 2, 1) := by decide +kernel
theorem d_316_66 : decode m316.2.1 66 = .ok (.ireturn, 1) := by decide +kernel
theorem d_317_0 : decode m317.2.1 0 = .ok (.iload_n 1, 1) := by decide +kernel
theorem d_317_1 : decode m317.2.1 1 = .ok (.iconst 0, 1) := by decide +kernel
theorem d_317_2 : decode m317.2.1 2 = .ok (.bipush 87, 2) := by decide +kernel
theorem d_317_4 : decode m317.2.1 4 = .ok (.invokestatic 429, 3) := by decide +kernel
theorem d_317_7 : decode m317.2.1 7 = .ok (.ifCond .ne 5, 3) := by decide +kernel
theorem d_317_10 : decode m317.2.1 10 = .ok (.iconst (-1), 1) := by decide +kernel
theorem d_317_11 : decode m317.2.1 11 = .ok (.ireturn, 1) := by decide +kernel
theorem d_317_12 : decode m317.2.1 12 = .ok (.aload_n 0, 1) := by decide +kernel
theorem d_317_13 : decode m317.2.1 13 = .ok (.invokevirtual 464, 3) := by decide +kernel
theorem d_317_16 : decode m317.2.1 16 = .ok (.aload_n 0, 1) := by decide +kernel
theorem d_317_17 : decode m317.2.1 17 = .ok (.iload_n 1, 1) := by decide +kernel
theorem d_317_18 : decode m317.2.1 18 = .ok (.invokevirtual 482, 3) := by decide +kernel
theorem d_317_21 : decode m317.2.1 21 = .ok (.invokestatic 331, 3) := by decide +kernel
theorem d_317_24 : decode m317.2.1 24 = .ok (.ireturn, 1) := by decide +kernel
theorem d_318_0 : decode m318.2.1 0 = .ok (.aload_n 0, 1) := by decide +kernel
theorem d_318_1 : decode m318.2.1 1 = .ok (.invokevirtual 464, 3) := by decide +kernel
theorem d_318_4 : decode m318.2.1 4 = .ok (.aload_n 0, 1) := by decide +kernel
theorem d_318_5 : decode m318.2.1 5 = .ok (.invokevirtual 497, 3) := by decide +kernel
theorem d_318_8 : decode m318.2.1 8 = .ok (.iconst (-1), 1) := by decide +kernel
theorem d_318_9 : decode m318.2.1 9 = .ok (.istore_n 1, 1) := by decide +kernel
theorem d_318_10 : decode m318.2.1 10 = .ok (.iconst 0, 1) := by decide +kernel
theorem d_318_11 : decode m318.2.1 11 = .ok (.istore_n 2, 1) := by decide +kernel
theorem d_318_12 : decode m318.2.1 12 = .ok (.iload_n 2, 1) := by decide +kernel
theorem d_318_13 : decode m318.2.1 13 = .ok (.aload_n 0, 1) := by decide +kernel
theorem d_318_14 : decode m318.2.1 14 = .ok (.getfield 322, 3) := by decide +kernel
theorem d_318_17 : decode m318.2.1 17 = .ok (.if_icmp .ge 39, 3) := by decide +kernel
theorem d_318_20 : decode m318.2.1 20 = .ok (.aload_n 0, 1) := by decide +kernel
theorem d_318_21 : decode m318.2.1 21 = .ok (.getfield 93, 3) := by decide +kernel
theorem d_318_24 : decode m318.2.1 24 = .ok (.iload_n 2, 1) := by decide +kernel
theorem d_318_25 : decode m318.2.1 25 = .ok (.iaload, 1) := by decide +kernel
theorem d_318_26 : decode m318.2.1 26 = .ok (.ifCond .ne 24, 3) := by decide +kernel
theorem d_318_29 : decode m318.2.1 29 = .ok (.iload_n 1, 1) := by decide +kernel
theorem d_318_30 : decode m318.2.1 30 = .ok (.ifCond .lt 18, 3) := by decide +kernel
theorem d_318_33 : decode m318.2.1 33 = .ok (.aload_n 0, 1) := by decide +kernel
theorem d_318_34 : decode m318.2.1 34 = .ok (.getfield 114, 3) := by decide +kernel
theorem d_318_37 : decode m318.2.1 37 = .ok (.iload_n 2, 1) := by decide +kernel
theorem d_318_38 : decode m318.2.1 38 = .ok (.iaload, 1) := by decide +kernel
theorem d_318_39 : decode m318.2.1 39 = .ok (.aload_n 0, 1) := by decide +kernel
theorem d_318_40 : decode m318.2.1 40 = .ok (.getfield 114, 3) := by decide +kernel
theorem d_318_43 : decode m318.2.1 43 = .ok (.iload_n 1, 1) := by decide +kernel
theorem d_318_44 : decode m318.2.1 44 = .ok (.iaload, 1) := by decide +kernel
theorem d_318_45 : decode m318.2.1 45 = .ok (.if_icmp .le 5, 3) := by decide +kernel
theorem d_318_48 : decode m318.2.1 48 = .ok (.iload_n 2, 1) := by decide +kernel
theorem d_318_49 : decode m318.2.1 49 = .ok (.istore_n 1, 1) := by decide +kernel
theorem d_318_50 : decode m318.2.1 50 = .ok (.iinc 2 1, 3) := by decide +kernel
theorem d_318_53 : decode m318.2.1 53 = .ok (.goto (-41), 3) := by decide +kernel
theorem d_318_56 : decode m318.2.1 56 = .ok (.iload_n 1, 1) := by decide +kernel
theorem d_318_57 : decode m318.2.1 57 = .ok (.ireturn, 1) := by decide +kernel
theorem d_319_0 : decode m319.2.1 0 = .ok (.iload_n 1, 1) := by decide +kernel
theorem d_319_1 : decode m319.2.1 1 = .ok (.iconst 0, 1) := by decide +kernel
theorem d_319_2 : decode m319.2.1 2 = .ok (.aload_n 0, 1) := by decide +kernel
theorem d_319_3 : decode m319.2.1 3 = .ok (.getfield 426, 3) := by decide +kernel
theorem d_319_6 : decode m319.2.1 6 = .ok (.iconst 1, 1) := by decide +kernel
theorem d_319_7 : decode m319.2.1 7 = .ok (.isub, 1) := by decide +kernel
theorem d_319_8 : decode m319.2.1 8 = .ok (.invokestatic 429, 3) := by decide +kernel
theorem d_319_11 : decode m319.2.1 11 = .ok (.ifCond .eq 12, 3) := by decide +kernel
theorem d_319_14 : decode m319.2.1 14 = .ok (.aload_n 0, 1) := by decide +kernel
theorem d_319_15 : decode m319.2.1 15 = .ok (.getfield 108, 3) := by decide +kernel
theorem d_319_18 : decode m319.2.1 18 = .ok (.iload_n 1, 1) := by decide +kernel
theorem d_319_19 : decode m319.2.1 19 = .ok (.iaload, 1) := by decide +kernel
theorem d_319_20 : decode m319.2.1 20 = .ok (.goto 4, 3) := by decide +kernel
theorem d_319_23 : decode m319.2.1 23 = .ok (.iconst (-1), 1) := by decide +kernel
theorem d_319_24 : decode m319.2.1 24 = .ok (.ireturn, 1) := by decide +kernel
theorem d_320_0 : decode m320.2.1 0 = .ok (.aload_n 0, 1) := by decide +kernel
theorem d_320_1 : decode m320.2.1 1 = .ok (.iload_n 1, 1) := by decide +kernel
theorem d_320_2 : decode m320.2.1 2 = .ok (.invokevirtual 473, 3) := by decide +kernel
theorem d_320_5 : decode m320.2.1 5 = .ok (.ifCond .eq 22, 3) := by decide +kernel
theorem d_320_8 : decode m320.2.1 8 = .ok (.iload_n 2, 1) := by decide +kernel
theorem d_320_9 : decode m320.2.1 9 = .ok (.iconst 0, 1) := by decide +kernel
theorem d_320_10 : decode m320.2.1 10 = .ok (.bipush 87, 2) := by decide +kernel
theorem d_320_12 : decode m320.2.1 12 = .ok (.invokestatic 429, 3) := by decide +kernel
theorem d_320_15 : decode m320.2.1 15 = .ok (.ifCond .eq 12, 3) := by decide +kernel
theorem d_320_18 : decode m320.2.1 18 = .ok (.aload_n 0, 1) := by decide +kernel
theorem d_320_19 : decode m320.2.1 19 = .ok (.getfield 423, 3) := by decide +kernel
theorem d_320_22 : decode m320.2.1 22 = .ok (.bipush 30, 2) := by decide +kernel
theorem d_320_24 : decode m320.2.1 24 = .ok (.if_icmp .ne 5, 3) := by decide +kernel
theorem d_320_27 : decode m320.2.1 27 = .ok (.iconst (-1), 1) := by decide +kernel
theorem d_320_28 : decode m320.2.1 28 = .ok (.ireturn, 1) := by decide +kernel
theorem d_320_29 : decode m320.2.1 29 = .ok (.aload_n 0, 1) := by decide +kernel
theorem d_320_30 : decode m320.2.1 30 = .ok (.getfield 117, 3) := by decide +kernel
theorem d_320_33 : decode m320.2.1 33 = .ok (.aload_n 0, 1) := by decide +kernel
theorem d_320_34 : decode m320.2.1 34 = .ok (.getfield 423, 3) := by decide +kernel
theorem d_320_37 : decode m320.2.1 37 = .ok (.iload_n 1, 1) := by decide +kernel
theorem d_320_38 : decode m320.2.1 38 = .ok (.iastore, 1) := by decide +kernel
theorem d_320_39 : decode m320.2.1 39 = .ok (.aload_n 0, 1) := by decide +kernel
theorem d_320_40 : decode m320.2.1 40 = .ok (.getfield 120, 3) := by decide +kernel
theorem d_320_43 : decode m320.2.1 43 = .ok (.aload_n 0, 1) := by decide +kernel
theorem d_320_44 : decode m320.2.1 44 = .ok (.getfield 423, 3) := by decide +kernel
theorem d_320_47 : decode m320.2.1 47 = .ok (.iload_n 2, 1) := by decide +kernel
theorem d_320_48 : decode m320.2.1 48 = .ok (.iastore, 1) := by decide +kernel
theorem d_320_49 : decode m320.2.1 49 = .ok (.aload_n 0, 1) := by decide +kernel
theorem d_320_50 : decode m320.2.1 50 = .ok (.getfield 129, 3) := by decide +kernel
theorem d_320_53 : decode m320.2.1 53 = .ok (.aload_n 0, 1) := by decide +kernel
theorem d_320_54 : decode m320.2.1 54 = .ok (.getfield 423, 3) := by decide +kernel
theorem d_320_57 : decode m320.2.1 57 = .ok (.iload_n 3, 1) := by decide +kernel
theorem d_320_58 : decode m320.2.1 58 = .ok (.bastore, 1) := by decide +kernel
theorem d_320_59 : decode m320.2.1 59 = .ok (.aload_n 0, 1) := by decide +kernel
theorem d_320_60 : decode m320.2.1 60 = .ok (.getfield 123, 3) := by decide +kernel
theorem d_320_63 : decode m320.2.1 63 = .ok (.aload_n 0, 1) := by decide +kernel
theorem d_320_64 : decode m320.2.1 64 = .ok (.getfield 423, 3) := by decide +kernel
theorem d_320_67 : decode m320.2.1 67 = .ok (.aload_n 0, 1) := by decide +kernel
theorem d_320_68 : decode m320.2.1 68 = .ok (.getfield 539, 3) := by decide +kernel
theorem d_320_71 : decode m320.2.1 71 = .ok (.iastore, 1) := by decide +kernel
theorem d_320_72 : decode m320.2.1 72 = .ok (.aload_n 0, 1) := by decide +kernel
theorem d_320_73 : decode m320.2.1 73 = .ok (.getfield 126, 3) := by decide +kernel
theorem d_320_76 : decode m320.2.1 76 = .ok (.aload_n 0, 1) := by decide +kernel
theorem d_320_77 : decode m320.2.1 77 = .ok (.getfield 423, 3) := by decide +kernel
theorem d_320_80 : decode m320.2.1 80 = .ok (.iconst (-1), 1) := by decide +kernel
theorem d_320_81 : decode m320.2.1 81 = .ok (.iastore, 1) := by decide +kernel
theorem d_320_82 : decode m320.2.1 82 = .ok (.aload_n 0, 1) := by decide +kernel
theorem d_320_83 : decode m320.2.1 83 = .ok (.dup, 1) := by decide +kernel
theorem d_320_84 : decode m320.2.1 84 = .ok (.getfield 423, 3) := by decide +kernel
theorem d_320_87 : decode m320.2.1 87 = .ok (.iconst 1, 1) := by decide +kernel
theorem d_320_88 : decode m320.2.1 88 = .ok (.iadd, 1) := by decide +kernel
theorem d_320_89 : decode m320.2.1 89 = .ok (.putfield 423, 3) := by decide +kernel
theorem d_320_92 : decode m320.2.1 92 = .ok (.aload_n 0, 1) := by decide +kernel
theorem d_320_93 : decode m320.2.1 93 = .ok (.getfield 423, 3) := by decide +kernel
theorem d_320_96 : decode m320.2.1 96 = .ok (.iconst 1, 1) := by decide +kernel
theorem d_320_97 : decode m320.2.1 97 = .ok (.isub, 1) := by decide +kernel
theorem d_320_98 : decode m320.2.1 98 = .ok (.ireturn, 1) := by decide +kernel
theorem d_321_0 : decode m321.2.1 0 = .ok (.iload_n 1, 1) := by decide +kernel
theorem d_321_1 : decode m321.2.1 1 = .ok (.iconst 0, 1) := by decide +kernel
theorem d_321_2 : decode m321.2.1 2 = .ok (.aload_n 0, 1) := by decide +kernel
theorem d_321_3 : decode m321.2.1 3 = .ok (.getfield 423, 3) := by decide +kernel
theorem d_321_6 : decode m321.2.1 6 = .ok (.iconst 1, 1) := by decide +kernel
theorem d_321_7 : decode m321.2.1 7 = .ok (.isub, 1) := by decide +kernel
theorem d_321_8 : decode m321.2.1 8 = .ok (.invokestatic 429, 3) := by decide +kernel
theorem d_321_11 : decode m321.2.1 11 = .ok (.ifCond .eq 12, 3) := by decide +kernel
theorem d_321_14 : decode m321.2.1 14 = .ok (.aload_n 0, 1) := by decide +kernel
theorem d_321_15 : decode m321.2.1 15 = .ok (.getfield 126, 3) := by decide +kernel
theorem d_321_18 : decode m321.2.1 18 = .ok (.iload_n 1, 1) := by decide +kernel
theorem d_321_19 : decode m321.2.1 19 = .ok (.iaload, 1) := by decide +kernel
theorem d_321_20 : decode m321.2.1 20 = .ok (.ifCond .lt 5, 3) := by decide +kernel
theorem d_321_23 : decode m321.2.1 23 = .ok (.iconst 0, 1) := by decide +kernel
theorem d_321_24 : decode m321.2.1 24 = .ok (.ireturn, 1) := by decide +kernel
theorem d_321_25 : decode m321.2.1 25 = .ok (.aload_n 0, 1) := by decide +kernel
theorem d_321_26 : decode m321.2.1 26 = .ok (.getfield 126, 3) := by decide +kernel
theorem d_321_29 : decode m321.2.1 29 = .ok (.iload_n 1, 1) := by decide +kernel
theorem d_321_30 : decode m321.2.1 30 = .ok (.aload_n 0, 1) := by decide +kernel
theorem d_321_31 : decode m321.2.1 31 = .ok (.getfield 539, 3) := by decide +kernel
theorem d_321_34 : decode m321.2.1 34 = .ok (.iastore, 1) := by decide +kernel
theorem d_321_35 : decode m321.2.1 35 = .ok (.iconst 1, 1) := by decide +kernel
theorem d_321_36 : decode m321.2.1 36 = .ok (.ireturn, 1) := by decide +kernel
theorem d_322_0 : decode m322.2.1 0 = .ok (.iload_n 1, 1) := by decide +kernel
theorem d_322_1 : decode m322.2.1 1 = .ok (.ifCond .lt 22, 3) := by decide +kernel
theorem d_322_4 : decode m322.2.1 4 = .ok (.iload_n 1, 1) := by decide +kernel
theorem d_322_5 : decode m322.2.1 5 = .ok (.sipush 1000, 3) := by decide +kernel
theorem d_322_8 : decode m322.2.1 8 = .ok (.if_icmp .gt 15, 3) := by decide +kernel
theorem d_322_11 : decode m322.2.1 11 = .ok (.aload_n 0, 1) := by decide +kernel
theorem d_322_12 : decode m322.2.1 12 = .ok (.getfield 539, 3) := by decide +kernel
theorem d_322_15 : decode m322.2.1 15 = .ok (.iload_n 1, 1) := by decide +kernel
theorem d_322_16 : decode m322.2.1 16 = .ok (.iadd, 1) := by decide +kernel
theorem d_322_17 : decode m322.2.1 17 = .ok (.ldc_w 542, 3) := by decide +kernel
theorem d_322_20 : decode m322.2.1 20 = .ok (.if_icmp .le 5, 3) := by decide +kernel
theorem d_322_23 : decode m322.2.1 23 = .ok (.iconst (-1), 1) := by decide +kernel
theorem d_322_24 : decode m322.2.1 24 = .ok (.ireturn, 1) := by decide +kernel
theorem d_322_25 : decode m322.2.1 25 = .ok (.aload_n 0, 1) := by decide +kernel
theorem d_322_26 : decode m322.2.1 26 = .ok (.dup, 1) := by decide +kernel
theorem d_322_27 : decode m322.2.1 27 = .ok (.getfield 539, 3) := by decide +kernel
theorem d_322_30 : decode m322.2.1 30 = .ok (.iload_n 1, 1) := by decide +kernel
theorem d_322_31 : decode m322.2.1 31 = .ok (.iadd, 1) := by decide +kernel
theorem d_322_32 : decode m322.2.1 32 = .ok (.putfield 539, 3) := by decide +kernel
theorem d_322_35 : decode m322.2.1 35 = .ok (.aload_n 0, 1) := by decide +kernel
theorem d_322_36 : decode m322.2.1 36 = .ok (.getfield 539, 3) := by decide +kernel
theorem d_322_39 : decode m322.2.1 39 = .ok (.ireturn, 1) := by decide +kernel
theorem d_323_0 : decode m323.2.1 0 = .ok (.aload_n 0, 1) := by decide +kernel
theorem d_323_1 : decode m323.2.1 1 = .ok (.iload_n 1, 1) := by decide +kernel
theorem d_323_2 : decode m323.2.1 2 = .ok (.invokevirtual 550, 3) := by decide +kernel
theorem d_323_5 : decode m323.2.1 5 = .ok (.ireturn, 1) := by decide +kernel
theorem d_324_0 : decode m324.2.1 0 = .ok (.iconst 0, 1) := by decide +kernel
theorem d_324_1 : decode m324.2.1 1 = .ok (.istore_n 2, 1) := by decide +kernel
theorem d_324_2 : decode m324.2.1 2 = .ok (.iconst 0, 1) := by decide +kernel
theorem d_324_3 : decode m324.2.1 3 = .ok (.istore_n 3, 1) := by decide +kernel
theorem d_324_4 : decode m324.2.1 4 = .ok (.iload_n 3, 1) := by decide +kernel
theorem d_324_5 : decode m324.2.1 5 = .ok (.aload_n 0, 1) := by decide +kernel
theorem d_324_6 : decode m324.2.1 6 = .ok (.getfield 423, 3) := by decide +kernel
theorem d_324_9 : decode m324.2.1 9 = .ok (.if_icmp .ge 20, 3) := by decide +kernel
theorem d_324_12 : decode m324.2.1 12 = .ok (.aload_n 0, 1) := by decide +kernel
theorem d_324_13 : decode m324.2.1 13 = .ok (.getfield 133, 3) := by decide +kernel
theorem d_324_16 : decode m324.2.1 16 = .ok (.iload_n 3, 1) := by decide +kernel
theorem d_324_17 : decode m324.2.1 17 = .ok (.aload_n 0, 1) := by decide +kernel
theorem d_324_18 : decode m324.2.1 18 = .ok (.iload_n 3, 1) := by decide +kernel
theorem d_324_19 : decode m324.2.1 19 = .ok (.invokevirtual 543, 3) := by decide +kernel
theorem d_324_22 : decode m324.2.1 22 = .ok (.iastore, 1) := by decide +kernel
theorem d_324_23 : decode m324.2.1 23 = .ok (.iinc 3 1, 3) := by decide +kernel
theorem d_324_26 : decode m324.2.1 26 = .ok (.goto (-22), 3) := by decide +kernel
theorem d_324_29 : decode m324.2.1 29 = .ok (.iconst 0, 1) := by decide +kernel
theorem d_324_30 : decode m324.2.1 30 = .ok (.istore_n 3, 1) := by decide +kernel
theorem d_324_31 : decode m324.2.1 31 = .ok (.iload_n 3, 1) := by decide +kernel
theorem d_324_32 : decode m324.2.1 32 = .ok (.bipush 10, 2) := by decide +kernel
theorem d_324_34 : decode m324.2.1 34 = .ok (.if_icmp .ge 16, 3) := by decide +kernel
theorem d_324_37 : decode m324.2.1 37 = .ok (.aload_n 0, 1) := by decide +kernel
theorem d_324_38 : decode m324.2.1 38 = .ok (.getfield 136, 3) := by decide +kernel
theorem d_324_41 : decode m324.2.1 41 = .ok (.iload_n 3, 1) := by decide +kernel
theorem d_324_42 : decode m324.2.1 42 = .ok (.iconst 0, 1) := by decide +kernel
theorem d_324_43 : decode m324.2.1 43 = .ok (.iastore, 1) := by decide +kernel
theorem d_324_44 : decode m324.2.1 44 = .ok (.iinc 3 1, 3) := by decide +kernel
theorem d_324_47 : decode m324.2.1 47 = .ok (.goto (-16), 3) := by decide +kernel
theorem d_324_50 : decode m324.2.1 50 = .ok (.iconst 0, 1) := by decide +kernel
theorem d_324_51 : decode m324.2.1 51 = .ok (.istore_n 3, 1) := by decide +kernel
theorem d_324_52 : decode m324.2.1 52 = .ok (.iload_n 3, 1) := by decide +kernel
theorem d_324_53 : decode m324.2.1 53 = .ok (.iconst 1, 1) := by decide +kernel
theorem d_324_54 : decode m324.2.1 54 = .ok (.aload_n 0, 1) := by decide +kernel
theorem d_324_55 : decode m324.2.1 55 = .ok (.getfield 322, 3) := by decide +kernel
theorem d_324_58 : decode m324.2.1 58 = .ok (.ishl, 1) := by decide +kernel
theorem d_324_59 : decode m324.2.1 59 = .ok (.if_icmp .ge 124, 3) := by decide +kernel
theorem d_324_62 : decode m324.2.1 62 = .ok (.iconst 1, 1) := by decide +kernel
theorem d_324_63 : decode m324.2.1 63 = .ok (.istore 4, 2) := by decide +kernel
theorem d_324_65 : decode m324.2.1 65 = .ok (.iconst 0, 1) := by decide +kernel
theorem d_324_66 : decode m324.2.1 66 = .ok (.istore 5, 2) := by decide +kernel
theorem d_324_68 : decode m324.2.1 68 = .ok (.iload 5, 2) := by decide +kernel
theorem d_324_70 : decode m324.2.1 70 = .ok (.aload_n 0, 1) := by decide +kernel
theorem d_324_71 : decode m324.2.1 71 = .ok (.getfield 423, 3) := by decide +kernel
theorem d_324_74 : decode m324.2.1 74 = .ok (.if_icmp .ge 58, 3) := by decide +kernel
theorem d_324_77 : decode m324.2.1 77 = .ok (.iload 4, 2) := by decide +kernel
theorem d_324_79 : decode m324.2.1 79 = .ok (.ifCond .eq 53, 3) := by decide +kernel
theorem d_324_82 : decode m324.2.1 82 = .ok (.aload_n 0, 1) := by decide +kernel
theorem d_324_83 : decode m324.2.1 83 = .ok (.iload 5, 2) := by decide +kernel
theorem d_324_85 : decode m324.2.1 85 = .ok (.iload_n 1, 1) := by decide +kernel
theorem d_324_86 : decode m324.2.1 86 = .ok (.invokevirtual 546, 3) := by decide +kernel
theorem d_324_89 : decode m324.2.1 89 = .ok (.ifCond .eq 30, 3) := by decide +kernel
theorem d_324_92 : decode m324.2.1 92 = .ok (.iload_n 3, 1) := by decide +kernel
theorem d_324_93 : decode m324.2.1 93 = .ok (.aload_n 0, 1) := by decide +kernel
theorem d_324_94 : decode m324.2.1 94 = .ok (.getfield 133, 3) := by decide +kernel
theorem d_324_97 : decode m324.2.1 97 = .ok (.iload 5, 2) := by decide +kernel
theorem d_324_99 : decode m324.2.1 99 = .ok (.iaload, 1) := by decide +kernel
theorem d_324_100 : decode m324.2.1 100 = .ok (.iand, 1) := by decide +kernel
theorem d_324_101 : decode m324.2.1 101 = .ok (.ifCond .eq 7, 3) := by decide +kernel
theorem d_324_104 : decode m324.2.1 104 = .ok (.iconst 1, 1) := by decide +kernel
theorem d_324_105 : decode m324.2.1 105 = .ok (.goto 4, 3) := by decide +kernel
theorem d_324_108 : decode m324.2.1 108 = .ok (.iconst 0, 1) := by decide +kernel
theorem d_324_109 : decode m324.2.1 109 = .ok (.aload_n 0, 1) := by decide +kernel
theorem d_324_110 : decode m324.2.1 110 = .ok (.getfield 129, 3) := by decide +kernel
theorem d_324_113 : decode m324.2.1 113 = .ok (.iload 5, 2) := by decide +kernel
theorem d_324_115 : decode m324.2.1 115 = .ok (.baload, 1) := by decide +kernel
theorem d_324_116 : decode m324.2.1 116 = .ok (.if_icmp .ne 7, 3) := by decide +kernel
theorem d_324_119 : decode m324.2.1 119 = .ok (.iconst 1, 1) := by decide +kernel
theorem d_324_120 : decode m324.2.1 120 = .ok (.goto 4, 3) := by decide +kernel
theorem d_324_123 : decode m324.2.1 123 = .ok (.iconst 0, 1) := by decide +kernel
theorem d_324_124 : decode m324.2.1 124 = .ok (.istore 4, 2) := by decide +kernel
theorem d_324_126 : decode m324.2.1 126 = .ok (.iinc 5 1, 3) := by decide +kernel
theorem d_324_129 : decode m324.2.1 129 = .ok (.goto (-61), 3) := by decide +kernel
theorem d_324_132 : decode m324.2.1 132 = .ok (.iload 4, 2) := by decide +kernel
theorem d_324_134 : decode m324.2.1 134 = .ok (.ifCond .ne 6, 3) := by decide +kernel
theorem d_324_137 : decode m324.2.1 137 = .ok (.goto 40, 3) := by decide +kernel
theorem d_324_140 : decode m324.2.1 140 = .ok (.iinc 2 1, 3) := by decide +kernel
theorem d_324_143 : decode m324.2.1 143 = .ok (.iconst 0, 1) := by decide +kernel
theorem d_324_144 : decode m324.2.1 144 = .ok (.istore 5, 2) := by decide +kernel
theorem d_324_146 : decode m324.2.1 146 = .ok (.iload 5, 2) := by decide +kernel
theorem d_324_148 : decode m324.2.1 148 = .ok (.aload_n 0, 1) := by decide +kernel
theorem d_324_149 : decode m324.2.1 149 = .ok (.getfield 322, 3) := by decide +kernel
theorem d_324_152 : decode m324.2.1 152 = .ok (.if_icmp .ge 25, 3) := by decide +kernel
theorem d_324_155 : decode m324.2.1 155 = .ok (.aload_n 0, 1) := by decide +kernel
theorem d_324_156 : decode m324.2.1 156 = .ok (.getfield 136, 3) := by decide +kernel
theorem d_324_159 : decode m324.2.1 159 = .ok (.iload 5, 2) := by decide +kernel
theorem d_324_161 : decode m324.2.1 161 = .ok (.dup2, 1) := by decide +kernel
theorem d_324_162 : decode m324.2.1 162 = .ok (.iaload, 1) := by decide +kernel
theorem d_324_163 : decode m324.2.1 163 = .ok (.iload_n 3, 1) := by decide +kernel
theorem d_324_164 : decode m324.2.1 164 = .ok (.iload 5, 2) := by decide +kernel
theorem d_324_166 : decode m324.2.1 166 = .ok (.ishr, 1) := by decide +kernel
theorem d_324_167 : decode m324.2.1 167 = .ok (.iconst 1, 1) := by decide +kernel
theorem d_324_168 : decode m324.2.1 168 = .ok (.iand, 1) := by decide +kernel
theorem d_324_169 : decode m324.2.1 169 = .ok (.iadd, 1) := by decide +kernel
theorem d_324_170 : decode m324.2.1 170 = .ok (.iastore, 1) := by decide +kernel
theorem d_324_171 : decode m324.2.1 171 = .ok (.iinc 5 1, 3) := by decide +kernel
theorem d_324_174 : decode m324.2.1 174 = .ok (.goto (-28), 3) := by decide +kernel
theorem d_324_177 : decode m324.2.1 177 = .ok (.iinc 3 1, 3) := by decide +kernel
theorem d_324_180 : decode m324.2.1 180 = .ok (.goto (-128), 3) := by decide +kernel
theorem d_324_183 : decode m324.2.1 183 = .ok (.iload_n 2, 1) := by decide +kernel
theorem d_324_184 : decode m324.2.1 184 = .ok (.ireturn, 1) := by decide +kernel
theorem d_325_0 : decode m325.2.1 0 = .ok (.iconst 0, 1) := by decide +kernel
theorem d_325_1 : decode m325.2.1 1 = .ok (.istore_n 2, 1) := by decide +kernel
theorem d_325_2 : decode m325.2.1 2 = .ok (.iconst 0, 1) := by decide +kernel
theorem d_325_3 : decode m325.2.1 3 = .ok (.istore_n 3, 1) := by decide +kernel
theorem d_325_4 : decode m325.2.1 4 = .ok (.iload_n 3, 1) := by decide +kernel
theorem d_325_5 : decode m325.2.1 5 = .ok (.aload_n 0, 1) := by decide +kernel
theorem d_325_6 : decode m325.2.1 6 = .ok (.getfield 322, 3) := by decide +kernel
theorem d_325_9 : decode m325.2.1 9 = .ok (.if_icmp .ge 74, 3) := by decide +kernel
theorem d_325_12 : decode m325.2.1 12 = .ok (.iload_n 2, 1) := by decide +kernel
theorem d_325_13 : decode m325.2.1 13 = .ok (.aload_n 0, 1) := by decide +kernel
theorem d_325_14 : decode m325.2.1 14 = .ok (.getfield 69, 3) := by decide +kernel
theorem d_325_17 : decode m325.2.1 17 = .ok (.iload_n 3, 1) := by decide +kernel
theorem d_325_18 : decode m325.2.1 18 = .ok (.iaload, 1) := by decide +kernel
theorem d_325_19 : decode m325.2.1 19 = .ok (.aload_n 0, 1) := by decide +kernel
theorem d_325_20 : decode m325.2.1 20 = .ok (.getfield 120, 3) := by decide +kernel
theorem d_325_23 : decode m325.2.1 23 = .ok (.iload_n 1, 1) := by decide +kernel
theorem d_325_24 : decode m325.2.1 24 = .ok (.iaload, 1) := by decide +kernel
theorem d_325_25 : decode m325.2.1 25 = .ok (.if_icmp .ne 44, 3) := by decide +kernel
theorem d_325_28 : decode m325.2.1 28 = .ok (.aload_n 0, 1) := by decide +kernel
theorem d_325_29 : decode m325.2.1 29 = .ok (.getfield 66, 3) := by decide +kernel
theorem d_325_32 : decode m325.2.1 32 = .ok (.iload_n 3, 1) := by decide +kernel
theorem d_325_33 : decode m325.2.1 33 = .ok (.iaload, 1) := by decide +kernel
theorem d_325_34 : decode m325.2.1 34 = .ok (.aload_n 0, 1) := by decide +kernel
theorem d_325_35 : decode m325.2.1 35 = .ok (.getfield 117, 3) := by decide +kernel
theorem d_325_38 : decode m325.2.1 38 = .ok (.iload_n 1, 1) := by decide +kernel
theorem d_325_39 : decode m325.2.1 39 = .ok (.iaload, 1) := by decide +kernel
theorem d_325_40 : decode m325.2.1 40 = .ok (.if_icmp .gt 29, 3) := by decide +kernel
theorem d_325_43 : decode m325.2.1 43 = .ok (.aload_n 0, 1) := by decide +kernel
theorem d_325_44 : decode m325.2.1 44 = .ok (.getfield 117, 3) := by decide +kernel
theorem d_325_47 : decode m325.2.1 47 = .ok (.iload_n 1, 1) := by decide +kernel
theorem d_325_48 : decode m325.2.1 48 = .ok (.iaload, 1) := by decide +kernel
theorem d_325_49 : decode m325.2.1 49 = .ok (.aload_n 0, 1) := by decide +kernel
theorem d_325_50 : decode m325.2.1 50 = .ok (.getfield 66, 3) := by decide +kernel
theorem d_325_53 : decode m325.2.1 53 = .ok (.iload_n 3, 1) := by decide +kernel
theorem d_325_54 : decode m325.2.1 54 = .ok (.iaload, 1) := by decide +kernel
theorem d_325_55 : decode m325.2.1 55 = .ok (.aload_n 0, 1) := by decide +kernel
theorem d_325_56 : decode m325.2.1 56 = .ok (.getfield 72, 3) := by decide +kernel
theorem d_325_59 : decode m325.2.1 59 = .ok (.iload_n 3, 1) := by decide +kernel
theorem d_325_60 : decode m325.2.1 60 = .ok (.iaload, 1) := by decide +kernel
theorem d_325_61 : decode m325.2.1 61 = .ok (.iadd, 1) := by decide +kernel
theorem d_325_62 : decode m325.2.1 62 = .ok (.if_icmp .ge 7, 3) := by decide +kernel
theorem d_325_65 : decode m325.2.1 65 = .ok (.iconst 1, 1) := by decide +kernel
theorem d_325_66 : decode m325.2.1 66 = .ok (.goto 4, 3) := by decide +kernel
theorem d_325_69 : decode m325.2.1 69 = .ok (.iconst 0, 1) := by decide +kernel
theorem d_325_70 : decode m325.2.1 70 = .ok (.invokestatic 318, 3) := by decide +kernel
theorem d_325_73 : decode m325.2.1 73 = .ok (.iload_n 3, 1) := by decide +kernel
theorem d_325_74 : decode m325.2.1 74 = .ok (.ishl, 1) := by decide +kernel
theorem d_325_75 : decode m325.2.1 75 = .ok (.ior, 1) := by decide +kernel
theorem d_325_76 : decode m325.2.1 76 = .ok (.istore_n 2, 1) := by decide +kernel
theorem d_325_77 : decode m325.2.1 77 = .ok (.iinc 3 1, 3) := by decide +kernel
theorem d_325_80 : decode m325.2.1 80 = .ok (.goto (-76), 3) := by decide +kernel
theorem d_325_83 : decode m325.2.1 83 = .ok (.iload_n 2, 1) := by decide +kernel
theorem d_325_84 : decode m325.2.1 84 = .ok (.ireturn, 1) := by decide +kernel
theorem d_326_0 : decode m326.2.1 0 = .ok (.aload_n 0, 1) := by decide +kernel
theorem d_326_1 : decode m326.2.1 1 = .ok (.getfield 123, 3) := by decide +kernel
theorem d_326_4 : decode m326.2.1 4 = .ok (.iload_n 1, 1) := by decide +kernel
theorem d_326_5 : decode m326.2.1 5 = .ok (.iaload, 1) := by decide +kernel
theorem d_326_6 : decode m326.2.1 6 = .ok (.iload_n 2, 1) := by decide +kernel
theorem d_326_7 : decode m326.2.1 7 = .ok (.if_icmp .gt 26, 3) := by decide +kernel
theorem d_326_10 : decode m326.2.1 10 = .ok (.aload_n 0, 1) := by decide +kernel
theorem d_326_11 : decode m326.2.1 11 = .ok (.getfield 126, 3) := by decide +kernel
theorem d_326_14 : decode m326.2.1 14 = .ok (.iload_n 1, 1) := by decide +kernel
theorem d_326_15 : decode m326.2.1 15 = .ok (.iaload, 1) := by decide +kernel
theorem d_326_16 : decode m326.2.1 16 = .ok (.ifCond .lt 13, 3) := by decide +kernel
theorem d_326_19 : decode m326.2.1 19 = .ok (.aload_n 0, 1) := by decide +kernel
theorem d_326_20 : decode m326.2.1 20 = .ok (.getfield 126, 3) := by decide +kernel
theorem d_326_23 : decode m326.2.1 23 = .ok (.iload_n 1, 1) := by decide +kernel
theorem d_326_24 : decode m326.2.1 24 = .ok (.iaload, 1) := by decide +kernel
theorem d_326_25 : decode m326.2.1 25 = .ok (.iload_n 2, 1) := by decide +kernel
theorem d_326_26 : decode m326.2.1 26 = .ok (.if_icmp .le 7, 3) := by decide +kernel
theorem d_326_29 : decode m326.2.1 29 = .ok (.iconst 1, 1) := by decide +kernel
theorem d_326_30 : decode m326.2.1 30 = .ok (.goto 4, 3) := by decide +kernel
theorem d_326_33 : decode m326.2.1 33 = .ok (.iconst 0, 1) := by decide +kernel
theorem d_326_34 : decode m326.2.1 34 = .ok (.ireturn, 1) := by decide +kernel
theorem d_327_0 : decode m327.2.1 0 = .ok (.aload_n 0, 1) := by decide +kernel
theorem d_327_1 : decode m327.2.1 1 = .ok (.iload_n 1, 1) := by decide +kernel
theorem d_327_2 : decode m327.2.1 2 = .ok (.invokevirtual 461, 3) := by decide +kernel
theorem d_327_5 : decode m327.2.1 5 = .ok (.ifCond .ne 5, 3) := by decide +kernel
theorem d_327_8 : decode m327.2.1 8 = .ok (.iconst (-1), 1) := by decide +kernel
theorem d_327_9 : decode m327.2.1 9 = .ok (.ireturn, 1) := by decide +kernel
theorem d_327_10 : decode m327.2.1 10 = .ok (.aload_n 0, 1) := by decide +kernel
theorem d_327_11 : decode m327.2.1 11 = .ok (.iload_n 2, 1) := by decide +kernel
theorem d_327_12 : decode m327.2.1 12 = .ok (.invokevirtual 550, 3) := by decide +kernel
theorem d_327_15 : decode m327.2.1 15 = .ok (.istore_n 3, 1) := by decide +kernel
theorem d_327_16 : decode m327.2.1 16 = .ok (.iload_n 3, 1) := by decide +kernel
theorem d_327_17 : decode m327.2.1 17 = .ok (.ifCond .ne 7, 3) := by decide +kernel
theorem d_327_20 : decode m327.2.1 20 = .ok (.iconst (-1), 1) := by decide +kernel
theorem d_327_21 : decode m327.2.1 21 = .ok (.goto 32, 3) := by decide +kernel
theorem d_327_24 : decode m327.2.1 24 = .ok (.aload_n 0, 1) := by decide +kernel
theorem d_327_25 : decode m327.2.1 25 = .ok (.getfield 136, 3) := by decide +kernel
theorem d_327_28 : decode m327.2.1 28 = .ok (.iload_n 1, 1) := by decide +kernel
theorem d_327_29 : decode m327.2.1 29 = .ok (.iaload, 1) := by decide +kernel
theorem d_327_30 : decode m327.2.1 30 = .ok (.iload_n 3, 1) := by decide +kernel
theorem d_327_31 : decode m327.2.1 31 = .ok (.if_icmp .ne 7, 3) := by decide +kernel
theorem d_327_34 : decode m327.2.1 34 = .ok (.iconst 1, 1) := by decide +kernel
theorem d_327_35 : decode m327.2.1 35 = .ok (.goto 18, 3) := by decide +kernel
theorem d_327_38 : decode m327.2.1 38 = .ok (.aload_n 0, 1) := by decide +kernel
theorem d_327_39 : decode m327.2.1 39 = .ok (.getfield 136, 3) := by decide +kernel
theorem d_327_42 : decode m327.2.1 42 = .ok (.iload_n 1, 1) := by decide +kernel
theorem d_327_43 : decode m327.2.1 43 = .ok (.iaload, 1) := by decide +kernel
theorem d_327_44 : decode m327.2.1 44 = .ok (.ifCond .ne 7, 3) := by decide +kernel
theorem d_327_47 : decode m327.2.1 47 = .ok (.iconst 0, 1) := by decide +kernel
theorem d_327_48 : decode m327.2.1 48 = .ok (.goto 5, 3) := by decide +kernel
theorem d_327_51 : decode m327.2.1 51 = .ok (.bipush (-2), 2) := by decide +kernel
theorem d_327_53 : decode m327.2.1 53 = .ok (.ireturn, 1) := by decide +kernel
theorem d_328_0 : decode m328.2.1 0 = .ok (.iload_n 1, 1) := by decide +kernel
theorem d_328_1 : decode m328.2.1 1 = .ok (.iconst 0, 1) := by decide +kernel
theorem d_328_2 : decode m328.2.1 2 = .ok (.iconst 1, 1) := by decide +kernel
theorem d_328_3 : decode m328.2.1 3 = .ok (.invokestatic 429, 3) := by decide +kernel
theorem d_328_6 : decode m328.2.1 6 = .ok (.ifCond .eq 10, 3) := by decide +kernel
theorem d_328_9 : decode m328.2.1 9 = .ok (.aload_n 0, 1) := by decide +kernel
theorem d_328_10 : decode m328.2.1 10 = .ok (.getfield 322, 3) := by decide +kernel
theorem d_328_13 : decode m328.2.1 13 = .ok (.ifCond .ne 5, 3) := by decide +kernel
theorem d_328_16 : decode m328.2.1 16 = .ok (.iconst (-1), 1) := by decide +kernel
theorem d_328_17 : decode m328.2.1 17 = .ok (.ireturn, 1) := by decide +kernel
theorem d_328_18 : decode m328.2.1 18 = .ok (.aload_n 0, 1) := by decide +kernel
theorem d_328_19 : decode m328.2.1 19 = .ok (.iload_n 2, 1) := by decide +kernel
theorem d_328_20 : decode m328.2.1 20 = .ok (.invokevirtual 550, 3) := by decide +kernel
theorem d_328_23 : decode m328.2.1 23 = .ok (.istore_n 3, 1) := by decide +kernel
theorem d_328_24 : decode m328.2.1 24 = .ok (.iload_n 3, 1) := by decide +kernel
theorem d_328_25 : decode m328.2.1 25 = .ok (.ifCond .ne 5, 3) := by decide +kernel
theorem d_328_28 : decode m328.2.1 28 = .ok (.iconst (-1), 1) := by decide +kernel
theorem d_328_29 : decode m328.2.1 29 = .ok (.ireturn, 1) := by decide +kernel
theorem d_328_30 : decode m328.2.1 30 = .ok (.iconst 0, 1) := by decide +kernel
theorem d_328_31 : decode m328.2.1 31 = .ok (.istore 4, 2) := by decide +kernel
theorem d_328_33 : decode m328.2.1 33 = .ok (.iconst 1, 1) := by decide +kernel
theorem d_328_34 : decode m328.2.1 34 = .ok (.istore 5, 2) := by decide +kernel
theorem d_328_36 : decode m328.2.1 36 = .ok (.iload 5, 2) := by decide +kernel
theorem d_328_38 : decode m328.2.1 38 = .ok (.aload_n 0, 1) := by decide +kernel
theorem d_328_39 : decode m328.2.1 39 = .ok (.getfield 322, 3) := by decide +kernel
theorem d_328_42 : decode m328.2.1 42 = .ok (.if_icmp .ge 59, 3) := by decide +kernel
theorem d_328_45 : decode m328.2.1 45 = .ok (.aload_n 0, 1) := by decide +kernel
theorem d_328_46 : decode m328.2.1 46 = .ok (.getfield 136, 3) := by decide +kernel
theorem d_328_49 : decode m328.2.1 49 = .ok (.iload 5, 2) := by decide +kernel
theorem d_328_51 : decode m328.2.1 51 = .ok (.iaload, 1) := by decide +kernel
theorem d_328_52 : decode m328.2.1 52 = .ok (.iload_n 3, 1) := by decide +kernel
theorem d_328_53 : decode m328.2.1 53 = .ok (.aload_n 0, 1) := by decide +kernel
theorem d_328_54 : decode m328.2.1 54 = .ok (.getfield 136, 3) := by decide +kernel
theorem d_328_57 : decode m328.2.1 57 = .ok (.iload 5, 2) := by decide +kernel
theorem d_328_59 : decode m328.2.1 59 = .ok (.iaload, 1) := by decide +kernel
theorem d_328_60 : decode m328.2.1 60 = .ok (.isub, 1) := by decide +kernel
theorem d_328_61 : decode m328.2.1 61 = .ok (.invokestatic 527, 3) := by decide +kernel
theorem d_328_64 : decode m328.2.1 64 = .ok (.aload_n 0, 1) := by decide +kernel
theorem d_328_65 : decode m328.2.1 65 = .ok (.getfield 136, 3) := by decide +kernel
theorem d_328_68 : decode m328.2.1 68 = .ok (.iload 4, 2) := by decide +kernel
theorem d_328_70 : decode m328.2.1 70 = .ok (.iaload, 1) := by decide +kernel
theorem d_328_71 : decode m328.2.1 71 = .ok (.iload_n 3, 1) := by decide +kernel
theorem d_328_72 : decode m328.2.1 72 = .ok (.aload_n 0, 1) := by decide +kernel
theorem d_328_73 : decode m328.2.1 73 = .ok (.getfield 136, 3) := by decide +kernel
theorem d_328_76 : decode m328.2.1 76 = .ok (.iload 4, 2) := by decide +kernel
theorem d_328_78 : decode m328.2.1 78 = .ok (.iaload, 1) := by decide +kernel
theorem d_328_79 : decode m328.2.1 79 = .ok (.isub, 1) := by decide +kernel
theorem d_328_80 : decode m328.2.1 80 = .ok (.invokestatic 527, 3) := by decide +kernel
theorem d_328_83 : decode m328.2.1 83 = .ok (.if_icmp .ge 8, 3) := by decide +kernel
theorem d_328_86 : decode m328.2.1 86 = .ok (.iload 5, 2) := by decide +kernel
theorem d_328_88 : decode m328.2.1 88 = .ok (.goto 5, 3) := by decide +kernel
theorem d_328_91 : decode m328.2.1 91 = .ok (.iload 4, 2) := by decide +kernel
theorem d_328_93 : decode m328.2.1 93 = .ok (.istore 4, 2) := by decide +kernel
theorem d_328_95 : decode m328.2.1 95 = .ok (.iinc 5 1, 3) := by decide +kernel
theorem d_328_98 : decode m328.2.1 98 = .ok (.goto (-62), 3) := by decide +kernel
theorem d_328_101 : decode m328.2.1 101 = .ok (.iload_n 1, 1) := by decide +kernel
theorem d_328_102 : decode m328.2.1 102 = .ok (.ifCond .ne 8, 3) := by decide +kernel
theorem d_328_105 : decode m328.2.1 105 = .ok (.iload 4, 2) := by decide +kernel
theorem d_328_107 : decode m328.2.1 107 = .ok (.goto 22, 3) := by decide +kernel
theorem d_328_110 : decode m328.2.1 110 = .ok (.aload_n 0, 1) := by decide +kernel
theorem d_328_111 : decode m328.2.1 111 = .ok (.getfield 136, 3) := by decide +kernel
theorem d_328_114 : decode m328.2.1 114 = .ok (.iload 4, 2) := by decide +kernel
theorem d_328_116 : decode m328.2.1 116 = .ok (.iaload, 1) := by decide +kernel
theorem d_328_117 : decode m328.2.1 117 = .ok (.iload_n 3, 1) := by decide +kernel
theorem d_328_118 : decode m328.2.1 118 = .ok (.aload_n 0, 1) := by decide +kernel
theorem d_328_119 : decode m328.2.1 119 = .ok (.getfield 136, 3) := by decide +kernel
theorem d_328_122 : decode m328.2.1 122 = .ok (.iload 4, 2) := by decide +kernel
theorem d_328_124 : decode m328.2.1 124 = .ok (.iaload, 1) := by decide +kernel
theorem d_328_125 : decode m328.2.1 125 = .ok (.isub, 1) := by decide +kernel
theorem d_328_126 : decode m328.2.1 126 = .ok (.invokestatic 527, 3) := by decide +kernel
theorem d_328_129 : decode m328.2.1 129 = .ok (.ireturn, 1) := by decide +kernel
theorem d_329_0 : decode m329.2.1 0 = .ok (.iload_n 1, 1) := by decide +kernel
theorem d_329_1 : decode m329.2.1 1 = .ok (.invokestatic 553, 3) := by decide +kernel
theorem d_329_4 : decode m329.2.1 4 = .ok (.ifCond .ne 5, 3) := by decide +kernel
theorem d_329_7 : decode m329.2.1 7 = .ok (.iconst (-1), 1) := by decide +kernel
theorem d_329_8 : decode m329.2.1 8 = .ok (.ireturn, 1) := by decide +kernel
theorem d_329_9 : decode m329.2.1 9 = .ok (.aload_n 0, 1) := by decide +kernel
theorem d_329_10 : decode m329.2.1 10 = .ok (.getfield 139, 3) := by decide +kernel
theorem d_329_13 : decode m329.2.1 13 = .ok (.iload_n 1, 1) := by decide +kernel
theorem d_329_14 : decode m329.2.1 14 = .ok (.iconst 1, 1) := by decide +kernel
theorem d_329_15 : decode m329.2.1 15 = .ok (.bastore, 1) := by decide +kernel
theorem d_329_16 : decode m329.2.1 16 = .ok (.iconst 0, 1) := by decide +kernel
theorem d_329_17 : decode m329.2.1 17 = .ok (.istore_n 2, 1) := by decide +kernel
theorem d_329_18 : decode m329.2.1 18 = .ok (.iload_n 2, 1) := by decide +kernel
theorem d_329_19 : decode m329.2.1 19 = .ok (.bipush 41, 2) := by decide +kernel
theorem d_329_21 : decode m329.2.1 21 = .ok (.if_icmp .ge 26, 3) := by decide +kernel
theorem d_329_24 : decode m329.2.1 24 = .ok (.aload_n 0, 1) := by decide +kernel
theorem d_329_25 : decode m329.2.1 25 = .ok (.getfield 142, 3) := by decide +kernel
theorem d_329_28 : decode m329.2.1 28 = .ok (.bipush 41, 2) := by decide +kernel
theorem d_329_30 : decode m329.2.1 30 = .ok (.iload_n 1, 1) := by decide +kernel
theorem d_329_31 : decode m329.2.1 31 = .ok (.imul, 1) := by decide +kernel
theorem d_329_32 : decode m329.2.1 32 = .ok (.iload_n 2, 1) := by decide +kernel
theorem d_329_33 : decode m329.2.1 33 = .ok (.iadd, 1) := by decide +kernel
theorem d_329_34 : decode m329.2.1 34 = .ok (.aload_n 0, 1) := by decide +kernel
theorem d_329_35 : decode m329.2.1 35 = .ok (.getfield 93, 3) := by decide +kernel
theorem d_329_38 : decode m329.2.1 38 = .ok (.iload_n 2, 1) := by decide +kernel
theorem d_329_39 : decode m329.2.1 39 = .ok (.iaload, 1) := by decide +kernel
theorem d_329_40 : decode m329.2.1 40 = .ok (.iastore, 1) := by decide +kernel
theorem d_329_41 : decode m329.2.1 41 = .ok (.iinc 2 1, 3) := by decide +kernel
theorem d_329_44 : decode m329.2.1 44 = .ok (.goto (-26), 3) := by decide +kernel
theorem d_329_47 : decode m329.2.1 47 = .ok (.aload_n 0, 1) := by decide +kernel
theorem d_329_48 : decode m329.2.1 48 = .ok (.invokevirtual 556, 3) := by decide +kernel
theorem d_329_51 : decode m329.2.1 51 = .ok (.ireturn, 1) := by decide +kernel
theorem d_330_0 : decode m330.2.1 0 = .ok (.iload_n 0, 1) := by decide +kernel
theorem d_330_1 : decode m330.2.1 1 = .ok (.ifCond .lt 12, 3) := by decide +kernel
theorem d_330_4 : decode m330.2.1 4 = .ok (.iload_n 0, 1) := by decide +kernel
theorem d_330_5 : decode m330.2.1 5 = .ok (.iconst 3, 1) := by decide +kernel
theorem d_330_6 : decode m330.2.1 6 = .ok (.if_icmp .ge 7, 3) := by decide +kernel
theorem d_330_9 : decode m330.2.1 9 = .ok (.iconst 1, 1) := by decide +kernel
theorem d_330_10 : decode m330.2.1 10 = .ok (.goto 4, 3) := by decide +kernel
theorem d_330_13 : decode m330.2.1 13 = .ok (.iconst 0, 1) := by decide +kernel
theorem d_330_14 : decode m330.2.1 14 = .ok (.ireturn, 1) := by decide +kernel
theorem d_331_0 : decode m331.2.1 0 = .ok (.iconst 0, 1) := by decide +kernel
theorem d_331_1 : decode m331.2.1 1 = .ok (.istore_n 1, 1) := by decide +kernel
theorem d_331_2 : decode m331.2.1 2 = .ok (.iconst 0, 1) := by decide +kernel
theorem d_331_3 : decode m331.2.1 3 = .ok (.istore_n 2, 1) := by decide +kernel
theorem d_331_4 : decode m331.2.1 4 = .ok (.iload_n 2, 1) := by decide +kernel
theorem d_331_5 : decode m331.2.1 5 = .ok (.aload_n 0, 1) := by decide +kernel
theorem d_331_6 : decode m331.2.1 6 = .ok (.getfield 322, 3) := by decide +kernel
theorem d_331_9 : decode m331.2.1 9 = .ok (.if_icmp .ge 29, 3) := by decide +kernel
theorem d_331_12 : decode m331.2.1 12 = .ok (.iload_n 1, 1) := by decide +kernel
theorem d_331_13 : decode m331.2.1 13 = .ok (.aload_n 0, 1) := by decide +kernel
theorem d_331_14 : decode m331.2.1 14 = .ok (.getfield 93, 3) := by decide +kernel
theorem d_331_17 : decode m331.2.1 17 = .ok (.iload_n 2, 1) := by decide +kernel
theorem d_331_18 : decode m331.2.1 18 = .ok (.iaload, 1) := by decide +kernel
theorem d_331_19 : decode m331.2.1 19 = .ok (.ifCond .le 7, 3) := by decide +kernel
theorem d_331_22 : decode m331.2.1 22 = .ok (.iconst 1, 1) := by decide +kernel
theorem d_331_23 : decode m331.2.1 23 = .ok (.goto 4, 3) := by decide +kernel
theorem d_331_26 : decode m331.2.1 26 = .ok (.iconst 0, 1) := by decide +kernel
theorem d_331_27 : decode m331.2.1 27 = .ok (.invokestatic 318, 3) := by decide +kernel
theorem d_331_30 : decode m331.2.1 30 = .ok (.iadd, 1) := by decide +kernel
theorem d_331_31 : decode m331.2.1 31 = .ok (.istore_n 1, 1) := by decide +kernel
theorem d_331_32 : decode m331.2.1 32 = .ok (.iinc 2 1, 3) := by decide +kernel
theorem d_331_35 : decode m331.2.1 35 = .ok (.goto (-31), 3) := by decide +kernel
theorem d_331_38 : decode m331.2.1 38 = .ok (.iload_n 1, 1) := by decide +kernel
theorem d_331_39 : decode m331.2.1 39 = .ok (.ireturn, 1) := by decide +kernel
theorem d_332_0 : decode m332.2.1 0 = .ok (.iload_n 1, 1) := by decide +kernel
theorem d_332_1 : decode m332.2.1 1 = .ok (.invokestatic 553, 3) := by decide +kernel
theorem d_332_4 : decode m332.2.1 4 = .ok (.ifCond .eq 12, 3) := by decide +kernel
theorem d_332_7 : decode m332.2.1 7 = .ok (.aload_n 0, 1) := by decide +kernel
theorem d_332_8 : decode m332.2.1 8 = .ok (.getfield 139, 3) := by decide +kernel
theorem d_332_11 : decode m332.2.1 11 = .ok (.iload_n 1, 1) := by decide +kernel
theorem d_332_12 : decode m332.2.1 12 = .ok (.baload, 1) := by decide +kernel
theorem d_332_13 : decode m332.2.1 13 = .ok (.ifCond .ne 5, 3) := by decide +kernel
theorem d_332_16 : decode m332.2.1 16 = .ok (.iconst (-1), 1) := by decide +kernel
theorem d_332_17 : decode m332.2.1 17 = .ok (.ireturn, 1) := by decide +kernel
theorem d_332_18 : decode m332.2.1 18 = .ok (.iconst 0, 1) := by decide +kernel
theorem d_332_19 : decode m332.2.1 19 = .ok (.istore_n 2, 1) := by decide +kernel
theorem d_332_20 : decode m332.2.1 20 = .ok (.iload_n 2, 1) := by decide +kernel
theorem d_332_21 : decode m332.2.1 21 = .ok (.bipush 41, 2) := by decide +kernel
theorem d_332_23 : decode m332.2.1 23 = .ok (.if_icmp .ge 26, 3) := by decide +kernel
theorem d_332_26 : decode m332.2.1 26 = .ok (.aload_n 0, 1) := by decide +kernel
theorem d_332_27 : decode m332.2.1 27 = .ok (.getfield 93, 3) := by decide +kernel
theorem d_332_30 : decode m332.2.1 30 = .ok (.iload_n 2, 1) := by decide +kernel
theorem d_332_31 : decode m332.2.1 31 = .ok (.aload_n 0, 1) := by decide +kernel
theorem d_332_32 : decode m332.2.1 32 = .ok (.getfield 142, 3) := by decide +kernel
theorem d_332_35 : decode m332.2.1 35 = .ok (.bipush 41, 2) := by decide +kernel
theorem d_332_37 : decode m332.2.1 37 = .ok (.iload_n 1, 1) := by decide +kernel
theorem d_332_38 : decode m332.2.1 38 = .ok (.imul, 1) := by decide +kernel
theorem d_332_39 : decode m332.2.1 39 = .ok (.iload_n 2, 1) := by decide +kernel
theorem d_332_40 : decode m332.2.1 40 = .ok (.iadd, 1) := by decide +kernel
theorem d_332_41 : decode m332.2.1 41 = .ok (.iaload, 1) := by decide +kernel
theorem d_332_42 : decode m332.2.1 42 = .ok (.iastore, 1) := by decide +kernel
theorem d_332_43 : decode m332.2.1 43 = .ok (.iinc 2 1, 3) := by decide +kernel
theorem d_332_46 : decode m332.2.1 46 = .ok (.goto (-26), 3) := by decide +kernel
theorem d_332_49 : decode m332.2.1 49 = .ok (.aload_n 0, 1) := by decide +kernel
theorem d_332_50 : decode m332.2.1 50 = .ok (.iconst 0, 1) := by decide +kernel
theorem d_332_51 : decode m332.2.1 51 = .ok (.putfield 417, 3) := by decide +kernel
theorem d_332_54 : decode m332.2.1 54 = .ok (.aload_n 0, 1) := by decide +kernel
theorem d_332_55 : decode m332.2.1 55 = .ok (.iconst 0, 1) := by decide +kernel
theorem d_332_56 : decode m332.2.1 56 = .ok (.putfield 420, 3) := by decide +kernel
theorem d_332_59 : decode m332.2.1 59 = .ok (.aload_n 0, 1) := by decide +kernel
theorem d_332_60 : decode m332.2.1 60 = .ok (.invokevirtual 556, 3) := by decide +kernel
theorem d_332_63 : decode m332.2.1 63 = .ok (.ireturn, 1) := by decide +kernel
theorem d_333_0 : decode m333.2.1 0 = .ok (.iload_n 1, 1) := by decide +kernel
theorem d_333_1 : decode m333.2.1 1 = .ok (.invokestatic 553, 3) := by decide +kernel
theorem d_333_4 : decode m333.2.1 4 = .ok (.ifCond .eq 12, 3) := by decide +kernel
theorem d_333_7 : decode m333.2.1 7 = .ok (.aload_n 0, 1) := by decide +kernel
theorem d_333_8 : decode m333.2.1 8 = .ok (.getfield 139, 3) := by decide +kernel
theorem d_333_11 : decode m333.2.1 11 = .ok (.iload_n 1, 1) := by decide +kernel
theorem d_333_12 : decode m333.2.1 12 = .ok (.baload, 1) := by decide +kernel
theorem d_333_13 : decode m333.2.1 13 = .ok (.ifCond .ne 5, 3) := by decide +kernel
theorem d_333_16 : decode m333.2.1 16 = .ok (.iconst (-1), 1) := by decide +kernel
theorem d_333_17 : decode m333.2.1 17 = .ok (.ireturn, 1) := by decide +kernel
theorem d_333_18 : decode m333.2.1 18 = .ok (.iconst 0, 1) := by decide +kernel
theorem d_333_19 : decode m333.2.1 19 = .ok (.istore_n 2, 1) := by decide +kernel
theorem d_333_20 : decode m333.2.1 20 = .ok (.iconst 0, 1) := by decide +kernel
theorem d_333_21 : decode m333.2.1 21 = .ok (.istore_n 3, 1) := by decide +kernel
theorem d_333_22 : decode m333.2.1 22 = .ok (.iload_n 3, 1) := by decide +kernel
theorem d_333_23 : decode m333.2.1 23 = .ok (.bipush 40, 2) := by decide +kernel
theorem d_333_25 : decode m333.2.1 25 = .ok (.if_icmp .ge 38, 3) := by decide +kernel
theorem d_333_28 : decode m333.2.1 28 = .ok (.aload_n 0, 1) := by decide +kernel
theorem d_333_29 : decode m333.2.1 29 = .ok (.getfield 142, 3) := by decide +kernel
theorem d_333_32 : decode m333.2.1 32 = .ok (.bipush 41, 2) := by decide +kernel
theorem d_333_34 : decode m333.2.1 34 = .ok (.iload_n 1, 1) := by decide +kernel
theorem d_333_35 : decode m333.2.1 35 = .ok (.imul, 1) := by decide +kernel
theorem d_333_36 : decode m333.2.1 36 = .ok (.iload_n 3, 1) := by decide +kernel
theorem d_333_37 : decode m333.2.1 37 = .ok (.iadd, 1) := by decide +kernel
theorem d_333_38 : decode m333.2.1 38 = .ok (.iaload, 1) := by decide +kernel
theorem d_333_39 : decode m333.2.1 39 = .ok (.aload_n 0, 1) := by decide +kernel
theorem d_333_40 : decode m333.2.1 40 = .ok (.getfield 93, 3) := by decide +kernel
theorem d_333_43 : decode m333.2.1 43 = .ok (.iload_n 3, 1) := by decide +kernel
theorem d_333_44 : decode m333.2.1 44 = .ok (.iaload, 1) := by decide +kernel
theorem d_333_45 : decode m333.2.1 45 = .ok (.if_icmp .eq 12, 3) := by decide +kernel
theorem d_333_48 : decode m333.2.1 48 = .ok (.iload_n 2, 1) := by decide +kernel
theorem d_333_49 : decode m333.2.1 49 = .ok (.iconst 1, 1) := by decide +kernel
theorem d_333_50 : decode m333.2.1 50 = .ok (.iload_n 3, 1) := by decide +kernel
theorem d_333_51 : decode m333.2.1 51 = .ok (.bipush 10, 2) := by decide +kernel
theorem d_333_53 : decode m333.2.1 53 = .ok (.irem, 1) := by decide +kernel
theorem d_333_54 : decode m333.2.1 54 = .ok (.ishl, 1) := by decide +kernel
theorem d_333_55 : decode m333.2.1 55 = .ok (.ior, 1) := by decide +kernel
theorem d_333_56 : decode m333.2.1 56 = .ok (.istore_n 2, 1) := by decide +kernel
theorem d_333_57 : decode m333.2.1 57 = .ok (.iinc 3 1, 3) := by decide +kernel
theorem d_333_60 : decode m333.2.1 60 = .ok (.goto (-38), 3) := by decide +kernel
theorem d_333_63 : decode m333.2.1 63 = .ok (.iload_n 2, 1) := by decide +kernel
theorem d_333_64 : decode m333.2.1 64 = .ok (.ireturn, 1) := by decide +kernel
theorem d_334_0 : decode m334.2.1 0 = .ok (.iload_n 1, 1) := by decide +kernel
theorem d_334_1 : decode m334.2.1 1 = .ok (.tableswitch 162 0 15 #[79, 84, 89, 94, 99, 104, 109, 114, 122, 127, 132, 137, 142, 147, 152, 157], 79) := by decide +kernel
theorem d_334_80 : decode m334.2.1 80 = .ok (.aload_n 0, 1) := by decide +kernel
theorem d_334_81 : decode m334.2.1 81 = .ok (.getfield 322, 3) := by decide +kernel
theorem d_334_84 : decode m334.2.1 84 = .ok (.ireturn, 1) := by decide +kernel
theorem d_334_85 : decode m334.2.1 85 = .ok (.aload_n 0, 1) := by decide +kernel
theorem d_334_86 : decode m334.2.1 86 = .ok (.getfield 405, 3) := by decide +kernel
theorem d_334_89 : decode m334.2.1 89 = .ok (.ireturn, 1) := by decide +kernel
theorem d_334_90 : decode m334.2.1 90 = .ok (.aload_n 0, 1) := by decide +kernel
theorem d_334_91 : decode m334.2.1 91 = .ok (.getfield 78, 3) := by decide +kernel
theorem d_334_94 : decode m334.2.1 94 = .ok (.ireturn, 1) := by decide +kernel
theorem d_334_95 : decode m334.2.1 95 = .ok (.aload_n 0, 1) := by decide +kernel
theorem d_334_96 : decode m334.2.1 96 = .ok (.getfield 81, 3) := by decide +kernel
theorem d_334_99 : decode m334.2.1 99 = .ok (.ireturn, 1) := by decide +kernel
theorem d_334_100 : decode m334.2.1 100 = .ok (.aload_n 0, 1) := by decide +kernel
theorem d_334_101 : decode m334.2.1 101 = .ok (.getfield 84, 3) := by decide +kernel
theorem d_334_104 : decode m334.2.1 104 = .ok (.ireturn, 1) := by decide +kernel
theorem d_334_105 : decode m334.2.1 105 = .ok (.aload_n 0, 1) := by decide +kernel
theorem d_334_106 : decode m334.2.1 106 = .ok (.getfield 87, 3) := by decide +kernel
theorem d_334_109 : decode m334.2.1 109 = .ok (.ireturn, 1) := by decide +kernel
theorem d_334_110 : decode m334.2.1 110 = .ok (.aload_n 0, 1) := by decide +kernel
theorem d_334_111 : decode m334.2.1 111 = .ok (.getfield 90, 3) := by decide +kernel
theorem d_334_114 : decode m334.2.1 114 = .ok (.ireturn, 1) := by decide +kernel
theorem d_334_115 : decode m334.2.1 115 = .ok (.aload_n 0, 1) := by decide +kernel
theorem d_334_116 : decode m334.2.1 116 = .ok (.getfield 93, 3) := by decide +kernel
theorem d_334_119 : decode m334.2.1 119 = .ok (.bipush 40, 2) := by decide +kernel
theorem d_334_121 : decode m334.2.1 121 = .ok (.iaload, 1) := by decide +kernel
theorem d_334_122 : decode m334.2.1 122 = .ok (.ireturn, 1) := by decide +kernel
theorem d_334_123 : decode m334.2.1 123 = .ok (.aload_n 0, 1) := by decide +kernel
theorem d_334_124 : decode m334.2.1 124 = .ok (.getfield 417, 3) := by decide +kernel
theorem d_334_127 : decode m334.2.1 127 = .ok (.ireturn, 1) := by decide +kernel
theorem d_334_128 : decode m334.2.1 128 = .ok (.aload_n 0, 1) := by decide +kernel
theorem d_334_129 : decode m334.2.1 129 = .ok (.getfield 420, 3) := by decide +kernel
theorem d_334_132 : decode m334.2.1 132 = .ok (.ireturn, 1) := by decide +kernel
theorem d_334_133 : decode m334.2.1 133 = .ok (.aload_n 0, 1) := by decide +kernel
theorem d_334_134 : decode m334.2.1 134 = .ok (.getfield 423, 3) := by decide +kernel
theorem d_334_137 : decode m334.2.1 137 = .ok (.ireturn, 1) := by decide +kernel
theorem d_334_138 : decode m334.2.1 138 = .ok (.aload_n 0, 1) := by decide +kernel
theorem d_334_139 : decode m334.2.1 139 = .ok (.getfield 539, 3) := by decide +kernel
theorem d_334_142 : decode m334.2.1 142 = .ok (.ireturn, 1) := by decide +kernel
theorem d_334_143 : decode m334.2.1 143 = .ok (.aload_n 0, 1) := by decide +kernel
theorem d_334_144 : decode m334.2.1 144 = .ok (.getfield 145, 3) := by decide +kernel
theorem d_334_147 : decode m334.2.1 147 = .ok (.ireturn, 1) := by decide +kernel
theorem d_334_148 : decode m334.2.1 148 = .ok (.aload_n 0, 1) := by decide +kernel
theorem d_334_149 : decode m334.2.1 149 = .ok (.getfield 408, 3) := by decide +kernel
theorem d_334_152 : decode m334.2.1 152 = .ok (.ireturn, 1) := by decide +kernel
theorem d_334_153 : decode m334.2.1 153 = .ok (.aload_n 0, 1) := by decide +kernel
theorem d_334_154 : decode m334.2.1 154 = .ok (.getfield 426, 3) := by decide +kernel
theorem d_334_157 : decode m334.2.1 157 = .ok (.ireturn, 1) := by decide +kernel
theorem d_334_158 : decode m334.2.1 158 = .ok (.aload_n 0, 1) := by decide +kernel
theorem d_334_159 : decode m334.2.1 159 = .ok (.invokevirtual 556, 3) := by decide +kernel
theorem d_334_162 : decode m334.2.1 162 = .ok (.ireturn, 1) := by decide +kernel
theorem d_334_163 : decode m334.2.1 163 = .ok (.iconst (-1), 1) := by decide +kernel
theorem d_334_164 : decode m334.2.1 164 = .ok (.ireturn, 1) := by decide +kernel
