theorem dd_Z_law_0 : dq mZ_law.2.1 [(0, .new 7, 3), (3, .dup, 1), (4, .invokespecial 9, 3), (7, .astore_n 1, 1), (8, .new 10, 3), (11, .dup, 1), (12, .invokespecial 12, 3), (15, .astore_n 2, 1), (16, .iconst 0, 1), (17, .istore_n 3, 1), (18, .iload_n 3, 1), (19, .aload_n 0, 1), (20, .arraylength, 1), (21, .bipush 6, 2), (23, .isub, 1), (24, .if_icmp .gt 1415, 3), (27, .aload_n 0, 1), (28, .iload_n 3, 1), (29, .iaload, 1), (30, .bipush 63, 2), (32, .iand, 1), (33, .tableswitch 1400 0 46 #[203, 266, 289, 302, 325, 358, 391, 424, 447, 470, 503, 536, 569, 602, 625, 638, 651, 664, 677, 700, 733, 766, 809, 842, 865, 888, 911, 924, 947, 960, 973, 996, 1009, 1032, 1055, 1068, 1091, 1114, 1173, 1196, 1219, 1242, 1275, 1308, 1331, 1354, 1377], 203), (236, .aload_n 1, 1), (237, .aload_n 0, 1), (238, .iload_n 3, 1), (239, .iconst 1, 1), (240, .iadd, 1), (241, .iaload, 1), (242, .aload_n 0, 1), (243, .iload_n 3, 1), (244, .iconst 2, 1), (245, .iadd, 1)] = true := by decide +kernel
theorem d_Z_law_0 : decode mZ_law.2.1 0 = .ok (.new 7, 3) := dq_get dd_Z_law_0 (i := 0) rfl
theorem d_Z_law_3 : decode mZ_law.2.1 3 = .ok (.dup, 1) := dq_get dd_Z_law_0 (i := 1) rfl
theorem d_Z_law_4 : decode mZ_law.2.1 4 = .ok (.invokespecial 9, 3) := dq_get dd_Z_law_0 (i := 2) rfl
theorem d_Z_law_7 : decode mZ_law.2.1 7 = .ok (.astore_n 1, 1) := dq_get dd_Z_law_0 (i := 3) rfl
theorem d_Z_law_8 : decode mZ_law.2.1 8 = .ok (.new 10, 3) := dq_get dd_Z_law_0 (i := 4) rfl
theorem d_Z_law_11 : decode mZ_law.2.1 11 = .ok (.dup, 1) := dq_get dd_Z_law_0 (i := 5) rfl
theorem d_Z_law_12 : decode mZ_law.2.1 12 = .ok (.invokespecial 12, 3) := dq_get dd_Z_law_0 (i := 6) rfl
theorem d_Z_law_15 : decode mZ_law.2.1 15 = .ok (.astore_n 2, 1) := dq_get dd_Z_law_0 (i := 7) rfl
theorem d_Z_law_16 : decode mZ_law.2.1 16 = .ok (.iconst 0, 1) := dq_get dd_Z_law_0 (i := 8) rfl
theorem d_Z_law_17 : decode mZ_law.2.1 17 = .ok (.istore_n 3, 1) := dq_get dd_Z_law_0 (i := 9) rfl
theorem d_Z_law_18 : decode mZ_law.2.1 18 = .ok (.iload_n 3, 1) := dq_get dd_Z_law_0 (i := 10) rfl
theorem d_Z_law_19 : decode mZ_law.2.1 19 = .ok (.aload_n 0, 1) := dq_get dd_Z_law_0 (i := 11) rfl
theorem d_Z_law_20 : decode mZ_law.2.1 20 = .ok (.arraylength, 1) := dq_get dd_Z_law_0 (i := 12) rfl
theorem d_Z_law_21 : decode mZ_law.2.1 21 = .ok (.bipush 6, 2) := dq_get dd_Z_law_0 (i := 13) rfl
theorem d_Z_law_23 : decode mZ_law.2.1 23 = .ok (.isub, 1) := dq_get dd_Z_law_0 (i := 14) rfl
theorem d_Z_law_24 : decode mZ_law.2.1 24 = .ok (.if_icmp .gt 1415, 3) := dq_get dd_Z_law_0 (i := 15) rfl
theorem d_Z_law_27 : decode mZ_law.2.1 27 = .ok (.aload_n 0, 1) := dq_get dd_Z_law_0 (i := 16) rfl
theorem d_Z_law_28 : decode mZ_law.2.1 28 = .ok (.iload_n 3, 1) := dq_get dd_Z_law_0 (i := 17) rfl
theorem d_Z_law_29 : decode mZ_law.2.1 29 = .ok (.iaload, 1) := dq_get dd_Z_law_0 (i := 18) rfl
theorem d_Z_law_30 : decode mZ_law.2.1 30 = .ok (.bipush 63, 2) := dq_get dd_Z_law_0 (i := 19) rfl
theorem d_Z_law_32 : decode mZ_law.2.1 32 = .ok (.iand, 1) := dq_get dd_Z_law_0 (i := 20) rfl
theorem d_Z_law_33 : decode mZ_law.2.1 33 = .ok (.tableswitch 1400 0 46 #[203, 266, 289, 302, 325, 358, 391, 424, 447, 470, 503, 536, 569, 602, 625, 638, 651, 664, 677, 700, 733, 766, 809, 842, 865, 888, 911, 924, 947, 960, 973, 996, 1009, 1032, 1055, 1068, 1091, 1114, 1173, 1196, 1219, 1242, 1275, 1308, 1331, 1354, 1377], 203) := dq_get dd_Z_law_0 (i := 21) rfl
theorem d_Z_law_236 : decode mZ_law.2.1 236 = .ok (.aload_n 1, 1) := dq_get dd_Z_law_0 (i := 22) rfl
theorem d_Z_law_237 : decode mZ_law.2.1 237 = .ok (.aload_n 0, 1) := dq_get dd_Z_law_0 (i := 23) rfl
theorem d_Z_law_238 : decode mZ_law.2.1 238 = .ok (.iload_n 3, 1) := dq_get dd_Z_law_0 (i := 24) rfl
theorem d_Z_law_239 : decode mZ_law.2.1 239 = .ok (.iconst 1, 1) := dq_get dd_Z_law_0 (i := 25) rfl
theorem d_Z_law_240 : decode mZ_law.2.1 240 = .ok (.iadd, 1) := dq_get dd_Z_law_0 (i := 26) rfl
theorem d_Z_law_241 : decode mZ_law.2.1 241 = .ok (.iaload, 1) := dq_get dd_Z_law_0 (i := 27) rfl
theorem d_Z_law_242 : decode mZ_law.2.1 242 = .ok (.aload_n 0, 1) := dq_get dd_Z_law_0 (i := 28) rfl
theorem d_Z_law_243 : decode mZ_law.2.1 243 = .ok (.iload_n 3, 1) := dq_get dd_Z_law_0 (i := 29) rfl
theorem d_Z_law_244 : decode mZ_law.2.1 244 = .ok (.iconst 2, 1) := dq_get dd_Z_law_0 (i := 30) rfl
theorem d_Z_law_245 : decode mZ_law.2.1 245 = .ok (.iadd, 1) := dq_get dd_Z_law_0 (i := 31) rfl
theorem dd_Z_law_32 : dq mZ_law.2.1 [(246, .iaload, 1), (247, .aload_n 0, 1), (248, .iload_n 3, 1), (249, .iconst 3, 1), (250, .iadd, 1), (251, .iaload, 1), (252, .aload_n 0, 1), (253, .iload_n 3, 1), (254, .iconst 4, 1), (255, .iadd, 1), (256, .iaload, 1), (257, .aload_n 0, 1), (258, .iload_n 3, 1), (259, .iconst 5, 1), (260, .iadd, 1), (261, .iaload, 1), (262, .invokevirtual 13, 3), (265, .pop, 1), (266, .aload_n 2, 1), (267, .aload_n 0, 1), (268, .iload_n 3, 1), (269, .iconst 1, 1), (270, .iadd, 1), (271, .iaload, 1), (272, .aload_n 0, 1), (273, .iload_n 3, 1), (274, .iconst 2, 1), (275, .iadd, 1), (276, .iaload, 1), (277, .aload_n 0, 1), (278, .iload_n 3, 1), (279, .iconst 3, 1)] = true := by decide +kernel
theorem d_Z_law_246 : decode mZ_law.2.1 246 = .ok (.iaload, 1) := dq_get dd_Z_law_32 (i := 0) rfl
theorem d_Z_law_247 : decode mZ_law.2.1 247 = .ok (.aload_n 0, 1) := dq_get dd_Z_law_32 (i := 1) rfl
theorem d_Z_law_248 : decode mZ_law.2.1 248 = .ok (.iload_n 3, 1) := dq_get dd_Z_law_32 (i := 2) rfl
theorem d_Z_law_249 : decode mZ_law.2.1 249 = .ok (.iconst 3, 1) := dq_get dd_Z_law_32 (i := 3) rfl
theorem d_Z_law_250 : decode mZ_law.2.1 250 = .ok (.iadd, 1) := dq_get dd_Z_law_32 (i := 4) rfl
theorem d_Z_law_251 : decode mZ_law.2.1 251 = .ok (.iaload, 1) := dq_get dd_Z_law_32 (i := 5) rfl
theorem d_Z_law_252 : decode mZ_law.2.1 252 = .ok (.aload_n 0, 1) := dq_get dd_Z_law_32 (i := 6) rfl
theorem d_Z_law_253 : decode mZ_law.2.1 253 = .ok (.iload_n 3, 1) := dq_get dd_Z_law_32 (i := 7) rfl
theorem d_Z_law_254 : decode mZ_law.2.1 254 = .ok (.iconst 4, 1) := dq_get dd_Z_law_32 (i := 8) rfl
theorem d_Z_law_255 : decode mZ_law.2.1 255 = .ok (.iadd, 1) := dq_get dd_Z_law_32 (i := 9) rfl
theorem d_Z_law_256 : decode mZ_law.2.1 256 = .ok (.iaload, 1) := dq_get dd_Z_law_32 (i := 10) rfl
theorem d_Z_law_257 : decode mZ_law.2.1 257 = .ok (.aload_n 0, 1) := dq_get dd_Z_law_32 (i := 11) rfl
theorem d_Z_law_258 : decode mZ_law.2.1 258 = .ok (.iload_n 3, 1) := dq_get dd_Z_law_32 (i := 12) rfl
theorem d_Z_law_259 : decode mZ_law.2.1 259 = .ok (.iconst 5, 1) := dq_get dd_Z_law_32 (i := 13) rfl
theorem d_Z_law_260 : decode mZ_law.2.1 260 = .ok (.iadd, 1) := dq_get dd_Z_law_32 (i := 14) rfl
theorem d_Z_law_261 : decode mZ_law.2.1 261 = .ok (.iaload, 1) := dq_get dd_Z_law_32 (i := 15) rfl
theorem d_Z_law_262 : decode mZ_law.2.1 262 = .ok (.invokevirtual 13, 3) := dq_get dd_Z_law_32 (i := 16) rfl
theorem d_Z_law_265 : decode mZ_law.2.1 265 = .ok (.pop, 1) := dq_get dd_Z_law_32 (i := 17) rfl
theorem d_Z_law_266 : decode mZ_law.2.1 266 = .ok (.aload_n 2, 1) := dq_get dd_Z_law_32 (i := 18) rfl
theorem d_Z_law_267 : decode mZ_law.2.1 267 = .ok (.aload_n 0, 1) := dq_get dd_Z_law_32 (i := 19) rfl
theorem d_Z_law_268 : decode mZ_law.2.1 268 = .ok (.iload_n 3, 1) := dq_get dd_Z_law_32 (i := 20) rfl
theorem d_Z_law_269 : decode mZ_law.2.1 269 = .ok (.iconst 1, 1) := dq_get dd_Z_law_32 (i := 21) rfl
theorem d_Z_law_270 : decode mZ_law.2.1 270 = .ok (.iadd, 1) := dq_get dd_Z_law_32 (i := 22) rfl
theorem d_Z_law_271 : decode mZ_law.2.1 271 = .ok (.iaload, 1) := dq_get dd_Z_law_32 (i := 23) rfl
theorem d_Z_law_272 : decode mZ_law.2.1 272 = .ok (.aload_n 0, 1) := dq_get dd_Z_law_32 (i := 24) rfl
theorem d_Z_law_273 : decode mZ_law.2.1 273 = .ok (.iload_n 3, 1) := dq_get dd_Z_law_32 (i := 25) rfl
theorem d_Z_law_274 : decode mZ_law.2.1 274 = .ok (.iconst 2, 1) := dq_get dd_Z_law_32 (i := 26) rfl
theorem d_Z_law_275 : decode mZ_law.2.1 275 = .ok (.iadd, 1) := dq_get dd_Z_law_32 (i := 27) rfl
theorem d_Z_law_276 : decode mZ_law.2.1 276 = .ok (.iaload, 1) := dq_get dd_Z_law_32 (i := 28) rfl
theorem d_Z_law_277 : decode mZ_law.2.1 277 = .ok (.aload_n 0, 1) := dq_get dd_Z_law_32 (i := 29) rfl
theorem d_Z_law_278 : decode mZ_law.2.1 278 = .ok (.iload_n 3, 1) := dq_get dd_Z_law_32 (i := 30) rfl
theorem d_Z_law_279 : decode mZ_law.2.1 279 = .ok (.iconst 3, 1) := dq_get dd_Z_law_32 (i := 31) rfl
theorem dd_Z_law_64 : dq mZ_law.2.1 [(280, .iadd, 1), (281, .iaload, 1), (282, .aload_n 0, 1), (283, .iload_n 3, 1), (284, .iconst 4, 1), (285, .iadd, 1), (286, .iaload, 1), (287, .aload_n 0, 1), (288, .iload_n 3, 1), (289, .iconst 5, 1), (290, .iadd, 1), (291, .iaload, 1), (292, .invokevirtual 17, 3), (295, .pop, 1), (296, .goto 1137, 3), (299, .aload_n 1, 1), (300, .aload_n 0, 1), (301, .iload_n 3, 1), (302, .iconst 1, 1), (303, .iadd, 1), (304, .iaload, 1), (305, .invokevirtual 18, 3), (308, .pop, 1), (309, .aload_n 2, 1), (310, .aload_n 0, 1), (311, .iload_n 3, 1), (312, .iconst 1, 1), (313, .iadd, 1), (314, .iaload, 1), (315, .invokevirtual 22, 3), (318, .pop, 1), (319, .goto 1114, 3)] = true := by decide +kernel
theorem d_Z_law_280 : decode mZ_law.2.1 280 = .ok (.iadd, 1) := dq_get dd_Z_law_64 (i := 0) rfl
theorem d_Z_law_281 : decode mZ_law.2.1 281 = .ok (.iaload, 1) := dq_get dd_Z_law_64 (i := 1) rfl
theorem d_Z_law_282 : decode mZ_law.2.1 282 = .ok (.aload_n 0, 1) := dq_get dd_Z_law_64 (i := 2) rfl
theorem d_Z_law_283 : decode mZ_law.2.1 283 = .ok (.iload_n 3, 1) := dq_get dd_Z_law_64 (i := 3) rfl
theorem d_Z_law_284 : decode mZ_law.2.1 284 = .ok (.iconst 4, 1) := dq_get dd_Z_law_64 (i := 4) rfl
theorem d_Z_law_285 : decode mZ_law.2.1 285 = .ok (.iadd, 1) := dq_get dd_Z_law_64 (i := 5) rfl
theorem d_Z_law_286 : decode mZ_law.2.1 286 = .ok (.iaload, 1) := dq_get dd_Z_law_64 (i := 6) rfl
theorem d_Z_law_287 : decode mZ_law.2.1 287 = .ok (.aload_n 0, 1) := dq_get dd_Z_law_64 (i := 7) rfl
theorem d_Z_law_288 : decode mZ_law.2.1 288 = .ok (.iload_n 3, 1) := dq_get dd_Z_law_64 (i := 8) rfl
theorem d_Z_law_289 : decode mZ_law.2.1 289 = .ok (.iconst 5, 1) := dq_get dd_Z_law_64 (i := 9) rfl
theorem d_Z_law_290 : decode mZ_law.2.1 290 = .ok (.iadd, 1) := dq_get dd_Z_law_64 (i := 10) rfl
theorem d_Z_law_291 : decode mZ_law.2.1 291 = .ok (.iaload, 1) := dq_get dd_Z_law_64 (i := 11) rfl
theorem d_Z_law_292 : decode mZ_law.2.1 292 = .ok (.invokevirtual 17, 3) := dq_get dd_Z_law_64 (i := 12) rfl
theorem d_Z_law_295 : decode mZ_law.2.1 295 = .ok (.pop, 1) := dq_get dd_Z_law_64 (i := 13) rfl
theorem d_Z_law_296 : decode mZ_law.2.1 296 = .ok (.goto 1137, 3) := dq_get dd_Z_law_64 (i := 14) rfl
theorem d_Z_law_299 : decode mZ_law.2.1 299 = .ok (.aload_n 1, 1) := dq_get dd_Z_law_64 (i := 15) rfl
theorem d_Z_law_300 : decode mZ_law.2.1 300 = .ok (.aload_n 0, 1) := dq_get dd_Z_law_64 (i := 16) rfl
theorem d_Z_law_301 : decode mZ_law.2.1 301 = .ok (.iload_n 3, 1) := dq_get dd_Z_law_64 (i := 17) rfl
theorem d_Z_law_302 : decode mZ_law.2.1 302 = .ok (.iconst 1, 1) := dq_get dd_Z_law_64 (i := 18) rfl
theorem d_Z_law_303 : decode mZ_law.2.1 303 = .ok (.iadd, 1) := dq_get dd_Z_law_64 (i := 19) rfl
theorem d_Z_law_304 : decode mZ_law.2.1 304 = .ok (.iaload, 1) := dq_get dd_Z_law_64 (i := 20) rfl
theorem d_Z_law_305 : decode mZ_law.2.1 305 = .ok (.invokevirtual 18, 3) := dq_get dd_Z_law_64 (i := 21) rfl
theorem d_Z_law_308 : decode mZ_law.2.1 308 = .ok (.pop, 1) := dq_get dd_Z_law_64 (i := 22) rfl
theorem d_Z_law_309 : decode mZ_law.2.1 309 = .ok (.aload_n 2, 1) := dq_get dd_Z_law_64 (i := 23) rfl
theorem d_Z_law_310 : decode mZ_law.2.1 310 = .ok (.aload_n 0, 1) := dq_get dd_Z_law_64 (i := 24) rfl
theorem d_Z_law_311 : decode mZ_law.2.1 311 = .ok (.iload_n 3, 1) := dq_get dd_Z_law_64 (i := 25) rfl
theorem d_Z_law_312 : decode mZ_law.2.1 312 = .ok (.iconst 1, 1) := dq_get dd_Z_law_64 (i := 26) rfl
theorem d_Z_law_313 : decode mZ_law.2.1 313 = .ok (.iadd, 1) := dq_get dd_Z_law_64 (i := 27) rfl
theorem d_Z_law_314 : decode mZ_law.2.1 314 = .ok (.iaload, 1) := dq_get dd_Z_law_64 (i := 28) rfl
theorem d_Z_law_315 : decode mZ_law.2.1 315 = .ok (.invokevirtual 22, 3) := dq_get dd_Z_law_64 (i := 29) rfl
theorem d_Z_law_318 : decode mZ_law.2.1 318 = .ok (.pop, 1) := dq_get dd_Z_law_64 (i := 30) rfl
theorem d_Z_law_319 : decode mZ_law.2.1 319 = .ok (.goto 1114, 3) := dq_get dd_Z_law_64 (i := 31) rfl
theorem dd_Z_law_96 : dq mZ_law.2.1 [(322, .aload_n 1, 1), (323, .invokevirtual 23, 3), (326, .pop, 1), (327, .aload_n 2, 1), (328, .invokevirtual 27, 3), (331, .pop, 1), (332, .goto 1101, 3), (335, .aload_n 1, 1), (336, .aload_n 0, 1), (337, .iload_n 3, 1), (338, .iconst 1, 1), (339, .iadd, 1), (340, .iaload, 1), (341, .invokevirtual 28, 3), (344, .pop, 1), (345, .aload_n 2, 1), (346, .aload_n 0, 1), (347, .iload_n 3, 1), (348, .iconst 1, 1), (349, .iadd, 1), (350, .iaload, 1), (351, .invokevirtual 31, 3), (354, .pop, 1), (355, .goto 1078, 3), (358, .aload_n 1, 1), (359, .aload_n 0, 1), (360, .iload_n 3, 1), (361, .iconst 1, 1), (362, .iadd, 1), (363, .iaload, 1), (364, .aload_n 0, 1), (365, .iload_n 3, 1)] = true := by decide +kernel
theorem d_Z_law_322 : decode mZ_law.2.1 322 = .ok (.aload_n 1, 1) := dq_get dd_Z_law_96 (i := 0) rfl
theorem d_Z_law_323 : decode mZ_law.2.1 323 = .ok (.invokevirtual 23, 3) := dq_get dd_Z_law_96 (i := 1) rfl
theorem d_Z_law_326 : decode mZ_law.2.1 326 = .ok (.pop, 1) := dq_get dd_Z_law_96 (i := 2) rfl
theorem d_Z_law_327 : decode mZ_law.2.1 327 = .ok (.aload_n 2, 1) := dq_get dd_Z_law_96 (i := 3) rfl
theorem d_Z_law_328 : decode mZ_law.2.1 328 = .ok (.invokevirtual 27, 3) := dq_get dd_Z_law_96 (i := 4) rfl
theorem d_Z_law_331 : decode mZ_law.2.1 331 = .ok (.pop, 1) := dq_get dd_Z_law_96 (i := 5) rfl
theorem d_Z_law_332 : decode mZ_law.2.1 332 = .ok (.goto 1101, 3) := dq_get dd_Z_law_96 (i := 6) rfl
theorem d_Z_law_335 : decode mZ_law.2.1 335 = .ok (.aload_n 1, 1) := dq_get dd_Z_law_96 (i := 7) rfl
theorem d_Z_law_336 : decode mZ_law.2.1 336 = .ok (.aload_n 0, 1) := dq_get dd_Z_law_96 (i := 8) rfl
theorem d_Z_law_337 : decode mZ_law.2.1 337 = .ok (.iload_n 3, 1) := dq_get dd_Z_law_96 (i := 9) rfl
theorem d_Z_law_338 : decode mZ_law.2.1 338 = .ok (.iconst 1, 1) := dq_get dd_Z_law_96 (i := 10) rfl
theorem d_Z_law_339 : decode mZ_law.2.1 339 = .ok (.iadd, 1) := dq_get dd_Z_law_96 (i := 11) rfl
theorem d_Z_law_340 : decode mZ_law.2.1 340 = .ok (.iaload, 1) := dq_get dd_Z_law_96 (i := 12) rfl
theorem d_Z_law_341 : decode mZ_law.2.1 341 = .ok (.invokevirtual 28, 3) := dq_get dd_Z_law_96 (i := 13) rfl
theorem d_Z_law_344 : decode mZ_law.2.1 344 = .ok (.pop, 1) := dq_get dd_Z_law_96 (i := 14) rfl
theorem d_Z_law_345 : decode mZ_law.2.1 345 = .ok (.aload_n 2, 1) := dq_get dd_Z_law_96 (i := 15) rfl
theorem d_Z_law_346 : decode mZ_law.2.1 346 = .ok (.aload_n 0, 1) := dq_get dd_Z_law_96 (i := 16) rfl
theorem d_Z_law_347 : decode mZ_law.2.1 347 = .ok (.iload_n 3, 1) := dq_get dd_Z_law_96 (i := 17) rfl
theorem d_Z_law_348 : decode mZ_law.2.1 348 = .ok (.iconst 1, 1) := dq_get dd_Z_law_96 (i := 18) rfl
theorem d_Z_law_349 : decode mZ_law.2.1 349 = .ok (.iadd, 1) := dq_get dd_Z_law_96 (i := 19) rfl
theorem d_Z_law_350 : decode mZ_law.2.1 350 = .ok (.iaload, 1) := dq_get dd_Z_law_96 (i := 20) rfl
theorem d_Z_law_351 : decode mZ_law.2.1 351 = .ok (.invokevirtual 31, 3) := dq_get dd_Z_law_96 (i := 21) rfl
theorem d_Z_law_354 : decode mZ_law.2.1 354 = .ok (.pop, 1) := dq_get dd_Z_law_96 (i := 22) rfl
theorem d_Z_law_355 : decode mZ_law.2.1 355 = .ok (.goto 1078, 3) := dq_get dd_Z_law_96 (i := 23) rfl
theorem d_Z_law_358 : decode mZ_law.2.1 358 = .ok (.aload_n 1, 1) := dq_get dd_Z_law_96 (i := 24) rfl
theorem d_Z_law_359 : decode mZ_law.2.1 359 = .ok (.aload_n 0, 1) := dq_get dd_Z_law_96 (i := 25) rfl
theorem d_Z_law_360 : decode mZ_law.2.1 360 = .ok (.iload_n 3, 1) := dq_get dd_Z_law_96 (i := 26) rfl
theorem d_Z_law_361 : decode mZ_law.2.1 361 = .ok (.iconst 1, 1) := dq_get dd_Z_law_96 (i := 27) rfl
theorem d_Z_law_362 : decode mZ_law.2.1 362 = .ok (.iadd, 1) := dq_get dd_Z_law_96 (i := 28) rfl
theorem d_Z_law_363 : decode mZ_law.2.1 363 = .ok (.iaload, 1) := dq_get dd_Z_law_96 (i := 29) rfl
theorem d_Z_law_364 : decode mZ_law.2.1 364 = .ok (.aload_n 0, 1) := dq_get dd_Z_law_96 (i := 30) rfl
theorem d_Z_law_365 : decode mZ_law.2.1 365 = .ok (.iload_n 3, 1) := dq_get dd_Z_law_96 (i := 31) rfl
theorem dd_Z_law_128 : dq mZ_law.2.1 [(366, .iconst 2, 1), (367, .iadd, 1), (368, .iaload, 1), (369, .invokevirtual 32, 3), (372, .pop, 1), (373, .aload_n 2, 1), (374, .aload_n 0, 1), (375, .iload_n 3, 1), (376, .iconst 1, 1), (377, .iadd, 1), (378, .iaload, 1), (379, .aload_n 0, 1), (380, .iload_n 3, 1), (381, .iconst 2, 1), (382, .iadd, 1), (383, .iaload, 1), (384, .invokevirtual 36, 3), (387, .pop, 1), (388, .goto 1045, 3), (391, .aload_n 1, 1), (392, .aload_n 0, 1), (393, .iload_n 3, 1), (394, .iconst 1, 1), (395, .iadd, 1), (396, .iaload, 1), (397, .aload_n 0, 1), (398, .iload_n 3, 1), (399, .iconst 2, 1), (400, .iadd, 1), (401, .iaload, 1), (402, .invokevirtual 37, 3), (405, .pop, 1)] = true := by decide +kernel
theorem d_Z_law_366 : decode mZ_law.2.1 366 = .ok (.iconst 2, 1) := dq_get dd_Z_law_128 (i := 0) rfl
theorem d_Z_law_367 : decode mZ_law.2.1 367 = .ok (.iadd, 1) := dq_get dd_Z_law_128 (i := 1) rfl
theorem d_Z_law_368 : decode mZ_law.2.1 368 = .ok (.iaload, 1) := dq_get dd_Z_law_128 (i := 2) rfl
theorem d_Z_law_369 : decode mZ_law.2.1 369 = .ok (.invokevirtual 32, 3) := dq_get dd_Z_law_128 (i := 3) rfl
theorem d_Z_law_372 : decode mZ_law.2.1 372 = .ok (.pop, 1) := dq_get dd_Z_law_128 (i := 4) rfl
theorem d_Z_law_373 : decode mZ_law.2.1 373 = .ok (.aload_n 2, 1) := dq_get dd_Z_law_128 (i := 5) rfl
theorem d_Z_law_374 : decode mZ_law.2.1 374 = .ok (.aload_n 0, 1) := dq_get dd_Z_law_128 (i := 6) rfl
theorem d_Z_law_375 : decode mZ_law.2.1 375 = .ok (.iload_n 3, 1) := dq_get dd_Z_law_128 (i := 7) rfl
theorem d_Z_law_376 : decode mZ_law.2.1 376 = .ok (.iconst 1, 1) := dq_get dd_Z_law_128 (i := 8) rfl
theorem d_Z_law_377 : decode mZ_law.2.1 377 = .ok (.iadd, 1) := dq_get dd_Z_law_128 (i := 9) rfl
theorem d_Z_law_378 : decode mZ_law.2.1 378 = .ok (.iaload, 1) := dq_get dd_Z_law_128 (i := 10) rfl
theorem d_Z_law_379 : decode mZ_law.2.1 379 = .ok (.aload_n 0, 1) := dq_get dd_Z_law_128 (i := 11) rfl
theorem d_Z_law_380 : decode mZ_law.2.1 380 = .ok (.iload_n 3, 1) := dq_get dd_Z_law_128 (i := 12) rfl
theorem d_Z_law_381 : decode mZ_law.2.1 381 = .ok (.iconst 2, 1) := dq_get dd_Z_law_128 (i := 13) rfl
theorem d_Z_law_382 : decode mZ_law.2.1 382 = .ok (.iadd, 1) := dq_get dd_Z_law_128 (i := 14) rfl
theorem d_Z_law_383 : decode mZ_law.2.1 383 = .ok (.iaload, 1) := dq_get dd_Z_law_128 (i := 15) rfl
theorem d_Z_law_384 : decode mZ_law.2.1 384 = .ok (.invokevirtual 36, 3) := dq_get dd_Z_law_128 (i := 16) rfl
theorem d_Z_law_387 : decode mZ_law.2.1 387 = .ok (.pop, 1) := dq_get dd_Z_law_128 (i := 17) rfl
theorem d_Z_law_388 : decode mZ_law.2.1 388 = .ok (.goto 1045, 3) := dq_get dd_Z_law_128 (i := 18) rfl
theorem d_Z_law_391 : decode mZ_law.2.1 391 = .ok (.aload_n 1, 1) := dq_get dd_Z_law_128 (i := 19) rfl
theorem d_Z_law_392 : decode mZ_law.2.1 392 = .ok (.aload_n 0, 1) := dq_get dd_Z_law_128 (i := 20) rfl
theorem d_Z_law_393 : decode mZ_law.2.1 393 = .ok (.iload_n 3, 1) := dq_get dd_Z_law_128 (i := 21) rfl
theorem d_Z_law_394 : decode mZ_law.2.1 394 = .ok (.iconst 1, 1) := dq_get dd_Z_law_128 (i := 22) rfl
theorem d_Z_law_395 : decode mZ_law.2.1 395 = .ok (.iadd, 1) := dq_get dd_Z_law_128 (i := 23) rfl
theorem d_Z_law_396 : decode mZ_law.2.1 396 = .ok (.iaload, 1) := dq_get dd_Z_law_128 (i := 24) rfl
theorem d_Z_law_397 : decode mZ_law.2.1 397 = .ok (.aload_n 0, 1) := dq_get dd_Z_law_128 (i := 25) rfl
theorem d_Z_law_398 : decode mZ_law.2.1 398 = .ok (.iload_n 3, 1) := dq_get dd_Z_law_128 (i := 26) rfl
theorem d_Z_law_399 : decode mZ_law.2.1 399 = .ok (.iconst 2, 1) := dq_get dd_Z_law_128 (i := 27) rfl
theorem d_Z_law_400 : decode mZ_law.2.1 400 = .ok (.iadd, 1) := dq_get dd_Z_law_128 (i := 28) rfl
theorem d_Z_law_401 : decode mZ_law.2.1 401 = .ok (.iaload, 1) := dq_get dd_Z_law_128 (i := 29) rfl
theorem d_Z_law_402 : decode mZ_law.2.1 402 = .ok (.invokevirtual 37, 3) := dq_get dd_Z_law_128 (i := 30) rfl
theorem d_Z_law_405 : decode mZ_law.2.1 405 = .ok (.pop, 1) := dq_get dd_Z_law_128 (i := 31) rfl
theorem dd_Z_law_160 : dq mZ_law.2.1 [(406, .aload_n 2, 1), (407, .aload_n 0, 1), (408, .iload_n 3, 1), (409, .iconst 1, 1), (410, .iadd, 1), (411, .iaload, 1), (412, .aload_n 0, 1), (413, .iload_n 3, 1), (414, .iconst 2, 1), (415, .iadd, 1), (416, .iaload, 1), (417, .invokevirtual 40, 3), (420, .pop, 1), (421, .goto 1012, 3), (424, .aload_n 1, 1), (425, .aload_n 0, 1), (426, .iload_n 3, 1), (427, .iconst 1, 1), (428, .iadd, 1), (429, .iaload, 1), (430, .aload_n 0, 1), (431, .iload_n 3, 1), (432, .iconst 2, 1), (433, .iadd, 1), (434, .iaload, 1), (435, .invokevirtual 41, 3), (438, .pop, 1), (439, .aload_n 2, 1), (440, .aload_n 0, 1), (441, .iload_n 3, 1), (442, .iconst 1, 1), (443, .iadd, 1)] = true := by decide +kernel
theorem d_Z_law_406 : decode mZ_law.2.1 406 = .ok (.aload_n 2, 1) := dq_get dd_Z_law_160 (i := 0) rfl
theorem d_Z_law_407 : decode mZ_law.2.1 407 = .ok (.aload_n 0, 1) := dq_get dd_Z_law_160 (i := 1) rfl
theorem d_Z_law_408 : decode mZ_law.2.1 408 = .ok (.iload_n 3, 1) := dq_get dd_Z_law_160 (i := 2) rfl
theorem d_Z_law_409 : decode mZ_law.2.1 409 = .ok (.iconst 1, 1) := dq_get dd_Z_law_160 (i := 3) rfl
theorem d_Z_law_410 : decode mZ_law.2.1 410 = .ok (.iadd, 1) := dq_get dd_Z_law_160 (i := 4) rfl
theorem d_Z_law_411 : decode mZ_law.2.1 411 = .ok (.iaload, 1) := dq_get dd_Z_law_160 (i := 5) rfl
theorem d_Z_law_412 : decode mZ_law.2.1 412 = .ok (.aload_n 0, 1) := dq_get dd_Z_law_160 (i := 6) rfl
theorem d_Z_law_413 : decode mZ_law.2.1 413 = .ok (.iload_n 3, 1) := dq_get dd_Z_law_160 (i := 7) rfl
theorem d_Z_law_414 : decode mZ_law.2.1 414 = .ok (.iconst 2, 1) := dq_get dd_Z_law_160 (i := 8) rfl
theorem d_Z_law_415 : decode mZ_law.2.1 415 = .ok (.iadd, 1) := dq_get dd_Z_law_160 (i := 9) rfl
theorem d_Z_law_416 : decode mZ_law.2.1 416 = .ok (.iaload, 1) := dq_get dd_Z_law_160 (i := 10) rfl
theorem d_Z_law_417 : decode mZ_law.2.1 417 = .ok (.invokevirtual 40, 3) := dq_get dd_Z_law_160 (i := 11) rfl
theorem d_Z_law_420 : decode mZ_law.2.1 420 = .ok (.pop, 1) := dq_get dd_Z_law_160 (i := 12) rfl
theorem d_Z_law_421 : decode mZ_law.2.1 421 = .ok (.goto 1012, 3) := dq_get dd_Z_law_160 (i := 13) rfl
theorem d_Z_law_424 : decode mZ_law.2.1 424 = .ok (.aload_n 1, 1) := dq_get dd_Z_law_160 (i := 14) rfl
theorem d_Z_law_425 : decode mZ_law.2.1 425 = .ok (.aload_n 0, 1) := dq_get dd_Z_law_160 (i := 15) rfl
theorem d_Z_law_426 : decode mZ_law.2.1 426 = .ok (.iload_n 3, 1) := dq_get dd_Z_law_160 (i := 16) rfl
theorem d_Z_law_427 : decode mZ_law.2.1 427 = .ok (.iconst 1, 1) := dq_get dd_Z_law_160 (i := 17) rfl
theorem d_Z_law_428 : decode mZ_law.2.1 428 = .ok (.iadd, 1) := dq_get dd_Z_law_160 (i := 18) rfl
theorem d_Z_law_429 : decode mZ_law.2.1 429 = .ok (.iaload, 1) := dq_get dd_Z_law_160 (i := 19) rfl
theorem d_Z_law_430 : decode mZ_law.2.1 430 = .ok (.aload_n 0, 1) := dq_get dd_Z_law_160 (i := 20) rfl
theorem d_Z_law_431 : decode mZ_law.2.1 431 = .ok (.iload_n 3, 1) := dq_get dd_Z_law_160 (i := 21) rfl
theorem d_Z_law_432 : decode mZ_law.2.1 432 = .ok (.iconst 2, 1) := dq_get dd_Z_law_160 (i := 22) rfl
theorem d_Z_law_433 : decode mZ_law.2.1 433 = .ok (.iadd, 1) := dq_get dd_Z_law_160 (i := 23) rfl
theorem d_Z_law_434 : decode mZ_law.2.1 434 = .ok (.iaload, 1) := dq_get dd_Z_law_160 (i := 24) rfl
theorem d_Z_law_435 : decode mZ_law.2.1 435 = .ok (.invokevirtual 41, 3) := dq_get dd_Z_law_160 (i := 25) rfl
theorem d_Z_law_438 : decode mZ_law.2.1 438 = .ok (.pop, 1) := dq_get dd_Z_law_160 (i := 26) rfl
theorem d_Z_law_439 : decode mZ_law.2.1 439 = .ok (.aload_n 2, 1) := dq_get dd_Z_law_160 (i := 27) rfl
theorem d_Z_law_440 : decode mZ_law.2.1 440 = .ok (.aload_n 0, 1) := dq_get dd_Z_law_160 (i := 28) rfl
theorem d_Z_law_441 : decode mZ_law.2.1 441 = .ok (.iload_n 3, 1) := dq_get dd_Z_law_160 (i := 29) rfl
theorem d_Z_law_442 : decode mZ_law.2.1 442 = .ok (.iconst 1, 1) := dq_get dd_Z_law_160 (i := 30) rfl
theorem d_Z_law_443 : decode mZ_law.2.1 443 = .ok (.iadd, 1) := dq_get dd_Z_law_160 (i := 31) rfl
theorem dd_Z_law_192 : dq mZ_law.2.1 [(444, .iaload, 1), (445, .aload_n 0, 1), (446, .iload_n 3, 1), (447, .iconst 2, 1), (448, .iadd, 1), (449, .iaload, 1), (450, .invokevirtual 44, 3), (453, .pop, 1), (454, .goto 979, 3), (457, .aload_n 1, 1), (458, .aload_n 0, 1), (459, .iload_n 3, 1), (460, .iconst 1, 1), (461, .iadd, 1), (462, .iaload, 1), (463, .invokevirtual 45, 3), (466, .pop, 1), (467, .aload_n 2, 1), (468, .aload_n 0, 1), (469, .iload_n 3, 1), (470, .iconst 1, 1), (471, .iadd, 1), (472, .iaload, 1), (473, .invokevirtual 48, 3), (476, .pop, 1), (477, .goto 956, 3), (480, .aload_n 1, 1), (481, .aload_n 0, 1), (482, .iload_n 3, 1), (483, .iconst 1, 1), (484, .iadd, 1), (485, .iaload, 1)] = true := by decide +kernel
theorem d_Z_law_444 : decode mZ_law.2.1 444 = .ok (.iaload, 1) := dq_get dd_Z_law_192 (i := 0) rfl
theorem d_Z_law_445 : decode mZ_law.2.1 445 = .ok (.aload_n 0, 1) := dq_get dd_Z_law_192 (i := 1) rfl
theorem d_Z_law_446 : decode mZ_law.2.1 446 = .ok (.iload_n 3, 1) := dq_get dd_Z_law_192 (i := 2) rfl
theorem d_Z_law_447 : decode mZ_law.2.1 447 = .ok (.iconst 2, 1) := dq_get dd_Z_law_192 (i := 3) rfl
theorem d_Z_law_448 : decode mZ_law.2.1 448 = .ok (.iadd, 1) := dq_get dd_Z_law_192 (i := 4) rfl
theorem d_Z_law_449 : decode mZ_law.2.1 449 = .ok (.iaload, 1) := dq_get dd_Z_law_192 (i := 5) rfl
theorem d_Z_law_450 : decode mZ_law.2.1 450 = .ok (.invokevirtual 44, 3) := dq_get dd_Z_law_192 (i := 6) rfl
theorem d_Z_law_453 : decode mZ_law.2.1 453 = .ok (.pop, 1) := dq_get dd_Z_law_192 (i := 7) rfl
theorem d_Z_law_454 : decode mZ_law.2.1 454 = .ok (.goto 979, 3) := dq_get dd_Z_law_192 (i := 8) rfl
theorem d_Z_law_457 : decode mZ_law.2.1 457 = .ok (.aload_n 1, 1) := dq_get dd_Z_law_192 (i := 9) rfl
theorem d_Z_law_458 : decode mZ_law.2.1 458 = .ok (.aload_n 0, 1) := dq_get dd_Z_law_192 (i := 10) rfl
theorem d_Z_law_459 : decode mZ_law.2.1 459 = .ok (.iload_n 3, 1) := dq_get dd_Z_law_192 (i := 11) rfl
theorem d_Z_law_460 : decode mZ_law.2.1 460 = .ok (.iconst 1, 1) := dq_get dd_Z_law_192 (i := 12) rfl
theorem d_Z_law_461 : decode mZ_law.2.1 461 = .ok (.iadd, 1) := dq_get dd_Z_law_192 (i := 13) rfl
theorem d_Z_law_462 : decode mZ_law.2.1 462 = .ok (.iaload, 1) := dq_get dd_Z_law_192 (i := 14) rfl
theorem d_Z_law_463 : decode mZ_law.2.1 463 = .ok (.invokevirtual 45, 3) := dq_get dd_Z_law_192 (i := 15) rfl
theorem d_Z_law_466 : decode mZ_law.2.1 466 = .ok (.pop, 1) := dq_get dd_Z_law_192 (i := 16) rfl
theorem d_Z_law_467 : decode mZ_law.2.1 467 = .ok (.aload_n 2, 1) := dq_get dd_Z_law_192 (i := 17) rfl
theorem d_Z_law_468 : decode mZ_law.2.1 468 = .ok (.aload_n 0, 1) := dq_get dd_Z_law_192 (i := 18) rfl
theorem d_Z_law_469 : decode mZ_law.2.1 469 = .ok (.iload_n 3, 1) := dq_get dd_Z_law_192 (i := 19) rfl
theorem d_Z_law_470 : decode mZ_law.2.1 470 = .ok (.iconst 1, 1) := dq_get dd_Z_law_192 (i := 20) rfl
theorem d_Z_law_471 : decode mZ_law.2.1 471 = .ok (.iadd, 1) := dq_get dd_Z_law_192 (i := 21) rfl
theorem d_Z_law_472 : decode mZ_law.2.1 472 = .ok (.iaload, 1) := dq_get dd_Z_law_192 (i := 22) rfl
theorem d_Z_law_473 : decode mZ_law.2.1 473 = .ok (.invokevirtual 48, 3) := dq_get dd_Z_law_192 (i := 23) rfl
theorem d_Z_law_476 : decode mZ_law.2.1 476 = .ok (.pop, 1) := dq_get dd_Z_law_192 (i := 24) rfl
theorem d_Z_law_477 : decode mZ_law.2.1 477 = .ok (.goto 956, 3) := dq_get dd_Z_law_192 (i := 25) rfl
theorem d_Z_law_480 : decode mZ_law.2.1 480 = .ok (.aload_n 1, 1) := dq_get dd_Z_law_192 (i := 26) rfl
theorem d_Z_law_481 : decode mZ_law.2.1 481 = .ok (.aload_n 0, 1) := dq_get dd_Z_law_192 (i := 27) rfl
theorem d_Z_law_482 : decode mZ_law.2.1 482 = .ok (.iload_n 3, 1) := dq_get dd_Z_law_192 (i := 28) rfl
theorem d_Z_law_483 : decode mZ_law.2.1 483 = .ok (.iconst 1, 1) := dq_get dd_Z_law_192 (i := 29) rfl
theorem d_Z_law_484 : decode mZ_law.2.1 484 = .ok (.iadd, 1) := dq_get dd_Z_law_192 (i := 30) rfl
theorem d_Z_law_485 : decode mZ_law.2.1 485 = .ok (.iaload, 1) := dq_get dd_Z_law_192 (i := 31) rfl
theorem dd_Z_law_224 : dq mZ_law.2.1 [(486, .invokevirtual 49, 3), (489, .pop, 1), (490, .aload_n 2, 1), (491, .aload_n 0, 1), (492, .iload_n 3, 1), (493, .iconst 1, 1), (494, .iadd, 1), (495, .iaload, 1), (496, .invokevirtual 52, 3), (499, .pop, 1), (500, .goto 933, 3), (503, .aload_n 1, 1), (504, .aload_n 0, 1), (505, .iload_n 3, 1), (506, .iconst 1, 1), (507, .iadd, 1), (508, .iaload, 1), (509, .aload_n 0, 1), (510, .iload_n 3, 1), (511, .iconst 2, 1), (512, .iadd, 1), (513, .iaload, 1), (514, .invokevirtual 53, 3), (517, .pop, 1), (518, .aload_n 2, 1), (519, .aload_n 0, 1), (520, .iload_n 3, 1), (521, .iconst 1, 1), (522, .iadd, 1), (523, .iaload, 1), (524, .aload_n 0, 1), (525, .iload_n 3, 1)] = true := by decide +kernel
theorem d_Z_law_486 : decode mZ_law.2.1 486 = .ok (.invokevirtual 49, 3) := dq_get dd_Z_law_224 (i := 0) rfl
theorem d_Z_law_489 : decode mZ_law.2.1 489 = .ok (.pop, 1) := dq_get dd_Z_law_224 (i := 1) rfl
theorem d_Z_law_490 : decode mZ_law.2.1 490 = .ok (.aload_n 2, 1) := dq_get dd_Z_law_224 (i := 2) rfl
theorem d_Z_law_491 : decode mZ_law.2.1 491 = .ok (.aload_n 0, 1) := dq_get dd_Z_law_224 (i := 3) rfl
theorem d_Z_law_492 : decode mZ_law.2.1 492 = .ok (.iload_n 3, 1) := dq_get dd_Z_law_224 (i := 4) rfl
theorem d_Z_law_493 : decode mZ_law.2.1 493 = .ok (.iconst 1, 1) := dq_get dd_Z_law_224 (i := 5) rfl
theorem d_Z_law_494 : decode mZ_law.2.1 494 = .ok (.iadd, 1) := dq_get dd_Z_law_224 (i := 6) rfl
theorem d_Z_law_495 : decode mZ_law.2.1 495 = .ok (.iaload, 1) := dq_get dd_Z_law_224 (i := 7) rfl
theorem d_Z_law_496 : decode mZ_law.2.1 496 = .ok (.invokevirtual 52, 3) := dq_get dd_Z_law_224 (i := 8) rfl
theorem d_Z_law_499 : decode mZ_law.2.1 499 = .ok (.pop, 1) := dq_get dd_Z_law_224 (i := 9) rfl
theorem d_Z_law_500 : decode mZ_law.2.1 500 = .ok (.goto 933, 3) := dq_get dd_Z_law_224 (i := 10) rfl
theorem d_Z_law_503 : decode mZ_law.2.1 503 = .ok (.aload_n 1, 1) := dq_get dd_Z_law_224 (i := 11) rfl
theorem d_Z_law_504 : decode mZ_law.2.1 504 = .ok (.aload_n 0, 1) := dq_get dd_Z_law_224 (i := 12) rfl
theorem d_Z_law_505 : decode mZ_law.2.1 505 = .ok (.iload_n 3, 1) := dq_get dd_Z_law_224 (i := 13) rfl
theorem d_Z_law_506 : decode mZ_law.2.1 506 = .ok (.iconst 1, 1) := dq_get dd_Z_law_224 (i := 14) rfl
theorem d_Z_law_507 : decode mZ_law.2.1 507 = .ok (.iadd, 1) := dq_get dd_Z_law_224 (i := 15) rfl
theorem d_Z_law_508 : decode mZ_law.2.1 508 = .ok (.iaload, 1) := dq_get dd_Z_law_224 (i := 16) rfl
theorem d_Z_law_509 : decode mZ_law.2.1 509 = .ok (.aload_n 0, 1) := dq_get dd_Z_law_224 (i := 17) rfl
theorem d_Z_law_510 : decode mZ_law.2.1 510 = .ok (.iload_n 3, 1) := dq_get dd_Z_law_224 (i := 18) rfl
theorem d_Z_law_511 : decode mZ_law.2.1 511 = .ok (.iconst 2, 1) := dq_get dd_Z_law_224 (i := 19) rfl
theorem d_Z_law_512 : decode mZ_law.2.1 512 = .ok (.iadd, 1) := dq_get dd_Z_law_224 (i := 20) rfl
theorem d_Z_law_513 : decode mZ_law.2.1 513 = .ok (.iaload, 1) := dq_get dd_Z_law_224 (i := 21) rfl
theorem d_Z_law_514 : decode mZ_law.2.1 514 = .ok (.invokevirtual 53, 3) := dq_get dd_Z_law_224 (i := 22) rfl
theorem d_Z_law_517 : decode mZ_law.2.1 517 = .ok (.pop, 1) := dq_get dd_Z_law_224 (i := 23) rfl
theorem d_Z_law_518 : decode mZ_law.2.1 518 = .ok (.aload_n 2, 1) := dq_get dd_Z_law_224 (i := 24) rfl
theorem d_Z_law_519 : decode mZ_law.2.1 519 = .ok (.aload_n 0, 1) := dq_get dd_Z_law_224 (i := 25) rfl
theorem d_Z_law_520 : decode mZ_law.2.1 520 = .ok (.iload_n 3, 1) := dq_get dd_Z_law_224 (i := 26) rfl
theorem d_Z_law_521 : decode mZ_law.2.1 521 = .ok (.iconst 1, 1) := dq_get dd_Z_law_224 (i := 27) rfl
theorem d_Z_law_522 : decode mZ_law.2.1 522 = .ok (.iadd, 1) := dq_get dd_Z_law_224 (i := 28) rfl
theorem d_Z_law_523 : decode mZ_law.2.1 523 = .ok (.iaload, 1) := dq_get dd_Z_law_224 (i := 29) rfl
theorem d_Z_law_524 : decode mZ_law.2.1 524 = .ok (.aload_n 0, 1) := dq_get dd_Z_law_224 (i := 30) rfl
theorem d_Z_law_525 : decode mZ_law.2.1 525 = .ok (.iload_n 3, 1) := dq_get dd_Z_law_224 (i := 31) rfl
theorem dd_Z_law_256 : dq mZ_law.2.1 [(526, .iconst 2, 1), (527, .iadd, 1), (528, .iaload, 1), (529, .invokevirtual 56, 3), (532, .pop, 1), (533, .goto 900, 3), (536, .aload_n 1, 1), (537, .aload_n 0, 1), (538, .iload_n 3, 1), (539, .iconst 1, 1), (540, .iadd, 1), (541, .iaload, 1), (542, .aload_n 0, 1), (543, .iload_n 3, 1), (544, .iconst 2, 1), (545, .iadd, 1), (546, .iaload, 1), (547, .invokevirtual 57, 3), (550, .pop, 1), (551, .aload_n 2, 1), (552, .aload_n 0, 1), (553, .iload_n 3, 1), (554, .iconst 1, 1), (555, .iadd, 1), (556, .iaload, 1), (557, .aload_n 0, 1), (558, .iload_n 3, 1), (559, .iconst 2, 1), (560, .iadd, 1), (561, .iaload, 1), (562, .invokevirtual 60, 3), (565, .pop, 1)] = true := by decide +kernel
theorem d_Z_law_526 : decode mZ_law.2.1 526 = .ok (.iconst 2, 1) := dq_get dd_Z_law_256 (i := 0) rfl
theorem d_Z_law_527 : decode mZ_law.2.1 527 = .ok (.iadd, 1) := dq_get dd_Z_law_256 (i := 1) rfl
theorem d_Z_law_528 : decode mZ_law.2.1 528 = .ok (.iaload, 1) := dq_get dd_Z_law_256 (i := 2) rfl
theorem d_Z_law_529 : decode mZ_law.2.1 529 = .ok (.invokevirtual 56, 3) := dq_get dd_Z_law_256 (i := 3) rfl
theorem d_Z_law_532 : decode mZ_law.2.1 532 = .ok (.pop, 1) := dq_get dd_Z_law_256 (i := 4) rfl
theorem d_Z_law_533 : decode mZ_law.2.1 533 = .ok (.goto 900, 3) := dq_get dd_Z_law_256 (i := 5) rfl
theorem d_Z_law_536 : decode mZ_law.2.1 536 = .ok (.aload_n 1, 1) := dq_get dd_Z_law_256 (i := 6) rfl
theorem d_Z_law_537 : decode mZ_law.2.1 537 = .ok (.aload_n 0, 1) := dq_get dd_Z_law_256 (i := 7) rfl
theorem d_Z_law_538 : decode mZ_law.2.1 538 = .ok (.iload_n 3, 1) := dq_get dd_Z_law_256 (i := 8) rfl
theorem d_Z_law_539 : decode mZ_law.2.1 539 = .ok (.iconst 1, 1) := dq_get dd_Z_law_256 (i := 9) rfl
theorem d_Z_law_540 : decode mZ_law.2.1 540 = .ok (.iadd, 1) := dq_get dd_Z_law_256 (i := 10) rfl
theorem d_Z_law_541 : decode mZ_law.2.1 541 = .ok (.iaload, 1) := dq_get dd_Z_law_256 (i := 11) rfl
theorem d_Z_law_542 : decode mZ_law.2.1 542 = .ok (.aload_n 0, 1) := dq_get dd_Z_law_256 (i := 12) rfl
theorem d_Z_law_543 : decode mZ_law.2.1 543 = .ok (.iload_n 3, 1) := dq_get dd_Z_law_256 (i := 13) rfl
theorem d_Z_law_544 : decode mZ_law.2.1 544 = .ok (.iconst 2, 1) := dq_get dd_Z_law_256 (i := 14) rfl
theorem d_Z_law_545 : decode mZ_law.2.1 545 = .ok (.iadd, 1) := dq_get dd_Z_law_256 (i := 15) rfl
theorem d_Z_law_546 : decode mZ_law.2.1 546 = .ok (.iaload, 1) := dq_get dd_Z_law_256 (i := 16) rfl
theorem d_Z_law_547 : decode mZ_law.2.1 547 = .ok (.invokevirtual 57, 3) := dq_get dd_Z_law_256 (i := 17) rfl
theorem d_Z_law_550 : decode mZ_law.2.1 550 = .ok (.pop, 1) := dq_get dd_Z_law_256 (i := 18) rfl
theorem d_Z_law_551 : decode mZ_law.2.1 551 = .ok (.aload_n 2, 1) := dq_get dd_Z_law_256 (i := 19) rfl
theorem d_Z_law_552 : decode mZ_law.2.1 552 = .ok (.aload_n 0, 1) := dq_get dd_Z_law_256 (i := 20) rfl
theorem d_Z_law_553 : decode mZ_law.2.1 553 = .ok (.iload_n 3, 1) := dq_get dd_Z_law_256 (i := 21) rfl
theorem d_Z_law_554 : decode mZ_law.2.1 554 = .ok (.iconst 1, 1) := dq_get dd_Z_law_256 (i := 22) rfl
theorem d_Z_law_555 : decode mZ_law.2.1 555 = .ok (.iadd, 1) := dq_get dd_Z_law_256 (i := 23) rfl
theorem d_Z_law_556 : decode mZ_law.2.1 556 = .ok (.iaload, 1) := dq_get dd_Z_law_256 (i := 24) rfl
theorem d_Z_law_557 : decode mZ_law.2.1 557 = .ok (.aload_n 0, 1) := dq_get dd_Z_law_256 (i := 25) rfl
theorem d_Z_law_558 : decode mZ_law.2.1 558 = .ok (.iload_n 3, 1) := dq_get dd_Z_law_256 (i := 26) rfl
theorem d_Z_law_559 : decode mZ_law.2.1 559 = .ok (.iconst 2, 1) := dq_get dd_Z_law_256 (i := 27) rfl
theorem d_Z_law_560 : decode mZ_law.2.1 560 = .ok (.iadd, 1) := dq_get dd_Z_law_256 (i := 28) rfl
theorem d_Z_law_561 : decode mZ_law.2.1 561 = .ok (.iaload, 1) := dq_get dd_Z_law_256 (i := 29) rfl
theorem d_Z_law_562 : decode mZ_law.2.1 562 = .ok (.invokevirtual 60, 3) := dq_get dd_Z_law_256 (i := 30) rfl
theorem d_Z_law_565 : decode mZ_law.2.1 565 = .ok (.pop, 1) := dq_get dd_Z_law_256 (i := 31) rfl
theorem dd_Z_law_288 : dq mZ_law.2.1 [(566, .goto 867, 3), (569, .aload_n 1, 1), (570, .aload_n 0, 1), (571, .iload_n 3, 1), (572, .iconst 1, 1), (573, .iadd, 1), (574, .iaload, 1), (575, .aload_n 0, 1), (576, .iload_n 3, 1), (577, .iconst 2, 1), (578, .iadd, 1), (579, .iaload, 1), (580, .invokevirtual 61, 3), (583, .pop, 1), (584, .aload_n 2, 1), (585, .aload_n 0, 1), (586, .iload_n 3, 1), (587, .iconst 1, 1), (588, .iadd, 1), (589, .iaload, 1), (590, .aload_n 0, 1), (591, .iload_n 3, 1), (592, .iconst 2, 1), (593, .iadd, 1), (594, .iaload, 1), (595, .invokevirtual 64, 3), (598, .pop, 1), (599, .goto 834, 3), (602, .aload_n 1, 1), (603, .aload_n 0, 1), (604, .iload_n 3, 1), (605, .iconst 1, 1)] = true := by decide +kernel
theorem d_Z_law_566 : decode mZ_law.2.1 566 = .ok (.goto 867, 3) := dq_get dd_Z_law_288 (i := 0) rfl
theorem d_Z_law_569 : decode mZ_law.2.1 569 = .ok (.aload_n 1, 1) := dq_get dd_Z_law_288 (i := 1) rfl
theorem d_Z_law_570 : decode mZ_law.2.1 570 = .ok (.aload_n 0, 1) := dq_get dd_Z_law_288 (i := 2) rfl
theorem d_Z_law_571 : decode mZ_law.2.1 571 = .ok (.iload_n 3, 1) := dq_get dd_Z_law_288 (i := 3) rfl
theorem d_Z_law_572 : decode mZ_law.2.1 572 = .ok (.iconst 1, 1) := dq_get dd_Z_law_288 (i := 4) rfl
theorem d_Z_law_573 : decode mZ_law.2.1 573 = .ok (.iadd, 1) := dq_get dd_Z_law_288 (i := 5) rfl
theorem d_Z_law_574 : decode mZ_law.2.1 574 = .ok (.iaload, 1) := dq_get dd_Z_law_288 (i := 6) rfl
theorem d_Z_law_575 : decode mZ_law.2.1 575 = .ok (.aload_n 0, 1) := dq_get dd_Z_law_288 (i := 7) rfl
theorem d_Z_law_576 : decode mZ_law.2.1 576 = .ok (.iload_n 3, 1) := dq_get dd_Z_law_288 (i := 8) rfl
theorem d_Z_law_577 : decode mZ_law.2.1 577 = .ok (.iconst 2, 1) := dq_get dd_Z_law_288 (i := 9) rfl
theorem d_Z_law_578 : decode mZ_law.2.1 578 = .ok (.iadd, 1) := dq_get dd_Z_law_288 (i := 10) rfl
theorem d_Z_law_579 : decode mZ_law.2.1 579 = .ok (.iaload, 1) := dq_get dd_Z_law_288 (i := 11) rfl
theorem d_Z_law_580 : decode mZ_law.2.1 580 = .ok (.invokevirtual 61, 3) := dq_get dd_Z_law_288 (i := 12) rfl
theorem d_Z_law_583 : decode mZ_law.2.1 583 = .ok (.pop, 1) := dq_get dd_Z_law_288 (i := 13) rfl
theorem d_Z_law_584 : decode mZ_law.2.1 584 = .ok (.aload_n 2, 1) := dq_get dd_Z_law_288 (i := 14) rfl
theorem d_Z_law_585 : decode mZ_law.2.1 585 = .ok (.aload_n 0, 1) := dq_get dd_Z_law_288 (i := 15) rfl
theorem d_Z_law_586 : decode mZ_law.2.1 586 = .ok (.iload_n 3, 1) := dq_get dd_Z_law_288 (i := 16) rfl
theorem d_Z_law_587 : decode mZ_law.2.1 587 = .ok (.iconst 1, 1) := dq_get dd_Z_law_288 (i := 17) rfl
theorem d_Z_law_588 : decode mZ_law.2.1 588 = .ok (.iadd, 1) := dq_get dd_Z_law_288 (i := 18) rfl
theorem d_Z_law_589 : decode mZ_law.2.1 589 = .ok (.iaload, 1) := dq_get dd_Z_law_288 (i := 19) rfl
theorem d_Z_law_590 : decode mZ_law.2.1 590 = .ok (.aload_n 0, 1) := dq_get dd_Z_law_288 (i := 20) rfl
theorem d_Z_law_591 : decode mZ_law.2.1 591 = .ok (.iload_n 3, 1) := dq_get dd_Z_law_288 (i := 21) rfl
theorem d_Z_law_592 : decode mZ_law.2.1 592 = .ok (.iconst 2, 1) := dq_get dd_Z_law_288 (i := 22) rfl
theorem d_Z_law_593 : decode mZ_law.2.1 593 = .ok (.iadd, 1) := dq_get dd_Z_law_288 (i := 23) rfl
theorem d_Z_law_594 : decode mZ_law.2.1 594 = .ok (.iaload, 1) := dq_get dd_Z_law_288 (i := 24) rfl
theorem d_Z_law_595 : decode mZ_law.2.1 595 = .ok (.invokevirtual 64, 3) := dq_get dd_Z_law_288 (i := 25) rfl
theorem d_Z_law_598 : decode mZ_law.2.1 598 = .ok (.pop, 1) := dq_get dd_Z_law_288 (i := 26) rfl
theorem d_Z_law_599 : decode mZ_law.2.1 599 = .ok (.goto 834, 3) := dq_get dd_Z_law_288 (i := 27) rfl
theorem d_Z_law_602 : decode mZ_law.2.1 602 = .ok (.aload_n 1, 1) := dq_get dd_Z_law_288 (i := 28) rfl
theorem d_Z_law_603 : decode mZ_law.2.1 603 = .ok (.aload_n 0, 1) := dq_get dd_Z_law_288 (i := 29) rfl
theorem d_Z_law_604 : decode mZ_law.2.1 604 = .ok (.iload_n 3, 1) := dq_get dd_Z_law_288 (i := 30) rfl
theorem d_Z_law_605 : decode mZ_law.2.1 605 = .ok (.iconst 1, 1) := dq_get dd_Z_law_288 (i := 31) rfl
theorem dd_Z_law_320 : dq mZ_law.2.1 [(606, .iadd, 1), (607, .iaload, 1), (608, .aload_n 0, 1), (609, .iload_n 3, 1), (610, .iconst 2, 1), (611, .iadd, 1), (612, .iaload, 1), (613, .invokevirtual 65, 3), (616, .pop, 1), (617, .aload_n 2, 1), (618, .aload_n 0, 1), (619, .iload_n 3, 1), (620, .iconst 1, 1), (621, .iadd, 1), (622, .iaload, 1), (623, .aload_n 0, 1), (624, .iload_n 3, 1), (625, .iconst 2, 1), (626, .iadd, 1), (627, .iaload, 1), (628, .invokevirtual 68, 3), (631, .pop, 1), (632, .goto 801, 3), (635, .aload_n 1, 1), (636, .aload_n 0, 1), (637, .iload_n 3, 1), (638, .iconst 1, 1), (639, .iadd, 1), (640, .iaload, 1), (641, .invokevirtual 69, 3), (644, .pop, 1), (645, .aload_n 2, 1)] = true := by decide +kernel
theorem d_Z_law_606 : decode mZ_law.2.1 606 = .ok (.iadd, 1) := dq_get dd_Z_law_320 (i := 0) rfl
theorem d_Z_law_607 : decode mZ_law.2.1 607 = .ok (.iaload, 1) := dq_get dd_Z_law_320 (i := 1) rfl
theorem d_Z_law_608 : decode mZ_law.2.1 608 = .ok (.aload_n 0, 1) := dq_get dd_Z_law_320 (i := 2) rfl
theorem d_Z_law_609 : decode mZ_law.2.1 609 = .ok (.iload_n 3, 1) := dq_get dd_Z_law_320 (i := 3) rfl
theorem d_Z_law_610 : decode mZ_law.2.1 610 = .ok (.iconst 2, 1) := dq_get dd_Z_law_320 (i := 4) rfl
theorem d_Z_law_611 : decode mZ_law.2.1 611 = .ok (.iadd, 1) := dq_get dd_Z_law_320 (i := 5) rfl
theorem d_Z_law_612 : decode mZ_law.2.1 612 = .ok (.iaload, 1) := dq_get dd_Z_law_320 (i := 6) rfl
theorem d_Z_law_613 : decode mZ_law.2.1 613 = .ok (.invokevirtual 65, 3) := dq_get dd_Z_law_320 (i := 7) rfl
theorem d_Z_law_616 : decode mZ_law.2.1 616 = .ok (.pop, 1) := dq_get dd_Z_law_320 (i := 8) rfl
theorem d_Z_law_617 : decode mZ_law.2.1 617 = .ok (.aload_n 2, 1) := dq_get dd_Z_law_320 (i := 9) rfl
theorem d_Z_law_618 : decode mZ_law.2.1 618 = .ok (.aload_n 0, 1) := dq_get dd_Z_law_320 (i := 10) rfl
theorem d_Z_law_619 : decode mZ_law.2.1 619 = .ok (.iload_n 3, 1) := dq_get dd_Z_law_320 (i := 11) rfl
theorem d_Z_law_620 : decode mZ_law.2.1 620 = .ok (.iconst 1, 1) := dq_get dd_Z_law_320 (i := 12) rfl
theorem d_Z_law_621 : decode mZ_law.2.1 621 = .ok (.iadd, 1) := dq_get dd_Z_law_320 (i := 13) rfl
theorem d_Z_law_622 : decode mZ_law.2.1 622 = .ok (.iaload, 1) := dq_get dd_Z_law_320 (i := 14) rfl
theorem d_Z_law_623 : decode mZ_law.2.1 623 = .ok (.aload_n 0, 1) := dq_get dd_Z_law_320 (i := 15) rfl
theorem d_Z_law_624 : decode mZ_law.2.1 624 = .ok (.iload_n 3, 1) := dq_get dd_Z_law_320 (i := 16) rfl
theorem d_Z_law_625 : decode mZ_law.2.1 625 = .ok (.iconst 2, 1) := dq_get dd_Z_law_320 (i := 17) rfl
theorem d_Z_law_626 : decode mZ_law.2.1 626 = .ok (.iadd, 1) := dq_get dd_Z_law_320 (i := 18) rfl
theorem d_Z_law_627 : decode mZ_law.2.1 627 = .ok (.iaload, 1) := dq_get dd_Z_law_320 (i := 19) rfl
theorem d_Z_law_628 : decode mZ_law.2.1 628 = .ok (.invokevirtual 68, 3) := dq_get dd_Z_law_320 (i := 20) rfl
theorem d_Z_law_631 : decode mZ_law.2.1 631 = .ok (.pop, 1) := dq_get dd_Z_law_320 (i := 21) rfl
theorem d_Z_law_632 : decode mZ_law.2.1 632 = .ok (.goto 801, 3) := dq_get dd_Z_law_320 (i := 22) rfl
theorem d_Z_law_635 : decode mZ_law.2.1 635 = .ok (.aload_n 1, 1) := dq_get dd_Z_law_320 (i := 23) rfl
theorem d_Z_law_636 : decode mZ_law.2.1 636 = .ok (.aload_n 0, 1) := dq_get dd_Z_law_320 (i := 24) rfl
theorem d_Z_law_637 : decode mZ_law.2.1 637 = .ok (.iload_n 3, 1) := dq_get dd_Z_law_320 (i := 25) rfl
theorem d_Z_law_638 : decode mZ_law.2.1 638 = .ok (.iconst 1, 1) := dq_get dd_Z_law_320 (i := 26) rfl
theorem d_Z_law_639 : decode mZ_law.2.1 639 = .ok (.iadd, 1) := dq_get dd_Z_law_320 (i := 27) rfl
theorem d_Z_law_640 : decode mZ_law.2.1 640 = .ok (.iaload, 1) := dq_get dd_Z_law_320 (i := 28) rfl
theorem d_Z_law_641 : decode mZ_law.2.1 641 = .ok (.invokevirtual 69, 3) := dq_get dd_Z_law_320 (i := 29) rfl
theorem d_Z_law_644 : decode mZ_law.2.1 644 = .ok (.pop, 1) := dq_get dd_Z_law_320 (i := 30) rfl
theorem d_Z_law_645 : decode mZ_law.2.1 645 = .ok (.aload_n 2, 1) := dq_get dd_Z_law_320 (i := 31) rfl
theorem dd_Z_law_352 : dq mZ_law.2.1 [(646, .aload_n 0, 1), (647, .iload_n 3, 1), (648, .iconst 1, 1), (649, .iadd, 1), (650, .iaload, 1), (651, .invokevirtual 72, 3), (654, .pop, 1), (655, .goto 778, 3), (658, .aload_n 1, 1), (659, .invokevirtual 73, 3), (662, .pop, 1), (663, .aload_n 2, 1), (664, .invokevirtual 77, 3), (667, .pop, 1), (668, .goto 765, 3), (671, .aload_n 1, 1), (672, .invokevirtual 78, 3), (675, .pop, 1), (676, .aload_n 2, 1), (677, .invokevirtual 81, 3), (680, .pop, 1), (681, .goto 752, 3), (684, .aload_n 1, 1), (685, .invokevirtual 82, 3), (688, .pop, 1), (689, .aload_n 2, 1), (690, .invokevirtual 85, 3), (693, .pop, 1), (694, .goto 739, 3), (697, .aload_n 1, 1), (698, .invokevirtual 86, 3), (701, .pop, 1)] = true := by decide +kernel
theorem d_Z_law_646 : decode mZ_law.2.1 646 = .ok (.aload_n 0, 1) := dq_get dd_Z_law_352 (i := 0) rfl
theorem d_Z_law_647 : decode mZ_law.2.1 647 = .ok (.iload_n 3, 1) := dq_get dd_Z_law_352 (i := 1) rfl
theorem d_Z_law_648 : decode mZ_law.2.1 648 = .ok (.iconst 1, 1) := dq_get dd_Z_law_352 (i := 2) rfl
theorem d_Z_law_649 : decode mZ_law.2.1 649 = .ok (.iadd, 1) := dq_get dd_Z_law_352 (i := 3) rfl
theorem d_Z_law_650 : decode mZ_law.2.1 650 = .ok (.iaload, 1) := dq_get dd_Z_law_352 (i := 4) rfl
theorem d_Z_law_651 : decode mZ_law.2.1 651 = .ok (.invokevirtual 72, 3) := dq_get dd_Z_law_352 (i := 5) rfl
theorem d_Z_law_654 : decode mZ_law.2.1 654 = .ok (.pop, 1) := dq_get dd_Z_law_352 (i := 6) rfl
theorem d_Z_law_655 : decode mZ_law.2.1 655 = .ok (.goto 778, 3) := dq_get dd_Z_law_352 (i := 7) rfl
theorem d_Z_law_658 : decode mZ_law.2.1 658 = .ok (.aload_n 1, 1) := dq_get dd_Z_law_352 (i := 8) rfl
theorem d_Z_law_659 : decode mZ_law.2.1 659 = .ok (.invokevirtual 73, 3) := dq_get dd_Z_law_352 (i := 9) rfl
theorem d_Z_law_662 : decode mZ_law.2.1 662 = .ok (.pop, 1) := dq_get dd_Z_law_352 (i := 10) rfl
theorem d_Z_law_663 : decode mZ_law.2.1 663 = .ok (.aload_n 2, 1) := dq_get dd_Z_law_352 (i := 11) rfl
theorem d_Z_law_664 : decode mZ_law.2.1 664 = .ok (.invokevirtual 77, 3) := dq_get dd_Z_law_352 (i := 12) rfl
theorem d_Z_law_667 : decode mZ_law.2.1 667 = .ok (.pop, 1) := dq_get dd_Z_law_352 (i := 13) rfl
theorem d_Z_law_668 : decode mZ_law.2.1 668 = .ok (.goto 765, 3) := dq_get dd_Z_law_352 (i := 14) rfl
theorem d_Z_law_671 : decode mZ_law.2.1 671 = .ok (.aload_n 1, 1) := dq_get dd_Z_law_352 (i := 15) rfl
theorem d_Z_law_672 : decode mZ_law.2.1 672 = .ok (.invokevirtual 78, 3) := dq_get dd_Z_law_352 (i := 16) rfl
theorem d_Z_law_675 : decode mZ_law.2.1 675 = .ok (.pop, 1) := dq_get dd_Z_law_352 (i := 17) rfl
theorem d_Z_law_676 : decode mZ_law.2.1 676 = .ok (.aload_n 2, 1) := dq_get dd_Z_law_352 (i := 18) rfl
theorem d_Z_law_677 : decode mZ_law.2.1 677 = .ok (.invokevirtual 81, 3) := dq_get dd_Z_law_352 (i := 19) rfl
theorem d_Z_law_680 : decode mZ_law.2.1 680 = .ok (.pop, 1) := dq_get dd_Z_law_352 (i := 20) rfl
theorem d_Z_law_681 : decode mZ_law.2.1 681 = .ok (.goto 752, 3) := dq_get dd_Z_law_352 (i := 21) rfl
theorem d_Z_law_684 : decode mZ_law.2.1 684 = .ok (.aload_n 1, 1) := dq_get dd_Z_law_352 (i := 22) rfl
theorem d_Z_law_685 : decode mZ_law.2.1 685 = .ok (.invokevirtual 82, 3) := dq_get dd_Z_law_352 (i := 23) rfl
theorem d_Z_law_688 : decode mZ_law.2.1 688 = .ok (.pop, 1) := dq_get dd_Z_law_352 (i := 24) rfl
theorem d_Z_law_689 : decode mZ_law.2.1 689 = .ok (.aload_n 2, 1) := dq_get dd_Z_law_352 (i := 25) rfl
theorem d_Z_law_690 : decode mZ_law.2.1 690 = .ok (.invokevirtual 85, 3) := dq_get dd_Z_law_352 (i := 26) rfl
theorem d_Z_law_693 : decode mZ_law.2.1 693 = .ok (.pop, 1) := dq_get dd_Z_law_352 (i := 27) rfl
theorem d_Z_law_694 : decode mZ_law.2.1 694 = .ok (.goto 739, 3) := dq_get dd_Z_law_352 (i := 28) rfl
theorem d_Z_law_697 : decode mZ_law.2.1 697 = .ok (.aload_n 1, 1) := dq_get dd_Z_law_352 (i := 29) rfl
theorem d_Z_law_698 : decode mZ_law.2.1 698 = .ok (.invokevirtual 86, 3) := dq_get dd_Z_law_352 (i := 30) rfl
theorem d_Z_law_701 : decode mZ_law.2.1 701 = .ok (.pop, 1) := dq_get dd_Z_law_352 (i := 31) rfl
theorem dd_Z_law_384 : dq mZ_law.2.1 [(702, .aload_n 2, 1), (703, .invokevirtual 89, 3), (706, .pop, 1), (707, .goto 726, 3), (710, .aload_n 1, 1), (711, .aload_n 0, 1), (712, .iload_n 3, 1), (713, .iconst 1, 1), (714, .iadd, 1), (715, .iaload, 1), (716, .invokevirtual 90, 3), (719, .pop, 1), (720, .aload_n 2, 1), (721, .aload_n 0, 1), (722, .iload_n 3, 1), (723, .iconst 1, 1), (724, .iadd, 1), (725, .iaload, 1), (726, .invokevirtual 93, 3), (729, .pop, 1), (730, .goto 703, 3), (733, .aload_n 1, 1), (734, .aload_n 0, 1), (735, .iload_n 3, 1), (736, .iconst 1, 1), (737, .iadd, 1), (738, .iaload, 1), (739, .aload_n 0, 1), (740, .iload_n 3, 1), (741, .iconst 2, 1), (742, .iadd, 1), (743, .iaload, 1)] = true := by decide +kernel
theorem d_Z_law_702 : decode mZ_law.2.1 702 = .ok (.aload_n 2, 1) := dq_get dd_Z_law_384 (i := 0) rfl
theorem d_Z_law_703 : decode mZ_law.2.1 703 = .ok (.invokevirtual 89, 3) := dq_get dd_Z_law_384 (i := 1) rfl
theorem d_Z_law_706 : decode mZ_law.2.1 706 = .ok (.pop, 1) := dq_get dd_Z_law_384 (i := 2) rfl
theorem d_Z_law_707 : decode mZ_law.2.1 707 = .ok (.goto 726, 3) := dq_get dd_Z_law_384 (i := 3) rfl
theorem d_Z_law_710 : decode mZ_law.2.1 710 = .ok (.aload_n 1, 1) := dq_get dd_Z_law_384 (i := 4) rfl
theorem d_Z_law_711 : decode mZ_law.2.1 711 = .ok (.aload_n 0, 1) := dq_get dd_Z_law_384 (i := 5) rfl
theorem d_Z_law_712 : decode mZ_law.2.1 712 = .ok (.iload_n 3, 1) := dq_get dd_Z_law_384 (i := 6) rfl
theorem d_Z_law_713 : decode mZ_law.2.1 713 = .ok (.iconst 1, 1) := dq_get dd_Z_law_384 (i := 7) rfl
theorem d_Z_law_714 : decode mZ_law.2.1 714 = .ok (.iadd, 1) := dq_get dd_Z_law_384 (i := 8) rfl
theorem d_Z_law_715 : decode mZ_law.2.1 715 = .ok (.iaload, 1) := dq_get dd_Z_law_384 (i := 9) rfl
theorem d_Z_law_716 : decode mZ_law.2.1 716 = .ok (.invokevirtual 90, 3) := dq_get dd_Z_law_384 (i := 10) rfl
theorem d_Z_law_719 : decode mZ_law.2.1 719 = .ok (.pop, 1) := dq_get dd_Z_law_384 (i := 11) rfl
theorem d_Z_law_720 : decode mZ_law.2.1 720 = .ok (.aload_n 2, 1) := dq_get dd_Z_law_384 (i := 12) rfl
theorem d_Z_law_721 : decode mZ_law.2.1 721 = .ok (.aload_n 0, 1) := dq_get dd_Z_law_384 (i := 13) rfl
theorem d_Z_law_722 : decode mZ_law.2.1 722 = .ok (.iload_n 3, 1) := dq_get dd_Z_law_384 (i := 14) rfl
theorem d_Z_law_723 : decode mZ_law.2.1 723 = .ok (.iconst 1, 1) := dq_get dd_Z_law_384 (i := 15) rfl
theorem d_Z_law_724 : decode mZ_law.2.1 724 = .ok (.iadd, 1) := dq_get dd_Z_law_384 (i := 16) rfl
theorem d_Z_law_725 : decode mZ_law.2.1 725 = .ok (.iaload, 1) := dq_get dd_Z_law_384 (i := 17) rfl
theorem d_Z_law_726 : decode mZ_law.2.1 726 = .ok (.invokevirtual 93, 3) := dq_get dd_Z_law_384 (i := 18) rfl
theorem d_Z_law_729 : decode mZ_law.2.1 729 = .ok (.pop, 1) := dq_get dd_Z_law_384 (i := 19) rfl
theorem d_Z_law_730 : decode mZ_law.2.1 730 = .ok (.goto 703, 3) := dq_get dd_Z_law_384 (i := 20) rfl
theorem d_Z_law_733 : decode mZ_law.2.1 733 = .ok (.aload_n 1, 1) := dq_get dd_Z_law_384 (i := 21) rfl
theorem d_Z_law_734 : decode mZ_law.2.1 734 = .ok (.aload_n 0, 1) := dq_get dd_Z_law_384 (i := 22) rfl
theorem d_Z_law_735 : decode mZ_law.2.1 735 = .ok (.iload_n 3, 1) := dq_get dd_Z_law_384 (i := 23) rfl
theorem d_Z_law_736 : decode mZ_law.2.1 736 = .ok (.iconst 1, 1) := dq_get dd_Z_law_384 (i := 24) rfl
theorem d_Z_law_737 : decode mZ_law.2.1 737 = .ok (.iadd, 1) := dq_get dd_Z_law_384 (i := 25) rfl
theorem d_Z_law_738 : decode mZ_law.2.1 738 = .ok (.iaload, 1) := dq_get dd_Z_law_384 (i := 26) rfl
theorem d_Z_law_739 : decode mZ_law.2.1 739 = .ok (.aload_n 0, 1) := dq_get dd_Z_law_384 (i := 27) rfl
theorem d_Z_law_740 : decode mZ_law.2.1 740 = .ok (.iload_n 3, 1) := dq_get dd_Z_law_384 (i := 28) rfl
theorem d_Z_law_741 : decode mZ_law.2.1 741 = .ok (.iconst 2, 1) := dq_get dd_Z_law_384 (i := 29) rfl
theorem d_Z_law_742 : decode mZ_law.2.1 742 = .ok (.iadd, 1) := dq_get dd_Z_law_384 (i := 30) rfl
theorem d_Z_law_743 : decode mZ_law.2.1 743 = .ok (.iaload, 1) := dq_get dd_Z_law_384 (i := 31) rfl
theorem dd_Z_law_416 : dq mZ_law.2.1 [(744, .invokevirtual 94, 3), (747, .pop, 1), (748, .aload_n 2, 1), (749, .aload_n 0, 1), (750, .iload_n 3, 1), (751, .iconst 1, 1), (752, .iadd, 1), (753, .iaload, 1), (754, .aload_n 0, 1), (755, .iload_n 3, 1), (756, .iconst 2, 1), (757, .iadd, 1), (758, .iaload, 1), (759, .invokevirtual 97, 3), (762, .pop, 1), (763, .goto 670, 3), (766, .aload_n 1, 1), (767, .aload_n 0, 1), (768, .iload_n 3, 1), (769, .iconst 1, 1), (770, .iadd, 1), (771, .iaload, 1), (772, .aload_n 0, 1), (773, .iload_n 3, 1), (774, .iconst 2, 1), (775, .iadd, 1), (776, .iaload, 1), (777, .invokevirtual 98, 3), (780, .pop, 1), (781, .aload_n 2, 1), (782, .aload_n 0, 1), (783, .iload_n 3, 1)] = true := by decide +kernel
theorem d_Z_law_744 : decode mZ_law.2.1 744 = .ok (.invokevirtual 94, 3) := dq_get dd_Z_law_416 (i := 0) rfl
theorem d_Z_law_747 : decode mZ_law.2.1 747 = .ok (.pop, 1) := dq_get dd_Z_law_416 (i := 1) rfl
theorem d_Z_law_748 : decode mZ_law.2.1 748 = .ok (.aload_n 2, 1) := dq_get dd_Z_law_416 (i := 2) rfl
theorem d_Z_law_749 : decode mZ_law.2.1 749 = .ok (.aload_n 0, 1) := dq_get dd_Z_law_416 (i := 3) rfl
theorem d_Z_law_750 : decode mZ_law.2.1 750 = .ok (.iload_n 3, 1) := dq_get dd_Z_law_416 (i := 4) rfl
theorem d_Z_law_751 : decode mZ_law.2.1 751 = .ok (.iconst 1, 1) := dq_get dd_Z_law_416 (i := 5) rfl
theorem d_Z_law_752 : decode mZ_law.2.1 752 = .ok (.iadd, 1) := dq_get dd_Z_law_416 (i := 6) rfl
theorem d_Z_law_753 : decode mZ_law.2.1 753 = .ok (.iaload, 1) := dq_get dd_Z_law_416 (i := 7) rfl
theorem d_Z_law_754 : decode mZ_law.2.1 754 = .ok (.aload_n 0, 1) := dq_get dd_Z_law_416 (i := 8) rfl
theorem d_Z_law_755 : decode mZ_law.2.1 755 = .ok (.iload_n 3, 1) := dq_get dd_Z_law_416 (i := 9) rfl
theorem d_Z_law_756 : decode mZ_law.2.1 756 = .ok (.iconst 2, 1) := dq_get dd_Z_law_416 (i := 10) rfl
theorem d_Z_law_757 : decode mZ_law.2.1 757 = .ok (.iadd, 1) := dq_get dd_Z_law_416 (i := 11) rfl
theorem d_Z_law_758 : decode mZ_law.2.1 758 = .ok (.iaload, 1) := dq_get dd_Z_law_416 (i := 12) rfl
theorem d_Z_law_759 : decode mZ_law.2.1 759 = .ok (.invokevirtual 97, 3) := dq_get dd_Z_law_416 (i := 13) rfl
theorem d_Z_law_762 : decode mZ_law.2.1 762 = .ok (.pop, 1) := dq_get dd_Z_law_416 (i := 14) rfl
theorem d_Z_law_763 : decode mZ_law.2.1 763 = .ok (.goto 670, 3) := dq_get dd_Z_law_416 (i := 15) rfl
theorem d_Z_law_766 : decode mZ_law.2.1 766 = .ok (.aload_n 1, 1) := dq_get dd_Z_law_416 (i := 16) rfl
theorem d_Z_law_767 : decode mZ_law.2.1 767 = .ok (.aload_n 0, 1) := dq_get dd_Z_law_416 (i := 17) rfl
theorem d_Z_law_768 : decode mZ_law.2.1 768 = .ok (.iload_n 3, 1) := dq_get dd_Z_law_416 (i := 18) rfl
theorem d_Z_law_769 : decode mZ_law.2.1 769 = .ok (.iconst 1, 1) := dq_get dd_Z_law_416 (i := 19) rfl
theorem d_Z_law_770 : decode mZ_law.2.1 770 = .ok (.iadd, 1) := dq_get dd_Z_law_416 (i := 20) rfl
theorem d_Z_law_771 : decode mZ_law.2.1 771 = .ok (.iaload, 1) := dq_get dd_Z_law_416 (i := 21) rfl
theorem d_Z_law_772 : decode mZ_law.2.1 772 = .ok (.aload_n 0, 1) := dq_get dd_Z_law_416 (i := 22) rfl
theorem d_Z_law_773 : decode mZ_law.2.1 773 = .ok (.iload_n 3, 1) := dq_get dd_Z_law_416 (i := 23) rfl
theorem d_Z_law_774 : decode mZ_law.2.1 774 = .ok (.iconst 2, 1) := dq_get dd_Z_law_416 (i := 24) rfl
theorem d_Z_law_775 : decode mZ_law.2.1 775 = .ok (.iadd, 1) := dq_get dd_Z_law_416 (i := 25) rfl
theorem d_Z_law_776 : decode mZ_law.2.1 776 = .ok (.iaload, 1) := dq_get dd_Z_law_416 (i := 26) rfl
theorem d_Z_law_777 : decode mZ_law.2.1 777 = .ok (.invokevirtual 98, 3) := dq_get dd_Z_law_416 (i := 27) rfl
theorem d_Z_law_780 : decode mZ_law.2.1 780 = .ok (.pop, 1) := dq_get dd_Z_law_416 (i := 28) rfl
theorem d_Z_law_781 : decode mZ_law.2.1 781 = .ok (.aload_n 2, 1) := dq_get dd_Z_law_416 (i := 29) rfl
theorem d_Z_law_782 : decode mZ_law.2.1 782 = .ok (.aload_n 0, 1) := dq_get dd_Z_law_416 (i := 30) rfl
theorem d_Z_law_783 : decode mZ_law.2.1 783 = .ok (.iload_n 3, 1) := dq_get dd_Z_law_416 (i := 31) rfl
theorem dd_Z_law_448 : dq mZ_law.2.1 [(784, .iconst 1, 1), (785, .iadd, 1), (786, .iaload, 1), (787, .aload_n 0, 1), (788, .iload_n 3, 1), (789, .iconst 2, 1), (790, .iadd, 1), (791, .iaload, 1), (792, .invokevirtual 101, 3), (795, .pop, 1), (796, .goto 637, 3), (799, .aload_n 1, 1), (800, .aload_n 0, 1), (801, .iload_n 3, 1), (802, .iconst 1, 1), (803, .iadd, 1), (804, .iaload, 1), (805, .aload_n 0, 1), (806, .iload_n 3, 1), (807, .iconst 2, 1), (808, .iadd, 1), (809, .iaload, 1), (810, .aload_n 0, 1), (811, .iload_n 3, 1), (812, .iconst 3, 1), (813, .iadd, 1), (814, .iaload, 1), (815, .invokevirtual 102, 3), (818, .pop, 1), (819, .aload_n 2, 1), (820, .aload_n 0, 1), (821, .iload_n 3, 1)] = true := by decide +kernel
theorem d_Z_law_784 : decode mZ_law.2.1 784 = .ok (.iconst 1, 1) := dq_get dd_Z_law_448 (i := 0) rfl
theorem d_Z_law_785 : decode mZ_law.2.1 785 = .ok (.iadd, 1) := dq_get dd_Z_law_448 (i := 1) rfl
theorem d_Z_law_786 : decode mZ_law.2.1 786 = .ok (.iaload, 1) := dq_get dd_Z_law_448 (i := 2) rfl
theorem d_Z_law_787 : decode mZ_law.2.1 787 = .ok (.aload_n 0, 1) := dq_get dd_Z_law_448 (i := 3) rfl
theorem d_Z_law_788 : decode mZ_law.2.1 788 = .ok (.iload_n 3, 1) := dq_get dd_Z_law_448 (i := 4) rfl
theorem d_Z_law_789 : decode mZ_law.2.1 789 = .ok (.iconst 2, 1) := dq_get dd_Z_law_448 (i := 5) rfl
theorem d_Z_law_790 : decode mZ_law.2.1 790 = .ok (.iadd, 1) := dq_get dd_Z_law_448 (i := 6) rfl
theorem d_Z_law_791 : decode mZ_law.2.1 791 = .ok (.iaload, 1) := dq_get dd_Z_law_448 (i := 7) rfl
theorem d_Z_law_792 : decode mZ_law.2.1 792 = .ok (.invokevirtual 101, 3) := dq_get dd_Z_law_448 (i := 8) rfl
theorem d_Z_law_795 : decode mZ_law.2.1 795 = .ok (.pop, 1) := dq_get dd_Z_law_448 (i := 9) rfl
theorem d_Z_law_796 : decode mZ_law.2.1 796 = .ok (.goto 637, 3) := dq_get dd_Z_law_448 (i := 10) rfl
theorem d_Z_law_799 : decode mZ_law.2.1 799 = .ok (.aload_n 1, 1) := dq_get dd_Z_law_448 (i := 11) rfl
theorem d_Z_law_800 : decode mZ_law.2.1 800 = .ok (.aload_n 0, 1) := dq_get dd_Z_law_448 (i := 12) rfl
theorem d_Z_law_801 : decode mZ_law.2.1 801 = .ok (.iload_n 3, 1) := dq_get dd_Z_law_448 (i := 13) rfl
theorem d_Z_law_802 : decode mZ_law.2.1 802 = .ok (.iconst 1, 1) := dq_get dd_Z_law_448 (i := 14) rfl
theorem d_Z_law_803 : decode mZ_law.2.1 803 = .ok (.iadd, 1) := dq_get dd_Z_law_448 (i := 15) rfl
theorem d_Z_law_804 : decode mZ_law.2.1 804 = .ok (.iaload, 1) := dq_get dd_Z_law_448 (i := 16) rfl
theorem d_Z_law_805 : decode mZ_law.2.1 805 = .ok (.aload_n 0, 1) := dq_get dd_Z_law_448 (i := 17) rfl
theorem d_Z_law_806 : decode mZ_law.2.1 806 = .ok (.iload_n 3, 1) := dq_get dd_Z_law_448 (i := 18) rfl
theorem d_Z_law_807 : decode mZ_law.2.1 807 = .ok (.iconst 2, 1) := dq_get dd_Z_law_448 (i := 19) rfl
theorem d_Z_law_808 : decode mZ_law.2.1 808 = .ok (.iadd, 1) := dq_get dd_Z_law_448 (i := 20) rfl
theorem d_Z_law_809 : decode mZ_law.2.1 809 = .ok (.iaload, 1) := dq_get dd_Z_law_448 (i := 21) rfl
theorem d_Z_law_810 : decode mZ_law.2.1 810 = .ok (.aload_n 0, 1) := dq_get dd_Z_law_448 (i := 22) rfl
theorem d_Z_law_811 : decode mZ_law.2.1 811 = .ok (.iload_n 3, 1) := dq_get dd_Z_law_448 (i := 23) rfl
theorem d_Z_law_812 : decode mZ_law.2.1 812 = .ok (.iconst 3, 1) := dq_get dd_Z_law_448 (i := 24) rfl
theorem d_Z_law_813 : decode mZ_law.2.1 813 = .ok (.iadd, 1) := dq_get dd_Z_law_448 (i := 25) rfl
theorem d_Z_law_814 : decode mZ_law.2.1 814 = .ok (.iaload, 1) := dq_get dd_Z_law_448 (i := 26) rfl
theorem d_Z_law_815 : decode mZ_law.2.1 815 = .ok (.invokevirtual 102, 3) := dq_get dd_Z_law_448 (i := 27) rfl
theorem d_Z_law_818 : decode mZ_law.2.1 818 = .ok (.pop, 1) := dq_get dd_Z_law_448 (i := 28) rfl
theorem d_Z_law_819 : decode mZ_law.2.1 819 = .ok (.aload_n 2, 1) := dq_get dd_Z_law_448 (i := 29) rfl
theorem d_Z_law_820 : decode mZ_law.2.1 820 = .ok (.aload_n 0, 1) := dq_get dd_Z_law_448 (i := 30) rfl
theorem d_Z_law_821 : decode mZ_law.2.1 821 = .ok (.iload_n 3, 1) := dq_get dd_Z_law_448 (i := 31) rfl
theorem dd_Z_law_480 : dq mZ_law.2.1 [(822, .iconst 1, 1), (823, .iadd, 1), (824, .iaload, 1), (825, .aload_n 0, 1), (826, .iload_n 3, 1), (827, .iconst 2, 1), (828, .iadd, 1), (829, .iaload, 1), (830, .aload_n 0, 1), (831, .iload_n 3, 1), (832, .iconst 3, 1), (833, .iadd, 1), (834, .iaload, 1), (835, .invokevirtual 106, 3), (838, .pop, 1), (839, .goto 594, 3), (842, .aload_n 1, 1), (843, .aload_n 0, 1), (844, .iload_n 3, 1), (845, .iconst 1, 1), (846, .iadd, 1), (847, .iaload, 1), (848, .aload_n 0, 1), (849, .iload_n 3, 1), (850, .iconst 2, 1), (851, .iadd, 1), (852, .iaload, 1), (853, .invokevirtual 107, 3), (856, .pop, 1), (857, .aload_n 2, 1), (858, .aload_n 0, 1), (859, .iload_n 3, 1)] = true := by decide +kernel
theorem d_Z_law_822 : decode mZ_law.2.1 822 = .ok (.iconst 1, 1) := dq_get dd_Z_law_480 (i := 0) rfl
theorem d_Z_law_823 : decode mZ_law.2.1 823 = .ok (.iadd, 1) := dq_get dd_Z_law_480 (i := 1) rfl
theorem d_Z_law_824 : decode mZ_law.2.1 824 = .ok (.iaload, 1) := dq_get dd_Z_law_480 (i := 2) rfl
theorem d_Z_law_825 : decode mZ_law.2.1 825 = .ok (.aload_n 0, 1) := dq_get dd_Z_law_480 (i := 3) rfl
theorem d_Z_law_826 : decode mZ_law.2.1 826 = .ok (.iload_n 3, 1) := dq_get dd_Z_law_480 (i := 4) rfl
theorem d_Z_law_827 : decode mZ_law.2.1 827 = .ok (.iconst 2, 1) := dq_get dd_Z_law_480 (i := 5) rfl
theorem d_Z_law_828 : decode mZ_law.2.1 828 = .ok (.iadd, 1) := dq_get dd_Z_law_480 (i := 6) rfl
theorem d_Z_law_829 : decode mZ_law.2.1 829 = .ok (.iaload, 1) := dq_get dd_Z_law_480 (i := 7) rfl
theorem d_Z_law_830 : decode mZ_law.2.1 830 = .ok (.aload_n 0, 1) := dq_get dd_Z_law_480 (i := 8) rfl
theorem d_Z_law_831 : decode mZ_law.2.1 831 = .ok (.iload_n 3, 1) := dq_get dd_Z_law_480 (i := 9) rfl
theorem d_Z_law_832 : decode mZ_law.2.1 832 = .ok (.iconst 3, 1) := dq_get dd_Z_law_480 (i := 10) rfl
theorem d_Z_law_833 : decode mZ_law.2.1 833 = .ok (.iadd, 1) := dq_get dd_Z_law_480 (i := 11) rfl
theorem d_Z_law_834 : decode mZ_law.2.1 834 = .ok (.iaload, 1) := dq_get dd_Z_law_480 (i := 12) rfl
theorem d_Z_law_835 : decode mZ_law.2.1 835 = .ok (.invokevirtual 106, 3) := dq_get dd_Z_law_480 (i := 13) rfl
theorem d_Z_law_838 : decode mZ_law.2.1 838 = .ok (.pop, 1) := dq_get dd_Z_law_480 (i := 14) rfl
theorem d_Z_law_839 : decode mZ_law.2.1 839 = .ok (.goto 594, 3) := dq_get dd_Z_law_480 (i := 15) rfl
theorem d_Z_law_842 : decode mZ_law.2.1 842 = .ok (.aload_n 1, 1) := dq_get dd_Z_law_480 (i := 16) rfl
theorem d_Z_law_843 : decode mZ_law.2.1 843 = .ok (.aload_n 0, 1) := dq_get dd_Z_law_480 (i := 17) rfl
theorem d_Z_law_844 : decode mZ_law.2.1 844 = .ok (.iload_n 3, 1) := dq_get dd_Z_law_480 (i := 18) rfl
theorem d_Z_law_845 : decode mZ_law.2.1 845 = .ok (.iconst 1, 1) := dq_get dd_Z_law_480 (i := 19) rfl
theorem d_Z_law_846 : decode mZ_law.2.1 846 = .ok (.iadd, 1) := dq_get dd_Z_law_480 (i := 20) rfl
theorem d_Z_law_847 : decode mZ_law.2.1 847 = .ok (.iaload, 1) := dq_get dd_Z_law_480 (i := 21) rfl
theorem d_Z_law_848 : decode mZ_law.2.1 848 = .ok (.aload_n 0, 1) := dq_get dd_Z_law_480 (i := 22) rfl
theorem d_Z_law_849 : decode mZ_law.2.1 849 = .ok (.iload_n 3, 1) := dq_get dd_Z_law_480 (i := 23) rfl
theorem d_Z_law_850 : decode mZ_law.2.1 850 = .ok (.iconst 2, 1) := dq_get dd_Z_law_480 (i := 24) rfl
theorem d_Z_law_851 : decode mZ_law.2.1 851 = .ok (.iadd, 1) := dq_get dd_Z_law_480 (i := 25) rfl
theorem d_Z_law_852 : decode mZ_law.2.1 852 = .ok (.iaload, 1) := dq_get dd_Z_law_480 (i := 26) rfl
theorem d_Z_law_853 : decode mZ_law.2.1 853 = .ok (.invokevirtual 107, 3) := dq_get dd_Z_law_480 (i := 27) rfl
theorem d_Z_law_856 : decode mZ_law.2.1 856 = .ok (.pop, 1) := dq_get dd_Z_law_480 (i := 28) rfl
theorem d_Z_law_857 : decode mZ_law.2.1 857 = .ok (.aload_n 2, 1) := dq_get dd_Z_law_480 (i := 29) rfl
theorem d_Z_law_858 : decode mZ_law.2.1 858 = .ok (.aload_n 0, 1) := dq_get dd_Z_law_480 (i := 30) rfl
theorem d_Z_law_859 : decode mZ_law.2.1 859 = .ok (.iload_n 3, 1) := dq_get dd_Z_law_480 (i := 31) rfl
theorem dd_Z_law_512 : dq mZ_law.2.1 [(860, .iconst 1, 1), (861, .iadd, 1), (862, .iaload, 1), (863, .aload_n 0, 1), (864, .iload_n 3, 1), (865, .iconst 2, 1), (866, .iadd, 1), (867, .iaload, 1), (868, .invokevirtual 110, 3), (871, .pop, 1), (872, .goto 561, 3), (875, .aload_n 1, 1), (876, .aload_n 0, 1), (877, .iload_n 3, 1), (878, .iconst 1, 1), (879, .iadd, 1), (880, .iaload, 1), (881, .invokevirtual 111, 3), (884, .pop, 1), (885, .aload_n 2, 1), (886, .aload_n 0, 1), (887, .iload_n 3, 1), (888, .iconst 1, 1), (889, .iadd, 1), (890, .iaload, 1), (891, .invokevirtual 114, 3), (894, .pop, 1), (895, .goto 538, 3), (898, .aload_n 1, 1), (899, .aload_n 0, 1), (900, .iload_n 3, 1), (901, .iconst 1, 1)] = true := by decide +kernel
theorem d_Z_law_860 : decode mZ_law.2.1 860 = .ok (.iconst 1, 1) := dq_get dd_Z_law_512 (i := 0) rfl
theorem d_Z_law_861 : decode mZ_law.2.1 861 = .ok (.iadd, 1) := dq_get dd_Z_law_512 (i := 1) rfl
theorem d_Z_law_862 : decode mZ_law.2.1 862 = .ok (.iaload, 1) := dq_get dd_Z_law_512 (i := 2) rfl
theorem d_Z_law_863 : decode mZ_law.2.1 863 = .ok (.aload_n 0, 1) := dq_get dd_Z_law_512 (i := 3) rfl
theorem d_Z_law_864 : decode mZ_law.2.1 864 = .ok (.iload_n 3, 1) := dq_get dd_Z_law_512 (i := 4) rfl
theorem d_Z_law_865 : decode mZ_law.2.1 865 = .ok (.iconst 2, 1) := dq_get dd_Z_law_512 (i := 5) rfl
theorem d_Z_law_866 : decode mZ_law.2.1 866 = .ok (.iadd, 1) := dq_get dd_Z_law_512 (i := 6) rfl
theorem d_Z_law_867 : decode mZ_law.2.1 867 = .ok (.iaload, 1) := dq_get dd_Z_law_512 (i := 7) rfl
theorem d_Z_law_868 : decode mZ_law.2.1 868 = .ok (.invokevirtual 110, 3) := dq_get dd_Z_law_512 (i := 8) rfl
theorem d_Z_law_871 : decode mZ_law.2.1 871 = .ok (.pop, 1) := dq_get dd_Z_law_512 (i := 9) rfl
theorem d_Z_law_872 : decode mZ_law.2.1 872 = .ok (.goto 561, 3) := dq_get dd_Z_law_512 (i := 10) rfl
theorem d_Z_law_875 : decode mZ_law.2.1 875 = .ok (.aload_n 1, 1) := dq_get dd_Z_law_512 (i := 11) rfl
theorem d_Z_law_876 : decode mZ_law.2.1 876 = .ok (.aload_n 0, 1) := dq_get dd_Z_law_512 (i := 12) rfl
theorem d_Z_law_877 : decode mZ_law.2.1 877 = .ok (.iload_n 3, 1) := dq_get dd_Z_law_512 (i := 13) rfl
theorem d_Z_law_878 : decode mZ_law.2.1 878 = .ok (.iconst 1, 1) := dq_get dd_Z_law_512 (i := 14) rfl
theorem d_Z_law_879 : decode mZ_law.2.1 879 = .ok (.iadd, 1) := dq_get dd_Z_law_512 (i := 15) rfl
theorem d_Z_law_880 : decode mZ_law.2.1 880 = .ok (.iaload, 1) := dq_get dd_Z_law_512 (i := 16) rfl
theorem d_Z_law_881 : decode mZ_law.2.1 881 = .ok (.invokevirtual 111, 3) := dq_get dd_Z_law_512 (i := 17) rfl
theorem d_Z_law_884 : decode mZ_law.2.1 884 = .ok (.pop, 1) := dq_get dd_Z_law_512 (i := 18) rfl
theorem d_Z_law_885 : decode mZ_law.2.1 885 = .ok (.aload_n 2, 1) := dq_get dd_Z_law_512 (i := 19) rfl
theorem d_Z_law_886 : decode mZ_law.2.1 886 = .ok (.aload_n 0, 1) := dq_get dd_Z_law_512 (i := 20) rfl
theorem d_Z_law_887 : decode mZ_law.2.1 887 = .ok (.iload_n 3, 1) := dq_get dd_Z_law_512 (i := 21) rfl
theorem d_Z_law_888 : decode mZ_law.2.1 888 = .ok (.iconst 1, 1) := dq_get dd_Z_law_512 (i := 22) rfl
theorem d_Z_law_889 : decode mZ_law.2.1 889 = .ok (.iadd, 1) := dq_get dd_Z_law_512 (i := 23) rfl
theorem d_Z_law_890 : decode mZ_law.2.1 890 = .ok (.iaload, 1) := dq_get dd_Z_law_512 (i := 24) rfl
theorem d_Z_law_891 : decode mZ_law.2.1 891 = .ok (.invokevirtual 114, 3) := dq_get dd_Z_law_512 (i := 25) rfl
theorem d_Z_law_894 : decode mZ_law.2.1 894 = .ok (.pop, 1) := dq_get dd_Z_law_512 (i := 26) rfl
theorem d_Z_law_895 : decode mZ_law.2.1 895 = .ok (.goto 538, 3) := dq_get dd_Z_law_512 (i := 27) rfl
theorem d_Z_law_898 : decode mZ_law.2.1 898 = .ok (.aload_n 1, 1) := dq_get dd_Z_law_512 (i := 28) rfl
theorem d_Z_law_899 : decode mZ_law.2.1 899 = .ok (.aload_n 0, 1) := dq_get dd_Z_law_512 (i := 29) rfl
theorem d_Z_law_900 : decode mZ_law.2.1 900 = .ok (.iload_n 3, 1) := dq_get dd_Z_law_512 (i := 30) rfl
theorem d_Z_law_901 : decode mZ_law.2.1 901 = .ok (.iconst 1, 1) := dq_get dd_Z_law_512 (i := 31) rfl
theorem dd_Z_law_544 : dq mZ_law.2.1 [(902, .iadd, 1), (903, .iaload, 1), (904, .invokevirtual 115, 3), (907, .pop, 1), (908, .aload_n 2, 1), (909, .aload_n 0, 1), (910, .iload_n 3, 1), (911, .iconst 1, 1), (912, .iadd, 1), (913, .iaload, 1), (914, .invokevirtual 118, 3), (917, .pop, 1), (918, .goto 515, 3), (921, .aload_n 1, 1), (922, .aload_n 0, 1), (923, .iload_n 3, 1), (924, .iconst 1, 1), (925, .iadd, 1), (926, .iaload, 1), (927, .invokevirtual 119, 3), (930, .pop, 1), (931, .aload_n 2, 1), (932, .aload_n 0, 1), (933, .iload_n 3, 1), (934, .iconst 1, 1), (935, .iadd, 1), (936, .iaload, 1), (937, .invokevirtual 122, 3), (940, .pop, 1), (941, .goto 492, 3), (944, .aload_n 1, 1), (945, .invokevirtual 123, 3)] = true := by decide +kernel
theorem d_Z_law_902 : decode mZ_law.2.1 902 = .ok (.iadd, 1) := dq_get dd_Z_law_544 (i := 0) rfl
theorem d_Z_law_903 : decode mZ_law.2.1 903 = .ok (.iaload, 1) := dq_get dd_Z_law_544 (i := 1) rfl
theorem d_Z_law_904 : decode mZ_law.2.1 904 = .ok (.invokevirtual 115, 3) := dq_get dd_Z_law_544 (i := 2) rfl
theorem d_Z_law_907 : decode mZ_law.2.1 907 = .ok (.pop, 1) := dq_get dd_Z_law_544 (i := 3) rfl
theorem d_Z_law_908 : decode mZ_law.2.1 908 = .ok (.aload_n 2, 1) := dq_get dd_Z_law_544 (i := 4) rfl
theorem d_Z_law_909 : decode mZ_law.2.1 909 = .ok (.aload_n 0, 1) := dq_get dd_Z_law_544 (i := 5) rfl
theorem d_Z_law_910 : decode mZ_law.2.1 910 = .ok (.iload_n 3, 1) := dq_get dd_Z_law_544 (i := 6) rfl
theorem d_Z_law_911 : decode mZ_law.2.1 911 = .ok (.iconst 1, 1) := dq_get dd_Z_law_544 (i := 7) rfl
theorem d_Z_law_912 : decode mZ_law.2.1 912 = .ok (.iadd, 1) := dq_get dd_Z_law_544 (i := 8) rfl
theorem d_Z_law_913 : decode mZ_law.2.1 913 = .ok (.iaload, 1) := dq_get dd_Z_law_544 (i := 9) rfl
theorem d_Z_law_914 : decode mZ_law.2.1 914 = .ok (.invokevirtual 118, 3) := dq_get dd_Z_law_544 (i := 10) rfl
theorem d_Z_law_917 : decode mZ_law.2.1 917 = .ok (.pop, 1) := dq_get dd_Z_law_544 (i := 11) rfl
theorem d_Z_law_918 : decode mZ_law.2.1 918 = .ok (.goto 515, 3) := dq_get dd_Z_law_544 (i := 12) rfl
theorem d_Z_law_921 : decode mZ_law.2.1 921 = .ok (.aload_n 1, 1) := dq_get dd_Z_law_544 (i := 13) rfl
theorem d_Z_law_922 : decode mZ_law.2.1 922 = .ok (.aload_n 0, 1) := dq_get dd_Z_law_544 (i := 14) rfl
theorem d_Z_law_923 : decode mZ_law.2.1 923 = .ok (.iload_n 3, 1) := dq_get dd_Z_law_544 (i := 15) rfl
theorem d_Z_law_924 : decode mZ_law.2.1 924 = .ok (.iconst 1, 1) := dq_get dd_Z_law_544 (i := 16) rfl
theorem d_Z_law_925 : decode mZ_law.2.1 925 = .ok (.iadd, 1) := dq_get dd_Z_law_544 (i := 17) rfl
theorem d_Z_law_926 : decode mZ_law.2.1 926 = .ok (.iaload, 1) := dq_get dd_Z_law_544 (i := 18) rfl
theorem d_Z_law_927 : decode mZ_law.2.1 927 = .ok (.invokevirtual 119, 3) := dq_get dd_Z_law_544 (i := 19) rfl
theorem d_Z_law_930 : decode mZ_law.2.1 930 = .ok (.pop, 1) := dq_get dd_Z_law_544 (i := 20) rfl
theorem d_Z_law_931 : decode mZ_law.2.1 931 = .ok (.aload_n 2, 1) := dq_get dd_Z_law_544 (i := 21) rfl
theorem d_Z_law_932 : decode mZ_law.2.1 932 = .ok (.aload_n 0, 1) := dq_get dd_Z_law_544 (i := 22) rfl
theorem d_Z_law_933 : decode mZ_law.2.1 933 = .ok (.iload_n 3, 1) := dq_get dd_Z_law_544 (i := 23) rfl
theorem d_Z_law_934 : decode mZ_law.2.1 934 = .ok (.iconst 1, 1) := dq_get dd_Z_law_544 (i := 24) rfl
theorem d_Z_law_935 : decode mZ_law.2.1 935 = .ok (.iadd, 1) := dq_get dd_Z_law_544 (i := 25) rfl
theorem d_Z_law_936 : decode mZ_law.2.1 936 = .ok (.iaload, 1) := dq_get dd_Z_law_544 (i := 26) rfl
theorem d_Z_law_937 : decode mZ_law.2.1 937 = .ok (.invokevirtual 122, 3) := dq_get dd_Z_law_544 (i := 27) rfl
theorem d_Z_law_940 : decode mZ_law.2.1 940 = .ok (.pop, 1) := dq_get dd_Z_law_544 (i := 28) rfl
theorem d_Z_law_941 : decode mZ_law.2.1 941 = .ok (.goto 492, 3) := dq_get dd_Z_law_544 (i := 29) rfl
theorem d_Z_law_944 : decode mZ_law.2.1 944 = .ok (.aload_n 1, 1) := dq_get dd_Z_law_544 (i := 30) rfl
theorem d_Z_law_945 : decode mZ_law.2.1 945 = .ok (.invokevirtual 123, 3) := dq_get dd_Z_law_544 (i := 31) rfl
theorem dd_Z_law_576 : dq mZ_law.2.1 [(948, .pop, 1), (949, .aload_n 2, 1), (950, .invokevirtual 126, 3), (953, .pop, 1), (954, .goto 479, 3), (957, .aload_n 1, 1), (958, .aload_n 0, 1), (959, .iload_n 3, 1), (960, .iconst 1, 1), (961, .iadd, 1), (962, .iaload, 1), (963, .invokevirtual 127, 3), (966, .pop, 1), (967, .aload_n 2, 1), (968, .aload_n 0, 1), (969, .iload_n 3, 1), (970, .iconst 1, 1), (971, .iadd, 1), (972, .iaload, 1), (973, .invokevirtual 130, 3), (976, .pop, 1), (977, .goto 456, 3), (980, .aload_n 1, 1), (981, .invokevirtual 131, 3), (984, .pop, 1), (985, .aload_n 2, 1), (986, .invokevirtual 134, 3), (989, .pop, 1), (990, .goto 443, 3), (993, .aload_n 1, 1), (994, .invokevirtual 135, 3), (997, .pop, 1)] = true := by decide +kernel
theorem d_Z_law_948 : decode mZ_law.2.1 948 = .ok (.pop, 1) := dq_get dd_Z_law_576 (i := 0) rfl
theorem d_Z_law_949 : decode mZ_law.2.1 949 = .ok (.aload_n 2, 1) := dq_get dd_Z_law_576 (i := 1) rfl
theorem d_Z_law_950 : decode mZ_law.2.1 950 = .ok (.invokevirtual 126, 3) := dq_get dd_Z_law_576 (i := 2) rfl
theorem d_Z_law_953 : decode mZ_law.2.1 953 = .ok (.pop, 1) := dq_get dd_Z_law_576 (i := 3) rfl
theorem d_Z_law_954 : decode mZ_law.2.1 954 = .ok (.goto 479, 3) := dq_get dd_Z_law_576 (i := 4) rfl
theorem d_Z_law_957 : decode mZ_law.2.1 957 = .ok (.aload_n 1, 1) := dq_get dd_Z_law_576 (i := 5) rfl
theorem d_Z_law_958 : decode mZ_law.2.1 958 = .ok (.aload_n 0, 1) := dq_get dd_Z_law_576 (i := 6) rfl
theorem d_Z_law_959 : decode mZ_law.2.1 959 = .ok (.iload_n 3, 1) := dq_get dd_Z_law_576 (i := 7) rfl
theorem d_Z_law_960 : decode mZ_law.2.1 960 = .ok (.iconst 1, 1) := dq_get dd_Z_law_576 (i := 8) rfl
theorem d_Z_law_961 : decode mZ_law.2.1 961 = .ok (.iadd, 1) := dq_get dd_Z_law_576 (i := 9) rfl
theorem d_Z_law_962 : decode mZ_law.2.1 962 = .ok (.iaload, 1) := dq_get dd_Z_law_576 (i := 10) rfl
theorem d_Z_law_963 : decode mZ_law.2.1 963 = .ok (.invokevirtual 127, 3) := dq_get dd_Z_law_576 (i := 11) rfl
theorem d_Z_law_966 : decode mZ_law.2.1 966 = .ok (.pop, 1) := dq_get dd_Z_law_576 (i := 12) rfl
theorem d_Z_law_967 : decode mZ_law.2.1 967 = .ok (.aload_n 2, 1) := dq_get dd_Z_law_576 (i := 13) rfl
theorem d_Z_law_968 : decode mZ_law.2.1 968 = .ok (.aload_n 0, 1) := dq_get dd_Z_law_576 (i := 14) rfl
theorem d_Z_law_969 : decode mZ_law.2.1 969 = .ok (.iload_n 3, 1) := dq_get dd_Z_law_576 (i := 15) rfl
theorem d_Z_law_970 : decode mZ_law.2.1 970 = .ok (.iconst 1, 1) := dq_get dd_Z_law_576 (i := 16) rfl
theorem d_Z_law_971 : decode mZ_law.2.1 971 = .ok (.iadd, 1) := dq_get dd_Z_law_576 (i := 17) rfl
theorem d_Z_law_972 : decode mZ_law.2.1 972 = .ok (.iaload, 1) := dq_get dd_Z_law_576 (i := 18) rfl
theorem d_Z_law_973 : decode mZ_law.2.1 973 = .ok (.invokevirtual 130, 3) := dq_get dd_Z_law_576 (i := 19) rfl
theorem d_Z_law_976 : decode mZ_law.2.1 976 = .ok (.pop, 1) := dq_get dd_Z_law_576 (i := 20) rfl
theorem d_Z_law_977 : decode mZ_law.2.1 977 = .ok (.goto 456, 3) := dq_get dd_Z_law_576 (i := 21) rfl
theorem d_Z_law_980 : decode mZ_law.2.1 980 = .ok (.aload_n 1, 1) := dq_get dd_Z_law_576 (i := 22) rfl
theorem d_Z_law_981 : decode mZ_law.2.1 981 = .ok (.invokevirtual 131, 3) := dq_get dd_Z_law_576 (i := 23) rfl
theorem d_Z_law_984 : decode mZ_law.2.1 984 = .ok (.pop, 1) := dq_get dd_Z_law_576 (i := 24) rfl
theorem d_Z_law_985 : decode mZ_law.2.1 985 = .ok (.aload_n 2, 1) := dq_get dd_Z_law_576 (i := 25) rfl
theorem d_Z_law_986 : decode mZ_law.2.1 986 = .ok (.invokevirtual 134, 3) := dq_get dd_Z_law_576 (i := 26) rfl
theorem d_Z_law_989 : decode mZ_law.2.1 989 = .ok (.pop, 1) := dq_get dd_Z_law_576 (i := 27) rfl
theorem d_Z_law_990 : decode mZ_law.2.1 990 = .ok (.goto 443, 3) := dq_get dd_Z_law_576 (i := 28) rfl
theorem d_Z_law_993 : decode mZ_law.2.1 993 = .ok (.aload_n 1, 1) := dq_get dd_Z_law_576 (i := 29) rfl
theorem d_Z_law_994 : decode mZ_law.2.1 994 = .ok (.invokevirtual 135, 3) := dq_get dd_Z_law_576 (i := 30) rfl
theorem d_Z_law_997 : decode mZ_law.2.1 997 = .ok (.pop, 1) := dq_get dd_Z_law_576 (i := 31) rfl
theorem dd_Z_law_608 : dq mZ_law.2.1 [(998, .aload_n 2, 1), (999, .invokevirtual 138, 3), (1002, .pop, 1), (1003, .goto 430, 3), (1006, .aload_n 1, 1), (1007, .aload_n 0, 1), (1008, .iload_n 3, 1), (1009, .iconst 1, 1), (1010, .iadd, 1), (1011, .iaload, 1), (1012, .invokevirtual 139, 3), (1015, .pop, 1), (1016, .aload_n 2, 1), (1017, .aload_n 0, 1), (1018, .iload_n 3, 1), (1019, .iconst 1, 1), (1020, .iadd, 1), (1021, .iaload, 1), (1022, .invokevirtual 142, 3), (1025, .pop, 1), (1026, .goto 407, 3), (1029, .aload_n 1, 1), (1030, .invokevirtual 143, 3), (1033, .pop, 1), (1034, .aload_n 2, 1), (1035, .invokevirtual 146, 3), (1038, .pop, 1), (1039, .goto 394, 3), (1042, .aload_n 1, 1), (1043, .aload_n 0, 1), (1044, .iload_n 3, 1), (1045, .iconst 1, 1)] = true := by decide +kernel
theorem d_Z_law_998 : decode mZ_law.2.1 998 = .ok (.aload_n 2, 1) := dq_get dd_Z_law_608 (i := 0) rfl
theorem d_Z_law_999 : decode mZ_law.2.1 999 = .ok (.invokevirtual 138, 3) := dq_get dd_Z_law_608 (i := 1) rfl
theorem d_Z_law_1002 : decode mZ_law.2.1 1002 = .ok (.pop, 1) := dq_get dd_Z_law_608 (i := 2) rfl
theorem d_Z_law_1003 : decode mZ_law.2.1 1003 = .ok (.goto 430, 3) := dq_get dd_Z_law_608 (i := 3) rfl
theorem d_Z_law_1006 : decode mZ_law.2.1 1006 = .ok (.aload_n 1, 1) := dq_get dd_Z_law_608 (i := 4) rfl
theorem d_Z_law_1007 : decode mZ_law.2.1 1007 = .ok (.aload_n 0, 1) := dq_get dd_Z_law_608 (i := 5) rfl
theorem d_Z_law_1008 : decode mZ_law.2.1 1008 = .ok (.iload_n 3, 1) := dq_get dd_Z_law_608 (i := 6) rfl
theorem d_Z_law_1009 : decode mZ_law.2.1 1009 = .ok (.iconst 1, 1) := dq_get dd_Z_law_608 (i := 7) rfl
theorem d_Z_law_1010 : decode mZ_law.2.1 1010 = .ok (.iadd, 1) := dq_get dd_Z_law_608 (i := 8) rfl
theorem d_Z_law_1011 : decode mZ_law.2.1 1011 = .ok (.iaload, 1) := dq_get dd_Z_law_608 (i := 9) rfl
theorem d_Z_law_1012 : decode mZ_law.2.1 1012 = .ok (.invokevirtual 139, 3) := dq_get dd_Z_law_608 (i := 10) rfl
theorem d_Z_law_1015 : decode mZ_law.2.1 1015 = .ok (.pop, 1) := dq_get dd_Z_law_608 (i := 11) rfl
theorem d_Z_law_1016 : decode mZ_law.2.1 1016 = .ok (.aload_n 2, 1) := dq_get dd_Z_law_608 (i := 12) rfl
theorem d_Z_law_1017 : decode mZ_law.2.1 1017 = .ok (.aload_n 0, 1) := dq_get dd_Z_law_608 (i := 13) rfl
theorem d_Z_law_1018 : decode mZ_law.2.1 1018 = .ok (.iload_n 3, 1) := dq_get dd_Z_law_608 (i := 14) rfl
theorem d_Z_law_1019 : decode mZ_law.2.1 1019 = .ok (.iconst 1, 1) := dq_get dd_Z_law_608 (i := 15) rfl
theorem d_Z_law_1020 : decode mZ_law.2.1 1020 = .ok (.iadd, 1) := dq_get dd_Z_law_608 (i := 16) rfl
theorem d_Z_law_1021 : decode mZ_law.2.1 1021 = .ok (.iaload, 1) := dq_get dd_Z_law_608 (i := 17) rfl
theorem d_Z_law_1022 : decode mZ_law.2.1 1022 = .ok (.invokevirtual 142, 3) := dq_get dd_Z_law_608 (i := 18) rfl
theorem d_Z_law_1025 : decode mZ_law.2.1 1025 = .ok (.pop, 1) := dq_get dd_Z_law_608 (i := 19) rfl
theorem d_Z_law_1026 : decode mZ_law.2.1 1026 = .ok (.goto 407, 3) := dq_get dd_Z_law_608 (i := 20) rfl
theorem d_Z_law_1029 : decode mZ_law.2.1 1029 = .ok (.aload_n 1, 1) := dq_get dd_Z_law_608 (i := 21) rfl
theorem d_Z_law_1030 : decode mZ_law.2.1 1030 = .ok (.invokevirtual 143, 3) := dq_get dd_Z_law_608 (i := 22) rfl
theorem d_Z_law_1033 : decode mZ_law.2.1 1033 = .ok (.pop, 1) := dq_get dd_Z_law_608 (i := 23) rfl
theorem d_Z_law_1034 : decode mZ_law.2.1 1034 = .ok (.aload_n 2, 1) := dq_get dd_Z_law_608 (i := 24) rfl
theorem d_Z_law_1035 : decode mZ_law.2.1 1035 = .ok (.invokevirtual 146, 3) := dq_get dd_Z_law_608 (i := 25) rfl
theorem d_Z_law_1038 : decode mZ_law.2.1 1038 = .ok (.pop, 1) := dq_get dd_Z_law_608 (i := 26) rfl
theorem d_Z_law_1039 : decode mZ_law.2.1 1039 = .ok (.goto 394, 3) := dq_get dd_Z_law_608 (i := 27) rfl
theorem d_Z_law_1042 : decode mZ_law.2.1 1042 = .ok (.aload_n 1, 1) := dq_get dd_Z_law_608 (i := 28) rfl
theorem d_Z_law_1043 : decode mZ_law.2.1 1043 = .ok (.aload_n 0, 1) := dq_get dd_Z_law_608 (i := 29) rfl
theorem d_Z_law_1044 : decode mZ_law.2.1 1044 = .ok (.iload_n 3, 1) := dq_get dd_Z_law_608 (i := 30) rfl
theorem d_Z_law_1045 : decode mZ_law.2.1 1045 = .ok (.iconst 1, 1) := dq_get dd_Z_law_608 (i := 31) rfl
theorem dd_Z_law_640 : dq mZ_law.2.1 [(1046, .iadd, 1), (1047, .iaload, 1), (1048, .invokevirtual 147, 3), (1051, .pop, 1), (1052, .aload_n 2, 1), (1053, .aload_n 0, 1), (1054, .iload_n 3, 1), (1055, .iconst 1, 1), (1056, .iadd, 1), (1057, .iaload, 1), (1058, .invokevirtual 150, 3), (1061, .pop, 1), (1062, .goto 371, 3), (1065, .aload_n 1, 1), (1066, .aload_n 0, 1), (1067, .iload_n 3, 1), (1068, .iconst 1, 1), (1069, .iadd, 1), (1070, .iaload, 1), (1071, .invokevirtual 151, 3), (1074, .pop, 1), (1075, .aload_n 2, 1), (1076, .aload_n 0, 1), (1077, .iload_n 3, 1), (1078, .iconst 1, 1), (1079, .iadd, 1), (1080, .iaload, 1), (1081, .invokevirtual 154, 3), (1084, .pop, 1), (1085, .goto 348, 3), (1088, .aload_n 1, 1), (1089, .invokevirtual 155, 3)] = true := by decide +kernel
theorem d_Z_law_1046 : decode mZ_law.2.1 1046 = .ok (.iadd, 1) := dq_get dd_Z_law_640 (i := 0) rfl
theorem d_Z_law_1047 : decode mZ_law.2.1 1047 = .ok (.iaload, 1) := dq_get dd_Z_law_640 (i := 1) rfl
theorem d_Z_law_1048 : decode mZ_law.2.1 1048 = .ok (.invokevirtual 147, 3) := dq_get dd_Z_law_640 (i := 2) rfl
theorem d_Z_law_1051 : decode mZ_law.2.1 1051 = .ok (.pop, 1) := dq_get dd_Z_law_640 (i := 3) rfl
theorem d_Z_law_1052 : decode mZ_law.2.1 1052 = .ok (.aload_n 2, 1) := dq_get dd_Z_law_640 (i := 4) rfl
theorem d_Z_law_1053 : decode mZ_law.2.1 1053 = .ok (.aload_n 0, 1) := dq_get dd_Z_law_640 (i := 5) rfl
theorem d_Z_law_1054 : decode mZ_law.2.1 1054 = .ok (.iload_n 3, 1) := dq_get dd_Z_law_640 (i := 6) rfl
theorem d_Z_law_1055 : decode mZ_law.2.1 1055 = .ok (.iconst 1, 1) := dq_get dd_Z_law_640 (i := 7) rfl
theorem d_Z_law_1056 : decode mZ_law.2.1 1056 = .ok (.iadd, 1) := dq_get dd_Z_law_640 (i := 8) rfl
theorem d_Z_law_1057 : decode mZ_law.2.1 1057 = .ok (.iaload, 1) := dq_get dd_Z_law_640 (i := 9) rfl
theorem d_Z_law_1058 : decode mZ_law.2.1 1058 = .ok (.invokevirtual 150, 3) := dq_get dd_Z_law_640 (i := 10) rfl
theorem d_Z_law_1061 : decode mZ_law.2.1 1061 = .ok (.pop, 1) := dq_get dd_Z_law_640 (i := 11) rfl
theorem d_Z_law_1062 : decode mZ_law.2.1 1062 = .ok (.goto 371, 3) := dq_get dd_Z_law_640 (i := 12) rfl
theorem d_Z_law_1065 : decode mZ_law.2.1 1065 = .ok (.aload_n 1, 1) := dq_get dd_Z_law_640 (i := 13) rfl
theorem d_Z_law_1066 : decode mZ_law.2.1 1066 = .ok (.aload_n 0, 1) := dq_get dd_Z_law_640 (i := 14) rfl
theorem d_Z_law_1067 : decode mZ_law.2.1 1067 = .ok (.iload_n 3, 1) := dq_get dd_Z_law_640 (i := 15) rfl
theorem d_Z_law_1068 : decode mZ_law.2.1 1068 = .ok (.iconst 1, 1) := dq_get dd_Z_law_640 (i := 16) rfl
theorem d_Z_law_1069 : decode mZ_law.2.1 1069 = .ok (.iadd, 1) := dq_get dd_Z_law_640 (i := 17) rfl
theorem d_Z_law_1070 : decode mZ_law.2.1 1070 = .ok (.iaload, 1) := dq_get dd_Z_law_640 (i := 18) rfl
theorem d_Z_law_1071 : decode mZ_law.2.1 1071 = .ok (.invokevirtual 151, 3) := dq_get dd_Z_law_640 (i := 19) rfl
theorem d_Z_law_1074 : decode mZ_law.2.1 1074 = .ok (.pop, 1) := dq_get dd_Z_law_640 (i := 20) rfl
theorem d_Z_law_1075 : decode mZ_law.2.1 1075 = .ok (.aload_n 2, 1) := dq_get dd_Z_law_640 (i := 21) rfl
theorem d_Z_law_1076 : decode mZ_law.2.1 1076 = .ok (.aload_n 0, 1) := dq_get dd_Z_law_640 (i := 22) rfl
theorem d_Z_law_1077 : decode mZ_law.2.1 1077 = .ok (.iload_n 3, 1) := dq_get dd_Z_law_640 (i := 23) rfl
theorem d_Z_law_1078 : decode mZ_law.2.1 1078 = .ok (.iconst 1, 1) := dq_get dd_Z_law_640 (i := 24) rfl
theorem d_Z_law_1079 : decode mZ_law.2.1 1079 = .ok (.iadd, 1) := dq_get dd_Z_law_640 (i := 25) rfl
theorem d_Z_law_1080 : decode mZ_law.2.1 1080 = .ok (.iaload, 1) := dq_get dd_Z_law_640 (i := 26) rfl
theorem d_Z_law_1081 : decode mZ_law.2.1 1081 = .ok (.invokevirtual 154, 3) := dq_get dd_Z_law_640 (i := 27) rfl
theorem d_Z_law_1084 : decode mZ_law.2.1 1084 = .ok (.pop, 1) := dq_get dd_Z_law_640 (i := 28) rfl
theorem d_Z_law_1085 : decode mZ_law.2.1 1085 = .ok (.goto 348, 3) := dq_get dd_Z_law_640 (i := 29) rfl
theorem d_Z_law_1088 : decode mZ_law.2.1 1088 = .ok (.aload_n 1, 1) := dq_get dd_Z_law_640 (i := 30) rfl
theorem d_Z_law_1089 : decode mZ_law.2.1 1089 = .ok (.invokevirtual 155, 3) := dq_get dd_Z_law_640 (i := 31) rfl
theorem dd_Z_law_672 : dq mZ_law.2.1 [(1092, .pop, 1), (1093, .aload_n 2, 1), (1094, .invokevirtual 158, 3), (1097, .pop, 1), (1098, .goto 335, 3), (1101, .aload_n 1, 1), (1102, .aload_n 0, 1), (1103, .iload_n 3, 1), (1104, .iconst 1, 1), (1105, .iadd, 1), (1106, .iaload, 1), (1107, .invokevirtual 159, 3), (1110, .pop, 1), (1111, .aload_n 2, 1), (1112, .aload_n 0, 1), (1113, .iload_n 3, 1), (1114, .iconst 1, 1), (1115, .iadd, 1), (1116, .iaload, 1), (1117, .invokevirtual 162, 3), (1120, .pop, 1), (1121, .goto 312, 3), (1124, .aload_n 1, 1), (1125, .aload_n 0, 1), (1126, .iload_n 3, 1), (1127, .iconst 1, 1), (1128, .iadd, 1), (1129, .iaload, 1), (1130, .invokevirtual 163, 3), (1133, .pop, 1), (1134, .aload_n 2, 1), (1135, .aload_n 0, 1)] = true := by decide +kernel
theorem d_Z_law_1092 : decode mZ_law.2.1 1092 = .ok (.pop, 1) := dq_get dd_Z_law_672 (i := 0) rfl
theorem d_Z_law_1093 : decode mZ_law.2.1 1093 = .ok (.aload_n 2, 1) := dq_get dd_Z_law_672 (i := 1) rfl
theorem d_Z_law_1094 : decode mZ_law.2.1 1094 = .ok (.invokevirtual 158, 3) := dq_get dd_Z_law_672 (i := 2) rfl
theorem d_Z_law_1097 : decode mZ_law.2.1 1097 = .ok (.pop, 1) := dq_get dd_Z_law_672 (i := 3) rfl
theorem d_Z_law_1098 : decode mZ_law.2.1 1098 = .ok (.goto 335, 3) := dq_get dd_Z_law_672 (i := 4) rfl
theorem d_Z_law_1101 : decode mZ_law.2.1 1101 = .ok (.aload_n 1, 1) := dq_get dd_Z_law_672 (i := 5) rfl
theorem d_Z_law_1102 : decode mZ_law.2.1 1102 = .ok (.aload_n 0, 1) := dq_get dd_Z_law_672 (i := 6) rfl
theorem d_Z_law_1103 : decode mZ_law.2.1 1103 = .ok (.iload_n 3, 1) := dq_get dd_Z_law_672 (i := 7) rfl
theorem d_Z_law_1104 : decode mZ_law.2.1 1104 = .ok (.iconst 1, 1) := dq_get dd_Z_law_672 (i := 8) rfl
theorem d_Z_law_1105 : decode mZ_law.2.1 1105 = .ok (.iadd, 1) := dq_get dd_Z_law_672 (i := 9) rfl
theorem d_Z_law_1106 : decode mZ_law.2.1 1106 = .ok (.iaload, 1) := dq_get dd_Z_law_672 (i := 10) rfl
theorem d_Z_law_1107 : decode mZ_law.2.1 1107 = .ok (.invokevirtual 159, 3) := dq_get dd_Z_law_672 (i := 11) rfl
theorem d_Z_law_1110 : decode mZ_law.2.1 1110 = .ok (.pop, 1) := dq_get dd_Z_law_672 (i := 12) rfl
theorem d_Z_law_1111 : decode mZ_law.2.1 1111 = .ok (.aload_n 2, 1) := dq_get dd_Z_law_672 (i := 13) rfl
theorem d_Z_law_1112 : decode mZ_law.2.1 1112 = .ok (.aload_n 0, 1) := dq_get dd_Z_law_672 (i := 14) rfl
theorem d_Z_law_1113 : decode mZ_law.2.1 1113 = .ok (.iload_n 3, 1) := dq_get dd_Z_law_672 (i := 15) rfl
theorem d_Z_law_1114 : decode mZ_law.2.1 1114 = .ok (.iconst 1, 1) := dq_get dd_Z_law_672 (i := 16) rfl
theorem d_Z_law_1115 : decode mZ_law.2.1 1115 = .ok (.iadd, 1) := dq_get dd_Z_law_672 (i := 17) rfl
theorem d_Z_law_1116 : decode mZ_law.2.1 1116 = .ok (.iaload, 1) := dq_get dd_Z_law_672 (i := 18) rfl
theorem d_Z_law_1117 : decode mZ_law.2.1 1117 = .ok (.invokevirtual 162, 3) := dq_get dd_Z_law_672 (i := 19) rfl
theorem d_Z_law_1120 : decode mZ_law.2.1 1120 = .ok (.pop, 1) := dq_get dd_Z_law_672 (i := 20) rfl
theorem d_Z_law_1121 : decode mZ_law.2.1 1121 = .ok (.goto 312, 3) := dq_get dd_Z_law_672 (i := 21) rfl
theorem d_Z_law_1124 : decode mZ_law.2.1 1124 = .ok (.aload_n 1, 1) := dq_get dd_Z_law_672 (i := 22) rfl
theorem d_Z_law_1125 : decode mZ_law.2.1 1125 = .ok (.aload_n 0, 1) := dq_get dd_Z_law_672 (i := 23) rfl
theorem d_Z_law_1126 : decode mZ_law.2.1 1126 = .ok (.iload_n 3, 1) := dq_get dd_Z_law_672 (i := 24) rfl
theorem d_Z_law_1127 : decode mZ_law.2.1 1127 = .ok (.iconst 1, 1) := dq_get dd_Z_law_672 (i := 25) rfl
theorem d_Z_law_1128 : decode mZ_law.2.1 1128 = .ok (.iadd, 1) := dq_get dd_Z_law_672 (i := 26) rfl
theorem d_Z_law_1129 : decode mZ_law.2.1 1129 = .ok (.iaload, 1) := dq_get dd_Z_law_672 (i := 27) rfl
theorem d_Z_law_1130 : decode mZ_law.2.1 1130 = .ok (.invokevirtual 163, 3) := dq_get dd_Z_law_672 (i := 28) rfl
theorem d_Z_law_1133 : decode mZ_law.2.1 1133 = .ok (.pop, 1) := dq_get dd_Z_law_672 (i := 29) rfl
theorem d_Z_law_1134 : decode mZ_law.2.1 1134 = .ok (.aload_n 2, 1) := dq_get dd_Z_law_672 (i := 30) rfl
theorem d_Z_law_1135 : decode mZ_law.2.1 1135 = .ok (.aload_n 0, 1) := dq_get dd_Z_law_672 (i := 31) rfl
theorem dd_Z_law_704 : dq mZ_law.2.1 [(1136, .iload_n 3, 1), (1137, .iconst 1, 1), (1138, .iadd, 1), (1139, .iaload, 1), (1140, .invokevirtual 166, 3), (1143, .pop, 1), (1144, .goto 289, 3), (1147, .aload_n 1, 1), (1148, .aload_n 0, 1), (1149, .iload_n 3, 1), (1150, .iconst 1, 1), (1151, .iadd, 1), (1152, .iaload, 1), (1153, .aload_n 0, 1), (1154, .iload_n 3, 1), (1155, .iconst 2, 1), (1156, .iadd, 1), (1157, .iaload, 1), (1158, .aload_n 0, 1), (1159, .iload_n 3, 1), (1160, .iconst 3, 1), (1161, .iadd, 1), (1162, .iaload, 1), (1163, .ifCond .eq 7, 3), (1166, .iconst 1, 1), (1167, .goto 4, 3), (1170, .iconst 0, 1), (1171, .invokevirtual 167, 3), (1174, .pop, 1), (1175, .aload_n 2, 1), (1176, .aload_n 0, 1), (1177, .iload_n 3, 1)] = true := by decide +kernel
theorem d_Z_law_1136 : decode mZ_law.2.1 1136 = .ok (.iload_n 3, 1) := dq_get dd_Z_law_704 (i := 0) rfl
theorem d_Z_law_1137 : decode mZ_law.2.1 1137 = .ok (.iconst 1, 1) := dq_get dd_Z_law_704 (i := 1) rfl
theorem d_Z_law_1138 : decode mZ_law.2.1 1138 = .ok (.iadd, 1) := dq_get dd_Z_law_704 (i := 2) rfl
theorem d_Z_law_1139 : decode mZ_law.2.1 1139 = .ok (.iaload, 1) := dq_get dd_Z_law_704 (i := 3) rfl
theorem d_Z_law_1140 : decode mZ_law.2.1 1140 = .ok (.invokevirtual 166, 3) := dq_get dd_Z_law_704 (i := 4) rfl
theorem d_Z_law_1143 : decode mZ_law.2.1 1143 = .ok (.pop, 1) := dq_get dd_Z_law_704 (i := 5) rfl
theorem d_Z_law_1144 : decode mZ_law.2.1 1144 = .ok (.goto 289, 3) := dq_get dd_Z_law_704 (i := 6) rfl
theorem d_Z_law_1147 : decode mZ_law.2.1 1147 = .ok (.aload_n 1, 1) := dq_get dd_Z_law_704 (i := 7) rfl
theorem d_Z_law_1148 : decode mZ_law.2.1 1148 = .ok (.aload_n 0, 1) := dq_get dd_Z_law_704 (i := 8) rfl
theorem d_Z_law_1149 : decode mZ_law.2.1 1149 = .ok (.iload_n 3, 1) := dq_get dd_Z_law_704 (i := 9) rfl
theorem d_Z_law_1150 : decode mZ_law.2.1 1150 = .ok (.iconst 1, 1) := dq_get dd_Z_law_704 (i := 10) rfl
theorem d_Z_law_1151 : decode mZ_law.2.1 1151 = .ok (.iadd, 1) := dq_get dd_Z_law_704 (i := 11) rfl
theorem d_Z_law_1152 : decode mZ_law.2.1 1152 = .ok (.iaload, 1) := dq_get dd_Z_law_704 (i := 12) rfl
theorem d_Z_law_1153 : decode mZ_law.2.1 1153 = .ok (.aload_n 0, 1) := dq_get dd_Z_law_704 (i := 13) rfl
theorem d_Z_law_1154 : decode mZ_law.2.1 1154 = .ok (.iload_n 3, 1) := dq_get dd_Z_law_704 (i := 14) rfl
theorem d_Z_law_1155 : decode mZ_law.2.1 1155 = .ok (.iconst 2, 1) := dq_get dd_Z_law_704 (i := 15) rfl
theorem d_Z_law_1156 : decode mZ_law.2.1 1156 = .ok (.iadd, 1) := dq_get dd_Z_law_704 (i := 16) rfl
theorem d_Z_law_1157 : decode mZ_law.2.1 1157 = .ok (.iaload, 1) := dq_get dd_Z_law_704 (i := 17) rfl
theorem d_Z_law_1158 : decode mZ_law.2.1 1158 = .ok (.aload_n 0, 1) := dq_get dd_Z_law_704 (i := 18) rfl
theorem d_Z_law_1159 : decode mZ_law.2.1 1159 = .ok (.iload_n 3, 1) := dq_get dd_Z_law_704 (i := 19) rfl
theorem d_Z_law_1160 : decode mZ_law.2.1 1160 = .ok (.iconst 3, 1) := dq_get dd_Z_law_704 (i := 20) rfl
theorem d_Z_law_1161 : decode mZ_law.2.1 1161 = .ok (.iadd, 1) := dq_get dd_Z_law_704 (i := 21) rfl
theorem d_Z_law_1162 : decode mZ_law.2.1 1162 = .ok (.iaload, 1) := dq_get dd_Z_law_704 (i := 22) rfl
theorem d_Z_law_1163 : decode mZ_law.2.1 1163 = .ok (.ifCond .eq 7, 3) := dq_get dd_Z_law_704 (i := 23) rfl
theorem d_Z_law_1166 : decode mZ_law.2.1 1166 = .ok (.iconst 1, 1) := dq_get dd_Z_law_704 (i := 24) rfl
theorem d_Z_law_1167 : decode mZ_law.2.1 1167 = .ok (.goto 4, 3) := dq_get dd_Z_law_704 (i := 25) rfl
theorem d_Z_law_1170 : decode mZ_law.2.1 1170 = .ok (.iconst 0, 1) := dq_get dd_Z_law_704 (i := 26) rfl
theorem d_Z_law_1171 : decode mZ_law.2.1 1171 = .ok (.invokevirtual 167, 3) := dq_get dd_Z_law_704 (i := 27) rfl
theorem d_Z_law_1174 : decode mZ_law.2.1 1174 = .ok (.pop, 1) := dq_get dd_Z_law_704 (i := 28) rfl
theorem d_Z_law_1175 : decode mZ_law.2.1 1175 = .ok (.aload_n 2, 1) := dq_get dd_Z_law_704 (i := 29) rfl
theorem d_Z_law_1176 : decode mZ_law.2.1 1176 = .ok (.aload_n 0, 1) := dq_get dd_Z_law_704 (i := 30) rfl
theorem d_Z_law_1177 : decode mZ_law.2.1 1177 = .ok (.iload_n 3, 1) := dq_get dd_Z_law_704 (i := 31) rfl
theorem dd_Z_law_736 : dq mZ_law.2.1 [(1178, .iconst 1, 1), (1179, .iadd, 1), (1180, .iaload, 1), (1181, .aload_n 0, 1), (1182, .iload_n 3, 1), (1183, .iconst 2, 1), (1184, .iadd, 1), (1185, .iaload, 1), (1186, .aload_n 0, 1), (1187, .iload_n 3, 1), (1188, .iconst 3, 1), (1189, .iadd, 1), (1190, .iaload, 1), (1191, .ifCond .eq 7, 3), (1194, .iconst 1, 1), (1195, .goto 4, 3), (1198, .iconst 0, 1), (1199, .invokevirtual 171, 3), (1202, .pop, 1), (1203, .goto 230, 3), (1206, .aload_n 1, 1), (1207, .aload_n 0, 1), (1208, .iload_n 3, 1), (1209, .iconst 1, 1), (1210, .iadd, 1), (1211, .iaload, 1), (1212, .invokevirtual 172, 3), (1215, .pop, 1), (1216, .aload_n 2, 1), (1217, .aload_n 0, 1), (1218, .iload_n 3, 1), (1219, .iconst 1, 1)] = true := by decide +kernel
theorem d_Z_law_1178 : decode mZ_law.2.1 1178 = .ok (.iconst 1, 1) := dq_get dd_Z_law_736 (i := 0) rfl
theorem d_Z_law_1179 : decode mZ_law.2.1 1179 = .ok (.iadd, 1) := dq_get dd_Z_law_736 (i := 1) rfl
theorem d_Z_law_1180 : decode mZ_law.2.1 1180 = .ok (.iaload, 1) := dq_get dd_Z_law_736 (i := 2) rfl
theorem d_Z_law_1181 : decode mZ_law.2.1 1181 = .ok (.aload_n 0, 1) := dq_get dd_Z_law_736 (i := 3) rfl
theorem d_Z_law_1182 : decode mZ_law.2.1 1182 = .ok (.iload_n 3, 1) := dq_get dd_Z_law_736 (i := 4) rfl
theorem d_Z_law_1183 : decode mZ_law.2.1 1183 = .ok (.iconst 2, 1) := dq_get dd_Z_law_736 (i := 5) rfl
theorem d_Z_law_1184 : decode mZ_law.2.1 1184 = .ok (.iadd, 1) := dq_get dd_Z_law_736 (i := 6) rfl
theorem d_Z_law_1185 : decode mZ_law.2.1 1185 = .ok (.iaload, 1) := dq_get dd_Z_law_736 (i := 7) rfl
theorem d_Z_law_1186 : decode mZ_law.2.1 1186 = .ok (.aload_n 0, 1) := dq_get dd_Z_law_736 (i := 8) rfl
theorem d_Z_law_1187 : decode mZ_law.2.1 1187 = .ok (.iload_n 3, 1) := dq_get dd_Z_law_736 (i := 9) rfl
theorem d_Z_law_1188 : decode mZ_law.2.1 1188 = .ok (.iconst 3, 1) := dq_get dd_Z_law_736 (i := 10) rfl
theorem d_Z_law_1189 : decode mZ_law.2.1 1189 = .ok (.iadd, 1) := dq_get dd_Z_law_736 (i := 11) rfl
theorem d_Z_law_1190 : decode mZ_law.2.1 1190 = .ok (.iaload, 1) := dq_get dd_Z_law_736 (i := 12) rfl
theorem d_Z_law_1191 : decode mZ_law.2.1 1191 = .ok (.ifCond .eq 7, 3) := dq_get dd_Z_law_736 (i := 13) rfl
theorem d_Z_law_1194 : decode mZ_law.2.1 1194 = .ok (.iconst 1, 1) := dq_get dd_Z_law_736 (i := 14) rfl
theorem d_Z_law_1195 : decode mZ_law.2.1 1195 = .ok (.goto 4, 3) := dq_get dd_Z_law_736 (i := 15) rfl
theorem d_Z_law_1198 : decode mZ_law.2.1 1198 = .ok (.iconst 0, 1) := dq_get dd_Z_law_736 (i := 16) rfl
theorem d_Z_law_1199 : decode mZ_law.2.1 1199 = .ok (.invokevirtual 171, 3) := dq_get dd_Z_law_736 (i := 17) rfl
theorem d_Z_law_1202 : decode mZ_law.2.1 1202 = .ok (.pop, 1) := dq_get dd_Z_law_736 (i := 18) rfl
theorem d_Z_law_1203 : decode mZ_law.2.1 1203 = .ok (.goto 230, 3) := dq_get dd_Z_law_736 (i := 19) rfl
theorem d_Z_law_1206 : decode mZ_law.2.1 1206 = .ok (.aload_n 1, 1) := dq_get dd_Z_law_736 (i := 20) rfl
theorem d_Z_law_1207 : decode mZ_law.2.1 1207 = .ok (.aload_n 0, 1) := dq_get dd_Z_law_736 (i := 21) rfl
theorem d_Z_law_1208 : decode mZ_law.2.1 1208 = .ok (.iload_n 3, 1) := dq_get dd_Z_law_736 (i := 22) rfl
theorem d_Z_law_1209 : decode mZ_law.2.1 1209 = .ok (.iconst 1, 1) := dq_get dd_Z_law_736 (i := 23) rfl
theorem d_Z_law_1210 : decode mZ_law.2.1 1210 = .ok (.iadd, 1) := dq_get dd_Z_law_736 (i := 24) rfl
theorem d_Z_law_1211 : decode mZ_law.2.1 1211 = .ok (.iaload, 1) := dq_get dd_Z_law_736 (i := 25) rfl
theorem d_Z_law_1212 : decode mZ_law.2.1 1212 = .ok (.invokevirtual 172, 3) := dq_get dd_Z_law_736 (i := 26) rfl
theorem d_Z_law_1215 : decode mZ_law.2.1 1215 = .ok (.pop, 1) := dq_get dd_Z_law_736 (i := 27) rfl
theorem d_Z_law_1216 : decode mZ_law.2.1 1216 = .ok (.aload_n 2, 1) := dq_get dd_Z_law_736 (i := 28) rfl
theorem d_Z_law_1217 : decode mZ_law.2.1 1217 = .ok (.aload_n 0, 1) := dq_get dd_Z_law_736 (i := 29) rfl
theorem d_Z_law_1218 : decode mZ_law.2.1 1218 = .ok (.iload_n 3, 1) := dq_get dd_Z_law_736 (i := 30) rfl
theorem d_Z_law_1219 : decode mZ_law.2.1 1219 = .ok (.iconst 1, 1) := dq_get dd_Z_law_736 (i := 31) rfl
theorem dd_Z_law_768 : dq mZ_law.2.1 [(1220, .iadd, 1), (1221, .iaload, 1), (1222, .invokevirtual 176, 3), (1225, .pop, 1), (1226, .goto 207, 3), (1229, .aload_n 1, 1), (1230, .aload_n 0, 1), (1231, .iload_n 3, 1), (1232, .iconst 1, 1), (1233, .iadd, 1), (1234, .iaload, 1), (1235, .invokevirtual 177, 3), (1238, .pop, 1), (1239, .aload_n 2, 1), (1240, .aload_n 0, 1), (1241, .iload_n 3, 1), (1242, .iconst 1, 1), (1243, .iadd, 1), (1244, .iaload, 1), (1245, .invokevirtual 180, 3), (1248, .pop, 1), (1249, .goto 184, 3), (1252, .aload_n 1, 1), (1253, .aload_n 0, 1), (1254, .iload_n 3, 1), (1255, .iconst 1, 1), (1256, .iadd, 1), (1257, .iaload, 1), (1258, .invokevirtual 181, 3), (1261, .pop, 1), (1262, .aload_n 2, 1), (1263, .aload_n 0, 1)] = true := by decide +kernel
theorem d_Z_law_1220 : decode mZ_law.2.1 1220 = .ok (.iadd, 1) := dq_get dd_Z_law_768 (i := 0) rfl
theorem d_Z_law_1221 : decode mZ_law.2.1 1221 = .ok (.iaload, 1) := dq_get dd_Z_law_768 (i := 1) rfl
theorem d_Z_law_1222 : decode mZ_law.2.1 1222 = .ok (.invokevirtual 176, 3) := dq_get dd_Z_law_768 (i := 2) rfl
theorem d_Z_law_1225 : decode mZ_law.2.1 1225 = .ok (.pop, 1) := dq_get dd_Z_law_768 (i := 3) rfl
theorem d_Z_law_1226 : decode mZ_law.2.1 1226 = .ok (.goto 207, 3) := dq_get dd_Z_law_768 (i := 4) rfl
theorem d_Z_law_1229 : decode mZ_law.2.1 1229 = .ok (.aload_n 1, 1) := dq_get dd_Z_law_768 (i := 5) rfl
theorem d_Z_law_1230 : decode mZ_law.2.1 1230 = .ok (.aload_n 0, 1) := dq_get dd_Z_law_768 (i := 6) rfl
theorem d_Z_law_1231 : decode mZ_law.2.1 1231 = .ok (.iload_n 3, 1) := dq_get dd_Z_law_768 (i := 7) rfl
theorem d_Z_law_1232 : decode mZ_law.2.1 1232 = .ok (.iconst 1, 1) := dq_get dd_Z_law_768 (i := 8) rfl
theorem d_Z_law_1233 : decode mZ_law.2.1 1233 = .ok (.iadd, 1) := dq_get dd_Z_law_768 (i := 9) rfl
theorem d_Z_law_1234 : decode mZ_law.2.1 1234 = .ok (.iaload, 1) := dq_get dd_Z_law_768 (i := 10) rfl
theorem d_Z_law_1235 : decode mZ_law.2.1 1235 = .ok (.invokevirtual 177, 3) := dq_get dd_Z_law_768 (i := 11) rfl
theorem d_Z_law_1238 : decode mZ_law.2.1 1238 = .ok (.pop, 1) := dq_get dd_Z_law_768 (i := 12) rfl
theorem d_Z_law_1239 : decode mZ_law.2.1 1239 = .ok (.aload_n 2, 1) := dq_get dd_Z_law_768 (i := 13) rfl
theorem d_Z_law_1240 : decode mZ_law.2.1 1240 = .ok (.aload_n 0, 1) := dq_get dd_Z_law_768 (i := 14) rfl
theorem d_Z_law_1241 : decode mZ_law.2.1 1241 = .ok (.iload_n 3, 1) := dq_get dd_Z_law_768 (i := 15) rfl
theorem d_Z_law_1242 : decode mZ_law.2.1 1242 = .ok (.iconst 1, 1) := dq_get dd_Z_law_768 (i := 16) rfl
theorem d_Z_law_1243 : decode mZ_law.2.1 1243 = .ok (.iadd, 1) := dq_get dd_Z_law_768 (i := 17) rfl
theorem d_Z_law_1244 : decode mZ_law.2.1 1244 = .ok (.iaload, 1) := dq_get dd_Z_law_768 (i := 18) rfl
theorem d_Z_law_1245 : decode mZ_law.2.1 1245 = .ok (.invokevirtual 180, 3) := dq_get dd_Z_law_768 (i := 19) rfl
theorem d_Z_law_1248 : decode mZ_law.2.1 1248 = .ok (.pop, 1) := dq_get dd_Z_law_768 (i := 20) rfl
theorem d_Z_law_1249 : decode mZ_law.2.1 1249 = .ok (.goto 184, 3) := dq_get dd_Z_law_768 (i := 21) rfl
theorem d_Z_law_1252 : decode mZ_law.2.1 1252 = .ok (.aload_n 1, 1) := dq_get dd_Z_law_768 (i := 22) rfl
theorem d_Z_law_1253 : decode mZ_law.2.1 1253 = .ok (.aload_n 0, 1) := dq_get dd_Z_law_768 (i := 23) rfl
theorem d_Z_law_1254 : decode mZ_law.2.1 1254 = .ok (.iload_n 3, 1) := dq_get dd_Z_law_768 (i := 24) rfl
theorem d_Z_law_1255 : decode mZ_law.2.1 1255 = .ok (.iconst 1, 1) := dq_get dd_Z_law_768 (i := 25) rfl
theorem d_Z_law_1256 : decode mZ_law.2.1 1256 = .ok (.iadd, 1) := dq_get dd_Z_law_768 (i := 26) rfl
theorem d_Z_law_1257 : decode mZ_law.2.1 1257 = .ok (.iaload, 1) := dq_get dd_Z_law_768 (i := 27) rfl
theorem d_Z_law_1258 : decode mZ_law.2.1 1258 = .ok (.invokevirtual 181, 3) := dq_get dd_Z_law_768 (i := 28) rfl
theorem d_Z_law_1261 : decode mZ_law.2.1 1261 = .ok (.pop, 1) := dq_get dd_Z_law_768 (i := 29) rfl
theorem d_Z_law_1262 : decode mZ_law.2.1 1262 = .ok (.aload_n 2, 1) := dq_get dd_Z_law_768 (i := 30) rfl
theorem d_Z_law_1263 : decode mZ_law.2.1 1263 = .ok (.aload_n 0, 1) := dq_get dd_Z_law_768 (i := 31) rfl
theorem dd_Z_law_800 : dq mZ_law.2.1 [(1264, .iload_n 3, 1), (1265, .iconst 1, 1), (1266, .iadd, 1), (1267, .iaload, 1), (1268, .invokevirtual 184, 3), (1271, .pop, 1), (1272, .goto 161, 3), (1275, .aload_n 1, 1), (1276, .aload_n 0, 1), (1277, .iload_n 3, 1), (1278, .iconst 1, 1), (1279, .iadd, 1), (1280, .iaload, 1), (1281, .aload_n 0, 1), (1282, .iload_n 3, 1), (1283, .iconst 2, 1), (1284, .iadd, 1), (1285, .iaload, 1), (1286, .invokevirtual 185, 3), (1289, .pop, 1), (1290, .aload_n 2, 1), (1291, .aload_n 0, 1), (1292, .iload_n 3, 1), (1293, .iconst 1, 1), (1294, .iadd, 1), (1295, .iaload, 1), (1296, .aload_n 0, 1), (1297, .iload_n 3, 1), (1298, .iconst 2, 1), (1299, .iadd, 1), (1300, .iaload, 1), (1301, .invokevirtual 188, 3)] = true := by decide +kernel
theorem d_Z_law_1264 : decode mZ_law.2.1 1264 = .ok (.iload_n 3, 1) := dq_get dd_Z_law_800 (i := 0) rfl
theorem d_Z_law_1265 : decode mZ_law.2.1 1265 = .ok (.iconst 1, 1) := dq_get dd_Z_law_800 (i := 1) rfl
theorem d_Z_law_1266 : decode mZ_law.2.1 1266 = .ok (.iadd, 1) := dq_get dd_Z_law_800 (i := 2) rfl
theorem d_Z_law_1267 : decode mZ_law.2.1 1267 = .ok (.iaload, 1) := dq_get dd_Z_law_800 (i := 3) rfl
theorem d_Z_law_1268 : decode mZ_law.2.1 1268 = .ok (.invokevirtual 184, 3) := dq_get dd_Z_law_800 (i := 4) rfl
theorem d_Z_law_1271 : decode mZ_law.2.1 1271 = .ok (.pop, 1) := dq_get dd_Z_law_800 (i := 5) rfl
theorem d_Z_law_1272 : decode mZ_law.2.1 1272 = .ok (.goto 161, 3) := dq_get dd_Z_law_800 (i := 6) rfl
theorem d_Z_law_1275 : decode mZ_law.2.1 1275 = .ok (.aload_n 1, 1) := dq_get dd_Z_law_800 (i := 7) rfl
theorem d_Z_law_1276 : decode mZ_law.2.1 1276 = .ok (.aload_n 0, 1) := dq_get dd_Z_law_800 (i := 8) rfl
theorem d_Z_law_1277 : decode mZ_law.2.1 1277 = .ok (.iload_n 3, 1) := dq_get dd_Z_law_800 (i := 9) rfl
theorem d_Z_law_1278 : decode mZ_law.2.1 1278 = .ok (.iconst 1, 1) := dq_get dd_Z_law_800 (i := 10) rfl
theorem d_Z_law_1279 : decode mZ_law.2.1 1279 = .ok (.iadd, 1) := dq_get dd_Z_law_800 (i := 11) rfl
theorem d_Z_law_1280 : decode mZ_law.2.1 1280 = .ok (.iaload, 1) := dq_get dd_Z_law_800 (i := 12) rfl
theorem d_Z_law_1281 : decode mZ_law.2.1 1281 = .ok (.aload_n 0, 1) := dq_get dd_Z_law_800 (i := 13) rfl
theorem d_Z_law_1282 : decode mZ_law.2.1 1282 = .ok (.iload_n 3, 1) := dq_get dd_Z_law_800 (i := 14) rfl
theorem d_Z_law_1283 : decode mZ_law.2.1 1283 = .ok (.iconst 2, 1) := dq_get dd_Z_law_800 (i := 15) rfl
theorem d_Z_law_1284 : decode mZ_law.2.1 1284 = .ok (.iadd, 1) := dq_get dd_Z_law_800 (i := 16) rfl
theorem d_Z_law_1285 : decode mZ_law.2.1 1285 = .ok (.iaload, 1) := dq_get dd_Z_law_800 (i := 17) rfl
theorem d_Z_law_1286 : decode mZ_law.2.1 1286 = .ok (.invokevirtual 185, 3) := dq_get dd_Z_law_800 (i := 18) rfl
theorem d_Z_law_1289 : decode mZ_law.2.1 1289 = .ok (.pop, 1) := dq_get dd_Z_law_800 (i := 19) rfl
theorem d_Z_law_1290 : decode mZ_law.2.1 1290 = .ok (.aload_n 2, 1) := dq_get dd_Z_law_800 (i := 20) rfl
theorem d_Z_law_1291 : decode mZ_law.2.1 1291 = .ok (.aload_n 0, 1) := dq_get dd_Z_law_800 (i := 21) rfl
theorem d_Z_law_1292 : decode mZ_law.2.1 1292 = .ok (.iload_n 3, 1) := dq_get dd_Z_law_800 (i := 22) rfl
theorem d_Z_law_1293 : decode mZ_law.2.1 1293 = .ok (.iconst 1, 1) := dq_get dd_Z_law_800 (i := 23) rfl
theorem d_Z_law_1294 : decode mZ_law.2.1 1294 = .ok (.iadd, 1) := dq_get dd_Z_law_800 (i := 24) rfl
theorem d_Z_law_1295 : decode mZ_law.2.1 1295 = .ok (.iaload, 1) := dq_get dd_Z_law_800 (i := 25) rfl
theorem d_Z_law_1296 : decode mZ_law.2.1 1296 = .ok (.aload_n 0, 1) := dq_get dd_Z_law_800 (i := 26) rfl
theorem d_Z_law_1297 : decode mZ_law.2.1 1297 = .ok (.iload_n 3, 1) := dq_get dd_Z_law_800 (i := 27) rfl
theorem d_Z_law_1298 : decode mZ_law.2.1 1298 = .ok (.iconst 2, 1) := dq_get dd_Z_law_800 (i := 28) rfl
theorem d_Z_law_1299 : decode mZ_law.2.1 1299 = .ok (.iadd, 1) := dq_get dd_Z_law_800 (i := 29) rfl
theorem d_Z_law_1300 : decode mZ_law.2.1 1300 = .ok (.iaload, 1) := dq_get dd_Z_law_800 (i := 30) rfl
theorem d_Z_law_1301 : decode mZ_law.2.1 1301 = .ok (.invokevirtual 188, 3) := dq_get dd_Z_law_800 (i := 31) rfl
theorem dd_Z_law_832 : dq mZ_law.2.1 [(1304, .pop, 1), (1305, .goto 128, 3), (1308, .aload_n 1, 1), (1309, .aload_n 0, 1), (1310, .iload_n 3, 1), (1311, .iconst 1, 1), (1312, .iadd, 1), (1313, .iaload, 1), (1314, .aload_n 0, 1), (1315, .iload_n 3, 1), (1316, .iconst 2, 1), (1317, .iadd, 1), (1318, .iaload, 1), (1319, .invokevirtual 189, 3), (1322, .pop, 1), (1323, .aload_n 2, 1), (1324, .aload_n 0, 1), (1325, .iload_n 3, 1), (1326, .iconst 1, 1), (1327, .iadd, 1), (1328, .iaload, 1), (1329, .aload_n 0, 1), (1330, .iload_n 3, 1), (1331, .iconst 2, 1), (1332, .iadd, 1), (1333, .iaload, 1), (1334, .invokevirtual 192, 3), (1337, .pop, 1), (1338, .goto 95, 3), (1341, .aload_n 1, 1), (1342, .aload_n 0, 1), (1343, .iload_n 3, 1)] = true := by decide +kernel
theorem d_Z_law_1304 : decode mZ_law.2.1 1304 = .ok (.pop, 1) := dq_get dd_Z_law_832 (i := 0) rfl
theorem d_Z_law_1305 : decode mZ_law.2.1 1305 = .ok (.goto 128, 3) := dq_get dd_Z_law_832 (i := 1) rfl
theorem d_Z_law_1308 : decode mZ_law.2.1 1308 = .ok (.aload_n 1, 1) := dq_get dd_Z_law_832 (i := 2) rfl
theorem d_Z_law_1309 : decode mZ_law.2.1 1309 = .ok (.aload_n 0, 1) := dq_get dd_Z_law_832 (i := 3) rfl
theorem d_Z_law_1310 : decode mZ_law.2.1 1310 = .ok (.iload_n 3, 1) := dq_get dd_Z_law_832 (i := 4) rfl
theorem d_Z_law_1311 : decode mZ_law.2.1 1311 = .ok (.iconst 1, 1) := dq_get dd_Z_law_832 (i := 5) rfl
theorem d_Z_law_1312 : decode mZ_law.2.1 1312 = .ok (.iadd, 1) := dq_get dd_Z_law_832 (i := 6) rfl
theorem d_Z_law_1313 : decode mZ_law.2.1 1313 = .ok (.iaload, 1) := dq_get dd_Z_law_832 (i := 7) rfl
theorem d_Z_law_1314 : decode mZ_law.2.1 1314 = .ok (.aload_n 0, 1) := dq_get dd_Z_law_832 (i := 8) rfl
theorem d_Z_law_1315 : decode mZ_law.2.1 1315 = .ok (.iload_n 3, 1) := dq_get dd_Z_law_832 (i := 9) rfl
theorem d_Z_law_1316 : decode mZ_law.2.1 1316 = .ok (.iconst 2, 1) := dq_get dd_Z_law_832 (i := 10) rfl
theorem d_Z_law_1317 : decode mZ_law.2.1 1317 = .ok (.iadd, 1) := dq_get dd_Z_law_832 (i := 11) rfl
theorem d_Z_law_1318 : decode mZ_law.2.1 1318 = .ok (.iaload, 1) := dq_get dd_Z_law_832 (i := 12) rfl
theorem d_Z_law_1319 : decode mZ_law.2.1 1319 = .ok (.invokevirtual 189, 3) := dq_get dd_Z_law_832 (i := 13) rfl
theorem d_Z_law_1322 : decode mZ_law.2.1 1322 = .ok (.pop, 1) := dq_get dd_Z_law_832 (i := 14) rfl
theorem d_Z_law_1323 : decode mZ_law.2.1 1323 = .ok (.aload_n 2, 1) := dq_get dd_Z_law_832 (i := 15) rfl
theorem d_Z_law_1324 : decode mZ_law.2.1 1324 = .ok (.aload_n 0, 1) := dq_get dd_Z_law_832 (i := 16) rfl
theorem d_Z_law_1325 : decode mZ_law.2.1 1325 = .ok (.iload_n 3, 1) := dq_get dd_Z_law_832 (i := 17) rfl
theorem d_Z_law_1326 : decode mZ_law.2.1 1326 = .ok (.iconst 1, 1) := dq_get dd_Z_law_832 (i := 18) rfl
theorem d_Z_law_1327 : decode mZ_law.2.1 1327 = .ok (.iadd, 1) := dq_get dd_Z_law_832 (i := 19) rfl
theorem d_Z_law_1328 : decode mZ_law.2.1 1328 = .ok (.iaload, 1) := dq_get dd_Z_law_832 (i := 20) rfl
theorem d_Z_law_1329 : decode mZ_law.2.1 1329 = .ok (.aload_n 0, 1) := dq_get dd_Z_law_832 (i := 21) rfl
theorem d_Z_law_1330 : decode mZ_law.2.1 1330 = .ok (.iload_n 3, 1) := dq_get dd_Z_law_832 (i := 22) rfl
theorem d_Z_law_1331 : decode mZ_law.2.1 1331 = .ok (.iconst 2, 1) := dq_get dd_Z_law_832 (i := 23) rfl
theorem d_Z_law_1332 : decode mZ_law.2.1 1332 = .ok (.iadd, 1) := dq_get dd_Z_law_832 (i := 24) rfl
theorem d_Z_law_1333 : decode mZ_law.2.1 1333 = .ok (.iaload, 1) := dq_get dd_Z_law_832 (i := 25) rfl
theorem d_Z_law_1334 : decode mZ_law.2.1 1334 = .ok (.invokevirtual 192, 3) := dq_get dd_Z_law_832 (i := 26) rfl
theorem d_Z_law_1337 : decode mZ_law.2.1 1337 = .ok (.pop, 1) := dq_get dd_Z_law_832 (i := 27) rfl
theorem d_Z_law_1338 : decode mZ_law.2.1 1338 = .ok (.goto 95, 3) := dq_get dd_Z_law_832 (i := 28) rfl
theorem d_Z_law_1341 : decode mZ_law.2.1 1341 = .ok (.aload_n 1, 1) := dq_get dd_Z_law_832 (i := 29) rfl
theorem d_Z_law_1342 : decode mZ_law.2.1 1342 = .ok (.aload_n 0, 1) := dq_get dd_Z_law_832 (i := 30) rfl
theorem d_Z_law_1343 : decode mZ_law.2.1 1343 = .ok (.iload_n 3, 1) := dq_get dd_Z_law_832 (i := 31) rfl
theorem dd_Z_law_864 : dq mZ_law.2.1 [(1344, .iconst 1, 1), (1345, .iadd, 1), (1346, .iaload, 1), (1347, .invokevirtual 193, 3), (1350, .aload_n 2, 1), (1351, .aload_n 0, 1), (1352, .iload_n 3, 1), (1353, .iconst 1, 1), (1354, .iadd, 1), (1355, .iaload, 1), (1356, .invokevirtual 196, 3), (1359, .if_icmp .eq 74, 3), (1362, .iconst 0, 1), (1363, .ireturn, 1), (1364, .aload_n 1, 1), (1365, .aload_n 0, 1), (1366, .iload_n 3, 1), (1367, .iconst 1, 1), (1368, .iadd, 1), (1369, .iaload, 1), (1370, .invokevirtual 197, 3), (1373, .pop, 1), (1374, .aload_n 2, 1), (1375, .aload_n 0, 1), (1376, .iload_n 3, 1), (1377, .iconst 1, 1), (1378, .iadd, 1), (1379, .iaload, 1), (1380, .invokevirtual 200, 3), (1383, .pop, 1), (1384, .goto 49, 3), (1387, .aload_n 1, 1)] = true := by decide +kernel
theorem d_Z_law_1344 : decode mZ_law.2.1 1344 = .ok (.iconst 1, 1) := dq_get dd_Z_law_864 (i := 0) rfl
theorem d_Z_law_1345 : decode mZ_law.2.1 1345 = .ok (.iadd, 1) := dq_get dd_Z_law_864 (i := 1) rfl
theorem d_Z_law_1346 : decode mZ_law.2.1 1346 = .ok (.iaload, 1) := dq_get dd_Z_law_864 (i := 2) rfl
theorem d_Z_law_1347 : decode mZ_law.2.1 1347 = .ok (.invokevirtual 193, 3) := dq_get dd_Z_law_864 (i := 3) rfl
theorem d_Z_law_1350 : decode mZ_law.2.1 1350 = .ok (.aload_n 2, 1) := dq_get dd_Z_law_864 (i := 4) rfl
theorem d_Z_law_1351 : decode mZ_law.2.1 1351 = .ok (.aload_n 0, 1) := dq_get dd_Z_law_864 (i := 5) rfl
theorem d_Z_law_1352 : decode mZ_law.2.1 1352 = .ok (.iload_n 3, 1) := dq_get dd_Z_law_864 (i := 6) rfl
theorem d_Z_law_1353 : decode mZ_law.2.1 1353 = .ok (.iconst 1, 1) := dq_get dd_Z_law_864 (i := 7) rfl
theorem d_Z_law_1354 : decode mZ_law.2.1 1354 = .ok (.iadd, 1) := dq_get dd_Z_law_864 (i := 8) rfl
theorem d_Z_law_1355 : decode mZ_law.2.1 1355 = .ok (.iaload, 1) := dq_get dd_Z_law_864 (i := 9) rfl
theorem d_Z_law_1356 : decode mZ_law.2.1 1356 = .ok (.invokevirtual 196, 3) := dq_get dd_Z_law_864 (i := 10) rfl
theorem d_Z_law_1359 : decode mZ_law.2.1 1359 = .ok (.if_icmp .eq 74, 3) := dq_get dd_Z_law_864 (i := 11) rfl
theorem d_Z_law_1362 : decode mZ_law.2.1 1362 = .ok (.iconst 0, 1) := dq_get dd_Z_law_864 (i := 12) rfl
theorem d_Z_law_1363 : decode mZ_law.2.1 1363 = .ok (.ireturn, 1) := dq_get dd_Z_law_864 (i := 13) rfl
theorem d_Z_law_1364 : decode mZ_law.2.1 1364 = .ok (.aload_n 1, 1) := dq_get dd_Z_law_864 (i := 14) rfl
theorem d_Z_law_1365 : decode mZ_law.2.1 1365 = .ok (.aload_n 0, 1) := dq_get dd_Z_law_864 (i := 15) rfl
theorem d_Z_law_1366 : decode mZ_law.2.1 1366 = .ok (.iload_n 3, 1) := dq_get dd_Z_law_864 (i := 16) rfl
theorem d_Z_law_1367 : decode mZ_law.2.1 1367 = .ok (.iconst 1, 1) := dq_get dd_Z_law_864 (i := 17) rfl
theorem d_Z_law_1368 : decode mZ_law.2.1 1368 = .ok (.iadd, 1) := dq_get dd_Z_law_864 (i := 18) rfl
theorem d_Z_law_1369 : decode mZ_law.2.1 1369 = .ok (.iaload, 1) := dq_get dd_Z_law_864 (i := 19) rfl
theorem d_Z_law_1370 : decode mZ_law.2.1 1370 = .ok (.invokevirtual 197, 3) := dq_get dd_Z_law_864 (i := 20) rfl
theorem d_Z_law_1373 : decode mZ_law.2.1 1373 = .ok (.pop, 1) := dq_get dd_Z_law_864 (i := 21) rfl
theorem d_Z_law_1374 : decode mZ_law.2.1 1374 = .ok (.aload_n 2, 1) := dq_get dd_Z_law_864 (i := 22) rfl
theorem d_Z_law_1375 : decode mZ_law.2.1 1375 = .ok (.aload_n 0, 1) := dq_get dd_Z_law_864 (i := 23) rfl
theorem d_Z_law_1376 : decode mZ_law.2.1 1376 = .ok (.iload_n 3, 1) := dq_get dd_Z_law_864 (i := 24) rfl
theorem d_Z_law_1377 : decode mZ_law.2.1 1377 = .ok (.iconst 1, 1) := dq_get dd_Z_law_864 (i := 25) rfl
theorem d_Z_law_1378 : decode mZ_law.2.1 1378 = .ok (.iadd, 1) := dq_get dd_Z_law_864 (i := 26) rfl
theorem d_Z_law_1379 : decode mZ_law.2.1 1379 = .ok (.iaload, 1) := dq_get dd_Z_law_864 (i := 27) rfl
theorem d_Z_law_1380 : decode mZ_law.2.1 1380 = .ok (.invokevirtual 200, 3) := dq_get dd_Z_law_864 (i := 28) rfl
theorem d_Z_law_1383 : decode mZ_law.2.1 1383 = .ok (.pop, 1) := dq_get dd_Z_law_864 (i := 29) rfl
theorem d_Z_law_1384 : decode mZ_law.2.1 1384 = .ok (.goto 49, 3) := dq_get dd_Z_law_864 (i := 30) rfl
theorem d_Z_law_1387 : decode mZ_law.2.1 1387 = .ok (.aload_n 1, 1) := dq_get dd_Z_law_864 (i := 31) rfl
theorem dd_Z_law_896 : dq mZ_law.2.1 [(1388, .aload_n 0, 1), (1389, .iload_n 3, 1), (1390, .iconst 1, 1), (1391, .iadd, 1), (1392, .iaload, 1), (1393, .invokevirtual 201, 3), (1396, .pop, 1), (1397, .aload_n 2, 1), (1398, .aload_n 0, 1), (1399, .iload_n 3, 1), (1400, .iconst 1, 1), (1401, .iadd, 1), (1402, .iaload, 1), (1403, .invokevirtual 204, 3), (1406, .pop, 1), (1407, .goto 26, 3), (1410, .aload_n 1, 1), (1411, .aload_n 0, 1), (1412, .iload_n 3, 1), (1413, .iconst 1, 1), (1414, .iadd, 1), (1415, .iaload, 1), (1416, .invokevirtual 205, 3), (1419, .pop, 1), (1420, .aload_n 2, 1), (1421, .aload_n 0, 1), (1422, .iload_n 3, 1), (1423, .iconst 1, 1), (1424, .iadd, 1), (1425, .iaload, 1), (1426, .invokevirtual 208, 3), (1429, .pop, 1)] = true := by decide +kernel
theorem d_Z_law_1388 : decode mZ_law.2.1 1388 = .ok (.aload_n 0, 1) := dq_get dd_Z_law_896 (i := 0) rfl
theorem d_Z_law_1389 : decode mZ_law.2.1 1389 = .ok (.iload_n 3, 1) := dq_get dd_Z_law_896 (i := 1) rfl
theorem d_Z_law_1390 : decode mZ_law.2.1 1390 = .ok (.iconst 1, 1) := dq_get dd_Z_law_896 (i := 2) rfl
theorem d_Z_law_1391 : decode mZ_law.2.1 1391 = .ok (.iadd, 1) := dq_get dd_Z_law_896 (i := 3) rfl
theorem d_Z_law_1392 : decode mZ_law.2.1 1392 = .ok (.iaload, 1) := dq_get dd_Z_law_896 (i := 4) rfl
theorem d_Z_law_1393 : decode mZ_law.2.1 1393 = .ok (.invokevirtual 201, 3) := dq_get dd_Z_law_896 (i := 5) rfl
theorem d_Z_law_1396 : decode mZ_law.2.1 1396 = .ok (.pop, 1) := dq_get dd_Z_law_896 (i := 6) rfl
theorem d_Z_law_1397 : decode mZ_law.2.1 1397 = .ok (.aload_n 2, 1) := dq_get dd_Z_law_896 (i := 7) rfl
theorem d_Z_law_1398 : decode mZ_law.2.1 1398 = .ok (.aload_n 0, 1) := dq_get dd_Z_law_896 (i := 8) rfl
theorem d_Z_law_1399 : decode mZ_law.2.1 1399 = .ok (.iload_n 3, 1) := dq_get dd_Z_law_896 (i := 9) rfl
theorem d_Z_law_1400 : decode mZ_law.2.1 1400 = .ok (.iconst 1, 1) := dq_get dd_Z_law_896 (i := 10) rfl
theorem d_Z_law_1401 : decode mZ_law.2.1 1401 = .ok (.iadd, 1) := dq_get dd_Z_law_896 (i := 11) rfl
theorem d_Z_law_1402 : decode mZ_law.2.1 1402 = .ok (.iaload, 1) := dq_get dd_Z_law_896 (i := 12) rfl
theorem d_Z_law_1403 : decode mZ_law.2.1 1403 = .ok (.invokevirtual 204, 3) := dq_get dd_Z_law_896 (i := 13) rfl
theorem d_Z_law_1406 : decode mZ_law.2.1 1406 = .ok (.pop, 1) := dq_get dd_Z_law_896 (i := 14) rfl
theorem d_Z_law_1407 : decode mZ_law.2.1 1407 = .ok (.goto 26, 3) := dq_get dd_Z_law_896 (i := 15) rfl
theorem d_Z_law_1410 : decode mZ_law.2.1 1410 = .ok (.aload_n 1, 1) := dq_get dd_Z_law_896 (i := 16) rfl
theorem d_Z_law_1411 : decode mZ_law.2.1 1411 = .ok (.aload_n 0, 1) := dq_get dd_Z_law_896 (i := 17) rfl
theorem d_Z_law_1412 : decode mZ_law.2.1 1412 = .ok (.iload_n 3, 1) := dq_get dd_Z_law_896 (i := 18) rfl
theorem d_Z_law_1413 : decode mZ_law.2.1 1413 = .ok (.iconst 1, 1) := dq_get dd_Z_law_896 (i := 19) rfl
theorem d_Z_law_1414 : decode mZ_law.2.1 1414 = .ok (.iadd, 1) := dq_get dd_Z_law_896 (i := 20) rfl
theorem d_Z_law_1415 : decode mZ_law.2.1 1415 = .ok (.iaload, 1) := dq_get dd_Z_law_896 (i := 21) rfl
theorem d_Z_law_1416 : decode mZ_law.2.1 1416 = .ok (.invokevirtual 205, 3) := dq_get dd_Z_law_896 (i := 22) rfl
theorem d_Z_law_1419 : decode mZ_law.2.1 1419 = .ok (.pop, 1) := dq_get dd_Z_law_896 (i := 23) rfl
theorem d_Z_law_1420 : decode mZ_law.2.1 1420 = .ok (.aload_n 2, 1) := dq_get dd_Z_law_896 (i := 24) rfl
theorem d_Z_law_1421 : decode mZ_law.2.1 1421 = .ok (.aload_n 0, 1) := dq_get dd_Z_law_896 (i := 25) rfl
theorem d_Z_law_1422 : decode mZ_law.2.1 1422 = .ok (.iload_n 3, 1) := dq_get dd_Z_law_896 (i := 26) rfl
theorem d_Z_law_1423 : decode mZ_law.2.1 1423 = .ok (.iconst 1, 1) := dq_get dd_Z_law_896 (i := 27) rfl
theorem d_Z_law_1424 : decode mZ_law.2.1 1424 = .ok (.iadd, 1) := dq_get dd_Z_law_896 (i := 28) rfl
theorem d_Z_law_1425 : decode mZ_law.2.1 1425 = .ok (.iaload, 1) := dq_get dd_Z_law_896 (i := 29) rfl
theorem d_Z_law_1426 : decode mZ_law.2.1 1426 = .ok (.invokevirtual 208, 3) := dq_get dd_Z_law_896 (i := 30) rfl
theorem d_Z_law_1429 : decode mZ_law.2.1 1429 = .ok (.pop, 1) := dq_get dd_Z_law_896 (i := 31) rfl
theorem dd_Z_law_928 : dq mZ_law.2.1 [(1430, .goto 3, 3), (1433, .iinc 3 6, 3), (1436, .goto (-1418), 3), (1439, .iconst 1, 1), (1440, .ireturn, 1)] = true := by decide +kernel
theorem d_Z_law_1430 : decode mZ_law.2.1 1430 = .ok (.goto 3, 3) := dq_get dd_Z_law_928 (i := 0) rfl
theorem d_Z_law_1433 : decode mZ_law.2.1 1433 = .ok (.iinc 3 6, 3) := dq_get dd_Z_law_928 (i := 1) rfl
theorem d_Z_law_1436 : decode mZ_law.2.1 1436 = .ok (.goto (-1418), 3) := dq_get dd_Z_law_928 (i := 2) rfl
theorem d_Z_law_1439 : decode mZ_law.2.1 1439 = .ok (.iconst 1, 1) := dq_get dd_Z_law_928 (i := 3) rfl
theorem d_Z_law_1440 : decode mZ_law.2.1 1440 = .ok (.ireturn, 1) := dq_get dd_Z_law_928 (i := 4) rfl
