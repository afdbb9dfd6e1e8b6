theorem dd_M_init_0 : dq mM_init.2.1 [(0, .aload_n 0, 1), (1, .invokespecial 1, 3), (4, .aload_n 0, 1), (5, .sipush 1600, 3), (8, .newarray .int, 2), (10, .putfield 7, 3), (13, .aload_n 0, 1), (14, .iconst (-1), 1), (15, .putfield 13, 3), (18, .aload_n 0, 1), (19, .bipush 14, 2), (21, .newarray .long, 2), (23, .putfield 17, 3), (26, .aload_n 0, 1), (27, .sipush 320, 3), (30, .newarray .int, 2), (32, .putfield 21, 3), (35, .aload_n 0, 1), (36, .sipush 320, 3), (39, .newarray .int, 2), (41, .putfield 24, 3), (44, .aload_n 0, 1), (45, .sipush 320, 3), (48, .newarray .int, 2), (50, .putfield 27, 3), (53, .aload_n 0, 1), (54, .sipush 320, 3), (57, .newarray .int, 2), (59, .putfield 30, 3), (62, .aload_n 0, 1), (63, .sipush 160, 3), (66, .newarray .int, 2)] = true := by decide +kernel
theorem d_M_init_0 : decode mM_init.2.1 0 = .ok (.aload_n 0, 1) := dq_get dd_M_init_0 (i := 0) rfl
theorem d_M_init_1 : decode mM_init.2.1 1 = .ok (.invokespecial 1, 3) := dq_get dd_M_init_0 (i := 1) rfl
theorem d_M_init_4 : decode mM_init.2.1 4 = .ok (.aload_n 0, 1) := dq_get dd_M_init_0 (i := 2) rfl
theorem d_M_init_5 : decode mM_init.2.1 5 = .ok (.sipush 1600, 3) := dq_get dd_M_init_0 (i := 3) rfl
theorem d_M_init_8 : decode mM_init.2.1 8 = .ok (.newarray .int, 2) := dq_get dd_M_init_0 (i := 4) rfl
theorem d_M_init_10 : decode mM_init.2.1 10 = .ok (.putfield 7, 3) := dq_get dd_M_init_0 (i := 5) rfl
theorem d_M_init_13 : decode mM_init.2.1 13 = .ok (.aload_n 0, 1) := dq_get dd_M_init_0 (i := 6) rfl
theorem d_M_init_14 : decode mM_init.2.1 14 = .ok (.iconst (-1), 1) := dq_get dd_M_init_0 (i := 7) rfl
theorem d_M_init_15 : decode mM_init.2.1 15 = .ok (.putfield 13, 3) := dq_get dd_M_init_0 (i := 8) rfl
theorem d_M_init_18 : decode mM_init.2.1 18 = .ok (.aload_n 0, 1) := dq_get dd_M_init_0 (i := 9) rfl
theorem d_M_init_19 : decode mM_init.2.1 19 = .ok (.bipush 14, 2) := dq_get dd_M_init_0 (i := 10) rfl
theorem d_M_init_21 : decode mM_init.2.1 21 = .ok (.newarray .long, 2) := dq_get dd_M_init_0 (i := 11) rfl
theorem d_M_init_23 : decode mM_init.2.1 23 = .ok (.putfield 17, 3) := dq_get dd_M_init_0 (i := 12) rfl
theorem d_M_init_26 : decode mM_init.2.1 26 = .ok (.aload_n 0, 1) := dq_get dd_M_init_0 (i := 13) rfl
theorem d_M_init_27 : decode mM_init.2.1 27 = .ok (.sipush 320, 3) := dq_get dd_M_init_0 (i := 14) rfl
theorem d_M_init_30 : decode mM_init.2.1 30 = .ok (.newarray .int, 2) := dq_get dd_M_init_0 (i := 15) rfl
theorem d_M_init_32 : decode mM_init.2.1 32 = .ok (.putfield 21, 3) := dq_get dd_M_init_0 (i := 16) rfl
theorem d_M_init_35 : decode mM_init.2.1 35 = .ok (.aload_n 0, 1) := dq_get dd_M_init_0 (i := 17) rfl
theorem d_M_init_36 : decode mM_init.2.1 36 = .ok (.sipush 320, 3) := dq_get dd_M_init_0 (i := 18) rfl
theorem d_M_init_39 : decode mM_init.2.1 39 = .ok (.newarray .int, 2) := dq_get dd_M_init_0 (i := 19) rfl
theorem d_M_init_41 : decode mM_init.2.1 41 = .ok (.putfield 24, 3) := dq_get dd_M_init_0 (i := 20) rfl
theorem d_M_init_44 : decode mM_init.2.1 44 = .ok (.aload_n 0, 1) := dq_get dd_M_init_0 (i := 21) rfl
theorem d_M_init_45 : decode mM_init.2.1 45 = .ok (.sipush 320, 3) := dq_get dd_M_init_0 (i := 22) rfl
theorem d_M_init_48 : decode mM_init.2.1 48 = .ok (.newarray .int, 2) := dq_get dd_M_init_0 (i := 23) rfl
theorem d_M_init_50 : decode mM_init.2.1 50 = .ok (.putfield 27, 3) := dq_get dd_M_init_0 (i := 24) rfl
theorem d_M_init_53 : decode mM_init.2.1 53 = .ok (.aload_n 0, 1) := dq_get dd_M_init_0 (i := 25) rfl
theorem d_M_init_54 : decode mM_init.2.1 54 = .ok (.sipush 320, 3) := dq_get dd_M_init_0 (i := 26) rfl
theorem d_M_init_57 : decode mM_init.2.1 57 = .ok (.newarray .int, 2) := dq_get dd_M_init_0 (i := 27) rfl
theorem d_M_init_59 : decode mM_init.2.1 59 = .ok (.putfield 30, 3) := dq_get dd_M_init_0 (i := 28) rfl
theorem d_M_init_62 : decode mM_init.2.1 62 = .ok (.aload_n 0, 1) := dq_get dd_M_init_0 (i := 29) rfl
theorem d_M_init_63 : decode mM_init.2.1 63 = .ok (.sipush 160, 3) := dq_get dd_M_init_0 (i := 30) rfl
theorem d_M_init_66 : decode mM_init.2.1 66 = .ok (.newarray .int, 2) := dq_get dd_M_init_0 (i := 31) rfl
theorem dd_M_init_32 : dq mM_init.2.1 [(68, .putfield 33, 3), (71, .aload_n 0, 1), (72, .bipush 64, 2), (74, .newarray .int, 2), (76, .putfield 36, 3), (79, .aload_n 0, 1), (80, .bipush 6, 2), (82, .newarray .int, 2), (84, .putfield 39, 3), (87, .aload_n 0, 1), (88, .iconst 4, 1), (89, .newarray .int, 2), (91, .putfield 42, 3), (94, .aload_n 0, 1), (95, .bipush 10, 2), (97, .newarray .int, 2), (99, .putfield 45, 3), (102, .aload_n 0, 1), (103, .bipush 10, 2), (105, .newarray .int, 2), (107, .putfield 48, 3), (110, .aload_n 0, 1), (111, .bipush 10, 2), (113, .newarray .int, 2), (115, .putfield 51, 3), (118, .aload_n 0, 1), (119, .bipush 10, 2), (121, .newarray .int, 2), (123, .putfield 54, 3), (126, .aload_n 0, 1), (127, .bipush 10, 2), (129, .newarray .int, 2)] = true := by decide +kernel
theorem d_M_init_68 : decode mM_init.2.1 68 = .ok (.putfield 33, 3) := dq_get dd_M_init_32 (i := 0) rfl
theorem d_M_init_71 : decode mM_init.2.1 71 = .ok (.aload_n 0, 1) := dq_get dd_M_init_32 (i := 1) rfl
theorem d_M_init_72 : decode mM_init.2.1 72 = .ok (.bipush 64, 2) := dq_get dd_M_init_32 (i := 2) rfl
theorem d_M_init_74 : decode mM_init.2.1 74 = .ok (.newarray .int, 2) := dq_get dd_M_init_32 (i := 3) rfl
theorem d_M_init_76 : decode mM_init.2.1 76 = .ok (.putfield 36, 3) := dq_get dd_M_init_32 (i := 4) rfl
theorem d_M_init_79 : decode mM_init.2.1 79 = .ok (.aload_n 0, 1) := dq_get dd_M_init_32 (i := 5) rfl
theorem d_M_init_80 : decode mM_init.2.1 80 = .ok (.bipush 6, 2) := dq_get dd_M_init_32 (i := 6) rfl
theorem d_M_init_82 : decode mM_init.2.1 82 = .ok (.newarray .int, 2) := dq_get dd_M_init_32 (i := 7) rfl
theorem d_M_init_84 : decode mM_init.2.1 84 = .ok (.putfield 39, 3) := dq_get dd_M_init_32 (i := 8) rfl
theorem d_M_init_87 : decode mM_init.2.1 87 = .ok (.aload_n 0, 1) := dq_get dd_M_init_32 (i := 9) rfl
theorem d_M_init_88 : decode mM_init.2.1 88 = .ok (.iconst 4, 1) := dq_get dd_M_init_32 (i := 10) rfl
theorem d_M_init_89 : decode mM_init.2.1 89 = .ok (.newarray .int, 2) := dq_get dd_M_init_32 (i := 11) rfl
theorem d_M_init_91 : decode mM_init.2.1 91 = .ok (.putfield 42, 3) := dq_get dd_M_init_32 (i := 12) rfl
theorem d_M_init_94 : decode mM_init.2.1 94 = .ok (.aload_n 0, 1) := dq_get dd_M_init_32 (i := 13) rfl
theorem d_M_init_95 : decode mM_init.2.1 95 = .ok (.bipush 10, 2) := dq_get dd_M_init_32 (i := 14) rfl
theorem d_M_init_97 : decode mM_init.2.1 97 = .ok (.newarray .int, 2) := dq_get dd_M_init_32 (i := 15) rfl
theorem d_M_init_99 : decode mM_init.2.1 99 = .ok (.putfield 45, 3) := dq_get dd_M_init_32 (i := 16) rfl
theorem d_M_init_102 : decode mM_init.2.1 102 = .ok (.aload_n 0, 1) := dq_get dd_M_init_32 (i := 17) rfl
theorem d_M_init_103 : decode mM_init.2.1 103 = .ok (.bipush 10, 2) := dq_get dd_M_init_32 (i := 18) rfl
theorem d_M_init_105 : decode mM_init.2.1 105 = .ok (.newarray .int, 2) := dq_get dd_M_init_32 (i := 19) rfl
theorem d_M_init_107 : decode mM_init.2.1 107 = .ok (.putfield 48, 3) := dq_get dd_M_init_32 (i := 20) rfl
theorem d_M_init_110 : decode mM_init.2.1 110 = .ok (.aload_n 0, 1) := dq_get dd_M_init_32 (i := 21) rfl
theorem d_M_init_111 : decode mM_init.2.1 111 = .ok (.bipush 10, 2) := dq_get dd_M_init_32 (i := 22) rfl
theorem d_M_init_113 : decode mM_init.2.1 113 = .ok (.newarray .int, 2) := dq_get dd_M_init_32 (i := 23) rfl
theorem d_M_init_115 : decode mM_init.2.1 115 = .ok (.putfield 51, 3) := dq_get dd_M_init_32 (i := 24) rfl
theorem d_M_init_118 : decode mM_init.2.1 118 = .ok (.aload_n 0, 1) := dq_get dd_M_init_32 (i := 25) rfl
theorem d_M_init_119 : decode mM_init.2.1 119 = .ok (.bipush 10, 2) := dq_get dd_M_init_32 (i := 26) rfl
theorem d_M_init_121 : decode mM_init.2.1 121 = .ok (.newarray .int, 2) := dq_get dd_M_init_32 (i := 27) rfl
theorem d_M_init_123 : decode mM_init.2.1 123 = .ok (.putfield 54, 3) := dq_get dd_M_init_32 (i := 28) rfl
theorem d_M_init_126 : decode mM_init.2.1 126 = .ok (.aload_n 0, 1) := dq_get dd_M_init_32 (i := 29) rfl
theorem d_M_init_127 : decode mM_init.2.1 127 = .ok (.bipush 10, 2) := dq_get dd_M_init_32 (i := 30) rfl
theorem d_M_init_129 : decode mM_init.2.1 129 = .ok (.newarray .int, 2) := dq_get dd_M_init_32 (i := 31) rfl
theorem dd_M_init_64 : dq mM_init.2.1 [(131, .putfield 57, 3), (134, .aload_n 0, 1), (135, .iconst 4, 1), (136, .newarray .int, 2), (138, .putfield 60, 3), (141, .aload_n 0, 1), (142, .bipush 10, 2), (144, .newarray .int, 2), (146, .putfield 63, 3), (149, .aload_n 0, 1), (150, .bipush 10, 2), (152, .newarray .int, 2), (154, .putfield 66, 3), (157, .aload_n 0, 1), (158, .bipush 10, 2), (160, .newarray .int, 2), (162, .putfield 69, 3), (165, .aload_n 0, 1), (166, .bipush 10, 2), (168, .newarray .int, 2), (170, .putfield 72, 3), (173, .aload_n 0, 1), (174, .bipush 10, 2), (176, .newarray .int, 2), (178, .putfield 75, 3), (181, .aload_n 0, 1), (182, .bipush 12, 2), (184, .putfield 78, 3), (187, .aload_n 0, 1), (188, .bipush 12, 2), (190, .putfield 81, 3), (193, .aload_n 0, 1)] = true := by decide +kernel
theorem d_M_init_131 : decode mM_init.2.1 131 = .ok (.putfield 57, 3) := dq_get dd_M_init_64 (i := 0) rfl
theorem d_M_init_134 : decode mM_init.2.1 134 = .ok (.aload_n 0, 1) := dq_get dd_M_init_64 (i := 1) rfl
theorem d_M_init_135 : decode mM_init.2.1 135 = .ok (.iconst 4, 1) := dq_get dd_M_init_64 (i := 2) rfl
theorem d_M_init_136 : decode mM_init.2.1 136 = .ok (.newarray .int, 2) := dq_get dd_M_init_64 (i := 3) rfl
theorem d_M_init_138 : decode mM_init.2.1 138 = .ok (.putfield 60, 3) := dq_get dd_M_init_64 (i := 4) rfl
theorem d_M_init_141 : decode mM_init.2.1 141 = .ok (.aload_n 0, 1) := dq_get dd_M_init_64 (i := 5) rfl
theorem d_M_init_142 : decode mM_init.2.1 142 = .ok (.bipush 10, 2) := dq_get dd_M_init_64 (i := 6) rfl
theorem d_M_init_144 : decode mM_init.2.1 144 = .ok (.newarray .int, 2) := dq_get dd_M_init_64 (i := 7) rfl
theorem d_M_init_146 : decode mM_init.2.1 146 = .ok (.putfield 63, 3) := dq_get dd_M_init_64 (i := 8) rfl
theorem d_M_init_149 : decode mM_init.2.1 149 = .ok (.aload_n 0, 1) := dq_get dd_M_init_64 (i := 9) rfl
theorem d_M_init_150 : decode mM_init.2.1 150 = .ok (.bipush 10, 2) := dq_get dd_M_init_64 (i := 10) rfl
theorem d_M_init_152 : decode mM_init.2.1 152 = .ok (.newarray .int, 2) := dq_get dd_M_init_64 (i := 11) rfl
theorem d_M_init_154 : decode mM_init.2.1 154 = .ok (.putfield 66, 3) := dq_get dd_M_init_64 (i := 12) rfl
theorem d_M_init_157 : decode mM_init.2.1 157 = .ok (.aload_n 0, 1) := dq_get dd_M_init_64 (i := 13) rfl
theorem d_M_init_158 : decode mM_init.2.1 158 = .ok (.bipush 10, 2) := dq_get dd_M_init_64 (i := 14) rfl
theorem d_M_init_160 : decode mM_init.2.1 160 = .ok (.newarray .int, 2) := dq_get dd_M_init_64 (i := 15) rfl
theorem d_M_init_162 : decode mM_init.2.1 162 = .ok (.putfield 69, 3) := dq_get dd_M_init_64 (i := 16) rfl
theorem d_M_init_165 : decode mM_init.2.1 165 = .ok (.aload_n 0, 1) := dq_get dd_M_init_64 (i := 17) rfl
theorem d_M_init_166 : decode mM_init.2.1 166 = .ok (.bipush 10, 2) := dq_get dd_M_init_64 (i := 18) rfl
theorem d_M_init_168 : decode mM_init.2.1 168 = .ok (.newarray .int, 2) := dq_get dd_M_init_64 (i := 19) rfl
theorem d_M_init_170 : decode mM_init.2.1 170 = .ok (.putfield 72, 3) := dq_get dd_M_init_64 (i := 20) rfl
theorem d_M_init_173 : decode mM_init.2.1 173 = .ok (.aload_n 0, 1) := dq_get dd_M_init_64 (i := 21) rfl
theorem d_M_init_174 : decode mM_init.2.1 174 = .ok (.bipush 10, 2) := dq_get dd_M_init_64 (i := 22) rfl
theorem d_M_init_176 : decode mM_init.2.1 176 = .ok (.newarray .int, 2) := dq_get dd_M_init_64 (i := 23) rfl
theorem d_M_init_178 : decode mM_init.2.1 178 = .ok (.putfield 75, 3) := dq_get dd_M_init_64 (i := 24) rfl
theorem d_M_init_181 : decode mM_init.2.1 181 = .ok (.aload_n 0, 1) := dq_get dd_M_init_64 (i := 25) rfl
theorem d_M_init_182 : decode mM_init.2.1 182 = .ok (.bipush 12, 2) := dq_get dd_M_init_64 (i := 26) rfl
theorem d_M_init_184 : decode mM_init.2.1 184 = .ok (.putfield 78, 3) := dq_get dd_M_init_64 (i := 27) rfl
theorem d_M_init_187 : decode mM_init.2.1 187 = .ok (.aload_n 0, 1) := dq_get dd_M_init_64 (i := 28) rfl
theorem d_M_init_188 : decode mM_init.2.1 188 = .ok (.bipush 12, 2) := dq_get dd_M_init_64 (i := 29) rfl
theorem d_M_init_190 : decode mM_init.2.1 190 = .ok (.putfield 81, 3) := dq_get dd_M_init_64 (i := 30) rfl
theorem d_M_init_193 : decode mM_init.2.1 193 = .ok (.aload_n 0, 1) := dq_get dd_M_init_64 (i := 31) rfl
theorem dd_M_init_96 : dq mM_init.2.1 [(194, .iconst 5, 1), (195, .putfield 84, 3), (198, .aload_n 0, 1), (199, .bipush 20, 2), (201, .putfield 87, 3), (204, .aload_n 0, 1), (205, .iconst 2, 1), (206, .putfield 90, 3), (209, .aload_n 0, 1), (210, .bipush 41, 2), (212, .newarray .int, 2), (214, .putfield 93, 3), (217, .aload_n 0, 1), (218, .bipush 41, 2), (220, .newarray .int, 2), (222, .putfield 96, 3), (225, .aload_n 0, 1), (226, .bipush 12, 2), (228, .newarray .int, 2), (230, .putfield 99, 3), (233, .aload_n 0, 1), (234, .bipush 12, 2), (236, .newarray .int, 2), (238, .putfield 102, 3), (241, .aload_n 0, 1), (242, .sipush 1640, 3), (245, .newarray .int, 2), (247, .putfield 105, 3), (250, .aload_n 0, 1), (251, .bipush 10, 2), (253, .newarray .int, 2), (255, .putfield 108, 3)] = true := by decide +kernel
theorem d_M_init_194 : decode mM_init.2.1 194 = .ok (.iconst 5, 1) := dq_get dd_M_init_96 (i := 0) rfl
theorem d_M_init_195 : decode mM_init.2.1 195 = .ok (.putfield 84, 3) := dq_get dd_M_init_96 (i := 1) rfl
theorem d_M_init_198 : decode mM_init.2.1 198 = .ok (.aload_n 0, 1) := dq_get dd_M_init_96 (i := 2) rfl
theorem d_M_init_199 : decode mM_init.2.1 199 = .ok (.bipush 20, 2) := dq_get dd_M_init_96 (i := 3) rfl
theorem d_M_init_201 : decode mM_init.2.1 201 = .ok (.putfield 87, 3) := dq_get dd_M_init_96 (i := 4) rfl
theorem d_M_init_204 : decode mM_init.2.1 204 = .ok (.aload_n 0, 1) := dq_get dd_M_init_96 (i := 5) rfl
theorem d_M_init_205 : decode mM_init.2.1 205 = .ok (.iconst 2, 1) := dq_get dd_M_init_96 (i := 6) rfl
theorem d_M_init_206 : decode mM_init.2.1 206 = .ok (.putfield 90, 3) := dq_get dd_M_init_96 (i := 7) rfl
theorem d_M_init_209 : decode mM_init.2.1 209 = .ok (.aload_n 0, 1) := dq_get dd_M_init_96 (i := 8) rfl
theorem d_M_init_210 : decode mM_init.2.1 210 = .ok (.bipush 41, 2) := dq_get dd_M_init_96 (i := 9) rfl
theorem d_M_init_212 : decode mM_init.2.1 212 = .ok (.newarray .int, 2) := dq_get dd_M_init_96 (i := 10) rfl
theorem d_M_init_214 : decode mM_init.2.1 214 = .ok (.putfield 93, 3) := dq_get dd_M_init_96 (i := 11) rfl
theorem d_M_init_217 : decode mM_init.2.1 217 = .ok (.aload_n 0, 1) := dq_get dd_M_init_96 (i := 12) rfl
theorem d_M_init_218 : decode mM_init.2.1 218 = .ok (.bipush 41, 2) := dq_get dd_M_init_96 (i := 13) rfl
theorem d_M_init_220 : decode mM_init.2.1 220 = .ok (.newarray .int, 2) := dq_get dd_M_init_96 (i := 14) rfl
theorem d_M_init_222 : decode mM_init.2.1 222 = .ok (.putfield 96, 3) := dq_get dd_M_init_96 (i := 15) rfl
theorem d_M_init_225 : decode mM_init.2.1 225 = .ok (.aload_n 0, 1) := dq_get dd_M_init_96 (i := 16) rfl
theorem d_M_init_226 : decode mM_init.2.1 226 = .ok (.bipush 12, 2) := dq_get dd_M_init_96 (i := 17) rfl
theorem d_M_init_228 : decode mM_init.2.1 228 = .ok (.newarray .int, 2) := dq_get dd_M_init_96 (i := 18) rfl
theorem d_M_init_230 : decode mM_init.2.1 230 = .ok (.putfield 99, 3) := dq_get dd_M_init_96 (i := 19) rfl
theorem d_M_init_233 : decode mM_init.2.1 233 = .ok (.aload_n 0, 1) := dq_get dd_M_init_96 (i := 20) rfl
theorem d_M_init_234 : decode mM_init.2.1 234 = .ok (.bipush 12, 2) := dq_get dd_M_init_96 (i := 21) rfl
theorem d_M_init_236 : decode mM_init.2.1 236 = .ok (.newarray .int, 2) := dq_get dd_M_init_96 (i := 22) rfl
theorem d_M_init_238 : decode mM_init.2.1 238 = .ok (.putfield 102, 3) := dq_get dd_M_init_96 (i := 23) rfl
theorem d_M_init_241 : decode mM_init.2.1 241 = .ok (.aload_n 0, 1) := dq_get dd_M_init_96 (i := 24) rfl
theorem d_M_init_242 : decode mM_init.2.1 242 = .ok (.sipush 1640, 3) := dq_get dd_M_init_96 (i := 25) rfl
theorem d_M_init_245 : decode mM_init.2.1 245 = .ok (.newarray .int, 2) := dq_get dd_M_init_96 (i := 26) rfl
theorem d_M_init_247 : decode mM_init.2.1 247 = .ok (.putfield 105, 3) := dq_get dd_M_init_96 (i := 27) rfl
theorem d_M_init_250 : decode mM_init.2.1 250 = .ok (.aload_n 0, 1) := dq_get dd_M_init_96 (i := 28) rfl
theorem d_M_init_251 : decode mM_init.2.1 251 = .ok (.bipush 10, 2) := dq_get dd_M_init_96 (i := 29) rfl
theorem d_M_init_253 : decode mM_init.2.1 253 = .ok (.newarray .int, 2) := dq_get dd_M_init_96 (i := 30) rfl
theorem d_M_init_255 : decode mM_init.2.1 255 = .ok (.putfield 108, 3) := dq_get dd_M_init_96 (i := 31) rfl
theorem dd_M_init_128 : dq mM_init.2.1 [(258, .aload_n 0, 1), (259, .bipush 10, 2), (261, .newarray .int, 2), (263, .putfield 111, 3), (266, .aload_n 0, 1), (267, .bipush 10, 2), (269, .newarray .int, 2), (271, .putfield 114, 3), (274, .aload_n 0, 1), (275, .bipush 30, 2), (277, .newarray .int, 2), (279, .putfield 117, 3), (282, .aload_n 0, 1), (283, .bipush 30, 2), (285, .newarray .int, 2), (287, .putfield 120, 3), (290, .aload_n 0, 1), (291, .bipush 30, 2), (293, .newarray .int, 2), (295, .putfield 123, 3), (298, .aload_n 0, 1), (299, .bipush 30, 2), (301, .newarray .int, 2), (303, .putfield 126, 3), (306, .aload_n 0, 1), (307, .bipush 30, 2), (309, .newarray .boolean, 2), (311, .putfield 129, 3), (314, .aload_n 0, 1), (315, .bipush 30, 2), (317, .newarray .int, 2), (319, .putfield 133, 3)] = true := by decide +kernel
theorem d_M_init_258 : decode mM_init.2.1 258 = .ok (.aload_n 0, 1) := dq_get dd_M_init_128 (i := 0) rfl
theorem d_M_init_259 : decode mM_init.2.1 259 = .ok (.bipush 10, 2) := dq_get dd_M_init_128 (i := 1) rfl
theorem d_M_init_261 : decode mM_init.2.1 261 = .ok (.newarray .int, 2) := dq_get dd_M_init_128 (i := 2) rfl
theorem d_M_init_263 : decode mM_init.2.1 263 = .ok (.putfield 111, 3) := dq_get dd_M_init_128 (i := 3) rfl
theorem d_M_init_266 : decode mM_init.2.1 266 = .ok (.aload_n 0, 1) := dq_get dd_M_init_128 (i := 4) rfl
theorem d_M_init_267 : decode mM_init.2.1 267 = .ok (.bipush 10, 2) := dq_get dd_M_init_128 (i := 5) rfl
theorem d_M_init_269 : decode mM_init.2.1 269 = .ok (.newarray .int, 2) := dq_get dd_M_init_128 (i := 6) rfl
theorem d_M_init_271 : decode mM_init.2.1 271 = .ok (.putfield 114, 3) := dq_get dd_M_init_128 (i := 7) rfl
theorem d_M_init_274 : decode mM_init.2.1 274 = .ok (.aload_n 0, 1) := dq_get dd_M_init_128 (i := 8) rfl
theorem d_M_init_275 : decode mM_init.2.1 275 = .ok (.bipush 30, 2) := dq_get dd_M_init_128 (i := 9) rfl
theorem d_M_init_277 : decode mM_init.2.1 277 = .ok (.newarray .int, 2) := dq_get dd_M_init_128 (i := 10) rfl
theorem d_M_init_279 : decode mM_init.2.1 279 = .ok (.putfield 117, 3) := dq_get dd_M_init_128 (i := 11) rfl
theorem d_M_init_282 : decode mM_init.2.1 282 = .ok (.aload_n 0, 1) := dq_get dd_M_init_128 (i := 12) rfl
theorem d_M_init_283 : decode mM_init.2.1 283 = .ok (.bipush 30, 2) := dq_get dd_M_init_128 (i := 13) rfl
theorem d_M_init_285 : decode mM_init.2.1 285 = .ok (.newarray .int, 2) := dq_get dd_M_init_128 (i := 14) rfl
theorem d_M_init_287 : decode mM_init.2.1 287 = .ok (.putfield 120, 3) := dq_get dd_M_init_128 (i := 15) rfl
theorem d_M_init_290 : decode mM_init.2.1 290 = .ok (.aload_n 0, 1) := dq_get dd_M_init_128 (i := 16) rfl
theorem d_M_init_291 : decode mM_init.2.1 291 = .ok (.bipush 30, 2) := dq_get dd_M_init_128 (i := 17) rfl
theorem d_M_init_293 : decode mM_init.2.1 293 = .ok (.newarray .int, 2) := dq_get dd_M_init_128 (i := 18) rfl
theorem d_M_init_295 : decode mM_init.2.1 295 = .ok (.putfield 123, 3) := dq_get dd_M_init_128 (i := 19) rfl
theorem d_M_init_298 : decode mM_init.2.1 298 = .ok (.aload_n 0, 1) := dq_get dd_M_init_128 (i := 20) rfl
theorem d_M_init_299 : decode mM_init.2.1 299 = .ok (.bipush 30, 2) := dq_get dd_M_init_128 (i := 21) rfl
theorem d_M_init_301 : decode mM_init.2.1 301 = .ok (.newarray .int, 2) := dq_get dd_M_init_128 (i := 22) rfl
theorem d_M_init_303 : decode mM_init.2.1 303 = .ok (.putfield 126, 3) := dq_get dd_M_init_128 (i := 23) rfl
theorem d_M_init_306 : decode mM_init.2.1 306 = .ok (.aload_n 0, 1) := dq_get dd_M_init_128 (i := 24) rfl
theorem d_M_init_307 : decode mM_init.2.1 307 = .ok (.bipush 30, 2) := dq_get dd_M_init_128 (i := 25) rfl
theorem d_M_init_309 : decode mM_init.2.1 309 = .ok (.newarray .boolean, 2) := dq_get dd_M_init_128 (i := 26) rfl
theorem d_M_init_311 : decode mM_init.2.1 311 = .ok (.putfield 129, 3) := dq_get dd_M_init_128 (i := 27) rfl
theorem d_M_init_314 : decode mM_init.2.1 314 = .ok (.aload_n 0, 1) := dq_get dd_M_init_128 (i := 28) rfl
theorem d_M_init_315 : decode mM_init.2.1 315 = .ok (.bipush 30, 2) := dq_get dd_M_init_128 (i := 29) rfl
theorem d_M_init_317 : decode mM_init.2.1 317 = .ok (.newarray .int, 2) := dq_get dd_M_init_128 (i := 30) rfl
theorem d_M_init_319 : decode mM_init.2.1 319 = .ok (.putfield 133, 3) := dq_get dd_M_init_128 (i := 31) rfl
theorem dd_M_init_160 : dq mM_init.2.1 [(322, .aload_n 0, 1), (323, .bipush 10, 2), (325, .newarray .int, 2), (327, .putfield 136, 3), (330, .aload_n 0, 1), (331, .iconst 3, 1), (332, .newarray .boolean, 2), (334, .putfield 139, 3), (337, .aload_n 0, 1), (338, .bipush 123, 2), (340, .newarray .int, 2), (342, .putfield 142, 3), (345, .return_, 1)] = true := by decide +kernel
theorem d_M_init_322 : decode mM_init.2.1 322 = .ok (.aload_n 0, 1) := dq_get dd_M_init_160 (i := 0) rfl
theorem d_M_init_323 : decode mM_init.2.1 323 = .ok (.bipush 10, 2) := dq_get dd_M_init_160 (i := 1) rfl
theorem d_M_init_325 : decode mM_init.2.1 325 = .ok (.newarray .int, 2) := dq_get dd_M_init_160 (i := 2) rfl
theorem d_M_init_327 : decode mM_init.2.1 327 = .ok (.putfield 136, 3) := dq_get dd_M_init_160 (i := 3) rfl
theorem d_M_init_330 : decode mM_init.2.1 330 = .ok (.aload_n 0, 1) := dq_get dd_M_init_160 (i := 4) rfl
theorem d_M_init_331 : decode mM_init.2.1 331 = .ok (.iconst 3, 1) := dq_get dd_M_init_160 (i := 5) rfl
theorem d_M_init_332 : decode mM_init.2.1 332 = .ok (.newarray .boolean, 2) := dq_get dd_M_init_160 (i := 6) rfl
theorem d_M_init_334 : decode mM_init.2.1 334 = .ok (.putfield 139, 3) := dq_get dd_M_init_160 (i := 7) rfl
theorem d_M_init_337 : decode mM_init.2.1 337 = .ok (.aload_n 0, 1) := dq_get dd_M_init_160 (i := 8) rfl
theorem d_M_init_338 : decode mM_init.2.1 338 = .ok (.bipush 123, 2) := dq_get dd_M_init_160 (i := 9) rfl
theorem d_M_init_340 : decode mM_init.2.1 340 = .ok (.newarray .int, 2) := dq_get dd_M_init_160 (i := 10) rfl
theorem d_M_init_342 : decode mM_init.2.1 342 = .ok (.putfield 142, 3) := dq_get dd_M_init_160 (i := 11) rfl
theorem d_M_init_345 : decode mM_init.2.1 345 = .ok (.return_, 1) := dq_get dd_M_init_160 (i := 12) rfl
theorem dd_M_feed_0 : dq mM_feed.2.1 [(0, .aload_n 0, 1), (1, .getfield 145, 3), (4, .bipush 20, 2), (6, .iadd, 1), (7, .sipush 1600, 3), (10, .if_icmp .le 5, 3), (13, .iconst (-1), 1), (14, .ireturn, 1), (15, .aload_n 0, 1), (16, .iload_n 1, 1), (17, .invokevirtual 148, 3), (20, .aload_n 0, 1), (21, .iload_n 2, 1), (22, .invokevirtual 148, 3), (25, .aload_n 0, 1), (26, .iload_n 3, 1), (27, .invokevirtual 148, 3), (30, .aload_n 0, 1), (31, .iload 4, 2), (33, .invokevirtual 148, 3), (36, .aload_n 0, 1), (37, .iload 5, 2), (39, .invokevirtual 148, 3), (42, .aload_n 0, 1), (43, .getfield 145, 3), (46, .ireturn, 1)] = true := by decide +kernel
theorem d_M_feed_0 : decode mM_feed.2.1 0 = .ok (.aload_n 0, 1) := dq_get dd_M_feed_0 (i := 0) rfl
theorem d_M_feed_1 : decode mM_feed.2.1 1 = .ok (.getfield 145, 3) := dq_get dd_M_feed_0 (i := 1) rfl
theorem d_M_feed_4 : decode mM_feed.2.1 4 = .ok (.bipush 20, 2) := dq_get dd_M_feed_0 (i := 2) rfl
theorem d_M_feed_6 : decode mM_feed.2.1 6 = .ok (.iadd, 1) := dq_get dd_M_feed_0 (i := 3) rfl
theorem d_M_feed_7 : decode mM_feed.2.1 7 = .ok (.sipush 1600, 3) := dq_get dd_M_feed_0 (i := 4) rfl
theorem d_M_feed_10 : decode mM_feed.2.1 10 = .ok (.if_icmp .le 5, 3) := dq_get dd_M_feed_0 (i := 5) rfl
theorem d_M_feed_13 : decode mM_feed.2.1 13 = .ok (.iconst (-1), 1) := dq_get dd_M_feed_0 (i := 6) rfl
theorem d_M_feed_14 : decode mM_feed.2.1 14 = .ok (.ireturn, 1) := dq_get dd_M_feed_0 (i := 7) rfl
theorem d_M_feed_15 : decode mM_feed.2.1 15 = .ok (.aload_n 0, 1) := dq_get dd_M_feed_0 (i := 8) rfl
theorem d_M_feed_16 : decode mM_feed.2.1 16 = .ok (.iload_n 1, 1) := dq_get dd_M_feed_0 (i := 9) rfl
theorem d_M_feed_17 : decode mM_feed.2.1 17 = .ok (.invokevirtual 148, 3) := dq_get dd_M_feed_0 (i := 10) rfl
theorem d_M_feed_20 : decode mM_feed.2.1 20 = .ok (.aload_n 0, 1) := dq_get dd_M_feed_0 (i := 11) rfl
theorem d_M_feed_21 : decode mM_feed.2.1 21 = .ok (.iload_n 2, 1) := dq_get dd_M_feed_0 (i := 12) rfl
theorem d_M_feed_22 : decode mM_feed.2.1 22 = .ok (.invokevirtual 148, 3) := dq_get dd_M_feed_0 (i := 13) rfl
theorem d_M_feed_25 : decode mM_feed.2.1 25 = .ok (.aload_n 0, 1) := dq_get dd_M_feed_0 (i := 14) rfl
theorem d_M_feed_26 : decode mM_feed.2.1 26 = .ok (.iload_n 3, 1) := dq_get dd_M_feed_0 (i := 15) rfl
theorem d_M_feed_27 : decode mM_feed.2.1 27 = .ok (.invokevirtual 148, 3) := dq_get dd_M_feed_0 (i := 16) rfl
theorem d_M_feed_30 : decode mM_feed.2.1 30 = .ok (.aload_n 0, 1) := dq_get dd_M_feed_0 (i := 17) rfl
theorem d_M_feed_31 : decode mM_feed.2.1 31 = .ok (.iload 4, 2) := dq_get dd_M_feed_0 (i := 18) rfl
theorem d_M_feed_33 : decode mM_feed.2.1 33 = .ok (.invokevirtual 148, 3) := dq_get dd_M_feed_0 (i := 19) rfl
theorem d_M_feed_36 : decode mM_feed.2.1 36 = .ok (.aload_n 0, 1) := dq_get dd_M_feed_0 (i := 20) rfl
theorem d_M_feed_37 : decode mM_feed.2.1 37 = .ok (.iload 5, 2) := dq_get dd_M_feed_0 (i := 21) rfl
theorem d_M_feed_39 : decode mM_feed.2.1 39 = .ok (.invokevirtual 148, 3) := dq_get dd_M_feed_0 (i := 22) rfl
theorem d_M_feed_42 : decode mM_feed.2.1 42 = .ok (.aload_n 0, 1) := dq_get dd_M_feed_0 (i := 23) rfl
theorem d_M_feed_43 : decode mM_feed.2.1 43 = .ok (.getfield 145, 3) := dq_get dd_M_feed_0 (i := 24) rfl
theorem d_M_feed_46 : decode mM_feed.2.1 46 = .ok (.ireturn, 1) := dq_get dd_M_feed_0 (i := 25) rfl
theorem dd_M_four_0 : dq mM_four.2.1 [(0, .bipush 24, 2), (2, .istore_n 2, 1), (3, .iload_n 2, 1), (4, .ifCond .lt 35, 3), (7, .aload_n 0, 1), (8, .getfield 7, 3), (11, .aload_n 0, 1), (12, .getfield 145, 3), (15, .iload_n 1, 1), (16, .iload_n 2, 1), (17, .ishr, 1), (18, .sipush 255, 3), (21, .iand, 1), (22, .iastore, 1), (23, .aload_n 0, 1), (24, .dup, 1), (25, .getfield 145, 3), (28, .iconst 1, 1), (29, .iadd, 1), (30, .putfield 145, 3), (33, .iinc 2 (-8), 3), (36, .goto (-33), 3), (39, .return_, 1)] = true := by decide +kernel
theorem d_M_four_0 : decode mM_four.2.1 0 = .ok (.bipush 24, 2) := dq_get dd_M_four_0 (i := 0) rfl
theorem d_M_four_2 : decode mM_four.2.1 2 = .ok (.istore_n 2, 1) := dq_get dd_M_four_0 (i := 1) rfl
theorem d_M_four_3 : decode mM_four.2.1 3 = .ok (.iload_n 2, 1) := dq_get dd_M_four_0 (i := 2) rfl
theorem d_M_four_4 : decode mM_four.2.1 4 = .ok (.ifCond .lt 35, 3) := dq_get dd_M_four_0 (i := 3) rfl
theorem d_M_four_7 : decode mM_four.2.1 7 = .ok (.aload_n 0, 1) := dq_get dd_M_four_0 (i := 4) rfl
theorem d_M_four_8 : decode mM_four.2.1 8 = .ok (.getfield 7, 3) := dq_get dd_M_four_0 (i := 5) rfl
theorem d_M_four_11 : decode mM_four.2.1 11 = .ok (.aload_n 0, 1) := dq_get dd_M_four_0 (i := 6) rfl
theorem d_M_four_12 : decode mM_four.2.1 12 = .ok (.getfield 145, 3) := dq_get dd_M_four_0 (i := 7) rfl
theorem d_M_four_15 : decode mM_four.2.1 15 = .ok (.iload_n 1, 1) := dq_get dd_M_four_0 (i := 8) rfl
theorem d_M_four_16 : decode mM_four.2.1 16 = .ok (.iload_n 2, 1) := dq_get dd_M_four_0 (i := 9) rfl
theorem d_M_four_17 : decode mM_four.2.1 17 = .ok (.ishr, 1) := dq_get dd_M_four_0 (i := 10) rfl
theorem d_M_four_18 : decode mM_four.2.1 18 = .ok (.sipush 255, 3) := dq_get dd_M_four_0 (i := 11) rfl
theorem d_M_four_21 : decode mM_four.2.1 21 = .ok (.iand, 1) := dq_get dd_M_four_0 (i := 12) rfl
theorem d_M_four_22 : decode mM_four.2.1 22 = .ok (.iastore, 1) := dq_get dd_M_four_0 (i := 13) rfl
theorem d_M_four_23 : decode mM_four.2.1 23 = .ok (.aload_n 0, 1) := dq_get dd_M_four_0 (i := 14) rfl
theorem d_M_four_24 : decode mM_four.2.1 24 = .ok (.dup, 1) := dq_get dd_M_four_0 (i := 15) rfl
theorem d_M_four_25 : decode mM_four.2.1 25 = .ok (.getfield 145, 3) := dq_get dd_M_four_0 (i := 16) rfl
theorem d_M_four_28 : decode mM_four.2.1 28 = .ok (.iconst 1, 1) := dq_get dd_M_four_0 (i := 17) rfl
theorem d_M_four_29 : decode mM_four.2.1 29 = .ok (.iadd, 1) := dq_get dd_M_four_0 (i := 18) rfl
theorem d_M_four_30 : decode mM_four.2.1 30 = .ok (.putfield 145, 3) := dq_get dd_M_four_0 (i := 19) rfl
theorem d_M_four_33 : decode mM_four.2.1 33 = .ok (.iinc 2 (-8), 3) := dq_get dd_M_four_0 (i := 20) rfl
theorem d_M_four_36 : decode mM_four.2.1 36 = .ok (.goto (-33), 3) := dq_get dd_M_four_0 (i := 21) rfl
theorem d_M_four_39 : decode mM_four.2.1 39 = .ok (.return_, 1) := dq_get dd_M_four_0 (i := 22) rfl
theorem dd_M_end_0 : dq mM_end.2.1 [(0, .iload_n 1, 1), (1, .ifCond .lt 11, 3), (4, .iload_n 1, 1), (5, .aload_n 0, 1), (6, .getfield 145, 3), (9, .if_icmp .le 5, 3), (12, .iconst (-1), 1), (13, .ireturn, 1), (14, .aload_n 0, 1), (15, .iload_n 1, 1), (16, .putfield 145, 3), (19, .iload_n 1, 1), (20, .ireturn, 1)] = true := by decide +kernel
theorem d_M_end_0 : decode mM_end.2.1 0 = .ok (.iload_n 1, 1) := dq_get dd_M_end_0 (i := 0) rfl
theorem d_M_end_1 : decode mM_end.2.1 1 = .ok (.ifCond .lt 11, 3) := dq_get dd_M_end_0 (i := 1) rfl
theorem d_M_end_4 : decode mM_end.2.1 4 = .ok (.iload_n 1, 1) := dq_get dd_M_end_0 (i := 2) rfl
theorem d_M_end_5 : decode mM_end.2.1 5 = .ok (.aload_n 0, 1) := dq_get dd_M_end_0 (i := 3) rfl
theorem d_M_end_6 : decode mM_end.2.1 6 = .ok (.getfield 145, 3) := dq_get dd_M_end_0 (i := 4) rfl
theorem d_M_end_9 : decode mM_end.2.1 9 = .ok (.if_icmp .le 5, 3) := dq_get dd_M_end_0 (i := 5) rfl
theorem d_M_end_12 : decode mM_end.2.1 12 = .ok (.iconst (-1), 1) := dq_get dd_M_end_0 (i := 6) rfl
theorem d_M_end_13 : decode mM_end.2.1 13 = .ok (.ireturn, 1) := dq_get dd_M_end_0 (i := 7) rfl
theorem d_M_end_14 : decode mM_end.2.1 14 = .ok (.aload_n 0, 1) := dq_get dd_M_end_0 (i := 8) rfl
theorem d_M_end_15 : decode mM_end.2.1 15 = .ok (.iload_n 1, 1) := dq_get dd_M_end_0 (i := 9) rfl
theorem d_M_end_16 : decode mM_end.2.1 16 = .ok (.putfield 145, 3) := dq_get dd_M_end_0 (i := 10) rfl
theorem d_M_end_19 : decode mM_end.2.1 19 = .ok (.iload_n 1, 1) := dq_get dd_M_end_0 (i := 11) rfl
theorem d_M_end_20 : decode mM_end.2.1 20 = .ok (.ireturn, 1) := dq_get dd_M_end_0 (i := 12) rfl
theorem dd_M_score_0 : dq mM_score.2.1 [(0, .aload_n 0, 1), (1, .invokevirtual 402, 3), (4, .aload_n 0, 1), (5, .getfield 185, 3), (8, .ifCond .le 5, 3), (11, .iconst (-1), 1), (12, .ireturn, 1), (13, .aload_n 0, 1), (14, .aload_n 0, 1), (15, .getfield 356, 3), (18, .putfield 78, 3), (21, .aload_n 0, 1), (22, .aload_n 0, 1), (23, .getfield 258, 3), (26, .putfield 405, 3), (29, .aload_n 0, 1), (30, .aload_n 0, 1), (31, .getfield 350, 3), (34, .putfield 322, 3), (37, .aload_n 0, 1), (38, .aload_n 0, 1), (39, .getfield 378, 3), (42, .putfield 81, 3), (45, .aload_n 0, 1), (46, .aload_n 0, 1), (47, .getfield 384, 3), (50, .putfield 84, 3), (53, .aload_n 0, 1), (54, .aload_n 0, 1), (55, .getfield 390, 3), (58, .putfield 87, 3), (61, .aload_n 0, 1)] = true := by decide +kernel
theorem d_M_score_0 : decode mM_score.2.1 0 = .ok (.aload_n 0, 1) := dq_get dd_M_score_0 (i := 0) rfl
theorem d_M_score_1 : decode mM_score.2.1 1 = .ok (.invokevirtual 402, 3) := dq_get dd_M_score_0 (i := 1) rfl
theorem d_M_score_4 : decode mM_score.2.1 4 = .ok (.aload_n 0, 1) := dq_get dd_M_score_0 (i := 2) rfl
theorem d_M_score_5 : decode mM_score.2.1 5 = .ok (.getfield 185, 3) := dq_get dd_M_score_0 (i := 3) rfl
theorem d_M_score_8 : decode mM_score.2.1 8 = .ok (.ifCond .le 5, 3) := dq_get dd_M_score_0 (i := 4) rfl
theorem d_M_score_11 : decode mM_score.2.1 11 = .ok (.iconst (-1), 1) := dq_get dd_M_score_0 (i := 5) rfl
theorem d_M_score_12 : decode mM_score.2.1 12 = .ok (.ireturn, 1) := dq_get dd_M_score_0 (i := 6) rfl
theorem d_M_score_13 : decode mM_score.2.1 13 = .ok (.aload_n 0, 1) := dq_get dd_M_score_0 (i := 7) rfl
theorem d_M_score_14 : decode mM_score.2.1 14 = .ok (.aload_n 0, 1) := dq_get dd_M_score_0 (i := 8) rfl
theorem d_M_score_15 : decode mM_score.2.1 15 = .ok (.getfield 356, 3) := dq_get dd_M_score_0 (i := 9) rfl
theorem d_M_score_18 : decode mM_score.2.1 18 = .ok (.putfield 78, 3) := dq_get dd_M_score_0 (i := 10) rfl
theorem d_M_score_21 : decode mM_score.2.1 21 = .ok (.aload_n 0, 1) := dq_get dd_M_score_0 (i := 11) rfl
theorem d_M_score_22 : decode mM_score.2.1 22 = .ok (.aload_n 0, 1) := dq_get dd_M_score_0 (i := 12) rfl
theorem d_M_score_23 : decode mM_score.2.1 23 = .ok (.getfield 258, 3) := dq_get dd_M_score_0 (i := 13) rfl
theorem d_M_score_26 : decode mM_score.2.1 26 = .ok (.putfield 405, 3) := dq_get dd_M_score_0 (i := 14) rfl
theorem d_M_score_29 : decode mM_score.2.1 29 = .ok (.aload_n 0, 1) := dq_get dd_M_score_0 (i := 15) rfl
theorem d_M_score_30 : decode mM_score.2.1 30 = .ok (.aload_n 0, 1) := dq_get dd_M_score_0 (i := 16) rfl
theorem d_M_score_31 : decode mM_score.2.1 31 = .ok (.getfield 350, 3) := dq_get dd_M_score_0 (i := 17) rfl
theorem d_M_score_34 : decode mM_score.2.1 34 = .ok (.putfield 322, 3) := dq_get dd_M_score_0 (i := 18) rfl
theorem d_M_score_37 : decode mM_score.2.1 37 = .ok (.aload_n 0, 1) := dq_get dd_M_score_0 (i := 19) rfl
theorem d_M_score_38 : decode mM_score.2.1 38 = .ok (.aload_n 0, 1) := dq_get dd_M_score_0 (i := 20) rfl
theorem d_M_score_39 : decode mM_score.2.1 39 = .ok (.getfield 378, 3) := dq_get dd_M_score_0 (i := 21) rfl
theorem d_M_score_42 : decode mM_score.2.1 42 = .ok (.putfield 81, 3) := dq_get dd_M_score_0 (i := 22) rfl
theorem d_M_score_45 : decode mM_score.2.1 45 = .ok (.aload_n 0, 1) := dq_get dd_M_score_0 (i := 23) rfl
theorem d_M_score_46 : decode mM_score.2.1 46 = .ok (.aload_n 0, 1) := dq_get dd_M_score_0 (i := 24) rfl
theorem d_M_score_47 : decode mM_score.2.1 47 = .ok (.getfield 384, 3) := dq_get dd_M_score_0 (i := 25) rfl
theorem d_M_score_50 : decode mM_score.2.1 50 = .ok (.putfield 84, 3) := dq_get dd_M_score_0 (i := 26) rfl
theorem d_M_score_53 : decode mM_score.2.1 53 = .ok (.aload_n 0, 1) := dq_get dd_M_score_0 (i := 27) rfl
theorem d_M_score_54 : decode mM_score.2.1 54 = .ok (.aload_n 0, 1) := dq_get dd_M_score_0 (i := 28) rfl
theorem d_M_score_55 : decode mM_score.2.1 55 = .ok (.getfield 390, 3) := dq_get dd_M_score_0 (i := 29) rfl
theorem d_M_score_58 : decode mM_score.2.1 58 = .ok (.putfield 87, 3) := dq_get dd_M_score_0 (i := 30) rfl
theorem d_M_score_61 : decode mM_score.2.1 61 = .ok (.aload_n 0, 1) := dq_get dd_M_score_0 (i := 31) rfl
theorem dd_M_score_32 : dq mM_score.2.1 [(62, .aload_n 0, 1), (63, .getfield 396, 3), (66, .putfield 90, 3), (69, .aload_n 0, 1), (70, .aload_n 0, 1), (71, .getfield 277, 3), (74, .putfield 408, 3), (77, .aload_n 0, 1), (78, .aload_n 0, 1), (79, .getfield 299, 3), (82, .putfield 334, 3), (85, .aload_n 0, 1), (86, .aload_n 0, 1), (87, .getfield 299, 3), (90, .ifCond .eq 10, 3), (93, .aload_n 0, 1), (94, .getfield 261, 3), (97, .goto 4, 3), (100, .iconst 0, 1), (101, .putfield 340, 3), (104, .iconst 0, 1), (105, .istore_n 1, 1), (106, .iload_n 1, 1), (107, .aload_n 0, 1), (108, .getfield 340, 3), (111, .if_icmp .ge 33, 3), (114, .aload_n 0, 1), (115, .getfield 27, 3), (118, .iload_n 1, 1), (119, .aload_n 0, 1), (120, .getfield 21, 3), (123, .iload_n 1, 1)] = true := by decide +kernel
theorem d_M_score_62 : decode mM_score.2.1 62 = .ok (.aload_n 0, 1) := dq_get dd_M_score_32 (i := 0) rfl
theorem d_M_score_63 : decode mM_score.2.1 63 = .ok (.getfield 396, 3) := dq_get dd_M_score_32 (i := 1) rfl
theorem d_M_score_66 : decode mM_score.2.1 66 = .ok (.putfield 90, 3) := dq_get dd_M_score_32 (i := 2) rfl
theorem d_M_score_69 : decode mM_score.2.1 69 = .ok (.aload_n 0, 1) := dq_get dd_M_score_32 (i := 3) rfl
theorem d_M_score_70 : decode mM_score.2.1 70 = .ok (.aload_n 0, 1) := dq_get dd_M_score_32 (i := 4) rfl
theorem d_M_score_71 : decode mM_score.2.1 71 = .ok (.getfield 277, 3) := dq_get dd_M_score_32 (i := 5) rfl
theorem d_M_score_74 : decode mM_score.2.1 74 = .ok (.putfield 408, 3) := dq_get dd_M_score_32 (i := 6) rfl
theorem d_M_score_77 : decode mM_score.2.1 77 = .ok (.aload_n 0, 1) := dq_get dd_M_score_32 (i := 7) rfl
theorem d_M_score_78 : decode mM_score.2.1 78 = .ok (.aload_n 0, 1) := dq_get dd_M_score_32 (i := 8) rfl
theorem d_M_score_79 : decode mM_score.2.1 79 = .ok (.getfield 299, 3) := dq_get dd_M_score_32 (i := 9) rfl
theorem d_M_score_82 : decode mM_score.2.1 82 = .ok (.putfield 334, 3) := dq_get dd_M_score_32 (i := 10) rfl
theorem d_M_score_85 : decode mM_score.2.1 85 = .ok (.aload_n 0, 1) := dq_get dd_M_score_32 (i := 11) rfl
theorem d_M_score_86 : decode mM_score.2.1 86 = .ok (.aload_n 0, 1) := dq_get dd_M_score_32 (i := 12) rfl
theorem d_M_score_87 : decode mM_score.2.1 87 = .ok (.getfield 299, 3) := dq_get dd_M_score_32 (i := 13) rfl
theorem d_M_score_90 : decode mM_score.2.1 90 = .ok (.ifCond .eq 10, 3) := dq_get dd_M_score_32 (i := 14) rfl
theorem d_M_score_93 : decode mM_score.2.1 93 = .ok (.aload_n 0, 1) := dq_get dd_M_score_32 (i := 15) rfl
theorem d_M_score_94 : decode mM_score.2.1 94 = .ok (.getfield 261, 3) := dq_get dd_M_score_32 (i := 16) rfl
theorem d_M_score_97 : decode mM_score.2.1 97 = .ok (.goto 4, 3) := dq_get dd_M_score_32 (i := 17) rfl
theorem d_M_score_100 : decode mM_score.2.1 100 = .ok (.iconst 0, 1) := dq_get dd_M_score_32 (i := 18) rfl
theorem d_M_score_101 : decode mM_score.2.1 101 = .ok (.putfield 340, 3) := dq_get dd_M_score_32 (i := 19) rfl
theorem d_M_score_104 : decode mM_score.2.1 104 = .ok (.iconst 0, 1) := dq_get dd_M_score_32 (i := 20) rfl
theorem d_M_score_105 : decode mM_score.2.1 105 = .ok (.istore_n 1, 1) := dq_get dd_M_score_32 (i := 21) rfl
theorem d_M_score_106 : decode mM_score.2.1 106 = .ok (.iload_n 1, 1) := dq_get dd_M_score_32 (i := 22) rfl
theorem d_M_score_107 : decode mM_score.2.1 107 = .ok (.aload_n 0, 1) := dq_get dd_M_score_32 (i := 23) rfl
theorem d_M_score_108 : decode mM_score.2.1 108 = .ok (.getfield 340, 3) := dq_get dd_M_score_32 (i := 24) rfl
theorem d_M_score_111 : decode mM_score.2.1 111 = .ok (.if_icmp .ge 33, 3) := dq_get dd_M_score_32 (i := 25) rfl
theorem d_M_score_114 : decode mM_score.2.1 114 = .ok (.aload_n 0, 1) := dq_get dd_M_score_32 (i := 26) rfl
theorem d_M_score_115 : decode mM_score.2.1 115 = .ok (.getfield 27, 3) := dq_get dd_M_score_32 (i := 27) rfl
theorem d_M_score_118 : decode mM_score.2.1 118 = .ok (.iload_n 1, 1) := dq_get dd_M_score_32 (i := 28) rfl
theorem d_M_score_119 : decode mM_score.2.1 119 = .ok (.aload_n 0, 1) := dq_get dd_M_score_32 (i := 29) rfl
theorem d_M_score_120 : decode mM_score.2.1 120 = .ok (.getfield 21, 3) := dq_get dd_M_score_32 (i := 30) rfl
theorem d_M_score_123 : decode mM_score.2.1 123 = .ok (.iload_n 1, 1) := dq_get dd_M_score_32 (i := 31) rfl
theorem dd_M_score_64 : dq mM_score.2.1 [(124, .iaload, 1), (125, .iastore, 1), (126, .aload_n 0, 1), (127, .getfield 30, 3), (130, .iload_n 1, 1), (131, .aload_n 0, 1), (132, .getfield 24, 3), (135, .iload_n 1, 1), (136, .iaload, 1), (137, .iastore, 1), (138, .iinc 1 1, 3), (141, .goto (-35), 3), (144, .iconst 0, 1), (145, .istore_n 1, 1), (146, .iload_n 1, 1), (147, .aload_n 0, 1), (148, .getfield 405, 3), (151, .if_icmp .ge 21, 3), (154, .aload_n 0, 1), (155, .getfield 60, 3), (158, .iload_n 1, 1), (159, .aload_n 0, 1), (160, .getfield 42, 3), (163, .iload_n 1, 1), (164, .iaload, 1), (165, .iastore, 1), (166, .iinc 1 1, 3), (169, .goto (-23), 3), (172, .iconst 0, 1), (173, .istore_n 1, 1), (174, .iload_n 1, 1), (175, .aload_n 0, 1)] = true := by decide +kernel
theorem d_M_score_124 : decode mM_score.2.1 124 = .ok (.iaload, 1) := dq_get dd_M_score_64 (i := 0) rfl
theorem d_M_score_125 : decode mM_score.2.1 125 = .ok (.iastore, 1) := dq_get dd_M_score_64 (i := 1) rfl
theorem d_M_score_126 : decode mM_score.2.1 126 = .ok (.aload_n 0, 1) := dq_get dd_M_score_64 (i := 2) rfl
theorem d_M_score_127 : decode mM_score.2.1 127 = .ok (.getfield 30, 3) := dq_get dd_M_score_64 (i := 3) rfl
theorem d_M_score_130 : decode mM_score.2.1 130 = .ok (.iload_n 1, 1) := dq_get dd_M_score_64 (i := 4) rfl
theorem d_M_score_131 : decode mM_score.2.1 131 = .ok (.aload_n 0, 1) := dq_get dd_M_score_64 (i := 5) rfl
theorem d_M_score_132 : decode mM_score.2.1 132 = .ok (.getfield 24, 3) := dq_get dd_M_score_64 (i := 6) rfl
theorem d_M_score_135 : decode mM_score.2.1 135 = .ok (.iload_n 1, 1) := dq_get dd_M_score_64 (i := 7) rfl
theorem d_M_score_136 : decode mM_score.2.1 136 = .ok (.iaload, 1) := dq_get dd_M_score_64 (i := 8) rfl
theorem d_M_score_137 : decode mM_score.2.1 137 = .ok (.iastore, 1) := dq_get dd_M_score_64 (i := 9) rfl
theorem d_M_score_138 : decode mM_score.2.1 138 = .ok (.iinc 1 1, 3) := dq_get dd_M_score_64 (i := 10) rfl
theorem d_M_score_141 : decode mM_score.2.1 141 = .ok (.goto (-35), 3) := dq_get dd_M_score_64 (i := 11) rfl
theorem d_M_score_144 : decode mM_score.2.1 144 = .ok (.iconst 0, 1) := dq_get dd_M_score_64 (i := 12) rfl
theorem d_M_score_145 : decode mM_score.2.1 145 = .ok (.istore_n 1, 1) := dq_get dd_M_score_64 (i := 13) rfl
theorem d_M_score_146 : decode mM_score.2.1 146 = .ok (.iload_n 1, 1) := dq_get dd_M_score_64 (i := 14) rfl
theorem d_M_score_147 : decode mM_score.2.1 147 = .ok (.aload_n 0, 1) := dq_get dd_M_score_64 (i := 15) rfl
theorem d_M_score_148 : decode mM_score.2.1 148 = .ok (.getfield 405, 3) := dq_get dd_M_score_64 (i := 16) rfl
theorem d_M_score_151 : decode mM_score.2.1 151 = .ok (.if_icmp .ge 21, 3) := dq_get dd_M_score_64 (i := 17) rfl
theorem d_M_score_154 : decode mM_score.2.1 154 = .ok (.aload_n 0, 1) := dq_get dd_M_score_64 (i := 18) rfl
theorem d_M_score_155 : decode mM_score.2.1 155 = .ok (.getfield 60, 3) := dq_get dd_M_score_64 (i := 19) rfl
theorem d_M_score_158 : decode mM_score.2.1 158 = .ok (.iload_n 1, 1) := dq_get dd_M_score_64 (i := 20) rfl
theorem d_M_score_159 : decode mM_score.2.1 159 = .ok (.aload_n 0, 1) := dq_get dd_M_score_64 (i := 21) rfl
theorem d_M_score_160 : decode mM_score.2.1 160 = .ok (.getfield 42, 3) := dq_get dd_M_score_64 (i := 22) rfl
theorem d_M_score_163 : decode mM_score.2.1 163 = .ok (.iload_n 1, 1) := dq_get dd_M_score_64 (i := 23) rfl
theorem d_M_score_164 : decode mM_score.2.1 164 = .ok (.iaload, 1) := dq_get dd_M_score_64 (i := 24) rfl
theorem d_M_score_165 : decode mM_score.2.1 165 = .ok (.iastore, 1) := dq_get dd_M_score_64 (i := 25) rfl
theorem d_M_score_166 : decode mM_score.2.1 166 = .ok (.iinc 1 1, 3) := dq_get dd_M_score_64 (i := 26) rfl
theorem d_M_score_169 : decode mM_score.2.1 169 = .ok (.goto (-23), 3) := dq_get dd_M_score_64 (i := 27) rfl
theorem d_M_score_172 : decode mM_score.2.1 172 = .ok (.iconst 0, 1) := dq_get dd_M_score_64 (i := 28) rfl
theorem d_M_score_173 : decode mM_score.2.1 173 = .ok (.istore_n 1, 1) := dq_get dd_M_score_64 (i := 29) rfl
theorem d_M_score_174 : decode mM_score.2.1 174 = .ok (.iload_n 1, 1) := dq_get dd_M_score_64 (i := 30) rfl
theorem d_M_score_175 : decode mM_score.2.1 175 = .ok (.aload_n 0, 1) := dq_get dd_M_score_64 (i := 31) rfl
theorem dd_M_score_96 : dq mM_score.2.1 [(176, .getfield 322, 3), (179, .if_icmp .ge 69, 3), (182, .aload_n 0, 1), (183, .getfield 63, 3), (186, .iload_n 1, 1), (187, .aload_n 0, 1), (188, .getfield 45, 3), (191, .iload_n 1, 1), (192, .iaload, 1), (193, .iastore, 1), (194, .aload_n 0, 1), (195, .getfield 66, 3), (198, .iload_n 1, 1), (199, .aload_n 0, 1), (200, .getfield 48, 3), (203, .iload_n 1, 1), (204, .iaload, 1), (205, .iastore, 1), (206, .aload_n 0, 1), (207, .getfield 69, 3), (210, .iload_n 1, 1), (211, .aload_n 0, 1), (212, .getfield 51, 3), (215, .iload_n 1, 1), (216, .iaload, 1), (217, .iastore, 1), (218, .aload_n 0, 1), (219, .getfield 72, 3), (222, .iload_n 1, 1), (223, .aload_n 0, 1), (224, .getfield 54, 3), (227, .iload_n 1, 1)] = true := by decide +kernel
theorem d_M_score_176 : decode mM_score.2.1 176 = .ok (.getfield 322, 3) := dq_get dd_M_score_96 (i := 0) rfl
theorem d_M_score_179 : decode mM_score.2.1 179 = .ok (.if_icmp .ge 69, 3) := dq_get dd_M_score_96 (i := 1) rfl
theorem d_M_score_182 : decode mM_score.2.1 182 = .ok (.aload_n 0, 1) := dq_get dd_M_score_96 (i := 2) rfl
theorem d_M_score_183 : decode mM_score.2.1 183 = .ok (.getfield 63, 3) := dq_get dd_M_score_96 (i := 3) rfl
theorem d_M_score_186 : decode mM_score.2.1 186 = .ok (.iload_n 1, 1) := dq_get dd_M_score_96 (i := 4) rfl
theorem d_M_score_187 : decode mM_score.2.1 187 = .ok (.aload_n 0, 1) := dq_get dd_M_score_96 (i := 5) rfl
theorem d_M_score_188 : decode mM_score.2.1 188 = .ok (.getfield 45, 3) := dq_get dd_M_score_96 (i := 6) rfl
theorem d_M_score_191 : decode mM_score.2.1 191 = .ok (.iload_n 1, 1) := dq_get dd_M_score_96 (i := 7) rfl
theorem d_M_score_192 : decode mM_score.2.1 192 = .ok (.iaload, 1) := dq_get dd_M_score_96 (i := 8) rfl
theorem d_M_score_193 : decode mM_score.2.1 193 = .ok (.iastore, 1) := dq_get dd_M_score_96 (i := 9) rfl
theorem d_M_score_194 : decode mM_score.2.1 194 = .ok (.aload_n 0, 1) := dq_get dd_M_score_96 (i := 10) rfl
theorem d_M_score_195 : decode mM_score.2.1 195 = .ok (.getfield 66, 3) := dq_get dd_M_score_96 (i := 11) rfl
theorem d_M_score_198 : decode mM_score.2.1 198 = .ok (.iload_n 1, 1) := dq_get dd_M_score_96 (i := 12) rfl
theorem d_M_score_199 : decode mM_score.2.1 199 = .ok (.aload_n 0, 1) := dq_get dd_M_score_96 (i := 13) rfl
theorem d_M_score_200 : decode mM_score.2.1 200 = .ok (.getfield 48, 3) := dq_get dd_M_score_96 (i := 14) rfl
theorem d_M_score_203 : decode mM_score.2.1 203 = .ok (.iload_n 1, 1) := dq_get dd_M_score_96 (i := 15) rfl
theorem d_M_score_204 : decode mM_score.2.1 204 = .ok (.iaload, 1) := dq_get dd_M_score_96 (i := 16) rfl
theorem d_M_score_205 : decode mM_score.2.1 205 = .ok (.iastore, 1) := dq_get dd_M_score_96 (i := 17) rfl
theorem d_M_score_206 : decode mM_score.2.1 206 = .ok (.aload_n 0, 1) := dq_get dd_M_score_96 (i := 18) rfl
theorem d_M_score_207 : decode mM_score.2.1 207 = .ok (.getfield 69, 3) := dq_get dd_M_score_96 (i := 19) rfl
theorem d_M_score_210 : decode mM_score.2.1 210 = .ok (.iload_n 1, 1) := dq_get dd_M_score_96 (i := 20) rfl
theorem d_M_score_211 : decode mM_score.2.1 211 = .ok (.aload_n 0, 1) := dq_get dd_M_score_96 (i := 21) rfl
theorem d_M_score_212 : decode mM_score.2.1 212 = .ok (.getfield 51, 3) := dq_get dd_M_score_96 (i := 22) rfl
theorem d_M_score_215 : decode mM_score.2.1 215 = .ok (.iload_n 1, 1) := dq_get dd_M_score_96 (i := 23) rfl
theorem d_M_score_216 : decode mM_score.2.1 216 = .ok (.iaload, 1) := dq_get dd_M_score_96 (i := 24) rfl
theorem d_M_score_217 : decode mM_score.2.1 217 = .ok (.iastore, 1) := dq_get dd_M_score_96 (i := 25) rfl
theorem d_M_score_218 : decode mM_score.2.1 218 = .ok (.aload_n 0, 1) := dq_get dd_M_score_96 (i := 26) rfl
theorem d_M_score_219 : decode mM_score.2.1 219 = .ok (.getfield 72, 3) := dq_get dd_M_score_96 (i := 27) rfl
theorem d_M_score_222 : decode mM_score.2.1 222 = .ok (.iload_n 1, 1) := dq_get dd_M_score_96 (i := 28) rfl
theorem d_M_score_223 : decode mM_score.2.1 223 = .ok (.aload_n 0, 1) := dq_get dd_M_score_96 (i := 29) rfl
theorem d_M_score_224 : decode mM_score.2.1 224 = .ok (.getfield 54, 3) := dq_get dd_M_score_96 (i := 30) rfl
theorem d_M_score_227 : decode mM_score.2.1 227 = .ok (.iload_n 1, 1) := dq_get dd_M_score_96 (i := 31) rfl
theorem dd_M_score_128 : dq mM_score.2.1 [(228, .iaload, 1), (229, .iastore, 1), (230, .aload_n 0, 1), (231, .getfield 75, 3), (234, .iload_n 1, 1), (235, .aload_n 0, 1), (236, .getfield 57, 3), (239, .iload_n 1, 1), (240, .iaload, 1), (241, .iastore, 1), (242, .iinc 1 1, 3), (245, .goto (-71), 3), (248, .aload_n 0, 1), (249, .invokevirtual 411, 3), (252, .aload_n 0, 1), (253, .invokevirtual 414, 3), (256, .aload_n 0, 1), (257, .iconst 0, 1), (258, .putfield 417, 3), (261, .aload_n 0, 1), (262, .iconst 0, 1), (263, .putfield 420, 3), (266, .aload_n 0, 1), (267, .iconst 0, 1), (268, .putfield 423, 3), (271, .aload_n 0, 1), (272, .iconst 0, 1), (273, .putfield 426, 3), (276, .iconst 0, 1), (277, .istore_n 1, 1), (278, .iload_n 1, 1), (279, .iconst 3, 1)] = true := by decide +kernel
theorem d_M_score_228 : decode mM_score.2.1 228 = .ok (.iaload, 1) := dq_get dd_M_score_128 (i := 0) rfl
theorem d_M_score_229 : decode mM_score.2.1 229 = .ok (.iastore, 1) := dq_get dd_M_score_128 (i := 1) rfl
theorem d_M_score_230 : decode mM_score.2.1 230 = .ok (.aload_n 0, 1) := dq_get dd_M_score_128 (i := 2) rfl
theorem d_M_score_231 : decode mM_score.2.1 231 = .ok (.getfield 75, 3) := dq_get dd_M_score_128 (i := 3) rfl
theorem d_M_score_234 : decode mM_score.2.1 234 = .ok (.iload_n 1, 1) := dq_get dd_M_score_128 (i := 4) rfl
theorem d_M_score_235 : decode mM_score.2.1 235 = .ok (.aload_n 0, 1) := dq_get dd_M_score_128 (i := 5) rfl
theorem d_M_score_236 : decode mM_score.2.1 236 = .ok (.getfield 57, 3) := dq_get dd_M_score_128 (i := 6) rfl
theorem d_M_score_239 : decode mM_score.2.1 239 = .ok (.iload_n 1, 1) := dq_get dd_M_score_128 (i := 7) rfl
theorem d_M_score_240 : decode mM_score.2.1 240 = .ok (.iaload, 1) := dq_get dd_M_score_128 (i := 8) rfl
theorem d_M_score_241 : decode mM_score.2.1 241 = .ok (.iastore, 1) := dq_get dd_M_score_128 (i := 9) rfl
theorem d_M_score_242 : decode mM_score.2.1 242 = .ok (.iinc 1 1, 3) := dq_get dd_M_score_128 (i := 10) rfl
theorem d_M_score_245 : decode mM_score.2.1 245 = .ok (.goto (-71), 3) := dq_get dd_M_score_128 (i := 11) rfl
theorem d_M_score_248 : decode mM_score.2.1 248 = .ok (.aload_n 0, 1) := dq_get dd_M_score_128 (i := 12) rfl
theorem d_M_score_249 : decode mM_score.2.1 249 = .ok (.invokevirtual 411, 3) := dq_get dd_M_score_128 (i := 13) rfl
theorem d_M_score_252 : decode mM_score.2.1 252 = .ok (.aload_n 0, 1) := dq_get dd_M_score_128 (i := 14) rfl
theorem d_M_score_253 : decode mM_score.2.1 253 = .ok (.invokevirtual 414, 3) := dq_get dd_M_score_128 (i := 15) rfl
theorem d_M_score_256 : decode mM_score.2.1 256 = .ok (.aload_n 0, 1) := dq_get dd_M_score_128 (i := 16) rfl
theorem d_M_score_257 : decode mM_score.2.1 257 = .ok (.iconst 0, 1) := dq_get dd_M_score_128 (i := 17) rfl
theorem d_M_score_258 : decode mM_score.2.1 258 = .ok (.putfield 417, 3) := dq_get dd_M_score_128 (i := 18) rfl
theorem d_M_score_261 : decode mM_score.2.1 261 = .ok (.aload_n 0, 1) := dq_get dd_M_score_128 (i := 19) rfl
theorem d_M_score_262 : decode mM_score.2.1 262 = .ok (.iconst 0, 1) := dq_get dd_M_score_128 (i := 20) rfl
theorem d_M_score_263 : decode mM_score.2.1 263 = .ok (.putfield 420, 3) := dq_get dd_M_score_128 (i := 21) rfl
theorem d_M_score_266 : decode mM_score.2.1 266 = .ok (.aload_n 0, 1) := dq_get dd_M_score_128 (i := 22) rfl
theorem d_M_score_267 : decode mM_score.2.1 267 = .ok (.iconst 0, 1) := dq_get dd_M_score_128 (i := 23) rfl
theorem d_M_score_268 : decode mM_score.2.1 268 = .ok (.putfield 423, 3) := dq_get dd_M_score_128 (i := 24) rfl
theorem d_M_score_271 : decode mM_score.2.1 271 = .ok (.aload_n 0, 1) := dq_get dd_M_score_128 (i := 25) rfl
theorem d_M_score_272 : decode mM_score.2.1 272 = .ok (.iconst 0, 1) := dq_get dd_M_score_128 (i := 26) rfl
theorem d_M_score_273 : decode mM_score.2.1 273 = .ok (.putfield 426, 3) := dq_get dd_M_score_128 (i := 27) rfl
theorem d_M_score_276 : decode mM_score.2.1 276 = .ok (.iconst 0, 1) := dq_get dd_M_score_128 (i := 28) rfl
theorem d_M_score_277 : decode mM_score.2.1 277 = .ok (.istore_n 1, 1) := dq_get dd_M_score_128 (i := 29) rfl
theorem d_M_score_278 : decode mM_score.2.1 278 = .ok (.iload_n 1, 1) := dq_get dd_M_score_128 (i := 30) rfl
theorem d_M_score_279 : decode mM_score.2.1 279 = .ok (.iconst 3, 1) := dq_get dd_M_score_128 (i := 31) rfl
theorem dd_M_score_160 : dq mM_score.2.1 [(280, .if_icmp .ge 16, 3), (283, .aload_n 0, 1), (284, .getfield 139, 3), (287, .iload_n 1, 1), (288, .iconst 0, 1), (289, .bastore, 1), (290, .iinc 1 1, 3), (293, .goto (-15), 3), (296, .aload_n 0, 1), (297, .getfield 322, 3), (300, .ireturn, 1)] = true := by decide +kernel
theorem d_M_score_280 : decode mM_score.2.1 280 = .ok (.if_icmp .ge 16, 3) := dq_get dd_M_score_160 (i := 0) rfl
theorem d_M_score_283 : decode mM_score.2.1 283 = .ok (.aload_n 0, 1) := dq_get dd_M_score_160 (i := 1) rfl
theorem d_M_score_284 : decode mM_score.2.1 284 = .ok (.getfield 139, 3) := dq_get dd_M_score_160 (i := 2) rfl
theorem d_M_score_287 : decode mM_score.2.1 287 = .ok (.iload_n 1, 1) := dq_get dd_M_score_160 (i := 3) rfl
theorem d_M_score_288 : decode mM_score.2.1 288 = .ok (.iconst 0, 1) := dq_get dd_M_score_160 (i := 4) rfl
theorem d_M_score_289 : decode mM_score.2.1 289 = .ok (.bastore, 1) := dq_get dd_M_score_160 (i := 5) rfl
theorem d_M_score_290 : decode mM_score.2.1 290 = .ok (.iinc 1 1, 3) := dq_get dd_M_score_160 (i := 6) rfl
theorem d_M_score_293 : decode mM_score.2.1 293 = .ok (.goto (-15), 3) := dq_get dd_M_score_160 (i := 7) rfl
theorem d_M_score_296 : decode mM_score.2.1 296 = .ok (.aload_n 0, 1) := dq_get dd_M_score_160 (i := 8) rfl
theorem d_M_score_297 : decode mM_score.2.1 297 = .ok (.getfield 322, 3) := dq_get dd_M_score_160 (i := 9) rfl
theorem d_M_score_300 : decode mM_score.2.1 300 = .ok (.ireturn, 1) := dq_get dd_M_score_160 (i := 10) rfl
theorem dd_M_readAll_0 : dq mM_readAll.2.1 [(0, .aload_n 0, 1), (1, .aload_n 0, 1), (2, .getfield 145, 3), (5, .putfield 155, 3), (8, .aload_n 0, 1), (9, .iconst 0, 1), (10, .putfield 145, 3), (13, .aload_n 0, 1), (14, .iconst 0, 1), (15, .putfield 152, 3), (18, .aload_n 0, 1), (19, .iconst 0, 1), (20, .putfield 185, 3), (23, .aload_n 0, 1), (24, .iconst (-1), 1), (25, .putfield 13, 3), (28, .aload_n 0, 1), (29, .bipush 12, 2), (31, .putfield 356, 3), (34, .aload_n 0, 1), (35, .iconst 0, 1), (36, .putfield 258, 3), (39, .aload_n 0, 1), (40, .iconst 0, 1), (41, .putfield 350, 3), (44, .aload_n 0, 1), (45, .bipush 12, 2), (47, .putfield 378, 3), (50, .aload_n 0, 1), (51, .iconst 5, 1), (52, .putfield 384, 3), (55, .aload_n 0, 1)] = true := by decide +kernel
theorem d_M_readAll_0 : decode mM_readAll.2.1 0 = .ok (.aload_n 0, 1) := dq_get dd_M_readAll_0 (i := 0) rfl
theorem d_M_readAll_1 : decode mM_readAll.2.1 1 = .ok (.aload_n 0, 1) := dq_get dd_M_readAll_0 (i := 1) rfl
theorem d_M_readAll_2 : decode mM_readAll.2.1 2 = .ok (.getfield 145, 3) := dq_get dd_M_readAll_0 (i := 2) rfl
theorem d_M_readAll_5 : decode mM_readAll.2.1 5 = .ok (.putfield 155, 3) := dq_get dd_M_readAll_0 (i := 3) rfl
theorem d_M_readAll_8 : decode mM_readAll.2.1 8 = .ok (.aload_n 0, 1) := dq_get dd_M_readAll_0 (i := 4) rfl
theorem d_M_readAll_9 : decode mM_readAll.2.1 9 = .ok (.iconst 0, 1) := dq_get dd_M_readAll_0 (i := 5) rfl
theorem d_M_readAll_10 : decode mM_readAll.2.1 10 = .ok (.putfield 145, 3) := dq_get dd_M_readAll_0 (i := 6) rfl
theorem d_M_readAll_13 : decode mM_readAll.2.1 13 = .ok (.aload_n 0, 1) := dq_get dd_M_readAll_0 (i := 7) rfl
theorem d_M_readAll_14 : decode mM_readAll.2.1 14 = .ok (.iconst 0, 1) := dq_get dd_M_readAll_0 (i := 8) rfl
theorem d_M_readAll_15 : decode mM_readAll.2.1 15 = .ok (.putfield 152, 3) := dq_get dd_M_readAll_0 (i := 9) rfl
theorem d_M_readAll_18 : decode mM_readAll.2.1 18 = .ok (.aload_n 0, 1) := dq_get dd_M_readAll_0 (i := 10) rfl
theorem d_M_readAll_19 : decode mM_readAll.2.1 19 = .ok (.iconst 0, 1) := dq_get dd_M_readAll_0 (i := 11) rfl
theorem d_M_readAll_20 : decode mM_readAll.2.1 20 = .ok (.putfield 185, 3) := dq_get dd_M_readAll_0 (i := 12) rfl
theorem d_M_readAll_23 : decode mM_readAll.2.1 23 = .ok (.aload_n 0, 1) := dq_get dd_M_readAll_0 (i := 13) rfl
theorem d_M_readAll_24 : decode mM_readAll.2.1 24 = .ok (.iconst (-1), 1) := dq_get dd_M_readAll_0 (i := 14) rfl
theorem d_M_readAll_25 : decode mM_readAll.2.1 25 = .ok (.putfield 13, 3) := dq_get dd_M_readAll_0 (i := 15) rfl
theorem d_M_readAll_28 : decode mM_readAll.2.1 28 = .ok (.aload_n 0, 1) := dq_get dd_M_readAll_0 (i := 16) rfl
theorem d_M_readAll_29 : decode mM_readAll.2.1 29 = .ok (.bipush 12, 2) := dq_get dd_M_readAll_0 (i := 17) rfl
theorem d_M_readAll_31 : decode mM_readAll.2.1 31 = .ok (.putfield 356, 3) := dq_get dd_M_readAll_0 (i := 18) rfl
theorem d_M_readAll_34 : decode mM_readAll.2.1 34 = .ok (.aload_n 0, 1) := dq_get dd_M_readAll_0 (i := 19) rfl
theorem d_M_readAll_35 : decode mM_readAll.2.1 35 = .ok (.iconst 0, 1) := dq_get dd_M_readAll_0 (i := 20) rfl
theorem d_M_readAll_36 : decode mM_readAll.2.1 36 = .ok (.putfield 258, 3) := dq_get dd_M_readAll_0 (i := 21) rfl
theorem d_M_readAll_39 : decode mM_readAll.2.1 39 = .ok (.aload_n 0, 1) := dq_get dd_M_readAll_0 (i := 22) rfl
theorem d_M_readAll_40 : decode mM_readAll.2.1 40 = .ok (.iconst 0, 1) := dq_get dd_M_readAll_0 (i := 23) rfl
theorem d_M_readAll_41 : decode mM_readAll.2.1 41 = .ok (.putfield 350, 3) := dq_get dd_M_readAll_0 (i := 24) rfl
theorem d_M_readAll_44 : decode mM_readAll.2.1 44 = .ok (.aload_n 0, 1) := dq_get dd_M_readAll_0 (i := 25) rfl
theorem d_M_readAll_45 : decode mM_readAll.2.1 45 = .ok (.bipush 12, 2) := dq_get dd_M_readAll_0 (i := 26) rfl
theorem d_M_readAll_47 : decode mM_readAll.2.1 47 = .ok (.putfield 378, 3) := dq_get dd_M_readAll_0 (i := 27) rfl
theorem d_M_readAll_50 : decode mM_readAll.2.1 50 = .ok (.aload_n 0, 1) := dq_get dd_M_readAll_0 (i := 28) rfl
theorem d_M_readAll_51 : decode mM_readAll.2.1 51 = .ok (.iconst 5, 1) := dq_get dd_M_readAll_0 (i := 29) rfl
theorem d_M_readAll_52 : decode mM_readAll.2.1 52 = .ok (.putfield 384, 3) := dq_get dd_M_readAll_0 (i := 30) rfl
theorem d_M_readAll_55 : decode mM_readAll.2.1 55 = .ok (.aload_n 0, 1) := dq_get dd_M_readAll_0 (i := 31) rfl
theorem dd_M_readAll_32 : dq mM_readAll.2.1 [(56, .bipush 20, 2), (58, .putfield 390, 3), (61, .aload_n 0, 1), (62, .iconst 2, 1), (63, .putfield 396, 3), (66, .aload_n 0, 1), (67, .iconst 0, 1), (68, .putfield 363, 3), (71, .aload_n 0, 1), (72, .iconst 0, 1), (73, .putfield 375, 3), (76, .aload_n 0, 1), (77, .iconst 0, 1), (78, .putfield 381, 3), (81, .aload_n 0, 1), (82, .iconst 0, 1), (83, .putfield 387, 3), (86, .aload_n 0, 1), (87, .iconst 0, 1), (88, .putfield 393, 3), (91, .aload_n 0, 1), (92, .iconst 0, 1), (93, .putfield 299, 3), (96, .aload_n 0, 1), (97, .iconst 0, 1), (98, .putfield 277, 3), (101, .aload_n 0, 1), (102, .invokevirtual 241, 3), (105, .aload_n 0, 1), (106, .getfield 185, 3), (109, .ifCond .ne 17, 3), (112, .aload_n 0, 1)] = true := by decide +kernel
theorem d_M_readAll_56 : decode mM_readAll.2.1 56 = .ok (.bipush 20, 2) := dq_get dd_M_readAll_32 (i := 0) rfl
theorem d_M_readAll_58 : decode mM_readAll.2.1 58 = .ok (.putfield 390, 3) := dq_get dd_M_readAll_32 (i := 1) rfl
theorem d_M_readAll_61 : decode mM_readAll.2.1 61 = .ok (.aload_n 0, 1) := dq_get dd_M_readAll_32 (i := 2) rfl
theorem d_M_readAll_62 : decode mM_readAll.2.1 62 = .ok (.iconst 2, 1) := dq_get dd_M_readAll_32 (i := 3) rfl
theorem d_M_readAll_63 : decode mM_readAll.2.1 63 = .ok (.putfield 396, 3) := dq_get dd_M_readAll_32 (i := 4) rfl
theorem d_M_readAll_66 : decode mM_readAll.2.1 66 = .ok (.aload_n 0, 1) := dq_get dd_M_readAll_32 (i := 5) rfl
theorem d_M_readAll_67 : decode mM_readAll.2.1 67 = .ok (.iconst 0, 1) := dq_get dd_M_readAll_32 (i := 6) rfl
theorem d_M_readAll_68 : decode mM_readAll.2.1 68 = .ok (.putfield 363, 3) := dq_get dd_M_readAll_32 (i := 7) rfl
theorem d_M_readAll_71 : decode mM_readAll.2.1 71 = .ok (.aload_n 0, 1) := dq_get dd_M_readAll_32 (i := 8) rfl
theorem d_M_readAll_72 : decode mM_readAll.2.1 72 = .ok (.iconst 0, 1) := dq_get dd_M_readAll_32 (i := 9) rfl
theorem d_M_readAll_73 : decode mM_readAll.2.1 73 = .ok (.putfield 375, 3) := dq_get dd_M_readAll_32 (i := 10) rfl
theorem d_M_readAll_76 : decode mM_readAll.2.1 76 = .ok (.aload_n 0, 1) := dq_get dd_M_readAll_32 (i := 11) rfl
theorem d_M_readAll_77 : decode mM_readAll.2.1 77 = .ok (.iconst 0, 1) := dq_get dd_M_readAll_32 (i := 12) rfl
theorem d_M_readAll_78 : decode mM_readAll.2.1 78 = .ok (.putfield 381, 3) := dq_get dd_M_readAll_32 (i := 13) rfl
theorem d_M_readAll_81 : decode mM_readAll.2.1 81 = .ok (.aload_n 0, 1) := dq_get dd_M_readAll_32 (i := 14) rfl
theorem d_M_readAll_82 : decode mM_readAll.2.1 82 = .ok (.iconst 0, 1) := dq_get dd_M_readAll_32 (i := 15) rfl
theorem d_M_readAll_83 : decode mM_readAll.2.1 83 = .ok (.putfield 387, 3) := dq_get dd_M_readAll_32 (i := 16) rfl
theorem d_M_readAll_86 : decode mM_readAll.2.1 86 = .ok (.aload_n 0, 1) := dq_get dd_M_readAll_32 (i := 17) rfl
theorem d_M_readAll_87 : decode mM_readAll.2.1 87 = .ok (.iconst 0, 1) := dq_get dd_M_readAll_32 (i := 18) rfl
theorem d_M_readAll_88 : decode mM_readAll.2.1 88 = .ok (.putfield 393, 3) := dq_get dd_M_readAll_32 (i := 19) rfl
theorem d_M_readAll_91 : decode mM_readAll.2.1 91 = .ok (.aload_n 0, 1) := dq_get dd_M_readAll_32 (i := 20) rfl
theorem d_M_readAll_92 : decode mM_readAll.2.1 92 = .ok (.iconst 0, 1) := dq_get dd_M_readAll_32 (i := 21) rfl
theorem d_M_readAll_93 : decode mM_readAll.2.1 93 = .ok (.putfield 299, 3) := dq_get dd_M_readAll_32 (i := 22) rfl
theorem d_M_readAll_96 : decode mM_readAll.2.1 96 = .ok (.aload_n 0, 1) := dq_get dd_M_readAll_32 (i := 23) rfl
theorem d_M_readAll_97 : decode mM_readAll.2.1 97 = .ok (.iconst 0, 1) := dq_get dd_M_readAll_32 (i := 24) rfl
theorem d_M_readAll_98 : decode mM_readAll.2.1 98 = .ok (.putfield 277, 3) := dq_get dd_M_readAll_32 (i := 25) rfl
theorem d_M_readAll_101 : decode mM_readAll.2.1 101 = .ok (.aload_n 0, 1) := dq_get dd_M_readAll_32 (i := 26) rfl
theorem d_M_readAll_102 : decode mM_readAll.2.1 102 = .ok (.invokevirtual 241, 3) := dq_get dd_M_readAll_32 (i := 27) rfl
theorem d_M_readAll_105 : decode mM_readAll.2.1 105 = .ok (.aload_n 0, 1) := dq_get dd_M_readAll_32 (i := 28) rfl
theorem d_M_readAll_106 : decode mM_readAll.2.1 106 = .ok (.getfield 185, 3) := dq_get dd_M_readAll_32 (i := 29) rfl
theorem d_M_readAll_109 : decode mM_readAll.2.1 109 = .ok (.ifCond .ne 17, 3) := dq_get dd_M_readAll_32 (i := 30) rfl
theorem d_M_readAll_112 : decode mM_readAll.2.1 112 = .ok (.aload_n 0, 1) := dq_get dd_M_readAll_32 (i := 31) rfl
theorem dd_M_readAll_64 : dq mM_readAll.2.1 [(113, .getfield 172, 3), (116, .ifCond .eq 10, 3), (119, .aload_n 0, 1), (120, .invokevirtual 399, 3), (123, .goto (-18), 3), (126, .return_, 1)] = true := by decide +kernel
theorem d_M_readAll_113 : decode mM_readAll.2.1 113 = .ok (.getfield 172, 3) := dq_get dd_M_readAll_64 (i := 0) rfl
theorem d_M_readAll_116 : decode mM_readAll.2.1 116 = .ok (.ifCond .eq 10, 3) := dq_get dd_M_readAll_64 (i := 1) rfl
theorem d_M_readAll_119 : decode mM_readAll.2.1 119 = .ok (.aload_n 0, 1) := dq_get dd_M_readAll_64 (i := 2) rfl
theorem d_M_readAll_120 : decode mM_readAll.2.1 120 = .ok (.invokevirtual 399, 3) := dq_get dd_M_readAll_64 (i := 3) rfl
theorem d_M_readAll_123 : decode mM_readAll.2.1 123 = .ok (.goto (-18), 3) := dq_get dd_M_readAll_64 (i := 4) rfl
theorem d_M_readAll_126 : decode mM_readAll.2.1 126 = .ok (.return_, 1) := dq_get dd_M_readAll_64 (i := 5) rfl
theorem dd_M_token_0 : dq mM_token.2.1 [(0, .aload_n 0, 1), (1, .iconst 0, 1), (2, .invokevirtual 158, 3), (5, .bipush 32, 2), (7, .if_icmp .eq 13, 3), (10, .aload_n 0, 1), (11, .iconst 0, 1), (12, .invokevirtual 158, 3), (15, .bipush 10, 2), (17, .if_icmp .ne 16, 3), (20, .aload_n 0, 1), (21, .dup, 1), (22, .getfield 152, 3), (25, .iconst 1, 1), (26, .iadd, 1), (27, .putfield 152, 3), (30, .goto (-30), 3), (33, .aload_n 0, 1), (34, .aload_n 0, 1), (35, .getfield 152, 3), (38, .putfield 162, 3), (41, .aload_n 0, 1), (42, .iconst 0, 1), (43, .invokevirtual 158, 3), (46, .istore_n 1, 1), (47, .iconst 0, 1), (48, .istore_n 2, 1), (49, .aload_n 0, 1), (50, .lconst 0, 1), (51, .putfield 165, 3), (54, .aload_n 0, 1), (55, .iconst 0, 1)] = true := by decide +kernel
theorem d_M_token_0 : decode mM_token.2.1 0 = .ok (.aload_n 0, 1) := dq_get dd_M_token_0 (i := 0) rfl
theorem d_M_token_1 : decode mM_token.2.1 1 = .ok (.iconst 0, 1) := dq_get dd_M_token_0 (i := 1) rfl
theorem d_M_token_2 : decode mM_token.2.1 2 = .ok (.invokevirtual 158, 3) := dq_get dd_M_token_0 (i := 2) rfl
theorem d_M_token_5 : decode mM_token.2.1 5 = .ok (.bipush 32, 2) := dq_get dd_M_token_0 (i := 3) rfl
theorem d_M_token_7 : decode mM_token.2.1 7 = .ok (.if_icmp .eq 13, 3) := dq_get dd_M_token_0 (i := 4) rfl
theorem d_M_token_10 : decode mM_token.2.1 10 = .ok (.aload_n 0, 1) := dq_get dd_M_token_0 (i := 5) rfl
theorem d_M_token_11 : decode mM_token.2.1 11 = .ok (.iconst 0, 1) := dq_get dd_M_token_0 (i := 6) rfl
theorem d_M_token_12 : decode mM_token.2.1 12 = .ok (.invokevirtual 158, 3) := dq_get dd_M_token_0 (i := 7) rfl
theorem d_M_token_15 : decode mM_token.2.1 15 = .ok (.bipush 10, 2) := dq_get dd_M_token_0 (i := 8) rfl
theorem d_M_token_17 : decode mM_token.2.1 17 = .ok (.if_icmp .ne 16, 3) := dq_get dd_M_token_0 (i := 9) rfl
theorem d_M_token_20 : decode mM_token.2.1 20 = .ok (.aload_n 0, 1) := dq_get dd_M_token_0 (i := 10) rfl
theorem d_M_token_21 : decode mM_token.2.1 21 = .ok (.dup, 1) := dq_get dd_M_token_0 (i := 11) rfl
theorem d_M_token_22 : decode mM_token.2.1 22 = .ok (.getfield 152, 3) := dq_get dd_M_token_0 (i := 12) rfl
theorem d_M_token_25 : decode mM_token.2.1 25 = .ok (.iconst 1, 1) := dq_get dd_M_token_0 (i := 13) rfl
theorem d_M_token_26 : decode mM_token.2.1 26 = .ok (.iadd, 1) := dq_get dd_M_token_0 (i := 14) rfl
theorem d_M_token_27 : decode mM_token.2.1 27 = .ok (.putfield 152, 3) := dq_get dd_M_token_0 (i := 15) rfl
theorem d_M_token_30 : decode mM_token.2.1 30 = .ok (.goto (-30), 3) := dq_get dd_M_token_0 (i := 16) rfl
theorem d_M_token_33 : decode mM_token.2.1 33 = .ok (.aload_n 0, 1) := dq_get dd_M_token_0 (i := 17) rfl
theorem d_M_token_34 : decode mM_token.2.1 34 = .ok (.aload_n 0, 1) := dq_get dd_M_token_0 (i := 18) rfl
theorem d_M_token_35 : decode mM_token.2.1 35 = .ok (.getfield 152, 3) := dq_get dd_M_token_0 (i := 19) rfl
theorem d_M_token_38 : decode mM_token.2.1 38 = .ok (.putfield 162, 3) := dq_get dd_M_token_0 (i := 20) rfl
theorem d_M_token_41 : decode mM_token.2.1 41 = .ok (.aload_n 0, 1) := dq_get dd_M_token_0 (i := 21) rfl
theorem d_M_token_42 : decode mM_token.2.1 42 = .ok (.iconst 0, 1) := dq_get dd_M_token_0 (i := 22) rfl
theorem d_M_token_43 : decode mM_token.2.1 43 = .ok (.invokevirtual 158, 3) := dq_get dd_M_token_0 (i := 23) rfl
theorem d_M_token_46 : decode mM_token.2.1 46 = .ok (.istore_n 1, 1) := dq_get dd_M_token_0 (i := 24) rfl
theorem d_M_token_47 : decode mM_token.2.1 47 = .ok (.iconst 0, 1) := dq_get dd_M_token_0 (i := 25) rfl
theorem d_M_token_48 : decode mM_token.2.1 48 = .ok (.istore_n 2, 1) := dq_get dd_M_token_0 (i := 26) rfl
theorem d_M_token_49 : decode mM_token.2.1 49 = .ok (.aload_n 0, 1) := dq_get dd_M_token_0 (i := 27) rfl
theorem d_M_token_50 : decode mM_token.2.1 50 = .ok (.lconst 0, 1) := dq_get dd_M_token_0 (i := 28) rfl
theorem d_M_token_51 : decode mM_token.2.1 51 = .ok (.putfield 165, 3) := dq_get dd_M_token_0 (i := 29) rfl
theorem d_M_token_54 : decode mM_token.2.1 54 = .ok (.aload_n 0, 1) := dq_get dd_M_token_0 (i := 30) rfl
theorem d_M_token_55 : decode mM_token.2.1 55 = .ok (.iconst 0, 1) := dq_get dd_M_token_0 (i := 31) rfl
theorem dd_M_token_32 : dq mM_token.2.1 [(56, .putfield 169, 3), (59, .iload_n 1, 1), (60, .ifCond .ge 11, 3), (63, .aload_n 0, 1), (64, .iconst 0, 1), (65, .putfield 172, 3), (68, .goto 164, 3), (71, .iload_n 1, 1), (72, .invokestatic 175, 3), (75, .ifCond .eq 62, 3), (78, .aload_n 0, 1), (79, .iload_n 2, 1), (80, .invokevirtual 158, 3), (83, .invokestatic 175, 3), (86, .ifCond .eq 33, 3), (89, .iload_n 2, 1), (90, .bipush 8, 2), (92, .if_icmp .ge 21, 3), (95, .aload_n 0, 1), (96, .aload_n 0, 1), (97, .getfield 165, 3), (100, .bipush 8, 2), (102, .lshl, 1), (103, .aload_n 0, 1), (104, .iload_n 2, 1), (105, .invokevirtual 158, 3), (108, .i2l, 1), (109, .lor, 1), (110, .putfield 165, 3), (113, .iinc 2 1, 3), (116, .goto (-38), 3), (119, .aload_n 0, 1)] = true := by decide +kernel
theorem d_M_token_56 : decode mM_token.2.1 56 = .ok (.putfield 169, 3) := dq_get dd_M_token_32 (i := 0) rfl
theorem d_M_token_59 : decode mM_token.2.1 59 = .ok (.iload_n 1, 1) := dq_get dd_M_token_32 (i := 1) rfl
theorem d_M_token_60 : decode mM_token.2.1 60 = .ok (.ifCond .ge 11, 3) := dq_get dd_M_token_32 (i := 2) rfl
theorem d_M_token_63 : decode mM_token.2.1 63 = .ok (.aload_n 0, 1) := dq_get dd_M_token_32 (i := 3) rfl
theorem d_M_token_64 : decode mM_token.2.1 64 = .ok (.iconst 0, 1) := dq_get dd_M_token_32 (i := 4) rfl
theorem d_M_token_65 : decode mM_token.2.1 65 = .ok (.putfield 172, 3) := dq_get dd_M_token_32 (i := 5) rfl
theorem d_M_token_68 : decode mM_token.2.1 68 = .ok (.goto 164, 3) := dq_get dd_M_token_32 (i := 6) rfl
theorem d_M_token_71 : decode mM_token.2.1 71 = .ok (.iload_n 1, 1) := dq_get dd_M_token_32 (i := 7) rfl
theorem d_M_token_72 : decode mM_token.2.1 72 = .ok (.invokestatic 175, 3) := dq_get dd_M_token_32 (i := 8) rfl
theorem d_M_token_75 : decode mM_token.2.1 75 = .ok (.ifCond .eq 62, 3) := dq_get dd_M_token_32 (i := 9) rfl
theorem d_M_token_78 : decode mM_token.2.1 78 = .ok (.aload_n 0, 1) := dq_get dd_M_token_32 (i := 10) rfl
theorem d_M_token_79 : decode mM_token.2.1 79 = .ok (.iload_n 2, 1) := dq_get dd_M_token_32 (i := 11) rfl
theorem d_M_token_80 : decode mM_token.2.1 80 = .ok (.invokevirtual 158, 3) := dq_get dd_M_token_32 (i := 12) rfl
theorem d_M_token_83 : decode mM_token.2.1 83 = .ok (.invokestatic 175, 3) := dq_get dd_M_token_32 (i := 13) rfl
theorem d_M_token_86 : decode mM_token.2.1 86 = .ok (.ifCond .eq 33, 3) := dq_get dd_M_token_32 (i := 14) rfl
theorem d_M_token_89 : decode mM_token.2.1 89 = .ok (.iload_n 2, 1) := dq_get dd_M_token_32 (i := 15) rfl
theorem d_M_token_90 : decode mM_token.2.1 90 = .ok (.bipush 8, 2) := dq_get dd_M_token_32 (i := 16) rfl
theorem d_M_token_92 : decode mM_token.2.1 92 = .ok (.if_icmp .ge 21, 3) := dq_get dd_M_token_32 (i := 17) rfl
theorem d_M_token_95 : decode mM_token.2.1 95 = .ok (.aload_n 0, 1) := dq_get dd_M_token_32 (i := 18) rfl
theorem d_M_token_96 : decode mM_token.2.1 96 = .ok (.aload_n 0, 1) := dq_get dd_M_token_32 (i := 19) rfl
theorem d_M_token_97 : decode mM_token.2.1 97 = .ok (.getfield 165, 3) := dq_get dd_M_token_32 (i := 20) rfl
theorem d_M_token_100 : decode mM_token.2.1 100 = .ok (.bipush 8, 2) := dq_get dd_M_token_32 (i := 21) rfl
theorem d_M_token_102 : decode mM_token.2.1 102 = .ok (.lshl, 1) := dq_get dd_M_token_32 (i := 22) rfl
theorem d_M_token_103 : decode mM_token.2.1 103 = .ok (.aload_n 0, 1) := dq_get dd_M_token_32 (i := 23) rfl
theorem d_M_token_104 : decode mM_token.2.1 104 = .ok (.iload_n 2, 1) := dq_get dd_M_token_32 (i := 24) rfl
theorem d_M_token_105 : decode mM_token.2.1 105 = .ok (.invokevirtual 158, 3) := dq_get dd_M_token_32 (i := 25) rfl
theorem d_M_token_108 : decode mM_token.2.1 108 = .ok (.i2l, 1) := dq_get dd_M_token_32 (i := 26) rfl
theorem d_M_token_109 : decode mM_token.2.1 109 = .ok (.lor, 1) := dq_get dd_M_token_32 (i := 27) rfl
theorem d_M_token_110 : decode mM_token.2.1 110 = .ok (.putfield 165, 3) := dq_get dd_M_token_32 (i := 28) rfl
theorem d_M_token_113 : decode mM_token.2.1 113 = .ok (.iinc 2 1, 3) := dq_get dd_M_token_32 (i := 29) rfl
theorem d_M_token_116 : decode mM_token.2.1 116 = .ok (.goto (-38), 3) := dq_get dd_M_token_32 (i := 30) rfl
theorem d_M_token_119 : decode mM_token.2.1 119 = .ok (.aload_n 0, 1) := dq_get dd_M_token_32 (i := 31) rfl
theorem dd_M_token_64 : dq mM_token.2.1 [(120, .iload_n 2, 1), (121, .bipush 8, 2), (123, .if_icmp .le 7, 3), (126, .iconst 3, 1), (127, .goto 4, 3), (130, .iconst 1, 1), (131, .putfield 172, 3), (134, .goto 98, 3), (137, .iload_n 1, 1), (138, .invokestatic 179, 3), (141, .ifCond .eq 73, 3), (144, .aload_n 0, 1), (145, .iload_n 2, 1), (146, .invokevirtual 158, 3), (149, .invokestatic 179, 3), (152, .ifCond .eq 34, 3), (155, .iload_n 2, 1), (156, .iconst 4, 1), (157, .if_icmp .ge 23, 3), (160, .aload_n 0, 1), (161, .bipush 10, 2), (163, .aload_n 0, 1), (164, .getfield 169, 3), (167, .imul, 1), (168, .aload_n 0, 1), (169, .iload_n 2, 1), (170, .invokevirtual 158, 3), (173, .iadd, 1), (174, .bipush 48, 2), (176, .isub, 1), (177, .putfield 169, 3), (180, .iinc 2 1, 3)] = true := by decide +kernel
theorem d_M_token_120 : decode mM_token.2.1 120 = .ok (.iload_n 2, 1) := dq_get dd_M_token_64 (i := 0) rfl
theorem d_M_token_121 : decode mM_token.2.1 121 = .ok (.bipush 8, 2) := dq_get dd_M_token_64 (i := 1) rfl
theorem d_M_token_123 : decode mM_token.2.1 123 = .ok (.if_icmp .le 7, 3) := dq_get dd_M_token_64 (i := 2) rfl
theorem d_M_token_126 : decode mM_token.2.1 126 = .ok (.iconst 3, 1) := dq_get dd_M_token_64 (i := 3) rfl
theorem d_M_token_127 : decode mM_token.2.1 127 = .ok (.goto 4, 3) := dq_get dd_M_token_64 (i := 4) rfl
theorem d_M_token_130 : decode mM_token.2.1 130 = .ok (.iconst 1, 1) := dq_get dd_M_token_64 (i := 5) rfl
theorem d_M_token_131 : decode mM_token.2.1 131 = .ok (.putfield 172, 3) := dq_get dd_M_token_64 (i := 6) rfl
theorem d_M_token_134 : decode mM_token.2.1 134 = .ok (.goto 98, 3) := dq_get dd_M_token_64 (i := 7) rfl
theorem d_M_token_137 : decode mM_token.2.1 137 = .ok (.iload_n 1, 1) := dq_get dd_M_token_64 (i := 8) rfl
theorem d_M_token_138 : decode mM_token.2.1 138 = .ok (.invokestatic 179, 3) := dq_get dd_M_token_64 (i := 9) rfl
theorem d_M_token_141 : decode mM_token.2.1 141 = .ok (.ifCond .eq 73, 3) := dq_get dd_M_token_64 (i := 10) rfl
theorem d_M_token_144 : decode mM_token.2.1 144 = .ok (.aload_n 0, 1) := dq_get dd_M_token_64 (i := 11) rfl
theorem d_M_token_145 : decode mM_token.2.1 145 = .ok (.iload_n 2, 1) := dq_get dd_M_token_64 (i := 12) rfl
theorem d_M_token_146 : decode mM_token.2.1 146 = .ok (.invokevirtual 158, 3) := dq_get dd_M_token_64 (i := 13) rfl
theorem d_M_token_149 : decode mM_token.2.1 149 = .ok (.invokestatic 179, 3) := dq_get dd_M_token_64 (i := 14) rfl
theorem d_M_token_152 : decode mM_token.2.1 152 = .ok (.ifCond .eq 34, 3) := dq_get dd_M_token_64 (i := 15) rfl
theorem d_M_token_155 : decode mM_token.2.1 155 = .ok (.iload_n 2, 1) := dq_get dd_M_token_64 (i := 16) rfl
theorem d_M_token_156 : decode mM_token.2.1 156 = .ok (.iconst 4, 1) := dq_get dd_M_token_64 (i := 17) rfl
theorem d_M_token_157 : decode mM_token.2.1 157 = .ok (.if_icmp .ge 23, 3) := dq_get dd_M_token_64 (i := 18) rfl
theorem d_M_token_160 : decode mM_token.2.1 160 = .ok (.aload_n 0, 1) := dq_get dd_M_token_64 (i := 19) rfl
theorem d_M_token_161 : decode mM_token.2.1 161 = .ok (.bipush 10, 2) := dq_get dd_M_token_64 (i := 20) rfl
theorem d_M_token_163 : decode mM_token.2.1 163 = .ok (.aload_n 0, 1) := dq_get dd_M_token_64 (i := 21) rfl
theorem d_M_token_164 : decode mM_token.2.1 164 = .ok (.getfield 169, 3) := dq_get dd_M_token_64 (i := 22) rfl
theorem d_M_token_167 : decode mM_token.2.1 167 = .ok (.imul, 1) := dq_get dd_M_token_64 (i := 23) rfl
theorem d_M_token_168 : decode mM_token.2.1 168 = .ok (.aload_n 0, 1) := dq_get dd_M_token_64 (i := 24) rfl
theorem d_M_token_169 : decode mM_token.2.1 169 = .ok (.iload_n 2, 1) := dq_get dd_M_token_64 (i := 25) rfl
theorem d_M_token_170 : decode mM_token.2.1 170 = .ok (.invokevirtual 158, 3) := dq_get dd_M_token_64 (i := 26) rfl
theorem d_M_token_173 : decode mM_token.2.1 173 = .ok (.iadd, 1) := dq_get dd_M_token_64 (i := 27) rfl
theorem d_M_token_174 : decode mM_token.2.1 174 = .ok (.bipush 48, 2) := dq_get dd_M_token_64 (i := 28) rfl
theorem d_M_token_176 : decode mM_token.2.1 176 = .ok (.isub, 1) := dq_get dd_M_token_64 (i := 29) rfl
theorem d_M_token_177 : decode mM_token.2.1 177 = .ok (.putfield 169, 3) := dq_get dd_M_token_64 (i := 30) rfl
theorem d_M_token_180 : decode mM_token.2.1 180 = .ok (.iinc 2 1, 3) := dq_get dd_M_token_64 (i := 31) rfl
theorem dd_M_token_96 : dq mM_token.2.1 [(183, .goto (-39), 3), (186, .aload_n 0, 1), (187, .iload_n 2, 1), (188, .iconst 4, 1), (189, .if_icmp .gt 14, 3), (192, .aload_n 0, 1), (193, .iload_n 2, 1), (194, .invokevirtual 158, 3), (197, .invokestatic 175, 3), (200, .ifCond .eq 7, 3), (203, .iconst 3, 1), (204, .goto 4, 3), (207, .iconst 2, 1), (208, .putfield 172, 3), (211, .goto 21, 3), (214, .iconst 1, 1), (215, .istore_n 2, 1), (216, .aload_n 0, 1), (217, .iload_n 1, 1), (218, .invokestatic 182, 3), (221, .ifCond .eq 7, 3), (224, .iload_n 1, 1), (225, .goto 4, 3), (228, .iconst 3, 1), (229, .putfield 172, 3), (232, .aload_n 0, 1), (233, .getfield 172, 3), (236, .iconst 3, 1), (237, .if_icmp .eq 13, 3), (240, .aload_n 0, 1), (241, .dup, 1), (242, .getfield 152, 3)] = true := by decide +kernel
theorem d_M_token_183 : decode mM_token.2.1 183 = .ok (.goto (-39), 3) := dq_get dd_M_token_96 (i := 0) rfl
theorem d_M_token_186 : decode mM_token.2.1 186 = .ok (.aload_n 0, 1) := dq_get dd_M_token_96 (i := 1) rfl
theorem d_M_token_187 : decode mM_token.2.1 187 = .ok (.iload_n 2, 1) := dq_get dd_M_token_96 (i := 2) rfl
theorem d_M_token_188 : decode mM_token.2.1 188 = .ok (.iconst 4, 1) := dq_get dd_M_token_96 (i := 3) rfl
theorem d_M_token_189 : decode mM_token.2.1 189 = .ok (.if_icmp .gt 14, 3) := dq_get dd_M_token_96 (i := 4) rfl
theorem d_M_token_192 : decode mM_token.2.1 192 = .ok (.aload_n 0, 1) := dq_get dd_M_token_96 (i := 5) rfl
theorem d_M_token_193 : decode mM_token.2.1 193 = .ok (.iload_n 2, 1) := dq_get dd_M_token_96 (i := 6) rfl
theorem d_M_token_194 : decode mM_token.2.1 194 = .ok (.invokevirtual 158, 3) := dq_get dd_M_token_96 (i := 7) rfl
theorem d_M_token_197 : decode mM_token.2.1 197 = .ok (.invokestatic 175, 3) := dq_get dd_M_token_96 (i := 8) rfl
theorem d_M_token_200 : decode mM_token.2.1 200 = .ok (.ifCond .eq 7, 3) := dq_get dd_M_token_96 (i := 9) rfl
theorem d_M_token_203 : decode mM_token.2.1 203 = .ok (.iconst 3, 1) := dq_get dd_M_token_96 (i := 10) rfl
theorem d_M_token_204 : decode mM_token.2.1 204 = .ok (.goto 4, 3) := dq_get dd_M_token_96 (i := 11) rfl
theorem d_M_token_207 : decode mM_token.2.1 207 = .ok (.iconst 2, 1) := dq_get dd_M_token_96 (i := 12) rfl
theorem d_M_token_208 : decode mM_token.2.1 208 = .ok (.putfield 172, 3) := dq_get dd_M_token_96 (i := 13) rfl
theorem d_M_token_211 : decode mM_token.2.1 211 = .ok (.goto 21, 3) := dq_get dd_M_token_96 (i := 14) rfl
theorem d_M_token_214 : decode mM_token.2.1 214 = .ok (.iconst 1, 1) := dq_get dd_M_token_96 (i := 15) rfl
theorem d_M_token_215 : decode mM_token.2.1 215 = .ok (.istore_n 2, 1) := dq_get dd_M_token_96 (i := 16) rfl
theorem d_M_token_216 : decode mM_token.2.1 216 = .ok (.aload_n 0, 1) := dq_get dd_M_token_96 (i := 17) rfl
theorem d_M_token_217 : decode mM_token.2.1 217 = .ok (.iload_n 1, 1) := dq_get dd_M_token_96 (i := 18) rfl
theorem d_M_token_218 : decode mM_token.2.1 218 = .ok (.invokestatic 182, 3) := dq_get dd_M_token_96 (i := 19) rfl
theorem d_M_token_221 : decode mM_token.2.1 221 = .ok (.ifCond .eq 7, 3) := dq_get dd_M_token_96 (i := 20) rfl
theorem d_M_token_224 : decode mM_token.2.1 224 = .ok (.iload_n 1, 1) := dq_get dd_M_token_96 (i := 21) rfl
theorem d_M_token_225 : decode mM_token.2.1 225 = .ok (.goto 4, 3) := dq_get dd_M_token_96 (i := 22) rfl
theorem d_M_token_228 : decode mM_token.2.1 228 = .ok (.iconst 3, 1) := dq_get dd_M_token_96 (i := 23) rfl
theorem d_M_token_229 : decode mM_token.2.1 229 = .ok (.putfield 172, 3) := dq_get dd_M_token_96 (i := 24) rfl
theorem d_M_token_232 : decode mM_token.2.1 232 = .ok (.aload_n 0, 1) := dq_get dd_M_token_96 (i := 25) rfl
theorem d_M_token_233 : decode mM_token.2.1 233 = .ok (.getfield 172, 3) := dq_get dd_M_token_96 (i := 26) rfl
theorem d_M_token_236 : decode mM_token.2.1 236 = .ok (.iconst 3, 1) := dq_get dd_M_token_96 (i := 27) rfl
theorem d_M_token_237 : decode mM_token.2.1 237 = .ok (.if_icmp .eq 13, 3) := dq_get dd_M_token_96 (i := 28) rfl
theorem d_M_token_240 : decode mM_token.2.1 240 = .ok (.aload_n 0, 1) := dq_get dd_M_token_96 (i := 29) rfl
theorem d_M_token_241 : decode mM_token.2.1 241 = .ok (.dup, 1) := dq_get dd_M_token_96 (i := 30) rfl
theorem d_M_token_242 : decode mM_token.2.1 242 = .ok (.getfield 152, 3) := dq_get dd_M_token_96 (i := 31) rfl
theorem dd_M_token_128 : dq mM_token.2.1 [(245, .iload_n 2, 1), (246, .iadd, 1), (247, .putfield 152, 3), (250, .return_, 1)] = true := by decide +kernel
theorem d_M_token_245 : decode mM_token.2.1 245 = .ok (.iload_n 2, 1) := dq_get dd_M_token_128 (i := 0) rfl
theorem d_M_token_246 : decode mM_token.2.1 246 = .ok (.iadd, 1) := dq_get dd_M_token_128 (i := 1) rfl
theorem d_M_token_247 : decode mM_token.2.1 247 = .ok (.putfield 152, 3) := dq_get dd_M_token_128 (i := 2) rfl
theorem d_M_token_250 : decode mM_token.2.1 250 = .ok (.return_, 1) := dq_get dd_M_token_128 (i := 3) rfl
theorem dd_M_here_0 : dq mM_here.2.1 [(0, .aload_n 0, 1), (1, .getfield 152, 3), (4, .iload_n 1, 1), (5, .iadd, 1), (6, .aload_n 0, 1), (7, .getfield 155, 3), (10, .if_icmp .ge 17, 3), (13, .aload_n 0, 1), (14, .getfield 7, 3), (17, .aload_n 0, 1), (18, .getfield 152, 3), (21, .iload_n 1, 1), (22, .iadd, 1), (23, .iaload, 1), (24, .goto 4, 3), (27, .iconst (-1), 1), (28, .ireturn, 1)] = true := by decide +kernel
theorem d_M_here_0 : decode mM_here.2.1 0 = .ok (.aload_n 0, 1) := dq_get dd_M_here_0 (i := 0) rfl
theorem d_M_here_1 : decode mM_here.2.1 1 = .ok (.getfield 152, 3) := dq_get dd_M_here_0 (i := 1) rfl
theorem d_M_here_4 : decode mM_here.2.1 4 = .ok (.iload_n 1, 1) := dq_get dd_M_here_0 (i := 2) rfl
theorem d_M_here_5 : decode mM_here.2.1 5 = .ok (.iadd, 1) := dq_get dd_M_here_0 (i := 3) rfl
theorem d_M_here_6 : decode mM_here.2.1 6 = .ok (.aload_n 0, 1) := dq_get dd_M_here_0 (i := 4) rfl
theorem d_M_here_7 : decode mM_here.2.1 7 = .ok (.getfield 155, 3) := dq_get dd_M_here_0 (i := 5) rfl
theorem d_M_here_10 : decode mM_here.2.1 10 = .ok (.if_icmp .ge 17, 3) := dq_get dd_M_here_0 (i := 6) rfl
theorem d_M_here_13 : decode mM_here.2.1 13 = .ok (.aload_n 0, 1) := dq_get dd_M_here_0 (i := 7) rfl
theorem d_M_here_14 : decode mM_here.2.1 14 = .ok (.getfield 7, 3) := dq_get dd_M_here_0 (i := 8) rfl
theorem d_M_here_17 : decode mM_here.2.1 17 = .ok (.aload_n 0, 1) := dq_get dd_M_here_0 (i := 9) rfl
theorem d_M_here_18 : decode mM_here.2.1 18 = .ok (.getfield 152, 3) := dq_get dd_M_here_0 (i := 10) rfl
theorem d_M_here_21 : decode mM_here.2.1 21 = .ok (.iload_n 1, 1) := dq_get dd_M_here_0 (i := 11) rfl
theorem d_M_here_22 : decode mM_here.2.1 22 = .ok (.iadd, 1) := dq_get dd_M_here_0 (i := 12) rfl
theorem d_M_here_23 : decode mM_here.2.1 23 = .ok (.iaload, 1) := dq_get dd_M_here_0 (i := 13) rfl
theorem d_M_here_24 : decode mM_here.2.1 24 = .ok (.goto 4, 3) := dq_get dd_M_here_0 (i := 14) rfl
theorem d_M_here_27 : decode mM_here.2.1 27 = .ok (.iconst (-1), 1) := dq_get dd_M_here_0 (i := 15) rfl
theorem d_M_here_28 : decode mM_here.2.1 28 = .ok (.ireturn, 1) := dq_get dd_M_here_0 (i := 16) rfl
theorem dd_M_isLetter_0 : dq mM_isLetter.2.1 [(0, .iload_n 0, 1), (1, .bipush 97, 2), (3, .if_icmp .lt 13, 3), (6, .iload_n 0, 1), (7, .bipush 122, 2), (9, .if_icmp .gt 7, 3), (12, .iconst 1, 1), (13, .goto 4, 3), (16, .iconst 0, 1), (17, .ireturn, 1)] = true := by decide +kernel
theorem d_M_isLetter_0 : decode mM_isLetter.2.1 0 = .ok (.iload_n 0, 1) := dq_get dd_M_isLetter_0 (i := 0) rfl
theorem d_M_isLetter_1 : decode mM_isLetter.2.1 1 = .ok (.bipush 97, 2) := dq_get dd_M_isLetter_0 (i := 1) rfl
theorem d_M_isLetter_3 : decode mM_isLetter.2.1 3 = .ok (.if_icmp .lt 13, 3) := dq_get dd_M_isLetter_0 (i := 2) rfl
theorem d_M_isLetter_6 : decode mM_isLetter.2.1 6 = .ok (.iload_n 0, 1) := dq_get dd_M_isLetter_0 (i := 3) rfl
theorem d_M_isLetter_7 : decode mM_isLetter.2.1 7 = .ok (.bipush 122, 2) := dq_get dd_M_isLetter_0 (i := 4) rfl
theorem d_M_isLetter_9 : decode mM_isLetter.2.1 9 = .ok (.if_icmp .gt 7, 3) := dq_get dd_M_isLetter_0 (i := 5) rfl
theorem d_M_isLetter_12 : decode mM_isLetter.2.1 12 = .ok (.iconst 1, 1) := dq_get dd_M_isLetter_0 (i := 6) rfl
theorem d_M_isLetter_13 : decode mM_isLetter.2.1 13 = .ok (.goto 4, 3) := dq_get dd_M_isLetter_0 (i := 7) rfl
theorem d_M_isLetter_16 : decode mM_isLetter.2.1 16 = .ok (.iconst 0, 1) := dq_get dd_M_isLetter_0 (i := 8) rfl
theorem d_M_isLetter_17 : decode mM_isLetter.2.1 17 = .ok (.ireturn, 1) := dq_get dd_M_isLetter_0 (i := 9) rfl
theorem dd_M_isDigit_0 : dq mM_isDigit.2.1 [(0, .iload_n 0, 1), (1, .bipush 48, 2), (3, .if_icmp .lt 13, 3), (6, .iload_n 0, 1), (7, .bipush 57, 2), (9, .if_icmp .gt 7, 3), (12, .iconst 1, 1), (13, .goto 4, 3), (16, .iconst 0, 1), (17, .ireturn, 1)] = true := by decide +kernel
theorem d_M_isDigit_0 : decode mM_isDigit.2.1 0 = .ok (.iload_n 0, 1) := dq_get dd_M_isDigit_0 (i := 0) rfl
theorem d_M_isDigit_1 : decode mM_isDigit.2.1 1 = .ok (.bipush 48, 2) := dq_get dd_M_isDigit_0 (i := 1) rfl
theorem d_M_isDigit_3 : decode mM_isDigit.2.1 3 = .ok (.if_icmp .lt 13, 3) := dq_get dd_M_isDigit_0 (i := 2) rfl
theorem d_M_isDigit_6 : decode mM_isDigit.2.1 6 = .ok (.iload_n 0, 1) := dq_get dd_M_isDigit_0 (i := 3) rfl
theorem d_M_isDigit_7 : decode mM_isDigit.2.1 7 = .ok (.bipush 57, 2) := dq_get dd_M_isDigit_0 (i := 4) rfl
theorem d_M_isDigit_9 : decode mM_isDigit.2.1 9 = .ok (.if_icmp .gt 7, 3) := dq_get dd_M_isDigit_0 (i := 5) rfl
theorem d_M_isDigit_12 : decode mM_isDigit.2.1 12 = .ok (.iconst 1, 1) := dq_get dd_M_isDigit_0 (i := 6) rfl
theorem d_M_isDigit_13 : decode mM_isDigit.2.1 13 = .ok (.goto 4, 3) := dq_get dd_M_isDigit_0 (i := 7) rfl
theorem d_M_isDigit_16 : decode mM_isDigit.2.1 16 = .ok (.iconst 0, 1) := dq_get dd_M_isDigit_0 (i := 8) rfl
theorem d_M_isDigit_17 : decode mM_isDigit.2.1 17 = .ok (.ireturn, 1) := dq_get dd_M_isDigit_0 (i := 9) rfl
theorem dd_M_isSign_0 : dq mM_isSign.2.1 [(0, .iload_n 0, 1), (1, .bipush 59, 2), (3, .if_icmp .eq 63, 3), (6, .iload_n 0, 1), (7, .bipush 40, 2), (9, .if_icmp .eq 57, 3), (12, .iload_n 0, 1), (13, .bipush 41, 2), (15, .if_icmp .eq 51, 3), (18, .iload_n 0, 1), (19, .bipush 60, 2), (21, .if_icmp .eq 45, 3), (24, .iload_n 0, 1), (25, .bipush 62, 2), (27, .if_icmp .eq 39, 3), (30, .iload_n 0, 1), (31, .bipush 61, 2), (33, .if_icmp .eq 33, 3), (36, .iload_n 0, 1), (37, .bipush 43, 2), (39, .if_icmp .eq 27, 3), (42, .iload_n 0, 1), (43, .bipush 45, 2), (45, .if_icmp .eq 21, 3), (48, .iload_n 0, 1), (49, .bipush 42, 2), (51, .if_icmp .eq 15, 3), (54, .iload_n 0, 1), (55, .bipush 47, 2), (57, .if_icmp .eq 9, 3), (60, .iload_n 0, 1), (61, .bipush 37, 2)] = true := by decide +kernel
theorem d_M_isSign_0 : decode mM_isSign.2.1 0 = .ok (.iload_n 0, 1) := dq_get dd_M_isSign_0 (i := 0) rfl
theorem d_M_isSign_1 : decode mM_isSign.2.1 1 = .ok (.bipush 59, 2) := dq_get dd_M_isSign_0 (i := 1) rfl
theorem d_M_isSign_3 : decode mM_isSign.2.1 3 = .ok (.if_icmp .eq 63, 3) := dq_get dd_M_isSign_0 (i := 2) rfl
theorem d_M_isSign_6 : decode mM_isSign.2.1 6 = .ok (.iload_n 0, 1) := dq_get dd_M_isSign_0 (i := 3) rfl
theorem d_M_isSign_7 : decode mM_isSign.2.1 7 = .ok (.bipush 40, 2) := dq_get dd_M_isSign_0 (i := 4) rfl
theorem d_M_isSign_9 : decode mM_isSign.2.1 9 = .ok (.if_icmp .eq 57, 3) := dq_get dd_M_isSign_0 (i := 5) rfl
theorem d_M_isSign_12 : decode mM_isSign.2.1 12 = .ok (.iload_n 0, 1) := dq_get dd_M_isSign_0 (i := 6) rfl
theorem d_M_isSign_13 : decode mM_isSign.2.1 13 = .ok (.bipush 41, 2) := dq_get dd_M_isSign_0 (i := 7) rfl
theorem d_M_isSign_15 : decode mM_isSign.2.1 15 = .ok (.if_icmp .eq 51, 3) := dq_get dd_M_isSign_0 (i := 8) rfl
theorem d_M_isSign_18 : decode mM_isSign.2.1 18 = .ok (.iload_n 0, 1) := dq_get dd_M_isSign_0 (i := 9) rfl
theorem d_M_isSign_19 : decode mM_isSign.2.1 19 = .ok (.bipush 60, 2) := dq_get dd_M_isSign_0 (i := 10) rfl
theorem d_M_isSign_21 : decode mM_isSign.2.1 21 = .ok (.if_icmp .eq 45, 3) := dq_get dd_M_isSign_0 (i := 11) rfl
theorem d_M_isSign_24 : decode mM_isSign.2.1 24 = .ok (.iload_n 0, 1) := dq_get dd_M_isSign_0 (i := 12) rfl
theorem d_M_isSign_25 : decode mM_isSign.2.1 25 = .ok (.bipush 62, 2) := dq_get dd_M_isSign_0 (i := 13) rfl
theorem d_M_isSign_27 : decode mM_isSign.2.1 27 = .ok (.if_icmp .eq 39, 3) := dq_get dd_M_isSign_0 (i := 14) rfl
theorem d_M_isSign_30 : decode mM_isSign.2.1 30 = .ok (.iload_n 0, 1) := dq_get dd_M_isSign_0 (i := 15) rfl
theorem d_M_isSign_31 : decode mM_isSign.2.1 31 = .ok (.bipush 61, 2) := dq_get dd_M_isSign_0 (i := 16) rfl
theorem d_M_isSign_33 : decode mM_isSign.2.1 33 = .ok (.if_icmp .eq 33, 3) := dq_get dd_M_isSign_0 (i := 17) rfl
theorem d_M_isSign_36 : decode mM_isSign.2.1 36 = .ok (.iload_n 0, 1) := dq_get dd_M_isSign_0 (i := 18) rfl
theorem d_M_isSign_37 : decode mM_isSign.2.1 37 = .ok (.bipush 43, 2) := dq_get dd_M_isSign_0 (i := 19) rfl
theorem d_M_isSign_39 : decode mM_isSign.2.1 39 = .ok (.if_icmp .eq 27, 3) := dq_get dd_M_isSign_0 (i := 20) rfl
theorem d_M_isSign_42 : decode mM_isSign.2.1 42 = .ok (.iload_n 0, 1) := dq_get dd_M_isSign_0 (i := 21) rfl
theorem d_M_isSign_43 : decode mM_isSign.2.1 43 = .ok (.bipush 45, 2) := dq_get dd_M_isSign_0 (i := 22) rfl
theorem d_M_isSign_45 : decode mM_isSign.2.1 45 = .ok (.if_icmp .eq 21, 3) := dq_get dd_M_isSign_0 (i := 23) rfl
theorem d_M_isSign_48 : decode mM_isSign.2.1 48 = .ok (.iload_n 0, 1) := dq_get dd_M_isSign_0 (i := 24) rfl
theorem d_M_isSign_49 : decode mM_isSign.2.1 49 = .ok (.bipush 42, 2) := dq_get dd_M_isSign_0 (i := 25) rfl
theorem d_M_isSign_51 : decode mM_isSign.2.1 51 = .ok (.if_icmp .eq 15, 3) := dq_get dd_M_isSign_0 (i := 26) rfl
theorem d_M_isSign_54 : decode mM_isSign.2.1 54 = .ok (.iload_n 0, 1) := dq_get dd_M_isSign_0 (i := 27) rfl
theorem d_M_isSign_55 : decode mM_isSign.2.1 55 = .ok (.bipush 47, 2) := dq_get dd_M_isSign_0 (i := 28) rfl
theorem d_M_isSign_57 : decode mM_isSign.2.1 57 = .ok (.if_icmp .eq 9, 3) := dq_get dd_M_isSign_0 (i := 29) rfl
theorem d_M_isSign_60 : decode mM_isSign.2.1 60 = .ok (.iload_n 0, 1) := dq_get dd_M_isSign_0 (i := 30) rfl
theorem d_M_isSign_61 : decode mM_isSign.2.1 61 = .ok (.bipush 37, 2) := dq_get dd_M_isSign_0 (i := 31) rfl
theorem dd_M_isSign_32 : dq mM_isSign.2.1 [(63, .if_icmp .ne 7, 3), (66, .iconst 1, 1), (67, .goto 4, 3), (70, .iconst 0, 1), (71, .ireturn, 1)] = true := by decide +kernel
theorem d_M_isSign_63 : decode mM_isSign.2.1 63 = .ok (.if_icmp .ne 7, 3) := dq_get dd_M_isSign_32 (i := 0) rfl
theorem d_M_isSign_66 : decode mM_isSign.2.1 66 = .ok (.iconst 1, 1) := dq_get dd_M_isSign_32 (i := 1) rfl
theorem d_M_isSign_67 : decode mM_isSign.2.1 67 = .ok (.goto 4, 3) := dq_get dd_M_isSign_32 (i := 2) rfl
theorem d_M_isSign_70 : decode mM_isSign.2.1 70 = .ok (.iconst 0, 1) := dq_get dd_M_isSign_32 (i := 3) rfl
theorem d_M_isSign_71 : decode mM_isSign.2.1 71 = .ok (.ireturn, 1) := dq_get dd_M_isSign_32 (i := 4) rfl
theorem dd_M_readLine_0 : dq mM_readLine.2.1 [(0, .aload_n 0, 1), (1, .ldc2_w 188, 3), (4, .invokevirtual 234, 3), (7, .ifCond .eq 27, 3), (10, .aload_n 0, 1), (11, .getfield 363, 3), (14, .ifCond .ne 20, 3), (17, .aload_n 0, 1), (18, .aload_n 0, 1), (19, .ldc2_w 188, 3), (22, .iconst 1, 1), (23, .bipush 12, 2), (25, .invokevirtual 359, 3), (28, .putfield 356, 3), (31, .goto 238, 3), (34, .aload_n 0, 1), (35, .ldc2_w 190, 3), (38, .invokevirtual 234, 3), (41, .ifCond .eq 18, 3), (44, .aload_n 0, 1), (45, .getfield 258, 3), (48, .iconst 4, 1), (49, .if_icmp .ge 10, 3), (52, .aload_n 0, 1), (53, .invokevirtual 366, 3), (56, .goto 213, 3), (59, .aload_n 0, 1), (60, .ldc2_w 196, 3), (63, .invokevirtual 234, 3), (66, .ifCond .eq 19, 3), (69, .aload_n 0, 1), (70, .getfield 350, 3)] = true := by decide +kernel
theorem d_M_readLine_0 : decode mM_readLine.2.1 0 = .ok (.aload_n 0, 1) := dq_get dd_M_readLine_0 (i := 0) rfl
theorem d_M_readLine_1 : decode mM_readLine.2.1 1 = .ok (.ldc2_w 188, 3) := dq_get dd_M_readLine_0 (i := 1) rfl
theorem d_M_readLine_4 : decode mM_readLine.2.1 4 = .ok (.invokevirtual 234, 3) := dq_get dd_M_readLine_0 (i := 2) rfl
theorem d_M_readLine_7 : decode mM_readLine.2.1 7 = .ok (.ifCond .eq 27, 3) := dq_get dd_M_readLine_0 (i := 3) rfl
theorem d_M_readLine_10 : decode mM_readLine.2.1 10 = .ok (.aload_n 0, 1) := dq_get dd_M_readLine_0 (i := 4) rfl
theorem d_M_readLine_11 : decode mM_readLine.2.1 11 = .ok (.getfield 363, 3) := dq_get dd_M_readLine_0 (i := 5) rfl
theorem d_M_readLine_14 : decode mM_readLine.2.1 14 = .ok (.ifCond .ne 20, 3) := dq_get dd_M_readLine_0 (i := 6) rfl
theorem d_M_readLine_17 : decode mM_readLine.2.1 17 = .ok (.aload_n 0, 1) := dq_get dd_M_readLine_0 (i := 7) rfl
theorem d_M_readLine_18 : decode mM_readLine.2.1 18 = .ok (.aload_n 0, 1) := dq_get dd_M_readLine_0 (i := 8) rfl
theorem d_M_readLine_19 : decode mM_readLine.2.1 19 = .ok (.ldc2_w 188, 3) := dq_get dd_M_readLine_0 (i := 9) rfl
theorem d_M_readLine_22 : decode mM_readLine.2.1 22 = .ok (.iconst 1, 1) := dq_get dd_M_readLine_0 (i := 10) rfl
theorem d_M_readLine_23 : decode mM_readLine.2.1 23 = .ok (.bipush 12, 2) := dq_get dd_M_readLine_0 (i := 11) rfl
theorem d_M_readLine_25 : decode mM_readLine.2.1 25 = .ok (.invokevirtual 359, 3) := dq_get dd_M_readLine_0 (i := 12) rfl
theorem d_M_readLine_28 : decode mM_readLine.2.1 28 = .ok (.putfield 356, 3) := dq_get dd_M_readLine_0 (i := 13) rfl
theorem d_M_readLine_31 : decode mM_readLine.2.1 31 = .ok (.goto 238, 3) := dq_get dd_M_readLine_0 (i := 14) rfl
theorem d_M_readLine_34 : decode mM_readLine.2.1 34 = .ok (.aload_n 0, 1) := dq_get dd_M_readLine_0 (i := 15) rfl
theorem d_M_readLine_35 : decode mM_readLine.2.1 35 = .ok (.ldc2_w 190, 3) := dq_get dd_M_readLine_0 (i := 16) rfl
theorem d_M_readLine_38 : decode mM_readLine.2.1 38 = .ok (.invokevirtual 234, 3) := dq_get dd_M_readLine_0 (i := 17) rfl
theorem d_M_readLine_41 : decode mM_readLine.2.1 41 = .ok (.ifCond .eq 18, 3) := dq_get dd_M_readLine_0 (i := 18) rfl
theorem d_M_readLine_44 : decode mM_readLine.2.1 44 = .ok (.aload_n 0, 1) := dq_get dd_M_readLine_0 (i := 19) rfl
theorem d_M_readLine_45 : decode mM_readLine.2.1 45 = .ok (.getfield 258, 3) := dq_get dd_M_readLine_0 (i := 20) rfl
theorem d_M_readLine_48 : decode mM_readLine.2.1 48 = .ok (.iconst 4, 1) := dq_get dd_M_readLine_0 (i := 21) rfl
theorem d_M_readLine_49 : decode mM_readLine.2.1 49 = .ok (.if_icmp .ge 10, 3) := dq_get dd_M_readLine_0 (i := 22) rfl
theorem d_M_readLine_52 : decode mM_readLine.2.1 52 = .ok (.aload_n 0, 1) := dq_get dd_M_readLine_0 (i := 23) rfl
theorem d_M_readLine_53 : decode mM_readLine.2.1 53 = .ok (.invokevirtual 366, 3) := dq_get dd_M_readLine_0 (i := 24) rfl
theorem d_M_readLine_56 : decode mM_readLine.2.1 56 = .ok (.goto 213, 3) := dq_get dd_M_readLine_0 (i := 25) rfl
theorem d_M_readLine_59 : decode mM_readLine.2.1 59 = .ok (.aload_n 0, 1) := dq_get dd_M_readLine_0 (i := 26) rfl
theorem d_M_readLine_60 : decode mM_readLine.2.1 60 = .ok (.ldc2_w 196, 3) := dq_get dd_M_readLine_0 (i := 27) rfl
theorem d_M_readLine_63 : decode mM_readLine.2.1 63 = .ok (.invokevirtual 234, 3) := dq_get dd_M_readLine_0 (i := 28) rfl
theorem d_M_readLine_66 : decode mM_readLine.2.1 66 = .ok (.ifCond .eq 19, 3) := dq_get dd_M_readLine_0 (i := 29) rfl
theorem d_M_readLine_69 : decode mM_readLine.2.1 69 = .ok (.aload_n 0, 1) := dq_get dd_M_readLine_0 (i := 30) rfl
theorem d_M_readLine_70 : decode mM_readLine.2.1 70 = .ok (.getfield 350, 3) := dq_get dd_M_readLine_0 (i := 31) rfl
theorem dd_M_readLine_32 : dq mM_readLine.2.1 [(73, .bipush 10, 2), (75, .if_icmp .ge 10, 3), (78, .aload_n 0, 1), (79, .invokevirtual 369, 3), (82, .goto 187, 3), (85, .aload_n 0, 1), (86, .ldc2_w 208, 3), (89, .invokevirtual 234, 3), (92, .ifCond .eq 17, 3), (95, .aload_n 0, 1), (96, .getfield 299, 3), (99, .ifCond .ne 10, 3), (102, .aload_n 0, 1), (103, .invokevirtual 372, 3), (106, .goto 163, 3), (109, .aload_n 0, 1), (110, .ldc2_w 210, 3), (113, .invokevirtual 234, 3), (116, .ifCond .eq 32, 3), (119, .aload_n 0, 1), (120, .getfield 375, 3), (123, .ifCond .ne 25, 3), (126, .aload_n 0, 1), (127, .iconst 1, 1), (128, .putfield 375, 3), (131, .aload_n 0, 1), (132, .aload_n 0, 1), (133, .ldc2_w 210, 3), (136, .iconst 0, 1), (137, .bipush 87, 2), (139, .invokevirtual 359, 3), (142, .putfield 378, 3)] = true := by decide +kernel
theorem d_M_readLine_73 : decode mM_readLine.2.1 73 = .ok (.bipush 10, 2) := dq_get dd_M_readLine_32 (i := 0) rfl
theorem d_M_readLine_75 : decode mM_readLine.2.1 75 = .ok (.if_icmp .ge 10, 3) := dq_get dd_M_readLine_32 (i := 1) rfl
theorem d_M_readLine_78 : decode mM_readLine.2.1 78 = .ok (.aload_n 0, 1) := dq_get dd_M_readLine_32 (i := 2) rfl
theorem d_M_readLine_79 : decode mM_readLine.2.1 79 = .ok (.invokevirtual 369, 3) := dq_get dd_M_readLine_32 (i := 3) rfl
theorem d_M_readLine_82 : decode mM_readLine.2.1 82 = .ok (.goto 187, 3) := dq_get dd_M_readLine_32 (i := 4) rfl
theorem d_M_readLine_85 : decode mM_readLine.2.1 85 = .ok (.aload_n 0, 1) := dq_get dd_M_readLine_32 (i := 5) rfl
theorem d_M_readLine_86 : decode mM_readLine.2.1 86 = .ok (.ldc2_w 208, 3) := dq_get dd_M_readLine_32 (i := 6) rfl
theorem d_M_readLine_89 : decode mM_readLine.2.1 89 = .ok (.invokevirtual 234, 3) := dq_get dd_M_readLine_32 (i := 7) rfl
theorem d_M_readLine_92 : decode mM_readLine.2.1 92 = .ok (.ifCond .eq 17, 3) := dq_get dd_M_readLine_32 (i := 8) rfl
theorem d_M_readLine_95 : decode mM_readLine.2.1 95 = .ok (.aload_n 0, 1) := dq_get dd_M_readLine_32 (i := 9) rfl
theorem d_M_readLine_96 : decode mM_readLine.2.1 96 = .ok (.getfield 299, 3) := dq_get dd_M_readLine_32 (i := 10) rfl
theorem d_M_readLine_99 : decode mM_readLine.2.1 99 = .ok (.ifCond .ne 10, 3) := dq_get dd_M_readLine_32 (i := 11) rfl
theorem d_M_readLine_102 : decode mM_readLine.2.1 102 = .ok (.aload_n 0, 1) := dq_get dd_M_readLine_32 (i := 12) rfl
theorem d_M_readLine_103 : decode mM_readLine.2.1 103 = .ok (.invokevirtual 372, 3) := dq_get dd_M_readLine_32 (i := 13) rfl
theorem d_M_readLine_106 : decode mM_readLine.2.1 106 = .ok (.goto 163, 3) := dq_get dd_M_readLine_32 (i := 14) rfl
theorem d_M_readLine_109 : decode mM_readLine.2.1 109 = .ok (.aload_n 0, 1) := dq_get dd_M_readLine_32 (i := 15) rfl
theorem d_M_readLine_110 : decode mM_readLine.2.1 110 = .ok (.ldc2_w 210, 3) := dq_get dd_M_readLine_32 (i := 16) rfl
theorem d_M_readLine_113 : decode mM_readLine.2.1 113 = .ok (.invokevirtual 234, 3) := dq_get dd_M_readLine_32 (i := 17) rfl
theorem d_M_readLine_116 : decode mM_readLine.2.1 116 = .ok (.ifCond .eq 32, 3) := dq_get dd_M_readLine_32 (i := 18) rfl
theorem d_M_readLine_119 : decode mM_readLine.2.1 119 = .ok (.aload_n 0, 1) := dq_get dd_M_readLine_32 (i := 19) rfl
theorem d_M_readLine_120 : decode mM_readLine.2.1 120 = .ok (.getfield 375, 3) := dq_get dd_M_readLine_32 (i := 20) rfl
theorem d_M_readLine_123 : decode mM_readLine.2.1 123 = .ok (.ifCond .ne 25, 3) := dq_get dd_M_readLine_32 (i := 21) rfl
theorem d_M_readLine_126 : decode mM_readLine.2.1 126 = .ok (.aload_n 0, 1) := dq_get dd_M_readLine_32 (i := 22) rfl
theorem d_M_readLine_127 : decode mM_readLine.2.1 127 = .ok (.iconst 1, 1) := dq_get dd_M_readLine_32 (i := 23) rfl
theorem d_M_readLine_128 : decode mM_readLine.2.1 128 = .ok (.putfield 375, 3) := dq_get dd_M_readLine_32 (i := 24) rfl
theorem d_M_readLine_131 : decode mM_readLine.2.1 131 = .ok (.aload_n 0, 1) := dq_get dd_M_readLine_32 (i := 25) rfl
theorem d_M_readLine_132 : decode mM_readLine.2.1 132 = .ok (.aload_n 0, 1) := dq_get dd_M_readLine_32 (i := 26) rfl
theorem d_M_readLine_133 : decode mM_readLine.2.1 133 = .ok (.ldc2_w 210, 3) := dq_get dd_M_readLine_32 (i := 27) rfl
theorem d_M_readLine_136 : decode mM_readLine.2.1 136 = .ok (.iconst 0, 1) := dq_get dd_M_readLine_32 (i := 28) rfl
theorem d_M_readLine_137 : decode mM_readLine.2.1 137 = .ok (.bipush 87, 2) := dq_get dd_M_readLine_32 (i := 29) rfl
theorem d_M_readLine_139 : decode mM_readLine.2.1 139 = .ok (.invokevirtual 359, 3) := dq_get dd_M_readLine_32 (i := 30) rfl
theorem d_M_readLine_142 : decode mM_readLine.2.1 142 = .ok (.putfield 378, 3) := dq_get dd_M_readLine_32 (i := 31) rfl
theorem dd_M_readLine_64 : dq mM_readLine.2.1 [(145, .goto 124, 3), (148, .aload_n 0, 1), (149, .ldc2_w 212, 3), (152, .invokevirtual 234, 3), (155, .ifCond .eq 31, 3), (158, .aload_n 0, 1), (159, .getfield 381, 3), (162, .ifCond .ne 24, 3), (165, .aload_n 0, 1), (166, .iconst 1, 1), (167, .putfield 381, 3), (170, .aload_n 0, 1), (171, .aload_n 0, 1), (172, .ldc2_w 212, 3), (175, .iconst 1, 1), (176, .iconst 5, 1), (177, .invokevirtual 359, 3), (180, .putfield 384, 3), (183, .goto 86, 3), (186, .aload_n 0, 1), (187, .ldc2_w 214, 3), (190, .invokevirtual 234, 3), (193, .ifCond .eq 32, 3), (196, .aload_n 0, 1), (197, .getfield 387, 3), (200, .ifCond .ne 25, 3), (203, .aload_n 0, 1), (204, .iconst 1, 1), (205, .putfield 387, 3), (208, .aload_n 0, 1), (209, .aload_n 0, 1), (210, .ldc2_w 214, 3)] = true := by decide +kernel
theorem d_M_readLine_145 : decode mM_readLine.2.1 145 = .ok (.goto 124, 3) := dq_get dd_M_readLine_64 (i := 0) rfl
theorem d_M_readLine_148 : decode mM_readLine.2.1 148 = .ok (.aload_n 0, 1) := dq_get dd_M_readLine_64 (i := 1) rfl
theorem d_M_readLine_149 : decode mM_readLine.2.1 149 = .ok (.ldc2_w 212, 3) := dq_get dd_M_readLine_64 (i := 2) rfl
theorem d_M_readLine_152 : decode mM_readLine.2.1 152 = .ok (.invokevirtual 234, 3) := dq_get dd_M_readLine_64 (i := 3) rfl
theorem d_M_readLine_155 : decode mM_readLine.2.1 155 = .ok (.ifCond .eq 31, 3) := dq_get dd_M_readLine_64 (i := 4) rfl
theorem d_M_readLine_158 : decode mM_readLine.2.1 158 = .ok (.aload_n 0, 1) := dq_get dd_M_readLine_64 (i := 5) rfl
theorem d_M_readLine_159 : decode mM_readLine.2.1 159 = .ok (.getfield 381, 3) := dq_get dd_M_readLine_64 (i := 6) rfl
theorem d_M_readLine_162 : decode mM_readLine.2.1 162 = .ok (.ifCond .ne 24, 3) := dq_get dd_M_readLine_64 (i := 7) rfl
theorem d_M_readLine_165 : decode mM_readLine.2.1 165 = .ok (.aload_n 0, 1) := dq_get dd_M_readLine_64 (i := 8) rfl
theorem d_M_readLine_166 : decode mM_readLine.2.1 166 = .ok (.iconst 1, 1) := dq_get dd_M_readLine_64 (i := 9) rfl
theorem d_M_readLine_167 : decode mM_readLine.2.1 167 = .ok (.putfield 381, 3) := dq_get dd_M_readLine_64 (i := 10) rfl
theorem d_M_readLine_170 : decode mM_readLine.2.1 170 = .ok (.aload_n 0, 1) := dq_get dd_M_readLine_64 (i := 11) rfl
theorem d_M_readLine_171 : decode mM_readLine.2.1 171 = .ok (.aload_n 0, 1) := dq_get dd_M_readLine_64 (i := 12) rfl
theorem d_M_readLine_172 : decode mM_readLine.2.1 172 = .ok (.ldc2_w 212, 3) := dq_get dd_M_readLine_64 (i := 13) rfl
theorem d_M_readLine_175 : decode mM_readLine.2.1 175 = .ok (.iconst 1, 1) := dq_get dd_M_readLine_64 (i := 14) rfl
theorem d_M_readLine_176 : decode mM_readLine.2.1 176 = .ok (.iconst 5, 1) := dq_get dd_M_readLine_64 (i := 15) rfl
theorem d_M_readLine_177 : decode mM_readLine.2.1 177 = .ok (.invokevirtual 359, 3) := dq_get dd_M_readLine_64 (i := 16) rfl
theorem d_M_readLine_180 : decode mM_readLine.2.1 180 = .ok (.putfield 384, 3) := dq_get dd_M_readLine_64 (i := 17) rfl
theorem d_M_readLine_183 : decode mM_readLine.2.1 183 = .ok (.goto 86, 3) := dq_get dd_M_readLine_64 (i := 18) rfl
theorem d_M_readLine_186 : decode mM_readLine.2.1 186 = .ok (.aload_n 0, 1) := dq_get dd_M_readLine_64 (i := 19) rfl
theorem d_M_readLine_187 : decode mM_readLine.2.1 187 = .ok (.ldc2_w 214, 3) := dq_get dd_M_readLine_64 (i := 20) rfl
theorem d_M_readLine_190 : decode mM_readLine.2.1 190 = .ok (.invokevirtual 234, 3) := dq_get dd_M_readLine_64 (i := 21) rfl
theorem d_M_readLine_193 : decode mM_readLine.2.1 193 = .ok (.ifCond .eq 32, 3) := dq_get dd_M_readLine_64 (i := 22) rfl
theorem d_M_readLine_196 : decode mM_readLine.2.1 196 = .ok (.aload_n 0, 1) := dq_get dd_M_readLine_64 (i := 23) rfl
theorem d_M_readLine_197 : decode mM_readLine.2.1 197 = .ok (.getfield 387, 3) := dq_get dd_M_readLine_64 (i := 24) rfl
theorem d_M_readLine_200 : decode mM_readLine.2.1 200 = .ok (.ifCond .ne 25, 3) := dq_get dd_M_readLine_64 (i := 25) rfl
theorem d_M_readLine_203 : decode mM_readLine.2.1 203 = .ok (.aload_n 0, 1) := dq_get dd_M_readLine_64 (i := 26) rfl
theorem d_M_readLine_204 : decode mM_readLine.2.1 204 = .ok (.iconst 1, 1) := dq_get dd_M_readLine_64 (i := 27) rfl
theorem d_M_readLine_205 : decode mM_readLine.2.1 205 = .ok (.putfield 387, 3) := dq_get dd_M_readLine_64 (i := 28) rfl
theorem d_M_readLine_208 : decode mM_readLine.2.1 208 = .ok (.aload_n 0, 1) := dq_get dd_M_readLine_64 (i := 29) rfl
theorem d_M_readLine_209 : decode mM_readLine.2.1 209 = .ok (.aload_n 0, 1) := dq_get dd_M_readLine_64 (i := 30) rfl
theorem d_M_readLine_210 : decode mM_readLine.2.1 210 = .ok (.ldc2_w 214, 3) := dq_get dd_M_readLine_64 (i := 31) rfl
theorem dd_M_readLine_96 : dq mM_readLine.2.1 [(213, .iconst 0, 1), (214, .bipush 87, 2), (216, .invokevirtual 359, 3), (219, .putfield 390, 3), (222, .goto 47, 3), (225, .aload_n 0, 1), (226, .ldc2_w 216, 3), (229, .invokevirtual 234, 3), (232, .ifCond .eq 32, 3), (235, .aload_n 0, 1), (236, .getfield 393, 3), (239, .ifCond .ne 25, 3), (242, .aload_n 0, 1), (243, .iconst 1, 1), (244, .putfield 393, 3), (247, .aload_n 0, 1), (248, .aload_n 0, 1), (249, .ldc2_w 216, 3), (252, .iconst 0, 1), (253, .bipush 9, 2), (255, .invokevirtual 359, 3), (258, .putfield 396, 3), (261, .goto 8, 3), (264, .aload_n 0, 1), (265, .iconst 2, 1), (266, .invokevirtual 238, 3), (269, .aload_n 0, 1), (270, .iconst 1, 1), (271, .putfield 363, 3), (274, .aload_n 0, 1), (275, .getfield 185, 3), (278, .ifCond .ne 17, 3)] = true := by decide +kernel
theorem d_M_readLine_213 : decode mM_readLine.2.1 213 = .ok (.iconst 0, 1) := dq_get dd_M_readLine_96 (i := 0) rfl
theorem d_M_readLine_214 : decode mM_readLine.2.1 214 = .ok (.bipush 87, 2) := dq_get dd_M_readLine_96 (i := 1) rfl
theorem d_M_readLine_216 : decode mM_readLine.2.1 216 = .ok (.invokevirtual 359, 3) := dq_get dd_M_readLine_96 (i := 2) rfl
theorem d_M_readLine_219 : decode mM_readLine.2.1 219 = .ok (.putfield 390, 3) := dq_get dd_M_readLine_96 (i := 3) rfl
theorem d_M_readLine_222 : decode mM_readLine.2.1 222 = .ok (.goto 47, 3) := dq_get dd_M_readLine_96 (i := 4) rfl
theorem d_M_readLine_225 : decode mM_readLine.2.1 225 = .ok (.aload_n 0, 1) := dq_get dd_M_readLine_96 (i := 5) rfl
theorem d_M_readLine_226 : decode mM_readLine.2.1 226 = .ok (.ldc2_w 216, 3) := dq_get dd_M_readLine_96 (i := 6) rfl
theorem d_M_readLine_229 : decode mM_readLine.2.1 229 = .ok (.invokevirtual 234, 3) := dq_get dd_M_readLine_96 (i := 7) rfl
theorem d_M_readLine_232 : decode mM_readLine.2.1 232 = .ok (.ifCond .eq 32, 3) := dq_get dd_M_readLine_96 (i := 8) rfl
theorem d_M_readLine_235 : decode mM_readLine.2.1 235 = .ok (.aload_n 0, 1) := dq_get dd_M_readLine_96 (i := 9) rfl
theorem d_M_readLine_236 : decode mM_readLine.2.1 236 = .ok (.getfield 393, 3) := dq_get dd_M_readLine_96 (i := 10) rfl
theorem d_M_readLine_239 : decode mM_readLine.2.1 239 = .ok (.ifCond .ne 25, 3) := dq_get dd_M_readLine_96 (i := 11) rfl
theorem d_M_readLine_242 : decode mM_readLine.2.1 242 = .ok (.aload_n 0, 1) := dq_get dd_M_readLine_96 (i := 12) rfl
theorem d_M_readLine_243 : decode mM_readLine.2.1 243 = .ok (.iconst 1, 1) := dq_get dd_M_readLine_96 (i := 13) rfl
theorem d_M_readLine_244 : decode mM_readLine.2.1 244 = .ok (.putfield 393, 3) := dq_get dd_M_readLine_96 (i := 14) rfl
theorem d_M_readLine_247 : decode mM_readLine.2.1 247 = .ok (.aload_n 0, 1) := dq_get dd_M_readLine_96 (i := 15) rfl
theorem d_M_readLine_248 : decode mM_readLine.2.1 248 = .ok (.aload_n 0, 1) := dq_get dd_M_readLine_96 (i := 16) rfl
theorem d_M_readLine_249 : decode mM_readLine.2.1 249 = .ok (.ldc2_w 216, 3) := dq_get dd_M_readLine_96 (i := 17) rfl
theorem d_M_readLine_252 : decode mM_readLine.2.1 252 = .ok (.iconst 0, 1) := dq_get dd_M_readLine_96 (i := 18) rfl
theorem d_M_readLine_253 : decode mM_readLine.2.1 253 = .ok (.bipush 9, 2) := dq_get dd_M_readLine_96 (i := 19) rfl
theorem d_M_readLine_255 : decode mM_readLine.2.1 255 = .ok (.invokevirtual 359, 3) := dq_get dd_M_readLine_96 (i := 20) rfl
theorem d_M_readLine_258 : decode mM_readLine.2.1 258 = .ok (.putfield 396, 3) := dq_get dd_M_readLine_96 (i := 21) rfl
theorem d_M_readLine_261 : decode mM_readLine.2.1 261 = .ok (.goto 8, 3) := dq_get dd_M_readLine_96 (i := 22) rfl
theorem d_M_readLine_264 : decode mM_readLine.2.1 264 = .ok (.aload_n 0, 1) := dq_get dd_M_readLine_96 (i := 23) rfl
theorem d_M_readLine_265 : decode mM_readLine.2.1 265 = .ok (.iconst 2, 1) := dq_get dd_M_readLine_96 (i := 24) rfl
theorem d_M_readLine_266 : decode mM_readLine.2.1 266 = .ok (.invokevirtual 238, 3) := dq_get dd_M_readLine_96 (i := 25) rfl
theorem d_M_readLine_269 : decode mM_readLine.2.1 269 = .ok (.aload_n 0, 1) := dq_get dd_M_readLine_96 (i := 26) rfl
theorem d_M_readLine_270 : decode mM_readLine.2.1 270 = .ok (.iconst 1, 1) := dq_get dd_M_readLine_96 (i := 27) rfl
theorem d_M_readLine_271 : decode mM_readLine.2.1 271 = .ok (.putfield 363, 3) := dq_get dd_M_readLine_96 (i := 28) rfl
theorem d_M_readLine_274 : decode mM_readLine.2.1 274 = .ok (.aload_n 0, 1) := dq_get dd_M_readLine_96 (i := 29) rfl
theorem d_M_readLine_275 : decode mM_readLine.2.1 275 = .ok (.getfield 185, 3) := dq_get dd_M_readLine_96 (i := 30) rfl
theorem d_M_readLine_278 : decode mM_readLine.2.1 278 = .ok (.ifCond .ne 17, 3) := dq_get dd_M_readLine_96 (i := 31) rfl
theorem dd_M_readLine_128 : dq mM_readLine.2.1 [(281, .aload_n 0, 1), (282, .getfield 172, 3), (285, .bipush 59, 2), (287, .if_icmp .eq 8, 3), (290, .aload_n 0, 1), (291, .iconst 2, 1), (292, .invokevirtual 238, 3), (295, .aload_n 0, 1), (296, .getfield 185, 3), (299, .ifCond .ne 7, 3), (302, .aload_n 0, 1), (303, .invokevirtual 241, 3), (306, .return_, 1)] = true := by decide +kernel
theorem d_M_readLine_281 : decode mM_readLine.2.1 281 = .ok (.aload_n 0, 1) := dq_get dd_M_readLine_128 (i := 0) rfl
theorem d_M_readLine_282 : decode mM_readLine.2.1 282 = .ok (.getfield 172, 3) := dq_get dd_M_readLine_128 (i := 1) rfl
theorem d_M_readLine_285 : decode mM_readLine.2.1 285 = .ok (.bipush 59, 2) := dq_get dd_M_readLine_128 (i := 2) rfl
theorem d_M_readLine_287 : decode mM_readLine.2.1 287 = .ok (.if_icmp .eq 8, 3) := dq_get dd_M_readLine_128 (i := 3) rfl
theorem d_M_readLine_290 : decode mM_readLine.2.1 290 = .ok (.aload_n 0, 1) := dq_get dd_M_readLine_128 (i := 4) rfl
theorem d_M_readLine_291 : decode mM_readLine.2.1 291 = .ok (.iconst 2, 1) := dq_get dd_M_readLine_128 (i := 5) rfl
theorem d_M_readLine_292 : decode mM_readLine.2.1 292 = .ok (.invokevirtual 238, 3) := dq_get dd_M_readLine_128 (i := 6) rfl
theorem d_M_readLine_295 : decode mM_readLine.2.1 295 = .ok (.aload_n 0, 1) := dq_get dd_M_readLine_128 (i := 7) rfl
theorem d_M_readLine_296 : decode mM_readLine.2.1 296 = .ok (.getfield 185, 3) := dq_get dd_M_readLine_128 (i := 8) rfl
theorem d_M_readLine_299 : decode mM_readLine.2.1 299 = .ok (.ifCond .ne 7, 3) := dq_get dd_M_readLine_128 (i := 9) rfl
theorem d_M_readLine_302 : decode mM_readLine.2.1 302 = .ok (.aload_n 0, 1) := dq_get dd_M_readLine_128 (i := 10) rfl
theorem d_M_readLine_303 : decode mM_readLine.2.1 303 = .ok (.invokevirtual 241, 3) := dq_get dd_M_readLine_128 (i := 11) rfl
theorem d_M_readLine_306 : decode mM_readLine.2.1 306 = .ok (.return_, 1) := dq_get dd_M_readLine_128 (i := 12) rfl
theorem dd_M_isWord_0 : dq mM_isWord.2.1 [(0, .aload_n 0, 1), (1, .getfield 172, 3), (4, .iconst 1, 1), (5, .if_icmp .ne 16, 3), (8, .aload_n 0, 1), (9, .getfield 165, 3), (12, .lload_n 1, 1), (13, .lcmp, 1), (14, .ifCond .ne 7, 3), (17, .iconst 1, 1), (18, .goto 4, 3), (21, .iconst 0, 1), (22, .ireturn, 1)] = true := by decide +kernel
theorem d_M_isWord_0 : decode mM_isWord.2.1 0 = .ok (.aload_n 0, 1) := dq_get dd_M_isWord_0 (i := 0) rfl
theorem d_M_isWord_1 : decode mM_isWord.2.1 1 = .ok (.getfield 172, 3) := dq_get dd_M_isWord_0 (i := 1) rfl
theorem d_M_isWord_4 : decode mM_isWord.2.1 4 = .ok (.iconst 1, 1) := dq_get dd_M_isWord_0 (i := 2) rfl
theorem d_M_isWord_5 : decode mM_isWord.2.1 5 = .ok (.if_icmp .ne 16, 3) := dq_get dd_M_isWord_0 (i := 3) rfl
theorem d_M_isWord_8 : decode mM_isWord.2.1 8 = .ok (.aload_n 0, 1) := dq_get dd_M_isWord_0 (i := 4) rfl
theorem d_M_isWord_9 : decode mM_isWord.2.1 9 = .ok (.getfield 165, 3) := dq_get dd_M_isWord_0 (i := 5) rfl
theorem d_M_isWord_12 : decode mM_isWord.2.1 12 = .ok (.lload_n 1, 1) := dq_get dd_M_isWord_0 (i := 6) rfl
theorem d_M_isWord_13 : decode mM_isWord.2.1 13 = .ok (.lcmp, 1) := dq_get dd_M_isWord_0 (i := 7) rfl
theorem d_M_isWord_14 : decode mM_isWord.2.1 14 = .ok (.ifCond .ne 7, 3) := dq_get dd_M_isWord_0 (i := 8) rfl
theorem d_M_isWord_17 : decode mM_isWord.2.1 17 = .ok (.iconst 1, 1) := dq_get dd_M_isWord_0 (i := 9) rfl
theorem d_M_isWord_18 : decode mM_isWord.2.1 18 = .ok (.goto 4, 3) := dq_get dd_M_isWord_0 (i := 10) rfl
theorem d_M_isWord_21 : decode mM_isWord.2.1 21 = .ok (.iconst 0, 1) := dq_get dd_M_isWord_0 (i := 11) rfl
theorem d_M_isWord_22 : decode mM_isWord.2.1 22 = .ok (.ireturn, 1) := dq_get dd_M_isWord_0 (i := 12) rfl
theorem dd_M_told_0 : dq mM_told.2.1 [(0, .aload_n 0, 1), (1, .lload_n 1, 1), (2, .invokevirtual 244, 3), (5, .aload_n 0, 1), (6, .iload_n 3, 1), (7, .iload 4, 2), (9, .invokevirtual 248, 3), (12, .ireturn, 1)] = true := by decide +kernel
theorem d_M_told_0 : decode mM_told.2.1 0 = .ok (.aload_n 0, 1) := dq_get dd_M_told_0 (i := 0) rfl
theorem d_M_told_1 : decode mM_told.2.1 1 = .ok (.lload_n 1, 1) := dq_get dd_M_told_0 (i := 1) rfl
theorem d_M_told_2 : decode mM_told.2.1 2 = .ok (.invokevirtual 244, 3) := dq_get dd_M_told_0 (i := 2) rfl
theorem d_M_told_5 : decode mM_told.2.1 5 = .ok (.aload_n 0, 1) := dq_get dd_M_told_0 (i := 3) rfl
theorem d_M_told_6 : decode mM_told.2.1 6 = .ok (.iload_n 3, 1) := dq_get dd_M_told_0 (i := 4) rfl
theorem d_M_told_7 : decode mM_told.2.1 7 = .ok (.iload 4, 2) := dq_get dd_M_told_0 (i := 5) rfl
theorem d_M_told_9 : decode mM_told.2.1 9 = .ok (.invokevirtual 248, 3) := dq_get dd_M_told_0 (i := 6) rfl
theorem d_M_told_12 : decode mM_told.2.1 12 = .ok (.ireturn, 1) := dq_get dd_M_told_0 (i := 7) rfl
theorem dd_M_want_0 : dq mM_want.2.1 [(0, .aload_n 0, 1), (1, .getfield 185, 3), (4, .ifCond .le 4, 3), (7, .return_, 1), (8, .aload_n 0, 1), (9, .lload_n 1, 1), (10, .invokevirtual 234, 3), (13, .ifCond .ne 11, 3), (16, .aload_n 0, 1), (17, .iconst 2, 1), (18, .invokevirtual 238, 3), (21, .goto 7, 3), (24, .aload_n 0, 1), (25, .invokevirtual 241, 3), (28, .return_, 1)] = true := by decide +kernel
theorem d_M_want_0 : decode mM_want.2.1 0 = .ok (.aload_n 0, 1) := dq_get dd_M_want_0 (i := 0) rfl
theorem d_M_want_1 : decode mM_want.2.1 1 = .ok (.getfield 185, 3) := dq_get dd_M_want_0 (i := 1) rfl
theorem d_M_want_4 : decode mM_want.2.1 4 = .ok (.ifCond .le 4, 3) := dq_get dd_M_want_0 (i := 2) rfl
theorem d_M_want_7 : decode mM_want.2.1 7 = .ok (.return_, 1) := dq_get dd_M_want_0 (i := 3) rfl
theorem d_M_want_8 : decode mM_want.2.1 8 = .ok (.aload_n 0, 1) := dq_get dd_M_want_0 (i := 4) rfl
theorem d_M_want_9 : decode mM_want.2.1 9 = .ok (.lload_n 1, 1) := dq_get dd_M_want_0 (i := 5) rfl
theorem d_M_want_10 : decode mM_want.2.1 10 = .ok (.invokevirtual 234, 3) := dq_get dd_M_want_0 (i := 6) rfl
theorem d_M_want_13 : decode mM_want.2.1 13 = .ok (.ifCond .ne 11, 3) := dq_get dd_M_want_0 (i := 7) rfl
theorem d_M_want_16 : decode mM_want.2.1 16 = .ok (.aload_n 0, 1) := dq_get dd_M_want_0 (i := 8) rfl
theorem d_M_want_17 : decode mM_want.2.1 17 = .ok (.iconst 2, 1) := dq_get dd_M_want_0 (i := 9) rfl
theorem d_M_want_18 : decode mM_want.2.1 18 = .ok (.invokevirtual 238, 3) := dq_get dd_M_want_0 (i := 10) rfl
theorem d_M_want_21 : decode mM_want.2.1 21 = .ok (.goto 7, 3) := dq_get dd_M_want_0 (i := 11) rfl
theorem d_M_want_24 : decode mM_want.2.1 24 = .ok (.aload_n 0, 1) := dq_get dd_M_want_0 (i := 12) rfl
theorem d_M_want_25 : decode mM_want.2.1 25 = .ok (.invokevirtual 241, 3) := dq_get dd_M_want_0 (i := 13) rfl
theorem d_M_want_28 : decode mM_want.2.1 28 = .ok (.return_, 1) := dq_get dd_M_want_0 (i := 14) rfl
theorem dd_M_wrong_0 : dq mM_wrong.2.1 [(0, .aload_n 0, 1), (1, .getfield 185, 3), (4, .ifCond .le 4, 3), (7, .return_, 1), (8, .aload_n 0, 1), (9, .aload_n 0, 1), (10, .getfield 172, 3), (13, .iconst 3, 1), (14, .if_icmp .ne 7, 3), (17, .iconst 1, 1), (18, .goto 4, 3), (21, .iload_n 1, 1), (22, .putfield 185, 3), (25, .aload_n 0, 1), (26, .aload_n 0, 1), (27, .getfield 162, 3), (30, .putfield 13, 3), (33, .return_, 1)] = true := by decide +kernel
theorem d_M_wrong_0 : decode mM_wrong.2.1 0 = .ok (.aload_n 0, 1) := dq_get dd_M_wrong_0 (i := 0) rfl
theorem d_M_wrong_1 : decode mM_wrong.2.1 1 = .ok (.getfield 185, 3) := dq_get dd_M_wrong_0 (i := 1) rfl
theorem d_M_wrong_4 : decode mM_wrong.2.1 4 = .ok (.ifCond .le 4, 3) := dq_get dd_M_wrong_0 (i := 2) rfl
theorem d_M_wrong_7 : decode mM_wrong.2.1 7 = .ok (.return_, 1) := dq_get dd_M_wrong_0 (i := 3) rfl
theorem d_M_wrong_8 : decode mM_wrong.2.1 8 = .ok (.aload_n 0, 1) := dq_get dd_M_wrong_0 (i := 4) rfl
theorem d_M_wrong_9 : decode mM_wrong.2.1 9 = .ok (.aload_n 0, 1) := dq_get dd_M_wrong_0 (i := 5) rfl
theorem d_M_wrong_10 : decode mM_wrong.2.1 10 = .ok (.getfield 172, 3) := dq_get dd_M_wrong_0 (i := 6) rfl
theorem d_M_wrong_13 : decode mM_wrong.2.1 13 = .ok (.iconst 3, 1) := dq_get dd_M_wrong_0 (i := 7) rfl
theorem d_M_wrong_14 : decode mM_wrong.2.1 14 = .ok (.if_icmp .ne 7, 3) := dq_get dd_M_wrong_0 (i := 8) rfl
theorem d_M_wrong_17 : decode mM_wrong.2.1 17 = .ok (.iconst 1, 1) := dq_get dd_M_wrong_0 (i := 9) rfl
theorem d_M_wrong_18 : decode mM_wrong.2.1 18 = .ok (.goto 4, 3) := dq_get dd_M_wrong_0 (i := 10) rfl
theorem d_M_wrong_21 : decode mM_wrong.2.1 21 = .ok (.iload_n 1, 1) := dq_get dd_M_wrong_0 (i := 11) rfl
theorem d_M_wrong_22 : decode mM_wrong.2.1 22 = .ok (.putfield 185, 3) := dq_get dd_M_wrong_0 (i := 12) rfl
theorem d_M_wrong_25 : decode mM_wrong.2.1 25 = .ok (.aload_n 0, 1) := dq_get dd_M_wrong_0 (i := 13) rfl
theorem d_M_wrong_26 : decode mM_wrong.2.1 26 = .ok (.aload_n 0, 1) := dq_get dd_M_wrong_0 (i := 14) rfl
theorem d_M_wrong_27 : decode mM_wrong.2.1 27 = .ok (.getfield 162, 3) := dq_get dd_M_wrong_0 (i := 15) rfl
theorem d_M_wrong_30 : decode mM_wrong.2.1 30 = .ok (.putfield 13, 3) := dq_get dd_M_wrong_0 (i := 16) rfl
theorem d_M_wrong_33 : decode mM_wrong.2.1 33 = .ok (.return_, 1) := dq_get dd_M_wrong_0 (i := 17) rfl
theorem dd_M_toldNumber_0 : dq mM_toldNumber.2.1 [(0, .aload_n 0, 1), (1, .getfield 185, 3), (4, .ifCond .le 5, 3), (7, .iconst 0, 1), (8, .ireturn, 1), (9, .aload_n 0, 1), (10, .getfield 172, 3), (13, .iconst 2, 1), (14, .if_icmp .eq 11, 3), (17, .aload_n 0, 1), (18, .iconst 2, 1), (19, .invokevirtual 238, 3), (22, .goto 24, 3), (25, .aload_n 0, 1), (26, .getfield 169, 3), (29, .iload_n 1, 1), (30, .if_icmp .lt 11, 3), (33, .aload_n 0, 1), (34, .getfield 169, 3), (37, .iload_n 2, 1), (38, .if_icmp .le 8, 3), (41, .aload_n 0, 1), (42, .iconst 4, 1), (43, .invokevirtual 238, 3), (46, .aload_n 0, 1), (47, .getfield 169, 3), (50, .istore_n 3, 1), (51, .aload_n 0, 1), (52, .getfield 185, 3), (55, .ifCond .ne 7, 3), (58, .aload_n 0, 1), (59, .invokevirtual 241, 3)] = true := by decide +kernel
theorem d_M_toldNumber_0 : decode mM_toldNumber.2.1 0 = .ok (.aload_n 0, 1) := dq_get dd_M_toldNumber_0 (i := 0) rfl
theorem d_M_toldNumber_1 : decode mM_toldNumber.2.1 1 = .ok (.getfield 185, 3) := dq_get dd_M_toldNumber_0 (i := 1) rfl
theorem d_M_toldNumber_4 : decode mM_toldNumber.2.1 4 = .ok (.ifCond .le 5, 3) := dq_get dd_M_toldNumber_0 (i := 2) rfl
theorem d_M_toldNumber_7 : decode mM_toldNumber.2.1 7 = .ok (.iconst 0, 1) := dq_get dd_M_toldNumber_0 (i := 3) rfl
theorem d_M_toldNumber_8 : decode mM_toldNumber.2.1 8 = .ok (.ireturn, 1) := dq_get dd_M_toldNumber_0 (i := 4) rfl
theorem d_M_toldNumber_9 : decode mM_toldNumber.2.1 9 = .ok (.aload_n 0, 1) := dq_get dd_M_toldNumber_0 (i := 5) rfl
theorem d_M_toldNumber_10 : decode mM_toldNumber.2.1 10 = .ok (.getfield 172, 3) := dq_get dd_M_toldNumber_0 (i := 6) rfl
theorem d_M_toldNumber_13 : decode mM_toldNumber.2.1 13 = .ok (.iconst 2, 1) := dq_get dd_M_toldNumber_0 (i := 7) rfl
theorem d_M_toldNumber_14 : decode mM_toldNumber.2.1 14 = .ok (.if_icmp .eq 11, 3) := dq_get dd_M_toldNumber_0 (i := 8) rfl
theorem d_M_toldNumber_17 : decode mM_toldNumber.2.1 17 = .ok (.aload_n 0, 1) := dq_get dd_M_toldNumber_0 (i := 9) rfl
theorem d_M_toldNumber_18 : decode mM_toldNumber.2.1 18 = .ok (.iconst 2, 1) := dq_get dd_M_toldNumber_0 (i := 10) rfl
theorem d_M_toldNumber_19 : decode mM_toldNumber.2.1 19 = .ok (.invokevirtual 238, 3) := dq_get dd_M_toldNumber_0 (i := 11) rfl
theorem d_M_toldNumber_22 : decode mM_toldNumber.2.1 22 = .ok (.goto 24, 3) := dq_get dd_M_toldNumber_0 (i := 12) rfl
theorem d_M_toldNumber_25 : decode mM_toldNumber.2.1 25 = .ok (.aload_n 0, 1) := dq_get dd_M_toldNumber_0 (i := 13) rfl
theorem d_M_toldNumber_26 : decode mM_toldNumber.2.1 26 = .ok (.getfield 169, 3) := dq_get dd_M_toldNumber_0 (i := 14) rfl
theorem d_M_toldNumber_29 : decode mM_toldNumber.2.1 29 = .ok (.iload_n 1, 1) := dq_get dd_M_toldNumber_0 (i := 15) rfl
theorem d_M_toldNumber_30 : decode mM_toldNumber.2.1 30 = .ok (.if_icmp .lt 11, 3) := dq_get dd_M_toldNumber_0 (i := 16) rfl
theorem d_M_toldNumber_33 : decode mM_toldNumber.2.1 33 = .ok (.aload_n 0, 1) := dq_get dd_M_toldNumber_0 (i := 17) rfl
theorem d_M_toldNumber_34 : decode mM_toldNumber.2.1 34 = .ok (.getfield 169, 3) := dq_get dd_M_toldNumber_0 (i := 18) rfl
theorem d_M_toldNumber_37 : decode mM_toldNumber.2.1 37 = .ok (.iload_n 2, 1) := dq_get dd_M_toldNumber_0 (i := 19) rfl
theorem d_M_toldNumber_38 : decode mM_toldNumber.2.1 38 = .ok (.if_icmp .le 8, 3) := dq_get dd_M_toldNumber_0 (i := 20) rfl
theorem d_M_toldNumber_41 : decode mM_toldNumber.2.1 41 = .ok (.aload_n 0, 1) := dq_get dd_M_toldNumber_0 (i := 21) rfl
theorem d_M_toldNumber_42 : decode mM_toldNumber.2.1 42 = .ok (.iconst 4, 1) := dq_get dd_M_toldNumber_0 (i := 22) rfl
theorem d_M_toldNumber_43 : decode mM_toldNumber.2.1 43 = .ok (.invokevirtual 238, 3) := dq_get dd_M_toldNumber_0 (i := 23) rfl
theorem d_M_toldNumber_46 : decode mM_toldNumber.2.1 46 = .ok (.aload_n 0, 1) := dq_get dd_M_toldNumber_0 (i := 24) rfl
theorem d_M_toldNumber_47 : decode mM_toldNumber.2.1 47 = .ok (.getfield 169, 3) := dq_get dd_M_toldNumber_0 (i := 25) rfl
theorem d_M_toldNumber_50 : decode mM_toldNumber.2.1 50 = .ok (.istore_n 3, 1) := dq_get dd_M_toldNumber_0 (i := 26) rfl
theorem d_M_toldNumber_51 : decode mM_toldNumber.2.1 51 = .ok (.aload_n 0, 1) := dq_get dd_M_toldNumber_0 (i := 27) rfl
theorem d_M_toldNumber_52 : decode mM_toldNumber.2.1 52 = .ok (.getfield 185, 3) := dq_get dd_M_toldNumber_0 (i := 28) rfl
theorem d_M_toldNumber_55 : decode mM_toldNumber.2.1 55 = .ok (.ifCond .ne 7, 3) := dq_get dd_M_toldNumber_0 (i := 29) rfl
theorem d_M_toldNumber_58 : decode mM_toldNumber.2.1 58 = .ok (.aload_n 0, 1) := dq_get dd_M_toldNumber_0 (i := 30) rfl
theorem d_M_toldNumber_59 : decode mM_toldNumber.2.1 59 = .ok (.invokevirtual 241, 3) := dq_get dd_M_toldNumber_0 (i := 31) rfl
theorem dd_M_toldNumber_32 : dq mM_toldNumber.2.1 [(62, .iload_n 3, 1), (63, .ireturn, 1)] = true := by decide +kernel
theorem d_M_toldNumber_62 : decode mM_toldNumber.2.1 62 = .ok (.iload_n 3, 1) := dq_get dd_M_toldNumber_32 (i := 0) rfl
theorem d_M_toldNumber_63 : decode mM_toldNumber.2.1 63 = .ok (.ireturn, 1) := dq_get dd_M_toldNumber_32 (i := 1) rfl
theorem dd_M_readPart_0 : dq mM_readPart.2.1 [(0, .aload_n 0, 1), (1, .iconst 0, 1), (2, .aload_n 0, 1), (3, .getfield 258, 3), (6, .invokevirtual 347, 3), (9, .aload_n 0, 1), (10, .getfield 42, 3), (13, .aload_n 0, 1), (14, .getfield 258, 3), (17, .aload_n 0, 1), (18, .getfield 185, 3), (21, .ifCond .le 7, 3), (24, .iconst 0, 1), (25, .goto 27, 3), (28, .aload_n 0, 1), (29, .ldc2_w 192, 3), (32, .invokevirtual 234, 3), (35, .ifCond .eq 7, 3), (38, .iconst 2, 1), (39, .goto 13, 3), (42, .aload_n 0, 1), (43, .ldc2_w 194, 3), (46, .invokevirtual 234, 3), (49, .invokestatic 318, 3), (52, .iastore, 1), (53, .aload_n 0, 1), (54, .getfield 185, 3), (57, .ifCond .ne 19, 3), (60, .aload_n 0, 1), (61, .getfield 42, 3), (64, .aload_n 0, 1), (65, .getfield 258, 3)] = true := by decide +kernel
theorem d_M_readPart_0 : decode mM_readPart.2.1 0 = .ok (.aload_n 0, 1) := dq_get dd_M_readPart_0 (i := 0) rfl
theorem d_M_readPart_1 : decode mM_readPart.2.1 1 = .ok (.iconst 0, 1) := dq_get dd_M_readPart_0 (i := 1) rfl
theorem d_M_readPart_2 : decode mM_readPart.2.1 2 = .ok (.aload_n 0, 1) := dq_get dd_M_readPart_0 (i := 2) rfl
theorem d_M_readPart_3 : decode mM_readPart.2.1 3 = .ok (.getfield 258, 3) := dq_get dd_M_readPart_0 (i := 3) rfl
theorem d_M_readPart_6 : decode mM_readPart.2.1 6 = .ok (.invokevirtual 347, 3) := dq_get dd_M_readPart_0 (i := 4) rfl
theorem d_M_readPart_9 : decode mM_readPart.2.1 9 = .ok (.aload_n 0, 1) := dq_get dd_M_readPart_0 (i := 5) rfl
theorem d_M_readPart_10 : decode mM_readPart.2.1 10 = .ok (.getfield 42, 3) := dq_get dd_M_readPart_0 (i := 6) rfl
theorem d_M_readPart_13 : decode mM_readPart.2.1 13 = .ok (.aload_n 0, 1) := dq_get dd_M_readPart_0 (i := 7) rfl
theorem d_M_readPart_14 : decode mM_readPart.2.1 14 = .ok (.getfield 258, 3) := dq_get dd_M_readPart_0 (i := 8) rfl
theorem d_M_readPart_17 : decode mM_readPart.2.1 17 = .ok (.aload_n 0, 1) := dq_get dd_M_readPart_0 (i := 9) rfl
theorem d_M_readPart_18 : decode mM_readPart.2.1 18 = .ok (.getfield 185, 3) := dq_get dd_M_readPart_0 (i := 10) rfl
theorem d_M_readPart_21 : decode mM_readPart.2.1 21 = .ok (.ifCond .le 7, 3) := dq_get dd_M_readPart_0 (i := 11) rfl
theorem d_M_readPart_24 : decode mM_readPart.2.1 24 = .ok (.iconst 0, 1) := dq_get dd_M_readPart_0 (i := 12) rfl
theorem d_M_readPart_25 : decode mM_readPart.2.1 25 = .ok (.goto 27, 3) := dq_get dd_M_readPart_0 (i := 13) rfl
theorem d_M_readPart_28 : decode mM_readPart.2.1 28 = .ok (.aload_n 0, 1) := dq_get dd_M_readPart_0 (i := 14) rfl
theorem d_M_readPart_29 : decode mM_readPart.2.1 29 = .ok (.ldc2_w 192, 3) := dq_get dd_M_readPart_0 (i := 15) rfl
theorem d_M_readPart_32 : decode mM_readPart.2.1 32 = .ok (.invokevirtual 234, 3) := dq_get dd_M_readPart_0 (i := 16) rfl
theorem d_M_readPart_35 : decode mM_readPart.2.1 35 = .ok (.ifCond .eq 7, 3) := dq_get dd_M_readPart_0 (i := 17) rfl
theorem d_M_readPart_38 : decode mM_readPart.2.1 38 = .ok (.iconst 2, 1) := dq_get dd_M_readPart_0 (i := 18) rfl
theorem d_M_readPart_39 : decode mM_readPart.2.1 39 = .ok (.goto 13, 3) := dq_get dd_M_readPart_0 (i := 19) rfl
theorem d_M_readPart_42 : decode mM_readPart.2.1 42 = .ok (.aload_n 0, 1) := dq_get dd_M_readPart_0 (i := 20) rfl
theorem d_M_readPart_43 : decode mM_readPart.2.1 43 = .ok (.ldc2_w 194, 3) := dq_get dd_M_readPart_0 (i := 21) rfl
theorem d_M_readPart_46 : decode mM_readPart.2.1 46 = .ok (.invokevirtual 234, 3) := dq_get dd_M_readPart_0 (i := 22) rfl
theorem d_M_readPart_49 : decode mM_readPart.2.1 49 = .ok (.invokestatic 318, 3) := dq_get dd_M_readPart_0 (i := 23) rfl
theorem d_M_readPart_52 : decode mM_readPart.2.1 52 = .ok (.iastore, 1) := dq_get dd_M_readPart_0 (i := 24) rfl
theorem d_M_readPart_53 : decode mM_readPart.2.1 53 = .ok (.aload_n 0, 1) := dq_get dd_M_readPart_0 (i := 25) rfl
theorem d_M_readPart_54 : decode mM_readPart.2.1 54 = .ok (.getfield 185, 3) := dq_get dd_M_readPart_0 (i := 26) rfl
theorem d_M_readPart_57 : decode mM_readPart.2.1 57 = .ok (.ifCond .ne 19, 3) := dq_get dd_M_readPart_0 (i := 27) rfl
theorem d_M_readPart_60 : decode mM_readPart.2.1 60 = .ok (.aload_n 0, 1) := dq_get dd_M_readPart_0 (i := 28) rfl
theorem d_M_readPart_61 : decode mM_readPart.2.1 61 = .ok (.getfield 42, 3) := dq_get dd_M_readPart_0 (i := 29) rfl
theorem d_M_readPart_64 : decode mM_readPart.2.1 64 = .ok (.aload_n 0, 1) := dq_get dd_M_readPart_0 (i := 30) rfl
theorem d_M_readPart_65 : decode mM_readPart.2.1 65 = .ok (.getfield 258, 3) := dq_get dd_M_readPart_0 (i := 31) rfl
theorem dd_M_readPart_32 : dq mM_readPart.2.1 [(68, .iaload, 1), (69, .ifCond .le 7, 3), (72, .aload_n 0, 1), (73, .invokevirtual 241, 3), (76, .aload_n 0, 1), (77, .getfield 185, 3), (80, .ifCond .ne 13, 3), (83, .aload_n 0, 1), (84, .dup, 1), (85, .getfield 258, 3), (88, .iconst 1, 1), (89, .iadd, 1), (90, .putfield 258, 3), (93, .return_, 1)] = true := by decide +kernel
theorem d_M_readPart_68 : decode mM_readPart.2.1 68 = .ok (.iaload, 1) := dq_get dd_M_readPart_32 (i := 0) rfl
theorem d_M_readPart_69 : decode mM_readPart.2.1 69 = .ok (.ifCond .le 7, 3) := dq_get dd_M_readPart_32 (i := 1) rfl
theorem d_M_readPart_72 : decode mM_readPart.2.1 72 = .ok (.aload_n 0, 1) := dq_get dd_M_readPart_32 (i := 2) rfl
theorem d_M_readPart_73 : decode mM_readPart.2.1 73 = .ok (.invokevirtual 241, 3) := dq_get dd_M_readPart_32 (i := 3) rfl
theorem d_M_readPart_76 : decode mM_readPart.2.1 76 = .ok (.aload_n 0, 1) := dq_get dd_M_readPart_32 (i := 4) rfl
theorem d_M_readPart_77 : decode mM_readPart.2.1 77 = .ok (.getfield 185, 3) := dq_get dd_M_readPart_32 (i := 5) rfl
theorem d_M_readPart_80 : decode mM_readPart.2.1 80 = .ok (.ifCond .ne 13, 3) := dq_get dd_M_readPart_32 (i := 6) rfl
theorem d_M_readPart_83 : decode mM_readPart.2.1 83 = .ok (.aload_n 0, 1) := dq_get dd_M_readPart_32 (i := 7) rfl
theorem d_M_readPart_84 : decode mM_readPart.2.1 84 = .ok (.dup, 1) := dq_get dd_M_readPart_32 (i := 8) rfl
theorem d_M_readPart_85 : decode mM_readPart.2.1 85 = .ok (.getfield 258, 3) := dq_get dd_M_readPart_32 (i := 9) rfl
theorem d_M_readPart_88 : decode mM_readPart.2.1 88 = .ok (.iconst 1, 1) := dq_get dd_M_readPart_32 (i := 10) rfl
theorem d_M_readPart_89 : decode mM_readPart.2.1 89 = .ok (.iadd, 1) := dq_get dd_M_readPart_32 (i := 11) rfl
theorem d_M_readPart_90 : decode mM_readPart.2.1 90 = .ok (.putfield 258, 3) := dq_get dd_M_readPart_32 (i := 12) rfl
theorem d_M_readPart_93 : decode mM_readPart.2.1 93 = .ok (.return_, 1) := dq_get dd_M_readPart_32 (i := 13) rfl
theorem dd_M_newName_0 : dq mM_newName.2.1 [(0, .aload_n 0, 1), (1, .invokevirtual 241, 3), (4, .aload_n 0, 1), (5, .invokevirtual 252, 3), (8, .ifCond .ne 11, 3), (11, .aload_n 0, 1), (12, .iconst 2, 1), (13, .invokevirtual 238, 3), (16, .goto 17, 3), (19, .aload_n 0, 1), (20, .iload_n 1, 1), (21, .iload_n 2, 1), (22, .invokevirtual 255, 3), (25, .ifCond .lt 8, 3), (28, .aload_n 0, 1), (29, .iconst 3, 1), (30, .invokevirtual 238, 3), (33, .aload_n 0, 1), (34, .getfield 185, 3), (37, .ifCond .le 4, 3), (40, .return_, 1), (41, .aload_n 0, 1), (42, .getfield 17, 3), (45, .iload_n 1, 1), (46, .iload_n 2, 1), (47, .iadd, 1), (48, .aload_n 0, 1), (49, .getfield 165, 3), (52, .lastore, 1), (53, .aload_n 0, 1), (54, .invokevirtual 241, 3), (57, .return_, 1)] = true := by decide +kernel
theorem d_M_newName_0 : decode mM_newName.2.1 0 = .ok (.aload_n 0, 1) := dq_get dd_M_newName_0 (i := 0) rfl
theorem d_M_newName_1 : decode mM_newName.2.1 1 = .ok (.invokevirtual 241, 3) := dq_get dd_M_newName_0 (i := 1) rfl
theorem d_M_newName_4 : decode mM_newName.2.1 4 = .ok (.aload_n 0, 1) := dq_get dd_M_newName_0 (i := 2) rfl
theorem d_M_newName_5 : decode mM_newName.2.1 5 = .ok (.invokevirtual 252, 3) := dq_get dd_M_newName_0 (i := 3) rfl
theorem d_M_newName_8 : decode mM_newName.2.1 8 = .ok (.ifCond .ne 11, 3) := dq_get dd_M_newName_0 (i := 4) rfl
theorem d_M_newName_11 : decode mM_newName.2.1 11 = .ok (.aload_n 0, 1) := dq_get dd_M_newName_0 (i := 5) rfl
theorem d_M_newName_12 : decode mM_newName.2.1 12 = .ok (.iconst 2, 1) := dq_get dd_M_newName_0 (i := 6) rfl
theorem d_M_newName_13 : decode mM_newName.2.1 13 = .ok (.invokevirtual 238, 3) := dq_get dd_M_newName_0 (i := 7) rfl
theorem d_M_newName_16 : decode mM_newName.2.1 16 = .ok (.goto 17, 3) := dq_get dd_M_newName_0 (i := 8) rfl
theorem d_M_newName_19 : decode mM_newName.2.1 19 = .ok (.aload_n 0, 1) := dq_get dd_M_newName_0 (i := 9) rfl
theorem d_M_newName_20 : decode mM_newName.2.1 20 = .ok (.iload_n 1, 1) := dq_get dd_M_newName_0 (i := 10) rfl
theorem d_M_newName_21 : decode mM_newName.2.1 21 = .ok (.iload_n 2, 1) := dq_get dd_M_newName_0 (i := 11) rfl
theorem d_M_newName_22 : decode mM_newName.2.1 22 = .ok (.invokevirtual 255, 3) := dq_get dd_M_newName_0 (i := 12) rfl
theorem d_M_newName_25 : decode mM_newName.2.1 25 = .ok (.ifCond .lt 8, 3) := dq_get dd_M_newName_0 (i := 13) rfl
theorem d_M_newName_28 : decode mM_newName.2.1 28 = .ok (.aload_n 0, 1) := dq_get dd_M_newName_0 (i := 14) rfl
theorem d_M_newName_29 : decode mM_newName.2.1 29 = .ok (.iconst 3, 1) := dq_get dd_M_newName_0 (i := 15) rfl
theorem d_M_newName_30 : decode mM_newName.2.1 30 = .ok (.invokevirtual 238, 3) := dq_get dd_M_newName_0 (i := 16) rfl
theorem d_M_newName_33 : decode mM_newName.2.1 33 = .ok (.aload_n 0, 1) := dq_get dd_M_newName_0 (i := 17) rfl
theorem d_M_newName_34 : decode mM_newName.2.1 34 = .ok (.getfield 185, 3) := dq_get dd_M_newName_0 (i := 18) rfl
theorem d_M_newName_37 : decode mM_newName.2.1 37 = .ok (.ifCond .le 4, 3) := dq_get dd_M_newName_0 (i := 19) rfl
theorem d_M_newName_40 : decode mM_newName.2.1 40 = .ok (.return_, 1) := dq_get dd_M_newName_0 (i := 20) rfl
theorem d_M_newName_41 : decode mM_newName.2.1 41 = .ok (.aload_n 0, 1) := dq_get dd_M_newName_0 (i := 21) rfl
theorem d_M_newName_42 : decode mM_newName.2.1 42 = .ok (.getfield 17, 3) := dq_get dd_M_newName_0 (i := 22) rfl
theorem d_M_newName_45 : decode mM_newName.2.1 45 = .ok (.iload_n 1, 1) := dq_get dd_M_newName_0 (i := 23) rfl
theorem d_M_newName_46 : decode mM_newName.2.1 46 = .ok (.iload_n 2, 1) := dq_get dd_M_newName_0 (i := 24) rfl
theorem d_M_newName_47 : decode mM_newName.2.1 47 = .ok (.iadd, 1) := dq_get dd_M_newName_0 (i := 25) rfl
theorem d_M_newName_48 : decode mM_newName.2.1 48 = .ok (.aload_n 0, 1) := dq_get dd_M_newName_0 (i := 26) rfl
theorem d_M_newName_49 : decode mM_newName.2.1 49 = .ok (.getfield 165, 3) := dq_get dd_M_newName_0 (i := 27) rfl
theorem d_M_newName_52 : decode mM_newName.2.1 52 = .ok (.lastore, 1) := dq_get dd_M_newName_0 (i := 28) rfl
theorem d_M_newName_53 : decode mM_newName.2.1 53 = .ok (.aload_n 0, 1) := dq_get dd_M_newName_0 (i := 29) rfl
theorem d_M_newName_54 : decode mM_newName.2.1 54 = .ok (.invokevirtual 241, 3) := dq_get dd_M_newName_0 (i := 30) rfl
theorem d_M_newName_57 : decode mM_newName.2.1 57 = .ok (.return_, 1) := dq_get dd_M_newName_0 (i := 31) rfl
theorem dd_M_isName_0 : dq mM_isName.2.1 [(0, .aload_n 0, 1), (1, .getfield 172, 3), (4, .iconst 1, 1), (5, .if_icmp .ne 14, 3), (8, .aload_n 0, 1), (9, .invokevirtual 230, 3), (12, .ifCond .ne 7, 3), (15, .iconst 1, 1), (16, .goto 4, 3), (19, .iconst 0, 1), (20, .ireturn, 1)] = true := by decide +kernel
theorem d_M_isName_0 : decode mM_isName.2.1 0 = .ok (.aload_n 0, 1) := dq_get dd_M_isName_0 (i := 0) rfl
theorem d_M_isName_1 : decode mM_isName.2.1 1 = .ok (.getfield 172, 3) := dq_get dd_M_isName_0 (i := 1) rfl
theorem d_M_isName_4 : decode mM_isName.2.1 4 = .ok (.iconst 1, 1) := dq_get dd_M_isName_0 (i := 2) rfl
theorem d_M_isName_5 : decode mM_isName.2.1 5 = .ok (.if_icmp .ne 14, 3) := dq_get dd_M_isName_0 (i := 3) rfl
theorem d_M_isName_8 : decode mM_isName.2.1 8 = .ok (.aload_n 0, 1) := dq_get dd_M_isName_0 (i := 4) rfl
theorem d_M_isName_9 : decode mM_isName.2.1 9 = .ok (.invokevirtual 230, 3) := dq_get dd_M_isName_0 (i := 5) rfl
theorem d_M_isName_12 : decode mM_isName.2.1 12 = .ok (.ifCond .ne 7, 3) := dq_get dd_M_isName_0 (i := 6) rfl
theorem d_M_isName_15 : decode mM_isName.2.1 15 = .ok (.iconst 1, 1) := dq_get dd_M_isName_0 (i := 7) rfl
theorem d_M_isName_16 : decode mM_isName.2.1 16 = .ok (.goto 4, 3) := dq_get dd_M_isName_0 (i := 8) rfl
theorem d_M_isName_19 : decode mM_isName.2.1 19 = .ok (.iconst 0, 1) := dq_get dd_M_isName_0 (i := 9) rfl
theorem d_M_isName_20 : decode mM_isName.2.1 20 = .ok (.ireturn, 1) := dq_get dd_M_isName_0 (i := 10) rfl
theorem dd_M_isOwn_0 : dq mM_isOwn.2.1 [(0, .aload_n 0, 1), (1, .getfield 165, 3), (4, .ldc2_w 188, 3), (7, .lcmp, 1), (8, .ifCond .eq 223, 3), (11, .aload_n 0, 1), (12, .getfield 165, 3), (15, .ldc2_w 190, 3), (18, .lcmp, 1), (19, .ifCond .eq 212, 3), (22, .aload_n 0, 1), (23, .getfield 165, 3), (26, .ldc2_w 192, 3), (29, .lcmp, 1), (30, .ifCond .eq 201, 3), (33, .aload_n 0, 1), (34, .getfield 165, 3), (37, .ldc2_w 194, 3), (40, .lcmp, 1), (41, .ifCond .eq 190, 3), (44, .aload_n 0, 1), (45, .getfield 165, 3), (48, .ldc2_w 196, 3), (51, .lcmp, 1), (52, .ifCond .eq 179, 3), (55, .aload_n 0, 1), (56, .getfield 165, 3), (59, .ldc2_w 198, 3), (62, .lcmp, 1), (63, .ifCond .eq 168, 3), (66, .aload_n 0, 1), (67, .getfield 165, 3)] = true := by decide +kernel
theorem d_M_isOwn_0 : decode mM_isOwn.2.1 0 = .ok (.aload_n 0, 1) := dq_get dd_M_isOwn_0 (i := 0) rfl
theorem d_M_isOwn_1 : decode mM_isOwn.2.1 1 = .ok (.getfield 165, 3) := dq_get dd_M_isOwn_0 (i := 1) rfl
theorem d_M_isOwn_4 : decode mM_isOwn.2.1 4 = .ok (.ldc2_w 188, 3) := dq_get dd_M_isOwn_0 (i := 2) rfl
theorem d_M_isOwn_7 : decode mM_isOwn.2.1 7 = .ok (.lcmp, 1) := dq_get dd_M_isOwn_0 (i := 3) rfl
theorem d_M_isOwn_8 : decode mM_isOwn.2.1 8 = .ok (.ifCond .eq 223, 3) := dq_get dd_M_isOwn_0 (i := 4) rfl
theorem d_M_isOwn_11 : decode mM_isOwn.2.1 11 = .ok (.aload_n 0, 1) := dq_get dd_M_isOwn_0 (i := 5) rfl
theorem d_M_isOwn_12 : decode mM_isOwn.2.1 12 = .ok (.getfield 165, 3) := dq_get dd_M_isOwn_0 (i := 6) rfl
theorem d_M_isOwn_15 : decode mM_isOwn.2.1 15 = .ok (.ldc2_w 190, 3) := dq_get dd_M_isOwn_0 (i := 7) rfl
theorem d_M_isOwn_18 : decode mM_isOwn.2.1 18 = .ok (.lcmp, 1) := dq_get dd_M_isOwn_0 (i := 8) rfl
theorem d_M_isOwn_19 : decode mM_isOwn.2.1 19 = .ok (.ifCond .eq 212, 3) := dq_get dd_M_isOwn_0 (i := 9) rfl
theorem d_M_isOwn_22 : decode mM_isOwn.2.1 22 = .ok (.aload_n 0, 1) := dq_get dd_M_isOwn_0 (i := 10) rfl
theorem d_M_isOwn_23 : decode mM_isOwn.2.1 23 = .ok (.getfield 165, 3) := dq_get dd_M_isOwn_0 (i := 11) rfl
theorem d_M_isOwn_26 : decode mM_isOwn.2.1 26 = .ok (.ldc2_w 192, 3) := dq_get dd_M_isOwn_0 (i := 12) rfl
theorem d_M_isOwn_29 : decode mM_isOwn.2.1 29 = .ok (.lcmp, 1) := dq_get dd_M_isOwn_0 (i := 13) rfl
theorem d_M_isOwn_30 : decode mM_isOwn.2.1 30 = .ok (.ifCond .eq 201, 3) := dq_get dd_M_isOwn_0 (i := 14) rfl
theorem d_M_isOwn_33 : decode mM_isOwn.2.1 33 = .ok (.aload_n 0, 1) := dq_get dd_M_isOwn_0 (i := 15) rfl
theorem d_M_isOwn_34 : decode mM_isOwn.2.1 34 = .ok (.getfield 165, 3) := dq_get dd_M_isOwn_0 (i := 16) rfl
theorem d_M_isOwn_37 : decode mM_isOwn.2.1 37 = .ok (.ldc2_w 194, 3) := dq_get dd_M_isOwn_0 (i := 17) rfl
theorem d_M_isOwn_40 : decode mM_isOwn.2.1 40 = .ok (.lcmp, 1) := dq_get dd_M_isOwn_0 (i := 18) rfl
theorem d_M_isOwn_41 : decode mM_isOwn.2.1 41 = .ok (.ifCond .eq 190, 3) := dq_get dd_M_isOwn_0 (i := 19) rfl
theorem d_M_isOwn_44 : decode mM_isOwn.2.1 44 = .ok (.aload_n 0, 1) := dq_get dd_M_isOwn_0 (i := 20) rfl
theorem d_M_isOwn_45 : decode mM_isOwn.2.1 45 = .ok (.getfield 165, 3) := dq_get dd_M_isOwn_0 (i := 21) rfl
theorem d_M_isOwn_48 : decode mM_isOwn.2.1 48 = .ok (.ldc2_w 196, 3) := dq_get dd_M_isOwn_0 (i := 22) rfl
theorem d_M_isOwn_51 : decode mM_isOwn.2.1 51 = .ok (.lcmp, 1) := dq_get dd_M_isOwn_0 (i := 23) rfl
theorem d_M_isOwn_52 : decode mM_isOwn.2.1 52 = .ok (.ifCond .eq 179, 3) := dq_get dd_M_isOwn_0 (i := 24) rfl
theorem d_M_isOwn_55 : decode mM_isOwn.2.1 55 = .ok (.aload_n 0, 1) := dq_get dd_M_isOwn_0 (i := 25) rfl
theorem d_M_isOwn_56 : decode mM_isOwn.2.1 56 = .ok (.getfield 165, 3) := dq_get dd_M_isOwn_0 (i := 26) rfl
theorem d_M_isOwn_59 : decode mM_isOwn.2.1 59 = .ok (.ldc2_w 198, 3) := dq_get dd_M_isOwn_0 (i := 27) rfl
theorem d_M_isOwn_62 : decode mM_isOwn.2.1 62 = .ok (.lcmp, 1) := dq_get dd_M_isOwn_0 (i := 28) rfl
theorem d_M_isOwn_63 : decode mM_isOwn.2.1 63 = .ok (.ifCond .eq 168, 3) := dq_get dd_M_isOwn_0 (i := 29) rfl
theorem d_M_isOwn_66 : decode mM_isOwn.2.1 66 = .ok (.aload_n 0, 1) := dq_get dd_M_isOwn_0 (i := 30) rfl
theorem d_M_isOwn_67 : decode mM_isOwn.2.1 67 = .ok (.getfield 165, 3) := dq_get dd_M_isOwn_0 (i := 31) rfl
theorem dd_M_isOwn_32 : dq mM_isOwn.2.1 [(70, .ldc2_w 200, 3), (73, .lcmp, 1), (74, .ifCond .eq 157, 3), (77, .aload_n 0, 1), (78, .getfield 165, 3), (81, .ldc2_w 202, 3), (84, .lcmp, 1), (85, .ifCond .eq 146, 3), (88, .aload_n 0, 1), (89, .getfield 165, 3), (92, .ldc2_w 204, 3), (95, .lcmp, 1), (96, .ifCond .eq 135, 3), (99, .aload_n 0, 1), (100, .getfield 165, 3), (103, .ldc2_w 206, 3), (106, .lcmp, 1), (107, .ifCond .eq 124, 3), (110, .aload_n 0, 1), (111, .getfield 165, 3), (114, .ldc2_w 208, 3), (117, .lcmp, 1), (118, .ifCond .eq 113, 3), (121, .aload_n 0, 1), (122, .getfield 165, 3), (125, .ldc2_w 210, 3), (128, .lcmp, 1), (129, .ifCond .eq 102, 3), (132, .aload_n 0, 1), (133, .getfield 165, 3), (136, .ldc2_w 212, 3), (139, .lcmp, 1)] = true := by decide +kernel
theorem d_M_isOwn_70 : decode mM_isOwn.2.1 70 = .ok (.ldc2_w 200, 3) := dq_get dd_M_isOwn_32 (i := 0) rfl
theorem d_M_isOwn_73 : decode mM_isOwn.2.1 73 = .ok (.lcmp, 1) := dq_get dd_M_isOwn_32 (i := 1) rfl
theorem d_M_isOwn_74 : decode mM_isOwn.2.1 74 = .ok (.ifCond .eq 157, 3) := dq_get dd_M_isOwn_32 (i := 2) rfl
theorem d_M_isOwn_77 : decode mM_isOwn.2.1 77 = .ok (.aload_n 0, 1) := dq_get dd_M_isOwn_32 (i := 3) rfl
theorem d_M_isOwn_78 : decode mM_isOwn.2.1 78 = .ok (.getfield 165, 3) := dq_get dd_M_isOwn_32 (i := 4) rfl
theorem d_M_isOwn_81 : decode mM_isOwn.2.1 81 = .ok (.ldc2_w 202, 3) := dq_get dd_M_isOwn_32 (i := 5) rfl
theorem d_M_isOwn_84 : decode mM_isOwn.2.1 84 = .ok (.lcmp, 1) := dq_get dd_M_isOwn_32 (i := 6) rfl
theorem d_M_isOwn_85 : decode mM_isOwn.2.1 85 = .ok (.ifCond .eq 146, 3) := dq_get dd_M_isOwn_32 (i := 7) rfl
theorem d_M_isOwn_88 : decode mM_isOwn.2.1 88 = .ok (.aload_n 0, 1) := dq_get dd_M_isOwn_32 (i := 8) rfl
theorem d_M_isOwn_89 : decode mM_isOwn.2.1 89 = .ok (.getfield 165, 3) := dq_get dd_M_isOwn_32 (i := 9) rfl
theorem d_M_isOwn_92 : decode mM_isOwn.2.1 92 = .ok (.ldc2_w 204, 3) := dq_get dd_M_isOwn_32 (i := 10) rfl
theorem d_M_isOwn_95 : decode mM_isOwn.2.1 95 = .ok (.lcmp, 1) := dq_get dd_M_isOwn_32 (i := 11) rfl
theorem d_M_isOwn_96 : decode mM_isOwn.2.1 96 = .ok (.ifCond .eq 135, 3) := dq_get dd_M_isOwn_32 (i := 12) rfl
theorem d_M_isOwn_99 : decode mM_isOwn.2.1 99 = .ok (.aload_n 0, 1) := dq_get dd_M_isOwn_32 (i := 13) rfl
theorem d_M_isOwn_100 : decode mM_isOwn.2.1 100 = .ok (.getfield 165, 3) := dq_get dd_M_isOwn_32 (i := 14) rfl
theorem d_M_isOwn_103 : decode mM_isOwn.2.1 103 = .ok (.ldc2_w 206, 3) := dq_get dd_M_isOwn_32 (i := 15) rfl
theorem d_M_isOwn_106 : decode mM_isOwn.2.1 106 = .ok (.lcmp, 1) := dq_get dd_M_isOwn_32 (i := 16) rfl
theorem d_M_isOwn_107 : decode mM_isOwn.2.1 107 = .ok (.ifCond .eq 124, 3) := dq_get dd_M_isOwn_32 (i := 17) rfl
theorem d_M_isOwn_110 : decode mM_isOwn.2.1 110 = .ok (.aload_n 0, 1) := dq_get dd_M_isOwn_32 (i := 18) rfl
theorem d_M_isOwn_111 : decode mM_isOwn.2.1 111 = .ok (.getfield 165, 3) := dq_get dd_M_isOwn_32 (i := 19) rfl
theorem d_M_isOwn_114 : decode mM_isOwn.2.1 114 = .ok (.ldc2_w 208, 3) := dq_get dd_M_isOwn_32 (i := 20) rfl
theorem d_M_isOwn_117 : decode mM_isOwn.2.1 117 = .ok (.lcmp, 1) := dq_get dd_M_isOwn_32 (i := 21) rfl
theorem d_M_isOwn_118 : decode mM_isOwn.2.1 118 = .ok (.ifCond .eq 113, 3) := dq_get dd_M_isOwn_32 (i := 22) rfl
theorem d_M_isOwn_121 : decode mM_isOwn.2.1 121 = .ok (.aload_n 0, 1) := dq_get dd_M_isOwn_32 (i := 23) rfl
theorem d_M_isOwn_122 : decode mM_isOwn.2.1 122 = .ok (.getfield 165, 3) := dq_get dd_M_isOwn_32 (i := 24) rfl
theorem d_M_isOwn_125 : decode mM_isOwn.2.1 125 = .ok (.ldc2_w 210, 3) := dq_get dd_M_isOwn_32 (i := 25) rfl
theorem d_M_isOwn_128 : decode mM_isOwn.2.1 128 = .ok (.lcmp, 1) := dq_get dd_M_isOwn_32 (i := 26) rfl
theorem d_M_isOwn_129 : decode mM_isOwn.2.1 129 = .ok (.ifCond .eq 102, 3) := dq_get dd_M_isOwn_32 (i := 27) rfl
theorem d_M_isOwn_132 : decode mM_isOwn.2.1 132 = .ok (.aload_n 0, 1) := dq_get dd_M_isOwn_32 (i := 28) rfl
theorem d_M_isOwn_133 : decode mM_isOwn.2.1 133 = .ok (.getfield 165, 3) := dq_get dd_M_isOwn_32 (i := 29) rfl
theorem d_M_isOwn_136 : decode mM_isOwn.2.1 136 = .ok (.ldc2_w 212, 3) := dq_get dd_M_isOwn_32 (i := 30) rfl
theorem d_M_isOwn_139 : decode mM_isOwn.2.1 139 = .ok (.lcmp, 1) := dq_get dd_M_isOwn_32 (i := 31) rfl
theorem dd_M_isOwn_64 : dq mM_isOwn.2.1 [(140, .ifCond .eq 91, 3), (143, .aload_n 0, 1), (144, .getfield 165, 3), (147, .ldc2_w 214, 3), (150, .lcmp, 1), (151, .ifCond .eq 80, 3), (154, .aload_n 0, 1), (155, .getfield 165, 3), (158, .ldc2_w 216, 3), (161, .lcmp, 1), (162, .ifCond .eq 69, 3), (165, .aload_n 0, 1), (166, .getfield 165, 3), (169, .ldc2_w 218, 3), (172, .lcmp, 1), (173, .ifCond .eq 58, 3), (176, .aload_n 0, 1), (177, .getfield 165, 3), (180, .ldc2_w 220, 3), (183, .lcmp, 1), (184, .ifCond .eq 47, 3), (187, .aload_n 0, 1), (188, .getfield 165, 3), (191, .ldc2_w 222, 3), (194, .lcmp, 1), (195, .ifCond .eq 36, 3), (198, .aload_n 0, 1), (199, .getfield 165, 3), (202, .ldc2_w 224, 3), (205, .lcmp, 1), (206, .ifCond .eq 25, 3), (209, .aload_n 0, 1)] = true := by decide +kernel
theorem d_M_isOwn_140 : decode mM_isOwn.2.1 140 = .ok (.ifCond .eq 91, 3) := dq_get dd_M_isOwn_64 (i := 0) rfl
theorem d_M_isOwn_143 : decode mM_isOwn.2.1 143 = .ok (.aload_n 0, 1) := dq_get dd_M_isOwn_64 (i := 1) rfl
theorem d_M_isOwn_144 : decode mM_isOwn.2.1 144 = .ok (.getfield 165, 3) := dq_get dd_M_isOwn_64 (i := 2) rfl
theorem d_M_isOwn_147 : decode mM_isOwn.2.1 147 = .ok (.ldc2_w 214, 3) := dq_get dd_M_isOwn_64 (i := 3) rfl
theorem d_M_isOwn_150 : decode mM_isOwn.2.1 150 = .ok (.lcmp, 1) := dq_get dd_M_isOwn_64 (i := 4) rfl
theorem d_M_isOwn_151 : decode mM_isOwn.2.1 151 = .ok (.ifCond .eq 80, 3) := dq_get dd_M_isOwn_64 (i := 5) rfl
theorem d_M_isOwn_154 : decode mM_isOwn.2.1 154 = .ok (.aload_n 0, 1) := dq_get dd_M_isOwn_64 (i := 6) rfl
theorem d_M_isOwn_155 : decode mM_isOwn.2.1 155 = .ok (.getfield 165, 3) := dq_get dd_M_isOwn_64 (i := 7) rfl
theorem d_M_isOwn_158 : decode mM_isOwn.2.1 158 = .ok (.ldc2_w 216, 3) := dq_get dd_M_isOwn_64 (i := 8) rfl
theorem d_M_isOwn_161 : decode mM_isOwn.2.1 161 = .ok (.lcmp, 1) := dq_get dd_M_isOwn_64 (i := 9) rfl
theorem d_M_isOwn_162 : decode mM_isOwn.2.1 162 = .ok (.ifCond .eq 69, 3) := dq_get dd_M_isOwn_64 (i := 10) rfl
theorem d_M_isOwn_165 : decode mM_isOwn.2.1 165 = .ok (.aload_n 0, 1) := dq_get dd_M_isOwn_64 (i := 11) rfl
theorem d_M_isOwn_166 : decode mM_isOwn.2.1 166 = .ok (.getfield 165, 3) := dq_get dd_M_isOwn_64 (i := 12) rfl
theorem d_M_isOwn_169 : decode mM_isOwn.2.1 169 = .ok (.ldc2_w 218, 3) := dq_get dd_M_isOwn_64 (i := 13) rfl
theorem d_M_isOwn_172 : decode mM_isOwn.2.1 172 = .ok (.lcmp, 1) := dq_get dd_M_isOwn_64 (i := 14) rfl
theorem d_M_isOwn_173 : decode mM_isOwn.2.1 173 = .ok (.ifCond .eq 58, 3) := dq_get dd_M_isOwn_64 (i := 15) rfl
theorem d_M_isOwn_176 : decode mM_isOwn.2.1 176 = .ok (.aload_n 0, 1) := dq_get dd_M_isOwn_64 (i := 16) rfl
theorem d_M_isOwn_177 : decode mM_isOwn.2.1 177 = .ok (.getfield 165, 3) := dq_get dd_M_isOwn_64 (i := 17) rfl
theorem d_M_isOwn_180 : decode mM_isOwn.2.1 180 = .ok (.ldc2_w 220, 3) := dq_get dd_M_isOwn_64 (i := 18) rfl
theorem d_M_isOwn_183 : decode mM_isOwn.2.1 183 = .ok (.lcmp, 1) := dq_get dd_M_isOwn_64 (i := 19) rfl
theorem d_M_isOwn_184 : decode mM_isOwn.2.1 184 = .ok (.ifCond .eq 47, 3) := dq_get dd_M_isOwn_64 (i := 20) rfl
theorem d_M_isOwn_187 : decode mM_isOwn.2.1 187 = .ok (.aload_n 0, 1) := dq_get dd_M_isOwn_64 (i := 21) rfl
theorem d_M_isOwn_188 : decode mM_isOwn.2.1 188 = .ok (.getfield 165, 3) := dq_get dd_M_isOwn_64 (i := 22) rfl
theorem d_M_isOwn_191 : decode mM_isOwn.2.1 191 = .ok (.ldc2_w 222, 3) := dq_get dd_M_isOwn_64 (i := 23) rfl
theorem d_M_isOwn_194 : decode mM_isOwn.2.1 194 = .ok (.lcmp, 1) := dq_get dd_M_isOwn_64 (i := 24) rfl
theorem d_M_isOwn_195 : decode mM_isOwn.2.1 195 = .ok (.ifCond .eq 36, 3) := dq_get dd_M_isOwn_64 (i := 25) rfl
theorem d_M_isOwn_198 : decode mM_isOwn.2.1 198 = .ok (.aload_n 0, 1) := dq_get dd_M_isOwn_64 (i := 26) rfl
theorem d_M_isOwn_199 : decode mM_isOwn.2.1 199 = .ok (.getfield 165, 3) := dq_get dd_M_isOwn_64 (i := 27) rfl
theorem d_M_isOwn_202 : decode mM_isOwn.2.1 202 = .ok (.ldc2_w 224, 3) := dq_get dd_M_isOwn_64 (i := 28) rfl
theorem d_M_isOwn_205 : decode mM_isOwn.2.1 205 = .ok (.lcmp, 1) := dq_get dd_M_isOwn_64 (i := 29) rfl
theorem d_M_isOwn_206 : decode mM_isOwn.2.1 206 = .ok (.ifCond .eq 25, 3) := dq_get dd_M_isOwn_64 (i := 30) rfl
theorem d_M_isOwn_209 : decode mM_isOwn.2.1 209 = .ok (.aload_n 0, 1) := dq_get dd_M_isOwn_64 (i := 31) rfl
theorem dd_M_isOwn_96 : dq mM_isOwn.2.1 [(210, .getfield 165, 3), (213, .ldc2_w 226, 3), (216, .lcmp, 1), (217, .ifCond .eq 14, 3), (220, .aload_n 0, 1), (221, .getfield 165, 3), (224, .ldc2_w 228, 3), (227, .lcmp, 1), (228, .ifCond .ne 7, 3), (231, .iconst 1, 1), (232, .goto 4, 3), (235, .iconst 0, 1), (236, .ireturn, 1)] = true := by decide +kernel
theorem d_M_isOwn_210 : decode mM_isOwn.2.1 210 = .ok (.getfield 165, 3) := dq_get dd_M_isOwn_96 (i := 0) rfl
theorem d_M_isOwn_213 : decode mM_isOwn.2.1 213 = .ok (.ldc2_w 226, 3) := dq_get dd_M_isOwn_96 (i := 1) rfl
theorem d_M_isOwn_216 : decode mM_isOwn.2.1 216 = .ok (.lcmp, 1) := dq_get dd_M_isOwn_96 (i := 2) rfl
theorem d_M_isOwn_217 : decode mM_isOwn.2.1 217 = .ok (.ifCond .eq 14, 3) := dq_get dd_M_isOwn_96 (i := 3) rfl
theorem d_M_isOwn_220 : decode mM_isOwn.2.1 220 = .ok (.aload_n 0, 1) := dq_get dd_M_isOwn_96 (i := 4) rfl
theorem d_M_isOwn_221 : decode mM_isOwn.2.1 221 = .ok (.getfield 165, 3) := dq_get dd_M_isOwn_96 (i := 5) rfl
theorem d_M_isOwn_224 : decode mM_isOwn.2.1 224 = .ok (.ldc2_w 228, 3) := dq_get dd_M_isOwn_96 (i := 6) rfl
theorem d_M_isOwn_227 : decode mM_isOwn.2.1 227 = .ok (.lcmp, 1) := dq_get dd_M_isOwn_96 (i := 7) rfl
theorem d_M_isOwn_228 : decode mM_isOwn.2.1 228 = .ok (.ifCond .ne 7, 3) := dq_get dd_M_isOwn_96 (i := 8) rfl
theorem d_M_isOwn_231 : decode mM_isOwn.2.1 231 = .ok (.iconst 1, 1) := dq_get dd_M_isOwn_96 (i := 9) rfl
theorem d_M_isOwn_232 : decode mM_isOwn.2.1 232 = .ok (.goto 4, 3) := dq_get dd_M_isOwn_96 (i := 10) rfl
theorem d_M_isOwn_235 : decode mM_isOwn.2.1 235 = .ok (.iconst 0, 1) := dq_get dd_M_isOwn_96 (i := 11) rfl
theorem d_M_isOwn_236 : decode mM_isOwn.2.1 236 = .ok (.ireturn, 1) := dq_get dd_M_isOwn_96 (i := 12) rfl
theorem dd_M_find_0 : dq mM_find.2.1 [(0, .iconst (-1), 1), (1, .istore_n 3, 1), (2, .iconst 0, 1), (3, .istore 4, 2), (5, .iload 4, 2), (7, .iload_n 2, 1), (8, .if_icmp .ge 33, 3), (11, .aload_n 0, 1), (12, .getfield 17, 3), (15, .iload_n 1, 1), (16, .iload 4, 2), (18, .iadd, 1), (19, .laload, 1), (20, .aload_n 0, 1), (21, .getfield 165, 3), (24, .lcmp, 1), (25, .ifCond .ne 8, 3), (28, .iload 4, 2), (30, .goto 4, 3), (33, .iload_n 3, 1), (34, .istore_n 3, 1), (35, .iinc 4 1, 3), (38, .goto (-33), 3), (41, .iload_n 3, 1), (42, .ireturn, 1)] = true := by decide +kernel
theorem d_M_find_0 : decode mM_find.2.1 0 = .ok (.iconst (-1), 1) := dq_get dd_M_find_0 (i := 0) rfl
theorem d_M_find_1 : decode mM_find.2.1 1 = .ok (.istore_n 3, 1) := dq_get dd_M_find_0 (i := 1) rfl
theorem d_M_find_2 : decode mM_find.2.1 2 = .ok (.iconst 0, 1) := dq_get dd_M_find_0 (i := 2) rfl
theorem d_M_find_3 : decode mM_find.2.1 3 = .ok (.istore 4, 2) := dq_get dd_M_find_0 (i := 3) rfl
theorem d_M_find_5 : decode mM_find.2.1 5 = .ok (.iload 4, 2) := dq_get dd_M_find_0 (i := 4) rfl
theorem d_M_find_7 : decode mM_find.2.1 7 = .ok (.iload_n 2, 1) := dq_get dd_M_find_0 (i := 5) rfl
theorem d_M_find_8 : decode mM_find.2.1 8 = .ok (.if_icmp .ge 33, 3) := dq_get dd_M_find_0 (i := 6) rfl
theorem d_M_find_11 : decode mM_find.2.1 11 = .ok (.aload_n 0, 1) := dq_get dd_M_find_0 (i := 7) rfl
theorem d_M_find_12 : decode mM_find.2.1 12 = .ok (.getfield 17, 3) := dq_get dd_M_find_0 (i := 8) rfl
theorem d_M_find_15 : decode mM_find.2.1 15 = .ok (.iload_n 1, 1) := dq_get dd_M_find_0 (i := 9) rfl
theorem d_M_find_16 : decode mM_find.2.1 16 = .ok (.iload 4, 2) := dq_get dd_M_find_0 (i := 10) rfl
theorem d_M_find_18 : decode mM_find.2.1 18 = .ok (.iadd, 1) := dq_get dd_M_find_0 (i := 11) rfl
theorem d_M_find_19 : decode mM_find.2.1 19 = .ok (.laload, 1) := dq_get dd_M_find_0 (i := 12) rfl
theorem d_M_find_20 : decode mM_find.2.1 20 = .ok (.aload_n 0, 1) := dq_get dd_M_find_0 (i := 13) rfl
theorem d_M_find_21 : decode mM_find.2.1 21 = .ok (.getfield 165, 3) := dq_get dd_M_find_0 (i := 14) rfl
theorem d_M_find_24 : decode mM_find.2.1 24 = .ok (.lcmp, 1) := dq_get dd_M_find_0 (i := 15) rfl
theorem d_M_find_25 : decode mM_find.2.1 25 = .ok (.ifCond .ne 8, 3) := dq_get dd_M_find_0 (i := 16) rfl
theorem d_M_find_28 : decode mM_find.2.1 28 = .ok (.iload 4, 2) := dq_get dd_M_find_0 (i := 17) rfl
theorem d_M_find_30 : decode mM_find.2.1 30 = .ok (.goto 4, 3) := dq_get dd_M_find_0 (i := 18) rfl
theorem d_M_find_33 : decode mM_find.2.1 33 = .ok (.iload_n 3, 1) := dq_get dd_M_find_0 (i := 19) rfl
theorem d_M_find_34 : decode mM_find.2.1 34 = .ok (.istore_n 3, 1) := dq_get dd_M_find_0 (i := 20) rfl
theorem d_M_find_35 : decode mM_find.2.1 35 = .ok (.iinc 4 1, 3) := dq_get dd_M_find_0 (i := 21) rfl
theorem d_M_find_38 : decode mM_find.2.1 38 = .ok (.goto (-33), 3) := dq_get dd_M_find_0 (i := 22) rfl
theorem d_M_find_41 : decode mM_find.2.1 41 = .ok (.iload_n 3, 1) := dq_get dd_M_find_0 (i := 23) rfl
theorem d_M_find_42 : decode mM_find.2.1 42 = .ok (.ireturn, 1) := dq_get dd_M_find_0 (i := 24) rfl
theorem dd_M_truth_0 : dq mM_truth.2.1 [(0, .iload_n 0, 1), (1, .ifCond .eq 7, 3), (4, .iconst 1, 1), (5, .goto 4, 3), (8, .iconst 0, 1), (9, .ireturn, 1)] = true := by decide +kernel
theorem d_M_truth_0 : decode mM_truth.2.1 0 = .ok (.iload_n 0, 1) := dq_get dd_M_truth_0 (i := 0) rfl
theorem d_M_truth_1 : decode mM_truth.2.1 1 = .ok (.ifCond .eq 7, 3) := dq_get dd_M_truth_0 (i := 1) rfl
theorem d_M_truth_4 : decode mM_truth.2.1 4 = .ok (.iconst 1, 1) := dq_get dd_M_truth_0 (i := 2) rfl
theorem d_M_truth_5 : decode mM_truth.2.1 5 = .ok (.goto 4, 3) := dq_get dd_M_truth_0 (i := 3) rfl
theorem d_M_truth_8 : decode mM_truth.2.1 8 = .ok (.iconst 0, 1) := dq_get dd_M_truth_0 (i := 4) rfl
theorem d_M_truth_9 : decode mM_truth.2.1 9 = .ok (.ireturn, 1) := dq_get dd_M_truth_0 (i := 5) rfl
theorem dd_M_readNote_0 : dq mM_readNote.2.1 [(0, .aload_n 0, 1), (1, .iconst 4, 1), (2, .aload_n 0, 1), (3, .getfield 350, 3), (6, .invokevirtual 347, 3), (9, .aload_n 0, 1), (10, .getfield 350, 3), (13, .istore_n 1, 1), (14, .aload_n 0, 1), (15, .ldc2_w 198, 3), (18, .invokevirtual 244, 3), (21, .aload_n 0, 1), (22, .getfield 45, 3), (25, .iload_n 1, 1), (26, .aload_n 0, 1), (27, .invokevirtual 353, 3), (30, .iastore, 1), (31, .aload_n 0, 1), (32, .getfield 48, 3), (35, .iload_n 1, 1), (36, .aload_n 0, 1), (37, .ldc2_w 200, 3), (40, .iconst 0, 1), (41, .aload_n 0, 1), (42, .getfield 356, 3), (45, .iconst 1, 1), (46, .isub, 1), (47, .invokevirtual 359, 3), (50, .iastore, 1), (51, .aload_n 0, 1), (52, .getfield 51, 3), (55, .iload_n 1, 1)] = true := by decide +kernel
theorem d_M_readNote_0 : decode mM_readNote.2.1 0 = .ok (.aload_n 0, 1) := dq_get dd_M_readNote_0 (i := 0) rfl
theorem d_M_readNote_1 : decode mM_readNote.2.1 1 = .ok (.iconst 4, 1) := dq_get dd_M_readNote_0 (i := 1) rfl
theorem d_M_readNote_2 : decode mM_readNote.2.1 2 = .ok (.aload_n 0, 1) := dq_get dd_M_readNote_0 (i := 2) rfl
theorem d_M_readNote_3 : decode mM_readNote.2.1 3 = .ok (.getfield 350, 3) := dq_get dd_M_readNote_0 (i := 3) rfl
theorem d_M_readNote_6 : decode mM_readNote.2.1 6 = .ok (.invokevirtual 347, 3) := dq_get dd_M_readNote_0 (i := 4) rfl
theorem d_M_readNote_9 : decode mM_readNote.2.1 9 = .ok (.aload_n 0, 1) := dq_get dd_M_readNote_0 (i := 5) rfl
theorem d_M_readNote_10 : decode mM_readNote.2.1 10 = .ok (.getfield 350, 3) := dq_get dd_M_readNote_0 (i := 6) rfl
theorem d_M_readNote_13 : decode mM_readNote.2.1 13 = .ok (.istore_n 1, 1) := dq_get dd_M_readNote_0 (i := 7) rfl
theorem d_M_readNote_14 : decode mM_readNote.2.1 14 = .ok (.aload_n 0, 1) := dq_get dd_M_readNote_0 (i := 8) rfl
theorem d_M_readNote_15 : decode mM_readNote.2.1 15 = .ok (.ldc2_w 198, 3) := dq_get dd_M_readNote_0 (i := 9) rfl
theorem d_M_readNote_18 : decode mM_readNote.2.1 18 = .ok (.invokevirtual 244, 3) := dq_get dd_M_readNote_0 (i := 10) rfl
theorem d_M_readNote_21 : decode mM_readNote.2.1 21 = .ok (.aload_n 0, 1) := dq_get dd_M_readNote_0 (i := 11) rfl
theorem d_M_readNote_22 : decode mM_readNote.2.1 22 = .ok (.getfield 45, 3) := dq_get dd_M_readNote_0 (i := 12) rfl
theorem d_M_readNote_25 : decode mM_readNote.2.1 25 = .ok (.iload_n 1, 1) := dq_get dd_M_readNote_0 (i := 13) rfl
theorem d_M_readNote_26 : decode mM_readNote.2.1 26 = .ok (.aload_n 0, 1) := dq_get dd_M_readNote_0 (i := 14) rfl
theorem d_M_readNote_27 : decode mM_readNote.2.1 27 = .ok (.invokevirtual 353, 3) := dq_get dd_M_readNote_0 (i := 15) rfl
theorem d_M_readNote_30 : decode mM_readNote.2.1 30 = .ok (.iastore, 1) := dq_get dd_M_readNote_0 (i := 16) rfl
theorem d_M_readNote_31 : decode mM_readNote.2.1 31 = .ok (.aload_n 0, 1) := dq_get dd_M_readNote_0 (i := 17) rfl
theorem d_M_readNote_32 : decode mM_readNote.2.1 32 = .ok (.getfield 48, 3) := dq_get dd_M_readNote_0 (i := 18) rfl
theorem d_M_readNote_35 : decode mM_readNote.2.1 35 = .ok (.iload_n 1, 1) := dq_get dd_M_readNote_0 (i := 19) rfl
theorem d_M_readNote_36 : decode mM_readNote.2.1 36 = .ok (.aload_n 0, 1) := dq_get dd_M_readNote_0 (i := 20) rfl
theorem d_M_readNote_37 : decode mM_readNote.2.1 37 = .ok (.ldc2_w 200, 3) := dq_get dd_M_readNote_0 (i := 21) rfl
theorem d_M_readNote_40 : decode mM_readNote.2.1 40 = .ok (.iconst 0, 1) := dq_get dd_M_readNote_0 (i := 22) rfl
theorem d_M_readNote_41 : decode mM_readNote.2.1 41 = .ok (.aload_n 0, 1) := dq_get dd_M_readNote_0 (i := 23) rfl
theorem d_M_readNote_42 : decode mM_readNote.2.1 42 = .ok (.getfield 356, 3) := dq_get dd_M_readNote_0 (i := 24) rfl
theorem d_M_readNote_45 : decode mM_readNote.2.1 45 = .ok (.iconst 1, 1) := dq_get dd_M_readNote_0 (i := 25) rfl
theorem d_M_readNote_46 : decode mM_readNote.2.1 46 = .ok (.isub, 1) := dq_get dd_M_readNote_0 (i := 26) rfl
theorem d_M_readNote_47 : decode mM_readNote.2.1 47 = .ok (.invokevirtual 359, 3) := dq_get dd_M_readNote_0 (i := 27) rfl
theorem d_M_readNote_50 : decode mM_readNote.2.1 50 = .ok (.iastore, 1) := dq_get dd_M_readNote_0 (i := 28) rfl
theorem d_M_readNote_51 : decode mM_readNote.2.1 51 = .ok (.aload_n 0, 1) := dq_get dd_M_readNote_0 (i := 29) rfl
theorem d_M_readNote_52 : decode mM_readNote.2.1 52 = .ok (.getfield 51, 3) := dq_get dd_M_readNote_0 (i := 30) rfl
theorem d_M_readNote_55 : decode mM_readNote.2.1 55 = .ok (.iload_n 1, 1) := dq_get dd_M_readNote_0 (i := 31) rfl
theorem dd_M_readNote_32 : dq mM_readNote.2.1 [(56, .aload_n 0, 1), (57, .ldc2_w 202, 3), (60, .iconst 0, 1), (61, .bipush 87, 2), (63, .invokevirtual 359, 3), (66, .iastore, 1), (67, .aload_n 0, 1), (68, .getfield 54, 3), (71, .iload_n 1, 1), (72, .aload_n 0, 1), (73, .ldc2_w 204, 3), (76, .iconst 1, 1), (77, .bipush 12, 2), (79, .invokevirtual 359, 3), (82, .iastore, 1), (83, .aload_n 0, 1), (84, .getfield 57, 3), (87, .iload_n 1, 1), (88, .aload_n 0, 1), (89, .getfield 185, 3), (92, .ifCond .ne 26, 3), (95, .aload_n 0, 1), (96, .ldc2_w 206, 3), (99, .invokevirtual 234, 3), (102, .ifCond .eq 16, 3), (105, .aload_n 0, 1), (106, .ldc2_w 206, 3), (109, .iconst 1, 1), (110, .bipush 9, 2), (112, .invokevirtual 359, 3), (115, .goto 4, 3), (118, .iconst 5, 1)] = true := by decide +kernel
theorem d_M_readNote_56 : decode mM_readNote.2.1 56 = .ok (.aload_n 0, 1) := dq_get dd_M_readNote_32 (i := 0) rfl
theorem d_M_readNote_57 : decode mM_readNote.2.1 57 = .ok (.ldc2_w 202, 3) := dq_get dd_M_readNote_32 (i := 1) rfl
theorem d_M_readNote_60 : decode mM_readNote.2.1 60 = .ok (.iconst 0, 1) := dq_get dd_M_readNote_32 (i := 2) rfl
theorem d_M_readNote_61 : decode mM_readNote.2.1 61 = .ok (.bipush 87, 2) := dq_get dd_M_readNote_32 (i := 3) rfl
theorem d_M_readNote_63 : decode mM_readNote.2.1 63 = .ok (.invokevirtual 359, 3) := dq_get dd_M_readNote_32 (i := 4) rfl
theorem d_M_readNote_66 : decode mM_readNote.2.1 66 = .ok (.iastore, 1) := dq_get dd_M_readNote_32 (i := 5) rfl
theorem d_M_readNote_67 : decode mM_readNote.2.1 67 = .ok (.aload_n 0, 1) := dq_get dd_M_readNote_32 (i := 6) rfl
theorem d_M_readNote_68 : decode mM_readNote.2.1 68 = .ok (.getfield 54, 3) := dq_get dd_M_readNote_32 (i := 7) rfl
theorem d_M_readNote_71 : decode mM_readNote.2.1 71 = .ok (.iload_n 1, 1) := dq_get dd_M_readNote_32 (i := 8) rfl
theorem d_M_readNote_72 : decode mM_readNote.2.1 72 = .ok (.aload_n 0, 1) := dq_get dd_M_readNote_32 (i := 9) rfl
theorem d_M_readNote_73 : decode mM_readNote.2.1 73 = .ok (.ldc2_w 204, 3) := dq_get dd_M_readNote_32 (i := 10) rfl
theorem d_M_readNote_76 : decode mM_readNote.2.1 76 = .ok (.iconst 1, 1) := dq_get dd_M_readNote_32 (i := 11) rfl
theorem d_M_readNote_77 : decode mM_readNote.2.1 77 = .ok (.bipush 12, 2) := dq_get dd_M_readNote_32 (i := 12) rfl
theorem d_M_readNote_79 : decode mM_readNote.2.1 79 = .ok (.invokevirtual 359, 3) := dq_get dd_M_readNote_32 (i := 13) rfl
theorem d_M_readNote_82 : decode mM_readNote.2.1 82 = .ok (.iastore, 1) := dq_get dd_M_readNote_32 (i := 14) rfl
theorem d_M_readNote_83 : decode mM_readNote.2.1 83 = .ok (.aload_n 0, 1) := dq_get dd_M_readNote_32 (i := 15) rfl
theorem d_M_readNote_84 : decode mM_readNote.2.1 84 = .ok (.getfield 57, 3) := dq_get dd_M_readNote_32 (i := 16) rfl
theorem d_M_readNote_87 : decode mM_readNote.2.1 87 = .ok (.iload_n 1, 1) := dq_get dd_M_readNote_32 (i := 17) rfl
theorem d_M_readNote_88 : decode mM_readNote.2.1 88 = .ok (.aload_n 0, 1) := dq_get dd_M_readNote_32 (i := 18) rfl
theorem d_M_readNote_89 : decode mM_readNote.2.1 89 = .ok (.getfield 185, 3) := dq_get dd_M_readNote_32 (i := 19) rfl
theorem d_M_readNote_92 : decode mM_readNote.2.1 92 = .ok (.ifCond .ne 26, 3) := dq_get dd_M_readNote_32 (i := 20) rfl
theorem d_M_readNote_95 : decode mM_readNote.2.1 95 = .ok (.aload_n 0, 1) := dq_get dd_M_readNote_32 (i := 21) rfl
theorem d_M_readNote_96 : decode mM_readNote.2.1 96 = .ok (.ldc2_w 206, 3) := dq_get dd_M_readNote_32 (i := 22) rfl
theorem d_M_readNote_99 : decode mM_readNote.2.1 99 = .ok (.invokevirtual 234, 3) := dq_get dd_M_readNote_32 (i := 23) rfl
theorem d_M_readNote_102 : decode mM_readNote.2.1 102 = .ok (.ifCond .eq 16, 3) := dq_get dd_M_readNote_32 (i := 24) rfl
theorem d_M_readNote_105 : decode mM_readNote.2.1 105 = .ok (.aload_n 0, 1) := dq_get dd_M_readNote_32 (i := 25) rfl
theorem d_M_readNote_106 : decode mM_readNote.2.1 106 = .ok (.ldc2_w 206, 3) := dq_get dd_M_readNote_32 (i := 26) rfl
theorem d_M_readNote_109 : decode mM_readNote.2.1 109 = .ok (.iconst 1, 1) := dq_get dd_M_readNote_32 (i := 27) rfl
theorem d_M_readNote_110 : decode mM_readNote.2.1 110 = .ok (.bipush 9, 2) := dq_get dd_M_readNote_32 (i := 28) rfl
theorem d_M_readNote_112 : decode mM_readNote.2.1 112 = .ok (.invokevirtual 359, 3) := dq_get dd_M_readNote_32 (i := 29) rfl
theorem d_M_readNote_115 : decode mM_readNote.2.1 115 = .ok (.goto 4, 3) := dq_get dd_M_readNote_32 (i := 30) rfl
theorem d_M_readNote_118 : decode mM_readNote.2.1 118 = .ok (.iconst 5, 1) := dq_get dd_M_readNote_32 (i := 31) rfl
theorem dd_M_readNote_64 : dq mM_readNote.2.1 [(119, .iastore, 1), (120, .aload_n 0, 1), (121, .getfield 185, 3), (124, .ifCond .ne 13, 3), (127, .aload_n 0, 1), (128, .dup, 1), (129, .getfield 350, 3), (132, .iconst 1, 1), (133, .iadd, 1), (134, .putfield 350, 3), (137, .return_, 1)] = true := by decide +kernel
theorem d_M_readNote_119 : decode mM_readNote.2.1 119 = .ok (.iastore, 1) := dq_get dd_M_readNote_64 (i := 0) rfl
theorem d_M_readNote_120 : decode mM_readNote.2.1 120 = .ok (.aload_n 0, 1) := dq_get dd_M_readNote_64 (i := 1) rfl
theorem d_M_readNote_121 : decode mM_readNote.2.1 121 = .ok (.getfield 185, 3) := dq_get dd_M_readNote_64 (i := 2) rfl
theorem d_M_readNote_124 : decode mM_readNote.2.1 124 = .ok (.ifCond .ne 13, 3) := dq_get dd_M_readNote_64 (i := 3) rfl
theorem d_M_readNote_127 : decode mM_readNote.2.1 127 = .ok (.aload_n 0, 1) := dq_get dd_M_readNote_64 (i := 4) rfl
theorem d_M_readNote_128 : decode mM_readNote.2.1 128 = .ok (.dup, 1) := dq_get dd_M_readNote_64 (i := 5) rfl
theorem d_M_readNote_129 : decode mM_readNote.2.1 129 = .ok (.getfield 350, 3) := dq_get dd_M_readNote_64 (i := 6) rfl
theorem d_M_readNote_132 : decode mM_readNote.2.1 132 = .ok (.iconst 1, 1) := dq_get dd_M_readNote_64 (i := 7) rfl
theorem d_M_readNote_133 : decode mM_readNote.2.1 133 = .ok (.iadd, 1) := dq_get dd_M_readNote_64 (i := 8) rfl
theorem d_M_readNote_134 : decode mM_readNote.2.1 134 = .ok (.putfield 350, 3) := dq_get dd_M_readNote_64 (i := 9) rfl
theorem d_M_readNote_137 : decode mM_readNote.2.1 137 = .ok (.return_, 1) := dq_get dd_M_readNote_64 (i := 10) rfl
theorem dd_M_oldPart_0 : dq mM_oldPart.2.1 [(0, .aload_n 0, 1), (1, .getfield 185, 3), (4, .ifCond .le 5, 3), (7, .iconst 0, 1), (8, .ireturn, 1), (9, .aload_n 0, 1), (10, .invokevirtual 252, 3), (13, .ifCond .ne 11, 3), (16, .aload_n 0, 1), (17, .iconst 2, 1), (18, .invokevirtual 238, 3), (21, .goto 20, 3), (24, .aload_n 0, 1), (25, .iconst 0, 1), (26, .aload_n 0, 1), (27, .getfield 258, 3), (30, .invokevirtual 255, 3), (33, .ifCond .ge 8, 3), (36, .aload_n 0, 1), (37, .iconst 5, 1), (38, .invokevirtual 238, 3), (41, .aload_n 0, 1), (42, .iconst 0, 1), (43, .aload_n 0, 1), (44, .getfield 258, 3), (47, .invokevirtual 255, 3), (50, .istore_n 1, 1), (51, .aload_n 0, 1), (52, .getfield 185, 3), (55, .ifCond .ne 7, 3), (58, .aload_n 0, 1), (59, .invokevirtual 241, 3)] = true := by decide +kernel
theorem d_M_oldPart_0 : decode mM_oldPart.2.1 0 = .ok (.aload_n 0, 1) := dq_get dd_M_oldPart_0 (i := 0) rfl
theorem d_M_oldPart_1 : decode mM_oldPart.2.1 1 = .ok (.getfield 185, 3) := dq_get dd_M_oldPart_0 (i := 1) rfl
theorem d_M_oldPart_4 : decode mM_oldPart.2.1 4 = .ok (.ifCond .le 5, 3) := dq_get dd_M_oldPart_0 (i := 2) rfl
theorem d_M_oldPart_7 : decode mM_oldPart.2.1 7 = .ok (.iconst 0, 1) := dq_get dd_M_oldPart_0 (i := 3) rfl
theorem d_M_oldPart_8 : decode mM_oldPart.2.1 8 = .ok (.ireturn, 1) := dq_get dd_M_oldPart_0 (i := 4) rfl
theorem d_M_oldPart_9 : decode mM_oldPart.2.1 9 = .ok (.aload_n 0, 1) := dq_get dd_M_oldPart_0 (i := 5) rfl
theorem d_M_oldPart_10 : decode mM_oldPart.2.1 10 = .ok (.invokevirtual 252, 3) := dq_get dd_M_oldPart_0 (i := 6) rfl
theorem d_M_oldPart_13 : decode mM_oldPart.2.1 13 = .ok (.ifCond .ne 11, 3) := dq_get dd_M_oldPart_0 (i := 7) rfl
theorem d_M_oldPart_16 : decode mM_oldPart.2.1 16 = .ok (.aload_n 0, 1) := dq_get dd_M_oldPart_0 (i := 8) rfl
theorem d_M_oldPart_17 : decode mM_oldPart.2.1 17 = .ok (.iconst 2, 1) := dq_get dd_M_oldPart_0 (i := 9) rfl
theorem d_M_oldPart_18 : decode mM_oldPart.2.1 18 = .ok (.invokevirtual 238, 3) := dq_get dd_M_oldPart_0 (i := 10) rfl
theorem d_M_oldPart_21 : decode mM_oldPart.2.1 21 = .ok (.goto 20, 3) := dq_get dd_M_oldPart_0 (i := 11) rfl
theorem d_M_oldPart_24 : decode mM_oldPart.2.1 24 = .ok (.aload_n 0, 1) := dq_get dd_M_oldPart_0 (i := 12) rfl
theorem d_M_oldPart_25 : decode mM_oldPart.2.1 25 = .ok (.iconst 0, 1) := dq_get dd_M_oldPart_0 (i := 13) rfl
theorem d_M_oldPart_26 : decode mM_oldPart.2.1 26 = .ok (.aload_n 0, 1) := dq_get dd_M_oldPart_0 (i := 14) rfl
theorem d_M_oldPart_27 : decode mM_oldPart.2.1 27 = .ok (.getfield 258, 3) := dq_get dd_M_oldPart_0 (i := 15) rfl
theorem d_M_oldPart_30 : decode mM_oldPart.2.1 30 = .ok (.invokevirtual 255, 3) := dq_get dd_M_oldPart_0 (i := 16) rfl
theorem d_M_oldPart_33 : decode mM_oldPart.2.1 33 = .ok (.ifCond .ge 8, 3) := dq_get dd_M_oldPart_0 (i := 17) rfl
theorem d_M_oldPart_36 : decode mM_oldPart.2.1 36 = .ok (.aload_n 0, 1) := dq_get dd_M_oldPart_0 (i := 18) rfl
theorem d_M_oldPart_37 : decode mM_oldPart.2.1 37 = .ok (.iconst 5, 1) := dq_get dd_M_oldPart_0 (i := 19) rfl
theorem d_M_oldPart_38 : decode mM_oldPart.2.1 38 = .ok (.invokevirtual 238, 3) := dq_get dd_M_oldPart_0 (i := 20) rfl
theorem d_M_oldPart_41 : decode mM_oldPart.2.1 41 = .ok (.aload_n 0, 1) := dq_get dd_M_oldPart_0 (i := 21) rfl
theorem d_M_oldPart_42 : decode mM_oldPart.2.1 42 = .ok (.iconst 0, 1) := dq_get dd_M_oldPart_0 (i := 22) rfl
theorem d_M_oldPart_43 : decode mM_oldPart.2.1 43 = .ok (.aload_n 0, 1) := dq_get dd_M_oldPart_0 (i := 23) rfl
theorem d_M_oldPart_44 : decode mM_oldPart.2.1 44 = .ok (.getfield 258, 3) := dq_get dd_M_oldPart_0 (i := 24) rfl
theorem d_M_oldPart_47 : decode mM_oldPart.2.1 47 = .ok (.invokevirtual 255, 3) := dq_get dd_M_oldPart_0 (i := 25) rfl
theorem d_M_oldPart_50 : decode mM_oldPart.2.1 50 = .ok (.istore_n 1, 1) := dq_get dd_M_oldPart_0 (i := 26) rfl
theorem d_M_oldPart_51 : decode mM_oldPart.2.1 51 = .ok (.aload_n 0, 1) := dq_get dd_M_oldPart_0 (i := 27) rfl
theorem d_M_oldPart_52 : decode mM_oldPart.2.1 52 = .ok (.getfield 185, 3) := dq_get dd_M_oldPart_0 (i := 28) rfl
theorem d_M_oldPart_55 : decode mM_oldPart.2.1 55 = .ok (.ifCond .ne 7, 3) := dq_get dd_M_oldPart_0 (i := 29) rfl
theorem d_M_oldPart_58 : decode mM_oldPart.2.1 58 = .ok (.aload_n 0, 1) := dq_get dd_M_oldPart_0 (i := 30) rfl
theorem d_M_oldPart_59 : decode mM_oldPart.2.1 59 = .ok (.invokevirtual 241, 3) := dq_get dd_M_oldPart_0 (i := 31) rfl
theorem dd_M_oldPart_32 : dq mM_oldPart.2.1 [(62, .iload_n 1, 1), (63, .ireturn, 1)] = true := by decide +kernel
theorem d_M_oldPart_62 : decode mM_oldPart.2.1 62 = .ok (.iload_n 1, 1) := dq_get dd_M_oldPart_32 (i := 0) rfl
theorem d_M_oldPart_63 : decode mM_oldPart.2.1 63 = .ok (.ireturn, 1) := dq_get dd_M_oldPart_32 (i := 1) rfl
theorem dd_M_formula_0 : dq mM_formula.2.1 [(0, .aload_n 0, 1), (1, .invokevirtual 241, 3), (4, .aload_n 0, 1), (5, .iconst 1, 1), (6, .putfield 299, 3), (9, .aload_n 0, 1), (10, .iconst 0, 1), (11, .putfield 261, 3), (14, .aload_n 0, 1), (15, .iconst 0, 1), (16, .putfield 264, 3), (19, .aload_n 0, 1), (20, .iconst 0, 1), (21, .putfield 274, 3), (24, .aload_n 0, 1), (25, .iconst 0, 1), (26, .putfield 280, 3), (29, .aload_n 0, 1), (30, .invokevirtual 303, 3), (33, .iconst 1, 1), (34, .istore_n 1, 1), (35, .iload_n 1, 1), (36, .ifCond .eq 126, 3), (39, .aload_n 0, 1), (40, .getfield 185, 3), (43, .ifCond .ne 119, 3), (46, .aload_n 0, 1), (47, .invokevirtual 306, 3), (50, .istore_n 2, 1), (51, .aload_n 0, 1), (52, .getfield 172, 3), (55, .bipush 41, 2)] = true := by decide +kernel
theorem d_M_formula_0 : decode mM_formula.2.1 0 = .ok (.aload_n 0, 1) := dq_get dd_M_formula_0 (i := 0) rfl
theorem d_M_formula_1 : decode mM_formula.2.1 1 = .ok (.invokevirtual 241, 3) := dq_get dd_M_formula_0 (i := 1) rfl
theorem d_M_formula_4 : decode mM_formula.2.1 4 = .ok (.aload_n 0, 1) := dq_get dd_M_formula_0 (i := 2) rfl
theorem d_M_formula_5 : decode mM_formula.2.1 5 = .ok (.iconst 1, 1) := dq_get dd_M_formula_0 (i := 3) rfl
theorem d_M_formula_6 : decode mM_formula.2.1 6 = .ok (.putfield 299, 3) := dq_get dd_M_formula_0 (i := 4) rfl
theorem d_M_formula_9 : decode mM_formula.2.1 9 = .ok (.aload_n 0, 1) := dq_get dd_M_formula_0 (i := 5) rfl
theorem d_M_formula_10 : decode mM_formula.2.1 10 = .ok (.iconst 0, 1) := dq_get dd_M_formula_0 (i := 6) rfl
theorem d_M_formula_11 : decode mM_formula.2.1 11 = .ok (.putfield 261, 3) := dq_get dd_M_formula_0 (i := 7) rfl
theorem d_M_formula_14 : decode mM_formula.2.1 14 = .ok (.aload_n 0, 1) := dq_get dd_M_formula_0 (i := 8) rfl
theorem d_M_formula_15 : decode mM_formula.2.1 15 = .ok (.iconst 0, 1) := dq_get dd_M_formula_0 (i := 9) rfl
theorem d_M_formula_16 : decode mM_formula.2.1 16 = .ok (.putfield 264, 3) := dq_get dd_M_formula_0 (i := 10) rfl
theorem d_M_formula_19 : decode mM_formula.2.1 19 = .ok (.aload_n 0, 1) := dq_get dd_M_formula_0 (i := 11) rfl
theorem d_M_formula_20 : decode mM_formula.2.1 20 = .ok (.iconst 0, 1) := dq_get dd_M_formula_0 (i := 12) rfl
theorem d_M_formula_21 : decode mM_formula.2.1 21 = .ok (.putfield 274, 3) := dq_get dd_M_formula_0 (i := 13) rfl
theorem d_M_formula_24 : decode mM_formula.2.1 24 = .ok (.aload_n 0, 1) := dq_get dd_M_formula_0 (i := 14) rfl
theorem d_M_formula_25 : decode mM_formula.2.1 25 = .ok (.iconst 0, 1) := dq_get dd_M_formula_0 (i := 15) rfl
theorem d_M_formula_26 : decode mM_formula.2.1 26 = .ok (.putfield 280, 3) := dq_get dd_M_formula_0 (i := 16) rfl
theorem d_M_formula_29 : decode mM_formula.2.1 29 = .ok (.aload_n 0, 1) := dq_get dd_M_formula_0 (i := 17) rfl
theorem d_M_formula_30 : decode mM_formula.2.1 30 = .ok (.invokevirtual 303, 3) := dq_get dd_M_formula_0 (i := 18) rfl
theorem d_M_formula_33 : decode mM_formula.2.1 33 = .ok (.iconst 1, 1) := dq_get dd_M_formula_0 (i := 19) rfl
theorem d_M_formula_34 : decode mM_formula.2.1 34 = .ok (.istore_n 1, 1) := dq_get dd_M_formula_0 (i := 20) rfl
theorem d_M_formula_35 : decode mM_formula.2.1 35 = .ok (.iload_n 1, 1) := dq_get dd_M_formula_0 (i := 21) rfl
theorem d_M_formula_36 : decode mM_formula.2.1 36 = .ok (.ifCond .eq 126, 3) := dq_get dd_M_formula_0 (i := 22) rfl
theorem d_M_formula_39 : decode mM_formula.2.1 39 = .ok (.aload_n 0, 1) := dq_get dd_M_formula_0 (i := 23) rfl
theorem d_M_formula_40 : decode mM_formula.2.1 40 = .ok (.getfield 185, 3) := dq_get dd_M_formula_0 (i := 24) rfl
theorem d_M_formula_43 : decode mM_formula.2.1 43 = .ok (.ifCond .ne 119, 3) := dq_get dd_M_formula_0 (i := 25) rfl
theorem d_M_formula_46 : decode mM_formula.2.1 46 = .ok (.aload_n 0, 1) := dq_get dd_M_formula_0 (i := 26) rfl
theorem d_M_formula_47 : decode mM_formula.2.1 47 = .ok (.invokevirtual 306, 3) := dq_get dd_M_formula_0 (i := 27) rfl
theorem d_M_formula_50 : decode mM_formula.2.1 50 = .ok (.istore_n 2, 1) := dq_get dd_M_formula_0 (i := 28) rfl
theorem d_M_formula_51 : decode mM_formula.2.1 51 = .ok (.aload_n 0, 1) := dq_get dd_M_formula_0 (i := 29) rfl
theorem d_M_formula_52 : decode mM_formula.2.1 52 = .ok (.getfield 172, 3) := dq_get dd_M_formula_0 (i := 30) rfl
theorem d_M_formula_55 : decode mM_formula.2.1 55 = .ok (.bipush 41, 2) := dq_get dd_M_formula_0 (i := 31) rfl
theorem dd_M_formula_32 : dq mM_formula.2.1 [(57, .if_icmp .ne 42, 3), (60, .aload_n 0, 1), (61, .invokevirtual 309, 3), (64, .ifCond .eq 35, 3), (67, .aload_n 0, 1), (68, .iconst 0, 1), (69, .invokevirtual 312, 3), (72, .aload_n 0, 1), (73, .dup, 1), (74, .getfield 264, 3), (77, .iconst 1, 1), (78, .isub, 1), (79, .putfield 264, 3), (82, .aload_n 0, 1), (83, .dup, 1), (84, .getfield 274, 3), (87, .iconst 1, 1), (88, .isub, 1), (89, .putfield 274, 3), (92, .aload_n 0, 1), (93, .invokevirtual 241, 3), (96, .goto 63, 3), (99, .iload_n 2, 1), (100, .ifCond .eq 57, 3), (103, .iload_n 2, 1), (104, .invokestatic 267, 3), (107, .iconst 4, 1), (108, .if_icmp .ne 10, 3), (111, .aload_n 0, 1), (112, .invokevirtual 315, 3), (115, .ifCond .ne 42, 3), (118, .aload_n 0, 1)] = true := by decide +kernel
theorem d_M_formula_57 : decode mM_formula.2.1 57 = .ok (.if_icmp .ne 42, 3) := dq_get dd_M_formula_32 (i := 0) rfl
theorem d_M_formula_60 : decode mM_formula.2.1 60 = .ok (.aload_n 0, 1) := dq_get dd_M_formula_32 (i := 1) rfl
theorem d_M_formula_61 : decode mM_formula.2.1 61 = .ok (.invokevirtual 309, 3) := dq_get dd_M_formula_32 (i := 2) rfl
theorem d_M_formula_64 : decode mM_formula.2.1 64 = .ok (.ifCond .eq 35, 3) := dq_get dd_M_formula_32 (i := 3) rfl
theorem d_M_formula_67 : decode mM_formula.2.1 67 = .ok (.aload_n 0, 1) := dq_get dd_M_formula_32 (i := 4) rfl
theorem d_M_formula_68 : decode mM_formula.2.1 68 = .ok (.iconst 0, 1) := dq_get dd_M_formula_32 (i := 5) rfl
theorem d_M_formula_69 : decode mM_formula.2.1 69 = .ok (.invokevirtual 312, 3) := dq_get dd_M_formula_32 (i := 6) rfl
theorem d_M_formula_72 : decode mM_formula.2.1 72 = .ok (.aload_n 0, 1) := dq_get dd_M_formula_32 (i := 7) rfl
theorem d_M_formula_73 : decode mM_formula.2.1 73 = .ok (.dup, 1) := dq_get dd_M_formula_32 (i := 8) rfl
theorem d_M_formula_74 : decode mM_formula.2.1 74 = .ok (.getfield 264, 3) := dq_get dd_M_formula_32 (i := 9) rfl
theorem d_M_formula_77 : decode mM_formula.2.1 77 = .ok (.iconst 1, 1) := dq_get dd_M_formula_32 (i := 10) rfl
theorem d_M_formula_78 : decode mM_formula.2.1 78 = .ok (.isub, 1) := dq_get dd_M_formula_32 (i := 11) rfl
theorem d_M_formula_79 : decode mM_formula.2.1 79 = .ok (.putfield 264, 3) := dq_get dd_M_formula_32 (i := 12) rfl
theorem d_M_formula_82 : decode mM_formula.2.1 82 = .ok (.aload_n 0, 1) := dq_get dd_M_formula_32 (i := 13) rfl
theorem d_M_formula_83 : decode mM_formula.2.1 83 = .ok (.dup, 1) := dq_get dd_M_formula_32 (i := 14) rfl
theorem d_M_formula_84 : decode mM_formula.2.1 84 = .ok (.getfield 274, 3) := dq_get dd_M_formula_32 (i := 15) rfl
theorem d_M_formula_87 : decode mM_formula.2.1 87 = .ok (.iconst 1, 1) := dq_get dd_M_formula_32 (i := 16) rfl
theorem d_M_formula_88 : decode mM_formula.2.1 88 = .ok (.isub, 1) := dq_get dd_M_formula_32 (i := 17) rfl
theorem d_M_formula_89 : decode mM_formula.2.1 89 = .ok (.putfield 274, 3) := dq_get dd_M_formula_32 (i := 18) rfl
theorem d_M_formula_92 : decode mM_formula.2.1 92 = .ok (.aload_n 0, 1) := dq_get dd_M_formula_32 (i := 19) rfl
theorem d_M_formula_93 : decode mM_formula.2.1 93 = .ok (.invokevirtual 241, 3) := dq_get dd_M_formula_32 (i := 20) rfl
theorem d_M_formula_96 : decode mM_formula.2.1 96 = .ok (.goto 63, 3) := dq_get dd_M_formula_32 (i := 21) rfl
theorem d_M_formula_99 : decode mM_formula.2.1 99 = .ok (.iload_n 2, 1) := dq_get dd_M_formula_32 (i := 22) rfl
theorem d_M_formula_100 : decode mM_formula.2.1 100 = .ok (.ifCond .eq 57, 3) := dq_get dd_M_formula_32 (i := 23) rfl
theorem d_M_formula_103 : decode mM_formula.2.1 103 = .ok (.iload_n 2, 1) := dq_get dd_M_formula_32 (i := 24) rfl
theorem d_M_formula_104 : decode mM_formula.2.1 104 = .ok (.invokestatic 267, 3) := dq_get dd_M_formula_32 (i := 25) rfl
theorem d_M_formula_107 : decode mM_formula.2.1 107 = .ok (.iconst 4, 1) := dq_get dd_M_formula_32 (i := 26) rfl
theorem d_M_formula_108 : decode mM_formula.2.1 108 = .ok (.if_icmp .ne 10, 3) := dq_get dd_M_formula_32 (i := 27) rfl
theorem d_M_formula_111 : decode mM_formula.2.1 111 = .ok (.aload_n 0, 1) := dq_get dd_M_formula_32 (i := 28) rfl
theorem d_M_formula_112 : decode mM_formula.2.1 112 = .ok (.invokevirtual 315, 3) := dq_get dd_M_formula_32 (i := 29) rfl
theorem d_M_formula_115 : decode mM_formula.2.1 115 = .ok (.ifCond .ne 42, 3) := dq_get dd_M_formula_32 (i := 30) rfl
theorem d_M_formula_118 : decode mM_formula.2.1 118 = .ok (.aload_n 0, 1) := dq_get dd_M_formula_32 (i := 31) rfl
theorem dd_M_formula_64 : dq mM_formula.2.1 [(119, .iload_n 2, 1), (120, .invokestatic 267, 3), (123, .invokevirtual 312, 3), (126, .aload_n 0, 1), (127, .getfield 33, 3), (130, .aload_n 0, 1), (131, .getfield 264, 3), (134, .iload_n 2, 1), (135, .iastore, 1), (136, .aload_n 0, 1), (137, .dup, 1), (138, .getfield 264, 3), (141, .iconst 1, 1), (142, .iadd, 1), (143, .putfield 264, 3), (146, .aload_n 0, 1), (147, .invokevirtual 241, 3), (150, .aload_n 0, 1), (151, .invokevirtual 303, 3), (154, .goto 5, 3), (157, .iconst 0, 1), (158, .istore_n 1, 1), (159, .goto (-124), 3), (162, .aload_n 0, 1), (163, .getfield 185, 3), (166, .ifCond .ne 15, 3), (169, .aload_n 0, 1), (170, .invokevirtual 309, 3), (173, .ifCond .eq 8, 3), (176, .aload_n 0, 1), (177, .iconst 2, 1), (178, .invokevirtual 238, 3)] = true := by decide +kernel
theorem d_M_formula_119 : decode mM_formula.2.1 119 = .ok (.iload_n 2, 1) := dq_get dd_M_formula_64 (i := 0) rfl
theorem d_M_formula_120 : decode mM_formula.2.1 120 = .ok (.invokestatic 267, 3) := dq_get dd_M_formula_64 (i := 1) rfl
theorem d_M_formula_123 : decode mM_formula.2.1 123 = .ok (.invokevirtual 312, 3) := dq_get dd_M_formula_64 (i := 2) rfl
theorem d_M_formula_126 : decode mM_formula.2.1 126 = .ok (.aload_n 0, 1) := dq_get dd_M_formula_64 (i := 3) rfl
theorem d_M_formula_127 : decode mM_formula.2.1 127 = .ok (.getfield 33, 3) := dq_get dd_M_formula_64 (i := 4) rfl
theorem d_M_formula_130 : decode mM_formula.2.1 130 = .ok (.aload_n 0, 1) := dq_get dd_M_formula_64 (i := 5) rfl
theorem d_M_formula_131 : decode mM_formula.2.1 131 = .ok (.getfield 264, 3) := dq_get dd_M_formula_64 (i := 6) rfl
theorem d_M_formula_134 : decode mM_formula.2.1 134 = .ok (.iload_n 2, 1) := dq_get dd_M_formula_64 (i := 7) rfl
theorem d_M_formula_135 : decode mM_formula.2.1 135 = .ok (.iastore, 1) := dq_get dd_M_formula_64 (i := 8) rfl
theorem d_M_formula_136 : decode mM_formula.2.1 136 = .ok (.aload_n 0, 1) := dq_get dd_M_formula_64 (i := 9) rfl
theorem d_M_formula_137 : decode mM_formula.2.1 137 = .ok (.dup, 1) := dq_get dd_M_formula_64 (i := 10) rfl
theorem d_M_formula_138 : decode mM_formula.2.1 138 = .ok (.getfield 264, 3) := dq_get dd_M_formula_64 (i := 11) rfl
theorem d_M_formula_141 : decode mM_formula.2.1 141 = .ok (.iconst 1, 1) := dq_get dd_M_formula_64 (i := 12) rfl
theorem d_M_formula_142 : decode mM_formula.2.1 142 = .ok (.iadd, 1) := dq_get dd_M_formula_64 (i := 13) rfl
theorem d_M_formula_143 : decode mM_formula.2.1 143 = .ok (.putfield 264, 3) := dq_get dd_M_formula_64 (i := 14) rfl
theorem d_M_formula_146 : decode mM_formula.2.1 146 = .ok (.aload_n 0, 1) := dq_get dd_M_formula_64 (i := 15) rfl
theorem d_M_formula_147 : decode mM_formula.2.1 147 = .ok (.invokevirtual 241, 3) := dq_get dd_M_formula_64 (i := 16) rfl
theorem d_M_formula_150 : decode mM_formula.2.1 150 = .ok (.aload_n 0, 1) := dq_get dd_M_formula_64 (i := 17) rfl
theorem d_M_formula_151 : decode mM_formula.2.1 151 = .ok (.invokevirtual 303, 3) := dq_get dd_M_formula_64 (i := 18) rfl
theorem d_M_formula_154 : decode mM_formula.2.1 154 = .ok (.goto 5, 3) := dq_get dd_M_formula_64 (i := 19) rfl
theorem d_M_formula_157 : decode mM_formula.2.1 157 = .ok (.iconst 0, 1) := dq_get dd_M_formula_64 (i := 20) rfl
theorem d_M_formula_158 : decode mM_formula.2.1 158 = .ok (.istore_n 1, 1) := dq_get dd_M_formula_64 (i := 21) rfl
theorem d_M_formula_159 : decode mM_formula.2.1 159 = .ok (.goto (-124), 3) := dq_get dd_M_formula_64 (i := 22) rfl
theorem d_M_formula_162 : decode mM_formula.2.1 162 = .ok (.aload_n 0, 1) := dq_get dd_M_formula_64 (i := 23) rfl
theorem d_M_formula_163 : decode mM_formula.2.1 163 = .ok (.getfield 185, 3) := dq_get dd_M_formula_64 (i := 24) rfl
theorem d_M_formula_166 : decode mM_formula.2.1 166 = .ok (.ifCond .ne 15, 3) := dq_get dd_M_formula_64 (i := 25) rfl
theorem d_M_formula_169 : decode mM_formula.2.1 169 = .ok (.aload_n 0, 1) := dq_get dd_M_formula_64 (i := 26) rfl
theorem d_M_formula_170 : decode mM_formula.2.1 170 = .ok (.invokevirtual 309, 3) := dq_get dd_M_formula_64 (i := 27) rfl
theorem d_M_formula_173 : decode mM_formula.2.1 173 = .ok (.ifCond .eq 8, 3) := dq_get dd_M_formula_64 (i := 28) rfl
theorem d_M_formula_176 : decode mM_formula.2.1 176 = .ok (.aload_n 0, 1) := dq_get dd_M_formula_64 (i := 29) rfl
theorem d_M_formula_177 : decode mM_formula.2.1 177 = .ok (.iconst 2, 1) := dq_get dd_M_formula_64 (i := 30) rfl
theorem d_M_formula_178 : decode mM_formula.2.1 178 = .ok (.invokevirtual 238, 3) := dq_get dd_M_formula_64 (i := 31) rfl
theorem dd_M_formula_96 : dq mM_formula.2.1 [(181, .aload_n 0, 1), (182, .getfield 185, 3), (185, .ifCond .ne 8, 3), (188, .aload_n 0, 1), (189, .iconst 0, 1), (190, .invokevirtual 312, 3), (193, .return_, 1)] = true := by decide +kernel
theorem d_M_formula_181 : decode mM_formula.2.1 181 = .ok (.aload_n 0, 1) := dq_get dd_M_formula_96 (i := 0) rfl
theorem d_M_formula_182 : decode mM_formula.2.1 182 = .ok (.getfield 185, 3) := dq_get dd_M_formula_96 (i := 1) rfl
theorem d_M_formula_185 : decode mM_formula.2.1 185 = .ok (.ifCond .ne 8, 3) := dq_get dd_M_formula_96 (i := 2) rfl
theorem d_M_formula_188 : decode mM_formula.2.1 188 = .ok (.aload_n 0, 1) := dq_get dd_M_formula_96 (i := 3) rfl
theorem d_M_formula_189 : decode mM_formula.2.1 189 = .ok (.iconst 0, 1) := dq_get dd_M_formula_96 (i := 4) rfl
theorem d_M_formula_190 : decode mM_formula.2.1 190 = .ok (.invokevirtual 312, 3) := dq_get dd_M_formula_96 (i := 5) rfl
theorem d_M_formula_193 : decode mM_formula.2.1 193 = .ok (.return_, 1) := dq_get dd_M_formula_96 (i := 6) rfl
theorem dd_M_unit_0 : dq mM_unit.2.1 [(0, .iconst 1, 1), (1, .istore_n 1, 1), (2, .iload_n 1, 1), (3, .ifCond .eq 98, 3), (6, .aload_n 0, 1), (7, .getfield 185, 3), (10, .ifCond .ne 91, 3), (13, .aload_n 0, 1), (14, .ldc2_w 228, 3), (17, .invokevirtual 234, 3), (20, .ifCond .eq 33, 3), (23, .aload_n 0, 1), (24, .invokevirtual 283, 3), (27, .ifCond .eq 26, 3), (30, .aload_n 0, 1), (31, .getfield 274, 3), (34, .bipush 6, 2), (36, .if_icmp .le 8, 3), (39, .aload_n 0, 1), (40, .iconst 2, 1), (41, .invokevirtual 238, 3), (44, .aload_n 0, 1), (45, .bipush 21, 2), (47, .invokevirtual 286, 3), (50, .goto (-48), 3), (53, .aload_n 0, 1), (54, .getfield 172, 3), (57, .bipush 40, 2), (59, .if_icmp .ne 37, 3), (62, .aload_n 0, 1), (63, .invokevirtual 289, 3), (66, .ifCond .ne 12, 3)] = true := by decide +kernel
theorem d_M_unit_0 : decode mM_unit.2.1 0 = .ok (.iconst 1, 1) := dq_get dd_M_unit_0 (i := 0) rfl
theorem d_M_unit_1 : decode mM_unit.2.1 1 = .ok (.istore_n 1, 1) := dq_get dd_M_unit_0 (i := 1) rfl
theorem d_M_unit_2 : decode mM_unit.2.1 2 = .ok (.iload_n 1, 1) := dq_get dd_M_unit_0 (i := 2) rfl
theorem d_M_unit_3 : decode mM_unit.2.1 3 = .ok (.ifCond .eq 98, 3) := dq_get dd_M_unit_0 (i := 3) rfl
theorem d_M_unit_6 : decode mM_unit.2.1 6 = .ok (.aload_n 0, 1) := dq_get dd_M_unit_0 (i := 4) rfl
theorem d_M_unit_7 : decode mM_unit.2.1 7 = .ok (.getfield 185, 3) := dq_get dd_M_unit_0 (i := 5) rfl
theorem d_M_unit_10 : decode mM_unit.2.1 10 = .ok (.ifCond .ne 91, 3) := dq_get dd_M_unit_0 (i := 6) rfl
theorem d_M_unit_13 : decode mM_unit.2.1 13 = .ok (.aload_n 0, 1) := dq_get dd_M_unit_0 (i := 7) rfl
theorem d_M_unit_14 : decode mM_unit.2.1 14 = .ok (.ldc2_w 228, 3) := dq_get dd_M_unit_0 (i := 8) rfl
theorem d_M_unit_17 : decode mM_unit.2.1 17 = .ok (.invokevirtual 234, 3) := dq_get dd_M_unit_0 (i := 9) rfl
theorem d_M_unit_20 : decode mM_unit.2.1 20 = .ok (.ifCond .eq 33, 3) := dq_get dd_M_unit_0 (i := 10) rfl
theorem d_M_unit_23 : decode mM_unit.2.1 23 = .ok (.aload_n 0, 1) := dq_get dd_M_unit_0 (i := 11) rfl
theorem d_M_unit_24 : decode mM_unit.2.1 24 = .ok (.invokevirtual 283, 3) := dq_get dd_M_unit_0 (i := 12) rfl
theorem d_M_unit_27 : decode mM_unit.2.1 27 = .ok (.ifCond .eq 26, 3) := dq_get dd_M_unit_0 (i := 13) rfl
theorem d_M_unit_30 : decode mM_unit.2.1 30 = .ok (.aload_n 0, 1) := dq_get dd_M_unit_0 (i := 14) rfl
theorem d_M_unit_31 : decode mM_unit.2.1 31 = .ok (.getfield 274, 3) := dq_get dd_M_unit_0 (i := 15) rfl
theorem d_M_unit_34 : decode mM_unit.2.1 34 = .ok (.bipush 6, 2) := dq_get dd_M_unit_0 (i := 16) rfl
theorem d_M_unit_36 : decode mM_unit.2.1 36 = .ok (.if_icmp .le 8, 3) := dq_get dd_M_unit_0 (i := 17) rfl
theorem d_M_unit_39 : decode mM_unit.2.1 39 = .ok (.aload_n 0, 1) := dq_get dd_M_unit_0 (i := 18) rfl
theorem d_M_unit_40 : decode mM_unit.2.1 40 = .ok (.iconst 2, 1) := dq_get dd_M_unit_0 (i := 19) rfl
theorem d_M_unit_41 : decode mM_unit.2.1 41 = .ok (.invokevirtual 238, 3) := dq_get dd_M_unit_0 (i := 20) rfl
theorem d_M_unit_44 : decode mM_unit.2.1 44 = .ok (.aload_n 0, 1) := dq_get dd_M_unit_0 (i := 21) rfl
theorem d_M_unit_45 : decode mM_unit.2.1 45 = .ok (.bipush 21, 2) := dq_get dd_M_unit_0 (i := 22) rfl
theorem d_M_unit_47 : decode mM_unit.2.1 47 = .ok (.invokevirtual 286, 3) := dq_get dd_M_unit_0 (i := 23) rfl
theorem d_M_unit_50 : decode mM_unit.2.1 50 = .ok (.goto (-48), 3) := dq_get dd_M_unit_0 (i := 24) rfl
theorem d_M_unit_53 : decode mM_unit.2.1 53 = .ok (.aload_n 0, 1) := dq_get dd_M_unit_0 (i := 25) rfl
theorem d_M_unit_54 : decode mM_unit.2.1 54 = .ok (.getfield 172, 3) := dq_get dd_M_unit_0 (i := 26) rfl
theorem d_M_unit_57 : decode mM_unit.2.1 57 = .ok (.bipush 40, 2) := dq_get dd_M_unit_0 (i := 27) rfl
theorem d_M_unit_59 : decode mM_unit.2.1 59 = .ok (.if_icmp .ne 37, 3) := dq_get dd_M_unit_0 (i := 28) rfl
theorem d_M_unit_62 : decode mM_unit.2.1 62 = .ok (.aload_n 0, 1) := dq_get dd_M_unit_0 (i := 29) rfl
theorem d_M_unit_63 : decode mM_unit.2.1 63 = .ok (.invokevirtual 289, 3) := dq_get dd_M_unit_0 (i := 30) rfl
theorem d_M_unit_66 : decode mM_unit.2.1 66 = .ok (.ifCond .ne 12, 3) := dq_get dd_M_unit_0 (i := 31) rfl
theorem dd_M_unit_32 : dq mM_unit.2.1 [(69, .aload_n 0, 1), (70, .getfield 274, 3), (73, .bipush 6, 2), (75, .if_icmp .le 8, 3), (78, .aload_n 0, 1), (79, .iconst 2, 1), (80, .invokevirtual 238, 3), (83, .aload_n 0, 1), (84, .invokevirtual 292, 3), (87, .aload_n 0, 1), (88, .bipush 20, 2), (90, .invokevirtual 286, 3), (93, .goto (-91), 3), (96, .iconst 0, 1), (97, .istore_n 1, 1), (98, .goto (-96), 3), (101, .aload_n 0, 1), (102, .getfield 185, 3), (105, .ifCond .le 4, 3), (108, .return_, 1), (109, .aload_n 0, 1), (110, .invokevirtual 295, 3), (113, .istore_n 2, 1), (114, .aload_n 0, 1), (115, .getfield 172, 3), (118, .iconst 2, 1), (119, .if_icmp .eq 7, 3), (122, .iload_n 2, 1), (123, .ifCond .lt 10, 3), (126, .aload_n 0, 1), (127, .invokevirtual 289, 3), (130, .ifCond .eq 8, 3)] = true := by decide +kernel
theorem d_M_unit_69 : decode mM_unit.2.1 69 = .ok (.aload_n 0, 1) := dq_get dd_M_unit_32 (i := 0) rfl
theorem d_M_unit_70 : decode mM_unit.2.1 70 = .ok (.getfield 274, 3) := dq_get dd_M_unit_32 (i := 1) rfl
theorem d_M_unit_73 : decode mM_unit.2.1 73 = .ok (.bipush 6, 2) := dq_get dd_M_unit_32 (i := 2) rfl
theorem d_M_unit_75 : decode mM_unit.2.1 75 = .ok (.if_icmp .le 8, 3) := dq_get dd_M_unit_32 (i := 3) rfl
theorem d_M_unit_78 : decode mM_unit.2.1 78 = .ok (.aload_n 0, 1) := dq_get dd_M_unit_32 (i := 4) rfl
theorem d_M_unit_79 : decode mM_unit.2.1 79 = .ok (.iconst 2, 1) := dq_get dd_M_unit_32 (i := 5) rfl
theorem d_M_unit_80 : decode mM_unit.2.1 80 = .ok (.invokevirtual 238, 3) := dq_get dd_M_unit_32 (i := 6) rfl
theorem d_M_unit_83 : decode mM_unit.2.1 83 = .ok (.aload_n 0, 1) := dq_get dd_M_unit_32 (i := 7) rfl
theorem d_M_unit_84 : decode mM_unit.2.1 84 = .ok (.invokevirtual 292, 3) := dq_get dd_M_unit_32 (i := 8) rfl
theorem d_M_unit_87 : decode mM_unit.2.1 87 = .ok (.aload_n 0, 1) := dq_get dd_M_unit_32 (i := 9) rfl
theorem d_M_unit_88 : decode mM_unit.2.1 88 = .ok (.bipush 20, 2) := dq_get dd_M_unit_32 (i := 10) rfl
theorem d_M_unit_90 : decode mM_unit.2.1 90 = .ok (.invokevirtual 286, 3) := dq_get dd_M_unit_32 (i := 11) rfl
theorem d_M_unit_93 : decode mM_unit.2.1 93 = .ok (.goto (-91), 3) := dq_get dd_M_unit_32 (i := 12) rfl
theorem d_M_unit_96 : decode mM_unit.2.1 96 = .ok (.iconst 0, 1) := dq_get dd_M_unit_32 (i := 13) rfl
theorem d_M_unit_97 : decode mM_unit.2.1 97 = .ok (.istore_n 1, 1) := dq_get dd_M_unit_32 (i := 14) rfl
theorem d_M_unit_98 : decode mM_unit.2.1 98 = .ok (.goto (-96), 3) := dq_get dd_M_unit_32 (i := 15) rfl
theorem d_M_unit_101 : decode mM_unit.2.1 101 = .ok (.aload_n 0, 1) := dq_get dd_M_unit_32 (i := 16) rfl
theorem d_M_unit_102 : decode mM_unit.2.1 102 = .ok (.getfield 185, 3) := dq_get dd_M_unit_32 (i := 17) rfl
theorem d_M_unit_105 : decode mM_unit.2.1 105 = .ok (.ifCond .le 4, 3) := dq_get dd_M_unit_32 (i := 18) rfl
theorem d_M_unit_108 : decode mM_unit.2.1 108 = .ok (.return_, 1) := dq_get dd_M_unit_32 (i := 19) rfl
theorem d_M_unit_109 : decode mM_unit.2.1 109 = .ok (.aload_n 0, 1) := dq_get dd_M_unit_32 (i := 20) rfl
theorem d_M_unit_110 : decode mM_unit.2.1 110 = .ok (.invokevirtual 295, 3) := dq_get dd_M_unit_32 (i := 21) rfl
theorem d_M_unit_113 : decode mM_unit.2.1 113 = .ok (.istore_n 2, 1) := dq_get dd_M_unit_32 (i := 22) rfl
theorem d_M_unit_114 : decode mM_unit.2.1 114 = .ok (.aload_n 0, 1) := dq_get dd_M_unit_32 (i := 23) rfl
theorem d_M_unit_115 : decode mM_unit.2.1 115 = .ok (.getfield 172, 3) := dq_get dd_M_unit_32 (i := 24) rfl
theorem d_M_unit_118 : decode mM_unit.2.1 118 = .ok (.iconst 2, 1) := dq_get dd_M_unit_32 (i := 25) rfl
theorem d_M_unit_119 : decode mM_unit.2.1 119 = .ok (.if_icmp .eq 7, 3) := dq_get dd_M_unit_32 (i := 26) rfl
theorem d_M_unit_122 : decode mM_unit.2.1 122 = .ok (.iload_n 2, 1) := dq_get dd_M_unit_32 (i := 27) rfl
theorem d_M_unit_123 : decode mM_unit.2.1 123 = .ok (.ifCond .lt 10, 3) := dq_get dd_M_unit_32 (i := 28) rfl
theorem d_M_unit_126 : decode mM_unit.2.1 126 = .ok (.aload_n 0, 1) := dq_get dd_M_unit_32 (i := 29) rfl
theorem d_M_unit_127 : decode mM_unit.2.1 127 = .ok (.invokevirtual 289, 3) := dq_get dd_M_unit_32 (i := 30) rfl
theorem d_M_unit_130 : decode mM_unit.2.1 130 = .ok (.ifCond .eq 8, 3) := dq_get dd_M_unit_32 (i := 31) rfl
theorem dd_M_unit_64 : dq mM_unit.2.1 [(133, .aload_n 0, 1), (134, .iconst 2, 1), (135, .invokevirtual 238, 3), (138, .aload_n 0, 1), (139, .getfield 185, 3), (142, .ifCond .le 4, 3), (145, .return_, 1), (146, .aload_n 0, 1), (147, .invokevirtual 292, 3), (150, .aload_n 0, 1), (151, .iload_n 2, 1), (152, .ifCond .ge 7, 3), (155, .iconst 0, 1), (156, .goto 4, 3), (159, .iconst 1, 1), (160, .iload_n 2, 1), (161, .ifCond .ge 10, 3), (164, .aload_n 0, 1), (165, .getfield 169, 3), (168, .goto 4, 3), (171, .iload_n 2, 1), (172, .invokevirtual 270, 3), (175, .aload_n 0, 1), (176, .invokevirtual 241, 3), (179, .return_, 1)] = true := by decide +kernel
theorem d_M_unit_133 : decode mM_unit.2.1 133 = .ok (.aload_n 0, 1) := dq_get dd_M_unit_64 (i := 0) rfl
theorem d_M_unit_134 : decode mM_unit.2.1 134 = .ok (.iconst 2, 1) := dq_get dd_M_unit_64 (i := 1) rfl
theorem d_M_unit_135 : decode mM_unit.2.1 135 = .ok (.invokevirtual 238, 3) := dq_get dd_M_unit_64 (i := 2) rfl
theorem d_M_unit_138 : decode mM_unit.2.1 138 = .ok (.aload_n 0, 1) := dq_get dd_M_unit_64 (i := 3) rfl
theorem d_M_unit_139 : decode mM_unit.2.1 139 = .ok (.getfield 185, 3) := dq_get dd_M_unit_64 (i := 4) rfl
theorem d_M_unit_142 : decode mM_unit.2.1 142 = .ok (.ifCond .le 4, 3) := dq_get dd_M_unit_64 (i := 5) rfl
theorem d_M_unit_145 : decode mM_unit.2.1 145 = .ok (.return_, 1) := dq_get dd_M_unit_64 (i := 6) rfl
theorem d_M_unit_146 : decode mM_unit.2.1 146 = .ok (.aload_n 0, 1) := dq_get dd_M_unit_64 (i := 7) rfl
theorem d_M_unit_147 : decode mM_unit.2.1 147 = .ok (.invokevirtual 292, 3) := dq_get dd_M_unit_64 (i := 8) rfl
theorem d_M_unit_150 : decode mM_unit.2.1 150 = .ok (.aload_n 0, 1) := dq_get dd_M_unit_64 (i := 9) rfl
theorem d_M_unit_151 : decode mM_unit.2.1 151 = .ok (.iload_n 2, 1) := dq_get dd_M_unit_64 (i := 10) rfl
theorem d_M_unit_152 : decode mM_unit.2.1 152 = .ok (.ifCond .ge 7, 3) := dq_get dd_M_unit_64 (i := 11) rfl
theorem d_M_unit_155 : decode mM_unit.2.1 155 = .ok (.iconst 0, 1) := dq_get dd_M_unit_64 (i := 12) rfl
theorem d_M_unit_156 : decode mM_unit.2.1 156 = .ok (.goto 4, 3) := dq_get dd_M_unit_64 (i := 13) rfl
theorem d_M_unit_159 : decode mM_unit.2.1 159 = .ok (.iconst 1, 1) := dq_get dd_M_unit_64 (i := 14) rfl
theorem d_M_unit_160 : decode mM_unit.2.1 160 = .ok (.iload_n 2, 1) := dq_get dd_M_unit_64 (i := 15) rfl
theorem d_M_unit_161 : decode mM_unit.2.1 161 = .ok (.ifCond .ge 10, 3) := dq_get dd_M_unit_64 (i := 16) rfl
theorem d_M_unit_164 : decode mM_unit.2.1 164 = .ok (.aload_n 0, 1) := dq_get dd_M_unit_64 (i := 17) rfl
theorem d_M_unit_165 : decode mM_unit.2.1 165 = .ok (.getfield 169, 3) := dq_get dd_M_unit_64 (i := 18) rfl
theorem d_M_unit_168 : decode mM_unit.2.1 168 = .ok (.goto 4, 3) := dq_get dd_M_unit_64 (i := 19) rfl
theorem d_M_unit_171 : decode mM_unit.2.1 171 = .ok (.iload_n 2, 1) := dq_get dd_M_unit_64 (i := 20) rfl
theorem d_M_unit_172 : decode mM_unit.2.1 172 = .ok (.invokevirtual 270, 3) := dq_get dd_M_unit_64 (i := 21) rfl
theorem d_M_unit_175 : decode mM_unit.2.1 175 = .ok (.aload_n 0, 1) := dq_get dd_M_unit_64 (i := 22) rfl
theorem d_M_unit_176 : decode mM_unit.2.1 176 = .ok (.invokevirtual 241, 3) := dq_get dd_M_unit_64 (i := 23) rfl
theorem d_M_unit_179 : decode mM_unit.2.1 179 = .ok (.return_, 1) := dq_get dd_M_unit_64 (i := 24) rfl
theorem dd_M_mayNot_0 : dq mM_mayNot.2.1 [(0, .aload_n 0, 1), (1, .getfield 264, 3), (4, .ifCond .eq 37, 3), (7, .aload_n 0, 1), (8, .getfield 33, 3), (11, .aload_n 0, 1), (12, .getfield 264, 3), (15, .iconst 1, 1), (16, .isub, 1), (17, .iaload, 1), (18, .bipush 20, 2), (20, .if_icmp .eq 21, 3), (23, .aload_n 0, 1), (24, .getfield 33, 3), (27, .aload_n 0, 1), (28, .getfield 264, 3), (31, .iconst 1, 1), (32, .isub, 1), (33, .iaload, 1), (34, .invokestatic 267, 3), (37, .iconst 4, 1), (38, .if_icmp .ge 7, 3), (41, .iconst 1, 1), (42, .goto 4, 3), (45, .iconst 0, 1), (46, .ireturn, 1)] = true := by decide +kernel
theorem d_M_mayNot_0 : decode mM_mayNot.2.1 0 = .ok (.aload_n 0, 1) := dq_get dd_M_mayNot_0 (i := 0) rfl
theorem d_M_mayNot_1 : decode mM_mayNot.2.1 1 = .ok (.getfield 264, 3) := dq_get dd_M_mayNot_0 (i := 1) rfl
theorem d_M_mayNot_4 : decode mM_mayNot.2.1 4 = .ok (.ifCond .eq 37, 3) := dq_get dd_M_mayNot_0 (i := 2) rfl
theorem d_M_mayNot_7 : decode mM_mayNot.2.1 7 = .ok (.aload_n 0, 1) := dq_get dd_M_mayNot_0 (i := 3) rfl
theorem d_M_mayNot_8 : decode mM_mayNot.2.1 8 = .ok (.getfield 33, 3) := dq_get dd_M_mayNot_0 (i := 4) rfl
theorem d_M_mayNot_11 : decode mM_mayNot.2.1 11 = .ok (.aload_n 0, 1) := dq_get dd_M_mayNot_0 (i := 5) rfl
theorem d_M_mayNot_12 : decode mM_mayNot.2.1 12 = .ok (.getfield 264, 3) := dq_get dd_M_mayNot_0 (i := 6) rfl
theorem d_M_mayNot_15 : decode mM_mayNot.2.1 15 = .ok (.iconst 1, 1) := dq_get dd_M_mayNot_0 (i := 7) rfl
theorem d_M_mayNot_16 : decode mM_mayNot.2.1 16 = .ok (.isub, 1) := dq_get dd_M_mayNot_0 (i := 8) rfl
theorem d_M_mayNot_17 : decode mM_mayNot.2.1 17 = .ok (.iaload, 1) := dq_get dd_M_mayNot_0 (i := 9) rfl
theorem d_M_mayNot_18 : decode mM_mayNot.2.1 18 = .ok (.bipush 20, 2) := dq_get dd_M_mayNot_0 (i := 10) rfl
theorem d_M_mayNot_20 : decode mM_mayNot.2.1 20 = .ok (.if_icmp .eq 21, 3) := dq_get dd_M_mayNot_0 (i := 11) rfl
theorem d_M_mayNot_23 : decode mM_mayNot.2.1 23 = .ok (.aload_n 0, 1) := dq_get dd_M_mayNot_0 (i := 12) rfl
theorem d_M_mayNot_24 : decode mM_mayNot.2.1 24 = .ok (.getfield 33, 3) := dq_get dd_M_mayNot_0 (i := 13) rfl
theorem d_M_mayNot_27 : decode mM_mayNot.2.1 27 = .ok (.aload_n 0, 1) := dq_get dd_M_mayNot_0 (i := 14) rfl
theorem d_M_mayNot_28 : decode mM_mayNot.2.1 28 = .ok (.getfield 264, 3) := dq_get dd_M_mayNot_0 (i := 15) rfl
theorem d_M_mayNot_31 : decode mM_mayNot.2.1 31 = .ok (.iconst 1, 1) := dq_get dd_M_mayNot_0 (i := 16) rfl
theorem d_M_mayNot_32 : decode mM_mayNot.2.1 32 = .ok (.isub, 1) := dq_get dd_M_mayNot_0 (i := 17) rfl
theorem d_M_mayNot_33 : decode mM_mayNot.2.1 33 = .ok (.iaload, 1) := dq_get dd_M_mayNot_0 (i := 18) rfl
theorem d_M_mayNot_34 : decode mM_mayNot.2.1 34 = .ok (.invokestatic 267, 3) := dq_get dd_M_mayNot_0 (i := 19) rfl
theorem d_M_mayNot_37 : decode mM_mayNot.2.1 37 = .ok (.iconst 4, 1) := dq_get dd_M_mayNot_0 (i := 20) rfl
theorem d_M_mayNot_38 : decode mM_mayNot.2.1 38 = .ok (.if_icmp .ge 7, 3) := dq_get dd_M_mayNot_0 (i := 21) rfl
theorem d_M_mayNot_41 : decode mM_mayNot.2.1 41 = .ok (.iconst 1, 1) := dq_get dd_M_mayNot_0 (i := 22) rfl
theorem d_M_mayNot_42 : decode mM_mayNot.2.1 42 = .ok (.goto 4, 3) := dq_get dd_M_mayNot_0 (i := 23) rfl
theorem d_M_mayNot_45 : decode mM_mayNot.2.1 45 = .ok (.iconst 0, 1) := dq_get dd_M_mayNot_0 (i := 24) rfl
theorem d_M_mayNot_46 : decode mM_mayNot.2.1 46 = .ok (.ireturn, 1) := dq_get dd_M_mayNot_0 (i := 25) rfl
theorem dd_M_tight_0 : dq mM_tight.2.1 [(0, .iload_n 0, 1), (1, .lookupswitch 85 #[(21, 79), (38, 77), (43, 83), (45, 83), (60, 81), (61, 81), (62, 81), (124, 75)], 75), (76, .iconst 1, 1), (77, .ireturn, 1), (78, .iconst 2, 1), (79, .ireturn, 1), (80, .iconst 3, 1), (81, .ireturn, 1), (82, .iconst 4, 1), (83, .ireturn, 1), (84, .iconst 5, 1), (85, .ireturn, 1), (86, .bipush 6, 2), (88, .ireturn, 1)] = true := by decide +kernel
theorem d_M_tight_0 : decode mM_tight.2.1 0 = .ok (.iload_n 0, 1) := dq_get dd_M_tight_0 (i := 0) rfl
theorem d_M_tight_1 : decode mM_tight.2.1 1 = .ok (.lookupswitch 85 #[(21, 79), (38, 77), (43, 83), (45, 83), (60, 81), (61, 81), (62, 81), (124, 75)], 75) := dq_get dd_M_tight_0 (i := 1) rfl
theorem d_M_tight_76 : decode mM_tight.2.1 76 = .ok (.iconst 1, 1) := dq_get dd_M_tight_0 (i := 2) rfl
theorem d_M_tight_77 : decode mM_tight.2.1 77 = .ok (.ireturn, 1) := dq_get dd_M_tight_0 (i := 3) rfl
theorem d_M_tight_78 : decode mM_tight.2.1 78 = .ok (.iconst 2, 1) := dq_get dd_M_tight_0 (i := 4) rfl
theorem d_M_tight_79 : decode mM_tight.2.1 79 = .ok (.ireturn, 1) := dq_get dd_M_tight_0 (i := 5) rfl
theorem d_M_tight_80 : decode mM_tight.2.1 80 = .ok (.iconst 3, 1) := dq_get dd_M_tight_0 (i := 6) rfl
theorem d_M_tight_81 : decode mM_tight.2.1 81 = .ok (.ireturn, 1) := dq_get dd_M_tight_0 (i := 7) rfl
theorem d_M_tight_82 : decode mM_tight.2.1 82 = .ok (.iconst 4, 1) := dq_get dd_M_tight_0 (i := 8) rfl
theorem d_M_tight_83 : decode mM_tight.2.1 83 = .ok (.ireturn, 1) := dq_get dd_M_tight_0 (i := 9) rfl
theorem d_M_tight_84 : decode mM_tight.2.1 84 = .ok (.iconst 5, 1) := dq_get dd_M_tight_0 (i := 10) rfl
theorem d_M_tight_85 : decode mM_tight.2.1 85 = .ok (.ireturn, 1) := dq_get dd_M_tight_0 (i := 11) rfl
theorem d_M_tight_86 : decode mM_tight.2.1 86 = .ok (.bipush 6, 2) := dq_get dd_M_tight_0 (i := 12) rfl
theorem d_M_tight_88 : decode mM_tight.2.1 88 = .ok (.ireturn, 1) := dq_get dd_M_tight_0 (i := 13) rfl
theorem dd_M_openUp_0 : dq mM_openUp.2.1 [(0, .aload_n 0, 1), (1, .getfield 33, 3), (4, .aload_n 0, 1), (5, .getfield 264, 3), (8, .iload_n 1, 1), (9, .iastore, 1), (10, .aload_n 0, 1), (11, .dup, 1), (12, .getfield 264, 3), (15, .iconst 1, 1), (16, .iadd, 1), (17, .putfield 264, 3), (20, .aload_n 0, 1), (21, .dup, 1), (22, .getfield 274, 3), (25, .iconst 1, 1), (26, .iadd, 1), (27, .putfield 274, 3), (30, .aload_n 0, 1), (31, .getfield 185, 3), (34, .ifCond .ne 7, 3), (37, .aload_n 0, 1), (38, .invokevirtual 241, 3), (41, .return_, 1)] = true := by decide +kernel
theorem d_M_openUp_0 : decode mM_openUp.2.1 0 = .ok (.aload_n 0, 1) := dq_get dd_M_openUp_0 (i := 0) rfl
theorem d_M_openUp_1 : decode mM_openUp.2.1 1 = .ok (.getfield 33, 3) := dq_get dd_M_openUp_0 (i := 1) rfl
theorem d_M_openUp_4 : decode mM_openUp.2.1 4 = .ok (.aload_n 0, 1) := dq_get dd_M_openUp_0 (i := 2) rfl
theorem d_M_openUp_5 : decode mM_openUp.2.1 5 = .ok (.getfield 264, 3) := dq_get dd_M_openUp_0 (i := 3) rfl
theorem d_M_openUp_8 : decode mM_openUp.2.1 8 = .ok (.iload_n 1, 1) := dq_get dd_M_openUp_0 (i := 4) rfl
theorem d_M_openUp_9 : decode mM_openUp.2.1 9 = .ok (.iastore, 1) := dq_get dd_M_openUp_0 (i := 5) rfl
theorem d_M_openUp_10 : decode mM_openUp.2.1 10 = .ok (.aload_n 0, 1) := dq_get dd_M_openUp_0 (i := 6) rfl
theorem d_M_openUp_11 : decode mM_openUp.2.1 11 = .ok (.dup, 1) := dq_get dd_M_openUp_0 (i := 7) rfl
theorem d_M_openUp_12 : decode mM_openUp.2.1 12 = .ok (.getfield 264, 3) := dq_get dd_M_openUp_0 (i := 8) rfl
theorem d_M_openUp_15 : decode mM_openUp.2.1 15 = .ok (.iconst 1, 1) := dq_get dd_M_openUp_0 (i := 9) rfl
theorem d_M_openUp_16 : decode mM_openUp.2.1 16 = .ok (.iadd, 1) := dq_get dd_M_openUp_0 (i := 10) rfl
theorem d_M_openUp_17 : decode mM_openUp.2.1 17 = .ok (.putfield 264, 3) := dq_get dd_M_openUp_0 (i := 11) rfl
theorem d_M_openUp_20 : decode mM_openUp.2.1 20 = .ok (.aload_n 0, 1) := dq_get dd_M_openUp_0 (i := 12) rfl
theorem d_M_openUp_21 : decode mM_openUp.2.1 21 = .ok (.dup, 1) := dq_get dd_M_openUp_0 (i := 13) rfl
theorem d_M_openUp_22 : decode mM_openUp.2.1 22 = .ok (.getfield 274, 3) := dq_get dd_M_openUp_0 (i := 14) rfl
theorem d_M_openUp_25 : decode mM_openUp.2.1 25 = .ok (.iconst 1, 1) := dq_get dd_M_openUp_0 (i := 15) rfl
theorem d_M_openUp_26 : decode mM_openUp.2.1 26 = .ok (.iadd, 1) := dq_get dd_M_openUp_0 (i := 16) rfl
theorem d_M_openUp_27 : decode mM_openUp.2.1 27 = .ok (.putfield 274, 3) := dq_get dd_M_openUp_0 (i := 17) rfl
theorem d_M_openUp_30 : decode mM_openUp.2.1 30 = .ok (.aload_n 0, 1) := dq_get dd_M_openUp_0 (i := 18) rfl
theorem d_M_openUp_31 : decode mM_openUp.2.1 31 = .ok (.getfield 185, 3) := dq_get dd_M_openUp_0 (i := 19) rfl
theorem d_M_openUp_34 : decode mM_openUp.2.1 34 = .ok (.ifCond .ne 7, 3) := dq_get dd_M_openUp_0 (i := 20) rfl
theorem d_M_openUp_37 : decode mM_openUp.2.1 37 = .ok (.aload_n 0, 1) := dq_get dd_M_openUp_0 (i := 21) rfl
theorem d_M_openUp_38 : decode mM_openUp.2.1 38 = .ok (.invokevirtual 241, 3) := dq_get dd_M_openUp_0 (i := 22) rfl
theorem d_M_openUp_41 : decode mM_openUp.2.1 41 = .ok (.return_, 1) := dq_get dd_M_openUp_0 (i := 23) rfl
theorem dd_M_isFull_0 : dq mM_isFull.2.1 [(0, .aload_n 0, 1), (1, .getfield 277, 3), (4, .bipush 60, 2), (6, .if_icmp .eq 12, 3), (9, .aload_n 0, 1), (10, .getfield 280, 3), (13, .bipush 30, 2), (15, .if_icmp .ne 7, 3), (18, .iconst 1, 1), (19, .goto 4, 3), (22, .iconst 0, 1), (23, .ireturn, 1)] = true := by decide +kernel
theorem d_M_isFull_0 : decode mM_isFull.2.1 0 = .ok (.aload_n 0, 1) := dq_get dd_M_isFull_0 (i := 0) rfl
theorem d_M_isFull_1 : decode mM_isFull.2.1 1 = .ok (.getfield 277, 3) := dq_get dd_M_isFull_0 (i := 1) rfl
theorem d_M_isFull_4 : decode mM_isFull.2.1 4 = .ok (.bipush 60, 2) := dq_get dd_M_isFull_0 (i := 2) rfl
theorem d_M_isFull_6 : decode mM_isFull.2.1 6 = .ok (.if_icmp .eq 12, 3) := dq_get dd_M_isFull_0 (i := 3) rfl
theorem d_M_isFull_9 : decode mM_isFull.2.1 9 = .ok (.aload_n 0, 1) := dq_get dd_M_isFull_0 (i := 4) rfl
theorem d_M_isFull_10 : decode mM_isFull.2.1 10 = .ok (.getfield 280, 3) := dq_get dd_M_isFull_0 (i := 5) rfl
theorem d_M_isFull_13 : decode mM_isFull.2.1 13 = .ok (.bipush 30, 2) := dq_get dd_M_isFull_0 (i := 6) rfl
theorem d_M_isFull_15 : decode mM_isFull.2.1 15 = .ok (.if_icmp .ne 7, 3) := dq_get dd_M_isFull_0 (i := 7) rfl
theorem d_M_isFull_18 : decode mM_isFull.2.1 18 = .ok (.iconst 1, 1) := dq_get dd_M_isFull_0 (i := 8) rfl
theorem d_M_isFull_19 : decode mM_isFull.2.1 19 = .ok (.goto 4, 3) := dq_get dd_M_isFull_0 (i := 9) rfl
theorem d_M_isFull_22 : decode mM_isFull.2.1 22 = .ok (.iconst 0, 1) := dq_get dd_M_isFull_0 (i := 10) rfl
theorem d_M_isFull_23 : decode mM_isFull.2.1 23 = .ok (.ireturn, 1) := dq_get dd_M_isFull_0 (i := 11) rfl
theorem dd_M_countUnit_0 : dq mM_countUnit.2.1 [(0, .aload_n 0, 1), (1, .dup, 1), (2, .getfield 277, 3), (5, .iconst 1, 1), (6, .iadd, 1), (7, .putfield 277, 3), (10, .aload_n 0, 1), (11, .dup, 1), (12, .getfield 280, 3), (15, .iconst 1, 1), (16, .iadd, 1), (17, .putfield 280, 3), (20, .return_, 1)] = true := by decide +kernel
theorem d_M_countUnit_0 : decode mM_countUnit.2.1 0 = .ok (.aload_n 0, 1) := dq_get dd_M_countUnit_0 (i := 0) rfl
theorem d_M_countUnit_1 : decode mM_countUnit.2.1 1 = .ok (.dup, 1) := dq_get dd_M_countUnit_0 (i := 1) rfl
theorem d_M_countUnit_2 : decode mM_countUnit.2.1 2 = .ok (.getfield 277, 3) := dq_get dd_M_countUnit_0 (i := 2) rfl
theorem d_M_countUnit_5 : decode mM_countUnit.2.1 5 = .ok (.iconst 1, 1) := dq_get dd_M_countUnit_0 (i := 3) rfl
theorem d_M_countUnit_6 : decode mM_countUnit.2.1 6 = .ok (.iadd, 1) := dq_get dd_M_countUnit_0 (i := 4) rfl
theorem d_M_countUnit_7 : decode mM_countUnit.2.1 7 = .ok (.putfield 277, 3) := dq_get dd_M_countUnit_0 (i := 5) rfl
theorem d_M_countUnit_10 : decode mM_countUnit.2.1 10 = .ok (.aload_n 0, 1) := dq_get dd_M_countUnit_0 (i := 6) rfl
theorem d_M_countUnit_11 : decode mM_countUnit.2.1 11 = .ok (.dup, 1) := dq_get dd_M_countUnit_0 (i := 7) rfl
theorem d_M_countUnit_12 : decode mM_countUnit.2.1 12 = .ok (.getfield 280, 3) := dq_get dd_M_countUnit_0 (i := 8) rfl
theorem d_M_countUnit_15 : decode mM_countUnit.2.1 15 = .ok (.iconst 1, 1) := dq_get dd_M_countUnit_0 (i := 9) rfl
theorem d_M_countUnit_16 : decode mM_countUnit.2.1 16 = .ok (.iadd, 1) := dq_get dd_M_countUnit_0 (i := 10) rfl
theorem d_M_countUnit_17 : decode mM_countUnit.2.1 17 = .ok (.putfield 280, 3) := dq_get dd_M_countUnit_0 (i := 11) rfl
theorem d_M_countUnit_20 : decode mM_countUnit.2.1 20 = .ok (.return_, 1) := dq_get dd_M_countUnit_0 (i := 12) rfl
theorem dd_M_asked_0 : dq mM_asked.2.1 [(0, .aload_n 0, 1), (1, .getfield 172, 3), (4, .iconst 1, 1), (5, .if_icmp .eq 5, 3), (8, .iconst (-1), 1), (9, .ireturn, 1), (10, .aload_n 0, 1), (11, .getfield 165, 3), (14, .ldc2_w 218, 3), (17, .lcmp, 1), (18, .ifCond .ne 5, 3), (21, .iconst 0, 1), (22, .ireturn, 1), (23, .aload_n 0, 1), (24, .getfield 165, 3), (27, .ldc2_w 202, 3), (30, .lcmp, 1), (31, .ifCond .ne 5, 3), (34, .iconst 1, 1), (35, .ireturn, 1), (36, .aload_n 0, 1), (37, .getfield 165, 3), (40, .ldc2_w 204, 3), (43, .lcmp, 1), (44, .ifCond .ne 5, 3), (47, .iconst 2, 1), (48, .ireturn, 1), (49, .aload_n 0, 1), (50, .getfield 165, 3), (53, .ldc2_w 206, 3), (56, .lcmp, 1), (57, .ifCond .ne 5, 3)] = true := by decide +kernel
theorem d_M_asked_0 : decode mM_asked.2.1 0 = .ok (.aload_n 0, 1) := dq_get dd_M_asked_0 (i := 0) rfl
theorem d_M_asked_1 : decode mM_asked.2.1 1 = .ok (.getfield 172, 3) := dq_get dd_M_asked_0 (i := 1) rfl
theorem d_M_asked_4 : decode mM_asked.2.1 4 = .ok (.iconst 1, 1) := dq_get dd_M_asked_0 (i := 2) rfl
theorem d_M_asked_5 : decode mM_asked.2.1 5 = .ok (.if_icmp .eq 5, 3) := dq_get dd_M_asked_0 (i := 3) rfl
theorem d_M_asked_8 : decode mM_asked.2.1 8 = .ok (.iconst (-1), 1) := dq_get dd_M_asked_0 (i := 4) rfl
theorem d_M_asked_9 : decode mM_asked.2.1 9 = .ok (.ireturn, 1) := dq_get dd_M_asked_0 (i := 5) rfl
theorem d_M_asked_10 : decode mM_asked.2.1 10 = .ok (.aload_n 0, 1) := dq_get dd_M_asked_0 (i := 6) rfl
theorem d_M_asked_11 : decode mM_asked.2.1 11 = .ok (.getfield 165, 3) := dq_get dd_M_asked_0 (i := 7) rfl
theorem d_M_asked_14 : decode mM_asked.2.1 14 = .ok (.ldc2_w 218, 3) := dq_get dd_M_asked_0 (i := 8) rfl
theorem d_M_asked_17 : decode mM_asked.2.1 17 = .ok (.lcmp, 1) := dq_get dd_M_asked_0 (i := 9) rfl
theorem d_M_asked_18 : decode mM_asked.2.1 18 = .ok (.ifCond .ne 5, 3) := dq_get dd_M_asked_0 (i := 10) rfl
theorem d_M_asked_21 : decode mM_asked.2.1 21 = .ok (.iconst 0, 1) := dq_get dd_M_asked_0 (i := 11) rfl
theorem d_M_asked_22 : decode mM_asked.2.1 22 = .ok (.ireturn, 1) := dq_get dd_M_asked_0 (i := 12) rfl
theorem d_M_asked_23 : decode mM_asked.2.1 23 = .ok (.aload_n 0, 1) := dq_get dd_M_asked_0 (i := 13) rfl
theorem d_M_asked_24 : decode mM_asked.2.1 24 = .ok (.getfield 165, 3) := dq_get dd_M_asked_0 (i := 14) rfl
theorem d_M_asked_27 : decode mM_asked.2.1 27 = .ok (.ldc2_w 202, 3) := dq_get dd_M_asked_0 (i := 15) rfl
theorem d_M_asked_30 : decode mM_asked.2.1 30 = .ok (.lcmp, 1) := dq_get dd_M_asked_0 (i := 16) rfl
theorem d_M_asked_31 : decode mM_asked.2.1 31 = .ok (.ifCond .ne 5, 3) := dq_get dd_M_asked_0 (i := 17) rfl
theorem d_M_asked_34 : decode mM_asked.2.1 34 = .ok (.iconst 1, 1) := dq_get dd_M_asked_0 (i := 18) rfl
theorem d_M_asked_35 : decode mM_asked.2.1 35 = .ok (.ireturn, 1) := dq_get dd_M_asked_0 (i := 19) rfl
theorem d_M_asked_36 : decode mM_asked.2.1 36 = .ok (.aload_n 0, 1) := dq_get dd_M_asked_0 (i := 20) rfl
theorem d_M_asked_37 : decode mM_asked.2.1 37 = .ok (.getfield 165, 3) := dq_get dd_M_asked_0 (i := 21) rfl
theorem d_M_asked_40 : decode mM_asked.2.1 40 = .ok (.ldc2_w 204, 3) := dq_get dd_M_asked_0 (i := 22) rfl
theorem d_M_asked_43 : decode mM_asked.2.1 43 = .ok (.lcmp, 1) := dq_get dd_M_asked_0 (i := 23) rfl
theorem d_M_asked_44 : decode mM_asked.2.1 44 = .ok (.ifCond .ne 5, 3) := dq_get dd_M_asked_0 (i := 24) rfl
theorem d_M_asked_47 : decode mM_asked.2.1 47 = .ok (.iconst 2, 1) := dq_get dd_M_asked_0 (i := 25) rfl
theorem d_M_asked_48 : decode mM_asked.2.1 48 = .ok (.ireturn, 1) := dq_get dd_M_asked_0 (i := 26) rfl
theorem d_M_asked_49 : decode mM_asked.2.1 49 = .ok (.aload_n 0, 1) := dq_get dd_M_asked_0 (i := 27) rfl
theorem d_M_asked_50 : decode mM_asked.2.1 50 = .ok (.getfield 165, 3) := dq_get dd_M_asked_0 (i := 28) rfl
theorem d_M_asked_53 : decode mM_asked.2.1 53 = .ok (.ldc2_w 206, 3) := dq_get dd_M_asked_0 (i := 29) rfl
theorem d_M_asked_56 : decode mM_asked.2.1 56 = .ok (.lcmp, 1) := dq_get dd_M_asked_0 (i := 30) rfl
theorem d_M_asked_57 : decode mM_asked.2.1 57 = .ok (.ifCond .ne 5, 3) := dq_get dd_M_asked_0 (i := 31) rfl
theorem dd_M_asked_32 : dq mM_asked.2.1 [(60, .iconst 3, 1), (61, .ireturn, 1), (62, .aload_n 0, 1), (63, .getfield 165, 3), (66, .ldc2_w 220, 3), (69, .lcmp, 1), (70, .ifCond .ne 5, 3), (73, .iconst 4, 1), (74, .ireturn, 1), (75, .aload_n 0, 1), (76, .getfield 165, 3), (79, .ldc2_w 222, 3), (82, .lcmp, 1), (83, .ifCond .ne 7, 3), (86, .iconst 5, 1), (87, .goto 4, 3), (90, .iconst (-1), 1), (91, .ireturn, 1)] = true := by decide +kernel
theorem d_M_asked_60 : decode mM_asked.2.1 60 = .ok (.iconst 3, 1) := dq_get dd_M_asked_32 (i := 0) rfl
theorem d_M_asked_61 : decode mM_asked.2.1 61 = .ok (.ireturn, 1) := dq_get dd_M_asked_32 (i := 1) rfl
theorem d_M_asked_62 : decode mM_asked.2.1 62 = .ok (.aload_n 0, 1) := dq_get dd_M_asked_32 (i := 2) rfl
theorem d_M_asked_63 : decode mM_asked.2.1 63 = .ok (.getfield 165, 3) := dq_get dd_M_asked_32 (i := 3) rfl
theorem d_M_asked_66 : decode mM_asked.2.1 66 = .ok (.ldc2_w 220, 3) := dq_get dd_M_asked_32 (i := 4) rfl
theorem d_M_asked_69 : decode mM_asked.2.1 69 = .ok (.lcmp, 1) := dq_get dd_M_asked_32 (i := 5) rfl
theorem d_M_asked_70 : decode mM_asked.2.1 70 = .ok (.ifCond .ne 5, 3) := dq_get dd_M_asked_32 (i := 6) rfl
theorem d_M_asked_73 : decode mM_asked.2.1 73 = .ok (.iconst 4, 1) := dq_get dd_M_asked_32 (i := 7) rfl
theorem d_M_asked_74 : decode mM_asked.2.1 74 = .ok (.ireturn, 1) := dq_get dd_M_asked_32 (i := 8) rfl
theorem d_M_asked_75 : decode mM_asked.2.1 75 = .ok (.aload_n 0, 1) := dq_get dd_M_asked_32 (i := 9) rfl
theorem d_M_asked_76 : decode mM_asked.2.1 76 = .ok (.getfield 165, 3) := dq_get dd_M_asked_32 (i := 10) rfl
theorem d_M_asked_79 : decode mM_asked.2.1 79 = .ok (.ldc2_w 222, 3) := dq_get dd_M_asked_32 (i := 11) rfl
theorem d_M_asked_82 : decode mM_asked.2.1 82 = .ok (.lcmp, 1) := dq_get dd_M_asked_32 (i := 12) rfl
theorem d_M_asked_83 : decode mM_asked.2.1 83 = .ok (.ifCond .ne 7, 3) := dq_get dd_M_asked_32 (i := 13) rfl
theorem d_M_asked_86 : decode mM_asked.2.1 86 = .ok (.iconst 5, 1) := dq_get dd_M_asked_32 (i := 14) rfl
theorem d_M_asked_87 : decode mM_asked.2.1 87 = .ok (.goto 4, 3) := dq_get dd_M_asked_32 (i := 15) rfl
theorem d_M_asked_90 : decode mM_asked.2.1 90 = .ok (.iconst (-1), 1) := dq_get dd_M_asked_32 (i := 16) rfl
theorem d_M_asked_91 : decode mM_asked.2.1 91 = .ok (.ireturn, 1) := dq_get dd_M_asked_32 (i := 17) rfl
theorem dd_M_add_0 : dq mM_add.2.1 [(0, .aload_n 0, 1), (1, .getfield 21, 3), (4, .aload_n 0, 1), (5, .getfield 261, 3), (8, .iload_n 1, 1), (9, .iastore, 1), (10, .aload_n 0, 1), (11, .getfield 24, 3), (14, .aload_n 0, 1), (15, .getfield 261, 3), (18, .iload_n 2, 1), (19, .iastore, 1), (20, .aload_n 0, 1), (21, .dup, 1), (22, .getfield 261, 3), (25, .iconst 1, 1), (26, .iadd, 1), (27, .putfield 261, 3), (30, .return_, 1)] = true := by decide +kernel
theorem d_M_add_0 : decode mM_add.2.1 0 = .ok (.aload_n 0, 1) := dq_get dd_M_add_0 (i := 0) rfl
theorem d_M_add_1 : decode mM_add.2.1 1 = .ok (.getfield 21, 3) := dq_get dd_M_add_0 (i := 1) rfl
theorem d_M_add_4 : decode mM_add.2.1 4 = .ok (.aload_n 0, 1) := dq_get dd_M_add_0 (i := 2) rfl
theorem d_M_add_5 : decode mM_add.2.1 5 = .ok (.getfield 261, 3) := dq_get dd_M_add_0 (i := 3) rfl
theorem d_M_add_8 : decode mM_add.2.1 8 = .ok (.iload_n 1, 1) := dq_get dd_M_add_0 (i := 4) rfl
theorem d_M_add_9 : decode mM_add.2.1 9 = .ok (.iastore, 1) := dq_get dd_M_add_0 (i := 5) rfl
theorem d_M_add_10 : decode mM_add.2.1 10 = .ok (.aload_n 0, 1) := dq_get dd_M_add_0 (i := 6) rfl
theorem d_M_add_11 : decode mM_add.2.1 11 = .ok (.getfield 24, 3) := dq_get dd_M_add_0 (i := 7) rfl
theorem d_M_add_14 : decode mM_add.2.1 14 = .ok (.aload_n 0, 1) := dq_get dd_M_add_0 (i := 8) rfl
theorem d_M_add_15 : decode mM_add.2.1 15 = .ok (.getfield 261, 3) := dq_get dd_M_add_0 (i := 9) rfl
theorem d_M_add_18 : decode mM_add.2.1 18 = .ok (.iload_n 2, 1) := dq_get dd_M_add_0 (i := 10) rfl
theorem d_M_add_19 : decode mM_add.2.1 19 = .ok (.iastore, 1) := dq_get dd_M_add_0 (i := 11) rfl
theorem d_M_add_20 : decode mM_add.2.1 20 = .ok (.aload_n 0, 1) := dq_get dd_M_add_0 (i := 12) rfl
theorem d_M_add_21 : decode mM_add.2.1 21 = .ok (.dup, 1) := dq_get dd_M_add_0 (i := 13) rfl
theorem d_M_add_22 : decode mM_add.2.1 22 = .ok (.getfield 261, 3) := dq_get dd_M_add_0 (i := 14) rfl
theorem d_M_add_25 : decode mM_add.2.1 25 = .ok (.iconst 1, 1) := dq_get dd_M_add_0 (i := 15) rfl
theorem d_M_add_26 : decode mM_add.2.1 26 = .ok (.iadd, 1) := dq_get dd_M_add_0 (i := 16) rfl
theorem d_M_add_27 : decode mM_add.2.1 27 = .ok (.putfield 261, 3) := dq_get dd_M_add_0 (i := 17) rfl
theorem d_M_add_30 : decode mM_add.2.1 30 = .ok (.return_, 1) := dq_get dd_M_add_0 (i := 18) rfl
theorem dd_M_sign_0 : dq mM_sign.2.1 [(0, .aload_n 0, 1), (1, .ldc2_w 224, 3), (4, .invokevirtual 234, 3), (7, .ifCond .eq 6, 3), (10, .bipush 38, 2), (12, .ireturn, 1), (13, .aload_n 0, 1), (14, .ldc2_w 226, 3), (17, .invokevirtual 234, 3), (20, .ifCond .eq 6, 3), (23, .bipush 124, 2), (25, .ireturn, 1), (26, .aload_n 0, 1), (27, .getfield 172, 3), (30, .bipush 60, 2), (32, .if_icmp .eq 66, 3), (35, .aload_n 0, 1), (36, .getfield 172, 3), (39, .bipush 62, 2), (41, .if_icmp .eq 57, 3), (44, .aload_n 0, 1), (45, .getfield 172, 3), (48, .bipush 61, 2), (50, .if_icmp .eq 48, 3), (53, .aload_n 0, 1), (54, .getfield 172, 3), (57, .bipush 43, 2), (59, .if_icmp .eq 39, 3), (62, .aload_n 0, 1), (63, .getfield 172, 3), (66, .bipush 45, 2), (68, .if_icmp .eq 30, 3)] = true := by decide +kernel
theorem d_M_sign_0 : decode mM_sign.2.1 0 = .ok (.aload_n 0, 1) := dq_get dd_M_sign_0 (i := 0) rfl
theorem d_M_sign_1 : decode mM_sign.2.1 1 = .ok (.ldc2_w 224, 3) := dq_get dd_M_sign_0 (i := 1) rfl
theorem d_M_sign_4 : decode mM_sign.2.1 4 = .ok (.invokevirtual 234, 3) := dq_get dd_M_sign_0 (i := 2) rfl
theorem d_M_sign_7 : decode mM_sign.2.1 7 = .ok (.ifCond .eq 6, 3) := dq_get dd_M_sign_0 (i := 3) rfl
theorem d_M_sign_10 : decode mM_sign.2.1 10 = .ok (.bipush 38, 2) := dq_get dd_M_sign_0 (i := 4) rfl
theorem d_M_sign_12 : decode mM_sign.2.1 12 = .ok (.ireturn, 1) := dq_get dd_M_sign_0 (i := 5) rfl
theorem d_M_sign_13 : decode mM_sign.2.1 13 = .ok (.aload_n 0, 1) := dq_get dd_M_sign_0 (i := 6) rfl
theorem d_M_sign_14 : decode mM_sign.2.1 14 = .ok (.ldc2_w 226, 3) := dq_get dd_M_sign_0 (i := 7) rfl
theorem d_M_sign_17 : decode mM_sign.2.1 17 = .ok (.invokevirtual 234, 3) := dq_get dd_M_sign_0 (i := 8) rfl
theorem d_M_sign_20 : decode mM_sign.2.1 20 = .ok (.ifCond .eq 6, 3) := dq_get dd_M_sign_0 (i := 9) rfl
theorem d_M_sign_23 : decode mM_sign.2.1 23 = .ok (.bipush 124, 2) := dq_get dd_M_sign_0 (i := 10) rfl
theorem d_M_sign_25 : decode mM_sign.2.1 25 = .ok (.ireturn, 1) := dq_get dd_M_sign_0 (i := 11) rfl
theorem d_M_sign_26 : decode mM_sign.2.1 26 = .ok (.aload_n 0, 1) := dq_get dd_M_sign_0 (i := 12) rfl
theorem d_M_sign_27 : decode mM_sign.2.1 27 = .ok (.getfield 172, 3) := dq_get dd_M_sign_0 (i := 13) rfl
theorem d_M_sign_30 : decode mM_sign.2.1 30 = .ok (.bipush 60, 2) := dq_get dd_M_sign_0 (i := 14) rfl
theorem d_M_sign_32 : decode mM_sign.2.1 32 = .ok (.if_icmp .eq 66, 3) := dq_get dd_M_sign_0 (i := 15) rfl
theorem d_M_sign_35 : decode mM_sign.2.1 35 = .ok (.aload_n 0, 1) := dq_get dd_M_sign_0 (i := 16) rfl
theorem d_M_sign_36 : decode mM_sign.2.1 36 = .ok (.getfield 172, 3) := dq_get dd_M_sign_0 (i := 17) rfl
theorem d_M_sign_39 : decode mM_sign.2.1 39 = .ok (.bipush 62, 2) := dq_get dd_M_sign_0 (i := 18) rfl
theorem d_M_sign_41 : decode mM_sign.2.1 41 = .ok (.if_icmp .eq 57, 3) := dq_get dd_M_sign_0 (i := 19) rfl
theorem d_M_sign_44 : decode mM_sign.2.1 44 = .ok (.aload_n 0, 1) := dq_get dd_M_sign_0 (i := 20) rfl
theorem d_M_sign_45 : decode mM_sign.2.1 45 = .ok (.getfield 172, 3) := dq_get dd_M_sign_0 (i := 21) rfl
theorem d_M_sign_48 : decode mM_sign.2.1 48 = .ok (.bipush 61, 2) := dq_get dd_M_sign_0 (i := 22) rfl
theorem d_M_sign_50 : decode mM_sign.2.1 50 = .ok (.if_icmp .eq 48, 3) := dq_get dd_M_sign_0 (i := 23) rfl
theorem d_M_sign_53 : decode mM_sign.2.1 53 = .ok (.aload_n 0, 1) := dq_get dd_M_sign_0 (i := 24) rfl
theorem d_M_sign_54 : decode mM_sign.2.1 54 = .ok (.getfield 172, 3) := dq_get dd_M_sign_0 (i := 25) rfl
theorem d_M_sign_57 : decode mM_sign.2.1 57 = .ok (.bipush 43, 2) := dq_get dd_M_sign_0 (i := 26) rfl
theorem d_M_sign_59 : decode mM_sign.2.1 59 = .ok (.if_icmp .eq 39, 3) := dq_get dd_M_sign_0 (i := 27) rfl
theorem d_M_sign_62 : decode mM_sign.2.1 62 = .ok (.aload_n 0, 1) := dq_get dd_M_sign_0 (i := 28) rfl
theorem d_M_sign_63 : decode mM_sign.2.1 63 = .ok (.getfield 172, 3) := dq_get dd_M_sign_0 (i := 29) rfl
theorem d_M_sign_66 : decode mM_sign.2.1 66 = .ok (.bipush 45, 2) := dq_get dd_M_sign_0 (i := 30) rfl
theorem d_M_sign_68 : decode mM_sign.2.1 68 = .ok (.if_icmp .eq 30, 3) := dq_get dd_M_sign_0 (i := 31) rfl
theorem dd_M_sign_32 : dq mM_sign.2.1 [(71, .aload_n 0, 1), (72, .getfield 172, 3), (75, .bipush 42, 2), (77, .if_icmp .eq 21, 3), (80, .aload_n 0, 1), (81, .getfield 172, 3), (84, .bipush 47, 2), (86, .if_icmp .eq 12, 3), (89, .aload_n 0, 1), (90, .getfield 172, 3), (93, .bipush 37, 2), (95, .if_icmp .ne 10, 3), (98, .aload_n 0, 1), (99, .getfield 172, 3), (102, .goto 4, 3), (105, .iconst 0, 1), (106, .ireturn, 1)] = true := by decide +kernel
theorem d_M_sign_71 : decode mM_sign.2.1 71 = .ok (.aload_n 0, 1) := dq_get dd_M_sign_32 (i := 0) rfl
theorem d_M_sign_72 : decode mM_sign.2.1 72 = .ok (.getfield 172, 3) := dq_get dd_M_sign_32 (i := 1) rfl
theorem d_M_sign_75 : decode mM_sign.2.1 75 = .ok (.bipush 42, 2) := dq_get dd_M_sign_32 (i := 2) rfl
theorem d_M_sign_77 : decode mM_sign.2.1 77 = .ok (.if_icmp .eq 21, 3) := dq_get dd_M_sign_32 (i := 3) rfl
theorem d_M_sign_80 : decode mM_sign.2.1 80 = .ok (.aload_n 0, 1) := dq_get dd_M_sign_32 (i := 4) rfl
theorem d_M_sign_81 : decode mM_sign.2.1 81 = .ok (.getfield 172, 3) := dq_get dd_M_sign_32 (i := 5) rfl
theorem d_M_sign_84 : decode mM_sign.2.1 84 = .ok (.bipush 47, 2) := dq_get dd_M_sign_32 (i := 6) rfl
theorem d_M_sign_86 : decode mM_sign.2.1 86 = .ok (.if_icmp .eq 12, 3) := dq_get dd_M_sign_32 (i := 7) rfl
theorem d_M_sign_89 : decode mM_sign.2.1 89 = .ok (.aload_n 0, 1) := dq_get dd_M_sign_32 (i := 8) rfl
theorem d_M_sign_90 : decode mM_sign.2.1 90 = .ok (.getfield 172, 3) := dq_get dd_M_sign_32 (i := 9) rfl
theorem d_M_sign_93 : decode mM_sign.2.1 93 = .ok (.bipush 37, 2) := dq_get dd_M_sign_32 (i := 10) rfl
theorem d_M_sign_95 : decode mM_sign.2.1 95 = .ok (.if_icmp .ne 10, 3) := dq_get dd_M_sign_32 (i := 11) rfl
theorem d_M_sign_98 : decode mM_sign.2.1 98 = .ok (.aload_n 0, 1) := dq_get dd_M_sign_32 (i := 12) rfl
theorem d_M_sign_99 : decode mM_sign.2.1 99 = .ok (.getfield 172, 3) := dq_get dd_M_sign_32 (i := 13) rfl
theorem d_M_sign_102 : decode mM_sign.2.1 102 = .ok (.goto 4, 3) := dq_get dd_M_sign_32 (i := 14) rfl
theorem d_M_sign_105 : decode mM_sign.2.1 105 = .ok (.iconst 0, 1) := dq_get dd_M_sign_32 (i := 15) rfl
theorem d_M_sign_106 : decode mM_sign.2.1 106 = .ok (.ireturn, 1) := dq_get dd_M_sign_32 (i := 16) rfl
theorem dd_M_hasBracket_0 : dq mM_hasBracket.2.1 [(0, .iconst 0, 1), (1, .istore_n 1, 1), (2, .iconst 0, 1), (3, .istore_n 2, 1), (4, .iload_n 2, 1), (5, .aload_n 0, 1), (6, .getfield 264, 3), (9, .if_icmp .ge 30, 3), (12, .iload_n 1, 1), (13, .ifCond .ne 14, 3), (16, .aload_n 0, 1), (17, .getfield 33, 3), (20, .iload_n 2, 1), (21, .iaload, 1), (22, .bipush 20, 2), (24, .if_icmp .ne 7, 3), (27, .iconst 1, 1), (28, .goto 4, 3), (31, .iconst 0, 1), (32, .istore_n 1, 1), (33, .iinc 2 1, 3), (36, .goto (-32), 3), (39, .iload_n 1, 1), (40, .ireturn, 1)] = true := by decide +kernel
theorem d_M_hasBracket_0 : decode mM_hasBracket.2.1 0 = .ok (.iconst 0, 1) := dq_get dd_M_hasBracket_0 (i := 0) rfl
theorem d_M_hasBracket_1 : decode mM_hasBracket.2.1 1 = .ok (.istore_n 1, 1) := dq_get dd_M_hasBracket_0 (i := 1) rfl
theorem d_M_hasBracket_2 : decode mM_hasBracket.2.1 2 = .ok (.iconst 0, 1) := dq_get dd_M_hasBracket_0 (i := 2) rfl
theorem d_M_hasBracket_3 : decode mM_hasBracket.2.1 3 = .ok (.istore_n 2, 1) := dq_get dd_M_hasBracket_0 (i := 3) rfl
theorem d_M_hasBracket_4 : decode mM_hasBracket.2.1 4 = .ok (.iload_n 2, 1) := dq_get dd_M_hasBracket_0 (i := 4) rfl
theorem d_M_hasBracket_5 : decode mM_hasBracket.2.1 5 = .ok (.aload_n 0, 1) := dq_get dd_M_hasBracket_0 (i := 5) rfl
theorem d_M_hasBracket_6 : decode mM_hasBracket.2.1 6 = .ok (.getfield 264, 3) := dq_get dd_M_hasBracket_0 (i := 6) rfl
theorem d_M_hasBracket_9 : decode mM_hasBracket.2.1 9 = .ok (.if_icmp .ge 30, 3) := dq_get dd_M_hasBracket_0 (i := 7) rfl
theorem d_M_hasBracket_12 : decode mM_hasBracket.2.1 12 = .ok (.iload_n 1, 1) := dq_get dd_M_hasBracket_0 (i := 8) rfl
theorem d_M_hasBracket_13 : decode mM_hasBracket.2.1 13 = .ok (.ifCond .ne 14, 3) := dq_get dd_M_hasBracket_0 (i := 9) rfl
theorem d_M_hasBracket_16 : decode mM_hasBracket.2.1 16 = .ok (.aload_n 0, 1) := dq_get dd_M_hasBracket_0 (i := 10) rfl
theorem d_M_hasBracket_17 : decode mM_hasBracket.2.1 17 = .ok (.getfield 33, 3) := dq_get dd_M_hasBracket_0 (i := 11) rfl
theorem d_M_hasBracket_20 : decode mM_hasBracket.2.1 20 = .ok (.iload_n 2, 1) := dq_get dd_M_hasBracket_0 (i := 12) rfl
theorem d_M_hasBracket_21 : decode mM_hasBracket.2.1 21 = .ok (.iaload, 1) := dq_get dd_M_hasBracket_0 (i := 13) rfl
theorem d_M_hasBracket_22 : decode mM_hasBracket.2.1 22 = .ok (.bipush 20, 2) := dq_get dd_M_hasBracket_0 (i := 14) rfl
theorem d_M_hasBracket_24 : decode mM_hasBracket.2.1 24 = .ok (.if_icmp .ne 7, 3) := dq_get dd_M_hasBracket_0 (i := 15) rfl
theorem d_M_hasBracket_27 : decode mM_hasBracket.2.1 27 = .ok (.iconst 1, 1) := dq_get dd_M_hasBracket_0 (i := 16) rfl
theorem d_M_hasBracket_28 : decode mM_hasBracket.2.1 28 = .ok (.goto 4, 3) := dq_get dd_M_hasBracket_0 (i := 17) rfl
theorem d_M_hasBracket_31 : decode mM_hasBracket.2.1 31 = .ok (.iconst 0, 1) := dq_get dd_M_hasBracket_0 (i := 18) rfl
theorem d_M_hasBracket_32 : decode mM_hasBracket.2.1 32 = .ok (.istore_n 1, 1) := dq_get dd_M_hasBracket_0 (i := 19) rfl
theorem d_M_hasBracket_33 : decode mM_hasBracket.2.1 33 = .ok (.iinc 2 1, 3) := dq_get dd_M_hasBracket_0 (i := 20) rfl
theorem d_M_hasBracket_36 : decode mM_hasBracket.2.1 36 = .ok (.goto (-32), 3) := dq_get dd_M_hasBracket_0 (i := 21) rfl
theorem d_M_hasBracket_39 : decode mM_hasBracket.2.1 39 = .ok (.iload_n 1, 1) := dq_get dd_M_hasBracket_0 (i := 22) rfl
theorem d_M_hasBracket_40 : decode mM_hasBracket.2.1 40 = .ok (.ireturn, 1) := dq_get dd_M_hasBracket_0 (i := 23) rfl
theorem dd_M_close_0 : dq mM_close.2.1 [(0, .aload_n 0, 1), (1, .getfield 264, 3), (4, .ifCond .le 97, 3), (7, .aload_n 0, 1), (8, .getfield 33, 3), (11, .aload_n 0, 1), (12, .getfield 264, 3), (15, .iconst 1, 1), (16, .isub, 1), (17, .iaload, 1), (18, .bipush 20, 2), (20, .if_icmp .eq 81, 3), (23, .aload_n 0, 1), (24, .getfield 33, 3), (27, .aload_n 0, 1), (28, .getfield 264, 3), (31, .iconst 1, 1), (32, .isub, 1), (33, .iaload, 1), (34, .invokestatic 267, 3), (37, .iload_n 1, 1), (38, .if_icmp .lt 63, 3), (41, .aload_n 0, 1), (42, .dup, 1), (43, .getfield 264, 3), (46, .iconst 1, 1), (47, .isub, 1), (48, .putfield 264, 3), (51, .aload_n 0, 1), (52, .getfield 33, 3), (55, .aload_n 0, 1), (56, .getfield 264, 3)] = true := by decide +kernel
theorem d_M_close_0 : decode mM_close.2.1 0 = .ok (.aload_n 0, 1) := dq_get dd_M_close_0 (i := 0) rfl
theorem d_M_close_1 : decode mM_close.2.1 1 = .ok (.getfield 264, 3) := dq_get dd_M_close_0 (i := 1) rfl
theorem d_M_close_4 : decode mM_close.2.1 4 = .ok (.ifCond .le 97, 3) := dq_get dd_M_close_0 (i := 2) rfl
theorem d_M_close_7 : decode mM_close.2.1 7 = .ok (.aload_n 0, 1) := dq_get dd_M_close_0 (i := 3) rfl
theorem d_M_close_8 : decode mM_close.2.1 8 = .ok (.getfield 33, 3) := dq_get dd_M_close_0 (i := 4) rfl
theorem d_M_close_11 : decode mM_close.2.1 11 = .ok (.aload_n 0, 1) := dq_get dd_M_close_0 (i := 5) rfl
theorem d_M_close_12 : decode mM_close.2.1 12 = .ok (.getfield 264, 3) := dq_get dd_M_close_0 (i := 6) rfl
theorem d_M_close_15 : decode mM_close.2.1 15 = .ok (.iconst 1, 1) := dq_get dd_M_close_0 (i := 7) rfl
theorem d_M_close_16 : decode mM_close.2.1 16 = .ok (.isub, 1) := dq_get dd_M_close_0 (i := 8) rfl
theorem d_M_close_17 : decode mM_close.2.1 17 = .ok (.iaload, 1) := dq_get dd_M_close_0 (i := 9) rfl
theorem d_M_close_18 : decode mM_close.2.1 18 = .ok (.bipush 20, 2) := dq_get dd_M_close_0 (i := 10) rfl
theorem d_M_close_20 : decode mM_close.2.1 20 = .ok (.if_icmp .eq 81, 3) := dq_get dd_M_close_0 (i := 11) rfl
theorem d_M_close_23 : decode mM_close.2.1 23 = .ok (.aload_n 0, 1) := dq_get dd_M_close_0 (i := 12) rfl
theorem d_M_close_24 : decode mM_close.2.1 24 = .ok (.getfield 33, 3) := dq_get dd_M_close_0 (i := 13) rfl
theorem d_M_close_27 : decode mM_close.2.1 27 = .ok (.aload_n 0, 1) := dq_get dd_M_close_0 (i := 14) rfl
theorem d_M_close_28 : decode mM_close.2.1 28 = .ok (.getfield 264, 3) := dq_get dd_M_close_0 (i := 15) rfl
theorem d_M_close_31 : decode mM_close.2.1 31 = .ok (.iconst 1, 1) := dq_get dd_M_close_0 (i := 16) rfl
theorem d_M_close_32 : decode mM_close.2.1 32 = .ok (.isub, 1) := dq_get dd_M_close_0 (i := 17) rfl
theorem d_M_close_33 : decode mM_close.2.1 33 = .ok (.iaload, 1) := dq_get dd_M_close_0 (i := 18) rfl
theorem d_M_close_34 : decode mM_close.2.1 34 = .ok (.invokestatic 267, 3) := dq_get dd_M_close_0 (i := 19) rfl
theorem d_M_close_37 : decode mM_close.2.1 37 = .ok (.iload_n 1, 1) := dq_get dd_M_close_0 (i := 20) rfl
theorem d_M_close_38 : decode mM_close.2.1 38 = .ok (.if_icmp .lt 63, 3) := dq_get dd_M_close_0 (i := 21) rfl
theorem d_M_close_41 : decode mM_close.2.1 41 = .ok (.aload_n 0, 1) := dq_get dd_M_close_0 (i := 22) rfl
theorem d_M_close_42 : decode mM_close.2.1 42 = .ok (.dup, 1) := dq_get dd_M_close_0 (i := 23) rfl
theorem d_M_close_43 : decode mM_close.2.1 43 = .ok (.getfield 264, 3) := dq_get dd_M_close_0 (i := 24) rfl
theorem d_M_close_46 : decode mM_close.2.1 46 = .ok (.iconst 1, 1) := dq_get dd_M_close_0 (i := 25) rfl
theorem d_M_close_47 : decode mM_close.2.1 47 = .ok (.isub, 1) := dq_get dd_M_close_0 (i := 26) rfl
theorem d_M_close_48 : decode mM_close.2.1 48 = .ok (.putfield 264, 3) := dq_get dd_M_close_0 (i := 27) rfl
theorem d_M_close_51 : decode mM_close.2.1 51 = .ok (.aload_n 0, 1) := dq_get dd_M_close_0 (i := 28) rfl
theorem d_M_close_52 : decode mM_close.2.1 52 = .ok (.getfield 33, 3) := dq_get dd_M_close_0 (i := 29) rfl
theorem d_M_close_55 : decode mM_close.2.1 55 = .ok (.aload_n 0, 1) := dq_get dd_M_close_0 (i := 30) rfl
theorem d_M_close_56 : decode mM_close.2.1 56 = .ok (.getfield 264, 3) := dq_get dd_M_close_0 (i := 31) rfl
theorem dd_M_close_32 : dq mM_close.2.1 [(59, .iaload, 1), (60, .bipush 21, 2), (62, .if_icmp .ne 22, 3), (65, .aload_n 0, 1), (66, .iconst 2, 1), (67, .iconst 0, 1), (68, .invokevirtual 270, 3), (71, .aload_n 0, 1), (72, .dup, 1), (73, .getfield 274, 3), (76, .iconst 1, 1), (77, .isub, 1), (78, .putfield 274, 3), (81, .goto (-81), 3), (84, .aload_n 0, 1), (85, .iconst 3, 1), (86, .aload_n 0, 1), (87, .getfield 33, 3), (90, .aload_n 0, 1), (91, .getfield 264, 3), (94, .iaload, 1), (95, .invokevirtual 270, 3), (98, .goto (-98), 3), (101, .return_, 1)] = true := by decide +kernel
theorem d_M_close_59 : decode mM_close.2.1 59 = .ok (.iaload, 1) := dq_get dd_M_close_32 (i := 0) rfl
theorem d_M_close_60 : decode mM_close.2.1 60 = .ok (.bipush 21, 2) := dq_get dd_M_close_32 (i := 1) rfl
theorem d_M_close_62 : decode mM_close.2.1 62 = .ok (.if_icmp .ne 22, 3) := dq_get dd_M_close_32 (i := 2) rfl
theorem d_M_close_65 : decode mM_close.2.1 65 = .ok (.aload_n 0, 1) := dq_get dd_M_close_32 (i := 3) rfl
theorem d_M_close_66 : decode mM_close.2.1 66 = .ok (.iconst 2, 1) := dq_get dd_M_close_32 (i := 4) rfl
theorem d_M_close_67 : decode mM_close.2.1 67 = .ok (.iconst 0, 1) := dq_get dd_M_close_32 (i := 5) rfl
theorem d_M_close_68 : decode mM_close.2.1 68 = .ok (.invokevirtual 270, 3) := dq_get dd_M_close_32 (i := 6) rfl
theorem d_M_close_71 : decode mM_close.2.1 71 = .ok (.aload_n 0, 1) := dq_get dd_M_close_32 (i := 7) rfl
theorem d_M_close_72 : decode mM_close.2.1 72 = .ok (.dup, 1) := dq_get dd_M_close_32 (i := 8) rfl
theorem d_M_close_73 : decode mM_close.2.1 73 = .ok (.getfield 274, 3) := dq_get dd_M_close_32 (i := 9) rfl
theorem d_M_close_76 : decode mM_close.2.1 76 = .ok (.iconst 1, 1) := dq_get dd_M_close_32 (i := 10) rfl
theorem d_M_close_77 : decode mM_close.2.1 77 = .ok (.isub, 1) := dq_get dd_M_close_32 (i := 11) rfl
theorem d_M_close_78 : decode mM_close.2.1 78 = .ok (.putfield 274, 3) := dq_get dd_M_close_32 (i := 12) rfl
theorem d_M_close_81 : decode mM_close.2.1 81 = .ok (.goto (-81), 3) := dq_get dd_M_close_32 (i := 13) rfl
theorem d_M_close_84 : decode mM_close.2.1 84 = .ok (.aload_n 0, 1) := dq_get dd_M_close_32 (i := 14) rfl
theorem d_M_close_85 : decode mM_close.2.1 85 = .ok (.iconst 3, 1) := dq_get dd_M_close_32 (i := 15) rfl
theorem d_M_close_86 : decode mM_close.2.1 86 = .ok (.aload_n 0, 1) := dq_get dd_M_close_32 (i := 16) rfl
theorem d_M_close_87 : decode mM_close.2.1 87 = .ok (.getfield 33, 3) := dq_get dd_M_close_32 (i := 17) rfl
theorem d_M_close_90 : decode mM_close.2.1 90 = .ok (.aload_n 0, 1) := dq_get dd_M_close_32 (i := 18) rfl
theorem d_M_close_91 : decode mM_close.2.1 91 = .ok (.getfield 264, 3) := dq_get dd_M_close_32 (i := 19) rfl
theorem d_M_close_94 : decode mM_close.2.1 94 = .ok (.iaload, 1) := dq_get dd_M_close_32 (i := 20) rfl
theorem d_M_close_95 : decode mM_close.2.1 95 = .ok (.invokevirtual 270, 3) := dq_get dd_M_close_32 (i := 21) rfl
theorem d_M_close_98 : decode mM_close.2.1 98 = .ok (.goto (-98), 3) := dq_get dd_M_close_32 (i := 22) rfl
theorem d_M_close_101 : decode mM_close.2.1 101 = .ok (.return_, 1) := dq_get dd_M_close_32 (i := 23) rfl
theorem dd_M_hasRelation_0 : dq mM_hasRelation.2.1 [(0, .aload_n 0, 1), (1, .getfield 264, 3), (4, .iconst 1, 1), (5, .isub, 1), (6, .istore_n 1, 1), (7, .iload_n 1, 1), (8, .ifCond .lt 33, 3), (11, .aload_n 0, 1), (12, .getfield 33, 3), (15, .iload_n 1, 1), (16, .iaload, 1), (17, .bipush 20, 2), (19, .if_icmp .eq 22, 3), (22, .aload_n 0, 1), (23, .getfield 33, 3), (26, .iload_n 1, 1), (27, .iaload, 1), (28, .invokestatic 267, 3), (31, .iconst 4, 1), (32, .if_icmp .le 9, 3), (35, .iinc 1 (-1), 3), (38, .goto (-31), 3), (41, .iload_n 1, 1), (42, .ifCond .lt 31, 3), (45, .aload_n 0, 1), (46, .getfield 33, 3), (49, .iload_n 1, 1), (50, .iaload, 1), (51, .bipush 20, 2), (53, .if_icmp .eq 20, 3), (56, .aload_n 0, 1), (57, .getfield 33, 3)] = true := by decide +kernel
theorem d_M_hasRelation_0 : decode mM_hasRelation.2.1 0 = .ok (.aload_n 0, 1) := dq_get dd_M_hasRelation_0 (i := 0) rfl
theorem d_M_hasRelation_1 : decode mM_hasRelation.2.1 1 = .ok (.getfield 264, 3) := dq_get dd_M_hasRelation_0 (i := 1) rfl
theorem d_M_hasRelation_4 : decode mM_hasRelation.2.1 4 = .ok (.iconst 1, 1) := dq_get dd_M_hasRelation_0 (i := 2) rfl
theorem d_M_hasRelation_5 : decode mM_hasRelation.2.1 5 = .ok (.isub, 1) := dq_get dd_M_hasRelation_0 (i := 3) rfl
theorem d_M_hasRelation_6 : decode mM_hasRelation.2.1 6 = .ok (.istore_n 1, 1) := dq_get dd_M_hasRelation_0 (i := 4) rfl
theorem d_M_hasRelation_7 : decode mM_hasRelation.2.1 7 = .ok (.iload_n 1, 1) := dq_get dd_M_hasRelation_0 (i := 5) rfl
theorem d_M_hasRelation_8 : decode mM_hasRelation.2.1 8 = .ok (.ifCond .lt 33, 3) := dq_get dd_M_hasRelation_0 (i := 6) rfl
theorem d_M_hasRelation_11 : decode mM_hasRelation.2.1 11 = .ok (.aload_n 0, 1) := dq_get dd_M_hasRelation_0 (i := 7) rfl
theorem d_M_hasRelation_12 : decode mM_hasRelation.2.1 12 = .ok (.getfield 33, 3) := dq_get dd_M_hasRelation_0 (i := 8) rfl
theorem d_M_hasRelation_15 : decode mM_hasRelation.2.1 15 = .ok (.iload_n 1, 1) := dq_get dd_M_hasRelation_0 (i := 9) rfl
theorem d_M_hasRelation_16 : decode mM_hasRelation.2.1 16 = .ok (.iaload, 1) := dq_get dd_M_hasRelation_0 (i := 10) rfl
theorem d_M_hasRelation_17 : decode mM_hasRelation.2.1 17 = .ok (.bipush 20, 2) := dq_get dd_M_hasRelation_0 (i := 11) rfl
theorem d_M_hasRelation_19 : decode mM_hasRelation.2.1 19 = .ok (.if_icmp .eq 22, 3) := dq_get dd_M_hasRelation_0 (i := 12) rfl
theorem d_M_hasRelation_22 : decode mM_hasRelation.2.1 22 = .ok (.aload_n 0, 1) := dq_get dd_M_hasRelation_0 (i := 13) rfl
theorem d_M_hasRelation_23 : decode mM_hasRelation.2.1 23 = .ok (.getfield 33, 3) := dq_get dd_M_hasRelation_0 (i := 14) rfl
theorem d_M_hasRelation_26 : decode mM_hasRelation.2.1 26 = .ok (.iload_n 1, 1) := dq_get dd_M_hasRelation_0 (i := 15) rfl
theorem d_M_hasRelation_27 : decode mM_hasRelation.2.1 27 = .ok (.iaload, 1) := dq_get dd_M_hasRelation_0 (i := 16) rfl
theorem d_M_hasRelation_28 : decode mM_hasRelation.2.1 28 = .ok (.invokestatic 267, 3) := dq_get dd_M_hasRelation_0 (i := 17) rfl
theorem d_M_hasRelation_31 : decode mM_hasRelation.2.1 31 = .ok (.iconst 4, 1) := dq_get dd_M_hasRelation_0 (i := 18) rfl
theorem d_M_hasRelation_32 : decode mM_hasRelation.2.1 32 = .ok (.if_icmp .le 9, 3) := dq_get dd_M_hasRelation_0 (i := 19) rfl
theorem d_M_hasRelation_35 : decode mM_hasRelation.2.1 35 = .ok (.iinc 1 (-1), 3) := dq_get dd_M_hasRelation_0 (i := 20) rfl
theorem d_M_hasRelation_38 : decode mM_hasRelation.2.1 38 = .ok (.goto (-31), 3) := dq_get dd_M_hasRelation_0 (i := 21) rfl
theorem d_M_hasRelation_41 : decode mM_hasRelation.2.1 41 = .ok (.iload_n 1, 1) := dq_get dd_M_hasRelation_0 (i := 22) rfl
theorem d_M_hasRelation_42 : decode mM_hasRelation.2.1 42 = .ok (.ifCond .lt 31, 3) := dq_get dd_M_hasRelation_0 (i := 23) rfl
theorem d_M_hasRelation_45 : decode mM_hasRelation.2.1 45 = .ok (.aload_n 0, 1) := dq_get dd_M_hasRelation_0 (i := 24) rfl
theorem d_M_hasRelation_46 : decode mM_hasRelation.2.1 46 = .ok (.getfield 33, 3) := dq_get dd_M_hasRelation_0 (i := 25) rfl
theorem d_M_hasRelation_49 : decode mM_hasRelation.2.1 49 = .ok (.iload_n 1, 1) := dq_get dd_M_hasRelation_0 (i := 26) rfl
theorem d_M_hasRelation_50 : decode mM_hasRelation.2.1 50 = .ok (.iaload, 1) := dq_get dd_M_hasRelation_0 (i := 27) rfl
theorem d_M_hasRelation_51 : decode mM_hasRelation.2.1 51 = .ok (.bipush 20, 2) := dq_get dd_M_hasRelation_0 (i := 28) rfl
theorem d_M_hasRelation_53 : decode mM_hasRelation.2.1 53 = .ok (.if_icmp .eq 20, 3) := dq_get dd_M_hasRelation_0 (i := 29) rfl
theorem d_M_hasRelation_56 : decode mM_hasRelation.2.1 56 = .ok (.aload_n 0, 1) := dq_get dd_M_hasRelation_0 (i := 30) rfl
theorem d_M_hasRelation_57 : decode mM_hasRelation.2.1 57 = .ok (.getfield 33, 3) := dq_get dd_M_hasRelation_0 (i := 31) rfl
theorem dd_M_hasRelation_32 : dq mM_hasRelation.2.1 [(60, .iload_n 1, 1), (61, .iaload, 1), (62, .invokestatic 267, 3), (65, .iconst 4, 1), (66, .if_icmp .ne 7, 3), (69, .iconst 1, 1), (70, .goto 4, 3), (73, .iconst 0, 1), (74, .ireturn, 1)] = true := by decide +kernel
theorem d_M_hasRelation_60 : decode mM_hasRelation.2.1 60 = .ok (.iload_n 1, 1) := dq_get dd_M_hasRelation_32 (i := 0) rfl
theorem d_M_hasRelation_61 : decode mM_hasRelation.2.1 61 = .ok (.iaload, 1) := dq_get dd_M_hasRelation_32 (i := 1) rfl
theorem d_M_hasRelation_62 : decode mM_hasRelation.2.1 62 = .ok (.invokestatic 267, 3) := dq_get dd_M_hasRelation_32 (i := 2) rfl
theorem d_M_hasRelation_65 : decode mM_hasRelation.2.1 65 = .ok (.iconst 4, 1) := dq_get dd_M_hasRelation_32 (i := 3) rfl
theorem d_M_hasRelation_66 : decode mM_hasRelation.2.1 66 = .ok (.if_icmp .ne 7, 3) := dq_get dd_M_hasRelation_32 (i := 4) rfl
theorem d_M_hasRelation_69 : decode mM_hasRelation.2.1 69 = .ok (.iconst 1, 1) := dq_get dd_M_hasRelation_32 (i := 5) rfl
theorem d_M_hasRelation_70 : decode mM_hasRelation.2.1 70 = .ok (.goto 4, 3) := dq_get dd_M_hasRelation_32 (i := 6) rfl
theorem d_M_hasRelation_73 : decode mM_hasRelation.2.1 73 = .ok (.iconst 0, 1) := dq_get dd_M_hasRelation_32 (i := 7) rfl
theorem d_M_hasRelation_74 : decode mM_hasRelation.2.1 74 = .ok (.ireturn, 1) := dq_get dd_M_hasRelation_32 (i := 8) rfl
theorem dd_M_begin_0 : dq mM_begin.2.1 [(0, .iconst 0, 1), (1, .istore_n 1, 1), (2, .iload_n 1, 1), (3, .bipush 41, 2), (5, .if_icmp .ge 16, 3), (8, .aload_n 0, 1), (9, .getfield 96, 3), (12, .iload_n 1, 1), (13, .iconst 0, 1), (14, .iastore, 1), (15, .iinc 1 1, 3), (18, .goto (-16), 3), (21, .iconst 0, 1), (22, .istore_n 1, 1), (23, .iload_n 1, 1), (24, .aload_n 0, 1), (25, .getfield 322, 3), (28, .if_icmp .ge 54, 3), (31, .aload_n 0, 1), (32, .getfield 96, 3), (35, .bipush 10, 2), (37, .iload_n 1, 1), (38, .iadd, 1), (39, .aload_n 0, 1), (40, .getfield 69, 3), (43, .iload_n 1, 1), (44, .iaload, 1), (45, .iastore, 1), (46, .aload_n 0, 1), (47, .getfield 96, 3), (50, .bipush 20, 2), (52, .iload_n 1, 1)] = true := by decide +kernel
theorem d_M_begin_0 : decode mM_begin.2.1 0 = .ok (.iconst 0, 1) := dq_get dd_M_begin_0 (i := 0) rfl
theorem d_M_begin_1 : decode mM_begin.2.1 1 = .ok (.istore_n 1, 1) := dq_get dd_M_begin_0 (i := 1) rfl
theorem d_M_begin_2 : decode mM_begin.2.1 2 = .ok (.iload_n 1, 1) := dq_get dd_M_begin_0 (i := 2) rfl
theorem d_M_begin_3 : decode mM_begin.2.1 3 = .ok (.bipush 41, 2) := dq_get dd_M_begin_0 (i := 3) rfl
theorem d_M_begin_5 : decode mM_begin.2.1 5 = .ok (.if_icmp .ge 16, 3) := dq_get dd_M_begin_0 (i := 4) rfl
theorem d_M_begin_8 : decode mM_begin.2.1 8 = .ok (.aload_n 0, 1) := dq_get dd_M_begin_0 (i := 5) rfl
theorem d_M_begin_9 : decode mM_begin.2.1 9 = .ok (.getfield 96, 3) := dq_get dd_M_begin_0 (i := 6) rfl
theorem d_M_begin_12 : decode mM_begin.2.1 12 = .ok (.iload_n 1, 1) := dq_get dd_M_begin_0 (i := 7) rfl
theorem d_M_begin_13 : decode mM_begin.2.1 13 = .ok (.iconst 0, 1) := dq_get dd_M_begin_0 (i := 8) rfl
theorem d_M_begin_14 : decode mM_begin.2.1 14 = .ok (.iastore, 1) := dq_get dd_M_begin_0 (i := 9) rfl
theorem d_M_begin_15 : decode mM_begin.2.1 15 = .ok (.iinc 1 1, 3) := dq_get dd_M_begin_0 (i := 10) rfl
theorem d_M_begin_18 : decode mM_begin.2.1 18 = .ok (.goto (-16), 3) := dq_get dd_M_begin_0 (i := 11) rfl
theorem d_M_begin_21 : decode mM_begin.2.1 21 = .ok (.iconst 0, 1) := dq_get dd_M_begin_0 (i := 12) rfl
theorem d_M_begin_22 : decode mM_begin.2.1 22 = .ok (.istore_n 1, 1) := dq_get dd_M_begin_0 (i := 13) rfl
theorem d_M_begin_23 : decode mM_begin.2.1 23 = .ok (.iload_n 1, 1) := dq_get dd_M_begin_0 (i := 14) rfl
theorem d_M_begin_24 : decode mM_begin.2.1 24 = .ok (.aload_n 0, 1) := dq_get dd_M_begin_0 (i := 15) rfl
theorem d_M_begin_25 : decode mM_begin.2.1 25 = .ok (.getfield 322, 3) := dq_get dd_M_begin_0 (i := 16) rfl
theorem d_M_begin_28 : decode mM_begin.2.1 28 = .ok (.if_icmp .ge 54, 3) := dq_get dd_M_begin_0 (i := 17) rfl
theorem d_M_begin_31 : decode mM_begin.2.1 31 = .ok (.aload_n 0, 1) := dq_get dd_M_begin_0 (i := 18) rfl
theorem d_M_begin_32 : decode mM_begin.2.1 32 = .ok (.getfield 96, 3) := dq_get dd_M_begin_0 (i := 19) rfl
theorem d_M_begin_35 : decode mM_begin.2.1 35 = .ok (.bipush 10, 2) := dq_get dd_M_begin_0 (i := 20) rfl
theorem d_M_begin_37 : decode mM_begin.2.1 37 = .ok (.iload_n 1, 1) := dq_get dd_M_begin_0 (i := 21) rfl
theorem d_M_begin_38 : decode mM_begin.2.1 38 = .ok (.iadd, 1) := dq_get dd_M_begin_0 (i := 22) rfl
theorem d_M_begin_39 : decode mM_begin.2.1 39 = .ok (.aload_n 0, 1) := dq_get dd_M_begin_0 (i := 23) rfl
theorem d_M_begin_40 : decode mM_begin.2.1 40 = .ok (.getfield 69, 3) := dq_get dd_M_begin_0 (i := 24) rfl
theorem d_M_begin_43 : decode mM_begin.2.1 43 = .ok (.iload_n 1, 1) := dq_get dd_M_begin_0 (i := 25) rfl
theorem d_M_begin_44 : decode mM_begin.2.1 44 = .ok (.iaload, 1) := dq_get dd_M_begin_0 (i := 26) rfl
theorem d_M_begin_45 : decode mM_begin.2.1 45 = .ok (.iastore, 1) := dq_get dd_M_begin_0 (i := 27) rfl
theorem d_M_begin_46 : decode mM_begin.2.1 46 = .ok (.aload_n 0, 1) := dq_get dd_M_begin_0 (i := 28) rfl
theorem d_M_begin_47 : decode mM_begin.2.1 47 = .ok (.getfield 96, 3) := dq_get dd_M_begin_0 (i := 29) rfl
theorem d_M_begin_50 : decode mM_begin.2.1 50 = .ok (.bipush 20, 2) := dq_get dd_M_begin_0 (i := 30) rfl
theorem d_M_begin_52 : decode mM_begin.2.1 52 = .ok (.iload_n 1, 1) := dq_get dd_M_begin_0 (i := 31) rfl
theorem dd_M_begin_32 : dq mM_begin.2.1 [(53, .iadd, 1), (54, .aload_n 0, 1), (55, .getfield 72, 3), (58, .iload_n 1, 1), (59, .iaload, 1), (60, .iastore, 1), (61, .aload_n 0, 1), (62, .getfield 96, 3), (65, .bipush 30, 2), (67, .iload_n 1, 1), (68, .iadd, 1), (69, .aload_n 0, 1), (70, .getfield 75, 3), (73, .iload_n 1, 1), (74, .iaload, 1), (75, .iastore, 1), (76, .iinc 1 1, 3), (79, .goto (-56), 3), (82, .return_, 1)] = true := by decide +kernel
theorem d_M_begin_53 : decode mM_begin.2.1 53 = .ok (.iadd, 1) := dq_get dd_M_begin_32 (i := 0) rfl
theorem d_M_begin_54 : decode mM_begin.2.1 54 = .ok (.aload_n 0, 1) := dq_get dd_M_begin_32 (i := 1) rfl
theorem d_M_begin_55 : decode mM_begin.2.1 55 = .ok (.getfield 72, 3) := dq_get dd_M_begin_32 (i := 2) rfl
theorem d_M_begin_58 : decode mM_begin.2.1 58 = .ok (.iload_n 1, 1) := dq_get dd_M_begin_32 (i := 3) rfl
theorem d_M_begin_59 : decode mM_begin.2.1 59 = .ok (.iaload, 1) := dq_get dd_M_begin_32 (i := 4) rfl
theorem d_M_begin_60 : decode mM_begin.2.1 60 = .ok (.iastore, 1) := dq_get dd_M_begin_32 (i := 5) rfl
theorem d_M_begin_61 : decode mM_begin.2.1 61 = .ok (.aload_n 0, 1) := dq_get dd_M_begin_32 (i := 6) rfl
theorem d_M_begin_62 : decode mM_begin.2.1 62 = .ok (.getfield 96, 3) := dq_get dd_M_begin_32 (i := 7) rfl
theorem d_M_begin_65 : decode mM_begin.2.1 65 = .ok (.bipush 30, 2) := dq_get dd_M_begin_32 (i := 8) rfl
theorem d_M_begin_67 : decode mM_begin.2.1 67 = .ok (.iload_n 1, 1) := dq_get dd_M_begin_32 (i := 9) rfl
theorem d_M_begin_68 : decode mM_begin.2.1 68 = .ok (.iadd, 1) := dq_get dd_M_begin_32 (i := 10) rfl
theorem d_M_begin_69 : decode mM_begin.2.1 69 = .ok (.aload_n 0, 1) := dq_get dd_M_begin_32 (i := 11) rfl
theorem d_M_begin_70 : decode mM_begin.2.1 70 = .ok (.getfield 75, 3) := dq_get dd_M_begin_32 (i := 12) rfl
theorem d_M_begin_73 : decode mM_begin.2.1 73 = .ok (.iload_n 1, 1) := dq_get dd_M_begin_32 (i := 13) rfl
theorem d_M_begin_74 : decode mM_begin.2.1 74 = .ok (.iaload, 1) := dq_get dd_M_begin_32 (i := 14) rfl
theorem d_M_begin_75 : decode mM_begin.2.1 75 = .ok (.iastore, 1) := dq_get dd_M_begin_32 (i := 15) rfl
theorem d_M_begin_76 : decode mM_begin.2.1 76 = .ok (.iinc 1 1, 3) := dq_get dd_M_begin_32 (i := 16) rfl
theorem d_M_begin_79 : decode mM_begin.2.1 79 = .ok (.goto (-56), 3) := dq_get dd_M_begin_32 (i := 17) rfl
theorem d_M_begin_82 : decode mM_begin.2.1 82 = .ok (.return_, 1) := dq_get dd_M_begin_32 (i := 18) rfl
theorem dd_M_keepAir_0 : dq mM_keepAir.2.1 [(0, .iconst 0, 1), (1, .istore_n 1, 1), (2, .iload_n 1, 1), (3, .bipush 41, 2), (5, .if_icmp .ge 21, 3), (8, .aload_n 0, 1), (9, .getfield 93, 3), (12, .iload_n 1, 1), (13, .aload_n 0, 1), (14, .getfield 96, 3), (17, .iload_n 1, 1), (18, .iaload, 1), (19, .iastore, 1), (20, .iinc 1 1, 3), (23, .goto (-21), 3), (26, .return_, 1)] = true := by decide +kernel
theorem d_M_keepAir_0 : decode mM_keepAir.2.1 0 = .ok (.iconst 0, 1) := dq_get dd_M_keepAir_0 (i := 0) rfl
theorem d_M_keepAir_1 : decode mM_keepAir.2.1 1 = .ok (.istore_n 1, 1) := dq_get dd_M_keepAir_0 (i := 1) rfl
theorem d_M_keepAir_2 : decode mM_keepAir.2.1 2 = .ok (.iload_n 1, 1) := dq_get dd_M_keepAir_0 (i := 2) rfl
theorem d_M_keepAir_3 : decode mM_keepAir.2.1 3 = .ok (.bipush 41, 2) := dq_get dd_M_keepAir_0 (i := 3) rfl
theorem d_M_keepAir_5 : decode mM_keepAir.2.1 5 = .ok (.if_icmp .ge 21, 3) := dq_get dd_M_keepAir_0 (i := 4) rfl
theorem d_M_keepAir_8 : decode mM_keepAir.2.1 8 = .ok (.aload_n 0, 1) := dq_get dd_M_keepAir_0 (i := 5) rfl
theorem d_M_keepAir_9 : decode mM_keepAir.2.1 9 = .ok (.getfield 93, 3) := dq_get dd_M_keepAir_0 (i := 6) rfl
theorem d_M_keepAir_12 : decode mM_keepAir.2.1 12 = .ok (.iload_n 1, 1) := dq_get dd_M_keepAir_0 (i := 7) rfl
theorem d_M_keepAir_13 : decode mM_keepAir.2.1 13 = .ok (.aload_n 0, 1) := dq_get dd_M_keepAir_0 (i := 8) rfl
theorem d_M_keepAir_14 : decode mM_keepAir.2.1 14 = .ok (.getfield 96, 3) := dq_get dd_M_keepAir_0 (i := 9) rfl
theorem d_M_keepAir_17 : decode mM_keepAir.2.1 17 = .ok (.iload_n 1, 1) := dq_get dd_M_keepAir_0 (i := 10) rfl
theorem d_M_keepAir_18 : decode mM_keepAir.2.1 18 = .ok (.iaload, 1) := dq_get dd_M_keepAir_0 (i := 11) rfl
theorem d_M_keepAir_19 : decode mM_keepAir.2.1 19 = .ok (.iastore, 1) := dq_get dd_M_keepAir_0 (i := 12) rfl
theorem d_M_keepAir_20 : decode mM_keepAir.2.1 20 = .ok (.iinc 1 1, 3) := dq_get dd_M_keepAir_0 (i := 13) rfl
theorem d_M_keepAir_23 : decode mM_keepAir.2.1 23 = .ok (.goto (-21), 3) := dq_get dd_M_keepAir_0 (i := 14) rfl
theorem d_M_keepAir_26 : decode mM_keepAir.2.1 26 = .ok (.return_, 1) := dq_get dd_M_keepAir_0 (i := 15) rfl
theorem dd_M_fault_0 : dq mM_fault.2.1 [(0, .iload_n 1, 1), (1, .ifCond .ne 10, 3), (4, .aload_n 0, 1), (5, .getfield 185, 3), (8, .goto 16, 3), (11, .iload_n 1, 1), (12, .iconst 1, 1), (13, .if_icmp .ne 10, 3), (16, .aload_n 0, 1), (17, .getfield 13, 3), (20, .goto 4, 3), (23, .iconst (-1), 1), (24, .ireturn, 1)] = true := by decide +kernel
theorem d_M_fault_0 : decode mM_fault.2.1 0 = .ok (.iload_n 1, 1) := dq_get dd_M_fault_0 (i := 0) rfl
theorem d_M_fault_1 : decode mM_fault.2.1 1 = .ok (.ifCond .ne 10, 3) := dq_get dd_M_fault_0 (i := 1) rfl
theorem d_M_fault_4 : decode mM_fault.2.1 4 = .ok (.aload_n 0, 1) := dq_get dd_M_fault_0 (i := 2) rfl
theorem d_M_fault_5 : decode mM_fault.2.1 5 = .ok (.getfield 185, 3) := dq_get dd_M_fault_0 (i := 3) rfl
theorem d_M_fault_8 : decode mM_fault.2.1 8 = .ok (.goto 16, 3) := dq_get dd_M_fault_0 (i := 4) rfl
theorem d_M_fault_11 : decode mM_fault.2.1 11 = .ok (.iload_n 1, 1) := dq_get dd_M_fault_0 (i := 5) rfl
theorem d_M_fault_12 : decode mM_fault.2.1 12 = .ok (.iconst 1, 1) := dq_get dd_M_fault_0 (i := 6) rfl
theorem d_M_fault_13 : decode mM_fault.2.1 13 = .ok (.if_icmp .ne 10, 3) := dq_get dd_M_fault_0 (i := 7) rfl
theorem d_M_fault_16 : decode mM_fault.2.1 16 = .ok (.aload_n 0, 1) := dq_get dd_M_fault_0 (i := 8) rfl
theorem d_M_fault_17 : decode mM_fault.2.1 17 = .ok (.getfield 13, 3) := dq_get dd_M_fault_0 (i := 9) rfl
theorem d_M_fault_20 : decode mM_fault.2.1 20 = .ok (.goto 4, 3) := dq_get dd_M_fault_0 (i := 10) rfl
theorem d_M_fault_23 : decode mM_fault.2.1 23 = .ok (.iconst (-1), 1) := dq_get dd_M_fault_0 (i := 11) rfl
theorem d_M_fault_24 : decode mM_fault.2.1 24 = .ok (.ireturn, 1) := dq_get dd_M_fault_0 (i := 12) rfl
theorem dd_M_note_0 : dq mM_note.2.1 [(0, .aload_n 0, 1), (1, .iload_n 1, 1), (2, .invokevirtual 461, 3), (5, .ifCond .ne 5, 3), (8, .iconst (-1), 1), (9, .ireturn, 1), (10, .aload_n 0, 1), (11, .invokevirtual 464, 3), (14, .iload_n 2, 1), (15, .tableswitch 108 0 7 #[45, 52, 59, 69, 79, 89, 96, 102], 45), (60, .aload_n 0, 1), (61, .getfield 63, 3), (64, .iload_n 1, 1), (65, .iaload, 1), (66, .ireturn, 1), (67, .aload_n 0, 1), (68, .getfield 66, 3), (71, .iload_n 1, 1), (72, .iaload, 1), (73, .ireturn, 1), (74, .aload_n 0, 1), (75, .getfield 96, 3), (78, .bipush 10, 2), (80, .iload_n 1, 1), (81, .iadd, 1), (82, .iaload, 1), (83, .ireturn, 1), (84, .aload_n 0, 1), (85, .getfield 96, 3), (88, .bipush 20, 2), (90, .iload_n 1, 1), (91, .iadd, 1)] = true := by decide +kernel
theorem d_M_note_0 : decode mM_note.2.1 0 = .ok (.aload_n 0, 1) := dq_get dd_M_note_0 (i := 0) rfl
theorem d_M_note_1 : decode mM_note.2.1 1 = .ok (.iload_n 1, 1) := dq_get dd_M_note_0 (i := 1) rfl
theorem d_M_note_2 : decode mM_note.2.1 2 = .ok (.invokevirtual 461, 3) := dq_get dd_M_note_0 (i := 2) rfl
theorem d_M_note_5 : decode mM_note.2.1 5 = .ok (.ifCond .ne 5, 3) := dq_get dd_M_note_0 (i := 3) rfl
theorem d_M_note_8 : decode mM_note.2.1 8 = .ok (.iconst (-1), 1) := dq_get dd_M_note_0 (i := 4) rfl
theorem d_M_note_9 : decode mM_note.2.1 9 = .ok (.ireturn, 1) := dq_get dd_M_note_0 (i := 5) rfl
theorem d_M_note_10 : decode mM_note.2.1 10 = .ok (.aload_n 0, 1) := dq_get dd_M_note_0 (i := 6) rfl
theorem d_M_note_11 : decode mM_note.2.1 11 = .ok (.invokevirtual 464, 3) := dq_get dd_M_note_0 (i := 7) rfl
theorem d_M_note_14 : decode mM_note.2.1 14 = .ok (.iload_n 2, 1) := dq_get dd_M_note_0 (i := 8) rfl
theorem d_M_note_15 : decode mM_note.2.1 15 = .ok (.tableswitch 108 0 7 #[45, 52, 59, 69, 79, 89, 96, 102], 45) := dq_get dd_M_note_0 (i := 9) rfl
theorem d_M_note_60 : decode mM_note.2.1 60 = .ok (.aload_n 0, 1) := dq_get dd_M_note_0 (i := 10) rfl
theorem d_M_note_61 : decode mM_note.2.1 61 = .ok (.getfield 63, 3) := dq_get dd_M_note_0 (i := 11) rfl
theorem d_M_note_64 : decode mM_note.2.1 64 = .ok (.iload_n 1, 1) := dq_get dd_M_note_0 (i := 12) rfl
theorem d_M_note_65 : decode mM_note.2.1 65 = .ok (.iaload, 1) := dq_get dd_M_note_0 (i := 13) rfl
theorem d_M_note_66 : decode mM_note.2.1 66 = .ok (.ireturn, 1) := dq_get dd_M_note_0 (i := 14) rfl
theorem d_M_note_67 : decode mM_note.2.1 67 = .ok (.aload_n 0, 1) := dq_get dd_M_note_0 (i := 15) rfl
theorem d_M_note_68 : decode mM_note.2.1 68 = .ok (.getfield 66, 3) := dq_get dd_M_note_0 (i := 16) rfl
theorem d_M_note_71 : decode mM_note.2.1 71 = .ok (.iload_n 1, 1) := dq_get dd_M_note_0 (i := 17) rfl
theorem d_M_note_72 : decode mM_note.2.1 72 = .ok (.iaload, 1) := dq_get dd_M_note_0 (i := 18) rfl
theorem d_M_note_73 : decode mM_note.2.1 73 = .ok (.ireturn, 1) := dq_get dd_M_note_0 (i := 19) rfl
theorem d_M_note_74 : decode mM_note.2.1 74 = .ok (.aload_n 0, 1) := dq_get dd_M_note_0 (i := 20) rfl
theorem d_M_note_75 : decode mM_note.2.1 75 = .ok (.getfield 96, 3) := dq_get dd_M_note_0 (i := 21) rfl
theorem d_M_note_78 : decode mM_note.2.1 78 = .ok (.bipush 10, 2) := dq_get dd_M_note_0 (i := 22) rfl
theorem d_M_note_80 : decode mM_note.2.1 80 = .ok (.iload_n 1, 1) := dq_get dd_M_note_0 (i := 23) rfl
theorem d_M_note_81 : decode mM_note.2.1 81 = .ok (.iadd, 1) := dq_get dd_M_note_0 (i := 24) rfl
theorem d_M_note_82 : decode mM_note.2.1 82 = .ok (.iaload, 1) := dq_get dd_M_note_0 (i := 25) rfl
theorem d_M_note_83 : decode mM_note.2.1 83 = .ok (.ireturn, 1) := dq_get dd_M_note_0 (i := 26) rfl
theorem d_M_note_84 : decode mM_note.2.1 84 = .ok (.aload_n 0, 1) := dq_get dd_M_note_0 (i := 27) rfl
theorem d_M_note_85 : decode mM_note.2.1 85 = .ok (.getfield 96, 3) := dq_get dd_M_note_0 (i := 28) rfl
theorem d_M_note_88 : decode mM_note.2.1 88 = .ok (.bipush 20, 2) := dq_get dd_M_note_0 (i := 29) rfl
theorem d_M_note_90 : decode mM_note.2.1 90 = .ok (.iload_n 1, 1) := dq_get dd_M_note_0 (i := 30) rfl
theorem d_M_note_91 : decode mM_note.2.1 91 = .ok (.iadd, 1) := dq_get dd_M_note_0 (i := 31) rfl
theorem dd_M_note_32 : dq mM_note.2.1 [(92, .iaload, 1), (93, .ireturn, 1), (94, .aload_n 0, 1), (95, .getfield 96, 3), (98, .bipush 30, 2), (100, .iload_n 1, 1), (101, .iadd, 1), (102, .iaload, 1), (103, .ireturn, 1), (104, .aload_n 0, 1), (105, .getfield 96, 3), (108, .iload_n 1, 1), (109, .iaload, 1), (110, .ireturn, 1), (111, .aload_n 0, 1), (112, .iload_n 1, 1), (113, .invokevirtual 467, 3), (116, .ireturn, 1), (117, .aload_n 0, 1), (118, .iload_n 1, 1), (119, .invokevirtual 328, 3), (122, .ireturn, 1), (123, .iconst (-1), 1), (124, .ireturn, 1)] = true := by decide +kernel
theorem d_M_note_92 : decode mM_note.2.1 92 = .ok (.iaload, 1) := dq_get dd_M_note_32 (i := 0) rfl
theorem d_M_note_93 : decode mM_note.2.1 93 = .ok (.ireturn, 1) := dq_get dd_M_note_32 (i := 1) rfl
theorem d_M_note_94 : decode mM_note.2.1 94 = .ok (.aload_n 0, 1) := dq_get dd_M_note_32 (i := 2) rfl
theorem d_M_note_95 : decode mM_note.2.1 95 = .ok (.getfield 96, 3) := dq_get dd_M_note_32 (i := 3) rfl
theorem d_M_note_98 : decode mM_note.2.1 98 = .ok (.bipush 30, 2) := dq_get dd_M_note_32 (i := 4) rfl
theorem d_M_note_100 : decode mM_note.2.1 100 = .ok (.iload_n 1, 1) := dq_get dd_M_note_32 (i := 5) rfl
theorem d_M_note_101 : decode mM_note.2.1 101 = .ok (.iadd, 1) := dq_get dd_M_note_32 (i := 6) rfl
theorem d_M_note_102 : decode mM_note.2.1 102 = .ok (.iaload, 1) := dq_get dd_M_note_32 (i := 7) rfl
theorem d_M_note_103 : decode mM_note.2.1 103 = .ok (.ireturn, 1) := dq_get dd_M_note_32 (i := 8) rfl
theorem d_M_note_104 : decode mM_note.2.1 104 = .ok (.aload_n 0, 1) := dq_get dd_M_note_32 (i := 9) rfl
theorem d_M_note_105 : decode mM_note.2.1 105 = .ok (.getfield 96, 3) := dq_get dd_M_note_32 (i := 10) rfl
theorem d_M_note_108 : decode mM_note.2.1 108 = .ok (.iload_n 1, 1) := dq_get dd_M_note_32 (i := 11) rfl
theorem d_M_note_109 : decode mM_note.2.1 109 = .ok (.iaload, 1) := dq_get dd_M_note_32 (i := 12) rfl
theorem d_M_note_110 : decode mM_note.2.1 110 = .ok (.ireturn, 1) := dq_get dd_M_note_32 (i := 13) rfl
theorem d_M_note_111 : decode mM_note.2.1 111 = .ok (.aload_n 0, 1) := dq_get dd_M_note_32 (i := 14) rfl
theorem d_M_note_112 : decode mM_note.2.1 112 = .ok (.iload_n 1, 1) := dq_get dd_M_note_32 (i := 15) rfl
theorem d_M_note_113 : decode mM_note.2.1 113 = .ok (.invokevirtual 467, 3) := dq_get dd_M_note_32 (i := 16) rfl
theorem d_M_note_116 : decode mM_note.2.1 116 = .ok (.ireturn, 1) := dq_get dd_M_note_32 (i := 17) rfl
theorem d_M_note_117 : decode mM_note.2.1 117 = .ok (.aload_n 0, 1) := dq_get dd_M_note_32 (i := 18) rfl
theorem d_M_note_118 : decode mM_note.2.1 118 = .ok (.iload_n 1, 1) := dq_get dd_M_note_32 (i := 19) rfl
theorem d_M_note_119 : decode mM_note.2.1 119 = .ok (.invokevirtual 328, 3) := dq_get dd_M_note_32 (i := 20) rfl
theorem d_M_note_122 : decode mM_note.2.1 122 = .ok (.ireturn, 1) := dq_get dd_M_note_32 (i := 21) rfl
theorem d_M_note_123 : decode mM_note.2.1 123 = .ok (.iconst (-1), 1) := dq_get dd_M_note_32 (i := 22) rfl
theorem d_M_note_124 : decode mM_note.2.1 124 = .ok (.ireturn, 1) := dq_get dd_M_note_32 (i := 23) rfl
theorem dd_M_isNote_0 : dq mM_isNote.2.1 [(0, .iload_n 1, 1), (1, .iconst 0, 1), (2, .aload_n 0, 1), (3, .getfield 322, 3), (6, .iconst 1, 1), (7, .isub, 1), (8, .invokestatic 429, 3), (11, .ireturn, 1)] = true := by decide +kernel
theorem d_M_isNote_0 : decode mM_isNote.2.1 0 = .ok (.iload_n 1, 1) := dq_get dd_M_isNote_0 (i := 0) rfl
theorem d_M_isNote_1 : decode mM_isNote.2.1 1 = .ok (.iconst 0, 1) := dq_get dd_M_isNote_0 (i := 1) rfl
theorem d_M_isNote_2 : decode mM_isNote.2.1 2 = .ok (.aload_n 0, 1) := dq_get dd_M_isNote_0 (i := 2) rfl
theorem d_M_isNote_3 : decode mM_isNote.2.1 3 = .ok (.getfield 322, 3) := dq_get dd_M_isNote_0 (i := 3) rfl
theorem d_M_isNote_6 : decode mM_isNote.2.1 6 = .ok (.iconst 1, 1) := dq_get dd_M_isNote_0 (i := 4) rfl
theorem d_M_isNote_7 : decode mM_isNote.2.1 7 = .ok (.isub, 1) := dq_get dd_M_isNote_0 (i := 5) rfl
theorem d_M_isNote_8 : decode mM_isNote.2.1 8 = .ok (.invokestatic 429, 3) := dq_get dd_M_isNote_0 (i := 6) rfl
theorem d_M_isNote_11 : decode mM_isNote.2.1 11 = .ok (.ireturn, 1) := dq_get dd_M_isNote_0 (i := 7) rfl
theorem dd_M_isIn_0 : dq mM_isIn.2.1 [(0, .iload_n 0, 1), (1, .iload_n 1, 1), (2, .if_icmp .lt 12, 3), (5, .iload_n 0, 1), (6, .iload_n 2, 1), (7, .if_icmp .gt 7, 3), (10, .iconst 1, 1), (11, .goto 4, 3), (14, .iconst 0, 1), (15, .ireturn, 1)] = true := by decide +kernel
theorem d_M_isIn_0 : decode mM_isIn.2.1 0 = .ok (.iload_n 0, 1) := dq_get dd_M_isIn_0 (i := 0) rfl
theorem d_M_isIn_1 : decode mM_isIn.2.1 1 = .ok (.iload_n 1, 1) := dq_get dd_M_isIn_0 (i := 1) rfl
theorem d_M_isIn_2 : decode mM_isIn.2.1 2 = .ok (.if_icmp .lt 12, 3) := dq_get dd_M_isIn_0 (i := 2) rfl
theorem d_M_isIn_5 : decode mM_isIn.2.1 5 = .ok (.iload_n 0, 1) := dq_get dd_M_isIn_0 (i := 3) rfl
theorem d_M_isIn_6 : decode mM_isIn.2.1 6 = .ok (.iload_n 2, 1) := dq_get dd_M_isIn_0 (i := 4) rfl
theorem d_M_isIn_7 : decode mM_isIn.2.1 7 = .ok (.if_icmp .gt 7, 3) := dq_get dd_M_isIn_0 (i := 5) rfl
theorem d_M_isIn_10 : decode mM_isIn.2.1 10 = .ok (.iconst 1, 1) := dq_get dd_M_isIn_0 (i := 6) rfl
theorem d_M_isIn_11 : decode mM_isIn.2.1 11 = .ok (.goto 4, 3) := dq_get dd_M_isIn_0 (i := 7) rfl
theorem d_M_isIn_14 : decode mM_isIn.2.1 14 = .ok (.iconst 0, 1) := dq_get dd_M_isIn_0 (i := 8) rfl
theorem d_M_isIn_15 : decode mM_isIn.2.1 15 = .ok (.ireturn, 1) := dq_get dd_M_isIn_0 (i := 9) rfl
theorem dd_M_fill_0 : dq mM_fill.2.1 [(0, .iconst 0, 1), (1, .istore_n 1, 1), (2, .iload_n 1, 1), (3, .bipush 41, 2), (5, .if_icmp .ge 21, 3), (8, .aload_n 0, 1), (9, .getfield 96, 3), (12, .iload_n 1, 1), (13, .aload_n 0, 1), (14, .getfield 93, 3), (17, .iload_n 1, 1), (18, .iaload, 1), (19, .iastore, 1), (20, .iinc 1 1, 3), (23, .goto (-21), 3), (26, .aload_n 0, 1), (27, .invokevirtual 433, 3), (30, .return_, 1)] = true := by decide +kernel
theorem d_M_fill_0 : decode mM_fill.2.1 0 = .ok (.iconst 0, 1) := dq_get dd_M_fill_0 (i := 0) rfl
theorem d_M_fill_1 : decode mM_fill.2.1 1 = .ok (.istore_n 1, 1) := dq_get dd_M_fill_0 (i := 1) rfl
theorem d_M_fill_2 : decode mM_fill.2.1 2 = .ok (.iload_n 1, 1) := dq_get dd_M_fill_0 (i := 2) rfl
theorem d_M_fill_3 : decode mM_fill.2.1 3 = .ok (.bipush 41, 2) := dq_get dd_M_fill_0 (i := 3) rfl
theorem d_M_fill_5 : decode mM_fill.2.1 5 = .ok (.if_icmp .ge 21, 3) := dq_get dd_M_fill_0 (i := 4) rfl
theorem d_M_fill_8 : decode mM_fill.2.1 8 = .ok (.aload_n 0, 1) := dq_get dd_M_fill_0 (i := 5) rfl
theorem d_M_fill_9 : decode mM_fill.2.1 9 = .ok (.getfield 96, 3) := dq_get dd_M_fill_0 (i := 6) rfl
theorem d_M_fill_12 : decode mM_fill.2.1 12 = .ok (.iload_n 1, 1) := dq_get dd_M_fill_0 (i := 7) rfl
theorem d_M_fill_13 : decode mM_fill.2.1 13 = .ok (.aload_n 0, 1) := dq_get dd_M_fill_0 (i := 8) rfl
theorem d_M_fill_14 : decode mM_fill.2.1 14 = .ok (.getfield 93, 3) := dq_get dd_M_fill_0 (i := 9) rfl
theorem d_M_fill_17 : decode mM_fill.2.1 17 = .ok (.iload_n 1, 1) := dq_get dd_M_fill_0 (i := 10) rfl
theorem d_M_fill_18 : decode mM_fill.2.1 18 = .ok (.iaload, 1) := dq_get dd_M_fill_0 (i := 11) rfl
theorem d_M_fill_19 : decode mM_fill.2.1 19 = .ok (.iastore, 1) := dq_get dd_M_fill_0 (i := 12) rfl
theorem d_M_fill_20 : decode mM_fill.2.1 20 = .ok (.iinc 1 1, 3) := dq_get dd_M_fill_0 (i := 13) rfl
theorem d_M_fill_23 : decode mM_fill.2.1 23 = .ok (.goto (-21), 3) := dq_get dd_M_fill_0 (i := 14) rfl
theorem d_M_fill_26 : decode mM_fill.2.1 26 = .ok (.aload_n 0, 1) := dq_get dd_M_fill_0 (i := 15) rfl
theorem d_M_fill_27 : decode mM_fill.2.1 27 = .ok (.invokevirtual 433, 3) := dq_get dd_M_fill_0 (i := 16) rfl
theorem d_M_fill_30 : decode mM_fill.2.1 30 = .ok (.return_, 1) := dq_get dd_M_fill_0 (i := 17) rfl
theorem dd_M_layHold_0 : dq mM_layHold.2.1 [(0, .iconst 0, 1), (1, .istore_n 1, 1), (2, .iload_n 1, 1), (3, .bipush 12, 2), (5, .if_icmp .ge 16, 3), (8, .aload_n 0, 1), (9, .getfield 99, 3), (12, .iload_n 1, 1), (13, .iconst 0, 1), (14, .iastore, 1), (15, .iinc 1 1, 3), (18, .goto (-16), 3), (21, .iconst 0, 1), (22, .istore_n 1, 1), (23, .iload_n 1, 1), (24, .aload_n 0, 1), (25, .getfield 322, 3), (28, .if_icmp .ge 102, 3), (31, .iconst 1, 1), (32, .istore_n 2, 1), (33, .aload_n 0, 1), (34, .getfield 66, 3), (37, .iload_n 1, 1), (38, .iaload, 1), (39, .istore_n 3, 1), (40, .iload_n 3, 1), (41, .aload_n 0, 1), (42, .getfield 78, 3), (45, .if_icmp .ge 79, 3), (48, .iload_n 2, 1), (49, .ifCond .eq 75, 3), (52, .iload_n 3, 1)] = true := by decide +kernel
theorem d_M_layHold_0 : decode mM_layHold.2.1 0 = .ok (.iconst 0, 1) := dq_get dd_M_layHold_0 (i := 0) rfl
theorem d_M_layHold_1 : decode mM_layHold.2.1 1 = .ok (.istore_n 1, 1) := dq_get dd_M_layHold_0 (i := 1) rfl
theorem d_M_layHold_2 : decode mM_layHold.2.1 2 = .ok (.iload_n 1, 1) := dq_get dd_M_layHold_0 (i := 2) rfl
theorem d_M_layHold_3 : decode mM_layHold.2.1 3 = .ok (.bipush 12, 2) := dq_get dd_M_layHold_0 (i := 3) rfl
theorem d_M_layHold_5 : decode mM_layHold.2.1 5 = .ok (.if_icmp .ge 16, 3) := dq_get dd_M_layHold_0 (i := 4) rfl
theorem d_M_layHold_8 : decode mM_layHold.2.1 8 = .ok (.aload_n 0, 1) := dq_get dd_M_layHold_0 (i := 5) rfl
theorem d_M_layHold_9 : decode mM_layHold.2.1 9 = .ok (.getfield 99, 3) := dq_get dd_M_layHold_0 (i := 6) rfl
theorem d_M_layHold_12 : decode mM_layHold.2.1 12 = .ok (.iload_n 1, 1) := dq_get dd_M_layHold_0 (i := 7) rfl
theorem d_M_layHold_13 : decode mM_layHold.2.1 13 = .ok (.iconst 0, 1) := dq_get dd_M_layHold_0 (i := 8) rfl
theorem d_M_layHold_14 : decode mM_layHold.2.1 14 = .ok (.iastore, 1) := dq_get dd_M_layHold_0 (i := 9) rfl
theorem d_M_layHold_15 : decode mM_layHold.2.1 15 = .ok (.iinc 1 1, 3) := dq_get dd_M_layHold_0 (i := 10) rfl
theorem d_M_layHold_18 : decode mM_layHold.2.1 18 = .ok (.goto (-16), 3) := dq_get dd_M_layHold_0 (i := 11) rfl
theorem d_M_layHold_21 : decode mM_layHold.2.1 21 = .ok (.iconst 0, 1) := dq_get dd_M_layHold_0 (i := 12) rfl
theorem d_M_layHold_22 : decode mM_layHold.2.1 22 = .ok (.istore_n 1, 1) := dq_get dd_M_layHold_0 (i := 13) rfl
theorem d_M_layHold_23 : decode mM_layHold.2.1 23 = .ok (.iload_n 1, 1) := dq_get dd_M_layHold_0 (i := 14) rfl
theorem d_M_layHold_24 : decode mM_layHold.2.1 24 = .ok (.aload_n 0, 1) := dq_get dd_M_layHold_0 (i := 15) rfl
theorem d_M_layHold_25 : decode mM_layHold.2.1 25 = .ok (.getfield 322, 3) := dq_get dd_M_layHold_0 (i := 16) rfl
theorem d_M_layHold_28 : decode mM_layHold.2.1 28 = .ok (.if_icmp .ge 102, 3) := dq_get dd_M_layHold_0 (i := 17) rfl
theorem d_M_layHold_31 : decode mM_layHold.2.1 31 = .ok (.iconst 1, 1) := dq_get dd_M_layHold_0 (i := 18) rfl
theorem d_M_layHold_32 : decode mM_layHold.2.1 32 = .ok (.istore_n 2, 1) := dq_get dd_M_layHold_0 (i := 19) rfl
theorem d_M_layHold_33 : decode mM_layHold.2.1 33 = .ok (.aload_n 0, 1) := dq_get dd_M_layHold_0 (i := 20) rfl
theorem d_M_layHold_34 : decode mM_layHold.2.1 34 = .ok (.getfield 66, 3) := dq_get dd_M_layHold_0 (i := 21) rfl
theorem d_M_layHold_37 : decode mM_layHold.2.1 37 = .ok (.iload_n 1, 1) := dq_get dd_M_layHold_0 (i := 22) rfl
theorem d_M_layHold_38 : decode mM_layHold.2.1 38 = .ok (.iaload, 1) := dq_get dd_M_layHold_0 (i := 23) rfl
theorem d_M_layHold_39 : decode mM_layHold.2.1 39 = .ok (.istore_n 3, 1) := dq_get dd_M_layHold_0 (i := 24) rfl
theorem d_M_layHold_40 : decode mM_layHold.2.1 40 = .ok (.iload_n 3, 1) := dq_get dd_M_layHold_0 (i := 25) rfl
theorem d_M_layHold_41 : decode mM_layHold.2.1 41 = .ok (.aload_n 0, 1) := dq_get dd_M_layHold_0 (i := 26) rfl
theorem d_M_layHold_42 : decode mM_layHold.2.1 42 = .ok (.getfield 78, 3) := dq_get dd_M_layHold_0 (i := 27) rfl
theorem d_M_layHold_45 : decode mM_layHold.2.1 45 = .ok (.if_icmp .ge 79, 3) := dq_get dd_M_layHold_0 (i := 28) rfl
theorem d_M_layHold_48 : decode mM_layHold.2.1 48 = .ok (.iload_n 2, 1) := dq_get dd_M_layHold_0 (i := 29) rfl
theorem d_M_layHold_49 : decode mM_layHold.2.1 49 = .ok (.ifCond .eq 75, 3) := dq_get dd_M_layHold_0 (i := 30) rfl
theorem d_M_layHold_52 : decode mM_layHold.2.1 52 = .ok (.iload_n 3, 1) := dq_get dd_M_layHold_0 (i := 31) rfl
theorem dd_M_layHold_32 : dq mM_layHold.2.1 [(53, .aload_n 0, 1), (54, .getfield 66, 3), (57, .iload_n 1, 1), (58, .iaload, 1), (59, .aload_n 0, 1), (60, .getfield 96, 3), (63, .bipush 20, 2), (65, .iload_n 1, 1), (66, .iadd, 1), (67, .iaload, 1), (68, .iadd, 1), (69, .if_icmp .ge 31, 3), (72, .iload_n 3, 1), (73, .aload_n 0, 1), (74, .getfield 66, 3), (77, .iload_n 1, 1), (78, .iaload, 1), (79, .if_icmp .eq 17, 3), (82, .aload_n 0, 1), (83, .getfield 96, 3), (86, .bipush 40, 2), (88, .iaload, 1), (89, .iload_n 3, 1), (90, .ishr, 1), (91, .iconst 1, 1), (92, .iand, 1), (93, .ifCond .ne 7, 3), (96, .iconst 1, 1), (97, .goto 4, 3), (100, .iconst 0, 1), (101, .istore_n 2, 1), (102, .iload_n 2, 1)] = true := by decide +kernel
theorem d_M_layHold_53 : decode mM_layHold.2.1 53 = .ok (.aload_n 0, 1) := dq_get dd_M_layHold_32 (i := 0) rfl
theorem d_M_layHold_54 : decode mM_layHold.2.1 54 = .ok (.getfield 66, 3) := dq_get dd_M_layHold_32 (i := 1) rfl
theorem d_M_layHold_57 : decode mM_layHold.2.1 57 = .ok (.iload_n 1, 1) := dq_get dd_M_layHold_32 (i := 2) rfl
theorem d_M_layHold_58 : decode mM_layHold.2.1 58 = .ok (.iaload, 1) := dq_get dd_M_layHold_32 (i := 3) rfl
theorem d_M_layHold_59 : decode mM_layHold.2.1 59 = .ok (.aload_n 0, 1) := dq_get dd_M_layHold_32 (i := 4) rfl
theorem d_M_layHold_60 : decode mM_layHold.2.1 60 = .ok (.getfield 96, 3) := dq_get dd_M_layHold_32 (i := 5) rfl
theorem d_M_layHold_63 : decode mM_layHold.2.1 63 = .ok (.bipush 20, 2) := dq_get dd_M_layHold_32 (i := 6) rfl
theorem d_M_layHold_65 : decode mM_layHold.2.1 65 = .ok (.iload_n 1, 1) := dq_get dd_M_layHold_32 (i := 7) rfl
theorem d_M_layHold_66 : decode mM_layHold.2.1 66 = .ok (.iadd, 1) := dq_get dd_M_layHold_32 (i := 8) rfl
theorem d_M_layHold_67 : decode mM_layHold.2.1 67 = .ok (.iaload, 1) := dq_get dd_M_layHold_32 (i := 9) rfl
theorem d_M_layHold_68 : decode mM_layHold.2.1 68 = .ok (.iadd, 1) := dq_get dd_M_layHold_32 (i := 10) rfl
theorem d_M_layHold_69 : decode mM_layHold.2.1 69 = .ok (.if_icmp .ge 31, 3) := dq_get dd_M_layHold_32 (i := 11) rfl
theorem d_M_layHold_72 : decode mM_layHold.2.1 72 = .ok (.iload_n 3, 1) := dq_get dd_M_layHold_32 (i := 12) rfl
theorem d_M_layHold_73 : decode mM_layHold.2.1 73 = .ok (.aload_n 0, 1) := dq_get dd_M_layHold_32 (i := 13) rfl
theorem d_M_layHold_74 : decode mM_layHold.2.1 74 = .ok (.getfield 66, 3) := dq_get dd_M_layHold_32 (i := 14) rfl
theorem d_M_layHold_77 : decode mM_layHold.2.1 77 = .ok (.iload_n 1, 1) := dq_get dd_M_layHold_32 (i := 15) rfl
theorem d_M_layHold_78 : decode mM_layHold.2.1 78 = .ok (.iaload, 1) := dq_get dd_M_layHold_32 (i := 16) rfl
theorem d_M_layHold_79 : decode mM_layHold.2.1 79 = .ok (.if_icmp .eq 17, 3) := dq_get dd_M_layHold_32 (i := 17) rfl
theorem d_M_layHold_82 : decode mM_layHold.2.1 82 = .ok (.aload_n 0, 1) := dq_get dd_M_layHold_32 (i := 18) rfl
theorem d_M_layHold_83 : decode mM_layHold.2.1 83 = .ok (.getfield 96, 3) := dq_get dd_M_layHold_32 (i := 19) rfl
theorem d_M_layHold_86 : decode mM_layHold.2.1 86 = .ok (.bipush 40, 2) := dq_get dd_M_layHold_32 (i := 20) rfl
theorem d_M_layHold_88 : decode mM_layHold.2.1 88 = .ok (.iaload, 1) := dq_get dd_M_layHold_32 (i := 21) rfl
theorem d_M_layHold_89 : decode mM_layHold.2.1 89 = .ok (.iload_n 3, 1) := dq_get dd_M_layHold_32 (i := 22) rfl
theorem d_M_layHold_90 : decode mM_layHold.2.1 90 = .ok (.ishr, 1) := dq_get dd_M_layHold_32 (i := 23) rfl
theorem d_M_layHold_91 : decode mM_layHold.2.1 91 = .ok (.iconst 1, 1) := dq_get dd_M_layHold_32 (i := 24) rfl
theorem d_M_layHold_92 : decode mM_layHold.2.1 92 = .ok (.iand, 1) := dq_get dd_M_layHold_32 (i := 25) rfl
theorem d_M_layHold_93 : decode mM_layHold.2.1 93 = .ok (.ifCond .ne 7, 3) := dq_get dd_M_layHold_32 (i := 26) rfl
theorem d_M_layHold_96 : decode mM_layHold.2.1 96 = .ok (.iconst 1, 1) := dq_get dd_M_layHold_32 (i := 27) rfl
theorem d_M_layHold_97 : decode mM_layHold.2.1 97 = .ok (.goto 4, 3) := dq_get dd_M_layHold_32 (i := 28) rfl
theorem d_M_layHold_100 : decode mM_layHold.2.1 100 = .ok (.iconst 0, 1) := dq_get dd_M_layHold_32 (i := 29) rfl
theorem d_M_layHold_101 : decode mM_layHold.2.1 101 = .ok (.istore_n 2, 1) := dq_get dd_M_layHold_32 (i := 30) rfl
theorem d_M_layHold_102 : decode mM_layHold.2.1 102 = .ok (.iload_n 2, 1) := dq_get dd_M_layHold_32 (i := 31) rfl
theorem dd_M_layHold_64 : dq mM_layHold.2.1 [(103, .ifCond .eq 15, 3), (106, .aload_n 0, 1), (107, .getfield 99, 3), (110, .iload_n 3, 1), (111, .dup2, 1), (112, .iaload, 1), (113, .iconst 1, 1), (114, .iload_n 1, 1), (115, .ishl, 1), (116, .ior, 1), (117, .iastore, 1), (118, .iinc 3 1, 3), (121, .goto (-81), 3), (124, .iinc 1 1, 3), (127, .goto (-104), 3), (130, .return_, 1)] = true := by decide +kernel
theorem d_M_layHold_103 : decode mM_layHold.2.1 103 = .ok (.ifCond .eq 15, 3) := dq_get dd_M_layHold_64 (i := 0) rfl
theorem d_M_layHold_106 : decode mM_layHold.2.1 106 = .ok (.aload_n 0, 1) := dq_get dd_M_layHold_64 (i := 1) rfl
theorem d_M_layHold_107 : decode mM_layHold.2.1 107 = .ok (.getfield 99, 3) := dq_get dd_M_layHold_64 (i := 2) rfl
theorem d_M_layHold_110 : decode mM_layHold.2.1 110 = .ok (.iload_n 3, 1) := dq_get dd_M_layHold_64 (i := 3) rfl
theorem d_M_layHold_111 : decode mM_layHold.2.1 111 = .ok (.dup2, 1) := dq_get dd_M_layHold_64 (i := 4) rfl
theorem d_M_layHold_112 : decode mM_layHold.2.1 112 = .ok (.iaload, 1) := dq_get dd_M_layHold_64 (i := 5) rfl
theorem d_M_layHold_113 : decode mM_layHold.2.1 113 = .ok (.iconst 1, 1) := dq_get dd_M_layHold_64 (i := 6) rfl
theorem d_M_layHold_114 : decode mM_layHold.2.1 114 = .ok (.iload_n 1, 1) := dq_get dd_M_layHold_64 (i := 7) rfl
theorem d_M_layHold_115 : decode mM_layHold.2.1 115 = .ok (.ishl, 1) := dq_get dd_M_layHold_64 (i := 8) rfl
theorem d_M_layHold_116 : decode mM_layHold.2.1 116 = .ok (.ior, 1) := dq_get dd_M_layHold_64 (i := 9) rfl
theorem d_M_layHold_117 : decode mM_layHold.2.1 117 = .ok (.iastore, 1) := dq_get dd_M_layHold_64 (i := 10) rfl
theorem d_M_layHold_118 : decode mM_layHold.2.1 118 = .ok (.iinc 3 1, 3) := dq_get dd_M_layHold_64 (i := 11) rfl
theorem d_M_layHold_121 : decode mM_layHold.2.1 121 = .ok (.goto (-81), 3) := dq_get dd_M_layHold_64 (i := 12) rfl
theorem d_M_layHold_124 : decode mM_layHold.2.1 124 = .ok (.iinc 1 1, 3) := dq_get dd_M_layHold_64 (i := 13) rfl
theorem d_M_layHold_127 : decode mM_layHold.2.1 127 = .ok (.goto (-104), 3) := dq_get dd_M_layHold_64 (i := 14) rfl
theorem d_M_layHold_130 : decode mM_layHold.2.1 130 = .ok (.return_, 1) := dq_get dd_M_layHold_64 (i := 15) rfl
theorem dd_M_missedOf_0 : dq mM_missedOf.2.1 [(0, .aload_n 0, 1), (1, .getfield 39, 3), (4, .iconst 0, 1), (5, .aload_n 0, 1), (6, .getfield 60, 3), (9, .aload_n 0, 1), (10, .getfield 63, 3), (13, .iload_n 1, 1), (14, .iaload, 1), (15, .iaload, 1), (16, .iastore, 1), (17, .aload_n 0, 1), (18, .getfield 39, 3), (21, .iconst 1, 1), (22, .aload_n 0, 1), (23, .getfield 96, 3), (26, .bipush 10, 2), (28, .iload_n 1, 1), (29, .iadd, 1), (30, .iaload, 1), (31, .iastore, 1), (32, .aload_n 0, 1), (33, .getfield 39, 3), (36, .iconst 2, 1), (37, .aload_n 0, 1), (38, .getfield 96, 3), (41, .bipush 20, 2), (43, .iload_n 1, 1), (44, .iadd, 1), (45, .iaload, 1), (46, .iastore, 1), (47, .aload_n 0, 1)] = true := by decide +kernel
theorem d_M_missedOf_0 : decode mM_missedOf.2.1 0 = .ok (.aload_n 0, 1) := dq_get dd_M_missedOf_0 (i := 0) rfl
theorem d_M_missedOf_1 : decode mM_missedOf.2.1 1 = .ok (.getfield 39, 3) := dq_get dd_M_missedOf_0 (i := 1) rfl
theorem d_M_missedOf_4 : decode mM_missedOf.2.1 4 = .ok (.iconst 0, 1) := dq_get dd_M_missedOf_0 (i := 2) rfl
theorem d_M_missedOf_5 : decode mM_missedOf.2.1 5 = .ok (.aload_n 0, 1) := dq_get dd_M_missedOf_0 (i := 3) rfl
theorem d_M_missedOf_6 : decode mM_missedOf.2.1 6 = .ok (.getfield 60, 3) := dq_get dd_M_missedOf_0 (i := 4) rfl
theorem d_M_missedOf_9 : decode mM_missedOf.2.1 9 = .ok (.aload_n 0, 1) := dq_get dd_M_missedOf_0 (i := 5) rfl
theorem d_M_missedOf_10 : decode mM_missedOf.2.1 10 = .ok (.getfield 63, 3) := dq_get dd_M_missedOf_0 (i := 6) rfl
theorem d_M_missedOf_13 : decode mM_missedOf.2.1 13 = .ok (.iload_n 1, 1) := dq_get dd_M_missedOf_0 (i := 7) rfl
theorem d_M_missedOf_14 : decode mM_missedOf.2.1 14 = .ok (.iaload, 1) := dq_get dd_M_missedOf_0 (i := 8) rfl
theorem d_M_missedOf_15 : decode mM_missedOf.2.1 15 = .ok (.iaload, 1) := dq_get dd_M_missedOf_0 (i := 9) rfl
theorem d_M_missedOf_16 : decode mM_missedOf.2.1 16 = .ok (.iastore, 1) := dq_get dd_M_missedOf_0 (i := 10) rfl
theorem d_M_missedOf_17 : decode mM_missedOf.2.1 17 = .ok (.aload_n 0, 1) := dq_get dd_M_missedOf_0 (i := 11) rfl
theorem d_M_missedOf_18 : decode mM_missedOf.2.1 18 = .ok (.getfield 39, 3) := dq_get dd_M_missedOf_0 (i := 12) rfl
theorem d_M_missedOf_21 : decode mM_missedOf.2.1 21 = .ok (.iconst 1, 1) := dq_get dd_M_missedOf_0 (i := 13) rfl
theorem d_M_missedOf_22 : decode mM_missedOf.2.1 22 = .ok (.aload_n 0, 1) := dq_get dd_M_missedOf_0 (i := 14) rfl
theorem d_M_missedOf_23 : decode mM_missedOf.2.1 23 = .ok (.getfield 96, 3) := dq_get dd_M_missedOf_0 (i := 15) rfl
theorem d_M_missedOf_26 : decode mM_missedOf.2.1 26 = .ok (.bipush 10, 2) := dq_get dd_M_missedOf_0 (i := 16) rfl
theorem d_M_missedOf_28 : decode mM_missedOf.2.1 28 = .ok (.iload_n 1, 1) := dq_get dd_M_missedOf_0 (i := 17) rfl
theorem d_M_missedOf_29 : decode mM_missedOf.2.1 29 = .ok (.iadd, 1) := dq_get dd_M_missedOf_0 (i := 18) rfl
theorem d_M_missedOf_30 : decode mM_missedOf.2.1 30 = .ok (.iaload, 1) := dq_get dd_M_missedOf_0 (i := 19) rfl
theorem d_M_missedOf_31 : decode mM_missedOf.2.1 31 = .ok (.iastore, 1) := dq_get dd_M_missedOf_0 (i := 20) rfl
theorem d_M_missedOf_32 : decode mM_missedOf.2.1 32 = .ok (.aload_n 0, 1) := dq_get dd_M_missedOf_0 (i := 21) rfl
theorem d_M_missedOf_33 : decode mM_missedOf.2.1 33 = .ok (.getfield 39, 3) := dq_get dd_M_missedOf_0 (i := 22) rfl
theorem d_M_missedOf_36 : decode mM_missedOf.2.1 36 = .ok (.iconst 2, 1) := dq_get dd_M_missedOf_0 (i := 23) rfl
theorem d_M_missedOf_37 : decode mM_missedOf.2.1 37 = .ok (.aload_n 0, 1) := dq_get dd_M_missedOf_0 (i := 24) rfl
theorem d_M_missedOf_38 : decode mM_missedOf.2.1 38 = .ok (.getfield 96, 3) := dq_get dd_M_missedOf_0 (i := 25) rfl
theorem d_M_missedOf_41 : decode mM_missedOf.2.1 41 = .ok (.bipush 20, 2) := dq_get dd_M_missedOf_0 (i := 26) rfl
theorem d_M_missedOf_43 : decode mM_missedOf.2.1 43 = .ok (.iload_n 1, 1) := dq_get dd_M_missedOf_0 (i := 27) rfl
theorem d_M_missedOf_44 : decode mM_missedOf.2.1 44 = .ok (.iadd, 1) := dq_get dd_M_missedOf_0 (i := 28) rfl
theorem d_M_missedOf_45 : decode mM_missedOf.2.1 45 = .ok (.iaload, 1) := dq_get dd_M_missedOf_0 (i := 29) rfl
theorem d_M_missedOf_46 : decode mM_missedOf.2.1 46 = .ok (.iastore, 1) := dq_get dd_M_missedOf_0 (i := 30) rfl
theorem d_M_missedOf_47 : decode mM_missedOf.2.1 47 = .ok (.aload_n 0, 1) := dq_get dd_M_missedOf_0 (i := 31) rfl
theorem dd_M_missedOf_32 : dq mM_missedOf.2.1 [(48, .getfield 39, 3), (51, .iconst 3, 1), (52, .aload_n 0, 1), (53, .getfield 96, 3), (56, .bipush 30, 2), (58, .iload_n 1, 1), (59, .iadd, 1), (60, .iaload, 1), (61, .iastore, 1), (62, .aload_n 0, 1), (63, .getfield 39, 3), (66, .iconst 4, 1), (67, .aload_n 0, 1), (68, .iload_n 1, 1), (69, .invokevirtual 328, 3), (72, .invokestatic 331, 3), (75, .iastore, 1), (76, .aload_n 0, 1), (77, .getfield 39, 3), (80, .iconst 5, 1), (81, .aload_n 0, 1), (82, .getfield 66, 3), (85, .iload_n 1, 1), (86, .iaload, 1), (87, .iastore, 1), (88, .aload_n 0, 1), (89, .getfield 334, 3), (92, .ifCond .ne 32, 3), (95, .aload_n 0, 1), (96, .getfield 39, 3), (99, .iconst 3, 1), (100, .iaload, 1)] = true := by decide +kernel
theorem d_M_missedOf_48 : decode mM_missedOf.2.1 48 = .ok (.getfield 39, 3) := dq_get dd_M_missedOf_32 (i := 0) rfl
theorem d_M_missedOf_51 : decode mM_missedOf.2.1 51 = .ok (.iconst 3, 1) := dq_get dd_M_missedOf_32 (i := 1) rfl
theorem d_M_missedOf_52 : decode mM_missedOf.2.1 52 = .ok (.aload_n 0, 1) := dq_get dd_M_missedOf_32 (i := 2) rfl
theorem d_M_missedOf_53 : decode mM_missedOf.2.1 53 = .ok (.getfield 96, 3) := dq_get dd_M_missedOf_32 (i := 3) rfl
theorem d_M_missedOf_56 : decode mM_missedOf.2.1 56 = .ok (.bipush 30, 2) := dq_get dd_M_missedOf_32 (i := 4) rfl
theorem d_M_missedOf_58 : decode mM_missedOf.2.1 58 = .ok (.iload_n 1, 1) := dq_get dd_M_missedOf_32 (i := 5) rfl
theorem d_M_missedOf_59 : decode mM_missedOf.2.1 59 = .ok (.iadd, 1) := dq_get dd_M_missedOf_32 (i := 6) rfl
theorem d_M_missedOf_60 : decode mM_missedOf.2.1 60 = .ok (.iaload, 1) := dq_get dd_M_missedOf_32 (i := 7) rfl
theorem d_M_missedOf_61 : decode mM_missedOf.2.1 61 = .ok (.iastore, 1) := dq_get dd_M_missedOf_32 (i := 8) rfl
theorem d_M_missedOf_62 : decode mM_missedOf.2.1 62 = .ok (.aload_n 0, 1) := dq_get dd_M_missedOf_32 (i := 9) rfl
theorem d_M_missedOf_63 : decode mM_missedOf.2.1 63 = .ok (.getfield 39, 3) := dq_get dd_M_missedOf_32 (i := 10) rfl
theorem d_M_missedOf_66 : decode mM_missedOf.2.1 66 = .ok (.iconst 4, 1) := dq_get dd_M_missedOf_32 (i := 11) rfl
theorem d_M_missedOf_67 : decode mM_missedOf.2.1 67 = .ok (.aload_n 0, 1) := dq_get dd_M_missedOf_32 (i := 12) rfl
theorem d_M_missedOf_68 : decode mM_missedOf.2.1 68 = .ok (.iload_n 1, 1) := dq_get dd_M_missedOf_32 (i := 13) rfl
theorem d_M_missedOf_69 : decode mM_missedOf.2.1 69 = .ok (.invokevirtual 328, 3) := dq_get dd_M_missedOf_32 (i := 14) rfl
theorem d_M_missedOf_72 : decode mM_missedOf.2.1 72 = .ok (.invokestatic 331, 3) := dq_get dd_M_missedOf_32 (i := 15) rfl
theorem d_M_missedOf_75 : decode mM_missedOf.2.1 75 = .ok (.iastore, 1) := dq_get dd_M_missedOf_32 (i := 16) rfl
theorem d_M_missedOf_76 : decode mM_missedOf.2.1 76 = .ok (.aload_n 0, 1) := dq_get dd_M_missedOf_32 (i := 17) rfl
theorem d_M_missedOf_77 : decode mM_missedOf.2.1 77 = .ok (.getfield 39, 3) := dq_get dd_M_missedOf_32 (i := 18) rfl
theorem d_M_missedOf_80 : decode mM_missedOf.2.1 80 = .ok (.iconst 5, 1) := dq_get dd_M_missedOf_32 (i := 19) rfl
theorem d_M_missedOf_81 : decode mM_missedOf.2.1 81 = .ok (.aload_n 0, 1) := dq_get dd_M_missedOf_32 (i := 20) rfl
theorem d_M_missedOf_82 : decode mM_missedOf.2.1 82 = .ok (.getfield 66, 3) := dq_get dd_M_missedOf_32 (i := 21) rfl
theorem d_M_missedOf_85 : decode mM_missedOf.2.1 85 = .ok (.iload_n 1, 1) := dq_get dd_M_missedOf_32 (i := 22) rfl
theorem d_M_missedOf_86 : decode mM_missedOf.2.1 86 = .ok (.iaload, 1) := dq_get dd_M_missedOf_32 (i := 23) rfl
theorem d_M_missedOf_87 : decode mM_missedOf.2.1 87 = .ok (.iastore, 1) := dq_get dd_M_missedOf_32 (i := 24) rfl
theorem d_M_missedOf_88 : decode mM_missedOf.2.1 88 = .ok (.aload_n 0, 1) := dq_get dd_M_missedOf_32 (i := 25) rfl
theorem d_M_missedOf_89 : decode mM_missedOf.2.1 89 = .ok (.getfield 334, 3) := dq_get dd_M_missedOf_32 (i := 26) rfl
theorem d_M_missedOf_92 : decode mM_missedOf.2.1 92 = .ok (.ifCond .ne 32, 3) := dq_get dd_M_missedOf_32 (i := 27) rfl
theorem d_M_missedOf_95 : decode mM_missedOf.2.1 95 = .ok (.aload_n 0, 1) := dq_get dd_M_missedOf_32 (i := 28) rfl
theorem d_M_missedOf_96 : decode mM_missedOf.2.1 96 = .ok (.getfield 39, 3) := dq_get dd_M_missedOf_32 (i := 29) rfl
theorem d_M_missedOf_99 : decode mM_missedOf.2.1 99 = .ok (.iconst 3, 1) := dq_get dd_M_missedOf_32 (i := 30) rfl
theorem d_M_missedOf_100 : decode mM_missedOf.2.1 100 = .ok (.iaload, 1) := dq_get dd_M_missedOf_32 (i := 31) rfl
theorem dd_M_missedOf_64 : dq mM_missedOf.2.1 [(101, .iconst 5, 1), (102, .aload_n 0, 1), (103, .getfield 39, 3), (106, .iconst 0, 1), (107, .iaload, 1), (108, .imul, 1), (109, .iadd, 1), (110, .aload_n 0, 1), (111, .getfield 39, 3), (114, .iconst 4, 1), (115, .iaload, 1), (116, .isub, 1), (117, .sipush 999, 3), (120, .invokestatic 337, 3), (123, .ireturn, 1), (124, .iconst 0, 1), (125, .istore_n 2, 1), (126, .iconst 0, 1), (127, .istore_n 3, 1), (128, .iload_n 3, 1), (129, .aload_n 0, 1), (130, .getfield 340, 3), (133, .if_icmp .ge 143, 3), (136, .aload_n 0, 1), (137, .getfield 27, 3), (140, .iload_n 3, 1), (141, .iaload, 1), (142, .ifCond .eq 13, 3), (145, .aload_n 0, 1), (146, .getfield 27, 3), (149, .iload_n 3, 1), (150, .iaload, 1)] = true := by decide +kernel
theorem d_M_missedOf_101 : decode mM_missedOf.2.1 101 = .ok (.iconst 5, 1) := dq_get dd_M_missedOf_64 (i := 0) rfl
theorem d_M_missedOf_102 : decode mM_missedOf.2.1 102 = .ok (.aload_n 0, 1) := dq_get dd_M_missedOf_64 (i := 1) rfl
theorem d_M_missedOf_103 : decode mM_missedOf.2.1 103 = .ok (.getfield 39, 3) := dq_get dd_M_missedOf_64 (i := 2) rfl
theorem d_M_missedOf_106 : decode mM_missedOf.2.1 106 = .ok (.iconst 0, 1) := dq_get dd_M_missedOf_64 (i := 3) rfl
theorem d_M_missedOf_107 : decode mM_missedOf.2.1 107 = .ok (.iaload, 1) := dq_get dd_M_missedOf_64 (i := 4) rfl
theorem d_M_missedOf_108 : decode mM_missedOf.2.1 108 = .ok (.imul, 1) := dq_get dd_M_missedOf_64 (i := 5) rfl
theorem d_M_missedOf_109 : decode mM_missedOf.2.1 109 = .ok (.iadd, 1) := dq_get dd_M_missedOf_64 (i := 6) rfl
theorem d_M_missedOf_110 : decode mM_missedOf.2.1 110 = .ok (.aload_n 0, 1) := dq_get dd_M_missedOf_64 (i := 7) rfl
theorem d_M_missedOf_111 : decode mM_missedOf.2.1 111 = .ok (.getfield 39, 3) := dq_get dd_M_missedOf_64 (i := 8) rfl
theorem d_M_missedOf_114 : decode mM_missedOf.2.1 114 = .ok (.iconst 4, 1) := dq_get dd_M_missedOf_64 (i := 9) rfl
theorem d_M_missedOf_115 : decode mM_missedOf.2.1 115 = .ok (.iaload, 1) := dq_get dd_M_missedOf_64 (i := 10) rfl
theorem d_M_missedOf_116 : decode mM_missedOf.2.1 116 = .ok (.isub, 1) := dq_get dd_M_missedOf_64 (i := 11) rfl
theorem d_M_missedOf_117 : decode mM_missedOf.2.1 117 = .ok (.sipush 999, 3) := dq_get dd_M_missedOf_64 (i := 12) rfl
theorem d_M_missedOf_120 : decode mM_missedOf.2.1 120 = .ok (.invokestatic 337, 3) := dq_get dd_M_missedOf_64 (i := 13) rfl
theorem d_M_missedOf_123 : decode mM_missedOf.2.1 123 = .ok (.ireturn, 1) := dq_get dd_M_missedOf_64 (i := 14) rfl
theorem d_M_missedOf_124 : decode mM_missedOf.2.1 124 = .ok (.iconst 0, 1) := dq_get dd_M_missedOf_64 (i := 15) rfl
theorem d_M_missedOf_125 : decode mM_missedOf.2.1 125 = .ok (.istore_n 2, 1) := dq_get dd_M_missedOf_64 (i := 16) rfl
theorem d_M_missedOf_126 : decode mM_missedOf.2.1 126 = .ok (.iconst 0, 1) := dq_get dd_M_missedOf_64 (i := 17) rfl
theorem d_M_missedOf_127 : decode mM_missedOf.2.1 127 = .ok (.istore_n 3, 1) := dq_get dd_M_missedOf_64 (i := 18) rfl
theorem d_M_missedOf_128 : decode mM_missedOf.2.1 128 = .ok (.iload_n 3, 1) := dq_get dd_M_missedOf_64 (i := 19) rfl
theorem d_M_missedOf_129 : decode mM_missedOf.2.1 129 = .ok (.aload_n 0, 1) := dq_get dd_M_missedOf_64 (i := 20) rfl
theorem d_M_missedOf_130 : decode mM_missedOf.2.1 130 = .ok (.getfield 340, 3) := dq_get dd_M_missedOf_64 (i := 21) rfl
theorem d_M_missedOf_133 : decode mM_missedOf.2.1 133 = .ok (.if_icmp .ge 143, 3) := dq_get dd_M_missedOf_64 (i := 22) rfl
theorem d_M_missedOf_136 : decode mM_missedOf.2.1 136 = .ok (.aload_n 0, 1) := dq_get dd_M_missedOf_64 (i := 23) rfl
theorem d_M_missedOf_137 : decode mM_missedOf.2.1 137 = .ok (.getfield 27, 3) := dq_get dd_M_missedOf_64 (i := 24) rfl
theorem d_M_missedOf_140 : decode mM_missedOf.2.1 140 = .ok (.iload_n 3, 1) := dq_get dd_M_missedOf_64 (i := 25) rfl
theorem d_M_missedOf_141 : decode mM_missedOf.2.1 141 = .ok (.iaload, 1) := dq_get dd_M_missedOf_64 (i := 26) rfl
theorem d_M_missedOf_142 : decode mM_missedOf.2.1 142 = .ok (.ifCond .eq 13, 3) := dq_get dd_M_missedOf_64 (i := 27) rfl
theorem d_M_missedOf_145 : decode mM_missedOf.2.1 145 = .ok (.aload_n 0, 1) := dq_get dd_M_missedOf_64 (i := 28) rfl
theorem d_M_missedOf_146 : decode mM_missedOf.2.1 146 = .ok (.getfield 27, 3) := dq_get dd_M_missedOf_64 (i := 29) rfl
theorem d_M_missedOf_149 : decode mM_missedOf.2.1 149 = .ok (.iload_n 3, 1) := dq_get dd_M_missedOf_64 (i := 30) rfl
theorem d_M_missedOf_150 : decode mM_missedOf.2.1 150 = .ok (.iaload, 1) := dq_get dd_M_missedOf_64 (i := 31) rfl
theorem dd_M_missedOf_96 : dq mM_missedOf.2.1 [(151, .iconst 1, 1), (152, .if_icmp .ne 44, 3), (155, .aload_n 0, 1), (156, .getfield 36, 3), (159, .iload_n 2, 1), (160, .aload_n 0, 1), (161, .getfield 27, 3), (164, .iload_n 3, 1), (165, .iaload, 1), (166, .ifCond .ne 12, 3), (169, .aload_n 0, 1), (170, .getfield 30, 3), (173, .iload_n 3, 1), (174, .iaload, 1), (175, .goto 14, 3), (178, .aload_n 0, 1), (179, .getfield 39, 3), (182, .aload_n 0, 1), (183, .getfield 30, 3), (186, .iload_n 3, 1), (187, .iaload, 1), (188, .iaload, 1), (189, .iastore, 1), (190, .iinc 2 1, 3), (193, .goto 77, 3), (196, .aload_n 0, 1), (197, .getfield 27, 3), (200, .iload_n 3, 1), (201, .iaload, 1), (202, .iconst 2, 1), (203, .if_icmp .ne 33, 3), (206, .aload_n 0, 1)] = true := by decide +kernel
theorem d_M_missedOf_151 : decode mM_missedOf.2.1 151 = .ok (.iconst 1, 1) := dq_get dd_M_missedOf_96 (i := 0) rfl
theorem d_M_missedOf_152 : decode mM_missedOf.2.1 152 = .ok (.if_icmp .ne 44, 3) := dq_get dd_M_missedOf_96 (i := 1) rfl
theorem d_M_missedOf_155 : decode mM_missedOf.2.1 155 = .ok (.aload_n 0, 1) := dq_get dd_M_missedOf_96 (i := 2) rfl
theorem d_M_missedOf_156 : decode mM_missedOf.2.1 156 = .ok (.getfield 36, 3) := dq_get dd_M_missedOf_96 (i := 3) rfl
theorem d_M_missedOf_159 : decode mM_missedOf.2.1 159 = .ok (.iload_n 2, 1) := dq_get dd_M_missedOf_96 (i := 4) rfl
theorem d_M_missedOf_160 : decode mM_missedOf.2.1 160 = .ok (.aload_n 0, 1) := dq_get dd_M_missedOf_96 (i := 5) rfl
theorem d_M_missedOf_161 : decode mM_missedOf.2.1 161 = .ok (.getfield 27, 3) := dq_get dd_M_missedOf_96 (i := 6) rfl
theorem d_M_missedOf_164 : decode mM_missedOf.2.1 164 = .ok (.iload_n 3, 1) := dq_get dd_M_missedOf_96 (i := 7) rfl
theorem d_M_missedOf_165 : decode mM_missedOf.2.1 165 = .ok (.iaload, 1) := dq_get dd_M_missedOf_96 (i := 8) rfl
theorem d_M_missedOf_166 : decode mM_missedOf.2.1 166 = .ok (.ifCond .ne 12, 3) := dq_get dd_M_missedOf_96 (i := 9) rfl
theorem d_M_missedOf_169 : decode mM_missedOf.2.1 169 = .ok (.aload_n 0, 1) := dq_get dd_M_missedOf_96 (i := 10) rfl
theorem d_M_missedOf_170 : decode mM_missedOf.2.1 170 = .ok (.getfield 30, 3) := dq_get dd_M_missedOf_96 (i := 11) rfl
theorem d_M_missedOf_173 : decode mM_missedOf.2.1 173 = .ok (.iload_n 3, 1) := dq_get dd_M_missedOf_96 (i := 12) rfl
theorem d_M_missedOf_174 : decode mM_missedOf.2.1 174 = .ok (.iaload, 1) := dq_get dd_M_missedOf_96 (i := 13) rfl
theorem d_M_missedOf_175 : decode mM_missedOf.2.1 175 = .ok (.goto 14, 3) := dq_get dd_M_missedOf_96 (i := 14) rfl
theorem d_M_missedOf_178 : decode mM_missedOf.2.1 178 = .ok (.aload_n 0, 1) := dq_get dd_M_missedOf_96 (i := 15) rfl
theorem d_M_missedOf_179 : decode mM_missedOf.2.1 179 = .ok (.getfield 39, 3) := dq_get dd_M_missedOf_96 (i := 16) rfl
theorem d_M_missedOf_182 : decode mM_missedOf.2.1 182 = .ok (.aload_n 0, 1) := dq_get dd_M_missedOf_96 (i := 17) rfl
theorem d_M_missedOf_183 : decode mM_missedOf.2.1 183 = .ok (.getfield 30, 3) := dq_get dd_M_missedOf_96 (i := 18) rfl
theorem d_M_missedOf_186 : decode mM_missedOf.2.1 186 = .ok (.iload_n 3, 1) := dq_get dd_M_missedOf_96 (i := 19) rfl
theorem d_M_missedOf_187 : decode mM_missedOf.2.1 187 = .ok (.iaload, 1) := dq_get dd_M_missedOf_96 (i := 20) rfl
theorem d_M_missedOf_188 : decode mM_missedOf.2.1 188 = .ok (.iaload, 1) := dq_get dd_M_missedOf_96 (i := 21) rfl
theorem d_M_missedOf_189 : decode mM_missedOf.2.1 189 = .ok (.iastore, 1) := dq_get dd_M_missedOf_96 (i := 22) rfl
theorem d_M_missedOf_190 : decode mM_missedOf.2.1 190 = .ok (.iinc 2 1, 3) := dq_get dd_M_missedOf_96 (i := 23) rfl
theorem d_M_missedOf_193 : decode mM_missedOf.2.1 193 = .ok (.goto 77, 3) := dq_get dd_M_missedOf_96 (i := 24) rfl
theorem d_M_missedOf_196 : decode mM_missedOf.2.1 196 = .ok (.aload_n 0, 1) := dq_get dd_M_missedOf_96 (i := 25) rfl
theorem d_M_missedOf_197 : decode mM_missedOf.2.1 197 = .ok (.getfield 27, 3) := dq_get dd_M_missedOf_96 (i := 26) rfl
theorem d_M_missedOf_200 : decode mM_missedOf.2.1 200 = .ok (.iload_n 3, 1) := dq_get dd_M_missedOf_96 (i := 27) rfl
theorem d_M_missedOf_201 : decode mM_missedOf.2.1 201 = .ok (.iaload, 1) := dq_get dd_M_missedOf_96 (i := 28) rfl
theorem d_M_missedOf_202 : decode mM_missedOf.2.1 202 = .ok (.iconst 2, 1) := dq_get dd_M_missedOf_96 (i := 29) rfl
theorem d_M_missedOf_203 : decode mM_missedOf.2.1 203 = .ok (.if_icmp .ne 33, 3) := dq_get dd_M_missedOf_96 (i := 30) rfl
theorem d_M_missedOf_206 : decode mM_missedOf.2.1 206 = .ok (.aload_n 0, 1) := dq_get dd_M_missedOf_96 (i := 31) rfl
theorem dd_M_missedOf_128 : dq mM_missedOf.2.1 [(207, .getfield 36, 3), (210, .iload_n 2, 1), (211, .iconst 1, 1), (212, .isub, 1), (213, .aload_n 0, 1), (214, .getfield 36, 3), (217, .iload_n 2, 1), (218, .iconst 1, 1), (219, .isub, 1), (220, .iaload, 1), (221, .ifCond .ne 7, 3), (224, .iconst 1, 1), (225, .goto 4, 3), (228, .iconst 0, 1), (229, .invokestatic 318, 3), (232, .iastore, 1), (233, .goto 37, 3), (236, .iinc 2 (-1), 3), (239, .aload_n 0, 1), (240, .getfield 36, 3), (243, .iload_n 2, 1), (244, .iconst 1, 1), (245, .isub, 1), (246, .aload_n 0, 1), (247, .getfield 30, 3), (250, .iload_n 3, 1), (251, .iaload, 1), (252, .aload_n 0, 1), (253, .getfield 36, 3), (256, .iload_n 2, 1), (257, .iconst 1, 1), (258, .isub, 1)] = true := by decide +kernel
theorem d_M_missedOf_207 : decode mM_missedOf.2.1 207 = .ok (.getfield 36, 3) := dq_get dd_M_missedOf_128 (i := 0) rfl
theorem d_M_missedOf_210 : decode mM_missedOf.2.1 210 = .ok (.iload_n 2, 1) := dq_get dd_M_missedOf_128 (i := 1) rfl
theorem d_M_missedOf_211 : decode mM_missedOf.2.1 211 = .ok (.iconst 1, 1) := dq_get dd_M_missedOf_128 (i := 2) rfl
theorem d_M_missedOf_212 : decode mM_missedOf.2.1 212 = .ok (.isub, 1) := dq_get dd_M_missedOf_128 (i := 3) rfl
theorem d_M_missedOf_213 : decode mM_missedOf.2.1 213 = .ok (.aload_n 0, 1) := dq_get dd_M_missedOf_128 (i := 4) rfl
theorem d_M_missedOf_214 : decode mM_missedOf.2.1 214 = .ok (.getfield 36, 3) := dq_get dd_M_missedOf_128 (i := 5) rfl
theorem d_M_missedOf_217 : decode mM_missedOf.2.1 217 = .ok (.iload_n 2, 1) := dq_get dd_M_missedOf_128 (i := 6) rfl
theorem d_M_missedOf_218 : decode mM_missedOf.2.1 218 = .ok (.iconst 1, 1) := dq_get dd_M_missedOf_128 (i := 7) rfl
theorem d_M_missedOf_219 : decode mM_missedOf.2.1 219 = .ok (.isub, 1) := dq_get dd_M_missedOf_128 (i := 8) rfl
theorem d_M_missedOf_220 : decode mM_missedOf.2.1 220 = .ok (.iaload, 1) := dq_get dd_M_missedOf_128 (i := 9) rfl
theorem d_M_missedOf_221 : decode mM_missedOf.2.1 221 = .ok (.ifCond .ne 7, 3) := dq_get dd_M_missedOf_128 (i := 10) rfl
theorem d_M_missedOf_224 : decode mM_missedOf.2.1 224 = .ok (.iconst 1, 1) := dq_get dd_M_missedOf_128 (i := 11) rfl
theorem d_M_missedOf_225 : decode mM_missedOf.2.1 225 = .ok (.goto 4, 3) := dq_get dd_M_missedOf_128 (i := 12) rfl
theorem d_M_missedOf_228 : decode mM_missedOf.2.1 228 = .ok (.iconst 0, 1) := dq_get dd_M_missedOf_128 (i := 13) rfl
theorem d_M_missedOf_229 : decode mM_missedOf.2.1 229 = .ok (.invokestatic 318, 3) := dq_get dd_M_missedOf_128 (i := 14) rfl
theorem d_M_missedOf_232 : decode mM_missedOf.2.1 232 = .ok (.iastore, 1) := dq_get dd_M_missedOf_128 (i := 15) rfl
theorem d_M_missedOf_233 : decode mM_missedOf.2.1 233 = .ok (.goto 37, 3) := dq_get dd_M_missedOf_128 (i := 16) rfl
theorem d_M_missedOf_236 : decode mM_missedOf.2.1 236 = .ok (.iinc 2 (-1), 3) := dq_get dd_M_missedOf_128 (i := 17) rfl
theorem d_M_missedOf_239 : decode mM_missedOf.2.1 239 = .ok (.aload_n 0, 1) := dq_get dd_M_missedOf_128 (i := 18) rfl
theorem d_M_missedOf_240 : decode mM_missedOf.2.1 240 = .ok (.getfield 36, 3) := dq_get dd_M_missedOf_128 (i := 19) rfl
theorem d_M_missedOf_243 : decode mM_missedOf.2.1 243 = .ok (.iload_n 2, 1) := dq_get dd_M_missedOf_128 (i := 20) rfl
theorem d_M_missedOf_244 : decode mM_missedOf.2.1 244 = .ok (.iconst 1, 1) := dq_get dd_M_missedOf_128 (i := 21) rfl
theorem d_M_missedOf_245 : decode mM_missedOf.2.1 245 = .ok (.isub, 1) := dq_get dd_M_missedOf_128 (i := 22) rfl
theorem d_M_missedOf_246 : decode mM_missedOf.2.1 246 = .ok (.aload_n 0, 1) := dq_get dd_M_missedOf_128 (i := 23) rfl
theorem d_M_missedOf_247 : decode mM_missedOf.2.1 247 = .ok (.getfield 30, 3) := dq_get dd_M_missedOf_128 (i := 24) rfl
theorem d_M_missedOf_250 : decode mM_missedOf.2.1 250 = .ok (.iload_n 3, 1) := dq_get dd_M_missedOf_128 (i := 25) rfl
theorem d_M_missedOf_251 : decode mM_missedOf.2.1 251 = .ok (.iaload, 1) := dq_get dd_M_missedOf_128 (i := 26) rfl
theorem d_M_missedOf_252 : decode mM_missedOf.2.1 252 = .ok (.aload_n 0, 1) := dq_get dd_M_missedOf_128 (i := 27) rfl
theorem d_M_missedOf_253 : decode mM_missedOf.2.1 253 = .ok (.getfield 36, 3) := dq_get dd_M_missedOf_128 (i := 28) rfl
theorem d_M_missedOf_256 : decode mM_missedOf.2.1 256 = .ok (.iload_n 2, 1) := dq_get dd_M_missedOf_128 (i := 29) rfl
theorem d_M_missedOf_257 : decode mM_missedOf.2.1 257 = .ok (.iconst 1, 1) := dq_get dd_M_missedOf_128 (i := 30) rfl
theorem d_M_missedOf_258 : decode mM_missedOf.2.1 258 = .ok (.isub, 1) := dq_get dd_M_missedOf_128 (i := 31) rfl
theorem dd_M_missedOf_160 : dq mM_missedOf.2.1 [(259, .iaload, 1), (260, .aload_n 0, 1), (261, .getfield 36, 3), (264, .iload_n 2, 1), (265, .iaload, 1), (266, .invokestatic 343, 3), (269, .iastore, 1), (270, .iinc 3 1, 3), (273, .goto (-145), 3), (276, .aload_n 0, 1), (277, .getfield 36, 3), (280, .iconst 0, 1), (281, .iaload, 1), (282, .sipush 999, 3), (285, .invokestatic 337, 3), (288, .ireturn, 1)] = true := by decide +kernel
theorem d_M_missedOf_259 : decode mM_missedOf.2.1 259 = .ok (.iaload, 1) := dq_get dd_M_missedOf_160 (i := 0) rfl
theorem d_M_missedOf_260 : decode mM_missedOf.2.1 260 = .ok (.aload_n 0, 1) := dq_get dd_M_missedOf_160 (i := 1) rfl
theorem d_M_missedOf_261 : decode mM_missedOf.2.1 261 = .ok (.getfield 36, 3) := dq_get dd_M_missedOf_160 (i := 2) rfl
theorem d_M_missedOf_264 : decode mM_missedOf.2.1 264 = .ok (.iload_n 2, 1) := dq_get dd_M_missedOf_160 (i := 3) rfl
theorem d_M_missedOf_265 : decode mM_missedOf.2.1 265 = .ok (.iaload, 1) := dq_get dd_M_missedOf_160 (i := 4) rfl
theorem d_M_missedOf_266 : decode mM_missedOf.2.1 266 = .ok (.invokestatic 343, 3) := dq_get dd_M_missedOf_160 (i := 5) rfl
theorem d_M_missedOf_269 : decode mM_missedOf.2.1 269 = .ok (.iastore, 1) := dq_get dd_M_missedOf_160 (i := 6) rfl
theorem d_M_missedOf_270 : decode mM_missedOf.2.1 270 = .ok (.iinc 3 1, 3) := dq_get dd_M_missedOf_160 (i := 7) rfl
theorem d_M_missedOf_273 : decode mM_missedOf.2.1 273 = .ok (.goto (-145), 3) := dq_get dd_M_missedOf_160 (i := 8) rfl
theorem d_M_missedOf_276 : decode mM_missedOf.2.1 276 = .ok (.aload_n 0, 1) := dq_get dd_M_missedOf_160 (i := 9) rfl
theorem d_M_missedOf_277 : decode mM_missedOf.2.1 277 = .ok (.getfield 36, 3) := dq_get dd_M_missedOf_160 (i := 10) rfl
theorem d_M_missedOf_280 : decode mM_missedOf.2.1 280 = .ok (.iconst 0, 1) := dq_get dd_M_missedOf_160 (i := 11) rfl
theorem d_M_missedOf_281 : decode mM_missedOf.2.1 281 = .ok (.iaload, 1) := dq_get dd_M_missedOf_160 (i := 12) rfl
theorem d_M_missedOf_282 : decode mM_missedOf.2.1 282 = .ok (.sipush 999, 3) := dq_get dd_M_missedOf_160 (i := 13) rfl
theorem d_M_missedOf_285 : decode mM_missedOf.2.1 285 = .ok (.invokestatic 337, 3) := dq_get dd_M_missedOf_160 (i := 14) rfl
theorem d_M_missedOf_288 : decode mM_missedOf.2.1 288 = .ok (.ireturn, 1) := dq_get dd_M_missedOf_160 (i := 15) rfl
theorem dd_M_doubles_0 : dq mM_doubles.2.1 [(0, .iconst 0, 1), (1, .istore_n 2, 1), (2, .iconst 0, 1), (3, .istore_n 3, 1), (4, .iload_n 3, 1), (5, .aload_n 0, 1), (6, .getfield 322, 3), (9, .if_icmp .ge 70, 3), (12, .iload_n 2, 1), (13, .iload_n 3, 1), (14, .iload_n 1, 1), (15, .if_icmp .eq 50, 3), (18, .aload_n 0, 1), (19, .getfield 66, 3), (22, .iload_n 3, 1), (23, .iaload, 1), (24, .aload_n 0, 1), (25, .getfield 66, 3), (28, .iload_n 1, 1), (29, .iaload, 1), (30, .if_icmp .ne 35, 3), (33, .aload_n 0, 1), (34, .getfield 96, 3), (37, .bipush 10, 2), (39, .iload_n 3, 1), (40, .iadd, 1), (41, .iaload, 1), (42, .aload_n 0, 1), (43, .getfield 96, 3), (46, .bipush 10, 2), (48, .iload_n 1, 1), (49, .iadd, 1)] = true := by decide +kernel
theorem d_M_doubles_0 : decode mM_doubles.2.1 0 = .ok (.iconst 0, 1) := dq_get dd_M_doubles_0 (i := 0) rfl
theorem d_M_doubles_1 : decode mM_doubles.2.1 1 = .ok (.istore_n 2, 1) := dq_get dd_M_doubles_0 (i := 1) rfl
theorem d_M_doubles_2 : decode mM_doubles.2.1 2 = .ok (.iconst 0, 1) := dq_get dd_M_doubles_0 (i := 2) rfl
theorem d_M_doubles_3 : decode mM_doubles.2.1 3 = .ok (.istore_n 3, 1) := dq_get dd_M_doubles_0 (i := 3) rfl
theorem d_M_doubles_4 : decode mM_doubles.2.1 4 = .ok (.iload_n 3, 1) := dq_get dd_M_doubles_0 (i := 4) rfl
theorem d_M_doubles_5 : decode mM_doubles.2.1 5 = .ok (.aload_n 0, 1) := dq_get dd_M_doubles_0 (i := 5) rfl
theorem d_M_doubles_6 : decode mM_doubles.2.1 6 = .ok (.getfield 322, 3) := dq_get dd_M_doubles_0 (i := 6) rfl
theorem d_M_doubles_9 : decode mM_doubles.2.1 9 = .ok (.if_icmp .ge 70, 3) := dq_get dd_M_doubles_0 (i := 7) rfl
theorem d_M_doubles_12 : decode mM_doubles.2.1 12 = .ok (.iload_n 2, 1) := dq_get dd_M_doubles_0 (i := 8) rfl
theorem d_M_doubles_13 : decode mM_doubles.2.1 13 = .ok (.iload_n 3, 1) := dq_get dd_M_doubles_0 (i := 9) rfl
theorem d_M_doubles_14 : decode mM_doubles.2.1 14 = .ok (.iload_n 1, 1) := dq_get dd_M_doubles_0 (i := 10) rfl
theorem d_M_doubles_15 : decode mM_doubles.2.1 15 = .ok (.if_icmp .eq 50, 3) := dq_get dd_M_doubles_0 (i := 11) rfl
theorem d_M_doubles_18 : decode mM_doubles.2.1 18 = .ok (.aload_n 0, 1) := dq_get dd_M_doubles_0 (i := 12) rfl
theorem d_M_doubles_19 : decode mM_doubles.2.1 19 = .ok (.getfield 66, 3) := dq_get dd_M_doubles_0 (i := 13) rfl
theorem d_M_doubles_22 : decode mM_doubles.2.1 22 = .ok (.iload_n 3, 1) := dq_get dd_M_doubles_0 (i := 14) rfl
theorem d_M_doubles_23 : decode mM_doubles.2.1 23 = .ok (.iaload, 1) := dq_get dd_M_doubles_0 (i := 15) rfl
theorem d_M_doubles_24 : decode mM_doubles.2.1 24 = .ok (.aload_n 0, 1) := dq_get dd_M_doubles_0 (i := 16) rfl
theorem d_M_doubles_25 : decode mM_doubles.2.1 25 = .ok (.getfield 66, 3) := dq_get dd_M_doubles_0 (i := 17) rfl
theorem d_M_doubles_28 : decode mM_doubles.2.1 28 = .ok (.iload_n 1, 1) := dq_get dd_M_doubles_0 (i := 18) rfl
theorem d_M_doubles_29 : decode mM_doubles.2.1 29 = .ok (.iaload, 1) := dq_get dd_M_doubles_0 (i := 19) rfl
theorem d_M_doubles_30 : decode mM_doubles.2.1 30 = .ok (.if_icmp .ne 35, 3) := dq_get dd_M_doubles_0 (i := 20) rfl
theorem d_M_doubles_33 : decode mM_doubles.2.1 33 = .ok (.aload_n 0, 1) := dq_get dd_M_doubles_0 (i := 21) rfl
theorem d_M_doubles_34 : decode mM_doubles.2.1 34 = .ok (.getfield 96, 3) := dq_get dd_M_doubles_0 (i := 22) rfl
theorem d_M_doubles_37 : decode mM_doubles.2.1 37 = .ok (.bipush 10, 2) := dq_get dd_M_doubles_0 (i := 23) rfl
theorem d_M_doubles_39 : decode mM_doubles.2.1 39 = .ok (.iload_n 3, 1) := dq_get dd_M_doubles_0 (i := 24) rfl
theorem d_M_doubles_40 : decode mM_doubles.2.1 40 = .ok (.iadd, 1) := dq_get dd_M_doubles_0 (i := 25) rfl
theorem d_M_doubles_41 : decode mM_doubles.2.1 41 = .ok (.iaload, 1) := dq_get dd_M_doubles_0 (i := 26) rfl
theorem d_M_doubles_42 : decode mM_doubles.2.1 42 = .ok (.aload_n 0, 1) := dq_get dd_M_doubles_0 (i := 27) rfl
theorem d_M_doubles_43 : decode mM_doubles.2.1 43 = .ok (.getfield 96, 3) := dq_get dd_M_doubles_0 (i := 28) rfl
theorem d_M_doubles_46 : decode mM_doubles.2.1 46 = .ok (.bipush 10, 2) := dq_get dd_M_doubles_0 (i := 29) rfl
theorem d_M_doubles_48 : decode mM_doubles.2.1 48 = .ok (.iload_n 1, 1) := dq_get dd_M_doubles_0 (i := 30) rfl
theorem d_M_doubles_49 : decode mM_doubles.2.1 49 = .ok (.iadd, 1) := dq_get dd_M_doubles_0 (i := 31) rfl
theorem dd_M_doubles_32 : dq mM_doubles.2.1 [(50, .iaload, 1), (51, .isub, 1), (52, .invokestatic 325, 3), (55, .bipush 12, 2), (57, .irem, 1), (58, .ifCond .ne 7, 3), (61, .iconst 1, 1), (62, .goto 4, 3), (65, .iconst 0, 1), (66, .invokestatic 318, 3), (69, .iload_n 3, 1), (70, .ishl, 1), (71, .ior, 1), (72, .istore_n 2, 1), (73, .iinc 3 1, 3), (76, .goto (-72), 3), (79, .iload_n 2, 1), (80, .ireturn, 1)] = true := by decide +kernel
theorem d_M_doubles_50 : decode mM_doubles.2.1 50 = .ok (.iaload, 1) := dq_get dd_M_doubles_32 (i := 0) rfl
theorem d_M_doubles_51 : decode mM_doubles.2.1 51 = .ok (.isub, 1) := dq_get dd_M_doubles_32 (i := 1) rfl
theorem d_M_doubles_52 : decode mM_doubles.2.1 52 = .ok (.invokestatic 325, 3) := dq_get dd_M_doubles_32 (i := 2) rfl
theorem d_M_doubles_55 : decode mM_doubles.2.1 55 = .ok (.bipush 12, 2) := dq_get dd_M_doubles_32 (i := 3) rfl
theorem d_M_doubles_57 : decode mM_doubles.2.1 57 = .ok (.irem, 1) := dq_get dd_M_doubles_32 (i := 4) rfl
theorem d_M_doubles_58 : decode mM_doubles.2.1 58 = .ok (.ifCond .ne 7, 3) := dq_get dd_M_doubles_32 (i := 5) rfl
theorem d_M_doubles_61 : decode mM_doubles.2.1 61 = .ok (.iconst 1, 1) := dq_get dd_M_doubles_32 (i := 6) rfl
theorem d_M_doubles_62 : decode mM_doubles.2.1 62 = .ok (.goto 4, 3) := dq_get dd_M_doubles_32 (i := 7) rfl
theorem d_M_doubles_65 : decode mM_doubles.2.1 65 = .ok (.iconst 0, 1) := dq_get dd_M_doubles_32 (i := 8) rfl
theorem d_M_doubles_66 : decode mM_doubles.2.1 66 = .ok (.invokestatic 318, 3) := dq_get dd_M_doubles_32 (i := 9) rfl
theorem d_M_doubles_69 : decode mM_doubles.2.1 69 = .ok (.iload_n 3, 1) := dq_get dd_M_doubles_32 (i := 10) rfl
theorem d_M_doubles_70 : decode mM_doubles.2.1 70 = .ok (.ishl, 1) := dq_get dd_M_doubles_32 (i := 11) rfl
theorem d_M_doubles_71 : decode mM_doubles.2.1 71 = .ok (.ior, 1) := dq_get dd_M_doubles_32 (i := 12) rfl
theorem d_M_doubles_72 : decode mM_doubles.2.1 72 = .ok (.istore_n 2, 1) := dq_get dd_M_doubles_32 (i := 13) rfl
theorem d_M_doubles_73 : decode mM_doubles.2.1 73 = .ok (.iinc 3 1, 3) := dq_get dd_M_doubles_32 (i := 14) rfl
theorem d_M_doubles_76 : decode mM_doubles.2.1 76 = .ok (.goto (-72), 3) := dq_get dd_M_doubles_32 (i := 15) rfl
theorem d_M_doubles_79 : decode mM_doubles.2.1 79 = .ok (.iload_n 2, 1) := dq_get dd_M_doubles_32 (i := 16) rfl
theorem d_M_doubles_80 : decode mM_doubles.2.1 80 = .ok (.ireturn, 1) := dq_get dd_M_doubles_32 (i := 17) rfl
theorem dd_M_plain_0 : dq mM_plain.2.1 [(0, .iload_n 0, 1), (1, .ifCond .ge 8, 3), (4, .iload_n 0, 1), (5, .ineg, 1), (6, .goto 4, 3), (9, .iload_n 0, 1), (10, .ireturn, 1)] = true := by decide +kernel
theorem d_M_plain_0 : decode mM_plain.2.1 0 = .ok (.iload_n 0, 1) := dq_get dd_M_plain_0 (i := 0) rfl
theorem d_M_plain_1 : decode mM_plain.2.1 1 = .ok (.ifCond .ge 8, 3) := dq_get dd_M_plain_0 (i := 1) rfl
theorem d_M_plain_4 : decode mM_plain.2.1 4 = .ok (.iload_n 0, 1) := dq_get dd_M_plain_0 (i := 2) rfl
theorem d_M_plain_5 : decode mM_plain.2.1 5 = .ok (.ineg, 1) := dq_get dd_M_plain_0 (i := 3) rfl
theorem d_M_plain_6 : decode mM_plain.2.1 6 = .ok (.goto 4, 3) := dq_get dd_M_plain_0 (i := 4) rfl
theorem d_M_plain_9 : decode mM_plain.2.1 9 = .ok (.iload_n 0, 1) := dq_get dd_M_plain_0 (i := 5) rfl
theorem d_M_plain_10 : decode mM_plain.2.1 10 = .ok (.ireturn, 1) := dq_get dd_M_plain_0 (i := 6) rfl
theorem dd_M_members_0 : dq mM_members.2.1 [(0, .iconst 0, 1), (1, .istore_n 1, 1), (2, .iconst 0, 1), (3, .istore_n 2, 1), (4, .iload_n 2, 1), (5, .bipush 12, 2), (7, .if_icmp .ge 17, 3), (10, .iload_n 1, 1), (11, .iload_n 0, 1), (12, .iload_n 2, 1), (13, .ishr, 1), (14, .iconst 1, 1), (15, .iand, 1), (16, .iadd, 1), (17, .istore_n 1, 1), (18, .iinc 2 1, 3), (21, .goto (-17), 3), (24, .iload_n 1, 1), (25, .ireturn, 1)] = true := by decide +kernel
theorem d_M_members_0 : decode mM_members.2.1 0 = .ok (.iconst 0, 1) := dq_get dd_M_members_0 (i := 0) rfl
theorem d_M_members_1 : decode mM_members.2.1 1 = .ok (.istore_n 1, 1) := dq_get dd_M_members_0 (i := 1) rfl
theorem d_M_members_2 : decode mM_members.2.1 2 = .ok (.iconst 0, 1) := dq_get dd_M_members_0 (i := 2) rfl
theorem d_M_members_3 : decode mM_members.2.1 3 = .ok (.istore_n 2, 1) := dq_get dd_M_members_0 (i := 3) rfl
theorem d_M_members_4 : decode mM_members.2.1 4 = .ok (.iload_n 2, 1) := dq_get dd_M_members_0 (i := 4) rfl
theorem d_M_members_5 : decode mM_members.2.1 5 = .ok (.bipush 12, 2) := dq_get dd_M_members_0 (i := 5) rfl
theorem d_M_members_7 : decode mM_members.2.1 7 = .ok (.if_icmp .ge 17, 3) := dq_get dd_M_members_0 (i := 6) rfl
theorem d_M_members_10 : decode mM_members.2.1 10 = .ok (.iload_n 1, 1) := dq_get dd_M_members_0 (i := 7) rfl
theorem d_M_members_11 : decode mM_members.2.1 11 = .ok (.iload_n 0, 1) := dq_get dd_M_members_0 (i := 8) rfl
theorem d_M_members_12 : decode mM_members.2.1 12 = .ok (.iload_n 2, 1) := dq_get dd_M_members_0 (i := 9) rfl
theorem d_M_members_13 : decode mM_members.2.1 13 = .ok (.ishr, 1) := dq_get dd_M_members_0 (i := 10) rfl
theorem d_M_members_14 : decode mM_members.2.1 14 = .ok (.iconst 1, 1) := dq_get dd_M_members_0 (i := 11) rfl
theorem d_M_members_15 : decode mM_members.2.1 15 = .ok (.iand, 1) := dq_get dd_M_members_0 (i := 12) rfl
theorem d_M_members_16 : decode mM_members.2.1 16 = .ok (.iadd, 1) := dq_get dd_M_members_0 (i := 13) rfl
theorem d_M_members_17 : decode mM_members.2.1 17 = .ok (.istore_n 1, 1) := dq_get dd_M_members_0 (i := 14) rfl
theorem d_M_members_18 : decode mM_members.2.1 18 = .ok (.iinc 2 1, 3) := dq_get dd_M_members_0 (i := 15) rfl
theorem d_M_members_21 : decode mM_members.2.1 21 = .ok (.goto (-17), 3) := dq_get dd_M_members_0 (i := 16) rfl
theorem d_M_members_24 : decode mM_members.2.1 24 = .ok (.iload_n 1, 1) := dq_get dd_M_members_0 (i := 17) rfl
theorem d_M_members_25 : decode mM_members.2.1 25 = .ok (.ireturn, 1) := dq_get dd_M_members_0 (i := 18) rfl
theorem dd_M_within_0 : dq mM_within.2.1 [(0, .iload_n 0, 1), (1, .ifCond .ge 7, 3), (4, .iconst 0, 1), (5, .goto 13, 3), (8, .iload_n 0, 1), (9, .iload_n 1, 1), (10, .if_icmp .le 7, 3), (13, .iload_n 1, 1), (14, .goto 4, 3), (17, .iload_n 0, 1), (18, .ireturn, 1)] = true := by decide +kernel
theorem d_M_within_0 : decode mM_within.2.1 0 = .ok (.iload_n 0, 1) := dq_get dd_M_within_0 (i := 0) rfl
theorem d_M_within_1 : decode mM_within.2.1 1 = .ok (.ifCond .ge 7, 3) := dq_get dd_M_within_0 (i := 1) rfl
theorem d_M_within_4 : decode mM_within.2.1 4 = .ok (.iconst 0, 1) := dq_get dd_M_within_0 (i := 2) rfl
theorem d_M_within_5 : decode mM_within.2.1 5 = .ok (.goto 13, 3) := dq_get dd_M_within_0 (i := 3) rfl
theorem d_M_within_8 : decode mM_within.2.1 8 = .ok (.iload_n 0, 1) := dq_get dd_M_within_0 (i := 4) rfl
theorem d_M_within_9 : decode mM_within.2.1 9 = .ok (.iload_n 1, 1) := dq_get dd_M_within_0 (i := 5) rfl
theorem d_M_within_10 : decode mM_within.2.1 10 = .ok (.if_icmp .le 7, 3) := dq_get dd_M_within_0 (i := 6) rfl
theorem d_M_within_13 : decode mM_within.2.1 13 = .ok (.iload_n 1, 1) := dq_get dd_M_within_0 (i := 7) rfl
theorem d_M_within_14 : decode mM_within.2.1 14 = .ok (.goto 4, 3) := dq_get dd_M_within_0 (i := 8) rfl
theorem d_M_within_17 : decode mM_within.2.1 17 = .ok (.iload_n 0, 1) := dq_get dd_M_within_0 (i := 9) rfl
theorem d_M_within_18 : decode mM_within.2.1 18 = .ok (.ireturn, 1) := dq_get dd_M_within_0 (i := 10) rfl
theorem dd_M_done_0 : dq mM_done.2.1 [(0, .iload_n 0, 1), (1, .tableswitch 214 37 62 #[143, 197, 214, 214, 214, 127, 119, 214, 123, 214, 131, 214, 214, 214, 214, 214, 214, 214, 214, 214, 214, 214, 214, 155, 183, 169], 119), (120, .iload_n 1, 1), (121, .iload_n 2, 1), (122, .iadd, 1), (123, .ireturn, 1), (124, .iload_n 1, 1), (125, .iload_n 2, 1), (126, .isub, 1), (127, .ireturn, 1), (128, .iload_n 1, 1), (129, .iload_n 2, 1), (130, .imul, 1), (131, .ireturn, 1), (132, .iload_n 2, 1), (133, .ifCond .ne 7, 3), (136, .iconst 0, 1), (137, .goto 6, 3), (140, .iload_n 1, 1), (141, .iload_n 2, 1), (142, .idiv, 1), (143, .ireturn, 1), (144, .iload_n 2, 1), (145, .ifCond .ne 7, 3), (148, .iconst 0, 1), (149, .goto 6, 3), (152, .iload_n 1, 1), (153, .iload_n 2, 1), (154, .irem, 1), (155, .ireturn, 1), (156, .iload_n 1, 1), (157, .iload_n 2, 1)] = true := by decide +kernel
theorem d_M_done_0 : decode mM_done.2.1 0 = .ok (.iload_n 0, 1) := dq_get dd_M_done_0 (i := 0) rfl
theorem d_M_done_1 : decode mM_done.2.1 1 = .ok (.tableswitch 214 37 62 #[143, 197, 214, 214, 214, 127, 119, 214, 123, 214, 131, 214, 214, 214, 214, 214, 214, 214, 214, 214, 214, 214, 214, 155, 183, 169], 119) := dq_get dd_M_done_0 (i := 1) rfl
theorem d_M_done_120 : decode mM_done.2.1 120 = .ok (.iload_n 1, 1) := dq_get dd_M_done_0 (i := 2) rfl
theorem d_M_done_121 : decode mM_done.2.1 121 = .ok (.iload_n 2, 1) := dq_get dd_M_done_0 (i := 3) rfl
theorem d_M_done_122 : decode mM_done.2.1 122 = .ok (.iadd, 1) := dq_get dd_M_done_0 (i := 4) rfl
theorem d_M_done_123 : decode mM_done.2.1 123 = .ok (.ireturn, 1) := dq_get dd_M_done_0 (i := 5) rfl
theorem d_M_done_124 : decode mM_done.2.1 124 = .ok (.iload_n 1, 1) := dq_get dd_M_done_0 (i := 6) rfl
theorem d_M_done_125 : decode mM_done.2.1 125 = .ok (.iload_n 2, 1) := dq_get dd_M_done_0 (i := 7) rfl
theorem d_M_done_126 : decode mM_done.2.1 126 = .ok (.isub, 1) := dq_get dd_M_done_0 (i := 8) rfl
theorem d_M_done_127 : decode mM_done.2.1 127 = .ok (.ireturn, 1) := dq_get dd_M_done_0 (i := 9) rfl
theorem d_M_done_128 : decode mM_done.2.1 128 = .ok (.iload_n 1, 1) := dq_get dd_M_done_0 (i := 10) rfl
theorem d_M_done_129 : decode mM_done.2.1 129 = .ok (.iload_n 2, 1) := dq_get dd_M_done_0 (i := 11) rfl
theorem d_M_done_130 : decode mM_done.2.1 130 = .ok (.imul, 1) := dq_get dd_M_done_0 (i := 12) rfl
theorem d_M_done_131 : decode mM_done.2.1 131 = .ok (.ireturn, 1) := dq_get dd_M_done_0 (i := 13) rfl
theorem d_M_done_132 : decode mM_done.2.1 132 = .ok (.iload_n 2, 1) := dq_get dd_M_done_0 (i := 14) rfl
theorem d_M_done_133 : decode mM_done.2.1 133 = .ok (.ifCond .ne 7, 3) := dq_get dd_M_done_0 (i := 15) rfl
theorem d_M_done_136 : decode mM_done.2.1 136 = .ok (.iconst 0, 1) := dq_get dd_M_done_0 (i := 16) rfl
theorem d_M_done_137 : decode mM_done.2.1 137 = .ok (.goto 6, 3) := dq_get dd_M_done_0 (i := 17) rfl
theorem d_M_done_140 : decode mM_done.2.1 140 = .ok (.iload_n 1, 1) := dq_get dd_M_done_0 (i := 18) rfl
theorem d_M_done_141 : decode mM_done.2.1 141 = .ok (.iload_n 2, 1) := dq_get dd_M_done_0 (i := 19) rfl
theorem d_M_done_142 : decode mM_done.2.1 142 = .ok (.idiv, 1) := dq_get dd_M_done_0 (i := 20) rfl
theorem d_M_done_143 : decode mM_done.2.1 143 = .ok (.ireturn, 1) := dq_get dd_M_done_0 (i := 21) rfl
theorem d_M_done_144 : decode mM_done.2.1 144 = .ok (.iload_n 2, 1) := dq_get dd_M_done_0 (i := 22) rfl
theorem d_M_done_145 : decode mM_done.2.1 145 = .ok (.ifCond .ne 7, 3) := dq_get dd_M_done_0 (i := 23) rfl
theorem d_M_done_148 : decode mM_done.2.1 148 = .ok (.iconst 0, 1) := dq_get dd_M_done_0 (i := 24) rfl
theorem d_M_done_149 : decode mM_done.2.1 149 = .ok (.goto 6, 3) := dq_get dd_M_done_0 (i := 25) rfl
theorem d_M_done_152 : decode mM_done.2.1 152 = .ok (.iload_n 1, 1) := dq_get dd_M_done_0 (i := 26) rfl
theorem d_M_done_153 : decode mM_done.2.1 153 = .ok (.iload_n 2, 1) := dq_get dd_M_done_0 (i := 27) rfl
theorem d_M_done_154 : decode mM_done.2.1 154 = .ok (.irem, 1) := dq_get dd_M_done_0 (i := 28) rfl
theorem d_M_done_155 : decode mM_done.2.1 155 = .ok (.ireturn, 1) := dq_get dd_M_done_0 (i := 29) rfl
theorem d_M_done_156 : decode mM_done.2.1 156 = .ok (.iload_n 1, 1) := dq_get dd_M_done_0 (i := 30) rfl
theorem d_M_done_157 : decode mM_done.2.1 157 = .ok (.iload_n 2, 1) := dq_get dd_M_done_0 (i := 31) rfl
theorem dd_M_done_32 : dq mM_done.2.1 [(158, .if_icmp .ge 7, 3), (161, .iconst 1, 1), (162, .goto 4, 3), (165, .iconst 0, 1), (166, .invokestatic 318, 3), (169, .ireturn, 1), (170, .iload_n 1, 1), (171, .iload_n 2, 1), (172, .if_icmp .le 7, 3), (175, .iconst 1, 1), (176, .goto 4, 3), (179, .iconst 0, 1), (180, .invokestatic 318, 3), (183, .ireturn, 1), (184, .iload_n 1, 1), (185, .iload_n 2, 1), (186, .if_icmp .ne 7, 3), (189, .iconst 1, 1), (190, .goto 4, 3), (193, .iconst 0, 1), (194, .invokestatic 318, 3), (197, .ireturn, 1), (198, .iload_n 1, 1), (199, .ifCond .eq 11, 3), (202, .iload_n 2, 1), (203, .ifCond .eq 7, 3), (206, .iconst 1, 1), (207, .goto 4, 3), (210, .iconst 0, 1), (211, .invokestatic 318, 3), (214, .ireturn, 1), (215, .iload_n 1, 1)] = true := by decide +kernel
theorem d_M_done_158 : decode mM_done.2.1 158 = .ok (.if_icmp .ge 7, 3) := dq_get dd_M_done_32 (i := 0) rfl
theorem d_M_done_161 : decode mM_done.2.1 161 = .ok (.iconst 1, 1) := dq_get dd_M_done_32 (i := 1) rfl
theorem d_M_done_162 : decode mM_done.2.1 162 = .ok (.goto 4, 3) := dq_get dd_M_done_32 (i := 2) rfl
theorem d_M_done_165 : decode mM_done.2.1 165 = .ok (.iconst 0, 1) := dq_get dd_M_done_32 (i := 3) rfl
theorem d_M_done_166 : decode mM_done.2.1 166 = .ok (.invokestatic 318, 3) := dq_get dd_M_done_32 (i := 4) rfl
theorem d_M_done_169 : decode mM_done.2.1 169 = .ok (.ireturn, 1) := dq_get dd_M_done_32 (i := 5) rfl
theorem d_M_done_170 : decode mM_done.2.1 170 = .ok (.iload_n 1, 1) := dq_get dd_M_done_32 (i := 6) rfl
theorem d_M_done_171 : decode mM_done.2.1 171 = .ok (.iload_n 2, 1) := dq_get dd_M_done_32 (i := 7) rfl
theorem d_M_done_172 : decode mM_done.2.1 172 = .ok (.if_icmp .le 7, 3) := dq_get dd_M_done_32 (i := 8) rfl
theorem d_M_done_175 : decode mM_done.2.1 175 = .ok (.iconst 1, 1) := dq_get dd_M_done_32 (i := 9) rfl
theorem d_M_done_176 : decode mM_done.2.1 176 = .ok (.goto 4, 3) := dq_get dd_M_done_32 (i := 10) rfl
theorem d_M_done_179 : decode mM_done.2.1 179 = .ok (.iconst 0, 1) := dq_get dd_M_done_32 (i := 11) rfl
theorem d_M_done_180 : decode mM_done.2.1 180 = .ok (.invokestatic 318, 3) := dq_get dd_M_done_32 (i := 12) rfl
theorem d_M_done_183 : decode mM_done.2.1 183 = .ok (.ireturn, 1) := dq_get dd_M_done_32 (i := 13) rfl
theorem d_M_done_184 : decode mM_done.2.1 184 = .ok (.iload_n 1, 1) := dq_get dd_M_done_32 (i := 14) rfl
theorem d_M_done_185 : decode mM_done.2.1 185 = .ok (.iload_n 2, 1) := dq_get dd_M_done_32 (i := 15) rfl
theorem d_M_done_186 : decode mM_done.2.1 186 = .ok (.if_icmp .ne 7, 3) := dq_get dd_M_done_32 (i := 16) rfl
theorem d_M_done_189 : decode mM_done.2.1 189 = .ok (.iconst 1, 1) := dq_get dd_M_done_32 (i := 17) rfl
theorem d_M_done_190 : decode mM_done.2.1 190 = .ok (.goto 4, 3) := dq_get dd_M_done_32 (i := 18) rfl
theorem d_M_done_193 : decode mM_done.2.1 193 = .ok (.iconst 0, 1) := dq_get dd_M_done_32 (i := 19) rfl
theorem d_M_done_194 : decode mM_done.2.1 194 = .ok (.invokestatic 318, 3) := dq_get dd_M_done_32 (i := 20) rfl
theorem d_M_done_197 : decode mM_done.2.1 197 = .ok (.ireturn, 1) := dq_get dd_M_done_32 (i := 21) rfl
theorem d_M_done_198 : decode mM_done.2.1 198 = .ok (.iload_n 1, 1) := dq_get dd_M_done_32 (i := 22) rfl
theorem d_M_done_199 : decode mM_done.2.1 199 = .ok (.ifCond .eq 11, 3) := dq_get dd_M_done_32 (i := 23) rfl
theorem d_M_done_202 : decode mM_done.2.1 202 = .ok (.iload_n 2, 1) := dq_get dd_M_done_32 (i := 24) rfl
theorem d_M_done_203 : decode mM_done.2.1 203 = .ok (.ifCond .eq 7, 3) := dq_get dd_M_done_32 (i := 25) rfl
theorem d_M_done_206 : decode mM_done.2.1 206 = .ok (.iconst 1, 1) := dq_get dd_M_done_32 (i := 26) rfl
theorem d_M_done_207 : decode mM_done.2.1 207 = .ok (.goto 4, 3) := dq_get dd_M_done_32 (i := 27) rfl
theorem d_M_done_210 : decode mM_done.2.1 210 = .ok (.iconst 0, 1) := dq_get dd_M_done_32 (i := 28) rfl
theorem d_M_done_211 : decode mM_done.2.1 211 = .ok (.invokestatic 318, 3) := dq_get dd_M_done_32 (i := 29) rfl
theorem d_M_done_214 : decode mM_done.2.1 214 = .ok (.ireturn, 1) := dq_get dd_M_done_32 (i := 30) rfl
theorem d_M_done_215 : decode mM_done.2.1 215 = .ok (.iload_n 1, 1) := dq_get dd_M_done_32 (i := 31) rfl
theorem dd_M_done_64 : dq mM_done.2.1 [(216, .ifCond .ne 7, 3), (219, .iload_n 2, 1), (220, .ifCond .eq 7, 3), (223, .iconst 1, 1), (224, .goto 4, 3), (227, .iconst 0, 1), (228, .invokestatic 318, 3), (231, .ireturn, 1)] = true := by decide +kernel
theorem d_M_done_216 : decode mM_done.2.1 216 = .ok (.ifCond .ne 7, 3) := dq_get dd_M_done_64 (i := 0) rfl
theorem d_M_done_219 : decode mM_done.2.1 219 = .ok (.iload_n 2, 1) := dq_get dd_M_done_64 (i := 1) rfl
theorem d_M_done_220 : decode mM_done.2.1 220 = .ok (.ifCond .eq 7, 3) := dq_get dd_M_done_64 (i := 2) rfl
theorem d_M_done_223 : decode mM_done.2.1 223 = .ok (.iconst 1, 1) := dq_get dd_M_done_64 (i := 3) rfl
theorem d_M_done_224 : decode mM_done.2.1 224 = .ok (.goto 4, 3) := dq_get dd_M_done_64 (i := 4) rfl
theorem d_M_done_227 : decode mM_done.2.1 227 = .ok (.iconst 0, 1) := dq_get dd_M_done_64 (i := 5) rfl
theorem d_M_done_228 : decode mM_done.2.1 228 = .ok (.invokestatic 318, 3) := dq_get dd_M_done_64 (i := 6) rfl
theorem d_M_done_231 : decode mM_done.2.1 231 = .ok (.ireturn, 1) := dq_get dd_M_done_64 (i := 7) rfl
theorem dd_M_part_0 : dq mM_part.2.1 [(0, .iload_n 1, 1), (1, .iconst 0, 1), (2, .aload_n 0, 1), (3, .getfield 405, 3), (6, .iconst 1, 1), (7, .isub, 1), (8, .invokestatic 429, 3), (11, .ifCond .ne 5, 3), (14, .iconst (-1), 1), (15, .ireturn, 1), (16, .aload_n 0, 1), (17, .invokevirtual 464, 3), (20, .iload_n 2, 1), (21, .ifCond .ne 12, 3), (24, .aload_n 0, 1), (25, .getfield 60, 3), (28, .iload_n 1, 1), (29, .iaload, 1), (30, .goto 38, 3), (33, .iload_n 2, 1), (34, .iconst 1, 1), (35, .if_icmp .ne 11, 3), (38, .aload_n 0, 1), (39, .iload_n 1, 1), (40, .invokevirtual 470, 3), (43, .goto 25, 3), (46, .iload_n 2, 1), (47, .iconst 2, 1), (48, .if_icmp .ne 19, 3), (51, .aload_n 0, 1), (52, .iload_n 1, 1), (53, .invokevirtual 470, 3)] = true := by decide +kernel
theorem d_M_part_0 : decode mM_part.2.1 0 = .ok (.iload_n 1, 1) := dq_get dd_M_part_0 (i := 0) rfl
theorem d_M_part_1 : decode mM_part.2.1 1 = .ok (.iconst 0, 1) := dq_get dd_M_part_0 (i := 1) rfl
theorem d_M_part_2 : decode mM_part.2.1 2 = .ok (.aload_n 0, 1) := dq_get dd_M_part_0 (i := 2) rfl
theorem d_M_part_3 : decode mM_part.2.1 3 = .ok (.getfield 405, 3) := dq_get dd_M_part_0 (i := 3) rfl
theorem d_M_part_6 : decode mM_part.2.1 6 = .ok (.iconst 1, 1) := dq_get dd_M_part_0 (i := 4) rfl
theorem d_M_part_7 : decode mM_part.2.1 7 = .ok (.isub, 1) := dq_get dd_M_part_0 (i := 5) rfl
theorem d_M_part_8 : decode mM_part.2.1 8 = .ok (.invokestatic 429, 3) := dq_get dd_M_part_0 (i := 6) rfl
theorem d_M_part_11 : decode mM_part.2.1 11 = .ok (.ifCond .ne 5, 3) := dq_get dd_M_part_0 (i := 7) rfl
theorem d_M_part_14 : decode mM_part.2.1 14 = .ok (.iconst (-1), 1) := dq_get dd_M_part_0 (i := 8) rfl
theorem d_M_part_15 : decode mM_part.2.1 15 = .ok (.ireturn, 1) := dq_get dd_M_part_0 (i := 9) rfl
theorem d_M_part_16 : decode mM_part.2.1 16 = .ok (.aload_n 0, 1) := dq_get dd_M_part_0 (i := 10) rfl
theorem d_M_part_17 : decode mM_part.2.1 17 = .ok (.invokevirtual 464, 3) := dq_get dd_M_part_0 (i := 11) rfl
theorem d_M_part_20 : decode mM_part.2.1 20 = .ok (.iload_n 2, 1) := dq_get dd_M_part_0 (i := 12) rfl
theorem d_M_part_21 : decode mM_part.2.1 21 = .ok (.ifCond .ne 12, 3) := dq_get dd_M_part_0 (i := 13) rfl
theorem d_M_part_24 : decode mM_part.2.1 24 = .ok (.aload_n 0, 1) := dq_get dd_M_part_0 (i := 14) rfl
theorem d_M_part_25 : decode mM_part.2.1 25 = .ok (.getfield 60, 3) := dq_get dd_M_part_0 (i := 15) rfl
theorem d_M_part_28 : decode mM_part.2.1 28 = .ok (.iload_n 1, 1) := dq_get dd_M_part_0 (i := 16) rfl
theorem d_M_part_29 : decode mM_part.2.1 29 = .ok (.iaload, 1) := dq_get dd_M_part_0 (i := 17) rfl
theorem d_M_part_30 : decode mM_part.2.1 30 = .ok (.goto 38, 3) := dq_get dd_M_part_0 (i := 18) rfl
theorem d_M_part_33 : decode mM_part.2.1 33 = .ok (.iload_n 2, 1) := dq_get dd_M_part_0 (i := 19) rfl
theorem d_M_part_34 : decode mM_part.2.1 34 = .ok (.iconst 1, 1) := dq_get dd_M_part_0 (i := 20) rfl
theorem d_M_part_35 : decode mM_part.2.1 35 = .ok (.if_icmp .ne 11, 3) := dq_get dd_M_part_0 (i := 21) rfl
theorem d_M_part_38 : decode mM_part.2.1 38 = .ok (.aload_n 0, 1) := dq_get dd_M_part_0 (i := 22) rfl
theorem d_M_part_39 : decode mM_part.2.1 39 = .ok (.iload_n 1, 1) := dq_get dd_M_part_0 (i := 23) rfl
theorem d_M_part_40 : decode mM_part.2.1 40 = .ok (.invokevirtual 470, 3) := dq_get dd_M_part_0 (i := 24) rfl
theorem d_M_part_43 : decode mM_part.2.1 43 = .ok (.goto 25, 3) := dq_get dd_M_part_0 (i := 25) rfl
theorem d_M_part_46 : decode mM_part.2.1 46 = .ok (.iload_n 2, 1) := dq_get dd_M_part_0 (i := 26) rfl
theorem d_M_part_47 : decode mM_part.2.1 47 = .ok (.iconst 2, 1) := dq_get dd_M_part_0 (i := 27) rfl
theorem d_M_part_48 : decode mM_part.2.1 48 = .ok (.if_icmp .ne 19, 3) := dq_get dd_M_part_0 (i := 28) rfl
theorem d_M_part_51 : decode mM_part.2.1 51 = .ok (.aload_n 0, 1) := dq_get dd_M_part_0 (i := 29) rfl
theorem d_M_part_52 : decode mM_part.2.1 52 = .ok (.iload_n 1, 1) := dq_get dd_M_part_0 (i := 30) rfl
theorem d_M_part_53 : decode mM_part.2.1 53 = .ok (.invokevirtual 470, 3) := dq_get dd_M_part_0 (i := 31) rfl
theorem dd_M_part_32 : dq mM_part.2.1 [(56, .aload_n 0, 1), (57, .iconst 0, 1), (58, .invokevirtual 454, 3), (61, .iconst (-1), 1), (62, .ixor, 1), (63, .iand, 1), (64, .goto 4, 3), (67, .iconst (-1), 1), (68, .ireturn, 1)] = true := by decide +kernel
theorem d_M_part_56 : decode mM_part.2.1 56 = .ok (.aload_n 0, 1) := dq_get dd_M_part_32 (i := 0) rfl
theorem d_M_part_57 : decode mM_part.2.1 57 = .ok (.iconst 0, 1) := dq_get dd_M_part_32 (i := 1) rfl
theorem d_M_part_58 : decode mM_part.2.1 58 = .ok (.invokevirtual 454, 3) := dq_get dd_M_part_32 (i := 2) rfl
theorem d_M_part_61 : decode mM_part.2.1 61 = .ok (.iconst (-1), 1) := dq_get dd_M_part_32 (i := 3) rfl
theorem d_M_part_62 : decode mM_part.2.1 62 = .ok (.ixor, 1) := dq_get dd_M_part_32 (i := 4) rfl
theorem d_M_part_63 : decode mM_part.2.1 63 = .ok (.iand, 1) := dq_get dd_M_part_32 (i := 5) rfl
theorem d_M_part_64 : decode mM_part.2.1 64 = .ok (.goto 4, 3) := dq_get dd_M_part_32 (i := 6) rfl
theorem d_M_part_67 : decode mM_part.2.1 67 = .ok (.iconst (-1), 1) := dq_get dd_M_part_32 (i := 7) rfl
theorem d_M_part_68 : decode mM_part.2.1 68 = .ok (.ireturn, 1) := dq_get dd_M_part_32 (i := 8) rfl
theorem dd_M_notesOf_0 : dq mM_notesOf.2.1 [(0, .iconst 0, 1), (1, .istore_n 2, 1), (2, .iconst 0, 1), (3, .istore_n 3, 1), (4, .iload_n 3, 1), (5, .aload_n 0, 1), (6, .getfield 322, 3), (9, .if_icmp .ge 32, 3), (12, .iload_n 2, 1), (13, .aload_n 0, 1), (14, .getfield 63, 3), (17, .iload_n 3, 1), (18, .iaload, 1), (19, .iload_n 1, 1), (20, .if_icmp .ne 7, 3), (23, .iconst 1, 1), (24, .goto 4, 3), (27, .iconst 0, 1), (28, .invokestatic 318, 3), (31, .iload_n 3, 1), (32, .ishl, 1), (33, .ior, 1), (34, .istore_n 2, 1), (35, .iinc 3 1, 3), (38, .goto (-34), 3), (41, .iload_n 2, 1), (42, .ireturn, 1)] = true := by decide +kernel
theorem d_M_notesOf_0 : decode mM_notesOf.2.1 0 = .ok (.iconst 0, 1) := dq_get dd_M_notesOf_0 (i := 0) rfl
theorem d_M_notesOf_1 : decode mM_notesOf.2.1 1 = .ok (.istore_n 2, 1) := dq_get dd_M_notesOf_0 (i := 1) rfl
theorem d_M_notesOf_2 : decode mM_notesOf.2.1 2 = .ok (.iconst 0, 1) := dq_get dd_M_notesOf_0 (i := 2) rfl
theorem d_M_notesOf_3 : decode mM_notesOf.2.1 3 = .ok (.istore_n 3, 1) := dq_get dd_M_notesOf_0 (i := 3) rfl
theorem d_M_notesOf_4 : decode mM_notesOf.2.1 4 = .ok (.iload_n 3, 1) := dq_get dd_M_notesOf_0 (i := 4) rfl
theorem d_M_notesOf_5 : decode mM_notesOf.2.1 5 = .ok (.aload_n 0, 1) := dq_get dd_M_notesOf_0 (i := 5) rfl
theorem d_M_notesOf_6 : decode mM_notesOf.2.1 6 = .ok (.getfield 322, 3) := dq_get dd_M_notesOf_0 (i := 6) rfl
theorem d_M_notesOf_9 : decode mM_notesOf.2.1 9 = .ok (.if_icmp .ge 32, 3) := dq_get dd_M_notesOf_0 (i := 7) rfl
theorem d_M_notesOf_12 : decode mM_notesOf.2.1 12 = .ok (.iload_n 2, 1) := dq_get dd_M_notesOf_0 (i := 8) rfl
theorem d_M_notesOf_13 : decode mM_notesOf.2.1 13 = .ok (.aload_n 0, 1) := dq_get dd_M_notesOf_0 (i := 9) rfl
theorem d_M_notesOf_14 : decode mM_notesOf.2.1 14 = .ok (.getfield 63, 3) := dq_get dd_M_notesOf_0 (i := 10) rfl
theorem d_M_notesOf_17 : decode mM_notesOf.2.1 17 = .ok (.iload_n 3, 1) := dq_get dd_M_notesOf_0 (i := 11) rfl
theorem d_M_notesOf_18 : decode mM_notesOf.2.1 18 = .ok (.iaload, 1) := dq_get dd_M_notesOf_0 (i := 12) rfl
theorem d_M_notesOf_19 : decode mM_notesOf.2.1 19 = .ok (.iload_n 1, 1) := dq_get dd_M_notesOf_0 (i := 13) rfl
theorem d_M_notesOf_20 : decode mM_notesOf.2.1 20 = .ok (.if_icmp .ne 7, 3) := dq_get dd_M_notesOf_0 (i := 14) rfl
theorem d_M_notesOf_23 : decode mM_notesOf.2.1 23 = .ok (.iconst 1, 1) := dq_get dd_M_notesOf_0 (i := 15) rfl
theorem d_M_notesOf_24 : decode mM_notesOf.2.1 24 = .ok (.goto 4, 3) := dq_get dd_M_notesOf_0 (i := 16) rfl
theorem d_M_notesOf_27 : decode mM_notesOf.2.1 27 = .ok (.iconst 0, 1) := dq_get dd_M_notesOf_0 (i := 17) rfl
theorem d_M_notesOf_28 : decode mM_notesOf.2.1 28 = .ok (.invokestatic 318, 3) := dq_get dd_M_notesOf_0 (i := 18) rfl
theorem d_M_notesOf_31 : decode mM_notesOf.2.1 31 = .ok (.iload_n 3, 1) := dq_get dd_M_notesOf_0 (i := 19) rfl
theorem d_M_notesOf_32 : decode mM_notesOf.2.1 32 = .ok (.ishl, 1) := dq_get dd_M_notesOf_0 (i := 20) rfl
theorem d_M_notesOf_33 : decode mM_notesOf.2.1 33 = .ok (.ior, 1) := dq_get dd_M_notesOf_0 (i := 21) rfl
theorem d_M_notesOf_34 : decode mM_notesOf.2.1 34 = .ok (.istore_n 2, 1) := dq_get dd_M_notesOf_0 (i := 22) rfl
theorem d_M_notesOf_35 : decode mM_notesOf.2.1 35 = .ok (.iinc 3 1, 3) := dq_get dd_M_notesOf_0 (i := 23) rfl
theorem d_M_notesOf_38 : decode mM_notesOf.2.1 38 = .ok (.goto (-34), 3) := dq_get dd_M_notesOf_0 (i := 24) rfl
theorem d_M_notesOf_41 : decode mM_notesOf.2.1 41 = .ok (.iload_n 2, 1) := dq_get dd_M_notesOf_0 (i := 25) rfl
theorem d_M_notesOf_42 : decode mM_notesOf.2.1 42 = .ok (.ireturn, 1) := dq_get dd_M_notesOf_0 (i := 26) rfl
theorem dd_M_given_0 : dq mM_given.2.1 [(0, .iconst 0, 1), (1, .istore_n 2, 1), (2, .iconst 0, 1), (3, .istore_n 3, 1), (4, .iload_n 3, 1), (5, .aload_n 0, 1), (6, .getfield 322, 3), (9, .if_icmp .ge 32, 3), (12, .iload_n 2, 1), (13, .aload_n 0, 1), (14, .getfield 96, 3), (17, .iload_n 3, 1), (18, .iaload, 1), (19, .iload_n 1, 1), (20, .if_icmp .ne 7, 3), (23, .iconst 1, 1), (24, .goto 4, 3), (27, .iconst 0, 1), (28, .invokestatic 318, 3), (31, .iload_n 3, 1), (32, .ishl, 1), (33, .ior, 1), (34, .istore_n 2, 1), (35, .iinc 3 1, 3), (38, .goto (-34), 3), (41, .iload_n 2, 1), (42, .ireturn, 1)] = true := by decide +kernel
theorem d_M_given_0 : decode mM_given.2.1 0 = .ok (.iconst 0, 1) := dq_get dd_M_given_0 (i := 0) rfl
theorem d_M_given_1 : decode mM_given.2.1 1 = .ok (.istore_n 2, 1) := dq_get dd_M_given_0 (i := 1) rfl
theorem d_M_given_2 : decode mM_given.2.1 2 = .ok (.iconst 0, 1) := dq_get dd_M_given_0 (i := 2) rfl
theorem d_M_given_3 : decode mM_given.2.1 3 = .ok (.istore_n 3, 1) := dq_get dd_M_given_0 (i := 3) rfl
theorem d_M_given_4 : decode mM_given.2.1 4 = .ok (.iload_n 3, 1) := dq_get dd_M_given_0 (i := 4) rfl
theorem d_M_given_5 : decode mM_given.2.1 5 = .ok (.aload_n 0, 1) := dq_get dd_M_given_0 (i := 5) rfl
theorem d_M_given_6 : decode mM_given.2.1 6 = .ok (.getfield 322, 3) := dq_get dd_M_given_0 (i := 6) rfl
theorem d_M_given_9 : decode mM_given.2.1 9 = .ok (.if_icmp .ge 32, 3) := dq_get dd_M_given_0 (i := 7) rfl
theorem d_M_given_12 : decode mM_given.2.1 12 = .ok (.iload_n 2, 1) := dq_get dd_M_given_0 (i := 8) rfl
theorem d_M_given_13 : decode mM_given.2.1 13 = .ok (.aload_n 0, 1) := dq_get dd_M_given_0 (i := 9) rfl
theorem d_M_given_14 : decode mM_given.2.1 14 = .ok (.getfield 96, 3) := dq_get dd_M_given_0 (i := 10) rfl
theorem d_M_given_17 : decode mM_given.2.1 17 = .ok (.iload_n 3, 1) := dq_get dd_M_given_0 (i := 11) rfl
theorem d_M_given_18 : decode mM_given.2.1 18 = .ok (.iaload, 1) := dq_get dd_M_given_0 (i := 12) rfl
theorem d_M_given_19 : decode mM_given.2.1 19 = .ok (.iload_n 1, 1) := dq_get dd_M_given_0 (i := 13) rfl
theorem d_M_given_20 : decode mM_given.2.1 20 = .ok (.if_icmp .ne 7, 3) := dq_get dd_M_given_0 (i := 14) rfl
theorem d_M_given_23 : decode mM_given.2.1 23 = .ok (.iconst 1, 1) := dq_get dd_M_given_0 (i := 15) rfl
theorem d_M_given_24 : decode mM_given.2.1 24 = .ok (.goto 4, 3) := dq_get dd_M_given_0 (i := 16) rfl
theorem d_M_given_27 : decode mM_given.2.1 27 = .ok (.iconst 0, 1) := dq_get dd_M_given_0 (i := 17) rfl
theorem d_M_given_28 : decode mM_given.2.1 28 = .ok (.invokestatic 318, 3) := dq_get dd_M_given_0 (i := 18) rfl
theorem d_M_given_31 : decode mM_given.2.1 31 = .ok (.iload_n 3, 1) := dq_get dd_M_given_0 (i := 19) rfl
theorem d_M_given_32 : decode mM_given.2.1 32 = .ok (.ishl, 1) := dq_get dd_M_given_0 (i := 20) rfl
theorem d_M_given_33 : decode mM_given.2.1 33 = .ok (.ior, 1) := dq_get dd_M_given_0 (i := 21) rfl
theorem d_M_given_34 : decode mM_given.2.1 34 = .ok (.istore_n 2, 1) := dq_get dd_M_given_0 (i := 22) rfl
theorem d_M_given_35 : decode mM_given.2.1 35 = .ok (.iinc 3 1, 3) := dq_get dd_M_given_0 (i := 23) rfl
theorem d_M_given_38 : decode mM_given.2.1 38 = .ok (.goto (-34), 3) := dq_get dd_M_given_0 (i := 24) rfl
theorem d_M_given_41 : decode mM_given.2.1 41 = .ok (.iload_n 2, 1) := dq_get dd_M_given_0 (i := 25) rfl
theorem d_M_given_42 : decode mM_given.2.1 42 = .ok (.ireturn, 1) := dq_get dd_M_given_0 (i := 26) rfl
theorem dd_M_held_0 : dq mM_held.2.1 [(0, .aload_n 0, 1), (1, .invokevirtual 464, 3), (4, .aload_n 0, 1), (5, .iload_n 1, 1), (6, .invokevirtual 473, 3), (9, .ifCond .eq 25, 3), (12, .iload_n 2, 1), (13, .invokestatic 476, 3), (16, .ifCond .eq 18, 3), (19, .aload_n 0, 1), (20, .iload_n 2, 1), (21, .invokevirtual 454, 3), (24, .aload_n 0, 1), (25, .getfield 99, 3), (28, .iload_n 1, 1), (29, .iaload, 1), (30, .iand, 1), (31, .goto 4, 3), (34, .iconst (-1), 1), (35, .ireturn, 1)] = true := by decide +kernel
theorem d_M_held_0 : decode mM_held.2.1 0 = .ok (.aload_n 0, 1) := dq_get dd_M_held_0 (i := 0) rfl
theorem d_M_held_1 : decode mM_held.2.1 1 = .ok (.invokevirtual 464, 3) := dq_get dd_M_held_0 (i := 1) rfl
theorem d_M_held_4 : decode mM_held.2.1 4 = .ok (.aload_n 0, 1) := dq_get dd_M_held_0 (i := 2) rfl
theorem d_M_held_5 : decode mM_held.2.1 5 = .ok (.iload_n 1, 1) := dq_get dd_M_held_0 (i := 3) rfl
theorem d_M_held_6 : decode mM_held.2.1 6 = .ok (.invokevirtual 473, 3) := dq_get dd_M_held_0 (i := 4) rfl
theorem d_M_held_9 : decode mM_held.2.1 9 = .ok (.ifCond .eq 25, 3) := dq_get dd_M_held_0 (i := 5) rfl
theorem d_M_held_12 : decode mM_held.2.1 12 = .ok (.iload_n 2, 1) := dq_get dd_M_held_0 (i := 6) rfl
theorem d_M_held_13 : decode mM_held.2.1 13 = .ok (.invokestatic 476, 3) := dq_get dd_M_held_0 (i := 7) rfl
theorem d_M_held_16 : decode mM_held.2.1 16 = .ok (.ifCond .eq 18, 3) := dq_get dd_M_held_0 (i := 8) rfl
theorem d_M_held_19 : decode mM_held.2.1 19 = .ok (.aload_n 0, 1) := dq_get dd_M_held_0 (i := 9) rfl
theorem d_M_held_20 : decode mM_held.2.1 20 = .ok (.iload_n 2, 1) := dq_get dd_M_held_0 (i := 10) rfl
theorem d_M_held_21 : decode mM_held.2.1 21 = .ok (.invokevirtual 454, 3) := dq_get dd_M_held_0 (i := 11) rfl
theorem d_M_held_24 : decode mM_held.2.1 24 = .ok (.aload_n 0, 1) := dq_get dd_M_held_0 (i := 12) rfl
theorem d_M_held_25 : decode mM_held.2.1 25 = .ok (.getfield 99, 3) := dq_get dd_M_held_0 (i := 13) rfl
theorem d_M_held_28 : decode mM_held.2.1 28 = .ok (.iload_n 1, 1) := dq_get dd_M_held_0 (i := 14) rfl
theorem d_M_held_29 : decode mM_held.2.1 29 = .ok (.iaload, 1) := dq_get dd_M_held_0 (i := 15) rfl
theorem d_M_held_30 : decode mM_held.2.1 30 = .ok (.iand, 1) := dq_get dd_M_held_0 (i := 16) rfl
theorem d_M_held_31 : decode mM_held.2.1 31 = .ok (.goto 4, 3) := dq_get dd_M_held_0 (i := 17) rfl
theorem d_M_held_34 : decode mM_held.2.1 34 = .ok (.iconst (-1), 1) := dq_get dd_M_held_0 (i := 18) rfl
theorem d_M_held_35 : decode mM_held.2.1 35 = .ok (.ireturn, 1) := dq_get dd_M_held_0 (i := 19) rfl
theorem dd_M_isBeat_0 : dq mM_isBeat.2.1 [(0, .iload_n 1, 1), (1, .iconst 0, 1), (2, .aload_n 0, 1), (3, .getfield 78, 3), (6, .iconst 1, 1), (7, .isub, 1), (8, .invokestatic 429, 3), (11, .ireturn, 1)] = true := by decide +kernel
theorem d_M_isBeat_0 : decode mM_isBeat.2.1 0 = .ok (.iload_n 1, 1) := dq_get dd_M_isBeat_0 (i := 0) rfl
theorem d_M_isBeat_1 : decode mM_isBeat.2.1 1 = .ok (.iconst 0, 1) := dq_get dd_M_isBeat_0 (i := 1) rfl
theorem d_M_isBeat_2 : decode mM_isBeat.2.1 2 = .ok (.aload_n 0, 1) := dq_get dd_M_isBeat_0 (i := 2) rfl
theorem d_M_isBeat_3 : decode mM_isBeat.2.1 3 = .ok (.getfield 78, 3) := dq_get dd_M_isBeat_0 (i := 3) rfl
theorem d_M_isBeat_6 : decode mM_isBeat.2.1 6 = .ok (.iconst 1, 1) := dq_get dd_M_isBeat_0 (i := 4) rfl
theorem d_M_isBeat_7 : decode mM_isBeat.2.1 7 = .ok (.isub, 1) := dq_get dd_M_isBeat_0 (i := 5) rfl
theorem d_M_isBeat_8 : decode mM_isBeat.2.1 8 = .ok (.invokestatic 429, 3) := dq_get dd_M_isBeat_0 (i := 6) rfl
theorem d_M_isBeat_11 : decode mM_isBeat.2.1 11 = .ok (.ireturn, 1) := dq_get dd_M_isBeat_0 (i := 7) rfl
theorem dd_M_isHand_0 : dq mM_isHand.2.1 [(0, .iload_n 0, 1), (1, .iconst 1, 1), (2, .if_icmp .eq 8, 3), (5, .iload_n 0, 1), (6, .iconst 2, 1), (7, .if_icmp .ne 7, 3), (10, .iconst 1, 1), (11, .goto 4, 3), (14, .iconst 0, 1), (15, .ireturn, 1)] = true := by decide +kernel
theorem d_M_isHand_0 : decode mM_isHand.2.1 0 = .ok (.iload_n 0, 1) := dq_get dd_M_isHand_0 (i := 0) rfl
theorem d_M_isHand_1 : decode mM_isHand.2.1 1 = .ok (.iconst 1, 1) := dq_get dd_M_isHand_0 (i := 1) rfl
theorem d_M_isHand_2 : decode mM_isHand.2.1 2 = .ok (.if_icmp .eq 8, 3) := dq_get dd_M_isHand_0 (i := 2) rfl
theorem d_M_isHand_5 : decode mM_isHand.2.1 5 = .ok (.iload_n 0, 1) := dq_get dd_M_isHand_0 (i := 3) rfl
theorem d_M_isHand_6 : decode mM_isHand.2.1 6 = .ok (.iconst 2, 1) := dq_get dd_M_isHand_0 (i := 4) rfl
theorem d_M_isHand_7 : decode mM_isHand.2.1 7 = .ok (.if_icmp .ne 7, 3) := dq_get dd_M_isHand_0 (i := 5) rfl
theorem d_M_isHand_10 : decode mM_isHand.2.1 10 = .ok (.iconst 1, 1) := dq_get dd_M_isHand_0 (i := 6) rfl
theorem d_M_isHand_11 : decode mM_isHand.2.1 11 = .ok (.goto 4, 3) := dq_get dd_M_isHand_0 (i := 7) rfl
theorem d_M_isHand_14 : decode mM_isHand.2.1 14 = .ok (.iconst 0, 1) := dq_get dd_M_isHand_0 (i := 8) rfl
theorem d_M_isHand_15 : decode mM_isHand.2.1 15 = .ok (.ireturn, 1) := dq_get dd_M_isHand_0 (i := 9) rfl
theorem dd_M_sounds_0 : dq mM_sounds.2.1 [(0, .aload_n 0, 1), (1, .iload_n 1, 1), (2, .invokevirtual 473, 3), (5, .ifCond .ne 5, 3), (8, .iconst (-1), 1), (9, .ireturn, 1), (10, .aload_n 0, 1), (11, .invokevirtual 464, 3), (14, .aload_n 0, 1), (15, .invokevirtual 479, 3), (18, .aload_n 0, 1), (19, .getfield 102, 3), (22, .iload_n 1, 1), (23, .iaload, 1), (24, .ireturn, 1)] = true := by decide +kernel
theorem d_M_sounds_0 : decode mM_sounds.2.1 0 = .ok (.aload_n 0, 1) := dq_get dd_M_sounds_0 (i := 0) rfl
theorem d_M_sounds_1 : decode mM_sounds.2.1 1 = .ok (.iload_n 1, 1) := dq_get dd_M_sounds_0 (i := 1) rfl
theorem d_M_sounds_2 : decode mM_sounds.2.1 2 = .ok (.invokevirtual 473, 3) := dq_get dd_M_sounds_0 (i := 2) rfl
theorem d_M_sounds_5 : decode mM_sounds.2.1 5 = .ok (.ifCond .ne 5, 3) := dq_get dd_M_sounds_0 (i := 3) rfl
theorem d_M_sounds_8 : decode mM_sounds.2.1 8 = .ok (.iconst (-1), 1) := dq_get dd_M_sounds_0 (i := 4) rfl
theorem d_M_sounds_9 : decode mM_sounds.2.1 9 = .ok (.ireturn, 1) := dq_get dd_M_sounds_0 (i := 5) rfl
theorem d_M_sounds_10 : decode mM_sounds.2.1 10 = .ok (.aload_n 0, 1) := dq_get dd_M_sounds_0 (i := 6) rfl
theorem d_M_sounds_11 : decode mM_sounds.2.1 11 = .ok (.invokevirtual 464, 3) := dq_get dd_M_sounds_0 (i := 7) rfl
theorem d_M_sounds_14 : decode mM_sounds.2.1 14 = .ok (.aload_n 0, 1) := dq_get dd_M_sounds_0 (i := 8) rfl
theorem d_M_sounds_15 : decode mM_sounds.2.1 15 = .ok (.invokevirtual 479, 3) := dq_get dd_M_sounds_0 (i := 9) rfl
theorem d_M_sounds_18 : decode mM_sounds.2.1 18 = .ok (.aload_n 0, 1) := dq_get dd_M_sounds_0 (i := 10) rfl
theorem d_M_sounds_19 : decode mM_sounds.2.1 19 = .ok (.getfield 102, 3) := dq_get dd_M_sounds_0 (i := 11) rfl
theorem d_M_sounds_22 : decode mM_sounds.2.1 22 = .ok (.iload_n 1, 1) := dq_get dd_M_sounds_0 (i := 12) rfl
theorem d_M_sounds_23 : decode mM_sounds.2.1 23 = .ok (.iaload, 1) := dq_get dd_M_sounds_0 (i := 13) rfl
theorem d_M_sounds_24 : decode mM_sounds.2.1 24 = .ok (.ireturn, 1) := dq_get dd_M_sounds_0 (i := 14) rfl
theorem dd_M_laySound_0 : dq mM_laySound.2.1 [(0, .aload_n 0, 1), (1, .iconst 1, 1), (2, .invokevirtual 454, 3), (5, .aload_n 0, 1), (6, .iconst 2, 1), (7, .invokevirtual 454, 3), (10, .ior, 1), (11, .istore_n 1, 1), (12, .iconst 0, 1), (13, .istore_n 2, 1), (14, .iload_n 2, 1), (15, .aload_n 0, 1), (16, .getfield 78, 3), (19, .if_icmp .ge 59, 3), (22, .aload_n 0, 1), (23, .getfield 102, 3), (26, .iload_n 2, 1), (27, .aload_n 0, 1), (28, .getfield 99, 3), (31, .iload_n 2, 1), (32, .iaload, 1), (33, .iload_n 1, 1), (34, .iand, 1), (35, .iastore, 1), (36, .iload_n 2, 1), (37, .ifCond .le 35, 3), (40, .aload_n 0, 1), (41, .getfield 96, 3), (44, .bipush 40, 2), (46, .iaload, 1), (47, .iload_n 2, 1), (48, .ishr, 1)] = true := by decide +kernel
theorem d_M_laySound_0 : decode mM_laySound.2.1 0 = .ok (.aload_n 0, 1) := dq_get dd_M_laySound_0 (i := 0) rfl
theorem d_M_laySound_1 : decode mM_laySound.2.1 1 = .ok (.iconst 1, 1) := dq_get dd_M_laySound_0 (i := 1) rfl
theorem d_M_laySound_2 : decode mM_laySound.2.1 2 = .ok (.invokevirtual 454, 3) := dq_get dd_M_laySound_0 (i := 2) rfl
theorem d_M_laySound_5 : decode mM_laySound.2.1 5 = .ok (.aload_n 0, 1) := dq_get dd_M_laySound_0 (i := 3) rfl
theorem d_M_laySound_6 : decode mM_laySound.2.1 6 = .ok (.iconst 2, 1) := dq_get dd_M_laySound_0 (i := 4) rfl
theorem d_M_laySound_7 : decode mM_laySound.2.1 7 = .ok (.invokevirtual 454, 3) := dq_get dd_M_laySound_0 (i := 5) rfl
theorem d_M_laySound_10 : decode mM_laySound.2.1 10 = .ok (.ior, 1) := dq_get dd_M_laySound_0 (i := 6) rfl
theorem d_M_laySound_11 : decode mM_laySound.2.1 11 = .ok (.istore_n 1, 1) := dq_get dd_M_laySound_0 (i := 7) rfl
theorem d_M_laySound_12 : decode mM_laySound.2.1 12 = .ok (.iconst 0, 1) := dq_get dd_M_laySound_0 (i := 8) rfl
theorem d_M_laySound_13 : decode mM_laySound.2.1 13 = .ok (.istore_n 2, 1) := dq_get dd_M_laySound_0 (i := 9) rfl
theorem d_M_laySound_14 : decode mM_laySound.2.1 14 = .ok (.iload_n 2, 1) := dq_get dd_M_laySound_0 (i := 10) rfl
theorem d_M_laySound_15 : decode mM_laySound.2.1 15 = .ok (.aload_n 0, 1) := dq_get dd_M_laySound_0 (i := 11) rfl
theorem d_M_laySound_16 : decode mM_laySound.2.1 16 = .ok (.getfield 78, 3) := dq_get dd_M_laySound_0 (i := 12) rfl
theorem d_M_laySound_19 : decode mM_laySound.2.1 19 = .ok (.if_icmp .ge 59, 3) := dq_get dd_M_laySound_0 (i := 13) rfl
theorem d_M_laySound_22 : decode mM_laySound.2.1 22 = .ok (.aload_n 0, 1) := dq_get dd_M_laySound_0 (i := 14) rfl
theorem d_M_laySound_23 : decode mM_laySound.2.1 23 = .ok (.getfield 102, 3) := dq_get dd_M_laySound_0 (i := 15) rfl
theorem d_M_laySound_26 : decode mM_laySound.2.1 26 = .ok (.iload_n 2, 1) := dq_get dd_M_laySound_0 (i := 16) rfl
theorem d_M_laySound_27 : decode mM_laySound.2.1 27 = .ok (.aload_n 0, 1) := dq_get dd_M_laySound_0 (i := 17) rfl
theorem d_M_laySound_28 : decode mM_laySound.2.1 28 = .ok (.getfield 99, 3) := dq_get dd_M_laySound_0 (i := 18) rfl
theorem d_M_laySound_31 : decode mM_laySound.2.1 31 = .ok (.iload_n 2, 1) := dq_get dd_M_laySound_0 (i := 19) rfl
theorem d_M_laySound_32 : decode mM_laySound.2.1 32 = .ok (.iaload, 1) := dq_get dd_M_laySound_0 (i := 20) rfl
theorem d_M_laySound_33 : decode mM_laySound.2.1 33 = .ok (.iload_n 1, 1) := dq_get dd_M_laySound_0 (i := 21) rfl
theorem d_M_laySound_34 : decode mM_laySound.2.1 34 = .ok (.iand, 1) := dq_get dd_M_laySound_0 (i := 22) rfl
theorem d_M_laySound_35 : decode mM_laySound.2.1 35 = .ok (.iastore, 1) := dq_get dd_M_laySound_0 (i := 23) rfl
theorem d_M_laySound_36 : decode mM_laySound.2.1 36 = .ok (.iload_n 2, 1) := dq_get dd_M_laySound_0 (i := 24) rfl
theorem d_M_laySound_37 : decode mM_laySound.2.1 37 = .ok (.ifCond .le 35, 3) := dq_get dd_M_laySound_0 (i := 25) rfl
theorem d_M_laySound_40 : decode mM_laySound.2.1 40 = .ok (.aload_n 0, 1) := dq_get dd_M_laySound_0 (i := 26) rfl
theorem d_M_laySound_41 : decode mM_laySound.2.1 41 = .ok (.getfield 96, 3) := dq_get dd_M_laySound_0 (i := 27) rfl
theorem d_M_laySound_44 : decode mM_laySound.2.1 44 = .ok (.bipush 40, 2) := dq_get dd_M_laySound_0 (i := 28) rfl
theorem d_M_laySound_46 : decode mM_laySound.2.1 46 = .ok (.iaload, 1) := dq_get dd_M_laySound_0 (i := 29) rfl
theorem d_M_laySound_47 : decode mM_laySound.2.1 47 = .ok (.iload_n 2, 1) := dq_get dd_M_laySound_0 (i := 30) rfl
theorem d_M_laySound_48 : decode mM_laySound.2.1 48 = .ok (.ishr, 1) := dq_get dd_M_laySound_0 (i := 31) rfl
theorem dd_M_laySound_32 : dq mM_laySound.2.1 [(49, .iconst 1, 1), (50, .iand, 1), (51, .iconst 1, 1), (52, .if_icmp .ne 20, 3), (55, .aload_n 0, 1), (56, .getfield 102, 3), (59, .iload_n 2, 1), (60, .dup2, 1), (61, .iaload, 1), (62, .aload_n 0, 1), (63, .getfield 102, 3), (66, .iload_n 2, 1), (67, .iconst 1, 1), (68, .isub, 1), (69, .iaload, 1), (70, .ior, 1), (71, .iastore, 1), (72, .iinc 2 1, 3), (75, .goto (-61), 3), (78, .return_, 1)] = true := by decide +kernel
theorem d_M_laySound_49 : decode mM_laySound.2.1 49 = .ok (.iconst 1, 1) := dq_get dd_M_laySound_32 (i := 0) rfl
theorem d_M_laySound_50 : decode mM_laySound.2.1 50 = .ok (.iand, 1) := dq_get dd_M_laySound_32 (i := 1) rfl
theorem d_M_laySound_51 : decode mM_laySound.2.1 51 = .ok (.iconst 1, 1) := dq_get dd_M_laySound_32 (i := 2) rfl
theorem d_M_laySound_52 : decode mM_laySound.2.1 52 = .ok (.if_icmp .ne 20, 3) := dq_get dd_M_laySound_32 (i := 3) rfl
theorem d_M_laySound_55 : decode mM_laySound.2.1 55 = .ok (.aload_n 0, 1) := dq_get dd_M_laySound_32 (i := 4) rfl
theorem d_M_laySound_56 : decode mM_laySound.2.1 56 = .ok (.getfield 102, 3) := dq_get dd_M_laySound_32 (i := 5) rfl
theorem d_M_laySound_59 : decode mM_laySound.2.1 59 = .ok (.iload_n 2, 1) := dq_get dd_M_laySound_32 (i := 6) rfl
theorem d_M_laySound_60 : decode mM_laySound.2.1 60 = .ok (.dup2, 1) := dq_get dd_M_laySound_32 (i := 7) rfl
theorem d_M_laySound_61 : decode mM_laySound.2.1 61 = .ok (.iaload, 1) := dq_get dd_M_laySound_32 (i := 8) rfl
theorem d_M_laySound_62 : decode mM_laySound.2.1 62 = .ok (.aload_n 0, 1) := dq_get dd_M_laySound_32 (i := 9) rfl
theorem d_M_laySound_63 : decode mM_laySound.2.1 63 = .ok (.getfield 102, 3) := dq_get dd_M_laySound_32 (i := 10) rfl
theorem d_M_laySound_66 : decode mM_laySound.2.1 66 = .ok (.iload_n 2, 1) := dq_get dd_M_laySound_32 (i := 11) rfl
theorem d_M_laySound_67 : decode mM_laySound.2.1 67 = .ok (.iconst 1, 1) := dq_get dd_M_laySound_32 (i := 12) rfl
theorem d_M_laySound_68 : decode mM_laySound.2.1 68 = .ok (.isub, 1) := dq_get dd_M_laySound_32 (i := 13) rfl
theorem d_M_laySound_69 : decode mM_laySound.2.1 69 = .ok (.iaload, 1) := dq_get dd_M_laySound_32 (i := 14) rfl
theorem d_M_laySound_70 : decode mM_laySound.2.1 70 = .ok (.ior, 1) := dq_get dd_M_laySound_32 (i := 15) rfl
theorem d_M_laySound_71 : decode mM_laySound.2.1 71 = .ok (.iastore, 1) := dq_get dd_M_laySound_32 (i := 16) rfl
theorem d_M_laySound_72 : decode mM_laySound.2.1 72 = .ok (.iinc 2 1, 3) := dq_get dd_M_laySound_32 (i := 17) rfl
theorem d_M_laySound_75 : decode mM_laySound.2.1 75 = .ok (.goto (-61), 3) := dq_get dd_M_laySound_32 (i := 18) rfl
theorem d_M_laySound_78 : decode mM_laySound.2.1 78 = .ok (.return_, 1) := dq_get dd_M_laySound_32 (i := 19) rfl
theorem dd_M_clash_0 : dq mM_clash.2.1 [(0, .aload_n 0, 1), (1, .invokevirtual 464, 3), (4, .aload_n 0, 1), (5, .iload_n 1, 1), (6, .invokevirtual 473, 3), (9, .ifCond .eq 29, 3), (12, .aload_n 0, 1), (13, .iload_n 1, 1), (14, .aload_n 0, 1), (15, .iconst 1, 1), (16, .invokevirtual 454, 3), (19, .aload_n 0, 1), (20, .iconst 2, 1), (21, .invokevirtual 454, 3), (24, .aload_n 0, 1), (25, .getfield 84, 3), (28, .aload_n 0, 1), (29, .getfield 81, 3), (32, .invokevirtual 450, 3), (35, .goto 4, 3), (38, .iconst (-1), 1), (39, .ireturn, 1)] = true := by decide +kernel
theorem d_M_clash_0 : decode mM_clash.2.1 0 = .ok (.aload_n 0, 1) := dq_get dd_M_clash_0 (i := 0) rfl
theorem d_M_clash_1 : decode mM_clash.2.1 1 = .ok (.invokevirtual 464, 3) := dq_get dd_M_clash_0 (i := 1) rfl
theorem d_M_clash_4 : decode mM_clash.2.1 4 = .ok (.aload_n 0, 1) := dq_get dd_M_clash_0 (i := 2) rfl
theorem d_M_clash_5 : decode mM_clash.2.1 5 = .ok (.iload_n 1, 1) := dq_get dd_M_clash_0 (i := 3) rfl
theorem d_M_clash_6 : decode mM_clash.2.1 6 = .ok (.invokevirtual 473, 3) := dq_get dd_M_clash_0 (i := 4) rfl
theorem d_M_clash_9 : decode mM_clash.2.1 9 = .ok (.ifCond .eq 29, 3) := dq_get dd_M_clash_0 (i := 5) rfl
theorem d_M_clash_12 : decode mM_clash.2.1 12 = .ok (.aload_n 0, 1) := dq_get dd_M_clash_0 (i := 6) rfl
theorem d_M_clash_13 : decode mM_clash.2.1 13 = .ok (.iload_n 1, 1) := dq_get dd_M_clash_0 (i := 7) rfl
theorem d_M_clash_14 : decode mM_clash.2.1 14 = .ok (.aload_n 0, 1) := dq_get dd_M_clash_0 (i := 8) rfl
theorem d_M_clash_15 : decode mM_clash.2.1 15 = .ok (.iconst 1, 1) := dq_get dd_M_clash_0 (i := 9) rfl
theorem d_M_clash_16 : decode mM_clash.2.1 16 = .ok (.invokevirtual 454, 3) := dq_get dd_M_clash_0 (i := 10) rfl
theorem d_M_clash_19 : decode mM_clash.2.1 19 = .ok (.aload_n 0, 1) := dq_get dd_M_clash_0 (i := 11) rfl
theorem d_M_clash_20 : decode mM_clash.2.1 20 = .ok (.iconst 2, 1) := dq_get dd_M_clash_0 (i := 12) rfl
theorem d_M_clash_21 : decode mM_clash.2.1 21 = .ok (.invokevirtual 454, 3) := dq_get dd_M_clash_0 (i := 13) rfl
theorem d_M_clash_24 : decode mM_clash.2.1 24 = .ok (.aload_n 0, 1) := dq_get dd_M_clash_0 (i := 14) rfl
theorem d_M_clash_25 : decode mM_clash.2.1 25 = .ok (.getfield 84, 3) := dq_get dd_M_clash_0 (i := 15) rfl
theorem d_M_clash_28 : decode mM_clash.2.1 28 = .ok (.aload_n 0, 1) := dq_get dd_M_clash_0 (i := 16) rfl
theorem d_M_clash_29 : decode mM_clash.2.1 29 = .ok (.getfield 81, 3) := dq_get dd_M_clash_0 (i := 17) rfl
theorem d_M_clash_32 : decode mM_clash.2.1 32 = .ok (.invokevirtual 450, 3) := dq_get dd_M_clash_0 (i := 18) rfl
theorem d_M_clash_35 : decode mM_clash.2.1 35 = .ok (.goto 4, 3) := dq_get dd_M_clash_0 (i := 19) rfl
theorem d_M_clash_38 : decode mM_clash.2.1 38 = .ok (.iconst (-1), 1) := dq_get dd_M_clash_0 (i := 20) rfl
theorem d_M_clash_39 : decode mM_clash.2.1 39 = .ok (.ireturn, 1) := dq_get dd_M_clash_0 (i := 21) rfl
theorem dd_M_clashBy_0 : dq mM_clashBy.2.1 [(0, .iload_n 2, 1), (1, .aload_n 0, 1), (2, .getfield 99, 3), (5, .iload_n 1, 1), (6, .iaload, 1), (7, .iand, 1), (8, .istore 6, 2), (10, .iload_n 3, 1), (11, .aload_n 0, 1), (12, .getfield 99, 3), (15, .iload_n 1, 1), (16, .iaload, 1), (17, .iand, 1), (18, .istore 7, 2), (20, .iload_n 1, 1), (21, .ifCond .ne 7, 3), (24, .iconst 0, 1), (25, .goto 11, 3), (28, .aload_n 0, 1), (29, .getfield 99, 3), (32, .iload_n 1, 1), (33, .iconst 1, 1), (34, .isub, 1), (35, .iaload, 1), (36, .istore 8, 2), (38, .aload_n 0, 1), (39, .iload 6, 2), (41, .iload_n 2, 1), (42, .iload 8, 2), (44, .iand, 1), (45, .iload 4, 2), (47, .iload 5, 2)] = true := by decide +kernel
theorem d_M_clashBy_0 : decode mM_clashBy.2.1 0 = .ok (.iload_n 2, 1) := dq_get dd_M_clashBy_0 (i := 0) rfl
theorem d_M_clashBy_1 : decode mM_clashBy.2.1 1 = .ok (.aload_n 0, 1) := dq_get dd_M_clashBy_0 (i := 1) rfl
theorem d_M_clashBy_2 : decode mM_clashBy.2.1 2 = .ok (.getfield 99, 3) := dq_get dd_M_clashBy_0 (i := 2) rfl
theorem d_M_clashBy_5 : decode mM_clashBy.2.1 5 = .ok (.iload_n 1, 1) := dq_get dd_M_clashBy_0 (i := 3) rfl
theorem d_M_clashBy_6 : decode mM_clashBy.2.1 6 = .ok (.iaload, 1) := dq_get dd_M_clashBy_0 (i := 4) rfl
theorem d_M_clashBy_7 : decode mM_clashBy.2.1 7 = .ok (.iand, 1) := dq_get dd_M_clashBy_0 (i := 5) rfl
theorem d_M_clashBy_8 : decode mM_clashBy.2.1 8 = .ok (.istore 6, 2) := dq_get dd_M_clashBy_0 (i := 6) rfl
theorem d_M_clashBy_10 : decode mM_clashBy.2.1 10 = .ok (.iload_n 3, 1) := dq_get dd_M_clashBy_0 (i := 7) rfl
theorem d_M_clashBy_11 : decode mM_clashBy.2.1 11 = .ok (.aload_n 0, 1) := dq_get dd_M_clashBy_0 (i := 8) rfl
theorem d_M_clashBy_12 : decode mM_clashBy.2.1 12 = .ok (.getfield 99, 3) := dq_get dd_M_clashBy_0 (i := 9) rfl
theorem d_M_clashBy_15 : decode mM_clashBy.2.1 15 = .ok (.iload_n 1, 1) := dq_get dd_M_clashBy_0 (i := 10) rfl
theorem d_M_clashBy_16 : decode mM_clashBy.2.1 16 = .ok (.iaload, 1) := dq_get dd_M_clashBy_0 (i := 11) rfl
theorem d_M_clashBy_17 : decode mM_clashBy.2.1 17 = .ok (.iand, 1) := dq_get dd_M_clashBy_0 (i := 12) rfl
theorem d_M_clashBy_18 : decode mM_clashBy.2.1 18 = .ok (.istore 7, 2) := dq_get dd_M_clashBy_0 (i := 13) rfl
theorem d_M_clashBy_20 : decode mM_clashBy.2.1 20 = .ok (.iload_n 1, 1) := dq_get dd_M_clashBy_0 (i := 14) rfl
theorem d_M_clashBy_21 : decode mM_clashBy.2.1 21 = .ok (.ifCond .ne 7, 3) := dq_get dd_M_clashBy_0 (i := 15) rfl
theorem d_M_clashBy_24 : decode mM_clashBy.2.1 24 = .ok (.iconst 0, 1) := dq_get dd_M_clashBy_0 (i := 16) rfl
theorem d_M_clashBy_25 : decode mM_clashBy.2.1 25 = .ok (.goto 11, 3) := dq_get dd_M_clashBy_0 (i := 17) rfl
theorem d_M_clashBy_28 : decode mM_clashBy.2.1 28 = .ok (.aload_n 0, 1) := dq_get dd_M_clashBy_0 (i := 18) rfl
theorem d_M_clashBy_29 : decode mM_clashBy.2.1 29 = .ok (.getfield 99, 3) := dq_get dd_M_clashBy_0 (i := 19) rfl
theorem d_M_clashBy_32 : decode mM_clashBy.2.1 32 = .ok (.iload_n 1, 1) := dq_get dd_M_clashBy_0 (i := 20) rfl
theorem d_M_clashBy_33 : decode mM_clashBy.2.1 33 = .ok (.iconst 1, 1) := dq_get dd_M_clashBy_0 (i := 21) rfl
theorem d_M_clashBy_34 : decode mM_clashBy.2.1 34 = .ok (.isub, 1) := dq_get dd_M_clashBy_0 (i := 22) rfl
theorem d_M_clashBy_35 : decode mM_clashBy.2.1 35 = .ok (.iaload, 1) := dq_get dd_M_clashBy_0 (i := 23) rfl
theorem d_M_clashBy_36 : decode mM_clashBy.2.1 36 = .ok (.istore 8, 2) := dq_get dd_M_clashBy_0 (i := 24) rfl
theorem d_M_clashBy_38 : decode mM_clashBy.2.1 38 = .ok (.aload_n 0, 1) := dq_get dd_M_clashBy_0 (i := 25) rfl
theorem d_M_clashBy_39 : decode mM_clashBy.2.1 39 = .ok (.iload 6, 2) := dq_get dd_M_clashBy_0 (i := 26) rfl
theorem d_M_clashBy_41 : decode mM_clashBy.2.1 41 = .ok (.iload_n 2, 1) := dq_get dd_M_clashBy_0 (i := 27) rfl
theorem d_M_clashBy_42 : decode mM_clashBy.2.1 42 = .ok (.iload 8, 2) := dq_get dd_M_clashBy_0 (i := 28) rfl
theorem d_M_clashBy_44 : decode mM_clashBy.2.1 44 = .ok (.iand, 1) := dq_get dd_M_clashBy_0 (i := 29) rfl
theorem d_M_clashBy_45 : decode mM_clashBy.2.1 45 = .ok (.iload 4, 2) := dq_get dd_M_clashBy_0 (i := 30) rfl
theorem d_M_clashBy_47 : decode mM_clashBy.2.1 47 = .ok (.iload 5, 2) := dq_get dd_M_clashBy_0 (i := 31) rfl
theorem dd_M_clashBy_32 : dq mM_clashBy.2.1 [(49, .invokevirtual 443, 3), (52, .aload_n 0, 1), (53, .iload 7, 2), (55, .iload_n 3, 1), (56, .iload 8, 2), (58, .iand, 1), (59, .iload 4, 2), (61, .iload 5, 2), (63, .invokevirtual 443, 3), (66, .ior, 1), (67, .istore 9, 2), (69, .iload 6, 2), (71, .ifCond .eq 29, 3), (74, .iload 7, 2), (76, .ifCond .eq 24, 3), (79, .aload_n 0, 1), (80, .iload 6, 2), (82, .invokevirtual 440, 3), (85, .aload_n 0, 1), (86, .iload 7, 2), (88, .invokevirtual 437, 3), (91, .if_icmp .lt 9, 3), (94, .iload 9, 2), (96, .iconst 4, 1), (97, .ior, 1), (98, .istore 9, 2), (100, .aload_n 0, 1), (101, .iload 6, 2), (103, .iload 7, 2), (105, .ior, 1), (106, .invokevirtual 447, 3), (109, .ifCond .eq 11, 3)] = true := by decide +kernel
theorem d_M_clashBy_49 : decode mM_clashBy.2.1 49 = .ok (.invokevirtual 443, 3) := dq_get dd_M_clashBy_32 (i := 0) rfl
theorem d_M_clashBy_52 : decode mM_clashBy.2.1 52 = .ok (.aload_n 0, 1) := dq_get dd_M_clashBy_32 (i := 1) rfl
theorem d_M_clashBy_53 : decode mM_clashBy.2.1 53 = .ok (.iload 7, 2) := dq_get dd_M_clashBy_32 (i := 2) rfl
theorem d_M_clashBy_55 : decode mM_clashBy.2.1 55 = .ok (.iload_n 3, 1) := dq_get dd_M_clashBy_32 (i := 3) rfl
theorem d_M_clashBy_56 : decode mM_clashBy.2.1 56 = .ok (.iload 8, 2) := dq_get dd_M_clashBy_32 (i := 4) rfl
theorem d_M_clashBy_58 : decode mM_clashBy.2.1 58 = .ok (.iand, 1) := dq_get dd_M_clashBy_32 (i := 5) rfl
theorem d_M_clashBy_59 : decode mM_clashBy.2.1 59 = .ok (.iload 4, 2) := dq_get dd_M_clashBy_32 (i := 6) rfl
theorem d_M_clashBy_61 : decode mM_clashBy.2.1 61 = .ok (.iload 5, 2) := dq_get dd_M_clashBy_32 (i := 7) rfl
theorem d_M_clashBy_63 : decode mM_clashBy.2.1 63 = .ok (.invokevirtual 443, 3) := dq_get dd_M_clashBy_32 (i := 8) rfl
theorem d_M_clashBy_66 : decode mM_clashBy.2.1 66 = .ok (.ior, 1) := dq_get dd_M_clashBy_32 (i := 9) rfl
theorem d_M_clashBy_67 : decode mM_clashBy.2.1 67 = .ok (.istore 9, 2) := dq_get dd_M_clashBy_32 (i := 10) rfl
theorem d_M_clashBy_69 : decode mM_clashBy.2.1 69 = .ok (.iload 6, 2) := dq_get dd_M_clashBy_32 (i := 11) rfl
theorem d_M_clashBy_71 : decode mM_clashBy.2.1 71 = .ok (.ifCond .eq 29, 3) := dq_get dd_M_clashBy_32 (i := 12) rfl
theorem d_M_clashBy_74 : decode mM_clashBy.2.1 74 = .ok (.iload 7, 2) := dq_get dd_M_clashBy_32 (i := 13) rfl
theorem d_M_clashBy_76 : decode mM_clashBy.2.1 76 = .ok (.ifCond .eq 24, 3) := dq_get dd_M_clashBy_32 (i := 14) rfl
theorem d_M_clashBy_79 : decode mM_clashBy.2.1 79 = .ok (.aload_n 0, 1) := dq_get dd_M_clashBy_32 (i := 15) rfl
theorem d_M_clashBy_80 : decode mM_clashBy.2.1 80 = .ok (.iload 6, 2) := dq_get dd_M_clashBy_32 (i := 16) rfl
theorem d_M_clashBy_82 : decode mM_clashBy.2.1 82 = .ok (.invokevirtual 440, 3) := dq_get dd_M_clashBy_32 (i := 17) rfl
theorem d_M_clashBy_85 : decode mM_clashBy.2.1 85 = .ok (.aload_n 0, 1) := dq_get dd_M_clashBy_32 (i := 18) rfl
theorem d_M_clashBy_86 : decode mM_clashBy.2.1 86 = .ok (.iload 7, 2) := dq_get dd_M_clashBy_32 (i := 19) rfl
theorem d_M_clashBy_88 : decode mM_clashBy.2.1 88 = .ok (.invokevirtual 437, 3) := dq_get dd_M_clashBy_32 (i := 20) rfl
theorem d_M_clashBy_91 : decode mM_clashBy.2.1 91 = .ok (.if_icmp .lt 9, 3) := dq_get dd_M_clashBy_32 (i := 21) rfl
theorem d_M_clashBy_94 : decode mM_clashBy.2.1 94 = .ok (.iload 9, 2) := dq_get dd_M_clashBy_32 (i := 22) rfl
theorem d_M_clashBy_96 : decode mM_clashBy.2.1 96 = .ok (.iconst 4, 1) := dq_get dd_M_clashBy_32 (i := 23) rfl
theorem d_M_clashBy_97 : decode mM_clashBy.2.1 97 = .ok (.ior, 1) := dq_get dd_M_clashBy_32 (i := 24) rfl
theorem d_M_clashBy_98 : decode mM_clashBy.2.1 98 = .ok (.istore 9, 2) := dq_get dd_M_clashBy_32 (i := 25) rfl
theorem d_M_clashBy_100 : decode mM_clashBy.2.1 100 = .ok (.aload_n 0, 1) := dq_get dd_M_clashBy_32 (i := 26) rfl
theorem d_M_clashBy_101 : decode mM_clashBy.2.1 101 = .ok (.iload 6, 2) := dq_get dd_M_clashBy_32 (i := 27) rfl
theorem d_M_clashBy_103 : decode mM_clashBy.2.1 103 = .ok (.iload 7, 2) := dq_get dd_M_clashBy_32 (i := 28) rfl
theorem d_M_clashBy_105 : decode mM_clashBy.2.1 105 = .ok (.ior, 1) := dq_get dd_M_clashBy_32 (i := 29) rfl
theorem d_M_clashBy_106 : decode mM_clashBy.2.1 106 = .ok (.invokevirtual 447, 3) := dq_get dd_M_clashBy_32 (i := 30) rfl
theorem d_M_clashBy_109 : decode mM_clashBy.2.1 109 = .ok (.ifCond .eq 11, 3) := dq_get dd_M_clashBy_32 (i := 31) rfl
theorem dd_M_clashBy_64 : dq mM_clashBy.2.1 [(112, .iload 9, 2), (114, .bipush 8, 2), (116, .ior, 1), (117, .goto 5, 3), (120, .iload 9, 2), (122, .ireturn, 1)] = true := by decide +kernel
theorem d_M_clashBy_112 : decode mM_clashBy.2.1 112 = .ok (.iload 9, 2) := dq_get dd_M_clashBy_64 (i := 0) rfl
theorem d_M_clashBy_114 : decode mM_clashBy.2.1 114 = .ok (.bipush 8, 2) := dq_get dd_M_clashBy_64 (i := 1) rfl
theorem d_M_clashBy_116 : decode mM_clashBy.2.1 116 = .ok (.ior, 1) := dq_get dd_M_clashBy_64 (i := 2) rfl
theorem d_M_clashBy_117 : decode mM_clashBy.2.1 117 = .ok (.goto 5, 3) := dq_get dd_M_clashBy_64 (i := 3) rfl
theorem d_M_clashBy_120 : decode mM_clashBy.2.1 120 = .ok (.iload 9, 2) := dq_get dd_M_clashBy_64 (i := 4) rfl
theorem d_M_clashBy_122 : decode mM_clashBy.2.1 122 = .ok (.ireturn, 1) := dq_get dd_M_clashBy_64 (i := 5) rfl
theorem dd_M_ownClash_0 : dq mM_ownClash.2.1 [(0, .iload_n 1, 1), (1, .ifCond .ne 5, 3), (4, .iconst 0, 1), (5, .ireturn, 1), (6, .iload_n 1, 1), (7, .invokestatic 331, 3), (10, .iload_n 3, 1), (11, .if_icmp .le 7, 3), (14, .iconst 1, 1), (15, .goto 4, 3), (18, .iconst 0, 1), (19, .istore 5, 2), (21, .aload_n 0, 1), (22, .iload_n 1, 1), (23, .invokevirtual 437, 3), (26, .istore 6, 2), (28, .aload_n 0, 1), (29, .iload_n 1, 1), (30, .invokevirtual 440, 3), (33, .iload 6, 2), (35, .isub, 1), (36, .iload 4, 2), (38, .if_icmp .le 9, 3), (41, .iload 5, 2), (43, .iconst 2, 1), (44, .ior, 1), (45, .istore 5, 2), (47, .iload_n 2, 1), (48, .ifCond .eq 28, 3), (51, .iload 6, 2), (53, .aload_n 0, 1), (54, .iload_n 2, 1)] = true := by decide +kernel
theorem d_M_ownClash_0 : decode mM_ownClash.2.1 0 = .ok (.iload_n 1, 1) := dq_get dd_M_ownClash_0 (i := 0) rfl
theorem d_M_ownClash_1 : decode mM_ownClash.2.1 1 = .ok (.ifCond .ne 5, 3) := dq_get dd_M_ownClash_0 (i := 1) rfl
theorem d_M_ownClash_4 : decode mM_ownClash.2.1 4 = .ok (.iconst 0, 1) := dq_get dd_M_ownClash_0 (i := 2) rfl
theorem d_M_ownClash_5 : decode mM_ownClash.2.1 5 = .ok (.ireturn, 1) := dq_get dd_M_ownClash_0 (i := 3) rfl
theorem d_M_ownClash_6 : decode mM_ownClash.2.1 6 = .ok (.iload_n 1, 1) := dq_get dd_M_ownClash_0 (i := 4) rfl
theorem d_M_ownClash_7 : decode mM_ownClash.2.1 7 = .ok (.invokestatic 331, 3) := dq_get dd_M_ownClash_0 (i := 5) rfl
theorem d_M_ownClash_10 : decode mM_ownClash.2.1 10 = .ok (.iload_n 3, 1) := dq_get dd_M_ownClash_0 (i := 6) rfl
theorem d_M_ownClash_11 : decode mM_ownClash.2.1 11 = .ok (.if_icmp .le 7, 3) := dq_get dd_M_ownClash_0 (i := 7) rfl
theorem d_M_ownClash_14 : decode mM_ownClash.2.1 14 = .ok (.iconst 1, 1) := dq_get dd_M_ownClash_0 (i := 8) rfl
theorem d_M_ownClash_15 : decode mM_ownClash.2.1 15 = .ok (.goto 4, 3) := dq_get dd_M_ownClash_0 (i := 9) rfl
theorem d_M_ownClash_18 : decode mM_ownClash.2.1 18 = .ok (.iconst 0, 1) := dq_get dd_M_ownClash_0 (i := 10) rfl
theorem d_M_ownClash_19 : decode mM_ownClash.2.1 19 = .ok (.istore 5, 2) := dq_get dd_M_ownClash_0 (i := 11) rfl
theorem d_M_ownClash_21 : decode mM_ownClash.2.1 21 = .ok (.aload_n 0, 1) := dq_get dd_M_ownClash_0 (i := 12) rfl
theorem d_M_ownClash_22 : decode mM_ownClash.2.1 22 = .ok (.iload_n 1, 1) := dq_get dd_M_ownClash_0 (i := 13) rfl
theorem d_M_ownClash_23 : decode mM_ownClash.2.1 23 = .ok (.invokevirtual 437, 3) := dq_get dd_M_ownClash_0 (i := 14) rfl
theorem d_M_ownClash_26 : decode mM_ownClash.2.1 26 = .ok (.istore 6, 2) := dq_get dd_M_ownClash_0 (i := 15) rfl
theorem d_M_ownClash_28 : decode mM_ownClash.2.1 28 = .ok (.aload_n 0, 1) := dq_get dd_M_ownClash_0 (i := 16) rfl
theorem d_M_ownClash_29 : decode mM_ownClash.2.1 29 = .ok (.iload_n 1, 1) := dq_get dd_M_ownClash_0 (i := 17) rfl
theorem d_M_ownClash_30 : decode mM_ownClash.2.1 30 = .ok (.invokevirtual 440, 3) := dq_get dd_M_ownClash_0 (i := 18) rfl
theorem d_M_ownClash_33 : decode mM_ownClash.2.1 33 = .ok (.iload 6, 2) := dq_get dd_M_ownClash_0 (i := 19) rfl
theorem d_M_ownClash_35 : decode mM_ownClash.2.1 35 = .ok (.isub, 1) := dq_get dd_M_ownClash_0 (i := 20) rfl
theorem d_M_ownClash_36 : decode mM_ownClash.2.1 36 = .ok (.iload 4, 2) := dq_get dd_M_ownClash_0 (i := 21) rfl
theorem d_M_ownClash_38 : decode mM_ownClash.2.1 38 = .ok (.if_icmp .le 9, 3) := dq_get dd_M_ownClash_0 (i := 22) rfl
theorem d_M_ownClash_41 : decode mM_ownClash.2.1 41 = .ok (.iload 5, 2) := dq_get dd_M_ownClash_0 (i := 23) rfl
theorem d_M_ownClash_43 : decode mM_ownClash.2.1 43 = .ok (.iconst 2, 1) := dq_get dd_M_ownClash_0 (i := 24) rfl
theorem d_M_ownClash_44 : decode mM_ownClash.2.1 44 = .ok (.ior, 1) := dq_get dd_M_ownClash_0 (i := 25) rfl
theorem d_M_ownClash_45 : decode mM_ownClash.2.1 45 = .ok (.istore 5, 2) := dq_get dd_M_ownClash_0 (i := 26) rfl
theorem d_M_ownClash_47 : decode mM_ownClash.2.1 47 = .ok (.iload_n 2, 1) := dq_get dd_M_ownClash_0 (i := 27) rfl
theorem d_M_ownClash_48 : decode mM_ownClash.2.1 48 = .ok (.ifCond .eq 28, 3) := dq_get dd_M_ownClash_0 (i := 28) rfl
theorem d_M_ownClash_51 : decode mM_ownClash.2.1 51 = .ok (.iload 6, 2) := dq_get dd_M_ownClash_0 (i := 29) rfl
theorem d_M_ownClash_53 : decode mM_ownClash.2.1 53 = .ok (.aload_n 0, 1) := dq_get dd_M_ownClash_0 (i := 30) rfl
theorem d_M_ownClash_54 : decode mM_ownClash.2.1 54 = .ok (.iload_n 2, 1) := dq_get dd_M_ownClash_0 (i := 31) rfl
theorem dd_M_ownClash_32 : dq mM_ownClash.2.1 [(55, .invokevirtual 437, 3), (58, .isub, 1), (59, .invokestatic 325, 3), (62, .aload_n 0, 1), (63, .getfield 87, 3), (66, .if_icmp .le 10, 3), (69, .iload 5, 2), (71, .bipush 16, 2), (73, .ior, 1), (74, .istore 5, 2), (76, .iload 5, 2), (78, .ireturn, 1)] = true := by decide +kernel
theorem d_M_ownClash_55 : decode mM_ownClash.2.1 55 = .ok (.invokevirtual 437, 3) := dq_get dd_M_ownClash_32 (i := 0) rfl
theorem d_M_ownClash_58 : decode mM_ownClash.2.1 58 = .ok (.isub, 1) := dq_get dd_M_ownClash_32 (i := 1) rfl
theorem d_M_ownClash_59 : decode mM_ownClash.2.1 59 = .ok (.invokestatic 325, 3) := dq_get dd_M_ownClash_32 (i := 2) rfl
theorem d_M_ownClash_62 : decode mM_ownClash.2.1 62 = .ok (.aload_n 0, 1) := dq_get dd_M_ownClash_32 (i := 3) rfl
theorem d_M_ownClash_63 : decode mM_ownClash.2.1 63 = .ok (.getfield 87, 3) := dq_get dd_M_ownClash_32 (i := 4) rfl
theorem d_M_ownClash_66 : decode mM_ownClash.2.1 66 = .ok (.if_icmp .le 10, 3) := dq_get dd_M_ownClash_32 (i := 5) rfl
theorem d_M_ownClash_69 : decode mM_ownClash.2.1 69 = .ok (.iload 5, 2) := dq_get dd_M_ownClash_32 (i := 6) rfl
theorem d_M_ownClash_71 : decode mM_ownClash.2.1 71 = .ok (.bipush 16, 2) := dq_get dd_M_ownClash_32 (i := 7) rfl
theorem d_M_ownClash_73 : decode mM_ownClash.2.1 73 = .ok (.ior, 1) := dq_get dd_M_ownClash_32 (i := 8) rfl
theorem d_M_ownClash_74 : decode mM_ownClash.2.1 74 = .ok (.istore 5, 2) := dq_get dd_M_ownClash_32 (i := 9) rfl
theorem d_M_ownClash_76 : decode mM_ownClash.2.1 76 = .ok (.iload 5, 2) := dq_get dd_M_ownClash_32 (i := 10) rfl
theorem d_M_ownClash_78 : decode mM_ownClash.2.1 78 = .ok (.ireturn, 1) := dq_get dd_M_ownClash_32 (i := 11) rfl
theorem dd_M_lowest_0 : dq mM_lowest.2.1 [(0, .ldc_w 436, 3), (3, .istore_n 2, 1), (4, .iconst 0, 1), (5, .istore_n 3, 1), (6, .iload_n 3, 1), (7, .aload_n 0, 1), (8, .getfield 322, 3), (11, .if_icmp .ge 41, 3), (14, .iload_n 1, 1), (15, .iload_n 3, 1), (16, .ishr, 1), (17, .iconst 1, 1), (18, .iand, 1), (19, .iconst 1, 1), (20, .if_icmp .ne 26, 3), (23, .aload_n 0, 1), (24, .getfield 96, 3), (27, .bipush 10, 2), (29, .iload_n 3, 1), (30, .iadd, 1), (31, .iaload, 1), (32, .iload_n 2, 1), (33, .if_icmp .ge 13, 3), (36, .aload_n 0, 1), (37, .getfield 96, 3), (40, .bipush 10, 2), (42, .iload_n 3, 1), (43, .iadd, 1), (44, .iaload, 1), (45, .istore_n 2, 1), (46, .iinc 3 1, 3), (49, .goto (-43), 3)] = true := by decide +kernel
theorem d_M_lowest_0 : decode mM_lowest.2.1 0 = .ok (.ldc_w 436, 3) := dq_get dd_M_lowest_0 (i := 0) rfl
theorem d_M_lowest_3 : decode mM_lowest.2.1 3 = .ok (.istore_n 2, 1) := dq_get dd_M_lowest_0 (i := 1) rfl
theorem d_M_lowest_4 : decode mM_lowest.2.1 4 = .ok (.iconst 0, 1) := dq_get dd_M_lowest_0 (i := 2) rfl
theorem d_M_lowest_5 : decode mM_lowest.2.1 5 = .ok (.istore_n 3, 1) := dq_get dd_M_lowest_0 (i := 3) rfl
theorem d_M_lowest_6 : decode mM_lowest.2.1 6 = .ok (.iload_n 3, 1) := dq_get dd_M_lowest_0 (i := 4) rfl
theorem d_M_lowest_7 : decode mM_lowest.2.1 7 = .ok (.aload_n 0, 1) := dq_get dd_M_lowest_0 (i := 5) rfl
theorem d_M_lowest_8 : decode mM_lowest.2.1 8 = .ok (.getfield 322, 3) := dq_get dd_M_lowest_0 (i := 6) rfl
theorem d_M_lowest_11 : decode mM_lowest.2.1 11 = .ok (.if_icmp .ge 41, 3) := dq_get dd_M_lowest_0 (i := 7) rfl
theorem d_M_lowest_14 : decode mM_lowest.2.1 14 = .ok (.iload_n 1, 1) := dq_get dd_M_lowest_0 (i := 8) rfl
theorem d_M_lowest_15 : decode mM_lowest.2.1 15 = .ok (.iload_n 3, 1) := dq_get dd_M_lowest_0 (i := 9) rfl
theorem d_M_lowest_16 : decode mM_lowest.2.1 16 = .ok (.ishr, 1) := dq_get dd_M_lowest_0 (i := 10) rfl
theorem d_M_lowest_17 : decode mM_lowest.2.1 17 = .ok (.iconst 1, 1) := dq_get dd_M_lowest_0 (i := 11) rfl
theorem d_M_lowest_18 : decode mM_lowest.2.1 18 = .ok (.iand, 1) := dq_get dd_M_lowest_0 (i := 12) rfl
theorem d_M_lowest_19 : decode mM_lowest.2.1 19 = .ok (.iconst 1, 1) := dq_get dd_M_lowest_0 (i := 13) rfl
theorem d_M_lowest_20 : decode mM_lowest.2.1 20 = .ok (.if_icmp .ne 26, 3) := dq_get dd_M_lowest_0 (i := 14) rfl
theorem d_M_lowest_23 : decode mM_lowest.2.1 23 = .ok (.aload_n 0, 1) := dq_get dd_M_lowest_0 (i := 15) rfl
theorem d_M_lowest_24 : decode mM_lowest.2.1 24 = .ok (.getfield 96, 3) := dq_get dd_M_lowest_0 (i := 16) rfl
theorem d_M_lowest_27 : decode mM_lowest.2.1 27 = .ok (.bipush 10, 2) := dq_get dd_M_lowest_0 (i := 17) rfl
theorem d_M_lowest_29 : decode mM_lowest.2.1 29 = .ok (.iload_n 3, 1) := dq_get dd_M_lowest_0 (i := 18) rfl
theorem d_M_lowest_30 : decode mM_lowest.2.1 30 = .ok (.iadd, 1) := dq_get dd_M_lowest_0 (i := 19) rfl
theorem d_M_lowest_31 : decode mM_lowest.2.1 31 = .ok (.iaload, 1) := dq_get dd_M_lowest_0 (i := 20) rfl
theorem d_M_lowest_32 : decode mM_lowest.2.1 32 = .ok (.iload_n 2, 1) := dq_get dd_M_lowest_0 (i := 21) rfl
theorem d_M_lowest_33 : decode mM_lowest.2.1 33 = .ok (.if_icmp .ge 13, 3) := dq_get dd_M_lowest_0 (i := 22) rfl
theorem d_M_lowest_36 : decode mM_lowest.2.1 36 = .ok (.aload_n 0, 1) := dq_get dd_M_lowest_0 (i := 23) rfl
theorem d_M_lowest_37 : decode mM_lowest.2.1 37 = .ok (.getfield 96, 3) := dq_get dd_M_lowest_0 (i := 24) rfl
theorem d_M_lowest_40 : decode mM_lowest.2.1 40 = .ok (.bipush 10, 2) := dq_get dd_M_lowest_0 (i := 25) rfl
theorem d_M_lowest_42 : decode mM_lowest.2.1 42 = .ok (.iload_n 3, 1) := dq_get dd_M_lowest_0 (i := 26) rfl
theorem d_M_lowest_43 : decode mM_lowest.2.1 43 = .ok (.iadd, 1) := dq_get dd_M_lowest_0 (i := 27) rfl
theorem d_M_lowest_44 : decode mM_lowest.2.1 44 = .ok (.iaload, 1) := dq_get dd_M_lowest_0 (i := 28) rfl
theorem d_M_lowest_45 : decode mM_lowest.2.1 45 = .ok (.istore_n 2, 1) := dq_get dd_M_lowest_0 (i := 29) rfl
theorem d_M_lowest_46 : decode mM_lowest.2.1 46 = .ok (.iinc 3 1, 3) := dq_get dd_M_lowest_0 (i := 30) rfl
theorem d_M_lowest_49 : decode mM_lowest.2.1 49 = .ok (.goto (-43), 3) := dq_get dd_M_lowest_0 (i := 31) rfl
theorem dd_M_lowest_32 : dq mM_lowest.2.1 [(52, .iload_n 2, 1), (53, .ireturn, 1)] = true := by decide +kernel
theorem d_M_lowest_52 : decode mM_lowest.2.1 52 = .ok (.iload_n 2, 1) := dq_get dd_M_lowest_32 (i := 0) rfl
theorem d_M_lowest_53 : decode mM_lowest.2.1 53 = .ok (.ireturn, 1) := dq_get dd_M_lowest_32 (i := 1) rfl
theorem dd_M_highest_0 : dq mM_highest.2.1 [(0, .iconst (-1), 1), (1, .istore_n 2, 1), (2, .iconst 0, 1), (3, .istore_n 3, 1), (4, .iload_n 3, 1), (5, .aload_n 0, 1), (6, .getfield 322, 3), (9, .if_icmp .ge 41, 3), (12, .iload_n 1, 1), (13, .iload_n 3, 1), (14, .ishr, 1), (15, .iconst 1, 1), (16, .iand, 1), (17, .iconst 1, 1), (18, .if_icmp .ne 26, 3), (21, .aload_n 0, 1), (22, .getfield 96, 3), (25, .bipush 10, 2), (27, .iload_n 3, 1), (28, .iadd, 1), (29, .iaload, 1), (30, .iload_n 2, 1), (31, .if_icmp .le 13, 3), (34, .aload_n 0, 1), (35, .getfield 96, 3), (38, .bipush 10, 2), (40, .iload_n 3, 1), (41, .iadd, 1), (42, .iaload, 1), (43, .istore_n 2, 1), (44, .iinc 3 1, 3), (47, .goto (-43), 3)] = true := by decide +kernel
theorem d_M_highest_0 : decode mM_highest.2.1 0 = .ok (.iconst (-1), 1) := dq_get dd_M_highest_0 (i := 0) rfl
theorem d_M_highest_1 : decode mM_highest.2.1 1 = .ok (.istore_n 2, 1) := dq_get dd_M_highest_0 (i := 1) rfl
theorem d_M_highest_2 : decode mM_highest.2.1 2 = .ok (.iconst 0, 1) := dq_get dd_M_highest_0 (i := 2) rfl
theorem d_M_highest_3 : decode mM_highest.2.1 3 = .ok (.istore_n 3, 1) := dq_get dd_M_highest_0 (i := 3) rfl
theorem d_M_highest_4 : decode mM_highest.2.1 4 = .ok (.iload_n 3, 1) := dq_get dd_M_highest_0 (i := 4) rfl
theorem d_M_highest_5 : decode mM_highest.2.1 5 = .ok (.aload_n 0, 1) := dq_get dd_M_highest_0 (i := 5) rfl
theorem d_M_highest_6 : decode mM_highest.2.1 6 = .ok (.getfield 322, 3) := dq_get dd_M_highest_0 (i := 6) rfl
theorem d_M_highest_9 : decode mM_highest.2.1 9 = .ok (.if_icmp .ge 41, 3) := dq_get dd_M_highest_0 (i := 7) rfl
theorem d_M_highest_12 : decode mM_highest.2.1 12 = .ok (.iload_n 1, 1) := dq_get dd_M_highest_0 (i := 8) rfl
theorem d_M_highest_13 : decode mM_highest.2.1 13 = .ok (.iload_n 3, 1) := dq_get dd_M_highest_0 (i := 9) rfl
theorem d_M_highest_14 : decode mM_highest.2.1 14 = .ok (.ishr, 1) := dq_get dd_M_highest_0 (i := 10) rfl
theorem d_M_highest_15 : decode mM_highest.2.1 15 = .ok (.iconst 1, 1) := dq_get dd_M_highest_0 (i := 11) rfl
theorem d_M_highest_16 : decode mM_highest.2.1 16 = .ok (.iand, 1) := dq_get dd_M_highest_0 (i := 12) rfl
theorem d_M_highest_17 : decode mM_highest.2.1 17 = .ok (.iconst 1, 1) := dq_get dd_M_highest_0 (i := 13) rfl
theorem d_M_highest_18 : decode mM_highest.2.1 18 = .ok (.if_icmp .ne 26, 3) := dq_get dd_M_highest_0 (i := 14) rfl
theorem d_M_highest_21 : decode mM_highest.2.1 21 = .ok (.aload_n 0, 1) := dq_get dd_M_highest_0 (i := 15) rfl
theorem d_M_highest_22 : decode mM_highest.2.1 22 = .ok (.getfield 96, 3) := dq_get dd_M_highest_0 (i := 16) rfl
theorem d_M_highest_25 : decode mM_highest.2.1 25 = .ok (.bipush 10, 2) := dq_get dd_M_highest_0 (i := 17) rfl
theorem d_M_highest_27 : decode mM_highest.2.1 27 = .ok (.iload_n 3, 1) := dq_get dd_M_highest_0 (i := 18) rfl
theorem d_M_highest_28 : decode mM_highest.2.1 28 = .ok (.iadd, 1) := dq_get dd_M_highest_0 (i := 19) rfl
theorem d_M_highest_29 : decode mM_highest.2.1 29 = .ok (.iaload, 1) := dq_get dd_M_highest_0 (i := 20) rfl
theorem d_M_highest_30 : decode mM_highest.2.1 30 = .ok (.iload_n 2, 1) := dq_get dd_M_highest_0 (i := 21) rfl
theorem d_M_highest_31 : decode mM_highest.2.1 31 = .ok (.if_icmp .le 13, 3) := dq_get dd_M_highest_0 (i := 22) rfl
theorem d_M_highest_34 : decode mM_highest.2.1 34 = .ok (.aload_n 0, 1) := dq_get dd_M_highest_0 (i := 23) rfl
theorem d_M_highest_35 : decode mM_highest.2.1 35 = .ok (.getfield 96, 3) := dq_get dd_M_highest_0 (i := 24) rfl
theorem d_M_highest_38 : decode mM_highest.2.1 38 = .ok (.bipush 10, 2) := dq_get dd_M_highest_0 (i := 25) rfl
theorem d_M_highest_40 : decode mM_highest.2.1 40 = .ok (.iload_n 3, 1) := dq_get dd_M_highest_0 (i := 26) rfl
theorem d_M_highest_41 : decode mM_highest.2.1 41 = .ok (.iadd, 1) := dq_get dd_M_highest_0 (i := 27) rfl
theorem d_M_highest_42 : decode mM_highest.2.1 42 = .ok (.iaload, 1) := dq_get dd_M_highest_0 (i := 28) rfl
theorem d_M_highest_43 : decode mM_highest.2.1 43 = .ok (.istore_n 2, 1) := dq_get dd_M_highest_0 (i := 29) rfl
theorem d_M_highest_44 : decode mM_highest.2.1 44 = .ok (.iinc 3 1, 3) := dq_get dd_M_highest_0 (i := 30) rfl
theorem d_M_highest_47 : decode mM_highest.2.1 47 = .ok (.goto (-43), 3) := dq_get dd_M_highest_0 (i := 31) rfl
theorem dd_M_highest_32 : dq mM_highest.2.1 [(50, .iload_n 2, 1), (51, .ireturn, 1)] = true := by decide +kernel
theorem d_M_highest_50 : decode mM_highest.2.1 50 = .ok (.iload_n 2, 1) := dq_get dd_M_highest_32 (i := 0) rfl
theorem d_M_highest_51 : decode mM_highest.2.1 51 = .ok (.ireturn, 1) := dq_get dd_M_highest_32 (i := 1) rfl
theorem dd_M_hasTwins_0 : dq mM_hasTwins.2.1 [(0, .iconst 0, 1), (1, .istore_n 2, 1), (2, .iconst 0, 1), (3, .istore_n 3, 1), (4, .iload_n 3, 1), (5, .aload_n 0, 1), (6, .getfield 322, 3), (9, .if_icmp .ge 81, 3), (12, .iload_n 2, 1), (13, .ifCond .ne 77, 3), (16, .iload_n 1, 1), (17, .iload_n 3, 1), (18, .ishr, 1), (19, .iconst 1, 1), (20, .iand, 1), (21, .ifCond .ne 6, 3), (24, .goto 60, 3), (27, .iconst 0, 1), (28, .istore 4, 2), (30, .iload 4, 2), (32, .iload_n 3, 1), (33, .if_icmp .ge 51, 3), (36, .iload_n 2, 1), (37, .ifCond .ne 35, 3), (40, .iload_n 1, 1), (41, .iload 4, 2), (43, .ishr, 1), (44, .iconst 1, 1), (45, .iand, 1), (46, .iconst 1, 1), (47, .if_icmp .ne 29, 3), (50, .aload_n 0, 1)] = true := by decide +kernel
theorem d_M_hasTwins_0 : decode mM_hasTwins.2.1 0 = .ok (.iconst 0, 1) := dq_get dd_M_hasTwins_0 (i := 0) rfl
theorem d_M_hasTwins_1 : decode mM_hasTwins.2.1 1 = .ok (.istore_n 2, 1) := dq_get dd_M_hasTwins_0 (i := 1) rfl
theorem d_M_hasTwins_2 : decode mM_hasTwins.2.1 2 = .ok (.iconst 0, 1) := dq_get dd_M_hasTwins_0 (i := 2) rfl
theorem d_M_hasTwins_3 : decode mM_hasTwins.2.1 3 = .ok (.istore_n 3, 1) := dq_get dd_M_hasTwins_0 (i := 3) rfl
theorem d_M_hasTwins_4 : decode mM_hasTwins.2.1 4 = .ok (.iload_n 3, 1) := dq_get dd_M_hasTwins_0 (i := 4) rfl
theorem d_M_hasTwins_5 : decode mM_hasTwins.2.1 5 = .ok (.aload_n 0, 1) := dq_get dd_M_hasTwins_0 (i := 5) rfl
theorem d_M_hasTwins_6 : decode mM_hasTwins.2.1 6 = .ok (.getfield 322, 3) := dq_get dd_M_hasTwins_0 (i := 6) rfl
theorem d_M_hasTwins_9 : decode mM_hasTwins.2.1 9 = .ok (.if_icmp .ge 81, 3) := dq_get dd_M_hasTwins_0 (i := 7) rfl
theorem d_M_hasTwins_12 : decode mM_hasTwins.2.1 12 = .ok (.iload_n 2, 1) := dq_get dd_M_hasTwins_0 (i := 8) rfl
theorem d_M_hasTwins_13 : decode mM_hasTwins.2.1 13 = .ok (.ifCond .ne 77, 3) := dq_get dd_M_hasTwins_0 (i := 9) rfl
theorem d_M_hasTwins_16 : decode mM_hasTwins.2.1 16 = .ok (.iload_n 1, 1) := dq_get dd_M_hasTwins_0 (i := 10) rfl
theorem d_M_hasTwins_17 : decode mM_hasTwins.2.1 17 = .ok (.iload_n 3, 1) := dq_get dd_M_hasTwins_0 (i := 11) rfl
theorem d_M_hasTwins_18 : decode mM_hasTwins.2.1 18 = .ok (.ishr, 1) := dq_get dd_M_hasTwins_0 (i := 12) rfl
theorem d_M_hasTwins_19 : decode mM_hasTwins.2.1 19 = .ok (.iconst 1, 1) := dq_get dd_M_hasTwins_0 (i := 13) rfl
theorem d_M_hasTwins_20 : decode mM_hasTwins.2.1 20 = .ok (.iand, 1) := dq_get dd_M_hasTwins_0 (i := 14) rfl
theorem d_M_hasTwins_21 : decode mM_hasTwins.2.1 21 = .ok (.ifCond .ne 6, 3) := dq_get dd_M_hasTwins_0 (i := 15) rfl
theorem d_M_hasTwins_24 : decode mM_hasTwins.2.1 24 = .ok (.goto 60, 3) := dq_get dd_M_hasTwins_0 (i := 16) rfl
theorem d_M_hasTwins_27 : decode mM_hasTwins.2.1 27 = .ok (.iconst 0, 1) := dq_get dd_M_hasTwins_0 (i := 17) rfl
theorem d_M_hasTwins_28 : decode mM_hasTwins.2.1 28 = .ok (.istore 4, 2) := dq_get dd_M_hasTwins_0 (i := 18) rfl
theorem d_M_hasTwins_30 : decode mM_hasTwins.2.1 30 = .ok (.iload 4, 2) := dq_get dd_M_hasTwins_0 (i := 19) rfl
theorem d_M_hasTwins_32 : decode mM_hasTwins.2.1 32 = .ok (.iload_n 3, 1) := dq_get dd_M_hasTwins_0 (i := 20) rfl
theorem d_M_hasTwins_33 : decode mM_hasTwins.2.1 33 = .ok (.if_icmp .ge 51, 3) := dq_get dd_M_hasTwins_0 (i := 21) rfl
theorem d_M_hasTwins_36 : decode mM_hasTwins.2.1 36 = .ok (.iload_n 2, 1) := dq_get dd_M_hasTwins_0 (i := 22) rfl
theorem d_M_hasTwins_37 : decode mM_hasTwins.2.1 37 = .ok (.ifCond .ne 35, 3) := dq_get dd_M_hasTwins_0 (i := 23) rfl
theorem d_M_hasTwins_40 : decode mM_hasTwins.2.1 40 = .ok (.iload_n 1, 1) := dq_get dd_M_hasTwins_0 (i := 24) rfl
theorem d_M_hasTwins_41 : decode mM_hasTwins.2.1 41 = .ok (.iload 4, 2) := dq_get dd_M_hasTwins_0 (i := 25) rfl
theorem d_M_hasTwins_43 : decode mM_hasTwins.2.1 43 = .ok (.ishr, 1) := dq_get dd_M_hasTwins_0 (i := 26) rfl
theorem d_M_hasTwins_44 : decode mM_hasTwins.2.1 44 = .ok (.iconst 1, 1) := dq_get dd_M_hasTwins_0 (i := 27) rfl
theorem d_M_hasTwins_45 : decode mM_hasTwins.2.1 45 = .ok (.iand, 1) := dq_get dd_M_hasTwins_0 (i := 28) rfl
theorem d_M_hasTwins_46 : decode mM_hasTwins.2.1 46 = .ok (.iconst 1, 1) := dq_get dd_M_hasTwins_0 (i := 29) rfl
theorem d_M_hasTwins_47 : decode mM_hasTwins.2.1 47 = .ok (.if_icmp .ne 29, 3) := dq_get dd_M_hasTwins_0 (i := 30) rfl
theorem d_M_hasTwins_50 : decode mM_hasTwins.2.1 50 = .ok (.aload_n 0, 1) := dq_get dd_M_hasTwins_0 (i := 31) rfl
theorem dd_M_hasTwins_32 : dq mM_hasTwins.2.1 [(51, .getfield 96, 3), (54, .bipush 10, 2), (56, .iload_n 3, 1), (57, .iadd, 1), (58, .iaload, 1), (59, .aload_n 0, 1), (60, .getfield 96, 3), (63, .bipush 10, 2), (65, .iload 4, 2), (67, .iadd, 1), (68, .iaload, 1), (69, .if_icmp .ne 7, 3), (72, .iconst 1, 1), (73, .goto 4, 3), (76, .iconst 0, 1), (77, .istore_n 2, 1), (78, .iinc 4 1, 3), (81, .goto (-51), 3), (84, .iinc 3 1, 3), (87, .goto (-83), 3), (90, .iload_n 2, 1), (91, .ireturn, 1)] = true := by decide +kernel
theorem d_M_hasTwins_51 : decode mM_hasTwins.2.1 51 = .ok (.getfield 96, 3) := dq_get dd_M_hasTwins_32 (i := 0) rfl
theorem d_M_hasTwins_54 : decode mM_hasTwins.2.1 54 = .ok (.bipush 10, 2) := dq_get dd_M_hasTwins_32 (i := 1) rfl
theorem d_M_hasTwins_56 : decode mM_hasTwins.2.1 56 = .ok (.iload_n 3, 1) := dq_get dd_M_hasTwins_32 (i := 2) rfl
theorem d_M_hasTwins_57 : decode mM_hasTwins.2.1 57 = .ok (.iadd, 1) := dq_get dd_M_hasTwins_32 (i := 3) rfl
theorem d_M_hasTwins_58 : decode mM_hasTwins.2.1 58 = .ok (.iaload, 1) := dq_get dd_M_hasTwins_32 (i := 4) rfl
theorem d_M_hasTwins_59 : decode mM_hasTwins.2.1 59 = .ok (.aload_n 0, 1) := dq_get dd_M_hasTwins_32 (i := 5) rfl
theorem d_M_hasTwins_60 : decode mM_hasTwins.2.1 60 = .ok (.getfield 96, 3) := dq_get dd_M_hasTwins_32 (i := 6) rfl
theorem d_M_hasTwins_63 : decode mM_hasTwins.2.1 63 = .ok (.bipush 10, 2) := dq_get dd_M_hasTwins_32 (i := 7) rfl
theorem d_M_hasTwins_65 : decode mM_hasTwins.2.1 65 = .ok (.iload 4, 2) := dq_get dd_M_hasTwins_32 (i := 8) rfl
theorem d_M_hasTwins_67 : decode mM_hasTwins.2.1 67 = .ok (.iadd, 1) := dq_get dd_M_hasTwins_32 (i := 9) rfl
theorem d_M_hasTwins_68 : decode mM_hasTwins.2.1 68 = .ok (.iaload, 1) := dq_get dd_M_hasTwins_32 (i := 10) rfl
theorem d_M_hasTwins_69 : decode mM_hasTwins.2.1 69 = .ok (.if_icmp .ne 7, 3) := dq_get dd_M_hasTwins_32 (i := 11) rfl
theorem d_M_hasTwins_72 : decode mM_hasTwins.2.1 72 = .ok (.iconst 1, 1) := dq_get dd_M_hasTwins_32 (i := 12) rfl
theorem d_M_hasTwins_73 : decode mM_hasTwins.2.1 73 = .ok (.goto 4, 3) := dq_get dd_M_hasTwins_32 (i := 13) rfl
theorem d_M_hasTwins_76 : decode mM_hasTwins.2.1 76 = .ok (.iconst 0, 1) := dq_get dd_M_hasTwins_32 (i := 14) rfl
theorem d_M_hasTwins_77 : decode mM_hasTwins.2.1 77 = .ok (.istore_n 2, 1) := dq_get dd_M_hasTwins_32 (i := 15) rfl
theorem d_M_hasTwins_78 : decode mM_hasTwins.2.1 78 = .ok (.iinc 4 1, 3) := dq_get dd_M_hasTwins_32 (i := 16) rfl
theorem d_M_hasTwins_81 : decode mM_hasTwins.2.1 81 = .ok (.goto (-51), 3) := dq_get dd_M_hasTwins_32 (i := 17) rfl
theorem d_M_hasTwins_84 : decode mM_hasTwins.2.1 84 = .ok (.iinc 3 1, 3) := dq_get dd_M_hasTwins_32 (i := 18) rfl
theorem d_M_hasTwins_87 : decode mM_hasTwins.2.1 87 = .ok (.goto (-83), 3) := dq_get dd_M_hasTwins_32 (i := 19) rfl
theorem d_M_hasTwins_90 : decode mM_hasTwins.2.1 90 = .ok (.iload_n 2, 1) := dq_get dd_M_hasTwins_32 (i := 20) rfl
theorem d_M_hasTwins_91 : decode mM_hasTwins.2.1 91 = .ok (.ireturn, 1) := dq_get dd_M_hasTwins_32 (i := 21) rfl
theorem dd_M_clashes_0 : dq mM_clashes.2.1 [(0, .aload_n 0, 1), (1, .invokevirtual 464, 3), (4, .aload_n 0, 1), (5, .aload_n 0, 1), (6, .getfield 81, 3), (9, .invokevirtual 482, 3), (12, .ireturn, 1)] = true := by decide +kernel
theorem d_M_clashes_0 : decode mM_clashes.2.1 0 = .ok (.aload_n 0, 1) := dq_get dd_M_clashes_0 (i := 0) rfl
theorem d_M_clashes_1 : decode mM_clashes.2.1 1 = .ok (.invokevirtual 464, 3) := dq_get dd_M_clashes_0 (i := 1) rfl
theorem d_M_clashes_4 : decode mM_clashes.2.1 4 = .ok (.aload_n 0, 1) := dq_get dd_M_clashes_0 (i := 2) rfl
theorem d_M_clashes_5 : decode mM_clashes.2.1 5 = .ok (.aload_n 0, 1) := dq_get dd_M_clashes_0 (i := 3) rfl
theorem d_M_clashes_6 : decode mM_clashes.2.1 6 = .ok (.getfield 81, 3) := dq_get dd_M_clashes_0 (i := 4) rfl
theorem d_M_clashes_9 : decode mM_clashes.2.1 9 = .ok (.invokevirtual 482, 3) := dq_get dd_M_clashes_0 (i := 5) rfl
theorem d_M_clashes_12 : decode mM_clashes.2.1 12 = .ok (.ireturn, 1) := dq_get dd_M_clashes_0 (i := 6) rfl
theorem dd_M_clashBeats_0 : dq mM_clashBeats.2.1 [(0, .iconst 0, 1), (1, .istore_n 2, 1), (2, .iconst 0, 1), (3, .istore_n 3, 1), (4, .iload_n 3, 1), (5, .aload_n 0, 1), (6, .getfield 78, 3), (9, .if_icmp .ge 45, 3), (12, .iload_n 2, 1), (13, .aload_n 0, 1), (14, .iload_n 3, 1), (15, .aload_n 0, 1), (16, .iconst 1, 1), (17, .invokevirtual 454, 3), (20, .aload_n 0, 1), (21, .iconst 2, 1), (22, .invokevirtual 454, 3), (25, .aload_n 0, 1), (26, .getfield 84, 3), (29, .iload_n 1, 1), (30, .invokevirtual 450, 3), (33, .ifCond .eq 7, 3), (36, .iconst 1, 1), (37, .goto 4, 3), (40, .iconst 0, 1), (41, .invokestatic 318, 3), (44, .iload_n 3, 1), (45, .ishl, 1), (46, .ior, 1), (47, .istore_n 2, 1), (48, .iinc 3 1, 3), (51, .goto (-47), 3)] = true := by decide +kernel
theorem d_M_clashBeats_0 : decode mM_clashBeats.2.1 0 = .ok (.iconst 0, 1) := dq_get dd_M_clashBeats_0 (i := 0) rfl
theorem d_M_clashBeats_1 : decode mM_clashBeats.2.1 1 = .ok (.istore_n 2, 1) := dq_get dd_M_clashBeats_0 (i := 1) rfl
theorem d_M_clashBeats_2 : decode mM_clashBeats.2.1 2 = .ok (.iconst 0, 1) := dq_get dd_M_clashBeats_0 (i := 2) rfl
theorem d_M_clashBeats_3 : decode mM_clashBeats.2.1 3 = .ok (.istore_n 3, 1) := dq_get dd_M_clashBeats_0 (i := 3) rfl
theorem d_M_clashBeats_4 : decode mM_clashBeats.2.1 4 = .ok (.iload_n 3, 1) := dq_get dd_M_clashBeats_0 (i := 4) rfl
theorem d_M_clashBeats_5 : decode mM_clashBeats.2.1 5 = .ok (.aload_n 0, 1) := dq_get dd_M_clashBeats_0 (i := 5) rfl
theorem d_M_clashBeats_6 : decode mM_clashBeats.2.1 6 = .ok (.getfield 78, 3) := dq_get dd_M_clashBeats_0 (i := 6) rfl
theorem d_M_clashBeats_9 : decode mM_clashBeats.2.1 9 = .ok (.if_icmp .ge 45, 3) := dq_get dd_M_clashBeats_0 (i := 7) rfl
theorem d_M_clashBeats_12 : decode mM_clashBeats.2.1 12 = .ok (.iload_n 2, 1) := dq_get dd_M_clashBeats_0 (i := 8) rfl
theorem d_M_clashBeats_13 : decode mM_clashBeats.2.1 13 = .ok (.aload_n 0, 1) := dq_get dd_M_clashBeats_0 (i := 9) rfl
theorem d_M_clashBeats_14 : decode mM_clashBeats.2.1 14 = .ok (.iload_n 3, 1) := dq_get dd_M_clashBeats_0 (i := 10) rfl
theorem d_M_clashBeats_15 : decode mM_clashBeats.2.1 15 = .ok (.aload_n 0, 1) := dq_get dd_M_clashBeats_0 (i := 11) rfl
theorem d_M_clashBeats_16 : decode mM_clashBeats.2.1 16 = .ok (.iconst 1, 1) := dq_get dd_M_clashBeats_0 (i := 12) rfl
theorem d_M_clashBeats_17 : decode mM_clashBeats.2.1 17 = .ok (.invokevirtual 454, 3) := dq_get dd_M_clashBeats_0 (i := 13) rfl
theorem d_M_clashBeats_20 : decode mM_clashBeats.2.1 20 = .ok (.aload_n 0, 1) := dq_get dd_M_clashBeats_0 (i := 14) rfl
theorem d_M_clashBeats_21 : decode mM_clashBeats.2.1 21 = .ok (.iconst 2, 1) := dq_get dd_M_clashBeats_0 (i := 15) rfl
theorem d_M_clashBeats_22 : decode mM_clashBeats.2.1 22 = .ok (.invokevirtual 454, 3) := dq_get dd_M_clashBeats_0 (i := 16) rfl
theorem d_M_clashBeats_25 : decode mM_clashBeats.2.1 25 = .ok (.aload_n 0, 1) := dq_get dd_M_clashBeats_0 (i := 17) rfl
theorem d_M_clashBeats_26 : decode mM_clashBeats.2.1 26 = .ok (.getfield 84, 3) := dq_get dd_M_clashBeats_0 (i := 18) rfl
theorem d_M_clashBeats_29 : decode mM_clashBeats.2.1 29 = .ok (.iload_n 1, 1) := dq_get dd_M_clashBeats_0 (i := 19) rfl
theorem d_M_clashBeats_30 : decode mM_clashBeats.2.1 30 = .ok (.invokevirtual 450, 3) := dq_get dd_M_clashBeats_0 (i := 20) rfl
theorem d_M_clashBeats_33 : decode mM_clashBeats.2.1 33 = .ok (.ifCond .eq 7, 3) := dq_get dd_M_clashBeats_0 (i := 21) rfl
theorem d_M_clashBeats_36 : decode mM_clashBeats.2.1 36 = .ok (.iconst 1, 1) := dq_get dd_M_clashBeats_0 (i := 22) rfl
theorem d_M_clashBeats_37 : decode mM_clashBeats.2.1 37 = .ok (.goto 4, 3) := dq_get dd_M_clashBeats_0 (i := 23) rfl
theorem d_M_clashBeats_40 : decode mM_clashBeats.2.1 40 = .ok (.iconst 0, 1) := dq_get dd_M_clashBeats_0 (i := 24) rfl
theorem d_M_clashBeats_41 : decode mM_clashBeats.2.1 41 = .ok (.invokestatic 318, 3) := dq_get dd_M_clashBeats_0 (i := 25) rfl
theorem d_M_clashBeats_44 : decode mM_clashBeats.2.1 44 = .ok (.iload_n 3, 1) := dq_get dd_M_clashBeats_0 (i := 26) rfl
theorem d_M_clashBeats_45 : decode mM_clashBeats.2.1 45 = .ok (.ishl, 1) := dq_get dd_M_clashBeats_0 (i := 27) rfl
theorem d_M_clashBeats_46 : decode mM_clashBeats.2.1 46 = .ok (.ior, 1) := dq_get dd_M_clashBeats_0 (i := 28) rfl
theorem d_M_clashBeats_47 : decode mM_clashBeats.2.1 47 = .ok (.istore_n 2, 1) := dq_get dd_M_clashBeats_0 (i := 29) rfl
theorem d_M_clashBeats_48 : decode mM_clashBeats.2.1 48 = .ok (.iinc 3 1, 3) := dq_get dd_M_clashBeats_0 (i := 30) rfl
theorem d_M_clashBeats_51 : decode mM_clashBeats.2.1 51 = .ok (.goto (-47), 3) := dq_get dd_M_clashBeats_0 (i := 31) rfl
theorem dd_M_clashBeats_32 : dq mM_clashBeats.2.1 [(54, .iload_n 2, 1), (55, .ireturn, 1)] = true := by decide +kernel
theorem d_M_clashBeats_54 : decode mM_clashBeats.2.1 54 = .ok (.iload_n 2, 1) := dq_get dd_M_clashBeats_32 (i := 0) rfl
theorem d_M_clashBeats_55 : decode mM_clashBeats.2.1 55 = .ok (.ireturn, 1) := dq_get dd_M_clashBeats_32 (i := 1) rfl
theorem dd_M_give_0 : dq mM_give.2.1 [(0, .aload_n 0, 1), (1, .iload_n 1, 1), (2, .invokevirtual 461, 3), (5, .ifCond .eq 22, 3), (8, .iload_n 2, 1), (9, .iconst 0, 1), (10, .iconst 2, 1), (11, .invokestatic 429, 3), (14, .ifCond .eq 13, 3), (17, .aload_n 0, 1), (18, .getfield 93, 3), (21, .iload_n 1, 1), (22, .iaload, 1), (23, .iload_n 2, 1), (24, .if_icmp .ne 5, 3), (27, .iconst (-1), 1), (28, .ireturn, 1), (29, .aload_n 0, 1), (30, .invokevirtual 485, 3), (33, .aload_n 0, 1), (34, .getfield 93, 3), (37, .iload_n 1, 1), (38, .iload_n 2, 1), (39, .iastore, 1), (40, .aload_n 0, 1), (41, .invokevirtual 488, 3), (44, .ireturn, 1)] = true := by decide +kernel
theorem d_M_give_0 : decode mM_give.2.1 0 = .ok (.aload_n 0, 1) := dq_get dd_M_give_0 (i := 0) rfl
theorem d_M_give_1 : decode mM_give.2.1 1 = .ok (.iload_n 1, 1) := dq_get dd_M_give_0 (i := 1) rfl
theorem d_M_give_2 : decode mM_give.2.1 2 = .ok (.invokevirtual 461, 3) := dq_get dd_M_give_0 (i := 2) rfl
theorem d_M_give_5 : decode mM_give.2.1 5 = .ok (.ifCond .eq 22, 3) := dq_get dd_M_give_0 (i := 3) rfl
theorem d_M_give_8 : decode mM_give.2.1 8 = .ok (.iload_n 2, 1) := dq_get dd_M_give_0 (i := 4) rfl
theorem d_M_give_9 : decode mM_give.2.1 9 = .ok (.iconst 0, 1) := dq_get dd_M_give_0 (i := 5) rfl
theorem d_M_give_10 : decode mM_give.2.1 10 = .ok (.iconst 2, 1) := dq_get dd_M_give_0 (i := 6) rfl
theorem d_M_give_11 : decode mM_give.2.1 11 = .ok (.invokestatic 429, 3) := dq_get dd_M_give_0 (i := 7) rfl
theorem d_M_give_14 : decode mM_give.2.1 14 = .ok (.ifCond .eq 13, 3) := dq_get dd_M_give_0 (i := 8) rfl
theorem d_M_give_17 : decode mM_give.2.1 17 = .ok (.aload_n 0, 1) := dq_get dd_M_give_0 (i := 9) rfl
theorem d_M_give_18 : decode mM_give.2.1 18 = .ok (.getfield 93, 3) := dq_get dd_M_give_0 (i := 10) rfl
theorem d_M_give_21 : decode mM_give.2.1 21 = .ok (.iload_n 1, 1) := dq_get dd_M_give_0 (i := 11) rfl
theorem d_M_give_22 : decode mM_give.2.1 22 = .ok (.iaload, 1) := dq_get dd_M_give_0 (i := 12) rfl
theorem d_M_give_23 : decode mM_give.2.1 23 = .ok (.iload_n 2, 1) := dq_get dd_M_give_0 (i := 13) rfl
theorem d_M_give_24 : decode mM_give.2.1 24 = .ok (.if_icmp .ne 5, 3) := dq_get dd_M_give_0 (i := 14) rfl
theorem d_M_give_27 : decode mM_give.2.1 27 = .ok (.iconst (-1), 1) := dq_get dd_M_give_0 (i := 15) rfl
theorem d_M_give_28 : decode mM_give.2.1 28 = .ok (.ireturn, 1) := dq_get dd_M_give_0 (i := 16) rfl
theorem d_M_give_29 : decode mM_give.2.1 29 = .ok (.aload_n 0, 1) := dq_get dd_M_give_0 (i := 17) rfl
theorem d_M_give_30 : decode mM_give.2.1 30 = .ok (.invokevirtual 485, 3) := dq_get dd_M_give_0 (i := 18) rfl
theorem d_M_give_33 : decode mM_give.2.1 33 = .ok (.aload_n 0, 1) := dq_get dd_M_give_0 (i := 19) rfl
theorem d_M_give_34 : decode mM_give.2.1 34 = .ok (.getfield 93, 3) := dq_get dd_M_give_0 (i := 20) rfl
theorem d_M_give_37 : decode mM_give.2.1 37 = .ok (.iload_n 1, 1) := dq_get dd_M_give_0 (i := 21) rfl
theorem d_M_give_38 : decode mM_give.2.1 38 = .ok (.iload_n 2, 1) := dq_get dd_M_give_0 (i := 22) rfl
theorem d_M_give_39 : decode mM_give.2.1 39 = .ok (.iastore, 1) := dq_get dd_M_give_0 (i := 23) rfl
theorem d_M_give_40 : decode mM_give.2.1 40 = .ok (.aload_n 0, 1) := dq_get dd_M_give_0 (i := 24) rfl
theorem d_M_give_41 : decode mM_give.2.1 41 = .ok (.invokevirtual 488, 3) := dq_get dd_M_give_0 (i := 25) rfl
theorem d_M_give_44 : decode mM_give.2.1 44 = .ok (.ireturn, 1) := dq_get dd_M_give_0 (i := 26) rfl
theorem dd_M_act_0 : dq mM_act.2.1 [(0, .aload_n 0, 1), (1, .getfield 417, 3), (4, .bipush 40, 2), (6, .if_icmp .ne 43, 3), (9, .iconst 0, 1), (10, .istore_n 1, 1), (11, .iload_n 1, 1), (12, .sipush 1599, 3), (15, .if_icmp .ge 24, 3), (18, .aload_n 0, 1), (19, .getfield 105, 3), (22, .iload_n 1, 1), (23, .aload_n 0, 1), (24, .getfield 105, 3), (27, .bipush 41, 2), (29, .iload_n 1, 1), (30, .iadd, 1), (31, .iaload, 1), (32, .iastore, 1), (33, .iinc 1 1, 3), (36, .goto (-25), 3), (39, .aload_n 0, 1), (40, .dup, 1), (41, .getfield 417, 3), (44, .iconst 1, 1), (45, .isub, 1), (46, .putfield 417, 3), (49, .iconst 0, 1), (50, .istore_n 1, 1), (51, .iload_n 1, 1), (52, .bipush 41, 2), (54, .if_icmp .ge 29, 3)] = true := by decide +kernel
theorem d_M_act_0 : decode mM_act.2.1 0 = .ok (.aload_n 0, 1) := dq_get dd_M_act_0 (i := 0) rfl
theorem d_M_act_1 : decode mM_act.2.1 1 = .ok (.getfield 417, 3) := dq_get dd_M_act_0 (i := 1) rfl
theorem d_M_act_4 : decode mM_act.2.1 4 = .ok (.bipush 40, 2) := dq_get dd_M_act_0 (i := 2) rfl
theorem d_M_act_6 : decode mM_act.2.1 6 = .ok (.if_icmp .ne 43, 3) := dq_get dd_M_act_0 (i := 3) rfl
theorem d_M_act_9 : decode mM_act.2.1 9 = .ok (.iconst 0, 1) := dq_get dd_M_act_0 (i := 4) rfl
theorem d_M_act_10 : decode mM_act.2.1 10 = .ok (.istore_n 1, 1) := dq_get dd_M_act_0 (i := 5) rfl
theorem d_M_act_11 : decode mM_act.2.1 11 = .ok (.iload_n 1, 1) := dq_get dd_M_act_0 (i := 6) rfl
theorem d_M_act_12 : decode mM_act.2.1 12 = .ok (.sipush 1599, 3) := dq_get dd_M_act_0 (i := 7) rfl
theorem d_M_act_15 : decode mM_act.2.1 15 = .ok (.if_icmp .ge 24, 3) := dq_get dd_M_act_0 (i := 8) rfl
theorem d_M_act_18 : decode mM_act.2.1 18 = .ok (.aload_n 0, 1) := dq_get dd_M_act_0 (i := 9) rfl
theorem d_M_act_19 : decode mM_act.2.1 19 = .ok (.getfield 105, 3) := dq_get dd_M_act_0 (i := 10) rfl
theorem d_M_act_22 : decode mM_act.2.1 22 = .ok (.iload_n 1, 1) := dq_get dd_M_act_0 (i := 11) rfl
theorem d_M_act_23 : decode mM_act.2.1 23 = .ok (.aload_n 0, 1) := dq_get dd_M_act_0 (i := 12) rfl
theorem d_M_act_24 : decode mM_act.2.1 24 = .ok (.getfield 105, 3) := dq_get dd_M_act_0 (i := 13) rfl
theorem d_M_act_27 : decode mM_act.2.1 27 = .ok (.bipush 41, 2) := dq_get dd_M_act_0 (i := 14) rfl
theorem d_M_act_29 : decode mM_act.2.1 29 = .ok (.iload_n 1, 1) := dq_get dd_M_act_0 (i := 15) rfl
theorem d_M_act_30 : decode mM_act.2.1 30 = .ok (.iadd, 1) := dq_get dd_M_act_0 (i := 16) rfl
theorem d_M_act_31 : decode mM_act.2.1 31 = .ok (.iaload, 1) := dq_get dd_M_act_0 (i := 17) rfl
theorem d_M_act_32 : decode mM_act.2.1 32 = .ok (.iastore, 1) := dq_get dd_M_act_0 (i := 18) rfl
theorem d_M_act_33 : decode mM_act.2.1 33 = .ok (.iinc 1 1, 3) := dq_get dd_M_act_0 (i := 19) rfl
theorem d_M_act_36 : decode mM_act.2.1 36 = .ok (.goto (-25), 3) := dq_get dd_M_act_0 (i := 20) rfl
theorem d_M_act_39 : decode mM_act.2.1 39 = .ok (.aload_n 0, 1) := dq_get dd_M_act_0 (i := 21) rfl
theorem d_M_act_40 : decode mM_act.2.1 40 = .ok (.dup, 1) := dq_get dd_M_act_0 (i := 22) rfl
theorem d_M_act_41 : decode mM_act.2.1 41 = .ok (.getfield 417, 3) := dq_get dd_M_act_0 (i := 23) rfl
theorem d_M_act_44 : decode mM_act.2.1 44 = .ok (.iconst 1, 1) := dq_get dd_M_act_0 (i := 24) rfl
theorem d_M_act_45 : decode mM_act.2.1 45 = .ok (.isub, 1) := dq_get dd_M_act_0 (i := 25) rfl
theorem d_M_act_46 : decode mM_act.2.1 46 = .ok (.putfield 417, 3) := dq_get dd_M_act_0 (i := 26) rfl
theorem d_M_act_49 : decode mM_act.2.1 49 = .ok (.iconst 0, 1) := dq_get dd_M_act_0 (i := 27) rfl
theorem d_M_act_50 : decode mM_act.2.1 50 = .ok (.istore_n 1, 1) := dq_get dd_M_act_0 (i := 28) rfl
theorem d_M_act_51 : decode mM_act.2.1 51 = .ok (.iload_n 1, 1) := dq_get dd_M_act_0 (i := 29) rfl
theorem d_M_act_52 : decode mM_act.2.1 52 = .ok (.bipush 41, 2) := dq_get dd_M_act_0 (i := 30) rfl
theorem d_M_act_54 : decode mM_act.2.1 54 = .ok (.if_icmp .ge 29, 3) := dq_get dd_M_act_0 (i := 31) rfl
theorem dd_M_act_32 : dq mM_act.2.1 [(57, .aload_n 0, 1), (58, .getfield 105, 3), (61, .bipush 41, 2), (63, .aload_n 0, 1), (64, .getfield 417, 3), (67, .imul, 1), (68, .iload_n 1, 1), (69, .iadd, 1), (70, .aload_n 0, 1), (71, .getfield 93, 3), (74, .iload_n 1, 1), (75, .iaload, 1), (76, .iastore, 1), (77, .iinc 1 1, 3), (80, .goto (-29), 3), (83, .aload_n 0, 1), (84, .dup, 1), (85, .getfield 417, 3), (88, .iconst 1, 1), (89, .iadd, 1), (90, .putfield 417, 3), (93, .aload_n 0, 1), (94, .iconst 0, 1), (95, .putfield 420, 3), (98, .return_, 1)] = true := by decide +kernel
theorem d_M_act_57 : decode mM_act.2.1 57 = .ok (.aload_n 0, 1) := dq_get dd_M_act_32 (i := 0) rfl
theorem d_M_act_58 : decode mM_act.2.1 58 = .ok (.getfield 105, 3) := dq_get dd_M_act_32 (i := 1) rfl
theorem d_M_act_61 : decode mM_act.2.1 61 = .ok (.bipush 41, 2) := dq_get dd_M_act_32 (i := 2) rfl
theorem d_M_act_63 : decode mM_act.2.1 63 = .ok (.aload_n 0, 1) := dq_get dd_M_act_32 (i := 3) rfl
theorem d_M_act_64 : decode mM_act.2.1 64 = .ok (.getfield 417, 3) := dq_get dd_M_act_32 (i := 4) rfl
theorem d_M_act_67 : decode mM_act.2.1 67 = .ok (.imul, 1) := dq_get dd_M_act_32 (i := 5) rfl
theorem d_M_act_68 : decode mM_act.2.1 68 = .ok (.iload_n 1, 1) := dq_get dd_M_act_32 (i := 6) rfl
theorem d_M_act_69 : decode mM_act.2.1 69 = .ok (.iadd, 1) := dq_get dd_M_act_32 (i := 7) rfl
theorem d_M_act_70 : decode mM_act.2.1 70 = .ok (.aload_n 0, 1) := dq_get dd_M_act_32 (i := 8) rfl
theorem d_M_act_71 : decode mM_act.2.1 71 = .ok (.getfield 93, 3) := dq_get dd_M_act_32 (i := 9) rfl
theorem d_M_act_74 : decode mM_act.2.1 74 = .ok (.iload_n 1, 1) := dq_get dd_M_act_32 (i := 10) rfl
theorem d_M_act_75 : decode mM_act.2.1 75 = .ok (.iaload, 1) := dq_get dd_M_act_32 (i := 11) rfl
theorem d_M_act_76 : decode mM_act.2.1 76 = .ok (.iastore, 1) := dq_get dd_M_act_32 (i := 12) rfl
theorem d_M_act_77 : decode mM_act.2.1 77 = .ok (.iinc 1 1, 3) := dq_get dd_M_act_32 (i := 13) rfl
theorem d_M_act_80 : decode mM_act.2.1 80 = .ok (.goto (-29), 3) := dq_get dd_M_act_32 (i := 14) rfl
theorem d_M_act_83 : decode mM_act.2.1 83 = .ok (.aload_n 0, 1) := dq_get dd_M_act_32 (i := 15) rfl
theorem d_M_act_84 : decode mM_act.2.1 84 = .ok (.dup, 1) := dq_get dd_M_act_32 (i := 16) rfl
theorem d_M_act_85 : decode mM_act.2.1 85 = .ok (.getfield 417, 3) := dq_get dd_M_act_32 (i := 17) rfl
theorem d_M_act_88 : decode mM_act.2.1 88 = .ok (.iconst 1, 1) := dq_get dd_M_act_32 (i := 18) rfl
theorem d_M_act_89 : decode mM_act.2.1 89 = .ok (.iadd, 1) := dq_get dd_M_act_32 (i := 19) rfl
theorem d_M_act_90 : decode mM_act.2.1 90 = .ok (.putfield 417, 3) := dq_get dd_M_act_32 (i := 20) rfl
theorem d_M_act_93 : decode mM_act.2.1 93 = .ok (.aload_n 0, 1) := dq_get dd_M_act_32 (i := 21) rfl
theorem d_M_act_94 : decode mM_act.2.1 94 = .ok (.iconst 0, 1) := dq_get dd_M_act_32 (i := 22) rfl
theorem d_M_act_95 : decode mM_act.2.1 95 = .ok (.putfield 420, 3) := dq_get dd_M_act_32 (i := 23) rfl
theorem d_M_act_98 : decode mM_act.2.1 98 = .ok (.return_, 1) := dq_get dd_M_act_32 (i := 24) rfl
theorem dd_M_shift_0 : dq mM_shift.2.1 [(0, .aload_n 0, 1), (1, .iload_n 1, 1), (2, .invokevirtual 461, 3), (5, .ifCond .eq 41, 3), (8, .iload_n 2, 1), (9, .ifCond .eq 37, 3), (12, .iload_n 2, 1), (13, .bipush (-7), 2), (15, .bipush 7, 2), (17, .invokestatic 429, 3), (20, .ifCond .eq 26, 3), (23, .aload_n 0, 1), (24, .getfield 93, 3), (27, .bipush 10, 2), (29, .iload_n 1, 1), (30, .iadd, 1), (31, .iaload, 1), (32, .bipush 12, 2), (34, .iload_n 2, 1), (35, .imul, 1), (36, .iadd, 1), (37, .iconst 0, 1), (38, .bipush 87, 2), (40, .invokestatic 429, 3), (43, .ifCond .ne 5, 3), (46, .iconst (-1), 1), (47, .ireturn, 1), (48, .aload_n 0, 1), (49, .invokevirtual 485, 3), (52, .aload_n 0, 1), (53, .getfield 93, 3), (56, .bipush 10, 2)] = true := by decide +kernel
theorem d_M_shift_0 : decode mM_shift.2.1 0 = .ok (.aload_n 0, 1) := dq_get dd_M_shift_0 (i := 0) rfl
theorem d_M_shift_1 : decode mM_shift.2.1 1 = .ok (.iload_n 1, 1) := dq_get dd_M_shift_0 (i := 1) rfl
theorem d_M_shift_2 : decode mM_shift.2.1 2 = .ok (.invokevirtual 461, 3) := dq_get dd_M_shift_0 (i := 2) rfl
theorem d_M_shift_5 : decode mM_shift.2.1 5 = .ok (.ifCond .eq 41, 3) := dq_get dd_M_shift_0 (i := 3) rfl
theorem d_M_shift_8 : decode mM_shift.2.1 8 = .ok (.iload_n 2, 1) := dq_get dd_M_shift_0 (i := 4) rfl
theorem d_M_shift_9 : decode mM_shift.2.1 9 = .ok (.ifCond .eq 37, 3) := dq_get dd_M_shift_0 (i := 5) rfl
theorem d_M_shift_12 : decode mM_shift.2.1 12 = .ok (.iload_n 2, 1) := dq_get dd_M_shift_0 (i := 6) rfl
theorem d_M_shift_13 : decode mM_shift.2.1 13 = .ok (.bipush (-7), 2) := dq_get dd_M_shift_0 (i := 7) rfl
theorem d_M_shift_15 : decode mM_shift.2.1 15 = .ok (.bipush 7, 2) := dq_get dd_M_shift_0 (i := 8) rfl
theorem d_M_shift_17 : decode mM_shift.2.1 17 = .ok (.invokestatic 429, 3) := dq_get dd_M_shift_0 (i := 9) rfl
theorem d_M_shift_20 : decode mM_shift.2.1 20 = .ok (.ifCond .eq 26, 3) := dq_get dd_M_shift_0 (i := 10) rfl
theorem d_M_shift_23 : decode mM_shift.2.1 23 = .ok (.aload_n 0, 1) := dq_get dd_M_shift_0 (i := 11) rfl
theorem d_M_shift_24 : decode mM_shift.2.1 24 = .ok (.getfield 93, 3) := dq_get dd_M_shift_0 (i := 12) rfl
theorem d_M_shift_27 : decode mM_shift.2.1 27 = .ok (.bipush 10, 2) := dq_get dd_M_shift_0 (i := 13) rfl
theorem d_M_shift_29 : decode mM_shift.2.1 29 = .ok (.iload_n 1, 1) := dq_get dd_M_shift_0 (i := 14) rfl
theorem d_M_shift_30 : decode mM_shift.2.1 30 = .ok (.iadd, 1) := dq_get dd_M_shift_0 (i := 15) rfl
theorem d_M_shift_31 : decode mM_shift.2.1 31 = .ok (.iaload, 1) := dq_get dd_M_shift_0 (i := 16) rfl
theorem d_M_shift_32 : decode mM_shift.2.1 32 = .ok (.bipush 12, 2) := dq_get dd_M_shift_0 (i := 17) rfl
theorem d_M_shift_34 : decode mM_shift.2.1 34 = .ok (.iload_n 2, 1) := dq_get dd_M_shift_0 (i := 18) rfl
theorem d_M_shift_35 : decode mM_shift.2.1 35 = .ok (.imul, 1) := dq_get dd_M_shift_0 (i := 19) rfl
theorem d_M_shift_36 : decode mM_shift.2.1 36 = .ok (.iadd, 1) := dq_get dd_M_shift_0 (i := 20) rfl
theorem d_M_shift_37 : decode mM_shift.2.1 37 = .ok (.iconst 0, 1) := dq_get dd_M_shift_0 (i := 21) rfl
theorem d_M_shift_38 : decode mM_shift.2.1 38 = .ok (.bipush 87, 2) := dq_get dd_M_shift_0 (i := 22) rfl
theorem d_M_shift_40 : decode mM_shift.2.1 40 = .ok (.invokestatic 429, 3) := dq_get dd_M_shift_0 (i := 23) rfl
theorem d_M_shift_43 : decode mM_shift.2.1 43 = .ok (.ifCond .ne 5, 3) := dq_get dd_M_shift_0 (i := 24) rfl
theorem d_M_shift_46 : decode mM_shift.2.1 46 = .ok (.iconst (-1), 1) := dq_get dd_M_shift_0 (i := 25) rfl
theorem d_M_shift_47 : decode mM_shift.2.1 47 = .ok (.ireturn, 1) := dq_get dd_M_shift_0 (i := 26) rfl
theorem d_M_shift_48 : decode mM_shift.2.1 48 = .ok (.aload_n 0, 1) := dq_get dd_M_shift_0 (i := 27) rfl
theorem d_M_shift_49 : decode mM_shift.2.1 49 = .ok (.invokevirtual 485, 3) := dq_get dd_M_shift_0 (i := 28) rfl
theorem d_M_shift_52 : decode mM_shift.2.1 52 = .ok (.aload_n 0, 1) := dq_get dd_M_shift_0 (i := 29) rfl
theorem d_M_shift_53 : decode mM_shift.2.1 53 = .ok (.getfield 93, 3) := dq_get dd_M_shift_0 (i := 30) rfl
theorem d_M_shift_56 : decode mM_shift.2.1 56 = .ok (.bipush 10, 2) := dq_get dd_M_shift_0 (i := 31) rfl
theorem dd_M_shift_32 : dq mM_shift.2.1 [(58, .iload_n 1, 1), (59, .iadd, 1), (60, .dup2, 1), (61, .iaload, 1), (62, .bipush 12, 2), (64, .iload_n 2, 1), (65, .imul, 1), (66, .iadd, 1), (67, .iastore, 1), (68, .aload_n 0, 1), (69, .getfield 93, 3), (72, .bipush 10, 2), (74, .iload_n 1, 1), (75, .iadd, 1), (76, .iaload, 1), (77, .ireturn, 1)] = true := by decide +kernel
theorem d_M_shift_58 : decode mM_shift.2.1 58 = .ok (.iload_n 1, 1) := dq_get dd_M_shift_32 (i := 0) rfl
theorem d_M_shift_59 : decode mM_shift.2.1 59 = .ok (.iadd, 1) := dq_get dd_M_shift_32 (i := 1) rfl
theorem d_M_shift_60 : decode mM_shift.2.1 60 = .ok (.dup2, 1) := dq_get dd_M_shift_32 (i := 2) rfl
theorem d_M_shift_61 : decode mM_shift.2.1 61 = .ok (.iaload, 1) := dq_get dd_M_shift_32 (i := 3) rfl
theorem d_M_shift_62 : decode mM_shift.2.1 62 = .ok (.bipush 12, 2) := dq_get dd_M_shift_32 (i := 4) rfl
theorem d_M_shift_64 : decode mM_shift.2.1 64 = .ok (.iload_n 2, 1) := dq_get dd_M_shift_32 (i := 5) rfl
theorem d_M_shift_65 : decode mM_shift.2.1 65 = .ok (.imul, 1) := dq_get dd_M_shift_32 (i := 6) rfl
theorem d_M_shift_66 : decode mM_shift.2.1 66 = .ok (.iadd, 1) := dq_get dd_M_shift_32 (i := 7) rfl
theorem d_M_shift_67 : decode mM_shift.2.1 67 = .ok (.iastore, 1) := dq_get dd_M_shift_32 (i := 8) rfl
theorem d_M_shift_68 : decode mM_shift.2.1 68 = .ok (.aload_n 0, 1) := dq_get dd_M_shift_32 (i := 9) rfl
theorem d_M_shift_69 : decode mM_shift.2.1 69 = .ok (.getfield 93, 3) := dq_get dd_M_shift_32 (i := 10) rfl
theorem d_M_shift_72 : decode mM_shift.2.1 72 = .ok (.bipush 10, 2) := dq_get dd_M_shift_32 (i := 11) rfl
theorem d_M_shift_74 : decode mM_shift.2.1 74 = .ok (.iload_n 1, 1) := dq_get dd_M_shift_32 (i := 12) rfl
theorem d_M_shift_75 : decode mM_shift.2.1 75 = .ok (.iadd, 1) := dq_get dd_M_shift_32 (i := 13) rfl
theorem d_M_shift_76 : decode mM_shift.2.1 76 = .ok (.iaload, 1) := dq_get dd_M_shift_32 (i := 14) rfl
theorem d_M_shift_77 : decode mM_shift.2.1 77 = .ok (.ireturn, 1) := dq_get dd_M_shift_32 (i := 15) rfl
theorem dd_M_louder_0 : dq mM_louder.2.1 [(0, .aload_n 0, 1), (1, .iload_n 1, 1), (2, .invokevirtual 461, 3), (5, .ifCond .eq 38, 3), (8, .iload_n 2, 1), (9, .iconst 1, 1), (10, .bipush 9, 2), (12, .invokestatic 429, 3), (15, .ifCond .eq 28, 3), (18, .aload_n 0, 1), (19, .getfield 93, 3), (22, .bipush 30, 2), (24, .iload_n 1, 1), (25, .iadd, 1), (26, .iaload, 1), (27, .iload_n 2, 1), (28, .if_icmp .eq 15, 3), (31, .aload_n 0, 1), (32, .bipush 30, 2), (34, .iload_n 1, 1), (35, .iadd, 1), (36, .iload_n 2, 1), (37, .invokevirtual 491, 3), (40, .goto 4, 3), (43, .iconst (-1), 1), (44, .ireturn, 1)] = true := by decide +kernel
theorem d_M_louder_0 : decode mM_louder.2.1 0 = .ok (.aload_n 0, 1) := dq_get dd_M_louder_0 (i := 0) rfl
theorem d_M_louder_1 : decode mM_louder.2.1 1 = .ok (.iload_n 1, 1) := dq_get dd_M_louder_0 (i := 1) rfl
theorem d_M_louder_2 : decode mM_louder.2.1 2 = .ok (.invokevirtual 461, 3) := dq_get dd_M_louder_0 (i := 2) rfl
theorem d_M_louder_5 : decode mM_louder.2.1 5 = .ok (.ifCond .eq 38, 3) := dq_get dd_M_louder_0 (i := 3) rfl
theorem d_M_louder_8 : decode mM_louder.2.1 8 = .ok (.iload_n 2, 1) := dq_get dd_M_louder_0 (i := 4) rfl
theorem d_M_louder_9 : decode mM_louder.2.1 9 = .ok (.iconst 1, 1) := dq_get dd_M_louder_0 (i := 5) rfl
theorem d_M_louder_10 : decode mM_louder.2.1 10 = .ok (.bipush 9, 2) := dq_get dd_M_louder_0 (i := 6) rfl
theorem d_M_louder_12 : decode mM_louder.2.1 12 = .ok (.invokestatic 429, 3) := dq_get dd_M_louder_0 (i := 7) rfl
theorem d_M_louder_15 : decode mM_louder.2.1 15 = .ok (.ifCond .eq 28, 3) := dq_get dd_M_louder_0 (i := 8) rfl
theorem d_M_louder_18 : decode mM_louder.2.1 18 = .ok (.aload_n 0, 1) := dq_get dd_M_louder_0 (i := 9) rfl
theorem d_M_louder_19 : decode mM_louder.2.1 19 = .ok (.getfield 93, 3) := dq_get dd_M_louder_0 (i := 10) rfl
theorem d_M_louder_22 : decode mM_louder.2.1 22 = .ok (.bipush 30, 2) := dq_get dd_M_louder_0 (i := 11) rfl
theorem d_M_louder_24 : decode mM_louder.2.1 24 = .ok (.iload_n 1, 1) := dq_get dd_M_louder_0 (i := 12) rfl
theorem d_M_louder_25 : decode mM_louder.2.1 25 = .ok (.iadd, 1) := dq_get dd_M_louder_0 (i := 13) rfl
theorem d_M_louder_26 : decode mM_louder.2.1 26 = .ok (.iaload, 1) := dq_get dd_M_louder_0 (i := 14) rfl
theorem d_M_louder_27 : decode mM_louder.2.1 27 = .ok (.iload_n 2, 1) := dq_get dd_M_louder_0 (i := 15) rfl
theorem d_M_louder_28 : decode mM_louder.2.1 28 = .ok (.if_icmp .eq 15, 3) := dq_get dd_M_louder_0 (i := 16) rfl
theorem d_M_louder_31 : decode mM_louder.2.1 31 = .ok (.aload_n 0, 1) := dq_get dd_M_louder_0 (i := 17) rfl
theorem d_M_louder_32 : decode mM_louder.2.1 32 = .ok (.bipush 30, 2) := dq_get dd_M_louder_0 (i := 18) rfl
theorem d_M_louder_34 : decode mM_louder.2.1 34 = .ok (.iload_n 1, 1) := dq_get dd_M_louder_0 (i := 19) rfl
theorem d_M_louder_35 : decode mM_louder.2.1 35 = .ok (.iadd, 1) := dq_get dd_M_louder_0 (i := 20) rfl
theorem d_M_louder_36 : decode mM_louder.2.1 36 = .ok (.iload_n 2, 1) := dq_get dd_M_louder_0 (i := 21) rfl
theorem d_M_louder_37 : decode mM_louder.2.1 37 = .ok (.invokevirtual 491, 3) := dq_get dd_M_louder_0 (i := 22) rfl
theorem d_M_louder_40 : decode mM_louder.2.1 40 = .ok (.goto 4, 3) := dq_get dd_M_louder_0 (i := 23) rfl
theorem d_M_louder_43 : decode mM_louder.2.1 43 = .ok (.iconst (-1), 1) := dq_get dd_M_louder_0 (i := 24) rfl
theorem d_M_louder_44 : decode mM_louder.2.1 44 = .ok (.ireturn, 1) := dq_get dd_M_louder_0 (i := 25) rfl
theorem dd_M_change_0 : dq mM_change.2.1 [(0, .aload_n 0, 1), (1, .invokevirtual 485, 3), (4, .aload_n 0, 1), (5, .getfield 93, 3), (8, .iload_n 1, 1), (9, .iaload, 1), (10, .istore_n 3, 1), (11, .aload_n 0, 1), (12, .getfield 93, 3), (15, .iload_n 1, 1), (16, .iload_n 2, 1), (17, .iastore, 1), (18, .iload_n 3, 1), (19, .ireturn, 1)] = true := by decide +kernel
theorem d_M_change_0 : decode mM_change.2.1 0 = .ok (.aload_n 0, 1) := dq_get dd_M_change_0 (i := 0) rfl
theorem d_M_change_1 : decode mM_change.2.1 1 = .ok (.invokevirtual 485, 3) := dq_get dd_M_change_0 (i := 1) rfl
theorem d_M_change_4 : decode mM_change.2.1 4 = .ok (.aload_n 0, 1) := dq_get dd_M_change_0 (i := 2) rfl
theorem d_M_change_5 : decode mM_change.2.1 5 = .ok (.getfield 93, 3) := dq_get dd_M_change_0 (i := 3) rfl
theorem d_M_change_8 : decode mM_change.2.1 8 = .ok (.iload_n 1, 1) := dq_get dd_M_change_0 (i := 4) rfl
theorem d_M_change_9 : decode mM_change.2.1 9 = .ok (.iaload, 1) := dq_get dd_M_change_0 (i := 5) rfl
theorem d_M_change_10 : decode mM_change.2.1 10 = .ok (.istore_n 3, 1) := dq_get dd_M_change_0 (i := 6) rfl
theorem d_M_change_11 : decode mM_change.2.1 11 = .ok (.aload_n 0, 1) := dq_get dd_M_change_0 (i := 7) rfl
theorem d_M_change_12 : decode mM_change.2.1 12 = .ok (.getfield 93, 3) := dq_get dd_M_change_0 (i := 8) rfl
theorem d_M_change_15 : decode mM_change.2.1 15 = .ok (.iload_n 1, 1) := dq_get dd_M_change_0 (i := 9) rfl
theorem d_M_change_16 : decode mM_change.2.1 16 = .ok (.iload_n 2, 1) := dq_get dd_M_change_0 (i := 10) rfl
theorem d_M_change_17 : decode mM_change.2.1 17 = .ok (.iastore, 1) := dq_get dd_M_change_0 (i := 11) rfl
theorem d_M_change_18 : decode mM_change.2.1 18 = .ok (.iload_n 3, 1) := dq_get dd_M_change_0 (i := 12) rfl
theorem d_M_change_19 : decode mM_change.2.1 19 = .ok (.ireturn, 1) := dq_get dd_M_change_0 (i := 13) rfl
theorem dd_M_last_0 : dq mM_last.2.1 [(0, .aload_n 0, 1), (1, .iload_n 1, 1), (2, .invokevirtual 461, 3), (5, .ifCond .eq 38, 3), (8, .iload_n 2, 1), (9, .iconst 1, 1), (10, .bipush 12, 2), (12, .invokestatic 429, 3), (15, .ifCond .eq 28, 3), (18, .aload_n 0, 1), (19, .getfield 93, 3), (22, .bipush 20, 2), (24, .iload_n 1, 1), (25, .iadd, 1), (26, .iaload, 1), (27, .iload_n 2, 1), (28, .if_icmp .eq 15, 3), (31, .aload_n 0, 1), (32, .bipush 20, 2), (34, .iload_n 1, 1), (35, .iadd, 1), (36, .iload_n 2, 1), (37, .invokevirtual 491, 3), (40, .goto 4, 3), (43, .iconst (-1), 1), (44, .ireturn, 1)] = true := by decide +kernel
theorem d_M_last_0 : decode mM_last.2.1 0 = .ok (.aload_n 0, 1) := dq_get dd_M_last_0 (i := 0) rfl
theorem d_M_last_1 : decode mM_last.2.1 1 = .ok (.iload_n 1, 1) := dq_get dd_M_last_0 (i := 1) rfl
theorem d_M_last_2 : decode mM_last.2.1 2 = .ok (.invokevirtual 461, 3) := dq_get dd_M_last_0 (i := 2) rfl
theorem d_M_last_5 : decode mM_last.2.1 5 = .ok (.ifCond .eq 38, 3) := dq_get dd_M_last_0 (i := 3) rfl
theorem d_M_last_8 : decode mM_last.2.1 8 = .ok (.iload_n 2, 1) := dq_get dd_M_last_0 (i := 4) rfl
theorem d_M_last_9 : decode mM_last.2.1 9 = .ok (.iconst 1, 1) := dq_get dd_M_last_0 (i := 5) rfl
theorem d_M_last_10 : decode mM_last.2.1 10 = .ok (.bipush 12, 2) := dq_get dd_M_last_0 (i := 6) rfl
theorem d_M_last_12 : decode mM_last.2.1 12 = .ok (.invokestatic 429, 3) := dq_get dd_M_last_0 (i := 7) rfl
theorem d_M_last_15 : decode mM_last.2.1 15 = .ok (.ifCond .eq 28, 3) := dq_get dd_M_last_0 (i := 8) rfl
theorem d_M_last_18 : decode mM_last.2.1 18 = .ok (.aload_n 0, 1) := dq_get dd_M_last_0 (i := 9) rfl
theorem d_M_last_19 : decode mM_last.2.1 19 = .ok (.getfield 93, 3) := dq_get dd_M_last_0 (i := 10) rfl
theorem d_M_last_22 : decode mM_last.2.1 22 = .ok (.bipush 20, 2) := dq_get dd_M_last_0 (i := 11) rfl
theorem d_M_last_24 : decode mM_last.2.1 24 = .ok (.iload_n 1, 1) := dq_get dd_M_last_0 (i := 12) rfl
theorem d_M_last_25 : decode mM_last.2.1 25 = .ok (.iadd, 1) := dq_get dd_M_last_0 (i := 13) rfl
theorem d_M_last_26 : decode mM_last.2.1 26 = .ok (.iaload, 1) := dq_get dd_M_last_0 (i := 14) rfl
theorem d_M_last_27 : decode mM_last.2.1 27 = .ok (.iload_n 2, 1) := dq_get dd_M_last_0 (i := 15) rfl
theorem d_M_last_28 : decode mM_last.2.1 28 = .ok (.if_icmp .eq 15, 3) := dq_get dd_M_last_0 (i := 16) rfl
theorem d_M_last_31 : decode mM_last.2.1 31 = .ok (.aload_n 0, 1) := dq_get dd_M_last_0 (i := 17) rfl
theorem d_M_last_32 : decode mM_last.2.1 32 = .ok (.bipush 20, 2) := dq_get dd_M_last_0 (i := 18) rfl
theorem d_M_last_34 : decode mM_last.2.1 34 = .ok (.iload_n 1, 1) := dq_get dd_M_last_0 (i := 19) rfl
theorem d_M_last_35 : decode mM_last.2.1 35 = .ok (.iadd, 1) := dq_get dd_M_last_0 (i := 20) rfl
theorem d_M_last_36 : decode mM_last.2.1 36 = .ok (.iload_n 2, 1) := dq_get dd_M_last_0 (i := 21) rfl
theorem d_M_last_37 : decode mM_last.2.1 37 = .ok (.invokevirtual 491, 3) := dq_get dd_M_last_0 (i := 22) rfl
theorem d_M_last_40 : decode mM_last.2.1 40 = .ok (.goto 4, 3) := dq_get dd_M_last_0 (i := 23) rfl
theorem d_M_last_43 : decode mM_last.2.1 43 = .ok (.iconst (-1), 1) := dq_get dd_M_last_0 (i := 24) rfl
theorem d_M_last_44 : decode mM_last.2.1 44 = .ok (.ireturn, 1) := dq_get dd_M_last_0 (i := 25) rfl
theorem dd_M_pedal_0 : dq mM_pedal.2.1 [(0, .aload_n 0, 1), (1, .iload_n 1, 1), (2, .invokevirtual 473, 3), (5, .ifCond .ne 5, 3), (8, .iconst (-1), 1), (9, .ireturn, 1), (10, .aload_n 0, 1), (11, .invokevirtual 485, 3), (14, .aload_n 0, 1), (15, .getfield 93, 3), (18, .bipush 40, 2), (20, .dup2, 1), (21, .iaload, 1), (22, .iconst 1, 1), (23, .iload_n 1, 1), (24, .ishl, 1), (25, .ixor, 1), (26, .iastore, 1), (27, .aload_n 0, 1), (28, .getfield 93, 3), (31, .bipush 40, 2), (33, .iaload, 1), (34, .ireturn, 1)] = true := by decide +kernel
theorem d_M_pedal_0 : decode mM_pedal.2.1 0 = .ok (.aload_n 0, 1) := dq_get dd_M_pedal_0 (i := 0) rfl
theorem d_M_pedal_1 : decode mM_pedal.2.1 1 = .ok (.iload_n 1, 1) := dq_get dd_M_pedal_0 (i := 1) rfl
theorem d_M_pedal_2 : decode mM_pedal.2.1 2 = .ok (.invokevirtual 473, 3) := dq_get dd_M_pedal_0 (i := 2) rfl
theorem d_M_pedal_5 : decode mM_pedal.2.1 5 = .ok (.ifCond .ne 5, 3) := dq_get dd_M_pedal_0 (i := 3) rfl
theorem d_M_pedal_8 : decode mM_pedal.2.1 8 = .ok (.iconst (-1), 1) := dq_get dd_M_pedal_0 (i := 4) rfl
theorem d_M_pedal_9 : decode mM_pedal.2.1 9 = .ok (.ireturn, 1) := dq_get dd_M_pedal_0 (i := 5) rfl
theorem d_M_pedal_10 : decode mM_pedal.2.1 10 = .ok (.aload_n 0, 1) := dq_get dd_M_pedal_0 (i := 6) rfl
theorem d_M_pedal_11 : decode mM_pedal.2.1 11 = .ok (.invokevirtual 485, 3) := dq_get dd_M_pedal_0 (i := 7) rfl
theorem d_M_pedal_14 : decode mM_pedal.2.1 14 = .ok (.aload_n 0, 1) := dq_get dd_M_pedal_0 (i := 8) rfl
theorem d_M_pedal_15 : decode mM_pedal.2.1 15 = .ok (.getfield 93, 3) := dq_get dd_M_pedal_0 (i := 9) rfl
theorem d_M_pedal_18 : decode mM_pedal.2.1 18 = .ok (.bipush 40, 2) := dq_get dd_M_pedal_0 (i := 10) rfl
theorem d_M_pedal_20 : decode mM_pedal.2.1 20 = .ok (.dup2, 1) := dq_get dd_M_pedal_0 (i := 11) rfl
theorem d_M_pedal_21 : decode mM_pedal.2.1 21 = .ok (.iaload, 1) := dq_get dd_M_pedal_0 (i := 12) rfl
theorem d_M_pedal_22 : decode mM_pedal.2.1 22 = .ok (.iconst 1, 1) := dq_get dd_M_pedal_0 (i := 13) rfl
theorem d_M_pedal_23 : decode mM_pedal.2.1 23 = .ok (.iload_n 1, 1) := dq_get dd_M_pedal_0 (i := 14) rfl
theorem d_M_pedal_24 : decode mM_pedal.2.1 24 = .ok (.ishl, 1) := dq_get dd_M_pedal_0 (i := 15) rfl
theorem d_M_pedal_25 : decode mM_pedal.2.1 25 = .ok (.ixor, 1) := dq_get dd_M_pedal_0 (i := 16) rfl
theorem d_M_pedal_26 : decode mM_pedal.2.1 26 = .ok (.iastore, 1) := dq_get dd_M_pedal_0 (i := 17) rfl
theorem d_M_pedal_27 : decode mM_pedal.2.1 27 = .ok (.aload_n 0, 1) := dq_get dd_M_pedal_0 (i := 18) rfl
theorem d_M_pedal_28 : decode mM_pedal.2.1 28 = .ok (.getfield 93, 3) := dq_get dd_M_pedal_0 (i := 19) rfl
theorem d_M_pedal_31 : decode mM_pedal.2.1 31 = .ok (.bipush 40, 2) := dq_get dd_M_pedal_0 (i := 20) rfl
theorem d_M_pedal_33 : decode mM_pedal.2.1 33 = .ok (.iaload, 1) := dq_get dd_M_pedal_0 (i := 21) rfl
theorem d_M_pedal_34 : decode mM_pedal.2.1 34 = .ok (.ireturn, 1) := dq_get dd_M_pedal_0 (i := 22) rfl
theorem dd_M_undo_0 : dq mM_undo.2.1 [(0, .aload_n 0, 1), (1, .getfield 417, 3), (4, .ifCond .ne 5, 3), (7, .iconst 0, 1), (8, .ireturn, 1), (9, .aload_n 0, 1), (10, .dup, 1), (11, .getfield 417, 3), (14, .iconst 1, 1), (15, .isub, 1), (16, .putfield 417, 3), (19, .aload_n 0, 1), (20, .dup, 1), (21, .getfield 420, 3), (24, .iconst 1, 1), (25, .iadd, 1), (26, .putfield 420, 3), (29, .aload_n 0, 1), (30, .bipush 41, 2), (32, .aload_n 0, 1), (33, .getfield 417, 3), (36, .imul, 1), (37, .invokevirtual 494, 3), (40, .iconst 1, 1), (41, .ireturn, 1)] = true := by decide +kernel
theorem d_M_undo_0 : decode mM_undo.2.1 0 = .ok (.aload_n 0, 1) := dq_get dd_M_undo_0 (i := 0) rfl
theorem d_M_undo_1 : decode mM_undo.2.1 1 = .ok (.getfield 417, 3) := dq_get dd_M_undo_0 (i := 1) rfl
theorem d_M_undo_4 : decode mM_undo.2.1 4 = .ok (.ifCond .ne 5, 3) := dq_get dd_M_undo_0 (i := 2) rfl
theorem d_M_undo_7 : decode mM_undo.2.1 7 = .ok (.iconst 0, 1) := dq_get dd_M_undo_0 (i := 3) rfl
theorem d_M_undo_8 : decode mM_undo.2.1 8 = .ok (.ireturn, 1) := dq_get dd_M_undo_0 (i := 4) rfl
theorem d_M_undo_9 : decode mM_undo.2.1 9 = .ok (.aload_n 0, 1) := dq_get dd_M_undo_0 (i := 5) rfl
theorem d_M_undo_10 : decode mM_undo.2.1 10 = .ok (.dup, 1) := dq_get dd_M_undo_0 (i := 6) rfl
theorem d_M_undo_11 : decode mM_undo.2.1 11 = .ok (.getfield 417, 3) := dq_get dd_M_undo_0 (i := 7) rfl
theorem d_M_undo_14 : decode mM_undo.2.1 14 = .ok (.iconst 1, 1) := dq_get dd_M_undo_0 (i := 8) rfl
theorem d_M_undo_15 : decode mM_undo.2.1 15 = .ok (.isub, 1) := dq_get dd_M_undo_0 (i := 9) rfl
theorem d_M_undo_16 : decode mM_undo.2.1 16 = .ok (.putfield 417, 3) := dq_get dd_M_undo_0 (i := 10) rfl
theorem d_M_undo_19 : decode mM_undo.2.1 19 = .ok (.aload_n 0, 1) := dq_get dd_M_undo_0 (i := 11) rfl
theorem d_M_undo_20 : decode mM_undo.2.1 20 = .ok (.dup, 1) := dq_get dd_M_undo_0 (i := 12) rfl
theorem d_M_undo_21 : decode mM_undo.2.1 21 = .ok (.getfield 420, 3) := dq_get dd_M_undo_0 (i := 13) rfl
theorem d_M_undo_24 : decode mM_undo.2.1 24 = .ok (.iconst 1, 1) := dq_get dd_M_undo_0 (i := 14) rfl
theorem d_M_undo_25 : decode mM_undo.2.1 25 = .ok (.iadd, 1) := dq_get dd_M_undo_0 (i := 15) rfl
theorem d_M_undo_26 : decode mM_undo.2.1 26 = .ok (.putfield 420, 3) := dq_get dd_M_undo_0 (i := 16) rfl
theorem d_M_undo_29 : decode mM_undo.2.1 29 = .ok (.aload_n 0, 1) := dq_get dd_M_undo_0 (i := 17) rfl
theorem d_M_undo_30 : decode mM_undo.2.1 30 = .ok (.bipush 41, 2) := dq_get dd_M_undo_0 (i := 18) rfl
theorem d_M_undo_32 : decode mM_undo.2.1 32 = .ok (.aload_n 0, 1) := dq_get dd_M_undo_0 (i := 19) rfl
theorem d_M_undo_33 : decode mM_undo.2.1 33 = .ok (.getfield 417, 3) := dq_get dd_M_undo_0 (i := 20) rfl
theorem d_M_undo_36 : decode mM_undo.2.1 36 = .ok (.imul, 1) := dq_get dd_M_undo_0 (i := 21) rfl
theorem d_M_undo_37 : decode mM_undo.2.1 37 = .ok (.invokevirtual 494, 3) := dq_get dd_M_undo_0 (i := 22) rfl
theorem d_M_undo_40 : decode mM_undo.2.1 40 = .ok (.iconst 1, 1) := dq_get dd_M_undo_0 (i := 23) rfl
theorem d_M_undo_41 : decode mM_undo.2.1 41 = .ok (.ireturn, 1) := dq_get dd_M_undo_0 (i := 24) rfl
theorem dd_M_exchange_0 : dq mM_exchange.2.1 [(0, .iconst 0, 1), (1, .istore_n 2, 1), (2, .iload_n 2, 1), (3, .bipush 41, 2), (5, .if_icmp .ge 39, 3), (8, .aload_n 0, 1), (9, .getfield 105, 3), (12, .iload_n 1, 1), (13, .iload_n 2, 1), (14, .iadd, 1), (15, .iaload, 1), (16, .istore_n 3, 1), (17, .aload_n 0, 1), (18, .getfield 105, 3), (21, .iload_n 1, 1), (22, .iload_n 2, 1), (23, .iadd, 1), (24, .aload_n 0, 1), (25, .getfield 93, 3), (28, .iload_n 2, 1), (29, .iaload, 1), (30, .iastore, 1), (31, .aload_n 0, 1), (32, .getfield 93, 3), (35, .iload_n 2, 1), (36, .iload_n 3, 1), (37, .iastore, 1), (38, .iinc 2 1, 3), (41, .goto (-39), 3), (44, .return_, 1)] = true := by decide +kernel
theorem d_M_exchange_0 : decode mM_exchange.2.1 0 = .ok (.iconst 0, 1) := dq_get dd_M_exchange_0 (i := 0) rfl
theorem d_M_exchange_1 : decode mM_exchange.2.1 1 = .ok (.istore_n 2, 1) := dq_get dd_M_exchange_0 (i := 1) rfl
theorem d_M_exchange_2 : decode mM_exchange.2.1 2 = .ok (.iload_n 2, 1) := dq_get dd_M_exchange_0 (i := 2) rfl
theorem d_M_exchange_3 : decode mM_exchange.2.1 3 = .ok (.bipush 41, 2) := dq_get dd_M_exchange_0 (i := 3) rfl
theorem d_M_exchange_5 : decode mM_exchange.2.1 5 = .ok (.if_icmp .ge 39, 3) := dq_get dd_M_exchange_0 (i := 4) rfl
theorem d_M_exchange_8 : decode mM_exchange.2.1 8 = .ok (.aload_n 0, 1) := dq_get dd_M_exchange_0 (i := 5) rfl
theorem d_M_exchange_9 : decode mM_exchange.2.1 9 = .ok (.getfield 105, 3) := dq_get dd_M_exchange_0 (i := 6) rfl
theorem d_M_exchange_12 : decode mM_exchange.2.1 12 = .ok (.iload_n 1, 1) := dq_get dd_M_exchange_0 (i := 7) rfl
theorem d_M_exchange_13 : decode mM_exchange.2.1 13 = .ok (.iload_n 2, 1) := dq_get dd_M_exchange_0 (i := 8) rfl
theorem d_M_exchange_14 : decode mM_exchange.2.1 14 = .ok (.iadd, 1) := dq_get dd_M_exchange_0 (i := 9) rfl
theorem d_M_exchange_15 : decode mM_exchange.2.1 15 = .ok (.iaload, 1) := dq_get dd_M_exchange_0 (i := 10) rfl
theorem d_M_exchange_16 : decode mM_exchange.2.1 16 = .ok (.istore_n 3, 1) := dq_get dd_M_exchange_0 (i := 11) rfl
theorem d_M_exchange_17 : decode mM_exchange.2.1 17 = .ok (.aload_n 0, 1) := dq_get dd_M_exchange_0 (i := 12) rfl
theorem d_M_exchange_18 : decode mM_exchange.2.1 18 = .ok (.getfield 105, 3) := dq_get dd_M_exchange_0 (i := 13) rfl
theorem d_M_exchange_21 : decode mM_exchange.2.1 21 = .ok (.iload_n 1, 1) := dq_get dd_M_exchange_0 (i := 14) rfl
theorem d_M_exchange_22 : decode mM_exchange.2.1 22 = .ok (.iload_n 2, 1) := dq_get dd_M_exchange_0 (i := 15) rfl
theorem d_M_exchange_23 : decode mM_exchange.2.1 23 = .ok (.iadd, 1) := dq_get dd_M_exchange_0 (i := 16) rfl
theorem d_M_exchange_24 : decode mM_exchange.2.1 24 = .ok (.aload_n 0, 1) := dq_get dd_M_exchange_0 (i := 17) rfl
theorem d_M_exchange_25 : decode mM_exchange.2.1 25 = .ok (.getfield 93, 3) := dq_get dd_M_exchange_0 (i := 18) rfl
theorem d_M_exchange_28 : decode mM_exchange.2.1 28 = .ok (.iload_n 2, 1) := dq_get dd_M_exchange_0 (i := 19) rfl
theorem d_M_exchange_29 : decode mM_exchange.2.1 29 = .ok (.iaload, 1) := dq_get dd_M_exchange_0 (i := 20) rfl
theorem d_M_exchange_30 : decode mM_exchange.2.1 30 = .ok (.iastore, 1) := dq_get dd_M_exchange_0 (i := 21) rfl
theorem d_M_exchange_31 : decode mM_exchange.2.1 31 = .ok (.aload_n 0, 1) := dq_get dd_M_exchange_0 (i := 22) rfl
theorem d_M_exchange_32 : decode mM_exchange.2.1 32 = .ok (.getfield 93, 3) := dq_get dd_M_exchange_0 (i := 23) rfl
theorem d_M_exchange_35 : decode mM_exchange.2.1 35 = .ok (.iload_n 2, 1) := dq_get dd_M_exchange_0 (i := 24) rfl
theorem d_M_exchange_36 : decode mM_exchange.2.1 36 = .ok (.iload_n 3, 1) := dq_get dd_M_exchange_0 (i := 25) rfl
theorem d_M_exchange_37 : decode mM_exchange.2.1 37 = .ok (.iastore, 1) := dq_get dd_M_exchange_0 (i := 26) rfl
theorem d_M_exchange_38 : decode mM_exchange.2.1 38 = .ok (.iinc 2 1, 3) := dq_get dd_M_exchange_0 (i := 27) rfl
theorem d_M_exchange_41 : decode mM_exchange.2.1 41 = .ok (.goto (-39), 3) := dq_get dd_M_exchange_0 (i := 28) rfl
theorem d_M_exchange_44 : decode mM_exchange.2.1 44 = .ok (.return_, 1) := dq_get dd_M_exchange_0 (i := 29) rfl
theorem dd_M_redo_0 : dq mM_redo.2.1 [(0, .aload_n 0, 1), (1, .getfield 420, 3), (4, .ifCond .ne 5, 3), (7, .iconst 0, 1), (8, .ireturn, 1), (9, .aload_n 0, 1), (10, .bipush 41, 2), (12, .aload_n 0, 1), (13, .getfield 417, 3), (16, .imul, 1), (17, .invokevirtual 494, 3), (20, .aload_n 0, 1), (21, .dup, 1), (22, .getfield 417, 3), (25, .iconst 1, 1), (26, .iadd, 1), (27, .putfield 417, 3), (30, .aload_n 0, 1), (31, .dup, 1), (32, .getfield 420, 3), (35, .iconst 1, 1), (36, .isub, 1), (37, .putfield 420, 3), (40, .iconst 1, 1), (41, .ireturn, 1)] = true := by decide +kernel
theorem d_M_redo_0 : decode mM_redo.2.1 0 = .ok (.aload_n 0, 1) := dq_get dd_M_redo_0 (i := 0) rfl
theorem d_M_redo_1 : decode mM_redo.2.1 1 = .ok (.getfield 420, 3) := dq_get dd_M_redo_0 (i := 1) rfl
theorem d_M_redo_4 : decode mM_redo.2.1 4 = .ok (.ifCond .ne 5, 3) := dq_get dd_M_redo_0 (i := 2) rfl
theorem d_M_redo_7 : decode mM_redo.2.1 7 = .ok (.iconst 0, 1) := dq_get dd_M_redo_0 (i := 3) rfl
theorem d_M_redo_8 : decode mM_redo.2.1 8 = .ok (.ireturn, 1) := dq_get dd_M_redo_0 (i := 4) rfl
theorem d_M_redo_9 : decode mM_redo.2.1 9 = .ok (.aload_n 0, 1) := dq_get dd_M_redo_0 (i := 5) rfl
theorem d_M_redo_10 : decode mM_redo.2.1 10 = .ok (.bipush 41, 2) := dq_get dd_M_redo_0 (i := 6) rfl
theorem d_M_redo_12 : decode mM_redo.2.1 12 = .ok (.aload_n 0, 1) := dq_get dd_M_redo_0 (i := 7) rfl
theorem d_M_redo_13 : decode mM_redo.2.1 13 = .ok (.getfield 417, 3) := dq_get dd_M_redo_0 (i := 8) rfl
theorem d_M_redo_16 : decode mM_redo.2.1 16 = .ok (.imul, 1) := dq_get dd_M_redo_0 (i := 9) rfl
theorem d_M_redo_17 : decode mM_redo.2.1 17 = .ok (.invokevirtual 494, 3) := dq_get dd_M_redo_0 (i := 10) rfl
theorem d_M_redo_20 : decode mM_redo.2.1 20 = .ok (.aload_n 0, 1) := dq_get dd_M_redo_0 (i := 11) rfl
theorem d_M_redo_21 : decode mM_redo.2.1 21 = .ok (.dup, 1) := dq_get dd_M_redo_0 (i := 12) rfl
theorem d_M_redo_22 : decode mM_redo.2.1 22 = .ok (.getfield 417, 3) := dq_get dd_M_redo_0 (i := 13) rfl
theorem d_M_redo_25 : decode mM_redo.2.1 25 = .ok (.iconst 1, 1) := dq_get dd_M_redo_0 (i := 14) rfl
theorem d_M_redo_26 : decode mM_redo.2.1 26 = .ok (.iadd, 1) := dq_get dd_M_redo_0 (i := 15) rfl
theorem d_M_redo_27 : decode mM_redo.2.1 27 = .ok (.putfield 417, 3) := dq_get dd_M_redo_0 (i := 16) rfl
theorem d_M_redo_30 : decode mM_redo.2.1 30 = .ok (.aload_n 0, 1) := dq_get dd_M_redo_0 (i := 17) rfl
theorem d_M_redo_31 : decode mM_redo.2.1 31 = .ok (.dup, 1) := dq_get dd_M_redo_0 (i := 18) rfl
theorem d_M_redo_32 : decode mM_redo.2.1 32 = .ok (.getfield 420, 3) := dq_get dd_M_redo_0 (i := 19) rfl
theorem d_M_redo_35 : decode mM_redo.2.1 35 = .ok (.iconst 1, 1) := dq_get dd_M_redo_0 (i := 20) rfl
theorem d_M_redo_36 : decode mM_redo.2.1 36 = .ok (.isub, 1) := dq_get dd_M_redo_0 (i := 21) rfl
theorem d_M_redo_37 : decode mM_redo.2.1 37 = .ok (.putfield 420, 3) := dq_get dd_M_redo_0 (i := 22) rfl
theorem d_M_redo_40 : decode mM_redo.2.1 40 = .ok (.iconst 1, 1) := dq_get dd_M_redo_0 (i := 23) rfl
theorem d_M_redo_41 : decode mM_redo.2.1 41 = .ok (.ireturn, 1) := dq_get dd_M_redo_0 (i := 24) rfl
theorem dd_M_loss_0 : dq mM_loss.2.1 [(0, .aload_n 0, 1), (1, .invokevirtual 464, 3), (4, .aload_n 0, 1), (5, .invokevirtual 497, 3), (8, .aload_n 0, 1), (9, .aload_n 0, 1), (10, .iconst 0, 1), (11, .invokevirtual 454, 3), (14, .invokevirtual 500, 3), (17, .ireturn, 1)] = true := by decide +kernel
theorem d_M_loss_0 : decode mM_loss.2.1 0 = .ok (.aload_n 0, 1) := dq_get dd_M_loss_0 (i := 0) rfl
theorem d_M_loss_1 : decode mM_loss.2.1 1 = .ok (.invokevirtual 464, 3) := dq_get dd_M_loss_0 (i := 1) rfl
theorem d_M_loss_4 : decode mM_loss.2.1 4 = .ok (.aload_n 0, 1) := dq_get dd_M_loss_0 (i := 2) rfl
theorem d_M_loss_5 : decode mM_loss.2.1 5 = .ok (.invokevirtual 497, 3) := dq_get dd_M_loss_0 (i := 3) rfl
theorem d_M_loss_8 : decode mM_loss.2.1 8 = .ok (.aload_n 0, 1) := dq_get dd_M_loss_0 (i := 4) rfl
theorem d_M_loss_9 : decode mM_loss.2.1 9 = .ok (.aload_n 0, 1) := dq_get dd_M_loss_0 (i := 5) rfl
theorem d_M_loss_10 : decode mM_loss.2.1 10 = .ok (.iconst 0, 1) := dq_get dd_M_loss_0 (i := 6) rfl
theorem d_M_loss_11 : decode mM_loss.2.1 11 = .ok (.invokevirtual 454, 3) := dq_get dd_M_loss_0 (i := 7) rfl
theorem d_M_loss_14 : decode mM_loss.2.1 14 = .ok (.invokevirtual 500, 3) := dq_get dd_M_loss_0 (i := 8) rfl
theorem d_M_loss_17 : decode mM_loss.2.1 17 = .ok (.ireturn, 1) := dq_get dd_M_loss_0 (i := 9) rfl
theorem dd_M_layMissed_0 : dq mM_layMissed.2.1 [(0, .iconst 0, 1), (1, .istore_n 1, 1), (2, .iload_n 1, 1), (3, .aload_n 0, 1), (4, .getfield 322, 3), (7, .if_icmp .ge 20, 3), (10, .aload_n 0, 1), (11, .getfield 114, 3), (14, .iload_n 1, 1), (15, .aload_n 0, 1), (16, .iload_n 1, 1), (17, .invokevirtual 467, 3), (20, .iastore, 1), (21, .iinc 1 1, 3), (24, .goto (-22), 3), (27, .return_, 1)] = true := by decide +kernel
theorem d_M_layMissed_0 : decode mM_layMissed.2.1 0 = .ok (.iconst 0, 1) := dq_get dd_M_layMissed_0 (i := 0) rfl
theorem d_M_layMissed_1 : decode mM_layMissed.2.1 1 = .ok (.istore_n 1, 1) := dq_get dd_M_layMissed_0 (i := 1) rfl
theorem d_M_layMissed_2 : decode mM_layMissed.2.1 2 = .ok (.iload_n 1, 1) := dq_get dd_M_layMissed_0 (i := 2) rfl
theorem d_M_layMissed_3 : decode mM_layMissed.2.1 3 = .ok (.aload_n 0, 1) := dq_get dd_M_layMissed_0 (i := 3) rfl
theorem d_M_layMissed_4 : decode mM_layMissed.2.1 4 = .ok (.getfield 322, 3) := dq_get dd_M_layMissed_0 (i := 4) rfl
theorem d_M_layMissed_7 : decode mM_layMissed.2.1 7 = .ok (.if_icmp .ge 20, 3) := dq_get dd_M_layMissed_0 (i := 5) rfl
theorem d_M_layMissed_10 : decode mM_layMissed.2.1 10 = .ok (.aload_n 0, 1) := dq_get dd_M_layMissed_0 (i := 6) rfl
theorem d_M_layMissed_11 : decode mM_layMissed.2.1 11 = .ok (.getfield 114, 3) := dq_get dd_M_layMissed_0 (i := 7) rfl
theorem d_M_layMissed_14 : decode mM_layMissed.2.1 14 = .ok (.iload_n 1, 1) := dq_get dd_M_layMissed_0 (i := 8) rfl
theorem d_M_layMissed_15 : decode mM_layMissed.2.1 15 = .ok (.aload_n 0, 1) := dq_get dd_M_layMissed_0 (i := 9) rfl
theorem d_M_layMissed_16 : decode mM_layMissed.2.1 16 = .ok (.iload_n 1, 1) := dq_get dd_M_layMissed_0 (i := 10) rfl
theorem d_M_layMissed_17 : decode mM_layMissed.2.1 17 = .ok (.invokevirtual 467, 3) := dq_get dd_M_layMissed_0 (i := 11) rfl
theorem d_M_layMissed_20 : decode mM_layMissed.2.1 20 = .ok (.iastore, 1) := dq_get dd_M_layMissed_0 (i := 12) rfl
theorem d_M_layMissed_21 : decode mM_layMissed.2.1 21 = .ok (.iinc 1 1, 3) := dq_get dd_M_layMissed_0 (i := 13) rfl
theorem d_M_layMissed_24 : decode mM_layMissed.2.1 24 = .ok (.goto (-22), 3) := dq_get dd_M_layMissed_0 (i := 14) rfl
theorem d_M_layMissed_27 : decode mM_layMissed.2.1 27 = .ok (.return_, 1) := dq_get dd_M_layMissed_0 (i := 15) rfl
theorem dd_M_missedBy_0 : dq mM_missedBy.2.1 [(0, .iconst 0, 1), (1, .istore_n 2, 1), (2, .iconst 0, 1), (3, .istore_n 3, 1), (4, .iload_n 3, 1), (5, .aload_n 0, 1), (6, .getfield 322, 3), (9, .if_icmp .ge 31, 3), (12, .iload_n 2, 1), (13, .iload_n 1, 1), (14, .iload_n 3, 1), (15, .ishr, 1), (16, .iconst 1, 1), (17, .iand, 1), (18, .iconst 1, 1), (19, .if_icmp .ne 12, 3), (22, .aload_n 0, 1), (23, .getfield 114, 3), (26, .iload_n 3, 1), (27, .iaload, 1), (28, .goto 4, 3), (31, .iconst 0, 1), (32, .iadd, 1), (33, .istore_n 2, 1), (34, .iinc 3 1, 3), (37, .goto (-33), 3), (40, .iload_n 2, 1), (41, .ireturn, 1)] = true := by decide +kernel
theorem d_M_missedBy_0 : decode mM_missedBy.2.1 0 = .ok (.iconst 0, 1) := dq_get dd_M_missedBy_0 (i := 0) rfl
theorem d_M_missedBy_1 : decode mM_missedBy.2.1 1 = .ok (.istore_n 2, 1) := dq_get dd_M_missedBy_0 (i := 1) rfl
theorem d_M_missedBy_2 : decode mM_missedBy.2.1 2 = .ok (.iconst 0, 1) := dq_get dd_M_missedBy_0 (i := 2) rfl
theorem d_M_missedBy_3 : decode mM_missedBy.2.1 3 = .ok (.istore_n 3, 1) := dq_get dd_M_missedBy_0 (i := 3) rfl
theorem d_M_missedBy_4 : decode mM_missedBy.2.1 4 = .ok (.iload_n 3, 1) := dq_get dd_M_missedBy_0 (i := 4) rfl
theorem d_M_missedBy_5 : decode mM_missedBy.2.1 5 = .ok (.aload_n 0, 1) := dq_get dd_M_missedBy_0 (i := 5) rfl
theorem d_M_missedBy_6 : decode mM_missedBy.2.1 6 = .ok (.getfield 322, 3) := dq_get dd_M_missedBy_0 (i := 6) rfl
theorem d_M_missedBy_9 : decode mM_missedBy.2.1 9 = .ok (.if_icmp .ge 31, 3) := dq_get dd_M_missedBy_0 (i := 7) rfl
theorem d_M_missedBy_12 : decode mM_missedBy.2.1 12 = .ok (.iload_n 2, 1) := dq_get dd_M_missedBy_0 (i := 8) rfl
theorem d_M_missedBy_13 : decode mM_missedBy.2.1 13 = .ok (.iload_n 1, 1) := dq_get dd_M_missedBy_0 (i := 9) rfl
theorem d_M_missedBy_14 : decode mM_missedBy.2.1 14 = .ok (.iload_n 3, 1) := dq_get dd_M_missedBy_0 (i := 10) rfl
theorem d_M_missedBy_15 : decode mM_missedBy.2.1 15 = .ok (.ishr, 1) := dq_get dd_M_missedBy_0 (i := 11) rfl
theorem d_M_missedBy_16 : decode mM_missedBy.2.1 16 = .ok (.iconst 1, 1) := dq_get dd_M_missedBy_0 (i := 12) rfl
theorem d_M_missedBy_17 : decode mM_missedBy.2.1 17 = .ok (.iand, 1) := dq_get dd_M_missedBy_0 (i := 13) rfl
theorem d_M_missedBy_18 : decode mM_missedBy.2.1 18 = .ok (.iconst 1, 1) := dq_get dd_M_missedBy_0 (i := 14) rfl
theorem d_M_missedBy_19 : decode mM_missedBy.2.1 19 = .ok (.if_icmp .ne 12, 3) := dq_get dd_M_missedBy_0 (i := 15) rfl
theorem d_M_missedBy_22 : decode mM_missedBy.2.1 22 = .ok (.aload_n 0, 1) := dq_get dd_M_missedBy_0 (i := 16) rfl
theorem d_M_missedBy_23 : decode mM_missedBy.2.1 23 = .ok (.getfield 114, 3) := dq_get dd_M_missedBy_0 (i := 17) rfl
theorem d_M_missedBy_26 : decode mM_missedBy.2.1 26 = .ok (.iload_n 3, 1) := dq_get dd_M_missedBy_0 (i := 18) rfl
theorem d_M_missedBy_27 : decode mM_missedBy.2.1 27 = .ok (.iaload, 1) := dq_get dd_M_missedBy_0 (i := 19) rfl
theorem d_M_missedBy_28 : decode mM_missedBy.2.1 28 = .ok (.goto 4, 3) := dq_get dd_M_missedBy_0 (i := 20) rfl
theorem d_M_missedBy_31 : decode mM_missedBy.2.1 31 = .ok (.iconst 0, 1) := dq_get dd_M_missedBy_0 (i := 21) rfl
theorem d_M_missedBy_32 : decode mM_missedBy.2.1 32 = .ok (.iadd, 1) := dq_get dd_M_missedBy_0 (i := 22) rfl
theorem d_M_missedBy_33 : decode mM_missedBy.2.1 33 = .ok (.istore_n 2, 1) := dq_get dd_M_missedBy_0 (i := 23) rfl
theorem d_M_missedBy_34 : decode mM_missedBy.2.1 34 = .ok (.iinc 3 1, 3) := dq_get dd_M_missedBy_0 (i := 24) rfl
theorem d_M_missedBy_37 : decode mM_missedBy.2.1 37 = .ok (.goto (-33), 3) := dq_get dd_M_missedBy_0 (i := 25) rfl
theorem d_M_missedBy_40 : decode mM_missedBy.2.1 40 = .ok (.iload_n 2, 1) := dq_get dd_M_missedBy_0 (i := 26) rfl
theorem d_M_missedBy_41 : decode mM_missedBy.2.1 41 = .ok (.ireturn, 1) := dq_get dd_M_missedBy_0 (i := 27) rfl
theorem dd_M_version_0 : dq mM_version.2.1 [(0, .iload_n 1, 1), (1, .iconst 0, 1), (2, .iconst 1, 1), (3, .invokestatic 429, 3), (6, .ifCond .ne 5, 3), (9, .iconst (-1), 1), (10, .ireturn, 1), (11, .aload_n 0, 1), (12, .aload_n 0, 1), (13, .getfield 84, 3), (16, .aload_n 0, 1), (17, .getfield 81, 3), (20, .invokevirtual 512, 3), (23, .istore_n 2, 1), (24, .iload_n 1, 1), (25, .ifCond .ne 5, 3), (28, .iload_n 2, 1), (29, .ireturn, 1), (30, .iconst 0, 1), (31, .istore_n 3, 1), (32, .iconst 0, 1), (33, .istore 4, 2), (35, .iload 4, 2), (37, .aload_n 0, 1), (38, .getfield 322, 3), (41, .if_icmp .ge 30, 3), (44, .iload_n 3, 1), (45, .aload_n 0, 1), (46, .getfield 108, 3), (49, .iload 4, 2), (51, .iaload, 1), (52, .ifCond .le 7, 3)] = true := by decide +kernel
theorem d_M_version_0 : decode mM_version.2.1 0 = .ok (.iload_n 1, 1) := dq_get dd_M_version_0 (i := 0) rfl
theorem d_M_version_1 : decode mM_version.2.1 1 = .ok (.iconst 0, 1) := dq_get dd_M_version_0 (i := 1) rfl
theorem d_M_version_2 : decode mM_version.2.1 2 = .ok (.iconst 1, 1) := dq_get dd_M_version_0 (i := 2) rfl
theorem d_M_version_3 : decode mM_version.2.1 3 = .ok (.invokestatic 429, 3) := dq_get dd_M_version_0 (i := 3) rfl
theorem d_M_version_6 : decode mM_version.2.1 6 = .ok (.ifCond .ne 5, 3) := dq_get dd_M_version_0 (i := 4) rfl
theorem d_M_version_9 : decode mM_version.2.1 9 = .ok (.iconst (-1), 1) := dq_get dd_M_version_0 (i := 5) rfl
theorem d_M_version_10 : decode mM_version.2.1 10 = .ok (.ireturn, 1) := dq_get dd_M_version_0 (i := 6) rfl
theorem d_M_version_11 : decode mM_version.2.1 11 = .ok (.aload_n 0, 1) := dq_get dd_M_version_0 (i := 7) rfl
theorem d_M_version_12 : decode mM_version.2.1 12 = .ok (.aload_n 0, 1) := dq_get dd_M_version_0 (i := 8) rfl
theorem d_M_version_13 : decode mM_version.2.1 13 = .ok (.getfield 84, 3) := dq_get dd_M_version_0 (i := 9) rfl
theorem d_M_version_16 : decode mM_version.2.1 16 = .ok (.aload_n 0, 1) := dq_get dd_M_version_0 (i := 10) rfl
theorem d_M_version_17 : decode mM_version.2.1 17 = .ok (.getfield 81, 3) := dq_get dd_M_version_0 (i := 11) rfl
theorem d_M_version_20 : decode mM_version.2.1 20 = .ok (.invokevirtual 512, 3) := dq_get dd_M_version_0 (i := 12) rfl
theorem d_M_version_23 : decode mM_version.2.1 23 = .ok (.istore_n 2, 1) := dq_get dd_M_version_0 (i := 13) rfl
theorem d_M_version_24 : decode mM_version.2.1 24 = .ok (.iload_n 1, 1) := dq_get dd_M_version_0 (i := 14) rfl
theorem d_M_version_25 : decode mM_version.2.1 25 = .ok (.ifCond .ne 5, 3) := dq_get dd_M_version_0 (i := 15) rfl
theorem d_M_version_28 : decode mM_version.2.1 28 = .ok (.iload_n 2, 1) := dq_get dd_M_version_0 (i := 16) rfl
theorem d_M_version_29 : decode mM_version.2.1 29 = .ok (.ireturn, 1) := dq_get dd_M_version_0 (i := 17) rfl
theorem d_M_version_30 : decode mM_version.2.1 30 = .ok (.iconst 0, 1) := dq_get dd_M_version_0 (i := 18) rfl
theorem d_M_version_31 : decode mM_version.2.1 31 = .ok (.istore_n 3, 1) := dq_get dd_M_version_0 (i := 19) rfl
theorem d_M_version_32 : decode mM_version.2.1 32 = .ok (.iconst 0, 1) := dq_get dd_M_version_0 (i := 20) rfl
theorem d_M_version_33 : decode mM_version.2.1 33 = .ok (.istore 4, 2) := dq_get dd_M_version_0 (i := 21) rfl
theorem d_M_version_35 : decode mM_version.2.1 35 = .ok (.iload 4, 2) := dq_get dd_M_version_0 (i := 22) rfl
theorem d_M_version_37 : decode mM_version.2.1 37 = .ok (.aload_n 0, 1) := dq_get dd_M_version_0 (i := 23) rfl
theorem d_M_version_38 : decode mM_version.2.1 38 = .ok (.getfield 322, 3) := dq_get dd_M_version_0 (i := 24) rfl
theorem d_M_version_41 : decode mM_version.2.1 41 = .ok (.if_icmp .ge 30, 3) := dq_get dd_M_version_0 (i := 25) rfl
theorem d_M_version_44 : decode mM_version.2.1 44 = .ok (.iload_n 3, 1) := dq_get dd_M_version_0 (i := 26) rfl
theorem d_M_version_45 : decode mM_version.2.1 45 = .ok (.aload_n 0, 1) := dq_get dd_M_version_0 (i := 27) rfl
theorem d_M_version_46 : decode mM_version.2.1 46 = .ok (.getfield 108, 3) := dq_get dd_M_version_0 (i := 28) rfl
theorem d_M_version_49 : decode mM_version.2.1 49 = .ok (.iload 4, 2) := dq_get dd_M_version_0 (i := 29) rfl
theorem d_M_version_51 : decode mM_version.2.1 51 = .ok (.iaload, 1) := dq_get dd_M_version_0 (i := 30) rfl
theorem d_M_version_52 : decode mM_version.2.1 52 = .ok (.ifCond .le 7, 3) := dq_get dd_M_version_0 (i := 31) rfl
theorem dd_M_version_32 : dq mM_version.2.1 [(55, .iconst 1, 1), (56, .goto 4, 3), (59, .iconst 0, 1), (60, .invokestatic 318, 3), (63, .iadd, 1), (64, .istore_n 3, 1), (65, .iinc 4 1, 3), (68, .goto (-33), 3), (71, .iload_n 3, 1), (72, .ireturn, 1)] = true := by decide +kernel
theorem d_M_version_55 : decode mM_version.2.1 55 = .ok (.iconst 1, 1) := dq_get dd_M_version_32 (i := 0) rfl
theorem d_M_version_56 : decode mM_version.2.1 56 = .ok (.goto 4, 3) := dq_get dd_M_version_32 (i := 1) rfl
theorem d_M_version_59 : decode mM_version.2.1 59 = .ok (.iconst 0, 1) := dq_get dd_M_version_32 (i := 2) rfl
theorem d_M_version_60 : decode mM_version.2.1 60 = .ok (.invokestatic 318, 3) := dq_get dd_M_version_32 (i := 3) rfl
theorem d_M_version_63 : decode mM_version.2.1 63 = .ok (.iadd, 1) := dq_get dd_M_version_32 (i := 4) rfl
theorem d_M_version_64 : decode mM_version.2.1 64 = .ok (.istore_n 3, 1) := dq_get dd_M_version_32 (i := 5) rfl
theorem d_M_version_65 : decode mM_version.2.1 65 = .ok (.iinc 4 1, 3) := dq_get dd_M_version_32 (i := 6) rfl
theorem d_M_version_68 : decode mM_version.2.1 68 = .ok (.goto (-33), 3) := dq_get dd_M_version_32 (i := 7) rfl
theorem d_M_version_71 : decode mM_version.2.1 71 = .ok (.iload_n 3, 1) := dq_get dd_M_version_32 (i := 8) rfl
theorem d_M_version_72 : decode mM_version.2.1 72 = .ok (.ireturn, 1) := dq_get dd_M_version_32 (i := 9) rfl
theorem dd_M_best_0 : dq mM_best.2.1 [(0, .aload_n 0, 1), (1, .invokevirtual 464, 3), (4, .aload_n 0, 1), (5, .invokevirtual 497, 3), (8, .ldc_w 436, 3), (11, .istore_n 3, 1), (12, .iconst 0, 1), (13, .istore 4, 2), (15, .iload 4, 2), (17, .iconst 3, 1), (18, .aload_n 0, 1), (19, .getfield 322, 3), (22, .invokestatic 503, 3), (25, .if_icmp .ge 80, 3), (28, .aload_n 0, 1), (29, .iload 4, 2), (31, .invokevirtual 506, 3), (34, .istore 5, 2), (36, .iload 5, 2), (38, .iload_n 3, 1), (39, .if_icmp .ge 60, 3), (42, .aload_n 0, 1), (43, .aload_n 0, 1), (44, .iconst 1, 1), (45, .invokevirtual 509, 3), (48, .aload_n 0, 1), (49, .iconst 2, 1), (50, .invokevirtual 509, 3), (53, .iload_n 1, 1), (54, .iload_n 2, 1), (55, .invokevirtual 457, 3), (58, .ifCond .ne 6, 3)] = true := by decide +kernel
theorem d_M_best_0 : decode mM_best.2.1 0 = .ok (.aload_n 0, 1) := dq_get dd_M_best_0 (i := 0) rfl
theorem d_M_best_1 : decode mM_best.2.1 1 = .ok (.invokevirtual 464, 3) := dq_get dd_M_best_0 (i := 1) rfl
theorem d_M_best_4 : decode mM_best.2.1 4 = .ok (.aload_n 0, 1) := dq_get dd_M_best_0 (i := 2) rfl
theorem d_M_best_5 : decode mM_best.2.1 5 = .ok (.invokevirtual 497, 3) := dq_get dd_M_best_0 (i := 3) rfl
theorem d_M_best_8 : decode mM_best.2.1 8 = .ok (.ldc_w 436, 3) := dq_get dd_M_best_0 (i := 4) rfl
theorem d_M_best_11 : decode mM_best.2.1 11 = .ok (.istore_n 3, 1) := dq_get dd_M_best_0 (i := 5) rfl
theorem d_M_best_12 : decode mM_best.2.1 12 = .ok (.iconst 0, 1) := dq_get dd_M_best_0 (i := 6) rfl
theorem d_M_best_13 : decode mM_best.2.1 13 = .ok (.istore 4, 2) := dq_get dd_M_best_0 (i := 7) rfl
theorem d_M_best_15 : decode mM_best.2.1 15 = .ok (.iload 4, 2) := dq_get dd_M_best_0 (i := 8) rfl
theorem d_M_best_17 : decode mM_best.2.1 17 = .ok (.iconst 3, 1) := dq_get dd_M_best_0 (i := 9) rfl
theorem d_M_best_18 : decode mM_best.2.1 18 = .ok (.aload_n 0, 1) := dq_get dd_M_best_0 (i := 10) rfl
theorem d_M_best_19 : decode mM_best.2.1 19 = .ok (.getfield 322, 3) := dq_get dd_M_best_0 (i := 11) rfl
theorem d_M_best_22 : decode mM_best.2.1 22 = .ok (.invokestatic 503, 3) := dq_get dd_M_best_0 (i := 12) rfl
theorem d_M_best_25 : decode mM_best.2.1 25 = .ok (.if_icmp .ge 80, 3) := dq_get dd_M_best_0 (i := 13) rfl
theorem d_M_best_28 : decode mM_best.2.1 28 = .ok (.aload_n 0, 1) := dq_get dd_M_best_0 (i := 14) rfl
theorem d_M_best_29 : decode mM_best.2.1 29 = .ok (.iload 4, 2) := dq_get dd_M_best_0 (i := 15) rfl
theorem d_M_best_31 : decode mM_best.2.1 31 = .ok (.invokevirtual 506, 3) := dq_get dd_M_best_0 (i := 16) rfl
theorem d_M_best_34 : decode mM_best.2.1 34 = .ok (.istore 5, 2) := dq_get dd_M_best_0 (i := 17) rfl
theorem d_M_best_36 : decode mM_best.2.1 36 = .ok (.iload 5, 2) := dq_get dd_M_best_0 (i := 18) rfl
theorem d_M_best_38 : decode mM_best.2.1 38 = .ok (.iload_n 3, 1) := dq_get dd_M_best_0 (i := 19) rfl
theorem d_M_best_39 : decode mM_best.2.1 39 = .ok (.if_icmp .ge 60, 3) := dq_get dd_M_best_0 (i := 20) rfl
theorem d_M_best_42 : decode mM_best.2.1 42 = .ok (.aload_n 0, 1) := dq_get dd_M_best_0 (i := 21) rfl
theorem d_M_best_43 : decode mM_best.2.1 43 = .ok (.aload_n 0, 1) := dq_get dd_M_best_0 (i := 22) rfl
theorem d_M_best_44 : decode mM_best.2.1 44 = .ok (.iconst 1, 1) := dq_get dd_M_best_0 (i := 23) rfl
theorem d_M_best_45 : decode mM_best.2.1 45 = .ok (.invokevirtual 509, 3) := dq_get dd_M_best_0 (i := 24) rfl
theorem d_M_best_48 : decode mM_best.2.1 48 = .ok (.aload_n 0, 1) := dq_get dd_M_best_0 (i := 25) rfl
theorem d_M_best_49 : decode mM_best.2.1 49 = .ok (.iconst 2, 1) := dq_get dd_M_best_0 (i := 26) rfl
theorem d_M_best_50 : decode mM_best.2.1 50 = .ok (.invokevirtual 509, 3) := dq_get dd_M_best_0 (i := 27) rfl
theorem d_M_best_53 : decode mM_best.2.1 53 = .ok (.iload_n 1, 1) := dq_get dd_M_best_0 (i := 28) rfl
theorem d_M_best_54 : decode mM_best.2.1 54 = .ok (.iload_n 2, 1) := dq_get dd_M_best_0 (i := 29) rfl
theorem d_M_best_55 : decode mM_best.2.1 55 = .ok (.invokevirtual 457, 3) := dq_get dd_M_best_0 (i := 30) rfl
theorem d_M_best_58 : decode mM_best.2.1 58 = .ok (.ifCond .ne 6, 3) := dq_get dd_M_best_0 (i := 31) rfl
theorem dd_M_best_32 : dq mM_best.2.1 [(61, .goto 38, 3), (64, .iload 5, 2), (66, .istore_n 3, 1), (67, .iconst 0, 1), (68, .istore 6, 2), (70, .iload 6, 2), (72, .aload_n 0, 1), (73, .getfield 322, 3), (76, .if_icmp .ge 23, 3), (79, .aload_n 0, 1), (80, .getfield 108, 3), (83, .iload 6, 2), (85, .aload_n 0, 1), (86, .getfield 111, 3), (89, .iload 6, 2), (91, .iaload, 1), (92, .iastore, 1), (93, .iinc 6 1, 3), (96, .goto (-26), 3), (99, .iinc 4 1, 3), (102, .goto (-87), 3), (105, .aload_n 0, 1), (106, .aload_n 0, 1), (107, .getfield 322, 3), (110, .putfield 426, 3), (113, .iload_n 3, 1), (114, .ireturn, 1)] = true := by decide +kernel
theorem d_M_best_61 : decode mM_best.2.1 61 = .ok (.goto 38, 3) := dq_get dd_M_best_32 (i := 0) rfl
theorem d_M_best_64 : decode mM_best.2.1 64 = .ok (.iload 5, 2) := dq_get dd_M_best_32 (i := 1) rfl
theorem d_M_best_66 : decode mM_best.2.1 66 = .ok (.istore_n 3, 1) := dq_get dd_M_best_32 (i := 2) rfl
theorem d_M_best_67 : decode mM_best.2.1 67 = .ok (.iconst 0, 1) := dq_get dd_M_best_32 (i := 3) rfl
theorem d_M_best_68 : decode mM_best.2.1 68 = .ok (.istore 6, 2) := dq_get dd_M_best_32 (i := 4) rfl
theorem d_M_best_70 : decode mM_best.2.1 70 = .ok (.iload 6, 2) := dq_get dd_M_best_32 (i := 5) rfl
theorem d_M_best_72 : decode mM_best.2.1 72 = .ok (.aload_n 0, 1) := dq_get dd_M_best_32 (i := 6) rfl
theorem d_M_best_73 : decode mM_best.2.1 73 = .ok (.getfield 322, 3) := dq_get dd_M_best_32 (i := 7) rfl
theorem d_M_best_76 : decode mM_best.2.1 76 = .ok (.if_icmp .ge 23, 3) := dq_get dd_M_best_32 (i := 8) rfl
theorem d_M_best_79 : decode mM_best.2.1 79 = .ok (.aload_n 0, 1) := dq_get dd_M_best_32 (i := 9) rfl
theorem d_M_best_80 : decode mM_best.2.1 80 = .ok (.getfield 108, 3) := dq_get dd_M_best_32 (i := 10) rfl
theorem d_M_best_83 : decode mM_best.2.1 83 = .ok (.iload 6, 2) := dq_get dd_M_best_32 (i := 11) rfl
theorem d_M_best_85 : decode mM_best.2.1 85 = .ok (.aload_n 0, 1) := dq_get dd_M_best_32 (i := 12) rfl
theorem d_M_best_86 : decode mM_best.2.1 86 = .ok (.getfield 111, 3) := dq_get dd_M_best_32 (i := 13) rfl
theorem d_M_best_89 : decode mM_best.2.1 89 = .ok (.iload 6, 2) := dq_get dd_M_best_32 (i := 14) rfl
theorem d_M_best_91 : decode mM_best.2.1 91 = .ok (.iaload, 1) := dq_get dd_M_best_32 (i := 15) rfl
theorem d_M_best_92 : decode mM_best.2.1 92 = .ok (.iastore, 1) := dq_get dd_M_best_32 (i := 16) rfl
theorem d_M_best_93 : decode mM_best.2.1 93 = .ok (.iinc 6 1, 3) := dq_get dd_M_best_32 (i := 17) rfl
theorem d_M_best_96 : decode mM_best.2.1 96 = .ok (.goto (-26), 3) := dq_get dd_M_best_32 (i := 18) rfl
theorem d_M_best_99 : decode mM_best.2.1 99 = .ok (.iinc 4 1, 3) := dq_get dd_M_best_32 (i := 19) rfl
theorem d_M_best_102 : decode mM_best.2.1 102 = .ok (.goto (-87), 3) := dq_get dd_M_best_32 (i := 20) rfl
theorem d_M_best_105 : decode mM_best.2.1 105 = .ok (.aload_n 0, 1) := dq_get dd_M_best_32 (i := 21) rfl
theorem d_M_best_106 : decode mM_best.2.1 106 = .ok (.aload_n 0, 1) := dq_get dd_M_best_32 (i := 22) rfl
theorem d_M_best_107 : decode mM_best.2.1 107 = .ok (.getfield 322, 3) := dq_get dd_M_best_32 (i := 23) rfl
theorem d_M_best_110 : decode mM_best.2.1 110 = .ok (.putfield 426, 3) := dq_get dd_M_best_32 (i := 24) rfl
theorem d_M_best_113 : decode mM_best.2.1 113 = .ok (.iload_n 3, 1) := dq_get dd_M_best_32 (i := 25) rfl
theorem d_M_best_114 : decode mM_best.2.1 114 = .ok (.ireturn, 1) := dq_get dd_M_best_32 (i := 26) rfl
theorem dd_M_power_0 : dq mM_power.2.1 [(0, .iconst 1, 1), (1, .istore_n 2, 1), (2, .iconst 0, 1), (3, .istore_n 3, 1), (4, .iload_n 3, 1), (5, .iload_n 1, 1), (6, .if_icmp .ge 13, 3), (9, .iload_n 2, 1), (10, .iload_n 0, 1), (11, .imul, 1), (12, .istore_n 2, 1), (13, .iinc 3 1, 3), (16, .goto (-12), 3), (19, .iload_n 2, 1), (20, .ireturn, 1)] = true := by decide +kernel
theorem d_M_power_0 : decode mM_power.2.1 0 = .ok (.iconst 1, 1) := dq_get dd_M_power_0 (i := 0) rfl
theorem d_M_power_1 : decode mM_power.2.1 1 = .ok (.istore_n 2, 1) := dq_get dd_M_power_0 (i := 1) rfl
theorem d_M_power_2 : decode mM_power.2.1 2 = .ok (.iconst 0, 1) := dq_get dd_M_power_0 (i := 2) rfl
theorem d_M_power_3 : decode mM_power.2.1 3 = .ok (.istore_n 3, 1) := dq_get dd_M_power_0 (i := 3) rfl
theorem d_M_power_4 : decode mM_power.2.1 4 = .ok (.iload_n 3, 1) := dq_get dd_M_power_0 (i := 4) rfl
theorem d_M_power_5 : decode mM_power.2.1 5 = .ok (.iload_n 1, 1) := dq_get dd_M_power_0 (i := 5) rfl
theorem d_M_power_6 : decode mM_power.2.1 6 = .ok (.if_icmp .ge 13, 3) := dq_get dd_M_power_0 (i := 6) rfl
theorem d_M_power_9 : decode mM_power.2.1 9 = .ok (.iload_n 2, 1) := dq_get dd_M_power_0 (i := 7) rfl
theorem d_M_power_10 : decode mM_power.2.1 10 = .ok (.iload_n 0, 1) := dq_get dd_M_power_0 (i := 8) rfl
theorem d_M_power_11 : decode mM_power.2.1 11 = .ok (.imul, 1) := dq_get dd_M_power_0 (i := 9) rfl
theorem d_M_power_12 : decode mM_power.2.1 12 = .ok (.istore_n 2, 1) := dq_get dd_M_power_0 (i := 10) rfl
theorem d_M_power_13 : decode mM_power.2.1 13 = .ok (.iinc 3 1, 3) := dq_get dd_M_power_0 (i := 11) rfl
theorem d_M_power_16 : decode mM_power.2.1 16 = .ok (.goto (-12), 3) := dq_get dd_M_power_0 (i := 12) rfl
theorem d_M_power_19 : decode mM_power.2.1 19 = .ok (.iload_n 2, 1) := dq_get dd_M_power_0 (i := 13) rfl
theorem d_M_power_20 : decode mM_power.2.1 20 = .ok (.ireturn, 1) := dq_get dd_M_power_0 (i := 14) rfl
theorem dd_M_layVersion_0 : dq mM_layVersion.2.1 [(0, .iload_n 1, 1), (1, .istore_n 2, 1), (2, .iconst 0, 1), (3, .istore_n 3, 1), (4, .aload_n 0, 1), (5, .getfield 322, 3), (8, .iconst 1, 1), (9, .isub, 1), (10, .istore 4, 2), (12, .iload 4, 2), (14, .ifCond .lt 51, 3), (17, .aload_n 0, 1), (18, .getfield 111, 3), (21, .iload 4, 2), (23, .iload_n 2, 1), (24, .iconst 3, 1), (25, .irem, 1), (26, .iconst 1, 1), (27, .iadd, 1), (28, .iconst 3, 1), (29, .irem, 1), (30, .iastore, 1), (31, .iload_n 2, 1), (32, .iconst 3, 1), (33, .idiv, 1), (34, .istore_n 2, 1), (35, .iload_n 3, 1), (36, .aload_n 0, 1), (37, .getfield 111, 3), (40, .iload 4, 2), (42, .iaload, 1), (43, .ifCond .ne 13, 3)] = true := by decide +kernel
theorem d_M_layVersion_0 : decode mM_layVersion.2.1 0 = .ok (.iload_n 1, 1) := dq_get dd_M_layVersion_0 (i := 0) rfl
theorem d_M_layVersion_1 : decode mM_layVersion.2.1 1 = .ok (.istore_n 2, 1) := dq_get dd_M_layVersion_0 (i := 1) rfl
theorem d_M_layVersion_2 : decode mM_layVersion.2.1 2 = .ok (.iconst 0, 1) := dq_get dd_M_layVersion_0 (i := 2) rfl
theorem d_M_layVersion_3 : decode mM_layVersion.2.1 3 = .ok (.istore_n 3, 1) := dq_get dd_M_layVersion_0 (i := 3) rfl
theorem d_M_layVersion_4 : decode mM_layVersion.2.1 4 = .ok (.aload_n 0, 1) := dq_get dd_M_layVersion_0 (i := 4) rfl
theorem d_M_layVersion_5 : decode mM_layVersion.2.1 5 = .ok (.getfield 322, 3) := dq_get dd_M_layVersion_0 (i := 5) rfl
theorem d_M_layVersion_8 : decode mM_layVersion.2.1 8 = .ok (.iconst 1, 1) := dq_get dd_M_layVersion_0 (i := 6) rfl
theorem d_M_layVersion_9 : decode mM_layVersion.2.1 9 = .ok (.isub, 1) := dq_get dd_M_layVersion_0 (i := 7) rfl
theorem d_M_layVersion_10 : decode mM_layVersion.2.1 10 = .ok (.istore 4, 2) := dq_get dd_M_layVersion_0 (i := 8) rfl
theorem d_M_layVersion_12 : decode mM_layVersion.2.1 12 = .ok (.iload 4, 2) := dq_get dd_M_layVersion_0 (i := 9) rfl
theorem d_M_layVersion_14 : decode mM_layVersion.2.1 14 = .ok (.ifCond .lt 51, 3) := dq_get dd_M_layVersion_0 (i := 10) rfl
theorem d_M_layVersion_17 : decode mM_layVersion.2.1 17 = .ok (.aload_n 0, 1) := dq_get dd_M_layVersion_0 (i := 11) rfl
theorem d_M_layVersion_18 : decode mM_layVersion.2.1 18 = .ok (.getfield 111, 3) := dq_get dd_M_layVersion_0 (i := 12) rfl
theorem d_M_layVersion_21 : decode mM_layVersion.2.1 21 = .ok (.iload 4, 2) := dq_get dd_M_layVersion_0 (i := 13) rfl
theorem d_M_layVersion_23 : decode mM_layVersion.2.1 23 = .ok (.iload_n 2, 1) := dq_get dd_M_layVersion_0 (i := 14) rfl
theorem d_M_layVersion_24 : decode mM_layVersion.2.1 24 = .ok (.iconst 3, 1) := dq_get dd_M_layVersion_0 (i := 15) rfl
theorem d_M_layVersion_25 : decode mM_layVersion.2.1 25 = .ok (.irem, 1) := dq_get dd_M_layVersion_0 (i := 16) rfl
theorem d_M_layVersion_26 : decode mM_layVersion.2.1 26 = .ok (.iconst 1, 1) := dq_get dd_M_layVersion_0 (i := 17) rfl
theorem d_M_layVersion_27 : decode mM_layVersion.2.1 27 = .ok (.iadd, 1) := dq_get dd_M_layVersion_0 (i := 18) rfl
theorem d_M_layVersion_28 : decode mM_layVersion.2.1 28 = .ok (.iconst 3, 1) := dq_get dd_M_layVersion_0 (i := 19) rfl
theorem d_M_layVersion_29 : decode mM_layVersion.2.1 29 = .ok (.irem, 1) := dq_get dd_M_layVersion_0 (i := 20) rfl
theorem d_M_layVersion_30 : decode mM_layVersion.2.1 30 = .ok (.iastore, 1) := dq_get dd_M_layVersion_0 (i := 21) rfl
theorem d_M_layVersion_31 : decode mM_layVersion.2.1 31 = .ok (.iload_n 2, 1) := dq_get dd_M_layVersion_0 (i := 22) rfl
theorem d_M_layVersion_32 : decode mM_layVersion.2.1 32 = .ok (.iconst 3, 1) := dq_get dd_M_layVersion_0 (i := 23) rfl
theorem d_M_layVersion_33 : decode mM_layVersion.2.1 33 = .ok (.idiv, 1) := dq_get dd_M_layVersion_0 (i := 24) rfl
theorem d_M_layVersion_34 : decode mM_layVersion.2.1 34 = .ok (.istore_n 2, 1) := dq_get dd_M_layVersion_0 (i := 25) rfl
theorem d_M_layVersion_35 : decode mM_layVersion.2.1 35 = .ok (.iload_n 3, 1) := dq_get dd_M_layVersion_0 (i := 26) rfl
theorem d_M_layVersion_36 : decode mM_layVersion.2.1 36 = .ok (.aload_n 0, 1) := dq_get dd_M_layVersion_0 (i := 27) rfl
theorem d_M_layVersion_37 : decode mM_layVersion.2.1 37 = .ok (.getfield 111, 3) := dq_get dd_M_layVersion_0 (i := 28) rfl
theorem d_M_layVersion_40 : decode mM_layVersion.2.1 40 = .ok (.iload 4, 2) := dq_get dd_M_layVersion_0 (i := 29) rfl
theorem d_M_layVersion_42 : decode mM_layVersion.2.1 42 = .ok (.iaload, 1) := dq_get dd_M_layVersion_0 (i := 30) rfl
theorem d_M_layVersion_43 : decode mM_layVersion.2.1 43 = .ok (.ifCond .ne 13, 3) := dq_get dd_M_layVersion_0 (i := 31) rfl
theorem dd_M_layVersion_32 : dq mM_layVersion.2.1 [(46, .aload_n 0, 1), (47, .getfield 114, 3), (50, .iload 4, 2), (52, .iaload, 1), (53, .goto 4, 3), (56, .iconst 0, 1), (57, .iadd, 1), (58, .istore_n 3, 1), (59, .iinc 4 (-1), 3), (62, .goto (-50), 3), (65, .iload_n 3, 1), (66, .ireturn, 1)] = true := by decide +kernel
theorem d_M_layVersion_46 : decode mM_layVersion.2.1 46 = .ok (.aload_n 0, 1) := dq_get dd_M_layVersion_32 (i := 0) rfl
theorem d_M_layVersion_47 : decode mM_layVersion.2.1 47 = .ok (.getfield 114, 3) := dq_get dd_M_layVersion_32 (i := 1) rfl
theorem d_M_layVersion_50 : decode mM_layVersion.2.1 50 = .ok (.iload 4, 2) := dq_get dd_M_layVersion_32 (i := 2) rfl
theorem d_M_layVersion_52 : decode mM_layVersion.2.1 52 = .ok (.iaload, 1) := dq_get dd_M_layVersion_32 (i := 3) rfl
theorem d_M_layVersion_53 : decode mM_layVersion.2.1 53 = .ok (.goto 4, 3) := dq_get dd_M_layVersion_32 (i := 4) rfl
theorem d_M_layVersion_56 : decode mM_layVersion.2.1 56 = .ok (.iconst 0, 1) := dq_get dd_M_layVersion_32 (i := 5) rfl
theorem d_M_layVersion_57 : decode mM_layVersion.2.1 57 = .ok (.iadd, 1) := dq_get dd_M_layVersion_32 (i := 6) rfl
theorem d_M_layVersion_58 : decode mM_layVersion.2.1 58 = .ok (.istore_n 3, 1) := dq_get dd_M_layVersion_32 (i := 7) rfl
theorem d_M_layVersion_59 : decode mM_layVersion.2.1 59 = .ok (.iinc 4 (-1), 3) := dq_get dd_M_layVersion_32 (i := 8) rfl
theorem d_M_layVersion_62 : decode mM_layVersion.2.1 62 = .ok (.goto (-50), 3) := dq_get dd_M_layVersion_32 (i := 9) rfl
theorem d_M_layVersion_65 : decode mM_layVersion.2.1 65 = .ok (.iload_n 3, 1) := dq_get dd_M_layVersion_32 (i := 10) rfl
theorem d_M_layVersion_66 : decode mM_layVersion.2.1 66 = .ok (.ireturn, 1) := dq_get dd_M_layVersion_32 (i := 11) rfl
theorem dd_M_rowOf_0 : dq mM_rowOf.2.1 [(0, .iconst 0, 1), (1, .istore_n 2, 1), (2, .iconst 0, 1), (3, .istore_n 3, 1), (4, .iload_n 3, 1), (5, .aload_n 0, 1), (6, .getfield 322, 3), (9, .if_icmp .ge 32, 3), (12, .iload_n 2, 1), (13, .aload_n 0, 1), (14, .getfield 111, 3), (17, .iload_n 3, 1), (18, .iaload, 1), (19, .iload_n 1, 1), (20, .if_icmp .ne 7, 3), (23, .iconst 1, 1), (24, .goto 4, 3), (27, .iconst 0, 1), (28, .invokestatic 318, 3), (31, .iload_n 3, 1), (32, .ishl, 1), (33, .ior, 1), (34, .istore_n 2, 1), (35, .iinc 3 1, 3), (38, .goto (-34), 3), (41, .iload_n 2, 1), (42, .ireturn, 1)] = true := by decide +kernel
theorem d_M_rowOf_0 : decode mM_rowOf.2.1 0 = .ok (.iconst 0, 1) := dq_get dd_M_rowOf_0 (i := 0) rfl
theorem d_M_rowOf_1 : decode mM_rowOf.2.1 1 = .ok (.istore_n 2, 1) := dq_get dd_M_rowOf_0 (i := 1) rfl
theorem d_M_rowOf_2 : decode mM_rowOf.2.1 2 = .ok (.iconst 0, 1) := dq_get dd_M_rowOf_0 (i := 2) rfl
theorem d_M_rowOf_3 : decode mM_rowOf.2.1 3 = .ok (.istore_n 3, 1) := dq_get dd_M_rowOf_0 (i := 3) rfl
theorem d_M_rowOf_4 : decode mM_rowOf.2.1 4 = .ok (.iload_n 3, 1) := dq_get dd_M_rowOf_0 (i := 4) rfl
theorem d_M_rowOf_5 : decode mM_rowOf.2.1 5 = .ok (.aload_n 0, 1) := dq_get dd_M_rowOf_0 (i := 5) rfl
theorem d_M_rowOf_6 : decode mM_rowOf.2.1 6 = .ok (.getfield 322, 3) := dq_get dd_M_rowOf_0 (i := 6) rfl
theorem d_M_rowOf_9 : decode mM_rowOf.2.1 9 = .ok (.if_icmp .ge 32, 3) := dq_get dd_M_rowOf_0 (i := 7) rfl
theorem d_M_rowOf_12 : decode mM_rowOf.2.1 12 = .ok (.iload_n 2, 1) := dq_get dd_M_rowOf_0 (i := 8) rfl
theorem d_M_rowOf_13 : decode mM_rowOf.2.1 13 = .ok (.aload_n 0, 1) := dq_get dd_M_rowOf_0 (i := 9) rfl
theorem d_M_rowOf_14 : decode mM_rowOf.2.1 14 = .ok (.getfield 111, 3) := dq_get dd_M_rowOf_0 (i := 10) rfl
theorem d_M_rowOf_17 : decode mM_rowOf.2.1 17 = .ok (.iload_n 3, 1) := dq_get dd_M_rowOf_0 (i := 11) rfl
theorem d_M_rowOf_18 : decode mM_rowOf.2.1 18 = .ok (.iaload, 1) := dq_get dd_M_rowOf_0 (i := 12) rfl
theorem d_M_rowOf_19 : decode mM_rowOf.2.1 19 = .ok (.iload_n 1, 1) := dq_get dd_M_rowOf_0 (i := 13) rfl
theorem d_M_rowOf_20 : decode mM_rowOf.2.1 20 = .ok (.if_icmp .ne 7, 3) := dq_get dd_M_rowOf_0 (i := 14) rfl
theorem d_M_rowOf_23 : decode mM_rowOf.2.1 23 = .ok (.iconst 1, 1) := dq_get dd_M_rowOf_0 (i := 15) rfl
theorem d_M_rowOf_24 : decode mM_rowOf.2.1 24 = .ok (.goto 4, 3) := dq_get dd_M_rowOf_0 (i := 16) rfl
theorem d_M_rowOf_27 : decode mM_rowOf.2.1 27 = .ok (.iconst 0, 1) := dq_get dd_M_rowOf_0 (i := 17) rfl
theorem d_M_rowOf_28 : decode mM_rowOf.2.1 28 = .ok (.invokestatic 318, 3) := dq_get dd_M_rowOf_0 (i := 18) rfl
theorem d_M_rowOf_31 : decode mM_rowOf.2.1 31 = .ok (.iload_n 3, 1) := dq_get dd_M_rowOf_0 (i := 19) rfl
theorem d_M_rowOf_32 : decode mM_rowOf.2.1 32 = .ok (.ishl, 1) := dq_get dd_M_rowOf_0 (i := 20) rfl
theorem d_M_rowOf_33 : decode mM_rowOf.2.1 33 = .ok (.ior, 1) := dq_get dd_M_rowOf_0 (i := 21) rfl
theorem d_M_rowOf_34 : decode mM_rowOf.2.1 34 = .ok (.istore_n 2, 1) := dq_get dd_M_rowOf_0 (i := 22) rfl
theorem d_M_rowOf_35 : decode mM_rowOf.2.1 35 = .ok (.iinc 3 1, 3) := dq_get dd_M_rowOf_0 (i := 23) rfl
theorem d_M_rowOf_38 : decode mM_rowOf.2.1 38 = .ok (.goto (-34), 3) := dq_get dd_M_rowOf_0 (i := 24) rfl
theorem d_M_rowOf_41 : decode mM_rowOf.2.1 41 = .ok (.iload_n 2, 1) := dq_get dd_M_rowOf_0 (i := 25) rfl
theorem d_M_rowOf_42 : decode mM_rowOf.2.1 42 = .ok (.ireturn, 1) := dq_get dd_M_rowOf_0 (i := 26) rfl
theorem dd_M_canBePlayed_0 : dq mM_canBePlayed.2.1 [(0, .iconst 1, 1), (1, .istore 5, 2), (3, .iconst 0, 1), (4, .istore 6, 2), (6, .iload 6, 2), (8, .aload_n 0, 1), (9, .getfield 78, 3), (12, .if_icmp .ge 35, 3), (15, .iload 5, 2), (17, .ifCond .eq 30, 3), (20, .aload_n 0, 1), (21, .iload 6, 2), (23, .iload_n 1, 1), (24, .iload_n 2, 1), (25, .iload_n 3, 1), (26, .iload 4, 2), (28, .invokevirtual 450, 3), (31, .ifCond .ne 7, 3), (34, .iconst 1, 1), (35, .goto 4, 3), (38, .iconst 0, 1), (39, .istore 5, 2), (41, .iinc 6 1, 3), (44, .goto (-38), 3), (47, .iload 5, 2), (49, .ireturn, 1)] = true := by decide +kernel
theorem d_M_canBePlayed_0 : decode mM_canBePlayed.2.1 0 = .ok (.iconst 1, 1) := dq_get dd_M_canBePlayed_0 (i := 0) rfl
theorem d_M_canBePlayed_1 : decode mM_canBePlayed.2.1 1 = .ok (.istore 5, 2) := dq_get dd_M_canBePlayed_0 (i := 1) rfl
theorem d_M_canBePlayed_3 : decode mM_canBePlayed.2.1 3 = .ok (.iconst 0, 1) := dq_get dd_M_canBePlayed_0 (i := 2) rfl
theorem d_M_canBePlayed_4 : decode mM_canBePlayed.2.1 4 = .ok (.istore 6, 2) := dq_get dd_M_canBePlayed_0 (i := 3) rfl
theorem d_M_canBePlayed_6 : decode mM_canBePlayed.2.1 6 = .ok (.iload 6, 2) := dq_get dd_M_canBePlayed_0 (i := 4) rfl
theorem d_M_canBePlayed_8 : decode mM_canBePlayed.2.1 8 = .ok (.aload_n 0, 1) := dq_get dd_M_canBePlayed_0 (i := 5) rfl
theorem d_M_canBePlayed_9 : decode mM_canBePlayed.2.1 9 = .ok (.getfield 78, 3) := dq_get dd_M_canBePlayed_0 (i := 6) rfl
theorem d_M_canBePlayed_12 : decode mM_canBePlayed.2.1 12 = .ok (.if_icmp .ge 35, 3) := dq_get dd_M_canBePlayed_0 (i := 7) rfl
theorem d_M_canBePlayed_15 : decode mM_canBePlayed.2.1 15 = .ok (.iload 5, 2) := dq_get dd_M_canBePlayed_0 (i := 8) rfl
theorem d_M_canBePlayed_17 : decode mM_canBePlayed.2.1 17 = .ok (.ifCond .eq 30, 3) := dq_get dd_M_canBePlayed_0 (i := 9) rfl
theorem d_M_canBePlayed_20 : decode mM_canBePlayed.2.1 20 = .ok (.aload_n 0, 1) := dq_get dd_M_canBePlayed_0 (i := 10) rfl
theorem d_M_canBePlayed_21 : decode mM_canBePlayed.2.1 21 = .ok (.iload 6, 2) := dq_get dd_M_canBePlayed_0 (i := 11) rfl
theorem d_M_canBePlayed_23 : decode mM_canBePlayed.2.1 23 = .ok (.iload_n 1, 1) := dq_get dd_M_canBePlayed_0 (i := 12) rfl
theorem d_M_canBePlayed_24 : decode mM_canBePlayed.2.1 24 = .ok (.iload_n 2, 1) := dq_get dd_M_canBePlayed_0 (i := 13) rfl
theorem d_M_canBePlayed_25 : decode mM_canBePlayed.2.1 25 = .ok (.iload_n 3, 1) := dq_get dd_M_canBePlayed_0 (i := 14) rfl
theorem d_M_canBePlayed_26 : decode mM_canBePlayed.2.1 26 = .ok (.iload 4, 2) := dq_get dd_M_canBePlayed_0 (i := 15) rfl
theorem d_M_canBePlayed_28 : decode mM_canBePlayed.2.1 28 = .ok (.invokevirtual 450, 3) := dq_get dd_M_canBePlayed_0 (i := 16) rfl
theorem d_M_canBePlayed_31 : decode mM_canBePlayed.2.1 31 = .ok (.ifCond .ne 7, 3) := dq_get dd_M_canBePlayed_0 (i := 17) rfl
theorem d_M_canBePlayed_34 : decode mM_canBePlayed.2.1 34 = .ok (.iconst 1, 1) := dq_get dd_M_canBePlayed_0 (i := 18) rfl
theorem d_M_canBePlayed_35 : decode mM_canBePlayed.2.1 35 = .ok (.goto 4, 3) := dq_get dd_M_canBePlayed_0 (i := 19) rfl
theorem d_M_canBePlayed_38 : decode mM_canBePlayed.2.1 38 = .ok (.iconst 0, 1) := dq_get dd_M_canBePlayed_0 (i := 20) rfl
theorem d_M_canBePlayed_39 : decode mM_canBePlayed.2.1 39 = .ok (.istore 5, 2) := dq_get dd_M_canBePlayed_0 (i := 21) rfl
theorem d_M_canBePlayed_41 : decode mM_canBePlayed.2.1 41 = .ok (.iinc 6 1, 3) := dq_get dd_M_canBePlayed_0 (i := 22) rfl
theorem d_M_canBePlayed_44 : decode mM_canBePlayed.2.1 44 = .ok (.goto (-38), 3) := dq_get dd_M_canBePlayed_0 (i := 23) rfl
theorem d_M_canBePlayed_47 : decode mM_canBePlayed.2.1 47 = .ok (.iload 5, 2) := dq_get dd_M_canBePlayed_0 (i := 24) rfl
theorem d_M_canBePlayed_49 : decode mM_canBePlayed.2.1 49 = .ok (.ireturn, 1) := dq_get dd_M_canBePlayed_0 (i := 25) rfl
theorem dd_M_child_0 : dq mM_child.2.1 [(0, .aload_n 0, 1), (1, .iconst 0, 1), (2, .putfield 426, 3), (5, .iload_n 1, 1), (6, .iconst 1, 1), (7, .iconst 5, 1), (8, .invokestatic 429, 3), (11, .ifCond .eq 22, 3), (14, .iload_n 2, 1), (15, .iconst 0, 1), (16, .bipush 87, 2), (18, .invokestatic 429, 3), (21, .ifCond .eq 12, 3), (24, .aload_n 0, 1), (25, .iload_n 1, 1), (26, .iload_n 2, 1), (27, .invokevirtual 512, 3), (30, .goto 4, 3), (33, .iconst (-1), 1), (34, .ireturn, 1)] = true := by decide +kernel
theorem d_M_child_0 : decode mM_child.2.1 0 = .ok (.aload_n 0, 1) := dq_get dd_M_child_0 (i := 0) rfl
theorem d_M_child_1 : decode mM_child.2.1 1 = .ok (.iconst 0, 1) := dq_get dd_M_child_0 (i := 1) rfl
theorem d_M_child_2 : decode mM_child.2.1 2 = .ok (.putfield 426, 3) := dq_get dd_M_child_0 (i := 2) rfl
theorem d_M_child_5 : decode mM_child.2.1 5 = .ok (.iload_n 1, 1) := dq_get dd_M_child_0 (i := 3) rfl
theorem d_M_child_6 : decode mM_child.2.1 6 = .ok (.iconst 1, 1) := dq_get dd_M_child_0 (i := 4) rfl
theorem d_M_child_7 : decode mM_child.2.1 7 = .ok (.iconst 5, 1) := dq_get dd_M_child_0 (i := 5) rfl
theorem d_M_child_8 : decode mM_child.2.1 8 = .ok (.invokestatic 429, 3) := dq_get dd_M_child_0 (i := 6) rfl
theorem d_M_child_11 : decode mM_child.2.1 11 = .ok (.ifCond .eq 22, 3) := dq_get dd_M_child_0 (i := 7) rfl
theorem d_M_child_14 : decode mM_child.2.1 14 = .ok (.iload_n 2, 1) := dq_get dd_M_child_0 (i := 8) rfl
theorem d_M_child_15 : decode mM_child.2.1 15 = .ok (.iconst 0, 1) := dq_get dd_M_child_0 (i := 9) rfl
theorem d_M_child_16 : decode mM_child.2.1 16 = .ok (.bipush 87, 2) := dq_get dd_M_child_0 (i := 10) rfl
theorem d_M_child_18 : decode mM_child.2.1 18 = .ok (.invokestatic 429, 3) := dq_get dd_M_child_0 (i := 11) rfl
theorem d_M_child_21 : decode mM_child.2.1 21 = .ok (.ifCond .eq 12, 3) := dq_get dd_M_child_0 (i := 12) rfl
theorem d_M_child_24 : decode mM_child.2.1 24 = .ok (.aload_n 0, 1) := dq_get dd_M_child_0 (i := 13) rfl
theorem d_M_child_25 : decode mM_child.2.1 25 = .ok (.iload_n 1, 1) := dq_get dd_M_child_0 (i := 14) rfl
theorem d_M_child_26 : decode mM_child.2.1 26 = .ok (.iload_n 2, 1) := dq_get dd_M_child_0 (i := 15) rfl
theorem d_M_child_27 : decode mM_child.2.1 27 = .ok (.invokevirtual 512, 3) := dq_get dd_M_child_0 (i := 16) rfl
theorem d_M_child_30 : decode mM_child.2.1 30 = .ok (.goto 4, 3) := dq_get dd_M_child_0 (i := 17) rfl
theorem d_M_child_33 : decode mM_child.2.1 33 = .ok (.iconst (-1), 1) := dq_get dd_M_child_0 (i := 18) rfl
theorem d_M_child_34 : decode mM_child.2.1 34 = .ok (.ireturn, 1) := dq_get dd_M_child_0 (i := 19) rfl
theorem dd_M_forbids_0 : dq mM_forbids.2.1 [(0, .aload_n 0, 1), (1, .iload_n 1, 1), (2, .invokevirtual 515, 3), (5, .ifCond .eq 19, 3), (8, .iload_n 2, 1), (9, .invokestatic 476, 3), (12, .ifCond .eq 12, 3), (15, .aload_n 0, 1), (16, .iload_n 1, 1), (17, .iload_n 2, 1), (18, .invokevirtual 518, 3), (21, .goto 4, 3), (24, .iconst (-1), 1), (25, .ireturn, 1)] = true := by decide +kernel
theorem d_M_forbids_0 : decode mM_forbids.2.1 0 = .ok (.aload_n 0, 1) := dq_get dd_M_forbids_0 (i := 0) rfl
theorem d_M_forbids_1 : decode mM_forbids.2.1 1 = .ok (.iload_n 1, 1) := dq_get dd_M_forbids_0 (i := 1) rfl
theorem d_M_forbids_2 : decode mM_forbids.2.1 2 = .ok (.invokevirtual 515, 3) := dq_get dd_M_forbids_0 (i := 2) rfl
theorem d_M_forbids_5 : decode mM_forbids.2.1 5 = .ok (.ifCond .eq 19, 3) := dq_get dd_M_forbids_0 (i := 3) rfl
theorem d_M_forbids_8 : decode mM_forbids.2.1 8 = .ok (.iload_n 2, 1) := dq_get dd_M_forbids_0 (i := 4) rfl
theorem d_M_forbids_9 : decode mM_forbids.2.1 9 = .ok (.invokestatic 476, 3) := dq_get dd_M_forbids_0 (i := 5) rfl
theorem d_M_forbids_12 : decode mM_forbids.2.1 12 = .ok (.ifCond .eq 12, 3) := dq_get dd_M_forbids_0 (i := 6) rfl
theorem d_M_forbids_15 : decode mM_forbids.2.1 15 = .ok (.aload_n 0, 1) := dq_get dd_M_forbids_0 (i := 7) rfl
theorem d_M_forbids_16 : decode mM_forbids.2.1 16 = .ok (.iload_n 1, 1) := dq_get dd_M_forbids_0 (i := 8) rfl
theorem d_M_forbids_17 : decode mM_forbids.2.1 17 = .ok (.iload_n 2, 1) := dq_get dd_M_forbids_0 (i := 9) rfl
theorem d_M_forbids_18 : decode mM_forbids.2.1 18 = .ok (.invokevirtual 518, 3) := dq_get dd_M_forbids_0 (i := 10) rfl
theorem d_M_forbids_21 : decode mM_forbids.2.1 21 = .ok (.goto 4, 3) := dq_get dd_M_forbids_0 (i := 11) rfl
theorem d_M_forbids_24 : decode mM_forbids.2.1 24 = .ok (.iconst (-1), 1) := dq_get dd_M_forbids_0 (i := 12) rfl
theorem d_M_forbids_25 : decode mM_forbids.2.1 25 = .ok (.ireturn, 1) := dq_get dd_M_forbids_0 (i := 13) rfl
theorem dd_M_isOut_0 : dq mM_isOut.2.1 [(0, .aload_n 0, 1), (1, .iload_n 1, 1), (2, .invokevirtual 461, 3), (5, .ifCond .eq 16, 3), (8, .aload_n 0, 1), (9, .getfield 93, 3), (12, .iload_n 1, 1), (13, .iaload, 1), (14, .ifCond .ne 7, 3), (17, .iconst 1, 1), (18, .goto 4, 3), (21, .iconst 0, 1), (22, .ireturn, 1)] = true := by decide +kernel
theorem d_M_isOut_0 : decode mM_isOut.2.1 0 = .ok (.aload_n 0, 1) := dq_get dd_M_isOut_0 (i := 0) rfl
theorem d_M_isOut_1 : decode mM_isOut.2.1 1 = .ok (.iload_n 1, 1) := dq_get dd_M_isOut_0 (i := 1) rfl
theorem d_M_isOut_2 : decode mM_isOut.2.1 2 = .ok (.invokevirtual 461, 3) := dq_get dd_M_isOut_0 (i := 2) rfl
theorem d_M_isOut_5 : decode mM_isOut.2.1 5 = .ok (.ifCond .eq 16, 3) := dq_get dd_M_isOut_0 (i := 3) rfl
theorem d_M_isOut_8 : decode mM_isOut.2.1 8 = .ok (.aload_n 0, 1) := dq_get dd_M_isOut_0 (i := 4) rfl
theorem d_M_isOut_9 : decode mM_isOut.2.1 9 = .ok (.getfield 93, 3) := dq_get dd_M_isOut_0 (i := 5) rfl
theorem d_M_isOut_12 : decode mM_isOut.2.1 12 = .ok (.iload_n 1, 1) := dq_get dd_M_isOut_0 (i := 6) rfl
theorem d_M_isOut_13 : decode mM_isOut.2.1 13 = .ok (.iaload, 1) := dq_get dd_M_isOut_0 (i := 7) rfl
theorem d_M_isOut_14 : decode mM_isOut.2.1 14 = .ok (.ifCond .ne 7, 3) := dq_get dd_M_isOut_0 (i := 8) rfl
theorem d_M_isOut_17 : decode mM_isOut.2.1 17 = .ok (.iconst 1, 1) := dq_get dd_M_isOut_0 (i := 9) rfl
theorem d_M_isOut_18 : decode mM_isOut.2.1 18 = .ok (.goto 4, 3) := dq_get dd_M_isOut_0 (i := 10) rfl
theorem d_M_isOut_21 : decode mM_isOut.2.1 21 = .ok (.iconst 0, 1) := dq_get dd_M_isOut_0 (i := 11) rfl
theorem d_M_isOut_22 : decode mM_isOut.2.1 22 = .ok (.ireturn, 1) := dq_get dd_M_isOut_0 (i := 12) rfl
theorem dd_M_forbidden_0 : dq mM_forbidden.2.1 [(0, .aload_n 0, 1), (1, .invokevirtual 464, 3), (4, .aload_n 0, 1), (5, .iconst 1, 1), (6, .invokevirtual 454, 3), (9, .istore_n 3, 1), (10, .aload_n 0, 1), (11, .iconst 2, 1), (12, .invokevirtual 454, 3), (15, .istore 4, 2), (17, .iconst 1, 1), (18, .iload_n 1, 1), (19, .ishl, 1), (20, .istore 5, 2), (22, .iconst 0, 1), (23, .istore 6, 2), (25, .iconst 0, 1), (26, .istore 7, 2), (28, .iload 7, 2), (30, .aload_n 0, 1), (31, .getfield 78, 3), (34, .if_icmp .ge 90, 3), (37, .aload_n 0, 1), (38, .iload 7, 2), (40, .iload_n 3, 1), (41, .iload 4, 2), (43, .aload_n 0, 1), (44, .getfield 84, 3), (47, .aload_n 0, 1), (48, .getfield 81, 3), (51, .invokevirtual 450, 3), (54, .istore 8, 2)] = true := by decide +kernel
theorem d_M_forbidden_0 : decode mM_forbidden.2.1 0 = .ok (.aload_n 0, 1) := dq_get dd_M_forbidden_0 (i := 0) rfl
theorem d_M_forbidden_1 : decode mM_forbidden.2.1 1 = .ok (.invokevirtual 464, 3) := dq_get dd_M_forbidden_0 (i := 1) rfl
theorem d_M_forbidden_4 : decode mM_forbidden.2.1 4 = .ok (.aload_n 0, 1) := dq_get dd_M_forbidden_0 (i := 2) rfl
theorem d_M_forbidden_5 : decode mM_forbidden.2.1 5 = .ok (.iconst 1, 1) := dq_get dd_M_forbidden_0 (i := 3) rfl
theorem d_M_forbidden_6 : decode mM_forbidden.2.1 6 = .ok (.invokevirtual 454, 3) := dq_get dd_M_forbidden_0 (i := 4) rfl
theorem d_M_forbidden_9 : decode mM_forbidden.2.1 9 = .ok (.istore_n 3, 1) := dq_get dd_M_forbidden_0 (i := 5) rfl
theorem d_M_forbidden_10 : decode mM_forbidden.2.1 10 = .ok (.aload_n 0, 1) := dq_get dd_M_forbidden_0 (i := 6) rfl
theorem d_M_forbidden_11 : decode mM_forbidden.2.1 11 = .ok (.iconst 2, 1) := dq_get dd_M_forbidden_0 (i := 7) rfl
theorem d_M_forbidden_12 : decode mM_forbidden.2.1 12 = .ok (.invokevirtual 454, 3) := dq_get dd_M_forbidden_0 (i := 8) rfl
theorem d_M_forbidden_15 : decode mM_forbidden.2.1 15 = .ok (.istore 4, 2) := dq_get dd_M_forbidden_0 (i := 9) rfl
theorem d_M_forbidden_17 : decode mM_forbidden.2.1 17 = .ok (.iconst 1, 1) := dq_get dd_M_forbidden_0 (i := 10) rfl
theorem d_M_forbidden_18 : decode mM_forbidden.2.1 18 = .ok (.iload_n 1, 1) := dq_get dd_M_forbidden_0 (i := 11) rfl
theorem d_M_forbidden_19 : decode mM_forbidden.2.1 19 = .ok (.ishl, 1) := dq_get dd_M_forbidden_0 (i := 12) rfl
theorem d_M_forbidden_20 : decode mM_forbidden.2.1 20 = .ok (.istore 5, 2) := dq_get dd_M_forbidden_0 (i := 13) rfl
theorem d_M_forbidden_22 : decode mM_forbidden.2.1 22 = .ok (.iconst 0, 1) := dq_get dd_M_forbidden_0 (i := 14) rfl
theorem d_M_forbidden_23 : decode mM_forbidden.2.1 23 = .ok (.istore 6, 2) := dq_get dd_M_forbidden_0 (i := 15) rfl
theorem d_M_forbidden_25 : decode mM_forbidden.2.1 25 = .ok (.iconst 0, 1) := dq_get dd_M_forbidden_0 (i := 16) rfl
theorem d_M_forbidden_26 : decode mM_forbidden.2.1 26 = .ok (.istore 7, 2) := dq_get dd_M_forbidden_0 (i := 17) rfl
theorem d_M_forbidden_28 : decode mM_forbidden.2.1 28 = .ok (.iload 7, 2) := dq_get dd_M_forbidden_0 (i := 18) rfl
theorem d_M_forbidden_30 : decode mM_forbidden.2.1 30 = .ok (.aload_n 0, 1) := dq_get dd_M_forbidden_0 (i := 19) rfl
theorem d_M_forbidden_31 : decode mM_forbidden.2.1 31 = .ok (.getfield 78, 3) := dq_get dd_M_forbidden_0 (i := 20) rfl
theorem d_M_forbidden_34 : decode mM_forbidden.2.1 34 = .ok (.if_icmp .ge 90, 3) := dq_get dd_M_forbidden_0 (i := 21) rfl
theorem d_M_forbidden_37 : decode mM_forbidden.2.1 37 = .ok (.aload_n 0, 1) := dq_get dd_M_forbidden_0 (i := 22) rfl
theorem d_M_forbidden_38 : decode mM_forbidden.2.1 38 = .ok (.iload 7, 2) := dq_get dd_M_forbidden_0 (i := 23) rfl
theorem d_M_forbidden_40 : decode mM_forbidden.2.1 40 = .ok (.iload_n 3, 1) := dq_get dd_M_forbidden_0 (i := 24) rfl
theorem d_M_forbidden_41 : decode mM_forbidden.2.1 41 = .ok (.iload 4, 2) := dq_get dd_M_forbidden_0 (i := 25) rfl
theorem d_M_forbidden_43 : decode mM_forbidden.2.1 43 = .ok (.aload_n 0, 1) := dq_get dd_M_forbidden_0 (i := 26) rfl
theorem d_M_forbidden_44 : decode mM_forbidden.2.1 44 = .ok (.getfield 84, 3) := dq_get dd_M_forbidden_0 (i := 27) rfl
theorem d_M_forbidden_47 : decode mM_forbidden.2.1 47 = .ok (.aload_n 0, 1) := dq_get dd_M_forbidden_0 (i := 28) rfl
theorem d_M_forbidden_48 : decode mM_forbidden.2.1 48 = .ok (.getfield 81, 3) := dq_get dd_M_forbidden_0 (i := 29) rfl
theorem d_M_forbidden_51 : decode mM_forbidden.2.1 51 = .ok (.invokevirtual 450, 3) := dq_get dd_M_forbidden_0 (i := 30) rfl
theorem d_M_forbidden_54 : decode mM_forbidden.2.1 54 = .ok (.istore 8, 2) := dq_get dd_M_forbidden_0 (i := 31) rfl
theorem dd_M_forbidden_32 : dq mM_forbidden.2.1 [(56, .iload_n 2, 1), (57, .iconst 1, 1), (58, .if_icmp .ne 26, 3), (61, .aload_n 0, 1), (62, .iload 7, 2), (64, .iload_n 3, 1), (65, .iload 5, 2), (67, .ior, 1), (68, .iload 4, 2), (70, .aload_n 0, 1), (71, .getfield 84, 3), (74, .aload_n 0, 1), (75, .getfield 81, 3), (78, .invokevirtual 450, 3), (81, .goto 23, 3), (84, .aload_n 0, 1), (85, .iload 7, 2), (87, .iload_n 3, 1), (88, .iload 4, 2), (90, .iload 5, 2), (92, .ior, 1), (93, .aload_n 0, 1), (94, .getfield 84, 3), (97, .aload_n 0, 1), (98, .getfield 81, 3), (101, .invokevirtual 450, 3), (104, .istore 9, 2), (106, .iload 6, 2), (108, .iload 9, 2), (110, .iload 8, 2), (112, .iconst (-1), 1), (113, .ixor, 1)] = true := by decide +kernel
theorem d_M_forbidden_56 : decode mM_forbidden.2.1 56 = .ok (.iload_n 2, 1) := dq_get dd_M_forbidden_32 (i := 0) rfl
theorem d_M_forbidden_57 : decode mM_forbidden.2.1 57 = .ok (.iconst 1, 1) := dq_get dd_M_forbidden_32 (i := 1) rfl
theorem d_M_forbidden_58 : decode mM_forbidden.2.1 58 = .ok (.if_icmp .ne 26, 3) := dq_get dd_M_forbidden_32 (i := 2) rfl
theorem d_M_forbidden_61 : decode mM_forbidden.2.1 61 = .ok (.aload_n 0, 1) := dq_get dd_M_forbidden_32 (i := 3) rfl
theorem d_M_forbidden_62 : decode mM_forbidden.2.1 62 = .ok (.iload 7, 2) := dq_get dd_M_forbidden_32 (i := 4) rfl
theorem d_M_forbidden_64 : decode mM_forbidden.2.1 64 = .ok (.iload_n 3, 1) := dq_get dd_M_forbidden_32 (i := 5) rfl
theorem d_M_forbidden_65 : decode mM_forbidden.2.1 65 = .ok (.iload 5, 2) := dq_get dd_M_forbidden_32 (i := 6) rfl
theorem d_M_forbidden_67 : decode mM_forbidden.2.1 67 = .ok (.ior, 1) := dq_get dd_M_forbidden_32 (i := 7) rfl
theorem d_M_forbidden_68 : decode mM_forbidden.2.1 68 = .ok (.iload 4, 2) := dq_get dd_M_forbidden_32 (i := 8) rfl
theorem d_M_forbidden_70 : decode mM_forbidden.2.1 70 = .ok (.aload_n 0, 1) := dq_get dd_M_forbidden_32 (i := 9) rfl
theorem d_M_forbidden_71 : decode mM_forbidden.2.1 71 = .ok (.getfield 84, 3) := dq_get dd_M_forbidden_32 (i := 10) rfl
theorem d_M_forbidden_74 : decode mM_forbidden.2.1 74 = .ok (.aload_n 0, 1) := dq_get dd_M_forbidden_32 (i := 11) rfl
theorem d_M_forbidden_75 : decode mM_forbidden.2.1 75 = .ok (.getfield 81, 3) := dq_get dd_M_forbidden_32 (i := 12) rfl
theorem d_M_forbidden_78 : decode mM_forbidden.2.1 78 = .ok (.invokevirtual 450, 3) := dq_get dd_M_forbidden_32 (i := 13) rfl
theorem d_M_forbidden_81 : decode mM_forbidden.2.1 81 = .ok (.goto 23, 3) := dq_get dd_M_forbidden_32 (i := 14) rfl
theorem d_M_forbidden_84 : decode mM_forbidden.2.1 84 = .ok (.aload_n 0, 1) := dq_get dd_M_forbidden_32 (i := 15) rfl
theorem d_M_forbidden_85 : decode mM_forbidden.2.1 85 = .ok (.iload 7, 2) := dq_get dd_M_forbidden_32 (i := 16) rfl
theorem d_M_forbidden_87 : decode mM_forbidden.2.1 87 = .ok (.iload_n 3, 1) := dq_get dd_M_forbidden_32 (i := 17) rfl
theorem d_M_forbidden_88 : decode mM_forbidden.2.1 88 = .ok (.iload 4, 2) := dq_get dd_M_forbidden_32 (i := 18) rfl
theorem d_M_forbidden_90 : decode mM_forbidden.2.1 90 = .ok (.iload 5, 2) := dq_get dd_M_forbidden_32 (i := 19) rfl
theorem d_M_forbidden_92 : decode mM_forbidden.2.1 92 = .ok (.ior, 1) := dq_get dd_M_forbidden_32 (i := 20) rfl
theorem d_M_forbidden_93 : decode mM_forbidden.2.1 93 = .ok (.aload_n 0, 1) := dq_get dd_M_forbidden_32 (i := 21) rfl
theorem d_M_forbidden_94 : decode mM_forbidden.2.1 94 = .ok (.getfield 84, 3) := dq_get dd_M_forbidden_32 (i := 22) rfl
theorem d_M_forbidden_97 : decode mM_forbidden.2.1 97 = .ok (.aload_n 0, 1) := dq_get dd_M_forbidden_32 (i := 23) rfl
theorem d_M_forbidden_98 : decode mM_forbidden.2.1 98 = .ok (.getfield 81, 3) := dq_get dd_M_forbidden_32 (i := 24) rfl
theorem d_M_forbidden_101 : decode mM_forbidden.2.1 101 = .ok (.invokevirtual 450, 3) := dq_get dd_M_forbidden_32 (i := 25) rfl
theorem d_M_forbidden_104 : decode mM_forbidden.2.1 104 = .ok (.istore 9, 2) := dq_get dd_M_forbidden_32 (i := 26) rfl
theorem d_M_forbidden_106 : decode mM_forbidden.2.1 106 = .ok (.iload 6, 2) := dq_get dd_M_forbidden_32 (i := 27) rfl
theorem d_M_forbidden_108 : decode mM_forbidden.2.1 108 = .ok (.iload 9, 2) := dq_get dd_M_forbidden_32 (i := 28) rfl
theorem d_M_forbidden_110 : decode mM_forbidden.2.1 110 = .ok (.iload 8, 2) := dq_get dd_M_forbidden_32 (i := 29) rfl
theorem d_M_forbidden_112 : decode mM_forbidden.2.1 112 = .ok (.iconst (-1), 1) := dq_get dd_M_forbidden_32 (i := 30) rfl
theorem d_M_forbidden_113 : decode mM_forbidden.2.1 113 = .ok (.ixor, 1) := dq_get dd_M_forbidden_32 (i := 31) rfl
theorem dd_M_forbidden_64 : dq mM_forbidden.2.1 [(114, .iand, 1), (115, .ior, 1), (116, .istore 6, 2), (118, .iinc 7 1, 3), (121, .goto (-93), 3), (124, .iload 6, 2), (126, .ireturn, 1)] = true := by decide +kernel
theorem d_M_forbidden_114 : decode mM_forbidden.2.1 114 = .ok (.iand, 1) := dq_get dd_M_forbidden_64 (i := 0) rfl
theorem d_M_forbidden_115 : decode mM_forbidden.2.1 115 = .ok (.ior, 1) := dq_get dd_M_forbidden_64 (i := 1) rfl
theorem d_M_forbidden_116 : decode mM_forbidden.2.1 116 = .ok (.istore 6, 2) := dq_get dd_M_forbidden_64 (i := 2) rfl
theorem d_M_forbidden_118 : decode mM_forbidden.2.1 118 = .ok (.iinc 7 1, 3) := dq_get dd_M_forbidden_64 (i := 3) rfl
theorem d_M_forbidden_121 : decode mM_forbidden.2.1 121 = .ok (.goto (-93), 3) := dq_get dd_M_forbidden_64 (i := 4) rfl
theorem d_M_forbidden_124 : decode mM_forbidden.2.1 124 = .ok (.iload 6, 2) := dq_get dd_M_forbidden_64 (i := 5) rfl
theorem d_M_forbidden_126 : decode mM_forbidden.2.1 126 = .ok (.ireturn, 1) := dq_get dd_M_forbidden_64 (i := 6) rfl
theorem dd_M_could_0 : dq mM_could.2.1 [(0, .iload_n 1, 1), (1, .invokestatic 476, 3), (4, .ifCond .ne 5, 3), (7, .iconst (-1), 1), (8, .ireturn, 1), (9, .iconst 0, 1), (10, .istore_n 2, 1), (11, .iconst 0, 1), (12, .istore_n 3, 1), (13, .iload_n 3, 1), (14, .aload_n 0, 1), (15, .getfield 322, 3), (18, .if_icmp .ge 32, 3), (21, .aload_n 0, 1), (22, .iload_n 3, 1), (23, .invokevirtual 515, 3), (26, .ifCond .eq 18, 3), (29, .aload_n 0, 1), (30, .iload_n 3, 1), (31, .iload_n 1, 1), (32, .invokevirtual 518, 3), (35, .ifCond .ne 9, 3), (38, .iload_n 2, 1), (39, .iconst 1, 1), (40, .iload_n 3, 1), (41, .ishl, 1), (42, .ior, 1), (43, .istore_n 2, 1), (44, .iinc 3 1, 3), (47, .goto (-34), 3), (50, .iload_n 2, 1), (51, .ireturn, 1)] = true := by decide +kernel
theorem d_M_could_0 : decode mM_could.2.1 0 = .ok (.iload_n 1, 1) := dq_get dd_M_could_0 (i := 0) rfl
theorem d_M_could_1 : decode mM_could.2.1 1 = .ok (.invokestatic 476, 3) := dq_get dd_M_could_0 (i := 1) rfl
theorem d_M_could_4 : decode mM_could.2.1 4 = .ok (.ifCond .ne 5, 3) := dq_get dd_M_could_0 (i := 2) rfl
theorem d_M_could_7 : decode mM_could.2.1 7 = .ok (.iconst (-1), 1) := dq_get dd_M_could_0 (i := 3) rfl
theorem d_M_could_8 : decode mM_could.2.1 8 = .ok (.ireturn, 1) := dq_get dd_M_could_0 (i := 4) rfl
theorem d_M_could_9 : decode mM_could.2.1 9 = .ok (.iconst 0, 1) := dq_get dd_M_could_0 (i := 5) rfl
theorem d_M_could_10 : decode mM_could.2.1 10 = .ok (.istore_n 2, 1) := dq_get dd_M_could_0 (i := 6) rfl
theorem d_M_could_11 : decode mM_could.2.1 11 = .ok (.iconst 0, 1) := dq_get dd_M_could_0 (i := 7) rfl
theorem d_M_could_12 : decode mM_could.2.1 12 = .ok (.istore_n 3, 1) := dq_get dd_M_could_0 (i := 8) rfl
theorem d_M_could_13 : decode mM_could.2.1 13 = .ok (.iload_n 3, 1) := dq_get dd_M_could_0 (i := 9) rfl
theorem d_M_could_14 : decode mM_could.2.1 14 = .ok (.aload_n 0, 1) := dq_get dd_M_could_0 (i := 10) rfl
theorem d_M_could_15 : decode mM_could.2.1 15 = .ok (.getfield 322, 3) := dq_get dd_M_could_0 (i := 11) rfl
theorem d_M_could_18 : decode mM_could.2.1 18 = .ok (.if_icmp .ge 32, 3) := dq_get dd_M_could_0 (i := 12) rfl
theorem d_M_could_21 : decode mM_could.2.1 21 = .ok (.aload_n 0, 1) := dq_get dd_M_could_0 (i := 13) rfl
theorem d_M_could_22 : decode mM_could.2.1 22 = .ok (.iload_n 3, 1) := dq_get dd_M_could_0 (i := 14) rfl
theorem d_M_could_23 : decode mM_could.2.1 23 = .ok (.invokevirtual 515, 3) := dq_get dd_M_could_0 (i := 15) rfl
theorem d_M_could_26 : decode mM_could.2.1 26 = .ok (.ifCond .eq 18, 3) := dq_get dd_M_could_0 (i := 16) rfl
theorem d_M_could_29 : decode mM_could.2.1 29 = .ok (.aload_n 0, 1) := dq_get dd_M_could_0 (i := 17) rfl
theorem d_M_could_30 : decode mM_could.2.1 30 = .ok (.iload_n 3, 1) := dq_get dd_M_could_0 (i := 18) rfl
theorem d_M_could_31 : decode mM_could.2.1 31 = .ok (.iload_n 1, 1) := dq_get dd_M_could_0 (i := 19) rfl
theorem d_M_could_32 : decode mM_could.2.1 32 = .ok (.invokevirtual 518, 3) := dq_get dd_M_could_0 (i := 20) rfl
theorem d_M_could_35 : decode mM_could.2.1 35 = .ok (.ifCond .ne 9, 3) := dq_get dd_M_could_0 (i := 21) rfl
theorem d_M_could_38 : decode mM_could.2.1 38 = .ok (.iload_n 2, 1) := dq_get dd_M_could_0 (i := 22) rfl
theorem d_M_could_39 : decode mM_could.2.1 39 = .ok (.iconst 1, 1) := dq_get dd_M_could_0 (i := 23) rfl
theorem d_M_could_40 : decode mM_could.2.1 40 = .ok (.iload_n 3, 1) := dq_get dd_M_could_0 (i := 24) rfl
theorem d_M_could_41 : decode mM_could.2.1 41 = .ok (.ishl, 1) := dq_get dd_M_could_0 (i := 25) rfl
theorem d_M_could_42 : decode mM_could.2.1 42 = .ok (.ior, 1) := dq_get dd_M_could_0 (i := 26) rfl
theorem d_M_could_43 : decode mM_could.2.1 43 = .ok (.istore_n 2, 1) := dq_get dd_M_could_0 (i := 27) rfl
theorem d_M_could_44 : decode mM_could.2.1 44 = .ok (.iinc 3 1, 3) := dq_get dd_M_could_0 (i := 28) rfl
theorem d_M_could_47 : decode mM_could.2.1 47 = .ok (.goto (-34), 3) := dq_get dd_M_could_0 (i := 29) rfl
theorem d_M_could_50 : decode mM_could.2.1 50 = .ok (.iload_n 2, 1) := dq_get dd_M_could_0 (i := 30) rfl
theorem d_M_could_51 : decode mM_could.2.1 51 = .ok (.ireturn, 1) := dq_get dd_M_could_0 (i := 31) rfl
theorem dd_M_giveway_0 : dq mM_giveway.2.1 [(0, .aload_n 0, 1), (1, .iload_n 1, 1), (2, .invokevirtual 515, 3), (5, .ifCond .eq 19, 3), (8, .iload_n 2, 1), (9, .invokestatic 476, 3), (12, .ifCond .eq 12, 3), (15, .iload_n 3, 1), (16, .iconst 0, 1), (17, .iconst 1, 1), (18, .invokestatic 429, 3), (21, .ifCond .ne 5, 3), (24, .iconst (-1), 1), (25, .ireturn, 1), (26, .aload_n 0, 1), (27, .invokevirtual 464, 3), (30, .aload_n 0, 1), (31, .invokevirtual 497, 3), (34, .aload_n 0, 1), (35, .getfield 96, 3), (38, .iload_n 1, 1), (39, .iload_n 2, 1), (40, .iastore, 1), (41, .aload_n 0, 1), (42, .iconst 1, 1), (43, .invokevirtual 454, 3), (46, .istore 4, 2), (48, .aload_n 0, 1), (49, .iconst 2, 1), (50, .invokevirtual 454, 3), (53, .istore 5, 2), (55, .iload 4, 2)] = true := by decide +kernel
theorem d_M_giveway_0 : decode mM_giveway.2.1 0 = .ok (.aload_n 0, 1) := dq_get dd_M_giveway_0 (i := 0) rfl
theorem d_M_giveway_1 : decode mM_giveway.2.1 1 = .ok (.iload_n 1, 1) := dq_get dd_M_giveway_0 (i := 1) rfl
theorem d_M_giveway_2 : decode mM_giveway.2.1 2 = .ok (.invokevirtual 515, 3) := dq_get dd_M_giveway_0 (i := 2) rfl
theorem d_M_giveway_5 : decode mM_giveway.2.1 5 = .ok (.ifCond .eq 19, 3) := dq_get dd_M_giveway_0 (i := 3) rfl
theorem d_M_giveway_8 : decode mM_giveway.2.1 8 = .ok (.iload_n 2, 1) := dq_get dd_M_giveway_0 (i := 4) rfl
theorem d_M_giveway_9 : decode mM_giveway.2.1 9 = .ok (.invokestatic 476, 3) := dq_get dd_M_giveway_0 (i := 5) rfl
theorem d_M_giveway_12 : decode mM_giveway.2.1 12 = .ok (.ifCond .eq 12, 3) := dq_get dd_M_giveway_0 (i := 6) rfl
theorem d_M_giveway_15 : decode mM_giveway.2.1 15 = .ok (.iload_n 3, 1) := dq_get dd_M_giveway_0 (i := 7) rfl
theorem d_M_giveway_16 : decode mM_giveway.2.1 16 = .ok (.iconst 0, 1) := dq_get dd_M_giveway_0 (i := 8) rfl
theorem d_M_giveway_17 : decode mM_giveway.2.1 17 = .ok (.iconst 1, 1) := dq_get dd_M_giveway_0 (i := 9) rfl
theorem d_M_giveway_18 : decode mM_giveway.2.1 18 = .ok (.invokestatic 429, 3) := dq_get dd_M_giveway_0 (i := 10) rfl
theorem d_M_giveway_21 : decode mM_giveway.2.1 21 = .ok (.ifCond .ne 5, 3) := dq_get dd_M_giveway_0 (i := 11) rfl
theorem d_M_giveway_24 : decode mM_giveway.2.1 24 = .ok (.iconst (-1), 1) := dq_get dd_M_giveway_0 (i := 12) rfl
theorem d_M_giveway_25 : decode mM_giveway.2.1 25 = .ok (.ireturn, 1) := dq_get dd_M_giveway_0 (i := 13) rfl
theorem d_M_giveway_26 : decode mM_giveway.2.1 26 = .ok (.aload_n 0, 1) := dq_get dd_M_giveway_0 (i := 14) rfl
theorem d_M_giveway_27 : decode mM_giveway.2.1 27 = .ok (.invokevirtual 464, 3) := dq_get dd_M_giveway_0 (i := 15) rfl
theorem d_M_giveway_30 : decode mM_giveway.2.1 30 = .ok (.aload_n 0, 1) := dq_get dd_M_giveway_0 (i := 16) rfl
theorem d_M_giveway_31 : decode mM_giveway.2.1 31 = .ok (.invokevirtual 497, 3) := dq_get dd_M_giveway_0 (i := 17) rfl
theorem d_M_giveway_34 : decode mM_giveway.2.1 34 = .ok (.aload_n 0, 1) := dq_get dd_M_giveway_0 (i := 18) rfl
theorem d_M_giveway_35 : decode mM_giveway.2.1 35 = .ok (.getfield 96, 3) := dq_get dd_M_giveway_0 (i := 19) rfl
theorem d_M_giveway_38 : decode mM_giveway.2.1 38 = .ok (.iload_n 1, 1) := dq_get dd_M_giveway_0 (i := 20) rfl
theorem d_M_giveway_39 : decode mM_giveway.2.1 39 = .ok (.iload_n 2, 1) := dq_get dd_M_giveway_0 (i := 21) rfl
theorem d_M_giveway_40 : decode mM_giveway.2.1 40 = .ok (.iastore, 1) := dq_get dd_M_giveway_0 (i := 22) rfl
theorem d_M_giveway_41 : decode mM_giveway.2.1 41 = .ok (.aload_n 0, 1) := dq_get dd_M_giveway_0 (i := 23) rfl
theorem d_M_giveway_42 : decode mM_giveway.2.1 42 = .ok (.iconst 1, 1) := dq_get dd_M_giveway_0 (i := 24) rfl
theorem d_M_giveway_43 : decode mM_giveway.2.1 43 = .ok (.invokevirtual 454, 3) := dq_get dd_M_giveway_0 (i := 25) rfl
theorem d_M_giveway_46 : decode mM_giveway.2.1 46 = .ok (.istore 4, 2) := dq_get dd_M_giveway_0 (i := 26) rfl
theorem d_M_giveway_48 : decode mM_giveway.2.1 48 = .ok (.aload_n 0, 1) := dq_get dd_M_giveway_0 (i := 27) rfl
theorem d_M_giveway_49 : decode mM_giveway.2.1 49 = .ok (.iconst 2, 1) := dq_get dd_M_giveway_0 (i := 28) rfl
theorem d_M_giveway_50 : decode mM_giveway.2.1 50 = .ok (.invokevirtual 454, 3) := dq_get dd_M_giveway_0 (i := 29) rfl
theorem d_M_giveway_53 : decode mM_giveway.2.1 53 = .ok (.istore 5, 2) := dq_get dd_M_giveway_0 (i := 30) rfl
theorem d_M_giveway_55 : decode mM_giveway.2.1 55 = .ok (.iload 4, 2) := dq_get dd_M_giveway_0 (i := 31) rfl
theorem dd_M_giveway_32 : dq mM_giveway.2.1 [(57, .iload 5, 2), (59, .ior, 1), (60, .iconst 1, 1), (61, .iload_n 1, 1), (62, .ishl, 1), (63, .iconst (-1), 1), (64, .ixor, 1), (65, .iand, 1), (66, .istore 6, 2), (68, .iconst (-1), 1), (69, .istore 7, 2), (71, .iconst 0, 1), (72, .istore 8, 2), (74, .iload 8, 2), (76, .iload 6, 2), (78, .if_icmp .gt 101, 3), (81, .iload 8, 2), (83, .iload 6, 2), (85, .iconst (-1), 1), (86, .ixor, 1), (87, .iand, 1), (88, .ifCond .ne 85, 3), (91, .iload 7, 2), (93, .ifCond .lt 47, 3), (96, .iload 8, 2), (98, .invokestatic 331, 3), (101, .iload 7, 2), (103, .invokestatic 331, 3), (106, .if_icmp .gt 67, 3), (109, .iload 8, 2), (111, .invokestatic 331, 3), (114, .iload 7, 2)] = true := by decide +kernel
theorem d_M_giveway_57 : decode mM_giveway.2.1 57 = .ok (.iload 5, 2) := dq_get dd_M_giveway_32 (i := 0) rfl
theorem d_M_giveway_59 : decode mM_giveway.2.1 59 = .ok (.ior, 1) := dq_get dd_M_giveway_32 (i := 1) rfl
theorem d_M_giveway_60 : decode mM_giveway.2.1 60 = .ok (.iconst 1, 1) := dq_get dd_M_giveway_32 (i := 2) rfl
theorem d_M_giveway_61 : decode mM_giveway.2.1 61 = .ok (.iload_n 1, 1) := dq_get dd_M_giveway_32 (i := 3) rfl
theorem d_M_giveway_62 : decode mM_giveway.2.1 62 = .ok (.ishl, 1) := dq_get dd_M_giveway_32 (i := 4) rfl
theorem d_M_giveway_63 : decode mM_giveway.2.1 63 = .ok (.iconst (-1), 1) := dq_get dd_M_giveway_32 (i := 5) rfl
theorem d_M_giveway_64 : decode mM_giveway.2.1 64 = .ok (.ixor, 1) := dq_get dd_M_giveway_32 (i := 6) rfl
theorem d_M_giveway_65 : decode mM_giveway.2.1 65 = .ok (.iand, 1) := dq_get dd_M_giveway_32 (i := 7) rfl
theorem d_M_giveway_66 : decode mM_giveway.2.1 66 = .ok (.istore 6, 2) := dq_get dd_M_giveway_32 (i := 8) rfl
theorem d_M_giveway_68 : decode mM_giveway.2.1 68 = .ok (.iconst (-1), 1) := dq_get dd_M_giveway_32 (i := 9) rfl
theorem d_M_giveway_69 : decode mM_giveway.2.1 69 = .ok (.istore 7, 2) := dq_get dd_M_giveway_32 (i := 10) rfl
theorem d_M_giveway_71 : decode mM_giveway.2.1 71 = .ok (.iconst 0, 1) := dq_get dd_M_giveway_32 (i := 11) rfl
theorem d_M_giveway_72 : decode mM_giveway.2.1 72 = .ok (.istore 8, 2) := dq_get dd_M_giveway_32 (i := 12) rfl
theorem d_M_giveway_74 : decode mM_giveway.2.1 74 = .ok (.iload 8, 2) := dq_get dd_M_giveway_32 (i := 13) rfl
theorem d_M_giveway_76 : decode mM_giveway.2.1 76 = .ok (.iload 6, 2) := dq_get dd_M_giveway_32 (i := 14) rfl
theorem d_M_giveway_78 : decode mM_giveway.2.1 78 = .ok (.if_icmp .gt 101, 3) := dq_get dd_M_giveway_32 (i := 15) rfl
theorem d_M_giveway_81 : decode mM_giveway.2.1 81 = .ok (.iload 8, 2) := dq_get dd_M_giveway_32 (i := 16) rfl
theorem d_M_giveway_83 : decode mM_giveway.2.1 83 = .ok (.iload 6, 2) := dq_get dd_M_giveway_32 (i := 17) rfl
theorem d_M_giveway_85 : decode mM_giveway.2.1 85 = .ok (.iconst (-1), 1) := dq_get dd_M_giveway_32 (i := 18) rfl
theorem d_M_giveway_86 : decode mM_giveway.2.1 86 = .ok (.ixor, 1) := dq_get dd_M_giveway_32 (i := 19) rfl
theorem d_M_giveway_87 : decode mM_giveway.2.1 87 = .ok (.iand, 1) := dq_get dd_M_giveway_32 (i := 20) rfl
theorem d_M_giveway_88 : decode mM_giveway.2.1 88 = .ok (.ifCond .ne 85, 3) := dq_get dd_M_giveway_32 (i := 21) rfl
theorem d_M_giveway_91 : decode mM_giveway.2.1 91 = .ok (.iload 7, 2) := dq_get dd_M_giveway_32 (i := 22) rfl
theorem d_M_giveway_93 : decode mM_giveway.2.1 93 = .ok (.ifCond .lt 47, 3) := dq_get dd_M_giveway_32 (i := 23) rfl
theorem d_M_giveway_96 : decode mM_giveway.2.1 96 = .ok (.iload 8, 2) := dq_get dd_M_giveway_32 (i := 24) rfl
theorem d_M_giveway_98 : decode mM_giveway.2.1 98 = .ok (.invokestatic 331, 3) := dq_get dd_M_giveway_32 (i := 25) rfl
theorem d_M_giveway_101 : decode mM_giveway.2.1 101 = .ok (.iload 7, 2) := dq_get dd_M_giveway_32 (i := 26) rfl
theorem d_M_giveway_103 : decode mM_giveway.2.1 103 = .ok (.invokestatic 331, 3) := dq_get dd_M_giveway_32 (i := 27) rfl
theorem d_M_giveway_106 : decode mM_giveway.2.1 106 = .ok (.if_icmp .gt 67, 3) := dq_get dd_M_giveway_32 (i := 28) rfl
theorem d_M_giveway_109 : decode mM_giveway.2.1 109 = .ok (.iload 8, 2) := dq_get dd_M_giveway_32 (i := 29) rfl
theorem d_M_giveway_111 : decode mM_giveway.2.1 111 = .ok (.invokestatic 331, 3) := dq_get dd_M_giveway_32 (i := 30) rfl
theorem d_M_giveway_114 : decode mM_giveway.2.1 114 = .ok (.iload 7, 2) := dq_get dd_M_giveway_32 (i := 31) rfl
theorem dd_M_giveway_64 : dq mM_giveway.2.1 [(116, .invokestatic 331, 3), (119, .if_icmp .ne 21, 3), (122, .aload_n 0, 1), (123, .iload 8, 2), (125, .invokevirtual 500, 3), (128, .aload_n 0, 1), (129, .iload 7, 2), (131, .invokevirtual 500, 3), (134, .if_icmp .lt 6, 3), (137, .goto 36, 3), (140, .aload_n 0, 1), (141, .iload 4, 2), (143, .iload 8, 2), (145, .iconst (-1), 1), (146, .ixor, 1), (147, .iand, 1), (148, .iload 5, 2), (150, .iload 8, 2), (152, .iconst (-1), 1), (153, .ixor, 1), (154, .iand, 1), (155, .aload_n 0, 1), (156, .getfield 84, 3), (159, .aload_n 0, 1), (160, .getfield 81, 3), (163, .invokevirtual 457, 3), (166, .ifCond .eq 7, 3), (169, .iload 8, 2), (171, .istore 7, 2), (173, .iinc 8 1, 3), (176, .goto (-102), 3), (179, .iload 7, 2)] = true := by decide +kernel
theorem d_M_giveway_116 : decode mM_giveway.2.1 116 = .ok (.invokestatic 331, 3) := dq_get dd_M_giveway_64 (i := 0) rfl
theorem d_M_giveway_119 : decode mM_giveway.2.1 119 = .ok (.if_icmp .ne 21, 3) := dq_get dd_M_giveway_64 (i := 1) rfl
theorem d_M_giveway_122 : decode mM_giveway.2.1 122 = .ok (.aload_n 0, 1) := dq_get dd_M_giveway_64 (i := 2) rfl
theorem d_M_giveway_123 : decode mM_giveway.2.1 123 = .ok (.iload 8, 2) := dq_get dd_M_giveway_64 (i := 3) rfl
theorem d_M_giveway_125 : decode mM_giveway.2.1 125 = .ok (.invokevirtual 500, 3) := dq_get dd_M_giveway_64 (i := 4) rfl
theorem d_M_giveway_128 : decode mM_giveway.2.1 128 = .ok (.aload_n 0, 1) := dq_get dd_M_giveway_64 (i := 5) rfl
theorem d_M_giveway_129 : decode mM_giveway.2.1 129 = .ok (.iload 7, 2) := dq_get dd_M_giveway_64 (i := 6) rfl
theorem d_M_giveway_131 : decode mM_giveway.2.1 131 = .ok (.invokevirtual 500, 3) := dq_get dd_M_giveway_64 (i := 7) rfl
theorem d_M_giveway_134 : decode mM_giveway.2.1 134 = .ok (.if_icmp .lt 6, 3) := dq_get dd_M_giveway_64 (i := 8) rfl
theorem d_M_giveway_137 : decode mM_giveway.2.1 137 = .ok (.goto 36, 3) := dq_get dd_M_giveway_64 (i := 9) rfl
theorem d_M_giveway_140 : decode mM_giveway.2.1 140 = .ok (.aload_n 0, 1) := dq_get dd_M_giveway_64 (i := 10) rfl
theorem d_M_giveway_141 : decode mM_giveway.2.1 141 = .ok (.iload 4, 2) := dq_get dd_M_giveway_64 (i := 11) rfl
theorem d_M_giveway_143 : decode mM_giveway.2.1 143 = .ok (.iload 8, 2) := dq_get dd_M_giveway_64 (i := 12) rfl
theorem d_M_giveway_145 : decode mM_giveway.2.1 145 = .ok (.iconst (-1), 1) := dq_get dd_M_giveway_64 (i := 13) rfl
theorem d_M_giveway_146 : decode mM_giveway.2.1 146 = .ok (.ixor, 1) := dq_get dd_M_giveway_64 (i := 14) rfl
theorem d_M_giveway_147 : decode mM_giveway.2.1 147 = .ok (.iand, 1) := dq_get dd_M_giveway_64 (i := 15) rfl
theorem d_M_giveway_148 : decode mM_giveway.2.1 148 = .ok (.iload 5, 2) := dq_get dd_M_giveway_64 (i := 16) rfl
theorem d_M_giveway_150 : decode mM_giveway.2.1 150 = .ok (.iload 8, 2) := dq_get dd_M_giveway_64 (i := 17) rfl
theorem d_M_giveway_152 : decode mM_giveway.2.1 152 = .ok (.iconst (-1), 1) := dq_get dd_M_giveway_64 (i := 18) rfl
theorem d_M_giveway_153 : decode mM_giveway.2.1 153 = .ok (.ixor, 1) := dq_get dd_M_giveway_64 (i := 19) rfl
theorem d_M_giveway_154 : decode mM_giveway.2.1 154 = .ok (.iand, 1) := dq_get dd_M_giveway_64 (i := 20) rfl
theorem d_M_giveway_155 : decode mM_giveway.2.1 155 = .ok (.aload_n 0, 1) := dq_get dd_M_giveway_64 (i := 21) rfl
theorem d_M_giveway_156 : decode mM_giveway.2.1 156 = .ok (.getfield 84, 3) := dq_get dd_M_giveway_64 (i := 22) rfl
theorem d_M_giveway_159 : decode mM_giveway.2.1 159 = .ok (.aload_n 0, 1) := dq_get dd_M_giveway_64 (i := 23) rfl
theorem d_M_giveway_160 : decode mM_giveway.2.1 160 = .ok (.getfield 81, 3) := dq_get dd_M_giveway_64 (i := 24) rfl
theorem d_M_giveway_163 : decode mM_giveway.2.1 163 = .ok (.invokevirtual 457, 3) := dq_get dd_M_giveway_64 (i := 25) rfl
theorem d_M_giveway_166 : decode mM_giveway.2.1 166 = .ok (.ifCond .eq 7, 3) := dq_get dd_M_giveway_64 (i := 26) rfl
theorem d_M_giveway_169 : decode mM_giveway.2.1 169 = .ok (.iload 8, 2) := dq_get dd_M_giveway_64 (i := 27) rfl
theorem d_M_giveway_171 : decode mM_giveway.2.1 171 = .ok (.istore 7, 2) := dq_get dd_M_giveway_64 (i := 28) rfl
theorem d_M_giveway_173 : decode mM_giveway.2.1 173 = .ok (.iinc 8 1, 3) := dq_get dd_M_giveway_64 (i := 29) rfl
theorem d_M_giveway_176 : decode mM_giveway.2.1 176 = .ok (.goto (-102), 3) := dq_get dd_M_giveway_64 (i := 30) rfl
theorem d_M_giveway_179 : decode mM_giveway.2.1 179 = .ok (.iload 7, 2) := dq_get dd_M_giveway_64 (i := 31) rfl
theorem dd_M_giveway_96 : dq mM_giveway.2.1 [(181, .ifCond .ge 7, 3), (184, .iconst (-1), 1), (185, .goto 17, 3), (188, .iload_n 3, 1), (189, .ifCond .ne 11, 3), (192, .iload 7, 2), (194, .invokestatic 331, 3), (197, .goto 5, 3), (200, .iload 7, 2), (202, .ireturn, 1)] = true := by decide +kernel
theorem d_M_giveway_181 : decode mM_giveway.2.1 181 = .ok (.ifCond .ge 7, 3) := dq_get dd_M_giveway_96 (i := 0) rfl
theorem d_M_giveway_184 : decode mM_giveway.2.1 184 = .ok (.iconst (-1), 1) := dq_get dd_M_giveway_96 (i := 1) rfl
theorem d_M_giveway_185 : decode mM_giveway.2.1 185 = .ok (.goto 17, 3) := dq_get dd_M_giveway_96 (i := 2) rfl
theorem d_M_giveway_188 : decode mM_giveway.2.1 188 = .ok (.iload_n 3, 1) := dq_get dd_M_giveway_96 (i := 3) rfl
theorem d_M_giveway_189 : decode mM_giveway.2.1 189 = .ok (.ifCond .ne 11, 3) := dq_get dd_M_giveway_96 (i := 4) rfl
theorem d_M_giveway_192 : decode mM_giveway.2.1 192 = .ok (.iload 7, 2) := dq_get dd_M_giveway_96 (i := 5) rfl
theorem d_M_giveway_194 : decode mM_giveway.2.1 194 = .ok (.invokestatic 331, 3) := dq_get dd_M_giveway_96 (i := 6) rfl
theorem d_M_giveway_197 : decode mM_giveway.2.1 197 = .ok (.goto 5, 3) := dq_get dd_M_giveway_96 (i := 7) rfl
theorem d_M_giveway_200 : decode mM_giveway.2.1 200 = .ok (.iload 7, 2) := dq_get dd_M_giveway_96 (i := 8) rfl
theorem d_M_giveway_202 : decode mM_giveway.2.1 202 = .ok (.ireturn, 1) := dq_get dd_M_giveway_96 (i := 9) rfl
theorem dd_M_letin_0 : dq mM_letin.2.1 [(0, .aload_n 0, 1), (1, .iload_n 1, 1), (2, .invokevirtual 515, 3), (5, .ifCond .eq 12, 3), (8, .iload_n 2, 1), (9, .iconst 0, 1), (10, .iconst 1, 1), (11, .invokestatic 429, 3), (14, .ifCond .ne 6, 3), (17, .bipush (-100), 2), (19, .ireturn, 1), (20, .iconst 0, 1), (21, .istore_n 3, 1), (22, .iload_n 3, 1), (23, .bipush 14, 2), (25, .if_icmp .gt 69, 3), (28, .iload_n 3, 1), (29, .iconst 2, 1), (30, .irem, 1), (31, .iconst 1, 1), (32, .if_icmp .ne 11, 3), (35, .iload_n 3, 1), (36, .iconst 1, 1), (37, .iadd, 1), (38, .iconst 2, 1), (39, .idiv, 1), (40, .goto 7, 3), (43, .iload_n 3, 1), (44, .iconst 2, 1), (45, .idiv, 1), (46, .ineg, 1), (47, .istore 4, 2)] = true := by decide +kernel
theorem d_M_letin_0 : decode mM_letin.2.1 0 = .ok (.aload_n 0, 1) := dq_get dd_M_letin_0 (i := 0) rfl
theorem d_M_letin_1 : decode mM_letin.2.1 1 = .ok (.iload_n 1, 1) := dq_get dd_M_letin_0 (i := 1) rfl
theorem d_M_letin_2 : decode mM_letin.2.1 2 = .ok (.invokevirtual 515, 3) := dq_get dd_M_letin_0 (i := 2) rfl
theorem d_M_letin_5 : decode mM_letin.2.1 5 = .ok (.ifCond .eq 12, 3) := dq_get dd_M_letin_0 (i := 3) rfl
theorem d_M_letin_8 : decode mM_letin.2.1 8 = .ok (.iload_n 2, 1) := dq_get dd_M_letin_0 (i := 4) rfl
theorem d_M_letin_9 : decode mM_letin.2.1 9 = .ok (.iconst 0, 1) := dq_get dd_M_letin_0 (i := 5) rfl
theorem d_M_letin_10 : decode mM_letin.2.1 10 = .ok (.iconst 1, 1) := dq_get dd_M_letin_0 (i := 6) rfl
theorem d_M_letin_11 : decode mM_letin.2.1 11 = .ok (.invokestatic 429, 3) := dq_get dd_M_letin_0 (i := 7) rfl
theorem d_M_letin_14 : decode mM_letin.2.1 14 = .ok (.ifCond .ne 6, 3) := dq_get dd_M_letin_0 (i := 8) rfl
theorem d_M_letin_17 : decode mM_letin.2.1 17 = .ok (.bipush (-100), 2) := dq_get dd_M_letin_0 (i := 9) rfl
theorem d_M_letin_19 : decode mM_letin.2.1 19 = .ok (.ireturn, 1) := dq_get dd_M_letin_0 (i := 10) rfl
theorem d_M_letin_20 : decode mM_letin.2.1 20 = .ok (.iconst 0, 1) := dq_get dd_M_letin_0 (i := 11) rfl
theorem d_M_letin_21 : decode mM_letin.2.1 21 = .ok (.istore_n 3, 1) := dq_get dd_M_letin_0 (i := 12) rfl
theorem d_M_letin_22 : decode mM_letin.2.1 22 = .ok (.iload_n 3, 1) := dq_get dd_M_letin_0 (i := 13) rfl
theorem d_M_letin_23 : decode mM_letin.2.1 23 = .ok (.bipush 14, 2) := dq_get dd_M_letin_0 (i := 14) rfl
theorem d_M_letin_25 : decode mM_letin.2.1 25 = .ok (.if_icmp .gt 69, 3) := dq_get dd_M_letin_0 (i := 15) rfl
theorem d_M_letin_28 : decode mM_letin.2.1 28 = .ok (.iload_n 3, 1) := dq_get dd_M_letin_0 (i := 16) rfl
theorem d_M_letin_29 : decode mM_letin.2.1 29 = .ok (.iconst 2, 1) := dq_get dd_M_letin_0 (i := 17) rfl
theorem d_M_letin_30 : decode mM_letin.2.1 30 = .ok (.irem, 1) := dq_get dd_M_letin_0 (i := 18) rfl
theorem d_M_letin_31 : decode mM_letin.2.1 31 = .ok (.iconst 1, 1) := dq_get dd_M_letin_0 (i := 19) rfl
theorem d_M_letin_32 : decode mM_letin.2.1 32 = .ok (.if_icmp .ne 11, 3) := dq_get dd_M_letin_0 (i := 20) rfl
theorem d_M_letin_35 : decode mM_letin.2.1 35 = .ok (.iload_n 3, 1) := dq_get dd_M_letin_0 (i := 21) rfl
theorem d_M_letin_36 : decode mM_letin.2.1 36 = .ok (.iconst 1, 1) := dq_get dd_M_letin_0 (i := 22) rfl
theorem d_M_letin_37 : decode mM_letin.2.1 37 = .ok (.iadd, 1) := dq_get dd_M_letin_0 (i := 23) rfl
theorem d_M_letin_38 : decode mM_letin.2.1 38 = .ok (.iconst 2, 1) := dq_get dd_M_letin_0 (i := 24) rfl
theorem d_M_letin_39 : decode mM_letin.2.1 39 = .ok (.idiv, 1) := dq_get dd_M_letin_0 (i := 25) rfl
theorem d_M_letin_40 : decode mM_letin.2.1 40 = .ok (.goto 7, 3) := dq_get dd_M_letin_0 (i := 26) rfl
theorem d_M_letin_43 : decode mM_letin.2.1 43 = .ok (.iload_n 3, 1) := dq_get dd_M_letin_0 (i := 27) rfl
theorem d_M_letin_44 : decode mM_letin.2.1 44 = .ok (.iconst 2, 1) := dq_get dd_M_letin_0 (i := 28) rfl
theorem d_M_letin_45 : decode mM_letin.2.1 45 = .ok (.idiv, 1) := dq_get dd_M_letin_0 (i := 29) rfl
theorem d_M_letin_46 : decode mM_letin.2.1 46 = .ok (.ineg, 1) := dq_get dd_M_letin_0 (i := 30) rfl
theorem d_M_letin_47 : decode mM_letin.2.1 47 = .ok (.istore 4, 2) := dq_get dd_M_letin_0 (i := 31) rfl
theorem dd_M_letin_32 : dq mM_letin.2.1 [(49, .iconst 1, 1), (50, .istore 5, 2), (52, .iload 5, 2), (54, .iconst 2, 1), (55, .if_icmp .gt 33, 3), (58, .aload_n 0, 1), (59, .iload_n 1, 1), (60, .iload 4, 2), (62, .iload 5, 2), (64, .invokevirtual 524, 3), (67, .ifCond .eq 15, 3), (70, .iload_n 2, 1), (71, .ifCond .ne 8, 3), (74, .iload 4, 2), (76, .goto 5, 3), (79, .iload 5, 2), (81, .ireturn, 1), (82, .iinc 5 1, 3), (85, .goto (-33), 3), (88, .iinc 3 1, 3), (91, .goto (-69), 3), (94, .bipush (-100), 2), (96, .ireturn, 1)] = true := by decide +kernel
theorem d_M_letin_49 : decode mM_letin.2.1 49 = .ok (.iconst 1, 1) := dq_get dd_M_letin_32 (i := 0) rfl
theorem d_M_letin_50 : decode mM_letin.2.1 50 = .ok (.istore 5, 2) := dq_get dd_M_letin_32 (i := 1) rfl
theorem d_M_letin_52 : decode mM_letin.2.1 52 = .ok (.iload 5, 2) := dq_get dd_M_letin_32 (i := 2) rfl
theorem d_M_letin_54 : decode mM_letin.2.1 54 = .ok (.iconst 2, 1) := dq_get dd_M_letin_32 (i := 3) rfl
theorem d_M_letin_55 : decode mM_letin.2.1 55 = .ok (.if_icmp .gt 33, 3) := dq_get dd_M_letin_32 (i := 4) rfl
theorem d_M_letin_58 : decode mM_letin.2.1 58 = .ok (.aload_n 0, 1) := dq_get dd_M_letin_32 (i := 5) rfl
theorem d_M_letin_59 : decode mM_letin.2.1 59 = .ok (.iload_n 1, 1) := dq_get dd_M_letin_32 (i := 6) rfl
theorem d_M_letin_60 : decode mM_letin.2.1 60 = .ok (.iload 4, 2) := dq_get dd_M_letin_32 (i := 7) rfl
theorem d_M_letin_62 : decode mM_letin.2.1 62 = .ok (.iload 5, 2) := dq_get dd_M_letin_32 (i := 8) rfl
theorem d_M_letin_64 : decode mM_letin.2.1 64 = .ok (.invokevirtual 524, 3) := dq_get dd_M_letin_32 (i := 9) rfl
theorem d_M_letin_67 : decode mM_letin.2.1 67 = .ok (.ifCond .eq 15, 3) := dq_get dd_M_letin_32 (i := 10) rfl
theorem d_M_letin_70 : decode mM_letin.2.1 70 = .ok (.iload_n 2, 1) := dq_get dd_M_letin_32 (i := 11) rfl
theorem d_M_letin_71 : decode mM_letin.2.1 71 = .ok (.ifCond .ne 8, 3) := dq_get dd_M_letin_32 (i := 12) rfl
theorem d_M_letin_74 : decode mM_letin.2.1 74 = .ok (.iload 4, 2) := dq_get dd_M_letin_32 (i := 13) rfl
theorem d_M_letin_76 : decode mM_letin.2.1 76 = .ok (.goto 5, 3) := dq_get dd_M_letin_32 (i := 14) rfl
theorem d_M_letin_79 : decode mM_letin.2.1 79 = .ok (.iload 5, 2) := dq_get dd_M_letin_32 (i := 15) rfl
theorem d_M_letin_81 : decode mM_letin.2.1 81 = .ok (.ireturn, 1) := dq_get dd_M_letin_32 (i := 16) rfl
theorem d_M_letin_82 : decode mM_letin.2.1 82 = .ok (.iinc 5 1, 3) := dq_get dd_M_letin_32 (i := 17) rfl
theorem d_M_letin_85 : decode mM_letin.2.1 85 = .ok (.goto (-33), 3) := dq_get dd_M_letin_32 (i := 18) rfl
theorem d_M_letin_88 : decode mM_letin.2.1 88 = .ok (.iinc 3 1, 3) := dq_get dd_M_letin_32 (i := 19) rfl
theorem d_M_letin_91 : decode mM_letin.2.1 91 = .ok (.goto (-69), 3) := dq_get dd_M_letin_32 (i := 20) rfl
theorem d_M_letin_94 : decode mM_letin.2.1 94 = .ok (.bipush (-100), 2) := dq_get dd_M_letin_32 (i := 21) rfl
theorem d_M_letin_96 : decode mM_letin.2.1 96 = .ok (.ireturn, 1) := dq_get dd_M_letin_32 (i := 22) rfl
theorem dd_M_letsIn_0 : dq mM_letsIn.2.1 [(0, .aload_n 0, 1), (1, .getfield 93, 3), (4, .bipush 10, 2), (6, .iload_n 1, 1), (7, .iadd, 1), (8, .iaload, 1), (9, .bipush 12, 2), (11, .iload_n 2, 1), (12, .imul, 1), (13, .iadd, 1), (14, .istore 4, 2), (16, .iload 4, 2), (18, .iconst 0, 1), (19, .bipush 87, 2), (21, .invokestatic 429, 3), (24, .ifCond .ne 5, 3), (27, .iconst 0, 1), (28, .ireturn, 1), (29, .aload_n 0, 1), (30, .invokevirtual 464, 3), (33, .aload_n 0, 1), (34, .getfield 96, 3), (37, .bipush 10, 2), (39, .iload_n 1, 1), (40, .iadd, 1), (41, .iload 4, 2), (43, .iastore, 1), (44, .aload_n 0, 1), (45, .getfield 96, 3), (48, .iload_n 1, 1), (49, .iload_n 3, 1), (50, .iastore, 1)] = true := by decide +kernel
theorem d_M_letsIn_0 : decode mM_letsIn.2.1 0 = .ok (.aload_n 0, 1) := dq_get dd_M_letsIn_0 (i := 0) rfl
theorem d_M_letsIn_1 : decode mM_letsIn.2.1 1 = .ok (.getfield 93, 3) := dq_get dd_M_letsIn_0 (i := 1) rfl
theorem d_M_letsIn_4 : decode mM_letsIn.2.1 4 = .ok (.bipush 10, 2) := dq_get dd_M_letsIn_0 (i := 2) rfl
theorem d_M_letsIn_6 : decode mM_letsIn.2.1 6 = .ok (.iload_n 1, 1) := dq_get dd_M_letsIn_0 (i := 3) rfl
theorem d_M_letsIn_7 : decode mM_letsIn.2.1 7 = .ok (.iadd, 1) := dq_get dd_M_letsIn_0 (i := 4) rfl
theorem d_M_letsIn_8 : decode mM_letsIn.2.1 8 = .ok (.iaload, 1) := dq_get dd_M_letsIn_0 (i := 5) rfl
theorem d_M_letsIn_9 : decode mM_letsIn.2.1 9 = .ok (.bipush 12, 2) := dq_get dd_M_letsIn_0 (i := 6) rfl
theorem d_M_letsIn_11 : decode mM_letsIn.2.1 11 = .ok (.iload_n 2, 1) := dq_get dd_M_letsIn_0 (i := 7) rfl
theorem d_M_letsIn_12 : decode mM_letsIn.2.1 12 = .ok (.imul, 1) := dq_get dd_M_letsIn_0 (i := 8) rfl
theorem d_M_letsIn_13 : decode mM_letsIn.2.1 13 = .ok (.iadd, 1) := dq_get dd_M_letsIn_0 (i := 9) rfl
theorem d_M_letsIn_14 : decode mM_letsIn.2.1 14 = .ok (.istore 4, 2) := dq_get dd_M_letsIn_0 (i := 10) rfl
theorem d_M_letsIn_16 : decode mM_letsIn.2.1 16 = .ok (.iload 4, 2) := dq_get dd_M_letsIn_0 (i := 11) rfl
theorem d_M_letsIn_18 : decode mM_letsIn.2.1 18 = .ok (.iconst 0, 1) := dq_get dd_M_letsIn_0 (i := 12) rfl
theorem d_M_letsIn_19 : decode mM_letsIn.2.1 19 = .ok (.bipush 87, 2) := dq_get dd_M_letsIn_0 (i := 13) rfl
theorem d_M_letsIn_21 : decode mM_letsIn.2.1 21 = .ok (.invokestatic 429, 3) := dq_get dd_M_letsIn_0 (i := 14) rfl
theorem d_M_letsIn_24 : decode mM_letsIn.2.1 24 = .ok (.ifCond .ne 5, 3) := dq_get dd_M_letsIn_0 (i := 15) rfl
theorem d_M_letsIn_27 : decode mM_letsIn.2.1 27 = .ok (.iconst 0, 1) := dq_get dd_M_letsIn_0 (i := 16) rfl
theorem d_M_letsIn_28 : decode mM_letsIn.2.1 28 = .ok (.ireturn, 1) := dq_get dd_M_letsIn_0 (i := 17) rfl
theorem d_M_letsIn_29 : decode mM_letsIn.2.1 29 = .ok (.aload_n 0, 1) := dq_get dd_M_letsIn_0 (i := 18) rfl
theorem d_M_letsIn_30 : decode mM_letsIn.2.1 30 = .ok (.invokevirtual 464, 3) := dq_get dd_M_letsIn_0 (i := 19) rfl
theorem d_M_letsIn_33 : decode mM_letsIn.2.1 33 = .ok (.aload_n 0, 1) := dq_get dd_M_letsIn_0 (i := 20) rfl
theorem d_M_letsIn_34 : decode mM_letsIn.2.1 34 = .ok (.getfield 96, 3) := dq_get dd_M_letsIn_0 (i := 21) rfl
theorem d_M_letsIn_37 : decode mM_letsIn.2.1 37 = .ok (.bipush 10, 2) := dq_get dd_M_letsIn_0 (i := 22) rfl
theorem d_M_letsIn_39 : decode mM_letsIn.2.1 39 = .ok (.iload_n 1, 1) := dq_get dd_M_letsIn_0 (i := 23) rfl
theorem d_M_letsIn_40 : decode mM_letsIn.2.1 40 = .ok (.iadd, 1) := dq_get dd_M_letsIn_0 (i := 24) rfl
theorem d_M_letsIn_41 : decode mM_letsIn.2.1 41 = .ok (.iload 4, 2) := dq_get dd_M_letsIn_0 (i := 25) rfl
theorem d_M_letsIn_43 : decode mM_letsIn.2.1 43 = .ok (.iastore, 1) := dq_get dd_M_letsIn_0 (i := 26) rfl
theorem d_M_letsIn_44 : decode mM_letsIn.2.1 44 = .ok (.aload_n 0, 1) := dq_get dd_M_letsIn_0 (i := 27) rfl
theorem d_M_letsIn_45 : decode mM_letsIn.2.1 45 = .ok (.getfield 96, 3) := dq_get dd_M_letsIn_0 (i := 28) rfl
theorem d_M_letsIn_48 : decode mM_letsIn.2.1 48 = .ok (.iload_n 1, 1) := dq_get dd_M_letsIn_0 (i := 29) rfl
theorem d_M_letsIn_49 : decode mM_letsIn.2.1 49 = .ok (.iload_n 3, 1) := dq_get dd_M_letsIn_0 (i := 30) rfl
theorem d_M_letsIn_50 : decode mM_letsIn.2.1 50 = .ok (.iastore, 1) := dq_get dd_M_letsIn_0 (i := 31) rfl
theorem dd_M_letsIn_32 : dq mM_letsIn.2.1 [(51, .aload_n 0, 1), (52, .invokevirtual 521, 3), (55, .ireturn, 1)] = true := by decide +kernel
theorem d_M_letsIn_51 : decode mM_letsIn.2.1 51 = .ok (.aload_n 0, 1) := dq_get dd_M_letsIn_32 (i := 0) rfl
theorem d_M_letsIn_52 : decode mM_letsIn.2.1 52 = .ok (.invokevirtual 521, 3) := dq_get dd_M_letsIn_32 (i := 1) rfl
theorem d_M_letsIn_55 : decode mM_letsIn.2.1 55 = .ok (.ireturn, 1) := dq_get dd_M_letsIn_32 (i := 2) rfl
theorem dd_M_canBePlayedSo_0 : dq mM_canBePlayedSo.2.1 [(0, .aload_n 0, 1), (1, .aload_n 0, 1), (2, .iconst 1, 1), (3, .invokevirtual 454, 3), (6, .aload_n 0, 1), (7, .iconst 2, 1), (8, .invokevirtual 454, 3), (11, .aload_n 0, 1), (12, .getfield 84, 3), (15, .aload_n 0, 1), (16, .getfield 81, 3), (19, .invokevirtual 457, 3), (22, .ireturn, 1)] = true := by decide +kernel
theorem d_M_canBePlayedSo_0 : decode mM_canBePlayedSo.2.1 0 = .ok (.aload_n 0, 1) := dq_get dd_M_canBePlayedSo_0 (i := 0) rfl
theorem d_M_canBePlayedSo_1 : decode mM_canBePlayedSo.2.1 1 = .ok (.aload_n 0, 1) := dq_get dd_M_canBePlayedSo_0 (i := 1) rfl
theorem d_M_canBePlayedSo_2 : decode mM_canBePlayedSo.2.1 2 = .ok (.iconst 1, 1) := dq_get dd_M_canBePlayedSo_0 (i := 2) rfl
theorem d_M_canBePlayedSo_3 : decode mM_canBePlayedSo.2.1 3 = .ok (.invokevirtual 454, 3) := dq_get dd_M_canBePlayedSo_0 (i := 3) rfl
theorem d_M_canBePlayedSo_6 : decode mM_canBePlayedSo.2.1 6 = .ok (.aload_n 0, 1) := dq_get dd_M_canBePlayedSo_0 (i := 4) rfl
theorem d_M_canBePlayedSo_7 : decode mM_canBePlayedSo.2.1 7 = .ok (.iconst 2, 1) := dq_get dd_M_canBePlayedSo_0 (i := 5) rfl
theorem d_M_canBePlayedSo_8 : decode mM_canBePlayedSo.2.1 8 = .ok (.invokevirtual 454, 3) := dq_get dd_M_canBePlayedSo_0 (i := 6) rfl
theorem d_M_canBePlayedSo_11 : decode mM_canBePlayedSo.2.1 11 = .ok (.aload_n 0, 1) := dq_get dd_M_canBePlayedSo_0 (i := 7) rfl
theorem d_M_canBePlayedSo_12 : decode mM_canBePlayedSo.2.1 12 = .ok (.getfield 84, 3) := dq_get dd_M_canBePlayedSo_0 (i := 8) rfl
theorem d_M_canBePlayedSo_15 : decode mM_canBePlayedSo.2.1 15 = .ok (.aload_n 0, 1) := dq_get dd_M_canBePlayedSo_0 (i := 9) rfl
theorem d_M_canBePlayedSo_16 : decode mM_canBePlayedSo.2.1 16 = .ok (.getfield 81, 3) := dq_get dd_M_canBePlayedSo_0 (i := 10) rfl
theorem d_M_canBePlayedSo_19 : decode mM_canBePlayedSo.2.1 19 = .ok (.invokevirtual 457, 3) := dq_get dd_M_canBePlayedSo_0 (i := 11) rfl
theorem d_M_canBePlayedSo_22 : decode mM_canBePlayedSo.2.1 22 = .ok (.ireturn, 1) := dq_get dd_M_canBePlayedSo_0 (i := 12) rfl
theorem dd_M_pedals_0 : dq mM_pedals.2.1 [(0, .iload_n 1, 1), (1, .iconst 0, 1), (2, .iconst 1, 1), (3, .invokestatic 429, 3), (6, .ifCond .ne 5, 3), (9, .iconst (-1), 1), (10, .ireturn, 1), (11, .aload_n 0, 1), (12, .invokevirtual 464, 3), (15, .aload_n 0, 1), (16, .iconst 1, 1), (17, .invokevirtual 454, 3), (20, .istore_n 2, 1), (21, .aload_n 0, 1), (22, .iconst 2, 1), (23, .invokevirtual 454, 3), (26, .istore_n 3, 1), (27, .iconst (-1), 1), (28, .istore 4, 2), (30, .iconst 0, 1), (31, .istore 5, 2), (33, .iload 5, 2), (35, .iconst 1, 1), (36, .aload_n 0, 1), (37, .getfield 78, 3), (40, .ishl, 1), (41, .if_icmp .ge 64, 3), (44, .iload 4, 2), (46, .ifCond .lt 19, 3), (49, .iload 5, 2), (51, .invokestatic 331, 3), (54, .iload 4, 2)] = true := by decide +kernel
theorem d_M_pedals_0 : decode mM_pedals.2.1 0 = .ok (.iload_n 1, 1) := dq_get dd_M_pedals_0 (i := 0) rfl
theorem d_M_pedals_1 : decode mM_pedals.2.1 1 = .ok (.iconst 0, 1) := dq_get dd_M_pedals_0 (i := 1) rfl
theorem d_M_pedals_2 : decode mM_pedals.2.1 2 = .ok (.iconst 1, 1) := dq_get dd_M_pedals_0 (i := 2) rfl
theorem d_M_pedals_3 : decode mM_pedals.2.1 3 = .ok (.invokestatic 429, 3) := dq_get dd_M_pedals_0 (i := 3) rfl
theorem d_M_pedals_6 : decode mM_pedals.2.1 6 = .ok (.ifCond .ne 5, 3) := dq_get dd_M_pedals_0 (i := 4) rfl
theorem d_M_pedals_9 : decode mM_pedals.2.1 9 = .ok (.iconst (-1), 1) := dq_get dd_M_pedals_0 (i := 5) rfl
theorem d_M_pedals_10 : decode mM_pedals.2.1 10 = .ok (.ireturn, 1) := dq_get dd_M_pedals_0 (i := 6) rfl
theorem d_M_pedals_11 : decode mM_pedals.2.1 11 = .ok (.aload_n 0, 1) := dq_get dd_M_pedals_0 (i := 7) rfl
theorem d_M_pedals_12 : decode mM_pedals.2.1 12 = .ok (.invokevirtual 464, 3) := dq_get dd_M_pedals_0 (i := 8) rfl
theorem d_M_pedals_15 : decode mM_pedals.2.1 15 = .ok (.aload_n 0, 1) := dq_get dd_M_pedals_0 (i := 9) rfl
theorem d_M_pedals_16 : decode mM_pedals.2.1 16 = .ok (.iconst 1, 1) := dq_get dd_M_pedals_0 (i := 10) rfl
theorem d_M_pedals_17 : decode mM_pedals.2.1 17 = .ok (.invokevirtual 454, 3) := dq_get dd_M_pedals_0 (i := 11) rfl
theorem d_M_pedals_20 : decode mM_pedals.2.1 20 = .ok (.istore_n 2, 1) := dq_get dd_M_pedals_0 (i := 12) rfl
theorem d_M_pedals_21 : decode mM_pedals.2.1 21 = .ok (.aload_n 0, 1) := dq_get dd_M_pedals_0 (i := 13) rfl
theorem d_M_pedals_22 : decode mM_pedals.2.1 22 = .ok (.iconst 2, 1) := dq_get dd_M_pedals_0 (i := 14) rfl
theorem d_M_pedals_23 : decode mM_pedals.2.1 23 = .ok (.invokevirtual 454, 3) := dq_get dd_M_pedals_0 (i := 15) rfl
theorem d_M_pedals_26 : decode mM_pedals.2.1 26 = .ok (.istore_n 3, 1) := dq_get dd_M_pedals_0 (i := 16) rfl
theorem d_M_pedals_27 : decode mM_pedals.2.1 27 = .ok (.iconst (-1), 1) := dq_get dd_M_pedals_0 (i := 17) rfl
theorem d_M_pedals_28 : decode mM_pedals.2.1 28 = .ok (.istore 4, 2) := dq_get dd_M_pedals_0 (i := 18) rfl
theorem d_M_pedals_30 : decode mM_pedals.2.1 30 = .ok (.iconst 0, 1) := dq_get dd_M_pedals_0 (i := 19) rfl
theorem d_M_pedals_31 : decode mM_pedals.2.1 31 = .ok (.istore 5, 2) := dq_get dd_M_pedals_0 (i := 20) rfl
theorem d_M_pedals_33 : decode mM_pedals.2.1 33 = .ok (.iload 5, 2) := dq_get dd_M_pedals_0 (i := 21) rfl
theorem d_M_pedals_35 : decode mM_pedals.2.1 35 = .ok (.iconst 1, 1) := dq_get dd_M_pedals_0 (i := 22) rfl
theorem d_M_pedals_36 : decode mM_pedals.2.1 36 = .ok (.aload_n 0, 1) := dq_get dd_M_pedals_0 (i := 23) rfl
theorem d_M_pedals_37 : decode mM_pedals.2.1 37 = .ok (.getfield 78, 3) := dq_get dd_M_pedals_0 (i := 24) rfl
theorem d_M_pedals_40 : decode mM_pedals.2.1 40 = .ok (.ishl, 1) := dq_get dd_M_pedals_0 (i := 25) rfl
theorem d_M_pedals_41 : decode mM_pedals.2.1 41 = .ok (.if_icmp .ge 64, 3) := dq_get dd_M_pedals_0 (i := 26) rfl
theorem d_M_pedals_44 : decode mM_pedals.2.1 44 = .ok (.iload 4, 2) := dq_get dd_M_pedals_0 (i := 27) rfl
theorem d_M_pedals_46 : decode mM_pedals.2.1 46 = .ok (.ifCond .lt 19, 3) := dq_get dd_M_pedals_0 (i := 28) rfl
theorem d_M_pedals_49 : decode mM_pedals.2.1 49 = .ok (.iload 5, 2) := dq_get dd_M_pedals_0 (i := 29) rfl
theorem d_M_pedals_51 : decode mM_pedals.2.1 51 = .ok (.invokestatic 331, 3) := dq_get dd_M_pedals_0 (i := 30) rfl
theorem d_M_pedals_54 : decode mM_pedals.2.1 54 = .ok (.iload 4, 2) := dq_get dd_M_pedals_0 (i := 31) rfl
theorem dd_M_pedals_32 : dq mM_pedals.2.1 [(56, .invokestatic 331, 3), (59, .if_icmp .lt 6, 3), (62, .goto 37, 3), (65, .aload_n 0, 1), (66, .getfield 96, 3), (69, .bipush 40, 2), (71, .iload 5, 2), (73, .iastore, 1), (74, .aload_n 0, 1), (75, .invokevirtual 433, 3), (78, .aload_n 0, 1), (79, .iload_n 2, 1), (80, .iload_n 3, 1), (81, .aload_n 0, 1), (82, .getfield 84, 3), (85, .aload_n 0, 1), (86, .getfield 81, 3), (89, .invokevirtual 457, 3), (92, .ifCond .eq 7, 3), (95, .iload 5, 2), (97, .istore 4, 2), (99, .iinc 5 1, 3), (102, .goto (-69), 3), (105, .iload 4, 2), (107, .ifCond .ge 7, 3), (110, .iconst (-1), 1), (111, .goto 17, 3), (114, .iload_n 1, 1), (115, .ifCond .ne 11, 3), (118, .iload 4, 2), (120, .invokestatic 331, 3), (123, .goto 5, 3)] = true := by decide +kernel
theorem d_M_pedals_56 : decode mM_pedals.2.1 56 = .ok (.invokestatic 331, 3) := dq_get dd_M_pedals_32 (i := 0) rfl
theorem d_M_pedals_59 : decode mM_pedals.2.1 59 = .ok (.if_icmp .lt 6, 3) := dq_get dd_M_pedals_32 (i := 1) rfl
theorem d_M_pedals_62 : decode mM_pedals.2.1 62 = .ok (.goto 37, 3) := dq_get dd_M_pedals_32 (i := 2) rfl
theorem d_M_pedals_65 : decode mM_pedals.2.1 65 = .ok (.aload_n 0, 1) := dq_get dd_M_pedals_32 (i := 3) rfl
theorem d_M_pedals_66 : decode mM_pedals.2.1 66 = .ok (.getfield 96, 3) := dq_get dd_M_pedals_32 (i := 4) rfl
theorem d_M_pedals_69 : decode mM_pedals.2.1 69 = .ok (.bipush 40, 2) := dq_get dd_M_pedals_32 (i := 5) rfl
theorem d_M_pedals_71 : decode mM_pedals.2.1 71 = .ok (.iload 5, 2) := dq_get dd_M_pedals_32 (i := 6) rfl
theorem d_M_pedals_73 : decode mM_pedals.2.1 73 = .ok (.iastore, 1) := dq_get dd_M_pedals_32 (i := 7) rfl
theorem d_M_pedals_74 : decode mM_pedals.2.1 74 = .ok (.aload_n 0, 1) := dq_get dd_M_pedals_32 (i := 8) rfl
theorem d_M_pedals_75 : decode mM_pedals.2.1 75 = .ok (.invokevirtual 433, 3) := dq_get dd_M_pedals_32 (i := 9) rfl
theorem d_M_pedals_78 : decode mM_pedals.2.1 78 = .ok (.aload_n 0, 1) := dq_get dd_M_pedals_32 (i := 10) rfl
theorem d_M_pedals_79 : decode mM_pedals.2.1 79 = .ok (.iload_n 2, 1) := dq_get dd_M_pedals_32 (i := 11) rfl
theorem d_M_pedals_80 : decode mM_pedals.2.1 80 = .ok (.iload_n 3, 1) := dq_get dd_M_pedals_32 (i := 12) rfl
theorem d_M_pedals_81 : decode mM_pedals.2.1 81 = .ok (.aload_n 0, 1) := dq_get dd_M_pedals_32 (i := 13) rfl
theorem d_M_pedals_82 : decode mM_pedals.2.1 82 = .ok (.getfield 84, 3) := dq_get dd_M_pedals_32 (i := 14) rfl
theorem d_M_pedals_85 : decode mM_pedals.2.1 85 = .ok (.aload_n 0, 1) := dq_get dd_M_pedals_32 (i := 15) rfl
theorem d_M_pedals_86 : decode mM_pedals.2.1 86 = .ok (.getfield 81, 3) := dq_get dd_M_pedals_32 (i := 16) rfl
theorem d_M_pedals_89 : decode mM_pedals.2.1 89 = .ok (.invokevirtual 457, 3) := dq_get dd_M_pedals_32 (i := 17) rfl
theorem d_M_pedals_92 : decode mM_pedals.2.1 92 = .ok (.ifCond .eq 7, 3) := dq_get dd_M_pedals_32 (i := 18) rfl
theorem d_M_pedals_95 : decode mM_pedals.2.1 95 = .ok (.iload 5, 2) := dq_get dd_M_pedals_32 (i := 19) rfl
theorem d_M_pedals_97 : decode mM_pedals.2.1 97 = .ok (.istore 4, 2) := dq_get dd_M_pedals_32 (i := 20) rfl
theorem d_M_pedals_99 : decode mM_pedals.2.1 99 = .ok (.iinc 5 1, 3) := dq_get dd_M_pedals_32 (i := 21) rfl
theorem d_M_pedals_102 : decode mM_pedals.2.1 102 = .ok (.goto (-69), 3) := dq_get dd_M_pedals_32 (i := 22) rfl
theorem d_M_pedals_105 : decode mM_pedals.2.1 105 = .ok (.iload 4, 2) := dq_get dd_M_pedals_32 (i := 23) rfl
theorem d_M_pedals_107 : decode mM_pedals.2.1 107 = .ok (.ifCond .ge 7, 3) := dq_get dd_M_pedals_32 (i := 24) rfl
theorem d_M_pedals_110 : decode mM_pedals.2.1 110 = .ok (.iconst (-1), 1) := dq_get dd_M_pedals_32 (i := 25) rfl
theorem d_M_pedals_111 : decode mM_pedals.2.1 111 = .ok (.goto 17, 3) := dq_get dd_M_pedals_32 (i := 26) rfl
theorem d_M_pedals_114 : decode mM_pedals.2.1 114 = .ok (.iload_n 1, 1) := dq_get dd_M_pedals_32 (i := 27) rfl
theorem d_M_pedals_115 : decode mM_pedals.2.1 115 = .ok (.ifCond .ne 11, 3) := dq_get dd_M_pedals_32 (i := 28) rfl
theorem d_M_pedals_118 : decode mM_pedals.2.1 118 = .ok (.iload 4, 2) := dq_get dd_M_pedals_32 (i := 29) rfl
theorem d_M_pedals_120 : decode mM_pedals.2.1 120 = .ok (.invokestatic 331, 3) := dq_get dd_M_pedals_32 (i := 30) rfl
theorem d_M_pedals_123 : decode mM_pedals.2.1 123 = .ok (.goto 5, 3) := dq_get dd_M_pedals_32 (i := 31) rfl
theorem dd_M_pedals_64 : dq mM_pedals.2.1 [(126, .iload 4, 2), (128, .ireturn, 1)] = true := by decide +kernel
theorem d_M_pedals_126 : decode mM_pedals.2.1 126 = .ok (.iload 4, 2) := dq_get dd_M_pedals_64 (i := 0) rfl
theorem d_M_pedals_128 : decode mM_pedals.2.1 128 = .ok (.ireturn, 1) := dq_get dd_M_pedals_64 (i := 1) rfl
theorem dd_M_spread_0 : dq mM_spread.2.1 [(0, .iload_n 1, 1), (1, .invokestatic 476, 3), (4, .ifCond .ne 5, 3), (7, .iconst (-1), 1), (8, .ireturn, 1), (9, .aload_n 0, 1), (10, .invokevirtual 464, 3), (13, .iconst 0, 1), (14, .istore_n 2, 1), (15, .iconst 0, 1), (16, .istore_n 3, 1), (17, .iload_n 3, 1), (18, .aload_n 0, 1), (19, .getfield 78, 3), (22, .if_icmp .ge 46, 3), (25, .aload_n 0, 1), (26, .iload_n 1, 1), (27, .invokevirtual 454, 3), (30, .aload_n 0, 1), (31, .getfield 99, 3), (34, .iload_n 3, 1), (35, .iaload, 1), (36, .iand, 1), (37, .istore 4, 2), (39, .iload 4, 2), (41, .ifCond .eq 21, 3), (44, .iload_n 2, 1), (45, .aload_n 0, 1), (46, .iload 4, 2), (48, .invokevirtual 440, 3), (51, .aload_n 0, 1), (52, .iload 4, 2)] = true := by decide +kernel
theorem d_M_spread_0 : decode mM_spread.2.1 0 = .ok (.iload_n 1, 1) := dq_get dd_M_spread_0 (i := 0) rfl
theorem d_M_spread_1 : decode mM_spread.2.1 1 = .ok (.invokestatic 476, 3) := dq_get dd_M_spread_0 (i := 1) rfl
theorem d_M_spread_4 : decode mM_spread.2.1 4 = .ok (.ifCond .ne 5, 3) := dq_get dd_M_spread_0 (i := 2) rfl
theorem d_M_spread_7 : decode mM_spread.2.1 7 = .ok (.iconst (-1), 1) := dq_get dd_M_spread_0 (i := 3) rfl
theorem d_M_spread_8 : decode mM_spread.2.1 8 = .ok (.ireturn, 1) := dq_get dd_M_spread_0 (i := 4) rfl
theorem d_M_spread_9 : decode mM_spread.2.1 9 = .ok (.aload_n 0, 1) := dq_get dd_M_spread_0 (i := 5) rfl
theorem d_M_spread_10 : decode mM_spread.2.1 10 = .ok (.invokevirtual 464, 3) := dq_get dd_M_spread_0 (i := 6) rfl
theorem d_M_spread_13 : decode mM_spread.2.1 13 = .ok (.iconst 0, 1) := dq_get dd_M_spread_0 (i := 7) rfl
theorem d_M_spread_14 : decode mM_spread.2.1 14 = .ok (.istore_n 2, 1) := dq_get dd_M_spread_0 (i := 8) rfl
theorem d_M_spread_15 : decode mM_spread.2.1 15 = .ok (.iconst 0, 1) := dq_get dd_M_spread_0 (i := 9) rfl
theorem d_M_spread_16 : decode mM_spread.2.1 16 = .ok (.istore_n 3, 1) := dq_get dd_M_spread_0 (i := 10) rfl
theorem d_M_spread_17 : decode mM_spread.2.1 17 = .ok (.iload_n 3, 1) := dq_get dd_M_spread_0 (i := 11) rfl
theorem d_M_spread_18 : decode mM_spread.2.1 18 = .ok (.aload_n 0, 1) := dq_get dd_M_spread_0 (i := 12) rfl
theorem d_M_spread_19 : decode mM_spread.2.1 19 = .ok (.getfield 78, 3) := dq_get dd_M_spread_0 (i := 13) rfl
theorem d_M_spread_22 : decode mM_spread.2.1 22 = .ok (.if_icmp .ge 46, 3) := dq_get dd_M_spread_0 (i := 14) rfl
theorem d_M_spread_25 : decode mM_spread.2.1 25 = .ok (.aload_n 0, 1) := dq_get dd_M_spread_0 (i := 15) rfl
theorem d_M_spread_26 : decode mM_spread.2.1 26 = .ok (.iload_n 1, 1) := dq_get dd_M_spread_0 (i := 16) rfl
theorem d_M_spread_27 : decode mM_spread.2.1 27 = .ok (.invokevirtual 454, 3) := dq_get dd_M_spread_0 (i := 17) rfl
theorem d_M_spread_30 : decode mM_spread.2.1 30 = .ok (.aload_n 0, 1) := dq_get dd_M_spread_0 (i := 18) rfl
theorem d_M_spread_31 : decode mM_spread.2.1 31 = .ok (.getfield 99, 3) := dq_get dd_M_spread_0 (i := 19) rfl
theorem d_M_spread_34 : decode mM_spread.2.1 34 = .ok (.iload_n 3, 1) := dq_get dd_M_spread_0 (i := 20) rfl
theorem d_M_spread_35 : decode mM_spread.2.1 35 = .ok (.iaload, 1) := dq_get dd_M_spread_0 (i := 21) rfl
theorem d_M_spread_36 : decode mM_spread.2.1 36 = .ok (.iand, 1) := dq_get dd_M_spread_0 (i := 22) rfl
theorem d_M_spread_37 : decode mM_spread.2.1 37 = .ok (.istore 4, 2) := dq_get dd_M_spread_0 (i := 23) rfl
theorem d_M_spread_39 : decode mM_spread.2.1 39 = .ok (.iload 4, 2) := dq_get dd_M_spread_0 (i := 24) rfl
theorem d_M_spread_41 : decode mM_spread.2.1 41 = .ok (.ifCond .eq 21, 3) := dq_get dd_M_spread_0 (i := 25) rfl
theorem d_M_spread_44 : decode mM_spread.2.1 44 = .ok (.iload_n 2, 1) := dq_get dd_M_spread_0 (i := 26) rfl
theorem d_M_spread_45 : decode mM_spread.2.1 45 = .ok (.aload_n 0, 1) := dq_get dd_M_spread_0 (i := 27) rfl
theorem d_M_spread_46 : decode mM_spread.2.1 46 = .ok (.iload 4, 2) := dq_get dd_M_spread_0 (i := 28) rfl
theorem d_M_spread_48 : decode mM_spread.2.1 48 = .ok (.invokevirtual 440, 3) := dq_get dd_M_spread_0 (i := 29) rfl
theorem d_M_spread_51 : decode mM_spread.2.1 51 = .ok (.aload_n 0, 1) := dq_get dd_M_spread_0 (i := 30) rfl
theorem d_M_spread_52 : decode mM_spread.2.1 52 = .ok (.iload 4, 2) := dq_get dd_M_spread_0 (i := 31) rfl
theorem dd_M_spread_32 : dq mM_spread.2.1 [(54, .invokevirtual 437, 3), (57, .isub, 1), (58, .invokestatic 527, 3), (61, .istore_n 2, 1), (62, .iinc 3 1, 3), (65, .goto (-48), 3), (68, .iload_n 2, 1), (69, .ireturn, 1)] = true := by decide +kernel
theorem d_M_spread_54 : decode mM_spread.2.1 54 = .ok (.invokevirtual 437, 3) := dq_get dd_M_spread_32 (i := 0) rfl
theorem d_M_spread_57 : decode mM_spread.2.1 57 = .ok (.isub, 1) := dq_get dd_M_spread_32 (i := 1) rfl
theorem d_M_spread_58 : decode mM_spread.2.1 58 = .ok (.invokestatic 527, 3) := dq_get dd_M_spread_32 (i := 2) rfl
theorem d_M_spread_61 : decode mM_spread.2.1 61 = .ok (.istore_n 2, 1) := dq_get dd_M_spread_32 (i := 3) rfl
theorem d_M_spread_62 : decode mM_spread.2.1 62 = .ok (.iinc 3 1, 3) := dq_get dd_M_spread_32 (i := 4) rfl
theorem d_M_spread_65 : decode mM_spread.2.1 65 = .ok (.goto (-48), 3) := dq_get dd_M_spread_32 (i := 5) rfl
theorem d_M_spread_68 : decode mM_spread.2.1 68 = .ok (.iload_n 2, 1) := dq_get dd_M_spread_32 (i := 6) rfl
theorem d_M_spread_69 : decode mM_spread.2.1 69 = .ok (.ireturn, 1) := dq_get dd_M_spread_32 (i := 7) rfl
theorem dd_M_greater_0 : dq mM_greater.2.1 [(0, .iload_n 0, 1), (1, .iload_n 1, 1), (2, .if_icmp .le 7, 3), (5, .iload_n 0, 1), (6, .goto 4, 3), (9, .iload_n 1, 1), (10, .ireturn, 1)] = true := by decide +kernel
theorem d_M_greater_0 : decode mM_greater.2.1 0 = .ok (.iload_n 0, 1) := dq_get dd_M_greater_0 (i := 0) rfl
theorem d_M_greater_1 : decode mM_greater.2.1 1 = .ok (.iload_n 1, 1) := dq_get dd_M_greater_0 (i := 1) rfl
theorem d_M_greater_2 : decode mM_greater.2.1 2 = .ok (.if_icmp .le 7, 3) := dq_get dd_M_greater_0 (i := 2) rfl
theorem d_M_greater_5 : decode mM_greater.2.1 5 = .ok (.iload_n 0, 1) := dq_get dd_M_greater_0 (i := 3) rfl
theorem d_M_greater_6 : decode mM_greater.2.1 6 = .ok (.goto 4, 3) := dq_get dd_M_greater_0 (i := 4) rfl
theorem d_M_greater_9 : decode mM_greater.2.1 9 = .ok (.iload_n 1, 1) := dq_get dd_M_greater_0 (i := 5) rfl
theorem d_M_greater_10 : decode mM_greater.2.1 10 = .ok (.ireturn, 1) := dq_get dd_M_greater_0 (i := 6) rfl
theorem dd_M_leaps_0 : dq mM_leaps.2.1 [(0, .iload_n 1, 1), (1, .invokestatic 476, 3), (4, .ifCond .ne 5, 3), (7, .iconst (-1), 1), (8, .ireturn, 1), (9, .aload_n 0, 1), (10, .invokevirtual 464, 3), (13, .iconst 0, 1), (14, .istore_n 2, 1), (15, .iconst 1, 1), (16, .istore_n 3, 1), (17, .iload_n 3, 1), (18, .aload_n 0, 1), (19, .getfield 78, 3), (22, .if_icmp .ge 70, 3), (25, .aload_n 0, 1), (26, .iload_n 1, 1), (27, .invokevirtual 454, 3), (30, .aload_n 0, 1), (31, .getfield 99, 3), (34, .iload_n 3, 1), (35, .iaload, 1), (36, .iand, 1), (37, .istore 4, 2), (39, .aload_n 0, 1), (40, .iload_n 1, 1), (41, .invokevirtual 454, 3), (44, .aload_n 0, 1), (45, .getfield 99, 3), (48, .iload_n 3, 1), (49, .iconst 1, 1), (50, .isub, 1)] = true := by decide +kernel
theorem d_M_leaps_0 : decode mM_leaps.2.1 0 = .ok (.iload_n 1, 1) := dq_get dd_M_leaps_0 (i := 0) rfl
theorem d_M_leaps_1 : decode mM_leaps.2.1 1 = .ok (.invokestatic 476, 3) := dq_get dd_M_leaps_0 (i := 1) rfl
theorem d_M_leaps_4 : decode mM_leaps.2.1 4 = .ok (.ifCond .ne 5, 3) := dq_get dd_M_leaps_0 (i := 2) rfl
theorem d_M_leaps_7 : decode mM_leaps.2.1 7 = .ok (.iconst (-1), 1) := dq_get dd_M_leaps_0 (i := 3) rfl
theorem d_M_leaps_8 : decode mM_leaps.2.1 8 = .ok (.ireturn, 1) := dq_get dd_M_leaps_0 (i := 4) rfl
theorem d_M_leaps_9 : decode mM_leaps.2.1 9 = .ok (.aload_n 0, 1) := dq_get dd_M_leaps_0 (i := 5) rfl
theorem d_M_leaps_10 : decode mM_leaps.2.1 10 = .ok (.invokevirtual 464, 3) := dq_get dd_M_leaps_0 (i := 6) rfl
theorem d_M_leaps_13 : decode mM_leaps.2.1 13 = .ok (.iconst 0, 1) := dq_get dd_M_leaps_0 (i := 7) rfl
theorem d_M_leaps_14 : decode mM_leaps.2.1 14 = .ok (.istore_n 2, 1) := dq_get dd_M_leaps_0 (i := 8) rfl
theorem d_M_leaps_15 : decode mM_leaps.2.1 15 = .ok (.iconst 1, 1) := dq_get dd_M_leaps_0 (i := 9) rfl
theorem d_M_leaps_16 : decode mM_leaps.2.1 16 = .ok (.istore_n 3, 1) := dq_get dd_M_leaps_0 (i := 10) rfl
theorem d_M_leaps_17 : decode mM_leaps.2.1 17 = .ok (.iload_n 3, 1) := dq_get dd_M_leaps_0 (i := 11) rfl
theorem d_M_leaps_18 : decode mM_leaps.2.1 18 = .ok (.aload_n 0, 1) := dq_get dd_M_leaps_0 (i := 12) rfl
theorem d_M_leaps_19 : decode mM_leaps.2.1 19 = .ok (.getfield 78, 3) := dq_get dd_M_leaps_0 (i := 13) rfl
theorem d_M_leaps_22 : decode mM_leaps.2.1 22 = .ok (.if_icmp .ge 70, 3) := dq_get dd_M_leaps_0 (i := 14) rfl
theorem d_M_leaps_25 : decode mM_leaps.2.1 25 = .ok (.aload_n 0, 1) := dq_get dd_M_leaps_0 (i := 15) rfl
theorem d_M_leaps_26 : decode mM_leaps.2.1 26 = .ok (.iload_n 1, 1) := dq_get dd_M_leaps_0 (i := 16) rfl
theorem d_M_leaps_27 : decode mM_leaps.2.1 27 = .ok (.invokevirtual 454, 3) := dq_get dd_M_leaps_0 (i := 17) rfl
theorem d_M_leaps_30 : decode mM_leaps.2.1 30 = .ok (.aload_n 0, 1) := dq_get dd_M_leaps_0 (i := 18) rfl
theorem d_M_leaps_31 : decode mM_leaps.2.1 31 = .ok (.getfield 99, 3) := dq_get dd_M_leaps_0 (i := 19) rfl
theorem d_M_leaps_34 : decode mM_leaps.2.1 34 = .ok (.iload_n 3, 1) := dq_get dd_M_leaps_0 (i := 20) rfl
theorem d_M_leaps_35 : decode mM_leaps.2.1 35 = .ok (.iaload, 1) := dq_get dd_M_leaps_0 (i := 21) rfl
theorem d_M_leaps_36 : decode mM_leaps.2.1 36 = .ok (.iand, 1) := dq_get dd_M_leaps_0 (i := 22) rfl
theorem d_M_leaps_37 : decode mM_leaps.2.1 37 = .ok (.istore 4, 2) := dq_get dd_M_leaps_0 (i := 23) rfl
theorem d_M_leaps_39 : decode mM_leaps.2.1 39 = .ok (.aload_n 0, 1) := dq_get dd_M_leaps_0 (i := 24) rfl
theorem d_M_leaps_40 : decode mM_leaps.2.1 40 = .ok (.iload_n 1, 1) := dq_get dd_M_leaps_0 (i := 25) rfl
theorem d_M_leaps_41 : decode mM_leaps.2.1 41 = .ok (.invokevirtual 454, 3) := dq_get dd_M_leaps_0 (i := 26) rfl
theorem d_M_leaps_44 : decode mM_leaps.2.1 44 = .ok (.aload_n 0, 1) := dq_get dd_M_leaps_0 (i := 27) rfl
theorem d_M_leaps_45 : decode mM_leaps.2.1 45 = .ok (.getfield 99, 3) := dq_get dd_M_leaps_0 (i := 28) rfl
theorem d_M_leaps_48 : decode mM_leaps.2.1 48 = .ok (.iload_n 3, 1) := dq_get dd_M_leaps_0 (i := 29) rfl
theorem d_M_leaps_49 : decode mM_leaps.2.1 49 = .ok (.iconst 1, 1) := dq_get dd_M_leaps_0 (i := 30) rfl
theorem d_M_leaps_50 : decode mM_leaps.2.1 50 = .ok (.isub, 1) := dq_get dd_M_leaps_0 (i := 31) rfl
theorem dd_M_leaps_32 : dq mM_leaps.2.1 [(51, .iaload, 1), (52, .iand, 1), (53, .istore 5, 2), (55, .iload 4, 2), (57, .ifCond .eq 29, 3), (60, .iload 5, 2), (62, .ifCond .eq 24, 3), (65, .iload_n 2, 1), (66, .aload_n 0, 1), (67, .iload 4, 2), (69, .invokevirtual 437, 3), (72, .aload_n 0, 1), (73, .iload 5, 2), (75, .invokevirtual 437, 3), (78, .isub, 1), (79, .invokestatic 325, 3), (82, .invokestatic 527, 3), (85, .istore_n 2, 1), (86, .iinc 3 1, 3), (89, .goto (-72), 3), (92, .iload_n 2, 1), (93, .ireturn, 1)] = true := by decide +kernel
theorem d_M_leaps_51 : decode mM_leaps.2.1 51 = .ok (.iaload, 1) := dq_get dd_M_leaps_32 (i := 0) rfl
theorem d_M_leaps_52 : decode mM_leaps.2.1 52 = .ok (.iand, 1) := dq_get dd_M_leaps_32 (i := 1) rfl
theorem d_M_leaps_53 : decode mM_leaps.2.1 53 = .ok (.istore 5, 2) := dq_get dd_M_leaps_32 (i := 2) rfl
theorem d_M_leaps_55 : decode mM_leaps.2.1 55 = .ok (.iload 4, 2) := dq_get dd_M_leaps_32 (i := 3) rfl
theorem d_M_leaps_57 : decode mM_leaps.2.1 57 = .ok (.ifCond .eq 29, 3) := dq_get dd_M_leaps_32 (i := 4) rfl
theorem d_M_leaps_60 : decode mM_leaps.2.1 60 = .ok (.iload 5, 2) := dq_get dd_M_leaps_32 (i := 5) rfl
theorem d_M_leaps_62 : decode mM_leaps.2.1 62 = .ok (.ifCond .eq 24, 3) := dq_get dd_M_leaps_32 (i := 6) rfl
theorem d_M_leaps_65 : decode mM_leaps.2.1 65 = .ok (.iload_n 2, 1) := dq_get dd_M_leaps_32 (i := 7) rfl
theorem d_M_leaps_66 : decode mM_leaps.2.1 66 = .ok (.aload_n 0, 1) := dq_get dd_M_leaps_32 (i := 8) rfl
theorem d_M_leaps_67 : decode mM_leaps.2.1 67 = .ok (.iload 4, 2) := dq_get dd_M_leaps_32 (i := 9) rfl
theorem d_M_leaps_69 : decode mM_leaps.2.1 69 = .ok (.invokevirtual 437, 3) := dq_get dd_M_leaps_32 (i := 10) rfl
theorem d_M_leaps_72 : decode mM_leaps.2.1 72 = .ok (.aload_n 0, 1) := dq_get dd_M_leaps_32 (i := 11) rfl
theorem d_M_leaps_73 : decode mM_leaps.2.1 73 = .ok (.iload 5, 2) := dq_get dd_M_leaps_32 (i := 12) rfl
theorem d_M_leaps_75 : decode mM_leaps.2.1 75 = .ok (.invokevirtual 437, 3) := dq_get dd_M_leaps_32 (i := 13) rfl
theorem d_M_leaps_78 : decode mM_leaps.2.1 78 = .ok (.isub, 1) := dq_get dd_M_leaps_32 (i := 14) rfl
theorem d_M_leaps_79 : decode mM_leaps.2.1 79 = .ok (.invokestatic 325, 3) := dq_get dd_M_leaps_32 (i := 15) rfl
theorem d_M_leaps_82 : decode mM_leaps.2.1 82 = .ok (.invokestatic 527, 3) := dq_get dd_M_leaps_32 (i := 16) rfl
theorem d_M_leaps_85 : decode mM_leaps.2.1 85 = .ok (.istore_n 2, 1) := dq_get dd_M_leaps_32 (i := 17) rfl
theorem d_M_leaps_86 : decode mM_leaps.2.1 86 = .ok (.iinc 3 1, 3) := dq_get dd_M_leaps_32 (i := 18) rfl
theorem d_M_leaps_89 : decode mM_leaps.2.1 89 = .ok (.goto (-72), 3) := dq_get dd_M_leaps_32 (i := 19) rfl
theorem d_M_leaps_92 : decode mM_leaps.2.1 92 = .ok (.iload_n 2, 1) := dq_get dd_M_leaps_32 (i := 20) rfl
theorem d_M_leaps_93 : decode mM_leaps.2.1 93 = .ok (.ireturn, 1) := dq_get dd_M_leaps_32 (i := 21) rfl
theorem dd_M_busiest_0 : dq mM_busiest.2.1 [(0, .iload_n 1, 1), (1, .invokestatic 476, 3), (4, .ifCond .ne 5, 3), (7, .iconst (-1), 1), (8, .ireturn, 1), (9, .aload_n 0, 1), (10, .invokevirtual 464, 3), (13, .iconst 0, 1), (14, .istore_n 2, 1), (15, .iconst 1, 1), (16, .istore_n 3, 1), (17, .iload_n 3, 1), (18, .aload_n 0, 1), (19, .getfield 78, 3), (22, .if_icmp .ge 48, 3), (25, .aload_n 0, 1), (26, .iload_n 1, 1), (27, .invokevirtual 454, 3), (30, .aload_n 0, 1), (31, .getfield 99, 3), (34, .iload_n 3, 1), (35, .iaload, 1), (36, .iand, 1), (37, .invokestatic 331, 3), (40, .aload_n 0, 1), (41, .iload_n 1, 1), (42, .invokevirtual 454, 3), (45, .aload_n 0, 1), (46, .getfield 99, 3), (49, .iload_n 2, 1), (50, .iaload, 1), (51, .iand, 1)] = true := by decide +kernel
theorem d_M_busiest_0 : decode mM_busiest.2.1 0 = .ok (.iload_n 1, 1) := dq_get dd_M_busiest_0 (i := 0) rfl
theorem d_M_busiest_1 : decode mM_busiest.2.1 1 = .ok (.invokestatic 476, 3) := dq_get dd_M_busiest_0 (i := 1) rfl
theorem d_M_busiest_4 : decode mM_busiest.2.1 4 = .ok (.ifCond .ne 5, 3) := dq_get dd_M_busiest_0 (i := 2) rfl
theorem d_M_busiest_7 : decode mM_busiest.2.1 7 = .ok (.iconst (-1), 1) := dq_get dd_M_busiest_0 (i := 3) rfl
theorem d_M_busiest_8 : decode mM_busiest.2.1 8 = .ok (.ireturn, 1) := dq_get dd_M_busiest_0 (i := 4) rfl
theorem d_M_busiest_9 : decode mM_busiest.2.1 9 = .ok (.aload_n 0, 1) := dq_get dd_M_busiest_0 (i := 5) rfl
theorem d_M_busiest_10 : decode mM_busiest.2.1 10 = .ok (.invokevirtual 464, 3) := dq_get dd_M_busiest_0 (i := 6) rfl
theorem d_M_busiest_13 : decode mM_busiest.2.1 13 = .ok (.iconst 0, 1) := dq_get dd_M_busiest_0 (i := 7) rfl
theorem d_M_busiest_14 : decode mM_busiest.2.1 14 = .ok (.istore_n 2, 1) := dq_get dd_M_busiest_0 (i := 8) rfl
theorem d_M_busiest_15 : decode mM_busiest.2.1 15 = .ok (.iconst 1, 1) := dq_get dd_M_busiest_0 (i := 9) rfl
theorem d_M_busiest_16 : decode mM_busiest.2.1 16 = .ok (.istore_n 3, 1) := dq_get dd_M_busiest_0 (i := 10) rfl
theorem d_M_busiest_17 : decode mM_busiest.2.1 17 = .ok (.iload_n 3, 1) := dq_get dd_M_busiest_0 (i := 11) rfl
theorem d_M_busiest_18 : decode mM_busiest.2.1 18 = .ok (.aload_n 0, 1) := dq_get dd_M_busiest_0 (i := 12) rfl
theorem d_M_busiest_19 : decode mM_busiest.2.1 19 = .ok (.getfield 78, 3) := dq_get dd_M_busiest_0 (i := 13) rfl
theorem d_M_busiest_22 : decode mM_busiest.2.1 22 = .ok (.if_icmp .ge 48, 3) := dq_get dd_M_busiest_0 (i := 14) rfl
theorem d_M_busiest_25 : decode mM_busiest.2.1 25 = .ok (.aload_n 0, 1) := dq_get dd_M_busiest_0 (i := 15) rfl
theorem d_M_busiest_26 : decode mM_busiest.2.1 26 = .ok (.iload_n 1, 1) := dq_get dd_M_busiest_0 (i := 16) rfl
theorem d_M_busiest_27 : decode mM_busiest.2.1 27 = .ok (.invokevirtual 454, 3) := dq_get dd_M_busiest_0 (i := 17) rfl
theorem d_M_busiest_30 : decode mM_busiest.2.1 30 = .ok (.aload_n 0, 1) := dq_get dd_M_busiest_0 (i := 18) rfl
theorem d_M_busiest_31 : decode mM_busiest.2.1 31 = .ok (.getfield 99, 3) := dq_get dd_M_busiest_0 (i := 19) rfl
theorem d_M_busiest_34 : decode mM_busiest.2.1 34 = .ok (.iload_n 3, 1) := dq_get dd_M_busiest_0 (i := 20) rfl
theorem d_M_busiest_35 : decode mM_busiest.2.1 35 = .ok (.iaload, 1) := dq_get dd_M_busiest_0 (i := 21) rfl
theorem d_M_busiest_36 : decode mM_busiest.2.1 36 = .ok (.iand, 1) := dq_get dd_M_busiest_0 (i := 22) rfl
theorem d_M_busiest_37 : decode mM_busiest.2.1 37 = .ok (.invokestatic 331, 3) := dq_get dd_M_busiest_0 (i := 23) rfl
theorem d_M_busiest_40 : decode mM_busiest.2.1 40 = .ok (.aload_n 0, 1) := dq_get dd_M_busiest_0 (i := 24) rfl
theorem d_M_busiest_41 : decode mM_busiest.2.1 41 = .ok (.iload_n 1, 1) := dq_get dd_M_busiest_0 (i := 25) rfl
theorem d_M_busiest_42 : decode mM_busiest.2.1 42 = .ok (.invokevirtual 454, 3) := dq_get dd_M_busiest_0 (i := 26) rfl
theorem d_M_busiest_45 : decode mM_busiest.2.1 45 = .ok (.aload_n 0, 1) := dq_get dd_M_busiest_0 (i := 27) rfl
theorem d_M_busiest_46 : decode mM_busiest.2.1 46 = .ok (.getfield 99, 3) := dq_get dd_M_busiest_0 (i := 28) rfl
theorem d_M_busiest_49 : decode mM_busiest.2.1 49 = .ok (.iload_n 2, 1) := dq_get dd_M_busiest_0 (i := 29) rfl
theorem d_M_busiest_50 : decode mM_busiest.2.1 50 = .ok (.iaload, 1) := dq_get dd_M_busiest_0 (i := 30) rfl
theorem d_M_busiest_51 : decode mM_busiest.2.1 51 = .ok (.iand, 1) := dq_get dd_M_busiest_0 (i := 31) rfl
theorem dd_M_busiest_32 : dq mM_busiest.2.1 [(52, .invokestatic 331, 3), (55, .if_icmp .le 7, 3), (58, .iload_n 3, 1), (59, .goto 4, 3), (62, .iload_n 2, 1), (63, .istore_n 2, 1), (64, .iinc 3 1, 3), (67, .goto (-50), 3), (70, .iload_n 2, 1), (71, .ireturn, 1)] = true := by decide +kernel
theorem d_M_busiest_52 : decode mM_busiest.2.1 52 = .ok (.invokestatic 331, 3) := dq_get dd_M_busiest_32 (i := 0) rfl
theorem d_M_busiest_55 : decode mM_busiest.2.1 55 = .ok (.if_icmp .le 7, 3) := dq_get dd_M_busiest_32 (i := 1) rfl
theorem d_M_busiest_58 : decode mM_busiest.2.1 58 = .ok (.iload_n 3, 1) := dq_get dd_M_busiest_32 (i := 2) rfl
theorem d_M_busiest_59 : decode mM_busiest.2.1 59 = .ok (.goto 4, 3) := dq_get dd_M_busiest_32 (i := 3) rfl
theorem d_M_busiest_62 : decode mM_busiest.2.1 62 = .ok (.iload_n 2, 1) := dq_get dd_M_busiest_32 (i := 4) rfl
theorem d_M_busiest_63 : decode mM_busiest.2.1 63 = .ok (.istore_n 2, 1) := dq_get dd_M_busiest_32 (i := 5) rfl
theorem d_M_busiest_64 : decode mM_busiest.2.1 64 = .ok (.iinc 3 1, 3) := dq_get dd_M_busiest_32 (i := 6) rfl
theorem d_M_busiest_67 : decode mM_busiest.2.1 67 = .ok (.goto (-50), 3) := dq_get dd_M_busiest_32 (i := 7) rfl
theorem d_M_busiest_70 : decode mM_busiest.2.1 70 = .ok (.iload_n 2, 1) := dq_get dd_M_busiest_32 (i := 8) rfl
theorem d_M_busiest_71 : decode mM_busiest.2.1 71 = .ok (.ireturn, 1) := dq_get dd_M_busiest_32 (i := 9) rfl
theorem dd_M_blur_0 : dq mM_blur.2.1 [(0, .aload_n 0, 1), (1, .invokevirtual 464, 3), (4, .aload_n 0, 1), (5, .invokevirtual 479, 3), (8, .iconst 0, 1), (9, .istore_n 1, 1), (10, .iconst 0, 1), (11, .istore_n 2, 1), (12, .iload_n 2, 1), (13, .aload_n 0, 1), (14, .getfield 78, 3), (17, .if_icmp .ge 54, 3), (20, .iconst 0, 1), (21, .istore_n 3, 1), (22, .iload_n 3, 1), (23, .aload_n 0, 1), (24, .getfield 322, 3), (27, .if_icmp .ge 38, 3), (30, .iconst 0, 1), (31, .istore 4, 2), (33, .iload 4, 2), (35, .iload_n 3, 1), (36, .if_icmp .ge 23, 3), (39, .iload_n 1, 1), (40, .aload_n 0, 1), (41, .iload_n 2, 1), (42, .iload_n 3, 1), (43, .iload 4, 2), (45, .invokevirtual 530, 3), (48, .invokestatic 318, 3), (51, .iadd, 1), (52, .istore_n 1, 1)] = true := by decide +kernel
theorem d_M_blur_0 : decode mM_blur.2.1 0 = .ok (.aload_n 0, 1) := dq_get dd_M_blur_0 (i := 0) rfl
theorem d_M_blur_1 : decode mM_blur.2.1 1 = .ok (.invokevirtual 464, 3) := dq_get dd_M_blur_0 (i := 1) rfl
theorem d_M_blur_4 : decode mM_blur.2.1 4 = .ok (.aload_n 0, 1) := dq_get dd_M_blur_0 (i := 2) rfl
theorem d_M_blur_5 : decode mM_blur.2.1 5 = .ok (.invokevirtual 479, 3) := dq_get dd_M_blur_0 (i := 3) rfl
theorem d_M_blur_8 : decode mM_blur.2.1 8 = .ok (.iconst 0, 1) := dq_get dd_M_blur_0 (i := 4) rfl
theorem d_M_blur_9 : decode mM_blur.2.1 9 = .ok (.istore_n 1, 1) := dq_get dd_M_blur_0 (i := 5) rfl
theorem d_M_blur_10 : decode mM_blur.2.1 10 = .ok (.iconst 0, 1) := dq_get dd_M_blur_0 (i := 6) rfl
theorem d_M_blur_11 : decode mM_blur.2.1 11 = .ok (.istore_n 2, 1) := dq_get dd_M_blur_0 (i := 7) rfl
theorem d_M_blur_12 : decode mM_blur.2.1 12 = .ok (.iload_n 2, 1) := dq_get dd_M_blur_0 (i := 8) rfl
theorem d_M_blur_13 : decode mM_blur.2.1 13 = .ok (.aload_n 0, 1) := dq_get dd_M_blur_0 (i := 9) rfl
theorem d_M_blur_14 : decode mM_blur.2.1 14 = .ok (.getfield 78, 3) := dq_get dd_M_blur_0 (i := 10) rfl
theorem d_M_blur_17 : decode mM_blur.2.1 17 = .ok (.if_icmp .ge 54, 3) := dq_get dd_M_blur_0 (i := 11) rfl
theorem d_M_blur_20 : decode mM_blur.2.1 20 = .ok (.iconst 0, 1) := dq_get dd_M_blur_0 (i := 12) rfl
theorem d_M_blur_21 : decode mM_blur.2.1 21 = .ok (.istore_n 3, 1) := dq_get dd_M_blur_0 (i := 13) rfl
theorem d_M_blur_22 : decode mM_blur.2.1 22 = .ok (.iload_n 3, 1) := dq_get dd_M_blur_0 (i := 14) rfl
theorem d_M_blur_23 : decode mM_blur.2.1 23 = .ok (.aload_n 0, 1) := dq_get dd_M_blur_0 (i := 15) rfl
theorem d_M_blur_24 : decode mM_blur.2.1 24 = .ok (.getfield 322, 3) := dq_get dd_M_blur_0 (i := 16) rfl
theorem d_M_blur_27 : decode mM_blur.2.1 27 = .ok (.if_icmp .ge 38, 3) := dq_get dd_M_blur_0 (i := 17) rfl
theorem d_M_blur_30 : decode mM_blur.2.1 30 = .ok (.iconst 0, 1) := dq_get dd_M_blur_0 (i := 18) rfl
theorem d_M_blur_31 : decode mM_blur.2.1 31 = .ok (.istore 4, 2) := dq_get dd_M_blur_0 (i := 19) rfl
theorem d_M_blur_33 : decode mM_blur.2.1 33 = .ok (.iload 4, 2) := dq_get dd_M_blur_0 (i := 20) rfl
theorem d_M_blur_35 : decode mM_blur.2.1 35 = .ok (.iload_n 3, 1) := dq_get dd_M_blur_0 (i := 21) rfl
theorem d_M_blur_36 : decode mM_blur.2.1 36 = .ok (.if_icmp .ge 23, 3) := dq_get dd_M_blur_0 (i := 22) rfl
theorem d_M_blur_39 : decode mM_blur.2.1 39 = .ok (.iload_n 1, 1) := dq_get dd_M_blur_0 (i := 23) rfl
theorem d_M_blur_40 : decode mM_blur.2.1 40 = .ok (.aload_n 0, 1) := dq_get dd_M_blur_0 (i := 24) rfl
theorem d_M_blur_41 : decode mM_blur.2.1 41 = .ok (.iload_n 2, 1) := dq_get dd_M_blur_0 (i := 25) rfl
theorem d_M_blur_42 : decode mM_blur.2.1 42 = .ok (.iload_n 3, 1) := dq_get dd_M_blur_0 (i := 26) rfl
theorem d_M_blur_43 : decode mM_blur.2.1 43 = .ok (.iload 4, 2) := dq_get dd_M_blur_0 (i := 27) rfl
theorem d_M_blur_45 : decode mM_blur.2.1 45 = .ok (.invokevirtual 530, 3) := dq_get dd_M_blur_0 (i := 28) rfl
theorem d_M_blur_48 : decode mM_blur.2.1 48 = .ok (.invokestatic 318, 3) := dq_get dd_M_blur_0 (i := 29) rfl
theorem d_M_blur_51 : decode mM_blur.2.1 51 = .ok (.iadd, 1) := dq_get dd_M_blur_0 (i := 30) rfl
theorem d_M_blur_52 : decode mM_blur.2.1 52 = .ok (.istore_n 1, 1) := dq_get dd_M_blur_0 (i := 31) rfl
theorem dd_M_blur_32 : dq mM_blur.2.1 [(53, .iinc 4 1, 3), (56, .goto (-23), 3), (59, .iinc 3 1, 3), (62, .goto (-40), 3), (65, .iinc 2 1, 3), (68, .goto (-56), 3), (71, .iload_n 1, 1), (72, .ireturn, 1)] = true := by decide +kernel
theorem d_M_blur_53 : decode mM_blur.2.1 53 = .ok (.iinc 4 1, 3) := dq_get dd_M_blur_32 (i := 0) rfl
theorem d_M_blur_56 : decode mM_blur.2.1 56 = .ok (.goto (-23), 3) := dq_get dd_M_blur_32 (i := 1) rfl
theorem d_M_blur_59 : decode mM_blur.2.1 59 = .ok (.iinc 3 1, 3) := dq_get dd_M_blur_32 (i := 2) rfl
theorem d_M_blur_62 : decode mM_blur.2.1 62 = .ok (.goto (-40), 3) := dq_get dd_M_blur_32 (i := 3) rfl
theorem d_M_blur_65 : decode mM_blur.2.1 65 = .ok (.iinc 2 1, 3) := dq_get dd_M_blur_32 (i := 4) rfl
theorem d_M_blur_68 : decode mM_blur.2.1 68 = .ok (.goto (-56), 3) := dq_get dd_M_blur_32 (i := 5) rfl
theorem d_M_blur_71 : decode mM_blur.2.1 71 = .ok (.iload_n 1, 1) := dq_get dd_M_blur_32 (i := 6) rfl
theorem d_M_blur_72 : decode mM_blur.2.1 72 = .ok (.ireturn, 1) := dq_get dd_M_blur_32 (i := 7) rfl
theorem dd_M_blurs_0 : dq mM_blurs.2.1 [(0, .aload_n 0, 1), (1, .getfield 102, 3), (4, .iload_n 1, 1), (5, .iaload, 1), (6, .iload_n 2, 1), (7, .ishr, 1), (8, .iconst 1, 1), (9, .iand, 1), (10, .ifCond .eq 16, 3), (13, .aload_n 0, 1), (14, .getfield 102, 3), (17, .iload_n 1, 1), (18, .iaload, 1), (19, .iload_n 3, 1), (20, .ishr, 1), (21, .iconst 1, 1), (22, .iand, 1), (23, .ifCond .ne 5, 3), (26, .iconst 0, 1), (27, .ireturn, 1), (28, .aload_n 0, 1), (29, .getfield 96, 3), (32, .bipush 10, 2), (34, .iload_n 2, 1), (35, .iadd, 1), (36, .iaload, 1), (37, .aload_n 0, 1), (38, .getfield 96, 3), (41, .bipush 10, 2), (43, .iload_n 3, 1), (44, .iadd, 1), (45, .iaload, 1)] = true := by decide +kernel
theorem d_M_blurs_0 : decode mM_blurs.2.1 0 = .ok (.aload_n 0, 1) := dq_get dd_M_blurs_0 (i := 0) rfl
theorem d_M_blurs_1 : decode mM_blurs.2.1 1 = .ok (.getfield 102, 3) := dq_get dd_M_blurs_0 (i := 1) rfl
theorem d_M_blurs_4 : decode mM_blurs.2.1 4 = .ok (.iload_n 1, 1) := dq_get dd_M_blurs_0 (i := 2) rfl
theorem d_M_blurs_5 : decode mM_blurs.2.1 5 = .ok (.iaload, 1) := dq_get dd_M_blurs_0 (i := 3) rfl
theorem d_M_blurs_6 : decode mM_blurs.2.1 6 = .ok (.iload_n 2, 1) := dq_get dd_M_blurs_0 (i := 4) rfl
theorem d_M_blurs_7 : decode mM_blurs.2.1 7 = .ok (.ishr, 1) := dq_get dd_M_blurs_0 (i := 5) rfl
theorem d_M_blurs_8 : decode mM_blurs.2.1 8 = .ok (.iconst 1, 1) := dq_get dd_M_blurs_0 (i := 6) rfl
theorem d_M_blurs_9 : decode mM_blurs.2.1 9 = .ok (.iand, 1) := dq_get dd_M_blurs_0 (i := 7) rfl
theorem d_M_blurs_10 : decode mM_blurs.2.1 10 = .ok (.ifCond .eq 16, 3) := dq_get dd_M_blurs_0 (i := 8) rfl
theorem d_M_blurs_13 : decode mM_blurs.2.1 13 = .ok (.aload_n 0, 1) := dq_get dd_M_blurs_0 (i := 9) rfl
theorem d_M_blurs_14 : decode mM_blurs.2.1 14 = .ok (.getfield 102, 3) := dq_get dd_M_blurs_0 (i := 10) rfl
theorem d_M_blurs_17 : decode mM_blurs.2.1 17 = .ok (.iload_n 1, 1) := dq_get dd_M_blurs_0 (i := 11) rfl
theorem d_M_blurs_18 : decode mM_blurs.2.1 18 = .ok (.iaload, 1) := dq_get dd_M_blurs_0 (i := 12) rfl
theorem d_M_blurs_19 : decode mM_blurs.2.1 19 = .ok (.iload_n 3, 1) := dq_get dd_M_blurs_0 (i := 13) rfl
theorem d_M_blurs_20 : decode mM_blurs.2.1 20 = .ok (.ishr, 1) := dq_get dd_M_blurs_0 (i := 14) rfl
theorem d_M_blurs_21 : decode mM_blurs.2.1 21 = .ok (.iconst 1, 1) := dq_get dd_M_blurs_0 (i := 15) rfl
theorem d_M_blurs_22 : decode mM_blurs.2.1 22 = .ok (.iand, 1) := dq_get dd_M_blurs_0 (i := 16) rfl
theorem d_M_blurs_23 : decode mM_blurs.2.1 23 = .ok (.ifCond .ne 5, 3) := dq_get dd_M_blurs_0 (i := 17) rfl
theorem d_M_blurs_26 : decode mM_blurs.2.1 26 = .ok (.iconst 0, 1) := dq_get dd_M_blurs_0 (i := 18) rfl
theorem d_M_blurs_27 : decode mM_blurs.2.1 27 = .ok (.ireturn, 1) := dq_get dd_M_blurs_0 (i := 19) rfl
theorem d_M_blurs_28 : decode mM_blurs.2.1 28 = .ok (.aload_n 0, 1) := dq_get dd_M_blurs_0 (i := 20) rfl
theorem d_M_blurs_29 : decode mM_blurs.2.1 29 = .ok (.getfield 96, 3) := dq_get dd_M_blurs_0 (i := 21) rfl
theorem d_M_blurs_32 : decode mM_blurs.2.1 32 = .ok (.bipush 10, 2) := dq_get dd_M_blurs_0 (i := 22) rfl
theorem d_M_blurs_34 : decode mM_blurs.2.1 34 = .ok (.iload_n 2, 1) := dq_get dd_M_blurs_0 (i := 23) rfl
theorem d_M_blurs_35 : decode mM_blurs.2.1 35 = .ok (.iadd, 1) := dq_get dd_M_blurs_0 (i := 24) rfl
theorem d_M_blurs_36 : decode mM_blurs.2.1 36 = .ok (.iaload, 1) := dq_get dd_M_blurs_0 (i := 25) rfl
theorem d_M_blurs_37 : decode mM_blurs.2.1 37 = .ok (.aload_n 0, 1) := dq_get dd_M_blurs_0 (i := 26) rfl
theorem d_M_blurs_38 : decode mM_blurs.2.1 38 = .ok (.getfield 96, 3) := dq_get dd_M_blurs_0 (i := 27) rfl
theorem d_M_blurs_41 : decode mM_blurs.2.1 41 = .ok (.bipush 10, 2) := dq_get dd_M_blurs_0 (i := 28) rfl
theorem d_M_blurs_43 : decode mM_blurs.2.1 43 = .ok (.iload_n 3, 1) := dq_get dd_M_blurs_0 (i := 29) rfl
theorem d_M_blurs_44 : decode mM_blurs.2.1 44 = .ok (.iadd, 1) := dq_get dd_M_blurs_0 (i := 30) rfl
theorem d_M_blurs_45 : decode mM_blurs.2.1 45 = .ok (.iaload, 1) := dq_get dd_M_blurs_0 (i := 31) rfl
theorem dd_M_blurs_32 : dq mM_blurs.2.1 [(46, .isub, 1), (47, .invokestatic 325, 3), (50, .istore 4, 2), (52, .iload 4, 2), (54, .iconst 1, 1), (55, .if_icmp .eq 9, 3), (58, .iload 4, 2), (60, .iconst 2, 1), (61, .if_icmp .ne 35, 3), (64, .aload_n 0, 1), (65, .getfield 99, 3), (68, .iload_n 1, 1), (69, .iaload, 1), (70, .iload_n 2, 1), (71, .ishr, 1), (72, .iconst 1, 1), (73, .iand, 1), (74, .iconst 1, 1), (75, .if_icmp .ne 17, 3), (78, .aload_n 0, 1), (79, .getfield 99, 3), (82, .iload_n 1, 1), (83, .iaload, 1), (84, .iload_n 3, 1), (85, .ishr, 1), (86, .iconst 1, 1), (87, .iand, 1), (88, .iconst 1, 1), (89, .if_icmp .eq 7, 3), (92, .iconst 1, 1), (93, .goto 4, 3), (96, .iconst 0, 1)] = true := by decide +kernel
theorem d_M_blurs_46 : decode mM_blurs.2.1 46 = .ok (.isub, 1) := dq_get dd_M_blurs_32 (i := 0) rfl
theorem d_M_blurs_47 : decode mM_blurs.2.1 47 = .ok (.invokestatic 325, 3) := dq_get dd_M_blurs_32 (i := 1) rfl
theorem d_M_blurs_50 : decode mM_blurs.2.1 50 = .ok (.istore 4, 2) := dq_get dd_M_blurs_32 (i := 2) rfl
theorem d_M_blurs_52 : decode mM_blurs.2.1 52 = .ok (.iload 4, 2) := dq_get dd_M_blurs_32 (i := 3) rfl
theorem d_M_blurs_54 : decode mM_blurs.2.1 54 = .ok (.iconst 1, 1) := dq_get dd_M_blurs_32 (i := 4) rfl
theorem d_M_blurs_55 : decode mM_blurs.2.1 55 = .ok (.if_icmp .eq 9, 3) := dq_get dd_M_blurs_32 (i := 5) rfl
theorem d_M_blurs_58 : decode mM_blurs.2.1 58 = .ok (.iload 4, 2) := dq_get dd_M_blurs_32 (i := 6) rfl
theorem d_M_blurs_60 : decode mM_blurs.2.1 60 = .ok (.iconst 2, 1) := dq_get dd_M_blurs_32 (i := 7) rfl
theorem d_M_blurs_61 : decode mM_blurs.2.1 61 = .ok (.if_icmp .ne 35, 3) := dq_get dd_M_blurs_32 (i := 8) rfl
theorem d_M_blurs_64 : decode mM_blurs.2.1 64 = .ok (.aload_n 0, 1) := dq_get dd_M_blurs_32 (i := 9) rfl
theorem d_M_blurs_65 : decode mM_blurs.2.1 65 = .ok (.getfield 99, 3) := dq_get dd_M_blurs_32 (i := 10) rfl
theorem d_M_blurs_68 : decode mM_blurs.2.1 68 = .ok (.iload_n 1, 1) := dq_get dd_M_blurs_32 (i := 11) rfl
theorem d_M_blurs_69 : decode mM_blurs.2.1 69 = .ok (.iaload, 1) := dq_get dd_M_blurs_32 (i := 12) rfl
theorem d_M_blurs_70 : decode mM_blurs.2.1 70 = .ok (.iload_n 2, 1) := dq_get dd_M_blurs_32 (i := 13) rfl
theorem d_M_blurs_71 : decode mM_blurs.2.1 71 = .ok (.ishr, 1) := dq_get dd_M_blurs_32 (i := 14) rfl
theorem d_M_blurs_72 : decode mM_blurs.2.1 72 = .ok (.iconst 1, 1) := dq_get dd_M_blurs_32 (i := 15) rfl
theorem d_M_blurs_73 : decode mM_blurs.2.1 73 = .ok (.iand, 1) := dq_get dd_M_blurs_32 (i := 16) rfl
theorem d_M_blurs_74 : decode mM_blurs.2.1 74 = .ok (.iconst 1, 1) := dq_get dd_M_blurs_32 (i := 17) rfl
theorem d_M_blurs_75 : decode mM_blurs.2.1 75 = .ok (.if_icmp .ne 17, 3) := dq_get dd_M_blurs_32 (i := 18) rfl
theorem d_M_blurs_78 : decode mM_blurs.2.1 78 = .ok (.aload_n 0, 1) := dq_get dd_M_blurs_32 (i := 19) rfl
theorem d_M_blurs_79 : decode mM_blurs.2.1 79 = .ok (.getfield 99, 3) := dq_get dd_M_blurs_32 (i := 20) rfl
theorem d_M_blurs_82 : decode mM_blurs.2.1 82 = .ok (.iload_n 1, 1) := dq_get dd_M_blurs_32 (i := 21) rfl
theorem d_M_blurs_83 : decode mM_blurs.2.1 83 = .ok (.iaload, 1) := dq_get dd_M_blurs_32 (i := 22) rfl
theorem d_M_blurs_84 : decode mM_blurs.2.1 84 = .ok (.iload_n 3, 1) := dq_get dd_M_blurs_32 (i := 23) rfl
theorem d_M_blurs_85 : decode mM_blurs.2.1 85 = .ok (.ishr, 1) := dq_get dd_M_blurs_32 (i := 24) rfl
theorem d_M_blurs_86 : decode mM_blurs.2.1 86 = .ok (.iconst 1, 1) := dq_get dd_M_blurs_32 (i := 25) rfl
theorem d_M_blurs_87 : decode mM_blurs.2.1 87 = .ok (.iand, 1) := dq_get dd_M_blurs_32 (i := 26) rfl
theorem d_M_blurs_88 : decode mM_blurs.2.1 88 = .ok (.iconst 1, 1) := dq_get dd_M_blurs_32 (i := 27) rfl
theorem d_M_blurs_89 : decode mM_blurs.2.1 89 = .ok (.if_icmp .eq 7, 3) := dq_get dd_M_blurs_32 (i := 28) rfl
theorem d_M_blurs_92 : decode mM_blurs.2.1 92 = .ok (.iconst 1, 1) := dq_get dd_M_blurs_32 (i := 29) rfl
theorem d_M_blurs_93 : decode mM_blurs.2.1 93 = .ok (.goto 4, 3) := dq_get dd_M_blurs_32 (i := 30) rfl
theorem d_M_blurs_96 : decode mM_blurs.2.1 96 = .ok (.iconst 0, 1) := dq_get dd_M_blurs_32 (i := 31) rfl
theorem dd_M_blurs_64 : dq mM_blurs.2.1 [(97, .ireturn, 1)] = true := by decide +kernel
theorem d_M_blurs_97 : decode mM_blurs.2.1 97 = .ok (.ireturn, 1) := dq_get dd_M_blurs_64 (i := 0) rfl
theorem dd_M_open_0 : dq mM_open.2.1 [(0, .aload_n 0, 1), (1, .iload_n 1, 1), (2, .invokevirtual 473, 3), (5, .ifCond .ne 5, 3), (8, .iconst (-1), 1), (9, .ireturn, 1), (10, .aload_n 0, 1), (11, .invokevirtual 464, 3), (14, .aload_n 0, 1), (15, .invokevirtual 479, 3), (18, .aload_n 0, 1), (19, .iload_n 1, 1), (20, .invokevirtual 533, 3), (23, .ireturn, 1)] = true := by decide +kernel
theorem d_M_open_0 : decode mM_open.2.1 0 = .ok (.aload_n 0, 1) := dq_get dd_M_open_0 (i := 0) rfl
theorem d_M_open_1 : decode mM_open.2.1 1 = .ok (.iload_n 1, 1) := dq_get dd_M_open_0 (i := 1) rfl
theorem d_M_open_2 : decode mM_open.2.1 2 = .ok (.invokevirtual 473, 3) := dq_get dd_M_open_0 (i := 2) rfl
theorem d_M_open_5 : decode mM_open.2.1 5 = .ok (.ifCond .ne 5, 3) := dq_get dd_M_open_0 (i := 3) rfl
theorem d_M_open_8 : decode mM_open.2.1 8 = .ok (.iconst (-1), 1) := dq_get dd_M_open_0 (i := 4) rfl
theorem d_M_open_9 : decode mM_open.2.1 9 = .ok (.ireturn, 1) := dq_get dd_M_open_0 (i := 5) rfl
theorem d_M_open_10 : decode mM_open.2.1 10 = .ok (.aload_n 0, 1) := dq_get dd_M_open_0 (i := 6) rfl
theorem d_M_open_11 : decode mM_open.2.1 11 = .ok (.invokevirtual 464, 3) := dq_get dd_M_open_0 (i := 7) rfl
theorem d_M_open_14 : decode mM_open.2.1 14 = .ok (.aload_n 0, 1) := dq_get dd_M_open_0 (i := 8) rfl
theorem d_M_open_15 : decode mM_open.2.1 15 = .ok (.invokevirtual 479, 3) := dq_get dd_M_open_0 (i := 9) rfl
theorem d_M_open_18 : decode mM_open.2.1 18 = .ok (.aload_n 0, 1) := dq_get dd_M_open_0 (i := 10) rfl
theorem d_M_open_19 : decode mM_open.2.1 19 = .ok (.iload_n 1, 1) := dq_get dd_M_open_0 (i := 11) rfl
theorem d_M_open_20 : decode mM_open.2.1 20 = .ok (.invokevirtual 533, 3) := dq_get dd_M_open_0 (i := 12) rfl
theorem d_M_open_23 : decode mM_open.2.1 23 = .ok (.ireturn, 1) := dq_get dd_M_open_0 (i := 13) rfl
theorem dd_M_openAt_0 : dq mM_openAt.2.1 [(0, .iconst 0, 1), (1, .istore_n 2, 1), (2, .iconst 0, 1), (3, .istore_n 3, 1), (4, .iload_n 3, 1), (5, .aload_n 0, 1), (6, .getfield 322, 3), (9, .if_icmp .ge 111, 3), (12, .aload_n 0, 1), (13, .getfield 102, 3), (16, .iload_n 1, 1), (17, .iaload, 1), (18, .iload_n 3, 1), (19, .ishr, 1), (20, .iconst 1, 1), (21, .iand, 1), (22, .iconst 1, 1), (23, .if_icmp .ne 7, 3), (26, .iconst 1, 1), (27, .goto 4, 3), (30, .iconst 0, 1), (31, .istore 4, 2), (33, .iconst 0, 1), (34, .istore 5, 2), (36, .iload 5, 2), (38, .aload_n 0, 1), (39, .getfield 322, 3), (42, .if_icmp .ge 62, 3), (45, .iload 4, 2), (47, .ifCond .eq 57, 3), (50, .aload_n 0, 1), (51, .getfield 102, 3)] = true := by decide +kernel
theorem d_M_openAt_0 : decode mM_openAt.2.1 0 = .ok (.iconst 0, 1) := dq_get dd_M_openAt_0 (i := 0) rfl
theorem d_M_openAt_1 : decode mM_openAt.2.1 1 = .ok (.istore_n 2, 1) := dq_get dd_M_openAt_0 (i := 1) rfl
theorem d_M_openAt_2 : decode mM_openAt.2.1 2 = .ok (.iconst 0, 1) := dq_get dd_M_openAt_0 (i := 2) rfl
theorem d_M_openAt_3 : decode mM_openAt.2.1 3 = .ok (.istore_n 3, 1) := dq_get dd_M_openAt_0 (i := 3) rfl
theorem d_M_openAt_4 : decode mM_openAt.2.1 4 = .ok (.iload_n 3, 1) := dq_get dd_M_openAt_0 (i := 4) rfl
theorem d_M_openAt_5 : decode mM_openAt.2.1 5 = .ok (.aload_n 0, 1) := dq_get dd_M_openAt_0 (i := 5) rfl
theorem d_M_openAt_6 : decode mM_openAt.2.1 6 = .ok (.getfield 322, 3) := dq_get dd_M_openAt_0 (i := 6) rfl
theorem d_M_openAt_9 : decode mM_openAt.2.1 9 = .ok (.if_icmp .ge 111, 3) := dq_get dd_M_openAt_0 (i := 7) rfl
theorem d_M_openAt_12 : decode mM_openAt.2.1 12 = .ok (.aload_n 0, 1) := dq_get dd_M_openAt_0 (i := 8) rfl
theorem d_M_openAt_13 : decode mM_openAt.2.1 13 = .ok (.getfield 102, 3) := dq_get dd_M_openAt_0 (i := 9) rfl
theorem d_M_openAt_16 : decode mM_openAt.2.1 16 = .ok (.iload_n 1, 1) := dq_get dd_M_openAt_0 (i := 10) rfl
theorem d_M_openAt_17 : decode mM_openAt.2.1 17 = .ok (.iaload, 1) := dq_get dd_M_openAt_0 (i := 11) rfl
theorem d_M_openAt_18 : decode mM_openAt.2.1 18 = .ok (.iload_n 3, 1) := dq_get dd_M_openAt_0 (i := 12) rfl
theorem d_M_openAt_19 : decode mM_openAt.2.1 19 = .ok (.ishr, 1) := dq_get dd_M_openAt_0 (i := 13) rfl
theorem d_M_openAt_20 : decode mM_openAt.2.1 20 = .ok (.iconst 1, 1) := dq_get dd_M_openAt_0 (i := 14) rfl
theorem d_M_openAt_21 : decode mM_openAt.2.1 21 = .ok (.iand, 1) := dq_get dd_M_openAt_0 (i := 15) rfl
theorem d_M_openAt_22 : decode mM_openAt.2.1 22 = .ok (.iconst 1, 1) := dq_get dd_M_openAt_0 (i := 16) rfl
theorem d_M_openAt_23 : decode mM_openAt.2.1 23 = .ok (.if_icmp .ne 7, 3) := dq_get dd_M_openAt_0 (i := 17) rfl
theorem d_M_openAt_26 : decode mM_openAt.2.1 26 = .ok (.iconst 1, 1) := dq_get dd_M_openAt_0 (i := 18) rfl
theorem d_M_openAt_27 : decode mM_openAt.2.1 27 = .ok (.goto 4, 3) := dq_get dd_M_openAt_0 (i := 19) rfl
theorem d_M_openAt_30 : decode mM_openAt.2.1 30 = .ok (.iconst 0, 1) := dq_get dd_M_openAt_0 (i := 20) rfl
theorem d_M_openAt_31 : decode mM_openAt.2.1 31 = .ok (.istore 4, 2) := dq_get dd_M_openAt_0 (i := 21) rfl
theorem d_M_openAt_33 : decode mM_openAt.2.1 33 = .ok (.iconst 0, 1) := dq_get dd_M_openAt_0 (i := 22) rfl
theorem d_M_openAt_34 : decode mM_openAt.2.1 34 = .ok (.istore 5, 2) := dq_get dd_M_openAt_0 (i := 23) rfl
theorem d_M_openAt_36 : decode mM_openAt.2.1 36 = .ok (.iload 5, 2) := dq_get dd_M_openAt_0 (i := 24) rfl
theorem d_M_openAt_38 : decode mM_openAt.2.1 38 = .ok (.aload_n 0, 1) := dq_get dd_M_openAt_0 (i := 25) rfl
theorem d_M_openAt_39 : decode mM_openAt.2.1 39 = .ok (.getfield 322, 3) := dq_get dd_M_openAt_0 (i := 26) rfl
theorem d_M_openAt_42 : decode mM_openAt.2.1 42 = .ok (.if_icmp .ge 62, 3) := dq_get dd_M_openAt_0 (i := 27) rfl
theorem d_M_openAt_45 : decode mM_openAt.2.1 45 = .ok (.iload 4, 2) := dq_get dd_M_openAt_0 (i := 28) rfl
theorem d_M_openAt_47 : decode mM_openAt.2.1 47 = .ok (.ifCond .eq 57, 3) := dq_get dd_M_openAt_0 (i := 29) rfl
theorem d_M_openAt_50 : decode mM_openAt.2.1 50 = .ok (.aload_n 0, 1) := dq_get dd_M_openAt_0 (i := 30) rfl
theorem d_M_openAt_51 : decode mM_openAt.2.1 51 = .ok (.getfield 102, 3) := dq_get dd_M_openAt_0 (i := 31) rfl
theorem dd_M_openAt_32 : dq mM_openAt.2.1 [(54, .iload_n 1, 1), (55, .iaload, 1), (56, .iload 5, 2), (58, .ishr, 1), (59, .iconst 1, 1), (60, .iand, 1), (61, .ifCond .eq 30, 3), (64, .aload_n 0, 1), (65, .getfield 96, 3), (68, .bipush 30, 2), (70, .iload 5, 2), (72, .iadd, 1), (73, .iaload, 1), (74, .aload_n 0, 1), (75, .getfield 96, 3), (78, .bipush 30, 2), (80, .iload_n 3, 1), (81, .iadd, 1), (82, .iaload, 1), (83, .isub, 1), (84, .aload_n 0, 1), (85, .getfield 90, 3), (88, .if_icmp .gt 7, 3), (91, .iconst 1, 1), (92, .goto 4, 3), (95, .iconst 0, 1), (96, .istore 4, 2), (98, .iinc 5 1, 3), (101, .goto (-65), 3), (104, .iload_n 2, 1), (105, .iload 4, 2), (107, .invokestatic 318, 3)] = true := by decide +kernel
theorem d_M_openAt_54 : decode mM_openAt.2.1 54 = .ok (.iload_n 1, 1) := dq_get dd_M_openAt_32 (i := 0) rfl
theorem d_M_openAt_55 : decode mM_openAt.2.1 55 = .ok (.iaload, 1) := dq_get dd_M_openAt_32 (i := 1) rfl
theorem d_M_openAt_56 : decode mM_openAt.2.1 56 = .ok (.iload 5, 2) := dq_get dd_M_openAt_32 (i := 2) rfl
theorem d_M_openAt_58 : decode mM_openAt.2.1 58 = .ok (.ishr, 1) := dq_get dd_M_openAt_32 (i := 3) rfl
theorem d_M_openAt_59 : decode mM_openAt.2.1 59 = .ok (.iconst 1, 1) := dq_get dd_M_openAt_32 (i := 4) rfl
theorem d_M_openAt_60 : decode mM_openAt.2.1 60 = .ok (.iand, 1) := dq_get dd_M_openAt_32 (i := 5) rfl
theorem d_M_openAt_61 : decode mM_openAt.2.1 61 = .ok (.ifCond .eq 30, 3) := dq_get dd_M_openAt_32 (i := 6) rfl
theorem d_M_openAt_64 : decode mM_openAt.2.1 64 = .ok (.aload_n 0, 1) := dq_get dd_M_openAt_32 (i := 7) rfl
theorem d_M_openAt_65 : decode mM_openAt.2.1 65 = .ok (.getfield 96, 3) := dq_get dd_M_openAt_32 (i := 8) rfl
theorem d_M_openAt_68 : decode mM_openAt.2.1 68 = .ok (.bipush 30, 2) := dq_get dd_M_openAt_32 (i := 9) rfl
theorem d_M_openAt_70 : decode mM_openAt.2.1 70 = .ok (.iload 5, 2) := dq_get dd_M_openAt_32 (i := 10) rfl
theorem d_M_openAt_72 : decode mM_openAt.2.1 72 = .ok (.iadd, 1) := dq_get dd_M_openAt_32 (i := 11) rfl
theorem d_M_openAt_73 : decode mM_openAt.2.1 73 = .ok (.iaload, 1) := dq_get dd_M_openAt_32 (i := 12) rfl
theorem d_M_openAt_74 : decode mM_openAt.2.1 74 = .ok (.aload_n 0, 1) := dq_get dd_M_openAt_32 (i := 13) rfl
theorem d_M_openAt_75 : decode mM_openAt.2.1 75 = .ok (.getfield 96, 3) := dq_get dd_M_openAt_32 (i := 14) rfl
theorem d_M_openAt_78 : decode mM_openAt.2.1 78 = .ok (.bipush 30, 2) := dq_get dd_M_openAt_32 (i := 15) rfl
theorem d_M_openAt_80 : decode mM_openAt.2.1 80 = .ok (.iload_n 3, 1) := dq_get dd_M_openAt_32 (i := 16) rfl
theorem d_M_openAt_81 : decode mM_openAt.2.1 81 = .ok (.iadd, 1) := dq_get dd_M_openAt_32 (i := 17) rfl
theorem d_M_openAt_82 : decode mM_openAt.2.1 82 = .ok (.iaload, 1) := dq_get dd_M_openAt_32 (i := 18) rfl
theorem d_M_openAt_83 : decode mM_openAt.2.1 83 = .ok (.isub, 1) := dq_get dd_M_openAt_32 (i := 19) rfl
theorem d_M_openAt_84 : decode mM_openAt.2.1 84 = .ok (.aload_n 0, 1) := dq_get dd_M_openAt_32 (i := 20) rfl
theorem d_M_openAt_85 : decode mM_openAt.2.1 85 = .ok (.getfield 90, 3) := dq_get dd_M_openAt_32 (i := 21) rfl
theorem d_M_openAt_88 : decode mM_openAt.2.1 88 = .ok (.if_icmp .gt 7, 3) := dq_get dd_M_openAt_32 (i := 22) rfl
theorem d_M_openAt_91 : decode mM_openAt.2.1 91 = .ok (.iconst 1, 1) := dq_get dd_M_openAt_32 (i := 23) rfl
theorem d_M_openAt_92 : decode mM_openAt.2.1 92 = .ok (.goto 4, 3) := dq_get dd_M_openAt_32 (i := 24) rfl
theorem d_M_openAt_95 : decode mM_openAt.2.1 95 = .ok (.iconst 0, 1) := dq_get dd_M_openAt_32 (i := 25) rfl
theorem d_M_openAt_96 : decode mM_openAt.2.1 96 = .ok (.istore 4, 2) := dq_get dd_M_openAt_32 (i := 26) rfl
theorem d_M_openAt_98 : decode mM_openAt.2.1 98 = .ok (.iinc 5 1, 3) := dq_get dd_M_openAt_32 (i := 27) rfl
theorem d_M_openAt_101 : decode mM_openAt.2.1 101 = .ok (.goto (-65), 3) := dq_get dd_M_openAt_32 (i := 28) rfl
theorem d_M_openAt_104 : decode mM_openAt.2.1 104 = .ok (.iload_n 2, 1) := dq_get dd_M_openAt_32 (i := 29) rfl
theorem d_M_openAt_105 : decode mM_openAt.2.1 105 = .ok (.iload 4, 2) := dq_get dd_M_openAt_32 (i := 30) rfl
theorem d_M_openAt_107 : decode mM_openAt.2.1 107 = .ok (.invokestatic 318, 3) := dq_get dd_M_openAt_32 (i := 31) rfl
theorem dd_M_openAt_64 : dq mM_openAt.2.1 [(110, .iload_n 3, 1), (111, .ishl, 1), (112, .ior, 1), (113, .istore_n 2, 1), (114, .iinc 3 1, 3), (117, .goto (-113), 3), (120, .iload_n 2, 1), (121, .ireturn, 1)] = true := by decide +kernel
theorem d_M_openAt_110 : decode mM_openAt.2.1 110 = .ok (.iload_n 3, 1) := dq_get dd_M_openAt_64 (i := 0) rfl
theorem d_M_openAt_111 : decode mM_openAt.2.1 111 = .ok (.ishl, 1) := dq_get dd_M_openAt_64 (i := 1) rfl
theorem d_M_openAt_112 : decode mM_openAt.2.1 112 = .ok (.ior, 1) := dq_get dd_M_openAt_64 (i := 2) rfl
theorem d_M_openAt_113 : decode mM_openAt.2.1 113 = .ok (.istore_n 2, 1) := dq_get dd_M_openAt_64 (i := 3) rfl
theorem d_M_openAt_114 : decode mM_openAt.2.1 114 = .ok (.iinc 3 1, 3) := dq_get dd_M_openAt_64 (i := 4) rfl
theorem d_M_openAt_117 : decode mM_openAt.2.1 117 = .ok (.goto (-113), 3) := dq_get dd_M_openAt_64 (i := 5) rfl
theorem d_M_openAt_120 : decode mM_openAt.2.1 120 = .ok (.iload_n 2, 1) := dq_get dd_M_openAt_64 (i := 6) rfl
theorem d_M_openAt_121 : decode mM_openAt.2.1 121 = .ok (.ireturn, 1) := dq_get dd_M_openAt_64 (i := 7) rfl
theorem dd_M_lost_0 : dq mM_lost.2.1 [(0, .aload_n 0, 1), (1, .invokevirtual 464, 3), (4, .aload_n 0, 1), (5, .invokevirtual 479, 3), (8, .iconst 0, 1), (9, .istore_n 1, 1), (10, .iconst 0, 1), (11, .istore_n 2, 1), (12, .iload_n 2, 1), (13, .aload_n 0, 1), (14, .getfield 322, 3), (17, .if_icmp .ge 54, 3), (20, .iload_n 1, 1), (21, .aload_n 0, 1), (22, .invokevirtual 536, 3), (25, .aload_n 0, 1), (26, .iconst 0, 1), (27, .invokevirtual 454, 3), (30, .iconst (-1), 1), (31, .ixor, 1), (32, .iand, 1), (33, .aload_n 0, 1), (34, .aload_n 0, 1), (35, .getfield 66, 3), (38, .iload_n 2, 1), (39, .iaload, 1), (40, .invokevirtual 533, 3), (43, .iconst (-1), 1), (44, .ixor, 1), (45, .iand, 1), (46, .iconst 1, 1), (47, .iload_n 2, 1)] = true := by decide +kernel
theorem d_M_lost_0 : decode mM_lost.2.1 0 = .ok (.aload_n 0, 1) := dq_get dd_M_lost_0 (i := 0) rfl
theorem d_M_lost_1 : decode mM_lost.2.1 1 = .ok (.invokevirtual 464, 3) := dq_get dd_M_lost_0 (i := 1) rfl
theorem d_M_lost_4 : decode mM_lost.2.1 4 = .ok (.aload_n 0, 1) := dq_get dd_M_lost_0 (i := 2) rfl
theorem d_M_lost_5 : decode mM_lost.2.1 5 = .ok (.invokevirtual 479, 3) := dq_get dd_M_lost_0 (i := 3) rfl
theorem d_M_lost_8 : decode mM_lost.2.1 8 = .ok (.iconst 0, 1) := dq_get dd_M_lost_0 (i := 4) rfl
theorem d_M_lost_9 : decode mM_lost.2.1 9 = .ok (.istore_n 1, 1) := dq_get dd_M_lost_0 (i := 5) rfl
theorem d_M_lost_10 : decode mM_lost.2.1 10 = .ok (.iconst 0, 1) := dq_get dd_M_lost_0 (i := 6) rfl
theorem d_M_lost_11 : decode mM_lost.2.1 11 = .ok (.istore_n 2, 1) := dq_get dd_M_lost_0 (i := 7) rfl
theorem d_M_lost_12 : decode mM_lost.2.1 12 = .ok (.iload_n 2, 1) := dq_get dd_M_lost_0 (i := 8) rfl
theorem d_M_lost_13 : decode mM_lost.2.1 13 = .ok (.aload_n 0, 1) := dq_get dd_M_lost_0 (i := 9) rfl
theorem d_M_lost_14 : decode mM_lost.2.1 14 = .ok (.getfield 322, 3) := dq_get dd_M_lost_0 (i := 10) rfl
theorem d_M_lost_17 : decode mM_lost.2.1 17 = .ok (.if_icmp .ge 54, 3) := dq_get dd_M_lost_0 (i := 11) rfl
theorem d_M_lost_20 : decode mM_lost.2.1 20 = .ok (.iload_n 1, 1) := dq_get dd_M_lost_0 (i := 12) rfl
theorem d_M_lost_21 : decode mM_lost.2.1 21 = .ok (.aload_n 0, 1) := dq_get dd_M_lost_0 (i := 13) rfl
theorem d_M_lost_22 : decode mM_lost.2.1 22 = .ok (.invokevirtual 536, 3) := dq_get dd_M_lost_0 (i := 14) rfl
theorem d_M_lost_25 : decode mM_lost.2.1 25 = .ok (.aload_n 0, 1) := dq_get dd_M_lost_0 (i := 15) rfl
theorem d_M_lost_26 : decode mM_lost.2.1 26 = .ok (.iconst 0, 1) := dq_get dd_M_lost_0 (i := 16) rfl
theorem d_M_lost_27 : decode mM_lost.2.1 27 = .ok (.invokevirtual 454, 3) := dq_get dd_M_lost_0 (i := 17) rfl
theorem d_M_lost_30 : decode mM_lost.2.1 30 = .ok (.iconst (-1), 1) := dq_get dd_M_lost_0 (i := 18) rfl
theorem d_M_lost_31 : decode mM_lost.2.1 31 = .ok (.ixor, 1) := dq_get dd_M_lost_0 (i := 19) rfl
theorem d_M_lost_32 : decode mM_lost.2.1 32 = .ok (.iand, 1) := dq_get dd_M_lost_0 (i := 20) rfl
theorem d_M_lost_33 : decode mM_lost.2.1 33 = .ok (.aload_n 0, 1) := dq_get dd_M_lost_0 (i := 21) rfl
theorem d_M_lost_34 : decode mM_lost.2.1 34 = .ok (.aload_n 0, 1) := dq_get dd_M_lost_0 (i := 22) rfl
theorem d_M_lost_35 : decode mM_lost.2.1 35 = .ok (.getfield 66, 3) := dq_get dd_M_lost_0 (i := 23) rfl
theorem d_M_lost_38 : decode mM_lost.2.1 38 = .ok (.iload_n 2, 1) := dq_get dd_M_lost_0 (i := 24) rfl
theorem d_M_lost_39 : decode mM_lost.2.1 39 = .ok (.iaload, 1) := dq_get dd_M_lost_0 (i := 25) rfl
theorem d_M_lost_40 : decode mM_lost.2.1 40 = .ok (.invokevirtual 533, 3) := dq_get dd_M_lost_0 (i := 26) rfl
theorem d_M_lost_43 : decode mM_lost.2.1 43 = .ok (.iconst (-1), 1) := dq_get dd_M_lost_0 (i := 27) rfl
theorem d_M_lost_44 : decode mM_lost.2.1 44 = .ok (.ixor, 1) := dq_get dd_M_lost_0 (i := 28) rfl
theorem d_M_lost_45 : decode mM_lost.2.1 45 = .ok (.iand, 1) := dq_get dd_M_lost_0 (i := 29) rfl
theorem d_M_lost_46 : decode mM_lost.2.1 46 = .ok (.iconst 1, 1) := dq_get dd_M_lost_0 (i := 30) rfl
theorem d_M_lost_47 : decode mM_lost.2.1 47 = .ok (.iload_n 2, 1) := dq_get dd_M_lost_0 (i := 31) rfl
theorem dd_M_lost_32 : dq mM_lost.2.1 [(48, .ishl, 1), (49, .iand, 1), (50, .ifCond .eq 7, 3), (53, .iconst 1, 1), (54, .goto 4, 3), (57, .iconst 0, 1), (58, .invokestatic 318, 3), (61, .iload_n 2, 1), (62, .ishl, 1), (63, .ior, 1), (64, .istore_n 1, 1), (65, .iinc 2 1, 3), (68, .goto (-56), 3), (71, .iload_n 1, 1), (72, .ireturn, 1)] = true := by decide +kernel
theorem d_M_lost_48 : decode mM_lost.2.1 48 = .ok (.ishl, 1) := dq_get dd_M_lost_32 (i := 0) rfl
theorem d_M_lost_49 : decode mM_lost.2.1 49 = .ok (.iand, 1) := dq_get dd_M_lost_32 (i := 1) rfl
theorem d_M_lost_50 : decode mM_lost.2.1 50 = .ok (.ifCond .eq 7, 3) := dq_get dd_M_lost_32 (i := 2) rfl
theorem d_M_lost_53 : decode mM_lost.2.1 53 = .ok (.iconst 1, 1) := dq_get dd_M_lost_32 (i := 3) rfl
theorem d_M_lost_54 : decode mM_lost.2.1 54 = .ok (.goto 4, 3) := dq_get dd_M_lost_32 (i := 4) rfl
theorem d_M_lost_57 : decode mM_lost.2.1 57 = .ok (.iconst 0, 1) := dq_get dd_M_lost_32 (i := 5) rfl
theorem d_M_lost_58 : decode mM_lost.2.1 58 = .ok (.invokestatic 318, 3) := dq_get dd_M_lost_32 (i := 6) rfl
theorem d_M_lost_61 : decode mM_lost.2.1 61 = .ok (.iload_n 2, 1) := dq_get dd_M_lost_32 (i := 7) rfl
theorem d_M_lost_62 : decode mM_lost.2.1 62 = .ok (.ishl, 1) := dq_get dd_M_lost_32 (i := 8) rfl
theorem d_M_lost_63 : decode mM_lost.2.1 63 = .ok (.ior, 1) := dq_get dd_M_lost_32 (i := 9) rfl
theorem d_M_lost_64 : decode mM_lost.2.1 64 = .ok (.istore_n 1, 1) := dq_get dd_M_lost_32 (i := 10) rfl
theorem d_M_lost_65 : decode mM_lost.2.1 65 = .ok (.iinc 2 1, 3) := dq_get dd_M_lost_32 (i := 11) rfl
theorem d_M_lost_68 : decode mM_lost.2.1 68 = .ok (.goto (-56), 3) := dq_get dd_M_lost_32 (i := 12) rfl
theorem d_M_lost_71 : decode mM_lost.2.1 71 = .ok (.iload_n 1, 1) := dq_get dd_M_lost_32 (i := 13) rfl
theorem d_M_lost_72 : decode mM_lost.2.1 72 = .ok (.ireturn, 1) := dq_get dd_M_lost_32 (i := 14) rfl
theorem dd_M_tunes_0 : dq mM_tunes.2.1 [(0, .iconst 0, 1), (1, .istore_n 1, 1), (2, .iconst 0, 1), (3, .istore_n 2, 1), (4, .iload_n 2, 1), (5, .aload_n 0, 1), (6, .getfield 322, 3), (9, .if_icmp .ge 37, 3), (12, .iload_n 1, 1), (13, .aload_n 0, 1), (14, .getfield 60, 3), (17, .aload_n 0, 1), (18, .getfield 63, 3), (21, .iload_n 2, 1), (22, .iaload, 1), (23, .iaload, 1), (24, .iconst 2, 1), (25, .if_icmp .ne 7, 3), (28, .iconst 1, 1), (29, .goto 4, 3), (32, .iconst 0, 1), (33, .invokestatic 318, 3), (36, .iload_n 2, 1), (37, .ishl, 1), (38, .ior, 1), (39, .istore_n 1, 1), (40, .iinc 2 1, 3), (43, .goto (-39), 3), (46, .iload_n 1, 1), (47, .ireturn, 1)] = true := by decide +kernel
theorem d_M_tunes_0 : decode mM_tunes.2.1 0 = .ok (.iconst 0, 1) := dq_get dd_M_tunes_0 (i := 0) rfl
theorem d_M_tunes_1 : decode mM_tunes.2.1 1 = .ok (.istore_n 1, 1) := dq_get dd_M_tunes_0 (i := 1) rfl
theorem d_M_tunes_2 : decode mM_tunes.2.1 2 = .ok (.iconst 0, 1) := dq_get dd_M_tunes_0 (i := 2) rfl
theorem d_M_tunes_3 : decode mM_tunes.2.1 3 = .ok (.istore_n 2, 1) := dq_get dd_M_tunes_0 (i := 3) rfl
theorem d_M_tunes_4 : decode mM_tunes.2.1 4 = .ok (.iload_n 2, 1) := dq_get dd_M_tunes_0 (i := 4) rfl
theorem d_M_tunes_5 : decode mM_tunes.2.1 5 = .ok (.aload_n 0, 1) := dq_get dd_M_tunes_0 (i := 5) rfl
theorem d_M_tunes_6 : decode mM_tunes.2.1 6 = .ok (.getfield 322, 3) := dq_get dd_M_tunes_0 (i := 6) rfl
theorem d_M_tunes_9 : decode mM_tunes.2.1 9 = .ok (.if_icmp .ge 37, 3) := dq_get dd_M_tunes_0 (i := 7) rfl
theorem d_M_tunes_12 : decode mM_tunes.2.1 12 = .ok (.iload_n 1, 1) := dq_get dd_M_tunes_0 (i := 8) rfl
theorem d_M_tunes_13 : decode mM_tunes.2.1 13 = .ok (.aload_n 0, 1) := dq_get dd_M_tunes_0 (i := 9) rfl
theorem d_M_tunes_14 : decode mM_tunes.2.1 14 = .ok (.getfield 60, 3) := dq_get dd_M_tunes_0 (i := 10) rfl
theorem d_M_tunes_17 : decode mM_tunes.2.1 17 = .ok (.aload_n 0, 1) := dq_get dd_M_tunes_0 (i := 11) rfl
theorem d_M_tunes_18 : decode mM_tunes.2.1 18 = .ok (.getfield 63, 3) := dq_get dd_M_tunes_0 (i := 12) rfl
theorem d_M_tunes_21 : decode mM_tunes.2.1 21 = .ok (.iload_n 2, 1) := dq_get dd_M_tunes_0 (i := 13) rfl
theorem d_M_tunes_22 : decode mM_tunes.2.1 22 = .ok (.iaload, 1) := dq_get dd_M_tunes_0 (i := 14) rfl
theorem d_M_tunes_23 : decode mM_tunes.2.1 23 = .ok (.iaload, 1) := dq_get dd_M_tunes_0 (i := 15) rfl
theorem d_M_tunes_24 : decode mM_tunes.2.1 24 = .ok (.iconst 2, 1) := dq_get dd_M_tunes_0 (i := 16) rfl
theorem d_M_tunes_25 : decode mM_tunes.2.1 25 = .ok (.if_icmp .ne 7, 3) := dq_get dd_M_tunes_0 (i := 17) rfl
theorem d_M_tunes_28 : decode mM_tunes.2.1 28 = .ok (.iconst 1, 1) := dq_get dd_M_tunes_0 (i := 18) rfl
theorem d_M_tunes_29 : decode mM_tunes.2.1 29 = .ok (.goto 4, 3) := dq_get dd_M_tunes_0 (i := 19) rfl
theorem d_M_tunes_32 : decode mM_tunes.2.1 32 = .ok (.iconst 0, 1) := dq_get dd_M_tunes_0 (i := 20) rfl
theorem d_M_tunes_33 : decode mM_tunes.2.1 33 = .ok (.invokestatic 318, 3) := dq_get dd_M_tunes_0 (i := 21) rfl
theorem d_M_tunes_36 : decode mM_tunes.2.1 36 = .ok (.iload_n 2, 1) := dq_get dd_M_tunes_0 (i := 22) rfl
theorem d_M_tunes_37 : decode mM_tunes.2.1 37 = .ok (.ishl, 1) := dq_get dd_M_tunes_0 (i := 23) rfl
theorem d_M_tunes_38 : decode mM_tunes.2.1 38 = .ok (.ior, 1) := dq_get dd_M_tunes_0 (i := 24) rfl
theorem d_M_tunes_39 : decode mM_tunes.2.1 39 = .ok (.istore_n 1, 1) := dq_get dd_M_tunes_0 (i := 25) rfl
theorem d_M_tunes_40 : decode mM_tunes.2.1 40 = .ok (.iinc 2 1, 3) := dq_get dd_M_tunes_0 (i := 26) rfl
theorem d_M_tunes_43 : decode mM_tunes.2.1 43 = .ok (.goto (-39), 3) := dq_get dd_M_tunes_0 (i := 27) rfl
theorem d_M_tunes_46 : decode mM_tunes.2.1 46 = .ok (.iload_n 1, 1) := dq_get dd_M_tunes_0 (i := 28) rfl
theorem d_M_tunes_47 : decode mM_tunes.2.1 47 = .ok (.ireturn, 1) := dq_get dd_M_tunes_0 (i := 29) rfl
theorem dd_M_gaps_0 : dq mM_gaps.2.1 [(0, .aload_n 0, 1), (1, .invokevirtual 464, 3), (4, .aload_n 0, 1), (5, .invokevirtual 479, 3), (8, .iconst 0, 1), (9, .istore_n 1, 1), (10, .iconst 0, 1), (11, .istore_n 2, 1), (12, .iload_n 2, 1), (13, .aload_n 0, 1), (14, .getfield 78, 3), (17, .if_icmp .ge 36, 3), (20, .iload_n 1, 1), (21, .aload_n 0, 1), (22, .getfield 102, 3), (25, .iload_n 2, 1), (26, .iaload, 1), (27, .aload_n 0, 1), (28, .invokevirtual 536, 3), (31, .iand, 1), (32, .ifCond .ne 7, 3), (35, .iconst 1, 1), (36, .goto 4, 3), (39, .iconst 0, 1), (40, .invokestatic 318, 3), (43, .iload_n 2, 1), (44, .ishl, 1), (45, .ior, 1), (46, .istore_n 1, 1), (47, .iinc 2 1, 3), (50, .goto (-38), 3), (53, .iload_n 1, 1)] = true := by decide +kernel
theorem d_M_gaps_0 : decode mM_gaps.2.1 0 = .ok (.aload_n 0, 1) := dq_get dd_M_gaps_0 (i := 0) rfl
theorem d_M_gaps_1 : decode mM_gaps.2.1 1 = .ok (.invokevirtual 464, 3) := dq_get dd_M_gaps_0 (i := 1) rfl
theorem d_M_gaps_4 : decode mM_gaps.2.1 4 = .ok (.aload_n 0, 1) := dq_get dd_M_gaps_0 (i := 2) rfl
theorem d_M_gaps_5 : decode mM_gaps.2.1 5 = .ok (.invokevirtual 479, 3) := dq_get dd_M_gaps_0 (i := 3) rfl
theorem d_M_gaps_8 : decode mM_gaps.2.1 8 = .ok (.iconst 0, 1) := dq_get dd_M_gaps_0 (i := 4) rfl
theorem d_M_gaps_9 : decode mM_gaps.2.1 9 = .ok (.istore_n 1, 1) := dq_get dd_M_gaps_0 (i := 5) rfl
theorem d_M_gaps_10 : decode mM_gaps.2.1 10 = .ok (.iconst 0, 1) := dq_get dd_M_gaps_0 (i := 6) rfl
theorem d_M_gaps_11 : decode mM_gaps.2.1 11 = .ok (.istore_n 2, 1) := dq_get dd_M_gaps_0 (i := 7) rfl
theorem d_M_gaps_12 : decode mM_gaps.2.1 12 = .ok (.iload_n 2, 1) := dq_get dd_M_gaps_0 (i := 8) rfl
theorem d_M_gaps_13 : decode mM_gaps.2.1 13 = .ok (.aload_n 0, 1) := dq_get dd_M_gaps_0 (i := 9) rfl
theorem d_M_gaps_14 : decode mM_gaps.2.1 14 = .ok (.getfield 78, 3) := dq_get dd_M_gaps_0 (i := 10) rfl
theorem d_M_gaps_17 : decode mM_gaps.2.1 17 = .ok (.if_icmp .ge 36, 3) := dq_get dd_M_gaps_0 (i := 11) rfl
theorem d_M_gaps_20 : decode mM_gaps.2.1 20 = .ok (.iload_n 1, 1) := dq_get dd_M_gaps_0 (i := 12) rfl
theorem d_M_gaps_21 : decode mM_gaps.2.1 21 = .ok (.aload_n 0, 1) := dq_get dd_M_gaps_0 (i := 13) rfl
theorem d_M_gaps_22 : decode mM_gaps.2.1 22 = .ok (.getfield 102, 3) := dq_get dd_M_gaps_0 (i := 14) rfl
theorem d_M_gaps_25 : decode mM_gaps.2.1 25 = .ok (.iload_n 2, 1) := dq_get dd_M_gaps_0 (i := 15) rfl
theorem d_M_gaps_26 : decode mM_gaps.2.1 26 = .ok (.iaload, 1) := dq_get dd_M_gaps_0 (i := 16) rfl
theorem d_M_gaps_27 : decode mM_gaps.2.1 27 = .ok (.aload_n 0, 1) := dq_get dd_M_gaps_0 (i := 17) rfl
theorem d_M_gaps_28 : decode mM_gaps.2.1 28 = .ok (.invokevirtual 536, 3) := dq_get dd_M_gaps_0 (i := 18) rfl
theorem d_M_gaps_31 : decode mM_gaps.2.1 31 = .ok (.iand, 1) := dq_get dd_M_gaps_0 (i := 19) rfl
theorem d_M_gaps_32 : decode mM_gaps.2.1 32 = .ok (.ifCond .ne 7, 3) := dq_get dd_M_gaps_0 (i := 20) rfl
theorem d_M_gaps_35 : decode mM_gaps.2.1 35 = .ok (.iconst 1, 1) := dq_get dd_M_gaps_0 (i := 21) rfl
theorem d_M_gaps_36 : decode mM_gaps.2.1 36 = .ok (.goto 4, 3) := dq_get dd_M_gaps_0 (i := 22) rfl
theorem d_M_gaps_39 : decode mM_gaps.2.1 39 = .ok (.iconst 0, 1) := dq_get dd_M_gaps_0 (i := 23) rfl
theorem d_M_gaps_40 : decode mM_gaps.2.1 40 = .ok (.invokestatic 318, 3) := dq_get dd_M_gaps_0 (i := 24) rfl
theorem d_M_gaps_43 : decode mM_gaps.2.1 43 = .ok (.iload_n 2, 1) := dq_get dd_M_gaps_0 (i := 25) rfl
theorem d_M_gaps_44 : decode mM_gaps.2.1 44 = .ok (.ishl, 1) := dq_get dd_M_gaps_0 (i := 26) rfl
theorem d_M_gaps_45 : decode mM_gaps.2.1 45 = .ok (.ior, 1) := dq_get dd_M_gaps_0 (i := 27) rfl
theorem d_M_gaps_46 : decode mM_gaps.2.1 46 = .ok (.istore_n 1, 1) := dq_get dd_M_gaps_0 (i := 28) rfl
theorem d_M_gaps_47 : decode mM_gaps.2.1 47 = .ok (.iinc 2 1, 3) := dq_get dd_M_gaps_0 (i := 29) rfl
theorem d_M_gaps_50 : decode mM_gaps.2.1 50 = .ok (.goto (-38), 3) := dq_get dd_M_gaps_0 (i := 30) rfl
theorem d_M_gaps_53 : decode mM_gaps.2.1 53 = .ok (.iload_n 1, 1) := dq_get dd_M_gaps_0 (i := 31) rfl
theorem dd_M_gaps_32 : dq mM_gaps.2.1 [(54, .ireturn, 1)] = true := by decide +kernel
theorem d_M_gaps_54 : decode mM_gaps.2.1 54 = .ok (.ireturn, 1) := dq_get dd_M_gaps_32 (i := 0) rfl
theorem dd_M_easier_0 : dq mM_easier.2.1 [(0, .aload_n 0, 1), (1, .iload_n 1, 1), (2, .invokevirtual 461, 3), (5, .ifCond .eq 12, 3), (8, .aload_n 0, 1), (9, .getfield 93, 3), (12, .iload_n 1, 1), (13, .iaload, 1), (14, .ifCond .ne 5, 3), (17, .iconst (-1), 1), (18, .ireturn, 1), (19, .aload_n 0, 1), (20, .invokevirtual 488, 3), (23, .invokestatic 331, 3), (26, .istore_n 2, 1), (27, .aload_n 0, 1), (28, .getfield 96, 3), (31, .iload_n 1, 1), (32, .iconst 0, 1), (33, .iastore, 1), (34, .iload_n 2, 1), (35, .aload_n 0, 1), (36, .aload_n 0, 1), (37, .getfield 81, 3), (40, .invokevirtual 482, 3), (43, .invokestatic 331, 3), (46, .isub, 1), (47, .ireturn, 1)] = true := by decide +kernel
theorem d_M_easier_0 : decode mM_easier.2.1 0 = .ok (.aload_n 0, 1) := dq_get dd_M_easier_0 (i := 0) rfl
theorem d_M_easier_1 : decode mM_easier.2.1 1 = .ok (.iload_n 1, 1) := dq_get dd_M_easier_0 (i := 1) rfl
theorem d_M_easier_2 : decode mM_easier.2.1 2 = .ok (.invokevirtual 461, 3) := dq_get dd_M_easier_0 (i := 2) rfl
theorem d_M_easier_5 : decode mM_easier.2.1 5 = .ok (.ifCond .eq 12, 3) := dq_get dd_M_easier_0 (i := 3) rfl
theorem d_M_easier_8 : decode mM_easier.2.1 8 = .ok (.aload_n 0, 1) := dq_get dd_M_easier_0 (i := 4) rfl
theorem d_M_easier_9 : decode mM_easier.2.1 9 = .ok (.getfield 93, 3) := dq_get dd_M_easier_0 (i := 5) rfl
theorem d_M_easier_12 : decode mM_easier.2.1 12 = .ok (.iload_n 1, 1) := dq_get dd_M_easier_0 (i := 6) rfl
theorem d_M_easier_13 : decode mM_easier.2.1 13 = .ok (.iaload, 1) := dq_get dd_M_easier_0 (i := 7) rfl
theorem d_M_easier_14 : decode mM_easier.2.1 14 = .ok (.ifCond .ne 5, 3) := dq_get dd_M_easier_0 (i := 8) rfl
theorem d_M_easier_17 : decode mM_easier.2.1 17 = .ok (.iconst (-1), 1) := dq_get dd_M_easier_0 (i := 9) rfl
theorem d_M_easier_18 : decode mM_easier.2.1 18 = .ok (.ireturn, 1) := dq_get dd_M_easier_0 (i := 10) rfl
theorem d_M_easier_19 : decode mM_easier.2.1 19 = .ok (.aload_n 0, 1) := dq_get dd_M_easier_0 (i := 11) rfl
theorem d_M_easier_20 : decode mM_easier.2.1 20 = .ok (.invokevirtual 488, 3) := dq_get dd_M_easier_0 (i := 12) rfl
theorem d_M_easier_23 : decode mM_easier.2.1 23 = .ok (.invokestatic 331, 3) := dq_get dd_M_easier_0 (i := 13) rfl
theorem d_M_easier_26 : decode mM_easier.2.1 26 = .ok (.istore_n 2, 1) := dq_get dd_M_easier_0 (i := 14) rfl
theorem d_M_easier_27 : decode mM_easier.2.1 27 = .ok (.aload_n 0, 1) := dq_get dd_M_easier_0 (i := 15) rfl
theorem d_M_easier_28 : decode mM_easier.2.1 28 = .ok (.getfield 96, 3) := dq_get dd_M_easier_0 (i := 16) rfl
theorem d_M_easier_31 : decode mM_easier.2.1 31 = .ok (.iload_n 1, 1) := dq_get dd_M_easier_0 (i := 17) rfl
theorem d_M_easier_32 : decode mM_easier.2.1 32 = .ok (.iconst 0, 1) := dq_get dd_M_easier_0 (i := 18) rfl
theorem d_M_easier_33 : decode mM_easier.2.1 33 = .ok (.iastore, 1) := dq_get dd_M_easier_0 (i := 19) rfl
theorem d_M_easier_34 : decode mM_easier.2.1 34 = .ok (.iload_n 2, 1) := dq_get dd_M_easier_0 (i := 20) rfl
theorem d_M_easier_35 : decode mM_easier.2.1 35 = .ok (.aload_n 0, 1) := dq_get dd_M_easier_0 (i := 21) rfl
theorem d_M_easier_36 : decode mM_easier.2.1 36 = .ok (.aload_n 0, 1) := dq_get dd_M_easier_0 (i := 22) rfl
theorem d_M_easier_37 : decode mM_easier.2.1 37 = .ok (.getfield 81, 3) := dq_get dd_M_easier_0 (i := 23) rfl
theorem d_M_easier_40 : decode mM_easier.2.1 40 = .ok (.invokevirtual 482, 3) := dq_get dd_M_easier_0 (i := 24) rfl
theorem d_M_easier_43 : decode mM_easier.2.1 43 = .ok (.invokestatic 331, 3) := dq_get dd_M_easier_0 (i := 25) rfl
theorem d_M_easier_46 : decode mM_easier.2.1 46 = .ok (.isub, 1) := dq_get dd_M_easier_0 (i := 26) rfl
theorem d_M_easier_47 : decode mM_easier.2.1 47 = .ok (.ireturn, 1) := dq_get dd_M_easier_0 (i := 27) rfl
theorem dd_M_thickest_0 : dq mM_thickest.2.1 [(0, .aload_n 0, 1), (1, .invokevirtual 464, 3), (4, .aload_n 0, 1), (5, .iconst 1, 1), (6, .invokevirtual 454, 3), (9, .aload_n 0, 1), (10, .iconst 2, 1), (11, .invokevirtual 454, 3), (14, .ior, 1), (15, .istore_n 1, 1), (16, .iconst 0, 1), (17, .istore_n 2, 1), (18, .iconst 1, 1), (19, .istore_n 3, 1), (20, .iload_n 3, 1), (21, .aload_n 0, 1), (22, .getfield 78, 3), (25, .if_icmp .ge 40, 3), (28, .aload_n 0, 1), (29, .getfield 99, 3), (32, .iload_n 3, 1), (33, .iaload, 1), (34, .iload_n 1, 1), (35, .iand, 1), (36, .invokestatic 331, 3), (39, .aload_n 0, 1), (40, .getfield 99, 3), (43, .iload_n 2, 1), (44, .iaload, 1), (45, .iload_n 1, 1), (46, .iand, 1), (47, .invokestatic 331, 3)] = true := by decide +kernel
theorem d_M_thickest_0 : decode mM_thickest.2.1 0 = .ok (.aload_n 0, 1) := dq_get dd_M_thickest_0 (i := 0) rfl
theorem d_M_thickest_1 : decode mM_thickest.2.1 1 = .ok (.invokevirtual 464, 3) := dq_get dd_M_thickest_0 (i := 1) rfl
theorem d_M_thickest_4 : decode mM_thickest.2.1 4 = .ok (.aload_n 0, 1) := dq_get dd_M_thickest_0 (i := 2) rfl
theorem d_M_thickest_5 : decode mM_thickest.2.1 5 = .ok (.iconst 1, 1) := dq_get dd_M_thickest_0 (i := 3) rfl
theorem d_M_thickest_6 : decode mM_thickest.2.1 6 = .ok (.invokevirtual 454, 3) := dq_get dd_M_thickest_0 (i := 4) rfl
theorem d_M_thickest_9 : decode mM_thickest.2.1 9 = .ok (.aload_n 0, 1) := dq_get dd_M_thickest_0 (i := 5) rfl
theorem d_M_thickest_10 : decode mM_thickest.2.1 10 = .ok (.iconst 2, 1) := dq_get dd_M_thickest_0 (i := 6) rfl
theorem d_M_thickest_11 : decode mM_thickest.2.1 11 = .ok (.invokevirtual 454, 3) := dq_get dd_M_thickest_0 (i := 7) rfl
theorem d_M_thickest_14 : decode mM_thickest.2.1 14 = .ok (.ior, 1) := dq_get dd_M_thickest_0 (i := 8) rfl
theorem d_M_thickest_15 : decode mM_thickest.2.1 15 = .ok (.istore_n 1, 1) := dq_get dd_M_thickest_0 (i := 9) rfl
theorem d_M_thickest_16 : decode mM_thickest.2.1 16 = .ok (.iconst 0, 1) := dq_get dd_M_thickest_0 (i := 10) rfl
theorem d_M_thickest_17 : decode mM_thickest.2.1 17 = .ok (.istore_n 2, 1) := dq_get dd_M_thickest_0 (i := 11) rfl
theorem d_M_thickest_18 : decode mM_thickest.2.1 18 = .ok (.iconst 1, 1) := dq_get dd_M_thickest_0 (i := 12) rfl
theorem d_M_thickest_19 : decode mM_thickest.2.1 19 = .ok (.istore_n 3, 1) := dq_get dd_M_thickest_0 (i := 13) rfl
theorem d_M_thickest_20 : decode mM_thickest.2.1 20 = .ok (.iload_n 3, 1) := dq_get dd_M_thickest_0 (i := 14) rfl
theorem d_M_thickest_21 : decode mM_thickest.2.1 21 = .ok (.aload_n 0, 1) := dq_get dd_M_thickest_0 (i := 15) rfl
theorem d_M_thickest_22 : decode mM_thickest.2.1 22 = .ok (.getfield 78, 3) := dq_get dd_M_thickest_0 (i := 16) rfl
theorem d_M_thickest_25 : decode mM_thickest.2.1 25 = .ok (.if_icmp .ge 40, 3) := dq_get dd_M_thickest_0 (i := 17) rfl
theorem d_M_thickest_28 : decode mM_thickest.2.1 28 = .ok (.aload_n 0, 1) := dq_get dd_M_thickest_0 (i := 18) rfl
theorem d_M_thickest_29 : decode mM_thickest.2.1 29 = .ok (.getfield 99, 3) := dq_get dd_M_thickest_0 (i := 19) rfl
theorem d_M_thickest_32 : decode mM_thickest.2.1 32 = .ok (.iload_n 3, 1) := dq_get dd_M_thickest_0 (i := 20) rfl
theorem d_M_thickest_33 : decode mM_thickest.2.1 33 = .ok (.iaload, 1) := dq_get dd_M_thickest_0 (i := 21) rfl
theorem d_M_thickest_34 : decode mM_thickest.2.1 34 = .ok (.iload_n 1, 1) := dq_get dd_M_thickest_0 (i := 22) rfl
theorem d_M_thickest_35 : decode mM_thickest.2.1 35 = .ok (.iand, 1) := dq_get dd_M_thickest_0 (i := 23) rfl
theorem d_M_thickest_36 : decode mM_thickest.2.1 36 = .ok (.invokestatic 331, 3) := dq_get dd_M_thickest_0 (i := 24) rfl
theorem d_M_thickest_39 : decode mM_thickest.2.1 39 = .ok (.aload_n 0, 1) := dq_get dd_M_thickest_0 (i := 25) rfl
theorem d_M_thickest_40 : decode mM_thickest.2.1 40 = .ok (.getfield 99, 3) := dq_get dd_M_thickest_0 (i := 26) rfl
theorem d_M_thickest_43 : decode mM_thickest.2.1 43 = .ok (.iload_n 2, 1) := dq_get dd_M_thickest_0 (i := 27) rfl
theorem d_M_thickest_44 : decode mM_thickest.2.1 44 = .ok (.iaload, 1) := dq_get dd_M_thickest_0 (i := 28) rfl
theorem d_M_thickest_45 : decode mM_thickest.2.1 45 = .ok (.iload_n 1, 1) := dq_get dd_M_thickest_0 (i := 29) rfl
theorem d_M_thickest_46 : decode mM_thickest.2.1 46 = .ok (.iand, 1) := dq_get dd_M_thickest_0 (i := 30) rfl
theorem d_M_thickest_47 : decode mM_thickest.2.1 47 = .ok (.invokestatic 331, 3) := dq_get dd_M_thickest_0 (i := 31) rfl
theorem dd_M_thickest_32 : dq mM_thickest.2.1 [(50, .if_icmp .le 7, 3), (53, .iload_n 3, 1), (54, .goto 4, 3), (57, .iload_n 2, 1), (58, .istore_n 2, 1), (59, .iinc 3 1, 3), (62, .goto (-42), 3), (65, .iload_n 2, 1), (66, .ireturn, 1)] = true := by decide +kernel
theorem d_M_thickest_50 : decode mM_thickest.2.1 50 = .ok (.if_icmp .le 7, 3) := dq_get dd_M_thickest_32 (i := 0) rfl
theorem d_M_thickest_53 : decode mM_thickest.2.1 53 = .ok (.iload_n 3, 1) := dq_get dd_M_thickest_32 (i := 1) rfl
theorem d_M_thickest_54 : decode mM_thickest.2.1 54 = .ok (.goto 4, 3) := dq_get dd_M_thickest_32 (i := 2) rfl
theorem d_M_thickest_57 : decode mM_thickest.2.1 57 = .ok (.iload_n 2, 1) := dq_get dd_M_thickest_32 (i := 3) rfl
theorem d_M_thickest_58 : decode mM_thickest.2.1 58 = .ok (.istore_n 2, 1) := dq_get dd_M_thickest_32 (i := 4) rfl
theorem d_M_thickest_59 : decode mM_thickest.2.1 59 = .ok (.iinc 3 1, 3) := dq_get dd_M_thickest_32 (i := 5) rfl
theorem d_M_thickest_62 : decode mM_thickest.2.1 62 = .ok (.goto (-42), 3) := dq_get dd_M_thickest_32 (i := 6) rfl
theorem d_M_thickest_65 : decode mM_thickest.2.1 65 = .ok (.iload_n 2, 1) := dq_get dd_M_thickest_32 (i := 7) rfl
theorem d_M_thickest_66 : decode mM_thickest.2.1 66 = .ok (.ireturn, 1) := dq_get dd_M_thickest_32 (i := 8) rfl
theorem dd_M_law_0 : dq mM_law.2.1 [(0, .iload_n 1, 1), (1, .iconst 0, 1), (2, .bipush 87, 2), (4, .invokestatic 429, 3), (7, .ifCond .ne 5, 3), (10, .iconst (-1), 1), (11, .ireturn, 1), (12, .aload_n 0, 1), (13, .invokevirtual 464, 3), (16, .aload_n 0, 1), (17, .iload_n 1, 1), (18, .invokevirtual 482, 3), (21, .invokestatic 331, 3), (24, .ireturn, 1)] = true := by decide +kernel
theorem d_M_law_0 : decode mM_law.2.1 0 = .ok (.iload_n 1, 1) := dq_get dd_M_law_0 (i := 0) rfl
theorem d_M_law_1 : decode mM_law.2.1 1 = .ok (.iconst 0, 1) := dq_get dd_M_law_0 (i := 1) rfl
theorem d_M_law_2 : decode mM_law.2.1 2 = .ok (.bipush 87, 2) := dq_get dd_M_law_0 (i := 2) rfl
theorem d_M_law_4 : decode mM_law.2.1 4 = .ok (.invokestatic 429, 3) := dq_get dd_M_law_0 (i := 3) rfl
theorem d_M_law_7 : decode mM_law.2.1 7 = .ok (.ifCond .ne 5, 3) := dq_get dd_M_law_0 (i := 4) rfl
theorem d_M_law_10 : decode mM_law.2.1 10 = .ok (.iconst (-1), 1) := dq_get dd_M_law_0 (i := 5) rfl
theorem d_M_law_11 : decode mM_law.2.1 11 = .ok (.ireturn, 1) := dq_get dd_M_law_0 (i := 6) rfl
theorem d_M_law_12 : decode mM_law.2.1 12 = .ok (.aload_n 0, 1) := dq_get dd_M_law_0 (i := 7) rfl
theorem d_M_law_13 : decode mM_law.2.1 13 = .ok (.invokevirtual 464, 3) := dq_get dd_M_law_0 (i := 8) rfl
theorem d_M_law_16 : decode mM_law.2.1 16 = .ok (.aload_n 0, 1) := dq_get dd_M_law_0 (i := 9) rfl
theorem d_M_law_17 : decode mM_law.2.1 17 = .ok (.iload_n 1, 1) := dq_get dd_M_law_0 (i := 10) rfl
theorem d_M_law_18 : decode mM_law.2.1 18 = .ok (.invokevirtual 482, 3) := dq_get dd_M_law_0 (i := 11) rfl
theorem d_M_law_21 : decode mM_law.2.1 21 = .ok (.invokestatic 331, 3) := dq_get dd_M_law_0 (i := 12) rfl
theorem d_M_law_24 : decode mM_law.2.1 24 = .ok (.ireturn, 1) := dq_get dd_M_law_0 (i := 13) rfl
theorem dd_M_dearest_0 : dq mM_dearest.2.1 [(0, .aload_n 0, 1), (1, .invokevirtual 464, 3), (4, .aload_n 0, 1), (5, .invokevirtual 497, 3), (8, .iconst (-1), 1), (9, .istore_n 1, 1), (10, .iconst 0, 1), (11, .istore_n 2, 1), (12, .iload_n 2, 1), (13, .aload_n 0, 1), (14, .getfield 322, 3), (17, .if_icmp .ge 39, 3), (20, .aload_n 0, 1), (21, .getfield 93, 3), (24, .iload_n 2, 1), (25, .iaload, 1), (26, .ifCond .ne 24, 3), (29, .iload_n 1, 1), (30, .ifCond .lt 18, 3), (33, .aload_n 0, 1), (34, .getfield 114, 3), (37, .iload_n 2, 1), (38, .iaload, 1), (39, .aload_n 0, 1), (40, .getfield 114, 3), (43, .iload_n 1, 1), (44, .iaload, 1), (45, .if_icmp .le 5, 3), (48, .iload_n 2, 1), (49, .istore_n 1, 1), (50, .iinc 2 1, 3), (53, .goto (-41), 3)] = true := by decide +kernel
theorem d_M_dearest_0 : decode mM_dearest.2.1 0 = .ok (.aload_n 0, 1) := dq_get dd_M_dearest_0 (i := 0) rfl
theorem d_M_dearest_1 : decode mM_dearest.2.1 1 = .ok (.invokevirtual 464, 3) := dq_get dd_M_dearest_0 (i := 1) rfl
theorem d_M_dearest_4 : decode mM_dearest.2.1 4 = .ok (.aload_n 0, 1) := dq_get dd_M_dearest_0 (i := 2) rfl
theorem d_M_dearest_5 : decode mM_dearest.2.1 5 = .ok (.invokevirtual 497, 3) := dq_get dd_M_dearest_0 (i := 3) rfl
theorem d_M_dearest_8 : decode mM_dearest.2.1 8 = .ok (.iconst (-1), 1) := dq_get dd_M_dearest_0 (i := 4) rfl
theorem d_M_dearest_9 : decode mM_dearest.2.1 9 = .ok (.istore_n 1, 1) := dq_get dd_M_dearest_0 (i := 5) rfl
theorem d_M_dearest_10 : decode mM_dearest.2.1 10 = .ok (.iconst 0, 1) := dq_get dd_M_dearest_0 (i := 6) rfl
theorem d_M_dearest_11 : decode mM_dearest.2.1 11 = .ok (.istore_n 2, 1) := dq_get dd_M_dearest_0 (i := 7) rfl
theorem d_M_dearest_12 : decode mM_dearest.2.1 12 = .ok (.iload_n 2, 1) := dq_get dd_M_dearest_0 (i := 8) rfl
theorem d_M_dearest_13 : decode mM_dearest.2.1 13 = .ok (.aload_n 0, 1) := dq_get dd_M_dearest_0 (i := 9) rfl
theorem d_M_dearest_14 : decode mM_dearest.2.1 14 = .ok (.getfield 322, 3) := dq_get dd_M_dearest_0 (i := 10) rfl
theorem d_M_dearest_17 : decode mM_dearest.2.1 17 = .ok (.if_icmp .ge 39, 3) := dq_get dd_M_dearest_0 (i := 11) rfl
theorem d_M_dearest_20 : decode mM_dearest.2.1 20 = .ok (.aload_n 0, 1) := dq_get dd_M_dearest_0 (i := 12) rfl
theorem d_M_dearest_21 : decode mM_dearest.2.1 21 = .ok (.getfield 93, 3) := dq_get dd_M_dearest_0 (i := 13) rfl
theorem d_M_dearest_24 : decode mM_dearest.2.1 24 = .ok (.iload_n 2, 1) := dq_get dd_M_dearest_0 (i := 14) rfl
theorem d_M_dearest_25 : decode mM_dearest.2.1 25 = .ok (.iaload, 1) := dq_get dd_M_dearest_0 (i := 15) rfl
theorem d_M_dearest_26 : decode mM_dearest.2.1 26 = .ok (.ifCond .ne 24, 3) := dq_get dd_M_dearest_0 (i := 16) rfl
theorem d_M_dearest_29 : decode mM_dearest.2.1 29 = .ok (.iload_n 1, 1) := dq_get dd_M_dearest_0 (i := 17) rfl
theorem d_M_dearest_30 : decode mM_dearest.2.1 30 = .ok (.ifCond .lt 18, 3) := dq_get dd_M_dearest_0 (i := 18) rfl
theorem d_M_dearest_33 : decode mM_dearest.2.1 33 = .ok (.aload_n 0, 1) := dq_get dd_M_dearest_0 (i := 19) rfl
theorem d_M_dearest_34 : decode mM_dearest.2.1 34 = .ok (.getfield 114, 3) := dq_get dd_M_dearest_0 (i := 20) rfl
theorem d_M_dearest_37 : decode mM_dearest.2.1 37 = .ok (.iload_n 2, 1) := dq_get dd_M_dearest_0 (i := 21) rfl
theorem d_M_dearest_38 : decode mM_dearest.2.1 38 = .ok (.iaload, 1) := dq_get dd_M_dearest_0 (i := 22) rfl
theorem d_M_dearest_39 : decode mM_dearest.2.1 39 = .ok (.aload_n 0, 1) := dq_get dd_M_dearest_0 (i := 23) rfl
theorem d_M_dearest_40 : decode mM_dearest.2.1 40 = .ok (.getfield 114, 3) := dq_get dd_M_dearest_0 (i := 24) rfl
theorem d_M_dearest_43 : decode mM_dearest.2.1 43 = .ok (.iload_n 1, 1) := dq_get dd_M_dearest_0 (i := 25) rfl
theorem d_M_dearest_44 : decode mM_dearest.2.1 44 = .ok (.iaload, 1) := dq_get dd_M_dearest_0 (i := 26) rfl
theorem d_M_dearest_45 : decode mM_dearest.2.1 45 = .ok (.if_icmp .le 5, 3) := dq_get dd_M_dearest_0 (i := 27) rfl
theorem d_M_dearest_48 : decode mM_dearest.2.1 48 = .ok (.iload_n 2, 1) := dq_get dd_M_dearest_0 (i := 28) rfl
theorem d_M_dearest_49 : decode mM_dearest.2.1 49 = .ok (.istore_n 1, 1) := dq_get dd_M_dearest_0 (i := 29) rfl
theorem d_M_dearest_50 : decode mM_dearest.2.1 50 = .ok (.iinc 2 1, 3) := dq_get dd_M_dearest_0 (i := 30) rfl
theorem d_M_dearest_53 : decode mM_dearest.2.1 53 = .ok (.goto (-41), 3) := dq_get dd_M_dearest_0 (i := 31) rfl
theorem dd_M_dearest_32 : dq mM_dearest.2.1 [(56, .iload_n 1, 1), (57, .ireturn, 1)] = true := by decide +kernel
theorem d_M_dearest_56 : decode mM_dearest.2.1 56 = .ok (.iload_n 1, 1) := dq_get dd_M_dearest_32 (i := 0) rfl
theorem d_M_dearest_57 : decode mM_dearest.2.1 57 = .ok (.ireturn, 1) := dq_get dd_M_dearest_32 (i := 1) rfl
theorem dd_M_lies_0 : dq mM_lies.2.1 [(0, .iload_n 1, 1), (1, .iconst 0, 1), (2, .aload_n 0, 1), (3, .getfield 426, 3), (6, .iconst 1, 1), (7, .isub, 1), (8, .invokestatic 429, 3), (11, .ifCond .eq 12, 3), (14, .aload_n 0, 1), (15, .getfield 108, 3), (18, .iload_n 1, 1), (19, .iaload, 1), (20, .goto 4, 3), (23, .iconst (-1), 1), (24, .ireturn, 1)] = true := by decide +kernel
theorem d_M_lies_0 : decode mM_lies.2.1 0 = .ok (.iload_n 1, 1) := dq_get dd_M_lies_0 (i := 0) rfl
theorem d_M_lies_1 : decode mM_lies.2.1 1 = .ok (.iconst 0, 1) := dq_get dd_M_lies_0 (i := 1) rfl
theorem d_M_lies_2 : decode mM_lies.2.1 2 = .ok (.aload_n 0, 1) := dq_get dd_M_lies_0 (i := 2) rfl
theorem d_M_lies_3 : decode mM_lies.2.1 3 = .ok (.getfield 426, 3) := dq_get dd_M_lies_0 (i := 3) rfl
theorem d_M_lies_6 : decode mM_lies.2.1 6 = .ok (.iconst 1, 1) := dq_get dd_M_lies_0 (i := 4) rfl
theorem d_M_lies_7 : decode mM_lies.2.1 7 = .ok (.isub, 1) := dq_get dd_M_lies_0 (i := 5) rfl
theorem d_M_lies_8 : decode mM_lies.2.1 8 = .ok (.invokestatic 429, 3) := dq_get dd_M_lies_0 (i := 6) rfl
theorem d_M_lies_11 : decode mM_lies.2.1 11 = .ok (.ifCond .eq 12, 3) := dq_get dd_M_lies_0 (i := 7) rfl
theorem d_M_lies_14 : decode mM_lies.2.1 14 = .ok (.aload_n 0, 1) := dq_get dd_M_lies_0 (i := 8) rfl
theorem d_M_lies_15 : decode mM_lies.2.1 15 = .ok (.getfield 108, 3) := dq_get dd_M_lies_0 (i := 9) rfl
theorem d_M_lies_18 : decode mM_lies.2.1 18 = .ok (.iload_n 1, 1) := dq_get dd_M_lies_0 (i := 10) rfl
theorem d_M_lies_19 : decode mM_lies.2.1 19 = .ok (.iaload, 1) := dq_get dd_M_lies_0 (i := 11) rfl
theorem d_M_lies_20 : decode mM_lies.2.1 20 = .ok (.goto 4, 3) := dq_get dd_M_lies_0 (i := 12) rfl
theorem d_M_lies_23 : decode mM_lies.2.1 23 = .ok (.iconst (-1), 1) := dq_get dd_M_lies_0 (i := 13) rfl
theorem d_M_lies_24 : decode mM_lies.2.1 24 = .ok (.ireturn, 1) := dq_get dd_M_lies_0 (i := 14) rfl
theorem dd_M_heard_0 : dq mM_heard.2.1 [(0, .aload_n 0, 1), (1, .iload_n 1, 1), (2, .invokevirtual 473, 3), (5, .ifCond .eq 22, 3), (8, .iload_n 2, 1), (9, .iconst 0, 1), (10, .bipush 87, 2), (12, .invokestatic 429, 3), (15, .ifCond .eq 12, 3), (18, .aload_n 0, 1), (19, .getfield 423, 3), (22, .bipush 30, 2), (24, .if_icmp .ne 5, 3), (27, .iconst (-1), 1), (28, .ireturn, 1), (29, .aload_n 0, 1), (30, .getfield 117, 3), (33, .aload_n 0, 1), (34, .getfield 423, 3), (37, .iload_n 1, 1), (38, .iastore, 1), (39, .aload_n 0, 1), (40, .getfield 120, 3), (43, .aload_n 0, 1), (44, .getfield 423, 3), (47, .iload_n 2, 1), (48, .iastore, 1), (49, .aload_n 0, 1), (50, .getfield 129, 3), (53, .aload_n 0, 1), (54, .getfield 423, 3), (57, .iload_n 3, 1)] = true := by decide +kernel
theorem d_M_heard_0 : decode mM_heard.2.1 0 = .ok (.aload_n 0, 1) := dq_get dd_M_heard_0 (i := 0) rfl
theorem d_M_heard_1 : decode mM_heard.2.1 1 = .ok (.iload_n 1, 1) := dq_get dd_M_heard_0 (i := 1) rfl
theorem d_M_heard_2 : decode mM_heard.2.1 2 = .ok (.invokevirtual 473, 3) := dq_get dd_M_heard_0 (i := 2) rfl
theorem d_M_heard_5 : decode mM_heard.2.1 5 = .ok (.ifCond .eq 22, 3) := dq_get dd_M_heard_0 (i := 3) rfl
theorem d_M_heard_8 : decode mM_heard.2.1 8 = .ok (.iload_n 2, 1) := dq_get dd_M_heard_0 (i := 4) rfl
theorem d_M_heard_9 : decode mM_heard.2.1 9 = .ok (.iconst 0, 1) := dq_get dd_M_heard_0 (i := 5) rfl
theorem d_M_heard_10 : decode mM_heard.2.1 10 = .ok (.bipush 87, 2) := dq_get dd_M_heard_0 (i := 6) rfl
theorem d_M_heard_12 : decode mM_heard.2.1 12 = .ok (.invokestatic 429, 3) := dq_get dd_M_heard_0 (i := 7) rfl
theorem d_M_heard_15 : decode mM_heard.2.1 15 = .ok (.ifCond .eq 12, 3) := dq_get dd_M_heard_0 (i := 8) rfl
theorem d_M_heard_18 : decode mM_heard.2.1 18 = .ok (.aload_n 0, 1) := dq_get dd_M_heard_0 (i := 9) rfl
theorem d_M_heard_19 : decode mM_heard.2.1 19 = .ok (.getfield 423, 3) := dq_get dd_M_heard_0 (i := 10) rfl
theorem d_M_heard_22 : decode mM_heard.2.1 22 = .ok (.bipush 30, 2) := dq_get dd_M_heard_0 (i := 11) rfl
theorem d_M_heard_24 : decode mM_heard.2.1 24 = .ok (.if_icmp .ne 5, 3) := dq_get dd_M_heard_0 (i := 12) rfl
theorem d_M_heard_27 : decode mM_heard.2.1 27 = .ok (.iconst (-1), 1) := dq_get dd_M_heard_0 (i := 13) rfl
theorem d_M_heard_28 : decode mM_heard.2.1 28 = .ok (.ireturn, 1) := dq_get dd_M_heard_0 (i := 14) rfl
theorem d_M_heard_29 : decode mM_heard.2.1 29 = .ok (.aload_n 0, 1) := dq_get dd_M_heard_0 (i := 15) rfl
theorem d_M_heard_30 : decode mM_heard.2.1 30 = .ok (.getfield 117, 3) := dq_get dd_M_heard_0 (i := 16) rfl
theorem d_M_heard_33 : decode mM_heard.2.1 33 = .ok (.aload_n 0, 1) := dq_get dd_M_heard_0 (i := 17) rfl
theorem d_M_heard_34 : decode mM_heard.2.1 34 = .ok (.getfield 423, 3) := dq_get dd_M_heard_0 (i := 18) rfl
theorem d_M_heard_37 : decode mM_heard.2.1 37 = .ok (.iload_n 1, 1) := dq_get dd_M_heard_0 (i := 19) rfl
theorem d_M_heard_38 : decode mM_heard.2.1 38 = .ok (.iastore, 1) := dq_get dd_M_heard_0 (i := 20) rfl
theorem d_M_heard_39 : decode mM_heard.2.1 39 = .ok (.aload_n 0, 1) := dq_get dd_M_heard_0 (i := 21) rfl
theorem d_M_heard_40 : decode mM_heard.2.1 40 = .ok (.getfield 120, 3) := dq_get dd_M_heard_0 (i := 22) rfl
theorem d_M_heard_43 : decode mM_heard.2.1 43 = .ok (.aload_n 0, 1) := dq_get dd_M_heard_0 (i := 23) rfl
theorem d_M_heard_44 : decode mM_heard.2.1 44 = .ok (.getfield 423, 3) := dq_get dd_M_heard_0 (i := 24) rfl
theorem d_M_heard_47 : decode mM_heard.2.1 47 = .ok (.iload_n 2, 1) := dq_get dd_M_heard_0 (i := 25) rfl
theorem d_M_heard_48 : decode mM_heard.2.1 48 = .ok (.iastore, 1) := dq_get dd_M_heard_0 (i := 26) rfl
theorem d_M_heard_49 : decode mM_heard.2.1 49 = .ok (.aload_n 0, 1) := dq_get dd_M_heard_0 (i := 27) rfl
theorem d_M_heard_50 : decode mM_heard.2.1 50 = .ok (.getfield 129, 3) := dq_get dd_M_heard_0 (i := 28) rfl
theorem d_M_heard_53 : decode mM_heard.2.1 53 = .ok (.aload_n 0, 1) := dq_get dd_M_heard_0 (i := 29) rfl
theorem d_M_heard_54 : decode mM_heard.2.1 54 = .ok (.getfield 423, 3) := dq_get dd_M_heard_0 (i := 30) rfl
theorem d_M_heard_57 : decode mM_heard.2.1 57 = .ok (.iload_n 3, 1) := dq_get dd_M_heard_0 (i := 31) rfl
theorem dd_M_heard_32 : dq mM_heard.2.1 [(58, .bastore, 1), (59, .aload_n 0, 1), (60, .getfield 123, 3), (63, .aload_n 0, 1), (64, .getfield 423, 3), (67, .aload_n 0, 1), (68, .getfield 539, 3), (71, .iastore, 1), (72, .aload_n 0, 1), (73, .getfield 126, 3), (76, .aload_n 0, 1), (77, .getfield 423, 3), (80, .iconst (-1), 1), (81, .iastore, 1), (82, .aload_n 0, 1), (83, .dup, 1), (84, .getfield 423, 3), (87, .iconst 1, 1), (88, .iadd, 1), (89, .putfield 423, 3), (92, .aload_n 0, 1), (93, .getfield 423, 3), (96, .iconst 1, 1), (97, .isub, 1), (98, .ireturn, 1)] = true := by decide +kernel
theorem d_M_heard_58 : decode mM_heard.2.1 58 = .ok (.bastore, 1) := dq_get dd_M_heard_32 (i := 0) rfl
theorem d_M_heard_59 : decode mM_heard.2.1 59 = .ok (.aload_n 0, 1) := dq_get dd_M_heard_32 (i := 1) rfl
theorem d_M_heard_60 : decode mM_heard.2.1 60 = .ok (.getfield 123, 3) := dq_get dd_M_heard_32 (i := 2) rfl
theorem d_M_heard_63 : decode mM_heard.2.1 63 = .ok (.aload_n 0, 1) := dq_get dd_M_heard_32 (i := 3) rfl
theorem d_M_heard_64 : decode mM_heard.2.1 64 = .ok (.getfield 423, 3) := dq_get dd_M_heard_32 (i := 4) rfl
theorem d_M_heard_67 : decode mM_heard.2.1 67 = .ok (.aload_n 0, 1) := dq_get dd_M_heard_32 (i := 5) rfl
theorem d_M_heard_68 : decode mM_heard.2.1 68 = .ok (.getfield 539, 3) := dq_get dd_M_heard_32 (i := 6) rfl
theorem d_M_heard_71 : decode mM_heard.2.1 71 = .ok (.iastore, 1) := dq_get dd_M_heard_32 (i := 7) rfl
theorem d_M_heard_72 : decode mM_heard.2.1 72 = .ok (.aload_n 0, 1) := dq_get dd_M_heard_32 (i := 8) rfl
theorem d_M_heard_73 : decode mM_heard.2.1 73 = .ok (.getfield 126, 3) := dq_get dd_M_heard_32 (i := 9) rfl
theorem d_M_heard_76 : decode mM_heard.2.1 76 = .ok (.aload_n 0, 1) := dq_get dd_M_heard_32 (i := 10) rfl
theorem d_M_heard_77 : decode mM_heard.2.1 77 = .ok (.getfield 423, 3) := dq_get dd_M_heard_32 (i := 11) rfl
theorem d_M_heard_80 : decode mM_heard.2.1 80 = .ok (.iconst (-1), 1) := dq_get dd_M_heard_32 (i := 12) rfl
theorem d_M_heard_81 : decode mM_heard.2.1 81 = .ok (.iastore, 1) := dq_get dd_M_heard_32 (i := 13) rfl
theorem d_M_heard_82 : decode mM_heard.2.1 82 = .ok (.aload_n 0, 1) := dq_get dd_M_heard_32 (i := 14) rfl
theorem d_M_heard_83 : decode mM_heard.2.1 83 = .ok (.dup, 1) := dq_get dd_M_heard_32 (i := 15) rfl
theorem d_M_heard_84 : decode mM_heard.2.1 84 = .ok (.getfield 423, 3) := dq_get dd_M_heard_32 (i := 16) rfl
theorem d_M_heard_87 : decode mM_heard.2.1 87 = .ok (.iconst 1, 1) := dq_get dd_M_heard_32 (i := 17) rfl
theorem d_M_heard_88 : decode mM_heard.2.1 88 = .ok (.iadd, 1) := dq_get dd_M_heard_32 (i := 18) rfl
theorem d_M_heard_89 : decode mM_heard.2.1 89 = .ok (.putfield 423, 3) := dq_get dd_M_heard_32 (i := 19) rfl
theorem d_M_heard_92 : decode mM_heard.2.1 92 = .ok (.aload_n 0, 1) := dq_get dd_M_heard_32 (i := 20) rfl
theorem d_M_heard_93 : decode mM_heard.2.1 93 = .ok (.getfield 423, 3) := dq_get dd_M_heard_32 (i := 21) rfl
theorem d_M_heard_96 : decode mM_heard.2.1 96 = .ok (.iconst 1, 1) := dq_get dd_M_heard_32 (i := 22) rfl
theorem d_M_heard_97 : decode mM_heard.2.1 97 = .ok (.isub, 1) := dq_get dd_M_heard_32 (i := 23) rfl
theorem d_M_heard_98 : decode mM_heard.2.1 98 = .ok (.ireturn, 1) := dq_get dd_M_heard_32 (i := 24) rfl
theorem dd_M_untell_0 : dq mM_untell.2.1 [(0, .iload_n 1, 1), (1, .iconst 0, 1), (2, .aload_n 0, 1), (3, .getfield 423, 3), (6, .iconst 1, 1), (7, .isub, 1), (8, .invokestatic 429, 3), (11, .ifCond .eq 12, 3), (14, .aload_n 0, 1), (15, .getfield 126, 3), (18, .iload_n 1, 1), (19, .iaload, 1), (20, .ifCond .lt 5, 3), (23, .iconst 0, 1), (24, .ireturn, 1), (25, .aload_n 0, 1), (26, .getfield 126, 3), (29, .iload_n 1, 1), (30, .aload_n 0, 1), (31, .getfield 539, 3), (34, .iastore, 1), (35, .iconst 1, 1), (36, .ireturn, 1)] = true := by decide +kernel
theorem d_M_untell_0 : decode mM_untell.2.1 0 = .ok (.iload_n 1, 1) := dq_get dd_M_untell_0 (i := 0) rfl
theorem d_M_untell_1 : decode mM_untell.2.1 1 = .ok (.iconst 0, 1) := dq_get dd_M_untell_0 (i := 1) rfl
theorem d_M_untell_2 : decode mM_untell.2.1 2 = .ok (.aload_n 0, 1) := dq_get dd_M_untell_0 (i := 2) rfl
theorem d_M_untell_3 : decode mM_untell.2.1 3 = .ok (.getfield 423, 3) := dq_get dd_M_untell_0 (i := 3) rfl
theorem d_M_untell_6 : decode mM_untell.2.1 6 = .ok (.iconst 1, 1) := dq_get dd_M_untell_0 (i := 4) rfl
theorem d_M_untell_7 : decode mM_untell.2.1 7 = .ok (.isub, 1) := dq_get dd_M_untell_0 (i := 5) rfl
theorem d_M_untell_8 : decode mM_untell.2.1 8 = .ok (.invokestatic 429, 3) := dq_get dd_M_untell_0 (i := 6) rfl
theorem d_M_untell_11 : decode mM_untell.2.1 11 = .ok (.ifCond .eq 12, 3) := dq_get dd_M_untell_0 (i := 7) rfl
theorem d_M_untell_14 : decode mM_untell.2.1 14 = .ok (.aload_n 0, 1) := dq_get dd_M_untell_0 (i := 8) rfl
theorem d_M_untell_15 : decode mM_untell.2.1 15 = .ok (.getfield 126, 3) := dq_get dd_M_untell_0 (i := 9) rfl
theorem d_M_untell_18 : decode mM_untell.2.1 18 = .ok (.iload_n 1, 1) := dq_get dd_M_untell_0 (i := 10) rfl
theorem d_M_untell_19 : decode mM_untell.2.1 19 = .ok (.iaload, 1) := dq_get dd_M_untell_0 (i := 11) rfl
theorem d_M_untell_20 : decode mM_untell.2.1 20 = .ok (.ifCond .lt 5, 3) := dq_get dd_M_untell_0 (i := 12) rfl
theorem d_M_untell_23 : decode mM_untell.2.1 23 = .ok (.iconst 0, 1) := dq_get dd_M_untell_0 (i := 13) rfl
theorem d_M_untell_24 : decode mM_untell.2.1 24 = .ok (.ireturn, 1) := dq_get dd_M_untell_0 (i := 14) rfl
theorem d_M_untell_25 : decode mM_untell.2.1 25 = .ok (.aload_n 0, 1) := dq_get dd_M_untell_0 (i := 15) rfl
theorem d_M_untell_26 : decode mM_untell.2.1 26 = .ok (.getfield 126, 3) := dq_get dd_M_untell_0 (i := 16) rfl
theorem d_M_untell_29 : decode mM_untell.2.1 29 = .ok (.iload_n 1, 1) := dq_get dd_M_untell_0 (i := 17) rfl
theorem d_M_untell_30 : decode mM_untell.2.1 30 = .ok (.aload_n 0, 1) := dq_get dd_M_untell_0 (i := 18) rfl
theorem d_M_untell_31 : decode mM_untell.2.1 31 = .ok (.getfield 539, 3) := dq_get dd_M_untell_0 (i := 19) rfl
theorem d_M_untell_34 : decode mM_untell.2.1 34 = .ok (.iastore, 1) := dq_get dd_M_untell_0 (i := 20) rfl
theorem d_M_untell_35 : decode mM_untell.2.1 35 = .ok (.iconst 1, 1) := dq_get dd_M_untell_0 (i := 21) rfl
theorem d_M_untell_36 : decode mM_untell.2.1 36 = .ok (.ireturn, 1) := dq_get dd_M_untell_0 (i := 22) rfl
theorem dd_M_later_0 : dq mM_later.2.1 [(0, .iload_n 1, 1), (1, .ifCond .lt 22, 3), (4, .iload_n 1, 1), (5, .sipush 1000, 3), (8, .if_icmp .gt 15, 3), (11, .aload_n 0, 1), (12, .getfield 539, 3), (15, .iload_n 1, 1), (16, .iadd, 1), (17, .ldc_w 542, 3), (20, .if_icmp .le 5, 3), (23, .iconst (-1), 1), (24, .ireturn, 1), (25, .aload_n 0, 1), (26, .dup, 1), (27, .getfield 539, 3), (30, .iload_n 1, 1), (31, .iadd, 1), (32, .putfield 539, 3), (35, .aload_n 0, 1), (36, .getfield 539, 3), (39, .ireturn, 1)] = true := by decide +kernel
theorem d_M_later_0 : decode mM_later.2.1 0 = .ok (.iload_n 1, 1) := dq_get dd_M_later_0 (i := 0) rfl
theorem d_M_later_1 : decode mM_later.2.1 1 = .ok (.ifCond .lt 22, 3) := dq_get dd_M_later_0 (i := 1) rfl
theorem d_M_later_4 : decode mM_later.2.1 4 = .ok (.iload_n 1, 1) := dq_get dd_M_later_0 (i := 2) rfl
theorem d_M_later_5 : decode mM_later.2.1 5 = .ok (.sipush 1000, 3) := dq_get dd_M_later_0 (i := 3) rfl
theorem d_M_later_8 : decode mM_later.2.1 8 = .ok (.if_icmp .gt 15, 3) := dq_get dd_M_later_0 (i := 4) rfl
theorem d_M_later_11 : decode mM_later.2.1 11 = .ok (.aload_n 0, 1) := dq_get dd_M_later_0 (i := 5) rfl
theorem d_M_later_12 : decode mM_later.2.1 12 = .ok (.getfield 539, 3) := dq_get dd_M_later_0 (i := 6) rfl
theorem d_M_later_15 : decode mM_later.2.1 15 = .ok (.iload_n 1, 1) := dq_get dd_M_later_0 (i := 7) rfl
theorem d_M_later_16 : decode mM_later.2.1 16 = .ok (.iadd, 1) := dq_get dd_M_later_0 (i := 8) rfl
theorem d_M_later_17 : decode mM_later.2.1 17 = .ok (.ldc_w 542, 3) := dq_get dd_M_later_0 (i := 9) rfl
theorem d_M_later_20 : decode mM_later.2.1 20 = .ok (.if_icmp .le 5, 3) := dq_get dd_M_later_0 (i := 10) rfl
theorem d_M_later_23 : decode mM_later.2.1 23 = .ok (.iconst (-1), 1) := dq_get dd_M_later_0 (i := 11) rfl
theorem d_M_later_24 : decode mM_later.2.1 24 = .ok (.ireturn, 1) := dq_get dd_M_later_0 (i := 12) rfl
theorem d_M_later_25 : decode mM_later.2.1 25 = .ok (.aload_n 0, 1) := dq_get dd_M_later_0 (i := 13) rfl
theorem d_M_later_26 : decode mM_later.2.1 26 = .ok (.dup, 1) := dq_get dd_M_later_0 (i := 14) rfl
theorem d_M_later_27 : decode mM_later.2.1 27 = .ok (.getfield 539, 3) := dq_get dd_M_later_0 (i := 15) rfl
theorem d_M_later_30 : decode mM_later.2.1 30 = .ok (.iload_n 1, 1) := dq_get dd_M_later_0 (i := 16) rfl
theorem d_M_later_31 : decode mM_later.2.1 31 = .ok (.iadd, 1) := dq_get dd_M_later_0 (i := 17) rfl
theorem d_M_later_32 : decode mM_later.2.1 32 = .ok (.putfield 539, 3) := dq_get dd_M_later_0 (i := 18) rfl
theorem d_M_later_35 : decode mM_later.2.1 35 = .ok (.aload_n 0, 1) := dq_get dd_M_later_0 (i := 19) rfl
theorem d_M_later_36 : decode mM_later.2.1 36 = .ok (.getfield 539, 3) := dq_get dd_M_later_0 (i := 20) rfl
theorem d_M_later_39 : decode mM_later.2.1 39 = .ok (.ireturn, 1) := dq_get dd_M_later_0 (i := 21) rfl
theorem dd_M_sets_0 : dq mM_sets.2.1 [(0, .aload_n 0, 1), (1, .iload_n 1, 1), (2, .invokevirtual 550, 3), (5, .ireturn, 1)] = true := by decide +kernel
theorem d_M_sets_0 : decode mM_sets.2.1 0 = .ok (.aload_n 0, 1) := dq_get dd_M_sets_0 (i := 0) rfl
theorem d_M_sets_1 : decode mM_sets.2.1 1 = .ok (.iload_n 1, 1) := dq_get dd_M_sets_0 (i := 1) rfl
theorem d_M_sets_2 : decode mM_sets.2.1 2 = .ok (.invokevirtual 550, 3) := dq_get dd_M_sets_0 (i := 2) rfl
theorem d_M_sets_5 : decode mM_sets.2.1 5 = .ok (.ireturn, 1) := dq_get dd_M_sets_0 (i := 3) rfl
theorem dd_M_laySets_0 : dq mM_laySets.2.1 [(0, .iconst 0, 1), (1, .istore_n 2, 1), (2, .iconst 0, 1), (3, .istore_n 3, 1), (4, .iload_n 3, 1), (5, .aload_n 0, 1), (6, .getfield 423, 3), (9, .if_icmp .ge 20, 3), (12, .aload_n 0, 1), (13, .getfield 133, 3), (16, .iload_n 3, 1), (17, .aload_n 0, 1), (18, .iload_n 3, 1), (19, .invokevirtual 543, 3), (22, .iastore, 1), (23, .iinc 3 1, 3), (26, .goto (-22), 3), (29, .iconst 0, 1), (30, .istore_n 3, 1), (31, .iload_n 3, 1), (32, .bipush 10, 2), (34, .if_icmp .ge 16, 3), (37, .aload_n 0, 1), (38, .getfield 136, 3), (41, .iload_n 3, 1), (42, .iconst 0, 1), (43, .iastore, 1), (44, .iinc 3 1, 3), (47, .goto (-16), 3), (50, .iconst 0, 1), (51, .istore_n 3, 1), (52, .iload_n 3, 1)] = true := by decide +kernel
theorem d_M_laySets_0 : decode mM_laySets.2.1 0 = .ok (.iconst 0, 1) := dq_get dd_M_laySets_0 (i := 0) rfl
theorem d_M_laySets_1 : decode mM_laySets.2.1 1 = .ok (.istore_n 2, 1) := dq_get dd_M_laySets_0 (i := 1) rfl
theorem d_M_laySets_2 : decode mM_laySets.2.1 2 = .ok (.iconst 0, 1) := dq_get dd_M_laySets_0 (i := 2) rfl
theorem d_M_laySets_3 : decode mM_laySets.2.1 3 = .ok (.istore_n 3, 1) := dq_get dd_M_laySets_0 (i := 3) rfl
theorem d_M_laySets_4 : decode mM_laySets.2.1 4 = .ok (.iload_n 3, 1) := dq_get dd_M_laySets_0 (i := 4) rfl
theorem d_M_laySets_5 : decode mM_laySets.2.1 5 = .ok (.aload_n 0, 1) := dq_get dd_M_laySets_0 (i := 5) rfl
theorem d_M_laySets_6 : decode mM_laySets.2.1 6 = .ok (.getfield 423, 3) := dq_get dd_M_laySets_0 (i := 6) rfl
theorem d_M_laySets_9 : decode mM_laySets.2.1 9 = .ok (.if_icmp .ge 20, 3) := dq_get dd_M_laySets_0 (i := 7) rfl
theorem d_M_laySets_12 : decode mM_laySets.2.1 12 = .ok (.aload_n 0, 1) := dq_get dd_M_laySets_0 (i := 8) rfl
theorem d_M_laySets_13 : decode mM_laySets.2.1 13 = .ok (.getfield 133, 3) := dq_get dd_M_laySets_0 (i := 9) rfl
theorem d_M_laySets_16 : decode mM_laySets.2.1 16 = .ok (.iload_n 3, 1) := dq_get dd_M_laySets_0 (i := 10) rfl
theorem d_M_laySets_17 : decode mM_laySets.2.1 17 = .ok (.aload_n 0, 1) := dq_get dd_M_laySets_0 (i := 11) rfl
theorem d_M_laySets_18 : decode mM_laySets.2.1 18 = .ok (.iload_n 3, 1) := dq_get dd_M_laySets_0 (i := 12) rfl
theorem d_M_laySets_19 : decode mM_laySets.2.1 19 = .ok (.invokevirtual 543, 3) := dq_get dd_M_laySets_0 (i := 13) rfl
theorem d_M_laySets_22 : decode mM_laySets.2.1 22 = .ok (.iastore, 1) := dq_get dd_M_laySets_0 (i := 14) rfl
theorem d_M_laySets_23 : decode mM_laySets.2.1 23 = .ok (.iinc 3 1, 3) := dq_get dd_M_laySets_0 (i := 15) rfl
theorem d_M_laySets_26 : decode mM_laySets.2.1 26 = .ok (.goto (-22), 3) := dq_get dd_M_laySets_0 (i := 16) rfl
theorem d_M_laySets_29 : decode mM_laySets.2.1 29 = .ok (.iconst 0, 1) := dq_get dd_M_laySets_0 (i := 17) rfl
theorem d_M_laySets_30 : decode mM_laySets.2.1 30 = .ok (.istore_n 3, 1) := dq_get dd_M_laySets_0 (i := 18) rfl
theorem d_M_laySets_31 : decode mM_laySets.2.1 31 = .ok (.iload_n 3, 1) := dq_get dd_M_laySets_0 (i := 19) rfl
theorem d_M_laySets_32 : decode mM_laySets.2.1 32 = .ok (.bipush 10, 2) := dq_get dd_M_laySets_0 (i := 20) rfl
theorem d_M_laySets_34 : decode mM_laySets.2.1 34 = .ok (.if_icmp .ge 16, 3) := dq_get dd_M_laySets_0 (i := 21) rfl
theorem d_M_laySets_37 : decode mM_laySets.2.1 37 = .ok (.aload_n 0, 1) := dq_get dd_M_laySets_0 (i := 22) rfl
theorem d_M_laySets_38 : decode mM_laySets.2.1 38 = .ok (.getfield 136, 3) := dq_get dd_M_laySets_0 (i := 23) rfl
theorem d_M_laySets_41 : decode mM_laySets.2.1 41 = .ok (.iload_n 3, 1) := dq_get dd_M_laySets_0 (i := 24) rfl
theorem d_M_laySets_42 : decode mM_laySets.2.1 42 = .ok (.iconst 0, 1) := dq_get dd_M_laySets_0 (i := 25) rfl
theorem d_M_laySets_43 : decode mM_laySets.2.1 43 = .ok (.iastore, 1) := dq_get dd_M_laySets_0 (i := 26) rfl
theorem d_M_laySets_44 : decode mM_laySets.2.1 44 = .ok (.iinc 3 1, 3) := dq_get dd_M_laySets_0 (i := 27) rfl
theorem d_M_laySets_47 : decode mM_laySets.2.1 47 = .ok (.goto (-16), 3) := dq_get dd_M_laySets_0 (i := 28) rfl
theorem d_M_laySets_50 : decode mM_laySets.2.1 50 = .ok (.iconst 0, 1) := dq_get dd_M_laySets_0 (i := 29) rfl
theorem d_M_laySets_51 : decode mM_laySets.2.1 51 = .ok (.istore_n 3, 1) := dq_get dd_M_laySets_0 (i := 30) rfl
theorem d_M_laySets_52 : decode mM_laySets.2.1 52 = .ok (.iload_n 3, 1) := dq_get dd_M_laySets_0 (i := 31) rfl
theorem dd_M_laySets_32 : dq mM_laySets.2.1 [(53, .iconst 1, 1), (54, .aload_n 0, 1), (55, .getfield 322, 3), (58, .ishl, 1), (59, .if_icmp .ge 124, 3), (62, .iconst 1, 1), (63, .istore 4, 2), (65, .iconst 0, 1), (66, .istore 5, 2), (68, .iload 5, 2), (70, .aload_n 0, 1), (71, .getfield 423, 3), (74, .if_icmp .ge 58, 3), (77, .iload 4, 2), (79, .ifCond .eq 53, 3), (82, .aload_n 0, 1), (83, .iload 5, 2), (85, .iload_n 1, 1), (86, .invokevirtual 546, 3), (89, .ifCond .eq 30, 3), (92, .iload_n 3, 1), (93, .aload_n 0, 1), (94, .getfield 133, 3), (97, .iload 5, 2), (99, .iaload, 1), (100, .iand, 1), (101, .ifCond .eq 7, 3), (104, .iconst 1, 1), (105, .goto 4, 3), (108, .iconst 0, 1), (109, .aload_n 0, 1), (110, .getfield 129, 3)] = true := by decide +kernel
theorem d_M_laySets_53 : decode mM_laySets.2.1 53 = .ok (.iconst 1, 1) := dq_get dd_M_laySets_32 (i := 0) rfl
theorem d_M_laySets_54 : decode mM_laySets.2.1 54 = .ok (.aload_n 0, 1) := dq_get dd_M_laySets_32 (i := 1) rfl
theorem d_M_laySets_55 : decode mM_laySets.2.1 55 = .ok (.getfield 322, 3) := dq_get dd_M_laySets_32 (i := 2) rfl
theorem d_M_laySets_58 : decode mM_laySets.2.1 58 = .ok (.ishl, 1) := dq_get dd_M_laySets_32 (i := 3) rfl
theorem d_M_laySets_59 : decode mM_laySets.2.1 59 = .ok (.if_icmp .ge 124, 3) := dq_get dd_M_laySets_32 (i := 4) rfl
theorem d_M_laySets_62 : decode mM_laySets.2.1 62 = .ok (.iconst 1, 1) := dq_get dd_M_laySets_32 (i := 5) rfl
theorem d_M_laySets_63 : decode mM_laySets.2.1 63 = .ok (.istore 4, 2) := dq_get dd_M_laySets_32 (i := 6) rfl
theorem d_M_laySets_65 : decode mM_laySets.2.1 65 = .ok (.iconst 0, 1) := dq_get dd_M_laySets_32 (i := 7) rfl
theorem d_M_laySets_66 : decode mM_laySets.2.1 66 = .ok (.istore 5, 2) := dq_get dd_M_laySets_32 (i := 8) rfl
theorem d_M_laySets_68 : decode mM_laySets.2.1 68 = .ok (.iload 5, 2) := dq_get dd_M_laySets_32 (i := 9) rfl
theorem d_M_laySets_70 : decode mM_laySets.2.1 70 = .ok (.aload_n 0, 1) := dq_get dd_M_laySets_32 (i := 10) rfl
theorem d_M_laySets_71 : decode mM_laySets.2.1 71 = .ok (.getfield 423, 3) := dq_get dd_M_laySets_32 (i := 11) rfl
theorem d_M_laySets_74 : decode mM_laySets.2.1 74 = .ok (.if_icmp .ge 58, 3) := dq_get dd_M_laySets_32 (i := 12) rfl
theorem d_M_laySets_77 : decode mM_laySets.2.1 77 = .ok (.iload 4, 2) := dq_get dd_M_laySets_32 (i := 13) rfl
theorem d_M_laySets_79 : decode mM_laySets.2.1 79 = .ok (.ifCond .eq 53, 3) := dq_get dd_M_laySets_32 (i := 14) rfl
theorem d_M_laySets_82 : decode mM_laySets.2.1 82 = .ok (.aload_n 0, 1) := dq_get dd_M_laySets_32 (i := 15) rfl
theorem d_M_laySets_83 : decode mM_laySets.2.1 83 = .ok (.iload 5, 2) := dq_get dd_M_laySets_32 (i := 16) rfl
theorem d_M_laySets_85 : decode mM_laySets.2.1 85 = .ok (.iload_n 1, 1) := dq_get dd_M_laySets_32 (i := 17) rfl
theorem d_M_laySets_86 : decode mM_laySets.2.1 86 = .ok (.invokevirtual 546, 3) := dq_get dd_M_laySets_32 (i := 18) rfl
theorem d_M_laySets_89 : decode mM_laySets.2.1 89 = .ok (.ifCond .eq 30, 3) := dq_get dd_M_laySets_32 (i := 19) rfl
theorem d_M_laySets_92 : decode mM_laySets.2.1 92 = .ok (.iload_n 3, 1) := dq_get dd_M_laySets_32 (i := 20) rfl
theorem d_M_laySets_93 : decode mM_laySets.2.1 93 = .ok (.aload_n 0, 1) := dq_get dd_M_laySets_32 (i := 21) rfl
theorem d_M_laySets_94 : decode mM_laySets.2.1 94 = .ok (.getfield 133, 3) := dq_get dd_M_laySets_32 (i := 22) rfl
theorem d_M_laySets_97 : decode mM_laySets.2.1 97 = .ok (.iload 5, 2) := dq_get dd_M_laySets_32 (i := 23) rfl
theorem d_M_laySets_99 : decode mM_laySets.2.1 99 = .ok (.iaload, 1) := dq_get dd_M_laySets_32 (i := 24) rfl
theorem d_M_laySets_100 : decode mM_laySets.2.1 100 = .ok (.iand, 1) := dq_get dd_M_laySets_32 (i := 25) rfl
theorem d_M_laySets_101 : decode mM_laySets.2.1 101 = .ok (.ifCond .eq 7, 3) := dq_get dd_M_laySets_32 (i := 26) rfl
theorem d_M_laySets_104 : decode mM_laySets.2.1 104 = .ok (.iconst 1, 1) := dq_get dd_M_laySets_32 (i := 27) rfl
theorem d_M_laySets_105 : decode mM_laySets.2.1 105 = .ok (.goto 4, 3) := dq_get dd_M_laySets_32 (i := 28) rfl
theorem d_M_laySets_108 : decode mM_laySets.2.1 108 = .ok (.iconst 0, 1) := dq_get dd_M_laySets_32 (i := 29) rfl
theorem d_M_laySets_109 : decode mM_laySets.2.1 109 = .ok (.aload_n 0, 1) := dq_get dd_M_laySets_32 (i := 30) rfl
theorem d_M_laySets_110 : decode mM_laySets.2.1 110 = .ok (.getfield 129, 3) := dq_get dd_M_laySets_32 (i := 31) rfl
theorem dd_M_laySets_64 : dq mM_laySets.2.1 [(113, .iload 5, 2), (115, .baload, 1), (116, .if_icmp .ne 7, 3), (119, .iconst 1, 1), (120, .goto 4, 3), (123, .iconst 0, 1), (124, .istore 4, 2), (126, .iinc 5 1, 3), (129, .goto (-61), 3), (132, .iload 4, 2), (134, .ifCond .ne 6, 3), (137, .goto 40, 3), (140, .iinc 2 1, 3), (143, .iconst 0, 1), (144, .istore 5, 2), (146, .iload 5, 2), (148, .aload_n 0, 1), (149, .getfield 322, 3), (152, .if_icmp .ge 25, 3), (155, .aload_n 0, 1), (156, .getfield 136, 3), (159, .iload 5, 2), (161, .dup2, 1), (162, .iaload, 1), (163, .iload_n 3, 1), (164, .iload 5, 2), (166, .ishr, 1), (167, .iconst 1, 1), (168, .iand, 1), (169, .iadd, 1), (170, .iastore, 1), (171, .iinc 5 1, 3)] = true := by decide +kernel
theorem d_M_laySets_113 : decode mM_laySets.2.1 113 = .ok (.iload 5, 2) := dq_get dd_M_laySets_64 (i := 0) rfl
theorem d_M_laySets_115 : decode mM_laySets.2.1 115 = .ok (.baload, 1) := dq_get dd_M_laySets_64 (i := 1) rfl
theorem d_M_laySets_116 : decode mM_laySets.2.1 116 = .ok (.if_icmp .ne 7, 3) := dq_get dd_M_laySets_64 (i := 2) rfl
theorem d_M_laySets_119 : decode mM_laySets.2.1 119 = .ok (.iconst 1, 1) := dq_get dd_M_laySets_64 (i := 3) rfl
theorem d_M_laySets_120 : decode mM_laySets.2.1 120 = .ok (.goto 4, 3) := dq_get dd_M_laySets_64 (i := 4) rfl
theorem d_M_laySets_123 : decode mM_laySets.2.1 123 = .ok (.iconst 0, 1) := dq_get dd_M_laySets_64 (i := 5) rfl
theorem d_M_laySets_124 : decode mM_laySets.2.1 124 = .ok (.istore 4, 2) := dq_get dd_M_laySets_64 (i := 6) rfl
theorem d_M_laySets_126 : decode mM_laySets.2.1 126 = .ok (.iinc 5 1, 3) := dq_get dd_M_laySets_64 (i := 7) rfl
theorem d_M_laySets_129 : decode mM_laySets.2.1 129 = .ok (.goto (-61), 3) := dq_get dd_M_laySets_64 (i := 8) rfl
theorem d_M_laySets_132 : decode mM_laySets.2.1 132 = .ok (.iload 4, 2) := dq_get dd_M_laySets_64 (i := 9) rfl
theorem d_M_laySets_134 : decode mM_laySets.2.1 134 = .ok (.ifCond .ne 6, 3) := dq_get dd_M_laySets_64 (i := 10) rfl
theorem d_M_laySets_137 : decode mM_laySets.2.1 137 = .ok (.goto 40, 3) := dq_get dd_M_laySets_64 (i := 11) rfl
theorem d_M_laySets_140 : decode mM_laySets.2.1 140 = .ok (.iinc 2 1, 3) := dq_get dd_M_laySets_64 (i := 12) rfl
theorem d_M_laySets_143 : decode mM_laySets.2.1 143 = .ok (.iconst 0, 1) := dq_get dd_M_laySets_64 (i := 13) rfl
theorem d_M_laySets_144 : decode mM_laySets.2.1 144 = .ok (.istore 5, 2) := dq_get dd_M_laySets_64 (i := 14) rfl
theorem d_M_laySets_146 : decode mM_laySets.2.1 146 = .ok (.iload 5, 2) := dq_get dd_M_laySets_64 (i := 15) rfl
theorem d_M_laySets_148 : decode mM_laySets.2.1 148 = .ok (.aload_n 0, 1) := dq_get dd_M_laySets_64 (i := 16) rfl
theorem d_M_laySets_149 : decode mM_laySets.2.1 149 = .ok (.getfield 322, 3) := dq_get dd_M_laySets_64 (i := 17) rfl
theorem d_M_laySets_152 : decode mM_laySets.2.1 152 = .ok (.if_icmp .ge 25, 3) := dq_get dd_M_laySets_64 (i := 18) rfl
theorem d_M_laySets_155 : decode mM_laySets.2.1 155 = .ok (.aload_n 0, 1) := dq_get dd_M_laySets_64 (i := 19) rfl
theorem d_M_laySets_156 : decode mM_laySets.2.1 156 = .ok (.getfield 136, 3) := dq_get dd_M_laySets_64 (i := 20) rfl
theorem d_M_laySets_159 : decode mM_laySets.2.1 159 = .ok (.iload 5, 2) := dq_get dd_M_laySets_64 (i := 21) rfl
theorem d_M_laySets_161 : decode mM_laySets.2.1 161 = .ok (.dup2, 1) := dq_get dd_M_laySets_64 (i := 22) rfl
theorem d_M_laySets_162 : decode mM_laySets.2.1 162 = .ok (.iaload, 1) := dq_get dd_M_laySets_64 (i := 23) rfl
theorem d_M_laySets_163 : decode mM_laySets.2.1 163 = .ok (.iload_n 3, 1) := dq_get dd_M_laySets_64 (i := 24) rfl
theorem d_M_laySets_164 : decode mM_laySets.2.1 164 = .ok (.iload 5, 2) := dq_get dd_M_laySets_64 (i := 25) rfl
theorem d_M_laySets_166 : decode mM_laySets.2.1 166 = .ok (.ishr, 1) := dq_get dd_M_laySets_64 (i := 26) rfl
theorem d_M_laySets_167 : decode mM_laySets.2.1 167 = .ok (.iconst 1, 1) := dq_get dd_M_laySets_64 (i := 27) rfl
theorem d_M_laySets_168 : decode mM_laySets.2.1 168 = .ok (.iand, 1) := dq_get dd_M_laySets_64 (i := 28) rfl
theorem d_M_laySets_169 : decode mM_laySets.2.1 169 = .ok (.iadd, 1) := dq_get dd_M_laySets_64 (i := 29) rfl
theorem d_M_laySets_170 : decode mM_laySets.2.1 170 = .ok (.iastore, 1) := dq_get dd_M_laySets_64 (i := 30) rfl
theorem d_M_laySets_171 : decode mM_laySets.2.1 171 = .ok (.iinc 5 1, 3) := dq_get dd_M_laySets_64 (i := 31) rfl
theorem dd_M_laySets_96 : dq mM_laySets.2.1 [(174, .goto (-28), 3), (177, .iinc 3 1, 3), (180, .goto (-128), 3), (183, .iload_n 2, 1), (184, .ireturn, 1)] = true := by decide +kernel
theorem d_M_laySets_174 : decode mM_laySets.2.1 174 = .ok (.goto (-28), 3) := dq_get dd_M_laySets_96 (i := 0) rfl
theorem d_M_laySets_177 : decode mM_laySets.2.1 177 = .ok (.iinc 3 1, 3) := dq_get dd_M_laySets_96 (i := 1) rfl
theorem d_M_laySets_180 : decode mM_laySets.2.1 180 = .ok (.goto (-128), 3) := dq_get dd_M_laySets_96 (i := 2) rfl
theorem d_M_laySets_183 : decode mM_laySets.2.1 183 = .ok (.iload_n 2, 1) := dq_get dd_M_laySets_96 (i := 3) rfl
theorem d_M_laySets_184 : decode mM_laySets.2.1 184 = .ok (.ireturn, 1) := dq_get dd_M_laySets_96 (i := 4) rfl
theorem dd_M_sayersOf_0 : dq mM_sayersOf.2.1 [(0, .iconst 0, 1), (1, .istore_n 2, 1), (2, .iconst 0, 1), (3, .istore_n 3, 1), (4, .iload_n 3, 1), (5, .aload_n 0, 1), (6, .getfield 322, 3), (9, .if_icmp .ge 74, 3), (12, .iload_n 2, 1), (13, .aload_n 0, 1), (14, .getfield 69, 3), (17, .iload_n 3, 1), (18, .iaload, 1), (19, .aload_n 0, 1), (20, .getfield 120, 3), (23, .iload_n 1, 1), (24, .iaload, 1), (25, .if_icmp .ne 44, 3), (28, .aload_n 0, 1), (29, .getfield 66, 3), (32, .iload_n 3, 1), (33, .iaload, 1), (34, .aload_n 0, 1), (35, .getfield 117, 3), (38, .iload_n 1, 1), (39, .iaload, 1), (40, .if_icmp .gt 29, 3), (43, .aload_n 0, 1), (44, .getfield 117, 3), (47, .iload_n 1, 1), (48, .iaload, 1), (49, .aload_n 0, 1)] = true := by decide +kernel
theorem d_M_sayersOf_0 : decode mM_sayersOf.2.1 0 = .ok (.iconst 0, 1) := dq_get dd_M_sayersOf_0 (i := 0) rfl
theorem d_M_sayersOf_1 : decode mM_sayersOf.2.1 1 = .ok (.istore_n 2, 1) := dq_get dd_M_sayersOf_0 (i := 1) rfl
theorem d_M_sayersOf_2 : decode mM_sayersOf.2.1 2 = .ok (.iconst 0, 1) := dq_get dd_M_sayersOf_0 (i := 2) rfl
theorem d_M_sayersOf_3 : decode mM_sayersOf.2.1 3 = .ok (.istore_n 3, 1) := dq_get dd_M_sayersOf_0 (i := 3) rfl
theorem d_M_sayersOf_4 : decode mM_sayersOf.2.1 4 = .ok (.iload_n 3, 1) := dq_get dd_M_sayersOf_0 (i := 4) rfl
theorem d_M_sayersOf_5 : decode mM_sayersOf.2.1 5 = .ok (.aload_n 0, 1) := dq_get dd_M_sayersOf_0 (i := 5) rfl
theorem d_M_sayersOf_6 : decode mM_sayersOf.2.1 6 = .ok (.getfield 322, 3) := dq_get dd_M_sayersOf_0 (i := 6) rfl
theorem d_M_sayersOf_9 : decode mM_sayersOf.2.1 9 = .ok (.if_icmp .ge 74, 3) := dq_get dd_M_sayersOf_0 (i := 7) rfl
theorem d_M_sayersOf_12 : decode mM_sayersOf.2.1 12 = .ok (.iload_n 2, 1) := dq_get dd_M_sayersOf_0 (i := 8) rfl
theorem d_M_sayersOf_13 : decode mM_sayersOf.2.1 13 = .ok (.aload_n 0, 1) := dq_get dd_M_sayersOf_0 (i := 9) rfl
theorem d_M_sayersOf_14 : decode mM_sayersOf.2.1 14 = .ok (.getfield 69, 3) := dq_get dd_M_sayersOf_0 (i := 10) rfl
theorem d_M_sayersOf_17 : decode mM_sayersOf.2.1 17 = .ok (.iload_n 3, 1) := dq_get dd_M_sayersOf_0 (i := 11) rfl
theorem d_M_sayersOf_18 : decode mM_sayersOf.2.1 18 = .ok (.iaload, 1) := dq_get dd_M_sayersOf_0 (i := 12) rfl
theorem d_M_sayersOf_19 : decode mM_sayersOf.2.1 19 = .ok (.aload_n 0, 1) := dq_get dd_M_sayersOf_0 (i := 13) rfl
theorem d_M_sayersOf_20 : decode mM_sayersOf.2.1 20 = .ok (.getfield 120, 3) := dq_get dd_M_sayersOf_0 (i := 14) rfl
theorem d_M_sayersOf_23 : decode mM_sayersOf.2.1 23 = .ok (.iload_n 1, 1) := dq_get dd_M_sayersOf_0 (i := 15) rfl
theorem d_M_sayersOf_24 : decode mM_sayersOf.2.1 24 = .ok (.iaload, 1) := dq_get dd_M_sayersOf_0 (i := 16) rfl
theorem d_M_sayersOf_25 : decode mM_sayersOf.2.1 25 = .ok (.if_icmp .ne 44, 3) := dq_get dd_M_sayersOf_0 (i := 17) rfl
theorem d_M_sayersOf_28 : decode mM_sayersOf.2.1 28 = .ok (.aload_n 0, 1) := dq_get dd_M_sayersOf_0 (i := 18) rfl
theorem d_M_sayersOf_29 : decode mM_sayersOf.2.1 29 = .ok (.getfield 66, 3) := dq_get dd_M_sayersOf_0 (i := 19) rfl
theorem d_M_sayersOf_32 : decode mM_sayersOf.2.1 32 = .ok (.iload_n 3, 1) := dq_get dd_M_sayersOf_0 (i := 20) rfl
theorem d_M_sayersOf_33 : decode mM_sayersOf.2.1 33 = .ok (.iaload, 1) := dq_get dd_M_sayersOf_0 (i := 21) rfl
theorem d_M_sayersOf_34 : decode mM_sayersOf.2.1 34 = .ok (.aload_n 0, 1) := dq_get dd_M_sayersOf_0 (i := 22) rfl
theorem d_M_sayersOf_35 : decode mM_sayersOf.2.1 35 = .ok (.getfield 117, 3) := dq_get dd_M_sayersOf_0 (i := 23) rfl
theorem d_M_sayersOf_38 : decode mM_sayersOf.2.1 38 = .ok (.iload_n 1, 1) := dq_get dd_M_sayersOf_0 (i := 24) rfl
theorem d_M_sayersOf_39 : decode mM_sayersOf.2.1 39 = .ok (.iaload, 1) := dq_get dd_M_sayersOf_0 (i := 25) rfl
theorem d_M_sayersOf_40 : decode mM_sayersOf.2.1 40 = .ok (.if_icmp .gt 29, 3) := dq_get dd_M_sayersOf_0 (i := 26) rfl
theorem d_M_sayersOf_43 : decode mM_sayersOf.2.1 43 = .ok (.aload_n 0, 1) := dq_get dd_M_sayersOf_0 (i := 27) rfl
theorem d_M_sayersOf_44 : decode mM_sayersOf.2.1 44 = .ok (.getfield 117, 3) := dq_get dd_M_sayersOf_0 (i := 28) rfl
theorem d_M_sayersOf_47 : decode mM_sayersOf.2.1 47 = .ok (.iload_n 1, 1) := dq_get dd_M_sayersOf_0 (i := 29) rfl
theorem d_M_sayersOf_48 : decode mM_sayersOf.2.1 48 = .ok (.iaload, 1) := dq_get dd_M_sayersOf_0 (i := 30) rfl
theorem d_M_sayersOf_49 : decode mM_sayersOf.2.1 49 = .ok (.aload_n 0, 1) := dq_get dd_M_sayersOf_0 (i := 31) rfl
theorem dd_M_sayersOf_32 : dq mM_sayersOf.2.1 [(50, .getfield 66, 3), (53, .iload_n 3, 1), (54, .iaload, 1), (55, .aload_n 0, 1), (56, .getfield 72, 3), (59, .iload_n 3, 1), (60, .iaload, 1), (61, .iadd, 1), (62, .if_icmp .ge 7, 3), (65, .iconst 1, 1), (66, .goto 4, 3), (69, .iconst 0, 1), (70, .invokestatic 318, 3), (73, .iload_n 3, 1), (74, .ishl, 1), (75, .ior, 1), (76, .istore_n 2, 1), (77, .iinc 3 1, 3), (80, .goto (-76), 3), (83, .iload_n 2, 1), (84, .ireturn, 1)] = true := by decide +kernel
theorem d_M_sayersOf_50 : decode mM_sayersOf.2.1 50 = .ok (.getfield 66, 3) := dq_get dd_M_sayersOf_32 (i := 0) rfl
theorem d_M_sayersOf_53 : decode mM_sayersOf.2.1 53 = .ok (.iload_n 3, 1) := dq_get dd_M_sayersOf_32 (i := 1) rfl
theorem d_M_sayersOf_54 : decode mM_sayersOf.2.1 54 = .ok (.iaload, 1) := dq_get dd_M_sayersOf_32 (i := 2) rfl
theorem d_M_sayersOf_55 : decode mM_sayersOf.2.1 55 = .ok (.aload_n 0, 1) := dq_get dd_M_sayersOf_32 (i := 3) rfl
theorem d_M_sayersOf_56 : decode mM_sayersOf.2.1 56 = .ok (.getfield 72, 3) := dq_get dd_M_sayersOf_32 (i := 4) rfl
theorem d_M_sayersOf_59 : decode mM_sayersOf.2.1 59 = .ok (.iload_n 3, 1) := dq_get dd_M_sayersOf_32 (i := 5) rfl
theorem d_M_sayersOf_60 : decode mM_sayersOf.2.1 60 = .ok (.iaload, 1) := dq_get dd_M_sayersOf_32 (i := 6) rfl
theorem d_M_sayersOf_61 : decode mM_sayersOf.2.1 61 = .ok (.iadd, 1) := dq_get dd_M_sayersOf_32 (i := 7) rfl
theorem d_M_sayersOf_62 : decode mM_sayersOf.2.1 62 = .ok (.if_icmp .ge 7, 3) := dq_get dd_M_sayersOf_32 (i := 8) rfl
theorem d_M_sayersOf_65 : decode mM_sayersOf.2.1 65 = .ok (.iconst 1, 1) := dq_get dd_M_sayersOf_32 (i := 9) rfl
theorem d_M_sayersOf_66 : decode mM_sayersOf.2.1 66 = .ok (.goto 4, 3) := dq_get dd_M_sayersOf_32 (i := 10) rfl
theorem d_M_sayersOf_69 : decode mM_sayersOf.2.1 69 = .ok (.iconst 0, 1) := dq_get dd_M_sayersOf_32 (i := 11) rfl
theorem d_M_sayersOf_70 : decode mM_sayersOf.2.1 70 = .ok (.invokestatic 318, 3) := dq_get dd_M_sayersOf_32 (i := 12) rfl
theorem d_M_sayersOf_73 : decode mM_sayersOf.2.1 73 = .ok (.iload_n 3, 1) := dq_get dd_M_sayersOf_32 (i := 13) rfl
theorem d_M_sayersOf_74 : decode mM_sayersOf.2.1 74 = .ok (.ishl, 1) := dq_get dd_M_sayersOf_32 (i := 14) rfl
theorem d_M_sayersOf_75 : decode mM_sayersOf.2.1 75 = .ok (.ior, 1) := dq_get dd_M_sayersOf_32 (i := 15) rfl
theorem d_M_sayersOf_76 : decode mM_sayersOf.2.1 76 = .ok (.istore_n 2, 1) := dq_get dd_M_sayersOf_32 (i := 16) rfl
theorem d_M_sayersOf_77 : decode mM_sayersOf.2.1 77 = .ok (.iinc 3 1, 3) := dq_get dd_M_sayersOf_32 (i := 17) rfl
theorem d_M_sayersOf_80 : decode mM_sayersOf.2.1 80 = .ok (.goto (-76), 3) := dq_get dd_M_sayersOf_32 (i := 18) rfl
theorem d_M_sayersOf_83 : decode mM_sayersOf.2.1 83 = .ok (.iload_n 2, 1) := dq_get dd_M_sayersOf_32 (i := 19) rfl
theorem d_M_sayersOf_84 : decode mM_sayersOf.2.1 84 = .ok (.ireturn, 1) := dq_get dd_M_sayersOf_32 (i := 20) rfl
theorem dd_M_counts_0 : dq mM_counts.2.1 [(0, .aload_n 0, 1), (1, .getfield 123, 3), (4, .iload_n 1, 1), (5, .iaload, 1), (6, .iload_n 2, 1), (7, .if_icmp .gt 26, 3), (10, .aload_n 0, 1), (11, .getfield 126, 3), (14, .iload_n 1, 1), (15, .iaload, 1), (16, .ifCond .lt 13, 3), (19, .aload_n 0, 1), (20, .getfield 126, 3), (23, .iload_n 1, 1), (24, .iaload, 1), (25, .iload_n 2, 1), (26, .if_icmp .le 7, 3), (29, .iconst 1, 1), (30, .goto 4, 3), (33, .iconst 0, 1), (34, .ireturn, 1)] = true := by decide +kernel
theorem d_M_counts_0 : decode mM_counts.2.1 0 = .ok (.aload_n 0, 1) := dq_get dd_M_counts_0 (i := 0) rfl
theorem d_M_counts_1 : decode mM_counts.2.1 1 = .ok (.getfield 123, 3) := dq_get dd_M_counts_0 (i := 1) rfl
theorem d_M_counts_4 : decode mM_counts.2.1 4 = .ok (.iload_n 1, 1) := dq_get dd_M_counts_0 (i := 2) rfl
theorem d_M_counts_5 : decode mM_counts.2.1 5 = .ok (.iaload, 1) := dq_get dd_M_counts_0 (i := 3) rfl
theorem d_M_counts_6 : decode mM_counts.2.1 6 = .ok (.iload_n 2, 1) := dq_get dd_M_counts_0 (i := 4) rfl
theorem d_M_counts_7 : decode mM_counts.2.1 7 = .ok (.if_icmp .gt 26, 3) := dq_get dd_M_counts_0 (i := 5) rfl
theorem d_M_counts_10 : decode mM_counts.2.1 10 = .ok (.aload_n 0, 1) := dq_get dd_M_counts_0 (i := 6) rfl
theorem d_M_counts_11 : decode mM_counts.2.1 11 = .ok (.getfield 126, 3) := dq_get dd_M_counts_0 (i := 7) rfl
theorem d_M_counts_14 : decode mM_counts.2.1 14 = .ok (.iload_n 1, 1) := dq_get dd_M_counts_0 (i := 8) rfl
theorem d_M_counts_15 : decode mM_counts.2.1 15 = .ok (.iaload, 1) := dq_get dd_M_counts_0 (i := 9) rfl
theorem d_M_counts_16 : decode mM_counts.2.1 16 = .ok (.ifCond .lt 13, 3) := dq_get dd_M_counts_0 (i := 10) rfl
theorem d_M_counts_19 : decode mM_counts.2.1 19 = .ok (.aload_n 0, 1) := dq_get dd_M_counts_0 (i := 11) rfl
theorem d_M_counts_20 : decode mM_counts.2.1 20 = .ok (.getfield 126, 3) := dq_get dd_M_counts_0 (i := 12) rfl
theorem d_M_counts_23 : decode mM_counts.2.1 23 = .ok (.iload_n 1, 1) := dq_get dd_M_counts_0 (i := 13) rfl
theorem d_M_counts_24 : decode mM_counts.2.1 24 = .ok (.iaload, 1) := dq_get dd_M_counts_0 (i := 14) rfl
theorem d_M_counts_25 : decode mM_counts.2.1 25 = .ok (.iload_n 2, 1) := dq_get dd_M_counts_0 (i := 15) rfl
theorem d_M_counts_26 : decode mM_counts.2.1 26 = .ok (.if_icmp .le 7, 3) := dq_get dd_M_counts_0 (i := 16) rfl
theorem d_M_counts_29 : decode mM_counts.2.1 29 = .ok (.iconst 1, 1) := dq_get dd_M_counts_0 (i := 17) rfl
theorem d_M_counts_30 : decode mM_counts.2.1 30 = .ok (.goto 4, 3) := dq_get dd_M_counts_0 (i := 18) rfl
theorem d_M_counts_33 : decode mM_counts.2.1 33 = .ok (.iconst 0, 1) := dq_get dd_M_counts_0 (i := 19) rfl
theorem d_M_counts_34 : decode mM_counts.2.1 34 = .ok (.ireturn, 1) := dq_get dd_M_counts_0 (i := 20) rfl
theorem dd_M_sure_0 : dq mM_sure.2.1 [(0, .aload_n 0, 1), (1, .iload_n 1, 1), (2, .invokevirtual 461, 3), (5, .ifCond .ne 5, 3), (8, .iconst (-1), 1), (9, .ireturn, 1), (10, .aload_n 0, 1), (11, .iload_n 2, 1), (12, .invokevirtual 550, 3), (15, .istore_n 3, 1), (16, .iload_n 3, 1), (17, .ifCond .ne 7, 3), (20, .iconst (-1), 1), (21, .goto 32, 3), (24, .aload_n 0, 1), (25, .getfield 136, 3), (28, .iload_n 1, 1), (29, .iaload, 1), (30, .iload_n 3, 1), (31, .if_icmp .ne 7, 3), (34, .iconst 1, 1), (35, .goto 18, 3), (38, .aload_n 0, 1), (39, .getfield 136, 3), (42, .iload_n 1, 1), (43, .iaload, 1), (44, .ifCond .ne 7, 3), (47, .iconst 0, 1), (48, .goto 5, 3), (51, .bipush (-2), 2), (53, .ireturn, 1)] = true := by decide +kernel
theorem d_M_sure_0 : decode mM_sure.2.1 0 = .ok (.aload_n 0, 1) := dq_get dd_M_sure_0 (i := 0) rfl
theorem d_M_sure_1 : decode mM_sure.2.1 1 = .ok (.iload_n 1, 1) := dq_get dd_M_sure_0 (i := 1) rfl
theorem d_M_sure_2 : decode mM_sure.2.1 2 = .ok (.invokevirtual 461, 3) := dq_get dd_M_sure_0 (i := 2) rfl
theorem d_M_sure_5 : decode mM_sure.2.1 5 = .ok (.ifCond .ne 5, 3) := dq_get dd_M_sure_0 (i := 3) rfl
theorem d_M_sure_8 : decode mM_sure.2.1 8 = .ok (.iconst (-1), 1) := dq_get dd_M_sure_0 (i := 4) rfl
theorem d_M_sure_9 : decode mM_sure.2.1 9 = .ok (.ireturn, 1) := dq_get dd_M_sure_0 (i := 5) rfl
theorem d_M_sure_10 : decode mM_sure.2.1 10 = .ok (.aload_n 0, 1) := dq_get dd_M_sure_0 (i := 6) rfl
theorem d_M_sure_11 : decode mM_sure.2.1 11 = .ok (.iload_n 2, 1) := dq_get dd_M_sure_0 (i := 7) rfl
theorem d_M_sure_12 : decode mM_sure.2.1 12 = .ok (.invokevirtual 550, 3) := dq_get dd_M_sure_0 (i := 8) rfl
theorem d_M_sure_15 : decode mM_sure.2.1 15 = .ok (.istore_n 3, 1) := dq_get dd_M_sure_0 (i := 9) rfl
theorem d_M_sure_16 : decode mM_sure.2.1 16 = .ok (.iload_n 3, 1) := dq_get dd_M_sure_0 (i := 10) rfl
theorem d_M_sure_17 : decode mM_sure.2.1 17 = .ok (.ifCond .ne 7, 3) := dq_get dd_M_sure_0 (i := 11) rfl
theorem d_M_sure_20 : decode mM_sure.2.1 20 = .ok (.iconst (-1), 1) := dq_get dd_M_sure_0 (i := 12) rfl
theorem d_M_sure_21 : decode mM_sure.2.1 21 = .ok (.goto 32, 3) := dq_get dd_M_sure_0 (i := 13) rfl
theorem d_M_sure_24 : decode mM_sure.2.1 24 = .ok (.aload_n 0, 1) := dq_get dd_M_sure_0 (i := 14) rfl
theorem d_M_sure_25 : decode mM_sure.2.1 25 = .ok (.getfield 136, 3) := dq_get dd_M_sure_0 (i := 15) rfl
theorem d_M_sure_28 : decode mM_sure.2.1 28 = .ok (.iload_n 1, 1) := dq_get dd_M_sure_0 (i := 16) rfl
theorem d_M_sure_29 : decode mM_sure.2.1 29 = .ok (.iaload, 1) := dq_get dd_M_sure_0 (i := 17) rfl
theorem d_M_sure_30 : decode mM_sure.2.1 30 = .ok (.iload_n 3, 1) := dq_get dd_M_sure_0 (i := 18) rfl
theorem d_M_sure_31 : decode mM_sure.2.1 31 = .ok (.if_icmp .ne 7, 3) := dq_get dd_M_sure_0 (i := 19) rfl
theorem d_M_sure_34 : decode mM_sure.2.1 34 = .ok (.iconst 1, 1) := dq_get dd_M_sure_0 (i := 20) rfl
theorem d_M_sure_35 : decode mM_sure.2.1 35 = .ok (.goto 18, 3) := dq_get dd_M_sure_0 (i := 21) rfl
theorem d_M_sure_38 : decode mM_sure.2.1 38 = .ok (.aload_n 0, 1) := dq_get dd_M_sure_0 (i := 22) rfl
theorem d_M_sure_39 : decode mM_sure.2.1 39 = .ok (.getfield 136, 3) := dq_get dd_M_sure_0 (i := 23) rfl
theorem d_M_sure_42 : decode mM_sure.2.1 42 = .ok (.iload_n 1, 1) := dq_get dd_M_sure_0 (i := 24) rfl
theorem d_M_sure_43 : decode mM_sure.2.1 43 = .ok (.iaload, 1) := dq_get dd_M_sure_0 (i := 25) rfl
theorem d_M_sure_44 : decode mM_sure.2.1 44 = .ok (.ifCond .ne 7, 3) := dq_get dd_M_sure_0 (i := 26) rfl
theorem d_M_sure_47 : decode mM_sure.2.1 47 = .ok (.iconst 0, 1) := dq_get dd_M_sure_0 (i := 27) rfl
theorem d_M_sure_48 : decode mM_sure.2.1 48 = .ok (.goto 5, 3) := dq_get dd_M_sure_0 (i := 28) rfl
theorem d_M_sure_51 : decode mM_sure.2.1 51 = .ok (.bipush (-2), 2) := dq_get dd_M_sure_0 (i := 29) rfl
theorem d_M_sure_53 : decode mM_sure.2.1 53 = .ok (.ireturn, 1) := dq_get dd_M_sure_0 (i := 30) rfl
theorem dd_M_ask_0 : dq mM_ask.2.1 [(0, .iload_n 1, 1), (1, .iconst 0, 1), (2, .iconst 1, 1), (3, .invokestatic 429, 3), (6, .ifCond .eq 10, 3), (9, .aload_n 0, 1), (10, .getfield 322, 3), (13, .ifCond .ne 5, 3), (16, .iconst (-1), 1), (17, .ireturn, 1), (18, .aload_n 0, 1), (19, .iload_n 2, 1), (20, .invokevirtual 550, 3), (23, .istore_n 3, 1), (24, .iload_n 3, 1), (25, .ifCond .ne 5, 3), (28, .iconst (-1), 1), (29, .ireturn, 1), (30, .iconst 0, 1), (31, .istore 4, 2), (33, .iconst 1, 1), (34, .istore 5, 2), (36, .iload 5, 2), (38, .aload_n 0, 1), (39, .getfield 322, 3), (42, .if_icmp .ge 59, 3), (45, .aload_n 0, 1), (46, .getfield 136, 3), (49, .iload 5, 2), (51, .iaload, 1), (52, .iload_n 3, 1), (53, .aload_n 0, 1)] = true := by decide +kernel
theorem d_M_ask_0 : decode mM_ask.2.1 0 = .ok (.iload_n 1, 1) := dq_get dd_M_ask_0 (i := 0) rfl
theorem d_M_ask_1 : decode mM_ask.2.1 1 = .ok (.iconst 0, 1) := dq_get dd_M_ask_0 (i := 1) rfl
theorem d_M_ask_2 : decode mM_ask.2.1 2 = .ok (.iconst 1, 1) := dq_get dd_M_ask_0 (i := 2) rfl
theorem d_M_ask_3 : decode mM_ask.2.1 3 = .ok (.invokestatic 429, 3) := dq_get dd_M_ask_0 (i := 3) rfl
theorem d_M_ask_6 : decode mM_ask.2.1 6 = .ok (.ifCond .eq 10, 3) := dq_get dd_M_ask_0 (i := 4) rfl
theorem d_M_ask_9 : decode mM_ask.2.1 9 = .ok (.aload_n 0, 1) := dq_get dd_M_ask_0 (i := 5) rfl
theorem d_M_ask_10 : decode mM_ask.2.1 10 = .ok (.getfield 322, 3) := dq_get dd_M_ask_0 (i := 6) rfl
theorem d_M_ask_13 : decode mM_ask.2.1 13 = .ok (.ifCond .ne 5, 3) := dq_get dd_M_ask_0 (i := 7) rfl
theorem d_M_ask_16 : decode mM_ask.2.1 16 = .ok (.iconst (-1), 1) := dq_get dd_M_ask_0 (i := 8) rfl
theorem d_M_ask_17 : decode mM_ask.2.1 17 = .ok (.ireturn, 1) := dq_get dd_M_ask_0 (i := 9) rfl
theorem d_M_ask_18 : decode mM_ask.2.1 18 = .ok (.aload_n 0, 1) := dq_get dd_M_ask_0 (i := 10) rfl
theorem d_M_ask_19 : decode mM_ask.2.1 19 = .ok (.iload_n 2, 1) := dq_get dd_M_ask_0 (i := 11) rfl
theorem d_M_ask_20 : decode mM_ask.2.1 20 = .ok (.invokevirtual 550, 3) := dq_get dd_M_ask_0 (i := 12) rfl
theorem d_M_ask_23 : decode mM_ask.2.1 23 = .ok (.istore_n 3, 1) := dq_get dd_M_ask_0 (i := 13) rfl
theorem d_M_ask_24 : decode mM_ask.2.1 24 = .ok (.iload_n 3, 1) := dq_get dd_M_ask_0 (i := 14) rfl
theorem d_M_ask_25 : decode mM_ask.2.1 25 = .ok (.ifCond .ne 5, 3) := dq_get dd_M_ask_0 (i := 15) rfl
theorem d_M_ask_28 : decode mM_ask.2.1 28 = .ok (.iconst (-1), 1) := dq_get dd_M_ask_0 (i := 16) rfl
theorem d_M_ask_29 : decode mM_ask.2.1 29 = .ok (.ireturn, 1) := dq_get dd_M_ask_0 (i := 17) rfl
theorem d_M_ask_30 : decode mM_ask.2.1 30 = .ok (.iconst 0, 1) := dq_get dd_M_ask_0 (i := 18) rfl
theorem d_M_ask_31 : decode mM_ask.2.1 31 = .ok (.istore 4, 2) := dq_get dd_M_ask_0 (i := 19) rfl
theorem d_M_ask_33 : decode mM_ask.2.1 33 = .ok (.iconst 1, 1) := dq_get dd_M_ask_0 (i := 20) rfl
theorem d_M_ask_34 : decode mM_ask.2.1 34 = .ok (.istore 5, 2) := dq_get dd_M_ask_0 (i := 21) rfl
theorem d_M_ask_36 : decode mM_ask.2.1 36 = .ok (.iload 5, 2) := dq_get dd_M_ask_0 (i := 22) rfl
theorem d_M_ask_38 : decode mM_ask.2.1 38 = .ok (.aload_n 0, 1) := dq_get dd_M_ask_0 (i := 23) rfl
theorem d_M_ask_39 : decode mM_ask.2.1 39 = .ok (.getfield 322, 3) := dq_get dd_M_ask_0 (i := 24) rfl
theorem d_M_ask_42 : decode mM_ask.2.1 42 = .ok (.if_icmp .ge 59, 3) := dq_get dd_M_ask_0 (i := 25) rfl
theorem d_M_ask_45 : decode mM_ask.2.1 45 = .ok (.aload_n 0, 1) := dq_get dd_M_ask_0 (i := 26) rfl
theorem d_M_ask_46 : decode mM_ask.2.1 46 = .ok (.getfield 136, 3) := dq_get dd_M_ask_0 (i := 27) rfl
theorem d_M_ask_49 : decode mM_ask.2.1 49 = .ok (.iload 5, 2) := dq_get dd_M_ask_0 (i := 28) rfl
theorem d_M_ask_51 : decode mM_ask.2.1 51 = .ok (.iaload, 1) := dq_get dd_M_ask_0 (i := 29) rfl
theorem d_M_ask_52 : decode mM_ask.2.1 52 = .ok (.iload_n 3, 1) := dq_get dd_M_ask_0 (i := 30) rfl
theorem d_M_ask_53 : decode mM_ask.2.1 53 = .ok (.aload_n 0, 1) := dq_get dd_M_ask_0 (i := 31) rfl
theorem dd_M_ask_32 : dq mM_ask.2.1 [(54, .getfield 136, 3), (57, .iload 5, 2), (59, .iaload, 1), (60, .isub, 1), (61, .invokestatic 527, 3), (64, .aload_n 0, 1), (65, .getfield 136, 3), (68, .iload 4, 2), (70, .iaload, 1), (71, .iload_n 3, 1), (72, .aload_n 0, 1), (73, .getfield 136, 3), (76, .iload 4, 2), (78, .iaload, 1), (79, .isub, 1), (80, .invokestatic 527, 3), (83, .if_icmp .ge 8, 3), (86, .iload 5, 2), (88, .goto 5, 3), (91, .iload 4, 2), (93, .istore 4, 2), (95, .iinc 5 1, 3), (98, .goto (-62), 3), (101, .iload_n 1, 1), (102, .ifCond .ne 8, 3), (105, .iload 4, 2), (107, .goto 22, 3), (110, .aload_n 0, 1), (111, .getfield 136, 3), (114, .iload 4, 2), (116, .iaload, 1), (117, .iload_n 3, 1)] = true := by decide +kernel
theorem d_M_ask_54 : decode mM_ask.2.1 54 = .ok (.getfield 136, 3) := dq_get dd_M_ask_32 (i := 0) rfl
theorem d_M_ask_57 : decode mM_ask.2.1 57 = .ok (.iload 5, 2) := dq_get dd_M_ask_32 (i := 1) rfl
theorem d_M_ask_59 : decode mM_ask.2.1 59 = .ok (.iaload, 1) := dq_get dd_M_ask_32 (i := 2) rfl
theorem d_M_ask_60 : decode mM_ask.2.1 60 = .ok (.isub, 1) := dq_get dd_M_ask_32 (i := 3) rfl
theorem d_M_ask_61 : decode mM_ask.2.1 61 = .ok (.invokestatic 527, 3) := dq_get dd_M_ask_32 (i := 4) rfl
theorem d_M_ask_64 : decode mM_ask.2.1 64 = .ok (.aload_n 0, 1) := dq_get dd_M_ask_32 (i := 5) rfl
theorem d_M_ask_65 : decode mM_ask.2.1 65 = .ok (.getfield 136, 3) := dq_get dd_M_ask_32 (i := 6) rfl
theorem d_M_ask_68 : decode mM_ask.2.1 68 = .ok (.iload 4, 2) := dq_get dd_M_ask_32 (i := 7) rfl
theorem d_M_ask_70 : decode mM_ask.2.1 70 = .ok (.iaload, 1) := dq_get dd_M_ask_32 (i := 8) rfl
theorem d_M_ask_71 : decode mM_ask.2.1 71 = .ok (.iload_n 3, 1) := dq_get dd_M_ask_32 (i := 9) rfl
theorem d_M_ask_72 : decode mM_ask.2.1 72 = .ok (.aload_n 0, 1) := dq_get dd_M_ask_32 (i := 10) rfl
theorem d_M_ask_73 : decode mM_ask.2.1 73 = .ok (.getfield 136, 3) := dq_get dd_M_ask_32 (i := 11) rfl
theorem d_M_ask_76 : decode mM_ask.2.1 76 = .ok (.iload 4, 2) := dq_get dd_M_ask_32 (i := 12) rfl
theorem d_M_ask_78 : decode mM_ask.2.1 78 = .ok (.iaload, 1) := dq_get dd_M_ask_32 (i := 13) rfl
theorem d_M_ask_79 : decode mM_ask.2.1 79 = .ok (.isub, 1) := dq_get dd_M_ask_32 (i := 14) rfl
theorem d_M_ask_80 : decode mM_ask.2.1 80 = .ok (.invokestatic 527, 3) := dq_get dd_M_ask_32 (i := 15) rfl
theorem d_M_ask_83 : decode mM_ask.2.1 83 = .ok (.if_icmp .ge 8, 3) := dq_get dd_M_ask_32 (i := 16) rfl
theorem d_M_ask_86 : decode mM_ask.2.1 86 = .ok (.iload 5, 2) := dq_get dd_M_ask_32 (i := 17) rfl
theorem d_M_ask_88 : decode mM_ask.2.1 88 = .ok (.goto 5, 3) := dq_get dd_M_ask_32 (i := 18) rfl
theorem d_M_ask_91 : decode mM_ask.2.1 91 = .ok (.iload 4, 2) := dq_get dd_M_ask_32 (i := 19) rfl
theorem d_M_ask_93 : decode mM_ask.2.1 93 = .ok (.istore 4, 2) := dq_get dd_M_ask_32 (i := 20) rfl
theorem d_M_ask_95 : decode mM_ask.2.1 95 = .ok (.iinc 5 1, 3) := dq_get dd_M_ask_32 (i := 21) rfl
theorem d_M_ask_98 : decode mM_ask.2.1 98 = .ok (.goto (-62), 3) := dq_get dd_M_ask_32 (i := 22) rfl
theorem d_M_ask_101 : decode mM_ask.2.1 101 = .ok (.iload_n 1, 1) := dq_get dd_M_ask_32 (i := 23) rfl
theorem d_M_ask_102 : decode mM_ask.2.1 102 = .ok (.ifCond .ne 8, 3) := dq_get dd_M_ask_32 (i := 24) rfl
theorem d_M_ask_105 : decode mM_ask.2.1 105 = .ok (.iload 4, 2) := dq_get dd_M_ask_32 (i := 25) rfl
theorem d_M_ask_107 : decode mM_ask.2.1 107 = .ok (.goto 22, 3) := dq_get dd_M_ask_32 (i := 26) rfl
theorem d_M_ask_110 : decode mM_ask.2.1 110 = .ok (.aload_n 0, 1) := dq_get dd_M_ask_32 (i := 27) rfl
theorem d_M_ask_111 : decode mM_ask.2.1 111 = .ok (.getfield 136, 3) := dq_get dd_M_ask_32 (i := 28) rfl
theorem d_M_ask_114 : decode mM_ask.2.1 114 = .ok (.iload 4, 2) := dq_get dd_M_ask_32 (i := 29) rfl
theorem d_M_ask_116 : decode mM_ask.2.1 116 = .ok (.iaload, 1) := dq_get dd_M_ask_32 (i := 30) rfl
theorem d_M_ask_117 : decode mM_ask.2.1 117 = .ok (.iload_n 3, 1) := dq_get dd_M_ask_32 (i := 31) rfl
theorem dd_M_ask_64 : dq mM_ask.2.1 [(118, .aload_n 0, 1), (119, .getfield 136, 3), (122, .iload 4, 2), (124, .iaload, 1), (125, .isub, 1), (126, .invokestatic 527, 3), (129, .ireturn, 1)] = true := by decide +kernel
theorem d_M_ask_118 : decode mM_ask.2.1 118 = .ok (.aload_n 0, 1) := dq_get dd_M_ask_64 (i := 0) rfl
theorem d_M_ask_119 : decode mM_ask.2.1 119 = .ok (.getfield 136, 3) := dq_get dd_M_ask_64 (i := 1) rfl
theorem d_M_ask_122 : decode mM_ask.2.1 122 = .ok (.iload 4, 2) := dq_get dd_M_ask_64 (i := 2) rfl
theorem d_M_ask_124 : decode mM_ask.2.1 124 = .ok (.iaload, 1) := dq_get dd_M_ask_64 (i := 3) rfl
theorem d_M_ask_125 : decode mM_ask.2.1 125 = .ok (.isub, 1) := dq_get dd_M_ask_64 (i := 4) rfl
theorem d_M_ask_126 : decode mM_ask.2.1 126 = .ok (.invokestatic 527, 3) := dq_get dd_M_ask_64 (i := 5) rfl
theorem d_M_ask_129 : decode mM_ask.2.1 129 = .ok (.ireturn, 1) := dq_get dd_M_ask_64 (i := 6) rfl
theorem dd_M_image_0 : dq mM_image.2.1 [(0, .iload_n 1, 1), (1, .invokestatic 553, 3), (4, .ifCond .ne 5, 3), (7, .iconst (-1), 1), (8, .ireturn, 1), (9, .aload_n 0, 1), (10, .getfield 139, 3), (13, .iload_n 1, 1), (14, .iconst 1, 1), (15, .bastore, 1), (16, .iconst 0, 1), (17, .istore_n 2, 1), (18, .iload_n 2, 1), (19, .bipush 41, 2), (21, .if_icmp .ge 26, 3), (24, .aload_n 0, 1), (25, .getfield 142, 3), (28, .bipush 41, 2), (30, .iload_n 1, 1), (31, .imul, 1), (32, .iload_n 2, 1), (33, .iadd, 1), (34, .aload_n 0, 1), (35, .getfield 93, 3), (38, .iload_n 2, 1), (39, .iaload, 1), (40, .iastore, 1), (41, .iinc 2 1, 3), (44, .goto (-26), 3), (47, .aload_n 0, 1), (48, .invokevirtual 556, 3), (51, .ireturn, 1)] = true := by decide +kernel
theorem d_M_image_0 : decode mM_image.2.1 0 = .ok (.iload_n 1, 1) := dq_get dd_M_image_0 (i := 0) rfl
theorem d_M_image_1 : decode mM_image.2.1 1 = .ok (.invokestatic 553, 3) := dq_get dd_M_image_0 (i := 1) rfl
theorem d_M_image_4 : decode mM_image.2.1 4 = .ok (.ifCond .ne 5, 3) := dq_get dd_M_image_0 (i := 2) rfl
theorem d_M_image_7 : decode mM_image.2.1 7 = .ok (.iconst (-1), 1) := dq_get dd_M_image_0 (i := 3) rfl
theorem d_M_image_8 : decode mM_image.2.1 8 = .ok (.ireturn, 1) := dq_get dd_M_image_0 (i := 4) rfl
theorem d_M_image_9 : decode mM_image.2.1 9 = .ok (.aload_n 0, 1) := dq_get dd_M_image_0 (i := 5) rfl
theorem d_M_image_10 : decode mM_image.2.1 10 = .ok (.getfield 139, 3) := dq_get dd_M_image_0 (i := 6) rfl
theorem d_M_image_13 : decode mM_image.2.1 13 = .ok (.iload_n 1, 1) := dq_get dd_M_image_0 (i := 7) rfl
theorem d_M_image_14 : decode mM_image.2.1 14 = .ok (.iconst 1, 1) := dq_get dd_M_image_0 (i := 8) rfl
theorem d_M_image_15 : decode mM_image.2.1 15 = .ok (.bastore, 1) := dq_get dd_M_image_0 (i := 9) rfl
theorem d_M_image_16 : decode mM_image.2.1 16 = .ok (.iconst 0, 1) := dq_get dd_M_image_0 (i := 10) rfl
theorem d_M_image_17 : decode mM_image.2.1 17 = .ok (.istore_n 2, 1) := dq_get dd_M_image_0 (i := 11) rfl
theorem d_M_image_18 : decode mM_image.2.1 18 = .ok (.iload_n 2, 1) := dq_get dd_M_image_0 (i := 12) rfl
theorem d_M_image_19 : decode mM_image.2.1 19 = .ok (.bipush 41, 2) := dq_get dd_M_image_0 (i := 13) rfl
theorem d_M_image_21 : decode mM_image.2.1 21 = .ok (.if_icmp .ge 26, 3) := dq_get dd_M_image_0 (i := 14) rfl
theorem d_M_image_24 : decode mM_image.2.1 24 = .ok (.aload_n 0, 1) := dq_get dd_M_image_0 (i := 15) rfl
theorem d_M_image_25 : decode mM_image.2.1 25 = .ok (.getfield 142, 3) := dq_get dd_M_image_0 (i := 16) rfl
theorem d_M_image_28 : decode mM_image.2.1 28 = .ok (.bipush 41, 2) := dq_get dd_M_image_0 (i := 17) rfl
theorem d_M_image_30 : decode mM_image.2.1 30 = .ok (.iload_n 1, 1) := dq_get dd_M_image_0 (i := 18) rfl
theorem d_M_image_31 : decode mM_image.2.1 31 = .ok (.imul, 1) := dq_get dd_M_image_0 (i := 19) rfl
theorem d_M_image_32 : decode mM_image.2.1 32 = .ok (.iload_n 2, 1) := dq_get dd_M_image_0 (i := 20) rfl
theorem d_M_image_33 : decode mM_image.2.1 33 = .ok (.iadd, 1) := dq_get dd_M_image_0 (i := 21) rfl
theorem d_M_image_34 : decode mM_image.2.1 34 = .ok (.aload_n 0, 1) := dq_get dd_M_image_0 (i := 22) rfl
theorem d_M_image_35 : decode mM_image.2.1 35 = .ok (.getfield 93, 3) := dq_get dd_M_image_0 (i := 23) rfl
theorem d_M_image_38 : decode mM_image.2.1 38 = .ok (.iload_n 2, 1) := dq_get dd_M_image_0 (i := 24) rfl
theorem d_M_image_39 : decode mM_image.2.1 39 = .ok (.iaload, 1) := dq_get dd_M_image_0 (i := 25) rfl
theorem d_M_image_40 : decode mM_image.2.1 40 = .ok (.iastore, 1) := dq_get dd_M_image_0 (i := 26) rfl
theorem d_M_image_41 : decode mM_image.2.1 41 = .ok (.iinc 2 1, 3) := dq_get dd_M_image_0 (i := 27) rfl
theorem d_M_image_44 : decode mM_image.2.1 44 = .ok (.goto (-26), 3) := dq_get dd_M_image_0 (i := 28) rfl
theorem d_M_image_47 : decode mM_image.2.1 47 = .ok (.aload_n 0, 1) := dq_get dd_M_image_0 (i := 29) rfl
theorem d_M_image_48 : decode mM_image.2.1 48 = .ok (.invokevirtual 556, 3) := dq_get dd_M_image_0 (i := 30) rfl
theorem d_M_image_51 : decode mM_image.2.1 51 = .ok (.ireturn, 1) := dq_get dd_M_image_0 (i := 31) rfl
theorem dd_M_isBox_0 : dq mM_isBox.2.1 [(0, .iload_n 0, 1), (1, .ifCond .lt 12, 3), (4, .iload_n 0, 1), (5, .iconst 3, 1), (6, .if_icmp .ge 7, 3), (9, .iconst 1, 1), (10, .goto 4, 3), (13, .iconst 0, 1), (14, .ireturn, 1)] = true := by decide +kernel
theorem d_M_isBox_0 : decode mM_isBox.2.1 0 = .ok (.iload_n 0, 1) := dq_get dd_M_isBox_0 (i := 0) rfl
theorem d_M_isBox_1 : decode mM_isBox.2.1 1 = .ok (.ifCond .lt 12, 3) := dq_get dd_M_isBox_0 (i := 1) rfl
theorem d_M_isBox_4 : decode mM_isBox.2.1 4 = .ok (.iload_n 0, 1) := dq_get dd_M_isBox_0 (i := 2) rfl
theorem d_M_isBox_5 : decode mM_isBox.2.1 5 = .ok (.iconst 3, 1) := dq_get dd_M_isBox_0 (i := 3) rfl
theorem d_M_isBox_6 : decode mM_isBox.2.1 6 = .ok (.if_icmp .ge 7, 3) := dq_get dd_M_isBox_0 (i := 4) rfl
theorem d_M_isBox_9 : decode mM_isBox.2.1 9 = .ok (.iconst 1, 1) := dq_get dd_M_isBox_0 (i := 5) rfl
theorem d_M_isBox_10 : decode mM_isBox.2.1 10 = .ok (.goto 4, 3) := dq_get dd_M_isBox_0 (i := 6) rfl
theorem d_M_isBox_13 : decode mM_isBox.2.1 13 = .ok (.iconst 0, 1) := dq_get dd_M_isBox_0 (i := 7) rfl
theorem d_M_isBox_14 : decode mM_isBox.2.1 14 = .ok (.ireturn, 1) := dq_get dd_M_isBox_0 (i := 8) rfl
theorem dd_M_played_0 : dq mM_played.2.1 [(0, .iconst 0, 1), (1, .istore_n 1, 1), (2, .iconst 0, 1), (3, .istore_n 2, 1), (4, .iload_n 2, 1), (5, .aload_n 0, 1), (6, .getfield 322, 3), (9, .if_icmp .ge 29, 3), (12, .iload_n 1, 1), (13, .aload_n 0, 1), (14, .getfield 93, 3), (17, .iload_n 2, 1), (18, .iaload, 1), (19, .ifCond .le 7, 3), (22, .iconst 1, 1), (23, .goto 4, 3), (26, .iconst 0, 1), (27, .invokestatic 318, 3), (30, .iadd, 1), (31, .istore_n 1, 1), (32, .iinc 2 1, 3), (35, .goto (-31), 3), (38, .iload_n 1, 1), (39, .ireturn, 1)] = true := by decide +kernel
theorem d_M_played_0 : decode mM_played.2.1 0 = .ok (.iconst 0, 1) := dq_get dd_M_played_0 (i := 0) rfl
theorem d_M_played_1 : decode mM_played.2.1 1 = .ok (.istore_n 1, 1) := dq_get dd_M_played_0 (i := 1) rfl
theorem d_M_played_2 : decode mM_played.2.1 2 = .ok (.iconst 0, 1) := dq_get dd_M_played_0 (i := 2) rfl
theorem d_M_played_3 : decode mM_played.2.1 3 = .ok (.istore_n 2, 1) := dq_get dd_M_played_0 (i := 3) rfl
theorem d_M_played_4 : decode mM_played.2.1 4 = .ok (.iload_n 2, 1) := dq_get dd_M_played_0 (i := 4) rfl
theorem d_M_played_5 : decode mM_played.2.1 5 = .ok (.aload_n 0, 1) := dq_get dd_M_played_0 (i := 5) rfl
theorem d_M_played_6 : decode mM_played.2.1 6 = .ok (.getfield 322, 3) := dq_get dd_M_played_0 (i := 6) rfl
theorem d_M_played_9 : decode mM_played.2.1 9 = .ok (.if_icmp .ge 29, 3) := dq_get dd_M_played_0 (i := 7) rfl
theorem d_M_played_12 : decode mM_played.2.1 12 = .ok (.iload_n 1, 1) := dq_get dd_M_played_0 (i := 8) rfl
theorem d_M_played_13 : decode mM_played.2.1 13 = .ok (.aload_n 0, 1) := dq_get dd_M_played_0 (i := 9) rfl
theorem d_M_played_14 : decode mM_played.2.1 14 = .ok (.getfield 93, 3) := dq_get dd_M_played_0 (i := 10) rfl
theorem d_M_played_17 : decode mM_played.2.1 17 = .ok (.iload_n 2, 1) := dq_get dd_M_played_0 (i := 11) rfl
theorem d_M_played_18 : decode mM_played.2.1 18 = .ok (.iaload, 1) := dq_get dd_M_played_0 (i := 12) rfl
theorem d_M_played_19 : decode mM_played.2.1 19 = .ok (.ifCond .le 7, 3) := dq_get dd_M_played_0 (i := 13) rfl
theorem d_M_played_22 : decode mM_played.2.1 22 = .ok (.iconst 1, 1) := dq_get dd_M_played_0 (i := 14) rfl
theorem d_M_played_23 : decode mM_played.2.1 23 = .ok (.goto 4, 3) := dq_get dd_M_played_0 (i := 15) rfl
theorem d_M_played_26 : decode mM_played.2.1 26 = .ok (.iconst 0, 1) := dq_get dd_M_played_0 (i := 16) rfl
theorem d_M_played_27 : decode mM_played.2.1 27 = .ok (.invokestatic 318, 3) := dq_get dd_M_played_0 (i := 17) rfl
theorem d_M_played_30 : decode mM_played.2.1 30 = .ok (.iadd, 1) := dq_get dd_M_played_0 (i := 18) rfl
theorem d_M_played_31 : decode mM_played.2.1 31 = .ok (.istore_n 1, 1) := dq_get dd_M_played_0 (i := 19) rfl
theorem d_M_played_32 : decode mM_played.2.1 32 = .ok (.iinc 2 1, 3) := dq_get dd_M_played_0 (i := 20) rfl
theorem d_M_played_35 : decode mM_played.2.1 35 = .ok (.goto (-31), 3) := dq_get dd_M_played_0 (i := 21) rfl
theorem d_M_played_38 : decode mM_played.2.1 38 = .ok (.iload_n 1, 1) := dq_get dd_M_played_0 (i := 22) rfl
theorem d_M_played_39 : decode mM_played.2.1 39 = .ok (.ireturn, 1) := dq_get dd_M_played_0 (i := 23) rfl
theorem dd_M_back_0 : dq mM_back.2.1 [(0, .iload_n 1, 1), (1, .invokestatic 553, 3), (4, .ifCond .eq 12, 3), (7, .aload_n 0, 1), (8, .getfield 139, 3), (11, .iload_n 1, 1), (12, .baload, 1), (13, .ifCond .ne 5, 3), (16, .iconst (-1), 1), (17, .ireturn, 1), (18, .iconst 0, 1), (19, .istore_n 2, 1), (20, .iload_n 2, 1), (21, .bipush 41, 2), (23, .if_icmp .ge 26, 3), (26, .aload_n 0, 1), (27, .getfield 93, 3), (30, .iload_n 2, 1), (31, .aload_n 0, 1), (32, .getfield 142, 3), (35, .bipush 41, 2), (37, .iload_n 1, 1), (38, .imul, 1), (39, .iload_n 2, 1), (40, .iadd, 1), (41, .iaload, 1), (42, .iastore, 1), (43, .iinc 2 1, 3), (46, .goto (-26), 3), (49, .aload_n 0, 1), (50, .iconst 0, 1), (51, .putfield 417, 3)] = true := by decide +kernel
theorem d_M_back_0 : decode mM_back.2.1 0 = .ok (.iload_n 1, 1) := dq_get dd_M_back_0 (i := 0) rfl
theorem d_M_back_1 : decode mM_back.2.1 1 = .ok (.invokestatic 553, 3) := dq_get dd_M_back_0 (i := 1) rfl
theorem d_M_back_4 : decode mM_back.2.1 4 = .ok (.ifCond .eq 12, 3) := dq_get dd_M_back_0 (i := 2) rfl
theorem d_M_back_7 : decode mM_back.2.1 7 = .ok (.aload_n 0, 1) := dq_get dd_M_back_0 (i := 3) rfl
theorem d_M_back_8 : decode mM_back.2.1 8 = .ok (.getfield 139, 3) := dq_get dd_M_back_0 (i := 4) rfl
theorem d_M_back_11 : decode mM_back.2.1 11 = .ok (.iload_n 1, 1) := dq_get dd_M_back_0 (i := 5) rfl
theorem d_M_back_12 : decode mM_back.2.1 12 = .ok (.baload, 1) := dq_get dd_M_back_0 (i := 6) rfl
theorem d_M_back_13 : decode mM_back.2.1 13 = .ok (.ifCond .ne 5, 3) := dq_get dd_M_back_0 (i := 7) rfl
theorem d_M_back_16 : decode mM_back.2.1 16 = .ok (.iconst (-1), 1) := dq_get dd_M_back_0 (i := 8) rfl
theorem d_M_back_17 : decode mM_back.2.1 17 = .ok (.ireturn, 1) := dq_get dd_M_back_0 (i := 9) rfl
theorem d_M_back_18 : decode mM_back.2.1 18 = .ok (.iconst 0, 1) := dq_get dd_M_back_0 (i := 10) rfl
theorem d_M_back_19 : decode mM_back.2.1 19 = .ok (.istore_n 2, 1) := dq_get dd_M_back_0 (i := 11) rfl
theorem d_M_back_20 : decode mM_back.2.1 20 = .ok (.iload_n 2, 1) := dq_get dd_M_back_0 (i := 12) rfl
theorem d_M_back_21 : decode mM_back.2.1 21 = .ok (.bipush 41, 2) := dq_get dd_M_back_0 (i := 13) rfl
theorem d_M_back_23 : decode mM_back.2.1 23 = .ok (.if_icmp .ge 26, 3) := dq_get dd_M_back_0 (i := 14) rfl
theorem d_M_back_26 : decode mM_back.2.1 26 = .ok (.aload_n 0, 1) := dq_get dd_M_back_0 (i := 15) rfl
theorem d_M_back_27 : decode mM_back.2.1 27 = .ok (.getfield 93, 3) := dq_get dd_M_back_0 (i := 16) rfl
theorem d_M_back_30 : decode mM_back.2.1 30 = .ok (.iload_n 2, 1) := dq_get dd_M_back_0 (i := 17) rfl
theorem d_M_back_31 : decode mM_back.2.1 31 = .ok (.aload_n 0, 1) := dq_get dd_M_back_0 (i := 18) rfl
theorem d_M_back_32 : decode mM_back.2.1 32 = .ok (.getfield 142, 3) := dq_get dd_M_back_0 (i := 19) rfl
theorem d_M_back_35 : decode mM_back.2.1 35 = .ok (.bipush 41, 2) := dq_get dd_M_back_0 (i := 20) rfl
theorem d_M_back_37 : decode mM_back.2.1 37 = .ok (.iload_n 1, 1) := dq_get dd_M_back_0 (i := 21) rfl
theorem d_M_back_38 : decode mM_back.2.1 38 = .ok (.imul, 1) := dq_get dd_M_back_0 (i := 22) rfl
theorem d_M_back_39 : decode mM_back.2.1 39 = .ok (.iload_n 2, 1) := dq_get dd_M_back_0 (i := 23) rfl
theorem d_M_back_40 : decode mM_back.2.1 40 = .ok (.iadd, 1) := dq_get dd_M_back_0 (i := 24) rfl
theorem d_M_back_41 : decode mM_back.2.1 41 = .ok (.iaload, 1) := dq_get dd_M_back_0 (i := 25) rfl
theorem d_M_back_42 : decode mM_back.2.1 42 = .ok (.iastore, 1) := dq_get dd_M_back_0 (i := 26) rfl
theorem d_M_back_43 : decode mM_back.2.1 43 = .ok (.iinc 2 1, 3) := dq_get dd_M_back_0 (i := 27) rfl
theorem d_M_back_46 : decode mM_back.2.1 46 = .ok (.goto (-26), 3) := dq_get dd_M_back_0 (i := 28) rfl
theorem d_M_back_49 : decode mM_back.2.1 49 = .ok (.aload_n 0, 1) := dq_get dd_M_back_0 (i := 29) rfl
theorem d_M_back_50 : decode mM_back.2.1 50 = .ok (.iconst 0, 1) := dq_get dd_M_back_0 (i := 30) rfl
theorem d_M_back_51 : decode mM_back.2.1 51 = .ok (.putfield 417, 3) := dq_get dd_M_back_0 (i := 31) rfl
theorem dd_M_back_32 : dq mM_back.2.1 [(54, .aload_n 0, 1), (55, .iconst 0, 1), (56, .putfield 420, 3), (59, .aload_n 0, 1), (60, .invokevirtual 556, 3), (63, .ireturn, 1)] = true := by decide +kernel
theorem d_M_back_54 : decode mM_back.2.1 54 = .ok (.aload_n 0, 1) := dq_get dd_M_back_32 (i := 0) rfl
theorem d_M_back_55 : decode mM_back.2.1 55 = .ok (.iconst 0, 1) := dq_get dd_M_back_32 (i := 1) rfl
theorem d_M_back_56 : decode mM_back.2.1 56 = .ok (.putfield 420, 3) := dq_get dd_M_back_32 (i := 2) rfl
theorem d_M_back_59 : decode mM_back.2.1 59 = .ok (.aload_n 0, 1) := dq_get dd_M_back_32 (i := 3) rfl
theorem d_M_back_60 : decode mM_back.2.1 60 = .ok (.invokevirtual 556, 3) := dq_get dd_M_back_32 (i := 4) rfl
theorem d_M_back_63 : decode mM_back.2.1 63 = .ok (.ireturn, 1) := dq_get dd_M_back_32 (i := 5) rfl
theorem dd_M_differ_0 : dq mM_differ.2.1 [(0, .iload_n 1, 1), (1, .invokestatic 553, 3), (4, .ifCond .eq 12, 3), (7, .aload_n 0, 1), (8, .getfield 139, 3), (11, .iload_n 1, 1), (12, .baload, 1), (13, .ifCond .ne 5, 3), (16, .iconst (-1), 1), (17, .ireturn, 1), (18, .iconst 0, 1), (19, .istore_n 2, 1), (20, .iconst 0, 1), (21, .istore_n 3, 1), (22, .iload_n 3, 1), (23, .bipush 40, 2), (25, .if_icmp .ge 38, 3), (28, .aload_n 0, 1), (29, .getfield 142, 3), (32, .bipush 41, 2), (34, .iload_n 1, 1), (35, .imul, 1), (36, .iload_n 3, 1), (37, .iadd, 1), (38, .iaload, 1), (39, .aload_n 0, 1), (40, .getfield 93, 3), (43, .iload_n 3, 1), (44, .iaload, 1), (45, .if_icmp .eq 12, 3), (48, .iload_n 2, 1), (49, .iconst 1, 1)] = true := by decide +kernel
theorem d_M_differ_0 : decode mM_differ.2.1 0 = .ok (.iload_n 1, 1) := dq_get dd_M_differ_0 (i := 0) rfl
theorem d_M_differ_1 : decode mM_differ.2.1 1 = .ok (.invokestatic 553, 3) := dq_get dd_M_differ_0 (i := 1) rfl
theorem d_M_differ_4 : decode mM_differ.2.1 4 = .ok (.ifCond .eq 12, 3) := dq_get dd_M_differ_0 (i := 2) rfl
theorem d_M_differ_7 : decode mM_differ.2.1 7 = .ok (.aload_n 0, 1) := dq_get dd_M_differ_0 (i := 3) rfl
theorem d_M_differ_8 : decode mM_differ.2.1 8 = .ok (.getfield 139, 3) := dq_get dd_M_differ_0 (i := 4) rfl
theorem d_M_differ_11 : decode mM_differ.2.1 11 = .ok (.iload_n 1, 1) := dq_get dd_M_differ_0 (i := 5) rfl
theorem d_M_differ_12 : decode mM_differ.2.1 12 = .ok (.baload, 1) := dq_get dd_M_differ_0 (i := 6) rfl
theorem d_M_differ_13 : decode mM_differ.2.1 13 = .ok (.ifCond .ne 5, 3) := dq_get dd_M_differ_0 (i := 7) rfl
theorem d_M_differ_16 : decode mM_differ.2.1 16 = .ok (.iconst (-1), 1) := dq_get dd_M_differ_0 (i := 8) rfl
theorem d_M_differ_17 : decode mM_differ.2.1 17 = .ok (.ireturn, 1) := dq_get dd_M_differ_0 (i := 9) rfl
theorem d_M_differ_18 : decode mM_differ.2.1 18 = .ok (.iconst 0, 1) := dq_get dd_M_differ_0 (i := 10) rfl
theorem d_M_differ_19 : decode mM_differ.2.1 19 = .ok (.istore_n 2, 1) := dq_get dd_M_differ_0 (i := 11) rfl
theorem d_M_differ_20 : decode mM_differ.2.1 20 = .ok (.iconst 0, 1) := dq_get dd_M_differ_0 (i := 12) rfl
theorem d_M_differ_21 : decode mM_differ.2.1 21 = .ok (.istore_n 3, 1) := dq_get dd_M_differ_0 (i := 13) rfl
theorem d_M_differ_22 : decode mM_differ.2.1 22 = .ok (.iload_n 3, 1) := dq_get dd_M_differ_0 (i := 14) rfl
theorem d_M_differ_23 : decode mM_differ.2.1 23 = .ok (.bipush 40, 2) := dq_get dd_M_differ_0 (i := 15) rfl
theorem d_M_differ_25 : decode mM_differ.2.1 25 = .ok (.if_icmp .ge 38, 3) := dq_get dd_M_differ_0 (i := 16) rfl
theorem d_M_differ_28 : decode mM_differ.2.1 28 = .ok (.aload_n 0, 1) := dq_get dd_M_differ_0 (i := 17) rfl
theorem d_M_differ_29 : decode mM_differ.2.1 29 = .ok (.getfield 142, 3) := dq_get dd_M_differ_0 (i := 18) rfl
theorem d_M_differ_32 : decode mM_differ.2.1 32 = .ok (.bipush 41, 2) := dq_get dd_M_differ_0 (i := 19) rfl
theorem d_M_differ_34 : decode mM_differ.2.1 34 = .ok (.iload_n 1, 1) := dq_get dd_M_differ_0 (i := 20) rfl
theorem d_M_differ_35 : decode mM_differ.2.1 35 = .ok (.imul, 1) := dq_get dd_M_differ_0 (i := 21) rfl
theorem d_M_differ_36 : decode mM_differ.2.1 36 = .ok (.iload_n 3, 1) := dq_get dd_M_differ_0 (i := 22) rfl
theorem d_M_differ_37 : decode mM_differ.2.1 37 = .ok (.iadd, 1) := dq_get dd_M_differ_0 (i := 23) rfl
theorem d_M_differ_38 : decode mM_differ.2.1 38 = .ok (.iaload, 1) := dq_get dd_M_differ_0 (i := 24) rfl
theorem d_M_differ_39 : decode mM_differ.2.1 39 = .ok (.aload_n 0, 1) := dq_get dd_M_differ_0 (i := 25) rfl
theorem d_M_differ_40 : decode mM_differ.2.1 40 = .ok (.getfield 93, 3) := dq_get dd_M_differ_0 (i := 26) rfl
theorem d_M_differ_43 : decode mM_differ.2.1 43 = .ok (.iload_n 3, 1) := dq_get dd_M_differ_0 (i := 27) rfl
theorem d_M_differ_44 : decode mM_differ.2.1 44 = .ok (.iaload, 1) := dq_get dd_M_differ_0 (i := 28) rfl
theorem d_M_differ_45 : decode mM_differ.2.1 45 = .ok (.if_icmp .eq 12, 3) := dq_get dd_M_differ_0 (i := 29) rfl
theorem d_M_differ_48 : decode mM_differ.2.1 48 = .ok (.iload_n 2, 1) := dq_get dd_M_differ_0 (i := 30) rfl
theorem d_M_differ_49 : decode mM_differ.2.1 49 = .ok (.iconst 1, 1) := dq_get dd_M_differ_0 (i := 31) rfl
theorem dd_M_differ_32 : dq mM_differ.2.1 [(50, .iload_n 3, 1), (51, .bipush 10, 2), (53, .irem, 1), (54, .ishl, 1), (55, .ior, 1), (56, .istore_n 2, 1), (57, .iinc 3 1, 3), (60, .goto (-38), 3), (63, .iload_n 2, 1), (64, .ireturn, 1)] = true := by decide +kernel
theorem d_M_differ_50 : decode mM_differ.2.1 50 = .ok (.iload_n 3, 1) := dq_get dd_M_differ_32 (i := 0) rfl
theorem d_M_differ_51 : decode mM_differ.2.1 51 = .ok (.bipush 10, 2) := dq_get dd_M_differ_32 (i := 1) rfl
theorem d_M_differ_53 : decode mM_differ.2.1 53 = .ok (.irem, 1) := dq_get dd_M_differ_32 (i := 2) rfl
theorem d_M_differ_54 : decode mM_differ.2.1 54 = .ok (.ishl, 1) := dq_get dd_M_differ_32 (i := 3) rfl
theorem d_M_differ_55 : decode mM_differ.2.1 55 = .ok (.ior, 1) := dq_get dd_M_differ_32 (i := 4) rfl
theorem d_M_differ_56 : decode mM_differ.2.1 56 = .ok (.istore_n 2, 1) := dq_get dd_M_differ_32 (i := 5) rfl
theorem d_M_differ_57 : decode mM_differ.2.1 57 = .ok (.iinc 3 1, 3) := dq_get dd_M_differ_32 (i := 6) rfl
theorem d_M_differ_60 : decode mM_differ.2.1 60 = .ok (.goto (-38), 3) := dq_get dd_M_differ_32 (i := 7) rfl
theorem d_M_differ_63 : decode mM_differ.2.1 63 = .ok (.iload_n 2, 1) := dq_get dd_M_differ_32 (i := 8) rfl
theorem d_M_differ_64 : decode mM_differ.2.1 64 = .ok (.ireturn, 1) := dq_get dd_M_differ_32 (i := 9) rfl
theorem dd_M_about_0 : dq mM_about.2.1 [(0, .iload_n 1, 1), (1, .tableswitch 162 0 15 #[79, 84, 89, 94, 99, 104, 109, 114, 122, 127, 132, 137, 142, 147, 152, 157], 79), (80, .aload_n 0, 1), (81, .getfield 322, 3), (84, .ireturn, 1), (85, .aload_n 0, 1), (86, .getfield 405, 3), (89, .ireturn, 1), (90, .aload_n 0, 1), (91, .getfield 78, 3), (94, .ireturn, 1), (95, .aload_n 0, 1), (96, .getfield 81, 3), (99, .ireturn, 1), (100, .aload_n 0, 1), (101, .getfield 84, 3), (104, .ireturn, 1), (105, .aload_n 0, 1), (106, .getfield 87, 3), (109, .ireturn, 1), (110, .aload_n 0, 1), (111, .getfield 90, 3), (114, .ireturn, 1), (115, .aload_n 0, 1), (116, .getfield 93, 3), (119, .bipush 40, 2), (121, .iaload, 1), (122, .ireturn, 1), (123, .aload_n 0, 1), (124, .getfield 417, 3), (127, .ireturn, 1), (128, .aload_n 0, 1)] = true := by decide +kernel
theorem d_M_about_0 : decode mM_about.2.1 0 = .ok (.iload_n 1, 1) := dq_get dd_M_about_0 (i := 0) rfl
theorem d_M_about_1 : decode mM_about.2.1 1 = .ok (.tableswitch 162 0 15 #[79, 84, 89, 94, 99, 104, 109, 114, 122, 127, 132, 137, 142, 147, 152, 157], 79) := dq_get dd_M_about_0 (i := 1) rfl
theorem d_M_about_80 : decode mM_about.2.1 80 = .ok (.aload_n 0, 1) := dq_get dd_M_about_0 (i := 2) rfl
theorem d_M_about_81 : decode mM_about.2.1 81 = .ok (.getfield 322, 3) := dq_get dd_M_about_0 (i := 3) rfl
theorem d_M_about_84 : decode mM_about.2.1 84 = .ok (.ireturn, 1) := dq_get dd_M_about_0 (i := 4) rfl
theorem d_M_about_85 : decode mM_about.2.1 85 = .ok (.aload_n 0, 1) := dq_get dd_M_about_0 (i := 5) rfl
theorem d_M_about_86 : decode mM_about.2.1 86 = .ok (.getfield 405, 3) := dq_get dd_M_about_0 (i := 6) rfl
theorem d_M_about_89 : decode mM_about.2.1 89 = .ok (.ireturn, 1) := dq_get dd_M_about_0 (i := 7) rfl
theorem d_M_about_90 : decode mM_about.2.1 90 = .ok (.aload_n 0, 1) := dq_get dd_M_about_0 (i := 8) rfl
theorem d_M_about_91 : decode mM_about.2.1 91 = .ok (.getfield 78, 3) := dq_get dd_M_about_0 (i := 9) rfl
theorem d_M_about_94 : decode mM_about.2.1 94 = .ok (.ireturn, 1) := dq_get dd_M_about_0 (i := 10) rfl
theorem d_M_about_95 : decode mM_about.2.1 95 = .ok (.aload_n 0, 1) := dq_get dd_M_about_0 (i := 11) rfl
theorem d_M_about_96 : decode mM_about.2.1 96 = .ok (.getfield 81, 3) := dq_get dd_M_about_0 (i := 12) rfl
theorem d_M_about_99 : decode mM_about.2.1 99 = .ok (.ireturn, 1) := dq_get dd_M_about_0 (i := 13) rfl
theorem d_M_about_100 : decode mM_about.2.1 100 = .ok (.aload_n 0, 1) := dq_get dd_M_about_0 (i := 14) rfl
theorem d_M_about_101 : decode mM_about.2.1 101 = .ok (.getfield 84, 3) := dq_get dd_M_about_0 (i := 15) rfl
theorem d_M_about_104 : decode mM_about.2.1 104 = .ok (.ireturn, 1) := dq_get dd_M_about_0 (i := 16) rfl
theorem d_M_about_105 : decode mM_about.2.1 105 = .ok (.aload_n 0, 1) := dq_get dd_M_about_0 (i := 17) rfl
theorem d_M_about_106 : decode mM_about.2.1 106 = .ok (.getfield 87, 3) := dq_get dd_M_about_0 (i := 18) rfl
theorem d_M_about_109 : decode mM_about.2.1 109 = .ok (.ireturn, 1) := dq_get dd_M_about_0 (i := 19) rfl
theorem d_M_about_110 : decode mM_about.2.1 110 = .ok (.aload_n 0, 1) := dq_get dd_M_about_0 (i := 20) rfl
theorem d_M_about_111 : decode mM_about.2.1 111 = .ok (.getfield 90, 3) := dq_get dd_M_about_0 (i := 21) rfl
theorem d_M_about_114 : decode mM_about.2.1 114 = .ok (.ireturn, 1) := dq_get dd_M_about_0 (i := 22) rfl
theorem d_M_about_115 : decode mM_about.2.1 115 = .ok (.aload_n 0, 1) := dq_get dd_M_about_0 (i := 23) rfl
theorem d_M_about_116 : decode mM_about.2.1 116 = .ok (.getfield 93, 3) := dq_get dd_M_about_0 (i := 24) rfl
theorem d_M_about_119 : decode mM_about.2.1 119 = .ok (.bipush 40, 2) := dq_get dd_M_about_0 (i := 25) rfl
theorem d_M_about_121 : decode mM_about.2.1 121 = .ok (.iaload, 1) := dq_get dd_M_about_0 (i := 26) rfl
theorem d_M_about_122 : decode mM_about.2.1 122 = .ok (.ireturn, 1) := dq_get dd_M_about_0 (i := 27) rfl
theorem d_M_about_123 : decode mM_about.2.1 123 = .ok (.aload_n 0, 1) := dq_get dd_M_about_0 (i := 28) rfl
theorem d_M_about_124 : decode mM_about.2.1 124 = .ok (.getfield 417, 3) := dq_get dd_M_about_0 (i := 29) rfl
theorem d_M_about_127 : decode mM_about.2.1 127 = .ok (.ireturn, 1) := dq_get dd_M_about_0 (i := 30) rfl
theorem d_M_about_128 : decode mM_about.2.1 128 = .ok (.aload_n 0, 1) := dq_get dd_M_about_0 (i := 31) rfl
theorem dd_M_about_32 : dq mM_about.2.1 [(129, .getfield 420, 3), (132, .ireturn, 1), (133, .aload_n 0, 1), (134, .getfield 423, 3), (137, .ireturn, 1), (138, .aload_n 0, 1), (139, .getfield 539, 3), (142, .ireturn, 1), (143, .aload_n 0, 1), (144, .getfield 145, 3), (147, .ireturn, 1), (148, .aload_n 0, 1), (149, .getfield 408, 3), (152, .ireturn, 1), (153, .aload_n 0, 1), (154, .getfield 426, 3), (157, .ireturn, 1), (158, .aload_n 0, 1), (159, .invokevirtual 556, 3), (162, .ireturn, 1), (163, .iconst (-1), 1), (164, .ireturn, 1)] = true := by decide +kernel
theorem d_M_about_129 : decode mM_about.2.1 129 = .ok (.getfield 420, 3) := dq_get dd_M_about_32 (i := 0) rfl
theorem d_M_about_132 : decode mM_about.2.1 132 = .ok (.ireturn, 1) := dq_get dd_M_about_32 (i := 1) rfl
theorem d_M_about_133 : decode mM_about.2.1 133 = .ok (.aload_n 0, 1) := dq_get dd_M_about_32 (i := 2) rfl
theorem d_M_about_134 : decode mM_about.2.1 134 = .ok (.getfield 423, 3) := dq_get dd_M_about_32 (i := 3) rfl
theorem d_M_about_137 : decode mM_about.2.1 137 = .ok (.ireturn, 1) := dq_get dd_M_about_32 (i := 4) rfl
theorem d_M_about_138 : decode mM_about.2.1 138 = .ok (.aload_n 0, 1) := dq_get dd_M_about_32 (i := 5) rfl
theorem d_M_about_139 : decode mM_about.2.1 139 = .ok (.getfield 539, 3) := dq_get dd_M_about_32 (i := 6) rfl
theorem d_M_about_142 : decode mM_about.2.1 142 = .ok (.ireturn, 1) := dq_get dd_M_about_32 (i := 7) rfl
theorem d_M_about_143 : decode mM_about.2.1 143 = .ok (.aload_n 0, 1) := dq_get dd_M_about_32 (i := 8) rfl
theorem d_M_about_144 : decode mM_about.2.1 144 = .ok (.getfield 145, 3) := dq_get dd_M_about_32 (i := 9) rfl
theorem d_M_about_147 : decode mM_about.2.1 147 = .ok (.ireturn, 1) := dq_get dd_M_about_32 (i := 10) rfl
theorem d_M_about_148 : decode mM_about.2.1 148 = .ok (.aload_n 0, 1) := dq_get dd_M_about_32 (i := 11) rfl
theorem d_M_about_149 : decode mM_about.2.1 149 = .ok (.getfield 408, 3) := dq_get dd_M_about_32 (i := 12) rfl
theorem d_M_about_152 : decode mM_about.2.1 152 = .ok (.ireturn, 1) := dq_get dd_M_about_32 (i := 13) rfl
theorem d_M_about_153 : decode mM_about.2.1 153 = .ok (.aload_n 0, 1) := dq_get dd_M_about_32 (i := 14) rfl
theorem d_M_about_154 : decode mM_about.2.1 154 = .ok (.getfield 426, 3) := dq_get dd_M_about_32 (i := 15) rfl
theorem d_M_about_157 : decode mM_about.2.1 157 = .ok (.ireturn, 1) := dq_get dd_M_about_32 (i := 16) rfl
theorem d_M_about_158 : decode mM_about.2.1 158 = .ok (.aload_n 0, 1) := dq_get dd_M_about_32 (i := 17) rfl
theorem d_M_about_159 : decode mM_about.2.1 159 = .ok (.invokevirtual 556, 3) := dq_get dd_M_about_32 (i := 18) rfl
theorem d_M_about_162 : decode mM_about.2.1 162 = .ok (.ireturn, 1) := dq_get dd_M_about_32 (i := 19) rfl
theorem d_M_about_163 : decode mM_about.2.1 163 = .ok (.iconst (-1), 1) := dq_get dd_M_about_32 (i := 20) rfl
theorem d_M_about_164 : decode mM_about.2.1 164 = .ok (.ireturn, 1) := dq_get dd_M_about_32 (i := 21) rfl
