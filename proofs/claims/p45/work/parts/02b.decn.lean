theorem dd_R_init_0 : dq mR_init.2.1 [(0, .aload_n 0, 1), (1, .invokespecial 3, 3), (4, .aload_n 0, 1), (5, .iconst (-1), 1), (6, .putfield 9, 3), (9, .aload_n 0, 1), (10, .new 15, 3), (13, .dup, 1), (14, .invokespecial 17, 3), (17, .putfield 18, 3), (20, .aload_n 0, 1), (21, .new 22, 3), (24, .dup, 1), (25, .invokespecial 24, 3), (28, .putfield 25, 3), (31, .return_, 1)] = true := by decide +kernel
theorem d_R_init_0 : decode mR_init.2.1 0 = .ok (.aload_n 0, 1) := dq_get dd_R_init_0 (i := 0) rfl
theorem d_R_init_1 : decode mR_init.2.1 1 = .ok (.invokespecial 3, 3) := dq_get dd_R_init_0 (i := 1) rfl
theorem d_R_init_4 : decode mR_init.2.1 4 = .ok (.aload_n 0, 1) := dq_get dd_R_init_0 (i := 2) rfl
theorem d_R_init_5 : decode mR_init.2.1 5 = .ok (.iconst (-1), 1) := dq_get dd_R_init_0 (i := 3) rfl
theorem d_R_init_6 : decode mR_init.2.1 6 = .ok (.putfield 9, 3) := dq_get dd_R_init_0 (i := 4) rfl
theorem d_R_init_9 : decode mR_init.2.1 9 = .ok (.aload_n 0, 1) := dq_get dd_R_init_0 (i := 5) rfl
theorem d_R_init_10 : decode mR_init.2.1 10 = .ok (.new 15, 3) := dq_get dd_R_init_0 (i := 6) rfl
theorem d_R_init_13 : decode mR_init.2.1 13 = .ok (.dup, 1) := dq_get dd_R_init_0 (i := 7) rfl
theorem d_R_init_14 : decode mR_init.2.1 14 = .ok (.invokespecial 17, 3) := dq_get dd_R_init_0 (i := 8) rfl
theorem d_R_init_17 : decode mR_init.2.1 17 = .ok (.putfield 18, 3) := dq_get dd_R_init_0 (i := 9) rfl
theorem d_R_init_20 : decode mR_init.2.1 20 = .ok (.aload_n 0, 1) := dq_get dd_R_init_0 (i := 10) rfl
theorem d_R_init_21 : decode mR_init.2.1 21 = .ok (.new 22, 3) := dq_get dd_R_init_0 (i := 11) rfl
theorem d_R_init_24 : decode mR_init.2.1 24 = .ok (.dup, 1) := dq_get dd_R_init_0 (i := 12) rfl
theorem d_R_init_25 : decode mR_init.2.1 25 = .ok (.invokespecial 24, 3) := dq_get dd_R_init_0 (i := 13) rfl
theorem d_R_init_28 : decode mR_init.2.1 28 = .ok (.putfield 25, 3) := dq_get dd_R_init_0 (i := 14) rfl
theorem d_R_init_31 : decode mR_init.2.1 31 = .ok (.return_, 1) := dq_get dd_R_init_0 (i := 15) rfl
theorem dd_T_init_0 : dq mT_init.2.1 [(0, .aload_n 0, 1), (1, .invokespecial 3, 3), (4, .aload_n 0, 1), (5, .sipush 1600, 3), (8, .newarray .byte, 2), (10, .putfield 9, 3), (13, .return_, 1)] = true := by decide +kernel
theorem d_T_init_0 : decode mT_init.2.1 0 = .ok (.aload_n 0, 1) := dq_get dd_T_init_0 (i := 0) rfl
theorem d_T_init_1 : decode mT_init.2.1 1 = .ok (.invokespecial 3, 3) := dq_get dd_T_init_0 (i := 1) rfl
theorem d_T_init_4 : decode mT_init.2.1 4 = .ok (.aload_n 0, 1) := dq_get dd_T_init_0 (i := 2) rfl
theorem d_T_init_5 : decode mT_init.2.1 5 = .ok (.sipush 1600, 3) := dq_get dd_T_init_0 (i := 3) rfl
theorem d_T_init_8 : decode mT_init.2.1 8 = .ok (.newarray .byte, 2) := dq_get dd_T_init_0 (i := 4) rfl
theorem d_T_init_10 : decode mT_init.2.1 10 = .ok (.putfield 9, 3) := dq_get dd_T_init_0 (i := 5) rfl
theorem d_T_init_13 : decode mT_init.2.1 13 = .ok (.return_, 1) := dq_get dd_T_init_0 (i := 6) rfl
theorem dd_S_init_0 : dq mS_init.2.1 [(0, .aload_n 0, 1), (1, .invokespecial 3, 3), (4, .aload_n 0, 1), (5, .iconst 4, 1), (6, .newarray .long, 2), (8, .putfield 9, 3), (11, .aload_n 0, 1), (12, .iconst 4, 1), (13, .newarray .int, 2), (15, .putfield 15, 3), (18, .aload_n 0, 1), (19, .bipush 10, 2), (21, .newarray .long, 2), (23, .putfield 19, 3), (26, .aload_n 0, 1), (27, .bipush 10, 2), (29, .newarray .int, 2), (31, .putfield 22, 3), (34, .aload_n 0, 1), (35, .bipush 10, 2), (37, .newarray .int, 2), (39, .putfield 25, 3), (42, .aload_n 0, 1), (43, .bipush 10, 2), (45, .newarray .int, 2), (47, .putfield 28, 3), (50, .aload_n 0, 1), (51, .bipush 10, 2), (53, .newarray .int, 2), (55, .putfield 31, 3), (58, .aload_n 0, 1), (59, .bipush 10, 2)] = true := by decide +kernel
theorem d_S_init_0 : decode mS_init.2.1 0 = .ok (.aload_n 0, 1) := dq_get dd_S_init_0 (i := 0) rfl
theorem d_S_init_1 : decode mS_init.2.1 1 = .ok (.invokespecial 3, 3) := dq_get dd_S_init_0 (i := 1) rfl
theorem d_S_init_4 : decode mS_init.2.1 4 = .ok (.aload_n 0, 1) := dq_get dd_S_init_0 (i := 2) rfl
theorem d_S_init_5 : decode mS_init.2.1 5 = .ok (.iconst 4, 1) := dq_get dd_S_init_0 (i := 3) rfl
theorem d_S_init_6 : decode mS_init.2.1 6 = .ok (.newarray .long, 2) := dq_get dd_S_init_0 (i := 4) rfl
theorem d_S_init_8 : decode mS_init.2.1 8 = .ok (.putfield 9, 3) := dq_get dd_S_init_0 (i := 5) rfl
theorem d_S_init_11 : decode mS_init.2.1 11 = .ok (.aload_n 0, 1) := dq_get dd_S_init_0 (i := 6) rfl
theorem d_S_init_12 : decode mS_init.2.1 12 = .ok (.iconst 4, 1) := dq_get dd_S_init_0 (i := 7) rfl
theorem d_S_init_13 : decode mS_init.2.1 13 = .ok (.newarray .int, 2) := dq_get dd_S_init_0 (i := 8) rfl
theorem d_S_init_15 : decode mS_init.2.1 15 = .ok (.putfield 15, 3) := dq_get dd_S_init_0 (i := 9) rfl
theorem d_S_init_18 : decode mS_init.2.1 18 = .ok (.aload_n 0, 1) := dq_get dd_S_init_0 (i := 10) rfl
theorem d_S_init_19 : decode mS_init.2.1 19 = .ok (.bipush 10, 2) := dq_get dd_S_init_0 (i := 11) rfl
theorem d_S_init_21 : decode mS_init.2.1 21 = .ok (.newarray .long, 2) := dq_get dd_S_init_0 (i := 12) rfl
theorem d_S_init_23 : decode mS_init.2.1 23 = .ok (.putfield 19, 3) := dq_get dd_S_init_0 (i := 13) rfl
theorem d_S_init_26 : decode mS_init.2.1 26 = .ok (.aload_n 0, 1) := dq_get dd_S_init_0 (i := 14) rfl
theorem d_S_init_27 : decode mS_init.2.1 27 = .ok (.bipush 10, 2) := dq_get dd_S_init_0 (i := 15) rfl
theorem d_S_init_29 : decode mS_init.2.1 29 = .ok (.newarray .int, 2) := dq_get dd_S_init_0 (i := 16) rfl
theorem d_S_init_31 : decode mS_init.2.1 31 = .ok (.putfield 22, 3) := dq_get dd_S_init_0 (i := 17) rfl
theorem d_S_init_34 : decode mS_init.2.1 34 = .ok (.aload_n 0, 1) := dq_get dd_S_init_0 (i := 18) rfl
theorem d_S_init_35 : decode mS_init.2.1 35 = .ok (.bipush 10, 2) := dq_get dd_S_init_0 (i := 19) rfl
theorem d_S_init_37 : decode mS_init.2.1 37 = .ok (.newarray .int, 2) := dq_get dd_S_init_0 (i := 20) rfl
theorem d_S_init_39 : decode mS_init.2.1 39 = .ok (.putfield 25, 3) := dq_get dd_S_init_0 (i := 21) rfl
theorem d_S_init_42 : decode mS_init.2.1 42 = .ok (.aload_n 0, 1) := dq_get dd_S_init_0 (i := 22) rfl
theorem d_S_init_43 : decode mS_init.2.1 43 = .ok (.bipush 10, 2) := dq_get dd_S_init_0 (i := 23) rfl
theorem d_S_init_45 : decode mS_init.2.1 45 = .ok (.newarray .int, 2) := dq_get dd_S_init_0 (i := 24) rfl
theorem d_S_init_47 : decode mS_init.2.1 47 = .ok (.putfield 28, 3) := dq_get dd_S_init_0 (i := 25) rfl
theorem d_S_init_50 : decode mS_init.2.1 50 = .ok (.aload_n 0, 1) := dq_get dd_S_init_0 (i := 26) rfl
theorem d_S_init_51 : decode mS_init.2.1 51 = .ok (.bipush 10, 2) := dq_get dd_S_init_0 (i := 27) rfl
theorem d_S_init_53 : decode mS_init.2.1 53 = .ok (.newarray .int, 2) := dq_get dd_S_init_0 (i := 28) rfl
theorem d_S_init_55 : decode mS_init.2.1 55 = .ok (.putfield 31, 3) := dq_get dd_S_init_0 (i := 29) rfl
theorem d_S_init_58 : decode mS_init.2.1 58 = .ok (.aload_n 0, 1) := dq_get dd_S_init_0 (i := 30) rfl
theorem d_S_init_59 : decode mS_init.2.1 59 = .ok (.bipush 10, 2) := dq_get dd_S_init_0 (i := 31) rfl
theorem dd_S_init_32 : dq mS_init.2.1 [(61, .newarray .int, 2), (63, .putfield 34, 3), (66, .aload_n 0, 1), (67, .new 37, 3), (70, .dup, 1), (71, .invokespecial 39, 3), (74, .putfield 40, 3), (77, .aload_n 0, 1), (78, .invokevirtual 44, 3), (81, .return_, 1)] = true := by decide +kernel
theorem d_S_init_61 : decode mS_init.2.1 61 = .ok (.newarray .int, 2) := dq_get dd_S_init_32 (i := 0) rfl
theorem d_S_init_63 : decode mS_init.2.1 63 = .ok (.putfield 34, 3) := dq_get dd_S_init_32 (i := 1) rfl
theorem d_S_init_66 : decode mS_init.2.1 66 = .ok (.aload_n 0, 1) := dq_get dd_S_init_32 (i := 2) rfl
theorem d_S_init_67 : decode mS_init.2.1 67 = .ok (.new 37, 3) := dq_get dd_S_init_32 (i := 3) rfl
theorem d_S_init_70 : decode mS_init.2.1 70 = .ok (.dup, 1) := dq_get dd_S_init_32 (i := 4) rfl
theorem d_S_init_71 : decode mS_init.2.1 71 = .ok (.invokespecial 39, 3) := dq_get dd_S_init_32 (i := 5) rfl
theorem d_S_init_74 : decode mS_init.2.1 74 = .ok (.putfield 40, 3) := dq_get dd_S_init_32 (i := 6) rfl
theorem d_S_init_77 : decode mS_init.2.1 77 = .ok (.aload_n 0, 1) := dq_get dd_S_init_32 (i := 7) rfl
theorem d_S_init_78 : decode mS_init.2.1 78 = .ok (.invokevirtual 44, 3) := dq_get dd_S_init_32 (i := 8) rfl
theorem d_S_init_81 : decode mS_init.2.1 81 = .ok (.return_, 1) := dq_get dd_S_init_32 (i := 9) rfl
theorem dd_F_init_0 : dq mF_init.2.1 [(0, .aload_n 0, 1), (1, .invokespecial 3, 3), (4, .aload_n 0, 1), (5, .sipush 270, 3), (8, .newarray .int, 2), (10, .putfield 9, 3), (13, .aload_n 0, 1), (14, .bipush 31, 2), (16, .newarray .int, 2), (18, .putfield 13, 3), (21, .aload_n 0, 1), (22, .bipush 6, 2), (24, .newarray .int, 2), (26, .putfield 18, 3), (29, .return_, 1)] = true := by decide +kernel
theorem d_F_init_0 : decode mF_init.2.1 0 = .ok (.aload_n 0, 1) := dq_get dd_F_init_0 (i := 0) rfl
theorem d_F_init_1 : decode mF_init.2.1 1 = .ok (.invokespecial 3, 3) := dq_get dd_F_init_0 (i := 1) rfl
theorem d_F_init_4 : decode mF_init.2.1 4 = .ok (.aload_n 0, 1) := dq_get dd_F_init_0 (i := 2) rfl
theorem d_F_init_5 : decode mF_init.2.1 5 = .ok (.sipush 270, 3) := dq_get dd_F_init_0 (i := 3) rfl
theorem d_F_init_8 : decode mF_init.2.1 8 = .ok (.newarray .int, 2) := dq_get dd_F_init_0 (i := 4) rfl
theorem d_F_init_10 : decode mF_init.2.1 10 = .ok (.putfield 9, 3) := dq_get dd_F_init_0 (i := 5) rfl
theorem d_F_init_13 : decode mF_init.2.1 13 = .ok (.aload_n 0, 1) := dq_get dd_F_init_0 (i := 6) rfl
theorem d_F_init_14 : decode mF_init.2.1 14 = .ok (.bipush 31, 2) := dq_get dd_F_init_0 (i := 7) rfl
theorem d_F_init_16 : decode mF_init.2.1 16 = .ok (.newarray .int, 2) := dq_get dd_F_init_0 (i := 8) rfl
theorem d_F_init_18 : decode mF_init.2.1 18 = .ok (.putfield 13, 3) := dq_get dd_F_init_0 (i := 9) rfl
theorem d_F_init_21 : decode mF_init.2.1 21 = .ok (.aload_n 0, 1) := dq_get dd_F_init_0 (i := 10) rfl
theorem d_F_init_22 : decode mF_init.2.1 22 = .ok (.bipush 6, 2) := dq_get dd_F_init_0 (i := 11) rfl
theorem d_F_init_24 : decode mF_init.2.1 24 = .ok (.newarray .int, 2) := dq_get dd_F_init_0 (i := 12) rfl
theorem d_F_init_26 : decode mF_init.2.1 26 = .ok (.putfield 18, 3) := dq_get dd_F_init_0 (i := 13) rfl
theorem d_F_init_29 : decode mF_init.2.1 29 = .ok (.return_, 1) := dq_get dd_F_init_0 (i := 14) rfl
theorem dd_S_forget_0 : dq mS_forget.2.1 [(0, .aload_n 0, 1), (1, .bipush 12, 2), (3, .putfield 47, 3), (6, .aload_n 0, 1), (7, .bipush 12, 2), (9, .putfield 51, 3), (12, .aload_n 0, 1), (13, .iconst 5, 1), (14, .putfield 54, 3), (17, .aload_n 0, 1), (18, .bipush 20, 2), (20, .putfield 57, 3), (23, .aload_n 0, 1), (24, .iconst 2, 1), (25, .putfield 60, 3), (28, .aload_n 0, 1), (29, .iconst 0, 1), (30, .putfield 63, 3), (33, .aload_n 0, 1), (34, .iconst 0, 1), (35, .putfield 66, 3), (38, .aload_n 0, 1), (39, .getfield 40, 3), (42, .invokevirtual 69, 3), (45, .return_, 1)] = true := by decide +kernel
theorem d_S_forget_0 : decode mS_forget.2.1 0 = .ok (.aload_n 0, 1) := dq_get dd_S_forget_0 (i := 0) rfl
theorem d_S_forget_1 : decode mS_forget.2.1 1 = .ok (.bipush 12, 2) := dq_get dd_S_forget_0 (i := 1) rfl
theorem d_S_forget_3 : decode mS_forget.2.1 3 = .ok (.putfield 47, 3) := dq_get dd_S_forget_0 (i := 2) rfl
theorem d_S_forget_6 : decode mS_forget.2.1 6 = .ok (.aload_n 0, 1) := dq_get dd_S_forget_0 (i := 3) rfl
theorem d_S_forget_7 : decode mS_forget.2.1 7 = .ok (.bipush 12, 2) := dq_get dd_S_forget_0 (i := 4) rfl
theorem d_S_forget_9 : decode mS_forget.2.1 9 = .ok (.putfield 51, 3) := dq_get dd_S_forget_0 (i := 5) rfl
theorem d_S_forget_12 : decode mS_forget.2.1 12 = .ok (.aload_n 0, 1) := dq_get dd_S_forget_0 (i := 6) rfl
theorem d_S_forget_13 : decode mS_forget.2.1 13 = .ok (.iconst 5, 1) := dq_get dd_S_forget_0 (i := 7) rfl
theorem d_S_forget_14 : decode mS_forget.2.1 14 = .ok (.putfield 54, 3) := dq_get dd_S_forget_0 (i := 8) rfl
theorem d_S_forget_17 : decode mS_forget.2.1 17 = .ok (.aload_n 0, 1) := dq_get dd_S_forget_0 (i := 9) rfl
theorem d_S_forget_18 : decode mS_forget.2.1 18 = .ok (.bipush 20, 2) := dq_get dd_S_forget_0 (i := 10) rfl
theorem d_S_forget_20 : decode mS_forget.2.1 20 = .ok (.putfield 57, 3) := dq_get dd_S_forget_0 (i := 11) rfl
theorem d_S_forget_23 : decode mS_forget.2.1 23 = .ok (.aload_n 0, 1) := dq_get dd_S_forget_0 (i := 12) rfl
theorem d_S_forget_24 : decode mS_forget.2.1 24 = .ok (.iconst 2, 1) := dq_get dd_S_forget_0 (i := 13) rfl
theorem d_S_forget_25 : decode mS_forget.2.1 25 = .ok (.putfield 60, 3) := dq_get dd_S_forget_0 (i := 14) rfl
theorem d_S_forget_28 : decode mS_forget.2.1 28 = .ok (.aload_n 0, 1) := dq_get dd_S_forget_0 (i := 15) rfl
theorem d_S_forget_29 : decode mS_forget.2.1 29 = .ok (.iconst 0, 1) := dq_get dd_S_forget_0 (i := 16) rfl
theorem d_S_forget_30 : decode mS_forget.2.1 30 = .ok (.putfield 63, 3) := dq_get dd_S_forget_0 (i := 17) rfl
theorem d_S_forget_33 : decode mS_forget.2.1 33 = .ok (.aload_n 0, 1) := dq_get dd_S_forget_0 (i := 18) rfl
theorem d_S_forget_34 : decode mS_forget.2.1 34 = .ok (.iconst 0, 1) := dq_get dd_S_forget_0 (i := 19) rfl
theorem d_S_forget_35 : decode mS_forget.2.1 35 = .ok (.putfield 66, 3) := dq_get dd_S_forget_0 (i := 20) rfl
theorem d_S_forget_38 : decode mS_forget.2.1 38 = .ok (.aload_n 0, 1) := dq_get dd_S_forget_0 (i := 21) rfl
theorem d_S_forget_39 : decode mS_forget.2.1 39 = .ok (.getfield 40, 3) := dq_get dd_S_forget_0 (i := 22) rfl
theorem d_S_forget_42 : decode mS_forget.2.1 42 = .ok (.invokevirtual 69, 3) := dq_get dd_S_forget_0 (i := 23) rfl
theorem d_S_forget_45 : decode mS_forget.2.1 45 = .ok (.return_, 1) := dq_get dd_S_forget_0 (i := 24) rfl
theorem dd_F_forget_0 : dq mF_forget.2.1 [(0, .aload_n 0, 1), (1, .iconst 0, 1), (2, .putfield 21, 3), (5, .aload_n 0, 1), (6, .iconst 0, 1), (7, .putfield 25, 3), (10, .return_, 1)] = true := by decide +kernel
theorem d_F_forget_0 : decode mF_forget.2.1 0 = .ok (.aload_n 0, 1) := dq_get dd_F_forget_0 (i := 0) rfl
theorem d_F_forget_1 : decode mF_forget.2.1 1 = .ok (.iconst 0, 1) := dq_get dd_F_forget_0 (i := 1) rfl
theorem d_F_forget_2 : decode mF_forget.2.1 2 = .ok (.putfield 21, 3) := dq_get dd_F_forget_0 (i := 2) rfl
theorem d_F_forget_5 : decode mF_forget.2.1 5 = .ok (.aload_n 0, 1) := dq_get dd_F_forget_0 (i := 3) rfl
theorem d_F_forget_6 : decode mF_forget.2.1 6 = .ok (.iconst 0, 1) := dq_get dd_F_forget_0 (i := 4) rfl
theorem d_F_forget_7 : decode mF_forget.2.1 7 = .ok (.putfield 25, 3) := dq_get dd_F_forget_0 (i := 5) rfl
theorem d_F_forget_10 : decode mF_forget.2.1 10 = .ok (.return_, 1) := dq_get dd_F_forget_0 (i := 6) rfl
theorem dd_L_init_0 : dq mL_init.2.1 [(0, .aload_n 0, 1), (1, .invokespecial 3, 3), (4, .aload_n 0, 1), (5, .bipush 10, 2), (7, .newarray .int, 2), (9, .putfield 9, 3), (12, .aload_n 0, 1), (13, .bipush 10, 2), (15, .newarray .int, 2), (17, .putfield 15, 3), (20, .aload_n 0, 1), (21, .bipush 10, 2), (23, .newarray .int, 2), (25, .putfield 18, 3), (28, .aload_n 0, 1), (29, .bipush 10, 2), (31, .newarray .int, 2), (33, .putfield 21, 3), (36, .return_, 1)] = true := by decide +kernel
theorem d_L_init_0 : decode mL_init.2.1 0 = .ok (.aload_n 0, 1) := dq_get dd_L_init_0 (i := 0) rfl
theorem d_L_init_1 : decode mL_init.2.1 1 = .ok (.invokespecial 3, 3) := dq_get dd_L_init_0 (i := 1) rfl
theorem d_L_init_4 : decode mL_init.2.1 4 = .ok (.aload_n 0, 1) := dq_get dd_L_init_0 (i := 2) rfl
theorem d_L_init_5 : decode mL_init.2.1 5 = .ok (.bipush 10, 2) := dq_get dd_L_init_0 (i := 3) rfl
theorem d_L_init_7 : decode mL_init.2.1 7 = .ok (.newarray .int, 2) := dq_get dd_L_init_0 (i := 4) rfl
theorem d_L_init_9 : decode mL_init.2.1 9 = .ok (.putfield 9, 3) := dq_get dd_L_init_0 (i := 5) rfl
theorem d_L_init_12 : decode mL_init.2.1 12 = .ok (.aload_n 0, 1) := dq_get dd_L_init_0 (i := 6) rfl
theorem d_L_init_13 : decode mL_init.2.1 13 = .ok (.bipush 10, 2) := dq_get dd_L_init_0 (i := 7) rfl
theorem d_L_init_15 : decode mL_init.2.1 15 = .ok (.newarray .int, 2) := dq_get dd_L_init_0 (i := 8) rfl
theorem d_L_init_17 : decode mL_init.2.1 17 = .ok (.putfield 15, 3) := dq_get dd_L_init_0 (i := 9) rfl
theorem d_L_init_20 : decode mL_init.2.1 20 = .ok (.aload_n 0, 1) := dq_get dd_L_init_0 (i := 10) rfl
theorem d_L_init_21 : decode mL_init.2.1 21 = .ok (.bipush 10, 2) := dq_get dd_L_init_0 (i := 11) rfl
theorem d_L_init_23 : decode mL_init.2.1 23 = .ok (.newarray .int, 2) := dq_get dd_L_init_0 (i := 12) rfl
theorem d_L_init_25 : decode mL_init.2.1 25 = .ok (.putfield 18, 3) := dq_get dd_L_init_0 (i := 13) rfl
theorem d_L_init_28 : decode mL_init.2.1 28 = .ok (.aload_n 0, 1) := dq_get dd_L_init_0 (i := 14) rfl
theorem d_L_init_29 : decode mL_init.2.1 29 = .ok (.bipush 10, 2) := dq_get dd_L_init_0 (i := 15) rfl
theorem d_L_init_31 : decode mL_init.2.1 31 = .ok (.newarray .int, 2) := dq_get dd_L_init_0 (i := 16) rfl
theorem d_L_init_33 : decode mL_init.2.1 33 = .ok (.putfield 21, 3) := dq_get dd_L_init_0 (i := 17) rfl
theorem d_L_init_36 : decode mL_init.2.1 36 = .ok (.return_, 1) := dq_get dd_L_init_0 (i := 18) rfl
theorem dd_C_init_0 : dq mC_init.2.1 [(0, .aload_n 0, 1), (1, .invokespecial 3, 3), (4, .aload_n 0, 1), (5, .bipush 40, 2), (7, .newarray .int, 2), (9, .putfield 9, 3), (12, .aload_n 0, 1), (13, .bipush 40, 2), (15, .newarray .int, 2), (17, .putfield 15, 3), (20, .aload_n 0, 1), (21, .bipush 40, 2), (23, .newarray .int, 2), (25, .putfield 18, 3), (28, .aload_n 0, 1), (29, .bipush 40, 2), (31, .newarray .int, 2), (33, .putfield 21, 3), (36, .return_, 1)] = true := by decide +kernel
theorem d_C_init_0 : decode mC_init.2.1 0 = .ok (.aload_n 0, 1) := dq_get dd_C_init_0 (i := 0) rfl
theorem d_C_init_1 : decode mC_init.2.1 1 = .ok (.invokespecial 3, 3) := dq_get dd_C_init_0 (i := 1) rfl
theorem d_C_init_4 : decode mC_init.2.1 4 = .ok (.aload_n 0, 1) := dq_get dd_C_init_0 (i := 2) rfl
theorem d_C_init_5 : decode mC_init.2.1 5 = .ok (.bipush 40, 2) := dq_get dd_C_init_0 (i := 3) rfl
theorem d_C_init_7 : decode mC_init.2.1 7 = .ok (.newarray .int, 2) := dq_get dd_C_init_0 (i := 4) rfl
theorem d_C_init_9 : decode mC_init.2.1 9 = .ok (.putfield 9, 3) := dq_get dd_C_init_0 (i := 5) rfl
theorem d_C_init_12 : decode mC_init.2.1 12 = .ok (.aload_n 0, 1) := dq_get dd_C_init_0 (i := 6) rfl
theorem d_C_init_13 : decode mC_init.2.1 13 = .ok (.bipush 40, 2) := dq_get dd_C_init_0 (i := 7) rfl
theorem d_C_init_15 : decode mC_init.2.1 15 = .ok (.newarray .int, 2) := dq_get dd_C_init_0 (i := 8) rfl
theorem d_C_init_17 : decode mC_init.2.1 17 = .ok (.putfield 15, 3) := dq_get dd_C_init_0 (i := 9) rfl
theorem d_C_init_20 : decode mC_init.2.1 20 = .ok (.aload_n 0, 1) := dq_get dd_C_init_0 (i := 10) rfl
theorem d_C_init_21 : decode mC_init.2.1 21 = .ok (.bipush 40, 2) := dq_get dd_C_init_0 (i := 11) rfl
theorem d_C_init_23 : decode mC_init.2.1 23 = .ok (.newarray .int, 2) := dq_get dd_C_init_0 (i := 12) rfl
theorem d_C_init_25 : decode mC_init.2.1 25 = .ok (.putfield 18, 3) := dq_get dd_C_init_0 (i := 13) rfl
theorem d_C_init_28 : decode mC_init.2.1 28 = .ok (.aload_n 0, 1) := dq_get dd_C_init_0 (i := 14) rfl
theorem d_C_init_29 : decode mC_init.2.1 29 = .ok (.bipush 40, 2) := dq_get dd_C_init_0 (i := 15) rfl
theorem d_C_init_31 : decode mC_init.2.1 31 = .ok (.newarray .int, 2) := dq_get dd_C_init_0 (i := 16) rfl
theorem d_C_init_33 : decode mC_init.2.1 33 = .ok (.putfield 21, 3) := dq_get dd_C_init_0 (i := 17) rfl
theorem d_C_init_36 : decode mC_init.2.1 36 = .ok (.return_, 1) := dq_get dd_C_init_0 (i := 18) rfl
theorem dd_A_init_0 : dq mA_init.2.1 [(0, .aload_n 0, 1), (1, .invokespecial 3, 3), (4, .aload_n 0, 1), (5, .new 9, 3), (8, .dup, 1), (9, .invokespecial 11, 3), (12, .putfield 12, 3), (15, .aload_n 0, 1), (16, .bipush 10, 2), (18, .newarray .int, 2), (20, .putfield 18, 3), (23, .aload_n 0, 1), (24, .bipush 10, 2), (26, .newarray .int, 2), (28, .putfield 22, 3), (31, .aload_n 0, 1), (32, .bipush 10, 2), (34, .newarray .int, 2), (36, .putfield 25, 3), (39, .aload_n 0, 1), (40, .bipush 10, 2), (42, .newarray .int, 2), (44, .putfield 28, 3), (47, .aload_n 0, 1), (48, .bipush 10, 2), (50, .newarray .int, 2), (52, .putfield 31, 3), (55, .return_, 1)] = true := by decide +kernel
theorem d_A_init_0 : decode mA_init.2.1 0 = .ok (.aload_n 0, 1) := dq_get dd_A_init_0 (i := 0) rfl
theorem d_A_init_1 : decode mA_init.2.1 1 = .ok (.invokespecial 3, 3) := dq_get dd_A_init_0 (i := 1) rfl
theorem d_A_init_4 : decode mA_init.2.1 4 = .ok (.aload_n 0, 1) := dq_get dd_A_init_0 (i := 2) rfl
theorem d_A_init_5 : decode mA_init.2.1 5 = .ok (.new 9, 3) := dq_get dd_A_init_0 (i := 3) rfl
theorem d_A_init_8 : decode mA_init.2.1 8 = .ok (.dup, 1) := dq_get dd_A_init_0 (i := 4) rfl
theorem d_A_init_9 : decode mA_init.2.1 9 = .ok (.invokespecial 11, 3) := dq_get dd_A_init_0 (i := 5) rfl
theorem d_A_init_12 : decode mA_init.2.1 12 = .ok (.putfield 12, 3) := dq_get dd_A_init_0 (i := 6) rfl
theorem d_A_init_15 : decode mA_init.2.1 15 = .ok (.aload_n 0, 1) := dq_get dd_A_init_0 (i := 7) rfl
theorem d_A_init_16 : decode mA_init.2.1 16 = .ok (.bipush 10, 2) := dq_get dd_A_init_0 (i := 8) rfl
theorem d_A_init_18 : decode mA_init.2.1 18 = .ok (.newarray .int, 2) := dq_get dd_A_init_0 (i := 9) rfl
theorem d_A_init_20 : decode mA_init.2.1 20 = .ok (.putfield 18, 3) := dq_get dd_A_init_0 (i := 10) rfl
theorem d_A_init_23 : decode mA_init.2.1 23 = .ok (.aload_n 0, 1) := dq_get dd_A_init_0 (i := 11) rfl
theorem d_A_init_24 : decode mA_init.2.1 24 = .ok (.bipush 10, 2) := dq_get dd_A_init_0 (i := 12) rfl
theorem d_A_init_26 : decode mA_init.2.1 26 = .ok (.newarray .int, 2) := dq_get dd_A_init_0 (i := 13) rfl
theorem d_A_init_28 : decode mA_init.2.1 28 = .ok (.putfield 22, 3) := dq_get dd_A_init_0 (i := 14) rfl
theorem d_A_init_31 : decode mA_init.2.1 31 = .ok (.aload_n 0, 1) := dq_get dd_A_init_0 (i := 15) rfl
theorem d_A_init_32 : decode mA_init.2.1 32 = .ok (.bipush 10, 2) := dq_get dd_A_init_0 (i := 16) rfl
theorem d_A_init_34 : decode mA_init.2.1 34 = .ok (.newarray .int, 2) := dq_get dd_A_init_0 (i := 17) rfl
theorem d_A_init_36 : decode mA_init.2.1 36 = .ok (.putfield 25, 3) := dq_get dd_A_init_0 (i := 18) rfl
theorem d_A_init_39 : decode mA_init.2.1 39 = .ok (.aload_n 0, 1) := dq_get dd_A_init_0 (i := 19) rfl
theorem d_A_init_40 : decode mA_init.2.1 40 = .ok (.bipush 10, 2) := dq_get dd_A_init_0 (i := 20) rfl
theorem d_A_init_42 : decode mA_init.2.1 42 = .ok (.newarray .int, 2) := dq_get dd_A_init_0 (i := 21) rfl
theorem d_A_init_44 : decode mA_init.2.1 44 = .ok (.putfield 28, 3) := dq_get dd_A_init_0 (i := 22) rfl
theorem d_A_init_47 : decode mA_init.2.1 47 = .ok (.aload_n 0, 1) := dq_get dd_A_init_0 (i := 23) rfl
theorem d_A_init_48 : decode mA_init.2.1 48 = .ok (.bipush 10, 2) := dq_get dd_A_init_0 (i := 24) rfl
theorem d_A_init_50 : decode mA_init.2.1 50 = .ok (.newarray .int, 2) := dq_get dd_A_init_0 (i := 25) rfl
theorem d_A_init_52 : decode mA_init.2.1 52 = .ok (.putfield 31, 3) := dq_get dd_A_init_0 (i := 26) rfl
theorem d_A_init_55 : decode mA_init.2.1 55 = .ok (.return_, 1) := dq_get dd_A_init_0 (i := 27) rfl
theorem dd_K_init_0 : dq mK_init.2.1 [(0, .aload_n 0, 1), (1, .invokespecial 3, 3), (4, .aload_n 0, 1), (5, .bipush 10, 2), (7, .newarray .int, 2), (9, .putfield 9, 3), (12, .aload_n 0, 1), (13, .bipush 10, 2), (15, .newarray .int, 2), (17, .putfield 15, 3), (20, .aload_n 0, 1), (21, .bipush 10, 2), (23, .newarray .int, 2), (25, .putfield 18, 3), (28, .aload_n 0, 1), (29, .bipush 12, 2), (31, .newarray .int, 2), (33, .putfield 21, 3), (36, .return_, 1)] = true := by decide +kernel
theorem d_K_init_0 : decode mK_init.2.1 0 = .ok (.aload_n 0, 1) := dq_get dd_K_init_0 (i := 0) rfl
theorem d_K_init_1 : decode mK_init.2.1 1 = .ok (.invokespecial 3, 3) := dq_get dd_K_init_0 (i := 1) rfl
theorem d_K_init_4 : decode mK_init.2.1 4 = .ok (.aload_n 0, 1) := dq_get dd_K_init_0 (i := 2) rfl
theorem d_K_init_5 : decode mK_init.2.1 5 = .ok (.bipush 10, 2) := dq_get dd_K_init_0 (i := 3) rfl
theorem d_K_init_7 : decode mK_init.2.1 7 = .ok (.newarray .int, 2) := dq_get dd_K_init_0 (i := 4) rfl
theorem d_K_init_9 : decode mK_init.2.1 9 = .ok (.putfield 9, 3) := dq_get dd_K_init_0 (i := 5) rfl
theorem d_K_init_12 : decode mK_init.2.1 12 = .ok (.aload_n 0, 1) := dq_get dd_K_init_0 (i := 6) rfl
theorem d_K_init_13 : decode mK_init.2.1 13 = .ok (.bipush 10, 2) := dq_get dd_K_init_0 (i := 7) rfl
theorem d_K_init_15 : decode mK_init.2.1 15 = .ok (.newarray .int, 2) := dq_get dd_K_init_0 (i := 8) rfl
theorem d_K_init_17 : decode mK_init.2.1 17 = .ok (.putfield 15, 3) := dq_get dd_K_init_0 (i := 9) rfl
theorem d_K_init_20 : decode mK_init.2.1 20 = .ok (.aload_n 0, 1) := dq_get dd_K_init_0 (i := 10) rfl
theorem d_K_init_21 : decode mK_init.2.1 21 = .ok (.bipush 10, 2) := dq_get dd_K_init_0 (i := 11) rfl
theorem d_K_init_23 : decode mK_init.2.1 23 = .ok (.newarray .int, 2) := dq_get dd_K_init_0 (i := 12) rfl
theorem d_K_init_25 : decode mK_init.2.1 25 = .ok (.putfield 18, 3) := dq_get dd_K_init_0 (i := 13) rfl
theorem d_K_init_28 : decode mK_init.2.1 28 = .ok (.aload_n 0, 1) := dq_get dd_K_init_0 (i := 14) rfl
theorem d_K_init_29 : decode mK_init.2.1 29 = .ok (.bipush 12, 2) := dq_get dd_K_init_0 (i := 15) rfl
theorem d_K_init_31 : decode mK_init.2.1 31 = .ok (.newarray .int, 2) := dq_get dd_K_init_0 (i := 16) rfl
theorem d_K_init_33 : decode mK_init.2.1 33 = .ok (.putfield 21, 3) := dq_get dd_K_init_0 (i := 17) rfl
theorem d_K_init_36 : decode mK_init.2.1 36 = .ok (.return_, 1) := dq_get dd_K_init_0 (i := 18) rfl
theorem dd_P_init_0 : dq mP_init.2.1 [(0, .aload_n 0, 1), (1, .invokespecial 3, 3), (4, .aload_n 0, 1), (5, .bipush 12, 2), (7, .newarray .int, 2), (9, .putfield 9, 3), (12, .return_, 1)] = true := by decide +kernel
theorem d_P_init_0 : decode mP_init.2.1 0 = .ok (.aload_n 0, 1) := dq_get dd_P_init_0 (i := 0) rfl
theorem d_P_init_1 : decode mP_init.2.1 1 = .ok (.invokespecial 3, 3) := dq_get dd_P_init_0 (i := 1) rfl
theorem d_P_init_4 : decode mP_init.2.1 4 = .ok (.aload_n 0, 1) := dq_get dd_P_init_0 (i := 2) rfl
theorem d_P_init_5 : decode mP_init.2.1 5 = .ok (.bipush 12, 2) := dq_get dd_P_init_0 (i := 3) rfl
theorem d_P_init_7 : decode mP_init.2.1 7 = .ok (.newarray .int, 2) := dq_get dd_P_init_0 (i := 4) rfl
theorem d_P_init_9 : decode mP_init.2.1 9 = .ok (.putfield 9, 3) := dq_get dd_P_init_0 (i := 5) rfl
theorem d_P_init_12 : decode mP_init.2.1 12 = .ok (.return_, 1) := dq_get dd_P_init_0 (i := 6) rfl
theorem dd_I_init_0 : dq mI_init.2.1 [(0, .aload_n 0, 1), (1, .invokespecial 3, 3), (4, .aload_n 0, 1), (5, .bipush 10, 2), (7, .newarray .int, 2), (9, .putfield 9, 3), (12, .aload_n 0, 1), (13, .bipush 30, 2), (15, .newarray .int, 2), (17, .putfield 15, 3), (20, .aload_n 0, 1), (21, .bipush 30, 2), (23, .newarray .int, 2), (25, .putfield 18, 3), (28, .aload_n 0, 1), (29, .bipush 30, 2), (31, .newarray .boolean, 2), (33, .putfield 21, 3), (36, .aload_n 0, 1), (37, .bipush 30, 2), (39, .newarray .int, 2), (41, .putfield 25, 3), (44, .aload_n 0, 1), (45, .bipush 30, 2), (47, .newarray .int, 2), (49, .putfield 28, 3), (52, .aload_n 0, 1), (53, .bipush 30, 2), (55, .newarray .int, 2), (57, .putfield 31, 3), (60, .return_, 1)] = true := by decide +kernel
theorem d_I_init_0 : decode mI_init.2.1 0 = .ok (.aload_n 0, 1) := dq_get dd_I_init_0 (i := 0) rfl
theorem d_I_init_1 : decode mI_init.2.1 1 = .ok (.invokespecial 3, 3) := dq_get dd_I_init_0 (i := 1) rfl
theorem d_I_init_4 : decode mI_init.2.1 4 = .ok (.aload_n 0, 1) := dq_get dd_I_init_0 (i := 2) rfl
theorem d_I_init_5 : decode mI_init.2.1 5 = .ok (.bipush 10, 2) := dq_get dd_I_init_0 (i := 3) rfl
theorem d_I_init_7 : decode mI_init.2.1 7 = .ok (.newarray .int, 2) := dq_get dd_I_init_0 (i := 4) rfl
theorem d_I_init_9 : decode mI_init.2.1 9 = .ok (.putfield 9, 3) := dq_get dd_I_init_0 (i := 5) rfl
theorem d_I_init_12 : decode mI_init.2.1 12 = .ok (.aload_n 0, 1) := dq_get dd_I_init_0 (i := 6) rfl
theorem d_I_init_13 : decode mI_init.2.1 13 = .ok (.bipush 30, 2) := dq_get dd_I_init_0 (i := 7) rfl
theorem d_I_init_15 : decode mI_init.2.1 15 = .ok (.newarray .int, 2) := dq_get dd_I_init_0 (i := 8) rfl
theorem d_I_init_17 : decode mI_init.2.1 17 = .ok (.putfield 15, 3) := dq_get dd_I_init_0 (i := 9) rfl
theorem d_I_init_20 : decode mI_init.2.1 20 = .ok (.aload_n 0, 1) := dq_get dd_I_init_0 (i := 10) rfl
theorem d_I_init_21 : decode mI_init.2.1 21 = .ok (.bipush 30, 2) := dq_get dd_I_init_0 (i := 11) rfl
theorem d_I_init_23 : decode mI_init.2.1 23 = .ok (.newarray .int, 2) := dq_get dd_I_init_0 (i := 12) rfl
theorem d_I_init_25 : decode mI_init.2.1 25 = .ok (.putfield 18, 3) := dq_get dd_I_init_0 (i := 13) rfl
theorem d_I_init_28 : decode mI_init.2.1 28 = .ok (.aload_n 0, 1) := dq_get dd_I_init_0 (i := 14) rfl
theorem d_I_init_29 : decode mI_init.2.1 29 = .ok (.bipush 30, 2) := dq_get dd_I_init_0 (i := 15) rfl
theorem d_I_init_31 : decode mI_init.2.1 31 = .ok (.newarray .boolean, 2) := dq_get dd_I_init_0 (i := 16) rfl
theorem d_I_init_33 : decode mI_init.2.1 33 = .ok (.putfield 21, 3) := dq_get dd_I_init_0 (i := 17) rfl
theorem d_I_init_36 : decode mI_init.2.1 36 = .ok (.aload_n 0, 1) := dq_get dd_I_init_0 (i := 18) rfl
theorem d_I_init_37 : decode mI_init.2.1 37 = .ok (.bipush 30, 2) := dq_get dd_I_init_0 (i := 19) rfl
theorem d_I_init_39 : decode mI_init.2.1 39 = .ok (.newarray .int, 2) := dq_get dd_I_init_0 (i := 20) rfl
theorem d_I_init_41 : decode mI_init.2.1 41 = .ok (.putfield 25, 3) := dq_get dd_I_init_0 (i := 21) rfl
theorem d_I_init_44 : decode mI_init.2.1 44 = .ok (.aload_n 0, 1) := dq_get dd_I_init_0 (i := 22) rfl
theorem d_I_init_45 : decode mI_init.2.1 45 = .ok (.bipush 30, 2) := dq_get dd_I_init_0 (i := 23) rfl
theorem d_I_init_47 : decode mI_init.2.1 47 = .ok (.newarray .int, 2) := dq_get dd_I_init_0 (i := 24) rfl
theorem d_I_init_49 : decode mI_init.2.1 49 = .ok (.putfield 28, 3) := dq_get dd_I_init_0 (i := 25) rfl
theorem d_I_init_52 : decode mI_init.2.1 52 = .ok (.aload_n 0, 1) := dq_get dd_I_init_0 (i := 26) rfl
theorem d_I_init_53 : decode mI_init.2.1 53 = .ok (.bipush 30, 2) := dq_get dd_I_init_0 (i := 27) rfl
theorem d_I_init_55 : decode mI_init.2.1 55 = .ok (.newarray .int, 2) := dq_get dd_I_init_0 (i := 28) rfl
theorem d_I_init_57 : decode mI_init.2.1 57 = .ok (.putfield 31, 3) := dq_get dd_I_init_0 (i := 29) rfl
theorem d_I_init_60 : decode mI_init.2.1 60 = .ok (.return_, 1) := dq_get dd_I_init_0 (i := 30) rfl
theorem dd_L_follow_0 : dq mL_follow.2.1 [(0, .aload_n 0, 1), (1, .iconst 0, 1), (2, .putfield 24, 3), (5, .iconst 0, 1), (6, .istore_n 2, 1), (7, .iload_n 2, 1), (8, .bipush 10, 2), (10, .if_icmp .ge 52, 3), (13, .aload_n 0, 1), (14, .getfield 9, 3), (17, .iload_n 2, 1), (18, .iconst 0, 1), (19, .iastore, 1), (20, .aload_n 0, 1), (21, .getfield 15, 3), (24, .iload_n 2, 1), (25, .aload_n 1, 1), (26, .getfield 28, 3), (29, .iload_n 2, 1), (30, .iaload, 1), (31, .iastore, 1), (32, .aload_n 0, 1), (33, .getfield 18, 3), (36, .iload_n 2, 1), (37, .aload_n 1, 1), (38, .getfield 31, 3), (41, .iload_n 2, 1), (42, .iaload, 1), (43, .iastore, 1), (44, .aload_n 0, 1), (45, .getfield 21, 3), (48, .iload_n 2, 1)] = true := by decide +kernel
theorem d_L_follow_0 : decode mL_follow.2.1 0 = .ok (.aload_n 0, 1) := dq_get dd_L_follow_0 (i := 0) rfl
theorem d_L_follow_1 : decode mL_follow.2.1 1 = .ok (.iconst 0, 1) := dq_get dd_L_follow_0 (i := 1) rfl
theorem d_L_follow_2 : decode mL_follow.2.1 2 = .ok (.putfield 24, 3) := dq_get dd_L_follow_0 (i := 2) rfl
theorem d_L_follow_5 : decode mL_follow.2.1 5 = .ok (.iconst 0, 1) := dq_get dd_L_follow_0 (i := 3) rfl
theorem d_L_follow_6 : decode mL_follow.2.1 6 = .ok (.istore_n 2, 1) := dq_get dd_L_follow_0 (i := 4) rfl
theorem d_L_follow_7 : decode mL_follow.2.1 7 = .ok (.iload_n 2, 1) := dq_get dd_L_follow_0 (i := 5) rfl
theorem d_L_follow_8 : decode mL_follow.2.1 8 = .ok (.bipush 10, 2) := dq_get dd_L_follow_0 (i := 6) rfl
theorem d_L_follow_10 : decode mL_follow.2.1 10 = .ok (.if_icmp .ge 52, 3) := dq_get dd_L_follow_0 (i := 7) rfl
theorem d_L_follow_13 : decode mL_follow.2.1 13 = .ok (.aload_n 0, 1) := dq_get dd_L_follow_0 (i := 8) rfl
theorem d_L_follow_14 : decode mL_follow.2.1 14 = .ok (.getfield 9, 3) := dq_get dd_L_follow_0 (i := 9) rfl
theorem d_L_follow_17 : decode mL_follow.2.1 17 = .ok (.iload_n 2, 1) := dq_get dd_L_follow_0 (i := 10) rfl
theorem d_L_follow_18 : decode mL_follow.2.1 18 = .ok (.iconst 0, 1) := dq_get dd_L_follow_0 (i := 11) rfl
theorem d_L_follow_19 : decode mL_follow.2.1 19 = .ok (.iastore, 1) := dq_get dd_L_follow_0 (i := 12) rfl
theorem d_L_follow_20 : decode mL_follow.2.1 20 = .ok (.aload_n 0, 1) := dq_get dd_L_follow_0 (i := 13) rfl
theorem d_L_follow_21 : decode mL_follow.2.1 21 = .ok (.getfield 15, 3) := dq_get dd_L_follow_0 (i := 14) rfl
theorem d_L_follow_24 : decode mL_follow.2.1 24 = .ok (.iload_n 2, 1) := dq_get dd_L_follow_0 (i := 15) rfl
theorem d_L_follow_25 : decode mL_follow.2.1 25 = .ok (.aload_n 1, 1) := dq_get dd_L_follow_0 (i := 16) rfl
theorem d_L_follow_26 : decode mL_follow.2.1 26 = .ok (.getfield 28, 3) := dq_get dd_L_follow_0 (i := 17) rfl
theorem d_L_follow_29 : decode mL_follow.2.1 29 = .ok (.iload_n 2, 1) := dq_get dd_L_follow_0 (i := 18) rfl
theorem d_L_follow_30 : decode mL_follow.2.1 30 = .ok (.iaload, 1) := dq_get dd_L_follow_0 (i := 19) rfl
theorem d_L_follow_31 : decode mL_follow.2.1 31 = .ok (.iastore, 1) := dq_get dd_L_follow_0 (i := 20) rfl
theorem d_L_follow_32 : decode mL_follow.2.1 32 = .ok (.aload_n 0, 1) := dq_get dd_L_follow_0 (i := 21) rfl
theorem d_L_follow_33 : decode mL_follow.2.1 33 = .ok (.getfield 18, 3) := dq_get dd_L_follow_0 (i := 22) rfl
theorem d_L_follow_36 : decode mL_follow.2.1 36 = .ok (.iload_n 2, 1) := dq_get dd_L_follow_0 (i := 23) rfl
theorem d_L_follow_37 : decode mL_follow.2.1 37 = .ok (.aload_n 1, 1) := dq_get dd_L_follow_0 (i := 24) rfl
theorem d_L_follow_38 : decode mL_follow.2.1 38 = .ok (.getfield 31, 3) := dq_get dd_L_follow_0 (i := 25) rfl
theorem d_L_follow_41 : decode mL_follow.2.1 41 = .ok (.iload_n 2, 1) := dq_get dd_L_follow_0 (i := 26) rfl
theorem d_L_follow_42 : decode mL_follow.2.1 42 = .ok (.iaload, 1) := dq_get dd_L_follow_0 (i := 27) rfl
theorem d_L_follow_43 : decode mL_follow.2.1 43 = .ok (.iastore, 1) := dq_get dd_L_follow_0 (i := 28) rfl
theorem d_L_follow_44 : decode mL_follow.2.1 44 = .ok (.aload_n 0, 1) := dq_get dd_L_follow_0 (i := 29) rfl
theorem d_L_follow_45 : decode mL_follow.2.1 45 = .ok (.getfield 21, 3) := dq_get dd_L_follow_0 (i := 30) rfl
theorem d_L_follow_48 : decode mL_follow.2.1 48 = .ok (.iload_n 2, 1) := dq_get dd_L_follow_0 (i := 31) rfl
theorem dd_L_follow_32 : dq mL_follow.2.1 [(49, .aload_n 1, 1), (50, .getfield 32, 3), (53, .iload_n 2, 1), (54, .iaload, 1), (55, .iastore, 1), (56, .iinc 2 1, 3), (59, .goto (-52), 3), (62, .return_, 1)] = true := by decide +kernel
theorem d_L_follow_49 : decode mL_follow.2.1 49 = .ok (.aload_n 1, 1) := dq_get dd_L_follow_32 (i := 0) rfl
theorem d_L_follow_50 : decode mL_follow.2.1 50 = .ok (.getfield 32, 3) := dq_get dd_L_follow_32 (i := 1) rfl
theorem d_L_follow_53 : decode mL_follow.2.1 53 = .ok (.iload_n 2, 1) := dq_get dd_L_follow_32 (i := 2) rfl
theorem d_L_follow_54 : decode mL_follow.2.1 54 = .ok (.iaload, 1) := dq_get dd_L_follow_32 (i := 3) rfl
theorem d_L_follow_55 : decode mL_follow.2.1 55 = .ok (.iastore, 1) := dq_get dd_L_follow_32 (i := 4) rfl
theorem d_L_follow_56 : decode mL_follow.2.1 56 = .ok (.iinc 2 1, 3) := dq_get dd_L_follow_32 (i := 5) rfl
theorem d_L_follow_59 : decode mL_follow.2.1 59 = .ok (.goto (-52), 3) := dq_get dd_L_follow_32 (i := 6) rfl
theorem d_L_follow_62 : decode mL_follow.2.1 62 = .ok (.return_, 1) := dq_get dd_L_follow_32 (i := 7) rfl
theorem dd_T_putFourBytes_0 : dq mT_putFourBytes.2.1 [(0, .bipush 24, 2), (2, .istore_n 2, 1), (3, .iload_n 2, 1), (4, .ifCond .lt 42, 3), (7, .aload_n 0, 1), (8, .getfield 15, 3), (11, .sipush 1600, 3), (14, .if_icmp .ge 32, 3), (17, .aload_n 0, 1), (18, .getfield 9, 3), (21, .aload_n 0, 1), (22, .getfield 15, 3), (25, .iload_n 1, 1), (26, .iload_n 2, 1), (27, .ishr, 1), (28, .i2b, 1), (29, .bastore, 1), (30, .aload_n 0, 1), (31, .dup, 1), (32, .getfield 15, 3), (35, .iconst 1, 1), (36, .iadd, 1), (37, .putfield 15, 3), (40, .iinc 2 (-8), 3), (43, .goto (-40), 3), (46, .return_, 1)] = true := by decide +kernel
theorem d_T_putFourBytes_0 : decode mT_putFourBytes.2.1 0 = .ok (.bipush 24, 2) := dq_get dd_T_putFourBytes_0 (i := 0) rfl
theorem d_T_putFourBytes_2 : decode mT_putFourBytes.2.1 2 = .ok (.istore_n 2, 1) := dq_get dd_T_putFourBytes_0 (i := 1) rfl
theorem d_T_putFourBytes_3 : decode mT_putFourBytes.2.1 3 = .ok (.iload_n 2, 1) := dq_get dd_T_putFourBytes_0 (i := 2) rfl
theorem d_T_putFourBytes_4 : decode mT_putFourBytes.2.1 4 = .ok (.ifCond .lt 42, 3) := dq_get dd_T_putFourBytes_0 (i := 3) rfl
theorem d_T_putFourBytes_7 : decode mT_putFourBytes.2.1 7 = .ok (.aload_n 0, 1) := dq_get dd_T_putFourBytes_0 (i := 4) rfl
theorem d_T_putFourBytes_8 : decode mT_putFourBytes.2.1 8 = .ok (.getfield 15, 3) := dq_get dd_T_putFourBytes_0 (i := 5) rfl
theorem d_T_putFourBytes_11 : decode mT_putFourBytes.2.1 11 = .ok (.sipush 1600, 3) := dq_get dd_T_putFourBytes_0 (i := 6) rfl
theorem d_T_putFourBytes_14 : decode mT_putFourBytes.2.1 14 = .ok (.if_icmp .ge 32, 3) := dq_get dd_T_putFourBytes_0 (i := 7) rfl
theorem d_T_putFourBytes_17 : decode mT_putFourBytes.2.1 17 = .ok (.aload_n 0, 1) := dq_get dd_T_putFourBytes_0 (i := 8) rfl
theorem d_T_putFourBytes_18 : decode mT_putFourBytes.2.1 18 = .ok (.getfield 9, 3) := dq_get dd_T_putFourBytes_0 (i := 9) rfl
theorem d_T_putFourBytes_21 : decode mT_putFourBytes.2.1 21 = .ok (.aload_n 0, 1) := dq_get dd_T_putFourBytes_0 (i := 10) rfl
theorem d_T_putFourBytes_22 : decode mT_putFourBytes.2.1 22 = .ok (.getfield 15, 3) := dq_get dd_T_putFourBytes_0 (i := 11) rfl
theorem d_T_putFourBytes_25 : decode mT_putFourBytes.2.1 25 = .ok (.iload_n 1, 1) := dq_get dd_T_putFourBytes_0 (i := 12) rfl
theorem d_T_putFourBytes_26 : decode mT_putFourBytes.2.1 26 = .ok (.iload_n 2, 1) := dq_get dd_T_putFourBytes_0 (i := 13) rfl
theorem d_T_putFourBytes_27 : decode mT_putFourBytes.2.1 27 = .ok (.ishr, 1) := dq_get dd_T_putFourBytes_0 (i := 14) rfl
theorem d_T_putFourBytes_28 : decode mT_putFourBytes.2.1 28 = .ok (.i2b, 1) := dq_get dd_T_putFourBytes_0 (i := 15) rfl
theorem d_T_putFourBytes_29 : decode mT_putFourBytes.2.1 29 = .ok (.bastore, 1) := dq_get dd_T_putFourBytes_0 (i := 16) rfl
theorem d_T_putFourBytes_30 : decode mT_putFourBytes.2.1 30 = .ok (.aload_n 0, 1) := dq_get dd_T_putFourBytes_0 (i := 17) rfl
theorem d_T_putFourBytes_31 : decode mT_putFourBytes.2.1 31 = .ok (.dup, 1) := dq_get dd_T_putFourBytes_0 (i := 18) rfl
theorem d_T_putFourBytes_32 : decode mT_putFourBytes.2.1 32 = .ok (.getfield 15, 3) := dq_get dd_T_putFourBytes_0 (i := 19) rfl
theorem d_T_putFourBytes_35 : decode mT_putFourBytes.2.1 35 = .ok (.iconst 1, 1) := dq_get dd_T_putFourBytes_0 (i := 20) rfl
theorem d_T_putFourBytes_36 : decode mT_putFourBytes.2.1 36 = .ok (.iadd, 1) := dq_get dd_T_putFourBytes_0 (i := 21) rfl
theorem d_T_putFourBytes_37 : decode mT_putFourBytes.2.1 37 = .ok (.putfield 15, 3) := dq_get dd_T_putFourBytes_0 (i := 22) rfl
theorem d_T_putFourBytes_40 : decode mT_putFourBytes.2.1 40 = .ok (.iinc 2 (-8), 3) := dq_get dd_T_putFourBytes_0 (i := 23) rfl
theorem d_T_putFourBytes_43 : decode mT_putFourBytes.2.1 43 = .ok (.goto (-40), 3) := dq_get dd_T_putFourBytes_0 (i := 24) rfl
theorem d_T_putFourBytes_46 : decode mT_putFourBytes.2.1 46 = .ok (.return_, 1) := dq_get dd_T_putFourBytes_0 (i := 25) rfl
theorem dd_R_begin_0 : dq mR_begin.2.1 [(0, .aload_n 0, 1), (1, .iconst 0, 1), (2, .putfield 29, 3), (5, .aload_n 0, 1), (6, .iconst (-1), 1), (7, .putfield 9, 3), (10, .aload_n 0, 1), (11, .iconst 0, 1), (12, .putfield 32, 3), (15, .aload_n 0, 1), (16, .getfield 25, 3), (19, .invokevirtual 35, 3), (22, .aload_n 0, 1), (23, .getfield 18, 3), (26, .invokevirtual 38, 3), (29, .return_, 1)] = true := by decide +kernel
theorem d_R_begin_0 : decode mR_begin.2.1 0 = .ok (.aload_n 0, 1) := dq_get dd_R_begin_0 (i := 0) rfl
theorem d_R_begin_1 : decode mR_begin.2.1 1 = .ok (.iconst 0, 1) := dq_get dd_R_begin_0 (i := 1) rfl
theorem d_R_begin_2 : decode mR_begin.2.1 2 = .ok (.putfield 29, 3) := dq_get dd_R_begin_0 (i := 2) rfl
theorem d_R_begin_5 : decode mR_begin.2.1 5 = .ok (.aload_n 0, 1) := dq_get dd_R_begin_0 (i := 3) rfl
theorem d_R_begin_6 : decode mR_begin.2.1 6 = .ok (.iconst (-1), 1) := dq_get dd_R_begin_0 (i := 4) rfl
theorem d_R_begin_7 : decode mR_begin.2.1 7 = .ok (.putfield 9, 3) := dq_get dd_R_begin_0 (i := 5) rfl
theorem d_R_begin_10 : decode mR_begin.2.1 10 = .ok (.aload_n 0, 1) := dq_get dd_R_begin_0 (i := 6) rfl
theorem d_R_begin_11 : decode mR_begin.2.1 11 = .ok (.iconst 0, 1) := dq_get dd_R_begin_0 (i := 7) rfl
theorem d_R_begin_12 : decode mR_begin.2.1 12 = .ok (.putfield 32, 3) := dq_get dd_R_begin_0 (i := 8) rfl
theorem d_R_begin_15 : decode mR_begin.2.1 15 = .ok (.aload_n 0, 1) := dq_get dd_R_begin_0 (i := 9) rfl
theorem d_R_begin_16 : decode mR_begin.2.1 16 = .ok (.getfield 25, 3) := dq_get dd_R_begin_0 (i := 10) rfl
theorem d_R_begin_19 : decode mR_begin.2.1 19 = .ok (.invokevirtual 35, 3) := dq_get dd_R_begin_0 (i := 11) rfl
theorem d_R_begin_22 : decode mR_begin.2.1 22 = .ok (.aload_n 0, 1) := dq_get dd_R_begin_0 (i := 12) rfl
theorem d_R_begin_23 : decode mR_begin.2.1 23 = .ok (.getfield 18, 3) := dq_get dd_R_begin_0 (i := 13) rfl
theorem d_R_begin_26 : decode mR_begin.2.1 26 = .ok (.invokevirtual 38, 3) := dq_get dd_R_begin_0 (i := 14) rfl
theorem d_R_begin_29 : decode mR_begin.2.1 29 = .ok (.return_, 1) := dq_get dd_R_begin_0 (i := 15) rfl
theorem dd_T_begin_0 : dq mT_begin.2.1 [(0, .aload_n 0, 1), (1, .iconst 0, 1), (2, .putfield 19, 3), (5, .aload_n 0, 1), (6, .invokevirtual 22, 3), (9, .return_, 1)] = true := by decide +kernel
theorem d_T_begin_0 : decode mT_begin.2.1 0 = .ok (.aload_n 0, 1) := dq_get dd_T_begin_0 (i := 0) rfl
theorem d_T_begin_1 : decode mT_begin.2.1 1 = .ok (.iconst 0, 1) := dq_get dd_T_begin_0 (i := 1) rfl
theorem d_T_begin_2 : decode mT_begin.2.1 2 = .ok (.putfield 19, 3) := dq_get dd_T_begin_0 (i := 2) rfl
theorem d_T_begin_5 : decode mT_begin.2.1 5 = .ok (.aload_n 0, 1) := dq_get dd_T_begin_0 (i := 3) rfl
theorem d_T_begin_6 : decode mT_begin.2.1 6 = .ok (.invokevirtual 22, 3) := dq_get dd_T_begin_0 (i := 4) rfl
theorem d_T_begin_9 : decode mT_begin.2.1 9 = .ok (.return_, 1) := dq_get dd_T_begin_0 (i := 5) rfl
theorem dd_T_step_0 : dq mT_step.2.1 [(0, .aload_n 0, 1), (1, .getfield 19, 3), (4, .aload_n 0, 1), (5, .getfield 15, 3), (8, .if_icmp .ge 30, 3), (11, .aload_n 0, 1), (12, .aload_n 0, 1), (13, .getfield 19, 3), (16, .invokevirtual 25, 3), (19, .invokestatic 29, 3), (22, .ifCond .eq 16, 3), (25, .aload_n 0, 1), (26, .dup, 1), (27, .getfield 19, 3), (30, .iconst 1, 1), (31, .iadd, 1), (32, .putfield 19, 3), (35, .goto (-35), 3), (38, .aload_n 0, 1), (39, .aload_n 0, 1), (40, .getfield 19, 3), (43, .putfield 33, 3), (46, .aload_n 0, 1), (47, .aload_n 0, 1), (48, .getfield 19, 3), (51, .invokevirtual 25, 3), (54, .istore_n 1, 1), (55, .iload_n 1, 1), (56, .iconst (-1), 1), (57, .if_icmp .ne 11, 3), (60, .aload_n 0, 1), (61, .iconst 0, 1)] = true := by decide +kernel
theorem d_T_step_0 : decode mT_step.2.1 0 = .ok (.aload_n 0, 1) := dq_get dd_T_step_0 (i := 0) rfl
theorem d_T_step_1 : decode mT_step.2.1 1 = .ok (.getfield 19, 3) := dq_get dd_T_step_0 (i := 1) rfl
theorem d_T_step_4 : decode mT_step.2.1 4 = .ok (.aload_n 0, 1) := dq_get dd_T_step_0 (i := 2) rfl
theorem d_T_step_5 : decode mT_step.2.1 5 = .ok (.getfield 15, 3) := dq_get dd_T_step_0 (i := 3) rfl
theorem d_T_step_8 : decode mT_step.2.1 8 = .ok (.if_icmp .ge 30, 3) := dq_get dd_T_step_0 (i := 4) rfl
theorem d_T_step_11 : decode mT_step.2.1 11 = .ok (.aload_n 0, 1) := dq_get dd_T_step_0 (i := 5) rfl
theorem d_T_step_12 : decode mT_step.2.1 12 = .ok (.aload_n 0, 1) := dq_get dd_T_step_0 (i := 6) rfl
theorem d_T_step_13 : decode mT_step.2.1 13 = .ok (.getfield 19, 3) := dq_get dd_T_step_0 (i := 7) rfl
theorem d_T_step_16 : decode mT_step.2.1 16 = .ok (.invokevirtual 25, 3) := dq_get dd_T_step_0 (i := 8) rfl
theorem d_T_step_19 : decode mT_step.2.1 19 = .ok (.invokestatic 29, 3) := dq_get dd_T_step_0 (i := 9) rfl
theorem d_T_step_22 : decode mT_step.2.1 22 = .ok (.ifCond .eq 16, 3) := dq_get dd_T_step_0 (i := 10) rfl
theorem d_T_step_25 : decode mT_step.2.1 25 = .ok (.aload_n 0, 1) := dq_get dd_T_step_0 (i := 11) rfl
theorem d_T_step_26 : decode mT_step.2.1 26 = .ok (.dup, 1) := dq_get dd_T_step_0 (i := 12) rfl
theorem d_T_step_27 : decode mT_step.2.1 27 = .ok (.getfield 19, 3) := dq_get dd_T_step_0 (i := 13) rfl
theorem d_T_step_30 : decode mT_step.2.1 30 = .ok (.iconst 1, 1) := dq_get dd_T_step_0 (i := 14) rfl
theorem d_T_step_31 : decode mT_step.2.1 31 = .ok (.iadd, 1) := dq_get dd_T_step_0 (i := 15) rfl
theorem d_T_step_32 : decode mT_step.2.1 32 = .ok (.putfield 19, 3) := dq_get dd_T_step_0 (i := 16) rfl
theorem d_T_step_35 : decode mT_step.2.1 35 = .ok (.goto (-35), 3) := dq_get dd_T_step_0 (i := 17) rfl
theorem d_T_step_38 : decode mT_step.2.1 38 = .ok (.aload_n 0, 1) := dq_get dd_T_step_0 (i := 18) rfl
theorem d_T_step_39 : decode mT_step.2.1 39 = .ok (.aload_n 0, 1) := dq_get dd_T_step_0 (i := 19) rfl
theorem d_T_step_40 : decode mT_step.2.1 40 = .ok (.getfield 19, 3) := dq_get dd_T_step_0 (i := 20) rfl
theorem d_T_step_43 : decode mT_step.2.1 43 = .ok (.putfield 33, 3) := dq_get dd_T_step_0 (i := 21) rfl
theorem d_T_step_46 : decode mT_step.2.1 46 = .ok (.aload_n 0, 1) := dq_get dd_T_step_0 (i := 22) rfl
theorem d_T_step_47 : decode mT_step.2.1 47 = .ok (.aload_n 0, 1) := dq_get dd_T_step_0 (i := 23) rfl
theorem d_T_step_48 : decode mT_step.2.1 48 = .ok (.getfield 19, 3) := dq_get dd_T_step_0 (i := 24) rfl
theorem d_T_step_51 : decode mT_step.2.1 51 = .ok (.invokevirtual 25, 3) := dq_get dd_T_step_0 (i := 25) rfl
theorem d_T_step_54 : decode mT_step.2.1 54 = .ok (.istore_n 1, 1) := dq_get dd_T_step_0 (i := 26) rfl
theorem d_T_step_55 : decode mT_step.2.1 55 = .ok (.iload_n 1, 1) := dq_get dd_T_step_0 (i := 27) rfl
theorem d_T_step_56 : decode mT_step.2.1 56 = .ok (.iconst (-1), 1) := dq_get dd_T_step_0 (i := 28) rfl
theorem d_T_step_57 : decode mT_step.2.1 57 = .ok (.if_icmp .ne 11, 3) := dq_get dd_T_step_0 (i := 29) rfl
theorem d_T_step_60 : decode mT_step.2.1 60 = .ok (.aload_n 0, 1) := dq_get dd_T_step_0 (i := 30) rfl
theorem d_T_step_61 : decode mT_step.2.1 61 = .ok (.iconst 0, 1) := dq_get dd_T_step_0 (i := 31) rfl
theorem dd_T_step_32 : dq mT_step.2.1 [(62, .putfield 36, 3), (65, .goto 65, 3), (68, .iload_n 1, 1), (69, .invokestatic 39, 3), (72, .ifCond .eq 10, 3), (75, .aload_n 0, 1), (76, .invokevirtual 42, 3), (79, .goto 51, 3), (82, .iload_n 1, 1), (83, .invokestatic 45, 3), (86, .ifCond .eq 10, 3), (89, .aload_n 0, 1), (90, .invokevirtual 48, 3), (93, .goto 37, 3), (96, .aload_n 0, 1), (97, .ldc 51, 2), (99, .iload_n 1, 1), (100, .i2c, 1), (101, .invokevirtual 53, 3), (104, .ifCond .lt 7, 3), (107, .iconst 4, 1), (108, .goto 4, 3), (111, .iconst 5, 1), (112, .putfield 36, 3), (115, .aload_n 0, 1), (116, .iload_n 1, 1), (117, .putfield 58, 3), (120, .aload_n 0, 1), (121, .dup, 1), (122, .getfield 19, 3), (125, .iconst 1, 1), (126, .iadd, 1)] = true := by decide +kernel
theorem d_T_step_62 : decode mT_step.2.1 62 = .ok (.putfield 36, 3) := dq_get dd_T_step_32 (i := 0) rfl
theorem d_T_step_65 : decode mT_step.2.1 65 = .ok (.goto 65, 3) := dq_get dd_T_step_32 (i := 1) rfl
theorem d_T_step_68 : decode mT_step.2.1 68 = .ok (.iload_n 1, 1) := dq_get dd_T_step_32 (i := 2) rfl
theorem d_T_step_69 : decode mT_step.2.1 69 = .ok (.invokestatic 39, 3) := dq_get dd_T_step_32 (i := 3) rfl
theorem d_T_step_72 : decode mT_step.2.1 72 = .ok (.ifCond .eq 10, 3) := dq_get dd_T_step_32 (i := 4) rfl
theorem d_T_step_75 : decode mT_step.2.1 75 = .ok (.aload_n 0, 1) := dq_get dd_T_step_32 (i := 5) rfl
theorem d_T_step_76 : decode mT_step.2.1 76 = .ok (.invokevirtual 42, 3) := dq_get dd_T_step_32 (i := 6) rfl
theorem d_T_step_79 : decode mT_step.2.1 79 = .ok (.goto 51, 3) := dq_get dd_T_step_32 (i := 7) rfl
theorem d_T_step_82 : decode mT_step.2.1 82 = .ok (.iload_n 1, 1) := dq_get dd_T_step_32 (i := 8) rfl
theorem d_T_step_83 : decode mT_step.2.1 83 = .ok (.invokestatic 45, 3) := dq_get dd_T_step_32 (i := 9) rfl
theorem d_T_step_86 : decode mT_step.2.1 86 = .ok (.ifCond .eq 10, 3) := dq_get dd_T_step_32 (i := 10) rfl
theorem d_T_step_89 : decode mT_step.2.1 89 = .ok (.aload_n 0, 1) := dq_get dd_T_step_32 (i := 11) rfl
theorem d_T_step_90 : decode mT_step.2.1 90 = .ok (.invokevirtual 48, 3) := dq_get dd_T_step_32 (i := 12) rfl
theorem d_T_step_93 : decode mT_step.2.1 93 = .ok (.goto 37, 3) := dq_get dd_T_step_32 (i := 13) rfl
theorem d_T_step_96 : decode mT_step.2.1 96 = .ok (.aload_n 0, 1) := dq_get dd_T_step_32 (i := 14) rfl
theorem d_T_step_97 : decode mT_step.2.1 97 = .ok (.ldc 51, 2) := dq_get dd_T_step_32 (i := 15) rfl
theorem d_T_step_99 : decode mT_step.2.1 99 = .ok (.iload_n 1, 1) := dq_get dd_T_step_32 (i := 16) rfl
theorem d_T_step_100 : decode mT_step.2.1 100 = .ok (.i2c, 1) := dq_get dd_T_step_32 (i := 17) rfl
theorem d_T_step_101 : decode mT_step.2.1 101 = .ok (.invokevirtual 53, 3) := dq_get dd_T_step_32 (i := 18) rfl
theorem d_T_step_104 : decode mT_step.2.1 104 = .ok (.ifCond .lt 7, 3) := dq_get dd_T_step_32 (i := 19) rfl
theorem d_T_step_107 : decode mT_step.2.1 107 = .ok (.iconst 4, 1) := dq_get dd_T_step_32 (i := 20) rfl
theorem d_T_step_108 : decode mT_step.2.1 108 = .ok (.goto 4, 3) := dq_get dd_T_step_32 (i := 21) rfl
theorem d_T_step_111 : decode mT_step.2.1 111 = .ok (.iconst 5, 1) := dq_get dd_T_step_32 (i := 22) rfl
theorem d_T_step_112 : decode mT_step.2.1 112 = .ok (.putfield 36, 3) := dq_get dd_T_step_32 (i := 23) rfl
theorem d_T_step_115 : decode mT_step.2.1 115 = .ok (.aload_n 0, 1) := dq_get dd_T_step_32 (i := 24) rfl
theorem d_T_step_116 : decode mT_step.2.1 116 = .ok (.iload_n 1, 1) := dq_get dd_T_step_32 (i := 25) rfl
theorem d_T_step_117 : decode mT_step.2.1 117 = .ok (.putfield 58, 3) := dq_get dd_T_step_32 (i := 26) rfl
theorem d_T_step_120 : decode mT_step.2.1 120 = .ok (.aload_n 0, 1) := dq_get dd_T_step_32 (i := 27) rfl
theorem d_T_step_121 : decode mT_step.2.1 121 = .ok (.dup, 1) := dq_get dd_T_step_32 (i := 28) rfl
theorem d_T_step_122 : decode mT_step.2.1 122 = .ok (.getfield 19, 3) := dq_get dd_T_step_32 (i := 29) rfl
theorem d_T_step_125 : decode mT_step.2.1 125 = .ok (.iconst 1, 1) := dq_get dd_T_step_32 (i := 30) rfl
theorem d_T_step_126 : decode mT_step.2.1 126 = .ok (.iadd, 1) := dq_get dd_T_step_32 (i := 31) rfl
theorem dd_T_step_64 : dq mT_step.2.1 [(127, .putfield 19, 3), (130, .return_, 1)] = true := by decide +kernel
theorem d_T_step_127 : decode mT_step.2.1 127 = .ok (.putfield 19, 3) := dq_get dd_T_step_64 (i := 0) rfl
theorem d_T_step_130 : decode mT_step.2.1 130 = .ok (.return_, 1) := dq_get dd_T_step_64 (i := 1) rfl
theorem dd_T_at_0 : dq mT_at.2.1 [(0, .iload_n 1, 1), (1, .ifCond .lt 31, 3), (4, .iload_n 1, 1), (5, .aload_n 0, 1), (6, .getfield 15, 3), (9, .if_icmp .ge 23, 3), (12, .iload_n 1, 1), (13, .sipush 1600, 3), (16, .if_icmp .ge 16, 3), (19, .aload_n 0, 1), (20, .getfield 9, 3), (23, .iload_n 1, 1), (24, .baload, 1), (25, .sipush 255, 3), (28, .iand, 1), (29, .goto 4, 3), (32, .iconst (-1), 1), (33, .ireturn, 1)] = true := by decide +kernel
theorem d_T_at_0 : decode mT_at.2.1 0 = .ok (.iload_n 1, 1) := dq_get dd_T_at_0 (i := 0) rfl
theorem d_T_at_1 : decode mT_at.2.1 1 = .ok (.ifCond .lt 31, 3) := dq_get dd_T_at_0 (i := 1) rfl
theorem d_T_at_4 : decode mT_at.2.1 4 = .ok (.iload_n 1, 1) := dq_get dd_T_at_0 (i := 2) rfl
theorem d_T_at_5 : decode mT_at.2.1 5 = .ok (.aload_n 0, 1) := dq_get dd_T_at_0 (i := 3) rfl
theorem d_T_at_6 : decode mT_at.2.1 6 = .ok (.getfield 15, 3) := dq_get dd_T_at_0 (i := 4) rfl
theorem d_T_at_9 : decode mT_at.2.1 9 = .ok (.if_icmp .ge 23, 3) := dq_get dd_T_at_0 (i := 5) rfl
theorem d_T_at_12 : decode mT_at.2.1 12 = .ok (.iload_n 1, 1) := dq_get dd_T_at_0 (i := 6) rfl
theorem d_T_at_13 : decode mT_at.2.1 13 = .ok (.sipush 1600, 3) := dq_get dd_T_at_0 (i := 7) rfl
theorem d_T_at_16 : decode mT_at.2.1 16 = .ok (.if_icmp .ge 16, 3) := dq_get dd_T_at_0 (i := 8) rfl
theorem d_T_at_19 : decode mT_at.2.1 19 = .ok (.aload_n 0, 1) := dq_get dd_T_at_0 (i := 9) rfl
theorem d_T_at_20 : decode mT_at.2.1 20 = .ok (.getfield 9, 3) := dq_get dd_T_at_0 (i := 10) rfl
theorem d_T_at_23 : decode mT_at.2.1 23 = .ok (.iload_n 1, 1) := dq_get dd_T_at_0 (i := 11) rfl
theorem d_T_at_24 : decode mT_at.2.1 24 = .ok (.baload, 1) := dq_get dd_T_at_0 (i := 12) rfl
theorem d_T_at_25 : decode mT_at.2.1 25 = .ok (.sipush 255, 3) := dq_get dd_T_at_0 (i := 13) rfl
theorem d_T_at_28 : decode mT_at.2.1 28 = .ok (.iand, 1) := dq_get dd_T_at_0 (i := 14) rfl
theorem d_T_at_29 : decode mT_at.2.1 29 = .ok (.goto 4, 3) := dq_get dd_T_at_0 (i := 15) rfl
theorem d_T_at_32 : decode mT_at.2.1 32 = .ok (.iconst (-1), 1) := dq_get dd_T_at_0 (i := 16) rfl
theorem d_T_at_33 : decode mT_at.2.1 33 = .ok (.ireturn, 1) := dq_get dd_T_at_0 (i := 17) rfl
theorem dd_T_isBlank_0 : dq mT_isBlank.2.1 [(0, .iload_n 0, 1), (1, .bipush 32, 2), (3, .if_icmp .eq 9, 3), (6, .iload_n 0, 1), (7, .bipush 10, 2), (9, .if_icmp .ne 7, 3), (12, .iconst 1, 1), (13, .goto 4, 3), (16, .iconst 0, 1), (17, .ireturn, 1)] = true := by decide +kernel
theorem d_T_isBlank_0 : decode mT_isBlank.2.1 0 = .ok (.iload_n 0, 1) := dq_get dd_T_isBlank_0 (i := 0) rfl
theorem d_T_isBlank_1 : decode mT_isBlank.2.1 1 = .ok (.bipush 32, 2) := dq_get dd_T_isBlank_0 (i := 1) rfl
theorem d_T_isBlank_3 : decode mT_isBlank.2.1 3 = .ok (.if_icmp .eq 9, 3) := dq_get dd_T_isBlank_0 (i := 2) rfl
theorem d_T_isBlank_6 : decode mT_isBlank.2.1 6 = .ok (.iload_n 0, 1) := dq_get dd_T_isBlank_0 (i := 3) rfl
theorem d_T_isBlank_7 : decode mT_isBlank.2.1 7 = .ok (.bipush 10, 2) := dq_get dd_T_isBlank_0 (i := 4) rfl
theorem d_T_isBlank_9 : decode mT_isBlank.2.1 9 = .ok (.if_icmp .ne 7, 3) := dq_get dd_T_isBlank_0 (i := 5) rfl
theorem d_T_isBlank_12 : decode mT_isBlank.2.1 12 = .ok (.iconst 1, 1) := dq_get dd_T_isBlank_0 (i := 6) rfl
theorem d_T_isBlank_13 : decode mT_isBlank.2.1 13 = .ok (.goto 4, 3) := dq_get dd_T_isBlank_0 (i := 7) rfl
theorem d_T_isBlank_16 : decode mT_isBlank.2.1 16 = .ok (.iconst 0, 1) := dq_get dd_T_isBlank_0 (i := 8) rfl
theorem d_T_isBlank_17 : decode mT_isBlank.2.1 17 = .ok (.ireturn, 1) := dq_get dd_T_isBlank_0 (i := 9) rfl
theorem dd_T_isLetter_0 : dq mT_isLetter.2.1 [(0, .iload_n 0, 1), (1, .bipush 97, 2), (3, .if_icmp .lt 13, 3), (6, .iload_n 0, 1), (7, .bipush 122, 2), (9, .if_icmp .gt 7, 3), (12, .iconst 1, 1), (13, .goto 4, 3), (16, .iconst 0, 1), (17, .ireturn, 1)] = true := by decide +kernel
theorem d_T_isLetter_0 : decode mT_isLetter.2.1 0 = .ok (.iload_n 0, 1) := dq_get dd_T_isLetter_0 (i := 0) rfl
theorem d_T_isLetter_1 : decode mT_isLetter.2.1 1 = .ok (.bipush 97, 2) := dq_get dd_T_isLetter_0 (i := 1) rfl
theorem d_T_isLetter_3 : decode mT_isLetter.2.1 3 = .ok (.if_icmp .lt 13, 3) := dq_get dd_T_isLetter_0 (i := 2) rfl
theorem d_T_isLetter_6 : decode mT_isLetter.2.1 6 = .ok (.iload_n 0, 1) := dq_get dd_T_isLetter_0 (i := 3) rfl
theorem d_T_isLetter_7 : decode mT_isLetter.2.1 7 = .ok (.bipush 122, 2) := dq_get dd_T_isLetter_0 (i := 4) rfl
theorem d_T_isLetter_9 : decode mT_isLetter.2.1 9 = .ok (.if_icmp .gt 7, 3) := dq_get dd_T_isLetter_0 (i := 5) rfl
theorem d_T_isLetter_12 : decode mT_isLetter.2.1 12 = .ok (.iconst 1, 1) := dq_get dd_T_isLetter_0 (i := 6) rfl
theorem d_T_isLetter_13 : decode mT_isLetter.2.1 13 = .ok (.goto 4, 3) := dq_get dd_T_isLetter_0 (i := 7) rfl
theorem d_T_isLetter_16 : decode mT_isLetter.2.1 16 = .ok (.iconst 0, 1) := dq_get dd_T_isLetter_0 (i := 8) rfl
theorem d_T_isLetter_17 : decode mT_isLetter.2.1 17 = .ok (.ireturn, 1) := dq_get dd_T_isLetter_0 (i := 9) rfl
theorem dd_T_takeWord_0 : dq mT_takeWord.2.1 [(0, .aload_n 0, 1), (1, .lconst 0, 1), (2, .putfield 61, 3), (5, .aload_n 0, 1), (6, .getfield 19, 3), (9, .aload_n 0, 1), (10, .getfield 15, 3), (13, .if_icmp .ge 55, 3), (16, .aload_n 0, 1), (17, .aload_n 0, 1), (18, .getfield 19, 3), (21, .invokevirtual 25, 3), (24, .invokestatic 39, 3), (27, .ifCond .eq 41, 3), (30, .aload_n 0, 1), (31, .aload_n 0, 1), (32, .getfield 61, 3), (35, .iconst 5, 1), (36, .lshl, 1), (37, .aload_n 0, 1), (38, .aload_n 0, 1), (39, .getfield 19, 3), (42, .invokevirtual 25, 3), (45, .bipush 97, 2), (47, .isub, 1), (48, .iconst 1, 1), (49, .iadd, 1), (50, .i2l, 1), (51, .lor, 1), (52, .putfield 61, 3), (55, .aload_n 0, 1), (56, .dup, 1)] = true := by decide +kernel
theorem d_T_takeWord_0 : decode mT_takeWord.2.1 0 = .ok (.aload_n 0, 1) := dq_get dd_T_takeWord_0 (i := 0) rfl
theorem d_T_takeWord_1 : decode mT_takeWord.2.1 1 = .ok (.lconst 0, 1) := dq_get dd_T_takeWord_0 (i := 1) rfl
theorem d_T_takeWord_2 : decode mT_takeWord.2.1 2 = .ok (.putfield 61, 3) := dq_get dd_T_takeWord_0 (i := 2) rfl
theorem d_T_takeWord_5 : decode mT_takeWord.2.1 5 = .ok (.aload_n 0, 1) := dq_get dd_T_takeWord_0 (i := 3) rfl
theorem d_T_takeWord_6 : decode mT_takeWord.2.1 6 = .ok (.getfield 19, 3) := dq_get dd_T_takeWord_0 (i := 4) rfl
theorem d_T_takeWord_9 : decode mT_takeWord.2.1 9 = .ok (.aload_n 0, 1) := dq_get dd_T_takeWord_0 (i := 5) rfl
theorem d_T_takeWord_10 : decode mT_takeWord.2.1 10 = .ok (.getfield 15, 3) := dq_get dd_T_takeWord_0 (i := 6) rfl
theorem d_T_takeWord_13 : decode mT_takeWord.2.1 13 = .ok (.if_icmp .ge 55, 3) := dq_get dd_T_takeWord_0 (i := 7) rfl
theorem d_T_takeWord_16 : decode mT_takeWord.2.1 16 = .ok (.aload_n 0, 1) := dq_get dd_T_takeWord_0 (i := 8) rfl
theorem d_T_takeWord_17 : decode mT_takeWord.2.1 17 = .ok (.aload_n 0, 1) := dq_get dd_T_takeWord_0 (i := 9) rfl
theorem d_T_takeWord_18 : decode mT_takeWord.2.1 18 = .ok (.getfield 19, 3) := dq_get dd_T_takeWord_0 (i := 10) rfl
theorem d_T_takeWord_21 : decode mT_takeWord.2.1 21 = .ok (.invokevirtual 25, 3) := dq_get dd_T_takeWord_0 (i := 11) rfl
theorem d_T_takeWord_24 : decode mT_takeWord.2.1 24 = .ok (.invokestatic 39, 3) := dq_get dd_T_takeWord_0 (i := 12) rfl
theorem d_T_takeWord_27 : decode mT_takeWord.2.1 27 = .ok (.ifCond .eq 41, 3) := dq_get dd_T_takeWord_0 (i := 13) rfl
theorem d_T_takeWord_30 : decode mT_takeWord.2.1 30 = .ok (.aload_n 0, 1) := dq_get dd_T_takeWord_0 (i := 14) rfl
theorem d_T_takeWord_31 : decode mT_takeWord.2.1 31 = .ok (.aload_n 0, 1) := dq_get dd_T_takeWord_0 (i := 15) rfl
theorem d_T_takeWord_32 : decode mT_takeWord.2.1 32 = .ok (.getfield 61, 3) := dq_get dd_T_takeWord_0 (i := 16) rfl
theorem d_T_takeWord_35 : decode mT_takeWord.2.1 35 = .ok (.iconst 5, 1) := dq_get dd_T_takeWord_0 (i := 17) rfl
theorem d_T_takeWord_36 : decode mT_takeWord.2.1 36 = .ok (.lshl, 1) := dq_get dd_T_takeWord_0 (i := 18) rfl
theorem d_T_takeWord_37 : decode mT_takeWord.2.1 37 = .ok (.aload_n 0, 1) := dq_get dd_T_takeWord_0 (i := 19) rfl
theorem d_T_takeWord_38 : decode mT_takeWord.2.1 38 = .ok (.aload_n 0, 1) := dq_get dd_T_takeWord_0 (i := 20) rfl
theorem d_T_takeWord_39 : decode mT_takeWord.2.1 39 = .ok (.getfield 19, 3) := dq_get dd_T_takeWord_0 (i := 21) rfl
theorem d_T_takeWord_42 : decode mT_takeWord.2.1 42 = .ok (.invokevirtual 25, 3) := dq_get dd_T_takeWord_0 (i := 22) rfl
theorem d_T_takeWord_45 : decode mT_takeWord.2.1 45 = .ok (.bipush 97, 2) := dq_get dd_T_takeWord_0 (i := 23) rfl
theorem d_T_takeWord_47 : decode mT_takeWord.2.1 47 = .ok (.isub, 1) := dq_get dd_T_takeWord_0 (i := 24) rfl
theorem d_T_takeWord_48 : decode mT_takeWord.2.1 48 = .ok (.iconst 1, 1) := dq_get dd_T_takeWord_0 (i := 25) rfl
theorem d_T_takeWord_49 : decode mT_takeWord.2.1 49 = .ok (.iadd, 1) := dq_get dd_T_takeWord_0 (i := 26) rfl
theorem d_T_takeWord_50 : decode mT_takeWord.2.1 50 = .ok (.i2l, 1) := dq_get dd_T_takeWord_0 (i := 27) rfl
theorem d_T_takeWord_51 : decode mT_takeWord.2.1 51 = .ok (.lor, 1) := dq_get dd_T_takeWord_0 (i := 28) rfl
theorem d_T_takeWord_52 : decode mT_takeWord.2.1 52 = .ok (.putfield 61, 3) := dq_get dd_T_takeWord_0 (i := 29) rfl
theorem d_T_takeWord_55 : decode mT_takeWord.2.1 55 = .ok (.aload_n 0, 1) := dq_get dd_T_takeWord_0 (i := 30) rfl
theorem d_T_takeWord_56 : decode mT_takeWord.2.1 56 = .ok (.dup, 1) := dq_get dd_T_takeWord_0 (i := 31) rfl
theorem dd_T_takeWord_32 : dq mT_takeWord.2.1 [(57, .getfield 19, 3), (60, .iconst 1, 1), (61, .iadd, 1), (62, .putfield 19, 3), (65, .goto (-60), 3), (68, .aload_n 0, 1), (69, .aload_n 0, 1), (70, .getfield 9, 3), (73, .aload_n 0, 1), (74, .getfield 33, 3), (77, .aload_n 0, 1), (78, .getfield 19, 3), (81, .invokestatic 65, 3), (84, .putfield 58, 3), (87, .aload_n 0, 1), (88, .aload_n 0, 1), (89, .getfield 58, 3), (92, .iconst (-1), 1), (93, .if_icmp .ne 7, 3), (96, .iconst 2, 1), (97, .goto 4, 3), (100, .iconst 1, 1), (101, .putfield 36, 3), (104, .aload_n 0, 1), (105, .getfield 19, 3), (108, .aload_n 0, 1), (109, .getfield 33, 3), (112, .isub, 1), (113, .bipush 8, 2), (115, .if_icmp .le 8, 3), (118, .aload_n 0, 1), (119, .iconst 5, 1)] = true := by decide +kernel
theorem d_T_takeWord_57 : decode mT_takeWord.2.1 57 = .ok (.getfield 19, 3) := dq_get dd_T_takeWord_32 (i := 0) rfl
theorem d_T_takeWord_60 : decode mT_takeWord.2.1 60 = .ok (.iconst 1, 1) := dq_get dd_T_takeWord_32 (i := 1) rfl
theorem d_T_takeWord_61 : decode mT_takeWord.2.1 61 = .ok (.iadd, 1) := dq_get dd_T_takeWord_32 (i := 2) rfl
theorem d_T_takeWord_62 : decode mT_takeWord.2.1 62 = .ok (.putfield 19, 3) := dq_get dd_T_takeWord_32 (i := 3) rfl
theorem d_T_takeWord_65 : decode mT_takeWord.2.1 65 = .ok (.goto (-60), 3) := dq_get dd_T_takeWord_32 (i := 4) rfl
theorem d_T_takeWord_68 : decode mT_takeWord.2.1 68 = .ok (.aload_n 0, 1) := dq_get dd_T_takeWord_32 (i := 5) rfl
theorem d_T_takeWord_69 : decode mT_takeWord.2.1 69 = .ok (.aload_n 0, 1) := dq_get dd_T_takeWord_32 (i := 6) rfl
theorem d_T_takeWord_70 : decode mT_takeWord.2.1 70 = .ok (.getfield 9, 3) := dq_get dd_T_takeWord_32 (i := 7) rfl
theorem d_T_takeWord_73 : decode mT_takeWord.2.1 73 = .ok (.aload_n 0, 1) := dq_get dd_T_takeWord_32 (i := 8) rfl
theorem d_T_takeWord_74 : decode mT_takeWord.2.1 74 = .ok (.getfield 33, 3) := dq_get dd_T_takeWord_32 (i := 9) rfl
theorem d_T_takeWord_77 : decode mT_takeWord.2.1 77 = .ok (.aload_n 0, 1) := dq_get dd_T_takeWord_32 (i := 10) rfl
theorem d_T_takeWord_78 : decode mT_takeWord.2.1 78 = .ok (.getfield 19, 3) := dq_get dd_T_takeWord_32 (i := 11) rfl
theorem d_T_takeWord_81 : decode mT_takeWord.2.1 81 = .ok (.invokestatic 65, 3) := dq_get dd_T_takeWord_32 (i := 12) rfl
theorem d_T_takeWord_84 : decode mT_takeWord.2.1 84 = .ok (.putfield 58, 3) := dq_get dd_T_takeWord_32 (i := 13) rfl
theorem d_T_takeWord_87 : decode mT_takeWord.2.1 87 = .ok (.aload_n 0, 1) := dq_get dd_T_takeWord_32 (i := 14) rfl
theorem d_T_takeWord_88 : decode mT_takeWord.2.1 88 = .ok (.aload_n 0, 1) := dq_get dd_T_takeWord_32 (i := 15) rfl
theorem d_T_takeWord_89 : decode mT_takeWord.2.1 89 = .ok (.getfield 58, 3) := dq_get dd_T_takeWord_32 (i := 16) rfl
theorem d_T_takeWord_92 : decode mT_takeWord.2.1 92 = .ok (.iconst (-1), 1) := dq_get dd_T_takeWord_32 (i := 17) rfl
theorem d_T_takeWord_93 : decode mT_takeWord.2.1 93 = .ok (.if_icmp .ne 7, 3) := dq_get dd_T_takeWord_32 (i := 18) rfl
theorem d_T_takeWord_96 : decode mT_takeWord.2.1 96 = .ok (.iconst 2, 1) := dq_get dd_T_takeWord_32 (i := 19) rfl
theorem d_T_takeWord_97 : decode mT_takeWord.2.1 97 = .ok (.goto 4, 3) := dq_get dd_T_takeWord_32 (i := 20) rfl
theorem d_T_takeWord_100 : decode mT_takeWord.2.1 100 = .ok (.iconst 1, 1) := dq_get dd_T_takeWord_32 (i := 21) rfl
theorem d_T_takeWord_101 : decode mT_takeWord.2.1 101 = .ok (.putfield 36, 3) := dq_get dd_T_takeWord_32 (i := 22) rfl
theorem d_T_takeWord_104 : decode mT_takeWord.2.1 104 = .ok (.aload_n 0, 1) := dq_get dd_T_takeWord_32 (i := 23) rfl
theorem d_T_takeWord_105 : decode mT_takeWord.2.1 105 = .ok (.getfield 19, 3) := dq_get dd_T_takeWord_32 (i := 24) rfl
theorem d_T_takeWord_108 : decode mT_takeWord.2.1 108 = .ok (.aload_n 0, 1) := dq_get dd_T_takeWord_32 (i := 25) rfl
theorem d_T_takeWord_109 : decode mT_takeWord.2.1 109 = .ok (.getfield 33, 3) := dq_get dd_T_takeWord_32 (i := 26) rfl
theorem d_T_takeWord_112 : decode mT_takeWord.2.1 112 = .ok (.isub, 1) := dq_get dd_T_takeWord_32 (i := 27) rfl
theorem d_T_takeWord_113 : decode mT_takeWord.2.1 113 = .ok (.bipush 8, 2) := dq_get dd_T_takeWord_32 (i := 28) rfl
theorem d_T_takeWord_115 : decode mT_takeWord.2.1 115 = .ok (.if_icmp .le 8, 3) := dq_get dd_T_takeWord_32 (i := 29) rfl
theorem d_T_takeWord_118 : decode mT_takeWord.2.1 118 = .ok (.aload_n 0, 1) := dq_get dd_T_takeWord_32 (i := 30) rfl
theorem d_T_takeWord_119 : decode mT_takeWord.2.1 119 = .ok (.iconst 5, 1) := dq_get dd_T_takeWord_32 (i := 31) rfl
theorem dd_T_takeWord_64 : dq mT_takeWord.2.1 [(120, .putfield 36, 3), (123, .return_, 1)] = true := by decide +kernel
theorem d_T_takeWord_120 : decode mT_takeWord.2.1 120 = .ok (.putfield 36, 3) := dq_get dd_T_takeWord_64 (i := 0) rfl
theorem d_T_takeWord_123 : decode mT_takeWord.2.1 123 = .ok (.return_, 1) := dq_get dd_T_takeWord_64 (i := 1) rfl
theorem dd_W_numberOf_0 : dq mW_numberOf.2.1 [(0, .iconst 0, 1), (1, .istore_n 3, 1), (2, .iload_n 3, 1), (3, .bipush 20, 2), (5, .if_icmp .gt 124, 3), (8, .iload_n 2, 1), (9, .iload_n 1, 1), (10, .isub, 1), (11, .bipush 8, 2), (13, .if_icmp .gt 116, 3), (16, .iload_n 3, 1), (17, .bipush 8, 2), (19, .imul, 1), (20, .istore 4, 2), (22, .iconst 1, 1), (23, .istore 5, 2), (25, .iconst 0, 1), (26, .istore 6, 2), (28, .iload 5, 2), (30, .ifCond .eq 86, 3), (33, .iload 6, 2), (35, .bipush 8, 2), (37, .if_icmp .ge 79, 3), (40, .iload 4, 2), (42, .iload 6, 2), (44, .iadd, 1), (45, .ldc 11, 2), (47, .invokevirtual 13, 3), (50, .if_icmp .ge 66, 3), (53, .iload_n 1, 1), (54, .iload 6, 2), (56, .iadd, 1)] = true := by decide +kernel
theorem d_W_numberOf_0 : decode mW_numberOf.2.1 0 = .ok (.iconst 0, 1) := dq_get dd_W_numberOf_0 (i := 0) rfl
theorem d_W_numberOf_1 : decode mW_numberOf.2.1 1 = .ok (.istore_n 3, 1) := dq_get dd_W_numberOf_0 (i := 1) rfl
theorem d_W_numberOf_2 : decode mW_numberOf.2.1 2 = .ok (.iload_n 3, 1) := dq_get dd_W_numberOf_0 (i := 2) rfl
theorem d_W_numberOf_3 : decode mW_numberOf.2.1 3 = .ok (.bipush 20, 2) := dq_get dd_W_numberOf_0 (i := 3) rfl
theorem d_W_numberOf_5 : decode mW_numberOf.2.1 5 = .ok (.if_icmp .gt 124, 3) := dq_get dd_W_numberOf_0 (i := 4) rfl
theorem d_W_numberOf_8 : decode mW_numberOf.2.1 8 = .ok (.iload_n 2, 1) := dq_get dd_W_numberOf_0 (i := 5) rfl
theorem d_W_numberOf_9 : decode mW_numberOf.2.1 9 = .ok (.iload_n 1, 1) := dq_get dd_W_numberOf_0 (i := 6) rfl
theorem d_W_numberOf_10 : decode mW_numberOf.2.1 10 = .ok (.isub, 1) := dq_get dd_W_numberOf_0 (i := 7) rfl
theorem d_W_numberOf_11 : decode mW_numberOf.2.1 11 = .ok (.bipush 8, 2) := dq_get dd_W_numberOf_0 (i := 8) rfl
theorem d_W_numberOf_13 : decode mW_numberOf.2.1 13 = .ok (.if_icmp .gt 116, 3) := dq_get dd_W_numberOf_0 (i := 9) rfl
theorem d_W_numberOf_16 : decode mW_numberOf.2.1 16 = .ok (.iload_n 3, 1) := dq_get dd_W_numberOf_0 (i := 10) rfl
theorem d_W_numberOf_17 : decode mW_numberOf.2.1 17 = .ok (.bipush 8, 2) := dq_get dd_W_numberOf_0 (i := 11) rfl
theorem d_W_numberOf_19 : decode mW_numberOf.2.1 19 = .ok (.imul, 1) := dq_get dd_W_numberOf_0 (i := 12) rfl
theorem d_W_numberOf_20 : decode mW_numberOf.2.1 20 = .ok (.istore 4, 2) := dq_get dd_W_numberOf_0 (i := 13) rfl
theorem d_W_numberOf_22 : decode mW_numberOf.2.1 22 = .ok (.iconst 1, 1) := dq_get dd_W_numberOf_0 (i := 14) rfl
theorem d_W_numberOf_23 : decode mW_numberOf.2.1 23 = .ok (.istore 5, 2) := dq_get dd_W_numberOf_0 (i := 15) rfl
theorem d_W_numberOf_25 : decode mW_numberOf.2.1 25 = .ok (.iconst 0, 1) := dq_get dd_W_numberOf_0 (i := 16) rfl
theorem d_W_numberOf_26 : decode mW_numberOf.2.1 26 = .ok (.istore 6, 2) := dq_get dd_W_numberOf_0 (i := 17) rfl
theorem d_W_numberOf_28 : decode mW_numberOf.2.1 28 = .ok (.iload 5, 2) := dq_get dd_W_numberOf_0 (i := 18) rfl
theorem d_W_numberOf_30 : decode mW_numberOf.2.1 30 = .ok (.ifCond .eq 86, 3) := dq_get dd_W_numberOf_0 (i := 19) rfl
theorem d_W_numberOf_33 : decode mW_numberOf.2.1 33 = .ok (.iload 6, 2) := dq_get dd_W_numberOf_0 (i := 20) rfl
theorem d_W_numberOf_35 : decode mW_numberOf.2.1 35 = .ok (.bipush 8, 2) := dq_get dd_W_numberOf_0 (i := 21) rfl
theorem d_W_numberOf_37 : decode mW_numberOf.2.1 37 = .ok (.if_icmp .ge 79, 3) := dq_get dd_W_numberOf_0 (i := 22) rfl
theorem d_W_numberOf_40 : decode mW_numberOf.2.1 40 = .ok (.iload 4, 2) := dq_get dd_W_numberOf_0 (i := 23) rfl
theorem d_W_numberOf_42 : decode mW_numberOf.2.1 42 = .ok (.iload 6, 2) := dq_get dd_W_numberOf_0 (i := 24) rfl
theorem d_W_numberOf_44 : decode mW_numberOf.2.1 44 = .ok (.iadd, 1) := dq_get dd_W_numberOf_0 (i := 25) rfl
theorem d_W_numberOf_45 : decode mW_numberOf.2.1 45 = .ok (.ldc 11, 2) := dq_get dd_W_numberOf_0 (i := 26) rfl
theorem d_W_numberOf_47 : decode mW_numberOf.2.1 47 = .ok (.invokevirtual 13, 3) := dq_get dd_W_numberOf_0 (i := 27) rfl
theorem d_W_numberOf_50 : decode mW_numberOf.2.1 50 = .ok (.if_icmp .ge 66, 3) := dq_get dd_W_numberOf_0 (i := 28) rfl
theorem d_W_numberOf_53 : decode mW_numberOf.2.1 53 = .ok (.iload_n 1, 1) := dq_get dd_W_numberOf_0 (i := 29) rfl
theorem d_W_numberOf_54 : decode mW_numberOf.2.1 54 = .ok (.iload 6, 2) := dq_get dd_W_numberOf_0 (i := 30) rfl
theorem d_W_numberOf_56 : decode mW_numberOf.2.1 56 = .ok (.iadd, 1) := dq_get dd_W_numberOf_0 (i := 31) rfl
theorem dd_W_numberOf_32 : dq mW_numberOf.2.1 [(57, .istore 7, 2), (59, .iload 7, 2), (61, .ifCond .lt 23, 3), (64, .iload 7, 2), (66, .iload_n 2, 1), (67, .if_icmp .ge 17, 3), (70, .iload 7, 2), (72, .aload_n 0, 1), (73, .arraylength, 1), (74, .if_icmp .ge 10, 3), (77, .aload_n 0, 1), (78, .iload 7, 2), (80, .baload, 1), (81, .goto 5, 3), (84, .bipush 32, 2), (86, .istore 8, 2), (88, .ldc 11, 2), (90, .iload 4, 2), (92, .iload 6, 2), (94, .iadd, 1), (95, .invokevirtual 19, 3), (98, .iload 8, 2), (100, .if_icmp .ne 7, 3), (103, .iconst 1, 1), (104, .goto 4, 3), (107, .iconst 0, 1), (108, .istore 5, 2), (110, .iinc 6 1, 3), (113, .goto (-85), 3), (116, .iload 5, 2), (118, .ifCond .eq 5, 3), (121, .iload_n 3, 1)] = true := by decide +kernel
theorem d_W_numberOf_57 : decode mW_numberOf.2.1 57 = .ok (.istore 7, 2) := dq_get dd_W_numberOf_32 (i := 0) rfl
theorem d_W_numberOf_59 : decode mW_numberOf.2.1 59 = .ok (.iload 7, 2) := dq_get dd_W_numberOf_32 (i := 1) rfl
theorem d_W_numberOf_61 : decode mW_numberOf.2.1 61 = .ok (.ifCond .lt 23, 3) := dq_get dd_W_numberOf_32 (i := 2) rfl
theorem d_W_numberOf_64 : decode mW_numberOf.2.1 64 = .ok (.iload 7, 2) := dq_get dd_W_numberOf_32 (i := 3) rfl
theorem d_W_numberOf_66 : decode mW_numberOf.2.1 66 = .ok (.iload_n 2, 1) := dq_get dd_W_numberOf_32 (i := 4) rfl
theorem d_W_numberOf_67 : decode mW_numberOf.2.1 67 = .ok (.if_icmp .ge 17, 3) := dq_get dd_W_numberOf_32 (i := 5) rfl
theorem d_W_numberOf_70 : decode mW_numberOf.2.1 70 = .ok (.iload 7, 2) := dq_get dd_W_numberOf_32 (i := 6) rfl
theorem d_W_numberOf_72 : decode mW_numberOf.2.1 72 = .ok (.aload_n 0, 1) := dq_get dd_W_numberOf_32 (i := 7) rfl
theorem d_W_numberOf_73 : decode mW_numberOf.2.1 73 = .ok (.arraylength, 1) := dq_get dd_W_numberOf_32 (i := 8) rfl
theorem d_W_numberOf_74 : decode mW_numberOf.2.1 74 = .ok (.if_icmp .ge 10, 3) := dq_get dd_W_numberOf_32 (i := 9) rfl
theorem d_W_numberOf_77 : decode mW_numberOf.2.1 77 = .ok (.aload_n 0, 1) := dq_get dd_W_numberOf_32 (i := 10) rfl
theorem d_W_numberOf_78 : decode mW_numberOf.2.1 78 = .ok (.iload 7, 2) := dq_get dd_W_numberOf_32 (i := 11) rfl
theorem d_W_numberOf_80 : decode mW_numberOf.2.1 80 = .ok (.baload, 1) := dq_get dd_W_numberOf_32 (i := 12) rfl
theorem d_W_numberOf_81 : decode mW_numberOf.2.1 81 = .ok (.goto 5, 3) := dq_get dd_W_numberOf_32 (i := 13) rfl
theorem d_W_numberOf_84 : decode mW_numberOf.2.1 84 = .ok (.bipush 32, 2) := dq_get dd_W_numberOf_32 (i := 14) rfl
theorem d_W_numberOf_86 : decode mW_numberOf.2.1 86 = .ok (.istore 8, 2) := dq_get dd_W_numberOf_32 (i := 15) rfl
theorem d_W_numberOf_88 : decode mW_numberOf.2.1 88 = .ok (.ldc 11, 2) := dq_get dd_W_numberOf_32 (i := 16) rfl
theorem d_W_numberOf_90 : decode mW_numberOf.2.1 90 = .ok (.iload 4, 2) := dq_get dd_W_numberOf_32 (i := 17) rfl
theorem d_W_numberOf_92 : decode mW_numberOf.2.1 92 = .ok (.iload 6, 2) := dq_get dd_W_numberOf_32 (i := 18) rfl
theorem d_W_numberOf_94 : decode mW_numberOf.2.1 94 = .ok (.iadd, 1) := dq_get dd_W_numberOf_32 (i := 19) rfl
theorem d_W_numberOf_95 : decode mW_numberOf.2.1 95 = .ok (.invokevirtual 19, 3) := dq_get dd_W_numberOf_32 (i := 20) rfl
theorem d_W_numberOf_98 : decode mW_numberOf.2.1 98 = .ok (.iload 8, 2) := dq_get dd_W_numberOf_32 (i := 21) rfl
theorem d_W_numberOf_100 : decode mW_numberOf.2.1 100 = .ok (.if_icmp .ne 7, 3) := dq_get dd_W_numberOf_32 (i := 22) rfl
theorem d_W_numberOf_103 : decode mW_numberOf.2.1 103 = .ok (.iconst 1, 1) := dq_get dd_W_numberOf_32 (i := 23) rfl
theorem d_W_numberOf_104 : decode mW_numberOf.2.1 104 = .ok (.goto 4, 3) := dq_get dd_W_numberOf_32 (i := 24) rfl
theorem d_W_numberOf_107 : decode mW_numberOf.2.1 107 = .ok (.iconst 0, 1) := dq_get dd_W_numberOf_32 (i := 25) rfl
theorem d_W_numberOf_108 : decode mW_numberOf.2.1 108 = .ok (.istore 5, 2) := dq_get dd_W_numberOf_32 (i := 26) rfl
theorem d_W_numberOf_110 : decode mW_numberOf.2.1 110 = .ok (.iinc 6 1, 3) := dq_get dd_W_numberOf_32 (i := 27) rfl
theorem d_W_numberOf_113 : decode mW_numberOf.2.1 113 = .ok (.goto (-85), 3) := dq_get dd_W_numberOf_32 (i := 28) rfl
theorem d_W_numberOf_116 : decode mW_numberOf.2.1 116 = .ok (.iload 5, 2) := dq_get dd_W_numberOf_32 (i := 29) rfl
theorem d_W_numberOf_118 : decode mW_numberOf.2.1 118 = .ok (.ifCond .eq 5, 3) := dq_get dd_W_numberOf_32 (i := 30) rfl
theorem d_W_numberOf_121 : decode mW_numberOf.2.1 121 = .ok (.iload_n 3, 1) := dq_get dd_W_numberOf_32 (i := 31) rfl
theorem dd_W_numberOf_64 : dq mW_numberOf.2.1 [(122, .ireturn, 1), (123, .iinc 3 1, 3), (126, .goto (-124), 3), (129, .iconst (-1), 1), (130, .ireturn, 1)] = true := by decide +kernel
theorem d_W_numberOf_122 : decode mW_numberOf.2.1 122 = .ok (.ireturn, 1) := dq_get dd_W_numberOf_64 (i := 0) rfl
theorem d_W_numberOf_123 : decode mW_numberOf.2.1 123 = .ok (.iinc 3 1, 3) := dq_get dd_W_numberOf_64 (i := 1) rfl
theorem d_W_numberOf_126 : decode mW_numberOf.2.1 126 = .ok (.goto (-124), 3) := dq_get dd_W_numberOf_64 (i := 2) rfl
theorem d_W_numberOf_129 : decode mW_numberOf.2.1 129 = .ok (.iconst (-1), 1) := dq_get dd_W_numberOf_64 (i := 3) rfl
theorem d_W_numberOf_130 : decode mW_numberOf.2.1 130 = .ok (.ireturn, 1) := dq_get dd_W_numberOf_64 (i := 4) rfl
theorem dd_J_length_0 : dq mJ_length.2.1 [(0, .aload_n 0, 1), (1, .getfield 9, 3), (4, .arraylength, 1), (5, .aload_n 0, 1), (6, .invokevirtual 335, 3), (9, .ishr, 1), (10, .ireturn, 1)] = true := by decide +kernel
theorem d_J_length_0 : decode mJ_length.2.1 0 = .ok (.aload_n 0, 1) := dq_get dd_J_length_0 (i := 0) rfl
theorem d_J_length_1 : decode mJ_length.2.1 1 = .ok (.getfield 9, 3) := dq_get dd_J_length_0 (i := 1) rfl
theorem d_J_length_4 : decode mJ_length.2.1 4 = .ok (.arraylength, 1) := dq_get dd_J_length_0 (i := 2) rfl
theorem d_J_length_5 : decode mJ_length.2.1 5 = .ok (.aload_n 0, 1) := dq_get dd_J_length_0 (i := 3) rfl
theorem d_J_length_6 : decode mJ_length.2.1 6 = .ok (.invokevirtual 335, 3) := dq_get dd_J_length_0 (i := 4) rfl
theorem d_J_length_9 : decode mJ_length.2.1 9 = .ok (.ishr, 1) := dq_get dd_J_length_0 (i := 5) rfl
theorem d_J_length_10 : decode mJ_length.2.1 10 = .ok (.ireturn, 1) := dq_get dd_J_length_0 (i := 6) rfl
theorem dd_J_coder_0 : dq mJ_coder.2.1 [(0, .getstatic 38, 3), (3, .ifCond .eq 10, 3), (6, .aload_n 0, 1), (7, .getfield 15, 3), (10, .goto 4, 3), (13, .iconst 1, 1), (14, .ireturn, 1)] = true := by decide +kernel
theorem d_J_coder_0 : decode mJ_coder.2.1 0 = .ok (.getstatic 38, 3) := dq_get dd_J_coder_0 (i := 0) rfl
theorem d_J_coder_3 : decode mJ_coder.2.1 3 = .ok (.ifCond .eq 10, 3) := dq_get dd_J_coder_0 (i := 1) rfl
theorem d_J_coder_6 : decode mJ_coder.2.1 6 = .ok (.aload_n 0, 1) := dq_get dd_J_coder_0 (i := 2) rfl
theorem d_J_coder_7 : decode mJ_coder.2.1 7 = .ok (.getfield 15, 3) := dq_get dd_J_coder_0 (i := 3) rfl
theorem d_J_coder_10 : decode mJ_coder.2.1 10 = .ok (.goto 4, 3) := dq_get dd_J_coder_0 (i := 4) rfl
theorem d_J_coder_13 : decode mJ_coder.2.1 13 = .ok (.iconst 1, 1) := dq_get dd_J_coder_0 (i := 5) rfl
theorem d_J_coder_14 : decode mJ_coder.2.1 14 = .ok (.ireturn, 1) := dq_get dd_J_coder_0 (i := 6) rfl
theorem dd_J_charAt_0 : dq mJ_charAt.2.1 [(0, .aload_n 0, 1), (1, .invokevirtual 492, 3), (4, .ifCond .eq 12, 3), (7, .aload_n 0, 1), (8, .getfield 9, 3), (11, .iload_n 1, 1), (12, .invokestatic 495, 3), (15, .ireturn, 1), (16, .aload_n 0, 1), (17, .getfield 9, 3), (20, .iload_n 1, 1), (21, .invokestatic 498, 3), (24, .ireturn, 1)] = true := by decide +kernel
theorem d_J_charAt_0 : decode mJ_charAt.2.1 0 = .ok (.aload_n 0, 1) := dq_get dd_J_charAt_0 (i := 0) rfl
theorem d_J_charAt_1 : decode mJ_charAt.2.1 1 = .ok (.invokevirtual 492, 3) := dq_get dd_J_charAt_0 (i := 1) rfl
theorem d_J_charAt_4 : decode mJ_charAt.2.1 4 = .ok (.ifCond .eq 12, 3) := dq_get dd_J_charAt_0 (i := 2) rfl
theorem d_J_charAt_7 : decode mJ_charAt.2.1 7 = .ok (.aload_n 0, 1) := dq_get dd_J_charAt_0 (i := 3) rfl
theorem d_J_charAt_8 : decode mJ_charAt.2.1 8 = .ok (.getfield 9, 3) := dq_get dd_J_charAt_0 (i := 4) rfl
theorem d_J_charAt_11 : decode mJ_charAt.2.1 11 = .ok (.iload_n 1, 1) := dq_get dd_J_charAt_0 (i := 5) rfl
theorem d_J_charAt_12 : decode mJ_charAt.2.1 12 = .ok (.invokestatic 495, 3) := dq_get dd_J_charAt_0 (i := 6) rfl
theorem d_J_charAt_15 : decode mJ_charAt.2.1 15 = .ok (.ireturn, 1) := dq_get dd_J_charAt_0 (i := 7) rfl
theorem d_J_charAt_16 : decode mJ_charAt.2.1 16 = .ok (.aload_n 0, 1) := dq_get dd_J_charAt_0 (i := 8) rfl
theorem d_J_charAt_17 : decode mJ_charAt.2.1 17 = .ok (.getfield 9, 3) := dq_get dd_J_charAt_0 (i := 9) rfl
theorem d_J_charAt_20 : decode mJ_charAt.2.1 20 = .ok (.iload_n 1, 1) := dq_get dd_J_charAt_0 (i := 10) rfl
theorem d_J_charAt_21 : decode mJ_charAt.2.1 21 = .ok (.invokestatic 498, 3) := dq_get dd_J_charAt_0 (i := 11) rfl
theorem d_J_charAt_24 : decode mJ_charAt.2.1 24 = .ok (.ireturn, 1) := dq_get dd_J_charAt_0 (i := 12) rfl
theorem dd_J_isLatin1_0 : dq mJ_isLatin1.2.1 [(0, .getstatic 38, 3), (3, .ifCond .eq 14, 3), (6, .aload_n 0, 1), (7, .getfield 15, 3), (10, .ifCond .ne 7, 3), (13, .iconst 1, 1), (14, .goto 4, 3), (17, .iconst 0, 1), (18, .ireturn, 1)] = true := by decide +kernel
theorem d_J_isLatin1_0 : decode mJ_isLatin1.2.1 0 = .ok (.getstatic 38, 3) := dq_get dd_J_isLatin1_0 (i := 0) rfl
theorem d_J_isLatin1_3 : decode mJ_isLatin1.2.1 3 = .ok (.ifCond .eq 14, 3) := dq_get dd_J_isLatin1_0 (i := 1) rfl
theorem d_J_isLatin1_6 : decode mJ_isLatin1.2.1 6 = .ok (.aload_n 0, 1) := dq_get dd_J_isLatin1_0 (i := 2) rfl
theorem d_J_isLatin1_7 : decode mJ_isLatin1.2.1 7 = .ok (.getfield 15, 3) := dq_get dd_J_isLatin1_0 (i := 3) rfl
theorem d_J_isLatin1_10 : decode mJ_isLatin1.2.1 10 = .ok (.ifCond .ne 7, 3) := dq_get dd_J_isLatin1_0 (i := 4) rfl
theorem d_J_isLatin1_13 : decode mJ_isLatin1.2.1 13 = .ok (.iconst 1, 1) := dq_get dd_J_isLatin1_0 (i := 5) rfl
theorem d_J_isLatin1_14 : decode mJ_isLatin1.2.1 14 = .ok (.goto 4, 3) := dq_get dd_J_isLatin1_0 (i := 6) rfl
theorem d_J_isLatin1_17 : decode mJ_isLatin1.2.1 17 = .ok (.iconst 0, 1) := dq_get dd_J_isLatin1_0 (i := 7) rfl
theorem d_J_isLatin1_18 : decode mJ_isLatin1.2.1 18 = .ok (.ireturn, 1) := dq_get dd_J_isLatin1_0 (i := 8) rfl
theorem dd_J_charAt2_0 : dq mJ_charAt2.2.1 [(0, .iload_n 1, 1), (1, .aload_n 0, 1), (2, .arraylength, 1), (3, .invokestatic 9, 3), (6, .aload_n 0, 1), (7, .iload_n 1, 1), (8, .baload, 1), (9, .sipush 255, 3), (12, .iand, 1), (13, .i2c, 1), (14, .ireturn, 1)] = true := by decide +kernel
theorem d_J_charAt2_0 : decode mJ_charAt2.2.1 0 = .ok (.iload_n 1, 1) := dq_get dd_J_charAt2_0 (i := 0) rfl
theorem d_J_charAt2_1 : decode mJ_charAt2.2.1 1 = .ok (.aload_n 0, 1) := dq_get dd_J_charAt2_0 (i := 1) rfl
theorem d_J_charAt2_2 : decode mJ_charAt2.2.1 2 = .ok (.arraylength, 1) := dq_get dd_J_charAt2_0 (i := 2) rfl
theorem d_J_charAt2_3 : decode mJ_charAt2.2.1 3 = .ok (.invokestatic 9, 3) := dq_get dd_J_charAt2_0 (i := 3) rfl
theorem d_J_charAt2_6 : decode mJ_charAt2.2.1 6 = .ok (.aload_n 0, 1) := dq_get dd_J_charAt2_0 (i := 4) rfl
theorem d_J_charAt2_7 : decode mJ_charAt2.2.1 7 = .ok (.iload_n 1, 1) := dq_get dd_J_charAt2_0 (i := 5) rfl
theorem d_J_charAt2_8 : decode mJ_charAt2.2.1 8 = .ok (.baload, 1) := dq_get dd_J_charAt2_0 (i := 6) rfl
theorem d_J_charAt2_9 : decode mJ_charAt2.2.1 9 = .ok (.sipush 255, 3) := dq_get dd_J_charAt2_0 (i := 7) rfl
theorem d_J_charAt2_12 : decode mJ_charAt2.2.1 12 = .ok (.iand, 1) := dq_get dd_J_charAt2_0 (i := 8) rfl
theorem d_J_charAt2_13 : decode mJ_charAt2.2.1 13 = .ok (.i2c, 1) := dq_get dd_J_charAt2_0 (i := 9) rfl
theorem d_J_charAt2_14 : decode mJ_charAt2.2.1 14 = .ok (.ireturn, 1) := dq_get dd_J_charAt2_0 (i := 10) rfl
theorem dd_J_checkIndex_0 : dq mJ_checkIndex.2.1 [(0, .iload_n 0, 1), (1, .iload_n 1, 1), (2, .getstatic 1053, 3), (5, .invokestatic 1059, 3), (8, .pop, 1), (9, .return_, 1)] = true := by decide +kernel
theorem d_J_checkIndex_0 : decode mJ_checkIndex.2.1 0 = .ok (.iload_n 0, 1) := dq_get dd_J_checkIndex_0 (i := 0) rfl
theorem d_J_checkIndex_1 : decode mJ_checkIndex.2.1 1 = .ok (.iload_n 1, 1) := dq_get dd_J_checkIndex_0 (i := 1) rfl
theorem d_J_checkIndex_2 : decode mJ_checkIndex.2.1 2 = .ok (.getstatic 1053, 3) := dq_get dd_J_checkIndex_0 (i := 2) rfl
theorem d_J_checkIndex_5 : decode mJ_checkIndex.2.1 5 = .ok (.invokestatic 1059, 3) := dq_get dd_J_checkIndex_0 (i := 3) rfl
theorem d_J_checkIndex_8 : decode mJ_checkIndex.2.1 8 = .ok (.pop, 1) := dq_get dd_J_checkIndex_0 (i := 4) rfl
theorem d_J_checkIndex_9 : decode mJ_checkIndex.2.1 9 = .ok (.return_, 1) := dq_get dd_J_checkIndex_0 (i := 5) rfl
theorem dd_J_checkIndex3_0 : dq mJ_checkIndex3.2.1 [(0, .iload_n 0, 1), (1, .ifCond .lt 8, 3), (4, .iload_n 0, 1), (5, .iload_n 1, 1), (6, .if_icmp .lt 10, 3), (9, .aload_n 2, 1), (10, .iload_n 0, 1), (11, .iload_n 1, 1), (12, .invokestatic 95, 3), (16, .iload_n 0, 1), (17, .ireturn, 1)] = true := by decide +kernel
theorem d_J_checkIndex3_0 : decode mJ_checkIndex3.2.1 0 = .ok (.iload_n 0, 1) := dq_get dd_J_checkIndex3_0 (i := 0) rfl
theorem d_J_checkIndex3_1 : decode mJ_checkIndex3.2.1 1 = .ok (.ifCond .lt 8, 3) := dq_get dd_J_checkIndex3_0 (i := 1) rfl
theorem d_J_checkIndex3_4 : decode mJ_checkIndex3.2.1 4 = .ok (.iload_n 0, 1) := dq_get dd_J_checkIndex3_0 (i := 2) rfl
theorem d_J_checkIndex3_5 : decode mJ_checkIndex3.2.1 5 = .ok (.iload_n 1, 1) := dq_get dd_J_checkIndex3_0 (i := 3) rfl
theorem d_J_checkIndex3_6 : decode mJ_checkIndex3.2.1 6 = .ok (.if_icmp .lt 10, 3) := dq_get dd_J_checkIndex3_0 (i := 4) rfl
theorem d_J_checkIndex3_9 : decode mJ_checkIndex3.2.1 9 = .ok (.aload_n 2, 1) := dq_get dd_J_checkIndex3_0 (i := 5) rfl
theorem d_J_checkIndex3_10 : decode mJ_checkIndex3.2.1 10 = .ok (.iload_n 0, 1) := dq_get dd_J_checkIndex3_0 (i := 6) rfl
theorem d_J_checkIndex3_11 : decode mJ_checkIndex3.2.1 11 = .ok (.iload_n 1, 1) := dq_get dd_J_checkIndex3_0 (i := 7) rfl
theorem d_J_checkIndex3_12 : decode mJ_checkIndex3.2.1 12 = .ok (.invokestatic 95, 3) := dq_get dd_J_checkIndex3_0 (i := 8) rfl
theorem d_J_checkIndex3_16 : decode mJ_checkIndex3.2.1 16 = .ok (.iload_n 0, 1) := dq_get dd_J_checkIndex3_0 (i := 9) rfl
theorem d_J_checkIndex3_17 : decode mJ_checkIndex3.2.1 17 = .ok (.ireturn, 1) := dq_get dd_J_checkIndex3_0 (i := 10) rfl
theorem dd_T_isDigit_0 : dq mT_isDigit.2.1 [(0, .iload_n 0, 1), (1, .bipush 48, 2), (3, .if_icmp .lt 13, 3), (6, .iload_n 0, 1), (7, .bipush 57, 2), (9, .if_icmp .gt 7, 3), (12, .iconst 1, 1), (13, .goto 4, 3), (16, .iconst 0, 1), (17, .ireturn, 1)] = true := by decide +kernel
theorem d_T_isDigit_0 : decode mT_isDigit.2.1 0 = .ok (.iload_n 0, 1) := dq_get dd_T_isDigit_0 (i := 0) rfl
theorem d_T_isDigit_1 : decode mT_isDigit.2.1 1 = .ok (.bipush 48, 2) := dq_get dd_T_isDigit_0 (i := 1) rfl
theorem d_T_isDigit_3 : decode mT_isDigit.2.1 3 = .ok (.if_icmp .lt 13, 3) := dq_get dd_T_isDigit_0 (i := 2) rfl
theorem d_T_isDigit_6 : decode mT_isDigit.2.1 6 = .ok (.iload_n 0, 1) := dq_get dd_T_isDigit_0 (i := 3) rfl
theorem d_T_isDigit_7 : decode mT_isDigit.2.1 7 = .ok (.bipush 57, 2) := dq_get dd_T_isDigit_0 (i := 4) rfl
theorem d_T_isDigit_9 : decode mT_isDigit.2.1 9 = .ok (.if_icmp .gt 7, 3) := dq_get dd_T_isDigit_0 (i := 5) rfl
theorem d_T_isDigit_12 : decode mT_isDigit.2.1 12 = .ok (.iconst 1, 1) := dq_get dd_T_isDigit_0 (i := 6) rfl
theorem d_T_isDigit_13 : decode mT_isDigit.2.1 13 = .ok (.goto 4, 3) := dq_get dd_T_isDigit_0 (i := 7) rfl
theorem d_T_isDigit_16 : decode mT_isDigit.2.1 16 = .ok (.iconst 0, 1) := dq_get dd_T_isDigit_0 (i := 8) rfl
theorem d_T_isDigit_17 : decode mT_isDigit.2.1 17 = .ok (.ireturn, 1) := dq_get dd_T_isDigit_0 (i := 9) rfl
theorem dd_T_takeNumber_0 : dq mT_takeNumber.2.1 [(0, .aload_n 0, 1), (1, .iconst 0, 1), (2, .putfield 58, 3), (5, .aload_n 0, 1), (6, .getfield 19, 3), (9, .aload_n 0, 1), (10, .getfield 15, 3), (13, .if_icmp .ge 53, 3), (16, .aload_n 0, 1), (17, .aload_n 0, 1), (18, .getfield 19, 3), (21, .invokevirtual 25, 3), (24, .invokestatic 45, 3), (27, .ifCond .eq 39, 3), (30, .aload_n 0, 1), (31, .aload_n 0, 1), (32, .getfield 58, 3), (35, .bipush 10, 2), (37, .imul, 1), (38, .aload_n 0, 1), (39, .aload_n 0, 1), (40, .getfield 19, 3), (43, .invokevirtual 25, 3), (46, .iadd, 1), (47, .bipush 48, 2), (49, .isub, 1), (50, .putfield 58, 3), (53, .aload_n 0, 1), (54, .dup, 1), (55, .getfield 19, 3), (58, .iconst 1, 1), (59, .iadd, 1)] = true := by decide +kernel
theorem d_T_takeNumber_0 : decode mT_takeNumber.2.1 0 = .ok (.aload_n 0, 1) := dq_get dd_T_takeNumber_0 (i := 0) rfl
theorem d_T_takeNumber_1 : decode mT_takeNumber.2.1 1 = .ok (.iconst 0, 1) := dq_get dd_T_takeNumber_0 (i := 1) rfl
theorem d_T_takeNumber_2 : decode mT_takeNumber.2.1 2 = .ok (.putfield 58, 3) := dq_get dd_T_takeNumber_0 (i := 2) rfl
theorem d_T_takeNumber_5 : decode mT_takeNumber.2.1 5 = .ok (.aload_n 0, 1) := dq_get dd_T_takeNumber_0 (i := 3) rfl
theorem d_T_takeNumber_6 : decode mT_takeNumber.2.1 6 = .ok (.getfield 19, 3) := dq_get dd_T_takeNumber_0 (i := 4) rfl
theorem d_T_takeNumber_9 : decode mT_takeNumber.2.1 9 = .ok (.aload_n 0, 1) := dq_get dd_T_takeNumber_0 (i := 5) rfl
theorem d_T_takeNumber_10 : decode mT_takeNumber.2.1 10 = .ok (.getfield 15, 3) := dq_get dd_T_takeNumber_0 (i := 6) rfl
theorem d_T_takeNumber_13 : decode mT_takeNumber.2.1 13 = .ok (.if_icmp .ge 53, 3) := dq_get dd_T_takeNumber_0 (i := 7) rfl
theorem d_T_takeNumber_16 : decode mT_takeNumber.2.1 16 = .ok (.aload_n 0, 1) := dq_get dd_T_takeNumber_0 (i := 8) rfl
theorem d_T_takeNumber_17 : decode mT_takeNumber.2.1 17 = .ok (.aload_n 0, 1) := dq_get dd_T_takeNumber_0 (i := 9) rfl
theorem d_T_takeNumber_18 : decode mT_takeNumber.2.1 18 = .ok (.getfield 19, 3) := dq_get dd_T_takeNumber_0 (i := 10) rfl
theorem d_T_takeNumber_21 : decode mT_takeNumber.2.1 21 = .ok (.invokevirtual 25, 3) := dq_get dd_T_takeNumber_0 (i := 11) rfl
theorem d_T_takeNumber_24 : decode mT_takeNumber.2.1 24 = .ok (.invokestatic 45, 3) := dq_get dd_T_takeNumber_0 (i := 12) rfl
theorem d_T_takeNumber_27 : decode mT_takeNumber.2.1 27 = .ok (.ifCond .eq 39, 3) := dq_get dd_T_takeNumber_0 (i := 13) rfl
theorem d_T_takeNumber_30 : decode mT_takeNumber.2.1 30 = .ok (.aload_n 0, 1) := dq_get dd_T_takeNumber_0 (i := 14) rfl
theorem d_T_takeNumber_31 : decode mT_takeNumber.2.1 31 = .ok (.aload_n 0, 1) := dq_get dd_T_takeNumber_0 (i := 15) rfl
theorem d_T_takeNumber_32 : decode mT_takeNumber.2.1 32 = .ok (.getfield 58, 3) := dq_get dd_T_takeNumber_0 (i := 16) rfl
theorem d_T_takeNumber_35 : decode mT_takeNumber.2.1 35 = .ok (.bipush 10, 2) := dq_get dd_T_takeNumber_0 (i := 17) rfl
theorem d_T_takeNumber_37 : decode mT_takeNumber.2.1 37 = .ok (.imul, 1) := dq_get dd_T_takeNumber_0 (i := 18) rfl
theorem d_T_takeNumber_38 : decode mT_takeNumber.2.1 38 = .ok (.aload_n 0, 1) := dq_get dd_T_takeNumber_0 (i := 19) rfl
theorem d_T_takeNumber_39 : decode mT_takeNumber.2.1 39 = .ok (.aload_n 0, 1) := dq_get dd_T_takeNumber_0 (i := 20) rfl
theorem d_T_takeNumber_40 : decode mT_takeNumber.2.1 40 = .ok (.getfield 19, 3) := dq_get dd_T_takeNumber_0 (i := 21) rfl
theorem d_T_takeNumber_43 : decode mT_takeNumber.2.1 43 = .ok (.invokevirtual 25, 3) := dq_get dd_T_takeNumber_0 (i := 22) rfl
theorem d_T_takeNumber_46 : decode mT_takeNumber.2.1 46 = .ok (.iadd, 1) := dq_get dd_T_takeNumber_0 (i := 23) rfl
theorem d_T_takeNumber_47 : decode mT_takeNumber.2.1 47 = .ok (.bipush 48, 2) := dq_get dd_T_takeNumber_0 (i := 24) rfl
theorem d_T_takeNumber_49 : decode mT_takeNumber.2.1 49 = .ok (.isub, 1) := dq_get dd_T_takeNumber_0 (i := 25) rfl
theorem d_T_takeNumber_50 : decode mT_takeNumber.2.1 50 = .ok (.putfield 58, 3) := dq_get dd_T_takeNumber_0 (i := 26) rfl
theorem d_T_takeNumber_53 : decode mT_takeNumber.2.1 53 = .ok (.aload_n 0, 1) := dq_get dd_T_takeNumber_0 (i := 27) rfl
theorem d_T_takeNumber_54 : decode mT_takeNumber.2.1 54 = .ok (.dup, 1) := dq_get dd_T_takeNumber_0 (i := 28) rfl
theorem d_T_takeNumber_55 : decode mT_takeNumber.2.1 55 = .ok (.getfield 19, 3) := dq_get dd_T_takeNumber_0 (i := 29) rfl
theorem d_T_takeNumber_58 : decode mT_takeNumber.2.1 58 = .ok (.iconst 1, 1) := dq_get dd_T_takeNumber_0 (i := 30) rfl
theorem d_T_takeNumber_59 : decode mT_takeNumber.2.1 59 = .ok (.iadd, 1) := dq_get dd_T_takeNumber_0 (i := 31) rfl
theorem dd_T_takeNumber_32 : dq mT_takeNumber.2.1 [(60, .putfield 19, 3), (63, .goto (-58), 3), (66, .aload_n 0, 1), (67, .aload_n 0, 1), (68, .getfield 19, 3), (71, .aload_n 0, 1), (72, .getfield 33, 3), (75, .isub, 1), (76, .iconst 4, 1), (77, .if_icmp .gt 17, 3), (80, .aload_n 0, 1), (81, .aload_n 0, 1), (82, .getfield 19, 3), (85, .invokevirtual 25, 3), (88, .invokestatic 39, 3), (91, .ifCond .eq 7, 3), (94, .iconst 5, 1), (95, .goto 4, 3), (98, .iconst 3, 1), (99, .putfield 36, 3), (102, .return_, 1)] = true := by decide +kernel
theorem d_T_takeNumber_60 : decode mT_takeNumber.2.1 60 = .ok (.putfield 19, 3) := dq_get dd_T_takeNumber_32 (i := 0) rfl
theorem d_T_takeNumber_63 : decode mT_takeNumber.2.1 63 = .ok (.goto (-58), 3) := dq_get dd_T_takeNumber_32 (i := 1) rfl
theorem d_T_takeNumber_66 : decode mT_takeNumber.2.1 66 = .ok (.aload_n 0, 1) := dq_get dd_T_takeNumber_32 (i := 2) rfl
theorem d_T_takeNumber_67 : decode mT_takeNumber.2.1 67 = .ok (.aload_n 0, 1) := dq_get dd_T_takeNumber_32 (i := 3) rfl
theorem d_T_takeNumber_68 : decode mT_takeNumber.2.1 68 = .ok (.getfield 19, 3) := dq_get dd_T_takeNumber_32 (i := 4) rfl
theorem d_T_takeNumber_71 : decode mT_takeNumber.2.1 71 = .ok (.aload_n 0, 1) := dq_get dd_T_takeNumber_32 (i := 5) rfl
theorem d_T_takeNumber_72 : decode mT_takeNumber.2.1 72 = .ok (.getfield 33, 3) := dq_get dd_T_takeNumber_32 (i := 6) rfl
theorem d_T_takeNumber_75 : decode mT_takeNumber.2.1 75 = .ok (.isub, 1) := dq_get dd_T_takeNumber_32 (i := 7) rfl
theorem d_T_takeNumber_76 : decode mT_takeNumber.2.1 76 = .ok (.iconst 4, 1) := dq_get dd_T_takeNumber_32 (i := 8) rfl
theorem d_T_takeNumber_77 : decode mT_takeNumber.2.1 77 = .ok (.if_icmp .gt 17, 3) := dq_get dd_T_takeNumber_32 (i := 9) rfl
theorem d_T_takeNumber_80 : decode mT_takeNumber.2.1 80 = .ok (.aload_n 0, 1) := dq_get dd_T_takeNumber_32 (i := 10) rfl
theorem d_T_takeNumber_81 : decode mT_takeNumber.2.1 81 = .ok (.aload_n 0, 1) := dq_get dd_T_takeNumber_32 (i := 11) rfl
theorem d_T_takeNumber_82 : decode mT_takeNumber.2.1 82 = .ok (.getfield 19, 3) := dq_get dd_T_takeNumber_32 (i := 12) rfl
theorem d_T_takeNumber_85 : decode mT_takeNumber.2.1 85 = .ok (.invokevirtual 25, 3) := dq_get dd_T_takeNumber_32 (i := 13) rfl
theorem d_T_takeNumber_88 : decode mT_takeNumber.2.1 88 = .ok (.invokestatic 39, 3) := dq_get dd_T_takeNumber_32 (i := 14) rfl
theorem d_T_takeNumber_91 : decode mT_takeNumber.2.1 91 = .ok (.ifCond .eq 7, 3) := dq_get dd_T_takeNumber_32 (i := 15) rfl
theorem d_T_takeNumber_94 : decode mT_takeNumber.2.1 94 = .ok (.iconst 5, 1) := dq_get dd_T_takeNumber_32 (i := 16) rfl
theorem d_T_takeNumber_95 : decode mT_takeNumber.2.1 95 = .ok (.goto 4, 3) := dq_get dd_T_takeNumber_32 (i := 17) rfl
theorem d_T_takeNumber_98 : decode mT_takeNumber.2.1 98 = .ok (.iconst 3, 1) := dq_get dd_T_takeNumber_32 (i := 18) rfl
theorem d_T_takeNumber_99 : decode mT_takeNumber.2.1 99 = .ok (.putfield 36, 3) := dq_get dd_T_takeNumber_32 (i := 19) rfl
theorem d_T_takeNumber_102 : decode mT_takeNumber.2.1 102 = .ok (.return_, 1) := dq_get dd_T_takeNumber_32 (i := 20) rfl
theorem dd_J_indexOf_0 : dq mJ_indexOf.2.1 [(0, .aload_n 0, 1), (1, .iload_n 1, 1), (2, .iconst 0, 1), (3, .invokevirtual 633, 3), (6, .ireturn, 1)] = true := by decide +kernel
theorem d_J_indexOf_0 : decode mJ_indexOf.2.1 0 = .ok (.aload_n 0, 1) := dq_get dd_J_indexOf_0 (i := 0) rfl
theorem d_J_indexOf_1 : decode mJ_indexOf.2.1 1 = .ok (.iload_n 1, 1) := dq_get dd_J_indexOf_0 (i := 1) rfl
theorem d_J_indexOf_2 : decode mJ_indexOf.2.1 2 = .ok (.iconst 0, 1) := dq_get dd_J_indexOf_0 (i := 2) rfl
theorem d_J_indexOf_3 : decode mJ_indexOf.2.1 3 = .ok (.invokevirtual 633, 3) := dq_get dd_J_indexOf_0 (i := 3) rfl
theorem d_J_indexOf_6 : decode mJ_indexOf.2.1 6 = .ok (.ireturn, 1) := dq_get dd_J_indexOf_0 (i := 4) rfl
theorem dd_J_indexOf2_0 : dq mJ_indexOf2.2.1 [(0, .aload_n 0, 1), (1, .invokevirtual 492, 3), (4, .ifCond .eq 19, 3), (7, .aload_n 0, 1), (8, .getfield 9, 3), (11, .iload_n 1, 1), (12, .iload_n 2, 1), (13, .aload_n 0, 1), (14, .invokevirtual 505, 3), (17, .invokestatic 637, 3), (20, .goto 16, 3), (23, .aload_n 0, 1), (24, .getfield 9, 3), (27, .iload_n 1, 1), (28, .iload_n 2, 1), (29, .aload_n 0, 1), (30, .invokevirtual 505, 3), (33, .invokestatic 640, 3), (36, .ireturn, 1)] = true := by decide +kernel
theorem d_J_indexOf2_0 : decode mJ_indexOf2.2.1 0 = .ok (.aload_n 0, 1) := dq_get dd_J_indexOf2_0 (i := 0) rfl
theorem d_J_indexOf2_1 : decode mJ_indexOf2.2.1 1 = .ok (.invokevirtual 492, 3) := dq_get dd_J_indexOf2_0 (i := 1) rfl
theorem d_J_indexOf2_4 : decode mJ_indexOf2.2.1 4 = .ok (.ifCond .eq 19, 3) := dq_get dd_J_indexOf2_0 (i := 2) rfl
theorem d_J_indexOf2_7 : decode mJ_indexOf2.2.1 7 = .ok (.aload_n 0, 1) := dq_get dd_J_indexOf2_0 (i := 3) rfl
theorem d_J_indexOf2_8 : decode mJ_indexOf2.2.1 8 = .ok (.getfield 9, 3) := dq_get dd_J_indexOf2_0 (i := 4) rfl
theorem d_J_indexOf2_11 : decode mJ_indexOf2.2.1 11 = .ok (.iload_n 1, 1) := dq_get dd_J_indexOf2_0 (i := 5) rfl
theorem d_J_indexOf2_12 : decode mJ_indexOf2.2.1 12 = .ok (.iload_n 2, 1) := dq_get dd_J_indexOf2_0 (i := 6) rfl
theorem d_J_indexOf2_13 : decode mJ_indexOf2.2.1 13 = .ok (.aload_n 0, 1) := dq_get dd_J_indexOf2_0 (i := 7) rfl
theorem d_J_indexOf2_14 : decode mJ_indexOf2.2.1 14 = .ok (.invokevirtual 505, 3) := dq_get dd_J_indexOf2_0 (i := 8) rfl
theorem d_J_indexOf2_17 : decode mJ_indexOf2.2.1 17 = .ok (.invokestatic 637, 3) := dq_get dd_J_indexOf2_0 (i := 9) rfl
theorem d_J_indexOf2_20 : decode mJ_indexOf2.2.1 20 = .ok (.goto 16, 3) := dq_get dd_J_indexOf2_0 (i := 10) rfl
theorem d_J_indexOf2_23 : decode mJ_indexOf2.2.1 23 = .ok (.aload_n 0, 1) := dq_get dd_J_indexOf2_0 (i := 11) rfl
theorem d_J_indexOf2_24 : decode mJ_indexOf2.2.1 24 = .ok (.getfield 9, 3) := dq_get dd_J_indexOf2_0 (i := 12) rfl
theorem d_J_indexOf2_27 : decode mJ_indexOf2.2.1 27 = .ok (.iload_n 1, 1) := dq_get dd_J_indexOf2_0 (i := 13) rfl
theorem d_J_indexOf2_28 : decode mJ_indexOf2.2.1 28 = .ok (.iload_n 2, 1) := dq_get dd_J_indexOf2_0 (i := 14) rfl
theorem d_J_indexOf2_29 : decode mJ_indexOf2.2.1 29 = .ok (.aload_n 0, 1) := dq_get dd_J_indexOf2_0 (i := 15) rfl
theorem d_J_indexOf2_30 : decode mJ_indexOf2.2.1 30 = .ok (.invokevirtual 505, 3) := dq_get dd_J_indexOf2_0 (i := 16) rfl
theorem d_J_indexOf2_33 : decode mJ_indexOf2.2.1 33 = .ok (.invokestatic 640, 3) := dq_get dd_J_indexOf2_0 (i := 17) rfl
theorem d_J_indexOf2_36 : decode mJ_indexOf2.2.1 36 = .ok (.ireturn, 1) := dq_get dd_J_indexOf2_0 (i := 18) rfl
theorem dd_J_indexOf3_0 : dq mJ_indexOf3.2.1 [(0, .iload_n 1, 1), (1, .invokestatic 88, 3), (4, .ifCond .ne 5, 3), (7, .iconst (-1), 1), (8, .ireturn, 1), (9, .iload_n 2, 1), (10, .iconst 0, 1), (11, .invokestatic 92, 3), (14, .istore_n 2, 1), (15, .iload_n 3, 1), (16, .aload_n 0, 1), (17, .arraylength, 1), (18, .invokestatic 38, 3), (21, .istore_n 3, 1), (22, .iload_n 2, 1), (23, .iload_n 3, 1), (24, .if_icmp .lt 5, 3), (27, .iconst (-1), 1), (28, .ireturn, 1), (29, .aload_n 0, 1), (30, .iload_n 1, 1), (31, .iload_n 2, 1), (32, .iload_n 3, 1), (33, .invokestatic 95, 3), (36, .ireturn, 1)] = true := by decide +kernel
theorem d_J_indexOf3_0 : decode mJ_indexOf3.2.1 0 = .ok (.iload_n 1, 1) := dq_get dd_J_indexOf3_0 (i := 0) rfl
theorem d_J_indexOf3_1 : decode mJ_indexOf3.2.1 1 = .ok (.invokestatic 88, 3) := dq_get dd_J_indexOf3_0 (i := 1) rfl
theorem d_J_indexOf3_4 : decode mJ_indexOf3.2.1 4 = .ok (.ifCond .ne 5, 3) := dq_get dd_J_indexOf3_0 (i := 2) rfl
theorem d_J_indexOf3_7 : decode mJ_indexOf3.2.1 7 = .ok (.iconst (-1), 1) := dq_get dd_J_indexOf3_0 (i := 3) rfl
theorem d_J_indexOf3_8 : decode mJ_indexOf3.2.1 8 = .ok (.ireturn, 1) := dq_get dd_J_indexOf3_0 (i := 4) rfl
theorem d_J_indexOf3_9 : decode mJ_indexOf3.2.1 9 = .ok (.iload_n 2, 1) := dq_get dd_J_indexOf3_0 (i := 5) rfl
theorem d_J_indexOf3_10 : decode mJ_indexOf3.2.1 10 = .ok (.iconst 0, 1) := dq_get dd_J_indexOf3_0 (i := 6) rfl
theorem d_J_indexOf3_11 : decode mJ_indexOf3.2.1 11 = .ok (.invokestatic 92, 3) := dq_get dd_J_indexOf3_0 (i := 7) rfl
theorem d_J_indexOf3_14 : decode mJ_indexOf3.2.1 14 = .ok (.istore_n 2, 1) := dq_get dd_J_indexOf3_0 (i := 8) rfl
theorem d_J_indexOf3_15 : decode mJ_indexOf3.2.1 15 = .ok (.iload_n 3, 1) := dq_get dd_J_indexOf3_0 (i := 9) rfl
theorem d_J_indexOf3_16 : decode mJ_indexOf3.2.1 16 = .ok (.aload_n 0, 1) := dq_get dd_J_indexOf3_0 (i := 10) rfl
theorem d_J_indexOf3_17 : decode mJ_indexOf3.2.1 17 = .ok (.arraylength, 1) := dq_get dd_J_indexOf3_0 (i := 11) rfl
theorem d_J_indexOf3_18 : decode mJ_indexOf3.2.1 18 = .ok (.invokestatic 38, 3) := dq_get dd_J_indexOf3_0 (i := 12) rfl
theorem d_J_indexOf3_21 : decode mJ_indexOf3.2.1 21 = .ok (.istore_n 3, 1) := dq_get dd_J_indexOf3_0 (i := 13) rfl
theorem d_J_indexOf3_22 : decode mJ_indexOf3.2.1 22 = .ok (.iload_n 2, 1) := dq_get dd_J_indexOf3_0 (i := 14) rfl
theorem d_J_indexOf3_23 : decode mJ_indexOf3.2.1 23 = .ok (.iload_n 3, 1) := dq_get dd_J_indexOf3_0 (i := 15) rfl
theorem d_J_indexOf3_24 : decode mJ_indexOf3.2.1 24 = .ok (.if_icmp .lt 5, 3) := dq_get dd_J_indexOf3_0 (i := 16) rfl
theorem d_J_indexOf3_27 : decode mJ_indexOf3.2.1 27 = .ok (.iconst (-1), 1) := dq_get dd_J_indexOf3_0 (i := 17) rfl
theorem d_J_indexOf3_28 : decode mJ_indexOf3.2.1 28 = .ok (.ireturn, 1) := dq_get dd_J_indexOf3_0 (i := 18) rfl
theorem d_J_indexOf3_29 : decode mJ_indexOf3.2.1 29 = .ok (.aload_n 0, 1) := dq_get dd_J_indexOf3_0 (i := 19) rfl
theorem d_J_indexOf3_30 : decode mJ_indexOf3.2.1 30 = .ok (.iload_n 1, 1) := dq_get dd_J_indexOf3_0 (i := 20) rfl
theorem d_J_indexOf3_31 : decode mJ_indexOf3.2.1 31 = .ok (.iload_n 2, 1) := dq_get dd_J_indexOf3_0 (i := 21) rfl
theorem d_J_indexOf3_32 : decode mJ_indexOf3.2.1 32 = .ok (.iload_n 3, 1) := dq_get dd_J_indexOf3_0 (i := 22) rfl
theorem d_J_indexOf3_33 : decode mJ_indexOf3.2.1 33 = .ok (.invokestatic 95, 3) := dq_get dd_J_indexOf3_0 (i := 23) rfl
theorem d_J_indexOf3_36 : decode mJ_indexOf3.2.1 36 = .ok (.ireturn, 1) := dq_get dd_J_indexOf3_0 (i := 24) rfl
theorem dd_J_canEncode_0 : dq mJ_canEncode.2.1 [(0, .iload_n 0, 1), (1, .ifCond .lt 14, 3), (4, .iload_n 0, 1), (5, .sipush 255, 3), (8, .if_icmp .gt 7, 3), (11, .iconst 1, 1), (12, .goto 4, 3), (15, .iconst 0, 1), (16, .ireturn, 1)] = true := by decide +kernel
theorem d_J_canEncode_0 : decode mJ_canEncode.2.1 0 = .ok (.iload_n 0, 1) := dq_get dd_J_canEncode_0 (i := 0) rfl
theorem d_J_canEncode_1 : decode mJ_canEncode.2.1 1 = .ok (.ifCond .lt 14, 3) := dq_get dd_J_canEncode_0 (i := 1) rfl
theorem d_J_canEncode_4 : decode mJ_canEncode.2.1 4 = .ok (.iload_n 0, 1) := dq_get dd_J_canEncode_0 (i := 2) rfl
theorem d_J_canEncode_5 : decode mJ_canEncode.2.1 5 = .ok (.sipush 255, 3) := dq_get dd_J_canEncode_0 (i := 3) rfl
theorem d_J_canEncode_8 : decode mJ_canEncode.2.1 8 = .ok (.if_icmp .gt 7, 3) := dq_get dd_J_canEncode_0 (i := 4) rfl
theorem d_J_canEncode_11 : decode mJ_canEncode.2.1 11 = .ok (.iconst 1, 1) := dq_get dd_J_canEncode_0 (i := 5) rfl
theorem d_J_canEncode_12 : decode mJ_canEncode.2.1 12 = .ok (.goto 4, 3) := dq_get dd_J_canEncode_0 (i := 6) rfl
theorem d_J_canEncode_15 : decode mJ_canEncode.2.1 15 = .ok (.iconst 0, 1) := dq_get dd_J_canEncode_0 (i := 7) rfl
theorem d_J_canEncode_16 : decode mJ_canEncode.2.1 16 = .ok (.ireturn, 1) := dq_get dd_J_canEncode_0 (i := 8) rfl
theorem dd_J_indexOfChar_0 : dq mJ_indexOfChar.2.1 [(0, .iload_n 1, 1), (1, .i2b, 1), (2, .istore 4, 2), (4, .iload_n 2, 1), (5, .istore 5, 2), (7, .iload 5, 2), (9, .iload_n 3, 1), (10, .if_icmp .ge 21, 3), (13, .aload_n 0, 1), (14, .iload 5, 2), (16, .baload, 1), (17, .iload 4, 2), (19, .if_icmp .ne 6, 3), (22, .iload 5, 2), (24, .ireturn, 1), (25, .iinc 5 1, 3), (28, .goto (-21), 3), (31, .iconst (-1), 1), (32, .ireturn, 1)] = true := by decide +kernel
theorem d_J_indexOfChar_0 : decode mJ_indexOfChar.2.1 0 = .ok (.iload_n 1, 1) := dq_get dd_J_indexOfChar_0 (i := 0) rfl
theorem d_J_indexOfChar_1 : decode mJ_indexOfChar.2.1 1 = .ok (.i2b, 1) := dq_get dd_J_indexOfChar_0 (i := 1) rfl
theorem d_J_indexOfChar_2 : decode mJ_indexOfChar.2.1 2 = .ok (.istore 4, 2) := dq_get dd_J_indexOfChar_0 (i := 2) rfl
theorem d_J_indexOfChar_4 : decode mJ_indexOfChar.2.1 4 = .ok (.iload_n 2, 1) := dq_get dd_J_indexOfChar_0 (i := 3) rfl
theorem d_J_indexOfChar_5 : decode mJ_indexOfChar.2.1 5 = .ok (.istore 5, 2) := dq_get dd_J_indexOfChar_0 (i := 4) rfl
theorem d_J_indexOfChar_7 : decode mJ_indexOfChar.2.1 7 = .ok (.iload 5, 2) := dq_get dd_J_indexOfChar_0 (i := 5) rfl
theorem d_J_indexOfChar_9 : decode mJ_indexOfChar.2.1 9 = .ok (.iload_n 3, 1) := dq_get dd_J_indexOfChar_0 (i := 6) rfl
theorem d_J_indexOfChar_10 : decode mJ_indexOfChar.2.1 10 = .ok (.if_icmp .ge 21, 3) := dq_get dd_J_indexOfChar_0 (i := 7) rfl
theorem d_J_indexOfChar_13 : decode mJ_indexOfChar.2.1 13 = .ok (.aload_n 0, 1) := dq_get dd_J_indexOfChar_0 (i := 8) rfl
theorem d_J_indexOfChar_14 : decode mJ_indexOfChar.2.1 14 = .ok (.iload 5, 2) := dq_get dd_J_indexOfChar_0 (i := 9) rfl
theorem d_J_indexOfChar_16 : decode mJ_indexOfChar.2.1 16 = .ok (.baload, 1) := dq_get dd_J_indexOfChar_0 (i := 10) rfl
theorem d_J_indexOfChar_17 : decode mJ_indexOfChar.2.1 17 = .ok (.iload 4, 2) := dq_get dd_J_indexOfChar_0 (i := 11) rfl
theorem d_J_indexOfChar_19 : decode mJ_indexOfChar.2.1 19 = .ok (.if_icmp .ne 6, 3) := dq_get dd_J_indexOfChar_0 (i := 12) rfl
theorem d_J_indexOfChar_22 : decode mJ_indexOfChar.2.1 22 = .ok (.iload 5, 2) := dq_get dd_J_indexOfChar_0 (i := 13) rfl
theorem d_J_indexOfChar_24 : decode mJ_indexOfChar.2.1 24 = .ok (.ireturn, 1) := dq_get dd_J_indexOfChar_0 (i := 14) rfl
theorem d_J_indexOfChar_25 : decode mJ_indexOfChar.2.1 25 = .ok (.iinc 5 1, 3) := dq_get dd_J_indexOfChar_0 (i := 15) rfl
theorem d_J_indexOfChar_28 : decode mJ_indexOfChar.2.1 28 = .ok (.goto (-21), 3) := dq_get dd_J_indexOfChar_0 (i := 16) rfl
theorem d_J_indexOfChar_31 : decode mJ_indexOfChar.2.1 31 = .ok (.iconst (-1), 1) := dq_get dd_J_indexOfChar_0 (i := 17) rfl
theorem d_J_indexOfChar_32 : decode mJ_indexOfChar.2.1 32 = .ok (.ireturn, 1) := dq_get dd_J_indexOfChar_0 (i := 18) rfl
theorem dd_R_goesOn_0 : dq mR_goesOn.2.1 [(0, .aload_n 0, 1), (1, .getfield 29, 3), (4, .ifCond .ne 17, 3), (7, .aload_n 0, 1), (8, .getfield 18, 3), (11, .getfield 41, 3), (14, .ifCond .eq 7, 3), (17, .iconst 1, 1), (18, .goto 4, 3), (21, .iconst 0, 1), (22, .ireturn, 1)] = true := by decide +kernel
theorem d_R_goesOn_0 : decode mR_goesOn.2.1 0 = .ok (.aload_n 0, 1) := dq_get dd_R_goesOn_0 (i := 0) rfl
theorem d_R_goesOn_1 : decode mR_goesOn.2.1 1 = .ok (.getfield 29, 3) := dq_get dd_R_goesOn_0 (i := 1) rfl
theorem d_R_goesOn_4 : decode mR_goesOn.2.1 4 = .ok (.ifCond .ne 17, 3) := dq_get dd_R_goesOn_0 (i := 2) rfl
theorem d_R_goesOn_7 : decode mR_goesOn.2.1 7 = .ok (.aload_n 0, 1) := dq_get dd_R_goesOn_0 (i := 3) rfl
theorem d_R_goesOn_8 : decode mR_goesOn.2.1 8 = .ok (.getfield 18, 3) := dq_get dd_R_goesOn_0 (i := 4) rfl
theorem d_R_goesOn_11 : decode mR_goesOn.2.1 11 = .ok (.getfield 41, 3) := dq_get dd_R_goesOn_0 (i := 5) rfl
theorem d_R_goesOn_14 : decode mR_goesOn.2.1 14 = .ok (.ifCond .eq 7, 3) := dq_get dd_R_goesOn_0 (i := 6) rfl
theorem d_R_goesOn_17 : decode mR_goesOn.2.1 17 = .ok (.iconst 1, 1) := dq_get dd_R_goesOn_0 (i := 7) rfl
theorem d_R_goesOn_18 : decode mR_goesOn.2.1 18 = .ok (.goto 4, 3) := dq_get dd_R_goesOn_0 (i := 8) rfl
theorem d_R_goesOn_21 : decode mR_goesOn.2.1 21 = .ok (.iconst 0, 1) := dq_get dd_R_goesOn_0 (i := 9) rfl
theorem d_R_goesOn_22 : decode mR_goesOn.2.1 22 = .ok (.ireturn, 1) := dq_get dd_R_goesOn_0 (i := 10) rfl
theorem dd_R_readLine_0 : dq mR_readLine.2.1 [(0, .aload_n 0, 1), (1, .getfield 18, 3), (4, .getfield 41, 3), (7, .iconst 1, 1), (8, .if_icmp .ne 13, 3), (11, .aload_n 0, 1), (12, .getfield 18, 3), (15, .getfield 44, 3), (18, .goto 4, 3), (21, .iconst (-1), 1), (22, .istore_n 1, 1), (23, .aload_n 0, 1), (24, .iload_n 1, 1), (25, .invokevirtual 47, 3), (28, .ifCond .ne 9, 3), (31, .aload_n 0, 1), (32, .iconst 2, 1), (33, .invokevirtual 51, 3), (36, .return_, 1), (37, .aload_n 0, 1), (38, .dup, 1), (39, .getfield 32, 3), (42, .iconst 1, 1), (43, .iload_n 1, 1), (44, .ishl, 1), (45, .ior, 1), (46, .putfield 32, 3), (49, .aload_n 0, 1), (50, .getfield 18, 3), (53, .invokevirtual 55, 3), (56, .iload_n 1, 1), (57, .tableswitch 132 0 6 #[43, 60, 67, 74, 82, 99, 115], 43)] = true := by decide +kernel
theorem d_R_readLine_0 : decode mR_readLine.2.1 0 = .ok (.aload_n 0, 1) := dq_get dd_R_readLine_0 (i := 0) rfl
theorem d_R_readLine_1 : decode mR_readLine.2.1 1 = .ok (.getfield 18, 3) := dq_get dd_R_readLine_0 (i := 1) rfl
theorem d_R_readLine_4 : decode mR_readLine.2.1 4 = .ok (.getfield 41, 3) := dq_get dd_R_readLine_0 (i := 2) rfl
theorem d_R_readLine_7 : decode mR_readLine.2.1 7 = .ok (.iconst 1, 1) := dq_get dd_R_readLine_0 (i := 3) rfl
theorem d_R_readLine_8 : decode mR_readLine.2.1 8 = .ok (.if_icmp .ne 13, 3) := dq_get dd_R_readLine_0 (i := 4) rfl
theorem d_R_readLine_11 : decode mR_readLine.2.1 11 = .ok (.aload_n 0, 1) := dq_get dd_R_readLine_0 (i := 5) rfl
theorem d_R_readLine_12 : decode mR_readLine.2.1 12 = .ok (.getfield 18, 3) := dq_get dd_R_readLine_0 (i := 6) rfl
theorem d_R_readLine_15 : decode mR_readLine.2.1 15 = .ok (.getfield 44, 3) := dq_get dd_R_readLine_0 (i := 7) rfl
theorem d_R_readLine_18 : decode mR_readLine.2.1 18 = .ok (.goto 4, 3) := dq_get dd_R_readLine_0 (i := 8) rfl
theorem d_R_readLine_21 : decode mR_readLine.2.1 21 = .ok (.iconst (-1), 1) := dq_get dd_R_readLine_0 (i := 9) rfl
theorem d_R_readLine_22 : decode mR_readLine.2.1 22 = .ok (.istore_n 1, 1) := dq_get dd_R_readLine_0 (i := 10) rfl
theorem d_R_readLine_23 : decode mR_readLine.2.1 23 = .ok (.aload_n 0, 1) := dq_get dd_R_readLine_0 (i := 11) rfl
theorem d_R_readLine_24 : decode mR_readLine.2.1 24 = .ok (.iload_n 1, 1) := dq_get dd_R_readLine_0 (i := 12) rfl
theorem d_R_readLine_25 : decode mR_readLine.2.1 25 = .ok (.invokevirtual 47, 3) := dq_get dd_R_readLine_0 (i := 13) rfl
theorem d_R_readLine_28 : decode mR_readLine.2.1 28 = .ok (.ifCond .ne 9, 3) := dq_get dd_R_readLine_0 (i := 14) rfl
theorem d_R_readLine_31 : decode mR_readLine.2.1 31 = .ok (.aload_n 0, 1) := dq_get dd_R_readLine_0 (i := 15) rfl
theorem d_R_readLine_32 : decode mR_readLine.2.1 32 = .ok (.iconst 2, 1) := dq_get dd_R_readLine_0 (i := 16) rfl
theorem d_R_readLine_33 : decode mR_readLine.2.1 33 = .ok (.invokevirtual 51, 3) := dq_get dd_R_readLine_0 (i := 17) rfl
theorem d_R_readLine_36 : decode mR_readLine.2.1 36 = .ok (.return_, 1) := dq_get dd_R_readLine_0 (i := 18) rfl
theorem d_R_readLine_37 : decode mR_readLine.2.1 37 = .ok (.aload_n 0, 1) := dq_get dd_R_readLine_0 (i := 19) rfl
theorem d_R_readLine_38 : decode mR_readLine.2.1 38 = .ok (.dup, 1) := dq_get dd_R_readLine_0 (i := 20) rfl
theorem d_R_readLine_39 : decode mR_readLine.2.1 39 = .ok (.getfield 32, 3) := dq_get dd_R_readLine_0 (i := 21) rfl
theorem d_R_readLine_42 : decode mR_readLine.2.1 42 = .ok (.iconst 1, 1) := dq_get dd_R_readLine_0 (i := 22) rfl
theorem d_R_readLine_43 : decode mR_readLine.2.1 43 = .ok (.iload_n 1, 1) := dq_get dd_R_readLine_0 (i := 23) rfl
theorem d_R_readLine_44 : decode mR_readLine.2.1 44 = .ok (.ishl, 1) := dq_get dd_R_readLine_0 (i := 24) rfl
theorem d_R_readLine_45 : decode mR_readLine.2.1 45 = .ok (.ior, 1) := dq_get dd_R_readLine_0 (i := 25) rfl
theorem d_R_readLine_46 : decode mR_readLine.2.1 46 = .ok (.putfield 32, 3) := dq_get dd_R_readLine_0 (i := 26) rfl
theorem d_R_readLine_49 : decode mR_readLine.2.1 49 = .ok (.aload_n 0, 1) := dq_get dd_R_readLine_0 (i := 27) rfl
theorem d_R_readLine_50 : decode mR_readLine.2.1 50 = .ok (.getfield 18, 3) := dq_get dd_R_readLine_0 (i := 28) rfl
theorem d_R_readLine_53 : decode mR_readLine.2.1 53 = .ok (.invokevirtual 55, 3) := dq_get dd_R_readLine_0 (i := 29) rfl
theorem d_R_readLine_56 : decode mR_readLine.2.1 56 = .ok (.iload_n 1, 1) := dq_get dd_R_readLine_0 (i := 30) rfl
theorem d_R_readLine_57 : decode mR_readLine.2.1 57 = .ok (.tableswitch 132 0 6 #[43, 60, 67, 74, 82, 99, 115], 43) := dq_get dd_R_readLine_0 (i := 31) rfl
theorem dd_R_readLine_32 : dq mR_readLine.2.1 [(100, .aload_n 0, 1), (101, .getfield 25, 3), (104, .aload_n 0, 1), (105, .iconst 1, 1), (106, .bipush 12, 2), (108, .invokevirtual 58, 3), (111, .putfield 62, 3), (114, .goto 89, 3), (117, .aload_n 0, 1), (118, .invokevirtual 65, 3), (121, .goto 82, 3), (124, .aload_n 0, 1), (125, .invokevirtual 68, 3), (128, .goto 75, 3), (131, .aload_n 0, 1), (132, .iconst 0, 1), (133, .invokevirtual 71, 3), (136, .goto 67, 3), (139, .aload_n 0, 1), (140, .getfield 25, 3), (143, .aload_n 0, 1), (144, .iconst 0, 1), (145, .bipush 87, 2), (147, .invokevirtual 58, 3), (150, .putfield 74, 3), (153, .goto 50, 3), (156, .aload_n 0, 1), (157, .getfield 25, 3), (160, .aload_n 0, 1), (161, .iconst 1, 1), (162, .iconst 5, 1), (163, .invokevirtual 58, 3)] = true := by decide +kernel
theorem d_R_readLine_100 : decode mR_readLine.2.1 100 = .ok (.aload_n 0, 1) := dq_get dd_R_readLine_32 (i := 0) rfl
theorem d_R_readLine_101 : decode mR_readLine.2.1 101 = .ok (.getfield 25, 3) := dq_get dd_R_readLine_32 (i := 1) rfl
theorem d_R_readLine_104 : decode mR_readLine.2.1 104 = .ok (.aload_n 0, 1) := dq_get dd_R_readLine_32 (i := 2) rfl
theorem d_R_readLine_105 : decode mR_readLine.2.1 105 = .ok (.iconst 1, 1) := dq_get dd_R_readLine_32 (i := 3) rfl
theorem d_R_readLine_106 : decode mR_readLine.2.1 106 = .ok (.bipush 12, 2) := dq_get dd_R_readLine_32 (i := 4) rfl
theorem d_R_readLine_108 : decode mR_readLine.2.1 108 = .ok (.invokevirtual 58, 3) := dq_get dd_R_readLine_32 (i := 5) rfl
theorem d_R_readLine_111 : decode mR_readLine.2.1 111 = .ok (.putfield 62, 3) := dq_get dd_R_readLine_32 (i := 6) rfl
theorem d_R_readLine_114 : decode mR_readLine.2.1 114 = .ok (.goto 89, 3) := dq_get dd_R_readLine_32 (i := 7) rfl
theorem d_R_readLine_117 : decode mR_readLine.2.1 117 = .ok (.aload_n 0, 1) := dq_get dd_R_readLine_32 (i := 8) rfl
theorem d_R_readLine_118 : decode mR_readLine.2.1 118 = .ok (.invokevirtual 65, 3) := dq_get dd_R_readLine_32 (i := 9) rfl
theorem d_R_readLine_121 : decode mR_readLine.2.1 121 = .ok (.goto 82, 3) := dq_get dd_R_readLine_32 (i := 10) rfl
theorem d_R_readLine_124 : decode mR_readLine.2.1 124 = .ok (.aload_n 0, 1) := dq_get dd_R_readLine_32 (i := 11) rfl
theorem d_R_readLine_125 : decode mR_readLine.2.1 125 = .ok (.invokevirtual 68, 3) := dq_get dd_R_readLine_32 (i := 12) rfl
theorem d_R_readLine_128 : decode mR_readLine.2.1 128 = .ok (.goto 75, 3) := dq_get dd_R_readLine_32 (i := 13) rfl
theorem d_R_readLine_131 : decode mR_readLine.2.1 131 = .ok (.aload_n 0, 1) := dq_get dd_R_readLine_32 (i := 14) rfl
theorem d_R_readLine_132 : decode mR_readLine.2.1 132 = .ok (.iconst 0, 1) := dq_get dd_R_readLine_32 (i := 15) rfl
theorem d_R_readLine_133 : decode mR_readLine.2.1 133 = .ok (.invokevirtual 71, 3) := dq_get dd_R_readLine_32 (i := 16) rfl
theorem d_R_readLine_136 : decode mR_readLine.2.1 136 = .ok (.goto 67, 3) := dq_get dd_R_readLine_32 (i := 17) rfl
theorem d_R_readLine_139 : decode mR_readLine.2.1 139 = .ok (.aload_n 0, 1) := dq_get dd_R_readLine_32 (i := 18) rfl
theorem d_R_readLine_140 : decode mR_readLine.2.1 140 = .ok (.getfield 25, 3) := dq_get dd_R_readLine_32 (i := 19) rfl
theorem d_R_readLine_143 : decode mR_readLine.2.1 143 = .ok (.aload_n 0, 1) := dq_get dd_R_readLine_32 (i := 20) rfl
theorem d_R_readLine_144 : decode mR_readLine.2.1 144 = .ok (.iconst 0, 1) := dq_get dd_R_readLine_32 (i := 21) rfl
theorem d_R_readLine_145 : decode mR_readLine.2.1 145 = .ok (.bipush 87, 2) := dq_get dd_R_readLine_32 (i := 22) rfl
theorem d_R_readLine_147 : decode mR_readLine.2.1 147 = .ok (.invokevirtual 58, 3) := dq_get dd_R_readLine_32 (i := 23) rfl
theorem d_R_readLine_150 : decode mR_readLine.2.1 150 = .ok (.putfield 74, 3) := dq_get dd_R_readLine_32 (i := 24) rfl
theorem d_R_readLine_153 : decode mR_readLine.2.1 153 = .ok (.goto 50, 3) := dq_get dd_R_readLine_32 (i := 25) rfl
theorem d_R_readLine_156 : decode mR_readLine.2.1 156 = .ok (.aload_n 0, 1) := dq_get dd_R_readLine_32 (i := 26) rfl
theorem d_R_readLine_157 : decode mR_readLine.2.1 157 = .ok (.getfield 25, 3) := dq_get dd_R_readLine_32 (i := 27) rfl
theorem d_R_readLine_160 : decode mR_readLine.2.1 160 = .ok (.aload_n 0, 1) := dq_get dd_R_readLine_32 (i := 28) rfl
theorem d_R_readLine_161 : decode mR_readLine.2.1 161 = .ok (.iconst 1, 1) := dq_get dd_R_readLine_32 (i := 29) rfl
theorem d_R_readLine_162 : decode mR_readLine.2.1 162 = .ok (.iconst 5, 1) := dq_get dd_R_readLine_32 (i := 30) rfl
theorem d_R_readLine_163 : decode mR_readLine.2.1 163 = .ok (.invokevirtual 58, 3) := dq_get dd_R_readLine_32 (i := 31) rfl
theorem dd_R_readLine_64 : dq mR_readLine.2.1 [(166, .putfield 77, 3), (169, .goto 34, 3), (172, .aload_n 0, 1), (173, .getfield 25, 3), (176, .aload_n 0, 1), (177, .iconst 0, 1), (178, .bipush 87, 2), (180, .invokevirtual 58, 3), (183, .putfield 80, 3), (186, .goto 17, 3), (189, .aload_n 0, 1), (190, .getfield 25, 3), (193, .aload_n 0, 1), (194, .iconst 0, 1), (195, .bipush 9, 2), (197, .invokevirtual 58, 3), (200, .putfield 83, 3), (203, .aload_n 0, 1), (204, .bipush 59, 2), (206, .invokevirtual 86, 3), (209, .return_, 1)] = true := by decide +kernel
theorem d_R_readLine_166 : decode mR_readLine.2.1 166 = .ok (.putfield 77, 3) := dq_get dd_R_readLine_64 (i := 0) rfl
theorem d_R_readLine_169 : decode mR_readLine.2.1 169 = .ok (.goto 34, 3) := dq_get dd_R_readLine_64 (i := 1) rfl
theorem d_R_readLine_172 : decode mR_readLine.2.1 172 = .ok (.aload_n 0, 1) := dq_get dd_R_readLine_64 (i := 2) rfl
theorem d_R_readLine_173 : decode mR_readLine.2.1 173 = .ok (.getfield 25, 3) := dq_get dd_R_readLine_64 (i := 3) rfl
theorem d_R_readLine_176 : decode mR_readLine.2.1 176 = .ok (.aload_n 0, 1) := dq_get dd_R_readLine_64 (i := 4) rfl
theorem d_R_readLine_177 : decode mR_readLine.2.1 177 = .ok (.iconst 0, 1) := dq_get dd_R_readLine_64 (i := 5) rfl
theorem d_R_readLine_178 : decode mR_readLine.2.1 178 = .ok (.bipush 87, 2) := dq_get dd_R_readLine_64 (i := 6) rfl
theorem d_R_readLine_180 : decode mR_readLine.2.1 180 = .ok (.invokevirtual 58, 3) := dq_get dd_R_readLine_64 (i := 7) rfl
theorem d_R_readLine_183 : decode mR_readLine.2.1 183 = .ok (.putfield 80, 3) := dq_get dd_R_readLine_64 (i := 8) rfl
theorem d_R_readLine_186 : decode mR_readLine.2.1 186 = .ok (.goto 17, 3) := dq_get dd_R_readLine_64 (i := 9) rfl
theorem d_R_readLine_189 : decode mR_readLine.2.1 189 = .ok (.aload_n 0, 1) := dq_get dd_R_readLine_64 (i := 10) rfl
theorem d_R_readLine_190 : decode mR_readLine.2.1 190 = .ok (.getfield 25, 3) := dq_get dd_R_readLine_64 (i := 11) rfl
theorem d_R_readLine_193 : decode mR_readLine.2.1 193 = .ok (.aload_n 0, 1) := dq_get dd_R_readLine_64 (i := 12) rfl
theorem d_R_readLine_194 : decode mR_readLine.2.1 194 = .ok (.iconst 0, 1) := dq_get dd_R_readLine_64 (i := 13) rfl
theorem d_R_readLine_195 : decode mR_readLine.2.1 195 = .ok (.bipush 9, 2) := dq_get dd_R_readLine_64 (i := 14) rfl
theorem d_R_readLine_197 : decode mR_readLine.2.1 197 = .ok (.invokevirtual 58, 3) := dq_get dd_R_readLine_64 (i := 15) rfl
theorem d_R_readLine_200 : decode mR_readLine.2.1 200 = .ok (.putfield 83, 3) := dq_get dd_R_readLine_64 (i := 16) rfl
theorem d_R_readLine_203 : decode mR_readLine.2.1 203 = .ok (.aload_n 0, 1) := dq_get dd_R_readLine_64 (i := 17) rfl
theorem d_R_readLine_204 : decode mR_readLine.2.1 204 = .ok (.bipush 59, 2) := dq_get dd_R_readLine_64 (i := 18) rfl
theorem d_R_readLine_206 : decode mR_readLine.2.1 206 = .ok (.invokevirtual 86, 3) := dq_get dd_R_readLine_64 (i := 19) rfl
theorem d_R_readLine_209 : decode mR_readLine.2.1 209 = .ok (.return_, 1) := dq_get dd_R_readLine_64 (i := 20) rfl
theorem dd_R_mayBegin_0 : dq mR_mayBegin.2.1 [(0, .iload_n 1, 1), (1, .tableswitch 75 0 2 #[27, 40, 57], 27), (28, .aload_n 0, 1), (29, .getfield 32, 3), (32, .ifCond .ne 7, 3), (35, .iconst 1, 1), (36, .goto 4, 3), (39, .iconst 0, 1), (40, .ireturn, 1), (41, .aload_n 0, 1), (42, .getfield 25, 3), (45, .getfield 90, 3), (48, .iconst 4, 1), (49, .if_icmp .ge 7, 3), (52, .iconst 1, 1), (53, .goto 4, 3), (56, .iconst 0, 1), (57, .ireturn, 1), (58, .aload_n 0, 1), (59, .getfield 25, 3), (62, .getfield 93, 3), (65, .bipush 10, 2), (67, .if_icmp .ge 7, 3), (70, .iconst 1, 1), (71, .goto 4, 3), (74, .iconst 0, 1), (75, .ireturn, 1), (76, .iload_n 1, 1), (77, .iconst 3, 1), (78, .if_icmp .lt 24, 3), (81, .iload_n 1, 1), (82, .bipush 7, 2)] = true := by decide +kernel
theorem d_R_mayBegin_0 : decode mR_mayBegin.2.1 0 = .ok (.iload_n 1, 1) := dq_get dd_R_mayBegin_0 (i := 0) rfl
theorem d_R_mayBegin_1 : decode mR_mayBegin.2.1 1 = .ok (.tableswitch 75 0 2 #[27, 40, 57], 27) := dq_get dd_R_mayBegin_0 (i := 1) rfl
theorem d_R_mayBegin_28 : decode mR_mayBegin.2.1 28 = .ok (.aload_n 0, 1) := dq_get dd_R_mayBegin_0 (i := 2) rfl
theorem d_R_mayBegin_29 : decode mR_mayBegin.2.1 29 = .ok (.getfield 32, 3) := dq_get dd_R_mayBegin_0 (i := 3) rfl
theorem d_R_mayBegin_32 : decode mR_mayBegin.2.1 32 = .ok (.ifCond .ne 7, 3) := dq_get dd_R_mayBegin_0 (i := 4) rfl
theorem d_R_mayBegin_35 : decode mR_mayBegin.2.1 35 = .ok (.iconst 1, 1) := dq_get dd_R_mayBegin_0 (i := 5) rfl
theorem d_R_mayBegin_36 : decode mR_mayBegin.2.1 36 = .ok (.goto 4, 3) := dq_get dd_R_mayBegin_0 (i := 6) rfl
theorem d_R_mayBegin_39 : decode mR_mayBegin.2.1 39 = .ok (.iconst 0, 1) := dq_get dd_R_mayBegin_0 (i := 7) rfl
theorem d_R_mayBegin_40 : decode mR_mayBegin.2.1 40 = .ok (.ireturn, 1) := dq_get dd_R_mayBegin_0 (i := 8) rfl
theorem d_R_mayBegin_41 : decode mR_mayBegin.2.1 41 = .ok (.aload_n 0, 1) := dq_get dd_R_mayBegin_0 (i := 9) rfl
theorem d_R_mayBegin_42 : decode mR_mayBegin.2.1 42 = .ok (.getfield 25, 3) := dq_get dd_R_mayBegin_0 (i := 10) rfl
theorem d_R_mayBegin_45 : decode mR_mayBegin.2.1 45 = .ok (.getfield 90, 3) := dq_get dd_R_mayBegin_0 (i := 11) rfl
theorem d_R_mayBegin_48 : decode mR_mayBegin.2.1 48 = .ok (.iconst 4, 1) := dq_get dd_R_mayBegin_0 (i := 12) rfl
theorem d_R_mayBegin_49 : decode mR_mayBegin.2.1 49 = .ok (.if_icmp .ge 7, 3) := dq_get dd_R_mayBegin_0 (i := 13) rfl
theorem d_R_mayBegin_52 : decode mR_mayBegin.2.1 52 = .ok (.iconst 1, 1) := dq_get dd_R_mayBegin_0 (i := 14) rfl
theorem d_R_mayBegin_53 : decode mR_mayBegin.2.1 53 = .ok (.goto 4, 3) := dq_get dd_R_mayBegin_0 (i := 15) rfl
theorem d_R_mayBegin_56 : decode mR_mayBegin.2.1 56 = .ok (.iconst 0, 1) := dq_get dd_R_mayBegin_0 (i := 16) rfl
theorem d_R_mayBegin_57 : decode mR_mayBegin.2.1 57 = .ok (.ireturn, 1) := dq_get dd_R_mayBegin_0 (i := 17) rfl
theorem d_R_mayBegin_58 : decode mR_mayBegin.2.1 58 = .ok (.aload_n 0, 1) := dq_get dd_R_mayBegin_0 (i := 18) rfl
theorem d_R_mayBegin_59 : decode mR_mayBegin.2.1 59 = .ok (.getfield 25, 3) := dq_get dd_R_mayBegin_0 (i := 19) rfl
theorem d_R_mayBegin_62 : decode mR_mayBegin.2.1 62 = .ok (.getfield 93, 3) := dq_get dd_R_mayBegin_0 (i := 20) rfl
theorem d_R_mayBegin_65 : decode mR_mayBegin.2.1 65 = .ok (.bipush 10, 2) := dq_get dd_R_mayBegin_0 (i := 21) rfl
theorem d_R_mayBegin_67 : decode mR_mayBegin.2.1 67 = .ok (.if_icmp .ge 7, 3) := dq_get dd_R_mayBegin_0 (i := 22) rfl
theorem d_R_mayBegin_70 : decode mR_mayBegin.2.1 70 = .ok (.iconst 1, 1) := dq_get dd_R_mayBegin_0 (i := 23) rfl
theorem d_R_mayBegin_71 : decode mR_mayBegin.2.1 71 = .ok (.goto 4, 3) := dq_get dd_R_mayBegin_0 (i := 24) rfl
theorem d_R_mayBegin_74 : decode mR_mayBegin.2.1 74 = .ok (.iconst 0, 1) := dq_get dd_R_mayBegin_0 (i := 25) rfl
theorem d_R_mayBegin_75 : decode mR_mayBegin.2.1 75 = .ok (.ireturn, 1) := dq_get dd_R_mayBegin_0 (i := 26) rfl
theorem d_R_mayBegin_76 : decode mR_mayBegin.2.1 76 = .ok (.iload_n 1, 1) := dq_get dd_R_mayBegin_0 (i := 27) rfl
theorem d_R_mayBegin_77 : decode mR_mayBegin.2.1 77 = .ok (.iconst 3, 1) := dq_get dd_R_mayBegin_0 (i := 28) rfl
theorem d_R_mayBegin_78 : decode mR_mayBegin.2.1 78 = .ok (.if_icmp .lt 24, 3) := dq_get dd_R_mayBegin_0 (i := 29) rfl
theorem d_R_mayBegin_81 : decode mR_mayBegin.2.1 81 = .ok (.iload_n 1, 1) := dq_get dd_R_mayBegin_0 (i := 30) rfl
theorem d_R_mayBegin_82 : decode mR_mayBegin.2.1 82 = .ok (.bipush 7, 2) := dq_get dd_R_mayBegin_0 (i := 31) rfl
theorem dd_R_mayBegin_32 : dq mR_mayBegin.2.1 [(84, .if_icmp .gt 18, 3), (87, .aload_n 0, 1), (88, .getfield 32, 3), (91, .iload_n 1, 1), (92, .ishr, 1), (93, .iconst 1, 1), (94, .iand, 1), (95, .ifCond .ne 7, 3), (98, .iconst 1, 1), (99, .goto 4, 3), (102, .iconst 0, 1), (103, .ireturn, 1)] = true := by decide +kernel
theorem d_R_mayBegin_84 : decode mR_mayBegin.2.1 84 = .ok (.if_icmp .gt 18, 3) := dq_get dd_R_mayBegin_32 (i := 0) rfl
theorem d_R_mayBegin_87 : decode mR_mayBegin.2.1 87 = .ok (.aload_n 0, 1) := dq_get dd_R_mayBegin_32 (i := 1) rfl
theorem d_R_mayBegin_88 : decode mR_mayBegin.2.1 88 = .ok (.getfield 32, 3) := dq_get dd_R_mayBegin_32 (i := 2) rfl
theorem d_R_mayBegin_91 : decode mR_mayBegin.2.1 91 = .ok (.iload_n 1, 1) := dq_get dd_R_mayBegin_32 (i := 3) rfl
theorem d_R_mayBegin_92 : decode mR_mayBegin.2.1 92 = .ok (.ishr, 1) := dq_get dd_R_mayBegin_32 (i := 4) rfl
theorem d_R_mayBegin_93 : decode mR_mayBegin.2.1 93 = .ok (.iconst 1, 1) := dq_get dd_R_mayBegin_32 (i := 5) rfl
theorem d_R_mayBegin_94 : decode mR_mayBegin.2.1 94 = .ok (.iand, 1) := dq_get dd_R_mayBegin_32 (i := 6) rfl
theorem d_R_mayBegin_95 : decode mR_mayBegin.2.1 95 = .ok (.ifCond .ne 7, 3) := dq_get dd_R_mayBegin_32 (i := 7) rfl
theorem d_R_mayBegin_98 : decode mR_mayBegin.2.1 98 = .ok (.iconst 1, 1) := dq_get dd_R_mayBegin_32 (i := 8) rfl
theorem d_R_mayBegin_99 : decode mR_mayBegin.2.1 99 = .ok (.goto 4, 3) := dq_get dd_R_mayBegin_32 (i := 9) rfl
theorem d_R_mayBegin_102 : decode mR_mayBegin.2.1 102 = .ok (.iconst 0, 1) := dq_get dd_R_mayBegin_32 (i := 10) rfl
theorem d_R_mayBegin_103 : decode mR_mayBegin.2.1 103 = .ok (.ireturn, 1) := dq_get dd_R_mayBegin_32 (i := 11) rfl
theorem dd_R_refuse_0 : dq mR_refuse.2.1 [(0, .aload_n 0, 1), (1, .getfield 29, 3), (4, .ifCond .ne 34, 3), (7, .aload_n 0, 1), (8, .aload_n 0, 1), (9, .getfield 18, 3), (12, .getfield 41, 3), (15, .iconst 5, 1), (16, .if_icmp .ne 7, 3), (19, .iconst 1, 1), (20, .goto 4, 3), (23, .iload_n 1, 1), (24, .putfield 29, 3), (27, .aload_n 0, 1), (28, .aload_n 0, 1), (29, .getfield 18, 3), (32, .getfield 136, 3), (35, .putfield 9, 3), (38, .return_, 1)] = true := by decide +kernel
theorem d_R_refuse_0 : decode mR_refuse.2.1 0 = .ok (.aload_n 0, 1) := dq_get dd_R_refuse_0 (i := 0) rfl
theorem d_R_refuse_1 : decode mR_refuse.2.1 1 = .ok (.getfield 29, 3) := dq_get dd_R_refuse_0 (i := 1) rfl
theorem d_R_refuse_4 : decode mR_refuse.2.1 4 = .ok (.ifCond .ne 34, 3) := dq_get dd_R_refuse_0 (i := 2) rfl
theorem d_R_refuse_7 : decode mR_refuse.2.1 7 = .ok (.aload_n 0, 1) := dq_get dd_R_refuse_0 (i := 3) rfl
theorem d_R_refuse_8 : decode mR_refuse.2.1 8 = .ok (.aload_n 0, 1) := dq_get dd_R_refuse_0 (i := 4) rfl
theorem d_R_refuse_9 : decode mR_refuse.2.1 9 = .ok (.getfield 18, 3) := dq_get dd_R_refuse_0 (i := 5) rfl
theorem d_R_refuse_12 : decode mR_refuse.2.1 12 = .ok (.getfield 41, 3) := dq_get dd_R_refuse_0 (i := 6) rfl
theorem d_R_refuse_15 : decode mR_refuse.2.1 15 = .ok (.iconst 5, 1) := dq_get dd_R_refuse_0 (i := 7) rfl
theorem d_R_refuse_16 : decode mR_refuse.2.1 16 = .ok (.if_icmp .ne 7, 3) := dq_get dd_R_refuse_0 (i := 8) rfl
theorem d_R_refuse_19 : decode mR_refuse.2.1 19 = .ok (.iconst 1, 1) := dq_get dd_R_refuse_0 (i := 9) rfl
theorem d_R_refuse_20 : decode mR_refuse.2.1 20 = .ok (.goto 4, 3) := dq_get dd_R_refuse_0 (i := 10) rfl
theorem d_R_refuse_23 : decode mR_refuse.2.1 23 = .ok (.iload_n 1, 1) := dq_get dd_R_refuse_0 (i := 11) rfl
theorem d_R_refuse_24 : decode mR_refuse.2.1 24 = .ok (.putfield 29, 3) := dq_get dd_R_refuse_0 (i := 12) rfl
theorem d_R_refuse_27 : decode mR_refuse.2.1 27 = .ok (.aload_n 0, 1) := dq_get dd_R_refuse_0 (i := 13) rfl
theorem d_R_refuse_28 : decode mR_refuse.2.1 28 = .ok (.aload_n 0, 1) := dq_get dd_R_refuse_0 (i := 14) rfl
theorem d_R_refuse_29 : decode mR_refuse.2.1 29 = .ok (.getfield 18, 3) := dq_get dd_R_refuse_0 (i := 15) rfl
theorem d_R_refuse_32 : decode mR_refuse.2.1 32 = .ok (.getfield 136, 3) := dq_get dd_R_refuse_0 (i := 16) rfl
theorem d_R_refuse_35 : decode mR_refuse.2.1 35 = .ok (.putfield 9, 3) := dq_get dd_R_refuse_0 (i := 17) rfl
theorem d_R_refuse_38 : decode mR_refuse.2.1 38 = .ok (.return_, 1) := dq_get dd_R_refuse_0 (i := 18) rfl
theorem dd_R_number_0 : dq mR_number.2.1 [(0, .aload_n 0, 1), (1, .getfield 29, 3), (4, .ifCond .ne 19, 3), (7, .aload_n 0, 1), (8, .getfield 18, 3), (11, .getfield 41, 3), (14, .iconst 3, 1), (15, .if_icmp .eq 8, 3), (18, .aload_n 0, 1), (19, .iconst 2, 1), (20, .invokevirtual 51, 3), (23, .aload_n 0, 1), (24, .getfield 18, 3), (27, .getfield 44, 3), (30, .istore_n 3, 1), (31, .aload_n 0, 1), (32, .getfield 29, 3), (35, .ifCond .ne 18, 3), (38, .iload_n 3, 1), (39, .iload_n 1, 1), (40, .if_icmp .lt 8, 3), (43, .iload_n 3, 1), (44, .iload_n 2, 1), (45, .if_icmp .le 8, 3), (48, .aload_n 0, 1), (49, .iconst 4, 1), (50, .invokevirtual 51, 3), (53, .aload_n 0, 1), (54, .getfield 29, 3), (57, .ifCond .ne 10, 3), (60, .aload_n 0, 1), (61, .getfield 18, 3)] = true := by decide +kernel
theorem d_R_number_0 : decode mR_number.2.1 0 = .ok (.aload_n 0, 1) := dq_get dd_R_number_0 (i := 0) rfl
theorem d_R_number_1 : decode mR_number.2.1 1 = .ok (.getfield 29, 3) := dq_get dd_R_number_0 (i := 1) rfl
theorem d_R_number_4 : decode mR_number.2.1 4 = .ok (.ifCond .ne 19, 3) := dq_get dd_R_number_0 (i := 2) rfl
theorem d_R_number_7 : decode mR_number.2.1 7 = .ok (.aload_n 0, 1) := dq_get dd_R_number_0 (i := 3) rfl
theorem d_R_number_8 : decode mR_number.2.1 8 = .ok (.getfield 18, 3) := dq_get dd_R_number_0 (i := 4) rfl
theorem d_R_number_11 : decode mR_number.2.1 11 = .ok (.getfield 41, 3) := dq_get dd_R_number_0 (i := 5) rfl
theorem d_R_number_14 : decode mR_number.2.1 14 = .ok (.iconst 3, 1) := dq_get dd_R_number_0 (i := 6) rfl
theorem d_R_number_15 : decode mR_number.2.1 15 = .ok (.if_icmp .eq 8, 3) := dq_get dd_R_number_0 (i := 7) rfl
theorem d_R_number_18 : decode mR_number.2.1 18 = .ok (.aload_n 0, 1) := dq_get dd_R_number_0 (i := 8) rfl
theorem d_R_number_19 : decode mR_number.2.1 19 = .ok (.iconst 2, 1) := dq_get dd_R_number_0 (i := 9) rfl
theorem d_R_number_20 : decode mR_number.2.1 20 = .ok (.invokevirtual 51, 3) := dq_get dd_R_number_0 (i := 10) rfl
theorem d_R_number_23 : decode mR_number.2.1 23 = .ok (.aload_n 0, 1) := dq_get dd_R_number_0 (i := 11) rfl
theorem d_R_number_24 : decode mR_number.2.1 24 = .ok (.getfield 18, 3) := dq_get dd_R_number_0 (i := 12) rfl
theorem d_R_number_27 : decode mR_number.2.1 27 = .ok (.getfield 44, 3) := dq_get dd_R_number_0 (i := 13) rfl
theorem d_R_number_30 : decode mR_number.2.1 30 = .ok (.istore_n 3, 1) := dq_get dd_R_number_0 (i := 14) rfl
theorem d_R_number_31 : decode mR_number.2.1 31 = .ok (.aload_n 0, 1) := dq_get dd_R_number_0 (i := 15) rfl
theorem d_R_number_32 : decode mR_number.2.1 32 = .ok (.getfield 29, 3) := dq_get dd_R_number_0 (i := 16) rfl
theorem d_R_number_35 : decode mR_number.2.1 35 = .ok (.ifCond .ne 18, 3) := dq_get dd_R_number_0 (i := 17) rfl
theorem d_R_number_38 : decode mR_number.2.1 38 = .ok (.iload_n 3, 1) := dq_get dd_R_number_0 (i := 18) rfl
theorem d_R_number_39 : decode mR_number.2.1 39 = .ok (.iload_n 1, 1) := dq_get dd_R_number_0 (i := 19) rfl
theorem d_R_number_40 : decode mR_number.2.1 40 = .ok (.if_icmp .lt 8, 3) := dq_get dd_R_number_0 (i := 20) rfl
theorem d_R_number_43 : decode mR_number.2.1 43 = .ok (.iload_n 3, 1) := dq_get dd_R_number_0 (i := 21) rfl
theorem d_R_number_44 : decode mR_number.2.1 44 = .ok (.iload_n 2, 1) := dq_get dd_R_number_0 (i := 22) rfl
theorem d_R_number_45 : decode mR_number.2.1 45 = .ok (.if_icmp .le 8, 3) := dq_get dd_R_number_0 (i := 23) rfl
theorem d_R_number_48 : decode mR_number.2.1 48 = .ok (.aload_n 0, 1) := dq_get dd_R_number_0 (i := 24) rfl
theorem d_R_number_49 : decode mR_number.2.1 49 = .ok (.iconst 4, 1) := dq_get dd_R_number_0 (i := 25) rfl
theorem d_R_number_50 : decode mR_number.2.1 50 = .ok (.invokevirtual 51, 3) := dq_get dd_R_number_0 (i := 26) rfl
theorem d_R_number_53 : decode mR_number.2.1 53 = .ok (.aload_n 0, 1) := dq_get dd_R_number_0 (i := 27) rfl
theorem d_R_number_54 : decode mR_number.2.1 54 = .ok (.getfield 29, 3) := dq_get dd_R_number_0 (i := 28) rfl
theorem d_R_number_57 : decode mR_number.2.1 57 = .ok (.ifCond .ne 10, 3) := dq_get dd_R_number_0 (i := 29) rfl
theorem d_R_number_60 : decode mR_number.2.1 60 = .ok (.aload_n 0, 1) := dq_get dd_R_number_0 (i := 30) rfl
theorem d_R_number_61 : decode mR_number.2.1 61 = .ok (.getfield 18, 3) := dq_get dd_R_number_0 (i := 31) rfl
theorem dd_R_number_32 : dq mR_number.2.1 [(64, .invokevirtual 55, 3), (67, .iload_n 3, 1), (68, .ireturn, 1)] = true := by decide +kernel
theorem d_R_number_64 : decode mR_number.2.1 64 = .ok (.invokevirtual 55, 3) := dq_get dd_R_number_32 (i := 0) rfl
theorem d_R_number_67 : decode mR_number.2.1 67 = .ok (.iload_n 3, 1) := dq_get dd_R_number_32 (i := 1) rfl
theorem d_R_number_68 : decode mR_number.2.1 68 = .ok (.ireturn, 1) := dq_get dd_R_number_32 (i := 2) rfl
theorem dd_R_partLine_0 : dq mR_partLine.2.1 [(0, .aload_n 0, 1), (1, .aload_n 0, 1), (2, .getfield 18, 3), (5, .getfield 41, 3), (8, .iconst 2, 1), (9, .if_icmp .ne 25, 3), (12, .aload_n 0, 1), (13, .getfield 25, 3), (16, .aload_n 0, 1), (17, .getfield 18, 3), (20, .getfield 98, 3), (23, .invokevirtual 102, 3), (26, .iconst (-1), 1), (27, .if_icmp .eq 7, 3), (30, .iconst 1, 1), (31, .goto 4, 3), (34, .iconst 0, 1), (35, .invokevirtual 106, 3), (38, .lstore_n 1, 1), (39, .iconst 0, 1), (40, .istore_n 3, 1), (41, .aload_n 0, 1), (42, .bipush 8, 2), (44, .invokevirtual 110, 3), (47, .ifCond .eq 15, 3), (50, .iconst 2, 1), (51, .istore_n 3, 1), (52, .aload_n 0, 1), (53, .getfield 18, 3), (56, .invokevirtual 55, 3), (59, .goto 21, 3), (62, .aload_n 0, 1)] = true := by decide +kernel
theorem d_R_partLine_0 : decode mR_partLine.2.1 0 = .ok (.aload_n 0, 1) := dq_get dd_R_partLine_0 (i := 0) rfl
theorem d_R_partLine_1 : decode mR_partLine.2.1 1 = .ok (.aload_n 0, 1) := dq_get dd_R_partLine_0 (i := 1) rfl
theorem d_R_partLine_2 : decode mR_partLine.2.1 2 = .ok (.getfield 18, 3) := dq_get dd_R_partLine_0 (i := 2) rfl
theorem d_R_partLine_5 : decode mR_partLine.2.1 5 = .ok (.getfield 41, 3) := dq_get dd_R_partLine_0 (i := 3) rfl
theorem d_R_partLine_8 : decode mR_partLine.2.1 8 = .ok (.iconst 2, 1) := dq_get dd_R_partLine_0 (i := 4) rfl
theorem d_R_partLine_9 : decode mR_partLine.2.1 9 = .ok (.if_icmp .ne 25, 3) := dq_get dd_R_partLine_0 (i := 5) rfl
theorem d_R_partLine_12 : decode mR_partLine.2.1 12 = .ok (.aload_n 0, 1) := dq_get dd_R_partLine_0 (i := 6) rfl
theorem d_R_partLine_13 : decode mR_partLine.2.1 13 = .ok (.getfield 25, 3) := dq_get dd_R_partLine_0 (i := 7) rfl
theorem d_R_partLine_16 : decode mR_partLine.2.1 16 = .ok (.aload_n 0, 1) := dq_get dd_R_partLine_0 (i := 8) rfl
theorem d_R_partLine_17 : decode mR_partLine.2.1 17 = .ok (.getfield 18, 3) := dq_get dd_R_partLine_0 (i := 9) rfl
theorem d_R_partLine_20 : decode mR_partLine.2.1 20 = .ok (.getfield 98, 3) := dq_get dd_R_partLine_0 (i := 10) rfl
theorem d_R_partLine_23 : decode mR_partLine.2.1 23 = .ok (.invokevirtual 102, 3) := dq_get dd_R_partLine_0 (i := 11) rfl
theorem d_R_partLine_26 : decode mR_partLine.2.1 26 = .ok (.iconst (-1), 1) := dq_get dd_R_partLine_0 (i := 12) rfl
theorem d_R_partLine_27 : decode mR_partLine.2.1 27 = .ok (.if_icmp .eq 7, 3) := dq_get dd_R_partLine_0 (i := 13) rfl
theorem d_R_partLine_30 : decode mR_partLine.2.1 30 = .ok (.iconst 1, 1) := dq_get dd_R_partLine_0 (i := 14) rfl
theorem d_R_partLine_31 : decode mR_partLine.2.1 31 = .ok (.goto 4, 3) := dq_get dd_R_partLine_0 (i := 15) rfl
theorem d_R_partLine_34 : decode mR_partLine.2.1 34 = .ok (.iconst 0, 1) := dq_get dd_R_partLine_0 (i := 16) rfl
theorem d_R_partLine_35 : decode mR_partLine.2.1 35 = .ok (.invokevirtual 106, 3) := dq_get dd_R_partLine_0 (i := 17) rfl
theorem d_R_partLine_38 : decode mR_partLine.2.1 38 = .ok (.lstore_n 1, 1) := dq_get dd_R_partLine_0 (i := 18) rfl
theorem d_R_partLine_39 : decode mR_partLine.2.1 39 = .ok (.iconst 0, 1) := dq_get dd_R_partLine_0 (i := 19) rfl
theorem d_R_partLine_40 : decode mR_partLine.2.1 40 = .ok (.istore_n 3, 1) := dq_get dd_R_partLine_0 (i := 20) rfl
theorem d_R_partLine_41 : decode mR_partLine.2.1 41 = .ok (.aload_n 0, 1) := dq_get dd_R_partLine_0 (i := 21) rfl
theorem d_R_partLine_42 : decode mR_partLine.2.1 42 = .ok (.bipush 8, 2) := dq_get dd_R_partLine_0 (i := 22) rfl
theorem d_R_partLine_44 : decode mR_partLine.2.1 44 = .ok (.invokevirtual 110, 3) := dq_get dd_R_partLine_0 (i := 23) rfl
theorem d_R_partLine_47 : decode mR_partLine.2.1 47 = .ok (.ifCond .eq 15, 3) := dq_get dd_R_partLine_0 (i := 24) rfl
theorem d_R_partLine_50 : decode mR_partLine.2.1 50 = .ok (.iconst 2, 1) := dq_get dd_R_partLine_0 (i := 25) rfl
theorem d_R_partLine_51 : decode mR_partLine.2.1 51 = .ok (.istore_n 3, 1) := dq_get dd_R_partLine_0 (i := 26) rfl
theorem d_R_partLine_52 : decode mR_partLine.2.1 52 = .ok (.aload_n 0, 1) := dq_get dd_R_partLine_0 (i := 27) rfl
theorem d_R_partLine_53 : decode mR_partLine.2.1 53 = .ok (.getfield 18, 3) := dq_get dd_R_partLine_0 (i := 28) rfl
theorem d_R_partLine_56 : decode mR_partLine.2.1 56 = .ok (.invokevirtual 55, 3) := dq_get dd_R_partLine_0 (i := 29) rfl
theorem d_R_partLine_59 : decode mR_partLine.2.1 59 = .ok (.goto 21, 3) := dq_get dd_R_partLine_0 (i := 30) rfl
theorem d_R_partLine_62 : decode mR_partLine.2.1 62 = .ok (.aload_n 0, 1) := dq_get dd_R_partLine_0 (i := 31) rfl
theorem dd_R_partLine_32 : dq mR_partLine.2.1 [(63, .bipush 9, 2), (65, .invokevirtual 110, 3), (68, .ifCond .eq 12, 3), (71, .iconst 1, 1), (72, .istore_n 3, 1), (73, .aload_n 0, 1), (74, .getfield 18, 3), (77, .invokevirtual 55, 3), (80, .aload_n 0, 1), (81, .getfield 29, 3), (84, .ifCond .ne 12, 3), (87, .aload_n 0, 1), (88, .getfield 25, 3), (91, .lload_n 1, 1), (92, .iload_n 3, 1), (93, .invokevirtual 113, 3), (96, .return_, 1)] = true := by decide +kernel
theorem d_R_partLine_63 : decode mR_partLine.2.1 63 = .ok (.bipush 9, 2) := dq_get dd_R_partLine_32 (i := 0) rfl
theorem d_R_partLine_65 : decode mR_partLine.2.1 65 = .ok (.invokevirtual 110, 3) := dq_get dd_R_partLine_32 (i := 1) rfl
theorem d_R_partLine_68 : decode mR_partLine.2.1 68 = .ok (.ifCond .eq 12, 3) := dq_get dd_R_partLine_32 (i := 2) rfl
theorem d_R_partLine_71 : decode mR_partLine.2.1 71 = .ok (.iconst 1, 1) := dq_get dd_R_partLine_32 (i := 3) rfl
theorem d_R_partLine_72 : decode mR_partLine.2.1 72 = .ok (.istore_n 3, 1) := dq_get dd_R_partLine_32 (i := 4) rfl
theorem d_R_partLine_73 : decode mR_partLine.2.1 73 = .ok (.aload_n 0, 1) := dq_get dd_R_partLine_32 (i := 5) rfl
theorem d_R_partLine_74 : decode mR_partLine.2.1 74 = .ok (.getfield 18, 3) := dq_get dd_R_partLine_32 (i := 6) rfl
theorem d_R_partLine_77 : decode mR_partLine.2.1 77 = .ok (.invokevirtual 55, 3) := dq_get dd_R_partLine_32 (i := 7) rfl
theorem d_R_partLine_80 : decode mR_partLine.2.1 80 = .ok (.aload_n 0, 1) := dq_get dd_R_partLine_32 (i := 8) rfl
theorem d_R_partLine_81 : decode mR_partLine.2.1 81 = .ok (.getfield 29, 3) := dq_get dd_R_partLine_32 (i := 9) rfl
theorem d_R_partLine_84 : decode mR_partLine.2.1 84 = .ok (.ifCond .ne 12, 3) := dq_get dd_R_partLine_32 (i := 10) rfl
theorem d_R_partLine_87 : decode mR_partLine.2.1 87 = .ok (.aload_n 0, 1) := dq_get dd_R_partLine_32 (i := 11) rfl
theorem d_R_partLine_88 : decode mR_partLine.2.1 88 = .ok (.getfield 25, 3) := dq_get dd_R_partLine_32 (i := 12) rfl
theorem d_R_partLine_91 : decode mR_partLine.2.1 91 = .ok (.lload_n 1, 1) := dq_get dd_R_partLine_32 (i := 13) rfl
theorem d_R_partLine_92 : decode mR_partLine.2.1 92 = .ok (.iload_n 3, 1) := dq_get dd_R_partLine_32 (i := 14) rfl
theorem d_R_partLine_93 : decode mR_partLine.2.1 93 = .ok (.invokevirtual 113, 3) := dq_get dd_R_partLine_32 (i := 15) rfl
theorem d_R_partLine_96 : decode mR_partLine.2.1 96 = .ok (.return_, 1) := dq_get dd_R_partLine_32 (i := 16) rfl
theorem dd_S_partNamed_0 : dq mS_partNamed.2.1 [(0, .iconst 0, 1), (1, .istore_n 3, 1), (2, .iload_n 3, 1), (3, .aload_n 0, 1), (4, .getfield 63, 3), (7, .if_icmp .ge 22, 3), (10, .aload_n 0, 1), (11, .getfield 9, 3), (14, .iload_n 3, 1), (15, .laload, 1), (16, .lload_n 1, 1), (17, .lcmp, 1), (18, .ifCond .ne 5, 3), (21, .iload_n 3, 1), (22, .ireturn, 1), (23, .iinc 3 1, 3), (26, .goto (-24), 3), (29, .iconst (-1), 1), (30, .ireturn, 1)] = true := by decide +kernel
theorem d_S_partNamed_0 : decode mS_partNamed.2.1 0 = .ok (.iconst 0, 1) := dq_get dd_S_partNamed_0 (i := 0) rfl
theorem d_S_partNamed_1 : decode mS_partNamed.2.1 1 = .ok (.istore_n 3, 1) := dq_get dd_S_partNamed_0 (i := 1) rfl
theorem d_S_partNamed_2 : decode mS_partNamed.2.1 2 = .ok (.iload_n 3, 1) := dq_get dd_S_partNamed_0 (i := 2) rfl
theorem d_S_partNamed_3 : decode mS_partNamed.2.1 3 = .ok (.aload_n 0, 1) := dq_get dd_S_partNamed_0 (i := 3) rfl
theorem d_S_partNamed_4 : decode mS_partNamed.2.1 4 = .ok (.getfield 63, 3) := dq_get dd_S_partNamed_0 (i := 4) rfl
theorem d_S_partNamed_7 : decode mS_partNamed.2.1 7 = .ok (.if_icmp .ge 22, 3) := dq_get dd_S_partNamed_0 (i := 5) rfl
theorem d_S_partNamed_10 : decode mS_partNamed.2.1 10 = .ok (.aload_n 0, 1) := dq_get dd_S_partNamed_0 (i := 6) rfl
theorem d_S_partNamed_11 : decode mS_partNamed.2.1 11 = .ok (.getfield 9, 3) := dq_get dd_S_partNamed_0 (i := 7) rfl
theorem d_S_partNamed_14 : decode mS_partNamed.2.1 14 = .ok (.iload_n 3, 1) := dq_get dd_S_partNamed_0 (i := 8) rfl
theorem d_S_partNamed_15 : decode mS_partNamed.2.1 15 = .ok (.laload, 1) := dq_get dd_S_partNamed_0 (i := 9) rfl
theorem d_S_partNamed_16 : decode mS_partNamed.2.1 16 = .ok (.lload_n 1, 1) := dq_get dd_S_partNamed_0 (i := 10) rfl
theorem d_S_partNamed_17 : decode mS_partNamed.2.1 17 = .ok (.lcmp, 1) := dq_get dd_S_partNamed_0 (i := 11) rfl
theorem d_S_partNamed_18 : decode mS_partNamed.2.1 18 = .ok (.ifCond .ne 5, 3) := dq_get dd_S_partNamed_0 (i := 12) rfl
theorem d_S_partNamed_21 : decode mS_partNamed.2.1 21 = .ok (.iload_n 3, 1) := dq_get dd_S_partNamed_0 (i := 13) rfl
theorem d_S_partNamed_22 : decode mS_partNamed.2.1 22 = .ok (.ireturn, 1) := dq_get dd_S_partNamed_0 (i := 14) rfl
theorem d_S_partNamed_23 : decode mS_partNamed.2.1 23 = .ok (.iinc 3 1, 3) := dq_get dd_S_partNamed_0 (i := 15) rfl
theorem d_S_partNamed_26 : decode mS_partNamed.2.1 26 = .ok (.goto (-24), 3) := dq_get dd_S_partNamed_0 (i := 16) rfl
theorem d_S_partNamed_29 : decode mS_partNamed.2.1 29 = .ok (.iconst (-1), 1) := dq_get dd_S_partNamed_0 (i := 17) rfl
theorem d_S_partNamed_30 : decode mS_partNamed.2.1 30 = .ok (.ireturn, 1) := dq_get dd_S_partNamed_0 (i := 18) rfl
theorem dd_R_newName_0 : dq mR_newName.2.1 [(0, .aload_n 0, 1), (1, .getfield 29, 3), (4, .ifCond .ne 31, 3), (7, .aload_n 0, 1), (8, .getfield 18, 3), (11, .getfield 41, 3), (14, .iconst 2, 1), (15, .if_icmp .ne 7, 3), (18, .iload_n 1, 1), (19, .ifCond .eq 16, 3), (22, .aload_n 0, 1), (23, .iload_n 1, 1), (24, .ifCond .eq 7, 3), (27, .iconst 3, 1), (28, .goto 4, 3), (31, .iconst 2, 1), (32, .invokevirtual 51, 3), (35, .aload_n 0, 1), (36, .getfield 18, 3), (39, .getfield 98, 3), (42, .lstore_n 2, 1), (43, .aload_n 0, 1), (44, .getfield 29, 3), (47, .ifCond .ne 10, 3), (50, .aload_n 0, 1), (51, .getfield 18, 3), (54, .invokevirtual 55, 3), (57, .lload_n 2, 1), (58, .lreturn, 1)] = true := by decide +kernel
theorem d_R_newName_0 : decode mR_newName.2.1 0 = .ok (.aload_n 0, 1) := dq_get dd_R_newName_0 (i := 0) rfl
theorem d_R_newName_1 : decode mR_newName.2.1 1 = .ok (.getfield 29, 3) := dq_get dd_R_newName_0 (i := 1) rfl
theorem d_R_newName_4 : decode mR_newName.2.1 4 = .ok (.ifCond .ne 31, 3) := dq_get dd_R_newName_0 (i := 2) rfl
theorem d_R_newName_7 : decode mR_newName.2.1 7 = .ok (.aload_n 0, 1) := dq_get dd_R_newName_0 (i := 3) rfl
theorem d_R_newName_8 : decode mR_newName.2.1 8 = .ok (.getfield 18, 3) := dq_get dd_R_newName_0 (i := 4) rfl
theorem d_R_newName_11 : decode mR_newName.2.1 11 = .ok (.getfield 41, 3) := dq_get dd_R_newName_0 (i := 5) rfl
theorem d_R_newName_14 : decode mR_newName.2.1 14 = .ok (.iconst 2, 1) := dq_get dd_R_newName_0 (i := 6) rfl
theorem d_R_newName_15 : decode mR_newName.2.1 15 = .ok (.if_icmp .ne 7, 3) := dq_get dd_R_newName_0 (i := 7) rfl
theorem d_R_newName_18 : decode mR_newName.2.1 18 = .ok (.iload_n 1, 1) := dq_get dd_R_newName_0 (i := 8) rfl
theorem d_R_newName_19 : decode mR_newName.2.1 19 = .ok (.ifCond .eq 16, 3) := dq_get dd_R_newName_0 (i := 9) rfl
theorem d_R_newName_22 : decode mR_newName.2.1 22 = .ok (.aload_n 0, 1) := dq_get dd_R_newName_0 (i := 10) rfl
theorem d_R_newName_23 : decode mR_newName.2.1 23 = .ok (.iload_n 1, 1) := dq_get dd_R_newName_0 (i := 11) rfl
theorem d_R_newName_24 : decode mR_newName.2.1 24 = .ok (.ifCond .eq 7, 3) := dq_get dd_R_newName_0 (i := 12) rfl
theorem d_R_newName_27 : decode mR_newName.2.1 27 = .ok (.iconst 3, 1) := dq_get dd_R_newName_0 (i := 13) rfl
theorem d_R_newName_28 : decode mR_newName.2.1 28 = .ok (.goto 4, 3) := dq_get dd_R_newName_0 (i := 14) rfl
theorem d_R_newName_31 : decode mR_newName.2.1 31 = .ok (.iconst 2, 1) := dq_get dd_R_newName_0 (i := 15) rfl
theorem d_R_newName_32 : decode mR_newName.2.1 32 = .ok (.invokevirtual 51, 3) := dq_get dd_R_newName_0 (i := 16) rfl
theorem d_R_newName_35 : decode mR_newName.2.1 35 = .ok (.aload_n 0, 1) := dq_get dd_R_newName_0 (i := 17) rfl
theorem d_R_newName_36 : decode mR_newName.2.1 36 = .ok (.getfield 18, 3) := dq_get dd_R_newName_0 (i := 18) rfl
theorem d_R_newName_39 : decode mR_newName.2.1 39 = .ok (.getfield 98, 3) := dq_get dd_R_newName_0 (i := 19) rfl
theorem d_R_newName_42 : decode mR_newName.2.1 42 = .ok (.lstore_n 2, 1) := dq_get dd_R_newName_0 (i := 20) rfl
theorem d_R_newName_43 : decode mR_newName.2.1 43 = .ok (.aload_n 0, 1) := dq_get dd_R_newName_0 (i := 21) rfl
theorem d_R_newName_44 : decode mR_newName.2.1 44 = .ok (.getfield 29, 3) := dq_get dd_R_newName_0 (i := 22) rfl
theorem d_R_newName_47 : decode mR_newName.2.1 47 = .ok (.ifCond .ne 10, 3) := dq_get dd_R_newName_0 (i := 23) rfl
theorem d_R_newName_50 : decode mR_newName.2.1 50 = .ok (.aload_n 0, 1) := dq_get dd_R_newName_0 (i := 24) rfl
theorem d_R_newName_51 : decode mR_newName.2.1 51 = .ok (.getfield 18, 3) := dq_get dd_R_newName_0 (i := 25) rfl
theorem d_R_newName_54 : decode mR_newName.2.1 54 = .ok (.invokevirtual 55, 3) := dq_get dd_R_newName_0 (i := 26) rfl
theorem d_R_newName_57 : decode mR_newName.2.1 57 = .ok (.lload_n 2, 1) := dq_get dd_R_newName_0 (i := 27) rfl
theorem d_R_newName_58 : decode mR_newName.2.1 58 = .ok (.lreturn, 1) := dq_get dd_R_newName_0 (i := 28) rfl
theorem dd_R_isWord_0 : dq mR_isWord.2.1 [(0, .aload_n 0, 1), (1, .getfield 29, 3), (4, .ifCond .ne 29, 3), (7, .aload_n 0, 1), (8, .getfield 18, 3), (11, .getfield 41, 3), (14, .iconst 1, 1), (15, .if_icmp .ne 18, 3), (18, .aload_n 0, 1), (19, .getfield 18, 3), (22, .getfield 44, 3), (25, .iload_n 1, 1), (26, .if_icmp .ne 7, 3), (29, .iconst 1, 1), (30, .goto 4, 3), (33, .iconst 0, 1), (34, .ireturn, 1)] = true := by decide +kernel
theorem d_R_isWord_0 : decode mR_isWord.2.1 0 = .ok (.aload_n 0, 1) := dq_get dd_R_isWord_0 (i := 0) rfl
theorem d_R_isWord_1 : decode mR_isWord.2.1 1 = .ok (.getfield 29, 3) := dq_get dd_R_isWord_0 (i := 1) rfl
theorem d_R_isWord_4 : decode mR_isWord.2.1 4 = .ok (.ifCond .ne 29, 3) := dq_get dd_R_isWord_0 (i := 2) rfl
theorem d_R_isWord_7 : decode mR_isWord.2.1 7 = .ok (.aload_n 0, 1) := dq_get dd_R_isWord_0 (i := 3) rfl
theorem d_R_isWord_8 : decode mR_isWord.2.1 8 = .ok (.getfield 18, 3) := dq_get dd_R_isWord_0 (i := 4) rfl
theorem d_R_isWord_11 : decode mR_isWord.2.1 11 = .ok (.getfield 41, 3) := dq_get dd_R_isWord_0 (i := 5) rfl
theorem d_R_isWord_14 : decode mR_isWord.2.1 14 = .ok (.iconst 1, 1) := dq_get dd_R_isWord_0 (i := 6) rfl
theorem d_R_isWord_15 : decode mR_isWord.2.1 15 = .ok (.if_icmp .ne 18, 3) := dq_get dd_R_isWord_0 (i := 7) rfl
theorem d_R_isWord_18 : decode mR_isWord.2.1 18 = .ok (.aload_n 0, 1) := dq_get dd_R_isWord_0 (i := 8) rfl
theorem d_R_isWord_19 : decode mR_isWord.2.1 19 = .ok (.getfield 18, 3) := dq_get dd_R_isWord_0 (i := 9) rfl
theorem d_R_isWord_22 : decode mR_isWord.2.1 22 = .ok (.getfield 44, 3) := dq_get dd_R_isWord_0 (i := 10) rfl
theorem d_R_isWord_25 : decode mR_isWord.2.1 25 = .ok (.iload_n 1, 1) := dq_get dd_R_isWord_0 (i := 11) rfl
theorem d_R_isWord_26 : decode mR_isWord.2.1 26 = .ok (.if_icmp .ne 7, 3) := dq_get dd_R_isWord_0 (i := 12) rfl
theorem d_R_isWord_29 : decode mR_isWord.2.1 29 = .ok (.iconst 1, 1) := dq_get dd_R_isWord_0 (i := 13) rfl
theorem d_R_isWord_30 : decode mR_isWord.2.1 30 = .ok (.goto 4, 3) := dq_get dd_R_isWord_0 (i := 14) rfl
theorem d_R_isWord_33 : decode mR_isWord.2.1 33 = .ok (.iconst 0, 1) := dq_get dd_R_isWord_0 (i := 15) rfl
theorem d_R_isWord_34 : decode mR_isWord.2.1 34 = .ok (.ireturn, 1) := dq_get dd_R_isWord_0 (i := 16) rfl
theorem dd_S_addPart_0 : dq mS_addPart.2.1 [(0, .aload_n 0, 1), (1, .getfield 63, 3), (4, .iconst 4, 1), (5, .if_icmp .ge 33, 3), (8, .aload_n 0, 1), (9, .getfield 9, 3), (12, .aload_n 0, 1), (13, .getfield 63, 3), (16, .lload_n 1, 1), (17, .lastore, 1), (18, .aload_n 0, 1), (19, .getfield 15, 3), (22, .aload_n 0, 1), (23, .getfield 63, 3), (26, .iload_n 3, 1), (27, .iastore, 1), (28, .aload_n 0, 1), (29, .dup, 1), (30, .getfield 63, 3), (33, .iconst 1, 1), (34, .iadd, 1), (35, .putfield 63, 3), (38, .return_, 1)] = true := by decide +kernel
theorem d_S_addPart_0 : decode mS_addPart.2.1 0 = .ok (.aload_n 0, 1) := dq_get dd_S_addPart_0 (i := 0) rfl
theorem d_S_addPart_1 : decode mS_addPart.2.1 1 = .ok (.getfield 63, 3) := dq_get dd_S_addPart_0 (i := 1) rfl
theorem d_S_addPart_4 : decode mS_addPart.2.1 4 = .ok (.iconst 4, 1) := dq_get dd_S_addPart_0 (i := 2) rfl
theorem d_S_addPart_5 : decode mS_addPart.2.1 5 = .ok (.if_icmp .ge 33, 3) := dq_get dd_S_addPart_0 (i := 3) rfl
theorem d_S_addPart_8 : decode mS_addPart.2.1 8 = .ok (.aload_n 0, 1) := dq_get dd_S_addPart_0 (i := 4) rfl
theorem d_S_addPart_9 : decode mS_addPart.2.1 9 = .ok (.getfield 9, 3) := dq_get dd_S_addPart_0 (i := 5) rfl
theorem d_S_addPart_12 : decode mS_addPart.2.1 12 = .ok (.aload_n 0, 1) := dq_get dd_S_addPart_0 (i := 6) rfl
theorem d_S_addPart_13 : decode mS_addPart.2.1 13 = .ok (.getfield 63, 3) := dq_get dd_S_addPart_0 (i := 7) rfl
theorem d_S_addPart_16 : decode mS_addPart.2.1 16 = .ok (.lload_n 1, 1) := dq_get dd_S_addPart_0 (i := 8) rfl
theorem d_S_addPart_17 : decode mS_addPart.2.1 17 = .ok (.lastore, 1) := dq_get dd_S_addPart_0 (i := 9) rfl
theorem d_S_addPart_18 : decode mS_addPart.2.1 18 = .ok (.aload_n 0, 1) := dq_get dd_S_addPart_0 (i := 10) rfl
theorem d_S_addPart_19 : decode mS_addPart.2.1 19 = .ok (.getfield 15, 3) := dq_get dd_S_addPart_0 (i := 11) rfl
theorem d_S_addPart_22 : decode mS_addPart.2.1 22 = .ok (.aload_n 0, 1) := dq_get dd_S_addPart_0 (i := 12) rfl
theorem d_S_addPart_23 : decode mS_addPart.2.1 23 = .ok (.getfield 63, 3) := dq_get dd_S_addPart_0 (i := 13) rfl
theorem d_S_addPart_26 : decode mS_addPart.2.1 26 = .ok (.iload_n 3, 1) := dq_get dd_S_addPart_0 (i := 14) rfl
theorem d_S_addPart_27 : decode mS_addPart.2.1 27 = .ok (.iastore, 1) := dq_get dd_S_addPart_0 (i := 15) rfl
theorem d_S_addPart_28 : decode mS_addPart.2.1 28 = .ok (.aload_n 0, 1) := dq_get dd_S_addPart_0 (i := 16) rfl
theorem d_S_addPart_29 : decode mS_addPart.2.1 29 = .ok (.dup, 1) := dq_get dd_S_addPart_0 (i := 17) rfl
theorem d_S_addPart_30 : decode mS_addPart.2.1 30 = .ok (.getfield 63, 3) := dq_get dd_S_addPart_0 (i := 18) rfl
theorem d_S_addPart_33 : decode mS_addPart.2.1 33 = .ok (.iconst 1, 1) := dq_get dd_S_addPart_0 (i := 19) rfl
theorem d_S_addPart_34 : decode mS_addPart.2.1 34 = .ok (.iadd, 1) := dq_get dd_S_addPart_0 (i := 20) rfl
theorem d_S_addPart_35 : decode mS_addPart.2.1 35 = .ok (.putfield 63, 3) := dq_get dd_S_addPart_0 (i := 21) rfl
theorem d_S_addPart_38 : decode mS_addPart.2.1 38 = .ok (.return_, 1) := dq_get dd_S_addPart_0 (i := 22) rfl
theorem dd_R_noteLine_0 : dq mR_noteLine.2.1 [(0, .aload_n 0, 1), (1, .aload_n 0, 1), (2, .getfield 18, 3), (5, .getfield 41, 3), (8, .iconst 2, 1), (9, .if_icmp .ne 24, 3), (12, .aload_n 0, 1), (13, .getfield 25, 3), (16, .aload_n 0, 1), (17, .getfield 18, 3), (20, .getfield 98, 3), (23, .invokevirtual 117, 3), (26, .ifCond .eq 7, 3), (29, .iconst 1, 1), (30, .goto 4, 3), (33, .iconst 0, 1), (34, .invokevirtual 106, 3), (37, .lstore_n 1, 1), (38, .aload_n 0, 1), (39, .bipush 10, 2), (41, .invokevirtual 121, 3), (44, .aload_n 0, 1), (45, .invokevirtual 124, 3), (48, .istore_n 3, 1), (49, .aload_n 0, 1), (50, .bipush 11, 2), (52, .invokevirtual 121, 3), (55, .aload_n 0, 1), (56, .iconst 0, 1), (57, .aload_n 0, 1), (58, .getfield 25, 3), (61, .getfield 62, 3)] = true := by decide +kernel
theorem d_R_noteLine_0 : decode mR_noteLine.2.1 0 = .ok (.aload_n 0, 1) := dq_get dd_R_noteLine_0 (i := 0) rfl
theorem d_R_noteLine_1 : decode mR_noteLine.2.1 1 = .ok (.aload_n 0, 1) := dq_get dd_R_noteLine_0 (i := 1) rfl
theorem d_R_noteLine_2 : decode mR_noteLine.2.1 2 = .ok (.getfield 18, 3) := dq_get dd_R_noteLine_0 (i := 2) rfl
theorem d_R_noteLine_5 : decode mR_noteLine.2.1 5 = .ok (.getfield 41, 3) := dq_get dd_R_noteLine_0 (i := 3) rfl
theorem d_R_noteLine_8 : decode mR_noteLine.2.1 8 = .ok (.iconst 2, 1) := dq_get dd_R_noteLine_0 (i := 4) rfl
theorem d_R_noteLine_9 : decode mR_noteLine.2.1 9 = .ok (.if_icmp .ne 24, 3) := dq_get dd_R_noteLine_0 (i := 5) rfl
theorem d_R_noteLine_12 : decode mR_noteLine.2.1 12 = .ok (.aload_n 0, 1) := dq_get dd_R_noteLine_0 (i := 6) rfl
theorem d_R_noteLine_13 : decode mR_noteLine.2.1 13 = .ok (.getfield 25, 3) := dq_get dd_R_noteLine_0 (i := 7) rfl
theorem d_R_noteLine_16 : decode mR_noteLine.2.1 16 = .ok (.aload_n 0, 1) := dq_get dd_R_noteLine_0 (i := 8) rfl
theorem d_R_noteLine_17 : decode mR_noteLine.2.1 17 = .ok (.getfield 18, 3) := dq_get dd_R_noteLine_0 (i := 9) rfl
theorem d_R_noteLine_20 : decode mR_noteLine.2.1 20 = .ok (.getfield 98, 3) := dq_get dd_R_noteLine_0 (i := 10) rfl
theorem d_R_noteLine_23 : decode mR_noteLine.2.1 23 = .ok (.invokevirtual 117, 3) := dq_get dd_R_noteLine_0 (i := 11) rfl
theorem d_R_noteLine_26 : decode mR_noteLine.2.1 26 = .ok (.ifCond .eq 7, 3) := dq_get dd_R_noteLine_0 (i := 12) rfl
theorem d_R_noteLine_29 : decode mR_noteLine.2.1 29 = .ok (.iconst 1, 1) := dq_get dd_R_noteLine_0 (i := 13) rfl
theorem d_R_noteLine_30 : decode mR_noteLine.2.1 30 = .ok (.goto 4, 3) := dq_get dd_R_noteLine_0 (i := 14) rfl
theorem d_R_noteLine_33 : decode mR_noteLine.2.1 33 = .ok (.iconst 0, 1) := dq_get dd_R_noteLine_0 (i := 15) rfl
theorem d_R_noteLine_34 : decode mR_noteLine.2.1 34 = .ok (.invokevirtual 106, 3) := dq_get dd_R_noteLine_0 (i := 16) rfl
theorem d_R_noteLine_37 : decode mR_noteLine.2.1 37 = .ok (.lstore_n 1, 1) := dq_get dd_R_noteLine_0 (i := 17) rfl
theorem d_R_noteLine_38 : decode mR_noteLine.2.1 38 = .ok (.aload_n 0, 1) := dq_get dd_R_noteLine_0 (i := 18) rfl
theorem d_R_noteLine_39 : decode mR_noteLine.2.1 39 = .ok (.bipush 10, 2) := dq_get dd_R_noteLine_0 (i := 19) rfl
theorem d_R_noteLine_41 : decode mR_noteLine.2.1 41 = .ok (.invokevirtual 121, 3) := dq_get dd_R_noteLine_0 (i := 20) rfl
theorem d_R_noteLine_44 : decode mR_noteLine.2.1 44 = .ok (.aload_n 0, 1) := dq_get dd_R_noteLine_0 (i := 21) rfl
theorem d_R_noteLine_45 : decode mR_noteLine.2.1 45 = .ok (.invokevirtual 124, 3) := dq_get dd_R_noteLine_0 (i := 22) rfl
theorem d_R_noteLine_48 : decode mR_noteLine.2.1 48 = .ok (.istore_n 3, 1) := dq_get dd_R_noteLine_0 (i := 23) rfl
theorem d_R_noteLine_49 : decode mR_noteLine.2.1 49 = .ok (.aload_n 0, 1) := dq_get dd_R_noteLine_0 (i := 24) rfl
theorem d_R_noteLine_50 : decode mR_noteLine.2.1 50 = .ok (.bipush 11, 2) := dq_get dd_R_noteLine_0 (i := 25) rfl
theorem d_R_noteLine_52 : decode mR_noteLine.2.1 52 = .ok (.invokevirtual 121, 3) := dq_get dd_R_noteLine_0 (i := 26) rfl
theorem d_R_noteLine_55 : decode mR_noteLine.2.1 55 = .ok (.aload_n 0, 1) := dq_get dd_R_noteLine_0 (i := 27) rfl
theorem d_R_noteLine_56 : decode mR_noteLine.2.1 56 = .ok (.iconst 0, 1) := dq_get dd_R_noteLine_0 (i := 28) rfl
theorem d_R_noteLine_57 : decode mR_noteLine.2.1 57 = .ok (.aload_n 0, 1) := dq_get dd_R_noteLine_0 (i := 29) rfl
theorem d_R_noteLine_58 : decode mR_noteLine.2.1 58 = .ok (.getfield 25, 3) := dq_get dd_R_noteLine_0 (i := 30) rfl
theorem d_R_noteLine_61 : decode mR_noteLine.2.1 61 = .ok (.getfield 62, 3) := dq_get dd_R_noteLine_0 (i := 31) rfl
theorem dd_R_noteLine_32 : dq mR_noteLine.2.1 [(64, .iconst 1, 1), (65, .isub, 1), (66, .invokevirtual 58, 3), (69, .istore 4, 2), (71, .aload_n 0, 1), (72, .bipush 16, 2), (74, .invokevirtual 121, 3), (77, .aload_n 0, 1), (78, .iconst 0, 1), (79, .bipush 87, 2), (81, .invokevirtual 58, 3), (84, .istore 5, 2), (86, .aload_n 0, 1), (87, .bipush 17, 2), (89, .invokevirtual 121, 3), (92, .aload_n 0, 1), (93, .iconst 1, 1), (94, .bipush 12, 2), (96, .invokevirtual 58, 3), (99, .istore 6, 2), (101, .iconst 5, 1), (102, .istore 7, 2), (104, .aload_n 0, 1), (105, .bipush 18, 2), (107, .invokevirtual 110, 3), (110, .ifCond .eq 19, 3), (113, .aload_n 0, 1), (114, .getfield 18, 3), (117, .invokevirtual 55, 3), (120, .aload_n 0, 1), (121, .iconst 1, 1), (122, .bipush 9, 2)] = true := by decide +kernel
theorem d_R_noteLine_64 : decode mR_noteLine.2.1 64 = .ok (.iconst 1, 1) := dq_get dd_R_noteLine_32 (i := 0) rfl
theorem d_R_noteLine_65 : decode mR_noteLine.2.1 65 = .ok (.isub, 1) := dq_get dd_R_noteLine_32 (i := 1) rfl
theorem d_R_noteLine_66 : decode mR_noteLine.2.1 66 = .ok (.invokevirtual 58, 3) := dq_get dd_R_noteLine_32 (i := 2) rfl
theorem d_R_noteLine_69 : decode mR_noteLine.2.1 69 = .ok (.istore 4, 2) := dq_get dd_R_noteLine_32 (i := 3) rfl
theorem d_R_noteLine_71 : decode mR_noteLine.2.1 71 = .ok (.aload_n 0, 1) := dq_get dd_R_noteLine_32 (i := 4) rfl
theorem d_R_noteLine_72 : decode mR_noteLine.2.1 72 = .ok (.bipush 16, 2) := dq_get dd_R_noteLine_32 (i := 5) rfl
theorem d_R_noteLine_74 : decode mR_noteLine.2.1 74 = .ok (.invokevirtual 121, 3) := dq_get dd_R_noteLine_32 (i := 6) rfl
theorem d_R_noteLine_77 : decode mR_noteLine.2.1 77 = .ok (.aload_n 0, 1) := dq_get dd_R_noteLine_32 (i := 7) rfl
theorem d_R_noteLine_78 : decode mR_noteLine.2.1 78 = .ok (.iconst 0, 1) := dq_get dd_R_noteLine_32 (i := 8) rfl
theorem d_R_noteLine_79 : decode mR_noteLine.2.1 79 = .ok (.bipush 87, 2) := dq_get dd_R_noteLine_32 (i := 9) rfl
theorem d_R_noteLine_81 : decode mR_noteLine.2.1 81 = .ok (.invokevirtual 58, 3) := dq_get dd_R_noteLine_32 (i := 10) rfl
theorem d_R_noteLine_84 : decode mR_noteLine.2.1 84 = .ok (.istore 5, 2) := dq_get dd_R_noteLine_32 (i := 11) rfl
theorem d_R_noteLine_86 : decode mR_noteLine.2.1 86 = .ok (.aload_n 0, 1) := dq_get dd_R_noteLine_32 (i := 12) rfl
theorem d_R_noteLine_87 : decode mR_noteLine.2.1 87 = .ok (.bipush 17, 2) := dq_get dd_R_noteLine_32 (i := 13) rfl
theorem d_R_noteLine_89 : decode mR_noteLine.2.1 89 = .ok (.invokevirtual 121, 3) := dq_get dd_R_noteLine_32 (i := 14) rfl
theorem d_R_noteLine_92 : decode mR_noteLine.2.1 92 = .ok (.aload_n 0, 1) := dq_get dd_R_noteLine_32 (i := 15) rfl
theorem d_R_noteLine_93 : decode mR_noteLine.2.1 93 = .ok (.iconst 1, 1) := dq_get dd_R_noteLine_32 (i := 16) rfl
theorem d_R_noteLine_94 : decode mR_noteLine.2.1 94 = .ok (.bipush 12, 2) := dq_get dd_R_noteLine_32 (i := 17) rfl
theorem d_R_noteLine_96 : decode mR_noteLine.2.1 96 = .ok (.invokevirtual 58, 3) := dq_get dd_R_noteLine_32 (i := 18) rfl
theorem d_R_noteLine_99 : decode mR_noteLine.2.1 99 = .ok (.istore 6, 2) := dq_get dd_R_noteLine_32 (i := 19) rfl
theorem d_R_noteLine_101 : decode mR_noteLine.2.1 101 = .ok (.iconst 5, 1) := dq_get dd_R_noteLine_32 (i := 20) rfl
theorem d_R_noteLine_102 : decode mR_noteLine.2.1 102 = .ok (.istore 7, 2) := dq_get dd_R_noteLine_32 (i := 21) rfl
theorem d_R_noteLine_104 : decode mR_noteLine.2.1 104 = .ok (.aload_n 0, 1) := dq_get dd_R_noteLine_32 (i := 22) rfl
theorem d_R_noteLine_105 : decode mR_noteLine.2.1 105 = .ok (.bipush 18, 2) := dq_get dd_R_noteLine_32 (i := 23) rfl
theorem d_R_noteLine_107 : decode mR_noteLine.2.1 107 = .ok (.invokevirtual 110, 3) := dq_get dd_R_noteLine_32 (i := 24) rfl
theorem d_R_noteLine_110 : decode mR_noteLine.2.1 110 = .ok (.ifCond .eq 19, 3) := dq_get dd_R_noteLine_32 (i := 25) rfl
theorem d_R_noteLine_113 : decode mR_noteLine.2.1 113 = .ok (.aload_n 0, 1) := dq_get dd_R_noteLine_32 (i := 26) rfl
theorem d_R_noteLine_114 : decode mR_noteLine.2.1 114 = .ok (.getfield 18, 3) := dq_get dd_R_noteLine_32 (i := 27) rfl
theorem d_R_noteLine_117 : decode mR_noteLine.2.1 117 = .ok (.invokevirtual 55, 3) := dq_get dd_R_noteLine_32 (i := 28) rfl
theorem d_R_noteLine_120 : decode mR_noteLine.2.1 120 = .ok (.aload_n 0, 1) := dq_get dd_R_noteLine_32 (i := 29) rfl
theorem d_R_noteLine_121 : decode mR_noteLine.2.1 121 = .ok (.iconst 1, 1) := dq_get dd_R_noteLine_32 (i := 30) rfl
theorem d_R_noteLine_122 : decode mR_noteLine.2.1 122 = .ok (.bipush 9, 2) := dq_get dd_R_noteLine_32 (i := 31) rfl
theorem dd_R_noteLine_64 : dq mR_noteLine.2.1 [(124, .invokevirtual 58, 3), (127, .istore 7, 2), (129, .aload_n 0, 1), (130, .getfield 29, 3), (133, .ifCond .ne 20, 3), (136, .aload_n 0, 1), (137, .getfield 25, 3), (140, .lload_n 1, 1), (141, .iload_n 3, 1), (142, .iload 4, 2), (144, .iload 5, 2), (146, .iload 6, 2), (148, .iload 7, 2), (150, .invokevirtual 128, 3), (153, .return_, 1)] = true := by decide +kernel
theorem d_R_noteLine_124 : decode mR_noteLine.2.1 124 = .ok (.invokevirtual 58, 3) := dq_get dd_R_noteLine_64 (i := 0) rfl
theorem d_R_noteLine_127 : decode mR_noteLine.2.1 127 = .ok (.istore 7, 2) := dq_get dd_R_noteLine_64 (i := 1) rfl
theorem d_R_noteLine_129 : decode mR_noteLine.2.1 129 = .ok (.aload_n 0, 1) := dq_get dd_R_noteLine_64 (i := 2) rfl
theorem d_R_noteLine_130 : decode mR_noteLine.2.1 130 = .ok (.getfield 29, 3) := dq_get dd_R_noteLine_64 (i := 3) rfl
theorem d_R_noteLine_133 : decode mR_noteLine.2.1 133 = .ok (.ifCond .ne 20, 3) := dq_get dd_R_noteLine_64 (i := 4) rfl
theorem d_R_noteLine_136 : decode mR_noteLine.2.1 136 = .ok (.aload_n 0, 1) := dq_get dd_R_noteLine_64 (i := 5) rfl
theorem d_R_noteLine_137 : decode mR_noteLine.2.1 137 = .ok (.getfield 25, 3) := dq_get dd_R_noteLine_64 (i := 6) rfl
theorem d_R_noteLine_140 : decode mR_noteLine.2.1 140 = .ok (.lload_n 1, 1) := dq_get dd_R_noteLine_64 (i := 7) rfl
theorem d_R_noteLine_141 : decode mR_noteLine.2.1 141 = .ok (.iload_n 3, 1) := dq_get dd_R_noteLine_64 (i := 8) rfl
theorem d_R_noteLine_142 : decode mR_noteLine.2.1 142 = .ok (.iload 4, 2) := dq_get dd_R_noteLine_64 (i := 9) rfl
theorem d_R_noteLine_144 : decode mR_noteLine.2.1 144 = .ok (.iload 5, 2) := dq_get dd_R_noteLine_64 (i := 10) rfl
theorem d_R_noteLine_146 : decode mR_noteLine.2.1 146 = .ok (.iload 6, 2) := dq_get dd_R_noteLine_64 (i := 11) rfl
theorem d_R_noteLine_148 : decode mR_noteLine.2.1 148 = .ok (.iload 7, 2) := dq_get dd_R_noteLine_64 (i := 12) rfl
theorem d_R_noteLine_150 : decode mR_noteLine.2.1 150 = .ok (.invokevirtual 128, 3) := dq_get dd_R_noteLine_64 (i := 13) rfl
theorem d_R_noteLine_153 : decode mR_noteLine.2.1 153 = .ok (.return_, 1) := dq_get dd_R_noteLine_64 (i := 14) rfl
theorem dd_S_hasNoteNamed_0 : dq mS_hasNoteNamed.2.1 [(0, .iconst 0, 1), (1, .istore_n 3, 1), (2, .iload_n 3, 1), (3, .aload_n 0, 1), (4, .getfield 66, 3), (7, .if_icmp .ge 22, 3), (10, .aload_n 0, 1), (11, .getfield 19, 3), (14, .iload_n 3, 1), (15, .laload, 1), (16, .lload_n 1, 1), (17, .lcmp, 1), (18, .ifCond .ne 5, 3), (21, .iconst 1, 1), (22, .ireturn, 1), (23, .iinc 3 1, 3), (26, .goto (-24), 3), (29, .iconst 0, 1), (30, .ireturn, 1)] = true := by decide +kernel
theorem d_S_hasNoteNamed_0 : decode mS_hasNoteNamed.2.1 0 = .ok (.iconst 0, 1) := dq_get dd_S_hasNoteNamed_0 (i := 0) rfl
theorem d_S_hasNoteNamed_1 : decode mS_hasNoteNamed.2.1 1 = .ok (.istore_n 3, 1) := dq_get dd_S_hasNoteNamed_0 (i := 1) rfl
theorem d_S_hasNoteNamed_2 : decode mS_hasNoteNamed.2.1 2 = .ok (.iload_n 3, 1) := dq_get dd_S_hasNoteNamed_0 (i := 2) rfl
theorem d_S_hasNoteNamed_3 : decode mS_hasNoteNamed.2.1 3 = .ok (.aload_n 0, 1) := dq_get dd_S_hasNoteNamed_0 (i := 3) rfl
theorem d_S_hasNoteNamed_4 : decode mS_hasNoteNamed.2.1 4 = .ok (.getfield 66, 3) := dq_get dd_S_hasNoteNamed_0 (i := 4) rfl
theorem d_S_hasNoteNamed_7 : decode mS_hasNoteNamed.2.1 7 = .ok (.if_icmp .ge 22, 3) := dq_get dd_S_hasNoteNamed_0 (i := 5) rfl
theorem d_S_hasNoteNamed_10 : decode mS_hasNoteNamed.2.1 10 = .ok (.aload_n 0, 1) := dq_get dd_S_hasNoteNamed_0 (i := 6) rfl
theorem d_S_hasNoteNamed_11 : decode mS_hasNoteNamed.2.1 11 = .ok (.getfield 19, 3) := dq_get dd_S_hasNoteNamed_0 (i := 7) rfl
theorem d_S_hasNoteNamed_14 : decode mS_hasNoteNamed.2.1 14 = .ok (.iload_n 3, 1) := dq_get dd_S_hasNoteNamed_0 (i := 8) rfl
theorem d_S_hasNoteNamed_15 : decode mS_hasNoteNamed.2.1 15 = .ok (.laload, 1) := dq_get dd_S_hasNoteNamed_0 (i := 9) rfl
theorem d_S_hasNoteNamed_16 : decode mS_hasNoteNamed.2.1 16 = .ok (.lload_n 1, 1) := dq_get dd_S_hasNoteNamed_0 (i := 10) rfl
theorem d_S_hasNoteNamed_17 : decode mS_hasNoteNamed.2.1 17 = .ok (.lcmp, 1) := dq_get dd_S_hasNoteNamed_0 (i := 11) rfl
theorem d_S_hasNoteNamed_18 : decode mS_hasNoteNamed.2.1 18 = .ok (.ifCond .ne 5, 3) := dq_get dd_S_hasNoteNamed_0 (i := 12) rfl
theorem d_S_hasNoteNamed_21 : decode mS_hasNoteNamed.2.1 21 = .ok (.iconst 1, 1) := dq_get dd_S_hasNoteNamed_0 (i := 13) rfl
theorem d_S_hasNoteNamed_22 : decode mS_hasNoteNamed.2.1 22 = .ok (.ireturn, 1) := dq_get dd_S_hasNoteNamed_0 (i := 14) rfl
theorem d_S_hasNoteNamed_23 : decode mS_hasNoteNamed.2.1 23 = .ok (.iinc 3 1, 3) := dq_get dd_S_hasNoteNamed_0 (i := 15) rfl
theorem d_S_hasNoteNamed_26 : decode mS_hasNoteNamed.2.1 26 = .ok (.goto (-24), 3) := dq_get dd_S_hasNoteNamed_0 (i := 16) rfl
theorem d_S_hasNoteNamed_29 : decode mS_hasNoteNamed.2.1 29 = .ok (.iconst 0, 1) := dq_get dd_S_hasNoteNamed_0 (i := 17) rfl
theorem d_S_hasNoteNamed_30 : decode mS_hasNoteNamed.2.1 30 = .ok (.ireturn, 1) := dq_get dd_S_hasNoteNamed_0 (i := 18) rfl
theorem dd_R_takeWord_0 : dq mR_takeWord.2.1 [(0, .aload_n 0, 1), (1, .iload_n 1, 1), (2, .invokevirtual 110, 3), (5, .ifCond .eq 13, 3), (8, .aload_n 0, 1), (9, .getfield 18, 3), (12, .invokevirtual 55, 3), (15, .goto 8, 3), (18, .aload_n 0, 1), (19, .iconst 2, 1), (20, .invokevirtual 51, 3), (23, .return_, 1)] = true := by decide +kernel
theorem d_R_takeWord_0 : decode mR_takeWord.2.1 0 = .ok (.aload_n 0, 1) := dq_get dd_R_takeWord_0 (i := 0) rfl
theorem d_R_takeWord_1 : decode mR_takeWord.2.1 1 = .ok (.iload_n 1, 1) := dq_get dd_R_takeWord_0 (i := 1) rfl
theorem d_R_takeWord_2 : decode mR_takeWord.2.1 2 = .ok (.invokevirtual 110, 3) := dq_get dd_R_takeWord_0 (i := 2) rfl
theorem d_R_takeWord_5 : decode mR_takeWord.2.1 5 = .ok (.ifCond .eq 13, 3) := dq_get dd_R_takeWord_0 (i := 3) rfl
theorem d_R_takeWord_8 : decode mR_takeWord.2.1 8 = .ok (.aload_n 0, 1) := dq_get dd_R_takeWord_0 (i := 4) rfl
theorem d_R_takeWord_9 : decode mR_takeWord.2.1 9 = .ok (.getfield 18, 3) := dq_get dd_R_takeWord_0 (i := 5) rfl
theorem d_R_takeWord_12 : decode mR_takeWord.2.1 12 = .ok (.invokevirtual 55, 3) := dq_get dd_R_takeWord_0 (i := 6) rfl
theorem d_R_takeWord_15 : decode mR_takeWord.2.1 15 = .ok (.goto 8, 3) := dq_get dd_R_takeWord_0 (i := 7) rfl
theorem d_R_takeWord_18 : decode mR_takeWord.2.1 18 = .ok (.aload_n 0, 1) := dq_get dd_R_takeWord_0 (i := 8) rfl
theorem d_R_takeWord_19 : decode mR_takeWord.2.1 19 = .ok (.iconst 2, 1) := dq_get dd_R_takeWord_0 (i := 9) rfl
theorem d_R_takeWord_20 : decode mR_takeWord.2.1 20 = .ok (.invokevirtual 51, 3) := dq_get dd_R_takeWord_0 (i := 10) rfl
theorem d_R_takeWord_23 : decode mR_takeWord.2.1 23 = .ok (.return_, 1) := dq_get dd_R_takeWord_0 (i := 11) rfl
theorem dd_R_knownPart_0 : dq mR_knownPart.2.1 [(0, .aload_n 0, 1), (1, .getfield 18, 3), (4, .getfield 41, 3), (7, .iconst 2, 1), (8, .if_icmp .ne 20, 3), (11, .aload_n 0, 1), (12, .getfield 25, 3), (15, .aload_n 0, 1), (16, .getfield 18, 3), (19, .getfield 98, 3), (22, .invokevirtual 102, 3), (25, .goto 4, 3), (28, .iconst (-1), 1), (29, .istore_n 1, 1), (30, .aload_n 0, 1), (31, .getfield 29, 3), (34, .ifCond .ne 28, 3), (37, .iload_n 1, 1), (38, .iconst (-1), 1), (39, .if_icmp .ne 23, 3), (42, .aload_n 0, 1), (43, .aload_n 0, 1), (44, .getfield 18, 3), (47, .getfield 41, 3), (50, .iconst 2, 1), (51, .if_icmp .ne 7, 3), (54, .iconst 5, 1), (55, .goto 4, 3), (58, .iconst 2, 1), (59, .invokevirtual 51, 3), (62, .aload_n 0, 1), (63, .getfield 29, 3)] = true := by decide +kernel
theorem d_R_knownPart_0 : decode mR_knownPart.2.1 0 = .ok (.aload_n 0, 1) := dq_get dd_R_knownPart_0 (i := 0) rfl
theorem d_R_knownPart_1 : decode mR_knownPart.2.1 1 = .ok (.getfield 18, 3) := dq_get dd_R_knownPart_0 (i := 1) rfl
theorem d_R_knownPart_4 : decode mR_knownPart.2.1 4 = .ok (.getfield 41, 3) := dq_get dd_R_knownPart_0 (i := 2) rfl
theorem d_R_knownPart_7 : decode mR_knownPart.2.1 7 = .ok (.iconst 2, 1) := dq_get dd_R_knownPart_0 (i := 3) rfl
theorem d_R_knownPart_8 : decode mR_knownPart.2.1 8 = .ok (.if_icmp .ne 20, 3) := dq_get dd_R_knownPart_0 (i := 4) rfl
theorem d_R_knownPart_11 : decode mR_knownPart.2.1 11 = .ok (.aload_n 0, 1) := dq_get dd_R_knownPart_0 (i := 5) rfl
theorem d_R_knownPart_12 : decode mR_knownPart.2.1 12 = .ok (.getfield 25, 3) := dq_get dd_R_knownPart_0 (i := 6) rfl
theorem d_R_knownPart_15 : decode mR_knownPart.2.1 15 = .ok (.aload_n 0, 1) := dq_get dd_R_knownPart_0 (i := 7) rfl
theorem d_R_knownPart_16 : decode mR_knownPart.2.1 16 = .ok (.getfield 18, 3) := dq_get dd_R_knownPart_0 (i := 8) rfl
theorem d_R_knownPart_19 : decode mR_knownPart.2.1 19 = .ok (.getfield 98, 3) := dq_get dd_R_knownPart_0 (i := 9) rfl
theorem d_R_knownPart_22 : decode mR_knownPart.2.1 22 = .ok (.invokevirtual 102, 3) := dq_get dd_R_knownPart_0 (i := 10) rfl
theorem d_R_knownPart_25 : decode mR_knownPart.2.1 25 = .ok (.goto 4, 3) := dq_get dd_R_knownPart_0 (i := 11) rfl
theorem d_R_knownPart_28 : decode mR_knownPart.2.1 28 = .ok (.iconst (-1), 1) := dq_get dd_R_knownPart_0 (i := 12) rfl
theorem d_R_knownPart_29 : decode mR_knownPart.2.1 29 = .ok (.istore_n 1, 1) := dq_get dd_R_knownPart_0 (i := 13) rfl
theorem d_R_knownPart_30 : decode mR_knownPart.2.1 30 = .ok (.aload_n 0, 1) := dq_get dd_R_knownPart_0 (i := 14) rfl
theorem d_R_knownPart_31 : decode mR_knownPart.2.1 31 = .ok (.getfield 29, 3) := dq_get dd_R_knownPart_0 (i := 15) rfl
theorem d_R_knownPart_34 : decode mR_knownPart.2.1 34 = .ok (.ifCond .ne 28, 3) := dq_get dd_R_knownPart_0 (i := 16) rfl
theorem d_R_knownPart_37 : decode mR_knownPart.2.1 37 = .ok (.iload_n 1, 1) := dq_get dd_R_knownPart_0 (i := 17) rfl
theorem d_R_knownPart_38 : decode mR_knownPart.2.1 38 = .ok (.iconst (-1), 1) := dq_get dd_R_knownPart_0 (i := 18) rfl
theorem d_R_knownPart_39 : decode mR_knownPart.2.1 39 = .ok (.if_icmp .ne 23, 3) := dq_get dd_R_knownPart_0 (i := 19) rfl
theorem d_R_knownPart_42 : decode mR_knownPart.2.1 42 = .ok (.aload_n 0, 1) := dq_get dd_R_knownPart_0 (i := 20) rfl
theorem d_R_knownPart_43 : decode mR_knownPart.2.1 43 = .ok (.aload_n 0, 1) := dq_get dd_R_knownPart_0 (i := 21) rfl
theorem d_R_knownPart_44 : decode mR_knownPart.2.1 44 = .ok (.getfield 18, 3) := dq_get dd_R_knownPart_0 (i := 22) rfl
theorem d_R_knownPart_47 : decode mR_knownPart.2.1 47 = .ok (.getfield 41, 3) := dq_get dd_R_knownPart_0 (i := 23) rfl
theorem d_R_knownPart_50 : decode mR_knownPart.2.1 50 = .ok (.iconst 2, 1) := dq_get dd_R_knownPart_0 (i := 24) rfl
theorem d_R_knownPart_51 : decode mR_knownPart.2.1 51 = .ok (.if_icmp .ne 7, 3) := dq_get dd_R_knownPart_0 (i := 25) rfl
theorem d_R_knownPart_54 : decode mR_knownPart.2.1 54 = .ok (.iconst 5, 1) := dq_get dd_R_knownPart_0 (i := 26) rfl
theorem d_R_knownPart_55 : decode mR_knownPart.2.1 55 = .ok (.goto 4, 3) := dq_get dd_R_knownPart_0 (i := 27) rfl
theorem d_R_knownPart_58 : decode mR_knownPart.2.1 58 = .ok (.iconst 2, 1) := dq_get dd_R_knownPart_0 (i := 28) rfl
theorem d_R_knownPart_59 : decode mR_knownPart.2.1 59 = .ok (.invokevirtual 51, 3) := dq_get dd_R_knownPart_0 (i := 29) rfl
theorem d_R_knownPart_62 : decode mR_knownPart.2.1 62 = .ok (.aload_n 0, 1) := dq_get dd_R_knownPart_0 (i := 30) rfl
theorem d_R_knownPart_63 : decode mR_knownPart.2.1 63 = .ok (.getfield 29, 3) := dq_get dd_R_knownPart_0 (i := 31) rfl
theorem dd_R_knownPart_32 : dq mR_knownPart.2.1 [(66, .ifCond .ne 10, 3), (69, .aload_n 0, 1), (70, .getfield 18, 3), (73, .invokevirtual 55, 3), (76, .iload_n 1, 1), (77, .ireturn, 1)] = true := by decide +kernel
theorem d_R_knownPart_66 : decode mR_knownPart.2.1 66 = .ok (.ifCond .ne 10, 3) := dq_get dd_R_knownPart_32 (i := 0) rfl
theorem d_R_knownPart_69 : decode mR_knownPart.2.1 69 = .ok (.aload_n 0, 1) := dq_get dd_R_knownPart_32 (i := 1) rfl
theorem d_R_knownPart_70 : decode mR_knownPart.2.1 70 = .ok (.getfield 18, 3) := dq_get dd_R_knownPart_32 (i := 2) rfl
theorem d_R_knownPart_73 : decode mR_knownPart.2.1 73 = .ok (.invokevirtual 55, 3) := dq_get dd_R_knownPart_32 (i := 3) rfl
theorem d_R_knownPart_76 : decode mR_knownPart.2.1 76 = .ok (.iload_n 1, 1) := dq_get dd_R_knownPart_32 (i := 4) rfl
theorem d_R_knownPart_77 : decode mR_knownPart.2.1 77 = .ok (.ireturn, 1) := dq_get dd_R_knownPart_32 (i := 5) rfl
theorem dd_S_addNote_0 : dq mS_addNote.2.1 [(0, .aload_n 0, 1), (1, .getfield 66, 3), (4, .bipush 10, 2), (6, .if_icmp .ge 77, 3), (9, .aload_n 0, 1), (10, .getfield 19, 3), (13, .aload_n 0, 1), (14, .getfield 66, 3), (17, .lload_n 1, 1), (18, .lastore, 1), (19, .aload_n 0, 1), (20, .getfield 22, 3), (23, .aload_n 0, 1), (24, .getfield 66, 3), (27, .iload_n 3, 1), (28, .iastore, 1), (29, .aload_n 0, 1), (30, .getfield 25, 3), (33, .aload_n 0, 1), (34, .getfield 66, 3), (37, .iload 4, 2), (39, .iastore, 1), (40, .aload_n 0, 1), (41, .getfield 28, 3), (44, .aload_n 0, 1), (45, .getfield 66, 3), (48, .iload 5, 2), (50, .iastore, 1), (51, .aload_n 0, 1), (52, .getfield 31, 3), (55, .aload_n 0, 1), (56, .getfield 66, 3)] = true := by decide +kernel
theorem d_S_addNote_0 : decode mS_addNote.2.1 0 = .ok (.aload_n 0, 1) := dq_get dd_S_addNote_0 (i := 0) rfl
theorem d_S_addNote_1 : decode mS_addNote.2.1 1 = .ok (.getfield 66, 3) := dq_get dd_S_addNote_0 (i := 1) rfl
theorem d_S_addNote_4 : decode mS_addNote.2.1 4 = .ok (.bipush 10, 2) := dq_get dd_S_addNote_0 (i := 2) rfl
theorem d_S_addNote_6 : decode mS_addNote.2.1 6 = .ok (.if_icmp .ge 77, 3) := dq_get dd_S_addNote_0 (i := 3) rfl
theorem d_S_addNote_9 : decode mS_addNote.2.1 9 = .ok (.aload_n 0, 1) := dq_get dd_S_addNote_0 (i := 4) rfl
theorem d_S_addNote_10 : decode mS_addNote.2.1 10 = .ok (.getfield 19, 3) := dq_get dd_S_addNote_0 (i := 5) rfl
theorem d_S_addNote_13 : decode mS_addNote.2.1 13 = .ok (.aload_n 0, 1) := dq_get dd_S_addNote_0 (i := 6) rfl
theorem d_S_addNote_14 : decode mS_addNote.2.1 14 = .ok (.getfield 66, 3) := dq_get dd_S_addNote_0 (i := 7) rfl
theorem d_S_addNote_17 : decode mS_addNote.2.1 17 = .ok (.lload_n 1, 1) := dq_get dd_S_addNote_0 (i := 8) rfl
theorem d_S_addNote_18 : decode mS_addNote.2.1 18 = .ok (.lastore, 1) := dq_get dd_S_addNote_0 (i := 9) rfl
theorem d_S_addNote_19 : decode mS_addNote.2.1 19 = .ok (.aload_n 0, 1) := dq_get dd_S_addNote_0 (i := 10) rfl
theorem d_S_addNote_20 : decode mS_addNote.2.1 20 = .ok (.getfield 22, 3) := dq_get dd_S_addNote_0 (i := 11) rfl
theorem d_S_addNote_23 : decode mS_addNote.2.1 23 = .ok (.aload_n 0, 1) := dq_get dd_S_addNote_0 (i := 12) rfl
theorem d_S_addNote_24 : decode mS_addNote.2.1 24 = .ok (.getfield 66, 3) := dq_get dd_S_addNote_0 (i := 13) rfl
theorem d_S_addNote_27 : decode mS_addNote.2.1 27 = .ok (.iload_n 3, 1) := dq_get dd_S_addNote_0 (i := 14) rfl
theorem d_S_addNote_28 : decode mS_addNote.2.1 28 = .ok (.iastore, 1) := dq_get dd_S_addNote_0 (i := 15) rfl
theorem d_S_addNote_29 : decode mS_addNote.2.1 29 = .ok (.aload_n 0, 1) := dq_get dd_S_addNote_0 (i := 16) rfl
theorem d_S_addNote_30 : decode mS_addNote.2.1 30 = .ok (.getfield 25, 3) := dq_get dd_S_addNote_0 (i := 17) rfl
theorem d_S_addNote_33 : decode mS_addNote.2.1 33 = .ok (.aload_n 0, 1) := dq_get dd_S_addNote_0 (i := 18) rfl
theorem d_S_addNote_34 : decode mS_addNote.2.1 34 = .ok (.getfield 66, 3) := dq_get dd_S_addNote_0 (i := 19) rfl
theorem d_S_addNote_37 : decode mS_addNote.2.1 37 = .ok (.iload 4, 2) := dq_get dd_S_addNote_0 (i := 20) rfl
theorem d_S_addNote_39 : decode mS_addNote.2.1 39 = .ok (.iastore, 1) := dq_get dd_S_addNote_0 (i := 21) rfl
theorem d_S_addNote_40 : decode mS_addNote.2.1 40 = .ok (.aload_n 0, 1) := dq_get dd_S_addNote_0 (i := 22) rfl
theorem d_S_addNote_41 : decode mS_addNote.2.1 41 = .ok (.getfield 28, 3) := dq_get dd_S_addNote_0 (i := 23) rfl
theorem d_S_addNote_44 : decode mS_addNote.2.1 44 = .ok (.aload_n 0, 1) := dq_get dd_S_addNote_0 (i := 24) rfl
theorem d_S_addNote_45 : decode mS_addNote.2.1 45 = .ok (.getfield 66, 3) := dq_get dd_S_addNote_0 (i := 25) rfl
theorem d_S_addNote_48 : decode mS_addNote.2.1 48 = .ok (.iload 5, 2) := dq_get dd_S_addNote_0 (i := 26) rfl
theorem d_S_addNote_50 : decode mS_addNote.2.1 50 = .ok (.iastore, 1) := dq_get dd_S_addNote_0 (i := 27) rfl
theorem d_S_addNote_51 : decode mS_addNote.2.1 51 = .ok (.aload_n 0, 1) := dq_get dd_S_addNote_0 (i := 28) rfl
theorem d_S_addNote_52 : decode mS_addNote.2.1 52 = .ok (.getfield 31, 3) := dq_get dd_S_addNote_0 (i := 29) rfl
theorem d_S_addNote_55 : decode mS_addNote.2.1 55 = .ok (.aload_n 0, 1) := dq_get dd_S_addNote_0 (i := 30) rfl
theorem d_S_addNote_56 : decode mS_addNote.2.1 56 = .ok (.getfield 66, 3) := dq_get dd_S_addNote_0 (i := 31) rfl
theorem dd_S_addNote_32 : dq mS_addNote.2.1 [(59, .iload 6, 2), (61, .iastore, 1), (62, .aload_n 0, 1), (63, .getfield 34, 3), (66, .aload_n 0, 1), (67, .getfield 66, 3), (70, .iload 7, 2), (72, .iastore, 1), (73, .aload_n 0, 1), (74, .dup, 1), (75, .getfield 66, 3), (78, .iconst 1, 1), (79, .iadd, 1), (80, .putfield 66, 3), (83, .return_, 1)] = true := by decide +kernel
theorem d_S_addNote_59 : decode mS_addNote.2.1 59 = .ok (.iload 6, 2) := dq_get dd_S_addNote_32 (i := 0) rfl
theorem d_S_addNote_61 : decode mS_addNote.2.1 61 = .ok (.iastore, 1) := dq_get dd_S_addNote_32 (i := 1) rfl
theorem d_S_addNote_62 : decode mS_addNote.2.1 62 = .ok (.aload_n 0, 1) := dq_get dd_S_addNote_32 (i := 2) rfl
theorem d_S_addNote_63 : decode mS_addNote.2.1 63 = .ok (.getfield 34, 3) := dq_get dd_S_addNote_32 (i := 3) rfl
theorem d_S_addNote_66 : decode mS_addNote.2.1 66 = .ok (.aload_n 0, 1) := dq_get dd_S_addNote_32 (i := 4) rfl
theorem d_S_addNote_67 : decode mS_addNote.2.1 67 = .ok (.getfield 66, 3) := dq_get dd_S_addNote_32 (i := 5) rfl
theorem d_S_addNote_70 : decode mS_addNote.2.1 70 = .ok (.iload 7, 2) := dq_get dd_S_addNote_32 (i := 6) rfl
theorem d_S_addNote_72 : decode mS_addNote.2.1 72 = .ok (.iastore, 1) := dq_get dd_S_addNote_32 (i := 7) rfl
theorem d_S_addNote_73 : decode mS_addNote.2.1 73 = .ok (.aload_n 0, 1) := dq_get dd_S_addNote_32 (i := 8) rfl
theorem d_S_addNote_74 : decode mS_addNote.2.1 74 = .ok (.dup, 1) := dq_get dd_S_addNote_32 (i := 9) rfl
theorem d_S_addNote_75 : decode mS_addNote.2.1 75 = .ok (.getfield 66, 3) := dq_get dd_S_addNote_32 (i := 10) rfl
theorem d_S_addNote_78 : decode mS_addNote.2.1 78 = .ok (.iconst 1, 1) := dq_get dd_S_addNote_32 (i := 11) rfl
theorem d_S_addNote_79 : decode mS_addNote.2.1 79 = .ok (.iadd, 1) := dq_get dd_S_addNote_32 (i := 12) rfl
theorem d_S_addNote_80 : decode mS_addNote.2.1 80 = .ok (.putfield 66, 3) := dq_get dd_S_addNote_32 (i := 13) rfl
theorem d_S_addNote_83 : decode mS_addNote.2.1 83 = .ok (.return_, 1) := dq_get dd_S_addNote_32 (i := 14) rfl
theorem dd_R_either_0 : dq mR_either.2.1 [(0, .aload_n 0, 1), (1, .iload_n 1, 1), (2, .invokevirtual 137, 3), (5, .iconst 0, 1), (6, .istore_n 2, 1), (7, .iload_n 2, 1), (8, .sipush 1600, 3), (11, .if_icmp .ge 42, 3), (14, .aload_n 0, 1), (15, .bipush 12, 2), (17, .invokevirtual 110, 3), (20, .ifCond .eq 33, 3), (23, .aload_n 0, 1), (24, .getfield 18, 3), (27, .invokevirtual 55, 3), (30, .aload_n 0, 1), (31, .iload_n 1, 1), (32, .invokevirtual 137, 3), (35, .aload_n 0, 1), (36, .getfield 25, 3), (39, .getfield 140, 3), (42, .bipush (-12), 2), (44, .invokevirtual 144, 3), (47, .iinc 2 1, 3), (50, .goto (-43), 3), (53, .return_, 1)] = true := by decide +kernel
theorem d_R_either_0 : decode mR_either.2.1 0 = .ok (.aload_n 0, 1) := dq_get dd_R_either_0 (i := 0) rfl
theorem d_R_either_1 : decode mR_either.2.1 1 = .ok (.iload_n 1, 1) := dq_get dd_R_either_0 (i := 1) rfl
theorem d_R_either_2 : decode mR_either.2.1 2 = .ok (.invokevirtual 137, 3) := dq_get dd_R_either_0 (i := 2) rfl
theorem d_R_either_5 : decode mR_either.2.1 5 = .ok (.iconst 0, 1) := dq_get dd_R_either_0 (i := 3) rfl
theorem d_R_either_6 : decode mR_either.2.1 6 = .ok (.istore_n 2, 1) := dq_get dd_R_either_0 (i := 4) rfl
theorem d_R_either_7 : decode mR_either.2.1 7 = .ok (.iload_n 2, 1) := dq_get dd_R_either_0 (i := 5) rfl
theorem d_R_either_8 : decode mR_either.2.1 8 = .ok (.sipush 1600, 3) := dq_get dd_R_either_0 (i := 6) rfl
theorem d_R_either_11 : decode mR_either.2.1 11 = .ok (.if_icmp .ge 42, 3) := dq_get dd_R_either_0 (i := 7) rfl
theorem d_R_either_14 : decode mR_either.2.1 14 = .ok (.aload_n 0, 1) := dq_get dd_R_either_0 (i := 8) rfl
theorem d_R_either_15 : decode mR_either.2.1 15 = .ok (.bipush 12, 2) := dq_get dd_R_either_0 (i := 9) rfl
theorem d_R_either_17 : decode mR_either.2.1 17 = .ok (.invokevirtual 110, 3) := dq_get dd_R_either_0 (i := 10) rfl
theorem d_R_either_20 : decode mR_either.2.1 20 = .ok (.ifCond .eq 33, 3) := dq_get dd_R_either_0 (i := 11) rfl
theorem d_R_either_23 : decode mR_either.2.1 23 = .ok (.aload_n 0, 1) := dq_get dd_R_either_0 (i := 12) rfl
theorem d_R_either_24 : decode mR_either.2.1 24 = .ok (.getfield 18, 3) := dq_get dd_R_either_0 (i := 13) rfl
theorem d_R_either_27 : decode mR_either.2.1 27 = .ok (.invokevirtual 55, 3) := dq_get dd_R_either_0 (i := 14) rfl
theorem d_R_either_30 : decode mR_either.2.1 30 = .ok (.aload_n 0, 1) := dq_get dd_R_either_0 (i := 15) rfl
theorem d_R_either_31 : decode mR_either.2.1 31 = .ok (.iload_n 1, 1) := dq_get dd_R_either_0 (i := 16) rfl
theorem d_R_either_32 : decode mR_either.2.1 32 = .ok (.invokevirtual 137, 3) := dq_get dd_R_either_0 (i := 17) rfl
theorem d_R_either_35 : decode mR_either.2.1 35 = .ok (.aload_n 0, 1) := dq_get dd_R_either_0 (i := 18) rfl
theorem d_R_either_36 : decode mR_either.2.1 36 = .ok (.getfield 25, 3) := dq_get dd_R_either_0 (i := 19) rfl
theorem d_R_either_39 : decode mR_either.2.1 39 = .ok (.getfield 140, 3) := dq_get dd_R_either_0 (i := 20) rfl
theorem d_R_either_42 : decode mR_either.2.1 42 = .ok (.bipush (-12), 2) := dq_get dd_R_either_0 (i := 21) rfl
theorem d_R_either_44 : decode mR_either.2.1 44 = .ok (.invokevirtual 144, 3) := dq_get dd_R_either_0 (i := 22) rfl
theorem d_R_either_47 : decode mR_either.2.1 47 = .ok (.iinc 2 1, 3) := dq_get dd_R_either_0 (i := 23) rfl
theorem d_R_either_50 : decode mR_either.2.1 50 = .ok (.goto (-43), 3) := dq_get dd_R_either_0 (i := 24) rfl
theorem d_R_either_53 : decode mR_either.2.1 53 = .ok (.return_, 1) := dq_get dd_R_either_0 (i := 25) rfl
theorem dd_R_both_0 : dq mR_both.2.1 [(0, .aload_n 0, 1), (1, .iload_n 1, 1), (2, .invokevirtual 149, 3), (5, .iconst 0, 1), (6, .istore_n 2, 1), (7, .iload_n 2, 1), (8, .sipush 1600, 3), (11, .if_icmp .ge 42, 3), (14, .aload_n 0, 1), (15, .bipush 13, 2), (17, .invokevirtual 110, 3), (20, .ifCond .eq 33, 3), (23, .aload_n 0, 1), (24, .getfield 18, 3), (27, .invokevirtual 55, 3), (30, .aload_n 0, 1), (31, .iload_n 1, 1), (32, .invokevirtual 149, 3), (35, .aload_n 0, 1), (36, .getfield 25, 3), (39, .getfield 140, 3), (42, .bipush (-13), 2), (44, .invokevirtual 144, 3), (47, .iinc 2 1, 3), (50, .goto (-43), 3), (53, .return_, 1)] = true := by decide +kernel
theorem d_R_both_0 : decode mR_both.2.1 0 = .ok (.aload_n 0, 1) := dq_get dd_R_both_0 (i := 0) rfl
theorem d_R_both_1 : decode mR_both.2.1 1 = .ok (.iload_n 1, 1) := dq_get dd_R_both_0 (i := 1) rfl
theorem d_R_both_2 : decode mR_both.2.1 2 = .ok (.invokevirtual 149, 3) := dq_get dd_R_both_0 (i := 2) rfl
theorem d_R_both_5 : decode mR_both.2.1 5 = .ok (.iconst 0, 1) := dq_get dd_R_both_0 (i := 3) rfl
theorem d_R_both_6 : decode mR_both.2.1 6 = .ok (.istore_n 2, 1) := dq_get dd_R_both_0 (i := 4) rfl
theorem d_R_both_7 : decode mR_both.2.1 7 = .ok (.iload_n 2, 1) := dq_get dd_R_both_0 (i := 5) rfl
theorem d_R_both_8 : decode mR_both.2.1 8 = .ok (.sipush 1600, 3) := dq_get dd_R_both_0 (i := 6) rfl
theorem d_R_both_11 : decode mR_both.2.1 11 = .ok (.if_icmp .ge 42, 3) := dq_get dd_R_both_0 (i := 7) rfl
theorem d_R_both_14 : decode mR_both.2.1 14 = .ok (.aload_n 0, 1) := dq_get dd_R_both_0 (i := 8) rfl
theorem d_R_both_15 : decode mR_both.2.1 15 = .ok (.bipush 13, 2) := dq_get dd_R_both_0 (i := 9) rfl
theorem d_R_both_17 : decode mR_both.2.1 17 = .ok (.invokevirtual 110, 3) := dq_get dd_R_both_0 (i := 10) rfl
theorem d_R_both_20 : decode mR_both.2.1 20 = .ok (.ifCond .eq 33, 3) := dq_get dd_R_both_0 (i := 11) rfl
theorem d_R_both_23 : decode mR_both.2.1 23 = .ok (.aload_n 0, 1) := dq_get dd_R_both_0 (i := 12) rfl
theorem d_R_both_24 : decode mR_both.2.1 24 = .ok (.getfield 18, 3) := dq_get dd_R_both_0 (i := 13) rfl
theorem d_R_both_27 : decode mR_both.2.1 27 = .ok (.invokevirtual 55, 3) := dq_get dd_R_both_0 (i := 14) rfl
theorem d_R_both_30 : decode mR_both.2.1 30 = .ok (.aload_n 0, 1) := dq_get dd_R_both_0 (i := 15) rfl
theorem d_R_both_31 : decode mR_both.2.1 31 = .ok (.iload_n 1, 1) := dq_get dd_R_both_0 (i := 16) rfl
theorem d_R_both_32 : decode mR_both.2.1 32 = .ok (.invokevirtual 149, 3) := dq_get dd_R_both_0 (i := 17) rfl
theorem d_R_both_35 : decode mR_both.2.1 35 = .ok (.aload_n 0, 1) := dq_get dd_R_both_0 (i := 18) rfl
theorem d_R_both_36 : decode mR_both.2.1 36 = .ok (.getfield 25, 3) := dq_get dd_R_both_0 (i := 19) rfl
theorem d_R_both_39 : decode mR_both.2.1 39 = .ok (.getfield 140, 3) := dq_get dd_R_both_0 (i := 20) rfl
theorem d_R_both_42 : decode mR_both.2.1 42 = .ok (.bipush (-13), 2) := dq_get dd_R_both_0 (i := 21) rfl
theorem d_R_both_44 : decode mR_both.2.1 44 = .ok (.invokevirtual 144, 3) := dq_get dd_R_both_0 (i := 22) rfl
theorem d_R_both_47 : decode mR_both.2.1 47 = .ok (.iinc 2 1, 3) := dq_get dd_R_both_0 (i := 23) rfl
theorem d_R_both_50 : decode mR_both.2.1 50 = .ok (.goto (-43), 3) := dq_get dd_R_both_0 (i := 24) rfl
theorem d_R_both_53 : decode mR_both.2.1 53 = .ok (.return_, 1) := dq_get dd_R_both_0 (i := 25) rfl
theorem dd_R_one_0 : dq mR_one.2.1 [(0, .aload_n 0, 1), (1, .bipush 14, 2), (3, .invokevirtual 110, 3), (6, .ifCond .eq 42, 3), (9, .iload_n 1, 1), (10, .bipush 7, 2), (12, .if_icmp .lt 9, 3), (15, .aload_n 0, 1), (16, .iconst 2, 1), (17, .invokevirtual 51, 3), (20, .return_, 1), (21, .aload_n 0, 1), (22, .getfield 18, 3), (25, .invokevirtual 55, 3), (28, .aload_n 0, 1), (29, .iload_n 1, 1), (30, .iconst 1, 1), (31, .iadd, 1), (32, .invokevirtual 149, 3), (35, .aload_n 0, 1), (36, .getfield 25, 3), (39, .getfield 140, 3), (42, .bipush (-14), 2), (44, .invokevirtual 144, 3), (47, .return_, 1), (48, .aload_n 0, 1), (49, .iload_n 1, 1), (50, .invokevirtual 152, 3), (53, .aload_n 0, 1), (54, .bipush 60, 2), (56, .invokevirtual 132, 3), (59, .ifCond .ne 21, 3)] = true := by decide +kernel
theorem d_R_one_0 : decode mR_one.2.1 0 = .ok (.aload_n 0, 1) := dq_get dd_R_one_0 (i := 0) rfl
theorem d_R_one_1 : decode mR_one.2.1 1 = .ok (.bipush 14, 2) := dq_get dd_R_one_0 (i := 1) rfl
theorem d_R_one_3 : decode mR_one.2.1 3 = .ok (.invokevirtual 110, 3) := dq_get dd_R_one_0 (i := 2) rfl
theorem d_R_one_6 : decode mR_one.2.1 6 = .ok (.ifCond .eq 42, 3) := dq_get dd_R_one_0 (i := 3) rfl
theorem d_R_one_9 : decode mR_one.2.1 9 = .ok (.iload_n 1, 1) := dq_get dd_R_one_0 (i := 4) rfl
theorem d_R_one_10 : decode mR_one.2.1 10 = .ok (.bipush 7, 2) := dq_get dd_R_one_0 (i := 5) rfl
theorem d_R_one_12 : decode mR_one.2.1 12 = .ok (.if_icmp .lt 9, 3) := dq_get dd_R_one_0 (i := 6) rfl
theorem d_R_one_15 : decode mR_one.2.1 15 = .ok (.aload_n 0, 1) := dq_get dd_R_one_0 (i := 7) rfl
theorem d_R_one_16 : decode mR_one.2.1 16 = .ok (.iconst 2, 1) := dq_get dd_R_one_0 (i := 8) rfl
theorem d_R_one_17 : decode mR_one.2.1 17 = .ok (.invokevirtual 51, 3) := dq_get dd_R_one_0 (i := 9) rfl
theorem d_R_one_20 : decode mR_one.2.1 20 = .ok (.return_, 1) := dq_get dd_R_one_0 (i := 10) rfl
theorem d_R_one_21 : decode mR_one.2.1 21 = .ok (.aload_n 0, 1) := dq_get dd_R_one_0 (i := 11) rfl
theorem d_R_one_22 : decode mR_one.2.1 22 = .ok (.getfield 18, 3) := dq_get dd_R_one_0 (i := 12) rfl
theorem d_R_one_25 : decode mR_one.2.1 25 = .ok (.invokevirtual 55, 3) := dq_get dd_R_one_0 (i := 13) rfl
theorem d_R_one_28 : decode mR_one.2.1 28 = .ok (.aload_n 0, 1) := dq_get dd_R_one_0 (i := 14) rfl
theorem d_R_one_29 : decode mR_one.2.1 29 = .ok (.iload_n 1, 1) := dq_get dd_R_one_0 (i := 15) rfl
theorem d_R_one_30 : decode mR_one.2.1 30 = .ok (.iconst 1, 1) := dq_get dd_R_one_0 (i := 16) rfl
theorem d_R_one_31 : decode mR_one.2.1 31 = .ok (.iadd, 1) := dq_get dd_R_one_0 (i := 17) rfl
theorem d_R_one_32 : decode mR_one.2.1 32 = .ok (.invokevirtual 149, 3) := dq_get dd_R_one_0 (i := 18) rfl
theorem d_R_one_35 : decode mR_one.2.1 35 = .ok (.aload_n 0, 1) := dq_get dd_R_one_0 (i := 19) rfl
theorem d_R_one_36 : decode mR_one.2.1 36 = .ok (.getfield 25, 3) := dq_get dd_R_one_0 (i := 20) rfl
theorem d_R_one_39 : decode mR_one.2.1 39 = .ok (.getfield 140, 3) := dq_get dd_R_one_0 (i := 21) rfl
theorem d_R_one_42 : decode mR_one.2.1 42 = .ok (.bipush (-14), 2) := dq_get dd_R_one_0 (i := 22) rfl
theorem d_R_one_44 : decode mR_one.2.1 44 = .ok (.invokevirtual 144, 3) := dq_get dd_R_one_0 (i := 23) rfl
theorem d_R_one_47 : decode mR_one.2.1 47 = .ok (.return_, 1) := dq_get dd_R_one_0 (i := 24) rfl
theorem d_R_one_48 : decode mR_one.2.1 48 = .ok (.aload_n 0, 1) := dq_get dd_R_one_0 (i := 25) rfl
theorem d_R_one_49 : decode mR_one.2.1 49 = .ok (.iload_n 1, 1) := dq_get dd_R_one_0 (i := 26) rfl
theorem d_R_one_50 : decode mR_one.2.1 50 = .ok (.invokevirtual 152, 3) := dq_get dd_R_one_0 (i := 27) rfl
theorem d_R_one_53 : decode mR_one.2.1 53 = .ok (.aload_n 0, 1) := dq_get dd_R_one_0 (i := 28) rfl
theorem d_R_one_54 : decode mR_one.2.1 54 = .ok (.bipush 60, 2) := dq_get dd_R_one_0 (i := 29) rfl
theorem d_R_one_56 : decode mR_one.2.1 56 = .ok (.invokevirtual 132, 3) := dq_get dd_R_one_0 (i := 30) rfl
theorem d_R_one_59 : decode mR_one.2.1 59 = .ok (.ifCond .ne 21, 3) := dq_get dd_R_one_0 (i := 31) rfl
theorem dd_R_one_32 : dq mR_one.2.1 [(62, .aload_n 0, 1), (63, .bipush 62, 2), (65, .invokevirtual 132, 3), (68, .ifCond .ne 12, 3), (71, .aload_n 0, 1), (72, .bipush 61, 2), (74, .invokevirtual 132, 3), (77, .ifCond .eq 35, 3), (80, .aload_n 0, 1), (81, .getfield 18, 3), (84, .getfield 44, 3), (87, .istore_n 2, 1), (88, .aload_n 0, 1), (89, .getfield 18, 3), (92, .invokevirtual 55, 3), (95, .aload_n 0, 1), (96, .iload_n 1, 1), (97, .invokevirtual 152, 3), (100, .aload_n 0, 1), (101, .getfield 25, 3), (104, .getfield 140, 3), (107, .iload_n 2, 1), (108, .ineg, 1), (109, .invokevirtual 144, 3), (112, .return_, 1)] = true := by decide +kernel
theorem d_R_one_62 : decode mR_one.2.1 62 = .ok (.aload_n 0, 1) := dq_get dd_R_one_32 (i := 0) rfl
theorem d_R_one_63 : decode mR_one.2.1 63 = .ok (.bipush 62, 2) := dq_get dd_R_one_32 (i := 1) rfl
theorem d_R_one_65 : decode mR_one.2.1 65 = .ok (.invokevirtual 132, 3) := dq_get dd_R_one_32 (i := 2) rfl
theorem d_R_one_68 : decode mR_one.2.1 68 = .ok (.ifCond .ne 12, 3) := dq_get dd_R_one_32 (i := 3) rfl
theorem d_R_one_71 : decode mR_one.2.1 71 = .ok (.aload_n 0, 1) := dq_get dd_R_one_32 (i := 4) rfl
theorem d_R_one_72 : decode mR_one.2.1 72 = .ok (.bipush 61, 2) := dq_get dd_R_one_32 (i := 5) rfl
theorem d_R_one_74 : decode mR_one.2.1 74 = .ok (.invokevirtual 132, 3) := dq_get dd_R_one_32 (i := 6) rfl
theorem d_R_one_77 : decode mR_one.2.1 77 = .ok (.ifCond .eq 35, 3) := dq_get dd_R_one_32 (i := 7) rfl
theorem d_R_one_80 : decode mR_one.2.1 80 = .ok (.aload_n 0, 1) := dq_get dd_R_one_32 (i := 8) rfl
theorem d_R_one_81 : decode mR_one.2.1 81 = .ok (.getfield 18, 3) := dq_get dd_R_one_32 (i := 9) rfl
theorem d_R_one_84 : decode mR_one.2.1 84 = .ok (.getfield 44, 3) := dq_get dd_R_one_32 (i := 10) rfl
theorem d_R_one_87 : decode mR_one.2.1 87 = .ok (.istore_n 2, 1) := dq_get dd_R_one_32 (i := 11) rfl
theorem d_R_one_88 : decode mR_one.2.1 88 = .ok (.aload_n 0, 1) := dq_get dd_R_one_32 (i := 12) rfl
theorem d_R_one_89 : decode mR_one.2.1 89 = .ok (.getfield 18, 3) := dq_get dd_R_one_32 (i := 13) rfl
theorem d_R_one_92 : decode mR_one.2.1 92 = .ok (.invokevirtual 55, 3) := dq_get dd_R_one_32 (i := 14) rfl
theorem d_R_one_95 : decode mR_one.2.1 95 = .ok (.aload_n 0, 1) := dq_get dd_R_one_32 (i := 15) rfl
theorem d_R_one_96 : decode mR_one.2.1 96 = .ok (.iload_n 1, 1) := dq_get dd_R_one_32 (i := 16) rfl
theorem d_R_one_97 : decode mR_one.2.1 97 = .ok (.invokevirtual 152, 3) := dq_get dd_R_one_32 (i := 17) rfl
theorem d_R_one_100 : decode mR_one.2.1 100 = .ok (.aload_n 0, 1) := dq_get dd_R_one_32 (i := 18) rfl
theorem d_R_one_101 : decode mR_one.2.1 101 = .ok (.getfield 25, 3) := dq_get dd_R_one_32 (i := 19) rfl
theorem d_R_one_104 : decode mR_one.2.1 104 = .ok (.getfield 140, 3) := dq_get dd_R_one_32 (i := 20) rfl
theorem d_R_one_107 : decode mR_one.2.1 107 = .ok (.iload_n 2, 1) := dq_get dd_R_one_32 (i := 21) rfl
theorem d_R_one_108 : decode mR_one.2.1 108 = .ok (.ineg, 1) := dq_get dd_R_one_32 (i := 22) rfl
theorem d_R_one_109 : decode mR_one.2.1 109 = .ok (.invokevirtual 144, 3) := dq_get dd_R_one_32 (i := 23) rfl
theorem d_R_one_112 : decode mR_one.2.1 112 = .ok (.return_, 1) := dq_get dd_R_one_32 (i := 24) rfl
theorem dd_F_put_0 : dq mF_put.2.1 [(0, .aload_n 0, 1), (1, .getfield 25, 3), (4, .sipush 270, 3), (7, .if_icmp .ge 23, 3), (10, .aload_n 0, 1), (11, .getfield 9, 3), (14, .aload_n 0, 1), (15, .getfield 25, 3), (18, .iload_n 1, 1), (19, .iastore, 1), (20, .aload_n 0, 1), (21, .dup, 1), (22, .getfield 25, 3), (25, .iconst 1, 1), (26, .iadd, 1), (27, .putfield 25, 3), (30, .return_, 1)] = true := by decide +kernel
theorem d_F_put_0 : decode mF_put.2.1 0 = .ok (.aload_n 0, 1) := dq_get dd_F_put_0 (i := 0) rfl
theorem d_F_put_1 : decode mF_put.2.1 1 = .ok (.getfield 25, 3) := dq_get dd_F_put_0 (i := 1) rfl
theorem d_F_put_4 : decode mF_put.2.1 4 = .ok (.sipush 270, 3) := dq_get dd_F_put_0 (i := 2) rfl
theorem d_F_put_7 : decode mF_put.2.1 7 = .ok (.if_icmp .ge 23, 3) := dq_get dd_F_put_0 (i := 3) rfl
theorem d_F_put_10 : decode mF_put.2.1 10 = .ok (.aload_n 0, 1) := dq_get dd_F_put_0 (i := 4) rfl
theorem d_F_put_11 : decode mF_put.2.1 11 = .ok (.getfield 9, 3) := dq_get dd_F_put_0 (i := 5) rfl
theorem d_F_put_14 : decode mF_put.2.1 14 = .ok (.aload_n 0, 1) := dq_get dd_F_put_0 (i := 6) rfl
theorem d_F_put_15 : decode mF_put.2.1 15 = .ok (.getfield 25, 3) := dq_get dd_F_put_0 (i := 7) rfl
theorem d_F_put_18 : decode mF_put.2.1 18 = .ok (.iload_n 1, 1) := dq_get dd_F_put_0 (i := 8) rfl
theorem d_F_put_19 : decode mF_put.2.1 19 = .ok (.iastore, 1) := dq_get dd_F_put_0 (i := 9) rfl
theorem d_F_put_20 : decode mF_put.2.1 20 = .ok (.aload_n 0, 1) := dq_get dd_F_put_0 (i := 10) rfl
theorem d_F_put_21 : decode mF_put.2.1 21 = .ok (.dup, 1) := dq_get dd_F_put_0 (i := 11) rfl
theorem d_F_put_22 : decode mF_put.2.1 22 = .ok (.getfield 25, 3) := dq_get dd_F_put_0 (i := 12) rfl
theorem d_F_put_25 : decode mF_put.2.1 25 = .ok (.iconst 1, 1) := dq_get dd_F_put_0 (i := 13) rfl
theorem d_F_put_26 : decode mF_put.2.1 26 = .ok (.iadd, 1) := dq_get dd_F_put_0 (i := 14) rfl
theorem d_F_put_27 : decode mF_put.2.1 27 = .ok (.putfield 25, 3) := dq_get dd_F_put_0 (i := 15) rfl
theorem d_F_put_30 : decode mF_put.2.1 30 = .ok (.return_, 1) := dq_get dd_F_put_0 (i := 16) rfl
theorem dd_R_sum_0 : dq mR_sum.2.1 [(0, .aload_n 0, 1), (1, .iload_n 1, 1), (2, .invokevirtual 155, 3), (5, .iconst 0, 1), (6, .istore_n 2, 1), (7, .iload_n 2, 1), (8, .sipush 1600, 3), (11, .if_icmp .ge 59, 3), (14, .aload_n 0, 1), (15, .bipush 43, 2), (17, .invokevirtual 132, 3), (20, .ifCond .ne 12, 3), (23, .aload_n 0, 1), (24, .bipush 45, 2), (26, .invokevirtual 132, 3), (29, .ifCond .eq 41, 3), (32, .aload_n 0, 1), (33, .getfield 18, 3), (36, .getfield 44, 3), (39, .istore_n 3, 1), (40, .aload_n 0, 1), (41, .getfield 18, 3), (44, .invokevirtual 55, 3), (47, .aload_n 0, 1), (48, .iload_n 1, 1), (49, .invokevirtual 155, 3), (52, .aload_n 0, 1), (53, .getfield 25, 3), (56, .getfield 140, 3), (59, .iload_n 3, 1), (60, .ineg, 1), (61, .invokevirtual 144, 3)] = true := by decide +kernel
theorem d_R_sum_0 : decode mR_sum.2.1 0 = .ok (.aload_n 0, 1) := dq_get dd_R_sum_0 (i := 0) rfl
theorem d_R_sum_1 : decode mR_sum.2.1 1 = .ok (.iload_n 1, 1) := dq_get dd_R_sum_0 (i := 1) rfl
theorem d_R_sum_2 : decode mR_sum.2.1 2 = .ok (.invokevirtual 155, 3) := dq_get dd_R_sum_0 (i := 2) rfl
theorem d_R_sum_5 : decode mR_sum.2.1 5 = .ok (.iconst 0, 1) := dq_get dd_R_sum_0 (i := 3) rfl
theorem d_R_sum_6 : decode mR_sum.2.1 6 = .ok (.istore_n 2, 1) := dq_get dd_R_sum_0 (i := 4) rfl
theorem d_R_sum_7 : decode mR_sum.2.1 7 = .ok (.iload_n 2, 1) := dq_get dd_R_sum_0 (i := 5) rfl
theorem d_R_sum_8 : decode mR_sum.2.1 8 = .ok (.sipush 1600, 3) := dq_get dd_R_sum_0 (i := 6) rfl
theorem d_R_sum_11 : decode mR_sum.2.1 11 = .ok (.if_icmp .ge 59, 3) := dq_get dd_R_sum_0 (i := 7) rfl
theorem d_R_sum_14 : decode mR_sum.2.1 14 = .ok (.aload_n 0, 1) := dq_get dd_R_sum_0 (i := 8) rfl
theorem d_R_sum_15 : decode mR_sum.2.1 15 = .ok (.bipush 43, 2) := dq_get dd_R_sum_0 (i := 9) rfl
theorem d_R_sum_17 : decode mR_sum.2.1 17 = .ok (.invokevirtual 132, 3) := dq_get dd_R_sum_0 (i := 10) rfl
theorem d_R_sum_20 : decode mR_sum.2.1 20 = .ok (.ifCond .ne 12, 3) := dq_get dd_R_sum_0 (i := 11) rfl
theorem d_R_sum_23 : decode mR_sum.2.1 23 = .ok (.aload_n 0, 1) := dq_get dd_R_sum_0 (i := 12) rfl
theorem d_R_sum_24 : decode mR_sum.2.1 24 = .ok (.bipush 45, 2) := dq_get dd_R_sum_0 (i := 13) rfl
theorem d_R_sum_26 : decode mR_sum.2.1 26 = .ok (.invokevirtual 132, 3) := dq_get dd_R_sum_0 (i := 14) rfl
theorem d_R_sum_29 : decode mR_sum.2.1 29 = .ok (.ifCond .eq 41, 3) := dq_get dd_R_sum_0 (i := 15) rfl
theorem d_R_sum_32 : decode mR_sum.2.1 32 = .ok (.aload_n 0, 1) := dq_get dd_R_sum_0 (i := 16) rfl
theorem d_R_sum_33 : decode mR_sum.2.1 33 = .ok (.getfield 18, 3) := dq_get dd_R_sum_0 (i := 17) rfl
theorem d_R_sum_36 : decode mR_sum.2.1 36 = .ok (.getfield 44, 3) := dq_get dd_R_sum_0 (i := 18) rfl
theorem d_R_sum_39 : decode mR_sum.2.1 39 = .ok (.istore_n 3, 1) := dq_get dd_R_sum_0 (i := 19) rfl
theorem d_R_sum_40 : decode mR_sum.2.1 40 = .ok (.aload_n 0, 1) := dq_get dd_R_sum_0 (i := 20) rfl
theorem d_R_sum_41 : decode mR_sum.2.1 41 = .ok (.getfield 18, 3) := dq_get dd_R_sum_0 (i := 21) rfl
theorem d_R_sum_44 : decode mR_sum.2.1 44 = .ok (.invokevirtual 55, 3) := dq_get dd_R_sum_0 (i := 22) rfl
theorem d_R_sum_47 : decode mR_sum.2.1 47 = .ok (.aload_n 0, 1) := dq_get dd_R_sum_0 (i := 23) rfl
theorem d_R_sum_48 : decode mR_sum.2.1 48 = .ok (.iload_n 1, 1) := dq_get dd_R_sum_0 (i := 24) rfl
theorem d_R_sum_49 : decode mR_sum.2.1 49 = .ok (.invokevirtual 155, 3) := dq_get dd_R_sum_0 (i := 25) rfl
theorem d_R_sum_52 : decode mR_sum.2.1 52 = .ok (.aload_n 0, 1) := dq_get dd_R_sum_0 (i := 26) rfl
theorem d_R_sum_53 : decode mR_sum.2.1 53 = .ok (.getfield 25, 3) := dq_get dd_R_sum_0 (i := 27) rfl
theorem d_R_sum_56 : decode mR_sum.2.1 56 = .ok (.getfield 140, 3) := dq_get dd_R_sum_0 (i := 28) rfl
theorem d_R_sum_59 : decode mR_sum.2.1 59 = .ok (.iload_n 3, 1) := dq_get dd_R_sum_0 (i := 29) rfl
theorem d_R_sum_60 : decode mR_sum.2.1 60 = .ok (.ineg, 1) := dq_get dd_R_sum_0 (i := 30) rfl
theorem d_R_sum_61 : decode mR_sum.2.1 61 = .ok (.invokevirtual 144, 3) := dq_get dd_R_sum_0 (i := 31) rfl
theorem dd_R_sum_32 : dq mR_sum.2.1 [(64, .iinc 2 1, 3), (67, .goto (-60), 3), (70, .return_, 1)] = true := by decide +kernel
theorem d_R_sum_64 : decode mR_sum.2.1 64 = .ok (.iinc 2 1, 3) := dq_get dd_R_sum_32 (i := 0) rfl
theorem d_R_sum_67 : decode mR_sum.2.1 67 = .ok (.goto (-60), 3) := dq_get dd_R_sum_32 (i := 1) rfl
theorem d_R_sum_70 : decode mR_sum.2.1 70 = .ok (.return_, 1) := dq_get dd_R_sum_32 (i := 2) rfl
theorem dd_R_term_0 : dq mR_term.2.1 [(0, .aload_n 0, 1), (1, .iload_n 1, 1), (2, .invokevirtual 158, 3), (5, .iconst 0, 1), (6, .istore_n 2, 1), (7, .iload_n 2, 1), (8, .sipush 1600, 3), (11, .if_icmp .ge 68, 3), (14, .aload_n 0, 1), (15, .bipush 42, 2), (17, .invokevirtual 132, 3), (20, .ifCond .ne 21, 3), (23, .aload_n 0, 1), (24, .bipush 47, 2), (26, .invokevirtual 132, 3), (29, .ifCond .ne 12, 3), (32, .aload_n 0, 1), (33, .bipush 37, 2), (35, .invokevirtual 132, 3), (38, .ifCond .eq 41, 3), (41, .aload_n 0, 1), (42, .getfield 18, 3), (45, .getfield 44, 3), (48, .istore_n 3, 1), (49, .aload_n 0, 1), (50, .getfield 18, 3), (53, .invokevirtual 55, 3), (56, .aload_n 0, 1), (57, .iload_n 1, 1), (58, .invokevirtual 158, 3), (61, .aload_n 0, 1), (62, .getfield 25, 3)] = true := by decide +kernel
theorem d_R_term_0 : decode mR_term.2.1 0 = .ok (.aload_n 0, 1) := dq_get dd_R_term_0 (i := 0) rfl
theorem d_R_term_1 : decode mR_term.2.1 1 = .ok (.iload_n 1, 1) := dq_get dd_R_term_0 (i := 1) rfl
theorem d_R_term_2 : decode mR_term.2.1 2 = .ok (.invokevirtual 158, 3) := dq_get dd_R_term_0 (i := 2) rfl
theorem d_R_term_5 : decode mR_term.2.1 5 = .ok (.iconst 0, 1) := dq_get dd_R_term_0 (i := 3) rfl
theorem d_R_term_6 : decode mR_term.2.1 6 = .ok (.istore_n 2, 1) := dq_get dd_R_term_0 (i := 4) rfl
theorem d_R_term_7 : decode mR_term.2.1 7 = .ok (.iload_n 2, 1) := dq_get dd_R_term_0 (i := 5) rfl
theorem d_R_term_8 : decode mR_term.2.1 8 = .ok (.sipush 1600, 3) := dq_get dd_R_term_0 (i := 6) rfl
theorem d_R_term_11 : decode mR_term.2.1 11 = .ok (.if_icmp .ge 68, 3) := dq_get dd_R_term_0 (i := 7) rfl
theorem d_R_term_14 : decode mR_term.2.1 14 = .ok (.aload_n 0, 1) := dq_get dd_R_term_0 (i := 8) rfl
theorem d_R_term_15 : decode mR_term.2.1 15 = .ok (.bipush 42, 2) := dq_get dd_R_term_0 (i := 9) rfl
theorem d_R_term_17 : decode mR_term.2.1 17 = .ok (.invokevirtual 132, 3) := dq_get dd_R_term_0 (i := 10) rfl
theorem d_R_term_20 : decode mR_term.2.1 20 = .ok (.ifCond .ne 21, 3) := dq_get dd_R_term_0 (i := 11) rfl
theorem d_R_term_23 : decode mR_term.2.1 23 = .ok (.aload_n 0, 1) := dq_get dd_R_term_0 (i := 12) rfl
theorem d_R_term_24 : decode mR_term.2.1 24 = .ok (.bipush 47, 2) := dq_get dd_R_term_0 (i := 13) rfl
theorem d_R_term_26 : decode mR_term.2.1 26 = .ok (.invokevirtual 132, 3) := dq_get dd_R_term_0 (i := 14) rfl
theorem d_R_term_29 : decode mR_term.2.1 29 = .ok (.ifCond .ne 12, 3) := dq_get dd_R_term_0 (i := 15) rfl
theorem d_R_term_32 : decode mR_term.2.1 32 = .ok (.aload_n 0, 1) := dq_get dd_R_term_0 (i := 16) rfl
theorem d_R_term_33 : decode mR_term.2.1 33 = .ok (.bipush 37, 2) := dq_get dd_R_term_0 (i := 17) rfl
theorem d_R_term_35 : decode mR_term.2.1 35 = .ok (.invokevirtual 132, 3) := dq_get dd_R_term_0 (i := 18) rfl
theorem d_R_term_38 : decode mR_term.2.1 38 = .ok (.ifCond .eq 41, 3) := dq_get dd_R_term_0 (i := 19) rfl
theorem d_R_term_41 : decode mR_term.2.1 41 = .ok (.aload_n 0, 1) := dq_get dd_R_term_0 (i := 20) rfl
theorem d_R_term_42 : decode mR_term.2.1 42 = .ok (.getfield 18, 3) := dq_get dd_R_term_0 (i := 21) rfl
theorem d_R_term_45 : decode mR_term.2.1 45 = .ok (.getfield 44, 3) := dq_get dd_R_term_0 (i := 22) rfl
theorem d_R_term_48 : decode mR_term.2.1 48 = .ok (.istore_n 3, 1) := dq_get dd_R_term_0 (i := 23) rfl
theorem d_R_term_49 : decode mR_term.2.1 49 = .ok (.aload_n 0, 1) := dq_get dd_R_term_0 (i := 24) rfl
theorem d_R_term_50 : decode mR_term.2.1 50 = .ok (.getfield 18, 3) := dq_get dd_R_term_0 (i := 25) rfl
theorem d_R_term_53 : decode mR_term.2.1 53 = .ok (.invokevirtual 55, 3) := dq_get dd_R_term_0 (i := 26) rfl
theorem d_R_term_56 : decode mR_term.2.1 56 = .ok (.aload_n 0, 1) := dq_get dd_R_term_0 (i := 27) rfl
theorem d_R_term_57 : decode mR_term.2.1 57 = .ok (.iload_n 1, 1) := dq_get dd_R_term_0 (i := 28) rfl
theorem d_R_term_58 : decode mR_term.2.1 58 = .ok (.invokevirtual 158, 3) := dq_get dd_R_term_0 (i := 29) rfl
theorem d_R_term_61 : decode mR_term.2.1 61 = .ok (.aload_n 0, 1) := dq_get dd_R_term_0 (i := 30) rfl
theorem d_R_term_62 : decode mR_term.2.1 62 = .ok (.getfield 25, 3) := dq_get dd_R_term_0 (i := 31) rfl
theorem dd_R_term_32 : dq mR_term.2.1 [(65, .getfield 140, 3), (68, .iload_n 3, 1), (69, .ineg, 1), (70, .invokevirtual 144, 3), (73, .iinc 2 1, 3), (76, .goto (-69), 3), (79, .return_, 1)] = true := by decide +kernel
theorem d_R_term_65 : decode mR_term.2.1 65 = .ok (.getfield 140, 3) := dq_get dd_R_term_32 (i := 0) rfl
theorem d_R_term_68 : decode mR_term.2.1 68 = .ok (.iload_n 3, 1) := dq_get dd_R_term_32 (i := 1) rfl
theorem d_R_term_69 : decode mR_term.2.1 69 = .ok (.ineg, 1) := dq_get dd_R_term_32 (i := 2) rfl
theorem d_R_term_70 : decode mR_term.2.1 70 = .ok (.invokevirtual 144, 3) := dq_get dd_R_term_32 (i := 3) rfl
theorem d_R_term_73 : decode mR_term.2.1 73 = .ok (.iinc 2 1, 3) := dq_get dd_R_term_32 (i := 4) rfl
theorem d_R_term_76 : decode mR_term.2.1 76 = .ok (.goto (-69), 3) := dq_get dd_R_term_32 (i := 5) rfl
theorem d_R_term_79 : decode mR_term.2.1 79 = .ok (.return_, 1) := dq_get dd_R_term_32 (i := 6) rfl
theorem dd_R_unit_0 : dq mR_unit.2.1 [(0, .aload_n 0, 1), (1, .getfield 29, 3), (4, .ifCond .eq 4, 3), (7, .return_, 1), (8, .aload_n 0, 1), (9, .bipush 40, 2), (11, .invokevirtual 132, 3), (14, .istore_n 2, 1), (15, .aload_n 0, 1), (16, .getfield 18, 3), (19, .getfield 41, 3), (22, .iconst 1, 1), (23, .if_icmp .ne 31, 3), (26, .aload_n 0, 1), (27, .getfield 18, 3), (30, .getfield 44, 3), (33, .bipush 15, 2), (35, .if_icmp .lt 19, 3), (38, .aload_n 0, 1), (39, .getfield 18, 3), (42, .getfield 44, 3), (45, .bipush 20, 2), (47, .if_icmp .gt 7, 3), (50, .iconst 1, 1), (51, .goto 4, 3), (54, .iconst 0, 1), (55, .istore_n 3, 1), (56, .aload_n 0, 1), (57, .getfield 25, 3), (60, .getfield 140, 3), (63, .getfield 161, 3), (66, .bipush 30, 2)] = true := by decide +kernel
theorem d_R_unit_0 : decode mR_unit.2.1 0 = .ok (.aload_n 0, 1) := dq_get dd_R_unit_0 (i := 0) rfl
theorem d_R_unit_1 : decode mR_unit.2.1 1 = .ok (.getfield 29, 3) := dq_get dd_R_unit_0 (i := 1) rfl
theorem d_R_unit_4 : decode mR_unit.2.1 4 = .ok (.ifCond .eq 4, 3) := dq_get dd_R_unit_0 (i := 2) rfl
theorem d_R_unit_7 : decode mR_unit.2.1 7 = .ok (.return_, 1) := dq_get dd_R_unit_0 (i := 3) rfl
theorem d_R_unit_8 : decode mR_unit.2.1 8 = .ok (.aload_n 0, 1) := dq_get dd_R_unit_0 (i := 4) rfl
theorem d_R_unit_9 : decode mR_unit.2.1 9 = .ok (.bipush 40, 2) := dq_get dd_R_unit_0 (i := 5) rfl
theorem d_R_unit_11 : decode mR_unit.2.1 11 = .ok (.invokevirtual 132, 3) := dq_get dd_R_unit_0 (i := 6) rfl
theorem d_R_unit_14 : decode mR_unit.2.1 14 = .ok (.istore_n 2, 1) := dq_get dd_R_unit_0 (i := 7) rfl
theorem d_R_unit_15 : decode mR_unit.2.1 15 = .ok (.aload_n 0, 1) := dq_get dd_R_unit_0 (i := 8) rfl
theorem d_R_unit_16 : decode mR_unit.2.1 16 = .ok (.getfield 18, 3) := dq_get dd_R_unit_0 (i := 9) rfl
theorem d_R_unit_19 : decode mR_unit.2.1 19 = .ok (.getfield 41, 3) := dq_get dd_R_unit_0 (i := 10) rfl
theorem d_R_unit_22 : decode mR_unit.2.1 22 = .ok (.iconst 1, 1) := dq_get dd_R_unit_0 (i := 11) rfl
theorem d_R_unit_23 : decode mR_unit.2.1 23 = .ok (.if_icmp .ne 31, 3) := dq_get dd_R_unit_0 (i := 12) rfl
theorem d_R_unit_26 : decode mR_unit.2.1 26 = .ok (.aload_n 0, 1) := dq_get dd_R_unit_0 (i := 13) rfl
theorem d_R_unit_27 : decode mR_unit.2.1 27 = .ok (.getfield 18, 3) := dq_get dd_R_unit_0 (i := 14) rfl
theorem d_R_unit_30 : decode mR_unit.2.1 30 = .ok (.getfield 44, 3) := dq_get dd_R_unit_0 (i := 15) rfl
theorem d_R_unit_33 : decode mR_unit.2.1 33 = .ok (.bipush 15, 2) := dq_get dd_R_unit_0 (i := 16) rfl
theorem d_R_unit_35 : decode mR_unit.2.1 35 = .ok (.if_icmp .lt 19, 3) := dq_get dd_R_unit_0 (i := 17) rfl
theorem d_R_unit_38 : decode mR_unit.2.1 38 = .ok (.aload_n 0, 1) := dq_get dd_R_unit_0 (i := 18) rfl
theorem d_R_unit_39 : decode mR_unit.2.1 39 = .ok (.getfield 18, 3) := dq_get dd_R_unit_0 (i := 19) rfl
theorem d_R_unit_42 : decode mR_unit.2.1 42 = .ok (.getfield 44, 3) := dq_get dd_R_unit_0 (i := 20) rfl
theorem d_R_unit_45 : decode mR_unit.2.1 45 = .ok (.bipush 20, 2) := dq_get dd_R_unit_0 (i := 21) rfl
theorem d_R_unit_47 : decode mR_unit.2.1 47 = .ok (.if_icmp .gt 7, 3) := dq_get dd_R_unit_0 (i := 22) rfl
theorem d_R_unit_50 : decode mR_unit.2.1 50 = .ok (.iconst 1, 1) := dq_get dd_R_unit_0 (i := 23) rfl
theorem d_R_unit_51 : decode mR_unit.2.1 51 = .ok (.goto 4, 3) := dq_get dd_R_unit_0 (i := 24) rfl
theorem d_R_unit_54 : decode mR_unit.2.1 54 = .ok (.iconst 0, 1) := dq_get dd_R_unit_0 (i := 25) rfl
theorem d_R_unit_55 : decode mR_unit.2.1 55 = .ok (.istore_n 3, 1) := dq_get dd_R_unit_0 (i := 26) rfl
theorem d_R_unit_56 : decode mR_unit.2.1 56 = .ok (.aload_n 0, 1) := dq_get dd_R_unit_0 (i := 27) rfl
theorem d_R_unit_57 : decode mR_unit.2.1 57 = .ok (.getfield 25, 3) := dq_get dd_R_unit_0 (i := 28) rfl
theorem d_R_unit_60 : decode mR_unit.2.1 60 = .ok (.getfield 140, 3) := dq_get dd_R_unit_0 (i := 29) rfl
theorem d_R_unit_63 : decode mR_unit.2.1 63 = .ok (.getfield 161, 3) := dq_get dd_R_unit_0 (i := 30) rfl
theorem d_R_unit_66 : decode mR_unit.2.1 66 = .ok (.bipush 30, 2) := dq_get dd_R_unit_0 (i := 31) rfl
theorem dd_R_unit_32 : dq mR_unit.2.1 [(68, .if_icmp .ge 17, 3), (71, .iload_n 2, 1), (72, .ifCond .eq 9, 3), (75, .iload_n 1, 1), (76, .bipush 7, 2), (78, .if_icmp .ge 7, 3), (81, .iconst 1, 1), (82, .goto 4, 3), (85, .iconst 0, 1), (86, .istore 4, 2), (88, .iload 4, 2), (90, .ifCond .eq 22, 3), (93, .iload_n 2, 1), (94, .ifCond .ne 24, 3), (97, .iload_n 3, 1), (98, .ifCond .ne 20, 3), (101, .aload_n 0, 1), (102, .getfield 18, 3), (105, .getfield 41, 3), (108, .iconst 3, 1), (109, .if_icmp .eq 9, 3), (112, .aload_n 0, 1), (113, .iconst 2, 1), (114, .invokevirtual 51, 3), (117, .return_, 1), (118, .aload_n 0, 1), (119, .getfield 25, 3), (122, .getfield 140, 3), (125, .dup, 1), (126, .getfield 161, 3), (129, .iconst 1, 1), (130, .iadd, 1)] = true := by decide +kernel
theorem d_R_unit_68 : decode mR_unit.2.1 68 = .ok (.if_icmp .ge 17, 3) := dq_get dd_R_unit_32 (i := 0) rfl
theorem d_R_unit_71 : decode mR_unit.2.1 71 = .ok (.iload_n 2, 1) := dq_get dd_R_unit_32 (i := 1) rfl
theorem d_R_unit_72 : decode mR_unit.2.1 72 = .ok (.ifCond .eq 9, 3) := dq_get dd_R_unit_32 (i := 2) rfl
theorem d_R_unit_75 : decode mR_unit.2.1 75 = .ok (.iload_n 1, 1) := dq_get dd_R_unit_32 (i := 3) rfl
theorem d_R_unit_76 : decode mR_unit.2.1 76 = .ok (.bipush 7, 2) := dq_get dd_R_unit_32 (i := 4) rfl
theorem d_R_unit_78 : decode mR_unit.2.1 78 = .ok (.if_icmp .ge 7, 3) := dq_get dd_R_unit_32 (i := 5) rfl
theorem d_R_unit_81 : decode mR_unit.2.1 81 = .ok (.iconst 1, 1) := dq_get dd_R_unit_32 (i := 6) rfl
theorem d_R_unit_82 : decode mR_unit.2.1 82 = .ok (.goto 4, 3) := dq_get dd_R_unit_32 (i := 7) rfl
theorem d_R_unit_85 : decode mR_unit.2.1 85 = .ok (.iconst 0, 1) := dq_get dd_R_unit_32 (i := 8) rfl
theorem d_R_unit_86 : decode mR_unit.2.1 86 = .ok (.istore 4, 2) := dq_get dd_R_unit_32 (i := 9) rfl
theorem d_R_unit_88 : decode mR_unit.2.1 88 = .ok (.iload 4, 2) := dq_get dd_R_unit_32 (i := 10) rfl
theorem d_R_unit_90 : decode mR_unit.2.1 90 = .ok (.ifCond .eq 22, 3) := dq_get dd_R_unit_32 (i := 11) rfl
theorem d_R_unit_93 : decode mR_unit.2.1 93 = .ok (.iload_n 2, 1) := dq_get dd_R_unit_32 (i := 12) rfl
theorem d_R_unit_94 : decode mR_unit.2.1 94 = .ok (.ifCond .ne 24, 3) := dq_get dd_R_unit_32 (i := 13) rfl
theorem d_R_unit_97 : decode mR_unit.2.1 97 = .ok (.iload_n 3, 1) := dq_get dd_R_unit_32 (i := 14) rfl
theorem d_R_unit_98 : decode mR_unit.2.1 98 = .ok (.ifCond .ne 20, 3) := dq_get dd_R_unit_32 (i := 15) rfl
theorem d_R_unit_101 : decode mR_unit.2.1 101 = .ok (.aload_n 0, 1) := dq_get dd_R_unit_32 (i := 16) rfl
theorem d_R_unit_102 : decode mR_unit.2.1 102 = .ok (.getfield 18, 3) := dq_get dd_R_unit_32 (i := 17) rfl
theorem d_R_unit_105 : decode mR_unit.2.1 105 = .ok (.getfield 41, 3) := dq_get dd_R_unit_32 (i := 18) rfl
theorem d_R_unit_108 : decode mR_unit.2.1 108 = .ok (.iconst 3, 1) := dq_get dd_R_unit_32 (i := 19) rfl
theorem d_R_unit_109 : decode mR_unit.2.1 109 = .ok (.if_icmp .eq 9, 3) := dq_get dd_R_unit_32 (i := 20) rfl
theorem d_R_unit_112 : decode mR_unit.2.1 112 = .ok (.aload_n 0, 1) := dq_get dd_R_unit_32 (i := 21) rfl
theorem d_R_unit_113 : decode mR_unit.2.1 113 = .ok (.iconst 2, 1) := dq_get dd_R_unit_32 (i := 22) rfl
theorem d_R_unit_114 : decode mR_unit.2.1 114 = .ok (.invokevirtual 51, 3) := dq_get dd_R_unit_32 (i := 23) rfl
theorem d_R_unit_117 : decode mR_unit.2.1 117 = .ok (.return_, 1) := dq_get dd_R_unit_32 (i := 24) rfl
theorem d_R_unit_118 : decode mR_unit.2.1 118 = .ok (.aload_n 0, 1) := dq_get dd_R_unit_32 (i := 25) rfl
theorem d_R_unit_119 : decode mR_unit.2.1 119 = .ok (.getfield 25, 3) := dq_get dd_R_unit_32 (i := 26) rfl
theorem d_R_unit_122 : decode mR_unit.2.1 122 = .ok (.getfield 140, 3) := dq_get dd_R_unit_32 (i := 27) rfl
theorem d_R_unit_125 : decode mR_unit.2.1 125 = .ok (.dup, 1) := dq_get dd_R_unit_32 (i := 28) rfl
theorem d_R_unit_126 : decode mR_unit.2.1 126 = .ok (.getfield 161, 3) := dq_get dd_R_unit_32 (i := 29) rfl
theorem d_R_unit_129 : decode mR_unit.2.1 129 = .ok (.iconst 1, 1) := dq_get dd_R_unit_32 (i := 30) rfl
theorem d_R_unit_130 : decode mR_unit.2.1 130 = .ok (.iadd, 1) := dq_get dd_R_unit_32 (i := 31) rfl
theorem dd_R_unit_64 : dq mR_unit.2.1 [(131, .putfield 161, 3), (134, .aload_n 0, 1), (135, .getfield 18, 3), (138, .getfield 44, 3), (141, .istore 5, 2), (143, .aload_n 0, 1), (144, .getfield 18, 3), (147, .invokevirtual 55, 3), (150, .iload_n 2, 1), (151, .ifCond .eq 19, 3), (154, .aload_n 0, 1), (155, .iload_n 1, 1), (156, .iconst 1, 1), (157, .iadd, 1), (158, .invokevirtual 71, 3), (161, .aload_n 0, 1), (162, .bipush 41, 2), (164, .invokevirtual 86, 3), (167, .goto 25, 3), (170, .aload_n 0, 1), (171, .getfield 25, 3), (174, .getfield 140, 3), (177, .iload_n 3, 1), (178, .ifCond .eq 9, 3), (181, .iload 5, 2), (183, .ineg, 1), (184, .goto 5, 3), (187, .iload 5, 2), (189, .invokevirtual 144, 3), (192, .return_, 1)] = true := by decide +kernel
theorem d_R_unit_131 : decode mR_unit.2.1 131 = .ok (.putfield 161, 3) := dq_get dd_R_unit_64 (i := 0) rfl
theorem d_R_unit_134 : decode mR_unit.2.1 134 = .ok (.aload_n 0, 1) := dq_get dd_R_unit_64 (i := 1) rfl
theorem d_R_unit_135 : decode mR_unit.2.1 135 = .ok (.getfield 18, 3) := dq_get dd_R_unit_64 (i := 2) rfl
theorem d_R_unit_138 : decode mR_unit.2.1 138 = .ok (.getfield 44, 3) := dq_get dd_R_unit_64 (i := 3) rfl
theorem d_R_unit_141 : decode mR_unit.2.1 141 = .ok (.istore 5, 2) := dq_get dd_R_unit_64 (i := 4) rfl
theorem d_R_unit_143 : decode mR_unit.2.1 143 = .ok (.aload_n 0, 1) := dq_get dd_R_unit_64 (i := 5) rfl
theorem d_R_unit_144 : decode mR_unit.2.1 144 = .ok (.getfield 18, 3) := dq_get dd_R_unit_64 (i := 6) rfl
theorem d_R_unit_147 : decode mR_unit.2.1 147 = .ok (.invokevirtual 55, 3) := dq_get dd_R_unit_64 (i := 7) rfl
theorem d_R_unit_150 : decode mR_unit.2.1 150 = .ok (.iload_n 2, 1) := dq_get dd_R_unit_64 (i := 8) rfl
theorem d_R_unit_151 : decode mR_unit.2.1 151 = .ok (.ifCond .eq 19, 3) := dq_get dd_R_unit_64 (i := 9) rfl
theorem d_R_unit_154 : decode mR_unit.2.1 154 = .ok (.aload_n 0, 1) := dq_get dd_R_unit_64 (i := 10) rfl
theorem d_R_unit_155 : decode mR_unit.2.1 155 = .ok (.iload_n 1, 1) := dq_get dd_R_unit_64 (i := 11) rfl
theorem d_R_unit_156 : decode mR_unit.2.1 156 = .ok (.iconst 1, 1) := dq_get dd_R_unit_64 (i := 12) rfl
theorem d_R_unit_157 : decode mR_unit.2.1 157 = .ok (.iadd, 1) := dq_get dd_R_unit_64 (i := 13) rfl
theorem d_R_unit_158 : decode mR_unit.2.1 158 = .ok (.invokevirtual 71, 3) := dq_get dd_R_unit_64 (i := 14) rfl
theorem d_R_unit_161 : decode mR_unit.2.1 161 = .ok (.aload_n 0, 1) := dq_get dd_R_unit_64 (i := 15) rfl
theorem d_R_unit_162 : decode mR_unit.2.1 162 = .ok (.bipush 41, 2) := dq_get dd_R_unit_64 (i := 16) rfl
theorem d_R_unit_164 : decode mR_unit.2.1 164 = .ok (.invokevirtual 86, 3) := dq_get dd_R_unit_64 (i := 17) rfl
theorem d_R_unit_167 : decode mR_unit.2.1 167 = .ok (.goto 25, 3) := dq_get dd_R_unit_64 (i := 18) rfl
theorem d_R_unit_170 : decode mR_unit.2.1 170 = .ok (.aload_n 0, 1) := dq_get dd_R_unit_64 (i := 19) rfl
theorem d_R_unit_171 : decode mR_unit.2.1 171 = .ok (.getfield 25, 3) := dq_get dd_R_unit_64 (i := 20) rfl
theorem d_R_unit_174 : decode mR_unit.2.1 174 = .ok (.getfield 140, 3) := dq_get dd_R_unit_64 (i := 21) rfl
theorem d_R_unit_177 : decode mR_unit.2.1 177 = .ok (.iload_n 3, 1) := dq_get dd_R_unit_64 (i := 22) rfl
theorem d_R_unit_178 : decode mR_unit.2.1 178 = .ok (.ifCond .eq 9, 3) := dq_get dd_R_unit_64 (i := 23) rfl
theorem d_R_unit_181 : decode mR_unit.2.1 181 = .ok (.iload 5, 2) := dq_get dd_R_unit_64 (i := 24) rfl
theorem d_R_unit_183 : decode mR_unit.2.1 183 = .ok (.ineg, 1) := dq_get dd_R_unit_64 (i := 25) rfl
theorem d_R_unit_184 : decode mR_unit.2.1 184 = .ok (.goto 5, 3) := dq_get dd_R_unit_64 (i := 26) rfl
theorem d_R_unit_187 : decode mR_unit.2.1 187 = .ok (.iload 5, 2) := dq_get dd_R_unit_64 (i := 27) rfl
theorem d_R_unit_189 : decode mR_unit.2.1 189 = .ok (.invokevirtual 144, 3) := dq_get dd_R_unit_64 (i := 28) rfl
theorem d_R_unit_192 : decode mR_unit.2.1 192 = .ok (.return_, 1) := dq_get dd_R_unit_64 (i := 29) rfl
theorem dd_R_isSign_0 : dq mR_isSign.2.1 [(0, .aload_n 0, 1), (1, .getfield 29, 3), (4, .ifCond .ne 29, 3), (7, .aload_n 0, 1), (8, .getfield 18, 3), (11, .getfield 41, 3), (14, .iconst 4, 1), (15, .if_icmp .ne 18, 3), (18, .aload_n 0, 1), (19, .getfield 18, 3), (22, .getfield 44, 3), (25, .iload_n 1, 1), (26, .if_icmp .ne 7, 3), (29, .iconst 1, 1), (30, .goto 4, 3), (33, .iconst 0, 1), (34, .ireturn, 1)] = true := by decide +kernel
theorem d_R_isSign_0 : decode mR_isSign.2.1 0 = .ok (.aload_n 0, 1) := dq_get dd_R_isSign_0 (i := 0) rfl
theorem d_R_isSign_1 : decode mR_isSign.2.1 1 = .ok (.getfield 29, 3) := dq_get dd_R_isSign_0 (i := 1) rfl
theorem d_R_isSign_4 : decode mR_isSign.2.1 4 = .ok (.ifCond .ne 29, 3) := dq_get dd_R_isSign_0 (i := 2) rfl
theorem d_R_isSign_7 : decode mR_isSign.2.1 7 = .ok (.aload_n 0, 1) := dq_get dd_R_isSign_0 (i := 3) rfl
theorem d_R_isSign_8 : decode mR_isSign.2.1 8 = .ok (.getfield 18, 3) := dq_get dd_R_isSign_0 (i := 4) rfl
theorem d_R_isSign_11 : decode mR_isSign.2.1 11 = .ok (.getfield 41, 3) := dq_get dd_R_isSign_0 (i := 5) rfl
theorem d_R_isSign_14 : decode mR_isSign.2.1 14 = .ok (.iconst 4, 1) := dq_get dd_R_isSign_0 (i := 6) rfl
theorem d_R_isSign_15 : decode mR_isSign.2.1 15 = .ok (.if_icmp .ne 18, 3) := dq_get dd_R_isSign_0 (i := 7) rfl
theorem d_R_isSign_18 : decode mR_isSign.2.1 18 = .ok (.aload_n 0, 1) := dq_get dd_R_isSign_0 (i := 8) rfl
theorem d_R_isSign_19 : decode mR_isSign.2.1 19 = .ok (.getfield 18, 3) := dq_get dd_R_isSign_0 (i := 9) rfl
theorem d_R_isSign_22 : decode mR_isSign.2.1 22 = .ok (.getfield 44, 3) := dq_get dd_R_isSign_0 (i := 10) rfl
theorem d_R_isSign_25 : decode mR_isSign.2.1 25 = .ok (.iload_n 1, 1) := dq_get dd_R_isSign_0 (i := 11) rfl
theorem d_R_isSign_26 : decode mR_isSign.2.1 26 = .ok (.if_icmp .ne 7, 3) := dq_get dd_R_isSign_0 (i := 12) rfl
theorem d_R_isSign_29 : decode mR_isSign.2.1 29 = .ok (.iconst 1, 1) := dq_get dd_R_isSign_0 (i := 13) rfl
theorem d_R_isSign_30 : decode mR_isSign.2.1 30 = .ok (.goto 4, 3) := dq_get dd_R_isSign_0 (i := 14) rfl
theorem d_R_isSign_33 : decode mR_isSign.2.1 33 = .ok (.iconst 0, 1) := dq_get dd_R_isSign_0 (i := 15) rfl
theorem d_R_isSign_34 : decode mR_isSign.2.1 34 = .ok (.ireturn, 1) := dq_get dd_R_isSign_0 (i := 16) rfl
theorem dd_R_takeSign_0 : dq mR_takeSign.2.1 [(0, .aload_n 0, 1), (1, .iload_n 1, 1), (2, .invokevirtual 132, 3), (5, .ifCond .eq 13, 3), (8, .aload_n 0, 1), (9, .getfield 18, 3), (12, .invokevirtual 55, 3), (15, .goto 8, 3), (18, .aload_n 0, 1), (19, .iconst 2, 1), (20, .invokevirtual 51, 3), (23, .return_, 1)] = true := by decide +kernel
theorem d_R_takeSign_0 : decode mR_takeSign.2.1 0 = .ok (.aload_n 0, 1) := dq_get dd_R_takeSign_0 (i := 0) rfl
theorem d_R_takeSign_1 : decode mR_takeSign.2.1 1 = .ok (.iload_n 1, 1) := dq_get dd_R_takeSign_0 (i := 1) rfl
theorem d_R_takeSign_2 : decode mR_takeSign.2.1 2 = .ok (.invokevirtual 132, 3) := dq_get dd_R_takeSign_0 (i := 2) rfl
theorem d_R_takeSign_5 : decode mR_takeSign.2.1 5 = .ok (.ifCond .eq 13, 3) := dq_get dd_R_takeSign_0 (i := 3) rfl
theorem d_R_takeSign_8 : decode mR_takeSign.2.1 8 = .ok (.aload_n 0, 1) := dq_get dd_R_takeSign_0 (i := 4) rfl
theorem d_R_takeSign_9 : decode mR_takeSign.2.1 9 = .ok (.getfield 18, 3) := dq_get dd_R_takeSign_0 (i := 5) rfl
theorem d_R_takeSign_12 : decode mR_takeSign.2.1 12 = .ok (.invokevirtual 55, 3) := dq_get dd_R_takeSign_0 (i := 6) rfl
theorem d_R_takeSign_15 : decode mR_takeSign.2.1 15 = .ok (.goto 8, 3) := dq_get dd_R_takeSign_0 (i := 7) rfl
theorem d_R_takeSign_18 : decode mR_takeSign.2.1 18 = .ok (.aload_n 0, 1) := dq_get dd_R_takeSign_0 (i := 8) rfl
theorem d_R_takeSign_19 : decode mR_takeSign.2.1 19 = .ok (.iconst 2, 1) := dq_get dd_R_takeSign_0 (i := 9) rfl
theorem d_R_takeSign_20 : decode mR_takeSign.2.1 20 = .ok (.invokevirtual 51, 3) := dq_get dd_R_takeSign_0 (i := 10) rfl
theorem d_R_takeSign_23 : decode mR_takeSign.2.1 23 = .ok (.return_, 1) := dq_get dd_R_takeSign_0 (i := 11) rfl
theorem dd_R_exchange_0 : dq mR_exchange.2.1 [(0, .aload_n 0, 1), (1, .getfield 25, 3), (4, .astore_n 2, 1), (5, .aload_n 0, 1), (6, .aload_n 1, 1), (7, .putfield 25, 3), (10, .aload_n 2, 1), (11, .areturn, 1)] = true := by decide +kernel
theorem d_R_exchange_0 : decode mR_exchange.2.1 0 = .ok (.aload_n 0, 1) := dq_get dd_R_exchange_0 (i := 0) rfl
theorem d_R_exchange_1 : decode mR_exchange.2.1 1 = .ok (.getfield 25, 3) := dq_get dd_R_exchange_0 (i := 1) rfl
theorem d_R_exchange_4 : decode mR_exchange.2.1 4 = .ok (.astore_n 2, 1) := dq_get dd_R_exchange_0 (i := 2) rfl
theorem d_R_exchange_5 : decode mR_exchange.2.1 5 = .ok (.aload_n 0, 1) := dq_get dd_R_exchange_0 (i := 3) rfl
theorem d_R_exchange_6 : decode mR_exchange.2.1 6 = .ok (.aload_n 1, 1) := dq_get dd_R_exchange_0 (i := 4) rfl
theorem d_R_exchange_7 : decode mR_exchange.2.1 7 = .ok (.putfield 25, 3) := dq_get dd_R_exchange_0 (i := 5) rfl
theorem d_R_exchange_10 : decode mR_exchange.2.1 10 = .ok (.aload_n 2, 1) := dq_get dd_R_exchange_0 (i := 6) rfl
theorem d_R_exchange_11 : decode mR_exchange.2.1 11 = .ok (.areturn, 1) := dq_get dd_R_exchange_0 (i := 7) rfl
theorem dd_C_forget_0 : dq mC_forget.2.1 [(0, .aload_n 0, 1), (1, .iconst 0, 1), (2, .putfield 24, 3), (5, .aload_n 0, 1), (6, .iconst 0, 1), (7, .putfield 28, 3), (10, .return_, 1)] = true := by decide +kernel
theorem d_C_forget_0 : decode mC_forget.2.1 0 = .ok (.aload_n 0, 1) := dq_get dd_C_forget_0 (i := 0) rfl
theorem d_C_forget_1 : decode mC_forget.2.1 1 = .ok (.iconst 0, 1) := dq_get dd_C_forget_0 (i := 1) rfl
theorem d_C_forget_2 : decode mC_forget.2.1 2 = .ok (.putfield 24, 3) := dq_get dd_C_forget_0 (i := 2) rfl
theorem d_C_forget_5 : decode mC_forget.2.1 5 = .ok (.aload_n 0, 1) := dq_get dd_C_forget_0 (i := 3) rfl
theorem d_C_forget_6 : decode mC_forget.2.1 6 = .ok (.iconst 0, 1) := dq_get dd_C_forget_0 (i := 4) rfl
theorem d_C_forget_7 : decode mC_forget.2.1 7 = .ok (.putfield 28, 3) := dq_get dd_C_forget_0 (i := 5) rfl
theorem d_C_forget_10 : decode mC_forget.2.1 10 = .ok (.return_, 1) := dq_get dd_C_forget_0 (i := 6) rfl
theorem dd_I_forget_0 : dq mI_forget.2.1 [(0, .aload_n 0, 1), (1, .iconst 0, 1), (2, .putfield 34, 3), (5, .return_, 1)] = true := by decide +kernel
theorem d_I_forget_0 : decode mI_forget.2.1 0 = .ok (.aload_n 0, 1) := dq_get dd_I_forget_0 (i := 0) rfl
theorem d_I_forget_1 : decode mI_forget.2.1 1 = .ok (.iconst 0, 1) := dq_get dd_I_forget_0 (i := 1) rfl
theorem d_I_forget_2 : decode mI_forget.2.1 2 = .ok (.putfield 34, 3) := dq_get dd_I_forget_0 (i := 2) rfl
theorem d_I_forget_5 : decode mI_forget.2.1 5 = .ok (.return_, 1) := dq_get dd_I_forget_0 (i := 3) rfl
theorem dd_S_roleOf_0 : dq mS_roleOf.2.1 [(0, .iload_n 1, 1), (1, .ifCond .lt 20, 3), (4, .iload_n 1, 1), (5, .aload_n 0, 1), (6, .getfield 66, 3), (9, .if_icmp .ge 12, 3), (12, .aload_n 0, 1), (13, .getfield 22, 3), (16, .iload_n 1, 1), (17, .iaload, 1), (18, .goto 4, 3), (21, .iconst (-1), 1), (22, .istore_n 2, 1), (23, .iload_n 2, 1), (24, .ifCond .lt 20, 3), (27, .iload_n 2, 1), (28, .aload_n 0, 1), (29, .getfield 63, 3), (32, .if_icmp .ge 12, 3), (35, .aload_n 0, 1), (36, .getfield 15, 3), (39, .iload_n 2, 1), (40, .iaload, 1), (41, .goto 4, 3), (44, .iconst 0, 1), (45, .ireturn, 1)] = true := by decide +kernel
theorem d_S_roleOf_0 : decode mS_roleOf.2.1 0 = .ok (.iload_n 1, 1) := dq_get dd_S_roleOf_0 (i := 0) rfl
theorem d_S_roleOf_1 : decode mS_roleOf.2.1 1 = .ok (.ifCond .lt 20, 3) := dq_get dd_S_roleOf_0 (i := 1) rfl
theorem d_S_roleOf_4 : decode mS_roleOf.2.1 4 = .ok (.iload_n 1, 1) := dq_get dd_S_roleOf_0 (i := 2) rfl
theorem d_S_roleOf_5 : decode mS_roleOf.2.1 5 = .ok (.aload_n 0, 1) := dq_get dd_S_roleOf_0 (i := 3) rfl
theorem d_S_roleOf_6 : decode mS_roleOf.2.1 6 = .ok (.getfield 66, 3) := dq_get dd_S_roleOf_0 (i := 4) rfl
theorem d_S_roleOf_9 : decode mS_roleOf.2.1 9 = .ok (.if_icmp .ge 12, 3) := dq_get dd_S_roleOf_0 (i := 5) rfl
theorem d_S_roleOf_12 : decode mS_roleOf.2.1 12 = .ok (.aload_n 0, 1) := dq_get dd_S_roleOf_0 (i := 6) rfl
theorem d_S_roleOf_13 : decode mS_roleOf.2.1 13 = .ok (.getfield 22, 3) := dq_get dd_S_roleOf_0 (i := 7) rfl
theorem d_S_roleOf_16 : decode mS_roleOf.2.1 16 = .ok (.iload_n 1, 1) := dq_get dd_S_roleOf_0 (i := 8) rfl
theorem d_S_roleOf_17 : decode mS_roleOf.2.1 17 = .ok (.iaload, 1) := dq_get dd_S_roleOf_0 (i := 9) rfl
theorem d_S_roleOf_18 : decode mS_roleOf.2.1 18 = .ok (.goto 4, 3) := dq_get dd_S_roleOf_0 (i := 10) rfl
theorem d_S_roleOf_21 : decode mS_roleOf.2.1 21 = .ok (.iconst (-1), 1) := dq_get dd_S_roleOf_0 (i := 11) rfl
theorem d_S_roleOf_22 : decode mS_roleOf.2.1 22 = .ok (.istore_n 2, 1) := dq_get dd_S_roleOf_0 (i := 12) rfl
theorem d_S_roleOf_23 : decode mS_roleOf.2.1 23 = .ok (.iload_n 2, 1) := dq_get dd_S_roleOf_0 (i := 13) rfl
theorem d_S_roleOf_24 : decode mS_roleOf.2.1 24 = .ok (.ifCond .lt 20, 3) := dq_get dd_S_roleOf_0 (i := 14) rfl
theorem d_S_roleOf_27 : decode mS_roleOf.2.1 27 = .ok (.iload_n 2, 1) := dq_get dd_S_roleOf_0 (i := 15) rfl
theorem d_S_roleOf_28 : decode mS_roleOf.2.1 28 = .ok (.aload_n 0, 1) := dq_get dd_S_roleOf_0 (i := 16) rfl
theorem d_S_roleOf_29 : decode mS_roleOf.2.1 29 = .ok (.getfield 63, 3) := dq_get dd_S_roleOf_0 (i := 17) rfl
theorem d_S_roleOf_32 : decode mS_roleOf.2.1 32 = .ok (.if_icmp .ge 12, 3) := dq_get dd_S_roleOf_0 (i := 18) rfl
theorem d_S_roleOf_35 : decode mS_roleOf.2.1 35 = .ok (.aload_n 0, 1) := dq_get dd_S_roleOf_0 (i := 19) rfl
theorem d_S_roleOf_36 : decode mS_roleOf.2.1 36 = .ok (.getfield 15, 3) := dq_get dd_S_roleOf_0 (i := 20) rfl
theorem d_S_roleOf_39 : decode mS_roleOf.2.1 39 = .ok (.iload_n 2, 1) := dq_get dd_S_roleOf_0 (i := 21) rfl
theorem d_S_roleOf_40 : decode mS_roleOf.2.1 40 = .ok (.iaload, 1) := dq_get dd_S_roleOf_0 (i := 22) rfl
theorem d_S_roleOf_41 : decode mS_roleOf.2.1 41 = .ok (.goto 4, 3) := dq_get dd_S_roleOf_0 (i := 23) rfl
theorem d_S_roleOf_44 : decode mS_roleOf.2.1 44 = .ok (.iconst 0, 1) := dq_get dd_S_roleOf_0 (i := 24) rfl
theorem d_S_roleOf_45 : decode mS_roleOf.2.1 45 = .ok (.ireturn, 1) := dq_get dd_S_roleOf_0 (i := 25) rfl
theorem dd_J_bitCount_0 : dq mJ_bitCount.2.1 [(0, .iload_n 0, 1), (1, .iload_n 0, 1), (2, .iconst 1, 1), (3, .iushr, 1), (4, .ldc_w 265, 3), (7, .iand, 1), (8, .isub, 1), (9, .istore_n 0, 1), (10, .iload_n 0, 1), (11, .ldc_w 266, 3), (14, .iand, 1), (15, .iload_n 0, 1), (16, .iconst 2, 1), (17, .iushr, 1), (18, .ldc_w 266, 3), (21, .iand, 1), (22, .iadd, 1), (23, .istore_n 0, 1), (24, .iload_n 0, 1), (25, .iload_n 0, 1), (26, .iconst 4, 1), (27, .iushr, 1), (28, .iadd, 1), (29, .ldc_w 267, 3), (32, .iand, 1), (33, .istore_n 0, 1), (34, .iload_n 0, 1), (35, .iload_n 0, 1), (36, .bipush 8, 2), (38, .iushr, 1), (39, .iadd, 1), (40, .istore_n 0, 1)] = true := by decide +kernel
theorem d_J_bitCount_0 : decode mJ_bitCount.2.1 0 = .ok (.iload_n 0, 1) := dq_get dd_J_bitCount_0 (i := 0) rfl
theorem d_J_bitCount_1 : decode mJ_bitCount.2.1 1 = .ok (.iload_n 0, 1) := dq_get dd_J_bitCount_0 (i := 1) rfl
theorem d_J_bitCount_2 : decode mJ_bitCount.2.1 2 = .ok (.iconst 1, 1) := dq_get dd_J_bitCount_0 (i := 2) rfl
theorem d_J_bitCount_3 : decode mJ_bitCount.2.1 3 = .ok (.iushr, 1) := dq_get dd_J_bitCount_0 (i := 3) rfl
theorem d_J_bitCount_4 : decode mJ_bitCount.2.1 4 = .ok (.ldc_w 265, 3) := dq_get dd_J_bitCount_0 (i := 4) rfl
theorem d_J_bitCount_7 : decode mJ_bitCount.2.1 7 = .ok (.iand, 1) := dq_get dd_J_bitCount_0 (i := 5) rfl
theorem d_J_bitCount_8 : decode mJ_bitCount.2.1 8 = .ok (.isub, 1) := dq_get dd_J_bitCount_0 (i := 6) rfl
theorem d_J_bitCount_9 : decode mJ_bitCount.2.1 9 = .ok (.istore_n 0, 1) := dq_get dd_J_bitCount_0 (i := 7) rfl
theorem d_J_bitCount_10 : decode mJ_bitCount.2.1 10 = .ok (.iload_n 0, 1) := dq_get dd_J_bitCount_0 (i := 8) rfl
theorem d_J_bitCount_11 : decode mJ_bitCount.2.1 11 = .ok (.ldc_w 266, 3) := dq_get dd_J_bitCount_0 (i := 9) rfl
theorem d_J_bitCount_14 : decode mJ_bitCount.2.1 14 = .ok (.iand, 1) := dq_get dd_J_bitCount_0 (i := 10) rfl
theorem d_J_bitCount_15 : decode mJ_bitCount.2.1 15 = .ok (.iload_n 0, 1) := dq_get dd_J_bitCount_0 (i := 11) rfl
theorem d_J_bitCount_16 : decode mJ_bitCount.2.1 16 = .ok (.iconst 2, 1) := dq_get dd_J_bitCount_0 (i := 12) rfl
theorem d_J_bitCount_17 : decode mJ_bitCount.2.1 17 = .ok (.iushr, 1) := dq_get dd_J_bitCount_0 (i := 13) rfl
theorem d_J_bitCount_18 : decode mJ_bitCount.2.1 18 = .ok (.ldc_w 266, 3) := dq_get dd_J_bitCount_0 (i := 14) rfl
theorem d_J_bitCount_21 : decode mJ_bitCount.2.1 21 = .ok (.iand, 1) := dq_get dd_J_bitCount_0 (i := 15) rfl
theorem d_J_bitCount_22 : decode mJ_bitCount.2.1 22 = .ok (.iadd, 1) := dq_get dd_J_bitCount_0 (i := 16) rfl
theorem d_J_bitCount_23 : decode mJ_bitCount.2.1 23 = .ok (.istore_n 0, 1) := dq_get dd_J_bitCount_0 (i := 17) rfl
theorem d_J_bitCount_24 : decode mJ_bitCount.2.1 24 = .ok (.iload_n 0, 1) := dq_get dd_J_bitCount_0 (i := 18) rfl
theorem d_J_bitCount_25 : decode mJ_bitCount.2.1 25 = .ok (.iload_n 0, 1) := dq_get dd_J_bitCount_0 (i := 19) rfl
theorem d_J_bitCount_26 : decode mJ_bitCount.2.1 26 = .ok (.iconst 4, 1) := dq_get dd_J_bitCount_0 (i := 20) rfl
theorem d_J_bitCount_27 : decode mJ_bitCount.2.1 27 = .ok (.iushr, 1) := dq_get dd_J_bitCount_0 (i := 21) rfl
theorem d_J_bitCount_28 : decode mJ_bitCount.2.1 28 = .ok (.iadd, 1) := dq_get dd_J_bitCount_0 (i := 22) rfl
theorem d_J_bitCount_29 : decode mJ_bitCount.2.1 29 = .ok (.ldc_w 267, 3) := dq_get dd_J_bitCount_0 (i := 23) rfl
theorem d_J_bitCount_32 : decode mJ_bitCount.2.1 32 = .ok (.iand, 1) := dq_get dd_J_bitCount_0 (i := 24) rfl
theorem d_J_bitCount_33 : decode mJ_bitCount.2.1 33 = .ok (.istore_n 0, 1) := dq_get dd_J_bitCount_0 (i := 25) rfl
theorem d_J_bitCount_34 : decode mJ_bitCount.2.1 34 = .ok (.iload_n 0, 1) := dq_get dd_J_bitCount_0 (i := 26) rfl
theorem d_J_bitCount_35 : decode mJ_bitCount.2.1 35 = .ok (.iload_n 0, 1) := dq_get dd_J_bitCount_0 (i := 27) rfl
theorem d_J_bitCount_36 : decode mJ_bitCount.2.1 36 = .ok (.bipush 8, 2) := dq_get dd_J_bitCount_0 (i := 28) rfl
theorem d_J_bitCount_38 : decode mJ_bitCount.2.1 38 = .ok (.iushr, 1) := dq_get dd_J_bitCount_0 (i := 29) rfl
theorem d_J_bitCount_39 : decode mJ_bitCount.2.1 39 = .ok (.iadd, 1) := dq_get dd_J_bitCount_0 (i := 30) rfl
theorem d_J_bitCount_40 : decode mJ_bitCount.2.1 40 = .ok (.istore_n 0, 1) := dq_get dd_J_bitCount_0 (i := 31) rfl
theorem dd_J_bitCount_32 : dq mJ_bitCount.2.1 [(41, .iload_n 0, 1), (42, .iload_n 0, 1), (43, .bipush 16, 2), (45, .iushr, 1), (46, .iadd, 1), (47, .istore_n 0, 1), (48, .iload_n 0, 1), (49, .bipush 63, 2), (51, .iand, 1), (52, .ireturn, 1)] = true := by decide +kernel
theorem d_J_bitCount_41 : decode mJ_bitCount.2.1 41 = .ok (.iload_n 0, 1) := dq_get dd_J_bitCount_32 (i := 0) rfl
theorem d_J_bitCount_42 : decode mJ_bitCount.2.1 42 = .ok (.iload_n 0, 1) := dq_get dd_J_bitCount_32 (i := 1) rfl
theorem d_J_bitCount_43 : decode mJ_bitCount.2.1 43 = .ok (.bipush 16, 2) := dq_get dd_J_bitCount_32 (i := 2) rfl
theorem d_J_bitCount_45 : decode mJ_bitCount.2.1 45 = .ok (.iushr, 1) := dq_get dd_J_bitCount_32 (i := 3) rfl
theorem d_J_bitCount_46 : decode mJ_bitCount.2.1 46 = .ok (.iadd, 1) := dq_get dd_J_bitCount_32 (i := 4) rfl
theorem d_J_bitCount_47 : decode mJ_bitCount.2.1 47 = .ok (.istore_n 0, 1) := dq_get dd_J_bitCount_32 (i := 5) rfl
theorem d_J_bitCount_48 : decode mJ_bitCount.2.1 48 = .ok (.iload_n 0, 1) := dq_get dd_J_bitCount_32 (i := 6) rfl
theorem d_J_bitCount_49 : decode mJ_bitCount.2.1 49 = .ok (.bipush 63, 2) := dq_get dd_J_bitCount_32 (i := 7) rfl
theorem d_J_bitCount_51 : decode mJ_bitCount.2.1 51 = .ok (.iand, 1) := dq_get dd_J_bitCount_32 (i := 8) rfl
theorem d_J_bitCount_52 : decode mJ_bitCount.2.1 52 = .ok (.ireturn, 1) := dq_get dd_J_bitCount_32 (i := 9) rfl
theorem dd_F_isTold_0 : dq mF_isTold.2.1 [(0, .aload_n 0, 1), (1, .getfield 25, 3), (4, .ifCond .le 7, 3), (7, .iconst 1, 1), (8, .goto 4, 3), (11, .iconst 0, 1), (12, .ireturn, 1)] = true := by decide +kernel
theorem d_F_isTold_0 : decode mF_isTold.2.1 0 = .ok (.aload_n 0, 1) := dq_get dd_F_isTold_0 (i := 0) rfl
theorem d_F_isTold_1 : decode mF_isTold.2.1 1 = .ok (.getfield 25, 3) := dq_get dd_F_isTold_0 (i := 1) rfl
theorem d_F_isTold_4 : decode mF_isTold.2.1 4 = .ok (.ifCond .le 7, 3) := dq_get dd_F_isTold_0 (i := 2) rfl
theorem d_F_isTold_7 : decode mF_isTold.2.1 7 = .ok (.iconst 1, 1) := dq_get dd_F_isTold_0 (i := 3) rfl
theorem d_F_isTold_8 : decode mF_isTold.2.1 8 = .ok (.goto 4, 3) := dq_get dd_F_isTold_0 (i := 4) rfl
theorem d_F_isTold_11 : decode mF_isTold.2.1 11 = .ok (.iconst 0, 1) := dq_get dd_F_isTold_0 (i := 5) rfl
theorem d_F_isTold_12 : decode mF_isTold.2.1 12 = .ok (.ireturn, 1) := dq_get dd_F_isTold_0 (i := 6) rfl
theorem dd_F_valueOf_0 : dq mF_valueOf.2.1 [(0, .aload_n 0, 1), (1, .getfield 18, 3), (4, .iconst 0, 1), (5, .iload_n 1, 1), (6, .iastore, 1), (7, .aload_n 0, 1), (8, .getfield 18, 3), (11, .iconst 1, 1), (12, .iload_n 2, 1), (13, .iastore, 1), (14, .aload_n 0, 1), (15, .getfield 18, 3), (18, .iconst 2, 1), (19, .iload_n 3, 1), (20, .iastore, 1), (21, .aload_n 0, 1), (22, .getfield 18, 3), (25, .iconst 3, 1), (26, .iload 4, 2), (28, .iastore, 1), (29, .aload_n 0, 1), (30, .getfield 18, 3), (33, .iconst 4, 1), (34, .iload 5, 2), (36, .iastore, 1), (37, .aload_n 0, 1), (38, .getfield 18, 3), (41, .iconst 5, 1), (42, .iload 6, 2), (44, .iastore, 1), (45, .aload_n 0, 1), (46, .iconst 0, 1)] = true := by decide +kernel
theorem d_F_valueOf_0 : decode mF_valueOf.2.1 0 = .ok (.aload_n 0, 1) := dq_get dd_F_valueOf_0 (i := 0) rfl
theorem d_F_valueOf_1 : decode mF_valueOf.2.1 1 = .ok (.getfield 18, 3) := dq_get dd_F_valueOf_0 (i := 1) rfl
theorem d_F_valueOf_4 : decode mF_valueOf.2.1 4 = .ok (.iconst 0, 1) := dq_get dd_F_valueOf_0 (i := 2) rfl
theorem d_F_valueOf_5 : decode mF_valueOf.2.1 5 = .ok (.iload_n 1, 1) := dq_get dd_F_valueOf_0 (i := 3) rfl
theorem d_F_valueOf_6 : decode mF_valueOf.2.1 6 = .ok (.iastore, 1) := dq_get dd_F_valueOf_0 (i := 4) rfl
theorem d_F_valueOf_7 : decode mF_valueOf.2.1 7 = .ok (.aload_n 0, 1) := dq_get dd_F_valueOf_0 (i := 5) rfl
theorem d_F_valueOf_8 : decode mF_valueOf.2.1 8 = .ok (.getfield 18, 3) := dq_get dd_F_valueOf_0 (i := 6) rfl
theorem d_F_valueOf_11 : decode mF_valueOf.2.1 11 = .ok (.iconst 1, 1) := dq_get dd_F_valueOf_0 (i := 7) rfl
theorem d_F_valueOf_12 : decode mF_valueOf.2.1 12 = .ok (.iload_n 2, 1) := dq_get dd_F_valueOf_0 (i := 8) rfl
theorem d_F_valueOf_13 : decode mF_valueOf.2.1 13 = .ok (.iastore, 1) := dq_get dd_F_valueOf_0 (i := 9) rfl
theorem d_F_valueOf_14 : decode mF_valueOf.2.1 14 = .ok (.aload_n 0, 1) := dq_get dd_F_valueOf_0 (i := 10) rfl
theorem d_F_valueOf_15 : decode mF_valueOf.2.1 15 = .ok (.getfield 18, 3) := dq_get dd_F_valueOf_0 (i := 11) rfl
theorem d_F_valueOf_18 : decode mF_valueOf.2.1 18 = .ok (.iconst 2, 1) := dq_get dd_F_valueOf_0 (i := 12) rfl
theorem d_F_valueOf_19 : decode mF_valueOf.2.1 19 = .ok (.iload_n 3, 1) := dq_get dd_F_valueOf_0 (i := 13) rfl
theorem d_F_valueOf_20 : decode mF_valueOf.2.1 20 = .ok (.iastore, 1) := dq_get dd_F_valueOf_0 (i := 14) rfl
theorem d_F_valueOf_21 : decode mF_valueOf.2.1 21 = .ok (.aload_n 0, 1) := dq_get dd_F_valueOf_0 (i := 15) rfl
theorem d_F_valueOf_22 : decode mF_valueOf.2.1 22 = .ok (.getfield 18, 3) := dq_get dd_F_valueOf_0 (i := 16) rfl
theorem d_F_valueOf_25 : decode mF_valueOf.2.1 25 = .ok (.iconst 3, 1) := dq_get dd_F_valueOf_0 (i := 17) rfl
theorem d_F_valueOf_26 : decode mF_valueOf.2.1 26 = .ok (.iload 4, 2) := dq_get dd_F_valueOf_0 (i := 18) rfl
theorem d_F_valueOf_28 : decode mF_valueOf.2.1 28 = .ok (.iastore, 1) := dq_get dd_F_valueOf_0 (i := 19) rfl
theorem d_F_valueOf_29 : decode mF_valueOf.2.1 29 = .ok (.aload_n 0, 1) := dq_get dd_F_valueOf_0 (i := 20) rfl
theorem d_F_valueOf_30 : decode mF_valueOf.2.1 30 = .ok (.getfield 18, 3) := dq_get dd_F_valueOf_0 (i := 21) rfl
theorem d_F_valueOf_33 : decode mF_valueOf.2.1 33 = .ok (.iconst 4, 1) := dq_get dd_F_valueOf_0 (i := 22) rfl
theorem d_F_valueOf_34 : decode mF_valueOf.2.1 34 = .ok (.iload 5, 2) := dq_get dd_F_valueOf_0 (i := 23) rfl
theorem d_F_valueOf_36 : decode mF_valueOf.2.1 36 = .ok (.iastore, 1) := dq_get dd_F_valueOf_0 (i := 24) rfl
theorem d_F_valueOf_37 : decode mF_valueOf.2.1 37 = .ok (.aload_n 0, 1) := dq_get dd_F_valueOf_0 (i := 25) rfl
theorem d_F_valueOf_38 : decode mF_valueOf.2.1 38 = .ok (.getfield 18, 3) := dq_get dd_F_valueOf_0 (i := 26) rfl
theorem d_F_valueOf_41 : decode mF_valueOf.2.1 41 = .ok (.iconst 5, 1) := dq_get dd_F_valueOf_0 (i := 27) rfl
theorem d_F_valueOf_42 : decode mF_valueOf.2.1 42 = .ok (.iload 6, 2) := dq_get dd_F_valueOf_0 (i := 28) rfl
theorem d_F_valueOf_44 : decode mF_valueOf.2.1 44 = .ok (.iastore, 1) := dq_get dd_F_valueOf_0 (i := 29) rfl
theorem d_F_valueOf_45 : decode mF_valueOf.2.1 45 = .ok (.aload_n 0, 1) := dq_get dd_F_valueOf_0 (i := 30) rfl
theorem d_F_valueOf_46 : decode mF_valueOf.2.1 46 = .ok (.iconst 0, 1) := dq_get dd_F_valueOf_0 (i := 31) rfl
theorem dd_F_valueOf_32 : dq mF_valueOf.2.1 [(47, .putfield 28, 3), (50, .iconst 0, 1), (51, .istore 7, 2), (53, .iload 7, 2), (55, .aload_n 0, 1), (56, .getfield 25, 3), (59, .if_icmp .ge 20, 3), (62, .aload_n 0, 1), (63, .aload_n 0, 1), (64, .getfield 9, 3), (67, .iload 7, 2), (69, .iaload, 1), (70, .invokevirtual 31, 3), (73, .iinc 7 1, 3), (76, .goto (-23), 3), (79, .aload_n 0, 1), (80, .getfield 28, 3), (83, .ifCond .le 12, 3), (86, .aload_n 0, 1), (87, .getfield 13, 3), (90, .iconst 0, 1), (91, .iaload, 1), (92, .goto 4, 3), (95, .iconst 0, 1), (96, .ireturn, 1)] = true := by decide +kernel
theorem d_F_valueOf_47 : decode mF_valueOf.2.1 47 = .ok (.putfield 28, 3) := dq_get dd_F_valueOf_32 (i := 0) rfl
theorem d_F_valueOf_50 : decode mF_valueOf.2.1 50 = .ok (.iconst 0, 1) := dq_get dd_F_valueOf_32 (i := 1) rfl
theorem d_F_valueOf_51 : decode mF_valueOf.2.1 51 = .ok (.istore 7, 2) := dq_get dd_F_valueOf_32 (i := 2) rfl
theorem d_F_valueOf_53 : decode mF_valueOf.2.1 53 = .ok (.iload 7, 2) := dq_get dd_F_valueOf_32 (i := 3) rfl
theorem d_F_valueOf_55 : decode mF_valueOf.2.1 55 = .ok (.aload_n 0, 1) := dq_get dd_F_valueOf_32 (i := 4) rfl
theorem d_F_valueOf_56 : decode mF_valueOf.2.1 56 = .ok (.getfield 25, 3) := dq_get dd_F_valueOf_32 (i := 5) rfl
theorem d_F_valueOf_59 : decode mF_valueOf.2.1 59 = .ok (.if_icmp .ge 20, 3) := dq_get dd_F_valueOf_32 (i := 6) rfl
theorem d_F_valueOf_62 : decode mF_valueOf.2.1 62 = .ok (.aload_n 0, 1) := dq_get dd_F_valueOf_32 (i := 7) rfl
theorem d_F_valueOf_63 : decode mF_valueOf.2.1 63 = .ok (.aload_n 0, 1) := dq_get dd_F_valueOf_32 (i := 8) rfl
theorem d_F_valueOf_64 : decode mF_valueOf.2.1 64 = .ok (.getfield 9, 3) := dq_get dd_F_valueOf_32 (i := 9) rfl
theorem d_F_valueOf_67 : decode mF_valueOf.2.1 67 = .ok (.iload 7, 2) := dq_get dd_F_valueOf_32 (i := 10) rfl
theorem d_F_valueOf_69 : decode mF_valueOf.2.1 69 = .ok (.iaload, 1) := dq_get dd_F_valueOf_32 (i := 11) rfl
theorem d_F_valueOf_70 : decode mF_valueOf.2.1 70 = .ok (.invokevirtual 31, 3) := dq_get dd_F_valueOf_32 (i := 12) rfl
theorem d_F_valueOf_73 : decode mF_valueOf.2.1 73 = .ok (.iinc 7 1, 3) := dq_get dd_F_valueOf_32 (i := 13) rfl
theorem d_F_valueOf_76 : decode mF_valueOf.2.1 76 = .ok (.goto (-23), 3) := dq_get dd_F_valueOf_32 (i := 14) rfl
theorem d_F_valueOf_79 : decode mF_valueOf.2.1 79 = .ok (.aload_n 0, 1) := dq_get dd_F_valueOf_32 (i := 15) rfl
theorem d_F_valueOf_80 : decode mF_valueOf.2.1 80 = .ok (.getfield 28, 3) := dq_get dd_F_valueOf_32 (i := 16) rfl
theorem d_F_valueOf_83 : decode mF_valueOf.2.1 83 = .ok (.ifCond .le 12, 3) := dq_get dd_F_valueOf_32 (i := 17) rfl
theorem d_F_valueOf_86 : decode mF_valueOf.2.1 86 = .ok (.aload_n 0, 1) := dq_get dd_F_valueOf_32 (i := 18) rfl
theorem d_F_valueOf_87 : decode mF_valueOf.2.1 87 = .ok (.getfield 13, 3) := dq_get dd_F_valueOf_32 (i := 19) rfl
theorem d_F_valueOf_90 : decode mF_valueOf.2.1 90 = .ok (.iconst 0, 1) := dq_get dd_F_valueOf_32 (i := 20) rfl
theorem d_F_valueOf_91 : decode mF_valueOf.2.1 91 = .ok (.iaload, 1) := dq_get dd_F_valueOf_32 (i := 21) rfl
theorem d_F_valueOf_92 : decode mF_valueOf.2.1 92 = .ok (.goto 4, 3) := dq_get dd_F_valueOf_32 (i := 22) rfl
theorem d_F_valueOf_95 : decode mF_valueOf.2.1 95 = .ok (.iconst 0, 1) := dq_get dd_F_valueOf_32 (i := 23) rfl
theorem d_F_valueOf_96 : decode mF_valueOf.2.1 96 = .ok (.ireturn, 1) := dq_get dd_F_valueOf_32 (i := 24) rfl
theorem dd_F_step_0 : dq mF_step.2.1 [(0, .iload_n 1, 1), (1, .ineg, 1), (2, .istore_n 2, 1), (3, .iload_n 1, 1), (4, .ifCond .lt 11, 3), (7, .aload_n 0, 1), (8, .iload_n 1, 1), (9, .invokevirtual 35, 3), (12, .goto 130, 3), (15, .iload_n 2, 1), (16, .bipush 15, 2), (18, .if_icmp .lt 25, 3), (21, .iload_n 2, 1), (22, .bipush 20, 2), (24, .if_icmp .gt 19, 3), (27, .aload_n 0, 1), (28, .aload_n 0, 1), (29, .getfield 18, 3), (32, .iload_n 2, 1), (33, .bipush 15, 2), (35, .isub, 1), (36, .iaload, 1), (37, .invokevirtual 35, 3), (40, .goto 102, 3), (43, .iload_n 2, 1), (44, .bipush 14, 2), (46, .if_icmp .ne 43, 3), (49, .aload_n 0, 1), (50, .getfield 28, 3), (53, .ifCond .le 36, 3), (56, .aload_n 0, 1), (57, .getfield 13, 3)] = true := by decide +kernel
theorem d_F_step_0 : decode mF_step.2.1 0 = .ok (.iload_n 1, 1) := dq_get dd_F_step_0 (i := 0) rfl
theorem d_F_step_1 : decode mF_step.2.1 1 = .ok (.ineg, 1) := dq_get dd_F_step_0 (i := 1) rfl
theorem d_F_step_2 : decode mF_step.2.1 2 = .ok (.istore_n 2, 1) := dq_get dd_F_step_0 (i := 2) rfl
theorem d_F_step_3 : decode mF_step.2.1 3 = .ok (.iload_n 1, 1) := dq_get dd_F_step_0 (i := 3) rfl
theorem d_F_step_4 : decode mF_step.2.1 4 = .ok (.ifCond .lt 11, 3) := dq_get dd_F_step_0 (i := 4) rfl
theorem d_F_step_7 : decode mF_step.2.1 7 = .ok (.aload_n 0, 1) := dq_get dd_F_step_0 (i := 5) rfl
theorem d_F_step_8 : decode mF_step.2.1 8 = .ok (.iload_n 1, 1) := dq_get dd_F_step_0 (i := 6) rfl
theorem d_F_step_9 : decode mF_step.2.1 9 = .ok (.invokevirtual 35, 3) := dq_get dd_F_step_0 (i := 7) rfl
theorem d_F_step_12 : decode mF_step.2.1 12 = .ok (.goto 130, 3) := dq_get dd_F_step_0 (i := 8) rfl
theorem d_F_step_15 : decode mF_step.2.1 15 = .ok (.iload_n 2, 1) := dq_get dd_F_step_0 (i := 9) rfl
theorem d_F_step_16 : decode mF_step.2.1 16 = .ok (.bipush 15, 2) := dq_get dd_F_step_0 (i := 10) rfl
theorem d_F_step_18 : decode mF_step.2.1 18 = .ok (.if_icmp .lt 25, 3) := dq_get dd_F_step_0 (i := 11) rfl
theorem d_F_step_21 : decode mF_step.2.1 21 = .ok (.iload_n 2, 1) := dq_get dd_F_step_0 (i := 12) rfl
theorem d_F_step_22 : decode mF_step.2.1 22 = .ok (.bipush 20, 2) := dq_get dd_F_step_0 (i := 13) rfl
theorem d_F_step_24 : decode mF_step.2.1 24 = .ok (.if_icmp .gt 19, 3) := dq_get dd_F_step_0 (i := 14) rfl
theorem d_F_step_27 : decode mF_step.2.1 27 = .ok (.aload_n 0, 1) := dq_get dd_F_step_0 (i := 15) rfl
theorem d_F_step_28 : decode mF_step.2.1 28 = .ok (.aload_n 0, 1) := dq_get dd_F_step_0 (i := 16) rfl
theorem d_F_step_29 : decode mF_step.2.1 29 = .ok (.getfield 18, 3) := dq_get dd_F_step_0 (i := 17) rfl
theorem d_F_step_32 : decode mF_step.2.1 32 = .ok (.iload_n 2, 1) := dq_get dd_F_step_0 (i := 18) rfl
theorem d_F_step_33 : decode mF_step.2.1 33 = .ok (.bipush 15, 2) := dq_get dd_F_step_0 (i := 19) rfl
theorem d_F_step_35 : decode mF_step.2.1 35 = .ok (.isub, 1) := dq_get dd_F_step_0 (i := 20) rfl
theorem d_F_step_36 : decode mF_step.2.1 36 = .ok (.iaload, 1) := dq_get dd_F_step_0 (i := 21) rfl
theorem d_F_step_37 : decode mF_step.2.1 37 = .ok (.invokevirtual 35, 3) := dq_get dd_F_step_0 (i := 22) rfl
theorem d_F_step_40 : decode mF_step.2.1 40 = .ok (.goto 102, 3) := dq_get dd_F_step_0 (i := 23) rfl
theorem d_F_step_43 : decode mF_step.2.1 43 = .ok (.iload_n 2, 1) := dq_get dd_F_step_0 (i := 24) rfl
theorem d_F_step_44 : decode mF_step.2.1 44 = .ok (.bipush 14, 2) := dq_get dd_F_step_0 (i := 25) rfl
theorem d_F_step_46 : decode mF_step.2.1 46 = .ok (.if_icmp .ne 43, 3) := dq_get dd_F_step_0 (i := 26) rfl
theorem d_F_step_49 : decode mF_step.2.1 49 = .ok (.aload_n 0, 1) := dq_get dd_F_step_0 (i := 27) rfl
theorem d_F_step_50 : decode mF_step.2.1 50 = .ok (.getfield 28, 3) := dq_get dd_F_step_0 (i := 28) rfl
theorem d_F_step_53 : decode mF_step.2.1 53 = .ok (.ifCond .le 36, 3) := dq_get dd_F_step_0 (i := 29) rfl
theorem d_F_step_56 : decode mF_step.2.1 56 = .ok (.aload_n 0, 1) := dq_get dd_F_step_0 (i := 30) rfl
theorem d_F_step_57 : decode mF_step.2.1 57 = .ok (.getfield 13, 3) := dq_get dd_F_step_0 (i := 31) rfl
theorem dd_F_step_32 : dq mF_step.2.1 [(60, .aload_n 0, 1), (61, .getfield 28, 3), (64, .iconst 1, 1), (65, .isub, 1), (66, .aload_n 0, 1), (67, .getfield 13, 3), (70, .aload_n 0, 1), (71, .getfield 28, 3), (74, .iconst 1, 1), (75, .isub, 1), (76, .iaload, 1), (77, .ifCond .ne 7, 3), (80, .iconst 1, 1), (81, .goto 4, 3), (84, .iconst 0, 1), (85, .iastore, 1), (86, .goto 56, 3), (89, .aload_n 0, 1), (90, .getfield 28, 3), (93, .iconst 1, 1), (94, .if_icmp .le 48, 3), (97, .aload_n 0, 1), (98, .dup, 1), (99, .getfield 28, 3), (102, .iconst 1, 1), (103, .isub, 1), (104, .putfield 28, 3), (107, .aload_n 0, 1), (108, .getfield 13, 3), (111, .aload_n 0, 1), (112, .getfield 28, 3), (115, .iconst 1, 1)] = true := by decide +kernel
theorem d_F_step_60 : decode mF_step.2.1 60 = .ok (.aload_n 0, 1) := dq_get dd_F_step_32 (i := 0) rfl
theorem d_F_step_61 : decode mF_step.2.1 61 = .ok (.getfield 28, 3) := dq_get dd_F_step_32 (i := 1) rfl
theorem d_F_step_64 : decode mF_step.2.1 64 = .ok (.iconst 1, 1) := dq_get dd_F_step_32 (i := 2) rfl
theorem d_F_step_65 : decode mF_step.2.1 65 = .ok (.isub, 1) := dq_get dd_F_step_32 (i := 3) rfl
theorem d_F_step_66 : decode mF_step.2.1 66 = .ok (.aload_n 0, 1) := dq_get dd_F_step_32 (i := 4) rfl
theorem d_F_step_67 : decode mF_step.2.1 67 = .ok (.getfield 13, 3) := dq_get dd_F_step_32 (i := 5) rfl
theorem d_F_step_70 : decode mF_step.2.1 70 = .ok (.aload_n 0, 1) := dq_get dd_F_step_32 (i := 6) rfl
theorem d_F_step_71 : decode mF_step.2.1 71 = .ok (.getfield 28, 3) := dq_get dd_F_step_32 (i := 7) rfl
theorem d_F_step_74 : decode mF_step.2.1 74 = .ok (.iconst 1, 1) := dq_get dd_F_step_32 (i := 8) rfl
theorem d_F_step_75 : decode mF_step.2.1 75 = .ok (.isub, 1) := dq_get dd_F_step_32 (i := 9) rfl
theorem d_F_step_76 : decode mF_step.2.1 76 = .ok (.iaload, 1) := dq_get dd_F_step_32 (i := 10) rfl
theorem d_F_step_77 : decode mF_step.2.1 77 = .ok (.ifCond .ne 7, 3) := dq_get dd_F_step_32 (i := 11) rfl
theorem d_F_step_80 : decode mF_step.2.1 80 = .ok (.iconst 1, 1) := dq_get dd_F_step_32 (i := 12) rfl
theorem d_F_step_81 : decode mF_step.2.1 81 = .ok (.goto 4, 3) := dq_get dd_F_step_32 (i := 13) rfl
theorem d_F_step_84 : decode mF_step.2.1 84 = .ok (.iconst 0, 1) := dq_get dd_F_step_32 (i := 14) rfl
theorem d_F_step_85 : decode mF_step.2.1 85 = .ok (.iastore, 1) := dq_get dd_F_step_32 (i := 15) rfl
theorem d_F_step_86 : decode mF_step.2.1 86 = .ok (.goto 56, 3) := dq_get dd_F_step_32 (i := 16) rfl
theorem d_F_step_89 : decode mF_step.2.1 89 = .ok (.aload_n 0, 1) := dq_get dd_F_step_32 (i := 17) rfl
theorem d_F_step_90 : decode mF_step.2.1 90 = .ok (.getfield 28, 3) := dq_get dd_F_step_32 (i := 18) rfl
theorem d_F_step_93 : decode mF_step.2.1 93 = .ok (.iconst 1, 1) := dq_get dd_F_step_32 (i := 19) rfl
theorem d_F_step_94 : decode mF_step.2.1 94 = .ok (.if_icmp .le 48, 3) := dq_get dd_F_step_32 (i := 20) rfl
theorem d_F_step_97 : decode mF_step.2.1 97 = .ok (.aload_n 0, 1) := dq_get dd_F_step_32 (i := 21) rfl
theorem d_F_step_98 : decode mF_step.2.1 98 = .ok (.dup, 1) := dq_get dd_F_step_32 (i := 22) rfl
theorem d_F_step_99 : decode mF_step.2.1 99 = .ok (.getfield 28, 3) := dq_get dd_F_step_32 (i := 23) rfl
theorem d_F_step_102 : decode mF_step.2.1 102 = .ok (.iconst 1, 1) := dq_get dd_F_step_32 (i := 24) rfl
theorem d_F_step_103 : decode mF_step.2.1 103 = .ok (.isub, 1) := dq_get dd_F_step_32 (i := 25) rfl
theorem d_F_step_104 : decode mF_step.2.1 104 = .ok (.putfield 28, 3) := dq_get dd_F_step_32 (i := 26) rfl
theorem d_F_step_107 : decode mF_step.2.1 107 = .ok (.aload_n 0, 1) := dq_get dd_F_step_32 (i := 27) rfl
theorem d_F_step_108 : decode mF_step.2.1 108 = .ok (.getfield 13, 3) := dq_get dd_F_step_32 (i := 28) rfl
theorem d_F_step_111 : decode mF_step.2.1 111 = .ok (.aload_n 0, 1) := dq_get dd_F_step_32 (i := 29) rfl
theorem d_F_step_112 : decode mF_step.2.1 112 = .ok (.getfield 28, 3) := dq_get dd_F_step_32 (i := 30) rfl
theorem d_F_step_115 : decode mF_step.2.1 115 = .ok (.iconst 1, 1) := dq_get dd_F_step_32 (i := 31) rfl
theorem dd_F_step_64 : dq mF_step.2.1 [(116, .isub, 1), (117, .iload_n 2, 1), (118, .aload_n 0, 1), (119, .getfield 13, 3), (122, .aload_n 0, 1), (123, .getfield 28, 3), (126, .iconst 1, 1), (127, .isub, 1), (128, .iaload, 1), (129, .aload_n 0, 1), (130, .getfield 13, 3), (133, .aload_n 0, 1), (134, .getfield 28, 3), (137, .iaload, 1), (138, .invokestatic 38, 3), (141, .iastore, 1), (142, .return_, 1)] = true := by decide +kernel
theorem d_F_step_116 : decode mF_step.2.1 116 = .ok (.isub, 1) := dq_get dd_F_step_64 (i := 0) rfl
theorem d_F_step_117 : decode mF_step.2.1 117 = .ok (.iload_n 2, 1) := dq_get dd_F_step_64 (i := 1) rfl
theorem d_F_step_118 : decode mF_step.2.1 118 = .ok (.aload_n 0, 1) := dq_get dd_F_step_64 (i := 2) rfl
theorem d_F_step_119 : decode mF_step.2.1 119 = .ok (.getfield 13, 3) := dq_get dd_F_step_64 (i := 3) rfl
theorem d_F_step_122 : decode mF_step.2.1 122 = .ok (.aload_n 0, 1) := dq_get dd_F_step_64 (i := 4) rfl
theorem d_F_step_123 : decode mF_step.2.1 123 = .ok (.getfield 28, 3) := dq_get dd_F_step_64 (i := 5) rfl
theorem d_F_step_126 : decode mF_step.2.1 126 = .ok (.iconst 1, 1) := dq_get dd_F_step_64 (i := 6) rfl
theorem d_F_step_127 : decode mF_step.2.1 127 = .ok (.isub, 1) := dq_get dd_F_step_64 (i := 7) rfl
theorem d_F_step_128 : decode mF_step.2.1 128 = .ok (.iaload, 1) := dq_get dd_F_step_64 (i := 8) rfl
theorem d_F_step_129 : decode mF_step.2.1 129 = .ok (.aload_n 0, 1) := dq_get dd_F_step_64 (i := 9) rfl
theorem d_F_step_130 : decode mF_step.2.1 130 = .ok (.getfield 13, 3) := dq_get dd_F_step_64 (i := 10) rfl
theorem d_F_step_133 : decode mF_step.2.1 133 = .ok (.aload_n 0, 1) := dq_get dd_F_step_64 (i := 11) rfl
theorem d_F_step_134 : decode mF_step.2.1 134 = .ok (.getfield 28, 3) := dq_get dd_F_step_64 (i := 12) rfl
theorem d_F_step_137 : decode mF_step.2.1 137 = .ok (.iaload, 1) := dq_get dd_F_step_64 (i := 13) rfl
theorem d_F_step_138 : decode mF_step.2.1 138 = .ok (.invokestatic 38, 3) := dq_get dd_F_step_64 (i := 14) rfl
theorem d_F_step_141 : decode mF_step.2.1 141 = .ok (.iastore, 1) := dq_get dd_F_step_64 (i := 15) rfl
theorem d_F_step_142 : decode mF_step.2.1 142 = .ok (.return_, 1) := dq_get dd_F_step_64 (i := 16) rfl
theorem dd_F_push_0 : dq mF_push.2.1 [(0, .aload_n 0, 1), (1, .getfield 28, 3), (4, .aload_n 0, 1), (5, .getfield 13, 3), (8, .arraylength, 1), (9, .if_icmp .ge 23, 3), (12, .aload_n 0, 1), (13, .getfield 13, 3), (16, .aload_n 0, 1), (17, .getfield 28, 3), (20, .iload_n 1, 1), (21, .iastore, 1), (22, .aload_n 0, 1), (23, .dup, 1), (24, .getfield 28, 3), (27, .iconst 1, 1), (28, .iadd, 1), (29, .putfield 28, 3), (32, .return_, 1)] = true := by decide +kernel
theorem d_F_push_0 : decode mF_push.2.1 0 = .ok (.aload_n 0, 1) := dq_get dd_F_push_0 (i := 0) rfl
theorem d_F_push_1 : decode mF_push.2.1 1 = .ok (.getfield 28, 3) := dq_get dd_F_push_0 (i := 1) rfl
theorem d_F_push_4 : decode mF_push.2.1 4 = .ok (.aload_n 0, 1) := dq_get dd_F_push_0 (i := 2) rfl
theorem d_F_push_5 : decode mF_push.2.1 5 = .ok (.getfield 13, 3) := dq_get dd_F_push_0 (i := 3) rfl
theorem d_F_push_8 : decode mF_push.2.1 8 = .ok (.arraylength, 1) := dq_get dd_F_push_0 (i := 4) rfl
theorem d_F_push_9 : decode mF_push.2.1 9 = .ok (.if_icmp .ge 23, 3) := dq_get dd_F_push_0 (i := 5) rfl
theorem d_F_push_12 : decode mF_push.2.1 12 = .ok (.aload_n 0, 1) := dq_get dd_F_push_0 (i := 6) rfl
theorem d_F_push_13 : decode mF_push.2.1 13 = .ok (.getfield 13, 3) := dq_get dd_F_push_0 (i := 7) rfl
theorem d_F_push_16 : decode mF_push.2.1 16 = .ok (.aload_n 0, 1) := dq_get dd_F_push_0 (i := 8) rfl
theorem d_F_push_17 : decode mF_push.2.1 17 = .ok (.getfield 28, 3) := dq_get dd_F_push_0 (i := 9) rfl
theorem d_F_push_20 : decode mF_push.2.1 20 = .ok (.iload_n 1, 1) := dq_get dd_F_push_0 (i := 10) rfl
theorem d_F_push_21 : decode mF_push.2.1 21 = .ok (.iastore, 1) := dq_get dd_F_push_0 (i := 11) rfl
theorem d_F_push_22 : decode mF_push.2.1 22 = .ok (.aload_n 0, 1) := dq_get dd_F_push_0 (i := 12) rfl
theorem d_F_push_23 : decode mF_push.2.1 23 = .ok (.dup, 1) := dq_get dd_F_push_0 (i := 13) rfl
theorem d_F_push_24 : decode mF_push.2.1 24 = .ok (.getfield 28, 3) := dq_get dd_F_push_0 (i := 14) rfl
theorem d_F_push_27 : decode mF_push.2.1 27 = .ok (.iconst 1, 1) := dq_get dd_F_push_0 (i := 15) rfl
theorem d_F_push_28 : decode mF_push.2.1 28 = .ok (.iadd, 1) := dq_get dd_F_push_0 (i := 16) rfl
theorem d_F_push_29 : decode mF_push.2.1 29 = .ok (.putfield 28, 3) := dq_get dd_F_push_0 (i := 17) rfl
theorem d_F_push_32 : decode mF_push.2.1 32 = .ok (.return_, 1) := dq_get dd_F_push_0 (i := 18) rfl
theorem dd_F_joined_0 : dq mF_joined.2.1 [(0, .iload_n 0, 1), (1, .lookupswitch 188 #[(12, 174), (13, 160), (37, 115), (42, 99), (43, 91), (45, 95), (47, 103), (60, 127), (61, 149), (62, 138)], 91), (92, .iload_n 1, 1), (93, .iload_n 2, 1), (94, .iadd, 1), (95, .ireturn, 1), (96, .iload_n 1, 1), (97, .iload_n 2, 1), (98, .isub, 1), (99, .ireturn, 1), (100, .iload_n 1, 1), (101, .iload_n 2, 1), (102, .imul, 1), (103, .ireturn, 1), (104, .iload_n 2, 1), (105, .ifCond .ne 7, 3), (108, .iconst 0, 1), (109, .goto 6, 3), (112, .iload_n 1, 1), (113, .iload_n 2, 1), (114, .idiv, 1), (115, .ireturn, 1), (116, .iload_n 2, 1), (117, .ifCond .ne 7, 3), (120, .iconst 0, 1), (121, .goto 6, 3), (124, .iload_n 1, 1), (125, .iload_n 2, 1), (126, .irem, 1), (127, .ireturn, 1), (128, .iload_n 1, 1), (129, .iload_n 2, 1)] = true := by decide +kernel
theorem d_F_joined_0 : decode mF_joined.2.1 0 = .ok (.iload_n 0, 1) := dq_get dd_F_joined_0 (i := 0) rfl
theorem d_F_joined_1 : decode mF_joined.2.1 1 = .ok (.lookupswitch 188 #[(12, 174), (13, 160), (37, 115), (42, 99), (43, 91), (45, 95), (47, 103), (60, 127), (61, 149), (62, 138)], 91) := dq_get dd_F_joined_0 (i := 1) rfl
theorem d_F_joined_92 : decode mF_joined.2.1 92 = .ok (.iload_n 1, 1) := dq_get dd_F_joined_0 (i := 2) rfl
theorem d_F_joined_93 : decode mF_joined.2.1 93 = .ok (.iload_n 2, 1) := dq_get dd_F_joined_0 (i := 3) rfl
theorem d_F_joined_94 : decode mF_joined.2.1 94 = .ok (.iadd, 1) := dq_get dd_F_joined_0 (i := 4) rfl
theorem d_F_joined_95 : decode mF_joined.2.1 95 = .ok (.ireturn, 1) := dq_get dd_F_joined_0 (i := 5) rfl
theorem d_F_joined_96 : decode mF_joined.2.1 96 = .ok (.iload_n 1, 1) := dq_get dd_F_joined_0 (i := 6) rfl
theorem d_F_joined_97 : decode mF_joined.2.1 97 = .ok (.iload_n 2, 1) := dq_get dd_F_joined_0 (i := 7) rfl
theorem d_F_joined_98 : decode mF_joined.2.1 98 = .ok (.isub, 1) := dq_get dd_F_joined_0 (i := 8) rfl
theorem d_F_joined_99 : decode mF_joined.2.1 99 = .ok (.ireturn, 1) := dq_get dd_F_joined_0 (i := 9) rfl
theorem d_F_joined_100 : decode mF_joined.2.1 100 = .ok (.iload_n 1, 1) := dq_get dd_F_joined_0 (i := 10) rfl
theorem d_F_joined_101 : decode mF_joined.2.1 101 = .ok (.iload_n 2, 1) := dq_get dd_F_joined_0 (i := 11) rfl
theorem d_F_joined_102 : decode mF_joined.2.1 102 = .ok (.imul, 1) := dq_get dd_F_joined_0 (i := 12) rfl
theorem d_F_joined_103 : decode mF_joined.2.1 103 = .ok (.ireturn, 1) := dq_get dd_F_joined_0 (i := 13) rfl
theorem d_F_joined_104 : decode mF_joined.2.1 104 = .ok (.iload_n 2, 1) := dq_get dd_F_joined_0 (i := 14) rfl
theorem d_F_joined_105 : decode mF_joined.2.1 105 = .ok (.ifCond .ne 7, 3) := dq_get dd_F_joined_0 (i := 15) rfl
theorem d_F_joined_108 : decode mF_joined.2.1 108 = .ok (.iconst 0, 1) := dq_get dd_F_joined_0 (i := 16) rfl
theorem d_F_joined_109 : decode mF_joined.2.1 109 = .ok (.goto 6, 3) := dq_get dd_F_joined_0 (i := 17) rfl
theorem d_F_joined_112 : decode mF_joined.2.1 112 = .ok (.iload_n 1, 1) := dq_get dd_F_joined_0 (i := 18) rfl
theorem d_F_joined_113 : decode mF_joined.2.1 113 = .ok (.iload_n 2, 1) := dq_get dd_F_joined_0 (i := 19) rfl
theorem d_F_joined_114 : decode mF_joined.2.1 114 = .ok (.idiv, 1) := dq_get dd_F_joined_0 (i := 20) rfl
theorem d_F_joined_115 : decode mF_joined.2.1 115 = .ok (.ireturn, 1) := dq_get dd_F_joined_0 (i := 21) rfl
theorem d_F_joined_116 : decode mF_joined.2.1 116 = .ok (.iload_n 2, 1) := dq_get dd_F_joined_0 (i := 22) rfl
theorem d_F_joined_117 : decode mF_joined.2.1 117 = .ok (.ifCond .ne 7, 3) := dq_get dd_F_joined_0 (i := 23) rfl
theorem d_F_joined_120 : decode mF_joined.2.1 120 = .ok (.iconst 0, 1) := dq_get dd_F_joined_0 (i := 24) rfl
theorem d_F_joined_121 : decode mF_joined.2.1 121 = .ok (.goto 6, 3) := dq_get dd_F_joined_0 (i := 25) rfl
theorem d_F_joined_124 : decode mF_joined.2.1 124 = .ok (.iload_n 1, 1) := dq_get dd_F_joined_0 (i := 26) rfl
theorem d_F_joined_125 : decode mF_joined.2.1 125 = .ok (.iload_n 2, 1) := dq_get dd_F_joined_0 (i := 27) rfl
theorem d_F_joined_126 : decode mF_joined.2.1 126 = .ok (.irem, 1) := dq_get dd_F_joined_0 (i := 28) rfl
theorem d_F_joined_127 : decode mF_joined.2.1 127 = .ok (.ireturn, 1) := dq_get dd_F_joined_0 (i := 29) rfl
theorem d_F_joined_128 : decode mF_joined.2.1 128 = .ok (.iload_n 1, 1) := dq_get dd_F_joined_0 (i := 30) rfl
theorem d_F_joined_129 : decode mF_joined.2.1 129 = .ok (.iload_n 2, 1) := dq_get dd_F_joined_0 (i := 31) rfl
theorem dd_F_joined_32 : dq mF_joined.2.1 [(130, .if_icmp .ge 7, 3), (133, .iconst 1, 1), (134, .goto 4, 3), (137, .iconst 0, 1), (138, .ireturn, 1), (139, .iload_n 1, 1), (140, .iload_n 2, 1), (141, .if_icmp .le 7, 3), (144, .iconst 1, 1), (145, .goto 4, 3), (148, .iconst 0, 1), (149, .ireturn, 1), (150, .iload_n 1, 1), (151, .iload_n 2, 1), (152, .if_icmp .ne 7, 3), (155, .iconst 1, 1), (156, .goto 4, 3), (159, .iconst 0, 1), (160, .ireturn, 1), (161, .iload_n 1, 1), (162, .ifCond .eq 11, 3), (165, .iload_n 2, 1), (166, .ifCond .eq 7, 3), (169, .iconst 1, 1), (170, .goto 4, 3), (173, .iconst 0, 1), (174, .ireturn, 1), (175, .iload_n 1, 1), (176, .ifCond .ne 7, 3), (179, .iload_n 2, 1), (180, .ifCond .eq 7, 3), (183, .iconst 1, 1)] = true := by decide +kernel
theorem d_F_joined_130 : decode mF_joined.2.1 130 = .ok (.if_icmp .ge 7, 3) := dq_get dd_F_joined_32 (i := 0) rfl
theorem d_F_joined_133 : decode mF_joined.2.1 133 = .ok (.iconst 1, 1) := dq_get dd_F_joined_32 (i := 1) rfl
theorem d_F_joined_134 : decode mF_joined.2.1 134 = .ok (.goto 4, 3) := dq_get dd_F_joined_32 (i := 2) rfl
theorem d_F_joined_137 : decode mF_joined.2.1 137 = .ok (.iconst 0, 1) := dq_get dd_F_joined_32 (i := 3) rfl
theorem d_F_joined_138 : decode mF_joined.2.1 138 = .ok (.ireturn, 1) := dq_get dd_F_joined_32 (i := 4) rfl
theorem d_F_joined_139 : decode mF_joined.2.1 139 = .ok (.iload_n 1, 1) := dq_get dd_F_joined_32 (i := 5) rfl
theorem d_F_joined_140 : decode mF_joined.2.1 140 = .ok (.iload_n 2, 1) := dq_get dd_F_joined_32 (i := 6) rfl
theorem d_F_joined_141 : decode mF_joined.2.1 141 = .ok (.if_icmp .le 7, 3) := dq_get dd_F_joined_32 (i := 7) rfl
theorem d_F_joined_144 : decode mF_joined.2.1 144 = .ok (.iconst 1, 1) := dq_get dd_F_joined_32 (i := 8) rfl
theorem d_F_joined_145 : decode mF_joined.2.1 145 = .ok (.goto 4, 3) := dq_get dd_F_joined_32 (i := 9) rfl
theorem d_F_joined_148 : decode mF_joined.2.1 148 = .ok (.iconst 0, 1) := dq_get dd_F_joined_32 (i := 10) rfl
theorem d_F_joined_149 : decode mF_joined.2.1 149 = .ok (.ireturn, 1) := dq_get dd_F_joined_32 (i := 11) rfl
theorem d_F_joined_150 : decode mF_joined.2.1 150 = .ok (.iload_n 1, 1) := dq_get dd_F_joined_32 (i := 12) rfl
theorem d_F_joined_151 : decode mF_joined.2.1 151 = .ok (.iload_n 2, 1) := dq_get dd_F_joined_32 (i := 13) rfl
theorem d_F_joined_152 : decode mF_joined.2.1 152 = .ok (.if_icmp .ne 7, 3) := dq_get dd_F_joined_32 (i := 14) rfl
theorem d_F_joined_155 : decode mF_joined.2.1 155 = .ok (.iconst 1, 1) := dq_get dd_F_joined_32 (i := 15) rfl
theorem d_F_joined_156 : decode mF_joined.2.1 156 = .ok (.goto 4, 3) := dq_get dd_F_joined_32 (i := 16) rfl
theorem d_F_joined_159 : decode mF_joined.2.1 159 = .ok (.iconst 0, 1) := dq_get dd_F_joined_32 (i := 17) rfl
theorem d_F_joined_160 : decode mF_joined.2.1 160 = .ok (.ireturn, 1) := dq_get dd_F_joined_32 (i := 18) rfl
theorem d_F_joined_161 : decode mF_joined.2.1 161 = .ok (.iload_n 1, 1) := dq_get dd_F_joined_32 (i := 19) rfl
theorem d_F_joined_162 : decode mF_joined.2.1 162 = .ok (.ifCond .eq 11, 3) := dq_get dd_F_joined_32 (i := 20) rfl
theorem d_F_joined_165 : decode mF_joined.2.1 165 = .ok (.iload_n 2, 1) := dq_get dd_F_joined_32 (i := 21) rfl
theorem d_F_joined_166 : decode mF_joined.2.1 166 = .ok (.ifCond .eq 7, 3) := dq_get dd_F_joined_32 (i := 22) rfl
theorem d_F_joined_169 : decode mF_joined.2.1 169 = .ok (.iconst 1, 1) := dq_get dd_F_joined_32 (i := 23) rfl
theorem d_F_joined_170 : decode mF_joined.2.1 170 = .ok (.goto 4, 3) := dq_get dd_F_joined_32 (i := 24) rfl
theorem d_F_joined_173 : decode mF_joined.2.1 173 = .ok (.iconst 0, 1) := dq_get dd_F_joined_32 (i := 25) rfl
theorem d_F_joined_174 : decode mF_joined.2.1 174 = .ok (.ireturn, 1) := dq_get dd_F_joined_32 (i := 26) rfl
theorem d_F_joined_175 : decode mF_joined.2.1 175 = .ok (.iload_n 1, 1) := dq_get dd_F_joined_32 (i := 27) rfl
theorem d_F_joined_176 : decode mF_joined.2.1 176 = .ok (.ifCond .ne 7, 3) := dq_get dd_F_joined_32 (i := 28) rfl
theorem d_F_joined_179 : decode mF_joined.2.1 179 = .ok (.iload_n 2, 1) := dq_get dd_F_joined_32 (i := 29) rfl
theorem d_F_joined_180 : decode mF_joined.2.1 180 = .ok (.ifCond .eq 7, 3) := dq_get dd_F_joined_32 (i := 30) rfl
theorem d_F_joined_183 : decode mF_joined.2.1 183 = .ok (.iconst 1, 1) := dq_get dd_F_joined_32 (i := 31) rfl
theorem dd_F_joined_64 : dq mF_joined.2.1 [(184, .goto 4, 3), (187, .iconst 0, 1), (188, .ireturn, 1), (189, .iconst 0, 1), (190, .ireturn, 1)] = true := by decide +kernel
theorem d_F_joined_184 : decode mF_joined.2.1 184 = .ok (.goto 4, 3) := dq_get dd_F_joined_64 (i := 0) rfl
theorem d_F_joined_187 : decode mF_joined.2.1 187 = .ok (.iconst 0, 1) := dq_get dd_F_joined_64 (i := 1) rfl
theorem d_F_joined_188 : decode mF_joined.2.1 188 = .ok (.ireturn, 1) := dq_get dd_F_joined_64 (i := 2) rfl
theorem d_F_joined_189 : decode mF_joined.2.1 189 = .ok (.iconst 0, 1) := dq_get dd_F_joined_64 (i := 3) rfl
theorem d_F_joined_190 : decode mF_joined.2.1 190 = .ok (.ireturn, 1) := dq_get dd_F_joined_64 (i := 4) rfl
theorem dd_S_notesOf_0 : dq mS_notesOf.2.1 [(0, .iconst 0, 1), (1, .istore_n 2, 1), (2, .iconst 0, 1), (3, .istore_n 3, 1), (4, .iload_n 3, 1), (5, .aload_n 0, 1), (6, .getfield 66, 3), (9, .if_icmp .ge 25, 3), (12, .aload_n 0, 1), (13, .getfield 22, 3), (16, .iload_n 3, 1), (17, .iaload, 1), (18, .iload_n 1, 1), (19, .if_icmp .ne 9, 3), (22, .iload_n 2, 1), (23, .iconst 1, 1), (24, .iload_n 3, 1), (25, .ishl, 1), (26, .ior, 1), (27, .istore_n 2, 1), (28, .iinc 3 1, 3), (31, .goto (-27), 3), (34, .iload_n 2, 1), (35, .ireturn, 1)] = true := by decide +kernel
theorem d_S_notesOf_0 : decode mS_notesOf.2.1 0 = .ok (.iconst 0, 1) := dq_get dd_S_notesOf_0 (i := 0) rfl
theorem d_S_notesOf_1 : decode mS_notesOf.2.1 1 = .ok (.istore_n 2, 1) := dq_get dd_S_notesOf_0 (i := 1) rfl
theorem d_S_notesOf_2 : decode mS_notesOf.2.1 2 = .ok (.iconst 0, 1) := dq_get dd_S_notesOf_0 (i := 2) rfl
theorem d_S_notesOf_3 : decode mS_notesOf.2.1 3 = .ok (.istore_n 3, 1) := dq_get dd_S_notesOf_0 (i := 3) rfl
theorem d_S_notesOf_4 : decode mS_notesOf.2.1 4 = .ok (.iload_n 3, 1) := dq_get dd_S_notesOf_0 (i := 4) rfl
theorem d_S_notesOf_5 : decode mS_notesOf.2.1 5 = .ok (.aload_n 0, 1) := dq_get dd_S_notesOf_0 (i := 5) rfl
theorem d_S_notesOf_6 : decode mS_notesOf.2.1 6 = .ok (.getfield 66, 3) := dq_get dd_S_notesOf_0 (i := 6) rfl
theorem d_S_notesOf_9 : decode mS_notesOf.2.1 9 = .ok (.if_icmp .ge 25, 3) := dq_get dd_S_notesOf_0 (i := 7) rfl
theorem d_S_notesOf_12 : decode mS_notesOf.2.1 12 = .ok (.aload_n 0, 1) := dq_get dd_S_notesOf_0 (i := 8) rfl
theorem d_S_notesOf_13 : decode mS_notesOf.2.1 13 = .ok (.getfield 22, 3) := dq_get dd_S_notesOf_0 (i := 9) rfl
theorem d_S_notesOf_16 : decode mS_notesOf.2.1 16 = .ok (.iload_n 3, 1) := dq_get dd_S_notesOf_0 (i := 10) rfl
theorem d_S_notesOf_17 : decode mS_notesOf.2.1 17 = .ok (.iaload, 1) := dq_get dd_S_notesOf_0 (i := 11) rfl
theorem d_S_notesOf_18 : decode mS_notesOf.2.1 18 = .ok (.iload_n 1, 1) := dq_get dd_S_notesOf_0 (i := 12) rfl
theorem d_S_notesOf_19 : decode mS_notesOf.2.1 19 = .ok (.if_icmp .ne 9, 3) := dq_get dd_S_notesOf_0 (i := 13) rfl
theorem d_S_notesOf_22 : decode mS_notesOf.2.1 22 = .ok (.iload_n 2, 1) := dq_get dd_S_notesOf_0 (i := 14) rfl
theorem d_S_notesOf_23 : decode mS_notesOf.2.1 23 = .ok (.iconst 1, 1) := dq_get dd_S_notesOf_0 (i := 15) rfl
theorem d_S_notesOf_24 : decode mS_notesOf.2.1 24 = .ok (.iload_n 3, 1) := dq_get dd_S_notesOf_0 (i := 16) rfl
theorem d_S_notesOf_25 : decode mS_notesOf.2.1 25 = .ok (.ishl, 1) := dq_get dd_S_notesOf_0 (i := 17) rfl
theorem d_S_notesOf_26 : decode mS_notesOf.2.1 26 = .ok (.ior, 1) := dq_get dd_S_notesOf_0 (i := 18) rfl
theorem d_S_notesOf_27 : decode mS_notesOf.2.1 27 = .ok (.istore_n 2, 1) := dq_get dd_S_notesOf_0 (i := 19) rfl
theorem d_S_notesOf_28 : decode mS_notesOf.2.1 28 = .ok (.iinc 3 1, 3) := dq_get dd_S_notesOf_0 (i := 20) rfl
theorem d_S_notesOf_31 : decode mS_notesOf.2.1 31 = .ok (.goto (-27), 3) := dq_get dd_S_notesOf_0 (i := 21) rfl
theorem d_S_notesOf_34 : decode mS_notesOf.2.1 34 = .ok (.iload_n 2, 1) := dq_get dd_S_notesOf_0 (i := 22) rfl
theorem d_S_notesOf_35 : decode mS_notesOf.2.1 35 = .ok (.ireturn, 1) := dq_get dd_S_notesOf_0 (i := 23) rfl
theorem dd_L_setOf_0 : dq mL_setOf.2.1 [(0, .iconst 0, 1), (1, .istore_n 2, 1), (2, .iconst 0, 1), (3, .istore_n 3, 1), (4, .iload_n 3, 1), (5, .bipush 10, 2), (7, .if_icmp .ge 25, 3), (10, .aload_n 0, 1), (11, .getfield 9, 3), (14, .iload_n 3, 1), (15, .iaload, 1), (16, .iload_n 1, 1), (17, .if_icmp .ne 9, 3), (20, .iload_n 2, 1), (21, .iconst 1, 1), (22, .iload_n 3, 1), (23, .ishl, 1), (24, .ior, 1), (25, .istore_n 2, 1), (26, .iinc 3 1, 3), (29, .goto (-25), 3), (32, .iload_n 2, 1), (33, .ireturn, 1)] = true := by decide +kernel
theorem d_L_setOf_0 : decode mL_setOf.2.1 0 = .ok (.iconst 0, 1) := dq_get dd_L_setOf_0 (i := 0) rfl
theorem d_L_setOf_1 : decode mL_setOf.2.1 1 = .ok (.istore_n 2, 1) := dq_get dd_L_setOf_0 (i := 1) rfl
theorem d_L_setOf_2 : decode mL_setOf.2.1 2 = .ok (.iconst 0, 1) := dq_get dd_L_setOf_0 (i := 2) rfl
theorem d_L_setOf_3 : decode mL_setOf.2.1 3 = .ok (.istore_n 3, 1) := dq_get dd_L_setOf_0 (i := 3) rfl
theorem d_L_setOf_4 : decode mL_setOf.2.1 4 = .ok (.iload_n 3, 1) := dq_get dd_L_setOf_0 (i := 4) rfl
theorem d_L_setOf_5 : decode mL_setOf.2.1 5 = .ok (.bipush 10, 2) := dq_get dd_L_setOf_0 (i := 5) rfl
theorem d_L_setOf_7 : decode mL_setOf.2.1 7 = .ok (.if_icmp .ge 25, 3) := dq_get dd_L_setOf_0 (i := 6) rfl
theorem d_L_setOf_10 : decode mL_setOf.2.1 10 = .ok (.aload_n 0, 1) := dq_get dd_L_setOf_0 (i := 7) rfl
theorem d_L_setOf_11 : decode mL_setOf.2.1 11 = .ok (.getfield 9, 3) := dq_get dd_L_setOf_0 (i := 8) rfl
theorem d_L_setOf_14 : decode mL_setOf.2.1 14 = .ok (.iload_n 3, 1) := dq_get dd_L_setOf_0 (i := 9) rfl
theorem d_L_setOf_15 : decode mL_setOf.2.1 15 = .ok (.iaload, 1) := dq_get dd_L_setOf_0 (i := 10) rfl
theorem d_L_setOf_16 : decode mL_setOf.2.1 16 = .ok (.iload_n 1, 1) := dq_get dd_L_setOf_0 (i := 11) rfl
theorem d_L_setOf_17 : decode mL_setOf.2.1 17 = .ok (.if_icmp .ne 9, 3) := dq_get dd_L_setOf_0 (i := 12) rfl
theorem d_L_setOf_20 : decode mL_setOf.2.1 20 = .ok (.iload_n 2, 1) := dq_get dd_L_setOf_0 (i := 13) rfl
theorem d_L_setOf_21 : decode mL_setOf.2.1 21 = .ok (.iconst 1, 1) := dq_get dd_L_setOf_0 (i := 14) rfl
theorem d_L_setOf_22 : decode mL_setOf.2.1 22 = .ok (.iload_n 3, 1) := dq_get dd_L_setOf_0 (i := 15) rfl
theorem d_L_setOf_23 : decode mL_setOf.2.1 23 = .ok (.ishl, 1) := dq_get dd_L_setOf_0 (i := 16) rfl
theorem d_L_setOf_24 : decode mL_setOf.2.1 24 = .ok (.ior, 1) := dq_get dd_L_setOf_0 (i := 17) rfl
theorem d_L_setOf_25 : decode mL_setOf.2.1 25 = .ok (.istore_n 2, 1) := dq_get dd_L_setOf_0 (i := 18) rfl
theorem d_L_setOf_26 : decode mL_setOf.2.1 26 = .ok (.iinc 3 1, 3) := dq_get dd_L_setOf_0 (i := 19) rfl
theorem d_L_setOf_29 : decode mL_setOf.2.1 29 = .ok (.goto (-25), 3) := dq_get dd_L_setOf_0 (i := 20) rfl
theorem d_L_setOf_32 : decode mL_setOf.2.1 32 = .ok (.iload_n 2, 1) := dq_get dd_L_setOf_0 (i := 21) rfl
theorem d_L_setOf_33 : decode mL_setOf.2.1 33 = .ok (.ireturn, 1) := dq_get dd_L_setOf_0 (i := 22) rfl
theorem dd_K_lay_0 : dq mK_lay.2.1 [(0, .aload_n 0, 1), (1, .aload_n 1, 1), (2, .getfield 24, 3), (5, .putfield 30, 3), (8, .aload_n 0, 1), (9, .aload_n 1, 1), (10, .getfield 31, 3), (13, .putfield 34, 3), (16, .aload_n 0, 1), (17, .aload_n 1, 1), (18, .getfield 35, 3), (21, .putfield 38, 3), (24, .aload_n 0, 1), (25, .aload_n 1, 1), (26, .getfield 39, 3), (29, .putfield 42, 3), (32, .aload_n 0, 1), (33, .aload_n 1, 1), (34, .getfield 43, 3), (37, .putfield 46, 3), (40, .aload_n 0, 1), (41, .aload_n 2, 1), (42, .iconst 1, 1), (43, .invokevirtual 47, 3), (46, .putfield 53, 3), (49, .aload_n 0, 1), (50, .aload_n 2, 1), (51, .iconst 2, 1), (52, .invokevirtual 47, 3), (55, .putfield 56, 3), (58, .aload_n 0, 1), (59, .aload_n 2, 1)] = true := by decide +kernel
theorem d_K_lay_0 : decode mK_lay.2.1 0 = .ok (.aload_n 0, 1) := dq_get dd_K_lay_0 (i := 0) rfl
theorem d_K_lay_1 : decode mK_lay.2.1 1 = .ok (.aload_n 1, 1) := dq_get dd_K_lay_0 (i := 1) rfl
theorem d_K_lay_2 : decode mK_lay.2.1 2 = .ok (.getfield 24, 3) := dq_get dd_K_lay_0 (i := 2) rfl
theorem d_K_lay_5 : decode mK_lay.2.1 5 = .ok (.putfield 30, 3) := dq_get dd_K_lay_0 (i := 3) rfl
theorem d_K_lay_8 : decode mK_lay.2.1 8 = .ok (.aload_n 0, 1) := dq_get dd_K_lay_0 (i := 4) rfl
theorem d_K_lay_9 : decode mK_lay.2.1 9 = .ok (.aload_n 1, 1) := dq_get dd_K_lay_0 (i := 5) rfl
theorem d_K_lay_10 : decode mK_lay.2.1 10 = .ok (.getfield 31, 3) := dq_get dd_K_lay_0 (i := 6) rfl
theorem d_K_lay_13 : decode mK_lay.2.1 13 = .ok (.putfield 34, 3) := dq_get dd_K_lay_0 (i := 7) rfl
theorem d_K_lay_16 : decode mK_lay.2.1 16 = .ok (.aload_n 0, 1) := dq_get dd_K_lay_0 (i := 8) rfl
theorem d_K_lay_17 : decode mK_lay.2.1 17 = .ok (.aload_n 1, 1) := dq_get dd_K_lay_0 (i := 9) rfl
theorem d_K_lay_18 : decode mK_lay.2.1 18 = .ok (.getfield 35, 3) := dq_get dd_K_lay_0 (i := 10) rfl
theorem d_K_lay_21 : decode mK_lay.2.1 21 = .ok (.putfield 38, 3) := dq_get dd_K_lay_0 (i := 11) rfl
theorem d_K_lay_24 : decode mK_lay.2.1 24 = .ok (.aload_n 0, 1) := dq_get dd_K_lay_0 (i := 12) rfl
theorem d_K_lay_25 : decode mK_lay.2.1 25 = .ok (.aload_n 1, 1) := dq_get dd_K_lay_0 (i := 13) rfl
theorem d_K_lay_26 : decode mK_lay.2.1 26 = .ok (.getfield 39, 3) := dq_get dd_K_lay_0 (i := 14) rfl
theorem d_K_lay_29 : decode mK_lay.2.1 29 = .ok (.putfield 42, 3) := dq_get dd_K_lay_0 (i := 15) rfl
theorem d_K_lay_32 : decode mK_lay.2.1 32 = .ok (.aload_n 0, 1) := dq_get dd_K_lay_0 (i := 16) rfl
theorem d_K_lay_33 : decode mK_lay.2.1 33 = .ok (.aload_n 1, 1) := dq_get dd_K_lay_0 (i := 17) rfl
theorem d_K_lay_34 : decode mK_lay.2.1 34 = .ok (.getfield 43, 3) := dq_get dd_K_lay_0 (i := 18) rfl
theorem d_K_lay_37 : decode mK_lay.2.1 37 = .ok (.putfield 46, 3) := dq_get dd_K_lay_0 (i := 19) rfl
theorem d_K_lay_40 : decode mK_lay.2.1 40 = .ok (.aload_n 0, 1) := dq_get dd_K_lay_0 (i := 20) rfl
theorem d_K_lay_41 : decode mK_lay.2.1 41 = .ok (.aload_n 2, 1) := dq_get dd_K_lay_0 (i := 21) rfl
theorem d_K_lay_42 : decode mK_lay.2.1 42 = .ok (.iconst 1, 1) := dq_get dd_K_lay_0 (i := 22) rfl
theorem d_K_lay_43 : decode mK_lay.2.1 43 = .ok (.invokevirtual 47, 3) := dq_get dd_K_lay_0 (i := 23) rfl
theorem d_K_lay_46 : decode mK_lay.2.1 46 = .ok (.putfield 53, 3) := dq_get dd_K_lay_0 (i := 24) rfl
theorem d_K_lay_49 : decode mK_lay.2.1 49 = .ok (.aload_n 0, 1) := dq_get dd_K_lay_0 (i := 25) rfl
theorem d_K_lay_50 : decode mK_lay.2.1 50 = .ok (.aload_n 2, 1) := dq_get dd_K_lay_0 (i := 26) rfl
theorem d_K_lay_51 : decode mK_lay.2.1 51 = .ok (.iconst 2, 1) := dq_get dd_K_lay_0 (i := 27) rfl
theorem d_K_lay_52 : decode mK_lay.2.1 52 = .ok (.invokevirtual 47, 3) := dq_get dd_K_lay_0 (i := 28) rfl
theorem d_K_lay_55 : decode mK_lay.2.1 55 = .ok (.putfield 56, 3) := dq_get dd_K_lay_0 (i := 29) rfl
theorem d_K_lay_58 : decode mK_lay.2.1 58 = .ok (.aload_n 0, 1) := dq_get dd_K_lay_0 (i := 30) rfl
theorem d_K_lay_59 : decode mK_lay.2.1 59 = .ok (.aload_n 2, 1) := dq_get dd_K_lay_0 (i := 31) rfl
theorem dd_K_lay_32 : dq mK_lay.2.1 [(60, .getfield 59, 3), (63, .putfield 62, 3), (66, .iconst 0, 1), (67, .istore_n 3, 1), (68, .iload_n 3, 1), (69, .aload_n 0, 1), (70, .getfield 34, 3), (73, .if_icmp .ge 45, 3), (76, .aload_n 0, 1), (77, .getfield 9, 3), (80, .iload_n 3, 1), (81, .aload_n 2, 1), (82, .getfield 63, 3), (85, .iload_n 3, 1), (86, .iaload, 1), (87, .iastore, 1), (88, .aload_n 0, 1), (89, .getfield 15, 3), (92, .iload_n 3, 1), (93, .aload_n 1, 1), (94, .getfield 64, 3), (97, .iload_n 3, 1), (98, .iaload, 1), (99, .iastore, 1), (100, .aload_n 0, 1), (101, .getfield 18, 3), (104, .iload_n 3, 1), (105, .aload_n 2, 1), (106, .getfield 65, 3), (109, .iload_n 3, 1), (110, .iaload, 1), (111, .iastore, 1)] = true := by decide +kernel
theorem d_K_lay_60 : decode mK_lay.2.1 60 = .ok (.getfield 59, 3) := dq_get dd_K_lay_32 (i := 0) rfl
theorem d_K_lay_63 : decode mK_lay.2.1 63 = .ok (.putfield 62, 3) := dq_get dd_K_lay_32 (i := 1) rfl
theorem d_K_lay_66 : decode mK_lay.2.1 66 = .ok (.iconst 0, 1) := dq_get dd_K_lay_32 (i := 2) rfl
theorem d_K_lay_67 : decode mK_lay.2.1 67 = .ok (.istore_n 3, 1) := dq_get dd_K_lay_32 (i := 3) rfl
theorem d_K_lay_68 : decode mK_lay.2.1 68 = .ok (.iload_n 3, 1) := dq_get dd_K_lay_32 (i := 4) rfl
theorem d_K_lay_69 : decode mK_lay.2.1 69 = .ok (.aload_n 0, 1) := dq_get dd_K_lay_32 (i := 5) rfl
theorem d_K_lay_70 : decode mK_lay.2.1 70 = .ok (.getfield 34, 3) := dq_get dd_K_lay_32 (i := 6) rfl
theorem d_K_lay_73 : decode mK_lay.2.1 73 = .ok (.if_icmp .ge 45, 3) := dq_get dd_K_lay_32 (i := 7) rfl
theorem d_K_lay_76 : decode mK_lay.2.1 76 = .ok (.aload_n 0, 1) := dq_get dd_K_lay_32 (i := 8) rfl
theorem d_K_lay_77 : decode mK_lay.2.1 77 = .ok (.getfield 9, 3) := dq_get dd_K_lay_32 (i := 9) rfl
theorem d_K_lay_80 : decode mK_lay.2.1 80 = .ok (.iload_n 3, 1) := dq_get dd_K_lay_32 (i := 10) rfl
theorem d_K_lay_81 : decode mK_lay.2.1 81 = .ok (.aload_n 2, 1) := dq_get dd_K_lay_32 (i := 11) rfl
theorem d_K_lay_82 : decode mK_lay.2.1 82 = .ok (.getfield 63, 3) := dq_get dd_K_lay_32 (i := 12) rfl
theorem d_K_lay_85 : decode mK_lay.2.1 85 = .ok (.iload_n 3, 1) := dq_get dd_K_lay_32 (i := 13) rfl
theorem d_K_lay_86 : decode mK_lay.2.1 86 = .ok (.iaload, 1) := dq_get dd_K_lay_32 (i := 14) rfl
theorem d_K_lay_87 : decode mK_lay.2.1 87 = .ok (.iastore, 1) := dq_get dd_K_lay_32 (i := 15) rfl
theorem d_K_lay_88 : decode mK_lay.2.1 88 = .ok (.aload_n 0, 1) := dq_get dd_K_lay_32 (i := 16) rfl
theorem d_K_lay_89 : decode mK_lay.2.1 89 = .ok (.getfield 15, 3) := dq_get dd_K_lay_32 (i := 17) rfl
theorem d_K_lay_92 : decode mK_lay.2.1 92 = .ok (.iload_n 3, 1) := dq_get dd_K_lay_32 (i := 18) rfl
theorem d_K_lay_93 : decode mK_lay.2.1 93 = .ok (.aload_n 1, 1) := dq_get dd_K_lay_32 (i := 19) rfl
theorem d_K_lay_94 : decode mK_lay.2.1 94 = .ok (.getfield 64, 3) := dq_get dd_K_lay_32 (i := 20) rfl
theorem d_K_lay_97 : decode mK_lay.2.1 97 = .ok (.iload_n 3, 1) := dq_get dd_K_lay_32 (i := 21) rfl
theorem d_K_lay_98 : decode mK_lay.2.1 98 = .ok (.iaload, 1) := dq_get dd_K_lay_32 (i := 22) rfl
theorem d_K_lay_99 : decode mK_lay.2.1 99 = .ok (.iastore, 1) := dq_get dd_K_lay_32 (i := 23) rfl
theorem d_K_lay_100 : decode mK_lay.2.1 100 = .ok (.aload_n 0, 1) := dq_get dd_K_lay_32 (i := 24) rfl
theorem d_K_lay_101 : decode mK_lay.2.1 101 = .ok (.getfield 18, 3) := dq_get dd_K_lay_32 (i := 25) rfl
theorem d_K_lay_104 : decode mK_lay.2.1 104 = .ok (.iload_n 3, 1) := dq_get dd_K_lay_32 (i := 26) rfl
theorem d_K_lay_105 : decode mK_lay.2.1 105 = .ok (.aload_n 2, 1) := dq_get dd_K_lay_32 (i := 27) rfl
theorem d_K_lay_106 : decode mK_lay.2.1 106 = .ok (.getfield 65, 3) := dq_get dd_K_lay_32 (i := 28) rfl
theorem d_K_lay_109 : decode mK_lay.2.1 109 = .ok (.iload_n 3, 1) := dq_get dd_K_lay_32 (i := 29) rfl
theorem d_K_lay_110 : decode mK_lay.2.1 110 = .ok (.iaload, 1) := dq_get dd_K_lay_32 (i := 30) rfl
theorem d_K_lay_111 : decode mK_lay.2.1 111 = .ok (.iastore, 1) := dq_get dd_K_lay_32 (i := 31) rfl
theorem dd_K_lay_64 : dq mK_lay.2.1 [(112, .iinc 3 1, 3), (115, .goto (-47), 3), (118, .iconst 0, 1), (119, .istore_n 3, 1), (120, .iconst 0, 1), (121, .istore 4, 2), (123, .iload 4, 2), (125, .aload_n 0, 1), (126, .getfield 30, 3), (129, .if_icmp .ge 39, 3), (132, .aload_n 0, 1), (133, .iload 4, 2), (135, .invokevirtual 66, 3), (138, .ifCond .eq 8, 3), (141, .iload 4, 2), (143, .goto 4, 3), (146, .iload_n 3, 1), (147, .istore_n 3, 1), (148, .aload_n 0, 1), (149, .getfield 21, 3), (152, .iload 4, 2), (154, .aload_n 0, 1), (155, .iload_n 3, 1), (156, .iload 4, 2), (158, .invokevirtual 70, 3), (161, .iastore, 1), (162, .iinc 4 1, 3), (165, .goto (-42), 3), (168, .return_, 1)] = true := by decide +kernel
theorem d_K_lay_112 : decode mK_lay.2.1 112 = .ok (.iinc 3 1, 3) := dq_get dd_K_lay_64 (i := 0) rfl
theorem d_K_lay_115 : decode mK_lay.2.1 115 = .ok (.goto (-47), 3) := dq_get dd_K_lay_64 (i := 1) rfl
theorem d_K_lay_118 : decode mK_lay.2.1 118 = .ok (.iconst 0, 1) := dq_get dd_K_lay_64 (i := 2) rfl
theorem d_K_lay_119 : decode mK_lay.2.1 119 = .ok (.istore_n 3, 1) := dq_get dd_K_lay_64 (i := 3) rfl
theorem d_K_lay_120 : decode mK_lay.2.1 120 = .ok (.iconst 0, 1) := dq_get dd_K_lay_64 (i := 4) rfl
theorem d_K_lay_121 : decode mK_lay.2.1 121 = .ok (.istore 4, 2) := dq_get dd_K_lay_64 (i := 5) rfl
theorem d_K_lay_123 : decode mK_lay.2.1 123 = .ok (.iload 4, 2) := dq_get dd_K_lay_64 (i := 6) rfl
theorem d_K_lay_125 : decode mK_lay.2.1 125 = .ok (.aload_n 0, 1) := dq_get dd_K_lay_64 (i := 7) rfl
theorem d_K_lay_126 : decode mK_lay.2.1 126 = .ok (.getfield 30, 3) := dq_get dd_K_lay_64 (i := 8) rfl
theorem d_K_lay_129 : decode mK_lay.2.1 129 = .ok (.if_icmp .ge 39, 3) := dq_get dd_K_lay_64 (i := 9) rfl
theorem d_K_lay_132 : decode mK_lay.2.1 132 = .ok (.aload_n 0, 1) := dq_get dd_K_lay_64 (i := 10) rfl
theorem d_K_lay_133 : decode mK_lay.2.1 133 = .ok (.iload 4, 2) := dq_get dd_K_lay_64 (i := 11) rfl
theorem d_K_lay_135 : decode mK_lay.2.1 135 = .ok (.invokevirtual 66, 3) := dq_get dd_K_lay_64 (i := 12) rfl
theorem d_K_lay_138 : decode mK_lay.2.1 138 = .ok (.ifCond .eq 8, 3) := dq_get dd_K_lay_64 (i := 13) rfl
theorem d_K_lay_141 : decode mK_lay.2.1 141 = .ok (.iload 4, 2) := dq_get dd_K_lay_64 (i := 14) rfl
theorem d_K_lay_143 : decode mK_lay.2.1 143 = .ok (.goto 4, 3) := dq_get dd_K_lay_64 (i := 15) rfl
theorem d_K_lay_146 : decode mK_lay.2.1 146 = .ok (.iload_n 3, 1) := dq_get dd_K_lay_64 (i := 16) rfl
theorem d_K_lay_147 : decode mK_lay.2.1 147 = .ok (.istore_n 3, 1) := dq_get dd_K_lay_64 (i := 17) rfl
theorem d_K_lay_148 : decode mK_lay.2.1 148 = .ok (.aload_n 0, 1) := dq_get dd_K_lay_64 (i := 18) rfl
theorem d_K_lay_149 : decode mK_lay.2.1 149 = .ok (.getfield 21, 3) := dq_get dd_K_lay_64 (i := 19) rfl
theorem d_K_lay_152 : decode mK_lay.2.1 152 = .ok (.iload 4, 2) := dq_get dd_K_lay_64 (i := 20) rfl
theorem d_K_lay_154 : decode mK_lay.2.1 154 = .ok (.aload_n 0, 1) := dq_get dd_K_lay_64 (i := 21) rfl
theorem d_K_lay_155 : decode mK_lay.2.1 155 = .ok (.iload_n 3, 1) := dq_get dd_K_lay_64 (i := 22) rfl
theorem d_K_lay_156 : decode mK_lay.2.1 156 = .ok (.iload 4, 2) := dq_get dd_K_lay_64 (i := 23) rfl
theorem d_K_lay_158 : decode mK_lay.2.1 158 = .ok (.invokevirtual 70, 3) := dq_get dd_K_lay_64 (i := 24) rfl
theorem d_K_lay_161 : decode mK_lay.2.1 161 = .ok (.iastore, 1) := dq_get dd_K_lay_64 (i := 25) rfl
theorem d_K_lay_162 : decode mK_lay.2.1 162 = .ok (.iinc 4 1, 3) := dq_get dd_K_lay_64 (i := 26) rfl
theorem d_K_lay_165 : decode mK_lay.2.1 165 = .ok (.goto (-42), 3) := dq_get dd_K_lay_64 (i := 27) rfl
theorem d_K_lay_168 : decode mK_lay.2.1 168 = .ok (.return_, 1) := dq_get dd_K_lay_64 (i := 28) rfl
theorem dd_K_hasPedal_0 : dq mK_hasPedal.2.1 [(0, .aload_n 0, 1), (1, .getfield 62, 3), (4, .iload_n 1, 1), (5, .ishr, 1), (6, .iconst 1, 1), (7, .iand, 1), (8, .ifCond .eq 7, 3), (11, .iconst 1, 1), (12, .goto 4, 3), (15, .iconst 0, 1), (16, .ireturn, 1)] = true := by decide +kernel
theorem d_K_hasPedal_0 : decode mK_hasPedal.2.1 0 = .ok (.aload_n 0, 1) := dq_get dd_K_hasPedal_0 (i := 0) rfl
theorem d_K_hasPedal_1 : decode mK_hasPedal.2.1 1 = .ok (.getfield 62, 3) := dq_get dd_K_hasPedal_0 (i := 1) rfl
theorem d_K_hasPedal_4 : decode mK_hasPedal.2.1 4 = .ok (.iload_n 1, 1) := dq_get dd_K_hasPedal_0 (i := 2) rfl
theorem d_K_hasPedal_5 : decode mK_hasPedal.2.1 5 = .ok (.ishr, 1) := dq_get dd_K_hasPedal_0 (i := 3) rfl
theorem d_K_hasPedal_6 : decode mK_hasPedal.2.1 6 = .ok (.iconst 1, 1) := dq_get dd_K_hasPedal_0 (i := 4) rfl
theorem d_K_hasPedal_7 : decode mK_hasPedal.2.1 7 = .ok (.iand, 1) := dq_get dd_K_hasPedal_0 (i := 5) rfl
theorem d_K_hasPedal_8 : decode mK_hasPedal.2.1 8 = .ok (.ifCond .eq 7, 3) := dq_get dd_K_hasPedal_0 (i := 6) rfl
theorem d_K_hasPedal_11 : decode mK_hasPedal.2.1 11 = .ok (.iconst 1, 1) := dq_get dd_K_hasPedal_0 (i := 7) rfl
theorem d_K_hasPedal_12 : decode mK_hasPedal.2.1 12 = .ok (.goto 4, 3) := dq_get dd_K_hasPedal_0 (i := 8) rfl
theorem d_K_hasPedal_15 : decode mK_hasPedal.2.1 15 = .ok (.iconst 0, 1) := dq_get dd_K_hasPedal_0 (i := 9) rfl
theorem d_K_hasPedal_16 : decode mK_hasPedal.2.1 16 = .ok (.ireturn, 1) := dq_get dd_K_hasPedal_0 (i := 10) rfl
theorem dd_K_timelySince_0 : dq mK_timelySince.2.1 [(0, .iconst 0, 1), (1, .istore_n 3, 1), (2, .iconst 0, 1), (3, .istore 4, 2), (5, .iload 4, 2), (7, .aload_n 0, 1), (8, .getfield 34, 3), (11, .if_icmp .ge 51, 3), (14, .aload_n 0, 1), (15, .getfield 15, 3), (18, .iload 4, 2), (20, .iaload, 1), (21, .istore 5, 2), (23, .iload 5, 2), (25, .iload_n 1, 1), (26, .if_icmp .lt 30, 3), (29, .iload 5, 2), (31, .iload_n 2, 1), (32, .if_icmp .gt 24, 3), (35, .iload_n 2, 1), (36, .iload 5, 2), (38, .aload_n 0, 1), (39, .getfield 18, 3), (42, .iload 4, 2), (44, .iaload, 1), (45, .iadd, 1), (46, .if_icmp .ge 10, 3), (49, .iload_n 3, 1), (50, .iconst 1, 1), (51, .iload 4, 2), (53, .ishl, 1), (54, .ior, 1)] = true := by decide +kernel
theorem d_K_timelySince_0 : decode mK_timelySince.2.1 0 = .ok (.iconst 0, 1) := dq_get dd_K_timelySince_0 (i := 0) rfl
theorem d_K_timelySince_1 : decode mK_timelySince.2.1 1 = .ok (.istore_n 3, 1) := dq_get dd_K_timelySince_0 (i := 1) rfl
theorem d_K_timelySince_2 : decode mK_timelySince.2.1 2 = .ok (.iconst 0, 1) := dq_get dd_K_timelySince_0 (i := 2) rfl
theorem d_K_timelySince_3 : decode mK_timelySince.2.1 3 = .ok (.istore 4, 2) := dq_get dd_K_timelySince_0 (i := 3) rfl
theorem d_K_timelySince_5 : decode mK_timelySince.2.1 5 = .ok (.iload 4, 2) := dq_get dd_K_timelySince_0 (i := 4) rfl
theorem d_K_timelySince_7 : decode mK_timelySince.2.1 7 = .ok (.aload_n 0, 1) := dq_get dd_K_timelySince_0 (i := 5) rfl
theorem d_K_timelySince_8 : decode mK_timelySince.2.1 8 = .ok (.getfield 34, 3) := dq_get dd_K_timelySince_0 (i := 6) rfl
theorem d_K_timelySince_11 : decode mK_timelySince.2.1 11 = .ok (.if_icmp .ge 51, 3) := dq_get dd_K_timelySince_0 (i := 7) rfl
theorem d_K_timelySince_14 : decode mK_timelySince.2.1 14 = .ok (.aload_n 0, 1) := dq_get dd_K_timelySince_0 (i := 8) rfl
theorem d_K_timelySince_15 : decode mK_timelySince.2.1 15 = .ok (.getfield 15, 3) := dq_get dd_K_timelySince_0 (i := 9) rfl
theorem d_K_timelySince_18 : decode mK_timelySince.2.1 18 = .ok (.iload 4, 2) := dq_get dd_K_timelySince_0 (i := 10) rfl
theorem d_K_timelySince_20 : decode mK_timelySince.2.1 20 = .ok (.iaload, 1) := dq_get dd_K_timelySince_0 (i := 11) rfl
theorem d_K_timelySince_21 : decode mK_timelySince.2.1 21 = .ok (.istore 5, 2) := dq_get dd_K_timelySince_0 (i := 12) rfl
theorem d_K_timelySince_23 : decode mK_timelySince.2.1 23 = .ok (.iload 5, 2) := dq_get dd_K_timelySince_0 (i := 13) rfl
theorem d_K_timelySince_25 : decode mK_timelySince.2.1 25 = .ok (.iload_n 1, 1) := dq_get dd_K_timelySince_0 (i := 14) rfl
theorem d_K_timelySince_26 : decode mK_timelySince.2.1 26 = .ok (.if_icmp .lt 30, 3) := dq_get dd_K_timelySince_0 (i := 15) rfl
theorem d_K_timelySince_29 : decode mK_timelySince.2.1 29 = .ok (.iload 5, 2) := dq_get dd_K_timelySince_0 (i := 16) rfl
theorem d_K_timelySince_31 : decode mK_timelySince.2.1 31 = .ok (.iload_n 2, 1) := dq_get dd_K_timelySince_0 (i := 17) rfl
theorem d_K_timelySince_32 : decode mK_timelySince.2.1 32 = .ok (.if_icmp .gt 24, 3) := dq_get dd_K_timelySince_0 (i := 18) rfl
theorem d_K_timelySince_35 : decode mK_timelySince.2.1 35 = .ok (.iload_n 2, 1) := dq_get dd_K_timelySince_0 (i := 19) rfl
theorem d_K_timelySince_36 : decode mK_timelySince.2.1 36 = .ok (.iload 5, 2) := dq_get dd_K_timelySince_0 (i := 20) rfl
theorem d_K_timelySince_38 : decode mK_timelySince.2.1 38 = .ok (.aload_n 0, 1) := dq_get dd_K_timelySince_0 (i := 21) rfl
theorem d_K_timelySince_39 : decode mK_timelySince.2.1 39 = .ok (.getfield 18, 3) := dq_get dd_K_timelySince_0 (i := 22) rfl
theorem d_K_timelySince_42 : decode mK_timelySince.2.1 42 = .ok (.iload 4, 2) := dq_get dd_K_timelySince_0 (i := 23) rfl
theorem d_K_timelySince_44 : decode mK_timelySince.2.1 44 = .ok (.iaload, 1) := dq_get dd_K_timelySince_0 (i := 24) rfl
theorem d_K_timelySince_45 : decode mK_timelySince.2.1 45 = .ok (.iadd, 1) := dq_get dd_K_timelySince_0 (i := 25) rfl
theorem d_K_timelySince_46 : decode mK_timelySince.2.1 46 = .ok (.if_icmp .ge 10, 3) := dq_get dd_K_timelySince_0 (i := 26) rfl
theorem d_K_timelySince_49 : decode mK_timelySince.2.1 49 = .ok (.iload_n 3, 1) := dq_get dd_K_timelySince_0 (i := 27) rfl
theorem d_K_timelySince_50 : decode mK_timelySince.2.1 50 = .ok (.iconst 1, 1) := dq_get dd_K_timelySince_0 (i := 28) rfl
theorem d_K_timelySince_51 : decode mK_timelySince.2.1 51 = .ok (.iload 4, 2) := dq_get dd_K_timelySince_0 (i := 29) rfl
theorem d_K_timelySince_53 : decode mK_timelySince.2.1 53 = .ok (.ishl, 1) := dq_get dd_K_timelySince_0 (i := 30) rfl
theorem d_K_timelySince_54 : decode mK_timelySince.2.1 54 = .ok (.ior, 1) := dq_get dd_K_timelySince_0 (i := 31) rfl
theorem dd_K_timelySince_32 : dq mK_timelySince.2.1 [(55, .istore_n 3, 1), (56, .iinc 4 1, 3), (59, .goto (-54), 3), (62, .iload_n 3, 1), (63, .ireturn, 1)] = true := by decide +kernel
theorem d_K_timelySince_55 : decode mK_timelySince.2.1 55 = .ok (.istore_n 3, 1) := dq_get dd_K_timelySince_32 (i := 0) rfl
theorem d_K_timelySince_56 : decode mK_timelySince.2.1 56 = .ok (.iinc 4 1, 3) := dq_get dd_K_timelySince_32 (i := 1) rfl
theorem d_K_timelySince_59 : decode mK_timelySince.2.1 59 = .ok (.goto (-54), 3) := dq_get dd_K_timelySince_32 (i := 2) rfl
theorem d_K_timelySince_62 : decode mK_timelySince.2.1 62 = .ok (.iload_n 3, 1) := dq_get dd_K_timelySince_32 (i := 3) rfl
theorem d_K_timelySince_63 : decode mK_timelySince.2.1 63 = .ok (.ireturn, 1) := dq_get dd_K_timelySince_32 (i := 4) rfl
theorem dd_K_heldBy_0 : dq mK_heldBy.2.1 [(0, .aload_n 0, 1), (1, .iload_n 1, 1), (2, .invokevirtual 74, 3), (5, .aload_n 0, 1), (6, .iload_n 2, 1), (7, .invokevirtual 75, 3), (10, .iand, 1), (11, .ireturn, 1)] = true := by decide +kernel
theorem d_K_heldBy_0 : decode mK_heldBy.2.1 0 = .ok (.aload_n 0, 1) := dq_get dd_K_heldBy_0 (i := 0) rfl
theorem d_K_heldBy_1 : decode mK_heldBy.2.1 1 = .ok (.iload_n 1, 1) := dq_get dd_K_heldBy_0 (i := 1) rfl
theorem d_K_heldBy_2 : decode mK_heldBy.2.1 2 = .ok (.invokevirtual 74, 3) := dq_get dd_K_heldBy_0 (i := 2) rfl
theorem d_K_heldBy_5 : decode mK_heldBy.2.1 5 = .ok (.aload_n 0, 1) := dq_get dd_K_heldBy_0 (i := 3) rfl
theorem d_K_heldBy_6 : decode mK_heldBy.2.1 6 = .ok (.iload_n 2, 1) := dq_get dd_K_heldBy_0 (i := 4) rfl
theorem d_K_heldBy_7 : decode mK_heldBy.2.1 7 = .ok (.invokevirtual 75, 3) := dq_get dd_K_heldBy_0 (i := 5) rfl
theorem d_K_heldBy_10 : decode mK_heldBy.2.1 10 = .ok (.iand, 1) := dq_get dd_K_heldBy_0 (i := 6) rfl
theorem d_K_heldBy_11 : decode mK_heldBy.2.1 11 = .ok (.ireturn, 1) := dq_get dd_K_heldBy_0 (i := 7) rfl
theorem dd_K_setOf_0 : dq mK_setOf.2.1 [(0, .iload_n 1, 1), (1, .iconst 1, 1), (2, .if_icmp .ne 10, 3), (5, .aload_n 0, 1), (6, .getfield 53, 3), (9, .goto 7, 3), (12, .aload_n 0, 1), (13, .getfield 56, 3), (16, .ireturn, 1)] = true := by decide +kernel
theorem d_K_setOf_0 : decode mK_setOf.2.1 0 = .ok (.iload_n 1, 1) := dq_get dd_K_setOf_0 (i := 0) rfl
theorem d_K_setOf_1 : decode mK_setOf.2.1 1 = .ok (.iconst 1, 1) := dq_get dd_K_setOf_0 (i := 1) rfl
theorem d_K_setOf_2 : decode mK_setOf.2.1 2 = .ok (.if_icmp .ne 10, 3) := dq_get dd_K_setOf_0 (i := 2) rfl
theorem d_K_setOf_5 : decode mK_setOf.2.1 5 = .ok (.aload_n 0, 1) := dq_get dd_K_setOf_0 (i := 3) rfl
theorem d_K_setOf_6 : decode mK_setOf.2.1 6 = .ok (.getfield 53, 3) := dq_get dd_K_setOf_0 (i := 4) rfl
theorem d_K_setOf_9 : decode mK_setOf.2.1 9 = .ok (.goto 7, 3) := dq_get dd_K_setOf_0 (i := 5) rfl
theorem d_K_setOf_12 : decode mK_setOf.2.1 12 = .ok (.aload_n 0, 1) := dq_get dd_K_setOf_0 (i := 6) rfl
theorem d_K_setOf_13 : decode mK_setOf.2.1 13 = .ok (.getfield 56, 3) := dq_get dd_K_setOf_0 (i := 7) rfl
theorem d_K_setOf_16 : decode mK_setOf.2.1 16 = .ok (.ireturn, 1) := dq_get dd_K_setOf_0 (i := 8) rfl
theorem dd_K_timelyAt_0 : dq mK_timelyAt.2.1 [(0, .iload_n 1, 1), (1, .ifCond .lt 26, 3), (4, .iload_n 1, 1), (5, .aload_n 0, 1), (6, .getfield 30, 3), (9, .if_icmp .ge 18, 3), (12, .iload_n 1, 1), (13, .bipush 12, 2), (15, .if_icmp .ge 12, 3), (18, .aload_n 0, 1), (19, .getfield 21, 3), (22, .iload_n 1, 1), (23, .iaload, 1), (24, .goto 4, 3), (27, .iconst 0, 1), (28, .ireturn, 1)] = true := by decide +kernel
theorem d_K_timelyAt_0 : decode mK_timelyAt.2.1 0 = .ok (.iload_n 1, 1) := dq_get dd_K_timelyAt_0 (i := 0) rfl
theorem d_K_timelyAt_1 : decode mK_timelyAt.2.1 1 = .ok (.ifCond .lt 26, 3) := dq_get dd_K_timelyAt_0 (i := 1) rfl
theorem d_K_timelyAt_4 : decode mK_timelyAt.2.1 4 = .ok (.iload_n 1, 1) := dq_get dd_K_timelyAt_0 (i := 2) rfl
theorem d_K_timelyAt_5 : decode mK_timelyAt.2.1 5 = .ok (.aload_n 0, 1) := dq_get dd_K_timelyAt_0 (i := 3) rfl
theorem d_K_timelyAt_6 : decode mK_timelyAt.2.1 6 = .ok (.getfield 30, 3) := dq_get dd_K_timelyAt_0 (i := 4) rfl
theorem d_K_timelyAt_9 : decode mK_timelyAt.2.1 9 = .ok (.if_icmp .ge 18, 3) := dq_get dd_K_timelyAt_0 (i := 5) rfl
theorem d_K_timelyAt_12 : decode mK_timelyAt.2.1 12 = .ok (.iload_n 1, 1) := dq_get dd_K_timelyAt_0 (i := 6) rfl
theorem d_K_timelyAt_13 : decode mK_timelyAt.2.1 13 = .ok (.bipush 12, 2) := dq_get dd_K_timelyAt_0 (i := 7) rfl
theorem d_K_timelyAt_15 : decode mK_timelyAt.2.1 15 = .ok (.if_icmp .ge 12, 3) := dq_get dd_K_timelyAt_0 (i := 8) rfl
theorem d_K_timelyAt_18 : decode mK_timelyAt.2.1 18 = .ok (.aload_n 0, 1) := dq_get dd_K_timelyAt_0 (i := 9) rfl
theorem d_K_timelyAt_19 : decode mK_timelyAt.2.1 19 = .ok (.getfield 21, 3) := dq_get dd_K_timelyAt_0 (i := 10) rfl
theorem d_K_timelyAt_22 : decode mK_timelyAt.2.1 22 = .ok (.iload_n 1, 1) := dq_get dd_K_timelyAt_0 (i := 11) rfl
theorem d_K_timelyAt_23 : decode mK_timelyAt.2.1 23 = .ok (.iaload, 1) := dq_get dd_K_timelyAt_0 (i := 12) rfl
theorem d_K_timelyAt_24 : decode mK_timelyAt.2.1 24 = .ok (.goto 4, 3) := dq_get dd_K_timelyAt_0 (i := 13) rfl
theorem d_K_timelyAt_27 : decode mK_timelyAt.2.1 27 = .ok (.iconst 0, 1) := dq_get dd_K_timelyAt_0 (i := 14) rfl
theorem d_K_timelyAt_28 : decode mK_timelyAt.2.1 28 = .ok (.ireturn, 1) := dq_get dd_K_timelyAt_0 (i := 15) rfl
theorem dd_K_soundingAt_0 : dq mK_soundingAt.2.1 [(0, .iconst 0, 1), (1, .istore_n 2, 1), (2, .iconst 0, 1), (3, .istore_n 3, 1), (4, .iload_n 3, 1), (5, .iload_n 1, 1), (6, .if_icmp .gt 37, 3), (9, .iload_n 3, 1), (10, .aload_n 0, 1), (11, .getfield 30, 3), (14, .if_icmp .ge 29, 3), (17, .aload_n 0, 1), (18, .iload_n 3, 1), (19, .invokevirtual 75, 3), (22, .aload_n 0, 1), (23, .iload_n 3, 1), (24, .invokevirtual 66, 3), (27, .ifCond .eq 7, 3), (30, .iload_n 2, 1), (31, .goto 4, 3), (34, .iconst 0, 1), (35, .ior, 1), (36, .istore_n 2, 1), (37, .iinc 3 1, 3), (40, .goto (-36), 3), (43, .iload_n 2, 1), (44, .aload_n 0, 1), (45, .getfield 53, 3), (48, .aload_n 0, 1), (49, .getfield 56, 3), (52, .ior, 1), (53, .iand, 1)] = true := by decide +kernel
theorem d_K_soundingAt_0 : decode mK_soundingAt.2.1 0 = .ok (.iconst 0, 1) := dq_get dd_K_soundingAt_0 (i := 0) rfl
theorem d_K_soundingAt_1 : decode mK_soundingAt.2.1 1 = .ok (.istore_n 2, 1) := dq_get dd_K_soundingAt_0 (i := 1) rfl
theorem d_K_soundingAt_2 : decode mK_soundingAt.2.1 2 = .ok (.iconst 0, 1) := dq_get dd_K_soundingAt_0 (i := 2) rfl
theorem d_K_soundingAt_3 : decode mK_soundingAt.2.1 3 = .ok (.istore_n 3, 1) := dq_get dd_K_soundingAt_0 (i := 3) rfl
theorem d_K_soundingAt_4 : decode mK_soundingAt.2.1 4 = .ok (.iload_n 3, 1) := dq_get dd_K_soundingAt_0 (i := 4) rfl
theorem d_K_soundingAt_5 : decode mK_soundingAt.2.1 5 = .ok (.iload_n 1, 1) := dq_get dd_K_soundingAt_0 (i := 5) rfl
theorem d_K_soundingAt_6 : decode mK_soundingAt.2.1 6 = .ok (.if_icmp .gt 37, 3) := dq_get dd_K_soundingAt_0 (i := 6) rfl
theorem d_K_soundingAt_9 : decode mK_soundingAt.2.1 9 = .ok (.iload_n 3, 1) := dq_get dd_K_soundingAt_0 (i := 7) rfl
theorem d_K_soundingAt_10 : decode mK_soundingAt.2.1 10 = .ok (.aload_n 0, 1) := dq_get dd_K_soundingAt_0 (i := 8) rfl
theorem d_K_soundingAt_11 : decode mK_soundingAt.2.1 11 = .ok (.getfield 30, 3) := dq_get dd_K_soundingAt_0 (i := 9) rfl
theorem d_K_soundingAt_14 : decode mK_soundingAt.2.1 14 = .ok (.if_icmp .ge 29, 3) := dq_get dd_K_soundingAt_0 (i := 10) rfl
theorem d_K_soundingAt_17 : decode mK_soundingAt.2.1 17 = .ok (.aload_n 0, 1) := dq_get dd_K_soundingAt_0 (i := 11) rfl
theorem d_K_soundingAt_18 : decode mK_soundingAt.2.1 18 = .ok (.iload_n 3, 1) := dq_get dd_K_soundingAt_0 (i := 12) rfl
theorem d_K_soundingAt_19 : decode mK_soundingAt.2.1 19 = .ok (.invokevirtual 75, 3) := dq_get dd_K_soundingAt_0 (i := 13) rfl
theorem d_K_soundingAt_22 : decode mK_soundingAt.2.1 22 = .ok (.aload_n 0, 1) := dq_get dd_K_soundingAt_0 (i := 14) rfl
theorem d_K_soundingAt_23 : decode mK_soundingAt.2.1 23 = .ok (.iload_n 3, 1) := dq_get dd_K_soundingAt_0 (i := 15) rfl
theorem d_K_soundingAt_24 : decode mK_soundingAt.2.1 24 = .ok (.invokevirtual 66, 3) := dq_get dd_K_soundingAt_0 (i := 16) rfl
theorem d_K_soundingAt_27 : decode mK_soundingAt.2.1 27 = .ok (.ifCond .eq 7, 3) := dq_get dd_K_soundingAt_0 (i := 17) rfl
theorem d_K_soundingAt_30 : decode mK_soundingAt.2.1 30 = .ok (.iload_n 2, 1) := dq_get dd_K_soundingAt_0 (i := 18) rfl
theorem d_K_soundingAt_31 : decode mK_soundingAt.2.1 31 = .ok (.goto 4, 3) := dq_get dd_K_soundingAt_0 (i := 19) rfl
theorem d_K_soundingAt_34 : decode mK_soundingAt.2.1 34 = .ok (.iconst 0, 1) := dq_get dd_K_soundingAt_0 (i := 20) rfl
theorem d_K_soundingAt_35 : decode mK_soundingAt.2.1 35 = .ok (.ior, 1) := dq_get dd_K_soundingAt_0 (i := 21) rfl
theorem d_K_soundingAt_36 : decode mK_soundingAt.2.1 36 = .ok (.istore_n 2, 1) := dq_get dd_K_soundingAt_0 (i := 22) rfl
theorem d_K_soundingAt_37 : decode mK_soundingAt.2.1 37 = .ok (.iinc 3 1, 3) := dq_get dd_K_soundingAt_0 (i := 23) rfl
theorem d_K_soundingAt_40 : decode mK_soundingAt.2.1 40 = .ok (.goto (-36), 3) := dq_get dd_K_soundingAt_0 (i := 24) rfl
theorem d_K_soundingAt_43 : decode mK_soundingAt.2.1 43 = .ok (.iload_n 2, 1) := dq_get dd_K_soundingAt_0 (i := 25) rfl
theorem d_K_soundingAt_44 : decode mK_soundingAt.2.1 44 = .ok (.aload_n 0, 1) := dq_get dd_K_soundingAt_0 (i := 26) rfl
theorem d_K_soundingAt_45 : decode mK_soundingAt.2.1 45 = .ok (.getfield 53, 3) := dq_get dd_K_soundingAt_0 (i := 27) rfl
theorem d_K_soundingAt_48 : decode mK_soundingAt.2.1 48 = .ok (.aload_n 0, 1) := dq_get dd_K_soundingAt_0 (i := 28) rfl
theorem d_K_soundingAt_49 : decode mK_soundingAt.2.1 49 = .ok (.getfield 56, 3) := dq_get dd_K_soundingAt_0 (i := 29) rfl
theorem d_K_soundingAt_52 : decode mK_soundingAt.2.1 52 = .ok (.ior, 1) := dq_get dd_K_soundingAt_0 (i := 30) rfl
theorem d_K_soundingAt_53 : decode mK_soundingAt.2.1 53 = .ok (.iand, 1) := dq_get dd_K_soundingAt_0 (i := 31) rfl
theorem dd_K_soundingAt_32 : dq mK_soundingAt.2.1 [(54, .ireturn, 1)] = true := by decide +kernel
theorem d_K_soundingAt_54 : decode mK_soundingAt.2.1 54 = .ok (.ireturn, 1) := dq_get dd_K_soundingAt_32 (i := 0) rfl
theorem dd_K_clashesAt_0 : dq mK_clashesAt.2.1 [(0, .aload_n 0, 1), (1, .iload_n 1, 1), (2, .iload_n 2, 1), (3, .aload_n 0, 1), (4, .iload_n 3, 1), (5, .iconst 1, 1), (6, .isub, 1), (7, .invokevirtual 75, 3), (10, .aload_n 0, 1), (11, .iload_n 3, 1), (12, .invokevirtual 75, 3), (15, .invokevirtual 100, 3), (18, .ireturn, 1)] = true := by decide +kernel
theorem d_K_clashesAt_0 : decode mK_clashesAt.2.1 0 = .ok (.aload_n 0, 1) := dq_get dd_K_clashesAt_0 (i := 0) rfl
theorem d_K_clashesAt_1 : decode mK_clashesAt.2.1 1 = .ok (.iload_n 1, 1) := dq_get dd_K_clashesAt_0 (i := 1) rfl
theorem d_K_clashesAt_2 : decode mK_clashesAt.2.1 2 = .ok (.iload_n 2, 1) := dq_get dd_K_clashesAt_0 (i := 2) rfl
theorem d_K_clashesAt_3 : decode mK_clashesAt.2.1 3 = .ok (.aload_n 0, 1) := dq_get dd_K_clashesAt_0 (i := 3) rfl
theorem d_K_clashesAt_4 : decode mK_clashesAt.2.1 4 = .ok (.iload_n 3, 1) := dq_get dd_K_clashesAt_0 (i := 4) rfl
theorem d_K_clashesAt_5 : decode mK_clashesAt.2.1 5 = .ok (.iconst 1, 1) := dq_get dd_K_clashesAt_0 (i := 5) rfl
theorem d_K_clashesAt_6 : decode mK_clashesAt.2.1 6 = .ok (.isub, 1) := dq_get dd_K_clashesAt_0 (i := 6) rfl
theorem d_K_clashesAt_7 : decode mK_clashesAt.2.1 7 = .ok (.invokevirtual 75, 3) := dq_get dd_K_clashesAt_0 (i := 7) rfl
theorem d_K_clashesAt_10 : decode mK_clashesAt.2.1 10 = .ok (.aload_n 0, 1) := dq_get dd_K_clashesAt_0 (i := 8) rfl
theorem d_K_clashesAt_11 : decode mK_clashesAt.2.1 11 = .ok (.iload_n 3, 1) := dq_get dd_K_clashesAt_0 (i := 9) rfl
theorem d_K_clashesAt_12 : decode mK_clashesAt.2.1 12 = .ok (.invokevirtual 75, 3) := dq_get dd_K_clashesAt_0 (i := 10) rfl
theorem d_K_clashesAt_15 : decode mK_clashesAt.2.1 15 = .ok (.invokevirtual 100, 3) := dq_get dd_K_clashesAt_0 (i := 11) rfl
theorem d_K_clashesAt_18 : decode mK_clashesAt.2.1 18 = .ok (.ireturn, 1) := dq_get dd_K_clashesAt_0 (i := 12) rfl
theorem dd_K_clashesBetween_0 : dq mK_clashesBetween.2.1 [(0, .iload_n 1, 1), (1, .iload 4, 2), (3, .iand, 1), (4, .istore 5, 2), (6, .iload_n 2, 1), (7, .iload 4, 2), (9, .iand, 1), (10, .istore 6, 2), (12, .aload_n 0, 1), (13, .iload_n 1, 1), (14, .iload_n 3, 1), (15, .iand, 1), (16, .iload 5, 2), (18, .invokevirtual 94, 3), (21, .aload_n 0, 1), (22, .iload_n 2, 1), (23, .iload_n 3, 1), (24, .iand, 1), (25, .iload 6, 2), (27, .invokevirtual 94, 3), (30, .ior, 1), (31, .istore 7, 2), (33, .iload 5, 2), (35, .ifCond .eq 29, 3), (38, .iload 6, 2), (40, .ifCond .eq 24, 3), (43, .aload_n 0, 1), (44, .iload 5, 2), (46, .invokevirtual 78, 3), (49, .aload_n 0, 1), (50, .iload 6, 2), (52, .invokevirtual 81, 3)] = true := by decide +kernel
theorem d_K_clashesBetween_0 : decode mK_clashesBetween.2.1 0 = .ok (.iload_n 1, 1) := dq_get dd_K_clashesBetween_0 (i := 0) rfl
theorem d_K_clashesBetween_1 : decode mK_clashesBetween.2.1 1 = .ok (.iload 4, 2) := dq_get dd_K_clashesBetween_0 (i := 1) rfl
theorem d_K_clashesBetween_3 : decode mK_clashesBetween.2.1 3 = .ok (.iand, 1) := dq_get dd_K_clashesBetween_0 (i := 2) rfl
theorem d_K_clashesBetween_4 : decode mK_clashesBetween.2.1 4 = .ok (.istore 5, 2) := dq_get dd_K_clashesBetween_0 (i := 3) rfl
theorem d_K_clashesBetween_6 : decode mK_clashesBetween.2.1 6 = .ok (.iload_n 2, 1) := dq_get dd_K_clashesBetween_0 (i := 4) rfl
theorem d_K_clashesBetween_7 : decode mK_clashesBetween.2.1 7 = .ok (.iload 4, 2) := dq_get dd_K_clashesBetween_0 (i := 5) rfl
theorem d_K_clashesBetween_9 : decode mK_clashesBetween.2.1 9 = .ok (.iand, 1) := dq_get dd_K_clashesBetween_0 (i := 6) rfl
theorem d_K_clashesBetween_10 : decode mK_clashesBetween.2.1 10 = .ok (.istore 6, 2) := dq_get dd_K_clashesBetween_0 (i := 7) rfl
theorem d_K_clashesBetween_12 : decode mK_clashesBetween.2.1 12 = .ok (.aload_n 0, 1) := dq_get dd_K_clashesBetween_0 (i := 8) rfl
theorem d_K_clashesBetween_13 : decode mK_clashesBetween.2.1 13 = .ok (.iload_n 1, 1) := dq_get dd_K_clashesBetween_0 (i := 9) rfl
theorem d_K_clashesBetween_14 : decode mK_clashesBetween.2.1 14 = .ok (.iload_n 3, 1) := dq_get dd_K_clashesBetween_0 (i := 10) rfl
theorem d_K_clashesBetween_15 : decode mK_clashesBetween.2.1 15 = .ok (.iand, 1) := dq_get dd_K_clashesBetween_0 (i := 11) rfl
theorem d_K_clashesBetween_16 : decode mK_clashesBetween.2.1 16 = .ok (.iload 5, 2) := dq_get dd_K_clashesBetween_0 (i := 12) rfl
theorem d_K_clashesBetween_18 : decode mK_clashesBetween.2.1 18 = .ok (.invokevirtual 94, 3) := dq_get dd_K_clashesBetween_0 (i := 13) rfl
theorem d_K_clashesBetween_21 : decode mK_clashesBetween.2.1 21 = .ok (.aload_n 0, 1) := dq_get dd_K_clashesBetween_0 (i := 14) rfl
theorem d_K_clashesBetween_22 : decode mK_clashesBetween.2.1 22 = .ok (.iload_n 2, 1) := dq_get dd_K_clashesBetween_0 (i := 15) rfl
theorem d_K_clashesBetween_23 : decode mK_clashesBetween.2.1 23 = .ok (.iload_n 3, 1) := dq_get dd_K_clashesBetween_0 (i := 16) rfl
theorem d_K_clashesBetween_24 : decode mK_clashesBetween.2.1 24 = .ok (.iand, 1) := dq_get dd_K_clashesBetween_0 (i := 17) rfl
theorem d_K_clashesBetween_25 : decode mK_clashesBetween.2.1 25 = .ok (.iload 6, 2) := dq_get dd_K_clashesBetween_0 (i := 18) rfl
theorem d_K_clashesBetween_27 : decode mK_clashesBetween.2.1 27 = .ok (.invokevirtual 94, 3) := dq_get dd_K_clashesBetween_0 (i := 19) rfl
theorem d_K_clashesBetween_30 : decode mK_clashesBetween.2.1 30 = .ok (.ior, 1) := dq_get dd_K_clashesBetween_0 (i := 20) rfl
theorem d_K_clashesBetween_31 : decode mK_clashesBetween.2.1 31 = .ok (.istore 7, 2) := dq_get dd_K_clashesBetween_0 (i := 21) rfl
theorem d_K_clashesBetween_33 : decode mK_clashesBetween.2.1 33 = .ok (.iload 5, 2) := dq_get dd_K_clashesBetween_0 (i := 22) rfl
theorem d_K_clashesBetween_35 : decode mK_clashesBetween.2.1 35 = .ok (.ifCond .eq 29, 3) := dq_get dd_K_clashesBetween_0 (i := 23) rfl
theorem d_K_clashesBetween_38 : decode mK_clashesBetween.2.1 38 = .ok (.iload 6, 2) := dq_get dd_K_clashesBetween_0 (i := 24) rfl
theorem d_K_clashesBetween_40 : decode mK_clashesBetween.2.1 40 = .ok (.ifCond .eq 24, 3) := dq_get dd_K_clashesBetween_0 (i := 25) rfl
theorem d_K_clashesBetween_43 : decode mK_clashesBetween.2.1 43 = .ok (.aload_n 0, 1) := dq_get dd_K_clashesBetween_0 (i := 26) rfl
theorem d_K_clashesBetween_44 : decode mK_clashesBetween.2.1 44 = .ok (.iload 5, 2) := dq_get dd_K_clashesBetween_0 (i := 27) rfl
theorem d_K_clashesBetween_46 : decode mK_clashesBetween.2.1 46 = .ok (.invokevirtual 78, 3) := dq_get dd_K_clashesBetween_0 (i := 28) rfl
theorem d_K_clashesBetween_49 : decode mK_clashesBetween.2.1 49 = .ok (.aload_n 0, 1) := dq_get dd_K_clashesBetween_0 (i := 29) rfl
theorem d_K_clashesBetween_50 : decode mK_clashesBetween.2.1 50 = .ok (.iload 6, 2) := dq_get dd_K_clashesBetween_0 (i := 30) rfl
theorem d_K_clashesBetween_52 : decode mK_clashesBetween.2.1 52 = .ok (.invokevirtual 81, 3) := dq_get dd_K_clashesBetween_0 (i := 31) rfl
theorem dd_K_clashesBetween_32 : dq mK_clashesBetween.2.1 [(55, .if_icmp .lt 9, 3), (58, .iload 7, 2), (60, .iconst 4, 1), (61, .ior, 1), (62, .istore 7, 2), (64, .iload 7, 2), (66, .aload_n 0, 1), (67, .iload 5, 2), (69, .iload 6, 2), (71, .ior, 1), (72, .invokevirtual 97, 3), (75, .ifCond .eq 8, 3), (78, .bipush 8, 2), (80, .goto 4, 3), (83, .iconst 0, 1), (84, .ior, 1), (85, .ireturn, 1)] = true := by decide +kernel
theorem d_K_clashesBetween_55 : decode mK_clashesBetween.2.1 55 = .ok (.if_icmp .lt 9, 3) := dq_get dd_K_clashesBetween_32 (i := 0) rfl
theorem d_K_clashesBetween_58 : decode mK_clashesBetween.2.1 58 = .ok (.iload 7, 2) := dq_get dd_K_clashesBetween_32 (i := 1) rfl
theorem d_K_clashesBetween_60 : decode mK_clashesBetween.2.1 60 = .ok (.iconst 4, 1) := dq_get dd_K_clashesBetween_32 (i := 2) rfl
theorem d_K_clashesBetween_61 : decode mK_clashesBetween.2.1 61 = .ok (.ior, 1) := dq_get dd_K_clashesBetween_32 (i := 3) rfl
theorem d_K_clashesBetween_62 : decode mK_clashesBetween.2.1 62 = .ok (.istore 7, 2) := dq_get dd_K_clashesBetween_32 (i := 4) rfl
theorem d_K_clashesBetween_64 : decode mK_clashesBetween.2.1 64 = .ok (.iload 7, 2) := dq_get dd_K_clashesBetween_32 (i := 5) rfl
theorem d_K_clashesBetween_66 : decode mK_clashesBetween.2.1 66 = .ok (.aload_n 0, 1) := dq_get dd_K_clashesBetween_32 (i := 6) rfl
theorem d_K_clashesBetween_67 : decode mK_clashesBetween.2.1 67 = .ok (.iload 5, 2) := dq_get dd_K_clashesBetween_32 (i := 7) rfl
theorem d_K_clashesBetween_69 : decode mK_clashesBetween.2.1 69 = .ok (.iload 6, 2) := dq_get dd_K_clashesBetween_32 (i := 8) rfl
theorem d_K_clashesBetween_71 : decode mK_clashesBetween.2.1 71 = .ok (.ior, 1) := dq_get dd_K_clashesBetween_32 (i := 9) rfl
theorem d_K_clashesBetween_72 : decode mK_clashesBetween.2.1 72 = .ok (.invokevirtual 97, 3) := dq_get dd_K_clashesBetween_32 (i := 10) rfl
theorem d_K_clashesBetween_75 : decode mK_clashesBetween.2.1 75 = .ok (.ifCond .eq 8, 3) := dq_get dd_K_clashesBetween_32 (i := 11) rfl
theorem d_K_clashesBetween_78 : decode mK_clashesBetween.2.1 78 = .ok (.bipush 8, 2) := dq_get dd_K_clashesBetween_32 (i := 12) rfl
theorem d_K_clashesBetween_80 : decode mK_clashesBetween.2.1 80 = .ok (.goto 4, 3) := dq_get dd_K_clashesBetween_32 (i := 13) rfl
theorem d_K_clashesBetween_83 : decode mK_clashesBetween.2.1 83 = .ok (.iconst 0, 1) := dq_get dd_K_clashesBetween_32 (i := 14) rfl
theorem d_K_clashesBetween_84 : decode mK_clashesBetween.2.1 84 = .ok (.ior, 1) := dq_get dd_K_clashesBetween_32 (i := 15) rfl
theorem d_K_clashesBetween_85 : decode mK_clashesBetween.2.1 85 = .ok (.ireturn, 1) := dq_get dd_K_clashesBetween_32 (i := 16) rfl
theorem dd_K_clashesOfHand_0 : dq mK_clashesOfHand.2.1 [(0, .iload_n 2, 1), (1, .ifCond .ne 5, 3), (4, .iconst 0, 1), (5, .ireturn, 1), (6, .aload_n 0, 1), (7, .iload_n 2, 1), (8, .invokevirtual 81, 3), (11, .istore_n 3, 1), (12, .iload_n 2, 1), (13, .invokestatic 89, 3), (16, .aload_n 0, 1), (17, .getfield 42, 3), (20, .if_icmp .le 7, 3), (23, .iconst 1, 1), (24, .goto 4, 3), (27, .iconst 0, 1), (28, .istore 4, 2), (30, .iload 4, 2), (32, .aload_n 0, 1), (33, .iload_n 2, 1), (34, .invokevirtual 78, 3), (37, .iload_n 3, 1), (38, .isub, 1), (39, .aload_n 0, 1), (40, .getfield 38, 3), (43, .if_icmp .le 7, 3), (46, .iconst 2, 1), (47, .goto 4, 3), (50, .iconst 0, 1), (51, .ior, 1), (52, .istore 4, 2), (54, .iload_n 1, 1)] = true := by decide +kernel
theorem d_K_clashesOfHand_0 : decode mK_clashesOfHand.2.1 0 = .ok (.iload_n 2, 1) := dq_get dd_K_clashesOfHand_0 (i := 0) rfl
theorem d_K_clashesOfHand_1 : decode mK_clashesOfHand.2.1 1 = .ok (.ifCond .ne 5, 3) := dq_get dd_K_clashesOfHand_0 (i := 1) rfl
theorem d_K_clashesOfHand_4 : decode mK_clashesOfHand.2.1 4 = .ok (.iconst 0, 1) := dq_get dd_K_clashesOfHand_0 (i := 2) rfl
theorem d_K_clashesOfHand_5 : decode mK_clashesOfHand.2.1 5 = .ok (.ireturn, 1) := dq_get dd_K_clashesOfHand_0 (i := 3) rfl
theorem d_K_clashesOfHand_6 : decode mK_clashesOfHand.2.1 6 = .ok (.aload_n 0, 1) := dq_get dd_K_clashesOfHand_0 (i := 4) rfl
theorem d_K_clashesOfHand_7 : decode mK_clashesOfHand.2.1 7 = .ok (.iload_n 2, 1) := dq_get dd_K_clashesOfHand_0 (i := 5) rfl
theorem d_K_clashesOfHand_8 : decode mK_clashesOfHand.2.1 8 = .ok (.invokevirtual 81, 3) := dq_get dd_K_clashesOfHand_0 (i := 6) rfl
theorem d_K_clashesOfHand_11 : decode mK_clashesOfHand.2.1 11 = .ok (.istore_n 3, 1) := dq_get dd_K_clashesOfHand_0 (i := 7) rfl
theorem d_K_clashesOfHand_12 : decode mK_clashesOfHand.2.1 12 = .ok (.iload_n 2, 1) := dq_get dd_K_clashesOfHand_0 (i := 8) rfl
theorem d_K_clashesOfHand_13 : decode mK_clashesOfHand.2.1 13 = .ok (.invokestatic 89, 3) := dq_get dd_K_clashesOfHand_0 (i := 9) rfl
theorem d_K_clashesOfHand_16 : decode mK_clashesOfHand.2.1 16 = .ok (.aload_n 0, 1) := dq_get dd_K_clashesOfHand_0 (i := 10) rfl
theorem d_K_clashesOfHand_17 : decode mK_clashesOfHand.2.1 17 = .ok (.getfield 42, 3) := dq_get dd_K_clashesOfHand_0 (i := 11) rfl
theorem d_K_clashesOfHand_20 : decode mK_clashesOfHand.2.1 20 = .ok (.if_icmp .le 7, 3) := dq_get dd_K_clashesOfHand_0 (i := 12) rfl
theorem d_K_clashesOfHand_23 : decode mK_clashesOfHand.2.1 23 = .ok (.iconst 1, 1) := dq_get dd_K_clashesOfHand_0 (i := 13) rfl
theorem d_K_clashesOfHand_24 : decode mK_clashesOfHand.2.1 24 = .ok (.goto 4, 3) := dq_get dd_K_clashesOfHand_0 (i := 14) rfl
theorem d_K_clashesOfHand_27 : decode mK_clashesOfHand.2.1 27 = .ok (.iconst 0, 1) := dq_get dd_K_clashesOfHand_0 (i := 15) rfl
theorem d_K_clashesOfHand_28 : decode mK_clashesOfHand.2.1 28 = .ok (.istore 4, 2) := dq_get dd_K_clashesOfHand_0 (i := 16) rfl
theorem d_K_clashesOfHand_30 : decode mK_clashesOfHand.2.1 30 = .ok (.iload 4, 2) := dq_get dd_K_clashesOfHand_0 (i := 17) rfl
theorem d_K_clashesOfHand_32 : decode mK_clashesOfHand.2.1 32 = .ok (.aload_n 0, 1) := dq_get dd_K_clashesOfHand_0 (i := 18) rfl
theorem d_K_clashesOfHand_33 : decode mK_clashesOfHand.2.1 33 = .ok (.iload_n 2, 1) := dq_get dd_K_clashesOfHand_0 (i := 19) rfl
theorem d_K_clashesOfHand_34 : decode mK_clashesOfHand.2.1 34 = .ok (.invokevirtual 78, 3) := dq_get dd_K_clashesOfHand_0 (i := 20) rfl
theorem d_K_clashesOfHand_37 : decode mK_clashesOfHand.2.1 37 = .ok (.iload_n 3, 1) := dq_get dd_K_clashesOfHand_0 (i := 21) rfl
theorem d_K_clashesOfHand_38 : decode mK_clashesOfHand.2.1 38 = .ok (.isub, 1) := dq_get dd_K_clashesOfHand_0 (i := 22) rfl
theorem d_K_clashesOfHand_39 : decode mK_clashesOfHand.2.1 39 = .ok (.aload_n 0, 1) := dq_get dd_K_clashesOfHand_0 (i := 23) rfl
theorem d_K_clashesOfHand_40 : decode mK_clashesOfHand.2.1 40 = .ok (.getfield 38, 3) := dq_get dd_K_clashesOfHand_0 (i := 24) rfl
theorem d_K_clashesOfHand_43 : decode mK_clashesOfHand.2.1 43 = .ok (.if_icmp .le 7, 3) := dq_get dd_K_clashesOfHand_0 (i := 25) rfl
theorem d_K_clashesOfHand_46 : decode mK_clashesOfHand.2.1 46 = .ok (.iconst 2, 1) := dq_get dd_K_clashesOfHand_0 (i := 26) rfl
theorem d_K_clashesOfHand_47 : decode mK_clashesOfHand.2.1 47 = .ok (.goto 4, 3) := dq_get dd_K_clashesOfHand_0 (i := 27) rfl
theorem d_K_clashesOfHand_50 : decode mK_clashesOfHand.2.1 50 = .ok (.iconst 0, 1) := dq_get dd_K_clashesOfHand_0 (i := 28) rfl
theorem d_K_clashesOfHand_51 : decode mK_clashesOfHand.2.1 51 = .ok (.ior, 1) := dq_get dd_K_clashesOfHand_0 (i := 29) rfl
theorem d_K_clashesOfHand_52 : decode mK_clashesOfHand.2.1 52 = .ok (.istore 4, 2) := dq_get dd_K_clashesOfHand_0 (i := 30) rfl
theorem d_K_clashesOfHand_54 : decode mK_clashesOfHand.2.1 54 = .ok (.iload_n 1, 1) := dq_get dd_K_clashesOfHand_0 (i := 31) rfl
theorem dd_K_clashesOfHand_32 : dq mK_clashesOfHand.2.1 [(55, .ifCond .eq 24, 3), (58, .iload_n 3, 1), (59, .aload_n 0, 1), (60, .iload_n 1, 1), (61, .invokevirtual 81, 3), (64, .isub, 1), (65, .invokestatic 84, 3), (68, .aload_n 0, 1), (69, .getfield 46, 3), (72, .if_icmp .le 7, 3), (75, .iconst 1, 1), (76, .goto 4, 3), (79, .iconst 0, 1), (80, .istore 5, 2), (82, .iload 5, 2), (84, .ifCond .eq 11, 3), (87, .iload 4, 2), (89, .bipush 16, 2), (91, .ior, 1), (92, .goto 5, 3), (95, .iload 4, 2), (97, .ireturn, 1)] = true := by decide +kernel
theorem d_K_clashesOfHand_55 : decode mK_clashesOfHand.2.1 55 = .ok (.ifCond .eq 24, 3) := dq_get dd_K_clashesOfHand_32 (i := 0) rfl
theorem d_K_clashesOfHand_58 : decode mK_clashesOfHand.2.1 58 = .ok (.iload_n 3, 1) := dq_get dd_K_clashesOfHand_32 (i := 1) rfl
theorem d_K_clashesOfHand_59 : decode mK_clashesOfHand.2.1 59 = .ok (.aload_n 0, 1) := dq_get dd_K_clashesOfHand_32 (i := 2) rfl
theorem d_K_clashesOfHand_60 : decode mK_clashesOfHand.2.1 60 = .ok (.iload_n 1, 1) := dq_get dd_K_clashesOfHand_32 (i := 3) rfl
theorem d_K_clashesOfHand_61 : decode mK_clashesOfHand.2.1 61 = .ok (.invokevirtual 81, 3) := dq_get dd_K_clashesOfHand_32 (i := 4) rfl
theorem d_K_clashesOfHand_64 : decode mK_clashesOfHand.2.1 64 = .ok (.isub, 1) := dq_get dd_K_clashesOfHand_32 (i := 5) rfl
theorem d_K_clashesOfHand_65 : decode mK_clashesOfHand.2.1 65 = .ok (.invokestatic 84, 3) := dq_get dd_K_clashesOfHand_32 (i := 6) rfl
theorem d_K_clashesOfHand_68 : decode mK_clashesOfHand.2.1 68 = .ok (.aload_n 0, 1) := dq_get dd_K_clashesOfHand_32 (i := 7) rfl
theorem d_K_clashesOfHand_69 : decode mK_clashesOfHand.2.1 69 = .ok (.getfield 46, 3) := dq_get dd_K_clashesOfHand_32 (i := 8) rfl
theorem d_K_clashesOfHand_72 : decode mK_clashesOfHand.2.1 72 = .ok (.if_icmp .le 7, 3) := dq_get dd_K_clashesOfHand_32 (i := 9) rfl
theorem d_K_clashesOfHand_75 : decode mK_clashesOfHand.2.1 75 = .ok (.iconst 1, 1) := dq_get dd_K_clashesOfHand_32 (i := 10) rfl
theorem d_K_clashesOfHand_76 : decode mK_clashesOfHand.2.1 76 = .ok (.goto 4, 3) := dq_get dd_K_clashesOfHand_32 (i := 11) rfl
theorem d_K_clashesOfHand_79 : decode mK_clashesOfHand.2.1 79 = .ok (.iconst 0, 1) := dq_get dd_K_clashesOfHand_32 (i := 12) rfl
theorem d_K_clashesOfHand_80 : decode mK_clashesOfHand.2.1 80 = .ok (.istore 5, 2) := dq_get dd_K_clashesOfHand_32 (i := 13) rfl
theorem d_K_clashesOfHand_82 : decode mK_clashesOfHand.2.1 82 = .ok (.iload 5, 2) := dq_get dd_K_clashesOfHand_32 (i := 14) rfl
theorem d_K_clashesOfHand_84 : decode mK_clashesOfHand.2.1 84 = .ok (.ifCond .eq 11, 3) := dq_get dd_K_clashesOfHand_32 (i := 15) rfl
theorem d_K_clashesOfHand_87 : decode mK_clashesOfHand.2.1 87 = .ok (.iload 4, 2) := dq_get dd_K_clashesOfHand_32 (i := 16) rfl
theorem d_K_clashesOfHand_89 : decode mK_clashesOfHand.2.1 89 = .ok (.bipush 16, 2) := dq_get dd_K_clashesOfHand_32 (i := 17) rfl
theorem d_K_clashesOfHand_91 : decode mK_clashesOfHand.2.1 91 = .ok (.ior, 1) := dq_get dd_K_clashesOfHand_32 (i := 18) rfl
theorem d_K_clashesOfHand_92 : decode mK_clashesOfHand.2.1 92 = .ok (.goto 5, 3) := dq_get dd_K_clashesOfHand_32 (i := 19) rfl
theorem d_K_clashesOfHand_95 : decode mK_clashesOfHand.2.1 95 = .ok (.iload 4, 2) := dq_get dd_K_clashesOfHand_32 (i := 20) rfl
theorem d_K_clashesOfHand_97 : decode mK_clashesOfHand.2.1 97 = .ok (.ireturn, 1) := dq_get dd_K_clashesOfHand_32 (i := 21) rfl
theorem dd_K_lowest_0 : dq mK_lowest.2.1 [(0, .bipush 87, 2), (2, .istore_n 2, 1), (3, .iconst 0, 1), (4, .istore_n 3, 1), (5, .iload_n 3, 1), (6, .aload_n 0, 1), (7, .getfield 34, 3), (10, .if_icmp .ge 34, 3), (13, .iload_n 1, 1), (14, .iload_n 3, 1), (15, .ishr, 1), (16, .iconst 1, 1), (17, .iand, 1), (18, .ifCond .eq 20, 3), (21, .aload_n 0, 1), (22, .getfield 9, 3), (25, .iload_n 3, 1), (26, .iaload, 1), (27, .iload_n 2, 1), (28, .if_icmp .ge 10, 3), (31, .aload_n 0, 1), (32, .getfield 9, 3), (35, .iload_n 3, 1), (36, .iaload, 1), (37, .istore_n 2, 1), (38, .iinc 3 1, 3), (41, .goto (-36), 3), (44, .iload_n 2, 1), (45, .ireturn, 1)] = true := by decide +kernel
theorem d_K_lowest_0 : decode mK_lowest.2.1 0 = .ok (.bipush 87, 2) := dq_get dd_K_lowest_0 (i := 0) rfl
theorem d_K_lowest_2 : decode mK_lowest.2.1 2 = .ok (.istore_n 2, 1) := dq_get dd_K_lowest_0 (i := 1) rfl
theorem d_K_lowest_3 : decode mK_lowest.2.1 3 = .ok (.iconst 0, 1) := dq_get dd_K_lowest_0 (i := 2) rfl
theorem d_K_lowest_4 : decode mK_lowest.2.1 4 = .ok (.istore_n 3, 1) := dq_get dd_K_lowest_0 (i := 3) rfl
theorem d_K_lowest_5 : decode mK_lowest.2.1 5 = .ok (.iload_n 3, 1) := dq_get dd_K_lowest_0 (i := 4) rfl
theorem d_K_lowest_6 : decode mK_lowest.2.1 6 = .ok (.aload_n 0, 1) := dq_get dd_K_lowest_0 (i := 5) rfl
theorem d_K_lowest_7 : decode mK_lowest.2.1 7 = .ok (.getfield 34, 3) := dq_get dd_K_lowest_0 (i := 6) rfl
theorem d_K_lowest_10 : decode mK_lowest.2.1 10 = .ok (.if_icmp .ge 34, 3) := dq_get dd_K_lowest_0 (i := 7) rfl
theorem d_K_lowest_13 : decode mK_lowest.2.1 13 = .ok (.iload_n 1, 1) := dq_get dd_K_lowest_0 (i := 8) rfl
theorem d_K_lowest_14 : decode mK_lowest.2.1 14 = .ok (.iload_n 3, 1) := dq_get dd_K_lowest_0 (i := 9) rfl
theorem d_K_lowest_15 : decode mK_lowest.2.1 15 = .ok (.ishr, 1) := dq_get dd_K_lowest_0 (i := 10) rfl
theorem d_K_lowest_16 : decode mK_lowest.2.1 16 = .ok (.iconst 1, 1) := dq_get dd_K_lowest_0 (i := 11) rfl
theorem d_K_lowest_17 : decode mK_lowest.2.1 17 = .ok (.iand, 1) := dq_get dd_K_lowest_0 (i := 12) rfl
theorem d_K_lowest_18 : decode mK_lowest.2.1 18 = .ok (.ifCond .eq 20, 3) := dq_get dd_K_lowest_0 (i := 13) rfl
theorem d_K_lowest_21 : decode mK_lowest.2.1 21 = .ok (.aload_n 0, 1) := dq_get dd_K_lowest_0 (i := 14) rfl
theorem d_K_lowest_22 : decode mK_lowest.2.1 22 = .ok (.getfield 9, 3) := dq_get dd_K_lowest_0 (i := 15) rfl
theorem d_K_lowest_25 : decode mK_lowest.2.1 25 = .ok (.iload_n 3, 1) := dq_get dd_K_lowest_0 (i := 16) rfl
theorem d_K_lowest_26 : decode mK_lowest.2.1 26 = .ok (.iaload, 1) := dq_get dd_K_lowest_0 (i := 17) rfl
theorem d_K_lowest_27 : decode mK_lowest.2.1 27 = .ok (.iload_n 2, 1) := dq_get dd_K_lowest_0 (i := 18) rfl
theorem d_K_lowest_28 : decode mK_lowest.2.1 28 = .ok (.if_icmp .ge 10, 3) := dq_get dd_K_lowest_0 (i := 19) rfl
theorem d_K_lowest_31 : decode mK_lowest.2.1 31 = .ok (.aload_n 0, 1) := dq_get dd_K_lowest_0 (i := 20) rfl
theorem d_K_lowest_32 : decode mK_lowest.2.1 32 = .ok (.getfield 9, 3) := dq_get dd_K_lowest_0 (i := 21) rfl
theorem d_K_lowest_35 : decode mK_lowest.2.1 35 = .ok (.iload_n 3, 1) := dq_get dd_K_lowest_0 (i := 22) rfl
theorem d_K_lowest_36 : decode mK_lowest.2.1 36 = .ok (.iaload, 1) := dq_get dd_K_lowest_0 (i := 23) rfl
theorem d_K_lowest_37 : decode mK_lowest.2.1 37 = .ok (.istore_n 2, 1) := dq_get dd_K_lowest_0 (i := 24) rfl
theorem d_K_lowest_38 : decode mK_lowest.2.1 38 = .ok (.iinc 3 1, 3) := dq_get dd_K_lowest_0 (i := 25) rfl
theorem d_K_lowest_41 : decode mK_lowest.2.1 41 = .ok (.goto (-36), 3) := dq_get dd_K_lowest_0 (i := 26) rfl
theorem d_K_lowest_44 : decode mK_lowest.2.1 44 = .ok (.iload_n 2, 1) := dq_get dd_K_lowest_0 (i := 27) rfl
theorem d_K_lowest_45 : decode mK_lowest.2.1 45 = .ok (.ireturn, 1) := dq_get dd_K_lowest_0 (i := 28) rfl
theorem dd_K_highest_0 : dq mK_highest.2.1 [(0, .iconst 0, 1), (1, .istore_n 2, 1), (2, .iconst 0, 1), (3, .istore_n 3, 1), (4, .iload_n 3, 1), (5, .aload_n 0, 1), (6, .getfield 34, 3), (9, .if_icmp .ge 34, 3), (12, .iload_n 1, 1), (13, .iload_n 3, 1), (14, .ishr, 1), (15, .iconst 1, 1), (16, .iand, 1), (17, .ifCond .eq 20, 3), (20, .aload_n 0, 1), (21, .getfield 9, 3), (24, .iload_n 3, 1), (25, .iaload, 1), (26, .iload_n 2, 1), (27, .if_icmp .le 10, 3), (30, .aload_n 0, 1), (31, .getfield 9, 3), (34, .iload_n 3, 1), (35, .iaload, 1), (36, .istore_n 2, 1), (37, .iinc 3 1, 3), (40, .goto (-36), 3), (43, .iload_n 2, 1), (44, .ireturn, 1)] = true := by decide +kernel
theorem d_K_highest_0 : decode mK_highest.2.1 0 = .ok (.iconst 0, 1) := dq_get dd_K_highest_0 (i := 0) rfl
theorem d_K_highest_1 : decode mK_highest.2.1 1 = .ok (.istore_n 2, 1) := dq_get dd_K_highest_0 (i := 1) rfl
theorem d_K_highest_2 : decode mK_highest.2.1 2 = .ok (.iconst 0, 1) := dq_get dd_K_highest_0 (i := 2) rfl
theorem d_K_highest_3 : decode mK_highest.2.1 3 = .ok (.istore_n 3, 1) := dq_get dd_K_highest_0 (i := 3) rfl
theorem d_K_highest_4 : decode mK_highest.2.1 4 = .ok (.iload_n 3, 1) := dq_get dd_K_highest_0 (i := 4) rfl
theorem d_K_highest_5 : decode mK_highest.2.1 5 = .ok (.aload_n 0, 1) := dq_get dd_K_highest_0 (i := 5) rfl
theorem d_K_highest_6 : decode mK_highest.2.1 6 = .ok (.getfield 34, 3) := dq_get dd_K_highest_0 (i := 6) rfl
theorem d_K_highest_9 : decode mK_highest.2.1 9 = .ok (.if_icmp .ge 34, 3) := dq_get dd_K_highest_0 (i := 7) rfl
theorem d_K_highest_12 : decode mK_highest.2.1 12 = .ok (.iload_n 1, 1) := dq_get dd_K_highest_0 (i := 8) rfl
theorem d_K_highest_13 : decode mK_highest.2.1 13 = .ok (.iload_n 3, 1) := dq_get dd_K_highest_0 (i := 9) rfl
theorem d_K_highest_14 : decode mK_highest.2.1 14 = .ok (.ishr, 1) := dq_get dd_K_highest_0 (i := 10) rfl
theorem d_K_highest_15 : decode mK_highest.2.1 15 = .ok (.iconst 1, 1) := dq_get dd_K_highest_0 (i := 11) rfl
theorem d_K_highest_16 : decode mK_highest.2.1 16 = .ok (.iand, 1) := dq_get dd_K_highest_0 (i := 12) rfl
theorem d_K_highest_17 : decode mK_highest.2.1 17 = .ok (.ifCond .eq 20, 3) := dq_get dd_K_highest_0 (i := 13) rfl
theorem d_K_highest_20 : decode mK_highest.2.1 20 = .ok (.aload_n 0, 1) := dq_get dd_K_highest_0 (i := 14) rfl
theorem d_K_highest_21 : decode mK_highest.2.1 21 = .ok (.getfield 9, 3) := dq_get dd_K_highest_0 (i := 15) rfl
theorem d_K_highest_24 : decode mK_highest.2.1 24 = .ok (.iload_n 3, 1) := dq_get dd_K_highest_0 (i := 16) rfl
theorem d_K_highest_25 : decode mK_highest.2.1 25 = .ok (.iaload, 1) := dq_get dd_K_highest_0 (i := 17) rfl
theorem d_K_highest_26 : decode mK_highest.2.1 26 = .ok (.iload_n 2, 1) := dq_get dd_K_highest_0 (i := 18) rfl
theorem d_K_highest_27 : decode mK_highest.2.1 27 = .ok (.if_icmp .le 10, 3) := dq_get dd_K_highest_0 (i := 19) rfl
theorem d_K_highest_30 : decode mK_highest.2.1 30 = .ok (.aload_n 0, 1) := dq_get dd_K_highest_0 (i := 20) rfl
theorem d_K_highest_31 : decode mK_highest.2.1 31 = .ok (.getfield 9, 3) := dq_get dd_K_highest_0 (i := 21) rfl
theorem d_K_highest_34 : decode mK_highest.2.1 34 = .ok (.iload_n 3, 1) := dq_get dd_K_highest_0 (i := 22) rfl
theorem d_K_highest_35 : decode mK_highest.2.1 35 = .ok (.iaload, 1) := dq_get dd_K_highest_0 (i := 23) rfl
theorem d_K_highest_36 : decode mK_highest.2.1 36 = .ok (.istore_n 2, 1) := dq_get dd_K_highest_0 (i := 24) rfl
theorem d_K_highest_37 : decode mK_highest.2.1 37 = .ok (.iinc 3 1, 3) := dq_get dd_K_highest_0 (i := 25) rfl
theorem d_K_highest_40 : decode mK_highest.2.1 40 = .ok (.goto (-36), 3) := dq_get dd_K_highest_0 (i := 26) rfl
theorem d_K_highest_43 : decode mK_highest.2.1 43 = .ok (.iload_n 2, 1) := dq_get dd_K_highest_0 (i := 27) rfl
theorem d_K_highest_44 : decode mK_highest.2.1 44 = .ok (.ireturn, 1) := dq_get dd_K_highest_0 (i := 28) rfl
theorem dd_K_hasKeyTwice_0 : dq mK_hasKeyTwice.2.1 [(0, .iconst 1, 1), (1, .istore_n 2, 1), (2, .iload_n 2, 1), (3, .aload_n 0, 1), (4, .getfield 34, 3), (7, .if_icmp .ge 69, 3), (10, .iload_n 1, 1), (11, .iload_n 2, 1), (12, .ishr, 1), (13, .iconst 1, 1), (14, .iand, 1), (15, .ifCond .eq 7, 3), (18, .iconst 1, 1), (19, .goto 4, 3), (22, .iconst 0, 1), (23, .istore_n 3, 1), (24, .iconst 0, 1), (25, .istore 4, 2), (27, .iload_n 3, 1), (28, .ifCond .eq 42, 3), (31, .iload 4, 2), (33, .iload_n 2, 1), (34, .if_icmp .ge 36, 3), (37, .iload_n 1, 1), (38, .iload 4, 2), (40, .ishr, 1), (41, .iconst 1, 1), (42, .iand, 1), (43, .ifCond .eq 21, 3), (46, .aload_n 0, 1), (47, .getfield 9, 3), (50, .iload_n 2, 1)] = true := by decide +kernel
theorem d_K_hasKeyTwice_0 : decode mK_hasKeyTwice.2.1 0 = .ok (.iconst 1, 1) := dq_get dd_K_hasKeyTwice_0 (i := 0) rfl
theorem d_K_hasKeyTwice_1 : decode mK_hasKeyTwice.2.1 1 = .ok (.istore_n 2, 1) := dq_get dd_K_hasKeyTwice_0 (i := 1) rfl
theorem d_K_hasKeyTwice_2 : decode mK_hasKeyTwice.2.1 2 = .ok (.iload_n 2, 1) := dq_get dd_K_hasKeyTwice_0 (i := 2) rfl
theorem d_K_hasKeyTwice_3 : decode mK_hasKeyTwice.2.1 3 = .ok (.aload_n 0, 1) := dq_get dd_K_hasKeyTwice_0 (i := 3) rfl
theorem d_K_hasKeyTwice_4 : decode mK_hasKeyTwice.2.1 4 = .ok (.getfield 34, 3) := dq_get dd_K_hasKeyTwice_0 (i := 4) rfl
theorem d_K_hasKeyTwice_7 : decode mK_hasKeyTwice.2.1 7 = .ok (.if_icmp .ge 69, 3) := dq_get dd_K_hasKeyTwice_0 (i := 5) rfl
theorem d_K_hasKeyTwice_10 : decode mK_hasKeyTwice.2.1 10 = .ok (.iload_n 1, 1) := dq_get dd_K_hasKeyTwice_0 (i := 6) rfl
theorem d_K_hasKeyTwice_11 : decode mK_hasKeyTwice.2.1 11 = .ok (.iload_n 2, 1) := dq_get dd_K_hasKeyTwice_0 (i := 7) rfl
theorem d_K_hasKeyTwice_12 : decode mK_hasKeyTwice.2.1 12 = .ok (.ishr, 1) := dq_get dd_K_hasKeyTwice_0 (i := 8) rfl
theorem d_K_hasKeyTwice_13 : decode mK_hasKeyTwice.2.1 13 = .ok (.iconst 1, 1) := dq_get dd_K_hasKeyTwice_0 (i := 9) rfl
theorem d_K_hasKeyTwice_14 : decode mK_hasKeyTwice.2.1 14 = .ok (.iand, 1) := dq_get dd_K_hasKeyTwice_0 (i := 10) rfl
theorem d_K_hasKeyTwice_15 : decode mK_hasKeyTwice.2.1 15 = .ok (.ifCond .eq 7, 3) := dq_get dd_K_hasKeyTwice_0 (i := 11) rfl
theorem d_K_hasKeyTwice_18 : decode mK_hasKeyTwice.2.1 18 = .ok (.iconst 1, 1) := dq_get dd_K_hasKeyTwice_0 (i := 12) rfl
theorem d_K_hasKeyTwice_19 : decode mK_hasKeyTwice.2.1 19 = .ok (.goto 4, 3) := dq_get dd_K_hasKeyTwice_0 (i := 13) rfl
theorem d_K_hasKeyTwice_22 : decode mK_hasKeyTwice.2.1 22 = .ok (.iconst 0, 1) := dq_get dd_K_hasKeyTwice_0 (i := 14) rfl
theorem d_K_hasKeyTwice_23 : decode mK_hasKeyTwice.2.1 23 = .ok (.istore_n 3, 1) := dq_get dd_K_hasKeyTwice_0 (i := 15) rfl
theorem d_K_hasKeyTwice_24 : decode mK_hasKeyTwice.2.1 24 = .ok (.iconst 0, 1) := dq_get dd_K_hasKeyTwice_0 (i := 16) rfl
theorem d_K_hasKeyTwice_25 : decode mK_hasKeyTwice.2.1 25 = .ok (.istore 4, 2) := dq_get dd_K_hasKeyTwice_0 (i := 17) rfl
theorem d_K_hasKeyTwice_27 : decode mK_hasKeyTwice.2.1 27 = .ok (.iload_n 3, 1) := dq_get dd_K_hasKeyTwice_0 (i := 18) rfl
theorem d_K_hasKeyTwice_28 : decode mK_hasKeyTwice.2.1 28 = .ok (.ifCond .eq 42, 3) := dq_get dd_K_hasKeyTwice_0 (i := 19) rfl
theorem d_K_hasKeyTwice_31 : decode mK_hasKeyTwice.2.1 31 = .ok (.iload 4, 2) := dq_get dd_K_hasKeyTwice_0 (i := 20) rfl
theorem d_K_hasKeyTwice_33 : decode mK_hasKeyTwice.2.1 33 = .ok (.iload_n 2, 1) := dq_get dd_K_hasKeyTwice_0 (i := 21) rfl
theorem d_K_hasKeyTwice_34 : decode mK_hasKeyTwice.2.1 34 = .ok (.if_icmp .ge 36, 3) := dq_get dd_K_hasKeyTwice_0 (i := 22) rfl
theorem d_K_hasKeyTwice_37 : decode mK_hasKeyTwice.2.1 37 = .ok (.iload_n 1, 1) := dq_get dd_K_hasKeyTwice_0 (i := 23) rfl
theorem d_K_hasKeyTwice_38 : decode mK_hasKeyTwice.2.1 38 = .ok (.iload 4, 2) := dq_get dd_K_hasKeyTwice_0 (i := 24) rfl
theorem d_K_hasKeyTwice_40 : decode mK_hasKeyTwice.2.1 40 = .ok (.ishr, 1) := dq_get dd_K_hasKeyTwice_0 (i := 25) rfl
theorem d_K_hasKeyTwice_41 : decode mK_hasKeyTwice.2.1 41 = .ok (.iconst 1, 1) := dq_get dd_K_hasKeyTwice_0 (i := 26) rfl
theorem d_K_hasKeyTwice_42 : decode mK_hasKeyTwice.2.1 42 = .ok (.iand, 1) := dq_get dd_K_hasKeyTwice_0 (i := 27) rfl
theorem d_K_hasKeyTwice_43 : decode mK_hasKeyTwice.2.1 43 = .ok (.ifCond .eq 21, 3) := dq_get dd_K_hasKeyTwice_0 (i := 28) rfl
theorem d_K_hasKeyTwice_46 : decode mK_hasKeyTwice.2.1 46 = .ok (.aload_n 0, 1) := dq_get dd_K_hasKeyTwice_0 (i := 29) rfl
theorem d_K_hasKeyTwice_47 : decode mK_hasKeyTwice.2.1 47 = .ok (.getfield 9, 3) := dq_get dd_K_hasKeyTwice_0 (i := 30) rfl
theorem d_K_hasKeyTwice_50 : decode mK_hasKeyTwice.2.1 50 = .ok (.iload_n 2, 1) := dq_get dd_K_hasKeyTwice_0 (i := 31) rfl
theorem dd_K_hasKeyTwice_32 : dq mK_hasKeyTwice.2.1 [(51, .iaload, 1), (52, .aload_n 0, 1), (53, .getfield 9, 3), (56, .iload 4, 2), (58, .iaload, 1), (59, .if_icmp .ne 5, 3), (62, .iconst 1, 1), (63, .ireturn, 1), (64, .iinc 4 1, 3), (67, .goto (-40), 3), (70, .iinc 2 1, 3), (73, .goto (-71), 3), (76, .iconst 0, 1), (77, .ireturn, 1)] = true := by decide +kernel
theorem d_K_hasKeyTwice_51 : decode mK_hasKeyTwice.2.1 51 = .ok (.iaload, 1) := dq_get dd_K_hasKeyTwice_32 (i := 0) rfl
theorem d_K_hasKeyTwice_52 : decode mK_hasKeyTwice.2.1 52 = .ok (.aload_n 0, 1) := dq_get dd_K_hasKeyTwice_32 (i := 1) rfl
theorem d_K_hasKeyTwice_53 : decode mK_hasKeyTwice.2.1 53 = .ok (.getfield 9, 3) := dq_get dd_K_hasKeyTwice_32 (i := 2) rfl
theorem d_K_hasKeyTwice_56 : decode mK_hasKeyTwice.2.1 56 = .ok (.iload 4, 2) := dq_get dd_K_hasKeyTwice_32 (i := 3) rfl
theorem d_K_hasKeyTwice_58 : decode mK_hasKeyTwice.2.1 58 = .ok (.iaload, 1) := dq_get dd_K_hasKeyTwice_32 (i := 4) rfl
theorem d_K_hasKeyTwice_59 : decode mK_hasKeyTwice.2.1 59 = .ok (.if_icmp .ne 5, 3) := dq_get dd_K_hasKeyTwice_32 (i := 5) rfl
theorem d_K_hasKeyTwice_62 : decode mK_hasKeyTwice.2.1 62 = .ok (.iconst 1, 1) := dq_get dd_K_hasKeyTwice_32 (i := 6) rfl
theorem d_K_hasKeyTwice_63 : decode mK_hasKeyTwice.2.1 63 = .ok (.ireturn, 1) := dq_get dd_K_hasKeyTwice_32 (i := 7) rfl
theorem d_K_hasKeyTwice_64 : decode mK_hasKeyTwice.2.1 64 = .ok (.iinc 4 1, 3) := dq_get dd_K_hasKeyTwice_32 (i := 8) rfl
theorem d_K_hasKeyTwice_67 : decode mK_hasKeyTwice.2.1 67 = .ok (.goto (-40), 3) := dq_get dd_K_hasKeyTwice_32 (i := 9) rfl
theorem d_K_hasKeyTwice_70 : decode mK_hasKeyTwice.2.1 70 = .ok (.iinc 2 1, 3) := dq_get dd_K_hasKeyTwice_32 (i := 10) rfl
theorem d_K_hasKeyTwice_73 : decode mK_hasKeyTwice.2.1 73 = .ok (.goto (-71), 3) := dq_get dd_K_hasKeyTwice_32 (i := 11) rfl
theorem d_K_hasKeyTwice_76 : decode mK_hasKeyTwice.2.1 76 = .ok (.iconst 0, 1) := dq_get dd_K_hasKeyTwice_32 (i := 12) rfl
theorem d_K_hasKeyTwice_77 : decode mK_hasKeyTwice.2.1 77 = .ok (.ireturn, 1) := dq_get dd_K_hasKeyTwice_32 (i := 13) rfl
theorem dd_C_act_0 : dq mC_act.2.1 [(0, .aload_n 0, 1), (1, .getfield 24, 3), (4, .bipush 40, 2), (6, .if_icmp .lt 7, 3), (9, .aload_n 0, 1), (10, .invokevirtual 31, 3), (13, .aload_n 0, 1), (14, .getfield 9, 3), (17, .aload_n 0, 1), (18, .getfield 24, 3), (21, .iload_n 2, 1), (22, .iastore, 1), (23, .aload_n 0, 1), (24, .getfield 15, 3), (27, .aload_n 0, 1), (28, .getfield 24, 3), (31, .iload_n 3, 1), (32, .iastore, 1), (33, .aload_n 0, 1), (34, .getfield 18, 3), (37, .aload_n 0, 1), (38, .getfield 24, 3), (41, .aload_n 1, 1), (42, .iload_n 2, 1), (43, .iload_n 3, 1), (44, .invokevirtual 34, 3), (47, .iastore, 1), (48, .aload_n 0, 1), (49, .getfield 21, 3), (52, .aload_n 0, 1), (53, .getfield 24, 3), (56, .iload 4, 2)] = true := by decide +kernel
theorem d_C_act_0 : decode mC_act.2.1 0 = .ok (.aload_n 0, 1) := dq_get dd_C_act_0 (i := 0) rfl
theorem d_C_act_1 : decode mC_act.2.1 1 = .ok (.getfield 24, 3) := dq_get dd_C_act_0 (i := 1) rfl
theorem d_C_act_4 : decode mC_act.2.1 4 = .ok (.bipush 40, 2) := dq_get dd_C_act_0 (i := 2) rfl
theorem d_C_act_6 : decode mC_act.2.1 6 = .ok (.if_icmp .lt 7, 3) := dq_get dd_C_act_0 (i := 3) rfl
theorem d_C_act_9 : decode mC_act.2.1 9 = .ok (.aload_n 0, 1) := dq_get dd_C_act_0 (i := 4) rfl
theorem d_C_act_10 : decode mC_act.2.1 10 = .ok (.invokevirtual 31, 3) := dq_get dd_C_act_0 (i := 5) rfl
theorem d_C_act_13 : decode mC_act.2.1 13 = .ok (.aload_n 0, 1) := dq_get dd_C_act_0 (i := 6) rfl
theorem d_C_act_14 : decode mC_act.2.1 14 = .ok (.getfield 9, 3) := dq_get dd_C_act_0 (i := 7) rfl
theorem d_C_act_17 : decode mC_act.2.1 17 = .ok (.aload_n 0, 1) := dq_get dd_C_act_0 (i := 8) rfl
theorem d_C_act_18 : decode mC_act.2.1 18 = .ok (.getfield 24, 3) := dq_get dd_C_act_0 (i := 9) rfl
theorem d_C_act_21 : decode mC_act.2.1 21 = .ok (.iload_n 2, 1) := dq_get dd_C_act_0 (i := 10) rfl
theorem d_C_act_22 : decode mC_act.2.1 22 = .ok (.iastore, 1) := dq_get dd_C_act_0 (i := 11) rfl
theorem d_C_act_23 : decode mC_act.2.1 23 = .ok (.aload_n 0, 1) := dq_get dd_C_act_0 (i := 12) rfl
theorem d_C_act_24 : decode mC_act.2.1 24 = .ok (.getfield 15, 3) := dq_get dd_C_act_0 (i := 13) rfl
theorem d_C_act_27 : decode mC_act.2.1 27 = .ok (.aload_n 0, 1) := dq_get dd_C_act_0 (i := 14) rfl
theorem d_C_act_28 : decode mC_act.2.1 28 = .ok (.getfield 24, 3) := dq_get dd_C_act_0 (i := 15) rfl
theorem d_C_act_31 : decode mC_act.2.1 31 = .ok (.iload_n 3, 1) := dq_get dd_C_act_0 (i := 16) rfl
theorem d_C_act_32 : decode mC_act.2.1 32 = .ok (.iastore, 1) := dq_get dd_C_act_0 (i := 17) rfl
theorem d_C_act_33 : decode mC_act.2.1 33 = .ok (.aload_n 0, 1) := dq_get dd_C_act_0 (i := 18) rfl
theorem d_C_act_34 : decode mC_act.2.1 34 = .ok (.getfield 18, 3) := dq_get dd_C_act_0 (i := 19) rfl
theorem d_C_act_37 : decode mC_act.2.1 37 = .ok (.aload_n 0, 1) := dq_get dd_C_act_0 (i := 20) rfl
theorem d_C_act_38 : decode mC_act.2.1 38 = .ok (.getfield 24, 3) := dq_get dd_C_act_0 (i := 21) rfl
theorem d_C_act_41 : decode mC_act.2.1 41 = .ok (.aload_n 1, 1) := dq_get dd_C_act_0 (i := 22) rfl
theorem d_C_act_42 : decode mC_act.2.1 42 = .ok (.iload_n 2, 1) := dq_get dd_C_act_0 (i := 23) rfl
theorem d_C_act_43 : decode mC_act.2.1 43 = .ok (.iload_n 3, 1) := dq_get dd_C_act_0 (i := 24) rfl
theorem d_C_act_44 : decode mC_act.2.1 44 = .ok (.invokevirtual 34, 3) := dq_get dd_C_act_0 (i := 25) rfl
theorem d_C_act_47 : decode mC_act.2.1 47 = .ok (.iastore, 1) := dq_get dd_C_act_0 (i := 26) rfl
theorem d_C_act_48 : decode mC_act.2.1 48 = .ok (.aload_n 0, 1) := dq_get dd_C_act_0 (i := 27) rfl
theorem d_C_act_49 : decode mC_act.2.1 49 = .ok (.getfield 21, 3) := dq_get dd_C_act_0 (i := 28) rfl
theorem d_C_act_52 : decode mC_act.2.1 52 = .ok (.aload_n 0, 1) := dq_get dd_C_act_0 (i := 29) rfl
theorem d_C_act_53 : decode mC_act.2.1 53 = .ok (.getfield 24, 3) := dq_get dd_C_act_0 (i := 30) rfl
theorem d_C_act_56 : decode mC_act.2.1 56 = .ok (.iload 4, 2) := dq_get dd_C_act_0 (i := 31) rfl
theorem dd_C_act_32 : dq mC_act.2.1 [(58, .iastore, 1), (59, .aload_n 0, 1), (60, .dup, 1), (61, .getfield 24, 3), (64, .iconst 1, 1), (65, .iadd, 1), (66, .putfield 24, 3), (69, .aload_n 0, 1), (70, .aload_n 0, 1), (71, .getfield 24, 3), (74, .putfield 28, 3), (77, .aload_n 1, 1), (78, .iload_n 2, 1), (79, .iload_n 3, 1), (80, .iload 4, 2), (82, .invokevirtual 40, 3), (85, .return_, 1)] = true := by decide +kernel
theorem d_C_act_58 : decode mC_act.2.1 58 = .ok (.iastore, 1) := dq_get dd_C_act_32 (i := 0) rfl
theorem d_C_act_59 : decode mC_act.2.1 59 = .ok (.aload_n 0, 1) := dq_get dd_C_act_32 (i := 1) rfl
theorem d_C_act_60 : decode mC_act.2.1 60 = .ok (.dup, 1) := dq_get dd_C_act_32 (i := 2) rfl
theorem d_C_act_61 : decode mC_act.2.1 61 = .ok (.getfield 24, 3) := dq_get dd_C_act_32 (i := 3) rfl
theorem d_C_act_64 : decode mC_act.2.1 64 = .ok (.iconst 1, 1) := dq_get dd_C_act_32 (i := 4) rfl
theorem d_C_act_65 : decode mC_act.2.1 65 = .ok (.iadd, 1) := dq_get dd_C_act_32 (i := 5) rfl
theorem d_C_act_66 : decode mC_act.2.1 66 = .ok (.putfield 24, 3) := dq_get dd_C_act_32 (i := 6) rfl
theorem d_C_act_69 : decode mC_act.2.1 69 = .ok (.aload_n 0, 1) := dq_get dd_C_act_32 (i := 7) rfl
theorem d_C_act_70 : decode mC_act.2.1 70 = .ok (.aload_n 0, 1) := dq_get dd_C_act_32 (i := 8) rfl
theorem d_C_act_71 : decode mC_act.2.1 71 = .ok (.getfield 24, 3) := dq_get dd_C_act_32 (i := 9) rfl
theorem d_C_act_74 : decode mC_act.2.1 74 = .ok (.putfield 28, 3) := dq_get dd_C_act_32 (i := 10) rfl
theorem d_C_act_77 : decode mC_act.2.1 77 = .ok (.aload_n 1, 1) := dq_get dd_C_act_32 (i := 11) rfl
theorem d_C_act_78 : decode mC_act.2.1 78 = .ok (.iload_n 2, 1) := dq_get dd_C_act_32 (i := 12) rfl
theorem d_C_act_79 : decode mC_act.2.1 79 = .ok (.iload_n 3, 1) := dq_get dd_C_act_32 (i := 13) rfl
theorem d_C_act_80 : decode mC_act.2.1 80 = .ok (.iload 4, 2) := dq_get dd_C_act_32 (i := 14) rfl
theorem d_C_act_82 : decode mC_act.2.1 82 = .ok (.invokevirtual 40, 3) := dq_get dd_C_act_32 (i := 15) rfl
theorem d_C_act_85 : decode mC_act.2.1 85 = .ok (.return_, 1) := dq_get dd_C_act_32 (i := 16) rfl
theorem dd_C_dropOldest_0 : dq mC_dropOldest.2.1 [(0, .aload_n 0, 1), (1, .bipush 39, 2), (3, .putfield 24, 3), (6, .aload_n 0, 1), (7, .getfield 9, 3), (10, .iconst 1, 1), (11, .aload_n 0, 1), (12, .getfield 9, 3), (15, .iconst 0, 1), (16, .aload_n 0, 1), (17, .getfield 24, 3), (20, .invokestatic 44, 3), (23, .aload_n 0, 1), (24, .getfield 15, 3), (27, .iconst 1, 1), (28, .aload_n 0, 1), (29, .getfield 15, 3), (32, .iconst 0, 1), (33, .aload_n 0, 1), (34, .getfield 24, 3), (37, .invokestatic 44, 3), (40, .aload_n 0, 1), (41, .getfield 18, 3), (44, .iconst 1, 1), (45, .aload_n 0, 1), (46, .getfield 18, 3), (49, .iconst 0, 1), (50, .aload_n 0, 1), (51, .getfield 24, 3), (54, .invokestatic 44, 3), (57, .aload_n 0, 1), (58, .getfield 21, 3)] = true := by decide +kernel
theorem d_C_dropOldest_0 : decode mC_dropOldest.2.1 0 = .ok (.aload_n 0, 1) := dq_get dd_C_dropOldest_0 (i := 0) rfl
theorem d_C_dropOldest_1 : decode mC_dropOldest.2.1 1 = .ok (.bipush 39, 2) := dq_get dd_C_dropOldest_0 (i := 1) rfl
theorem d_C_dropOldest_3 : decode mC_dropOldest.2.1 3 = .ok (.putfield 24, 3) := dq_get dd_C_dropOldest_0 (i := 2) rfl
theorem d_C_dropOldest_6 : decode mC_dropOldest.2.1 6 = .ok (.aload_n 0, 1) := dq_get dd_C_dropOldest_0 (i := 3) rfl
theorem d_C_dropOldest_7 : decode mC_dropOldest.2.1 7 = .ok (.getfield 9, 3) := dq_get dd_C_dropOldest_0 (i := 4) rfl
theorem d_C_dropOldest_10 : decode mC_dropOldest.2.1 10 = .ok (.iconst 1, 1) := dq_get dd_C_dropOldest_0 (i := 5) rfl
theorem d_C_dropOldest_11 : decode mC_dropOldest.2.1 11 = .ok (.aload_n 0, 1) := dq_get dd_C_dropOldest_0 (i := 6) rfl
theorem d_C_dropOldest_12 : decode mC_dropOldest.2.1 12 = .ok (.getfield 9, 3) := dq_get dd_C_dropOldest_0 (i := 7) rfl
theorem d_C_dropOldest_15 : decode mC_dropOldest.2.1 15 = .ok (.iconst 0, 1) := dq_get dd_C_dropOldest_0 (i := 8) rfl
theorem d_C_dropOldest_16 : decode mC_dropOldest.2.1 16 = .ok (.aload_n 0, 1) := dq_get dd_C_dropOldest_0 (i := 9) rfl
theorem d_C_dropOldest_17 : decode mC_dropOldest.2.1 17 = .ok (.getfield 24, 3) := dq_get dd_C_dropOldest_0 (i := 10) rfl
theorem d_C_dropOldest_20 : decode mC_dropOldest.2.1 20 = .ok (.invokestatic 44, 3) := dq_get dd_C_dropOldest_0 (i := 11) rfl
theorem d_C_dropOldest_23 : decode mC_dropOldest.2.1 23 = .ok (.aload_n 0, 1) := dq_get dd_C_dropOldest_0 (i := 12) rfl
theorem d_C_dropOldest_24 : decode mC_dropOldest.2.1 24 = .ok (.getfield 15, 3) := dq_get dd_C_dropOldest_0 (i := 13) rfl
theorem d_C_dropOldest_27 : decode mC_dropOldest.2.1 27 = .ok (.iconst 1, 1) := dq_get dd_C_dropOldest_0 (i := 14) rfl
theorem d_C_dropOldest_28 : decode mC_dropOldest.2.1 28 = .ok (.aload_n 0, 1) := dq_get dd_C_dropOldest_0 (i := 15) rfl
theorem d_C_dropOldest_29 : decode mC_dropOldest.2.1 29 = .ok (.getfield 15, 3) := dq_get dd_C_dropOldest_0 (i := 16) rfl
theorem d_C_dropOldest_32 : decode mC_dropOldest.2.1 32 = .ok (.iconst 0, 1) := dq_get dd_C_dropOldest_0 (i := 17) rfl
theorem d_C_dropOldest_33 : decode mC_dropOldest.2.1 33 = .ok (.aload_n 0, 1) := dq_get dd_C_dropOldest_0 (i := 18) rfl
theorem d_C_dropOldest_34 : decode mC_dropOldest.2.1 34 = .ok (.getfield 24, 3) := dq_get dd_C_dropOldest_0 (i := 19) rfl
theorem d_C_dropOldest_37 : decode mC_dropOldest.2.1 37 = .ok (.invokestatic 44, 3) := dq_get dd_C_dropOldest_0 (i := 20) rfl
theorem d_C_dropOldest_40 : decode mC_dropOldest.2.1 40 = .ok (.aload_n 0, 1) := dq_get dd_C_dropOldest_0 (i := 21) rfl
theorem d_C_dropOldest_41 : decode mC_dropOldest.2.1 41 = .ok (.getfield 18, 3) := dq_get dd_C_dropOldest_0 (i := 22) rfl
theorem d_C_dropOldest_44 : decode mC_dropOldest.2.1 44 = .ok (.iconst 1, 1) := dq_get dd_C_dropOldest_0 (i := 23) rfl
theorem d_C_dropOldest_45 : decode mC_dropOldest.2.1 45 = .ok (.aload_n 0, 1) := dq_get dd_C_dropOldest_0 (i := 24) rfl
theorem d_C_dropOldest_46 : decode mC_dropOldest.2.1 46 = .ok (.getfield 18, 3) := dq_get dd_C_dropOldest_0 (i := 25) rfl
theorem d_C_dropOldest_49 : decode mC_dropOldest.2.1 49 = .ok (.iconst 0, 1) := dq_get dd_C_dropOldest_0 (i := 26) rfl
theorem d_C_dropOldest_50 : decode mC_dropOldest.2.1 50 = .ok (.aload_n 0, 1) := dq_get dd_C_dropOldest_0 (i := 27) rfl
theorem d_C_dropOldest_51 : decode mC_dropOldest.2.1 51 = .ok (.getfield 24, 3) := dq_get dd_C_dropOldest_0 (i := 28) rfl
theorem d_C_dropOldest_54 : decode mC_dropOldest.2.1 54 = .ok (.invokestatic 44, 3) := dq_get dd_C_dropOldest_0 (i := 29) rfl
theorem d_C_dropOldest_57 : decode mC_dropOldest.2.1 57 = .ok (.aload_n 0, 1) := dq_get dd_C_dropOldest_0 (i := 30) rfl
theorem d_C_dropOldest_58 : decode mC_dropOldest.2.1 58 = .ok (.getfield 21, 3) := dq_get dd_C_dropOldest_0 (i := 31) rfl
theorem dd_C_dropOldest_32 : dq mC_dropOldest.2.1 [(61, .iconst 1, 1), (62, .aload_n 0, 1), (63, .getfield 21, 3), (66, .iconst 0, 1), (67, .aload_n 0, 1), (68, .getfield 24, 3), (71, .invokestatic 44, 3), (74, .return_, 1)] = true := by decide +kernel
theorem d_C_dropOldest_61 : decode mC_dropOldest.2.1 61 = .ok (.iconst 1, 1) := dq_get dd_C_dropOldest_32 (i := 0) rfl
theorem d_C_dropOldest_62 : decode mC_dropOldest.2.1 62 = .ok (.aload_n 0, 1) := dq_get dd_C_dropOldest_32 (i := 1) rfl
theorem d_C_dropOldest_63 : decode mC_dropOldest.2.1 63 = .ok (.getfield 21, 3) := dq_get dd_C_dropOldest_32 (i := 2) rfl
theorem d_C_dropOldest_66 : decode mC_dropOldest.2.1 66 = .ok (.iconst 0, 1) := dq_get dd_C_dropOldest_32 (i := 3) rfl
theorem d_C_dropOldest_67 : decode mC_dropOldest.2.1 67 = .ok (.aload_n 0, 1) := dq_get dd_C_dropOldest_32 (i := 4) rfl
theorem d_C_dropOldest_68 : decode mC_dropOldest.2.1 68 = .ok (.getfield 24, 3) := dq_get dd_C_dropOldest_32 (i := 5) rfl
theorem d_C_dropOldest_71 : decode mC_dropOldest.2.1 71 = .ok (.invokestatic 44, 3) := dq_get dd_C_dropOldest_32 (i := 6) rfl
theorem d_C_dropOldest_74 : decode mC_dropOldest.2.1 74 = .ok (.return_, 1) := dq_get dd_C_dropOldest_32 (i := 7) rfl
theorem dd_L_valueOf_0 : dq mL_valueOf.2.1 [(0, .aload_n 0, 1), (1, .iload_n 1, 1), (2, .invokevirtual 33, 3), (5, .astore_n 3, 1), (6, .iload_n 1, 1), (7, .iconst 4, 1), (8, .if_icmp .ne 8, 3), (11, .aload_n 0, 1), (12, .getfield 24, 3), (15, .ireturn, 1), (16, .iload_n 2, 1), (17, .ifCond .lt 15, 3), (20, .iload_n 2, 1), (21, .aload_n 3, 1), (22, .arraylength, 1), (23, .if_icmp .ge 9, 3), (26, .aload_n 3, 1), (27, .iload_n 2, 1), (28, .iaload, 1), (29, .goto 4, 3), (32, .iconst 0, 1), (33, .ireturn, 1)] = true := by decide +kernel
theorem d_L_valueOf_0 : decode mL_valueOf.2.1 0 = .ok (.aload_n 0, 1) := dq_get dd_L_valueOf_0 (i := 0) rfl
theorem d_L_valueOf_1 : decode mL_valueOf.2.1 1 = .ok (.iload_n 1, 1) := dq_get dd_L_valueOf_0 (i := 1) rfl
theorem d_L_valueOf_2 : decode mL_valueOf.2.1 2 = .ok (.invokevirtual 33, 3) := dq_get dd_L_valueOf_0 (i := 2) rfl
theorem d_L_valueOf_5 : decode mL_valueOf.2.1 5 = .ok (.astore_n 3, 1) := dq_get dd_L_valueOf_0 (i := 3) rfl
theorem d_L_valueOf_6 : decode mL_valueOf.2.1 6 = .ok (.iload_n 1, 1) := dq_get dd_L_valueOf_0 (i := 4) rfl
theorem d_L_valueOf_7 : decode mL_valueOf.2.1 7 = .ok (.iconst 4, 1) := dq_get dd_L_valueOf_0 (i := 5) rfl
theorem d_L_valueOf_8 : decode mL_valueOf.2.1 8 = .ok (.if_icmp .ne 8, 3) := dq_get dd_L_valueOf_0 (i := 6) rfl
theorem d_L_valueOf_11 : decode mL_valueOf.2.1 11 = .ok (.aload_n 0, 1) := dq_get dd_L_valueOf_0 (i := 7) rfl
theorem d_L_valueOf_12 : decode mL_valueOf.2.1 12 = .ok (.getfield 24, 3) := dq_get dd_L_valueOf_0 (i := 8) rfl
theorem d_L_valueOf_15 : decode mL_valueOf.2.1 15 = .ok (.ireturn, 1) := dq_get dd_L_valueOf_0 (i := 9) rfl
theorem d_L_valueOf_16 : decode mL_valueOf.2.1 16 = .ok (.iload_n 2, 1) := dq_get dd_L_valueOf_0 (i := 10) rfl
theorem d_L_valueOf_17 : decode mL_valueOf.2.1 17 = .ok (.ifCond .lt 15, 3) := dq_get dd_L_valueOf_0 (i := 11) rfl
theorem d_L_valueOf_20 : decode mL_valueOf.2.1 20 = .ok (.iload_n 2, 1) := dq_get dd_L_valueOf_0 (i := 12) rfl
theorem d_L_valueOf_21 : decode mL_valueOf.2.1 21 = .ok (.aload_n 3, 1) := dq_get dd_L_valueOf_0 (i := 13) rfl
theorem d_L_valueOf_22 : decode mL_valueOf.2.1 22 = .ok (.arraylength, 1) := dq_get dd_L_valueOf_0 (i := 14) rfl
theorem d_L_valueOf_23 : decode mL_valueOf.2.1 23 = .ok (.if_icmp .ge 9, 3) := dq_get dd_L_valueOf_0 (i := 15) rfl
theorem d_L_valueOf_26 : decode mL_valueOf.2.1 26 = .ok (.aload_n 3, 1) := dq_get dd_L_valueOf_0 (i := 16) rfl
theorem d_L_valueOf_27 : decode mL_valueOf.2.1 27 = .ok (.iload_n 2, 1) := dq_get dd_L_valueOf_0 (i := 17) rfl
theorem d_L_valueOf_28 : decode mL_valueOf.2.1 28 = .ok (.iaload, 1) := dq_get dd_L_valueOf_0 (i := 18) rfl
theorem d_L_valueOf_29 : decode mL_valueOf.2.1 29 = .ok (.goto 4, 3) := dq_get dd_L_valueOf_0 (i := 19) rfl
theorem d_L_valueOf_32 : decode mL_valueOf.2.1 32 = .ok (.iconst 0, 1) := dq_get dd_L_valueOf_0 (i := 20) rfl
theorem d_L_valueOf_33 : decode mL_valueOf.2.1 33 = .ok (.ireturn, 1) := dq_get dd_L_valueOf_0 (i := 21) rfl
theorem dd_L_rowOf_0 : dq mL_rowOf.2.1 [(0, .iload_n 1, 1), (1, .tableswitch 42 0 2 #[27, 32, 37], 27), (28, .aload_n 0, 1), (29, .getfield 9, 3), (32, .areturn, 1), (33, .aload_n 0, 1), (34, .getfield 15, 3), (37, .areturn, 1), (38, .aload_n 0, 1), (39, .getfield 18, 3), (42, .areturn, 1), (43, .aload_n 0, 1), (44, .getfield 21, 3), (47, .areturn, 1)] = true := by decide +kernel
theorem d_L_rowOf_0 : decode mL_rowOf.2.1 0 = .ok (.iload_n 1, 1) := dq_get dd_L_rowOf_0 (i := 0) rfl
theorem d_L_rowOf_1 : decode mL_rowOf.2.1 1 = .ok (.tableswitch 42 0 2 #[27, 32, 37], 27) := dq_get dd_L_rowOf_0 (i := 1) rfl
theorem d_L_rowOf_28 : decode mL_rowOf.2.1 28 = .ok (.aload_n 0, 1) := dq_get dd_L_rowOf_0 (i := 2) rfl
theorem d_L_rowOf_29 : decode mL_rowOf.2.1 29 = .ok (.getfield 9, 3) := dq_get dd_L_rowOf_0 (i := 3) rfl
theorem d_L_rowOf_32 : decode mL_rowOf.2.1 32 = .ok (.areturn, 1) := dq_get dd_L_rowOf_0 (i := 4) rfl
theorem d_L_rowOf_33 : decode mL_rowOf.2.1 33 = .ok (.aload_n 0, 1) := dq_get dd_L_rowOf_0 (i := 5) rfl
theorem d_L_rowOf_34 : decode mL_rowOf.2.1 34 = .ok (.getfield 15, 3) := dq_get dd_L_rowOf_0 (i := 6) rfl
theorem d_L_rowOf_37 : decode mL_rowOf.2.1 37 = .ok (.areturn, 1) := dq_get dd_L_rowOf_0 (i := 7) rfl
theorem d_L_rowOf_38 : decode mL_rowOf.2.1 38 = .ok (.aload_n 0, 1) := dq_get dd_L_rowOf_0 (i := 8) rfl
theorem d_L_rowOf_39 : decode mL_rowOf.2.1 39 = .ok (.getfield 18, 3) := dq_get dd_L_rowOf_0 (i := 9) rfl
theorem d_L_rowOf_42 : decode mL_rowOf.2.1 42 = .ok (.areturn, 1) := dq_get dd_L_rowOf_0 (i := 10) rfl
theorem d_L_rowOf_43 : decode mL_rowOf.2.1 43 = .ok (.aload_n 0, 1) := dq_get dd_L_rowOf_0 (i := 11) rfl
theorem d_L_rowOf_44 : decode mL_rowOf.2.1 44 = .ok (.getfield 21, 3) := dq_get dd_L_rowOf_0 (i := 12) rfl
theorem d_L_rowOf_47 : decode mL_rowOf.2.1 47 = .ok (.areturn, 1) := dq_get dd_L_rowOf_0 (i := 13) rfl
theorem dd_L_put_0 : dq mL_put.2.1 [(0, .aload_n 0, 1), (1, .iload_n 1, 1), (2, .invokevirtual 33, 3), (5, .astore 4, 2), (7, .iload_n 1, 1), (8, .iconst 4, 1), (9, .if_icmp .ne 11, 3), (12, .aload_n 0, 1), (13, .iload_n 3, 1), (14, .putfield 24, 3), (17, .goto 19, 3), (20, .iload_n 2, 1), (21, .ifCond .lt 15, 3), (24, .iload_n 2, 1), (25, .aload 4, 2), (27, .arraylength, 1), (28, .if_icmp .ge 8, 3), (31, .aload 4, 2), (33, .iload_n 2, 1), (34, .iload_n 3, 1), (35, .iastore, 1), (36, .return_, 1)] = true := by decide +kernel
theorem d_L_put_0 : decode mL_put.2.1 0 = .ok (.aload_n 0, 1) := dq_get dd_L_put_0 (i := 0) rfl
theorem d_L_put_1 : decode mL_put.2.1 1 = .ok (.iload_n 1, 1) := dq_get dd_L_put_0 (i := 1) rfl
theorem d_L_put_2 : decode mL_put.2.1 2 = .ok (.invokevirtual 33, 3) := dq_get dd_L_put_0 (i := 2) rfl
theorem d_L_put_5 : decode mL_put.2.1 5 = .ok (.astore 4, 2) := dq_get dd_L_put_0 (i := 3) rfl
theorem d_L_put_7 : decode mL_put.2.1 7 = .ok (.iload_n 1, 1) := dq_get dd_L_put_0 (i := 4) rfl
theorem d_L_put_8 : decode mL_put.2.1 8 = .ok (.iconst 4, 1) := dq_get dd_L_put_0 (i := 5) rfl
theorem d_L_put_9 : decode mL_put.2.1 9 = .ok (.if_icmp .ne 11, 3) := dq_get dd_L_put_0 (i := 6) rfl
theorem d_L_put_12 : decode mL_put.2.1 12 = .ok (.aload_n 0, 1) := dq_get dd_L_put_0 (i := 7) rfl
theorem d_L_put_13 : decode mL_put.2.1 13 = .ok (.iload_n 3, 1) := dq_get dd_L_put_0 (i := 8) rfl
theorem d_L_put_14 : decode mL_put.2.1 14 = .ok (.putfield 24, 3) := dq_get dd_L_put_0 (i := 9) rfl
theorem d_L_put_17 : decode mL_put.2.1 17 = .ok (.goto 19, 3) := dq_get dd_L_put_0 (i := 10) rfl
theorem d_L_put_20 : decode mL_put.2.1 20 = .ok (.iload_n 2, 1) := dq_get dd_L_put_0 (i := 11) rfl
theorem d_L_put_21 : decode mL_put.2.1 21 = .ok (.ifCond .lt 15, 3) := dq_get dd_L_put_0 (i := 12) rfl
theorem d_L_put_24 : decode mL_put.2.1 24 = .ok (.iload_n 2, 1) := dq_get dd_L_put_0 (i := 13) rfl
theorem d_L_put_25 : decode mL_put.2.1 25 = .ok (.aload 4, 2) := dq_get dd_L_put_0 (i := 14) rfl
theorem d_L_put_27 : decode mL_put.2.1 27 = .ok (.arraylength, 1) := dq_get dd_L_put_0 (i := 15) rfl
theorem d_L_put_28 : decode mL_put.2.1 28 = .ok (.if_icmp .ge 8, 3) := dq_get dd_L_put_0 (i := 16) rfl
theorem d_L_put_31 : decode mL_put.2.1 31 = .ok (.aload 4, 2) := dq_get dd_L_put_0 (i := 17) rfl
theorem d_L_put_33 : decode mL_put.2.1 33 = .ok (.iload_n 2, 1) := dq_get dd_L_put_0 (i := 18) rfl
theorem d_L_put_34 : decode mL_put.2.1 34 = .ok (.iload_n 3, 1) := dq_get dd_L_put_0 (i := 19) rfl
theorem d_L_put_35 : decode mL_put.2.1 35 = .ok (.iastore, 1) := dq_get dd_L_put_0 (i := 20) rfl
theorem d_L_put_36 : decode mL_put.2.1 36 = .ok (.return_, 1) := dq_get dd_L_put_0 (i := 21) rfl
theorem dd_K_clashingBeats_0 : dq mK_clashingBeats.2.1 [(0, .iconst 0, 1), (1, .istore_n 3, 1), (2, .iconst 0, 1), (3, .istore 4, 2), (5, .iload 4, 2), (7, .aload_n 0, 1), (8, .getfield 30, 3), (11, .if_icmp .ge 27, 3), (14, .aload_n 0, 1), (15, .iload_n 1, 1), (16, .iload_n 2, 1), (17, .iload 4, 2), (19, .invokevirtual 104, 3), (22, .ifCond .eq 10, 3), (25, .iload_n 3, 1), (26, .iconst 1, 1), (27, .iload 4, 2), (29, .ishl, 1), (30, .ior, 1), (31, .istore_n 3, 1), (32, .iinc 4 1, 3), (35, .goto (-30), 3), (38, .iload_n 3, 1), (39, .ireturn, 1)] = true := by decide +kernel
theorem d_K_clashingBeats_0 : decode mK_clashingBeats.2.1 0 = .ok (.iconst 0, 1) := dq_get dd_K_clashingBeats_0 (i := 0) rfl
theorem d_K_clashingBeats_1 : decode mK_clashingBeats.2.1 1 = .ok (.istore_n 3, 1) := dq_get dd_K_clashingBeats_0 (i := 1) rfl
theorem d_K_clashingBeats_2 : decode mK_clashingBeats.2.1 2 = .ok (.iconst 0, 1) := dq_get dd_K_clashingBeats_0 (i := 2) rfl
theorem d_K_clashingBeats_3 : decode mK_clashingBeats.2.1 3 = .ok (.istore 4, 2) := dq_get dd_K_clashingBeats_0 (i := 3) rfl
theorem d_K_clashingBeats_5 : decode mK_clashingBeats.2.1 5 = .ok (.iload 4, 2) := dq_get dd_K_clashingBeats_0 (i := 4) rfl
theorem d_K_clashingBeats_7 : decode mK_clashingBeats.2.1 7 = .ok (.aload_n 0, 1) := dq_get dd_K_clashingBeats_0 (i := 5) rfl
theorem d_K_clashingBeats_8 : decode mK_clashingBeats.2.1 8 = .ok (.getfield 30, 3) := dq_get dd_K_clashingBeats_0 (i := 6) rfl
theorem d_K_clashingBeats_11 : decode mK_clashingBeats.2.1 11 = .ok (.if_icmp .ge 27, 3) := dq_get dd_K_clashingBeats_0 (i := 7) rfl
theorem d_K_clashingBeats_14 : decode mK_clashingBeats.2.1 14 = .ok (.aload_n 0, 1) := dq_get dd_K_clashingBeats_0 (i := 8) rfl
theorem d_K_clashingBeats_15 : decode mK_clashingBeats.2.1 15 = .ok (.iload_n 1, 1) := dq_get dd_K_clashingBeats_0 (i := 9) rfl
theorem d_K_clashingBeats_16 : decode mK_clashingBeats.2.1 16 = .ok (.iload_n 2, 1) := dq_get dd_K_clashingBeats_0 (i := 10) rfl
theorem d_K_clashingBeats_17 : decode mK_clashingBeats.2.1 17 = .ok (.iload 4, 2) := dq_get dd_K_clashingBeats_0 (i := 11) rfl
theorem d_K_clashingBeats_19 : decode mK_clashingBeats.2.1 19 = .ok (.invokevirtual 104, 3) := dq_get dd_K_clashingBeats_0 (i := 12) rfl
theorem d_K_clashingBeats_22 : decode mK_clashingBeats.2.1 22 = .ok (.ifCond .eq 10, 3) := dq_get dd_K_clashingBeats_0 (i := 13) rfl
theorem d_K_clashingBeats_25 : decode mK_clashingBeats.2.1 25 = .ok (.iload_n 3, 1) := dq_get dd_K_clashingBeats_0 (i := 14) rfl
theorem d_K_clashingBeats_26 : decode mK_clashingBeats.2.1 26 = .ok (.iconst 1, 1) := dq_get dd_K_clashingBeats_0 (i := 15) rfl
theorem d_K_clashingBeats_27 : decode mK_clashingBeats.2.1 27 = .ok (.iload 4, 2) := dq_get dd_K_clashingBeats_0 (i := 16) rfl
theorem d_K_clashingBeats_29 : decode mK_clashingBeats.2.1 29 = .ok (.ishl, 1) := dq_get dd_K_clashingBeats_0 (i := 17) rfl
theorem d_K_clashingBeats_30 : decode mK_clashingBeats.2.1 30 = .ok (.ior, 1) := dq_get dd_K_clashingBeats_0 (i := 18) rfl
theorem d_K_clashingBeats_31 : decode mK_clashingBeats.2.1 31 = .ok (.istore_n 3, 1) := dq_get dd_K_clashingBeats_0 (i := 19) rfl
theorem d_K_clashingBeats_32 : decode mK_clashingBeats.2.1 32 = .ok (.iinc 4 1, 3) := dq_get dd_K_clashingBeats_0 (i := 20) rfl
theorem d_K_clashingBeats_35 : decode mK_clashingBeats.2.1 35 = .ok (.goto (-30), 3) := dq_get dd_K_clashingBeats_0 (i := 21) rfl
theorem d_K_clashingBeats_38 : decode mK_clashingBeats.2.1 38 = .ok (.iload_n 3, 1) := dq_get dd_K_clashingBeats_0 (i := 22) rfl
theorem d_K_clashingBeats_39 : decode mK_clashingBeats.2.1 39 = .ok (.ireturn, 1) := dq_get dd_K_clashingBeats_0 (i := 23) rfl
theorem dd_C_takeBack_0 : dq mC_takeBack.2.1 [(0, .aload_n 0, 1), (1, .getfield 24, 3), (4, .ifCond .gt 5, 3), (7, .iconst 0, 1), (8, .ireturn, 1), (9, .aload_n 0, 1), (10, .dup, 1), (11, .getfield 24, 3), (14, .iconst 1, 1), (15, .isub, 1), (16, .putfield 24, 3), (19, .aload_n 1, 1), (20, .aload_n 0, 1), (21, .getfield 9, 3), (24, .aload_n 0, 1), (25, .getfield 24, 3), (28, .iaload, 1), (29, .aload_n 0, 1), (30, .getfield 15, 3), (33, .aload_n 0, 1), (34, .getfield 24, 3), (37, .iaload, 1), (38, .aload_n 0, 1), (39, .getfield 18, 3), (42, .aload_n 0, 1), (43, .getfield 24, 3), (46, .iaload, 1), (47, .invokevirtual 40, 3), (50, .iconst 1, 1), (51, .ireturn, 1)] = true := by decide +kernel
theorem d_C_takeBack_0 : decode mC_takeBack.2.1 0 = .ok (.aload_n 0, 1) := dq_get dd_C_takeBack_0 (i := 0) rfl
theorem d_C_takeBack_1 : decode mC_takeBack.2.1 1 = .ok (.getfield 24, 3) := dq_get dd_C_takeBack_0 (i := 1) rfl
theorem d_C_takeBack_4 : decode mC_takeBack.2.1 4 = .ok (.ifCond .gt 5, 3) := dq_get dd_C_takeBack_0 (i := 2) rfl
theorem d_C_takeBack_7 : decode mC_takeBack.2.1 7 = .ok (.iconst 0, 1) := dq_get dd_C_takeBack_0 (i := 3) rfl
theorem d_C_takeBack_8 : decode mC_takeBack.2.1 8 = .ok (.ireturn, 1) := dq_get dd_C_takeBack_0 (i := 4) rfl
theorem d_C_takeBack_9 : decode mC_takeBack.2.1 9 = .ok (.aload_n 0, 1) := dq_get dd_C_takeBack_0 (i := 5) rfl
theorem d_C_takeBack_10 : decode mC_takeBack.2.1 10 = .ok (.dup, 1) := dq_get dd_C_takeBack_0 (i := 6) rfl
theorem d_C_takeBack_11 : decode mC_takeBack.2.1 11 = .ok (.getfield 24, 3) := dq_get dd_C_takeBack_0 (i := 7) rfl
theorem d_C_takeBack_14 : decode mC_takeBack.2.1 14 = .ok (.iconst 1, 1) := dq_get dd_C_takeBack_0 (i := 8) rfl
theorem d_C_takeBack_15 : decode mC_takeBack.2.1 15 = .ok (.isub, 1) := dq_get dd_C_takeBack_0 (i := 9) rfl
theorem d_C_takeBack_16 : decode mC_takeBack.2.1 16 = .ok (.putfield 24, 3) := dq_get dd_C_takeBack_0 (i := 10) rfl
theorem d_C_takeBack_19 : decode mC_takeBack.2.1 19 = .ok (.aload_n 1, 1) := dq_get dd_C_takeBack_0 (i := 11) rfl
theorem d_C_takeBack_20 : decode mC_takeBack.2.1 20 = .ok (.aload_n 0, 1) := dq_get dd_C_takeBack_0 (i := 12) rfl
theorem d_C_takeBack_21 : decode mC_takeBack.2.1 21 = .ok (.getfield 9, 3) := dq_get dd_C_takeBack_0 (i := 13) rfl
theorem d_C_takeBack_24 : decode mC_takeBack.2.1 24 = .ok (.aload_n 0, 1) := dq_get dd_C_takeBack_0 (i := 14) rfl
theorem d_C_takeBack_25 : decode mC_takeBack.2.1 25 = .ok (.getfield 24, 3) := dq_get dd_C_takeBack_0 (i := 15) rfl
theorem d_C_takeBack_28 : decode mC_takeBack.2.1 28 = .ok (.iaload, 1) := dq_get dd_C_takeBack_0 (i := 16) rfl
theorem d_C_takeBack_29 : decode mC_takeBack.2.1 29 = .ok (.aload_n 0, 1) := dq_get dd_C_takeBack_0 (i := 17) rfl
theorem d_C_takeBack_30 : decode mC_takeBack.2.1 30 = .ok (.getfield 15, 3) := dq_get dd_C_takeBack_0 (i := 18) rfl
theorem d_C_takeBack_33 : decode mC_takeBack.2.1 33 = .ok (.aload_n 0, 1) := dq_get dd_C_takeBack_0 (i := 19) rfl
theorem d_C_takeBack_34 : decode mC_takeBack.2.1 34 = .ok (.getfield 24, 3) := dq_get dd_C_takeBack_0 (i := 20) rfl
theorem d_C_takeBack_37 : decode mC_takeBack.2.1 37 = .ok (.iaload, 1) := dq_get dd_C_takeBack_0 (i := 21) rfl
theorem d_C_takeBack_38 : decode mC_takeBack.2.1 38 = .ok (.aload_n 0, 1) := dq_get dd_C_takeBack_0 (i := 22) rfl
theorem d_C_takeBack_39 : decode mC_takeBack.2.1 39 = .ok (.getfield 18, 3) := dq_get dd_C_takeBack_0 (i := 23) rfl
theorem d_C_takeBack_42 : decode mC_takeBack.2.1 42 = .ok (.aload_n 0, 1) := dq_get dd_C_takeBack_0 (i := 24) rfl
theorem d_C_takeBack_43 : decode mC_takeBack.2.1 43 = .ok (.getfield 24, 3) := dq_get dd_C_takeBack_0 (i := 25) rfl
theorem d_C_takeBack_46 : decode mC_takeBack.2.1 46 = .ok (.iaload, 1) := dq_get dd_C_takeBack_0 (i := 26) rfl
theorem d_C_takeBack_47 : decode mC_takeBack.2.1 47 = .ok (.invokevirtual 40, 3) := dq_get dd_C_takeBack_0 (i := 27) rfl
theorem d_C_takeBack_50 : decode mC_takeBack.2.1 50 = .ok (.iconst 1, 1) := dq_get dd_C_takeBack_0 (i := 28) rfl
theorem d_C_takeBack_51 : decode mC_takeBack.2.1 51 = .ok (.ireturn, 1) := dq_get dd_C_takeBack_0 (i := 29) rfl
theorem dd_C_doAgain_0 : dq mC_doAgain.2.1 [(0, .aload_n 0, 1), (1, .getfield 24, 3), (4, .aload_n 0, 1), (5, .getfield 28, 3), (8, .if_icmp .lt 5, 3), (11, .iconst 0, 1), (12, .ireturn, 1), (13, .aload_n 1, 1), (14, .aload_n 0, 1), (15, .getfield 9, 3), (18, .aload_n 0, 1), (19, .getfield 24, 3), (22, .iaload, 1), (23, .aload_n 0, 1), (24, .getfield 15, 3), (27, .aload_n 0, 1), (28, .getfield 24, 3), (31, .iaload, 1), (32, .aload_n 0, 1), (33, .getfield 21, 3), (36, .aload_n 0, 1), (37, .getfield 24, 3), (40, .iaload, 1), (41, .invokevirtual 40, 3), (44, .aload_n 0, 1), (45, .dup, 1), (46, .getfield 24, 3), (49, .iconst 1, 1), (50, .iadd, 1), (51, .putfield 24, 3), (54, .iconst 1, 1), (55, .ireturn, 1)] = true := by decide +kernel
theorem d_C_doAgain_0 : decode mC_doAgain.2.1 0 = .ok (.aload_n 0, 1) := dq_get dd_C_doAgain_0 (i := 0) rfl
theorem d_C_doAgain_1 : decode mC_doAgain.2.1 1 = .ok (.getfield 24, 3) := dq_get dd_C_doAgain_0 (i := 1) rfl
theorem d_C_doAgain_4 : decode mC_doAgain.2.1 4 = .ok (.aload_n 0, 1) := dq_get dd_C_doAgain_0 (i := 2) rfl
theorem d_C_doAgain_5 : decode mC_doAgain.2.1 5 = .ok (.getfield 28, 3) := dq_get dd_C_doAgain_0 (i := 3) rfl
theorem d_C_doAgain_8 : decode mC_doAgain.2.1 8 = .ok (.if_icmp .lt 5, 3) := dq_get dd_C_doAgain_0 (i := 4) rfl
theorem d_C_doAgain_11 : decode mC_doAgain.2.1 11 = .ok (.iconst 0, 1) := dq_get dd_C_doAgain_0 (i := 5) rfl
theorem d_C_doAgain_12 : decode mC_doAgain.2.1 12 = .ok (.ireturn, 1) := dq_get dd_C_doAgain_0 (i := 6) rfl
theorem d_C_doAgain_13 : decode mC_doAgain.2.1 13 = .ok (.aload_n 1, 1) := dq_get dd_C_doAgain_0 (i := 7) rfl
theorem d_C_doAgain_14 : decode mC_doAgain.2.1 14 = .ok (.aload_n 0, 1) := dq_get dd_C_doAgain_0 (i := 8) rfl
theorem d_C_doAgain_15 : decode mC_doAgain.2.1 15 = .ok (.getfield 9, 3) := dq_get dd_C_doAgain_0 (i := 9) rfl
theorem d_C_doAgain_18 : decode mC_doAgain.2.1 18 = .ok (.aload_n 0, 1) := dq_get dd_C_doAgain_0 (i := 10) rfl
theorem d_C_doAgain_19 : decode mC_doAgain.2.1 19 = .ok (.getfield 24, 3) := dq_get dd_C_doAgain_0 (i := 11) rfl
theorem d_C_doAgain_22 : decode mC_doAgain.2.1 22 = .ok (.iaload, 1) := dq_get dd_C_doAgain_0 (i := 12) rfl
theorem d_C_doAgain_23 : decode mC_doAgain.2.1 23 = .ok (.aload_n 0, 1) := dq_get dd_C_doAgain_0 (i := 13) rfl
theorem d_C_doAgain_24 : decode mC_doAgain.2.1 24 = .ok (.getfield 15, 3) := dq_get dd_C_doAgain_0 (i := 14) rfl
theorem d_C_doAgain_27 : decode mC_doAgain.2.1 27 = .ok (.aload_n 0, 1) := dq_get dd_C_doAgain_0 (i := 15) rfl
theorem d_C_doAgain_28 : decode mC_doAgain.2.1 28 = .ok (.getfield 24, 3) := dq_get dd_C_doAgain_0 (i := 16) rfl
theorem d_C_doAgain_31 : decode mC_doAgain.2.1 31 = .ok (.iaload, 1) := dq_get dd_C_doAgain_0 (i := 17) rfl
theorem d_C_doAgain_32 : decode mC_doAgain.2.1 32 = .ok (.aload_n 0, 1) := dq_get dd_C_doAgain_0 (i := 18) rfl
theorem d_C_doAgain_33 : decode mC_doAgain.2.1 33 = .ok (.getfield 21, 3) := dq_get dd_C_doAgain_0 (i := 19) rfl
theorem d_C_doAgain_36 : decode mC_doAgain.2.1 36 = .ok (.aload_n 0, 1) := dq_get dd_C_doAgain_0 (i := 20) rfl
theorem d_C_doAgain_37 : decode mC_doAgain.2.1 37 = .ok (.getfield 24, 3) := dq_get dd_C_doAgain_0 (i := 21) rfl
theorem d_C_doAgain_40 : decode mC_doAgain.2.1 40 = .ok (.iaload, 1) := dq_get dd_C_doAgain_0 (i := 22) rfl
theorem d_C_doAgain_41 : decode mC_doAgain.2.1 41 = .ok (.invokevirtual 40, 3) := dq_get dd_C_doAgain_0 (i := 23) rfl
theorem d_C_doAgain_44 : decode mC_doAgain.2.1 44 = .ok (.aload_n 0, 1) := dq_get dd_C_doAgain_0 (i := 24) rfl
theorem d_C_doAgain_45 : decode mC_doAgain.2.1 45 = .ok (.dup, 1) := dq_get dd_C_doAgain_0 (i := 25) rfl
theorem d_C_doAgain_46 : decode mC_doAgain.2.1 46 = .ok (.getfield 24, 3) := dq_get dd_C_doAgain_0 (i := 26) rfl
theorem d_C_doAgain_49 : decode mC_doAgain.2.1 49 = .ok (.iconst 1, 1) := dq_get dd_C_doAgain_0 (i := 27) rfl
theorem d_C_doAgain_50 : decode mC_doAgain.2.1 50 = .ok (.iadd, 1) := dq_get dd_C_doAgain_0 (i := 28) rfl
theorem d_C_doAgain_51 : decode mC_doAgain.2.1 51 = .ok (.putfield 24, 3) := dq_get dd_C_doAgain_0 (i := 29) rfl
theorem d_C_doAgain_54 : decode mC_doAgain.2.1 54 = .ok (.iconst 1, 1) := dq_get dd_C_doAgain_0 (i := 30) rfl
theorem d_C_doAgain_55 : decode mC_doAgain.2.1 55 = .ok (.ireturn, 1) := dq_get dd_C_doAgain_0 (i := 31) rfl
theorem dd_A_arrange_0 : dq mA_arrange.2.1 [(0, .iconst 0, 1), (1, .istore_n 1, 1), (2, .iload_n 1, 1), (3, .aload_n 0, 1), (4, .getfield 12, 3), (7, .getfield 41, 3), (10, .if_icmp .ge 19, 3), (13, .aload_n 0, 1), (14, .iload_n 1, 1), (15, .invokevirtual 44, 3), (18, .aload_n 0, 1), (19, .iload_n 1, 1), (20, .invokevirtual 48, 3), (23, .iinc 1 1, 3), (26, .goto (-24), 3), (29, .aload_n 0, 1), (30, .sipush 9991, 3), (33, .putfield 51, 3), (36, .aload_n 0, 1), (37, .iconst 0, 1), (38, .putfield 34, 3), (41, .aload_n 0, 1), (42, .iconst 0, 1), (43, .putfield 38, 3), (46, .aload_n 0, 1), (47, .iconst 0, 1), (48, .iconst 0, 1), (49, .iconst 0, 1), (50, .iconst 0, 1), (51, .invokevirtual 54, 3), (54, .return_, 1)] = true := by decide +kernel
theorem d_A_arrange_0 : decode mA_arrange.2.1 0 = .ok (.iconst 0, 1) := dq_get dd_A_arrange_0 (i := 0) rfl
theorem d_A_arrange_1 : decode mA_arrange.2.1 1 = .ok (.istore_n 1, 1) := dq_get dd_A_arrange_0 (i := 1) rfl
theorem d_A_arrange_2 : decode mA_arrange.2.1 2 = .ok (.iload_n 1, 1) := dq_get dd_A_arrange_0 (i := 2) rfl
theorem d_A_arrange_3 : decode mA_arrange.2.1 3 = .ok (.aload_n 0, 1) := dq_get dd_A_arrange_0 (i := 3) rfl
theorem d_A_arrange_4 : decode mA_arrange.2.1 4 = .ok (.getfield 12, 3) := dq_get dd_A_arrange_0 (i := 4) rfl
theorem d_A_arrange_7 : decode mA_arrange.2.1 7 = .ok (.getfield 41, 3) := dq_get dd_A_arrange_0 (i := 5) rfl
theorem d_A_arrange_10 : decode mA_arrange.2.1 10 = .ok (.if_icmp .ge 19, 3) := dq_get dd_A_arrange_0 (i := 6) rfl
theorem d_A_arrange_13 : decode mA_arrange.2.1 13 = .ok (.aload_n 0, 1) := dq_get dd_A_arrange_0 (i := 7) rfl
theorem d_A_arrange_14 : decode mA_arrange.2.1 14 = .ok (.iload_n 1, 1) := dq_get dd_A_arrange_0 (i := 8) rfl
theorem d_A_arrange_15 : decode mA_arrange.2.1 15 = .ok (.invokevirtual 44, 3) := dq_get dd_A_arrange_0 (i := 9) rfl
theorem d_A_arrange_18 : decode mA_arrange.2.1 18 = .ok (.aload_n 0, 1) := dq_get dd_A_arrange_0 (i := 10) rfl
theorem d_A_arrange_19 : decode mA_arrange.2.1 19 = .ok (.iload_n 1, 1) := dq_get dd_A_arrange_0 (i := 11) rfl
theorem d_A_arrange_20 : decode mA_arrange.2.1 20 = .ok (.invokevirtual 48, 3) := dq_get dd_A_arrange_0 (i := 12) rfl
theorem d_A_arrange_23 : decode mA_arrange.2.1 23 = .ok (.iinc 1 1, 3) := dq_get dd_A_arrange_0 (i := 13) rfl
theorem d_A_arrange_26 : decode mA_arrange.2.1 26 = .ok (.goto (-24), 3) := dq_get dd_A_arrange_0 (i := 14) rfl
theorem d_A_arrange_29 : decode mA_arrange.2.1 29 = .ok (.aload_n 0, 1) := dq_get dd_A_arrange_0 (i := 15) rfl
theorem d_A_arrange_30 : decode mA_arrange.2.1 30 = .ok (.sipush 9991, 3) := dq_get dd_A_arrange_0 (i := 16) rfl
theorem d_A_arrange_33 : decode mA_arrange.2.1 33 = .ok (.putfield 51, 3) := dq_get dd_A_arrange_0 (i := 17) rfl
theorem d_A_arrange_36 : decode mA_arrange.2.1 36 = .ok (.aload_n 0, 1) := dq_get dd_A_arrange_0 (i := 18) rfl
theorem d_A_arrange_37 : decode mA_arrange.2.1 37 = .ok (.iconst 0, 1) := dq_get dd_A_arrange_0 (i := 19) rfl
theorem d_A_arrange_38 : decode mA_arrange.2.1 38 = .ok (.putfield 34, 3) := dq_get dd_A_arrange_0 (i := 20) rfl
theorem d_A_arrange_41 : decode mA_arrange.2.1 41 = .ok (.aload_n 0, 1) := dq_get dd_A_arrange_0 (i := 21) rfl
theorem d_A_arrange_42 : decode mA_arrange.2.1 42 = .ok (.iconst 0, 1) := dq_get dd_A_arrange_0 (i := 22) rfl
theorem d_A_arrange_43 : decode mA_arrange.2.1 43 = .ok (.putfield 38, 3) := dq_get dd_A_arrange_0 (i := 23) rfl
theorem d_A_arrange_46 : decode mA_arrange.2.1 46 = .ok (.aload_n 0, 1) := dq_get dd_A_arrange_0 (i := 24) rfl
theorem d_A_arrange_47 : decode mA_arrange.2.1 47 = .ok (.iconst 0, 1) := dq_get dd_A_arrange_0 (i := 25) rfl
theorem d_A_arrange_48 : decode mA_arrange.2.1 48 = .ok (.iconst 0, 1) := dq_get dd_A_arrange_0 (i := 26) rfl
theorem d_A_arrange_49 : decode mA_arrange.2.1 49 = .ok (.iconst 0, 1) := dq_get dd_A_arrange_0 (i := 27) rfl
theorem d_A_arrange_50 : decode mA_arrange.2.1 50 = .ok (.iconst 0, 1) := dq_get dd_A_arrange_0 (i := 28) rfl
theorem d_A_arrange_51 : decode mA_arrange.2.1 51 = .ok (.invokevirtual 54, 3) := dq_get dd_A_arrange_0 (i := 29) rfl
theorem d_A_arrange_54 : decode mA_arrange.2.1 54 = .ok (.return_, 1) := dq_get dd_A_arrange_0 (i := 30) rfl
theorem dd_A_findBars_0 : dq mA_findBars.2.1 [(0, .iconst 0, 1), (1, .istore_n 2, 1), (2, .iconst 0, 1), (3, .istore_n 3, 1), (4, .iload_n 3, 1), (5, .aload_n 0, 1), (6, .getfield 12, 3), (9, .getfield 58, 3), (12, .if_icmp .ge 37, 3), (15, .aload_n 0, 1), (16, .getfield 12, 3), (19, .iload_n 3, 1), (20, .invokevirtual 61, 3), (23, .istore 4, 2), (25, .iload_n 2, 1), (26, .iload 4, 2), (28, .iload_n 1, 1), (29, .ishr, 1), (30, .iconst 1, 1), (31, .iand, 1), (32, .ifCond .eq 8, 3), (35, .iload 4, 2), (37, .goto 4, 3), (40, .iconst 0, 1), (41, .ior, 1), (42, .istore_n 2, 1), (43, .iinc 3 1, 3), (46, .goto (-42), 3), (49, .aload_n 0, 1), (50, .getfield 22, 3), (53, .iload_n 1, 1), (54, .iconst 0, 1)] = true := by decide +kernel
theorem d_A_findBars_0 : decode mA_findBars.2.1 0 = .ok (.iconst 0, 1) := dq_get dd_A_findBars_0 (i := 0) rfl
theorem d_A_findBars_1 : decode mA_findBars.2.1 1 = .ok (.istore_n 2, 1) := dq_get dd_A_findBars_0 (i := 1) rfl
theorem d_A_findBars_2 : decode mA_findBars.2.1 2 = .ok (.iconst 0, 1) := dq_get dd_A_findBars_0 (i := 2) rfl
theorem d_A_findBars_3 : decode mA_findBars.2.1 3 = .ok (.istore_n 3, 1) := dq_get dd_A_findBars_0 (i := 3) rfl
theorem d_A_findBars_4 : decode mA_findBars.2.1 4 = .ok (.iload_n 3, 1) := dq_get dd_A_findBars_0 (i := 4) rfl
theorem d_A_findBars_5 : decode mA_findBars.2.1 5 = .ok (.aload_n 0, 1) := dq_get dd_A_findBars_0 (i := 5) rfl
theorem d_A_findBars_6 : decode mA_findBars.2.1 6 = .ok (.getfield 12, 3) := dq_get dd_A_findBars_0 (i := 6) rfl
theorem d_A_findBars_9 : decode mA_findBars.2.1 9 = .ok (.getfield 58, 3) := dq_get dd_A_findBars_0 (i := 7) rfl
theorem d_A_findBars_12 : decode mA_findBars.2.1 12 = .ok (.if_icmp .ge 37, 3) := dq_get dd_A_findBars_0 (i := 8) rfl
theorem d_A_findBars_15 : decode mA_findBars.2.1 15 = .ok (.aload_n 0, 1) := dq_get dd_A_findBars_0 (i := 9) rfl
theorem d_A_findBars_16 : decode mA_findBars.2.1 16 = .ok (.getfield 12, 3) := dq_get dd_A_findBars_0 (i := 10) rfl
theorem d_A_findBars_19 : decode mA_findBars.2.1 19 = .ok (.iload_n 3, 1) := dq_get dd_A_findBars_0 (i := 11) rfl
theorem d_A_findBars_20 : decode mA_findBars.2.1 20 = .ok (.invokevirtual 61, 3) := dq_get dd_A_findBars_0 (i := 12) rfl
theorem d_A_findBars_23 : decode mA_findBars.2.1 23 = .ok (.istore 4, 2) := dq_get dd_A_findBars_0 (i := 13) rfl
theorem d_A_findBars_25 : decode mA_findBars.2.1 25 = .ok (.iload_n 2, 1) := dq_get dd_A_findBars_0 (i := 14) rfl
theorem d_A_findBars_26 : decode mA_findBars.2.1 26 = .ok (.iload 4, 2) := dq_get dd_A_findBars_0 (i := 15) rfl
theorem d_A_findBars_28 : decode mA_findBars.2.1 28 = .ok (.iload_n 1, 1) := dq_get dd_A_findBars_0 (i := 16) rfl
theorem d_A_findBars_29 : decode mA_findBars.2.1 29 = .ok (.ishr, 1) := dq_get dd_A_findBars_0 (i := 17) rfl
theorem d_A_findBars_30 : decode mA_findBars.2.1 30 = .ok (.iconst 1, 1) := dq_get dd_A_findBars_0 (i := 18) rfl
theorem d_A_findBars_31 : decode mA_findBars.2.1 31 = .ok (.iand, 1) := dq_get dd_A_findBars_0 (i := 19) rfl
theorem d_A_findBars_32 : decode mA_findBars.2.1 32 = .ok (.ifCond .eq 8, 3) := dq_get dd_A_findBars_0 (i := 20) rfl
theorem d_A_findBars_35 : decode mA_findBars.2.1 35 = .ok (.iload 4, 2) := dq_get dd_A_findBars_0 (i := 21) rfl
theorem d_A_findBars_37 : decode mA_findBars.2.1 37 = .ok (.goto 4, 3) := dq_get dd_A_findBars_0 (i := 22) rfl
theorem d_A_findBars_40 : decode mA_findBars.2.1 40 = .ok (.iconst 0, 1) := dq_get dd_A_findBars_0 (i := 23) rfl
theorem d_A_findBars_41 : decode mA_findBars.2.1 41 = .ok (.ior, 1) := dq_get dd_A_findBars_0 (i := 24) rfl
theorem d_A_findBars_42 : decode mA_findBars.2.1 42 = .ok (.istore_n 2, 1) := dq_get dd_A_findBars_0 (i := 25) rfl
theorem d_A_findBars_43 : decode mA_findBars.2.1 43 = .ok (.iinc 3 1, 3) := dq_get dd_A_findBars_0 (i := 26) rfl
theorem d_A_findBars_46 : decode mA_findBars.2.1 46 = .ok (.goto (-42), 3) := dq_get dd_A_findBars_0 (i := 27) rfl
theorem d_A_findBars_49 : decode mA_findBars.2.1 49 = .ok (.aload_n 0, 1) := dq_get dd_A_findBars_0 (i := 28) rfl
theorem d_A_findBars_50 : decode mA_findBars.2.1 50 = .ok (.getfield 22, 3) := dq_get dd_A_findBars_0 (i := 29) rfl
theorem d_A_findBars_53 : decode mA_findBars.2.1 53 = .ok (.iload_n 1, 1) := dq_get dd_A_findBars_0 (i := 30) rfl
theorem d_A_findBars_54 : decode mA_findBars.2.1 54 = .ok (.iconst 0, 1) := dq_get dd_A_findBars_0 (i := 31) rfl
theorem dd_A_findBars_32 : dq mA_findBars.2.1 [(55, .iastore, 1), (56, .aload_n 0, 1), (57, .getfield 25, 3), (60, .iload_n 1, 1), (61, .iconst 0, 1), (62, .iastore, 1), (63, .aload_n 0, 1), (64, .getfield 28, 3), (67, .iload_n 1, 1), (68, .iconst 0, 1), (69, .iastore, 1), (70, .iconst 0, 1), (71, .istore_n 3, 1), (72, .iload_n 3, 1), (73, .aload_n 0, 1), (74, .getfield 12, 3), (77, .getfield 41, 3), (80, .if_icmp .ge 121, 3), (83, .iload_n 3, 1), (84, .iload_n 1, 1), (85, .if_icmp .eq 110, 3), (88, .iload_n 2, 1), (89, .iload_n 3, 1), (90, .ishr, 1), (91, .iconst 1, 1), (92, .iand, 1), (93, .ifCond .eq 102, 3), (96, .aload_n 0, 1), (97, .getfield 12, 3), (100, .getfield 65, 3), (103, .iload_n 3, 1), (104, .iaload, 1)] = true := by decide +kernel
theorem d_A_findBars_55 : decode mA_findBars.2.1 55 = .ok (.iastore, 1) := dq_get dd_A_findBars_32 (i := 0) rfl
theorem d_A_findBars_56 : decode mA_findBars.2.1 56 = .ok (.aload_n 0, 1) := dq_get dd_A_findBars_32 (i := 1) rfl
theorem d_A_findBars_57 : decode mA_findBars.2.1 57 = .ok (.getfield 25, 3) := dq_get dd_A_findBars_32 (i := 2) rfl
theorem d_A_findBars_60 : decode mA_findBars.2.1 60 = .ok (.iload_n 1, 1) := dq_get dd_A_findBars_32 (i := 3) rfl
theorem d_A_findBars_61 : decode mA_findBars.2.1 61 = .ok (.iconst 0, 1) := dq_get dd_A_findBars_32 (i := 4) rfl
theorem d_A_findBars_62 : decode mA_findBars.2.1 62 = .ok (.iastore, 1) := dq_get dd_A_findBars_32 (i := 5) rfl
theorem d_A_findBars_63 : decode mA_findBars.2.1 63 = .ok (.aload_n 0, 1) := dq_get dd_A_findBars_32 (i := 6) rfl
theorem d_A_findBars_64 : decode mA_findBars.2.1 64 = .ok (.getfield 28, 3) := dq_get dd_A_findBars_32 (i := 7) rfl
theorem d_A_findBars_67 : decode mA_findBars.2.1 67 = .ok (.iload_n 1, 1) := dq_get dd_A_findBars_32 (i := 8) rfl
theorem d_A_findBars_68 : decode mA_findBars.2.1 68 = .ok (.iconst 0, 1) := dq_get dd_A_findBars_32 (i := 9) rfl
theorem d_A_findBars_69 : decode mA_findBars.2.1 69 = .ok (.iastore, 1) := dq_get dd_A_findBars_32 (i := 10) rfl
theorem d_A_findBars_70 : decode mA_findBars.2.1 70 = .ok (.iconst 0, 1) := dq_get dd_A_findBars_32 (i := 11) rfl
theorem d_A_findBars_71 : decode mA_findBars.2.1 71 = .ok (.istore_n 3, 1) := dq_get dd_A_findBars_32 (i := 12) rfl
theorem d_A_findBars_72 : decode mA_findBars.2.1 72 = .ok (.iload_n 3, 1) := dq_get dd_A_findBars_32 (i := 13) rfl
theorem d_A_findBars_73 : decode mA_findBars.2.1 73 = .ok (.aload_n 0, 1) := dq_get dd_A_findBars_32 (i := 14) rfl
theorem d_A_findBars_74 : decode mA_findBars.2.1 74 = .ok (.getfield 12, 3) := dq_get dd_A_findBars_32 (i := 15) rfl
theorem d_A_findBars_77 : decode mA_findBars.2.1 77 = .ok (.getfield 41, 3) := dq_get dd_A_findBars_32 (i := 16) rfl
theorem d_A_findBars_80 : decode mA_findBars.2.1 80 = .ok (.if_icmp .ge 121, 3) := dq_get dd_A_findBars_32 (i := 17) rfl
theorem d_A_findBars_83 : decode mA_findBars.2.1 83 = .ok (.iload_n 3, 1) := dq_get dd_A_findBars_32 (i := 18) rfl
theorem d_A_findBars_84 : decode mA_findBars.2.1 84 = .ok (.iload_n 1, 1) := dq_get dd_A_findBars_32 (i := 19) rfl
theorem d_A_findBars_85 : decode mA_findBars.2.1 85 = .ok (.if_icmp .eq 110, 3) := dq_get dd_A_findBars_32 (i := 20) rfl
theorem d_A_findBars_88 : decode mA_findBars.2.1 88 = .ok (.iload_n 2, 1) := dq_get dd_A_findBars_32 (i := 21) rfl
theorem d_A_findBars_89 : decode mA_findBars.2.1 89 = .ok (.iload_n 3, 1) := dq_get dd_A_findBars_32 (i := 22) rfl
theorem d_A_findBars_90 : decode mA_findBars.2.1 90 = .ok (.ishr, 1) := dq_get dd_A_findBars_32 (i := 23) rfl
theorem d_A_findBars_91 : decode mA_findBars.2.1 91 = .ok (.iconst 1, 1) := dq_get dd_A_findBars_32 (i := 24) rfl
theorem d_A_findBars_92 : decode mA_findBars.2.1 92 = .ok (.iand, 1) := dq_get dd_A_findBars_32 (i := 25) rfl
theorem d_A_findBars_93 : decode mA_findBars.2.1 93 = .ok (.ifCond .eq 102, 3) := dq_get dd_A_findBars_32 (i := 26) rfl
theorem d_A_findBars_96 : decode mA_findBars.2.1 96 = .ok (.aload_n 0, 1) := dq_get dd_A_findBars_32 (i := 27) rfl
theorem d_A_findBars_97 : decode mA_findBars.2.1 97 = .ok (.getfield 12, 3) := dq_get dd_A_findBars_32 (i := 28) rfl
theorem d_A_findBars_100 : decode mA_findBars.2.1 100 = .ok (.getfield 65, 3) := dq_get dd_A_findBars_32 (i := 29) rfl
theorem d_A_findBars_103 : decode mA_findBars.2.1 103 = .ok (.iload_n 3, 1) := dq_get dd_A_findBars_32 (i := 30) rfl
theorem d_A_findBars_104 : decode mA_findBars.2.1 104 = .ok (.iaload, 1) := dq_get dd_A_findBars_32 (i := 31) rfl
theorem dd_A_findBars_64 : dq mA_findBars.2.1 [(105, .aload_n 0, 1), (106, .getfield 12, 3), (109, .getfield 65, 3), (112, .iload_n 1, 1), (113, .iaload, 1), (114, .isub, 1), (115, .istore 4, 2), (117, .aload_n 0, 1), (118, .getfield 22, 3), (121, .iload_n 1, 1), (122, .dup2, 1), (123, .iaload, 1), (124, .iload 4, 2), (126, .ifCond .eq 18, 3), (129, .iload 4, 2), (131, .invokestatic 68, 3), (134, .aload_n 0, 1), (135, .getfield 12, 3), (138, .getfield 73, 3), (141, .if_icmp .le 9, 3), (144, .iconst 1, 1), (145, .iload_n 3, 1), (146, .ishl, 1), (147, .goto 4, 3), (150, .iconst 0, 1), (151, .ior, 1), (152, .iastore, 1), (153, .aload_n 0, 1), (154, .getfield 25, 3), (157, .iload_n 1, 1), (158, .dup2, 1), (159, .iaload, 1)] = true := by decide +kernel
theorem d_A_findBars_105 : decode mA_findBars.2.1 105 = .ok (.aload_n 0, 1) := dq_get dd_A_findBars_64 (i := 0) rfl
theorem d_A_findBars_106 : decode mA_findBars.2.1 106 = .ok (.getfield 12, 3) := dq_get dd_A_findBars_64 (i := 1) rfl
theorem d_A_findBars_109 : decode mA_findBars.2.1 109 = .ok (.getfield 65, 3) := dq_get dd_A_findBars_64 (i := 2) rfl
theorem d_A_findBars_112 : decode mA_findBars.2.1 112 = .ok (.iload_n 1, 1) := dq_get dd_A_findBars_64 (i := 3) rfl
theorem d_A_findBars_113 : decode mA_findBars.2.1 113 = .ok (.iaload, 1) := dq_get dd_A_findBars_64 (i := 4) rfl
theorem d_A_findBars_114 : decode mA_findBars.2.1 114 = .ok (.isub, 1) := dq_get dd_A_findBars_64 (i := 5) rfl
theorem d_A_findBars_115 : decode mA_findBars.2.1 115 = .ok (.istore 4, 2) := dq_get dd_A_findBars_64 (i := 6) rfl
theorem d_A_findBars_117 : decode mA_findBars.2.1 117 = .ok (.aload_n 0, 1) := dq_get dd_A_findBars_64 (i := 7) rfl
theorem d_A_findBars_118 : decode mA_findBars.2.1 118 = .ok (.getfield 22, 3) := dq_get dd_A_findBars_64 (i := 8) rfl
theorem d_A_findBars_121 : decode mA_findBars.2.1 121 = .ok (.iload_n 1, 1) := dq_get dd_A_findBars_64 (i := 9) rfl
theorem d_A_findBars_122 : decode mA_findBars.2.1 122 = .ok (.dup2, 1) := dq_get dd_A_findBars_64 (i := 10) rfl
theorem d_A_findBars_123 : decode mA_findBars.2.1 123 = .ok (.iaload, 1) := dq_get dd_A_findBars_64 (i := 11) rfl
theorem d_A_findBars_124 : decode mA_findBars.2.1 124 = .ok (.iload 4, 2) := dq_get dd_A_findBars_64 (i := 12) rfl
theorem d_A_findBars_126 : decode mA_findBars.2.1 126 = .ok (.ifCond .eq 18, 3) := dq_get dd_A_findBars_64 (i := 13) rfl
theorem d_A_findBars_129 : decode mA_findBars.2.1 129 = .ok (.iload 4, 2) := dq_get dd_A_findBars_64 (i := 14) rfl
theorem d_A_findBars_131 : decode mA_findBars.2.1 131 = .ok (.invokestatic 68, 3) := dq_get dd_A_findBars_64 (i := 15) rfl
theorem d_A_findBars_134 : decode mA_findBars.2.1 134 = .ok (.aload_n 0, 1) := dq_get dd_A_findBars_64 (i := 16) rfl
theorem d_A_findBars_135 : decode mA_findBars.2.1 135 = .ok (.getfield 12, 3) := dq_get dd_A_findBars_64 (i := 17) rfl
theorem d_A_findBars_138 : decode mA_findBars.2.1 138 = .ok (.getfield 73, 3) := dq_get dd_A_findBars_64 (i := 18) rfl
theorem d_A_findBars_141 : decode mA_findBars.2.1 141 = .ok (.if_icmp .le 9, 3) := dq_get dd_A_findBars_64 (i := 19) rfl
theorem d_A_findBars_144 : decode mA_findBars.2.1 144 = .ok (.iconst 1, 1) := dq_get dd_A_findBars_64 (i := 20) rfl
theorem d_A_findBars_145 : decode mA_findBars.2.1 145 = .ok (.iload_n 3, 1) := dq_get dd_A_findBars_64 (i := 21) rfl
theorem d_A_findBars_146 : decode mA_findBars.2.1 146 = .ok (.ishl, 1) := dq_get dd_A_findBars_64 (i := 22) rfl
theorem d_A_findBars_147 : decode mA_findBars.2.1 147 = .ok (.goto 4, 3) := dq_get dd_A_findBars_64 (i := 23) rfl
theorem d_A_findBars_150 : decode mA_findBars.2.1 150 = .ok (.iconst 0, 1) := dq_get dd_A_findBars_64 (i := 24) rfl
theorem d_A_findBars_151 : decode mA_findBars.2.1 151 = .ok (.ior, 1) := dq_get dd_A_findBars_64 (i := 25) rfl
theorem d_A_findBars_152 : decode mA_findBars.2.1 152 = .ok (.iastore, 1) := dq_get dd_A_findBars_64 (i := 26) rfl
theorem d_A_findBars_153 : decode mA_findBars.2.1 153 = .ok (.aload_n 0, 1) := dq_get dd_A_findBars_64 (i := 27) rfl
theorem d_A_findBars_154 : decode mA_findBars.2.1 154 = .ok (.getfield 25, 3) := dq_get dd_A_findBars_64 (i := 28) rfl
theorem d_A_findBars_157 : decode mA_findBars.2.1 157 = .ok (.iload_n 1, 1) := dq_get dd_A_findBars_64 (i := 29) rfl
theorem d_A_findBars_158 : decode mA_findBars.2.1 158 = .ok (.dup2, 1) := dq_get dd_A_findBars_64 (i := 30) rfl
theorem d_A_findBars_159 : decode mA_findBars.2.1 159 = .ok (.iaload, 1) := dq_get dd_A_findBars_64 (i := 31) rfl
theorem dd_A_findBars_96 : dq mA_findBars.2.1 [(160, .iload 4, 2), (162, .ifCond .gt 9, 3), (165, .iconst 1, 1), (166, .iload_n 3, 1), (167, .ishl, 1), (168, .goto 4, 3), (171, .iconst 0, 1), (172, .ior, 1), (173, .iastore, 1), (174, .aload_n 0, 1), (175, .getfield 28, 3), (178, .iload_n 1, 1), (179, .dup2, 1), (180, .iaload, 1), (181, .iload 4, 2), (183, .ifCond .lt 9, 3), (186, .iconst 1, 1), (187, .iload_n 3, 1), (188, .ishl, 1), (189, .goto 4, 3), (192, .iconst 0, 1), (193, .ior, 1), (194, .iastore, 1), (195, .iinc 3 1, 3), (198, .goto (-126), 3), (201, .return_, 1)] = true := by decide +kernel
theorem d_A_findBars_160 : decode mA_findBars.2.1 160 = .ok (.iload 4, 2) := dq_get dd_A_findBars_96 (i := 0) rfl
theorem d_A_findBars_162 : decode mA_findBars.2.1 162 = .ok (.ifCond .gt 9, 3) := dq_get dd_A_findBars_96 (i := 1) rfl
theorem d_A_findBars_165 : decode mA_findBars.2.1 165 = .ok (.iconst 1, 1) := dq_get dd_A_findBars_96 (i := 2) rfl
theorem d_A_findBars_166 : decode mA_findBars.2.1 166 = .ok (.iload_n 3, 1) := dq_get dd_A_findBars_96 (i := 3) rfl
theorem d_A_findBars_167 : decode mA_findBars.2.1 167 = .ok (.ishl, 1) := dq_get dd_A_findBars_96 (i := 4) rfl
theorem d_A_findBars_168 : decode mA_findBars.2.1 168 = .ok (.goto 4, 3) := dq_get dd_A_findBars_96 (i := 5) rfl
theorem d_A_findBars_171 : decode mA_findBars.2.1 171 = .ok (.iconst 0, 1) := dq_get dd_A_findBars_96 (i := 6) rfl
theorem d_A_findBars_172 : decode mA_findBars.2.1 172 = .ok (.ior, 1) := dq_get dd_A_findBars_96 (i := 7) rfl
theorem d_A_findBars_173 : decode mA_findBars.2.1 173 = .ok (.iastore, 1) := dq_get dd_A_findBars_96 (i := 8) rfl
theorem d_A_findBars_174 : decode mA_findBars.2.1 174 = .ok (.aload_n 0, 1) := dq_get dd_A_findBars_96 (i := 9) rfl
theorem d_A_findBars_175 : decode mA_findBars.2.1 175 = .ok (.getfield 28, 3) := dq_get dd_A_findBars_96 (i := 10) rfl
theorem d_A_findBars_178 : decode mA_findBars.2.1 178 = .ok (.iload_n 1, 1) := dq_get dd_A_findBars_96 (i := 11) rfl
theorem d_A_findBars_179 : decode mA_findBars.2.1 179 = .ok (.dup2, 1) := dq_get dd_A_findBars_96 (i := 12) rfl
theorem d_A_findBars_180 : decode mA_findBars.2.1 180 = .ok (.iaload, 1) := dq_get dd_A_findBars_96 (i := 13) rfl
theorem d_A_findBars_181 : decode mA_findBars.2.1 181 = .ok (.iload 4, 2) := dq_get dd_A_findBars_96 (i := 14) rfl
theorem d_A_findBars_183 : decode mA_findBars.2.1 183 = .ok (.ifCond .lt 9, 3) := dq_get dd_A_findBars_96 (i := 15) rfl
theorem d_A_findBars_186 : decode mA_findBars.2.1 186 = .ok (.iconst 1, 1) := dq_get dd_A_findBars_96 (i := 16) rfl
theorem d_A_findBars_187 : decode mA_findBars.2.1 187 = .ok (.iload_n 3, 1) := dq_get dd_A_findBars_96 (i := 17) rfl
theorem d_A_findBars_188 : decode mA_findBars.2.1 188 = .ok (.ishl, 1) := dq_get dd_A_findBars_96 (i := 18) rfl
theorem d_A_findBars_189 : decode mA_findBars.2.1 189 = .ok (.goto 4, 3) := dq_get dd_A_findBars_96 (i := 19) rfl
theorem d_A_findBars_192 : decode mA_findBars.2.1 192 = .ok (.iconst 0, 1) := dq_get dd_A_findBars_96 (i := 20) rfl
theorem d_A_findBars_193 : decode mA_findBars.2.1 193 = .ok (.ior, 1) := dq_get dd_A_findBars_96 (i := 21) rfl
theorem d_A_findBars_194 : decode mA_findBars.2.1 194 = .ok (.iastore, 1) := dq_get dd_A_findBars_96 (i := 22) rfl
theorem d_A_findBars_195 : decode mA_findBars.2.1 195 = .ok (.iinc 3 1, 3) := dq_get dd_A_findBars_96 (i := 23) rfl
theorem d_A_findBars_198 : decode mA_findBars.2.1 198 = .ok (.goto (-126), 3) := dq_get dd_A_findBars_96 (i := 24) rfl
theorem d_A_findBars_201 : decode mA_findBars.2.1 201 = .ok (.return_, 1) := dq_get dd_A_findBars_96 (i := 25) rfl
theorem dd_A_findSettledLeaps_0 : dq mA_findSettledLeaps.2.1 [(0, .aload_n 0, 1), (1, .getfield 31, 3), (4, .iload_n 1, 1), (5, .iconst 0, 1), (6, .iastore, 1), (7, .iconst 1, 1), (8, .istore_n 2, 1), (9, .iload_n 2, 1), (10, .aload_n 0, 1), (11, .getfield 12, 3), (14, .getfield 58, 3), (17, .if_icmp .ge 52, 3), (20, .aload_n 0, 1), (21, .getfield 12, 3), (24, .iload_n 2, 1), (25, .iconst 1, 1), (26, .isub, 1), (27, .invokevirtual 61, 3), (30, .aload_n 0, 1), (31, .getfield 12, 3), (34, .iload_n 2, 1), (35, .invokevirtual 61, 3), (38, .ior, 1), (39, .istore_n 3, 1), (40, .aload_n 0, 1), (41, .getfield 31, 3), (44, .iload_n 1, 1), (45, .dup2, 1), (46, .iaload, 1), (47, .iload_n 3, 1), (48, .iload_n 1, 1), (49, .ishr, 1)] = true := by decide +kernel
theorem d_A_findSettledLeaps_0 : decode mA_findSettledLeaps.2.1 0 = .ok (.aload_n 0, 1) := dq_get dd_A_findSettledLeaps_0 (i := 0) rfl
theorem d_A_findSettledLeaps_1 : decode mA_findSettledLeaps.2.1 1 = .ok (.getfield 31, 3) := dq_get dd_A_findSettledLeaps_0 (i := 1) rfl
theorem d_A_findSettledLeaps_4 : decode mA_findSettledLeaps.2.1 4 = .ok (.iload_n 1, 1) := dq_get dd_A_findSettledLeaps_0 (i := 2) rfl
theorem d_A_findSettledLeaps_5 : decode mA_findSettledLeaps.2.1 5 = .ok (.iconst 0, 1) := dq_get dd_A_findSettledLeaps_0 (i := 3) rfl
theorem d_A_findSettledLeaps_6 : decode mA_findSettledLeaps.2.1 6 = .ok (.iastore, 1) := dq_get dd_A_findSettledLeaps_0 (i := 4) rfl
theorem d_A_findSettledLeaps_7 : decode mA_findSettledLeaps.2.1 7 = .ok (.iconst 1, 1) := dq_get dd_A_findSettledLeaps_0 (i := 5) rfl
theorem d_A_findSettledLeaps_8 : decode mA_findSettledLeaps.2.1 8 = .ok (.istore_n 2, 1) := dq_get dd_A_findSettledLeaps_0 (i := 6) rfl
theorem d_A_findSettledLeaps_9 : decode mA_findSettledLeaps.2.1 9 = .ok (.iload_n 2, 1) := dq_get dd_A_findSettledLeaps_0 (i := 7) rfl
theorem d_A_findSettledLeaps_10 : decode mA_findSettledLeaps.2.1 10 = .ok (.aload_n 0, 1) := dq_get dd_A_findSettledLeaps_0 (i := 8) rfl
theorem d_A_findSettledLeaps_11 : decode mA_findSettledLeaps.2.1 11 = .ok (.getfield 12, 3) := dq_get dd_A_findSettledLeaps_0 (i := 9) rfl
theorem d_A_findSettledLeaps_14 : decode mA_findSettledLeaps.2.1 14 = .ok (.getfield 58, 3) := dq_get dd_A_findSettledLeaps_0 (i := 10) rfl
theorem d_A_findSettledLeaps_17 : decode mA_findSettledLeaps.2.1 17 = .ok (.if_icmp .ge 52, 3) := dq_get dd_A_findSettledLeaps_0 (i := 11) rfl
theorem d_A_findSettledLeaps_20 : decode mA_findSettledLeaps.2.1 20 = .ok (.aload_n 0, 1) := dq_get dd_A_findSettledLeaps_0 (i := 12) rfl
theorem d_A_findSettledLeaps_21 : decode mA_findSettledLeaps.2.1 21 = .ok (.getfield 12, 3) := dq_get dd_A_findSettledLeaps_0 (i := 13) rfl
theorem d_A_findSettledLeaps_24 : decode mA_findSettledLeaps.2.1 24 = .ok (.iload_n 2, 1) := dq_get dd_A_findSettledLeaps_0 (i := 14) rfl
theorem d_A_findSettledLeaps_25 : decode mA_findSettledLeaps.2.1 25 = .ok (.iconst 1, 1) := dq_get dd_A_findSettledLeaps_0 (i := 15) rfl
theorem d_A_findSettledLeaps_26 : decode mA_findSettledLeaps.2.1 26 = .ok (.isub, 1) := dq_get dd_A_findSettledLeaps_0 (i := 16) rfl
theorem d_A_findSettledLeaps_27 : decode mA_findSettledLeaps.2.1 27 = .ok (.invokevirtual 61, 3) := dq_get dd_A_findSettledLeaps_0 (i := 17) rfl
theorem d_A_findSettledLeaps_30 : decode mA_findSettledLeaps.2.1 30 = .ok (.aload_n 0, 1) := dq_get dd_A_findSettledLeaps_0 (i := 18) rfl
theorem d_A_findSettledLeaps_31 : decode mA_findSettledLeaps.2.1 31 = .ok (.getfield 12, 3) := dq_get dd_A_findSettledLeaps_0 (i := 19) rfl
theorem d_A_findSettledLeaps_34 : decode mA_findSettledLeaps.2.1 34 = .ok (.iload_n 2, 1) := dq_get dd_A_findSettledLeaps_0 (i := 20) rfl
theorem d_A_findSettledLeaps_35 : decode mA_findSettledLeaps.2.1 35 = .ok (.invokevirtual 61, 3) := dq_get dd_A_findSettledLeaps_0 (i := 21) rfl
theorem d_A_findSettledLeaps_38 : decode mA_findSettledLeaps.2.1 38 = .ok (.ior, 1) := dq_get dd_A_findSettledLeaps_0 (i := 22) rfl
theorem d_A_findSettledLeaps_39 : decode mA_findSettledLeaps.2.1 39 = .ok (.istore_n 3, 1) := dq_get dd_A_findSettledLeaps_0 (i := 23) rfl
theorem d_A_findSettledLeaps_40 : decode mA_findSettledLeaps.2.1 40 = .ok (.aload_n 0, 1) := dq_get dd_A_findSettledLeaps_0 (i := 24) rfl
theorem d_A_findSettledLeaps_41 : decode mA_findSettledLeaps.2.1 41 = .ok (.getfield 31, 3) := dq_get dd_A_findSettledLeaps_0 (i := 25) rfl
theorem d_A_findSettledLeaps_44 : decode mA_findSettledLeaps.2.1 44 = .ok (.iload_n 1, 1) := dq_get dd_A_findSettledLeaps_0 (i := 26) rfl
theorem d_A_findSettledLeaps_45 : decode mA_findSettledLeaps.2.1 45 = .ok (.dup2, 1) := dq_get dd_A_findSettledLeaps_0 (i := 27) rfl
theorem d_A_findSettledLeaps_46 : decode mA_findSettledLeaps.2.1 46 = .ok (.iaload, 1) := dq_get dd_A_findSettledLeaps_0 (i := 28) rfl
theorem d_A_findSettledLeaps_47 : decode mA_findSettledLeaps.2.1 47 = .ok (.iload_n 3, 1) := dq_get dd_A_findSettledLeaps_0 (i := 29) rfl
theorem d_A_findSettledLeaps_48 : decode mA_findSettledLeaps.2.1 48 = .ok (.iload_n 1, 1) := dq_get dd_A_findSettledLeaps_0 (i := 30) rfl
theorem d_A_findSettledLeaps_49 : decode mA_findSettledLeaps.2.1 49 = .ok (.ishr, 1) := dq_get dd_A_findSettledLeaps_0 (i := 31) rfl
theorem dd_A_findSettledLeaps_32 : dq mA_findSettledLeaps.2.1 [(50, .iconst 1, 1), (51, .if_icmp .ne 9, 3), (54, .iconst 1, 1), (55, .iload_n 2, 1), (56, .ishl, 1), (57, .goto 4, 3), (60, .iconst 0, 1), (61, .ior, 1), (62, .iastore, 1), (63, .iinc 2 1, 3), (66, .goto (-57), 3), (69, .return_, 1)] = true := by decide +kernel
theorem d_A_findSettledLeaps_50 : decode mA_findSettledLeaps.2.1 50 = .ok (.iconst 1, 1) := dq_get dd_A_findSettledLeaps_32 (i := 0) rfl
theorem d_A_findSettledLeaps_51 : decode mA_findSettledLeaps.2.1 51 = .ok (.if_icmp .ne 9, 3) := dq_get dd_A_findSettledLeaps_32 (i := 1) rfl
theorem d_A_findSettledLeaps_54 : decode mA_findSettledLeaps.2.1 54 = .ok (.iconst 1, 1) := dq_get dd_A_findSettledLeaps_32 (i := 2) rfl
theorem d_A_findSettledLeaps_55 : decode mA_findSettledLeaps.2.1 55 = .ok (.iload_n 2, 1) := dq_get dd_A_findSettledLeaps_32 (i := 3) rfl
theorem d_A_findSettledLeaps_56 : decode mA_findSettledLeaps.2.1 56 = .ok (.ishl, 1) := dq_get dd_A_findSettledLeaps_32 (i := 4) rfl
theorem d_A_findSettledLeaps_57 : decode mA_findSettledLeaps.2.1 57 = .ok (.goto 4, 3) := dq_get dd_A_findSettledLeaps_32 (i := 5) rfl
theorem d_A_findSettledLeaps_60 : decode mA_findSettledLeaps.2.1 60 = .ok (.iconst 0, 1) := dq_get dd_A_findSettledLeaps_32 (i := 6) rfl
theorem d_A_findSettledLeaps_61 : decode mA_findSettledLeaps.2.1 61 = .ok (.ior, 1) := dq_get dd_A_findSettledLeaps_32 (i := 7) rfl
theorem d_A_findSettledLeaps_62 : decode mA_findSettledLeaps.2.1 62 = .ok (.iastore, 1) := dq_get dd_A_findSettledLeaps_32 (i := 8) rfl
theorem d_A_findSettledLeaps_63 : decode mA_findSettledLeaps.2.1 63 = .ok (.iinc 2 1, 3) := dq_get dd_A_findSettledLeaps_32 (i := 9) rfl
theorem d_A_findSettledLeaps_66 : decode mA_findSettledLeaps.2.1 66 = .ok (.goto (-57), 3) := dq_get dd_A_findSettledLeaps_32 (i := 10) rfl
theorem d_A_findSettledLeaps_69 : decode mA_findSettledLeaps.2.1 69 = .ok (.return_, 1) := dq_get dd_A_findSettledLeaps_32 (i := 11) rfl
theorem dd_A_search_0 : dq mA_search.2.1 [(0, .iload 4, 2), (2, .aload_n 0, 1), (3, .getfield 51, 3), (6, .if_icmp .lt 4, 3), (9, .return_, 1), (10, .iload_n 1, 1), (11, .aload_n 0, 1), (12, .getfield 12, 3), (15, .getfield 41, 3), (18, .if_icmp .lt 20, 3), (21, .aload_n 0, 1), (22, .iload 4, 2), (24, .putfield 51, 3), (27, .aload_n 0, 1), (28, .iload_n 2, 1), (29, .putfield 34, 3), (32, .aload_n 0, 1), (33, .iload_n 3, 1), (34, .putfield 38, 3), (37, .return_, 1), (38, .iconst 1, 1), (39, .iload_n 1, 1), (40, .ishl, 1), (41, .istore 5, 2), (43, .aload_n 0, 1), (44, .iload_n 1, 1), (45, .iload_n 2, 1), (46, .iload_n 3, 1), (47, .invokevirtual 76, 3), (50, .ifCond .eq 42, 3), (53, .aload_n 0, 1), (54, .iload_n 1, 1)] = true := by decide +kernel
theorem d_A_search_0 : decode mA_search.2.1 0 = .ok (.iload 4, 2) := dq_get dd_A_search_0 (i := 0) rfl
theorem d_A_search_2 : decode mA_search.2.1 2 = .ok (.aload_n 0, 1) := dq_get dd_A_search_0 (i := 1) rfl
theorem d_A_search_3 : decode mA_search.2.1 3 = .ok (.getfield 51, 3) := dq_get dd_A_search_0 (i := 2) rfl
theorem d_A_search_6 : decode mA_search.2.1 6 = .ok (.if_icmp .lt 4, 3) := dq_get dd_A_search_0 (i := 3) rfl
theorem d_A_search_9 : decode mA_search.2.1 9 = .ok (.return_, 1) := dq_get dd_A_search_0 (i := 4) rfl
theorem d_A_search_10 : decode mA_search.2.1 10 = .ok (.iload_n 1, 1) := dq_get dd_A_search_0 (i := 5) rfl
theorem d_A_search_11 : decode mA_search.2.1 11 = .ok (.aload_n 0, 1) := dq_get dd_A_search_0 (i := 6) rfl
theorem d_A_search_12 : decode mA_search.2.1 12 = .ok (.getfield 12, 3) := dq_get dd_A_search_0 (i := 7) rfl
theorem d_A_search_15 : decode mA_search.2.1 15 = .ok (.getfield 41, 3) := dq_get dd_A_search_0 (i := 8) rfl
theorem d_A_search_18 : decode mA_search.2.1 18 = .ok (.if_icmp .lt 20, 3) := dq_get dd_A_search_0 (i := 9) rfl
theorem d_A_search_21 : decode mA_search.2.1 21 = .ok (.aload_n 0, 1) := dq_get dd_A_search_0 (i := 10) rfl
theorem d_A_search_22 : decode mA_search.2.1 22 = .ok (.iload 4, 2) := dq_get dd_A_search_0 (i := 11) rfl
theorem d_A_search_24 : decode mA_search.2.1 24 = .ok (.putfield 51, 3) := dq_get dd_A_search_0 (i := 12) rfl
theorem d_A_search_27 : decode mA_search.2.1 27 = .ok (.aload_n 0, 1) := dq_get dd_A_search_0 (i := 13) rfl
theorem d_A_search_28 : decode mA_search.2.1 28 = .ok (.iload_n 2, 1) := dq_get dd_A_search_0 (i := 14) rfl
theorem d_A_search_29 : decode mA_search.2.1 29 = .ok (.putfield 34, 3) := dq_get dd_A_search_0 (i := 15) rfl
theorem d_A_search_32 : decode mA_search.2.1 32 = .ok (.aload_n 0, 1) := dq_get dd_A_search_0 (i := 16) rfl
theorem d_A_search_33 : decode mA_search.2.1 33 = .ok (.iload_n 3, 1) := dq_get dd_A_search_0 (i := 17) rfl
theorem d_A_search_34 : decode mA_search.2.1 34 = .ok (.putfield 38, 3) := dq_get dd_A_search_0 (i := 18) rfl
theorem d_A_search_37 : decode mA_search.2.1 37 = .ok (.return_, 1) := dq_get dd_A_search_0 (i := 19) rfl
theorem d_A_search_38 : decode mA_search.2.1 38 = .ok (.iconst 1, 1) := dq_get dd_A_search_0 (i := 20) rfl
theorem d_A_search_39 : decode mA_search.2.1 39 = .ok (.iload_n 1, 1) := dq_get dd_A_search_0 (i := 21) rfl
theorem d_A_search_40 : decode mA_search.2.1 40 = .ok (.ishl, 1) := dq_get dd_A_search_0 (i := 22) rfl
theorem d_A_search_41 : decode mA_search.2.1 41 = .ok (.istore 5, 2) := dq_get dd_A_search_0 (i := 23) rfl
theorem d_A_search_43 : decode mA_search.2.1 43 = .ok (.aload_n 0, 1) := dq_get dd_A_search_0 (i := 24) rfl
theorem d_A_search_44 : decode mA_search.2.1 44 = .ok (.iload_n 1, 1) := dq_get dd_A_search_0 (i := 25) rfl
theorem d_A_search_45 : decode mA_search.2.1 45 = .ok (.iload_n 2, 1) := dq_get dd_A_search_0 (i := 26) rfl
theorem d_A_search_46 : decode mA_search.2.1 46 = .ok (.iload_n 3, 1) := dq_get dd_A_search_0 (i := 27) rfl
theorem d_A_search_47 : decode mA_search.2.1 47 = .ok (.invokevirtual 76, 3) := dq_get dd_A_search_0 (i := 28) rfl
theorem d_A_search_50 : decode mA_search.2.1 50 = .ok (.ifCond .eq 42, 3) := dq_get dd_A_search_0 (i := 29) rfl
theorem d_A_search_53 : decode mA_search.2.1 53 = .ok (.aload_n 0, 1) := dq_get dd_A_search_0 (i := 30) rfl
theorem d_A_search_54 : decode mA_search.2.1 54 = .ok (.iload_n 1, 1) := dq_get dd_A_search_0 (i := 31) rfl
theorem dd_A_search_32 : dq mA_search.2.1 [(55, .iload_n 2, 1), (56, .iload 5, 2), (58, .ior, 1), (59, .invokevirtual 80, 3), (62, .ifCond .eq 30, 3), (65, .aload_n 0, 1), (66, .iload_n 1, 1), (67, .iload_n 2, 1), (68, .iload 5, 2), (70, .ior, 1), (71, .iload_n 3, 1), (72, .invokevirtual 84, 3), (75, .ifCond .eq 17, 3), (78, .aload_n 0, 1), (79, .iload_n 1, 1), (80, .iconst 1, 1), (81, .iadd, 1), (82, .iload_n 2, 1), (83, .iload 5, 2), (85, .ior, 1), (86, .iload_n 3, 1), (87, .iload 4, 2), (89, .invokevirtual 54, 3), (92, .aload_n 0, 1), (93, .iload_n 1, 1), (94, .iload_n 2, 1), (95, .iload_n 3, 1), (96, .invokevirtual 87, 3), (99, .ifCond .eq 42, 3), (102, .aload_n 0, 1), (103, .iload_n 1, 1), (104, .iload_n 3, 1)] = true := by decide +kernel
theorem d_A_search_55 : decode mA_search.2.1 55 = .ok (.iload_n 2, 1) := dq_get dd_A_search_32 (i := 0) rfl
theorem d_A_search_56 : decode mA_search.2.1 56 = .ok (.iload 5, 2) := dq_get dd_A_search_32 (i := 1) rfl
theorem d_A_search_58 : decode mA_search.2.1 58 = .ok (.ior, 1) := dq_get dd_A_search_32 (i := 2) rfl
theorem d_A_search_59 : decode mA_search.2.1 59 = .ok (.invokevirtual 80, 3) := dq_get dd_A_search_32 (i := 3) rfl
theorem d_A_search_62 : decode mA_search.2.1 62 = .ok (.ifCond .eq 30, 3) := dq_get dd_A_search_32 (i := 4) rfl
theorem d_A_search_65 : decode mA_search.2.1 65 = .ok (.aload_n 0, 1) := dq_get dd_A_search_32 (i := 5) rfl
theorem d_A_search_66 : decode mA_search.2.1 66 = .ok (.iload_n 1, 1) := dq_get dd_A_search_32 (i := 6) rfl
theorem d_A_search_67 : decode mA_search.2.1 67 = .ok (.iload_n 2, 1) := dq_get dd_A_search_32 (i := 7) rfl
theorem d_A_search_68 : decode mA_search.2.1 68 = .ok (.iload 5, 2) := dq_get dd_A_search_32 (i := 8) rfl
theorem d_A_search_70 : decode mA_search.2.1 70 = .ok (.ior, 1) := dq_get dd_A_search_32 (i := 9) rfl
theorem d_A_search_71 : decode mA_search.2.1 71 = .ok (.iload_n 3, 1) := dq_get dd_A_search_32 (i := 10) rfl
theorem d_A_search_72 : decode mA_search.2.1 72 = .ok (.invokevirtual 84, 3) := dq_get dd_A_search_32 (i := 11) rfl
theorem d_A_search_75 : decode mA_search.2.1 75 = .ok (.ifCond .eq 17, 3) := dq_get dd_A_search_32 (i := 12) rfl
theorem d_A_search_78 : decode mA_search.2.1 78 = .ok (.aload_n 0, 1) := dq_get dd_A_search_32 (i := 13) rfl
theorem d_A_search_79 : decode mA_search.2.1 79 = .ok (.iload_n 1, 1) := dq_get dd_A_search_32 (i := 14) rfl
theorem d_A_search_80 : decode mA_search.2.1 80 = .ok (.iconst 1, 1) := dq_get dd_A_search_32 (i := 15) rfl
theorem d_A_search_81 : decode mA_search.2.1 81 = .ok (.iadd, 1) := dq_get dd_A_search_32 (i := 16) rfl
theorem d_A_search_82 : decode mA_search.2.1 82 = .ok (.iload_n 2, 1) := dq_get dd_A_search_32 (i := 17) rfl
theorem d_A_search_83 : decode mA_search.2.1 83 = .ok (.iload 5, 2) := dq_get dd_A_search_32 (i := 18) rfl
theorem d_A_search_85 : decode mA_search.2.1 85 = .ok (.ior, 1) := dq_get dd_A_search_32 (i := 19) rfl
theorem d_A_search_86 : decode mA_search.2.1 86 = .ok (.iload_n 3, 1) := dq_get dd_A_search_32 (i := 20) rfl
theorem d_A_search_87 : decode mA_search.2.1 87 = .ok (.iload 4, 2) := dq_get dd_A_search_32 (i := 21) rfl
theorem d_A_search_89 : decode mA_search.2.1 89 = .ok (.invokevirtual 54, 3) := dq_get dd_A_search_32 (i := 22) rfl
theorem d_A_search_92 : decode mA_search.2.1 92 = .ok (.aload_n 0, 1) := dq_get dd_A_search_32 (i := 23) rfl
theorem d_A_search_93 : decode mA_search.2.1 93 = .ok (.iload_n 1, 1) := dq_get dd_A_search_32 (i := 24) rfl
theorem d_A_search_94 : decode mA_search.2.1 94 = .ok (.iload_n 2, 1) := dq_get dd_A_search_32 (i := 25) rfl
theorem d_A_search_95 : decode mA_search.2.1 95 = .ok (.iload_n 3, 1) := dq_get dd_A_search_32 (i := 26) rfl
theorem d_A_search_96 : decode mA_search.2.1 96 = .ok (.invokevirtual 87, 3) := dq_get dd_A_search_32 (i := 27) rfl
theorem d_A_search_99 : decode mA_search.2.1 99 = .ok (.ifCond .eq 42, 3) := dq_get dd_A_search_32 (i := 28) rfl
theorem d_A_search_102 : decode mA_search.2.1 102 = .ok (.aload_n 0, 1) := dq_get dd_A_search_32 (i := 29) rfl
theorem d_A_search_103 : decode mA_search.2.1 103 = .ok (.iload_n 1, 1) := dq_get dd_A_search_32 (i := 30) rfl
theorem d_A_search_104 : decode mA_search.2.1 104 = .ok (.iload_n 3, 1) := dq_get dd_A_search_32 (i := 31) rfl
theorem dd_A_search_64 : dq mA_search.2.1 [(105, .iload 5, 2), (107, .ior, 1), (108, .invokevirtual 80, 3), (111, .ifCond .eq 30, 3), (114, .aload_n 0, 1), (115, .iload_n 1, 1), (116, .iload_n 2, 1), (117, .iload_n 3, 1), (118, .iload 5, 2), (120, .ior, 1), (121, .invokevirtual 84, 3), (124, .ifCond .eq 17, 3), (127, .aload_n 0, 1), (128, .iload_n 1, 1), (129, .iconst 1, 1), (130, .iadd, 1), (131, .iload_n 2, 1), (132, .iload_n 3, 1), (133, .iload 5, 2), (135, .ior, 1), (136, .iload 4, 2), (138, .invokevirtual 54, 3), (141, .aload_n 0, 1), (142, .iload_n 1, 1), (143, .iload_n 2, 1), (144, .iload_n 3, 1), (145, .invokevirtual 84, 3), (148, .ifCond .eq 21, 3), (151, .aload_n 0, 1), (152, .iload_n 1, 1), (153, .iconst 1, 1), (154, .iadd, 1)] = true := by decide +kernel
theorem d_A_search_105 : decode mA_search.2.1 105 = .ok (.iload 5, 2) := dq_get dd_A_search_64 (i := 0) rfl
theorem d_A_search_107 : decode mA_search.2.1 107 = .ok (.ior, 1) := dq_get dd_A_search_64 (i := 1) rfl
theorem d_A_search_108 : decode mA_search.2.1 108 = .ok (.invokevirtual 80, 3) := dq_get dd_A_search_64 (i := 2) rfl
theorem d_A_search_111 : decode mA_search.2.1 111 = .ok (.ifCond .eq 30, 3) := dq_get dd_A_search_64 (i := 3) rfl
theorem d_A_search_114 : decode mA_search.2.1 114 = .ok (.aload_n 0, 1) := dq_get dd_A_search_64 (i := 4) rfl
theorem d_A_search_115 : decode mA_search.2.1 115 = .ok (.iload_n 1, 1) := dq_get dd_A_search_64 (i := 5) rfl
theorem d_A_search_116 : decode mA_search.2.1 116 = .ok (.iload_n 2, 1) := dq_get dd_A_search_64 (i := 6) rfl
theorem d_A_search_117 : decode mA_search.2.1 117 = .ok (.iload_n 3, 1) := dq_get dd_A_search_64 (i := 7) rfl
theorem d_A_search_118 : decode mA_search.2.1 118 = .ok (.iload 5, 2) := dq_get dd_A_search_64 (i := 8) rfl
theorem d_A_search_120 : decode mA_search.2.1 120 = .ok (.ior, 1) := dq_get dd_A_search_64 (i := 9) rfl
theorem d_A_search_121 : decode mA_search.2.1 121 = .ok (.invokevirtual 84, 3) := dq_get dd_A_search_64 (i := 10) rfl
theorem d_A_search_124 : decode mA_search.2.1 124 = .ok (.ifCond .eq 17, 3) := dq_get dd_A_search_64 (i := 11) rfl
theorem d_A_search_127 : decode mA_search.2.1 127 = .ok (.aload_n 0, 1) := dq_get dd_A_search_64 (i := 12) rfl
theorem d_A_search_128 : decode mA_search.2.1 128 = .ok (.iload_n 1, 1) := dq_get dd_A_search_64 (i := 13) rfl
theorem d_A_search_129 : decode mA_search.2.1 129 = .ok (.iconst 1, 1) := dq_get dd_A_search_64 (i := 14) rfl
theorem d_A_search_130 : decode mA_search.2.1 130 = .ok (.iadd, 1) := dq_get dd_A_search_64 (i := 15) rfl
theorem d_A_search_131 : decode mA_search.2.1 131 = .ok (.iload_n 2, 1) := dq_get dd_A_search_64 (i := 16) rfl
theorem d_A_search_132 : decode mA_search.2.1 132 = .ok (.iload_n 3, 1) := dq_get dd_A_search_64 (i := 17) rfl
theorem d_A_search_133 : decode mA_search.2.1 133 = .ok (.iload 5, 2) := dq_get dd_A_search_64 (i := 18) rfl
theorem d_A_search_135 : decode mA_search.2.1 135 = .ok (.ior, 1) := dq_get dd_A_search_64 (i := 19) rfl
theorem d_A_search_136 : decode mA_search.2.1 136 = .ok (.iload 4, 2) := dq_get dd_A_search_64 (i := 20) rfl
theorem d_A_search_138 : decode mA_search.2.1 138 = .ok (.invokevirtual 54, 3) := dq_get dd_A_search_64 (i := 21) rfl
theorem d_A_search_141 : decode mA_search.2.1 141 = .ok (.aload_n 0, 1) := dq_get dd_A_search_64 (i := 22) rfl
theorem d_A_search_142 : decode mA_search.2.1 142 = .ok (.iload_n 1, 1) := dq_get dd_A_search_64 (i := 23) rfl
theorem d_A_search_143 : decode mA_search.2.1 143 = .ok (.iload_n 2, 1) := dq_get dd_A_search_64 (i := 24) rfl
theorem d_A_search_144 : decode mA_search.2.1 144 = .ok (.iload_n 3, 1) := dq_get dd_A_search_64 (i := 25) rfl
theorem d_A_search_145 : decode mA_search.2.1 145 = .ok (.invokevirtual 84, 3) := dq_get dd_A_search_64 (i := 26) rfl
theorem d_A_search_148 : decode mA_search.2.1 148 = .ok (.ifCond .eq 21, 3) := dq_get dd_A_search_64 (i := 27) rfl
theorem d_A_search_151 : decode mA_search.2.1 151 = .ok (.aload_n 0, 1) := dq_get dd_A_search_64 (i := 28) rfl
theorem d_A_search_152 : decode mA_search.2.1 152 = .ok (.iload_n 1, 1) := dq_get dd_A_search_64 (i := 29) rfl
theorem d_A_search_153 : decode mA_search.2.1 153 = .ok (.iconst 1, 1) := dq_get dd_A_search_64 (i := 30) rfl
theorem d_A_search_154 : decode mA_search.2.1 154 = .ok (.iadd, 1) := dq_get dd_A_search_64 (i := 31) rfl
theorem dd_A_search_96 : dq mA_search.2.1 [(155, .iload_n 2, 1), (156, .iload_n 3, 1), (157, .iload 4, 2), (159, .aload_n 0, 1), (160, .getfield 18, 3), (163, .iload_n 1, 1), (164, .iaload, 1), (165, .iadd, 1), (166, .invokevirtual 54, 3), (169, .return_, 1)] = true := by decide +kernel
theorem d_A_search_155 : decode mA_search.2.1 155 = .ok (.iload_n 2, 1) := dq_get dd_A_search_96 (i := 0) rfl
theorem d_A_search_156 : decode mA_search.2.1 156 = .ok (.iload_n 3, 1) := dq_get dd_A_search_96 (i := 1) rfl
theorem d_A_search_157 : decode mA_search.2.1 157 = .ok (.iload 4, 2) := dq_get dd_A_search_96 (i := 2) rfl
theorem d_A_search_159 : decode mA_search.2.1 159 = .ok (.aload_n 0, 1) := dq_get dd_A_search_96 (i := 3) rfl
theorem d_A_search_160 : decode mA_search.2.1 160 = .ok (.getfield 18, 3) := dq_get dd_A_search_96 (i := 4) rfl
theorem d_A_search_163 : decode mA_search.2.1 163 = .ok (.iload_n 1, 1) := dq_get dd_A_search_96 (i := 5) rfl
theorem d_A_search_164 : decode mA_search.2.1 164 = .ok (.iaload, 1) := dq_get dd_A_search_96 (i := 6) rfl
theorem d_A_search_165 : decode mA_search.2.1 165 = .ok (.iadd, 1) := dq_get dd_A_search_96 (i := 7) rfl
theorem d_A_search_166 : decode mA_search.2.1 166 = .ok (.invokevirtual 54, 3) := dq_get dd_A_search_96 (i := 8) rfl
theorem d_A_search_169 : decode mA_search.2.1 169 = .ok (.return_, 1) := dq_get dd_A_search_96 (i := 9) rfl
theorem dd_A_isFreeLeft_0 : dq mA_isFreeLeft.2.1 [(0, .iload_n 2, 1), (1, .aload_n 0, 1), (2, .getfield 22, 3), (5, .iload_n 1, 1), (6, .iaload, 1), (7, .iand, 1), (8, .iload_n 3, 1), (9, .aload_n 0, 1), (10, .getfield 25, 3), (13, .iload_n 1, 1), (14, .iaload, 1), (15, .iand, 1), (16, .ior, 1), (17, .ifCond .ne 7, 3), (20, .iconst 1, 1), (21, .goto 4, 3), (24, .iconst 0, 1), (25, .ireturn, 1)] = true := by decide +kernel
theorem d_A_isFreeLeft_0 : decode mA_isFreeLeft.2.1 0 = .ok (.iload_n 2, 1) := dq_get dd_A_isFreeLeft_0 (i := 0) rfl
theorem d_A_isFreeLeft_1 : decode mA_isFreeLeft.2.1 1 = .ok (.aload_n 0, 1) := dq_get dd_A_isFreeLeft_0 (i := 1) rfl
theorem d_A_isFreeLeft_2 : decode mA_isFreeLeft.2.1 2 = .ok (.getfield 22, 3) := dq_get dd_A_isFreeLeft_0 (i := 2) rfl
theorem d_A_isFreeLeft_5 : decode mA_isFreeLeft.2.1 5 = .ok (.iload_n 1, 1) := dq_get dd_A_isFreeLeft_0 (i := 3) rfl
theorem d_A_isFreeLeft_6 : decode mA_isFreeLeft.2.1 6 = .ok (.iaload, 1) := dq_get dd_A_isFreeLeft_0 (i := 4) rfl
theorem d_A_isFreeLeft_7 : decode mA_isFreeLeft.2.1 7 = .ok (.iand, 1) := dq_get dd_A_isFreeLeft_0 (i := 5) rfl
theorem d_A_isFreeLeft_8 : decode mA_isFreeLeft.2.1 8 = .ok (.iload_n 3, 1) := dq_get dd_A_isFreeLeft_0 (i := 6) rfl
theorem d_A_isFreeLeft_9 : decode mA_isFreeLeft.2.1 9 = .ok (.aload_n 0, 1) := dq_get dd_A_isFreeLeft_0 (i := 7) rfl
theorem d_A_isFreeLeft_10 : decode mA_isFreeLeft.2.1 10 = .ok (.getfield 25, 3) := dq_get dd_A_isFreeLeft_0 (i := 8) rfl
theorem d_A_isFreeLeft_13 : decode mA_isFreeLeft.2.1 13 = .ok (.iload_n 1, 1) := dq_get dd_A_isFreeLeft_0 (i := 9) rfl
theorem d_A_isFreeLeft_14 : decode mA_isFreeLeft.2.1 14 = .ok (.iaload, 1) := dq_get dd_A_isFreeLeft_0 (i := 10) rfl
theorem d_A_isFreeLeft_15 : decode mA_isFreeLeft.2.1 15 = .ok (.iand, 1) := dq_get dd_A_isFreeLeft_0 (i := 11) rfl
theorem d_A_isFreeLeft_16 : decode mA_isFreeLeft.2.1 16 = .ok (.ior, 1) := dq_get dd_A_isFreeLeft_0 (i := 12) rfl
theorem d_A_isFreeLeft_17 : decode mA_isFreeLeft.2.1 17 = .ok (.ifCond .ne 7, 3) := dq_get dd_A_isFreeLeft_0 (i := 13) rfl
theorem d_A_isFreeLeft_20 : decode mA_isFreeLeft.2.1 20 = .ok (.iconst 1, 1) := dq_get dd_A_isFreeLeft_0 (i := 14) rfl
theorem d_A_isFreeLeft_21 : decode mA_isFreeLeft.2.1 21 = .ok (.goto 4, 3) := dq_get dd_A_isFreeLeft_0 (i := 15) rfl
theorem d_A_isFreeLeft_24 : decode mA_isFreeLeft.2.1 24 = .ok (.iconst 0, 1) := dq_get dd_A_isFreeLeft_0 (i := 16) rfl
theorem d_A_isFreeLeft_25 : decode mA_isFreeLeft.2.1 25 = .ok (.ireturn, 1) := dq_get dd_A_isFreeLeft_0 (i := 17) rfl
theorem dd_A_fingersReach_0 : dq mA_fingersReach.2.1 [(0, .iload_n 2, 1), (1, .invokestatic 90, 3), (4, .aload_n 0, 1), (5, .getfield 12, 3), (8, .getfield 95, 3), (11, .if_icmp .gt 7, 3), (14, .iconst 1, 1), (15, .goto 4, 3), (18, .iconst 0, 1), (19, .istore_n 3, 1), (20, .iconst 0, 1), (21, .istore 4, 2), (23, .iload_n 3, 1), (24, .ifCond .ne 60, 3), (27, .iload 4, 2), (29, .aload_n 0, 1), (30, .getfield 12, 3), (33, .getfield 58, 3), (36, .if_icmp .ge 48, 3), (39, .aload_n 0, 1), (40, .getfield 12, 3), (43, .iload 4, 2), (45, .invokevirtual 61, 3), (48, .istore 5, 2), (50, .iload 5, 2), (52, .iload_n 1, 1), (53, .ishr, 1), (54, .iconst 1, 1), (55, .iand, 1), (56, .ifCond .eq 22, 3), (59, .iload 5, 2), (61, .iload_n 2, 1)] = true := by decide +kernel
theorem d_A_fingersReach_0 : decode mA_fingersReach.2.1 0 = .ok (.iload_n 2, 1) := dq_get dd_A_fingersReach_0 (i := 0) rfl
theorem d_A_fingersReach_1 : decode mA_fingersReach.2.1 1 = .ok (.invokestatic 90, 3) := dq_get dd_A_fingersReach_0 (i := 1) rfl
theorem d_A_fingersReach_4 : decode mA_fingersReach.2.1 4 = .ok (.aload_n 0, 1) := dq_get dd_A_fingersReach_0 (i := 2) rfl
theorem d_A_fingersReach_5 : decode mA_fingersReach.2.1 5 = .ok (.getfield 12, 3) := dq_get dd_A_fingersReach_0 (i := 3) rfl
theorem d_A_fingersReach_8 : decode mA_fingersReach.2.1 8 = .ok (.getfield 95, 3) := dq_get dd_A_fingersReach_0 (i := 4) rfl
theorem d_A_fingersReach_11 : decode mA_fingersReach.2.1 11 = .ok (.if_icmp .gt 7, 3) := dq_get dd_A_fingersReach_0 (i := 5) rfl
theorem d_A_fingersReach_14 : decode mA_fingersReach.2.1 14 = .ok (.iconst 1, 1) := dq_get dd_A_fingersReach_0 (i := 6) rfl
theorem d_A_fingersReach_15 : decode mA_fingersReach.2.1 15 = .ok (.goto 4, 3) := dq_get dd_A_fingersReach_0 (i := 7) rfl
theorem d_A_fingersReach_18 : decode mA_fingersReach.2.1 18 = .ok (.iconst 0, 1) := dq_get dd_A_fingersReach_0 (i := 8) rfl
theorem d_A_fingersReach_19 : decode mA_fingersReach.2.1 19 = .ok (.istore_n 3, 1) := dq_get dd_A_fingersReach_0 (i := 9) rfl
theorem d_A_fingersReach_20 : decode mA_fingersReach.2.1 20 = .ok (.iconst 0, 1) := dq_get dd_A_fingersReach_0 (i := 10) rfl
theorem d_A_fingersReach_21 : decode mA_fingersReach.2.1 21 = .ok (.istore 4, 2) := dq_get dd_A_fingersReach_0 (i := 11) rfl
theorem d_A_fingersReach_23 : decode mA_fingersReach.2.1 23 = .ok (.iload_n 3, 1) := dq_get dd_A_fingersReach_0 (i := 12) rfl
theorem d_A_fingersReach_24 : decode mA_fingersReach.2.1 24 = .ok (.ifCond .ne 60, 3) := dq_get dd_A_fingersReach_0 (i := 13) rfl
theorem d_A_fingersReach_27 : decode mA_fingersReach.2.1 27 = .ok (.iload 4, 2) := dq_get dd_A_fingersReach_0 (i := 14) rfl
theorem d_A_fingersReach_29 : decode mA_fingersReach.2.1 29 = .ok (.aload_n 0, 1) := dq_get dd_A_fingersReach_0 (i := 15) rfl
theorem d_A_fingersReach_30 : decode mA_fingersReach.2.1 30 = .ok (.getfield 12, 3) := dq_get dd_A_fingersReach_0 (i := 16) rfl
theorem d_A_fingersReach_33 : decode mA_fingersReach.2.1 33 = .ok (.getfield 58, 3) := dq_get dd_A_fingersReach_0 (i := 17) rfl
theorem d_A_fingersReach_36 : decode mA_fingersReach.2.1 36 = .ok (.if_icmp .ge 48, 3) := dq_get dd_A_fingersReach_0 (i := 18) rfl
theorem d_A_fingersReach_39 : decode mA_fingersReach.2.1 39 = .ok (.aload_n 0, 1) := dq_get dd_A_fingersReach_0 (i := 19) rfl
theorem d_A_fingersReach_40 : decode mA_fingersReach.2.1 40 = .ok (.getfield 12, 3) := dq_get dd_A_fingersReach_0 (i := 20) rfl
theorem d_A_fingersReach_43 : decode mA_fingersReach.2.1 43 = .ok (.iload 4, 2) := dq_get dd_A_fingersReach_0 (i := 21) rfl
theorem d_A_fingersReach_45 : decode mA_fingersReach.2.1 45 = .ok (.invokevirtual 61, 3) := dq_get dd_A_fingersReach_0 (i := 22) rfl
theorem d_A_fingersReach_48 : decode mA_fingersReach.2.1 48 = .ok (.istore 5, 2) := dq_get dd_A_fingersReach_0 (i := 23) rfl
theorem d_A_fingersReach_50 : decode mA_fingersReach.2.1 50 = .ok (.iload 5, 2) := dq_get dd_A_fingersReach_0 (i := 24) rfl
theorem d_A_fingersReach_52 : decode mA_fingersReach.2.1 52 = .ok (.iload_n 1, 1) := dq_get dd_A_fingersReach_0 (i := 25) rfl
theorem d_A_fingersReach_53 : decode mA_fingersReach.2.1 53 = .ok (.ishr, 1) := dq_get dd_A_fingersReach_0 (i := 26) rfl
theorem d_A_fingersReach_54 : decode mA_fingersReach.2.1 54 = .ok (.iconst 1, 1) := dq_get dd_A_fingersReach_0 (i := 27) rfl
theorem d_A_fingersReach_55 : decode mA_fingersReach.2.1 55 = .ok (.iand, 1) := dq_get dd_A_fingersReach_0 (i := 28) rfl
theorem d_A_fingersReach_56 : decode mA_fingersReach.2.1 56 = .ok (.ifCond .eq 22, 3) := dq_get dd_A_fingersReach_0 (i := 29) rfl
theorem d_A_fingersReach_59 : decode mA_fingersReach.2.1 59 = .ok (.iload 5, 2) := dq_get dd_A_fingersReach_0 (i := 30) rfl
theorem d_A_fingersReach_61 : decode mA_fingersReach.2.1 61 = .ok (.iload_n 2, 1) := dq_get dd_A_fingersReach_0 (i := 31) rfl
theorem dd_A_fingersReach_32 : dq mA_fingersReach.2.1 [(62, .iand, 1), (63, .invokestatic 90, 3), (66, .aload_n 0, 1), (67, .getfield 12, 3), (70, .getfield 95, 3), (73, .if_icmp .le 5, 3), (76, .iconst 0, 1), (77, .ireturn, 1), (78, .iinc 4 1, 3), (81, .goto (-58), 3), (84, .iconst 1, 1), (85, .ireturn, 1)] = true := by decide +kernel
theorem d_A_fingersReach_62 : decode mA_fingersReach.2.1 62 = .ok (.iand, 1) := dq_get dd_A_fingersReach_32 (i := 0) rfl
theorem d_A_fingersReach_63 : decode mA_fingersReach.2.1 63 = .ok (.invokestatic 90, 3) := dq_get dd_A_fingersReach_32 (i := 1) rfl
theorem d_A_fingersReach_66 : decode mA_fingersReach.2.1 66 = .ok (.aload_n 0, 1) := dq_get dd_A_fingersReach_32 (i := 2) rfl
theorem d_A_fingersReach_67 : decode mA_fingersReach.2.1 67 = .ok (.getfield 12, 3) := dq_get dd_A_fingersReach_32 (i := 3) rfl
theorem d_A_fingersReach_70 : decode mA_fingersReach.2.1 70 = .ok (.getfield 95, 3) := dq_get dd_A_fingersReach_32 (i := 4) rfl
theorem d_A_fingersReach_73 : decode mA_fingersReach.2.1 73 = .ok (.if_icmp .le 5, 3) := dq_get dd_A_fingersReach_32 (i := 5) rfl
theorem d_A_fingersReach_76 : decode mA_fingersReach.2.1 76 = .ok (.iconst 0, 1) := dq_get dd_A_fingersReach_32 (i := 6) rfl
theorem d_A_fingersReach_77 : decode mA_fingersReach.2.1 77 = .ok (.ireturn, 1) := dq_get dd_A_fingersReach_32 (i := 7) rfl
theorem d_A_fingersReach_78 : decode mA_fingersReach.2.1 78 = .ok (.iinc 4 1, 3) := dq_get dd_A_fingersReach_32 (i := 8) rfl
theorem d_A_fingersReach_81 : decode mA_fingersReach.2.1 81 = .ok (.goto (-58), 3) := dq_get dd_A_fingersReach_32 (i := 9) rfl
theorem d_A_fingersReach_84 : decode mA_fingersReach.2.1 84 = .ok (.iconst 1, 1) := dq_get dd_A_fingersReach_32 (i := 10) rfl
theorem d_A_fingersReach_85 : decode mA_fingersReach.2.1 85 = .ok (.ireturn, 1) := dq_get dd_A_fingersReach_32 (i := 11) rfl
theorem dd_A_leapsFit_0 : dq mA_leapsFit.2.1 [(0, .aload_n 0, 1), (1, .getfield 31, 3), (4, .iload_n 1, 1), (5, .iaload, 1), (6, .istore 4, 2), (8, .iconst 1, 1), (9, .istore 5, 2), (11, .iload 4, 2), (13, .ifCond .eq 115, 3), (16, .iload 5, 2), (18, .aload_n 0, 1), (19, .getfield 12, 3), (22, .getfield 58, 3), (25, .if_icmp .ge 103, 3), (28, .iload 4, 2), (30, .iload 5, 2), (32, .ishr, 1), (33, .iconst 1, 1), (34, .iand, 1), (35, .ifCond .eq 87, 3), (38, .aload_n 0, 1), (39, .getfield 12, 3), (42, .iload 5, 2), (44, .iconst 1, 1), (45, .isub, 1), (46, .invokevirtual 61, 3), (49, .istore 6, 2), (51, .aload_n 0, 1), (52, .getfield 12, 3), (55, .iload 5, 2), (57, .invokevirtual 61, 3), (60, .istore 7, 2)] = true := by decide +kernel
theorem d_A_leapsFit_0 : decode mA_leapsFit.2.1 0 = .ok (.aload_n 0, 1) := dq_get dd_A_leapsFit_0 (i := 0) rfl
theorem d_A_leapsFit_1 : decode mA_leapsFit.2.1 1 = .ok (.getfield 31, 3) := dq_get dd_A_leapsFit_0 (i := 1) rfl
theorem d_A_leapsFit_4 : decode mA_leapsFit.2.1 4 = .ok (.iload_n 1, 1) := dq_get dd_A_leapsFit_0 (i := 2) rfl
theorem d_A_leapsFit_5 : decode mA_leapsFit.2.1 5 = .ok (.iaload, 1) := dq_get dd_A_leapsFit_0 (i := 3) rfl
theorem d_A_leapsFit_6 : decode mA_leapsFit.2.1 6 = .ok (.istore 4, 2) := dq_get dd_A_leapsFit_0 (i := 4) rfl
theorem d_A_leapsFit_8 : decode mA_leapsFit.2.1 8 = .ok (.iconst 1, 1) := dq_get dd_A_leapsFit_0 (i := 5) rfl
theorem d_A_leapsFit_9 : decode mA_leapsFit.2.1 9 = .ok (.istore 5, 2) := dq_get dd_A_leapsFit_0 (i := 6) rfl
theorem d_A_leapsFit_11 : decode mA_leapsFit.2.1 11 = .ok (.iload 4, 2) := dq_get dd_A_leapsFit_0 (i := 7) rfl
theorem d_A_leapsFit_13 : decode mA_leapsFit.2.1 13 = .ok (.ifCond .eq 115, 3) := dq_get dd_A_leapsFit_0 (i := 8) rfl
theorem d_A_leapsFit_16 : decode mA_leapsFit.2.1 16 = .ok (.iload 5, 2) := dq_get dd_A_leapsFit_0 (i := 9) rfl
theorem d_A_leapsFit_18 : decode mA_leapsFit.2.1 18 = .ok (.aload_n 0, 1) := dq_get dd_A_leapsFit_0 (i := 10) rfl
theorem d_A_leapsFit_19 : decode mA_leapsFit.2.1 19 = .ok (.getfield 12, 3) := dq_get dd_A_leapsFit_0 (i := 11) rfl
theorem d_A_leapsFit_22 : decode mA_leapsFit.2.1 22 = .ok (.getfield 58, 3) := dq_get dd_A_leapsFit_0 (i := 12) rfl
theorem d_A_leapsFit_25 : decode mA_leapsFit.2.1 25 = .ok (.if_icmp .ge 103, 3) := dq_get dd_A_leapsFit_0 (i := 13) rfl
theorem d_A_leapsFit_28 : decode mA_leapsFit.2.1 28 = .ok (.iload 4, 2) := dq_get dd_A_leapsFit_0 (i := 14) rfl
theorem d_A_leapsFit_30 : decode mA_leapsFit.2.1 30 = .ok (.iload 5, 2) := dq_get dd_A_leapsFit_0 (i := 15) rfl
theorem d_A_leapsFit_32 : decode mA_leapsFit.2.1 32 = .ok (.ishr, 1) := dq_get dd_A_leapsFit_0 (i := 16) rfl
theorem d_A_leapsFit_33 : decode mA_leapsFit.2.1 33 = .ok (.iconst 1, 1) := dq_get dd_A_leapsFit_0 (i := 17) rfl
theorem d_A_leapsFit_34 : decode mA_leapsFit.2.1 34 = .ok (.iand, 1) := dq_get dd_A_leapsFit_0 (i := 18) rfl
theorem d_A_leapsFit_35 : decode mA_leapsFit.2.1 35 = .ok (.ifCond .eq 87, 3) := dq_get dd_A_leapsFit_0 (i := 19) rfl
theorem d_A_leapsFit_38 : decode mA_leapsFit.2.1 38 = .ok (.aload_n 0, 1) := dq_get dd_A_leapsFit_0 (i := 20) rfl
theorem d_A_leapsFit_39 : decode mA_leapsFit.2.1 39 = .ok (.getfield 12, 3) := dq_get dd_A_leapsFit_0 (i := 21) rfl
theorem d_A_leapsFit_42 : decode mA_leapsFit.2.1 42 = .ok (.iload 5, 2) := dq_get dd_A_leapsFit_0 (i := 22) rfl
theorem d_A_leapsFit_44 : decode mA_leapsFit.2.1 44 = .ok (.iconst 1, 1) := dq_get dd_A_leapsFit_0 (i := 23) rfl
theorem d_A_leapsFit_45 : decode mA_leapsFit.2.1 45 = .ok (.isub, 1) := dq_get dd_A_leapsFit_0 (i := 24) rfl
theorem d_A_leapsFit_46 : decode mA_leapsFit.2.1 46 = .ok (.invokevirtual 61, 3) := dq_get dd_A_leapsFit_0 (i := 25) rfl
theorem d_A_leapsFit_49 : decode mA_leapsFit.2.1 49 = .ok (.istore 6, 2) := dq_get dd_A_leapsFit_0 (i := 26) rfl
theorem d_A_leapsFit_51 : decode mA_leapsFit.2.1 51 = .ok (.aload_n 0, 1) := dq_get dd_A_leapsFit_0 (i := 27) rfl
theorem d_A_leapsFit_52 : decode mA_leapsFit.2.1 52 = .ok (.getfield 12, 3) := dq_get dd_A_leapsFit_0 (i := 28) rfl
theorem d_A_leapsFit_55 : decode mA_leapsFit.2.1 55 = .ok (.iload 5, 2) := dq_get dd_A_leapsFit_0 (i := 29) rfl
theorem d_A_leapsFit_57 : decode mA_leapsFit.2.1 57 = .ok (.invokevirtual 61, 3) := dq_get dd_A_leapsFit_0 (i := 30) rfl
theorem d_A_leapsFit_60 : decode mA_leapsFit.2.1 60 = .ok (.istore 7, 2) := dq_get dd_A_leapsFit_0 (i := 31) rfl
theorem dd_A_leapsFit_32 : dq mA_leapsFit.2.1 [(62, .aload_n 0, 1), (63, .getfield 12, 3), (66, .iload_n 2, 1), (67, .iload 6, 2), (69, .iand, 1), (70, .iload_n 2, 1), (71, .iload 7, 2), (73, .iand, 1), (74, .invokevirtual 98, 3), (77, .istore 8, 2), (79, .aload_n 0, 1), (80, .getfield 12, 3), (83, .iload_n 3, 1), (84, .iload 6, 2), (86, .iand, 1), (87, .iload_n 3, 1), (88, .iload 7, 2), (90, .iand, 1), (91, .invokevirtual 98, 3), (94, .istore 9, 2), (96, .iload 8, 2), (98, .aload_n 0, 1), (99, .getfield 12, 3), (102, .getfield 102, 3), (105, .if_icmp .gt 15, 3), (108, .iload 9, 2), (110, .aload_n 0, 1), (111, .getfield 12, 3), (114, .getfield 102, 3), (117, .if_icmp .le 5, 3), (120, .iconst 0, 1), (121, .ireturn, 1)] = true := by decide +kernel
theorem d_A_leapsFit_62 : decode mA_leapsFit.2.1 62 = .ok (.aload_n 0, 1) := dq_get dd_A_leapsFit_32 (i := 0) rfl
theorem d_A_leapsFit_63 : decode mA_leapsFit.2.1 63 = .ok (.getfield 12, 3) := dq_get dd_A_leapsFit_32 (i := 1) rfl
theorem d_A_leapsFit_66 : decode mA_leapsFit.2.1 66 = .ok (.iload_n 2, 1) := dq_get dd_A_leapsFit_32 (i := 2) rfl
theorem d_A_leapsFit_67 : decode mA_leapsFit.2.1 67 = .ok (.iload 6, 2) := dq_get dd_A_leapsFit_32 (i := 3) rfl
theorem d_A_leapsFit_69 : decode mA_leapsFit.2.1 69 = .ok (.iand, 1) := dq_get dd_A_leapsFit_32 (i := 4) rfl
theorem d_A_leapsFit_70 : decode mA_leapsFit.2.1 70 = .ok (.iload_n 2, 1) := dq_get dd_A_leapsFit_32 (i := 5) rfl
theorem d_A_leapsFit_71 : decode mA_leapsFit.2.1 71 = .ok (.iload 7, 2) := dq_get dd_A_leapsFit_32 (i := 6) rfl
theorem d_A_leapsFit_73 : decode mA_leapsFit.2.1 73 = .ok (.iand, 1) := dq_get dd_A_leapsFit_32 (i := 7) rfl
theorem d_A_leapsFit_74 : decode mA_leapsFit.2.1 74 = .ok (.invokevirtual 98, 3) := dq_get dd_A_leapsFit_32 (i := 8) rfl
theorem d_A_leapsFit_77 : decode mA_leapsFit.2.1 77 = .ok (.istore 8, 2) := dq_get dd_A_leapsFit_32 (i := 9) rfl
theorem d_A_leapsFit_79 : decode mA_leapsFit.2.1 79 = .ok (.aload_n 0, 1) := dq_get dd_A_leapsFit_32 (i := 10) rfl
theorem d_A_leapsFit_80 : decode mA_leapsFit.2.1 80 = .ok (.getfield 12, 3) := dq_get dd_A_leapsFit_32 (i := 11) rfl
theorem d_A_leapsFit_83 : decode mA_leapsFit.2.1 83 = .ok (.iload_n 3, 1) := dq_get dd_A_leapsFit_32 (i := 12) rfl
theorem d_A_leapsFit_84 : decode mA_leapsFit.2.1 84 = .ok (.iload 6, 2) := dq_get dd_A_leapsFit_32 (i := 13) rfl
theorem d_A_leapsFit_86 : decode mA_leapsFit.2.1 86 = .ok (.iand, 1) := dq_get dd_A_leapsFit_32 (i := 14) rfl
theorem d_A_leapsFit_87 : decode mA_leapsFit.2.1 87 = .ok (.iload_n 3, 1) := dq_get dd_A_leapsFit_32 (i := 15) rfl
theorem d_A_leapsFit_88 : decode mA_leapsFit.2.1 88 = .ok (.iload 7, 2) := dq_get dd_A_leapsFit_32 (i := 16) rfl
theorem d_A_leapsFit_90 : decode mA_leapsFit.2.1 90 = .ok (.iand, 1) := dq_get dd_A_leapsFit_32 (i := 17) rfl
theorem d_A_leapsFit_91 : decode mA_leapsFit.2.1 91 = .ok (.invokevirtual 98, 3) := dq_get dd_A_leapsFit_32 (i := 18) rfl
theorem d_A_leapsFit_94 : decode mA_leapsFit.2.1 94 = .ok (.istore 9, 2) := dq_get dd_A_leapsFit_32 (i := 19) rfl
theorem d_A_leapsFit_96 : decode mA_leapsFit.2.1 96 = .ok (.iload 8, 2) := dq_get dd_A_leapsFit_32 (i := 20) rfl
theorem d_A_leapsFit_98 : decode mA_leapsFit.2.1 98 = .ok (.aload_n 0, 1) := dq_get dd_A_leapsFit_32 (i := 21) rfl
theorem d_A_leapsFit_99 : decode mA_leapsFit.2.1 99 = .ok (.getfield 12, 3) := dq_get dd_A_leapsFit_32 (i := 22) rfl
theorem d_A_leapsFit_102 : decode mA_leapsFit.2.1 102 = .ok (.getfield 102, 3) := dq_get dd_A_leapsFit_32 (i := 23) rfl
theorem d_A_leapsFit_105 : decode mA_leapsFit.2.1 105 = .ok (.if_icmp .gt 15, 3) := dq_get dd_A_leapsFit_32 (i := 24) rfl
theorem d_A_leapsFit_108 : decode mA_leapsFit.2.1 108 = .ok (.iload 9, 2) := dq_get dd_A_leapsFit_32 (i := 25) rfl
theorem d_A_leapsFit_110 : decode mA_leapsFit.2.1 110 = .ok (.aload_n 0, 1) := dq_get dd_A_leapsFit_32 (i := 26) rfl
theorem d_A_leapsFit_111 : decode mA_leapsFit.2.1 111 = .ok (.getfield 12, 3) := dq_get dd_A_leapsFit_32 (i := 27) rfl
theorem d_A_leapsFit_114 : decode mA_leapsFit.2.1 114 = .ok (.getfield 102, 3) := dq_get dd_A_leapsFit_32 (i := 28) rfl
theorem d_A_leapsFit_117 : decode mA_leapsFit.2.1 117 = .ok (.if_icmp .le 5, 3) := dq_get dd_A_leapsFit_32 (i := 29) rfl
theorem d_A_leapsFit_120 : decode mA_leapsFit.2.1 120 = .ok (.iconst 0, 1) := dq_get dd_A_leapsFit_32 (i := 30) rfl
theorem d_A_leapsFit_121 : decode mA_leapsFit.2.1 121 = .ok (.ireturn, 1) := dq_get dd_A_leapsFit_32 (i := 31) rfl
theorem dd_A_leapsFit_64 : dq mA_leapsFit.2.1 [(122, .iinc 5 1, 3), (125, .goto (-114), 3), (128, .iconst 1, 1), (129, .ireturn, 1)] = true := by decide +kernel
theorem d_A_leapsFit_122 : decode mA_leapsFit.2.1 122 = .ok (.iinc 5 1, 3) := dq_get dd_A_leapsFit_64 (i := 0) rfl
theorem d_A_leapsFit_125 : decode mA_leapsFit.2.1 125 = .ok (.goto (-114), 3) := dq_get dd_A_leapsFit_64 (i := 1) rfl
theorem d_A_leapsFit_128 : decode mA_leapsFit.2.1 128 = .ok (.iconst 1, 1) := dq_get dd_A_leapsFit_64 (i := 2) rfl
theorem d_A_leapsFit_129 : decode mA_leapsFit.2.1 129 = .ok (.ireturn, 1) := dq_get dd_A_leapsFit_64 (i := 3) rfl
theorem dd_K_leapBetween_0 : dq mK_leapBetween.2.1 [(0, .iload_n 1, 1), (1, .ifCond .eq 7, 3), (4, .iload_n 2, 1), (5, .ifCond .ne 7, 3), (8, .iconst 0, 1), (9, .goto 17, 3), (12, .aload_n 0, 1), (13, .iload_n 2, 1), (14, .invokevirtual 81, 3), (17, .aload_n 0, 1), (18, .iload_n 1, 1), (19, .invokevirtual 81, 3), (22, .isub, 1), (23, .invokestatic 84, 3), (26, .ireturn, 1)] = true := by decide +kernel
theorem d_K_leapBetween_0 : decode mK_leapBetween.2.1 0 = .ok (.iload_n 1, 1) := dq_get dd_K_leapBetween_0 (i := 0) rfl
theorem d_K_leapBetween_1 : decode mK_leapBetween.2.1 1 = .ok (.ifCond .eq 7, 3) := dq_get dd_K_leapBetween_0 (i := 1) rfl
theorem d_K_leapBetween_4 : decode mK_leapBetween.2.1 4 = .ok (.iload_n 2, 1) := dq_get dd_K_leapBetween_0 (i := 2) rfl
theorem d_K_leapBetween_5 : decode mK_leapBetween.2.1 5 = .ok (.ifCond .ne 7, 3) := dq_get dd_K_leapBetween_0 (i := 3) rfl
theorem d_K_leapBetween_8 : decode mK_leapBetween.2.1 8 = .ok (.iconst 0, 1) := dq_get dd_K_leapBetween_0 (i := 4) rfl
theorem d_K_leapBetween_9 : decode mK_leapBetween.2.1 9 = .ok (.goto 17, 3) := dq_get dd_K_leapBetween_0 (i := 5) rfl
theorem d_K_leapBetween_12 : decode mK_leapBetween.2.1 12 = .ok (.aload_n 0, 1) := dq_get dd_K_leapBetween_0 (i := 6) rfl
theorem d_K_leapBetween_13 : decode mK_leapBetween.2.1 13 = .ok (.iload_n 2, 1) := dq_get dd_K_leapBetween_0 (i := 7) rfl
theorem d_K_leapBetween_14 : decode mK_leapBetween.2.1 14 = .ok (.invokevirtual 81, 3) := dq_get dd_K_leapBetween_0 (i := 8) rfl
theorem d_K_leapBetween_17 : decode mK_leapBetween.2.1 17 = .ok (.aload_n 0, 1) := dq_get dd_K_leapBetween_0 (i := 9) rfl
theorem d_K_leapBetween_18 : decode mK_leapBetween.2.1 18 = .ok (.iload_n 1, 1) := dq_get dd_K_leapBetween_0 (i := 10) rfl
theorem d_K_leapBetween_19 : decode mK_leapBetween.2.1 19 = .ok (.invokevirtual 81, 3) := dq_get dd_K_leapBetween_0 (i := 11) rfl
theorem d_K_leapBetween_22 : decode mK_leapBetween.2.1 22 = .ok (.isub, 1) := dq_get dd_K_leapBetween_0 (i := 12) rfl
theorem d_K_leapBetween_23 : decode mK_leapBetween.2.1 23 = .ok (.invokestatic 84, 3) := dq_get dd_K_leapBetween_0 (i := 13) rfl
theorem d_K_leapBetween_26 : decode mK_leapBetween.2.1 26 = .ok (.ireturn, 1) := dq_get dd_K_leapBetween_0 (i := 14) rfl
theorem dd_A_isFreeRight_0 : dq mA_isFreeRight.2.1 [(0, .iload_n 3, 1), (1, .aload_n 0, 1), (2, .getfield 22, 3), (5, .iload_n 1, 1), (6, .iaload, 1), (7, .iand, 1), (8, .iload_n 2, 1), (9, .aload_n 0, 1), (10, .getfield 28, 3), (13, .iload_n 1, 1), (14, .iaload, 1), (15, .iand, 1), (16, .ior, 1), (17, .ifCond .ne 7, 3), (20, .iconst 1, 1), (21, .goto 4, 3), (24, .iconst 0, 1), (25, .ireturn, 1)] = true := by decide +kernel
theorem d_A_isFreeRight_0 : decode mA_isFreeRight.2.1 0 = .ok (.iload_n 3, 1) := dq_get dd_A_isFreeRight_0 (i := 0) rfl
theorem d_A_isFreeRight_1 : decode mA_isFreeRight.2.1 1 = .ok (.aload_n 0, 1) := dq_get dd_A_isFreeRight_0 (i := 1) rfl
theorem d_A_isFreeRight_2 : decode mA_isFreeRight.2.1 2 = .ok (.getfield 22, 3) := dq_get dd_A_isFreeRight_0 (i := 2) rfl
theorem d_A_isFreeRight_5 : decode mA_isFreeRight.2.1 5 = .ok (.iload_n 1, 1) := dq_get dd_A_isFreeRight_0 (i := 3) rfl
theorem d_A_isFreeRight_6 : decode mA_isFreeRight.2.1 6 = .ok (.iaload, 1) := dq_get dd_A_isFreeRight_0 (i := 4) rfl
theorem d_A_isFreeRight_7 : decode mA_isFreeRight.2.1 7 = .ok (.iand, 1) := dq_get dd_A_isFreeRight_0 (i := 5) rfl
theorem d_A_isFreeRight_8 : decode mA_isFreeRight.2.1 8 = .ok (.iload_n 2, 1) := dq_get dd_A_isFreeRight_0 (i := 6) rfl
theorem d_A_isFreeRight_9 : decode mA_isFreeRight.2.1 9 = .ok (.aload_n 0, 1) := dq_get dd_A_isFreeRight_0 (i := 7) rfl
theorem d_A_isFreeRight_10 : decode mA_isFreeRight.2.1 10 = .ok (.getfield 28, 3) := dq_get dd_A_isFreeRight_0 (i := 8) rfl
theorem d_A_isFreeRight_13 : decode mA_isFreeRight.2.1 13 = .ok (.iload_n 1, 1) := dq_get dd_A_isFreeRight_0 (i := 9) rfl
theorem d_A_isFreeRight_14 : decode mA_isFreeRight.2.1 14 = .ok (.iaload, 1) := dq_get dd_A_isFreeRight_0 (i := 10) rfl
theorem d_A_isFreeRight_15 : decode mA_isFreeRight.2.1 15 = .ok (.iand, 1) := dq_get dd_A_isFreeRight_0 (i := 11) rfl
theorem d_A_isFreeRight_16 : decode mA_isFreeRight.2.1 16 = .ok (.ior, 1) := dq_get dd_A_isFreeRight_0 (i := 12) rfl
theorem d_A_isFreeRight_17 : decode mA_isFreeRight.2.1 17 = .ok (.ifCond .ne 7, 3) := dq_get dd_A_isFreeRight_0 (i := 13) rfl
theorem d_A_isFreeRight_20 : decode mA_isFreeRight.2.1 20 = .ok (.iconst 1, 1) := dq_get dd_A_isFreeRight_0 (i := 14) rfl
theorem d_A_isFreeRight_21 : decode mA_isFreeRight.2.1 21 = .ok (.goto 4, 3) := dq_get dd_A_isFreeRight_0 (i := 15) rfl
theorem d_A_isFreeRight_24 : decode mA_isFreeRight.2.1 24 = .ok (.iconst 0, 1) := dq_get dd_A_isFreeRight_0 (i := 16) rfl
theorem d_A_isFreeRight_25 : decode mA_isFreeRight.2.1 25 = .ok (.ireturn, 1) := dq_get dd_A_isFreeRight_0 (i := 17) rfl
theorem dd_A_handOf_0 : dq mA_handOf.2.1 [(0, .aload_n 0, 1), (1, .getfield 34, 3), (4, .iload_n 1, 1), (5, .ishr, 1), (6, .iconst 1, 1), (7, .iand, 1), (8, .ifCond .eq 7, 3), (11, .iconst 1, 1), (12, .goto 19, 3), (15, .aload_n 0, 1), (16, .getfield 38, 3), (19, .iload_n 1, 1), (20, .ishr, 1), (21, .iconst 1, 1), (22, .iand, 1), (23, .ifCond .eq 7, 3), (26, .iconst 2, 1), (27, .goto 4, 3), (30, .iconst 0, 1), (31, .ireturn, 1)] = true := by decide +kernel
theorem d_A_handOf_0 : decode mA_handOf.2.1 0 = .ok (.aload_n 0, 1) := dq_get dd_A_handOf_0 (i := 0) rfl
theorem d_A_handOf_1 : decode mA_handOf.2.1 1 = .ok (.getfield 34, 3) := dq_get dd_A_handOf_0 (i := 1) rfl
theorem d_A_handOf_4 : decode mA_handOf.2.1 4 = .ok (.iload_n 1, 1) := dq_get dd_A_handOf_0 (i := 2) rfl
theorem d_A_handOf_5 : decode mA_handOf.2.1 5 = .ok (.ishr, 1) := dq_get dd_A_handOf_0 (i := 3) rfl
theorem d_A_handOf_6 : decode mA_handOf.2.1 6 = .ok (.iconst 1, 1) := dq_get dd_A_handOf_0 (i := 4) rfl
theorem d_A_handOf_7 : decode mA_handOf.2.1 7 = .ok (.iand, 1) := dq_get dd_A_handOf_0 (i := 5) rfl
theorem d_A_handOf_8 : decode mA_handOf.2.1 8 = .ok (.ifCond .eq 7, 3) := dq_get dd_A_handOf_0 (i := 6) rfl
theorem d_A_handOf_11 : decode mA_handOf.2.1 11 = .ok (.iconst 1, 1) := dq_get dd_A_handOf_0 (i := 7) rfl
theorem d_A_handOf_12 : decode mA_handOf.2.1 12 = .ok (.goto 19, 3) := dq_get dd_A_handOf_0 (i := 8) rfl
theorem d_A_handOf_15 : decode mA_handOf.2.1 15 = .ok (.aload_n 0, 1) := dq_get dd_A_handOf_0 (i := 9) rfl
theorem d_A_handOf_16 : decode mA_handOf.2.1 16 = .ok (.getfield 38, 3) := dq_get dd_A_handOf_0 (i := 10) rfl
theorem d_A_handOf_19 : decode mA_handOf.2.1 19 = .ok (.iload_n 1, 1) := dq_get dd_A_handOf_0 (i := 11) rfl
theorem d_A_handOf_20 : decode mA_handOf.2.1 20 = .ok (.ishr, 1) := dq_get dd_A_handOf_0 (i := 12) rfl
theorem d_A_handOf_21 : decode mA_handOf.2.1 21 = .ok (.iconst 1, 1) := dq_get dd_A_handOf_0 (i := 13) rfl
theorem d_A_handOf_22 : decode mA_handOf.2.1 22 = .ok (.iand, 1) := dq_get dd_A_handOf_0 (i := 14) rfl
theorem d_A_handOf_23 : decode mA_handOf.2.1 23 = .ok (.ifCond .eq 7, 3) := dq_get dd_A_handOf_0 (i := 15) rfl
theorem d_A_handOf_26 : decode mA_handOf.2.1 26 = .ok (.iconst 2, 1) := dq_get dd_A_handOf_0 (i := 16) rfl
theorem d_A_handOf_27 : decode mA_handOf.2.1 27 = .ok (.goto 4, 3) := dq_get dd_A_handOf_0 (i := 17) rfl
theorem d_A_handOf_30 : decode mA_handOf.2.1 30 = .ok (.iconst 0, 1) := dq_get dd_A_handOf_0 (i := 18) rfl
theorem d_A_handOf_31 : decode mA_handOf.2.1 31 = .ok (.ireturn, 1) := dq_get dd_A_handOf_0 (i := 19) rfl
theorem dd_K_newClashesWith_0 : dq mK_newClashesWith.2.1 [(0, .iload_n 2, 1), (1, .iconst 1, 1), (2, .if_icmp .ne 14, 3), (5, .aload_n 0, 1), (6, .getfield 53, 3), (9, .iconst 1, 1), (10, .iload_n 1, 1), (11, .ishl, 1), (12, .ior, 1), (13, .goto 7, 3), (16, .aload_n 0, 1), (17, .getfield 53, 3), (20, .istore_n 3, 1), (21, .iload_n 2, 1), (22, .iconst 2, 1), (23, .if_icmp .ne 14, 3), (26, .aload_n 0, 1), (27, .getfield 56, 3), (30, .iconst 1, 1), (31, .iload_n 1, 1), (32, .ishl, 1), (33, .ior, 1), (34, .goto 7, 3), (37, .aload_n 0, 1), (38, .getfield 56, 3), (41, .istore 4, 2), (43, .iconst 0, 1), (44, .istore 5, 2), (46, .iconst 0, 1), (47, .istore 6, 2), (49, .iload 6, 2), (51, .aload_n 0, 1)] = true := by decide +kernel
theorem d_K_newClashesWith_0 : decode mK_newClashesWith.2.1 0 = .ok (.iload_n 2, 1) := dq_get dd_K_newClashesWith_0 (i := 0) rfl
theorem d_K_newClashesWith_1 : decode mK_newClashesWith.2.1 1 = .ok (.iconst 1, 1) := dq_get dd_K_newClashesWith_0 (i := 1) rfl
theorem d_K_newClashesWith_2 : decode mK_newClashesWith.2.1 2 = .ok (.if_icmp .ne 14, 3) := dq_get dd_K_newClashesWith_0 (i := 2) rfl
theorem d_K_newClashesWith_5 : decode mK_newClashesWith.2.1 5 = .ok (.aload_n 0, 1) := dq_get dd_K_newClashesWith_0 (i := 3) rfl
theorem d_K_newClashesWith_6 : decode mK_newClashesWith.2.1 6 = .ok (.getfield 53, 3) := dq_get dd_K_newClashesWith_0 (i := 4) rfl
theorem d_K_newClashesWith_9 : decode mK_newClashesWith.2.1 9 = .ok (.iconst 1, 1) := dq_get dd_K_newClashesWith_0 (i := 5) rfl
theorem d_K_newClashesWith_10 : decode mK_newClashesWith.2.1 10 = .ok (.iload_n 1, 1) := dq_get dd_K_newClashesWith_0 (i := 6) rfl
theorem d_K_newClashesWith_11 : decode mK_newClashesWith.2.1 11 = .ok (.ishl, 1) := dq_get dd_K_newClashesWith_0 (i := 7) rfl
theorem d_K_newClashesWith_12 : decode mK_newClashesWith.2.1 12 = .ok (.ior, 1) := dq_get dd_K_newClashesWith_0 (i := 8) rfl
theorem d_K_newClashesWith_13 : decode mK_newClashesWith.2.1 13 = .ok (.goto 7, 3) := dq_get dd_K_newClashesWith_0 (i := 9) rfl
theorem d_K_newClashesWith_16 : decode mK_newClashesWith.2.1 16 = .ok (.aload_n 0, 1) := dq_get dd_K_newClashesWith_0 (i := 10) rfl
theorem d_K_newClashesWith_17 : decode mK_newClashesWith.2.1 17 = .ok (.getfield 53, 3) := dq_get dd_K_newClashesWith_0 (i := 11) rfl
theorem d_K_newClashesWith_20 : decode mK_newClashesWith.2.1 20 = .ok (.istore_n 3, 1) := dq_get dd_K_newClashesWith_0 (i := 12) rfl
theorem d_K_newClashesWith_21 : decode mK_newClashesWith.2.1 21 = .ok (.iload_n 2, 1) := dq_get dd_K_newClashesWith_0 (i := 13) rfl
theorem d_K_newClashesWith_22 : decode mK_newClashesWith.2.1 22 = .ok (.iconst 2, 1) := dq_get dd_K_newClashesWith_0 (i := 14) rfl
theorem d_K_newClashesWith_23 : decode mK_newClashesWith.2.1 23 = .ok (.if_icmp .ne 14, 3) := dq_get dd_K_newClashesWith_0 (i := 15) rfl
theorem d_K_newClashesWith_26 : decode mK_newClashesWith.2.1 26 = .ok (.aload_n 0, 1) := dq_get dd_K_newClashesWith_0 (i := 16) rfl
theorem d_K_newClashesWith_27 : decode mK_newClashesWith.2.1 27 = .ok (.getfield 56, 3) := dq_get dd_K_newClashesWith_0 (i := 17) rfl
theorem d_K_newClashesWith_30 : decode mK_newClashesWith.2.1 30 = .ok (.iconst 1, 1) := dq_get dd_K_newClashesWith_0 (i := 18) rfl
theorem d_K_newClashesWith_31 : decode mK_newClashesWith.2.1 31 = .ok (.iload_n 1, 1) := dq_get dd_K_newClashesWith_0 (i := 19) rfl
theorem d_K_newClashesWith_32 : decode mK_newClashesWith.2.1 32 = .ok (.ishl, 1) := dq_get dd_K_newClashesWith_0 (i := 20) rfl
theorem d_K_newClashesWith_33 : decode mK_newClashesWith.2.1 33 = .ok (.ior, 1) := dq_get dd_K_newClashesWith_0 (i := 21) rfl
theorem d_K_newClashesWith_34 : decode mK_newClashesWith.2.1 34 = .ok (.goto 7, 3) := dq_get dd_K_newClashesWith_0 (i := 22) rfl
theorem d_K_newClashesWith_37 : decode mK_newClashesWith.2.1 37 = .ok (.aload_n 0, 1) := dq_get dd_K_newClashesWith_0 (i := 23) rfl
theorem d_K_newClashesWith_38 : decode mK_newClashesWith.2.1 38 = .ok (.getfield 56, 3) := dq_get dd_K_newClashesWith_0 (i := 24) rfl
theorem d_K_newClashesWith_41 : decode mK_newClashesWith.2.1 41 = .ok (.istore 4, 2) := dq_get dd_K_newClashesWith_0 (i := 25) rfl
theorem d_K_newClashesWith_43 : decode mK_newClashesWith.2.1 43 = .ok (.iconst 0, 1) := dq_get dd_K_newClashesWith_0 (i := 26) rfl
theorem d_K_newClashesWith_44 : decode mK_newClashesWith.2.1 44 = .ok (.istore 5, 2) := dq_get dd_K_newClashesWith_0 (i := 27) rfl
theorem d_K_newClashesWith_46 : decode mK_newClashesWith.2.1 46 = .ok (.iconst 0, 1) := dq_get dd_K_newClashesWith_0 (i := 28) rfl
theorem d_K_newClashesWith_47 : decode mK_newClashesWith.2.1 47 = .ok (.istore 6, 2) := dq_get dd_K_newClashesWith_0 (i := 29) rfl
theorem d_K_newClashesWith_49 : decode mK_newClashesWith.2.1 49 = .ok (.iload 6, 2) := dq_get dd_K_newClashesWith_0 (i := 30) rfl
theorem d_K_newClashesWith_51 : decode mK_newClashesWith.2.1 51 = .ok (.aload_n 0, 1) := dq_get dd_K_newClashesWith_0 (i := 31) rfl
theorem dd_K_newClashesWith_32 : dq mK_newClashesWith.2.1 [(52, .getfield 30, 3), (55, .if_icmp .ge 40, 3), (58, .iload 5, 2), (60, .aload_n 0, 1), (61, .iload_n 3, 1), (62, .iload 4, 2), (64, .iload 6, 2), (66, .invokevirtual 104, 3), (69, .aload_n 0, 1), (70, .aload_n 0, 1), (71, .getfield 53, 3), (74, .aload_n 0, 1), (75, .getfield 56, 3), (78, .iload 6, 2), (80, .invokevirtual 104, 3), (83, .iconst (-1), 1), (84, .ixor, 1), (85, .iand, 1), (86, .ior, 1), (87, .istore 5, 2), (89, .iinc 6 1, 3), (92, .goto (-43), 3), (95, .iload 5, 2), (97, .ireturn, 1)] = true := by decide +kernel
theorem d_K_newClashesWith_52 : decode mK_newClashesWith.2.1 52 = .ok (.getfield 30, 3) := dq_get dd_K_newClashesWith_32 (i := 0) rfl
theorem d_K_newClashesWith_55 : decode mK_newClashesWith.2.1 55 = .ok (.if_icmp .ge 40, 3) := dq_get dd_K_newClashesWith_32 (i := 1) rfl
theorem d_K_newClashesWith_58 : decode mK_newClashesWith.2.1 58 = .ok (.iload 5, 2) := dq_get dd_K_newClashesWith_32 (i := 2) rfl
theorem d_K_newClashesWith_60 : decode mK_newClashesWith.2.1 60 = .ok (.aload_n 0, 1) := dq_get dd_K_newClashesWith_32 (i := 3) rfl
theorem d_K_newClashesWith_61 : decode mK_newClashesWith.2.1 61 = .ok (.iload_n 3, 1) := dq_get dd_K_newClashesWith_32 (i := 4) rfl
theorem d_K_newClashesWith_62 : decode mK_newClashesWith.2.1 62 = .ok (.iload 4, 2) := dq_get dd_K_newClashesWith_32 (i := 5) rfl
theorem d_K_newClashesWith_64 : decode mK_newClashesWith.2.1 64 = .ok (.iload 6, 2) := dq_get dd_K_newClashesWith_32 (i := 6) rfl
theorem d_K_newClashesWith_66 : decode mK_newClashesWith.2.1 66 = .ok (.invokevirtual 104, 3) := dq_get dd_K_newClashesWith_32 (i := 7) rfl
theorem d_K_newClashesWith_69 : decode mK_newClashesWith.2.1 69 = .ok (.aload_n 0, 1) := dq_get dd_K_newClashesWith_32 (i := 8) rfl
theorem d_K_newClashesWith_70 : decode mK_newClashesWith.2.1 70 = .ok (.aload_n 0, 1) := dq_get dd_K_newClashesWith_32 (i := 9) rfl
theorem d_K_newClashesWith_71 : decode mK_newClashesWith.2.1 71 = .ok (.getfield 53, 3) := dq_get dd_K_newClashesWith_32 (i := 10) rfl
theorem d_K_newClashesWith_74 : decode mK_newClashesWith.2.1 74 = .ok (.aload_n 0, 1) := dq_get dd_K_newClashesWith_32 (i := 11) rfl
theorem d_K_newClashesWith_75 : decode mK_newClashesWith.2.1 75 = .ok (.getfield 56, 3) := dq_get dd_K_newClashesWith_32 (i := 12) rfl
theorem d_K_newClashesWith_78 : decode mK_newClashesWith.2.1 78 = .ok (.iload 6, 2) := dq_get dd_K_newClashesWith_32 (i := 13) rfl
theorem d_K_newClashesWith_80 : decode mK_newClashesWith.2.1 80 = .ok (.invokevirtual 104, 3) := dq_get dd_K_newClashesWith_32 (i := 14) rfl
theorem d_K_newClashesWith_83 : decode mK_newClashesWith.2.1 83 = .ok (.iconst (-1), 1) := dq_get dd_K_newClashesWith_32 (i := 15) rfl
theorem d_K_newClashesWith_84 : decode mK_newClashesWith.2.1 84 = .ok (.ixor, 1) := dq_get dd_K_newClashesWith_32 (i := 16) rfl
theorem d_K_newClashesWith_85 : decode mK_newClashesWith.2.1 85 = .ok (.iand, 1) := dq_get dd_K_newClashesWith_32 (i := 17) rfl
theorem d_K_newClashesWith_86 : decode mK_newClashesWith.2.1 86 = .ok (.ior, 1) := dq_get dd_K_newClashesWith_32 (i := 18) rfl
theorem d_K_newClashesWith_87 : decode mK_newClashesWith.2.1 87 = .ok (.istore 5, 2) := dq_get dd_K_newClashesWith_32 (i := 19) rfl
theorem d_K_newClashesWith_89 : decode mK_newClashesWith.2.1 89 = .ok (.iinc 6 1, 3) := dq_get dd_K_newClashesWith_32 (i := 20) rfl
theorem d_K_newClashesWith_92 : decode mK_newClashesWith.2.1 92 = .ok (.goto (-43), 3) := dq_get dd_K_newClashesWith_32 (i := 21) rfl
theorem d_K_newClashesWith_95 : decode mK_newClashesWith.2.1 95 = .ok (.iload 5, 2) := dq_get dd_K_newClashesWith_32 (i := 22) rfl
theorem d_K_newClashesWith_97 : decode mK_newClashesWith.2.1 97 = .ok (.ireturn, 1) := dq_get dd_K_newClashesWith_32 (i := 23) rfl
theorem dd_A_fewestInTheWay_0 : dq mA_fewestInTheWay.2.1 [(0, .aload_n 0, 1), (1, .getfield 12, 3), (4, .getfield 105, 3), (7, .iload_n 2, 1), (8, .iconst 1, 1), (9, .if_icmp .ne 9, 3), (12, .iconst 1, 1), (13, .iload_n 1, 1), (14, .ishl, 1), (15, .goto 4, 3), (18, .iconst 0, 1), (19, .ior, 1), (20, .istore_n 3, 1), (21, .aload_n 0, 1), (22, .getfield 12, 3), (25, .getfield 106, 3), (28, .iload_n 2, 1), (29, .iconst 2, 1), (30, .if_icmp .ne 9, 3), (33, .iconst 1, 1), (34, .iload_n 1, 1), (35, .ishl, 1), (36, .goto 4, 3), (39, .iconst 0, 1), (40, .ior, 1), (41, .istore 4, 2), (43, .aload_n 0, 1), (44, .getfield 12, 3), (47, .getfield 105, 3), (50, .aload_n 0, 1), (51, .getfield 12, 3), (54, .getfield 106, 3)] = true := by decide +kernel
theorem d_A_fewestInTheWay_0 : decode mA_fewestInTheWay.2.1 0 = .ok (.aload_n 0, 1) := dq_get dd_A_fewestInTheWay_0 (i := 0) rfl
theorem d_A_fewestInTheWay_1 : decode mA_fewestInTheWay.2.1 1 = .ok (.getfield 12, 3) := dq_get dd_A_fewestInTheWay_0 (i := 1) rfl
theorem d_A_fewestInTheWay_4 : decode mA_fewestInTheWay.2.1 4 = .ok (.getfield 105, 3) := dq_get dd_A_fewestInTheWay_0 (i := 2) rfl
theorem d_A_fewestInTheWay_7 : decode mA_fewestInTheWay.2.1 7 = .ok (.iload_n 2, 1) := dq_get dd_A_fewestInTheWay_0 (i := 3) rfl
theorem d_A_fewestInTheWay_8 : decode mA_fewestInTheWay.2.1 8 = .ok (.iconst 1, 1) := dq_get dd_A_fewestInTheWay_0 (i := 4) rfl
theorem d_A_fewestInTheWay_9 : decode mA_fewestInTheWay.2.1 9 = .ok (.if_icmp .ne 9, 3) := dq_get dd_A_fewestInTheWay_0 (i := 5) rfl
theorem d_A_fewestInTheWay_12 : decode mA_fewestInTheWay.2.1 12 = .ok (.iconst 1, 1) := dq_get dd_A_fewestInTheWay_0 (i := 6) rfl
theorem d_A_fewestInTheWay_13 : decode mA_fewestInTheWay.2.1 13 = .ok (.iload_n 1, 1) := dq_get dd_A_fewestInTheWay_0 (i := 7) rfl
theorem d_A_fewestInTheWay_14 : decode mA_fewestInTheWay.2.1 14 = .ok (.ishl, 1) := dq_get dd_A_fewestInTheWay_0 (i := 8) rfl
theorem d_A_fewestInTheWay_15 : decode mA_fewestInTheWay.2.1 15 = .ok (.goto 4, 3) := dq_get dd_A_fewestInTheWay_0 (i := 9) rfl
theorem d_A_fewestInTheWay_18 : decode mA_fewestInTheWay.2.1 18 = .ok (.iconst 0, 1) := dq_get dd_A_fewestInTheWay_0 (i := 10) rfl
theorem d_A_fewestInTheWay_19 : decode mA_fewestInTheWay.2.1 19 = .ok (.ior, 1) := dq_get dd_A_fewestInTheWay_0 (i := 11) rfl
theorem d_A_fewestInTheWay_20 : decode mA_fewestInTheWay.2.1 20 = .ok (.istore_n 3, 1) := dq_get dd_A_fewestInTheWay_0 (i := 12) rfl
theorem d_A_fewestInTheWay_21 : decode mA_fewestInTheWay.2.1 21 = .ok (.aload_n 0, 1) := dq_get dd_A_fewestInTheWay_0 (i := 13) rfl
theorem d_A_fewestInTheWay_22 : decode mA_fewestInTheWay.2.1 22 = .ok (.getfield 12, 3) := dq_get dd_A_fewestInTheWay_0 (i := 14) rfl
theorem d_A_fewestInTheWay_25 : decode mA_fewestInTheWay.2.1 25 = .ok (.getfield 106, 3) := dq_get dd_A_fewestInTheWay_0 (i := 15) rfl
theorem d_A_fewestInTheWay_28 : decode mA_fewestInTheWay.2.1 28 = .ok (.iload_n 2, 1) := dq_get dd_A_fewestInTheWay_0 (i := 16) rfl
theorem d_A_fewestInTheWay_29 : decode mA_fewestInTheWay.2.1 29 = .ok (.iconst 2, 1) := dq_get dd_A_fewestInTheWay_0 (i := 17) rfl
theorem d_A_fewestInTheWay_30 : decode mA_fewestInTheWay.2.1 30 = .ok (.if_icmp .ne 9, 3) := dq_get dd_A_fewestInTheWay_0 (i := 18) rfl
theorem d_A_fewestInTheWay_33 : decode mA_fewestInTheWay.2.1 33 = .ok (.iconst 1, 1) := dq_get dd_A_fewestInTheWay_0 (i := 19) rfl
theorem d_A_fewestInTheWay_34 : decode mA_fewestInTheWay.2.1 34 = .ok (.iload_n 1, 1) := dq_get dd_A_fewestInTheWay_0 (i := 20) rfl
theorem d_A_fewestInTheWay_35 : decode mA_fewestInTheWay.2.1 35 = .ok (.ishl, 1) := dq_get dd_A_fewestInTheWay_0 (i := 21) rfl
theorem d_A_fewestInTheWay_36 : decode mA_fewestInTheWay.2.1 36 = .ok (.goto 4, 3) := dq_get dd_A_fewestInTheWay_0 (i := 22) rfl
theorem d_A_fewestInTheWay_39 : decode mA_fewestInTheWay.2.1 39 = .ok (.iconst 0, 1) := dq_get dd_A_fewestInTheWay_0 (i := 23) rfl
theorem d_A_fewestInTheWay_40 : decode mA_fewestInTheWay.2.1 40 = .ok (.ior, 1) := dq_get dd_A_fewestInTheWay_0 (i := 24) rfl
theorem d_A_fewestInTheWay_41 : decode mA_fewestInTheWay.2.1 41 = .ok (.istore 4, 2) := dq_get dd_A_fewestInTheWay_0 (i := 25) rfl
theorem d_A_fewestInTheWay_43 : decode mA_fewestInTheWay.2.1 43 = .ok (.aload_n 0, 1) := dq_get dd_A_fewestInTheWay_0 (i := 26) rfl
theorem d_A_fewestInTheWay_44 : decode mA_fewestInTheWay.2.1 44 = .ok (.getfield 12, 3) := dq_get dd_A_fewestInTheWay_0 (i := 27) rfl
theorem d_A_fewestInTheWay_47 : decode mA_fewestInTheWay.2.1 47 = .ok (.getfield 105, 3) := dq_get dd_A_fewestInTheWay_0 (i := 28) rfl
theorem d_A_fewestInTheWay_50 : decode mA_fewestInTheWay.2.1 50 = .ok (.aload_n 0, 1) := dq_get dd_A_fewestInTheWay_0 (i := 29) rfl
theorem d_A_fewestInTheWay_51 : decode mA_fewestInTheWay.2.1 51 = .ok (.getfield 12, 3) := dq_get dd_A_fewestInTheWay_0 (i := 30) rfl
theorem d_A_fewestInTheWay_54 : decode mA_fewestInTheWay.2.1 54 = .ok (.getfield 106, 3) := dq_get dd_A_fewestInTheWay_0 (i := 31) rfl
theorem dd_A_fewestInTheWay_32 : dq mA_fewestInTheWay.2.1 [(57, .ior, 1), (58, .istore 5, 2), (60, .iconst (-1), 1), (61, .istore 6, 2), (63, .iconst 0, 1), (64, .istore 7, 2), (66, .iload 7, 2), (68, .iconst 1, 1), (69, .aload_n 0, 1), (70, .getfield 12, 3), (73, .getfield 41, 3), (76, .ishl, 1), (77, .if_icmp .ge 75, 3), (80, .iload 7, 2), (82, .iload 5, 2), (84, .iconst (-1), 1), (85, .ixor, 1), (86, .iand, 1), (87, .ifCond .ne 24, 3), (90, .iload 6, 2), (92, .iconst (-1), 1), (93, .if_icmp .eq 14, 3), (96, .aload_n 0, 1), (97, .iload 7, 2), (99, .iload 6, 2), (101, .invokevirtual 107, 3), (104, .ifCond .eq 7, 3), (107, .iconst 1, 1), (108, .goto 4, 3), (111, .iconst 0, 1), (112, .istore 8, 2), (114, .iload 8, 2)] = true := by decide +kernel
theorem d_A_fewestInTheWay_57 : decode mA_fewestInTheWay.2.1 57 = .ok (.ior, 1) := dq_get dd_A_fewestInTheWay_32 (i := 0) rfl
theorem d_A_fewestInTheWay_58 : decode mA_fewestInTheWay.2.1 58 = .ok (.istore 5, 2) := dq_get dd_A_fewestInTheWay_32 (i := 1) rfl
theorem d_A_fewestInTheWay_60 : decode mA_fewestInTheWay.2.1 60 = .ok (.iconst (-1), 1) := dq_get dd_A_fewestInTheWay_32 (i := 2) rfl
theorem d_A_fewestInTheWay_61 : decode mA_fewestInTheWay.2.1 61 = .ok (.istore 6, 2) := dq_get dd_A_fewestInTheWay_32 (i := 3) rfl
theorem d_A_fewestInTheWay_63 : decode mA_fewestInTheWay.2.1 63 = .ok (.iconst 0, 1) := dq_get dd_A_fewestInTheWay_32 (i := 4) rfl
theorem d_A_fewestInTheWay_64 : decode mA_fewestInTheWay.2.1 64 = .ok (.istore 7, 2) := dq_get dd_A_fewestInTheWay_32 (i := 5) rfl
theorem d_A_fewestInTheWay_66 : decode mA_fewestInTheWay.2.1 66 = .ok (.iload 7, 2) := dq_get dd_A_fewestInTheWay_32 (i := 6) rfl
theorem d_A_fewestInTheWay_68 : decode mA_fewestInTheWay.2.1 68 = .ok (.iconst 1, 1) := dq_get dd_A_fewestInTheWay_32 (i := 7) rfl
theorem d_A_fewestInTheWay_69 : decode mA_fewestInTheWay.2.1 69 = .ok (.aload_n 0, 1) := dq_get dd_A_fewestInTheWay_32 (i := 8) rfl
theorem d_A_fewestInTheWay_70 : decode mA_fewestInTheWay.2.1 70 = .ok (.getfield 12, 3) := dq_get dd_A_fewestInTheWay_32 (i := 9) rfl
theorem d_A_fewestInTheWay_73 : decode mA_fewestInTheWay.2.1 73 = .ok (.getfield 41, 3) := dq_get dd_A_fewestInTheWay_32 (i := 10) rfl
theorem d_A_fewestInTheWay_76 : decode mA_fewestInTheWay.2.1 76 = .ok (.ishl, 1) := dq_get dd_A_fewestInTheWay_32 (i := 11) rfl
theorem d_A_fewestInTheWay_77 : decode mA_fewestInTheWay.2.1 77 = .ok (.if_icmp .ge 75, 3) := dq_get dd_A_fewestInTheWay_32 (i := 12) rfl
theorem d_A_fewestInTheWay_80 : decode mA_fewestInTheWay.2.1 80 = .ok (.iload 7, 2) := dq_get dd_A_fewestInTheWay_32 (i := 13) rfl
theorem d_A_fewestInTheWay_82 : decode mA_fewestInTheWay.2.1 82 = .ok (.iload 5, 2) := dq_get dd_A_fewestInTheWay_32 (i := 14) rfl
theorem d_A_fewestInTheWay_84 : decode mA_fewestInTheWay.2.1 84 = .ok (.iconst (-1), 1) := dq_get dd_A_fewestInTheWay_32 (i := 15) rfl
theorem d_A_fewestInTheWay_85 : decode mA_fewestInTheWay.2.1 85 = .ok (.ixor, 1) := dq_get dd_A_fewestInTheWay_32 (i := 16) rfl
theorem d_A_fewestInTheWay_86 : decode mA_fewestInTheWay.2.1 86 = .ok (.iand, 1) := dq_get dd_A_fewestInTheWay_32 (i := 17) rfl
theorem d_A_fewestInTheWay_87 : decode mA_fewestInTheWay.2.1 87 = .ok (.ifCond .ne 24, 3) := dq_get dd_A_fewestInTheWay_32 (i := 18) rfl
theorem d_A_fewestInTheWay_90 : decode mA_fewestInTheWay.2.1 90 = .ok (.iload 6, 2) := dq_get dd_A_fewestInTheWay_32 (i := 19) rfl
theorem d_A_fewestInTheWay_92 : decode mA_fewestInTheWay.2.1 92 = .ok (.iconst (-1), 1) := dq_get dd_A_fewestInTheWay_32 (i := 20) rfl
theorem d_A_fewestInTheWay_93 : decode mA_fewestInTheWay.2.1 93 = .ok (.if_icmp .eq 14, 3) := dq_get dd_A_fewestInTheWay_32 (i := 21) rfl
theorem d_A_fewestInTheWay_96 : decode mA_fewestInTheWay.2.1 96 = .ok (.aload_n 0, 1) := dq_get dd_A_fewestInTheWay_32 (i := 22) rfl
theorem d_A_fewestInTheWay_97 : decode mA_fewestInTheWay.2.1 97 = .ok (.iload 7, 2) := dq_get dd_A_fewestInTheWay_32 (i := 23) rfl
theorem d_A_fewestInTheWay_99 : decode mA_fewestInTheWay.2.1 99 = .ok (.iload 6, 2) := dq_get dd_A_fewestInTheWay_32 (i := 24) rfl
theorem d_A_fewestInTheWay_101 : decode mA_fewestInTheWay.2.1 101 = .ok (.invokevirtual 107, 3) := dq_get dd_A_fewestInTheWay_32 (i := 25) rfl
theorem d_A_fewestInTheWay_104 : decode mA_fewestInTheWay.2.1 104 = .ok (.ifCond .eq 7, 3) := dq_get dd_A_fewestInTheWay_32 (i := 26) rfl
theorem d_A_fewestInTheWay_107 : decode mA_fewestInTheWay.2.1 107 = .ok (.iconst 1, 1) := dq_get dd_A_fewestInTheWay_32 (i := 27) rfl
theorem d_A_fewestInTheWay_108 : decode mA_fewestInTheWay.2.1 108 = .ok (.goto 4, 3) := dq_get dd_A_fewestInTheWay_32 (i := 28) rfl
theorem d_A_fewestInTheWay_111 : decode mA_fewestInTheWay.2.1 111 = .ok (.iconst 0, 1) := dq_get dd_A_fewestInTheWay_32 (i := 29) rfl
theorem d_A_fewestInTheWay_112 : decode mA_fewestInTheWay.2.1 112 = .ok (.istore 8, 2) := dq_get dd_A_fewestInTheWay_32 (i := 30) rfl
theorem d_A_fewestInTheWay_114 : decode mA_fewestInTheWay.2.1 114 = .ok (.iload 8, 2) := dq_get dd_A_fewestInTheWay_32 (i := 31) rfl
theorem dd_A_fewestInTheWay_64 : dq mA_fewestInTheWay.2.1 [(116, .ifCond .eq 30, 3), (119, .aload_n 0, 1), (120, .getfield 12, 3), (123, .iload_n 3, 1), (124, .iload 7, 2), (126, .iconst (-1), 1), (127, .ixor, 1), (128, .iand, 1), (129, .iload 4, 2), (131, .iload 7, 2), (133, .iconst (-1), 1), (134, .ixor, 1), (135, .iand, 1), (136, .invokevirtual 110, 3), (139, .ifCond .eq 7, 3), (142, .iload 7, 2), (144, .istore 6, 2), (146, .iinc 7 1, 3), (149, .goto (-83), 3), (152, .iload 6, 2), (154, .ireturn, 1)] = true := by decide +kernel
theorem d_A_fewestInTheWay_116 : decode mA_fewestInTheWay.2.1 116 = .ok (.ifCond .eq 30, 3) := dq_get dd_A_fewestInTheWay_64 (i := 0) rfl
theorem d_A_fewestInTheWay_119 : decode mA_fewestInTheWay.2.1 119 = .ok (.aload_n 0, 1) := dq_get dd_A_fewestInTheWay_64 (i := 1) rfl
theorem d_A_fewestInTheWay_120 : decode mA_fewestInTheWay.2.1 120 = .ok (.getfield 12, 3) := dq_get dd_A_fewestInTheWay_64 (i := 2) rfl
theorem d_A_fewestInTheWay_123 : decode mA_fewestInTheWay.2.1 123 = .ok (.iload_n 3, 1) := dq_get dd_A_fewestInTheWay_64 (i := 3) rfl
theorem d_A_fewestInTheWay_124 : decode mA_fewestInTheWay.2.1 124 = .ok (.iload 7, 2) := dq_get dd_A_fewestInTheWay_64 (i := 4) rfl
theorem d_A_fewestInTheWay_126 : decode mA_fewestInTheWay.2.1 126 = .ok (.iconst (-1), 1) := dq_get dd_A_fewestInTheWay_64 (i := 5) rfl
theorem d_A_fewestInTheWay_127 : decode mA_fewestInTheWay.2.1 127 = .ok (.ixor, 1) := dq_get dd_A_fewestInTheWay_64 (i := 6) rfl
theorem d_A_fewestInTheWay_128 : decode mA_fewestInTheWay.2.1 128 = .ok (.iand, 1) := dq_get dd_A_fewestInTheWay_64 (i := 7) rfl
theorem d_A_fewestInTheWay_129 : decode mA_fewestInTheWay.2.1 129 = .ok (.iload 4, 2) := dq_get dd_A_fewestInTheWay_64 (i := 8) rfl
theorem d_A_fewestInTheWay_131 : decode mA_fewestInTheWay.2.1 131 = .ok (.iload 7, 2) := dq_get dd_A_fewestInTheWay_64 (i := 9) rfl
theorem d_A_fewestInTheWay_133 : decode mA_fewestInTheWay.2.1 133 = .ok (.iconst (-1), 1) := dq_get dd_A_fewestInTheWay_64 (i := 10) rfl
theorem d_A_fewestInTheWay_134 : decode mA_fewestInTheWay.2.1 134 = .ok (.ixor, 1) := dq_get dd_A_fewestInTheWay_64 (i := 11) rfl
theorem d_A_fewestInTheWay_135 : decode mA_fewestInTheWay.2.1 135 = .ok (.iand, 1) := dq_get dd_A_fewestInTheWay_64 (i := 12) rfl
theorem d_A_fewestInTheWay_136 : decode mA_fewestInTheWay.2.1 136 = .ok (.invokevirtual 110, 3) := dq_get dd_A_fewestInTheWay_64 (i := 13) rfl
theorem d_A_fewestInTheWay_139 : decode mA_fewestInTheWay.2.1 139 = .ok (.ifCond .eq 7, 3) := dq_get dd_A_fewestInTheWay_64 (i := 14) rfl
theorem d_A_fewestInTheWay_142 : decode mA_fewestInTheWay.2.1 142 = .ok (.iload 7, 2) := dq_get dd_A_fewestInTheWay_64 (i := 15) rfl
theorem d_A_fewestInTheWay_144 : decode mA_fewestInTheWay.2.1 144 = .ok (.istore 6, 2) := dq_get dd_A_fewestInTheWay_64 (i := 16) rfl
theorem d_A_fewestInTheWay_146 : decode mA_fewestInTheWay.2.1 146 = .ok (.iinc 7 1, 3) := dq_get dd_A_fewestInTheWay_64 (i := 17) rfl
theorem d_A_fewestInTheWay_149 : decode mA_fewestInTheWay.2.1 149 = .ok (.goto (-83), 3) := dq_get dd_A_fewestInTheWay_64 (i := 18) rfl
theorem d_A_fewestInTheWay_152 : decode mA_fewestInTheWay.2.1 152 = .ok (.iload 6, 2) := dq_get dd_A_fewestInTheWay_64 (i := 19) rfl
theorem d_A_fewestInTheWay_154 : decode mA_fewestInTheWay.2.1 154 = .ok (.ireturn, 1) := dq_get dd_A_fewestInTheWay_64 (i := 20) rfl
theorem dd_A_isLessMissed_0 : dq mA_isLessMissed.2.1 [(0, .iload_n 1, 1), (1, .invokestatic 90, 3), (4, .istore_n 3, 1), (5, .iload_n 2, 1), (6, .invokestatic 90, 3), (9, .istore 4, 2), (11, .iload_n 3, 1), (12, .iload 4, 2), (14, .if_icmp .lt 22, 3), (17, .iload_n 3, 1), (18, .iload 4, 2), (20, .if_icmp .ne 20, 3), (23, .aload_n 0, 1), (24, .iload_n 1, 1), (25, .invokevirtual 113, 3), (28, .aload_n 0, 1), (29, .iload_n 2, 1), (30, .invokevirtual 113, 3), (33, .if_icmp .ge 7, 3), (36, .iconst 1, 1), (37, .goto 4, 3), (40, .iconst 0, 1), (41, .ireturn, 1)] = true := by decide +kernel
theorem d_A_isLessMissed_0 : decode mA_isLessMissed.2.1 0 = .ok (.iload_n 1, 1) := dq_get dd_A_isLessMissed_0 (i := 0) rfl
theorem d_A_isLessMissed_1 : decode mA_isLessMissed.2.1 1 = .ok (.invokestatic 90, 3) := dq_get dd_A_isLessMissed_0 (i := 1) rfl
theorem d_A_isLessMissed_4 : decode mA_isLessMissed.2.1 4 = .ok (.istore_n 3, 1) := dq_get dd_A_isLessMissed_0 (i := 2) rfl
theorem d_A_isLessMissed_5 : decode mA_isLessMissed.2.1 5 = .ok (.iload_n 2, 1) := dq_get dd_A_isLessMissed_0 (i := 3) rfl
theorem d_A_isLessMissed_6 : decode mA_isLessMissed.2.1 6 = .ok (.invokestatic 90, 3) := dq_get dd_A_isLessMissed_0 (i := 4) rfl
theorem d_A_isLessMissed_9 : decode mA_isLessMissed.2.1 9 = .ok (.istore 4, 2) := dq_get dd_A_isLessMissed_0 (i := 5) rfl
theorem d_A_isLessMissed_11 : decode mA_isLessMissed.2.1 11 = .ok (.iload_n 3, 1) := dq_get dd_A_isLessMissed_0 (i := 6) rfl
theorem d_A_isLessMissed_12 : decode mA_isLessMissed.2.1 12 = .ok (.iload 4, 2) := dq_get dd_A_isLessMissed_0 (i := 7) rfl
theorem d_A_isLessMissed_14 : decode mA_isLessMissed.2.1 14 = .ok (.if_icmp .lt 22, 3) := dq_get dd_A_isLessMissed_0 (i := 8) rfl
theorem d_A_isLessMissed_17 : decode mA_isLessMissed.2.1 17 = .ok (.iload_n 3, 1) := dq_get dd_A_isLessMissed_0 (i := 9) rfl
theorem d_A_isLessMissed_18 : decode mA_isLessMissed.2.1 18 = .ok (.iload 4, 2) := dq_get dd_A_isLessMissed_0 (i := 10) rfl
theorem d_A_isLessMissed_20 : decode mA_isLessMissed.2.1 20 = .ok (.if_icmp .ne 20, 3) := dq_get dd_A_isLessMissed_0 (i := 11) rfl
theorem d_A_isLessMissed_23 : decode mA_isLessMissed.2.1 23 = .ok (.aload_n 0, 1) := dq_get dd_A_isLessMissed_0 (i := 12) rfl
theorem d_A_isLessMissed_24 : decode mA_isLessMissed.2.1 24 = .ok (.iload_n 1, 1) := dq_get dd_A_isLessMissed_0 (i := 13) rfl
theorem d_A_isLessMissed_25 : decode mA_isLessMissed.2.1 25 = .ok (.invokevirtual 113, 3) := dq_get dd_A_isLessMissed_0 (i := 14) rfl
theorem d_A_isLessMissed_28 : decode mA_isLessMissed.2.1 28 = .ok (.aload_n 0, 1) := dq_get dd_A_isLessMissed_0 (i := 15) rfl
theorem d_A_isLessMissed_29 : decode mA_isLessMissed.2.1 29 = .ok (.iload_n 2, 1) := dq_get dd_A_isLessMissed_0 (i := 16) rfl
theorem d_A_isLessMissed_30 : decode mA_isLessMissed.2.1 30 = .ok (.invokevirtual 113, 3) := dq_get dd_A_isLessMissed_0 (i := 17) rfl
theorem d_A_isLessMissed_33 : decode mA_isLessMissed.2.1 33 = .ok (.if_icmp .ge 7, 3) := dq_get dd_A_isLessMissed_0 (i := 18) rfl
theorem d_A_isLessMissed_36 : decode mA_isLessMissed.2.1 36 = .ok (.iconst 1, 1) := dq_get dd_A_isLessMissed_0 (i := 19) rfl
theorem d_A_isLessMissed_37 : decode mA_isLessMissed.2.1 37 = .ok (.goto 4, 3) := dq_get dd_A_isLessMissed_0 (i := 20) rfl
theorem d_A_isLessMissed_40 : decode mA_isLessMissed.2.1 40 = .ok (.iconst 0, 1) := dq_get dd_A_isLessMissed_0 (i := 21) rfl
theorem d_A_isLessMissed_41 : decode mA_isLessMissed.2.1 41 = .ok (.ireturn, 1) := dq_get dd_A_isLessMissed_0 (i := 22) rfl
theorem dd_A_missedTogether_0 : dq mA_missedTogether.2.1 [(0, .iconst 0, 1), (1, .istore_n 2, 1), (2, .iconst 0, 1), (3, .istore_n 3, 1), (4, .iload_n 3, 1), (5, .aload_n 0, 1), (6, .getfield 12, 3), (9, .getfield 41, 3), (12, .if_icmp .ge 30, 3), (15, .iload_n 2, 1), (16, .iload_n 1, 1), (17, .iload_n 3, 1), (18, .ishr, 1), (19, .iconst 1, 1), (20, .iand, 1), (21, .ifCond .eq 12, 3), (24, .aload_n 0, 1), (25, .getfield 18, 3), (28, .iload_n 3, 1), (29, .iaload, 1), (30, .goto 4, 3), (33, .iconst 0, 1), (34, .iadd, 1), (35, .istore_n 2, 1), (36, .iinc 3 1, 3), (39, .goto (-35), 3), (42, .iload_n 2, 1), (43, .ireturn, 1)] = true := by decide +kernel
theorem d_A_missedTogether_0 : decode mA_missedTogether.2.1 0 = .ok (.iconst 0, 1) := dq_get dd_A_missedTogether_0 (i := 0) rfl
theorem d_A_missedTogether_1 : decode mA_missedTogether.2.1 1 = .ok (.istore_n 2, 1) := dq_get dd_A_missedTogether_0 (i := 1) rfl
theorem d_A_missedTogether_2 : decode mA_missedTogether.2.1 2 = .ok (.iconst 0, 1) := dq_get dd_A_missedTogether_0 (i := 2) rfl
theorem d_A_missedTogether_3 : decode mA_missedTogether.2.1 3 = .ok (.istore_n 3, 1) := dq_get dd_A_missedTogether_0 (i := 3) rfl
theorem d_A_missedTogether_4 : decode mA_missedTogether.2.1 4 = .ok (.iload_n 3, 1) := dq_get dd_A_missedTogether_0 (i := 4) rfl
theorem d_A_missedTogether_5 : decode mA_missedTogether.2.1 5 = .ok (.aload_n 0, 1) := dq_get dd_A_missedTogether_0 (i := 5) rfl
theorem d_A_missedTogether_6 : decode mA_missedTogether.2.1 6 = .ok (.getfield 12, 3) := dq_get dd_A_missedTogether_0 (i := 6) rfl
theorem d_A_missedTogether_9 : decode mA_missedTogether.2.1 9 = .ok (.getfield 41, 3) := dq_get dd_A_missedTogether_0 (i := 7) rfl
theorem d_A_missedTogether_12 : decode mA_missedTogether.2.1 12 = .ok (.if_icmp .ge 30, 3) := dq_get dd_A_missedTogether_0 (i := 8) rfl
theorem d_A_missedTogether_15 : decode mA_missedTogether.2.1 15 = .ok (.iload_n 2, 1) := dq_get dd_A_missedTogether_0 (i := 9) rfl
theorem d_A_missedTogether_16 : decode mA_missedTogether.2.1 16 = .ok (.iload_n 1, 1) := dq_get dd_A_missedTogether_0 (i := 10) rfl
theorem d_A_missedTogether_17 : decode mA_missedTogether.2.1 17 = .ok (.iload_n 3, 1) := dq_get dd_A_missedTogether_0 (i := 11) rfl
theorem d_A_missedTogether_18 : decode mA_missedTogether.2.1 18 = .ok (.ishr, 1) := dq_get dd_A_missedTogether_0 (i := 12) rfl
theorem d_A_missedTogether_19 : decode mA_missedTogether.2.1 19 = .ok (.iconst 1, 1) := dq_get dd_A_missedTogether_0 (i := 13) rfl
theorem d_A_missedTogether_20 : decode mA_missedTogether.2.1 20 = .ok (.iand, 1) := dq_get dd_A_missedTogether_0 (i := 14) rfl
theorem d_A_missedTogether_21 : decode mA_missedTogether.2.1 21 = .ok (.ifCond .eq 12, 3) := dq_get dd_A_missedTogether_0 (i := 15) rfl
theorem d_A_missedTogether_24 : decode mA_missedTogether.2.1 24 = .ok (.aload_n 0, 1) := dq_get dd_A_missedTogether_0 (i := 16) rfl
theorem d_A_missedTogether_25 : decode mA_missedTogether.2.1 25 = .ok (.getfield 18, 3) := dq_get dd_A_missedTogether_0 (i := 17) rfl
theorem d_A_missedTogether_28 : decode mA_missedTogether.2.1 28 = .ok (.iload_n 3, 1) := dq_get dd_A_missedTogether_0 (i := 18) rfl
theorem d_A_missedTogether_29 : decode mA_missedTogether.2.1 29 = .ok (.iaload, 1) := dq_get dd_A_missedTogether_0 (i := 19) rfl
theorem d_A_missedTogether_30 : decode mA_missedTogether.2.1 30 = .ok (.goto 4, 3) := dq_get dd_A_missedTogether_0 (i := 20) rfl
theorem d_A_missedTogether_33 : decode mA_missedTogether.2.1 33 = .ok (.iconst 0, 1) := dq_get dd_A_missedTogether_0 (i := 21) rfl
theorem d_A_missedTogether_34 : decode mA_missedTogether.2.1 34 = .ok (.iadd, 1) := dq_get dd_A_missedTogether_0 (i := 22) rfl
theorem d_A_missedTogether_35 : decode mA_missedTogether.2.1 35 = .ok (.istore_n 2, 1) := dq_get dd_A_missedTogether_0 (i := 23) rfl
theorem d_A_missedTogether_36 : decode mA_missedTogether.2.1 36 = .ok (.iinc 3 1, 3) := dq_get dd_A_missedTogether_0 (i := 24) rfl
theorem d_A_missedTogether_39 : decode mA_missedTogether.2.1 39 = .ok (.goto (-35), 3) := dq_get dd_A_missedTogether_0 (i := 25) rfl
theorem d_A_missedTogether_42 : decode mA_missedTogether.2.1 42 = .ok (.iload_n 2, 1) := dq_get dd_A_missedTogether_0 (i := 26) rfl
theorem d_A_missedTogether_43 : decode mA_missedTogether.2.1 43 = .ok (.ireturn, 1) := dq_get dd_A_missedTogether_0 (i := 27) rfl
theorem dd_K_canBePlayed_0 : dq mK_canBePlayed.2.1 [(0, .iconst 0, 1), (1, .istore_n 3, 1), (2, .iload_n 3, 1), (3, .aload_n 0, 1), (4, .getfield 30, 3), (7, .if_icmp .ge 21, 3), (10, .aload_n 0, 1), (11, .iload_n 1, 1), (12, .iload_n 2, 1), (13, .iload_n 3, 1), (14, .invokevirtual 104, 3), (17, .ifCond .eq 5, 3), (20, .iconst 0, 1), (21, .ireturn, 1), (22, .iinc 3 1, 3), (25, .goto (-23), 3), (28, .iconst 1, 1), (29, .ireturn, 1)] = true := by decide +kernel
theorem d_K_canBePlayed_0 : decode mK_canBePlayed.2.1 0 = .ok (.iconst 0, 1) := dq_get dd_K_canBePlayed_0 (i := 0) rfl
theorem d_K_canBePlayed_1 : decode mK_canBePlayed.2.1 1 = .ok (.istore_n 3, 1) := dq_get dd_K_canBePlayed_0 (i := 1) rfl
theorem d_K_canBePlayed_2 : decode mK_canBePlayed.2.1 2 = .ok (.iload_n 3, 1) := dq_get dd_K_canBePlayed_0 (i := 2) rfl
theorem d_K_canBePlayed_3 : decode mK_canBePlayed.2.1 3 = .ok (.aload_n 0, 1) := dq_get dd_K_canBePlayed_0 (i := 3) rfl
theorem d_K_canBePlayed_4 : decode mK_canBePlayed.2.1 4 = .ok (.getfield 30, 3) := dq_get dd_K_canBePlayed_0 (i := 4) rfl
theorem d_K_canBePlayed_7 : decode mK_canBePlayed.2.1 7 = .ok (.if_icmp .ge 21, 3) := dq_get dd_K_canBePlayed_0 (i := 5) rfl
theorem d_K_canBePlayed_10 : decode mK_canBePlayed.2.1 10 = .ok (.aload_n 0, 1) := dq_get dd_K_canBePlayed_0 (i := 6) rfl
theorem d_K_canBePlayed_11 : decode mK_canBePlayed.2.1 11 = .ok (.iload_n 1, 1) := dq_get dd_K_canBePlayed_0 (i := 7) rfl
theorem d_K_canBePlayed_12 : decode mK_canBePlayed.2.1 12 = .ok (.iload_n 2, 1) := dq_get dd_K_canBePlayed_0 (i := 8) rfl
theorem d_K_canBePlayed_13 : decode mK_canBePlayed.2.1 13 = .ok (.iload_n 3, 1) := dq_get dd_K_canBePlayed_0 (i := 9) rfl
theorem d_K_canBePlayed_14 : decode mK_canBePlayed.2.1 14 = .ok (.invokevirtual 104, 3) := dq_get dd_K_canBePlayed_0 (i := 10) rfl
theorem d_K_canBePlayed_17 : decode mK_canBePlayed.2.1 17 = .ok (.ifCond .eq 5, 3) := dq_get dd_K_canBePlayed_0 (i := 11) rfl
theorem d_K_canBePlayed_20 : decode mK_canBePlayed.2.1 20 = .ok (.iconst 0, 1) := dq_get dd_K_canBePlayed_0 (i := 12) rfl
theorem d_K_canBePlayed_21 : decode mK_canBePlayed.2.1 21 = .ok (.ireturn, 1) := dq_get dd_K_canBePlayed_0 (i := 13) rfl
theorem d_K_canBePlayed_22 : decode mK_canBePlayed.2.1 22 = .ok (.iinc 3 1, 3) := dq_get dd_K_canBePlayed_0 (i := 14) rfl
theorem d_K_canBePlayed_25 : decode mK_canBePlayed.2.1 25 = .ok (.goto (-23), 3) := dq_get dd_K_canBePlayed_0 (i := 15) rfl
theorem d_K_canBePlayed_28 : decode mK_canBePlayed.2.1 28 = .ok (.iconst 1, 1) := dq_get dd_K_canBePlayed_0 (i := 16) rfl
theorem d_K_canBePlayed_29 : decode mK_canBePlayed.2.1 29 = .ok (.ireturn, 1) := dq_get dd_K_canBePlayed_0 (i := 17) rfl
theorem dd_K_handForShifted_0 : dq mK_handForShifted.2.1 [(0, .aload_n 0, 1), (1, .getfield 9, 3), (4, .iload_n 1, 1), (5, .iaload, 1), (6, .istore_n 3, 1), (7, .iload_n 3, 1), (8, .iload_n 2, 1), (9, .bipush 12, 2), (11, .imul, 1), (12, .iadd, 1), (13, .istore 4, 2), (15, .iload 4, 2), (17, .invokestatic 108, 3), (20, .ifCond .ne 5, 3), (23, .iconst 0, 1), (24, .ireturn, 1), (25, .iconst 1, 1), (26, .iload_n 1, 1), (27, .ishl, 1), (28, .istore 5, 2), (30, .aload_n 0, 1), (31, .getfield 9, 3), (34, .iload_n 1, 1), (35, .iload 4, 2), (37, .iastore, 1), (38, .aload_n 0, 1), (39, .aload_n 0, 1), (40, .getfield 53, 3), (43, .iload 5, 2), (45, .ior, 1), (46, .aload_n 0, 1), (47, .getfield 56, 3)] = true := by decide +kernel
theorem d_K_handForShifted_0 : decode mK_handForShifted.2.1 0 = .ok (.aload_n 0, 1) := dq_get dd_K_handForShifted_0 (i := 0) rfl
theorem d_K_handForShifted_1 : decode mK_handForShifted.2.1 1 = .ok (.getfield 9, 3) := dq_get dd_K_handForShifted_0 (i := 1) rfl
theorem d_K_handForShifted_4 : decode mK_handForShifted.2.1 4 = .ok (.iload_n 1, 1) := dq_get dd_K_handForShifted_0 (i := 2) rfl
theorem d_K_handForShifted_5 : decode mK_handForShifted.2.1 5 = .ok (.iaload, 1) := dq_get dd_K_handForShifted_0 (i := 3) rfl
theorem d_K_handForShifted_6 : decode mK_handForShifted.2.1 6 = .ok (.istore_n 3, 1) := dq_get dd_K_handForShifted_0 (i := 4) rfl
theorem d_K_handForShifted_7 : decode mK_handForShifted.2.1 7 = .ok (.iload_n 3, 1) := dq_get dd_K_handForShifted_0 (i := 5) rfl
theorem d_K_handForShifted_8 : decode mK_handForShifted.2.1 8 = .ok (.iload_n 2, 1) := dq_get dd_K_handForShifted_0 (i := 6) rfl
theorem d_K_handForShifted_9 : decode mK_handForShifted.2.1 9 = .ok (.bipush 12, 2) := dq_get dd_K_handForShifted_0 (i := 7) rfl
theorem d_K_handForShifted_11 : decode mK_handForShifted.2.1 11 = .ok (.imul, 1) := dq_get dd_K_handForShifted_0 (i := 8) rfl
theorem d_K_handForShifted_12 : decode mK_handForShifted.2.1 12 = .ok (.iadd, 1) := dq_get dd_K_handForShifted_0 (i := 9) rfl
theorem d_K_handForShifted_13 : decode mK_handForShifted.2.1 13 = .ok (.istore 4, 2) := dq_get dd_K_handForShifted_0 (i := 10) rfl
theorem d_K_handForShifted_15 : decode mK_handForShifted.2.1 15 = .ok (.iload 4, 2) := dq_get dd_K_handForShifted_0 (i := 11) rfl
theorem d_K_handForShifted_17 : decode mK_handForShifted.2.1 17 = .ok (.invokestatic 108, 3) := dq_get dd_K_handForShifted_0 (i := 12) rfl
theorem d_K_handForShifted_20 : decode mK_handForShifted.2.1 20 = .ok (.ifCond .ne 5, 3) := dq_get dd_K_handForShifted_0 (i := 13) rfl
theorem d_K_handForShifted_23 : decode mK_handForShifted.2.1 23 = .ok (.iconst 0, 1) := dq_get dd_K_handForShifted_0 (i := 14) rfl
theorem d_K_handForShifted_24 : decode mK_handForShifted.2.1 24 = .ok (.ireturn, 1) := dq_get dd_K_handForShifted_0 (i := 15) rfl
theorem d_K_handForShifted_25 : decode mK_handForShifted.2.1 25 = .ok (.iconst 1, 1) := dq_get dd_K_handForShifted_0 (i := 16) rfl
theorem d_K_handForShifted_26 : decode mK_handForShifted.2.1 26 = .ok (.iload_n 1, 1) := dq_get dd_K_handForShifted_0 (i := 17) rfl
theorem d_K_handForShifted_27 : decode mK_handForShifted.2.1 27 = .ok (.ishl, 1) := dq_get dd_K_handForShifted_0 (i := 18) rfl
theorem d_K_handForShifted_28 : decode mK_handForShifted.2.1 28 = .ok (.istore 5, 2) := dq_get dd_K_handForShifted_0 (i := 19) rfl
theorem d_K_handForShifted_30 : decode mK_handForShifted.2.1 30 = .ok (.aload_n 0, 1) := dq_get dd_K_handForShifted_0 (i := 20) rfl
theorem d_K_handForShifted_31 : decode mK_handForShifted.2.1 31 = .ok (.getfield 9, 3) := dq_get dd_K_handForShifted_0 (i := 21) rfl
theorem d_K_handForShifted_34 : decode mK_handForShifted.2.1 34 = .ok (.iload_n 1, 1) := dq_get dd_K_handForShifted_0 (i := 22) rfl
theorem d_K_handForShifted_35 : decode mK_handForShifted.2.1 35 = .ok (.iload 4, 2) := dq_get dd_K_handForShifted_0 (i := 23) rfl
theorem d_K_handForShifted_37 : decode mK_handForShifted.2.1 37 = .ok (.iastore, 1) := dq_get dd_K_handForShifted_0 (i := 24) rfl
theorem d_K_handForShifted_38 : decode mK_handForShifted.2.1 38 = .ok (.aload_n 0, 1) := dq_get dd_K_handForShifted_0 (i := 25) rfl
theorem d_K_handForShifted_39 : decode mK_handForShifted.2.1 39 = .ok (.aload_n 0, 1) := dq_get dd_K_handForShifted_0 (i := 26) rfl
theorem d_K_handForShifted_40 : decode mK_handForShifted.2.1 40 = .ok (.getfield 53, 3) := dq_get dd_K_handForShifted_0 (i := 27) rfl
theorem d_K_handForShifted_43 : decode mK_handForShifted.2.1 43 = .ok (.iload 5, 2) := dq_get dd_K_handForShifted_0 (i := 28) rfl
theorem d_K_handForShifted_45 : decode mK_handForShifted.2.1 45 = .ok (.ior, 1) := dq_get dd_K_handForShifted_0 (i := 29) rfl
theorem d_K_handForShifted_46 : decode mK_handForShifted.2.1 46 = .ok (.aload_n 0, 1) := dq_get dd_K_handForShifted_0 (i := 30) rfl
theorem d_K_handForShifted_47 : decode mK_handForShifted.2.1 47 = .ok (.getfield 56, 3) := dq_get dd_K_handForShifted_0 (i := 31) rfl
theorem dd_K_handForShifted_32 : dq mK_handForShifted.2.1 [(50, .invokevirtual 111, 3), (53, .ifCond .eq 7, 3), (56, .iconst 1, 1), (57, .goto 26, 3), (60, .aload_n 0, 1), (61, .aload_n 0, 1), (62, .getfield 53, 3), (65, .aload_n 0, 1), (66, .getfield 56, 3), (69, .iload 5, 2), (71, .ior, 1), (72, .invokevirtual 111, 3), (75, .ifCond .eq 7, 3), (78, .iconst 2, 1), (79, .goto 4, 3), (82, .iconst 0, 1), (83, .istore 6, 2), (85, .aload_n 0, 1), (86, .getfield 9, 3), (89, .iload_n 1, 1), (90, .iload_n 3, 1), (91, .iastore, 1), (92, .iload 6, 2), (94, .ireturn, 1)] = true := by decide +kernel
theorem d_K_handForShifted_50 : decode mK_handForShifted.2.1 50 = .ok (.invokevirtual 111, 3) := dq_get dd_K_handForShifted_32 (i := 0) rfl
theorem d_K_handForShifted_53 : decode mK_handForShifted.2.1 53 = .ok (.ifCond .eq 7, 3) := dq_get dd_K_handForShifted_32 (i := 1) rfl
theorem d_K_handForShifted_56 : decode mK_handForShifted.2.1 56 = .ok (.iconst 1, 1) := dq_get dd_K_handForShifted_32 (i := 2) rfl
theorem d_K_handForShifted_57 : decode mK_handForShifted.2.1 57 = .ok (.goto 26, 3) := dq_get dd_K_handForShifted_32 (i := 3) rfl
theorem d_K_handForShifted_60 : decode mK_handForShifted.2.1 60 = .ok (.aload_n 0, 1) := dq_get dd_K_handForShifted_32 (i := 4) rfl
theorem d_K_handForShifted_61 : decode mK_handForShifted.2.1 61 = .ok (.aload_n 0, 1) := dq_get dd_K_handForShifted_32 (i := 5) rfl
theorem d_K_handForShifted_62 : decode mK_handForShifted.2.1 62 = .ok (.getfield 53, 3) := dq_get dd_K_handForShifted_32 (i := 6) rfl
theorem d_K_handForShifted_65 : decode mK_handForShifted.2.1 65 = .ok (.aload_n 0, 1) := dq_get dd_K_handForShifted_32 (i := 7) rfl
theorem d_K_handForShifted_66 : decode mK_handForShifted.2.1 66 = .ok (.getfield 56, 3) := dq_get dd_K_handForShifted_32 (i := 8) rfl
theorem d_K_handForShifted_69 : decode mK_handForShifted.2.1 69 = .ok (.iload 5, 2) := dq_get dd_K_handForShifted_32 (i := 9) rfl
theorem d_K_handForShifted_71 : decode mK_handForShifted.2.1 71 = .ok (.ior, 1) := dq_get dd_K_handForShifted_32 (i := 10) rfl
theorem d_K_handForShifted_72 : decode mK_handForShifted.2.1 72 = .ok (.invokevirtual 111, 3) := dq_get dd_K_handForShifted_32 (i := 11) rfl
theorem d_K_handForShifted_75 : decode mK_handForShifted.2.1 75 = .ok (.ifCond .eq 7, 3) := dq_get dd_K_handForShifted_32 (i := 12) rfl
theorem d_K_handForShifted_78 : decode mK_handForShifted.2.1 78 = .ok (.iconst 2, 1) := dq_get dd_K_handForShifted_32 (i := 13) rfl
theorem d_K_handForShifted_79 : decode mK_handForShifted.2.1 79 = .ok (.goto 4, 3) := dq_get dd_K_handForShifted_32 (i := 14) rfl
theorem d_K_handForShifted_82 : decode mK_handForShifted.2.1 82 = .ok (.iconst 0, 1) := dq_get dd_K_handForShifted_32 (i := 15) rfl
theorem d_K_handForShifted_83 : decode mK_handForShifted.2.1 83 = .ok (.istore 6, 2) := dq_get dd_K_handForShifted_32 (i := 16) rfl
theorem d_K_handForShifted_85 : decode mK_handForShifted.2.1 85 = .ok (.aload_n 0, 1) := dq_get dd_K_handForShifted_32 (i := 17) rfl
theorem d_K_handForShifted_86 : decode mK_handForShifted.2.1 86 = .ok (.getfield 9, 3) := dq_get dd_K_handForShifted_32 (i := 18) rfl
theorem d_K_handForShifted_89 : decode mK_handForShifted.2.1 89 = .ok (.iload_n 1, 1) := dq_get dd_K_handForShifted_32 (i := 19) rfl
theorem d_K_handForShifted_90 : decode mK_handForShifted.2.1 90 = .ok (.iload_n 3, 1) := dq_get dd_K_handForShifted_32 (i := 20) rfl
theorem d_K_handForShifted_91 : decode mK_handForShifted.2.1 91 = .ok (.iastore, 1) := dq_get dd_K_handForShifted_32 (i := 21) rfl
theorem d_K_handForShifted_92 : decode mK_handForShifted.2.1 92 = .ok (.iload 6, 2) := dq_get dd_K_handForShifted_32 (i := 22) rfl
theorem d_K_handForShifted_94 : decode mK_handForShifted.2.1 94 = .ok (.ireturn, 1) := dq_get dd_K_handForShifted_32 (i := 23) rfl
theorem dd_P_fewest_0 : dq mP_fewest.2.1 [(0, .aload_n 0, 1), (1, .getfield 9, 3), (4, .iconst 0, 1), (5, .aload_n 1, 1), (6, .iconst 0, 1), (7, .iconst 0, 1), (8, .iconst 0, 1), (9, .invokestatic 15, 3), (12, .ifCond .eq 7, 3), (15, .iconst 0, 1), (16, .goto 4, 3), (19, .iconst (-1), 1), (20, .iastore, 1), (21, .iconst 1, 1), (22, .istore_n 2, 1), (23, .iload_n 2, 1), (24, .aload_n 1, 1), (25, .getfield 19, 3), (28, .if_icmp .ge 51, 3), (31, .aload_n 0, 1), (32, .getfield 9, 3), (35, .iload_n 2, 1), (36, .aload_n 0, 1), (37, .aload_n 1, 1), (38, .iload_n 2, 1), (39, .invokevirtual 25, 3), (42, .iastore, 1), (43, .iconst 0, 1), (44, .istore_n 3, 1), (45, .iload_n 3, 1), (46, .iload_n 2, 1), (47, .if_icmp .ge 26, 3)] = true := by decide +kernel
theorem d_P_fewest_0 : decode mP_fewest.2.1 0 = .ok (.aload_n 0, 1) := dq_get dd_P_fewest_0 (i := 0) rfl
theorem d_P_fewest_1 : decode mP_fewest.2.1 1 = .ok (.getfield 9, 3) := dq_get dd_P_fewest_0 (i := 1) rfl
theorem d_P_fewest_4 : decode mP_fewest.2.1 4 = .ok (.iconst 0, 1) := dq_get dd_P_fewest_0 (i := 2) rfl
theorem d_P_fewest_5 : decode mP_fewest.2.1 5 = .ok (.aload_n 1, 1) := dq_get dd_P_fewest_0 (i := 3) rfl
theorem d_P_fewest_6 : decode mP_fewest.2.1 6 = .ok (.iconst 0, 1) := dq_get dd_P_fewest_0 (i := 4) rfl
theorem d_P_fewest_7 : decode mP_fewest.2.1 7 = .ok (.iconst 0, 1) := dq_get dd_P_fewest_0 (i := 5) rfl
theorem d_P_fewest_8 : decode mP_fewest.2.1 8 = .ok (.iconst 0, 1) := dq_get dd_P_fewest_0 (i := 6) rfl
theorem d_P_fewest_9 : decode mP_fewest.2.1 9 = .ok (.invokestatic 15, 3) := dq_get dd_P_fewest_0 (i := 7) rfl
theorem d_P_fewest_12 : decode mP_fewest.2.1 12 = .ok (.ifCond .eq 7, 3) := dq_get dd_P_fewest_0 (i := 8) rfl
theorem d_P_fewest_15 : decode mP_fewest.2.1 15 = .ok (.iconst 0, 1) := dq_get dd_P_fewest_0 (i := 9) rfl
theorem d_P_fewest_16 : decode mP_fewest.2.1 16 = .ok (.goto 4, 3) := dq_get dd_P_fewest_0 (i := 10) rfl
theorem d_P_fewest_19 : decode mP_fewest.2.1 19 = .ok (.iconst (-1), 1) := dq_get dd_P_fewest_0 (i := 11) rfl
theorem d_P_fewest_20 : decode mP_fewest.2.1 20 = .ok (.iastore, 1) := dq_get dd_P_fewest_0 (i := 12) rfl
theorem d_P_fewest_21 : decode mP_fewest.2.1 21 = .ok (.iconst 1, 1) := dq_get dd_P_fewest_0 (i := 13) rfl
theorem d_P_fewest_22 : decode mP_fewest.2.1 22 = .ok (.istore_n 2, 1) := dq_get dd_P_fewest_0 (i := 14) rfl
theorem d_P_fewest_23 : decode mP_fewest.2.1 23 = .ok (.iload_n 2, 1) := dq_get dd_P_fewest_0 (i := 15) rfl
theorem d_P_fewest_24 : decode mP_fewest.2.1 24 = .ok (.aload_n 1, 1) := dq_get dd_P_fewest_0 (i := 16) rfl
theorem d_P_fewest_25 : decode mP_fewest.2.1 25 = .ok (.getfield 19, 3) := dq_get dd_P_fewest_0 (i := 17) rfl
theorem d_P_fewest_28 : decode mP_fewest.2.1 28 = .ok (.if_icmp .ge 51, 3) := dq_get dd_P_fewest_0 (i := 18) rfl
theorem d_P_fewest_31 : decode mP_fewest.2.1 31 = .ok (.aload_n 0, 1) := dq_get dd_P_fewest_0 (i := 19) rfl
theorem d_P_fewest_32 : decode mP_fewest.2.1 32 = .ok (.getfield 9, 3) := dq_get dd_P_fewest_0 (i := 20) rfl
theorem d_P_fewest_35 : decode mP_fewest.2.1 35 = .ok (.iload_n 2, 1) := dq_get dd_P_fewest_0 (i := 21) rfl
theorem d_P_fewest_36 : decode mP_fewest.2.1 36 = .ok (.aload_n 0, 1) := dq_get dd_P_fewest_0 (i := 22) rfl
theorem d_P_fewest_37 : decode mP_fewest.2.1 37 = .ok (.aload_n 1, 1) := dq_get dd_P_fewest_0 (i := 23) rfl
theorem d_P_fewest_38 : decode mP_fewest.2.1 38 = .ok (.iload_n 2, 1) := dq_get dd_P_fewest_0 (i := 24) rfl
theorem d_P_fewest_39 : decode mP_fewest.2.1 39 = .ok (.invokevirtual 25, 3) := dq_get dd_P_fewest_0 (i := 25) rfl
theorem d_P_fewest_42 : decode mP_fewest.2.1 42 = .ok (.iastore, 1) := dq_get dd_P_fewest_0 (i := 26) rfl
theorem d_P_fewest_43 : decode mP_fewest.2.1 43 = .ok (.iconst 0, 1) := dq_get dd_P_fewest_0 (i := 27) rfl
theorem d_P_fewest_44 : decode mP_fewest.2.1 44 = .ok (.istore_n 3, 1) := dq_get dd_P_fewest_0 (i := 28) rfl
theorem d_P_fewest_45 : decode mP_fewest.2.1 45 = .ok (.iload_n 3, 1) := dq_get dd_P_fewest_0 (i := 29) rfl
theorem d_P_fewest_46 : decode mP_fewest.2.1 46 = .ok (.iload_n 2, 1) := dq_get dd_P_fewest_0 (i := 30) rfl
theorem d_P_fewest_47 : decode mP_fewest.2.1 47 = .ok (.if_icmp .ge 26, 3) := dq_get dd_P_fewest_0 (i := 31) rfl
theorem dd_P_fewest_32 : dq mP_fewest.2.1 [(50, .aload_n 1, 1), (51, .iload_n 2, 1), (52, .iload_n 3, 1), (53, .iload_n 3, 1), (54, .invokestatic 15, 3), (57, .ifCond .ne 10, 3), (60, .aload_n 0, 1), (61, .getfield 9, 3), (64, .iload_n 3, 1), (65, .iconst (-1), 1), (66, .iastore, 1), (67, .iinc 3 1, 3), (70, .goto (-25), 3), (73, .iinc 2 1, 3), (76, .goto (-53), 3), (79, .iconst (-1), 1), (80, .istore_n 2, 1), (81, .iconst 0, 1), (82, .istore_n 3, 1), (83, .iload_n 3, 1), (84, .aload_n 1, 1), (85, .getfield 19, 3), (88, .if_icmp .ge 20, 3), (91, .iload_n 2, 1), (92, .aload_n 0, 1), (93, .getfield 9, 3), (96, .iload_n 3, 1), (97, .iaload, 1), (98, .invokestatic 29, 3), (101, .istore_n 2, 1), (102, .iinc 3 1, 3), (105, .goto (-22), 3)] = true := by decide +kernel
theorem d_P_fewest_50 : decode mP_fewest.2.1 50 = .ok (.aload_n 1, 1) := dq_get dd_P_fewest_32 (i := 0) rfl
theorem d_P_fewest_51 : decode mP_fewest.2.1 51 = .ok (.iload_n 2, 1) := dq_get dd_P_fewest_32 (i := 1) rfl
theorem d_P_fewest_52 : decode mP_fewest.2.1 52 = .ok (.iload_n 3, 1) := dq_get dd_P_fewest_32 (i := 2) rfl
theorem d_P_fewest_53 : decode mP_fewest.2.1 53 = .ok (.iload_n 3, 1) := dq_get dd_P_fewest_32 (i := 3) rfl
theorem d_P_fewest_54 : decode mP_fewest.2.1 54 = .ok (.invokestatic 15, 3) := dq_get dd_P_fewest_32 (i := 4) rfl
theorem d_P_fewest_57 : decode mP_fewest.2.1 57 = .ok (.ifCond .ne 10, 3) := dq_get dd_P_fewest_32 (i := 5) rfl
theorem d_P_fewest_60 : decode mP_fewest.2.1 60 = .ok (.aload_n 0, 1) := dq_get dd_P_fewest_32 (i := 6) rfl
theorem d_P_fewest_61 : decode mP_fewest.2.1 61 = .ok (.getfield 9, 3) := dq_get dd_P_fewest_32 (i := 7) rfl
theorem d_P_fewest_64 : decode mP_fewest.2.1 64 = .ok (.iload_n 3, 1) := dq_get dd_P_fewest_32 (i := 8) rfl
theorem d_P_fewest_65 : decode mP_fewest.2.1 65 = .ok (.iconst (-1), 1) := dq_get dd_P_fewest_32 (i := 9) rfl
theorem d_P_fewest_66 : decode mP_fewest.2.1 66 = .ok (.iastore, 1) := dq_get dd_P_fewest_32 (i := 10) rfl
theorem d_P_fewest_67 : decode mP_fewest.2.1 67 = .ok (.iinc 3 1, 3) := dq_get dd_P_fewest_32 (i := 11) rfl
theorem d_P_fewest_70 : decode mP_fewest.2.1 70 = .ok (.goto (-25), 3) := dq_get dd_P_fewest_32 (i := 12) rfl
theorem d_P_fewest_73 : decode mP_fewest.2.1 73 = .ok (.iinc 2 1, 3) := dq_get dd_P_fewest_32 (i := 13) rfl
theorem d_P_fewest_76 : decode mP_fewest.2.1 76 = .ok (.goto (-53), 3) := dq_get dd_P_fewest_32 (i := 14) rfl
theorem d_P_fewest_79 : decode mP_fewest.2.1 79 = .ok (.iconst (-1), 1) := dq_get dd_P_fewest_32 (i := 15) rfl
theorem d_P_fewest_80 : decode mP_fewest.2.1 80 = .ok (.istore_n 2, 1) := dq_get dd_P_fewest_32 (i := 16) rfl
theorem d_P_fewest_81 : decode mP_fewest.2.1 81 = .ok (.iconst 0, 1) := dq_get dd_P_fewest_32 (i := 17) rfl
theorem d_P_fewest_82 : decode mP_fewest.2.1 82 = .ok (.istore_n 3, 1) := dq_get dd_P_fewest_32 (i := 18) rfl
theorem d_P_fewest_83 : decode mP_fewest.2.1 83 = .ok (.iload_n 3, 1) := dq_get dd_P_fewest_32 (i := 19) rfl
theorem d_P_fewest_84 : decode mP_fewest.2.1 84 = .ok (.aload_n 1, 1) := dq_get dd_P_fewest_32 (i := 20) rfl
theorem d_P_fewest_85 : decode mP_fewest.2.1 85 = .ok (.getfield 19, 3) := dq_get dd_P_fewest_32 (i := 21) rfl
theorem d_P_fewest_88 : decode mP_fewest.2.1 88 = .ok (.if_icmp .ge 20, 3) := dq_get dd_P_fewest_32 (i := 22) rfl
theorem d_P_fewest_91 : decode mP_fewest.2.1 91 = .ok (.iload_n 2, 1) := dq_get dd_P_fewest_32 (i := 23) rfl
theorem d_P_fewest_92 : decode mP_fewest.2.1 92 = .ok (.aload_n 0, 1) := dq_get dd_P_fewest_32 (i := 24) rfl
theorem d_P_fewest_93 : decode mP_fewest.2.1 93 = .ok (.getfield 9, 3) := dq_get dd_P_fewest_32 (i := 25) rfl
theorem d_P_fewest_96 : decode mP_fewest.2.1 96 = .ok (.iload_n 3, 1) := dq_get dd_P_fewest_32 (i := 26) rfl
theorem d_P_fewest_97 : decode mP_fewest.2.1 97 = .ok (.iaload, 1) := dq_get dd_P_fewest_32 (i := 27) rfl
theorem d_P_fewest_98 : decode mP_fewest.2.1 98 = .ok (.invokestatic 29, 3) := dq_get dd_P_fewest_32 (i := 28) rfl
theorem d_P_fewest_101 : decode mP_fewest.2.1 101 = .ok (.istore_n 2, 1) := dq_get dd_P_fewest_32 (i := 29) rfl
theorem d_P_fewest_102 : decode mP_fewest.2.1 102 = .ok (.iinc 3 1, 3) := dq_get dd_P_fewest_32 (i := 30) rfl
theorem d_P_fewest_105 : decode mP_fewest.2.1 105 = .ok (.goto (-22), 3) := dq_get dd_P_fewest_32 (i := 31) rfl
theorem dd_P_fewest_64 : dq mP_fewest.2.1 [(108, .iload_n 2, 1), (109, .ireturn, 1)] = true := by decide +kernel
theorem d_P_fewest_108 : decode mP_fewest.2.1 108 = .ok (.iload_n 2, 1) := dq_get dd_P_fewest_64 (i := 0) rfl
theorem d_P_fewest_109 : decode mP_fewest.2.1 109 = .ok (.ireturn, 1) := dq_get dd_P_fewest_64 (i := 1) rfl
theorem dd_P_isFree_0 : dq mP_isFree.2.1 [(0, .aload_n 0, 1), (1, .iload_n 2, 1), (2, .iload_n 1, 1), (3, .iconst 1, 1), (4, .isub, 1), (5, .invokevirtual 33, 3), (8, .istore 4, 2), (10, .aload_n 0, 1), (11, .iload_n 3, 1), (12, .iload_n 1, 1), (13, .invokevirtual 33, 3), (16, .istore 5, 2), (18, .aload_n 0, 1), (19, .aload_n 0, 1), (20, .getfield 36, 3), (23, .aload_n 0, 1), (24, .getfield 39, 3), (27, .iload 4, 2), (29, .iload 5, 2), (31, .invokevirtual 42, 3), (34, .ifCond .ne 7, 3), (37, .iconst 1, 1), (38, .goto 4, 3), (41, .iconst 0, 1), (42, .ireturn, 1)] = true := by decide +kernel
theorem d_P_isFree_0 : decode mP_isFree.2.1 0 = .ok (.aload_n 0, 1) := dq_get dd_P_isFree_0 (i := 0) rfl
theorem d_P_isFree_1 : decode mP_isFree.2.1 1 = .ok (.iload_n 2, 1) := dq_get dd_P_isFree_0 (i := 1) rfl
theorem d_P_isFree_2 : decode mP_isFree.2.1 2 = .ok (.iload_n 1, 1) := dq_get dd_P_isFree_0 (i := 2) rfl
theorem d_P_isFree_3 : decode mP_isFree.2.1 3 = .ok (.iconst 1, 1) := dq_get dd_P_isFree_0 (i := 3) rfl
theorem d_P_isFree_4 : decode mP_isFree.2.1 4 = .ok (.isub, 1) := dq_get dd_P_isFree_0 (i := 4) rfl
theorem d_P_isFree_5 : decode mP_isFree.2.1 5 = .ok (.invokevirtual 33, 3) := dq_get dd_P_isFree_0 (i := 5) rfl
theorem d_P_isFree_8 : decode mP_isFree.2.1 8 = .ok (.istore 4, 2) := dq_get dd_P_isFree_0 (i := 6) rfl
theorem d_P_isFree_10 : decode mP_isFree.2.1 10 = .ok (.aload_n 0, 1) := dq_get dd_P_isFree_0 (i := 7) rfl
theorem d_P_isFree_11 : decode mP_isFree.2.1 11 = .ok (.iload_n 3, 1) := dq_get dd_P_isFree_0 (i := 8) rfl
theorem d_P_isFree_12 : decode mP_isFree.2.1 12 = .ok (.iload_n 1, 1) := dq_get dd_P_isFree_0 (i := 9) rfl
theorem d_P_isFree_13 : decode mP_isFree.2.1 13 = .ok (.invokevirtual 33, 3) := dq_get dd_P_isFree_0 (i := 10) rfl
theorem d_P_isFree_16 : decode mP_isFree.2.1 16 = .ok (.istore 5, 2) := dq_get dd_P_isFree_0 (i := 11) rfl
theorem d_P_isFree_18 : decode mP_isFree.2.1 18 = .ok (.aload_n 0, 1) := dq_get dd_P_isFree_0 (i := 12) rfl
theorem d_P_isFree_19 : decode mP_isFree.2.1 19 = .ok (.aload_n 0, 1) := dq_get dd_P_isFree_0 (i := 13) rfl
theorem d_P_isFree_20 : decode mP_isFree.2.1 20 = .ok (.getfield 36, 3) := dq_get dd_P_isFree_0 (i := 14) rfl
theorem d_P_isFree_23 : decode mP_isFree.2.1 23 = .ok (.aload_n 0, 1) := dq_get dd_P_isFree_0 (i := 15) rfl
theorem d_P_isFree_24 : decode mP_isFree.2.1 24 = .ok (.getfield 39, 3) := dq_get dd_P_isFree_0 (i := 16) rfl
theorem d_P_isFree_27 : decode mP_isFree.2.1 27 = .ok (.iload 4, 2) := dq_get dd_P_isFree_0 (i := 17) rfl
theorem d_P_isFree_29 : decode mP_isFree.2.1 29 = .ok (.iload 5, 2) := dq_get dd_P_isFree_0 (i := 18) rfl
theorem d_P_isFree_31 : decode mP_isFree.2.1 31 = .ok (.invokevirtual 42, 3) := dq_get dd_P_isFree_0 (i := 19) rfl
theorem d_P_isFree_34 : decode mP_isFree.2.1 34 = .ok (.ifCond .ne 7, 3) := dq_get dd_P_isFree_0 (i := 20) rfl
theorem d_P_isFree_37 : decode mP_isFree.2.1 37 = .ok (.iconst 1, 1) := dq_get dd_P_isFree_0 (i := 21) rfl
theorem d_P_isFree_38 : decode mP_isFree.2.1 38 = .ok (.goto 4, 3) := dq_get dd_P_isFree_0 (i := 22) rfl
theorem d_P_isFree_41 : decode mP_isFree.2.1 41 = .ok (.iconst 0, 1) := dq_get dd_P_isFree_0 (i := 23) rfl
theorem d_P_isFree_42 : decode mP_isFree.2.1 42 = .ok (.ireturn, 1) := dq_get dd_P_isFree_0 (i := 24) rfl
theorem dd_P_bestWithPedalAt_0 : dq mP_bestWithPedalAt.2.1 [(0, .iconst (-1), 1), (1, .istore_n 3, 1), (2, .iconst 0, 1), (3, .istore 4, 2), (5, .iload 4, 2), (7, .iload_n 2, 1), (8, .if_icmp .ge 47, 3), (11, .aload_n 0, 1), (12, .getfield 9, 3), (15, .iload 4, 2), (17, .iaload, 1), (18, .iconst (-1), 1), (19, .if_icmp .eq 30, 3), (22, .aload_n 1, 1), (23, .iload_n 2, 1), (24, .iload 4, 2), (26, .iload_n 2, 1), (27, .invokestatic 15, 3), (30, .ifCond .eq 19, 3), (33, .iload_n 3, 1), (34, .aload_n 0, 1), (35, .getfield 9, 3), (38, .iload 4, 2), (40, .iaload, 1), (41, .iconst 1, 1), (42, .iload_n 2, 1), (43, .ishl, 1), (44, .ior, 1), (45, .invokestatic 29, 3), (48, .istore_n 3, 1), (49, .iinc 4 1, 3), (52, .goto (-47), 3)] = true := by decide +kernel
theorem d_P_bestWithPedalAt_0 : decode mP_bestWithPedalAt.2.1 0 = .ok (.iconst (-1), 1) := dq_get dd_P_bestWithPedalAt_0 (i := 0) rfl
theorem d_P_bestWithPedalAt_1 : decode mP_bestWithPedalAt.2.1 1 = .ok (.istore_n 3, 1) := dq_get dd_P_bestWithPedalAt_0 (i := 1) rfl
theorem d_P_bestWithPedalAt_2 : decode mP_bestWithPedalAt.2.1 2 = .ok (.iconst 0, 1) := dq_get dd_P_bestWithPedalAt_0 (i := 2) rfl
theorem d_P_bestWithPedalAt_3 : decode mP_bestWithPedalAt.2.1 3 = .ok (.istore 4, 2) := dq_get dd_P_bestWithPedalAt_0 (i := 3) rfl
theorem d_P_bestWithPedalAt_5 : decode mP_bestWithPedalAt.2.1 5 = .ok (.iload 4, 2) := dq_get dd_P_bestWithPedalAt_0 (i := 4) rfl
theorem d_P_bestWithPedalAt_7 : decode mP_bestWithPedalAt.2.1 7 = .ok (.iload_n 2, 1) := dq_get dd_P_bestWithPedalAt_0 (i := 5) rfl
theorem d_P_bestWithPedalAt_8 : decode mP_bestWithPedalAt.2.1 8 = .ok (.if_icmp .ge 47, 3) := dq_get dd_P_bestWithPedalAt_0 (i := 6) rfl
theorem d_P_bestWithPedalAt_11 : decode mP_bestWithPedalAt.2.1 11 = .ok (.aload_n 0, 1) := dq_get dd_P_bestWithPedalAt_0 (i := 7) rfl
theorem d_P_bestWithPedalAt_12 : decode mP_bestWithPedalAt.2.1 12 = .ok (.getfield 9, 3) := dq_get dd_P_bestWithPedalAt_0 (i := 8) rfl
theorem d_P_bestWithPedalAt_15 : decode mP_bestWithPedalAt.2.1 15 = .ok (.iload 4, 2) := dq_get dd_P_bestWithPedalAt_0 (i := 9) rfl
theorem d_P_bestWithPedalAt_17 : decode mP_bestWithPedalAt.2.1 17 = .ok (.iaload, 1) := dq_get dd_P_bestWithPedalAt_0 (i := 10) rfl
theorem d_P_bestWithPedalAt_18 : decode mP_bestWithPedalAt.2.1 18 = .ok (.iconst (-1), 1) := dq_get dd_P_bestWithPedalAt_0 (i := 11) rfl
theorem d_P_bestWithPedalAt_19 : decode mP_bestWithPedalAt.2.1 19 = .ok (.if_icmp .eq 30, 3) := dq_get dd_P_bestWithPedalAt_0 (i := 12) rfl
theorem d_P_bestWithPedalAt_22 : decode mP_bestWithPedalAt.2.1 22 = .ok (.aload_n 1, 1) := dq_get dd_P_bestWithPedalAt_0 (i := 13) rfl
theorem d_P_bestWithPedalAt_23 : decode mP_bestWithPedalAt.2.1 23 = .ok (.iload_n 2, 1) := dq_get dd_P_bestWithPedalAt_0 (i := 14) rfl
theorem d_P_bestWithPedalAt_24 : decode mP_bestWithPedalAt.2.1 24 = .ok (.iload 4, 2) := dq_get dd_P_bestWithPedalAt_0 (i := 15) rfl
theorem d_P_bestWithPedalAt_26 : decode mP_bestWithPedalAt.2.1 26 = .ok (.iload_n 2, 1) := dq_get dd_P_bestWithPedalAt_0 (i := 16) rfl
theorem d_P_bestWithPedalAt_27 : decode mP_bestWithPedalAt.2.1 27 = .ok (.invokestatic 15, 3) := dq_get dd_P_bestWithPedalAt_0 (i := 17) rfl
theorem d_P_bestWithPedalAt_30 : decode mP_bestWithPedalAt.2.1 30 = .ok (.ifCond .eq 19, 3) := dq_get dd_P_bestWithPedalAt_0 (i := 18) rfl
theorem d_P_bestWithPedalAt_33 : decode mP_bestWithPedalAt.2.1 33 = .ok (.iload_n 3, 1) := dq_get dd_P_bestWithPedalAt_0 (i := 19) rfl
theorem d_P_bestWithPedalAt_34 : decode mP_bestWithPedalAt.2.1 34 = .ok (.aload_n 0, 1) := dq_get dd_P_bestWithPedalAt_0 (i := 20) rfl
theorem d_P_bestWithPedalAt_35 : decode mP_bestWithPedalAt.2.1 35 = .ok (.getfield 9, 3) := dq_get dd_P_bestWithPedalAt_0 (i := 21) rfl
theorem d_P_bestWithPedalAt_38 : decode mP_bestWithPedalAt.2.1 38 = .ok (.iload 4, 2) := dq_get dd_P_bestWithPedalAt_0 (i := 22) rfl
theorem d_P_bestWithPedalAt_40 : decode mP_bestWithPedalAt.2.1 40 = .ok (.iaload, 1) := dq_get dd_P_bestWithPedalAt_0 (i := 23) rfl
theorem d_P_bestWithPedalAt_41 : decode mP_bestWithPedalAt.2.1 41 = .ok (.iconst 1, 1) := dq_get dd_P_bestWithPedalAt_0 (i := 24) rfl
theorem d_P_bestWithPedalAt_42 : decode mP_bestWithPedalAt.2.1 42 = .ok (.iload_n 2, 1) := dq_get dd_P_bestWithPedalAt_0 (i := 25) rfl
theorem d_P_bestWithPedalAt_43 : decode mP_bestWithPedalAt.2.1 43 = .ok (.ishl, 1) := dq_get dd_P_bestWithPedalAt_0 (i := 26) rfl
theorem d_P_bestWithPedalAt_44 : decode mP_bestWithPedalAt.2.1 44 = .ok (.ior, 1) := dq_get dd_P_bestWithPedalAt_0 (i := 27) rfl
theorem d_P_bestWithPedalAt_45 : decode mP_bestWithPedalAt.2.1 45 = .ok (.invokestatic 29, 3) := dq_get dd_P_bestWithPedalAt_0 (i := 28) rfl
theorem d_P_bestWithPedalAt_48 : decode mP_bestWithPedalAt.2.1 48 = .ok (.istore_n 3, 1) := dq_get dd_P_bestWithPedalAt_0 (i := 29) rfl
theorem d_P_bestWithPedalAt_49 : decode mP_bestWithPedalAt.2.1 49 = .ok (.iinc 4 1, 3) := dq_get dd_P_bestWithPedalAt_0 (i := 30) rfl
theorem d_P_bestWithPedalAt_52 : decode mP_bestWithPedalAt.2.1 52 = .ok (.goto (-47), 3) := dq_get dd_P_bestWithPedalAt_0 (i := 31) rfl
theorem dd_P_bestWithPedalAt_32 : dq mP_bestWithPedalAt.2.1 [(55, .iload_n 3, 1), (56, .ireturn, 1)] = true := by decide +kernel
theorem d_P_bestWithPedalAt_55 : decode mP_bestWithPedalAt.2.1 55 = .ok (.iload_n 3, 1) := dq_get dd_P_bestWithPedalAt_32 (i := 0) rfl
theorem d_P_bestWithPedalAt_56 : decode mP_bestWithPedalAt.2.1 56 = .ok (.ireturn, 1) := dq_get dd_P_bestWithPedalAt_32 (i := 1) rfl
theorem dd_P_better_0 : dq mP_better.2.1 [(0, .iload_n 0, 1), (1, .iconst (-1), 1), (2, .if_icmp .eq 8, 3), (5, .iload_n 1, 1), (6, .iconst (-1), 1), (7, .if_icmp .ne 14, 3), (10, .iload_n 0, 1), (11, .iconst (-1), 1), (12, .if_icmp .ne 7, 3), (15, .iload_n 1, 1), (16, .goto 4, 3), (19, .iload_n 0, 1), (20, .ireturn, 1), (21, .iload_n 0, 1), (22, .invokestatic 46, 3), (25, .iload_n 1, 1), (26, .invokestatic 46, 3), (29, .isub, 1), (30, .istore_n 2, 1), (31, .iload_n 2, 1), (32, .ifCond .lt 12, 3), (35, .iload_n 2, 1), (36, .ifCond .ne 12, 3), (39, .iload_n 0, 1), (40, .iload_n 1, 1), (41, .if_icmp .ge 7, 3), (44, .iload_n 0, 1), (45, .goto 4, 3), (48, .iload_n 1, 1), (49, .ireturn, 1)] = true := by decide +kernel
theorem d_P_better_0 : decode mP_better.2.1 0 = .ok (.iload_n 0, 1) := dq_get dd_P_better_0 (i := 0) rfl
theorem d_P_better_1 : decode mP_better.2.1 1 = .ok (.iconst (-1), 1) := dq_get dd_P_better_0 (i := 1) rfl
theorem d_P_better_2 : decode mP_better.2.1 2 = .ok (.if_icmp .eq 8, 3) := dq_get dd_P_better_0 (i := 2) rfl
theorem d_P_better_5 : decode mP_better.2.1 5 = .ok (.iload_n 1, 1) := dq_get dd_P_better_0 (i := 3) rfl
theorem d_P_better_6 : decode mP_better.2.1 6 = .ok (.iconst (-1), 1) := dq_get dd_P_better_0 (i := 4) rfl
theorem d_P_better_7 : decode mP_better.2.1 7 = .ok (.if_icmp .ne 14, 3) := dq_get dd_P_better_0 (i := 5) rfl
theorem d_P_better_10 : decode mP_better.2.1 10 = .ok (.iload_n 0, 1) := dq_get dd_P_better_0 (i := 6) rfl
theorem d_P_better_11 : decode mP_better.2.1 11 = .ok (.iconst (-1), 1) := dq_get dd_P_better_0 (i := 7) rfl
theorem d_P_better_12 : decode mP_better.2.1 12 = .ok (.if_icmp .ne 7, 3) := dq_get dd_P_better_0 (i := 8) rfl
theorem d_P_better_15 : decode mP_better.2.1 15 = .ok (.iload_n 1, 1) := dq_get dd_P_better_0 (i := 9) rfl
theorem d_P_better_16 : decode mP_better.2.1 16 = .ok (.goto 4, 3) := dq_get dd_P_better_0 (i := 10) rfl
theorem d_P_better_19 : decode mP_better.2.1 19 = .ok (.iload_n 0, 1) := dq_get dd_P_better_0 (i := 11) rfl
theorem d_P_better_20 : decode mP_better.2.1 20 = .ok (.ireturn, 1) := dq_get dd_P_better_0 (i := 12) rfl
theorem d_P_better_21 : decode mP_better.2.1 21 = .ok (.iload_n 0, 1) := dq_get dd_P_better_0 (i := 13) rfl
theorem d_P_better_22 : decode mP_better.2.1 22 = .ok (.invokestatic 46, 3) := dq_get dd_P_better_0 (i := 14) rfl
theorem d_P_better_25 : decode mP_better.2.1 25 = .ok (.iload_n 1, 1) := dq_get dd_P_better_0 (i := 15) rfl
theorem d_P_better_26 : decode mP_better.2.1 26 = .ok (.invokestatic 46, 3) := dq_get dd_P_better_0 (i := 16) rfl
theorem d_P_better_29 : decode mP_better.2.1 29 = .ok (.isub, 1) := dq_get dd_P_better_0 (i := 17) rfl
theorem d_P_better_30 : decode mP_better.2.1 30 = .ok (.istore_n 2, 1) := dq_get dd_P_better_0 (i := 18) rfl
theorem d_P_better_31 : decode mP_better.2.1 31 = .ok (.iload_n 2, 1) := dq_get dd_P_better_0 (i := 19) rfl
theorem d_P_better_32 : decode mP_better.2.1 32 = .ok (.ifCond .lt 12, 3) := dq_get dd_P_better_0 (i := 20) rfl
theorem d_P_better_35 : decode mP_better.2.1 35 = .ok (.iload_n 2, 1) := dq_get dd_P_better_0 (i := 21) rfl
theorem d_P_better_36 : decode mP_better.2.1 36 = .ok (.ifCond .ne 12, 3) := dq_get dd_P_better_0 (i := 22) rfl
theorem d_P_better_39 : decode mP_better.2.1 39 = .ok (.iload_n 0, 1) := dq_get dd_P_better_0 (i := 23) rfl
theorem d_P_better_40 : decode mP_better.2.1 40 = .ok (.iload_n 1, 1) := dq_get dd_P_better_0 (i := 24) rfl
theorem d_P_better_41 : decode mP_better.2.1 41 = .ok (.if_icmp .ge 7, 3) := dq_get dd_P_better_0 (i := 25) rfl
theorem d_P_better_44 : decode mP_better.2.1 44 = .ok (.iload_n 0, 1) := dq_get dd_P_better_0 (i := 26) rfl
theorem d_P_better_45 : decode mP_better.2.1 45 = .ok (.goto 4, 3) := dq_get dd_P_better_0 (i := 27) rfl
theorem d_P_better_48 : decode mP_better.2.1 48 = .ok (.iload_n 1, 1) := dq_get dd_P_better_0 (i := 28) rfl
theorem d_P_better_49 : decode mP_better.2.1 49 = .ok (.ireturn, 1) := dq_get dd_P_better_0 (i := 29) rfl
theorem dd_K_width_0 : dq mK_width.2.1 [(0, .iload_n 1, 1), (1, .ifCond .ne 7, 3), (4, .iconst 0, 1), (5, .goto 14, 3), (8, .aload_n 0, 1), (9, .iload_n 1, 1), (10, .invokevirtual 78, 3), (13, .aload_n 0, 1), (14, .iload_n 1, 1), (15, .invokevirtual 81, 3), (18, .isub, 1), (19, .ireturn, 1)] = true := by decide +kernel
theorem d_K_width_0 : decode mK_width.2.1 0 = .ok (.iload_n 1, 1) := dq_get dd_K_width_0 (i := 0) rfl
theorem d_K_width_1 : decode mK_width.2.1 1 = .ok (.ifCond .ne 7, 3) := dq_get dd_K_width_0 (i := 1) rfl
theorem d_K_width_4 : decode mK_width.2.1 4 = .ok (.iconst 0, 1) := dq_get dd_K_width_0 (i := 2) rfl
theorem d_K_width_5 : decode mK_width.2.1 5 = .ok (.goto 14, 3) := dq_get dd_K_width_0 (i := 3) rfl
theorem d_K_width_8 : decode mK_width.2.1 8 = .ok (.aload_n 0, 1) := dq_get dd_K_width_0 (i := 4) rfl
theorem d_K_width_9 : decode mK_width.2.1 9 = .ok (.iload_n 1, 1) := dq_get dd_K_width_0 (i := 5) rfl
theorem d_K_width_10 : decode mK_width.2.1 10 = .ok (.invokevirtual 78, 3) := dq_get dd_K_width_0 (i := 6) rfl
theorem d_K_width_13 : decode mK_width.2.1 13 = .ok (.aload_n 0, 1) := dq_get dd_K_width_0 (i := 7) rfl
theorem d_K_width_14 : decode mK_width.2.1 14 = .ok (.iload_n 1, 1) := dq_get dd_K_width_0 (i := 8) rfl
theorem d_K_width_15 : decode mK_width.2.1 15 = .ok (.invokevirtual 81, 3) := dq_get dd_K_width_0 (i := 9) rfl
theorem d_K_width_18 : decode mK_width.2.1 18 = .ok (.isub, 1) := dq_get dd_K_width_0 (i := 10) rfl
theorem d_K_width_19 : decode mK_width.2.1 19 = .ok (.ireturn, 1) := dq_get dd_K_width_0 (i := 11) rfl
theorem dd_K_blurredAt_0 : dq mK_blurredAt.2.1 [(0, .aload_n 0, 1), (1, .iload_n 1, 1), (2, .invokevirtual 115, 3), (5, .istore_n 2, 1), (6, .aload_n 0, 1), (7, .iload_n 1, 1), (8, .invokevirtual 75, 3), (11, .istore_n 3, 1), (12, .iconst 0, 1), (13, .istore 4, 2), (15, .iconst 1, 1), (16, .istore 5, 2), (18, .iload 5, 2), (20, .aload_n 0, 1), (21, .getfield 34, 3), (24, .if_icmp .ge 101, 3), (27, .iconst 0, 1), (28, .istore 6, 2), (30, .iload 6, 2), (32, .iload 5, 2), (34, .if_icmp .ge 85, 3), (37, .iconst 1, 1), (38, .iload 5, 2), (40, .ishl, 1), (41, .iconst 1, 1), (42, .iload 6, 2), (44, .ishl, 1), (45, .ior, 1), (46, .istore 7, 2), (48, .aload_n 0, 1), (49, .getfield 9, 3), (52, .iload 5, 2)] = true := by decide +kernel
theorem d_K_blurredAt_0 : decode mK_blurredAt.2.1 0 = .ok (.aload_n 0, 1) := dq_get dd_K_blurredAt_0 (i := 0) rfl
theorem d_K_blurredAt_1 : decode mK_blurredAt.2.1 1 = .ok (.iload_n 1, 1) := dq_get dd_K_blurredAt_0 (i := 1) rfl
theorem d_K_blurredAt_2 : decode mK_blurredAt.2.1 2 = .ok (.invokevirtual 115, 3) := dq_get dd_K_blurredAt_0 (i := 2) rfl
theorem d_K_blurredAt_5 : decode mK_blurredAt.2.1 5 = .ok (.istore_n 2, 1) := dq_get dd_K_blurredAt_0 (i := 3) rfl
theorem d_K_blurredAt_6 : decode mK_blurredAt.2.1 6 = .ok (.aload_n 0, 1) := dq_get dd_K_blurredAt_0 (i := 4) rfl
theorem d_K_blurredAt_7 : decode mK_blurredAt.2.1 7 = .ok (.iload_n 1, 1) := dq_get dd_K_blurredAt_0 (i := 5) rfl
theorem d_K_blurredAt_8 : decode mK_blurredAt.2.1 8 = .ok (.invokevirtual 75, 3) := dq_get dd_K_blurredAt_0 (i := 6) rfl
theorem d_K_blurredAt_11 : decode mK_blurredAt.2.1 11 = .ok (.istore_n 3, 1) := dq_get dd_K_blurredAt_0 (i := 7) rfl
theorem d_K_blurredAt_12 : decode mK_blurredAt.2.1 12 = .ok (.iconst 0, 1) := dq_get dd_K_blurredAt_0 (i := 8) rfl
theorem d_K_blurredAt_13 : decode mK_blurredAt.2.1 13 = .ok (.istore 4, 2) := dq_get dd_K_blurredAt_0 (i := 9) rfl
theorem d_K_blurredAt_15 : decode mK_blurredAt.2.1 15 = .ok (.iconst 1, 1) := dq_get dd_K_blurredAt_0 (i := 10) rfl
theorem d_K_blurredAt_16 : decode mK_blurredAt.2.1 16 = .ok (.istore 5, 2) := dq_get dd_K_blurredAt_0 (i := 11) rfl
theorem d_K_blurredAt_18 : decode mK_blurredAt.2.1 18 = .ok (.iload 5, 2) := dq_get dd_K_blurredAt_0 (i := 12) rfl
theorem d_K_blurredAt_20 : decode mK_blurredAt.2.1 20 = .ok (.aload_n 0, 1) := dq_get dd_K_blurredAt_0 (i := 13) rfl
theorem d_K_blurredAt_21 : decode mK_blurredAt.2.1 21 = .ok (.getfield 34, 3) := dq_get dd_K_blurredAt_0 (i := 14) rfl
theorem d_K_blurredAt_24 : decode mK_blurredAt.2.1 24 = .ok (.if_icmp .ge 101, 3) := dq_get dd_K_blurredAt_0 (i := 15) rfl
theorem d_K_blurredAt_27 : decode mK_blurredAt.2.1 27 = .ok (.iconst 0, 1) := dq_get dd_K_blurredAt_0 (i := 16) rfl
theorem d_K_blurredAt_28 : decode mK_blurredAt.2.1 28 = .ok (.istore 6, 2) := dq_get dd_K_blurredAt_0 (i := 17) rfl
theorem d_K_blurredAt_30 : decode mK_blurredAt.2.1 30 = .ok (.iload 6, 2) := dq_get dd_K_blurredAt_0 (i := 18) rfl
theorem d_K_blurredAt_32 : decode mK_blurredAt.2.1 32 = .ok (.iload 5, 2) := dq_get dd_K_blurredAt_0 (i := 19) rfl
theorem d_K_blurredAt_34 : decode mK_blurredAt.2.1 34 = .ok (.if_icmp .ge 85, 3) := dq_get dd_K_blurredAt_0 (i := 20) rfl
theorem d_K_blurredAt_37 : decode mK_blurredAt.2.1 37 = .ok (.iconst 1, 1) := dq_get dd_K_blurredAt_0 (i := 21) rfl
theorem d_K_blurredAt_38 : decode mK_blurredAt.2.1 38 = .ok (.iload 5, 2) := dq_get dd_K_blurredAt_0 (i := 22) rfl
theorem d_K_blurredAt_40 : decode mK_blurredAt.2.1 40 = .ok (.ishl, 1) := dq_get dd_K_blurredAt_0 (i := 23) rfl
theorem d_K_blurredAt_41 : decode mK_blurredAt.2.1 41 = .ok (.iconst 1, 1) := dq_get dd_K_blurredAt_0 (i := 24) rfl
theorem d_K_blurredAt_42 : decode mK_blurredAt.2.1 42 = .ok (.iload 6, 2) := dq_get dd_K_blurredAt_0 (i := 25) rfl
theorem d_K_blurredAt_44 : decode mK_blurredAt.2.1 44 = .ok (.ishl, 1) := dq_get dd_K_blurredAt_0 (i := 26) rfl
theorem d_K_blurredAt_45 : decode mK_blurredAt.2.1 45 = .ok (.ior, 1) := dq_get dd_K_blurredAt_0 (i := 27) rfl
theorem d_K_blurredAt_46 : decode mK_blurredAt.2.1 46 = .ok (.istore 7, 2) := dq_get dd_K_blurredAt_0 (i := 28) rfl
theorem d_K_blurredAt_48 : decode mK_blurredAt.2.1 48 = .ok (.aload_n 0, 1) := dq_get dd_K_blurredAt_0 (i := 29) rfl
theorem d_K_blurredAt_49 : decode mK_blurredAt.2.1 49 = .ok (.getfield 9, 3) := dq_get dd_K_blurredAt_0 (i := 30) rfl
theorem d_K_blurredAt_52 : decode mK_blurredAt.2.1 52 = .ok (.iload 5, 2) := dq_get dd_K_blurredAt_0 (i := 31) rfl
theorem dd_K_blurredAt_32 : dq mK_blurredAt.2.1 [(54, .iaload, 1), (55, .aload_n 0, 1), (56, .getfield 9, 3), (59, .iload 6, 2), (61, .iaload, 1), (62, .isub, 1), (63, .invokestatic 84, 3), (66, .istore 8, 2), (68, .iload 8, 2), (70, .iconst 1, 1), (71, .if_icmp .eq 9, 3), (74, .iload 8, 2), (76, .iconst 2, 1), (77, .if_icmp .ne 7, 3), (80, .iconst 1, 1), (81, .goto 4, 3), (84, .iconst 0, 1), (85, .istore 9, 2), (87, .iload 9, 2), (89, .ifCond .eq 24, 3), (92, .iload_n 2, 1), (93, .iload 7, 2), (95, .iand, 1), (96, .iload 7, 2), (98, .if_icmp .ne 15, 3), (101, .iload_n 3, 1), (102, .iload 7, 2), (104, .iand, 1), (105, .iload 7, 2), (107, .if_icmp .eq 6, 3), (110, .iinc 4 1, 3), (113, .iinc 6 1, 3)] = true := by decide +kernel
theorem d_K_blurredAt_54 : decode mK_blurredAt.2.1 54 = .ok (.iaload, 1) := dq_get dd_K_blurredAt_32 (i := 0) rfl
theorem d_K_blurredAt_55 : decode mK_blurredAt.2.1 55 = .ok (.aload_n 0, 1) := dq_get dd_K_blurredAt_32 (i := 1) rfl
theorem d_K_blurredAt_56 : decode mK_blurredAt.2.1 56 = .ok (.getfield 9, 3) := dq_get dd_K_blurredAt_32 (i := 2) rfl
theorem d_K_blurredAt_59 : decode mK_blurredAt.2.1 59 = .ok (.iload 6, 2) := dq_get dd_K_blurredAt_32 (i := 3) rfl
theorem d_K_blurredAt_61 : decode mK_blurredAt.2.1 61 = .ok (.iaload, 1) := dq_get dd_K_blurredAt_32 (i := 4) rfl
theorem d_K_blurredAt_62 : decode mK_blurredAt.2.1 62 = .ok (.isub, 1) := dq_get dd_K_blurredAt_32 (i := 5) rfl
theorem d_K_blurredAt_63 : decode mK_blurredAt.2.1 63 = .ok (.invokestatic 84, 3) := dq_get dd_K_blurredAt_32 (i := 6) rfl
theorem d_K_blurredAt_66 : decode mK_blurredAt.2.1 66 = .ok (.istore 8, 2) := dq_get dd_K_blurredAt_32 (i := 7) rfl
theorem d_K_blurredAt_68 : decode mK_blurredAt.2.1 68 = .ok (.iload 8, 2) := dq_get dd_K_blurredAt_32 (i := 8) rfl
theorem d_K_blurredAt_70 : decode mK_blurredAt.2.1 70 = .ok (.iconst 1, 1) := dq_get dd_K_blurredAt_32 (i := 9) rfl
theorem d_K_blurredAt_71 : decode mK_blurredAt.2.1 71 = .ok (.if_icmp .eq 9, 3) := dq_get dd_K_blurredAt_32 (i := 10) rfl
theorem d_K_blurredAt_74 : decode mK_blurredAt.2.1 74 = .ok (.iload 8, 2) := dq_get dd_K_blurredAt_32 (i := 11) rfl
theorem d_K_blurredAt_76 : decode mK_blurredAt.2.1 76 = .ok (.iconst 2, 1) := dq_get dd_K_blurredAt_32 (i := 12) rfl
theorem d_K_blurredAt_77 : decode mK_blurredAt.2.1 77 = .ok (.if_icmp .ne 7, 3) := dq_get dd_K_blurredAt_32 (i := 13) rfl
theorem d_K_blurredAt_80 : decode mK_blurredAt.2.1 80 = .ok (.iconst 1, 1) := dq_get dd_K_blurredAt_32 (i := 14) rfl
theorem d_K_blurredAt_81 : decode mK_blurredAt.2.1 81 = .ok (.goto 4, 3) := dq_get dd_K_blurredAt_32 (i := 15) rfl
theorem d_K_blurredAt_84 : decode mK_blurredAt.2.1 84 = .ok (.iconst 0, 1) := dq_get dd_K_blurredAt_32 (i := 16) rfl
theorem d_K_blurredAt_85 : decode mK_blurredAt.2.1 85 = .ok (.istore 9, 2) := dq_get dd_K_blurredAt_32 (i := 17) rfl
theorem d_K_blurredAt_87 : decode mK_blurredAt.2.1 87 = .ok (.iload 9, 2) := dq_get dd_K_blurredAt_32 (i := 18) rfl
theorem d_K_blurredAt_89 : decode mK_blurredAt.2.1 89 = .ok (.ifCond .eq 24, 3) := dq_get dd_K_blurredAt_32 (i := 19) rfl
theorem d_K_blurredAt_92 : decode mK_blurredAt.2.1 92 = .ok (.iload_n 2, 1) := dq_get dd_K_blurredAt_32 (i := 20) rfl
theorem d_K_blurredAt_93 : decode mK_blurredAt.2.1 93 = .ok (.iload 7, 2) := dq_get dd_K_blurredAt_32 (i := 21) rfl
theorem d_K_blurredAt_95 : decode mK_blurredAt.2.1 95 = .ok (.iand, 1) := dq_get dd_K_blurredAt_32 (i := 22) rfl
theorem d_K_blurredAt_96 : decode mK_blurredAt.2.1 96 = .ok (.iload 7, 2) := dq_get dd_K_blurredAt_32 (i := 23) rfl
theorem d_K_blurredAt_98 : decode mK_blurredAt.2.1 98 = .ok (.if_icmp .ne 15, 3) := dq_get dd_K_blurredAt_32 (i := 24) rfl
theorem d_K_blurredAt_101 : decode mK_blurredAt.2.1 101 = .ok (.iload_n 3, 1) := dq_get dd_K_blurredAt_32 (i := 25) rfl
theorem d_K_blurredAt_102 : decode mK_blurredAt.2.1 102 = .ok (.iload 7, 2) := dq_get dd_K_blurredAt_32 (i := 26) rfl
theorem d_K_blurredAt_104 : decode mK_blurredAt.2.1 104 = .ok (.iand, 1) := dq_get dd_K_blurredAt_32 (i := 27) rfl
theorem d_K_blurredAt_105 : decode mK_blurredAt.2.1 105 = .ok (.iload 7, 2) := dq_get dd_K_blurredAt_32 (i := 28) rfl
theorem d_K_blurredAt_107 : decode mK_blurredAt.2.1 107 = .ok (.if_icmp .eq 6, 3) := dq_get dd_K_blurredAt_32 (i := 29) rfl
theorem d_K_blurredAt_110 : decode mK_blurredAt.2.1 110 = .ok (.iinc 4 1, 3) := dq_get dd_K_blurredAt_32 (i := 30) rfl
theorem d_K_blurredAt_113 : decode mK_blurredAt.2.1 113 = .ok (.iinc 6 1, 3) := dq_get dd_K_blurredAt_32 (i := 31) rfl
theorem dd_K_blurredAt_64 : dq mK_blurredAt.2.1 [(116, .goto (-86), 3), (119, .iinc 5 1, 3), (122, .goto (-104), 3), (125, .iload 4, 2), (127, .ireturn, 1)] = true := by decide +kernel
theorem d_K_blurredAt_116 : decode mK_blurredAt.2.1 116 = .ok (.goto (-86), 3) := dq_get dd_K_blurredAt_64 (i := 0) rfl
theorem d_K_blurredAt_119 : decode mK_blurredAt.2.1 119 = .ok (.iinc 5 1, 3) := dq_get dd_K_blurredAt_64 (i := 1) rfl
theorem d_K_blurredAt_122 : decode mK_blurredAt.2.1 122 = .ok (.goto (-104), 3) := dq_get dd_K_blurredAt_64 (i := 2) rfl
theorem d_K_blurredAt_125 : decode mK_blurredAt.2.1 125 = .ok (.iload 4, 2) := dq_get dd_K_blurredAt_64 (i := 3) rfl
theorem d_K_blurredAt_127 : decode mK_blurredAt.2.1 127 = .ok (.ireturn, 1) := dq_get dd_K_blurredAt_64 (i := 4) rfl
theorem dd_K_fullestBeat_0 : dq mK_fullestBeat.2.1 [(0, .iconst 0, 1), (1, .istore_n 2, 1), (2, .iconst 0, 1), (3, .istore_n 3, 1), (4, .iconst 0, 1), (5, .istore 4, 2), (7, .iload 4, 2), (9, .aload_n 0, 1), (10, .getfield 30, 3), (13, .if_icmp .ge 34, 3), (16, .iload_n 1, 1), (17, .aload_n 0, 1), (18, .iload 4, 2), (20, .invokevirtual 75, 3), (23, .iand, 1), (24, .invokestatic 89, 3), (27, .istore 5, 2), (29, .iload 5, 2), (31, .iload_n 3, 1), (32, .if_icmp .le 9, 3), (35, .iload 5, 2), (37, .istore_n 3, 1), (38, .iload 4, 2), (40, .istore_n 2, 1), (41, .iinc 4 1, 3), (44, .goto (-37), 3), (47, .iload_n 2, 1), (48, .ireturn, 1)] = true := by decide +kernel
theorem d_K_fullestBeat_0 : decode mK_fullestBeat.2.1 0 = .ok (.iconst 0, 1) := dq_get dd_K_fullestBeat_0 (i := 0) rfl
theorem d_K_fullestBeat_1 : decode mK_fullestBeat.2.1 1 = .ok (.istore_n 2, 1) := dq_get dd_K_fullestBeat_0 (i := 1) rfl
theorem d_K_fullestBeat_2 : decode mK_fullestBeat.2.1 2 = .ok (.iconst 0, 1) := dq_get dd_K_fullestBeat_0 (i := 2) rfl
theorem d_K_fullestBeat_3 : decode mK_fullestBeat.2.1 3 = .ok (.istore_n 3, 1) := dq_get dd_K_fullestBeat_0 (i := 3) rfl
theorem d_K_fullestBeat_4 : decode mK_fullestBeat.2.1 4 = .ok (.iconst 0, 1) := dq_get dd_K_fullestBeat_0 (i := 4) rfl
theorem d_K_fullestBeat_5 : decode mK_fullestBeat.2.1 5 = .ok (.istore 4, 2) := dq_get dd_K_fullestBeat_0 (i := 5) rfl
theorem d_K_fullestBeat_7 : decode mK_fullestBeat.2.1 7 = .ok (.iload 4, 2) := dq_get dd_K_fullestBeat_0 (i := 6) rfl
theorem d_K_fullestBeat_9 : decode mK_fullestBeat.2.1 9 = .ok (.aload_n 0, 1) := dq_get dd_K_fullestBeat_0 (i := 7) rfl
theorem d_K_fullestBeat_10 : decode mK_fullestBeat.2.1 10 = .ok (.getfield 30, 3) := dq_get dd_K_fullestBeat_0 (i := 8) rfl
theorem d_K_fullestBeat_13 : decode mK_fullestBeat.2.1 13 = .ok (.if_icmp .ge 34, 3) := dq_get dd_K_fullestBeat_0 (i := 9) rfl
theorem d_K_fullestBeat_16 : decode mK_fullestBeat.2.1 16 = .ok (.iload_n 1, 1) := dq_get dd_K_fullestBeat_0 (i := 10) rfl
theorem d_K_fullestBeat_17 : decode mK_fullestBeat.2.1 17 = .ok (.aload_n 0, 1) := dq_get dd_K_fullestBeat_0 (i := 11) rfl
theorem d_K_fullestBeat_18 : decode mK_fullestBeat.2.1 18 = .ok (.iload 4, 2) := dq_get dd_K_fullestBeat_0 (i := 12) rfl
theorem d_K_fullestBeat_20 : decode mK_fullestBeat.2.1 20 = .ok (.invokevirtual 75, 3) := dq_get dd_K_fullestBeat_0 (i := 13) rfl
theorem d_K_fullestBeat_23 : decode mK_fullestBeat.2.1 23 = .ok (.iand, 1) := dq_get dd_K_fullestBeat_0 (i := 14) rfl
theorem d_K_fullestBeat_24 : decode mK_fullestBeat.2.1 24 = .ok (.invokestatic 89, 3) := dq_get dd_K_fullestBeat_0 (i := 15) rfl
theorem d_K_fullestBeat_27 : decode mK_fullestBeat.2.1 27 = .ok (.istore 5, 2) := dq_get dd_K_fullestBeat_0 (i := 16) rfl
theorem d_K_fullestBeat_29 : decode mK_fullestBeat.2.1 29 = .ok (.iload 5, 2) := dq_get dd_K_fullestBeat_0 (i := 17) rfl
theorem d_K_fullestBeat_31 : decode mK_fullestBeat.2.1 31 = .ok (.iload_n 3, 1) := dq_get dd_K_fullestBeat_0 (i := 18) rfl
theorem d_K_fullestBeat_32 : decode mK_fullestBeat.2.1 32 = .ok (.if_icmp .le 9, 3) := dq_get dd_K_fullestBeat_0 (i := 19) rfl
theorem d_K_fullestBeat_35 : decode mK_fullestBeat.2.1 35 = .ok (.iload 5, 2) := dq_get dd_K_fullestBeat_0 (i := 20) rfl
theorem d_K_fullestBeat_37 : decode mK_fullestBeat.2.1 37 = .ok (.istore_n 3, 1) := dq_get dd_K_fullestBeat_0 (i := 21) rfl
theorem d_K_fullestBeat_38 : decode mK_fullestBeat.2.1 38 = .ok (.iload 4, 2) := dq_get dd_K_fullestBeat_0 (i := 22) rfl
theorem d_K_fullestBeat_40 : decode mK_fullestBeat.2.1 40 = .ok (.istore_n 2, 1) := dq_get dd_K_fullestBeat_0 (i := 23) rfl
theorem d_K_fullestBeat_41 : decode mK_fullestBeat.2.1 41 = .ok (.iinc 4 1, 3) := dq_get dd_K_fullestBeat_0 (i := 24) rfl
theorem d_K_fullestBeat_44 : decode mK_fullestBeat.2.1 44 = .ok (.goto (-37), 3) := dq_get dd_K_fullestBeat_0 (i := 25) rfl
theorem d_K_fullestBeat_47 : decode mK_fullestBeat.2.1 47 = .ok (.iload_n 2, 1) := dq_get dd_K_fullestBeat_0 (i := 26) rfl
theorem d_K_fullestBeat_48 : decode mK_fullestBeat.2.1 48 = .ok (.ireturn, 1) := dq_get dd_K_fullestBeat_0 (i := 27) rfl
theorem dd_I_tell_0 : dq mI_tell.2.1 [(0, .aload_n 0, 1), (1, .getfield 34, 3), (4, .bipush 30, 2), (6, .if_icmp .lt 5, 3), (9, .iconst (-1), 1), (10, .ireturn, 1), (11, .aload_n 0, 1), (12, .getfield 15, 3), (15, .aload_n 0, 1), (16, .getfield 34, 3), (19, .iload_n 1, 1), (20, .iastore, 1), (21, .aload_n 0, 1), (22, .getfield 18, 3), (25, .aload_n 0, 1), (26, .getfield 34, 3), (29, .iload_n 2, 1), (30, .iastore, 1), (31, .aload_n 0, 1), (32, .getfield 21, 3), (35, .aload_n 0, 1), (36, .getfield 34, 3), (39, .iload_n 3, 1), (40, .bastore, 1), (41, .aload_n 0, 1), (42, .getfield 25, 3), (45, .aload_n 0, 1), (46, .getfield 34, 3), (49, .aload_n 0, 1), (50, .getfield 38, 3), (53, .iastore, 1), (54, .aload_n 0, 1)] = true := by decide +kernel
theorem d_I_tell_0 : decode mI_tell.2.1 0 = .ok (.aload_n 0, 1) := dq_get dd_I_tell_0 (i := 0) rfl
theorem d_I_tell_1 : decode mI_tell.2.1 1 = .ok (.getfield 34, 3) := dq_get dd_I_tell_0 (i := 1) rfl
theorem d_I_tell_4 : decode mI_tell.2.1 4 = .ok (.bipush 30, 2) := dq_get dd_I_tell_0 (i := 2) rfl
theorem d_I_tell_6 : decode mI_tell.2.1 6 = .ok (.if_icmp .lt 5, 3) := dq_get dd_I_tell_0 (i := 3) rfl
theorem d_I_tell_9 : decode mI_tell.2.1 9 = .ok (.iconst (-1), 1) := dq_get dd_I_tell_0 (i := 4) rfl
theorem d_I_tell_10 : decode mI_tell.2.1 10 = .ok (.ireturn, 1) := dq_get dd_I_tell_0 (i := 5) rfl
theorem d_I_tell_11 : decode mI_tell.2.1 11 = .ok (.aload_n 0, 1) := dq_get dd_I_tell_0 (i := 6) rfl
theorem d_I_tell_12 : decode mI_tell.2.1 12 = .ok (.getfield 15, 3) := dq_get dd_I_tell_0 (i := 7) rfl
theorem d_I_tell_15 : decode mI_tell.2.1 15 = .ok (.aload_n 0, 1) := dq_get dd_I_tell_0 (i := 8) rfl
theorem d_I_tell_16 : decode mI_tell.2.1 16 = .ok (.getfield 34, 3) := dq_get dd_I_tell_0 (i := 9) rfl
theorem d_I_tell_19 : decode mI_tell.2.1 19 = .ok (.iload_n 1, 1) := dq_get dd_I_tell_0 (i := 10) rfl
theorem d_I_tell_20 : decode mI_tell.2.1 20 = .ok (.iastore, 1) := dq_get dd_I_tell_0 (i := 11) rfl
theorem d_I_tell_21 : decode mI_tell.2.1 21 = .ok (.aload_n 0, 1) := dq_get dd_I_tell_0 (i := 12) rfl
theorem d_I_tell_22 : decode mI_tell.2.1 22 = .ok (.getfield 18, 3) := dq_get dd_I_tell_0 (i := 13) rfl
theorem d_I_tell_25 : decode mI_tell.2.1 25 = .ok (.aload_n 0, 1) := dq_get dd_I_tell_0 (i := 14) rfl
theorem d_I_tell_26 : decode mI_tell.2.1 26 = .ok (.getfield 34, 3) := dq_get dd_I_tell_0 (i := 15) rfl
theorem d_I_tell_29 : decode mI_tell.2.1 29 = .ok (.iload_n 2, 1) := dq_get dd_I_tell_0 (i := 16) rfl
theorem d_I_tell_30 : decode mI_tell.2.1 30 = .ok (.iastore, 1) := dq_get dd_I_tell_0 (i := 17) rfl
theorem d_I_tell_31 : decode mI_tell.2.1 31 = .ok (.aload_n 0, 1) := dq_get dd_I_tell_0 (i := 18) rfl
theorem d_I_tell_32 : decode mI_tell.2.1 32 = .ok (.getfield 21, 3) := dq_get dd_I_tell_0 (i := 19) rfl
theorem d_I_tell_35 : decode mI_tell.2.1 35 = .ok (.aload_n 0, 1) := dq_get dd_I_tell_0 (i := 20) rfl
theorem d_I_tell_36 : decode mI_tell.2.1 36 = .ok (.getfield 34, 3) := dq_get dd_I_tell_0 (i := 21) rfl
theorem d_I_tell_39 : decode mI_tell.2.1 39 = .ok (.iload_n 3, 1) := dq_get dd_I_tell_0 (i := 22) rfl
theorem d_I_tell_40 : decode mI_tell.2.1 40 = .ok (.bastore, 1) := dq_get dd_I_tell_0 (i := 23) rfl
theorem d_I_tell_41 : decode mI_tell.2.1 41 = .ok (.aload_n 0, 1) := dq_get dd_I_tell_0 (i := 24) rfl
theorem d_I_tell_42 : decode mI_tell.2.1 42 = .ok (.getfield 25, 3) := dq_get dd_I_tell_0 (i := 25) rfl
theorem d_I_tell_45 : decode mI_tell.2.1 45 = .ok (.aload_n 0, 1) := dq_get dd_I_tell_0 (i := 26) rfl
theorem d_I_tell_46 : decode mI_tell.2.1 46 = .ok (.getfield 34, 3) := dq_get dd_I_tell_0 (i := 27) rfl
theorem d_I_tell_49 : decode mI_tell.2.1 49 = .ok (.aload_n 0, 1) := dq_get dd_I_tell_0 (i := 28) rfl
theorem d_I_tell_50 : decode mI_tell.2.1 50 = .ok (.getfield 38, 3) := dq_get dd_I_tell_0 (i := 29) rfl
theorem d_I_tell_53 : decode mI_tell.2.1 53 = .ok (.iastore, 1) := dq_get dd_I_tell_0 (i := 30) rfl
theorem d_I_tell_54 : decode mI_tell.2.1 54 = .ok (.aload_n 0, 1) := dq_get dd_I_tell_0 (i := 31) rfl
theorem dd_I_tell_32 : dq mI_tell.2.1 [(55, .getfield 28, 3), (58, .aload_n 0, 1), (59, .getfield 34, 3), (62, .iconst (-1), 1), (63, .iastore, 1), (64, .aload_n 0, 1), (65, .dup, 1), (66, .getfield 34, 3), (69, .iconst 1, 1), (70, .iadd, 1), (71, .putfield 34, 3), (74, .aload_n 0, 1), (75, .getfield 34, 3), (78, .iconst 1, 1), (79, .isub, 1), (80, .ireturn, 1)] = true := by decide +kernel
theorem d_I_tell_55 : decode mI_tell.2.1 55 = .ok (.getfield 28, 3) := dq_get dd_I_tell_32 (i := 0) rfl
theorem d_I_tell_58 : decode mI_tell.2.1 58 = .ok (.aload_n 0, 1) := dq_get dd_I_tell_32 (i := 1) rfl
theorem d_I_tell_59 : decode mI_tell.2.1 59 = .ok (.getfield 34, 3) := dq_get dd_I_tell_32 (i := 2) rfl
theorem d_I_tell_62 : decode mI_tell.2.1 62 = .ok (.iconst (-1), 1) := dq_get dd_I_tell_32 (i := 3) rfl
theorem d_I_tell_63 : decode mI_tell.2.1 63 = .ok (.iastore, 1) := dq_get dd_I_tell_32 (i := 4) rfl
theorem d_I_tell_64 : decode mI_tell.2.1 64 = .ok (.aload_n 0, 1) := dq_get dd_I_tell_32 (i := 5) rfl
theorem d_I_tell_65 : decode mI_tell.2.1 65 = .ok (.dup, 1) := dq_get dd_I_tell_32 (i := 6) rfl
theorem d_I_tell_66 : decode mI_tell.2.1 66 = .ok (.getfield 34, 3) := dq_get dd_I_tell_32 (i := 7) rfl
theorem d_I_tell_69 : decode mI_tell.2.1 69 = .ok (.iconst 1, 1) := dq_get dd_I_tell_32 (i := 8) rfl
theorem d_I_tell_70 : decode mI_tell.2.1 70 = .ok (.iadd, 1) := dq_get dd_I_tell_32 (i := 9) rfl
theorem d_I_tell_71 : decode mI_tell.2.1 71 = .ok (.putfield 34, 3) := dq_get dd_I_tell_32 (i := 10) rfl
theorem d_I_tell_74 : decode mI_tell.2.1 74 = .ok (.aload_n 0, 1) := dq_get dd_I_tell_32 (i := 11) rfl
theorem d_I_tell_75 : decode mI_tell.2.1 75 = .ok (.getfield 34, 3) := dq_get dd_I_tell_32 (i := 12) rfl
theorem d_I_tell_78 : decode mI_tell.2.1 78 = .ok (.iconst 1, 1) := dq_get dd_I_tell_32 (i := 13) rfl
theorem d_I_tell_79 : decode mI_tell.2.1 79 = .ok (.isub, 1) := dq_get dd_I_tell_32 (i := 14) rfl
theorem d_I_tell_80 : decode mI_tell.2.1 80 = .ok (.ireturn, 1) := dq_get dd_I_tell_32 (i := 15) rfl
theorem dd_I_takeFromNowOn_0 : dq mI_takeFromNowOn.2.1 [(0, .iload_n 1, 1), (1, .ifCond .lt 21, 3), (4, .iload_n 1, 1), (5, .aload_n 0, 1), (6, .getfield 34, 3), (9, .if_icmp .ge 13, 3), (12, .aload_n 0, 1), (13, .getfield 28, 3), (16, .iload_n 1, 1), (17, .iaload, 1), (18, .iconst (-1), 1), (19, .if_icmp .eq 5, 3), (22, .iconst 0, 1), (23, .ireturn, 1), (24, .aload_n 0, 1), (25, .getfield 28, 3), (28, .iload_n 1, 1), (29, .aload_n 0, 1), (30, .getfield 38, 3), (33, .iastore, 1), (34, .iconst 1, 1), (35, .ireturn, 1)] = true := by decide +kernel
theorem d_I_takeFromNowOn_0 : decode mI_takeFromNowOn.2.1 0 = .ok (.iload_n 1, 1) := dq_get dd_I_takeFromNowOn_0 (i := 0) rfl
theorem d_I_takeFromNowOn_1 : decode mI_takeFromNowOn.2.1 1 = .ok (.ifCond .lt 21, 3) := dq_get dd_I_takeFromNowOn_0 (i := 1) rfl
theorem d_I_takeFromNowOn_4 : decode mI_takeFromNowOn.2.1 4 = .ok (.iload_n 1, 1) := dq_get dd_I_takeFromNowOn_0 (i := 2) rfl
theorem d_I_takeFromNowOn_5 : decode mI_takeFromNowOn.2.1 5 = .ok (.aload_n 0, 1) := dq_get dd_I_takeFromNowOn_0 (i := 3) rfl
theorem d_I_takeFromNowOn_6 : decode mI_takeFromNowOn.2.1 6 = .ok (.getfield 34, 3) := dq_get dd_I_takeFromNowOn_0 (i := 4) rfl
theorem d_I_takeFromNowOn_9 : decode mI_takeFromNowOn.2.1 9 = .ok (.if_icmp .ge 13, 3) := dq_get dd_I_takeFromNowOn_0 (i := 5) rfl
theorem d_I_takeFromNowOn_12 : decode mI_takeFromNowOn.2.1 12 = .ok (.aload_n 0, 1) := dq_get dd_I_takeFromNowOn_0 (i := 6) rfl
theorem d_I_takeFromNowOn_13 : decode mI_takeFromNowOn.2.1 13 = .ok (.getfield 28, 3) := dq_get dd_I_takeFromNowOn_0 (i := 7) rfl
theorem d_I_takeFromNowOn_16 : decode mI_takeFromNowOn.2.1 16 = .ok (.iload_n 1, 1) := dq_get dd_I_takeFromNowOn_0 (i := 8) rfl
theorem d_I_takeFromNowOn_17 : decode mI_takeFromNowOn.2.1 17 = .ok (.iaload, 1) := dq_get dd_I_takeFromNowOn_0 (i := 9) rfl
theorem d_I_takeFromNowOn_18 : decode mI_takeFromNowOn.2.1 18 = .ok (.iconst (-1), 1) := dq_get dd_I_takeFromNowOn_0 (i := 10) rfl
theorem d_I_takeFromNowOn_19 : decode mI_takeFromNowOn.2.1 19 = .ok (.if_icmp .eq 5, 3) := dq_get dd_I_takeFromNowOn_0 (i := 11) rfl
theorem d_I_takeFromNowOn_22 : decode mI_takeFromNowOn.2.1 22 = .ok (.iconst 0, 1) := dq_get dd_I_takeFromNowOn_0 (i := 12) rfl
theorem d_I_takeFromNowOn_23 : decode mI_takeFromNowOn.2.1 23 = .ok (.ireturn, 1) := dq_get dd_I_takeFromNowOn_0 (i := 13) rfl
theorem d_I_takeFromNowOn_24 : decode mI_takeFromNowOn.2.1 24 = .ok (.aload_n 0, 1) := dq_get dd_I_takeFromNowOn_0 (i := 14) rfl
theorem d_I_takeFromNowOn_25 : decode mI_takeFromNowOn.2.1 25 = .ok (.getfield 28, 3) := dq_get dd_I_takeFromNowOn_0 (i := 15) rfl
theorem d_I_takeFromNowOn_28 : decode mI_takeFromNowOn.2.1 28 = .ok (.iload_n 1, 1) := dq_get dd_I_takeFromNowOn_0 (i := 16) rfl
theorem d_I_takeFromNowOn_29 : decode mI_takeFromNowOn.2.1 29 = .ok (.aload_n 0, 1) := dq_get dd_I_takeFromNowOn_0 (i := 17) rfl
theorem d_I_takeFromNowOn_30 : decode mI_takeFromNowOn.2.1 30 = .ok (.getfield 38, 3) := dq_get dd_I_takeFromNowOn_0 (i := 18) rfl
theorem d_I_takeFromNowOn_33 : decode mI_takeFromNowOn.2.1 33 = .ok (.iastore, 1) := dq_get dd_I_takeFromNowOn_0 (i := 19) rfl
theorem d_I_takeFromNowOn_34 : decode mI_takeFromNowOn.2.1 34 = .ok (.iconst 1, 1) := dq_get dd_I_takeFromNowOn_0 (i := 20) rfl
theorem d_I_takeFromNowOn_35 : decode mI_takeFromNowOn.2.1 35 = .ok (.ireturn, 1) := dq_get dd_I_takeFromNowOn_0 (i := 21) rfl
theorem dd_I_goOn_0 : dq mI_goOn.2.1 [(0, .iload_n 1, 1), (1, .ifCond .lt 21, 3), (4, .iload_n 1, 1), (5, .sipush 1000, 3), (8, .if_icmp .gt 14, 3), (11, .aload_n 0, 1), (12, .getfield 38, 3), (15, .iload_n 1, 1), (16, .iadd, 1), (17, .ldc 41, 2), (19, .if_icmp .le 5, 3), (22, .iconst (-1), 1), (23, .ireturn, 1), (24, .aload_n 0, 1), (25, .dup, 1), (26, .getfield 38, 3), (29, .iload_n 1, 1), (30, .iadd, 1), (31, .putfield 38, 3), (34, .aload_n 0, 1), (35, .getfield 38, 3), (38, .ireturn, 1)] = true := by decide +kernel
theorem d_I_goOn_0 : decode mI_goOn.2.1 0 = .ok (.iload_n 1, 1) := dq_get dd_I_goOn_0 (i := 0) rfl
theorem d_I_goOn_1 : decode mI_goOn.2.1 1 = .ok (.ifCond .lt 21, 3) := dq_get dd_I_goOn_0 (i := 1) rfl
theorem d_I_goOn_4 : decode mI_goOn.2.1 4 = .ok (.iload_n 1, 1) := dq_get dd_I_goOn_0 (i := 2) rfl
theorem d_I_goOn_5 : decode mI_goOn.2.1 5 = .ok (.sipush 1000, 3) := dq_get dd_I_goOn_0 (i := 3) rfl
theorem d_I_goOn_8 : decode mI_goOn.2.1 8 = .ok (.if_icmp .gt 14, 3) := dq_get dd_I_goOn_0 (i := 4) rfl
theorem d_I_goOn_11 : decode mI_goOn.2.1 11 = .ok (.aload_n 0, 1) := dq_get dd_I_goOn_0 (i := 5) rfl
theorem d_I_goOn_12 : decode mI_goOn.2.1 12 = .ok (.getfield 38, 3) := dq_get dd_I_goOn_0 (i := 6) rfl
theorem d_I_goOn_15 : decode mI_goOn.2.1 15 = .ok (.iload_n 1, 1) := dq_get dd_I_goOn_0 (i := 7) rfl
theorem d_I_goOn_16 : decode mI_goOn.2.1 16 = .ok (.iadd, 1) := dq_get dd_I_goOn_0 (i := 8) rfl
theorem d_I_goOn_17 : decode mI_goOn.2.1 17 = .ok (.ldc 41, 2) := dq_get dd_I_goOn_0 (i := 9) rfl
theorem d_I_goOn_19 : decode mI_goOn.2.1 19 = .ok (.if_icmp .le 5, 3) := dq_get dd_I_goOn_0 (i := 10) rfl
theorem d_I_goOn_22 : decode mI_goOn.2.1 22 = .ok (.iconst (-1), 1) := dq_get dd_I_goOn_0 (i := 11) rfl
theorem d_I_goOn_23 : decode mI_goOn.2.1 23 = .ok (.ireturn, 1) := dq_get dd_I_goOn_0 (i := 12) rfl
theorem d_I_goOn_24 : decode mI_goOn.2.1 24 = .ok (.aload_n 0, 1) := dq_get dd_I_goOn_0 (i := 13) rfl
theorem d_I_goOn_25 : decode mI_goOn.2.1 25 = .ok (.dup, 1) := dq_get dd_I_goOn_0 (i := 14) rfl
theorem d_I_goOn_26 : decode mI_goOn.2.1 26 = .ok (.getfield 38, 3) := dq_get dd_I_goOn_0 (i := 15) rfl
theorem d_I_goOn_29 : decode mI_goOn.2.1 29 = .ok (.iload_n 1, 1) := dq_get dd_I_goOn_0 (i := 16) rfl
theorem d_I_goOn_30 : decode mI_goOn.2.1 30 = .ok (.iadd, 1) := dq_get dd_I_goOn_0 (i := 17) rfl
theorem d_I_goOn_31 : decode mI_goOn.2.1 31 = .ok (.putfield 38, 3) := dq_get dd_I_goOn_0 (i := 18) rfl
theorem d_I_goOn_34 : decode mI_goOn.2.1 34 = .ok (.aload_n 0, 1) := dq_get dd_I_goOn_0 (i := 19) rfl
theorem d_I_goOn_35 : decode mI_goOn.2.1 35 = .ok (.getfield 38, 3) := dq_get dd_I_goOn_0 (i := 20) rfl
theorem d_I_goOn_38 : decode mI_goOn.2.1 38 = .ok (.ireturn, 1) := dq_get dd_I_goOn_0 (i := 21) rfl
theorem dd_I_count_0 : dq mI_count.2.1 [(0, .aload_n 0, 1), (1, .aload_n 1, 1), (2, .iload_n 2, 1), (3, .invokevirtual 42, 3), (6, .aload_n 0, 1), (7, .iconst 0, 1), (8, .putfield 46, 3), (11, .iconst 0, 1), (12, .istore_n 3, 1), (13, .iload_n 3, 1), (14, .bipush 10, 2), (16, .if_icmp .ge 16, 3), (19, .aload_n 0, 1), (20, .getfield 9, 3), (23, .iload_n 3, 1), (24, .iconst 0, 1), (25, .iastore, 1), (26, .iinc 3 1, 3), (29, .goto (-16), 3), (32, .iconst 0, 1), (33, .istore_n 3, 1), (34, .iload_n 3, 1), (35, .iconst 1, 1), (36, .aload_n 1, 1), (37, .getfield 49, 3), (40, .ishl, 1), (41, .if_icmp .ge 22, 3), (44, .aload_n 0, 1), (45, .iload_n 3, 1), (46, .invokevirtual 54, 3), (49, .ifCond .eq 8, 3), (52, .aload_n 0, 1)] = true := by decide +kernel
theorem d_I_count_0 : decode mI_count.2.1 0 = .ok (.aload_n 0, 1) := dq_get dd_I_count_0 (i := 0) rfl
theorem d_I_count_1 : decode mI_count.2.1 1 = .ok (.aload_n 1, 1) := dq_get dd_I_count_0 (i := 1) rfl
theorem d_I_count_2 : decode mI_count.2.1 2 = .ok (.iload_n 2, 1) := dq_get dd_I_count_0 (i := 2) rfl
theorem d_I_count_3 : decode mI_count.2.1 3 = .ok (.invokevirtual 42, 3) := dq_get dd_I_count_0 (i := 3) rfl
theorem d_I_count_6 : decode mI_count.2.1 6 = .ok (.aload_n 0, 1) := dq_get dd_I_count_0 (i := 4) rfl
theorem d_I_count_7 : decode mI_count.2.1 7 = .ok (.iconst 0, 1) := dq_get dd_I_count_0 (i := 5) rfl
theorem d_I_count_8 : decode mI_count.2.1 8 = .ok (.putfield 46, 3) := dq_get dd_I_count_0 (i := 6) rfl
theorem d_I_count_11 : decode mI_count.2.1 11 = .ok (.iconst 0, 1) := dq_get dd_I_count_0 (i := 7) rfl
theorem d_I_count_12 : decode mI_count.2.1 12 = .ok (.istore_n 3, 1) := dq_get dd_I_count_0 (i := 8) rfl
theorem d_I_count_13 : decode mI_count.2.1 13 = .ok (.iload_n 3, 1) := dq_get dd_I_count_0 (i := 9) rfl
theorem d_I_count_14 : decode mI_count.2.1 14 = .ok (.bipush 10, 2) := dq_get dd_I_count_0 (i := 10) rfl
theorem d_I_count_16 : decode mI_count.2.1 16 = .ok (.if_icmp .ge 16, 3) := dq_get dd_I_count_0 (i := 11) rfl
theorem d_I_count_19 : decode mI_count.2.1 19 = .ok (.aload_n 0, 1) := dq_get dd_I_count_0 (i := 12) rfl
theorem d_I_count_20 : decode mI_count.2.1 20 = .ok (.getfield 9, 3) := dq_get dd_I_count_0 (i := 13) rfl
theorem d_I_count_23 : decode mI_count.2.1 23 = .ok (.iload_n 3, 1) := dq_get dd_I_count_0 (i := 14) rfl
theorem d_I_count_24 : decode mI_count.2.1 24 = .ok (.iconst 0, 1) := dq_get dd_I_count_0 (i := 15) rfl
theorem d_I_count_25 : decode mI_count.2.1 25 = .ok (.iastore, 1) := dq_get dd_I_count_0 (i := 16) rfl
theorem d_I_count_26 : decode mI_count.2.1 26 = .ok (.iinc 3 1, 3) := dq_get dd_I_count_0 (i := 17) rfl
theorem d_I_count_29 : decode mI_count.2.1 29 = .ok (.goto (-16), 3) := dq_get dd_I_count_0 (i := 18) rfl
theorem d_I_count_32 : decode mI_count.2.1 32 = .ok (.iconst 0, 1) := dq_get dd_I_count_0 (i := 19) rfl
theorem d_I_count_33 : decode mI_count.2.1 33 = .ok (.istore_n 3, 1) := dq_get dd_I_count_0 (i := 20) rfl
theorem d_I_count_34 : decode mI_count.2.1 34 = .ok (.iload_n 3, 1) := dq_get dd_I_count_0 (i := 21) rfl
theorem d_I_count_35 : decode mI_count.2.1 35 = .ok (.iconst 1, 1) := dq_get dd_I_count_0 (i := 22) rfl
theorem d_I_count_36 : decode mI_count.2.1 36 = .ok (.aload_n 1, 1) := dq_get dd_I_count_0 (i := 23) rfl
theorem d_I_count_37 : decode mI_count.2.1 37 = .ok (.getfield 49, 3) := dq_get dd_I_count_0 (i := 24) rfl
theorem d_I_count_40 : decode mI_count.2.1 40 = .ok (.ishl, 1) := dq_get dd_I_count_0 (i := 25) rfl
theorem d_I_count_41 : decode mI_count.2.1 41 = .ok (.if_icmp .ge 22, 3) := dq_get dd_I_count_0 (i := 26) rfl
theorem d_I_count_44 : decode mI_count.2.1 44 = .ok (.aload_n 0, 1) := dq_get dd_I_count_0 (i := 27) rfl
theorem d_I_count_45 : decode mI_count.2.1 45 = .ok (.iload_n 3, 1) := dq_get dd_I_count_0 (i := 28) rfl
theorem d_I_count_46 : decode mI_count.2.1 46 = .ok (.invokevirtual 54, 3) := dq_get dd_I_count_0 (i := 29) rfl
theorem d_I_count_49 : decode mI_count.2.1 49 = .ok (.ifCond .eq 8, 3) := dq_get dd_I_count_0 (i := 30) rfl
theorem d_I_count_52 : decode mI_count.2.1 52 = .ok (.aload_n 0, 1) := dq_get dd_I_count_0 (i := 31) rfl
theorem dd_I_count_32 : dq mI_count.2.1 [(53, .iload_n 3, 1), (54, .invokevirtual 58, 3), (57, .iinc 3 1, 3), (60, .goto (-26), 3), (63, .return_, 1)] = true := by decide +kernel
theorem d_I_count_53 : decode mI_count.2.1 53 = .ok (.iload_n 3, 1) := dq_get dd_I_count_32 (i := 0) rfl
theorem d_I_count_54 : decode mI_count.2.1 54 = .ok (.invokevirtual 58, 3) := dq_get dd_I_count_32 (i := 1) rfl
theorem d_I_count_57 : decode mI_count.2.1 57 = .ok (.iinc 3 1, 3) := dq_get dd_I_count_32 (i := 2) rfl
theorem d_I_count_60 : decode mI_count.2.1 60 = .ok (.goto (-26), 3) := dq_get dd_I_count_32 (i := 3) rfl
theorem d_I_count_63 : decode mI_count.2.1 63 = .ok (.return_, 1) := dq_get dd_I_count_32 (i := 4) rfl
theorem dd_I_gather_0 : dq mI_gather.2.1 [(0, .aload_n 0, 1), (1, .iconst 0, 1), (2, .putfield 62, 3), (5, .aload_n 0, 1), (6, .iconst 0, 1), (7, .putfield 65, 3), (10, .iconst 0, 1), (11, .istore_n 3, 1), (12, .iload_n 3, 1), (13, .aload_n 0, 1), (14, .getfield 34, 3), (17, .if_icmp .ge 113, 3), (20, .aload_n 0, 1), (21, .getfield 28, 3), (24, .iload_n 3, 1), (25, .iaload, 1), (26, .iconst (-1), 1), (27, .if_icmp .eq 17, 3), (30, .aload_n 0, 1), (31, .getfield 28, 3), (34, .iload_n 3, 1), (35, .iaload, 1), (36, .iload_n 2, 1), (37, .if_icmp .gt 7, 3), (40, .iconst 1, 1), (41, .goto 4, 3), (44, .iconst 0, 1), (45, .istore 4, 2), (47, .aload_n 0, 1), (48, .getfield 25, 3), (51, .iload_n 3, 1), (52, .iaload, 1)] = true := by decide +kernel
theorem d_I_gather_0 : decode mI_gather.2.1 0 = .ok (.aload_n 0, 1) := dq_get dd_I_gather_0 (i := 0) rfl
theorem d_I_gather_1 : decode mI_gather.2.1 1 = .ok (.iconst 0, 1) := dq_get dd_I_gather_0 (i := 1) rfl
theorem d_I_gather_2 : decode mI_gather.2.1 2 = .ok (.putfield 62, 3) := dq_get dd_I_gather_0 (i := 2) rfl
theorem d_I_gather_5 : decode mI_gather.2.1 5 = .ok (.aload_n 0, 1) := dq_get dd_I_gather_0 (i := 3) rfl
theorem d_I_gather_6 : decode mI_gather.2.1 6 = .ok (.iconst 0, 1) := dq_get dd_I_gather_0 (i := 4) rfl
theorem d_I_gather_7 : decode mI_gather.2.1 7 = .ok (.putfield 65, 3) := dq_get dd_I_gather_0 (i := 5) rfl
theorem d_I_gather_10 : decode mI_gather.2.1 10 = .ok (.iconst 0, 1) := dq_get dd_I_gather_0 (i := 6) rfl
theorem d_I_gather_11 : decode mI_gather.2.1 11 = .ok (.istore_n 3, 1) := dq_get dd_I_gather_0 (i := 7) rfl
theorem d_I_gather_12 : decode mI_gather.2.1 12 = .ok (.iload_n 3, 1) := dq_get dd_I_gather_0 (i := 8) rfl
theorem d_I_gather_13 : decode mI_gather.2.1 13 = .ok (.aload_n 0, 1) := dq_get dd_I_gather_0 (i := 9) rfl
theorem d_I_gather_14 : decode mI_gather.2.1 14 = .ok (.getfield 34, 3) := dq_get dd_I_gather_0 (i := 10) rfl
theorem d_I_gather_17 : decode mI_gather.2.1 17 = .ok (.if_icmp .ge 113, 3) := dq_get dd_I_gather_0 (i := 11) rfl
theorem d_I_gather_20 : decode mI_gather.2.1 20 = .ok (.aload_n 0, 1) := dq_get dd_I_gather_0 (i := 12) rfl
theorem d_I_gather_21 : decode mI_gather.2.1 21 = .ok (.getfield 28, 3) := dq_get dd_I_gather_0 (i := 13) rfl
theorem d_I_gather_24 : decode mI_gather.2.1 24 = .ok (.iload_n 3, 1) := dq_get dd_I_gather_0 (i := 14) rfl
theorem d_I_gather_25 : decode mI_gather.2.1 25 = .ok (.iaload, 1) := dq_get dd_I_gather_0 (i := 15) rfl
theorem d_I_gather_26 : decode mI_gather.2.1 26 = .ok (.iconst (-1), 1) := dq_get dd_I_gather_0 (i := 16) rfl
theorem d_I_gather_27 : decode mI_gather.2.1 27 = .ok (.if_icmp .eq 17, 3) := dq_get dd_I_gather_0 (i := 17) rfl
theorem d_I_gather_30 : decode mI_gather.2.1 30 = .ok (.aload_n 0, 1) := dq_get dd_I_gather_0 (i := 18) rfl
theorem d_I_gather_31 : decode mI_gather.2.1 31 = .ok (.getfield 28, 3) := dq_get dd_I_gather_0 (i := 19) rfl
theorem d_I_gather_34 : decode mI_gather.2.1 34 = .ok (.iload_n 3, 1) := dq_get dd_I_gather_0 (i := 20) rfl
theorem d_I_gather_35 : decode mI_gather.2.1 35 = .ok (.iaload, 1) := dq_get dd_I_gather_0 (i := 21) rfl
theorem d_I_gather_36 : decode mI_gather.2.1 36 = .ok (.iload_n 2, 1) := dq_get dd_I_gather_0 (i := 22) rfl
theorem d_I_gather_37 : decode mI_gather.2.1 37 = .ok (.if_icmp .gt 7, 3) := dq_get dd_I_gather_0 (i := 23) rfl
theorem d_I_gather_40 : decode mI_gather.2.1 40 = .ok (.iconst 1, 1) := dq_get dd_I_gather_0 (i := 24) rfl
theorem d_I_gather_41 : decode mI_gather.2.1 41 = .ok (.goto 4, 3) := dq_get dd_I_gather_0 (i := 25) rfl
theorem d_I_gather_44 : decode mI_gather.2.1 44 = .ok (.iconst 0, 1) := dq_get dd_I_gather_0 (i := 26) rfl
theorem d_I_gather_45 : decode mI_gather.2.1 45 = .ok (.istore 4, 2) := dq_get dd_I_gather_0 (i := 27) rfl
theorem d_I_gather_47 : decode mI_gather.2.1 47 = .ok (.aload_n 0, 1) := dq_get dd_I_gather_0 (i := 28) rfl
theorem d_I_gather_48 : decode mI_gather.2.1 48 = .ok (.getfield 25, 3) := dq_get dd_I_gather_0 (i := 29) rfl
theorem d_I_gather_51 : decode mI_gather.2.1 51 = .ok (.iload_n 3, 1) := dq_get dd_I_gather_0 (i := 30) rfl
theorem d_I_gather_52 : decode mI_gather.2.1 52 = .ok (.iaload, 1) := dq_get dd_I_gather_0 (i := 31) rfl
theorem dd_I_gather_32 : dq mI_gather.2.1 [(53, .iload_n 2, 1), (54, .if_icmp .gt 70, 3), (57, .iload 4, 2), (59, .ifCond .ne 65, 3), (62, .aload_n 1, 1), (63, .aload_n 0, 1), (64, .getfield 15, 3), (67, .iload_n 3, 1), (68, .iaload, 1), (69, .aload_n 0, 1), (70, .getfield 18, 3), (73, .iload_n 3, 1), (74, .iaload, 1), (75, .invokestatic 68, 3), (78, .istore 5, 2), (80, .aload_n 0, 1), (81, .getfield 21, 3), (84, .iload_n 3, 1), (85, .baload, 1), (86, .ifCond .eq 27, 3), (89, .aload_n 0, 1), (90, .getfield 31, 3), (93, .aload_n 0, 1), (94, .getfield 62, 3), (97, .iload 5, 2), (99, .iastore, 1), (100, .aload_n 0, 1), (101, .dup, 1), (102, .getfield 62, 3), (105, .iconst 1, 1), (106, .iadd, 1), (107, .putfield 62, 3)] = true := by decide +kernel
theorem d_I_gather_53 : decode mI_gather.2.1 53 = .ok (.iload_n 2, 1) := dq_get dd_I_gather_32 (i := 0) rfl
theorem d_I_gather_54 : decode mI_gather.2.1 54 = .ok (.if_icmp .gt 70, 3) := dq_get dd_I_gather_32 (i := 1) rfl
theorem d_I_gather_57 : decode mI_gather.2.1 57 = .ok (.iload 4, 2) := dq_get dd_I_gather_32 (i := 2) rfl
theorem d_I_gather_59 : decode mI_gather.2.1 59 = .ok (.ifCond .ne 65, 3) := dq_get dd_I_gather_32 (i := 3) rfl
theorem d_I_gather_62 : decode mI_gather.2.1 62 = .ok (.aload_n 1, 1) := dq_get dd_I_gather_32 (i := 4) rfl
theorem d_I_gather_63 : decode mI_gather.2.1 63 = .ok (.aload_n 0, 1) := dq_get dd_I_gather_32 (i := 5) rfl
theorem d_I_gather_64 : decode mI_gather.2.1 64 = .ok (.getfield 15, 3) := dq_get dd_I_gather_32 (i := 6) rfl
theorem d_I_gather_67 : decode mI_gather.2.1 67 = .ok (.iload_n 3, 1) := dq_get dd_I_gather_32 (i := 7) rfl
theorem d_I_gather_68 : decode mI_gather.2.1 68 = .ok (.iaload, 1) := dq_get dd_I_gather_32 (i := 8) rfl
theorem d_I_gather_69 : decode mI_gather.2.1 69 = .ok (.aload_n 0, 1) := dq_get dd_I_gather_32 (i := 9) rfl
theorem d_I_gather_70 : decode mI_gather.2.1 70 = .ok (.getfield 18, 3) := dq_get dd_I_gather_32 (i := 10) rfl
theorem d_I_gather_73 : decode mI_gather.2.1 73 = .ok (.iload_n 3, 1) := dq_get dd_I_gather_32 (i := 11) rfl
theorem d_I_gather_74 : decode mI_gather.2.1 74 = .ok (.iaload, 1) := dq_get dd_I_gather_32 (i := 12) rfl
theorem d_I_gather_75 : decode mI_gather.2.1 75 = .ok (.invokestatic 68, 3) := dq_get dd_I_gather_32 (i := 13) rfl
theorem d_I_gather_78 : decode mI_gather.2.1 78 = .ok (.istore 5, 2) := dq_get dd_I_gather_32 (i := 14) rfl
theorem d_I_gather_80 : decode mI_gather.2.1 80 = .ok (.aload_n 0, 1) := dq_get dd_I_gather_32 (i := 15) rfl
theorem d_I_gather_81 : decode mI_gather.2.1 81 = .ok (.getfield 21, 3) := dq_get dd_I_gather_32 (i := 16) rfl
theorem d_I_gather_84 : decode mI_gather.2.1 84 = .ok (.iload_n 3, 1) := dq_get dd_I_gather_32 (i := 17) rfl
theorem d_I_gather_85 : decode mI_gather.2.1 85 = .ok (.baload, 1) := dq_get dd_I_gather_32 (i := 18) rfl
theorem d_I_gather_86 : decode mI_gather.2.1 86 = .ok (.ifCond .eq 27, 3) := dq_get dd_I_gather_32 (i := 19) rfl
theorem d_I_gather_89 : decode mI_gather.2.1 89 = .ok (.aload_n 0, 1) := dq_get dd_I_gather_32 (i := 20) rfl
theorem d_I_gather_90 : decode mI_gather.2.1 90 = .ok (.getfield 31, 3) := dq_get dd_I_gather_32 (i := 21) rfl
theorem d_I_gather_93 : decode mI_gather.2.1 93 = .ok (.aload_n 0, 1) := dq_get dd_I_gather_32 (i := 22) rfl
theorem d_I_gather_94 : decode mI_gather.2.1 94 = .ok (.getfield 62, 3) := dq_get dd_I_gather_32 (i := 23) rfl
theorem d_I_gather_97 : decode mI_gather.2.1 97 = .ok (.iload 5, 2) := dq_get dd_I_gather_32 (i := 24) rfl
theorem d_I_gather_99 : decode mI_gather.2.1 99 = .ok (.iastore, 1) := dq_get dd_I_gather_32 (i := 25) rfl
theorem d_I_gather_100 : decode mI_gather.2.1 100 = .ok (.aload_n 0, 1) := dq_get dd_I_gather_32 (i := 26) rfl
theorem d_I_gather_101 : decode mI_gather.2.1 101 = .ok (.dup, 1) := dq_get dd_I_gather_32 (i := 27) rfl
theorem d_I_gather_102 : decode mI_gather.2.1 102 = .ok (.getfield 62, 3) := dq_get dd_I_gather_32 (i := 28) rfl
theorem d_I_gather_105 : decode mI_gather.2.1 105 = .ok (.iconst 1, 1) := dq_get dd_I_gather_32 (i := 29) rfl
theorem d_I_gather_106 : decode mI_gather.2.1 106 = .ok (.iadd, 1) := dq_get dd_I_gather_32 (i := 30) rfl
theorem d_I_gather_107 : decode mI_gather.2.1 107 = .ok (.putfield 62, 3) := dq_get dd_I_gather_32 (i := 31) rfl
theorem dd_I_gather_64 : dq mI_gather.2.1 [(110, .goto 14, 3), (113, .aload_n 0, 1), (114, .dup, 1), (115, .getfield 65, 3), (118, .iload 5, 2), (120, .ior, 1), (121, .putfield 65, 3), (124, .iinc 3 1, 3), (127, .goto (-115), 3), (130, .return_, 1)] = true := by decide +kernel
theorem d_I_gather_110 : decode mI_gather.2.1 110 = .ok (.goto 14, 3) := dq_get dd_I_gather_64 (i := 0) rfl
theorem d_I_gather_113 : decode mI_gather.2.1 113 = .ok (.aload_n 0, 1) := dq_get dd_I_gather_64 (i := 1) rfl
theorem d_I_gather_114 : decode mI_gather.2.1 114 = .ok (.dup, 1) := dq_get dd_I_gather_64 (i := 2) rfl
theorem d_I_gather_115 : decode mI_gather.2.1 115 = .ok (.getfield 65, 3) := dq_get dd_I_gather_64 (i := 3) rfl
theorem d_I_gather_118 : decode mI_gather.2.1 118 = .ok (.iload 5, 2) := dq_get dd_I_gather_64 (i := 4) rfl
theorem d_I_gather_120 : decode mI_gather.2.1 120 = .ok (.ior, 1) := dq_get dd_I_gather_64 (i := 5) rfl
theorem d_I_gather_121 : decode mI_gather.2.1 121 = .ok (.putfield 65, 3) := dq_get dd_I_gather_64 (i := 6) rfl
theorem d_I_gather_124 : decode mI_gather.2.1 124 = .ok (.iinc 3 1, 3) := dq_get dd_I_gather_64 (i := 7) rfl
theorem d_I_gather_127 : decode mI_gather.2.1 127 = .ok (.goto (-115), 3) := dq_get dd_I_gather_64 (i := 8) rfl
theorem d_I_gather_130 : decode mI_gather.2.1 130 = .ok (.return_, 1) := dq_get dd_I_gather_64 (i := 9) rfl
theorem dd_I_soundersOf_0 : dq mI_soundersOf.2.1 [(0, .iconst 0, 1), (1, .istore_n 3, 1), (2, .iconst 0, 1), (3, .istore 4, 2), (5, .iload 4, 2), (7, .aload_n 0, 1), (8, .getfield 49, 3), (11, .if_icmp .ge 56, 3), (14, .aload_n 0, 1), (15, .getfield 72, 3), (18, .iload 4, 2), (20, .iaload, 1), (21, .istore 5, 2), (23, .aload_n 0, 1), (24, .getfield 75, 3), (27, .iload 4, 2), (29, .iaload, 1), (30, .iload_n 2, 1), (31, .if_icmp .ne 30, 3), (34, .iload 5, 2), (36, .iload_n 1, 1), (37, .if_icmp .gt 24, 3), (40, .iload_n 1, 1), (41, .iload 5, 2), (43, .aload_n 0, 1), (44, .getfield 76, 3), (47, .iload 4, 2), (49, .iaload, 1), (50, .iadd, 1), (51, .if_icmp .ge 10, 3), (54, .iload_n 3, 1), (55, .iconst 1, 1)] = true := by decide +kernel
theorem d_I_soundersOf_0 : decode mI_soundersOf.2.1 0 = .ok (.iconst 0, 1) := dq_get dd_I_soundersOf_0 (i := 0) rfl
theorem d_I_soundersOf_1 : decode mI_soundersOf.2.1 1 = .ok (.istore_n 3, 1) := dq_get dd_I_soundersOf_0 (i := 1) rfl
theorem d_I_soundersOf_2 : decode mI_soundersOf.2.1 2 = .ok (.iconst 0, 1) := dq_get dd_I_soundersOf_0 (i := 2) rfl
theorem d_I_soundersOf_3 : decode mI_soundersOf.2.1 3 = .ok (.istore 4, 2) := dq_get dd_I_soundersOf_0 (i := 3) rfl
theorem d_I_soundersOf_5 : decode mI_soundersOf.2.1 5 = .ok (.iload 4, 2) := dq_get dd_I_soundersOf_0 (i := 4) rfl
theorem d_I_soundersOf_7 : decode mI_soundersOf.2.1 7 = .ok (.aload_n 0, 1) := dq_get dd_I_soundersOf_0 (i := 5) rfl
theorem d_I_soundersOf_8 : decode mI_soundersOf.2.1 8 = .ok (.getfield 49, 3) := dq_get dd_I_soundersOf_0 (i := 6) rfl
theorem d_I_soundersOf_11 : decode mI_soundersOf.2.1 11 = .ok (.if_icmp .ge 56, 3) := dq_get dd_I_soundersOf_0 (i := 7) rfl
theorem d_I_soundersOf_14 : decode mI_soundersOf.2.1 14 = .ok (.aload_n 0, 1) := dq_get dd_I_soundersOf_0 (i := 8) rfl
theorem d_I_soundersOf_15 : decode mI_soundersOf.2.1 15 = .ok (.getfield 72, 3) := dq_get dd_I_soundersOf_0 (i := 9) rfl
theorem d_I_soundersOf_18 : decode mI_soundersOf.2.1 18 = .ok (.iload 4, 2) := dq_get dd_I_soundersOf_0 (i := 10) rfl
theorem d_I_soundersOf_20 : decode mI_soundersOf.2.1 20 = .ok (.iaload, 1) := dq_get dd_I_soundersOf_0 (i := 11) rfl
theorem d_I_soundersOf_21 : decode mI_soundersOf.2.1 21 = .ok (.istore 5, 2) := dq_get dd_I_soundersOf_0 (i := 12) rfl
theorem d_I_soundersOf_23 : decode mI_soundersOf.2.1 23 = .ok (.aload_n 0, 1) := dq_get dd_I_soundersOf_0 (i := 13) rfl
theorem d_I_soundersOf_24 : decode mI_soundersOf.2.1 24 = .ok (.getfield 75, 3) := dq_get dd_I_soundersOf_0 (i := 14) rfl
theorem d_I_soundersOf_27 : decode mI_soundersOf.2.1 27 = .ok (.iload 4, 2) := dq_get dd_I_soundersOf_0 (i := 15) rfl
theorem d_I_soundersOf_29 : decode mI_soundersOf.2.1 29 = .ok (.iaload, 1) := dq_get dd_I_soundersOf_0 (i := 16) rfl
theorem d_I_soundersOf_30 : decode mI_soundersOf.2.1 30 = .ok (.iload_n 2, 1) := dq_get dd_I_soundersOf_0 (i := 17) rfl
theorem d_I_soundersOf_31 : decode mI_soundersOf.2.1 31 = .ok (.if_icmp .ne 30, 3) := dq_get dd_I_soundersOf_0 (i := 18) rfl
theorem d_I_soundersOf_34 : decode mI_soundersOf.2.1 34 = .ok (.iload 5, 2) := dq_get dd_I_soundersOf_0 (i := 19) rfl
theorem d_I_soundersOf_36 : decode mI_soundersOf.2.1 36 = .ok (.iload_n 1, 1) := dq_get dd_I_soundersOf_0 (i := 20) rfl
theorem d_I_soundersOf_37 : decode mI_soundersOf.2.1 37 = .ok (.if_icmp .gt 24, 3) := dq_get dd_I_soundersOf_0 (i := 21) rfl
theorem d_I_soundersOf_40 : decode mI_soundersOf.2.1 40 = .ok (.iload_n 1, 1) := dq_get dd_I_soundersOf_0 (i := 22) rfl
theorem d_I_soundersOf_41 : decode mI_soundersOf.2.1 41 = .ok (.iload 5, 2) := dq_get dd_I_soundersOf_0 (i := 23) rfl
theorem d_I_soundersOf_43 : decode mI_soundersOf.2.1 43 = .ok (.aload_n 0, 1) := dq_get dd_I_soundersOf_0 (i := 24) rfl
theorem d_I_soundersOf_44 : decode mI_soundersOf.2.1 44 = .ok (.getfield 76, 3) := dq_get dd_I_soundersOf_0 (i := 25) rfl
theorem d_I_soundersOf_47 : decode mI_soundersOf.2.1 47 = .ok (.iload 4, 2) := dq_get dd_I_soundersOf_0 (i := 26) rfl
theorem d_I_soundersOf_49 : decode mI_soundersOf.2.1 49 = .ok (.iaload, 1) := dq_get dd_I_soundersOf_0 (i := 27) rfl
theorem d_I_soundersOf_50 : decode mI_soundersOf.2.1 50 = .ok (.iadd, 1) := dq_get dd_I_soundersOf_0 (i := 28) rfl
theorem d_I_soundersOf_51 : decode mI_soundersOf.2.1 51 = .ok (.if_icmp .ge 10, 3) := dq_get dd_I_soundersOf_0 (i := 29) rfl
theorem d_I_soundersOf_54 : decode mI_soundersOf.2.1 54 = .ok (.iload_n 3, 1) := dq_get dd_I_soundersOf_0 (i := 30) rfl
theorem d_I_soundersOf_55 : decode mI_soundersOf.2.1 55 = .ok (.iconst 1, 1) := dq_get dd_I_soundersOf_0 (i := 31) rfl
theorem dd_I_soundersOf_32 : dq mI_soundersOf.2.1 [(56, .iload 4, 2), (58, .ishl, 1), (59, .ior, 1), (60, .istore_n 3, 1), (61, .iinc 4 1, 3), (64, .goto (-59), 3), (67, .iload_n 3, 1), (68, .ireturn, 1)] = true := by decide +kernel
theorem d_I_soundersOf_56 : decode mI_soundersOf.2.1 56 = .ok (.iload 4, 2) := dq_get dd_I_soundersOf_32 (i := 0) rfl
theorem d_I_soundersOf_58 : decode mI_soundersOf.2.1 58 = .ok (.ishl, 1) := dq_get dd_I_soundersOf_32 (i := 1) rfl
theorem d_I_soundersOf_59 : decode mI_soundersOf.2.1 59 = .ok (.ior, 1) := dq_get dd_I_soundersOf_32 (i := 2) rfl
theorem d_I_soundersOf_60 : decode mI_soundersOf.2.1 60 = .ok (.istore_n 3, 1) := dq_get dd_I_soundersOf_32 (i := 3) rfl
theorem d_I_soundersOf_61 : decode mI_soundersOf.2.1 61 = .ok (.iinc 4 1, 3) := dq_get dd_I_soundersOf_32 (i := 4) rfl
theorem d_I_soundersOf_64 : decode mI_soundersOf.2.1 64 = .ok (.goto (-59), 3) := dq_get dd_I_soundersOf_32 (i := 5) rfl
theorem d_I_soundersOf_67 : decode mI_soundersOf.2.1 67 = .ok (.iload_n 3, 1) := dq_get dd_I_soundersOf_32 (i := 6) rfl
theorem d_I_soundersOf_68 : decode mI_soundersOf.2.1 68 = .ok (.ireturn, 1) := dq_get dd_I_soundersOf_32 (i := 7) rfl
theorem dd_I_isSo_0 : dq mI_isSo.2.1 [(0, .iload_n 1, 1), (1, .aload_n 0, 1), (2, .getfield 65, 3), (5, .iand, 1), (6, .ifCond .eq 5, 3), (9, .iconst 0, 1), (10, .ireturn, 1), (11, .iconst 0, 1), (12, .istore_n 2, 1), (13, .iload_n 2, 1), (14, .aload_n 0, 1), (15, .getfield 62, 3), (18, .if_icmp .ge 22, 3), (21, .iload_n 1, 1), (22, .aload_n 0, 1), (23, .getfield 31, 3), (26, .iload_n 2, 1), (27, .iaload, 1), (28, .iand, 1), (29, .ifCond .ne 5, 3), (32, .iconst 0, 1), (33, .ireturn, 1), (34, .iinc 2 1, 3), (37, .goto (-24), 3), (40, .iconst 1, 1), (41, .ireturn, 1)] = true := by decide +kernel
theorem d_I_isSo_0 : decode mI_isSo.2.1 0 = .ok (.iload_n 1, 1) := dq_get dd_I_isSo_0 (i := 0) rfl
theorem d_I_isSo_1 : decode mI_isSo.2.1 1 = .ok (.aload_n 0, 1) := dq_get dd_I_isSo_0 (i := 1) rfl
theorem d_I_isSo_2 : decode mI_isSo.2.1 2 = .ok (.getfield 65, 3) := dq_get dd_I_isSo_0 (i := 2) rfl
theorem d_I_isSo_5 : decode mI_isSo.2.1 5 = .ok (.iand, 1) := dq_get dd_I_isSo_0 (i := 3) rfl
theorem d_I_isSo_6 : decode mI_isSo.2.1 6 = .ok (.ifCond .eq 5, 3) := dq_get dd_I_isSo_0 (i := 4) rfl
theorem d_I_isSo_9 : decode mI_isSo.2.1 9 = .ok (.iconst 0, 1) := dq_get dd_I_isSo_0 (i := 5) rfl
theorem d_I_isSo_10 : decode mI_isSo.2.1 10 = .ok (.ireturn, 1) := dq_get dd_I_isSo_0 (i := 6) rfl
theorem d_I_isSo_11 : decode mI_isSo.2.1 11 = .ok (.iconst 0, 1) := dq_get dd_I_isSo_0 (i := 7) rfl
theorem d_I_isSo_12 : decode mI_isSo.2.1 12 = .ok (.istore_n 2, 1) := dq_get dd_I_isSo_0 (i := 8) rfl
theorem d_I_isSo_13 : decode mI_isSo.2.1 13 = .ok (.iload_n 2, 1) := dq_get dd_I_isSo_0 (i := 9) rfl
theorem d_I_isSo_14 : decode mI_isSo.2.1 14 = .ok (.aload_n 0, 1) := dq_get dd_I_isSo_0 (i := 10) rfl
theorem d_I_isSo_15 : decode mI_isSo.2.1 15 = .ok (.getfield 62, 3) := dq_get dd_I_isSo_0 (i := 11) rfl
theorem d_I_isSo_18 : decode mI_isSo.2.1 18 = .ok (.if_icmp .ge 22, 3) := dq_get dd_I_isSo_0 (i := 12) rfl
theorem d_I_isSo_21 : decode mI_isSo.2.1 21 = .ok (.iload_n 1, 1) := dq_get dd_I_isSo_0 (i := 13) rfl
theorem d_I_isSo_22 : decode mI_isSo.2.1 22 = .ok (.aload_n 0, 1) := dq_get dd_I_isSo_0 (i := 14) rfl
theorem d_I_isSo_23 : decode mI_isSo.2.1 23 = .ok (.getfield 31, 3) := dq_get dd_I_isSo_0 (i := 15) rfl
theorem d_I_isSo_26 : decode mI_isSo.2.1 26 = .ok (.iload_n 2, 1) := dq_get dd_I_isSo_0 (i := 16) rfl
theorem d_I_isSo_27 : decode mI_isSo.2.1 27 = .ok (.iaload, 1) := dq_get dd_I_isSo_0 (i := 17) rfl
theorem d_I_isSo_28 : decode mI_isSo.2.1 28 = .ok (.iand, 1) := dq_get dd_I_isSo_0 (i := 18) rfl
theorem d_I_isSo_29 : decode mI_isSo.2.1 29 = .ok (.ifCond .ne 5, 3) := dq_get dd_I_isSo_0 (i := 19) rfl
theorem d_I_isSo_32 : decode mI_isSo.2.1 32 = .ok (.iconst 0, 1) := dq_get dd_I_isSo_0 (i := 20) rfl
theorem d_I_isSo_33 : decode mI_isSo.2.1 33 = .ok (.ireturn, 1) := dq_get dd_I_isSo_0 (i := 21) rfl
theorem d_I_isSo_34 : decode mI_isSo.2.1 34 = .ok (.iinc 2 1, 3) := dq_get dd_I_isSo_0 (i := 22) rfl
theorem d_I_isSo_37 : decode mI_isSo.2.1 37 = .ok (.goto (-24), 3) := dq_get dd_I_isSo_0 (i := 23) rfl
theorem d_I_isSo_40 : decode mI_isSo.2.1 40 = .ok (.iconst 1, 1) := dq_get dd_I_isSo_0 (i := 24) rfl
theorem d_I_isSo_41 : decode mI_isSo.2.1 41 = .ok (.ireturn, 1) := dq_get dd_I_isSo_0 (i := 25) rfl
theorem dd_I_countIn_0 : dq mI_countIn.2.1 [(0, .aload_n 0, 1), (1, .dup, 1), (2, .getfield 46, 3), (5, .iconst 1, 1), (6, .iadd, 1), (7, .putfield 46, 3), (10, .iconst 0, 1), (11, .istore_n 2, 1), (12, .iload_n 2, 1), (13, .bipush 10, 2), (15, .if_icmp .ge 23, 3), (18, .aload_n 0, 1), (19, .getfield 9, 3), (22, .iload_n 2, 1), (23, .dup2, 1), (24, .iaload, 1), (25, .iload_n 1, 1), (26, .iload_n 2, 1), (27, .ishr, 1), (28, .iconst 1, 1), (29, .iand, 1), (30, .iadd, 1), (31, .iastore, 1), (32, .iinc 2 1, 3), (35, .goto (-23), 3), (38, .return_, 1)] = true := by decide +kernel
theorem d_I_countIn_0 : decode mI_countIn.2.1 0 = .ok (.aload_n 0, 1) := dq_get dd_I_countIn_0 (i := 0) rfl
theorem d_I_countIn_1 : decode mI_countIn.2.1 1 = .ok (.dup, 1) := dq_get dd_I_countIn_0 (i := 1) rfl
theorem d_I_countIn_2 : decode mI_countIn.2.1 2 = .ok (.getfield 46, 3) := dq_get dd_I_countIn_0 (i := 2) rfl
theorem d_I_countIn_5 : decode mI_countIn.2.1 5 = .ok (.iconst 1, 1) := dq_get dd_I_countIn_0 (i := 3) rfl
theorem d_I_countIn_6 : decode mI_countIn.2.1 6 = .ok (.iadd, 1) := dq_get dd_I_countIn_0 (i := 4) rfl
theorem d_I_countIn_7 : decode mI_countIn.2.1 7 = .ok (.putfield 46, 3) := dq_get dd_I_countIn_0 (i := 5) rfl
theorem d_I_countIn_10 : decode mI_countIn.2.1 10 = .ok (.iconst 0, 1) := dq_get dd_I_countIn_0 (i := 6) rfl
theorem d_I_countIn_11 : decode mI_countIn.2.1 11 = .ok (.istore_n 2, 1) := dq_get dd_I_countIn_0 (i := 7) rfl
theorem d_I_countIn_12 : decode mI_countIn.2.1 12 = .ok (.iload_n 2, 1) := dq_get dd_I_countIn_0 (i := 8) rfl
theorem d_I_countIn_13 : decode mI_countIn.2.1 13 = .ok (.bipush 10, 2) := dq_get dd_I_countIn_0 (i := 9) rfl
theorem d_I_countIn_15 : decode mI_countIn.2.1 15 = .ok (.if_icmp .ge 23, 3) := dq_get dd_I_countIn_0 (i := 10) rfl
theorem d_I_countIn_18 : decode mI_countIn.2.1 18 = .ok (.aload_n 0, 1) := dq_get dd_I_countIn_0 (i := 11) rfl
theorem d_I_countIn_19 : decode mI_countIn.2.1 19 = .ok (.getfield 9, 3) := dq_get dd_I_countIn_0 (i := 12) rfl
theorem d_I_countIn_22 : decode mI_countIn.2.1 22 = .ok (.iload_n 2, 1) := dq_get dd_I_countIn_0 (i := 13) rfl
theorem d_I_countIn_23 : decode mI_countIn.2.1 23 = .ok (.dup2, 1) := dq_get dd_I_countIn_0 (i := 14) rfl
theorem d_I_countIn_24 : decode mI_countIn.2.1 24 = .ok (.iaload, 1) := dq_get dd_I_countIn_0 (i := 15) rfl
theorem d_I_countIn_25 : decode mI_countIn.2.1 25 = .ok (.iload_n 1, 1) := dq_get dd_I_countIn_0 (i := 16) rfl
theorem d_I_countIn_26 : decode mI_countIn.2.1 26 = .ok (.iload_n 2, 1) := dq_get dd_I_countIn_0 (i := 17) rfl
theorem d_I_countIn_27 : decode mI_countIn.2.1 27 = .ok (.ishr, 1) := dq_get dd_I_countIn_0 (i := 18) rfl
theorem d_I_countIn_28 : decode mI_countIn.2.1 28 = .ok (.iconst 1, 1) := dq_get dd_I_countIn_0 (i := 19) rfl
theorem d_I_countIn_29 : decode mI_countIn.2.1 29 = .ok (.iand, 1) := dq_get dd_I_countIn_0 (i := 20) rfl
theorem d_I_countIn_30 : decode mI_countIn.2.1 30 = .ok (.iadd, 1) := dq_get dd_I_countIn_0 (i := 21) rfl
theorem d_I_countIn_31 : decode mI_countIn.2.1 31 = .ok (.iastore, 1) := dq_get dd_I_countIn_0 (i := 22) rfl
theorem d_I_countIn_32 : decode mI_countIn.2.1 32 = .ok (.iinc 2 1, 3) := dq_get dd_I_countIn_0 (i := 23) rfl
theorem d_I_countIn_35 : decode mI_countIn.2.1 35 = .ok (.goto (-23), 3) := dq_get dd_I_countIn_0 (i := 24) rfl
theorem d_I_countIn_38 : decode mI_countIn.2.1 38 = .ok (.return_, 1) := dq_get dd_I_countIn_0 (i := 25) rfl
theorem dd_L_copy_0 : dq mL_copy.2.1 [(0, .aload_n 0, 1), (1, .aload_n 1, 1), (2, .getfield 24, 3), (5, .putfield 24, 3), (8, .iconst 0, 1), (9, .istore_n 2, 1), (10, .iload_n 2, 1), (11, .bipush 10, 2), (13, .if_icmp .ge 57, 3), (16, .aload_n 0, 1), (17, .getfield 9, 3), (20, .iload_n 2, 1), (21, .aload_n 1, 1), (22, .getfield 9, 3), (25, .iload_n 2, 1), (26, .iaload, 1), (27, .iastore, 1), (28, .aload_n 0, 1), (29, .getfield 15, 3), (32, .iload_n 2, 1), (33, .aload_n 1, 1), (34, .getfield 15, 3), (37, .iload_n 2, 1), (38, .iaload, 1), (39, .iastore, 1), (40, .aload_n 0, 1), (41, .getfield 18, 3), (44, .iload_n 2, 1), (45, .aload_n 1, 1), (46, .getfield 18, 3), (49, .iload_n 2, 1), (50, .iaload, 1)] = true := by decide +kernel
theorem d_L_copy_0 : decode mL_copy.2.1 0 = .ok (.aload_n 0, 1) := dq_get dd_L_copy_0 (i := 0) rfl
theorem d_L_copy_1 : decode mL_copy.2.1 1 = .ok (.aload_n 1, 1) := dq_get dd_L_copy_0 (i := 1) rfl
theorem d_L_copy_2 : decode mL_copy.2.1 2 = .ok (.getfield 24, 3) := dq_get dd_L_copy_0 (i := 2) rfl
theorem d_L_copy_5 : decode mL_copy.2.1 5 = .ok (.putfield 24, 3) := dq_get dd_L_copy_0 (i := 3) rfl
theorem d_L_copy_8 : decode mL_copy.2.1 8 = .ok (.iconst 0, 1) := dq_get dd_L_copy_0 (i := 4) rfl
theorem d_L_copy_9 : decode mL_copy.2.1 9 = .ok (.istore_n 2, 1) := dq_get dd_L_copy_0 (i := 5) rfl
theorem d_L_copy_10 : decode mL_copy.2.1 10 = .ok (.iload_n 2, 1) := dq_get dd_L_copy_0 (i := 6) rfl
theorem d_L_copy_11 : decode mL_copy.2.1 11 = .ok (.bipush 10, 2) := dq_get dd_L_copy_0 (i := 7) rfl
theorem d_L_copy_13 : decode mL_copy.2.1 13 = .ok (.if_icmp .ge 57, 3) := dq_get dd_L_copy_0 (i := 8) rfl
theorem d_L_copy_16 : decode mL_copy.2.1 16 = .ok (.aload_n 0, 1) := dq_get dd_L_copy_0 (i := 9) rfl
theorem d_L_copy_17 : decode mL_copy.2.1 17 = .ok (.getfield 9, 3) := dq_get dd_L_copy_0 (i := 10) rfl
theorem d_L_copy_20 : decode mL_copy.2.1 20 = .ok (.iload_n 2, 1) := dq_get dd_L_copy_0 (i := 11) rfl
theorem d_L_copy_21 : decode mL_copy.2.1 21 = .ok (.aload_n 1, 1) := dq_get dd_L_copy_0 (i := 12) rfl
theorem d_L_copy_22 : decode mL_copy.2.1 22 = .ok (.getfield 9, 3) := dq_get dd_L_copy_0 (i := 13) rfl
theorem d_L_copy_25 : decode mL_copy.2.1 25 = .ok (.iload_n 2, 1) := dq_get dd_L_copy_0 (i := 14) rfl
theorem d_L_copy_26 : decode mL_copy.2.1 26 = .ok (.iaload, 1) := dq_get dd_L_copy_0 (i := 15) rfl
theorem d_L_copy_27 : decode mL_copy.2.1 27 = .ok (.iastore, 1) := dq_get dd_L_copy_0 (i := 16) rfl
theorem d_L_copy_28 : decode mL_copy.2.1 28 = .ok (.aload_n 0, 1) := dq_get dd_L_copy_0 (i := 17) rfl
theorem d_L_copy_29 : decode mL_copy.2.1 29 = .ok (.getfield 15, 3) := dq_get dd_L_copy_0 (i := 18) rfl
theorem d_L_copy_32 : decode mL_copy.2.1 32 = .ok (.iload_n 2, 1) := dq_get dd_L_copy_0 (i := 19) rfl
theorem d_L_copy_33 : decode mL_copy.2.1 33 = .ok (.aload_n 1, 1) := dq_get dd_L_copy_0 (i := 20) rfl
theorem d_L_copy_34 : decode mL_copy.2.1 34 = .ok (.getfield 15, 3) := dq_get dd_L_copy_0 (i := 21) rfl
theorem d_L_copy_37 : decode mL_copy.2.1 37 = .ok (.iload_n 2, 1) := dq_get dd_L_copy_0 (i := 22) rfl
theorem d_L_copy_38 : decode mL_copy.2.1 38 = .ok (.iaload, 1) := dq_get dd_L_copy_0 (i := 23) rfl
theorem d_L_copy_39 : decode mL_copy.2.1 39 = .ok (.iastore, 1) := dq_get dd_L_copy_0 (i := 24) rfl
theorem d_L_copy_40 : decode mL_copy.2.1 40 = .ok (.aload_n 0, 1) := dq_get dd_L_copy_0 (i := 25) rfl
theorem d_L_copy_41 : decode mL_copy.2.1 41 = .ok (.getfield 18, 3) := dq_get dd_L_copy_0 (i := 26) rfl
theorem d_L_copy_44 : decode mL_copy.2.1 44 = .ok (.iload_n 2, 1) := dq_get dd_L_copy_0 (i := 27) rfl
theorem d_L_copy_45 : decode mL_copy.2.1 45 = .ok (.aload_n 1, 1) := dq_get dd_L_copy_0 (i := 28) rfl
theorem d_L_copy_46 : decode mL_copy.2.1 46 = .ok (.getfield 18, 3) := dq_get dd_L_copy_0 (i := 29) rfl
theorem d_L_copy_49 : decode mL_copy.2.1 49 = .ok (.iload_n 2, 1) := dq_get dd_L_copy_0 (i := 30) rfl
theorem d_L_copy_50 : decode mL_copy.2.1 50 = .ok (.iaload, 1) := dq_get dd_L_copy_0 (i := 31) rfl
theorem dd_L_copy_32 : dq mL_copy.2.1 [(51, .iastore, 1), (52, .aload_n 0, 1), (53, .getfield 21, 3), (56, .iload_n 2, 1), (57, .aload_n 1, 1), (58, .getfield 21, 3), (61, .iload_n 2, 1), (62, .iaload, 1), (63, .iastore, 1), (64, .iinc 2 1, 3), (67, .goto (-57), 3), (70, .return_, 1)] = true := by decide +kernel
theorem d_L_copy_51 : decode mL_copy.2.1 51 = .ok (.iastore, 1) := dq_get dd_L_copy_32 (i := 0) rfl
theorem d_L_copy_52 : decode mL_copy.2.1 52 = .ok (.aload_n 0, 1) := dq_get dd_L_copy_32 (i := 1) rfl
theorem d_L_copy_53 : decode mL_copy.2.1 53 = .ok (.getfield 21, 3) := dq_get dd_L_copy_32 (i := 2) rfl
theorem d_L_copy_56 : decode mL_copy.2.1 56 = .ok (.iload_n 2, 1) := dq_get dd_L_copy_32 (i := 3) rfl
theorem d_L_copy_57 : decode mL_copy.2.1 57 = .ok (.aload_n 1, 1) := dq_get dd_L_copy_32 (i := 4) rfl
theorem d_L_copy_58 : decode mL_copy.2.1 58 = .ok (.getfield 21, 3) := dq_get dd_L_copy_32 (i := 5) rfl
theorem d_L_copy_61 : decode mL_copy.2.1 61 = .ok (.iload_n 2, 1) := dq_get dd_L_copy_32 (i := 6) rfl
theorem d_L_copy_62 : decode mL_copy.2.1 62 = .ok (.iaload, 1) := dq_get dd_L_copy_32 (i := 7) rfl
theorem d_L_copy_63 : decode mL_copy.2.1 63 = .ok (.iastore, 1) := dq_get dd_L_copy_32 (i := 8) rfl
theorem d_L_copy_64 : decode mL_copy.2.1 64 = .ok (.iinc 2 1, 3) := dq_get dd_L_copy_32 (i := 9) rfl
theorem d_L_copy_67 : decode mL_copy.2.1 67 = .ok (.goto (-57), 3) := dq_get dd_L_copy_32 (i := 10) rfl
theorem d_L_copy_70 : decode mL_copy.2.1 70 = .ok (.return_, 1) := dq_get dd_L_copy_32 (i := 11) rfl
theorem dd_L_differsAt_0 : dq mL_differsAt.2.1 [(0, .aload_n 0, 1), (1, .getfield 9, 3), (4, .iload_n 1, 1), (5, .iaload, 1), (6, .aload_n 2, 1), (7, .getfield 9, 3), (10, .iload_n 1, 1), (11, .iaload, 1), (12, .if_icmp .ne 48, 3), (15, .aload_n 0, 1), (16, .getfield 15, 3), (19, .iload_n 1, 1), (20, .iaload, 1), (21, .aload_n 2, 1), (22, .getfield 15, 3), (25, .iload_n 1, 1), (26, .iaload, 1), (27, .if_icmp .ne 33, 3), (30, .aload_n 0, 1), (31, .getfield 18, 3), (34, .iload_n 1, 1), (35, .iaload, 1), (36, .aload_n 2, 1), (37, .getfield 18, 3), (40, .iload_n 1, 1), (41, .iaload, 1), (42, .if_icmp .ne 18, 3), (45, .aload_n 0, 1), (46, .getfield 21, 3), (49, .iload_n 1, 1), (50, .iaload, 1), (51, .aload_n 2, 1)] = true := by decide +kernel
theorem d_L_differsAt_0 : decode mL_differsAt.2.1 0 = .ok (.aload_n 0, 1) := dq_get dd_L_differsAt_0 (i := 0) rfl
theorem d_L_differsAt_1 : decode mL_differsAt.2.1 1 = .ok (.getfield 9, 3) := dq_get dd_L_differsAt_0 (i := 1) rfl
theorem d_L_differsAt_4 : decode mL_differsAt.2.1 4 = .ok (.iload_n 1, 1) := dq_get dd_L_differsAt_0 (i := 2) rfl
theorem d_L_differsAt_5 : decode mL_differsAt.2.1 5 = .ok (.iaload, 1) := dq_get dd_L_differsAt_0 (i := 3) rfl
theorem d_L_differsAt_6 : decode mL_differsAt.2.1 6 = .ok (.aload_n 2, 1) := dq_get dd_L_differsAt_0 (i := 4) rfl
theorem d_L_differsAt_7 : decode mL_differsAt.2.1 7 = .ok (.getfield 9, 3) := dq_get dd_L_differsAt_0 (i := 5) rfl
theorem d_L_differsAt_10 : decode mL_differsAt.2.1 10 = .ok (.iload_n 1, 1) := dq_get dd_L_differsAt_0 (i := 6) rfl
theorem d_L_differsAt_11 : decode mL_differsAt.2.1 11 = .ok (.iaload, 1) := dq_get dd_L_differsAt_0 (i := 7) rfl
theorem d_L_differsAt_12 : decode mL_differsAt.2.1 12 = .ok (.if_icmp .ne 48, 3) := dq_get dd_L_differsAt_0 (i := 8) rfl
theorem d_L_differsAt_15 : decode mL_differsAt.2.1 15 = .ok (.aload_n 0, 1) := dq_get dd_L_differsAt_0 (i := 9) rfl
theorem d_L_differsAt_16 : decode mL_differsAt.2.1 16 = .ok (.getfield 15, 3) := dq_get dd_L_differsAt_0 (i := 10) rfl
theorem d_L_differsAt_19 : decode mL_differsAt.2.1 19 = .ok (.iload_n 1, 1) := dq_get dd_L_differsAt_0 (i := 11) rfl
theorem d_L_differsAt_20 : decode mL_differsAt.2.1 20 = .ok (.iaload, 1) := dq_get dd_L_differsAt_0 (i := 12) rfl
theorem d_L_differsAt_21 : decode mL_differsAt.2.1 21 = .ok (.aload_n 2, 1) := dq_get dd_L_differsAt_0 (i := 13) rfl
theorem d_L_differsAt_22 : decode mL_differsAt.2.1 22 = .ok (.getfield 15, 3) := dq_get dd_L_differsAt_0 (i := 14) rfl
theorem d_L_differsAt_25 : decode mL_differsAt.2.1 25 = .ok (.iload_n 1, 1) := dq_get dd_L_differsAt_0 (i := 15) rfl
theorem d_L_differsAt_26 : decode mL_differsAt.2.1 26 = .ok (.iaload, 1) := dq_get dd_L_differsAt_0 (i := 16) rfl
theorem d_L_differsAt_27 : decode mL_differsAt.2.1 27 = .ok (.if_icmp .ne 33, 3) := dq_get dd_L_differsAt_0 (i := 17) rfl
theorem d_L_differsAt_30 : decode mL_differsAt.2.1 30 = .ok (.aload_n 0, 1) := dq_get dd_L_differsAt_0 (i := 18) rfl
theorem d_L_differsAt_31 : decode mL_differsAt.2.1 31 = .ok (.getfield 18, 3) := dq_get dd_L_differsAt_0 (i := 19) rfl
theorem d_L_differsAt_34 : decode mL_differsAt.2.1 34 = .ok (.iload_n 1, 1) := dq_get dd_L_differsAt_0 (i := 20) rfl
theorem d_L_differsAt_35 : decode mL_differsAt.2.1 35 = .ok (.iaload, 1) := dq_get dd_L_differsAt_0 (i := 21) rfl
theorem d_L_differsAt_36 : decode mL_differsAt.2.1 36 = .ok (.aload_n 2, 1) := dq_get dd_L_differsAt_0 (i := 22) rfl
theorem d_L_differsAt_37 : decode mL_differsAt.2.1 37 = .ok (.getfield 18, 3) := dq_get dd_L_differsAt_0 (i := 23) rfl
theorem d_L_differsAt_40 : decode mL_differsAt.2.1 40 = .ok (.iload_n 1, 1) := dq_get dd_L_differsAt_0 (i := 24) rfl
theorem d_L_differsAt_41 : decode mL_differsAt.2.1 41 = .ok (.iaload, 1) := dq_get dd_L_differsAt_0 (i := 25) rfl
theorem d_L_differsAt_42 : decode mL_differsAt.2.1 42 = .ok (.if_icmp .ne 18, 3) := dq_get dd_L_differsAt_0 (i := 26) rfl
theorem d_L_differsAt_45 : decode mL_differsAt.2.1 45 = .ok (.aload_n 0, 1) := dq_get dd_L_differsAt_0 (i := 27) rfl
theorem d_L_differsAt_46 : decode mL_differsAt.2.1 46 = .ok (.getfield 21, 3) := dq_get dd_L_differsAt_0 (i := 28) rfl
theorem d_L_differsAt_49 : decode mL_differsAt.2.1 49 = .ok (.iload_n 1, 1) := dq_get dd_L_differsAt_0 (i := 29) rfl
theorem d_L_differsAt_50 : decode mL_differsAt.2.1 50 = .ok (.iaload, 1) := dq_get dd_L_differsAt_0 (i := 30) rfl
theorem d_L_differsAt_51 : decode mL_differsAt.2.1 51 = .ok (.aload_n 2, 1) := dq_get dd_L_differsAt_0 (i := 31) rfl
theorem dd_L_differsAt_32 : dq mL_differsAt.2.1 [(52, .getfield 21, 3), (55, .iload_n 1, 1), (56, .iaload, 1), (57, .if_icmp .eq 7, 3), (60, .iconst 1, 1), (61, .goto 4, 3), (64, .iconst 0, 1), (65, .ireturn, 1)] = true := by decide +kernel
theorem d_L_differsAt_52 : decode mL_differsAt.2.1 52 = .ok (.getfield 21, 3) := dq_get dd_L_differsAt_32 (i := 0) rfl
theorem d_L_differsAt_55 : decode mL_differsAt.2.1 55 = .ok (.iload_n 1, 1) := dq_get dd_L_differsAt_32 (i := 1) rfl
theorem d_L_differsAt_56 : decode mL_differsAt.2.1 56 = .ok (.iaload, 1) := dq_get dd_L_differsAt_32 (i := 2) rfl
theorem d_L_differsAt_57 : decode mL_differsAt.2.1 57 = .ok (.if_icmp .eq 7, 3) := dq_get dd_L_differsAt_32 (i := 3) rfl
theorem d_L_differsAt_60 : decode mL_differsAt.2.1 60 = .ok (.iconst 1, 1) := dq_get dd_L_differsAt_32 (i := 4) rfl
theorem d_L_differsAt_61 : decode mL_differsAt.2.1 61 = .ok (.goto 4, 3) := dq_get dd_L_differsAt_32 (i := 5) rfl
theorem d_L_differsAt_64 : decode mL_differsAt.2.1 64 = .ok (.iconst 0, 1) := dq_get dd_L_differsAt_32 (i := 6) rfl
theorem d_L_differsAt_65 : decode mL_differsAt.2.1 65 = .ok (.ireturn, 1) := dq_get dd_L_differsAt_32 (i := 7) rfl
