theorem dd_N_init_0 : dq mN_init.2.1 [(0, .aload_n 0, 1), (1, .invokespecial 1, 3), (4, .aload_n 0, 1), (5, .new 7, 3), (8, .dup, 1), (9, .invokespecial 9, 3), (12, .putfield 10, 3), (15, .aload_n 0, 1), (16, .aload_n 0, 1), (17, .getfield 10, 3), (20, .getfield 16, 3), (23, .putfield 20, 3), (26, .aload_n 0, 1), (27, .new 21, 3), (30, .dup, 1), (31, .invokespecial 23, 3), (34, .putfield 24, 3), (37, .aload_n 0, 1), (38, .new 28, 3), (41, .dup, 1), (42, .invokespecial 30, 3), (45, .putfield 31, 3), (48, .aload_n 0, 1), (49, .iconst 3, 1), (50, .anewarray 28, 3), (53, .dup, 1), (54, .iconst 0, 1), (55, .new 28, 3), (58, .dup, 1), (59, .invokespecial 30, 3), (62, .aastore, 1), (63, .dup, 1)] = true := by decide +kernel
theorem d_N_init_0 : decode mN_init.2.1 0 = .ok (.aload_n 0, 1) := dq_get dd_N_init_0 (i := 0) rfl
theorem d_N_init_1 : decode mN_init.2.1 1 = .ok (.invokespecial 1, 3) := dq_get dd_N_init_0 (i := 1) rfl
theorem d_N_init_4 : decode mN_init.2.1 4 = .ok (.aload_n 0, 1) := dq_get dd_N_init_0 (i := 2) rfl
theorem d_N_init_5 : decode mN_init.2.1 5 = .ok (.new 7, 3) := dq_get dd_N_init_0 (i := 3) rfl
theorem d_N_init_8 : decode mN_init.2.1 8 = .ok (.dup, 1) := dq_get dd_N_init_0 (i := 4) rfl
theorem d_N_init_9 : decode mN_init.2.1 9 = .ok (.invokespecial 9, 3) := dq_get dd_N_init_0 (i := 5) rfl
theorem d_N_init_12 : decode mN_init.2.1 12 = .ok (.putfield 10, 3) := dq_get dd_N_init_0 (i := 6) rfl
theorem d_N_init_15 : decode mN_init.2.1 15 = .ok (.aload_n 0, 1) := dq_get dd_N_init_0 (i := 7) rfl
theorem d_N_init_16 : decode mN_init.2.1 16 = .ok (.aload_n 0, 1) := dq_get dd_N_init_0 (i := 8) rfl
theorem d_N_init_17 : decode mN_init.2.1 17 = .ok (.getfield 10, 3) := dq_get dd_N_init_0 (i := 9) rfl
theorem d_N_init_20 : decode mN_init.2.1 20 = .ok (.getfield 16, 3) := dq_get dd_N_init_0 (i := 10) rfl
theorem d_N_init_23 : decode mN_init.2.1 23 = .ok (.putfield 20, 3) := dq_get dd_N_init_0 (i := 11) rfl
theorem d_N_init_26 : decode mN_init.2.1 26 = .ok (.aload_n 0, 1) := dq_get dd_N_init_0 (i := 12) rfl
theorem d_N_init_27 : decode mN_init.2.1 27 = .ok (.new 21, 3) := dq_get dd_N_init_0 (i := 13) rfl
theorem d_N_init_30 : decode mN_init.2.1 30 = .ok (.dup, 1) := dq_get dd_N_init_0 (i := 14) rfl
theorem d_N_init_31 : decode mN_init.2.1 31 = .ok (.invokespecial 23, 3) := dq_get dd_N_init_0 (i := 15) rfl
theorem d_N_init_34 : decode mN_init.2.1 34 = .ok (.putfield 24, 3) := dq_get dd_N_init_0 (i := 16) rfl
theorem d_N_init_37 : decode mN_init.2.1 37 = .ok (.aload_n 0, 1) := dq_get dd_N_init_0 (i := 17) rfl
theorem d_N_init_38 : decode mN_init.2.1 38 = .ok (.new 28, 3) := dq_get dd_N_init_0 (i := 18) rfl
theorem d_N_init_41 : decode mN_init.2.1 41 = .ok (.dup, 1) := dq_get dd_N_init_0 (i := 19) rfl
theorem d_N_init_42 : decode mN_init.2.1 42 = .ok (.invokespecial 30, 3) := dq_get dd_N_init_0 (i := 20) rfl
theorem d_N_init_45 : decode mN_init.2.1 45 = .ok (.putfield 31, 3) := dq_get dd_N_init_0 (i := 21) rfl
theorem d_N_init_48 : decode mN_init.2.1 48 = .ok (.aload_n 0, 1) := dq_get dd_N_init_0 (i := 22) rfl
theorem d_N_init_49 : decode mN_init.2.1 49 = .ok (.iconst 3, 1) := dq_get dd_N_init_0 (i := 23) rfl
theorem d_N_init_50 : decode mN_init.2.1 50 = .ok (.anewarray 28, 3) := dq_get dd_N_init_0 (i := 24) rfl
theorem d_N_init_53 : decode mN_init.2.1 53 = .ok (.dup, 1) := dq_get dd_N_init_0 (i := 25) rfl
theorem d_N_init_54 : decode mN_init.2.1 54 = .ok (.iconst 0, 1) := dq_get dd_N_init_0 (i := 26) rfl
theorem d_N_init_55 : decode mN_init.2.1 55 = .ok (.new 28, 3) := dq_get dd_N_init_0 (i := 27) rfl
theorem d_N_init_58 : decode mN_init.2.1 58 = .ok (.dup, 1) := dq_get dd_N_init_0 (i := 28) rfl
theorem d_N_init_59 : decode mN_init.2.1 59 = .ok (.invokespecial 30, 3) := dq_get dd_N_init_0 (i := 29) rfl
theorem d_N_init_62 : decode mN_init.2.1 62 = .ok (.aastore, 1) := dq_get dd_N_init_0 (i := 30) rfl
theorem d_N_init_63 : decode mN_init.2.1 63 = .ok (.dup, 1) := dq_get dd_N_init_0 (i := 31) rfl
theorem dd_N_init_32 : dq mN_init.2.1 [(64, .iconst 1, 1), (65, .new 28, 3), (68, .dup, 1), (69, .invokespecial 30, 3), (72, .aastore, 1), (73, .dup, 1), (74, .iconst 2, 1), (75, .new 28, 3), (78, .dup, 1), (79, .invokespecial 30, 3), (82, .aastore, 1), (83, .putfield 35, 3), (86, .aload_n 0, 1), (87, .new 39, 3), (90, .dup, 1), (91, .invokespecial 41, 3), (94, .putfield 42, 3), (97, .aload_n 0, 1), (98, .new 46, 3), (101, .dup, 1), (102, .invokespecial 48, 3), (105, .putfield 49, 3), (108, .aload_n 0, 1), (109, .aload_n 0, 1), (110, .getfield 49, 3), (113, .getfield 53, 3), (116, .putfield 57, 3), (119, .aload_n 0, 1), (120, .aload_n 0, 1), (121, .getfield 49, 3), (124, .getfield 58, 3), (127, .putfield 62, 3)] = true := by decide +kernel
theorem d_N_init_64 : decode mN_init.2.1 64 = .ok (.iconst 1, 1) := dq_get dd_N_init_32 (i := 0) rfl
theorem d_N_init_65 : decode mN_init.2.1 65 = .ok (.new 28, 3) := dq_get dd_N_init_32 (i := 1) rfl
theorem d_N_init_68 : decode mN_init.2.1 68 = .ok (.dup, 1) := dq_get dd_N_init_32 (i := 2) rfl
theorem d_N_init_69 : decode mN_init.2.1 69 = .ok (.invokespecial 30, 3) := dq_get dd_N_init_32 (i := 3) rfl
theorem d_N_init_72 : decode mN_init.2.1 72 = .ok (.aastore, 1) := dq_get dd_N_init_32 (i := 4) rfl
theorem d_N_init_73 : decode mN_init.2.1 73 = .ok (.dup, 1) := dq_get dd_N_init_32 (i := 5) rfl
theorem d_N_init_74 : decode mN_init.2.1 74 = .ok (.iconst 2, 1) := dq_get dd_N_init_32 (i := 6) rfl
theorem d_N_init_75 : decode mN_init.2.1 75 = .ok (.new 28, 3) := dq_get dd_N_init_32 (i := 7) rfl
theorem d_N_init_78 : decode mN_init.2.1 78 = .ok (.dup, 1) := dq_get dd_N_init_32 (i := 8) rfl
theorem d_N_init_79 : decode mN_init.2.1 79 = .ok (.invokespecial 30, 3) := dq_get dd_N_init_32 (i := 9) rfl
theorem d_N_init_82 : decode mN_init.2.1 82 = .ok (.aastore, 1) := dq_get dd_N_init_32 (i := 10) rfl
theorem d_N_init_83 : decode mN_init.2.1 83 = .ok (.putfield 35, 3) := dq_get dd_N_init_32 (i := 11) rfl
theorem d_N_init_86 : decode mN_init.2.1 86 = .ok (.aload_n 0, 1) := dq_get dd_N_init_32 (i := 12) rfl
theorem d_N_init_87 : decode mN_init.2.1 87 = .ok (.new 39, 3) := dq_get dd_N_init_32 (i := 13) rfl
theorem d_N_init_90 : decode mN_init.2.1 90 = .ok (.dup, 1) := dq_get dd_N_init_32 (i := 14) rfl
theorem d_N_init_91 : decode mN_init.2.1 91 = .ok (.invokespecial 41, 3) := dq_get dd_N_init_32 (i := 15) rfl
theorem d_N_init_94 : decode mN_init.2.1 94 = .ok (.putfield 42, 3) := dq_get dd_N_init_32 (i := 16) rfl
theorem d_N_init_97 : decode mN_init.2.1 97 = .ok (.aload_n 0, 1) := dq_get dd_N_init_32 (i := 17) rfl
theorem d_N_init_98 : decode mN_init.2.1 98 = .ok (.new 46, 3) := dq_get dd_N_init_32 (i := 18) rfl
theorem d_N_init_101 : decode mN_init.2.1 101 = .ok (.dup, 1) := dq_get dd_N_init_32 (i := 19) rfl
theorem d_N_init_102 : decode mN_init.2.1 102 = .ok (.invokespecial 48, 3) := dq_get dd_N_init_32 (i := 20) rfl
theorem d_N_init_105 : decode mN_init.2.1 105 = .ok (.putfield 49, 3) := dq_get dd_N_init_32 (i := 21) rfl
theorem d_N_init_108 : decode mN_init.2.1 108 = .ok (.aload_n 0, 1) := dq_get dd_N_init_32 (i := 22) rfl
theorem d_N_init_109 : decode mN_init.2.1 109 = .ok (.aload_n 0, 1) := dq_get dd_N_init_32 (i := 23) rfl
theorem d_N_init_110 : decode mN_init.2.1 110 = .ok (.getfield 49, 3) := dq_get dd_N_init_32 (i := 24) rfl
theorem d_N_init_113 : decode mN_init.2.1 113 = .ok (.getfield 53, 3) := dq_get dd_N_init_32 (i := 25) rfl
theorem d_N_init_116 : decode mN_init.2.1 116 = .ok (.putfield 57, 3) := dq_get dd_N_init_32 (i := 26) rfl
theorem d_N_init_119 : decode mN_init.2.1 119 = .ok (.aload_n 0, 1) := dq_get dd_N_init_32 (i := 27) rfl
theorem d_N_init_120 : decode mN_init.2.1 120 = .ok (.aload_n 0, 1) := dq_get dd_N_init_32 (i := 28) rfl
theorem d_N_init_121 : decode mN_init.2.1 121 = .ok (.getfield 49, 3) := dq_get dd_N_init_32 (i := 29) rfl
theorem d_N_init_124 : decode mN_init.2.1 124 = .ok (.getfield 58, 3) := dq_get dd_N_init_32 (i := 30) rfl
theorem d_N_init_127 : decode mN_init.2.1 127 = .ok (.putfield 62, 3) := dq_get dd_N_init_32 (i := 31) rfl
theorem dd_N_init_64 : dq mN_init.2.1 [(130, .aload_n 0, 1), (131, .new 63, 3), (134, .dup, 1), (135, .invokespecial 65, 3), (138, .putfield 66, 3), (141, .aload_n 0, 1), (142, .new 70, 3), (145, .dup, 1), (146, .invokespecial 72, 3), (149, .putfield 73, 3), (152, .aload_n 0, 1), (153, .bipush 10, 2), (155, .newarray .int, 2), (157, .putfield 77, 3), (160, .aload_n 0, 1), (161, .getfield 31, 3), (164, .aload_n 0, 1), (165, .getfield 24, 3), (168, .invokevirtual 80, 3), (171, .return_, 1)] = true := by decide +kernel
theorem d_N_init_130 : decode mN_init.2.1 130 = .ok (.aload_n 0, 1) := dq_get dd_N_init_64 (i := 0) rfl
theorem d_N_init_131 : decode mN_init.2.1 131 = .ok (.new 63, 3) := dq_get dd_N_init_64 (i := 1) rfl
theorem d_N_init_134 : decode mN_init.2.1 134 = .ok (.dup, 1) := dq_get dd_N_init_64 (i := 2) rfl
theorem d_N_init_135 : decode mN_init.2.1 135 = .ok (.invokespecial 65, 3) := dq_get dd_N_init_64 (i := 3) rfl
theorem d_N_init_138 : decode mN_init.2.1 138 = .ok (.putfield 66, 3) := dq_get dd_N_init_64 (i := 4) rfl
theorem d_N_init_141 : decode mN_init.2.1 141 = .ok (.aload_n 0, 1) := dq_get dd_N_init_64 (i := 5) rfl
theorem d_N_init_142 : decode mN_init.2.1 142 = .ok (.new 70, 3) := dq_get dd_N_init_64 (i := 6) rfl
theorem d_N_init_145 : decode mN_init.2.1 145 = .ok (.dup, 1) := dq_get dd_N_init_64 (i := 7) rfl
theorem d_N_init_146 : decode mN_init.2.1 146 = .ok (.invokespecial 72, 3) := dq_get dd_N_init_64 (i := 8) rfl
theorem d_N_init_149 : decode mN_init.2.1 149 = .ok (.putfield 73, 3) := dq_get dd_N_init_64 (i := 9) rfl
theorem d_N_init_152 : decode mN_init.2.1 152 = .ok (.aload_n 0, 1) := dq_get dd_N_init_64 (i := 10) rfl
theorem d_N_init_153 : decode mN_init.2.1 153 = .ok (.bipush 10, 2) := dq_get dd_N_init_64 (i := 11) rfl
theorem d_N_init_155 : decode mN_init.2.1 155 = .ok (.newarray .int, 2) := dq_get dd_N_init_64 (i := 12) rfl
theorem d_N_init_157 : decode mN_init.2.1 157 = .ok (.putfield 77, 3) := dq_get dd_N_init_64 (i := 13) rfl
theorem d_N_init_160 : decode mN_init.2.1 160 = .ok (.aload_n 0, 1) := dq_get dd_N_init_64 (i := 14) rfl
theorem d_N_init_161 : decode mN_init.2.1 161 = .ok (.getfield 31, 3) := dq_get dd_N_init_64 (i := 15) rfl
theorem d_N_init_164 : decode mN_init.2.1 164 = .ok (.aload_n 0, 1) := dq_get dd_N_init_64 (i := 16) rfl
theorem d_N_init_165 : decode mN_init.2.1 165 = .ok (.getfield 24, 3) := dq_get dd_N_init_64 (i := 17) rfl
theorem d_N_init_168 : decode mN_init.2.1 168 = .ok (.invokevirtual 80, 3) := dq_get dd_N_init_64 (i := 18) rfl
theorem d_N_init_171 : decode mN_init.2.1 171 = .ok (.return_, 1) := dq_get dd_N_init_64 (i := 19) rfl
theorem dd_N_feed_0 : dq mN_feed.2.1 [(0, .aload_n 0, 1), (1, .getfield 20, 3), (4, .getfield 84, 3), (7, .bipush 20, 2), (9, .iadd, 1), (10, .sipush 1600, 3), (13, .if_icmp .le 5, 3), (16, .iconst (-1), 1), (17, .ireturn, 1), (18, .aload_n 0, 1), (19, .getfield 20, 3), (22, .iload_n 1, 1), (23, .invokevirtual 90, 3), (26, .aload_n 0, 1), (27, .getfield 20, 3), (30, .iload_n 2, 1), (31, .invokevirtual 90, 3), (34, .aload_n 0, 1), (35, .getfield 20, 3), (38, .iload_n 3, 1), (39, .invokevirtual 90, 3), (42, .aload_n 0, 1), (43, .getfield 20, 3), (46, .iload 4, 2), (48, .invokevirtual 90, 3), (51, .aload_n 0, 1), (52, .getfield 20, 3), (55, .iload 5, 2), (57, .invokevirtual 90, 3), (60, .aload_n 0, 1), (61, .getfield 20, 3), (64, .getfield 84, 3)] = true := by decide +kernel
theorem d_N_feed_0 : decode mN_feed.2.1 0 = .ok (.aload_n 0, 1) := dq_get dd_N_feed_0 (i := 0) rfl
theorem d_N_feed_1 : decode mN_feed.2.1 1 = .ok (.getfield 20, 3) := dq_get dd_N_feed_0 (i := 1) rfl
theorem d_N_feed_4 : decode mN_feed.2.1 4 = .ok (.getfield 84, 3) := dq_get dd_N_feed_0 (i := 2) rfl
theorem d_N_feed_7 : decode mN_feed.2.1 7 = .ok (.bipush 20, 2) := dq_get dd_N_feed_0 (i := 3) rfl
theorem d_N_feed_9 : decode mN_feed.2.1 9 = .ok (.iadd, 1) := dq_get dd_N_feed_0 (i := 4) rfl
theorem d_N_feed_10 : decode mN_feed.2.1 10 = .ok (.sipush 1600, 3) := dq_get dd_N_feed_0 (i := 5) rfl
theorem d_N_feed_13 : decode mN_feed.2.1 13 = .ok (.if_icmp .le 5, 3) := dq_get dd_N_feed_0 (i := 6) rfl
theorem d_N_feed_16 : decode mN_feed.2.1 16 = .ok (.iconst (-1), 1) := dq_get dd_N_feed_0 (i := 7) rfl
theorem d_N_feed_17 : decode mN_feed.2.1 17 = .ok (.ireturn, 1) := dq_get dd_N_feed_0 (i := 8) rfl
theorem d_N_feed_18 : decode mN_feed.2.1 18 = .ok (.aload_n 0, 1) := dq_get dd_N_feed_0 (i := 9) rfl
theorem d_N_feed_19 : decode mN_feed.2.1 19 = .ok (.getfield 20, 3) := dq_get dd_N_feed_0 (i := 10) rfl
theorem d_N_feed_22 : decode mN_feed.2.1 22 = .ok (.iload_n 1, 1) := dq_get dd_N_feed_0 (i := 11) rfl
theorem d_N_feed_23 : decode mN_feed.2.1 23 = .ok (.invokevirtual 90, 3) := dq_get dd_N_feed_0 (i := 12) rfl
theorem d_N_feed_26 : decode mN_feed.2.1 26 = .ok (.aload_n 0, 1) := dq_get dd_N_feed_0 (i := 13) rfl
theorem d_N_feed_27 : decode mN_feed.2.1 27 = .ok (.getfield 20, 3) := dq_get dd_N_feed_0 (i := 14) rfl
theorem d_N_feed_30 : decode mN_feed.2.1 30 = .ok (.iload_n 2, 1) := dq_get dd_N_feed_0 (i := 15) rfl
theorem d_N_feed_31 : decode mN_feed.2.1 31 = .ok (.invokevirtual 90, 3) := dq_get dd_N_feed_0 (i := 16) rfl
theorem d_N_feed_34 : decode mN_feed.2.1 34 = .ok (.aload_n 0, 1) := dq_get dd_N_feed_0 (i := 17) rfl
theorem d_N_feed_35 : decode mN_feed.2.1 35 = .ok (.getfield 20, 3) := dq_get dd_N_feed_0 (i := 18) rfl
theorem d_N_feed_38 : decode mN_feed.2.1 38 = .ok (.iload_n 3, 1) := dq_get dd_N_feed_0 (i := 19) rfl
theorem d_N_feed_39 : decode mN_feed.2.1 39 = .ok (.invokevirtual 90, 3) := dq_get dd_N_feed_0 (i := 20) rfl
theorem d_N_feed_42 : decode mN_feed.2.1 42 = .ok (.aload_n 0, 1) := dq_get dd_N_feed_0 (i := 21) rfl
theorem d_N_feed_43 : decode mN_feed.2.1 43 = .ok (.getfield 20, 3) := dq_get dd_N_feed_0 (i := 22) rfl
theorem d_N_feed_46 : decode mN_feed.2.1 46 = .ok (.iload 4, 2) := dq_get dd_N_feed_0 (i := 23) rfl
theorem d_N_feed_48 : decode mN_feed.2.1 48 = .ok (.invokevirtual 90, 3) := dq_get dd_N_feed_0 (i := 24) rfl
theorem d_N_feed_51 : decode mN_feed.2.1 51 = .ok (.aload_n 0, 1) := dq_get dd_N_feed_0 (i := 25) rfl
theorem d_N_feed_52 : decode mN_feed.2.1 52 = .ok (.getfield 20, 3) := dq_get dd_N_feed_0 (i := 26) rfl
theorem d_N_feed_55 : decode mN_feed.2.1 55 = .ok (.iload 5, 2) := dq_get dd_N_feed_0 (i := 27) rfl
theorem d_N_feed_57 : decode mN_feed.2.1 57 = .ok (.invokevirtual 90, 3) := dq_get dd_N_feed_0 (i := 28) rfl
theorem d_N_feed_60 : decode mN_feed.2.1 60 = .ok (.aload_n 0, 1) := dq_get dd_N_feed_0 (i := 29) rfl
theorem d_N_feed_61 : decode mN_feed.2.1 61 = .ok (.getfield 20, 3) := dq_get dd_N_feed_0 (i := 30) rfl
theorem d_N_feed_64 : decode mN_feed.2.1 64 = .ok (.getfield 84, 3) := dq_get dd_N_feed_0 (i := 31) rfl
theorem dd_N_feed_32 : dq mN_feed.2.1 [(67, .ireturn, 1)] = true := by decide +kernel
theorem d_N_feed_67 : decode mN_feed.2.1 67 = .ok (.ireturn, 1) := dq_get dd_N_feed_32 (i := 0) rfl
theorem dd_N_end_0 : dq mN_end.2.1 [(0, .iload_n 1, 1), (1, .ifCond .lt 14, 3), (4, .iload_n 1, 1), (5, .aload_n 0, 1), (6, .getfield 20, 3), (9, .getfield 84, 3), (12, .if_icmp .le 5, 3), (15, .iconst (-1), 1), (16, .ireturn, 1), (17, .aload_n 0, 1), (18, .getfield 20, 3), (21, .iload_n 1, 1), (22, .putfield 84, 3), (25, .iload_n 1, 1), (26, .ireturn, 1)] = true := by decide +kernel
theorem d_N_end_0 : decode mN_end.2.1 0 = .ok (.iload_n 1, 1) := dq_get dd_N_end_0 (i := 0) rfl
theorem d_N_end_1 : decode mN_end.2.1 1 = .ok (.ifCond .lt 14, 3) := dq_get dd_N_end_0 (i := 1) rfl
theorem d_N_end_4 : decode mN_end.2.1 4 = .ok (.iload_n 1, 1) := dq_get dd_N_end_0 (i := 2) rfl
theorem d_N_end_5 : decode mN_end.2.1 5 = .ok (.aload_n 0, 1) := dq_get dd_N_end_0 (i := 3) rfl
theorem d_N_end_6 : decode mN_end.2.1 6 = .ok (.getfield 20, 3) := dq_get dd_N_end_0 (i := 4) rfl
theorem d_N_end_9 : decode mN_end.2.1 9 = .ok (.getfield 84, 3) := dq_get dd_N_end_0 (i := 5) rfl
theorem d_N_end_12 : decode mN_end.2.1 12 = .ok (.if_icmp .le 5, 3) := dq_get dd_N_end_0 (i := 6) rfl
theorem d_N_end_15 : decode mN_end.2.1 15 = .ok (.iconst (-1), 1) := dq_get dd_N_end_0 (i := 7) rfl
theorem d_N_end_16 : decode mN_end.2.1 16 = .ok (.ireturn, 1) := dq_get dd_N_end_0 (i := 8) rfl
theorem d_N_end_17 : decode mN_end.2.1 17 = .ok (.aload_n 0, 1) := dq_get dd_N_end_0 (i := 9) rfl
theorem d_N_end_18 : decode mN_end.2.1 18 = .ok (.getfield 20, 3) := dq_get dd_N_end_0 (i := 10) rfl
theorem d_N_end_21 : decode mN_end.2.1 21 = .ok (.iload_n 1, 1) := dq_get dd_N_end_0 (i := 11) rfl
theorem d_N_end_22 : decode mN_end.2.1 22 = .ok (.putfield 84, 3) := dq_get dd_N_end_0 (i := 12) rfl
theorem d_N_end_25 : decode mN_end.2.1 25 = .ok (.iload_n 1, 1) := dq_get dd_N_end_0 (i := 13) rfl
theorem d_N_end_26 : decode mN_end.2.1 26 = .ok (.ireturn, 1) := dq_get dd_N_end_0 (i := 14) rfl
theorem dd_N_score_0 : dq mN_score.2.1 [(0, .aload_n 0, 1), (1, .getfield 10, 3), (4, .invokevirtual 94, 3), (7, .iconst 0, 1), (8, .istore_n 1, 1), (9, .iload_n 1, 1), (10, .sipush 1600, 3), (13, .if_icmp .ge 26, 3), (16, .aload_n 0, 1), (17, .getfield 10, 3), (20, .invokevirtual 97, 3), (23, .ifCond .eq 16, 3), (26, .aload_n 0, 1), (27, .getfield 10, 3), (30, .invokevirtual 101, 3), (33, .iinc 1 1, 3), (36, .goto (-27), 3), (39, .aload_n 0, 1), (40, .getfield 20, 3), (43, .iconst 0, 1), (44, .putfield 84, 3), (47, .aload_n 0, 1), (48, .getfield 10, 3), (51, .getfield 104, 3), (54, .ifCond .eq 5, 3), (57, .iconst (-1), 1), (58, .ireturn, 1), (59, .aload_n 0, 1), (60, .aload_n 0, 1), (61, .getfield 10, 3), (64, .aload_n 0, 1), (65, .getfield 24, 3)] = true := by decide +kernel
theorem d_N_score_0 : decode mN_score.2.1 0 = .ok (.aload_n 0, 1) := dq_get dd_N_score_0 (i := 0) rfl
theorem d_N_score_1 : decode mN_score.2.1 1 = .ok (.getfield 10, 3) := dq_get dd_N_score_0 (i := 1) rfl
theorem d_N_score_4 : decode mN_score.2.1 4 = .ok (.invokevirtual 94, 3) := dq_get dd_N_score_0 (i := 2) rfl
theorem d_N_score_7 : decode mN_score.2.1 7 = .ok (.iconst 0, 1) := dq_get dd_N_score_0 (i := 3) rfl
theorem d_N_score_8 : decode mN_score.2.1 8 = .ok (.istore_n 1, 1) := dq_get dd_N_score_0 (i := 4) rfl
theorem d_N_score_9 : decode mN_score.2.1 9 = .ok (.iload_n 1, 1) := dq_get dd_N_score_0 (i := 5) rfl
theorem d_N_score_10 : decode mN_score.2.1 10 = .ok (.sipush 1600, 3) := dq_get dd_N_score_0 (i := 6) rfl
theorem d_N_score_13 : decode mN_score.2.1 13 = .ok (.if_icmp .ge 26, 3) := dq_get dd_N_score_0 (i := 7) rfl
theorem d_N_score_16 : decode mN_score.2.1 16 = .ok (.aload_n 0, 1) := dq_get dd_N_score_0 (i := 8) rfl
theorem d_N_score_17 : decode mN_score.2.1 17 = .ok (.getfield 10, 3) := dq_get dd_N_score_0 (i := 9) rfl
theorem d_N_score_20 : decode mN_score.2.1 20 = .ok (.invokevirtual 97, 3) := dq_get dd_N_score_0 (i := 10) rfl
theorem d_N_score_23 : decode mN_score.2.1 23 = .ok (.ifCond .eq 16, 3) := dq_get dd_N_score_0 (i := 11) rfl
theorem d_N_score_26 : decode mN_score.2.1 26 = .ok (.aload_n 0, 1) := dq_get dd_N_score_0 (i := 12) rfl
theorem d_N_score_27 : decode mN_score.2.1 27 = .ok (.getfield 10, 3) := dq_get dd_N_score_0 (i := 13) rfl
theorem d_N_score_30 : decode mN_score.2.1 30 = .ok (.invokevirtual 101, 3) := dq_get dd_N_score_0 (i := 14) rfl
theorem d_N_score_33 : decode mN_score.2.1 33 = .ok (.iinc 1 1, 3) := dq_get dd_N_score_0 (i := 15) rfl
theorem d_N_score_36 : decode mN_score.2.1 36 = .ok (.goto (-27), 3) := dq_get dd_N_score_0 (i := 16) rfl
theorem d_N_score_39 : decode mN_score.2.1 39 = .ok (.aload_n 0, 1) := dq_get dd_N_score_0 (i := 17) rfl
theorem d_N_score_40 : decode mN_score.2.1 40 = .ok (.getfield 20, 3) := dq_get dd_N_score_0 (i := 18) rfl
theorem d_N_score_43 : decode mN_score.2.1 43 = .ok (.iconst 0, 1) := dq_get dd_N_score_0 (i := 19) rfl
theorem d_N_score_44 : decode mN_score.2.1 44 = .ok (.putfield 84, 3) := dq_get dd_N_score_0 (i := 20) rfl
theorem d_N_score_47 : decode mN_score.2.1 47 = .ok (.aload_n 0, 1) := dq_get dd_N_score_0 (i := 21) rfl
theorem d_N_score_48 : decode mN_score.2.1 48 = .ok (.getfield 10, 3) := dq_get dd_N_score_0 (i := 22) rfl
theorem d_N_score_51 : decode mN_score.2.1 51 = .ok (.getfield 104, 3) := dq_get dd_N_score_0 (i := 23) rfl
theorem d_N_score_54 : decode mN_score.2.1 54 = .ok (.ifCond .eq 5, 3) := dq_get dd_N_score_0 (i := 24) rfl
theorem d_N_score_57 : decode mN_score.2.1 57 = .ok (.iconst (-1), 1) := dq_get dd_N_score_0 (i := 25) rfl
theorem d_N_score_58 : decode mN_score.2.1 58 = .ok (.ireturn, 1) := dq_get dd_N_score_0 (i := 26) rfl
theorem d_N_score_59 : decode mN_score.2.1 59 = .ok (.aload_n 0, 1) := dq_get dd_N_score_0 (i := 27) rfl
theorem d_N_score_60 : decode mN_score.2.1 60 = .ok (.aload_n 0, 1) := dq_get dd_N_score_0 (i := 28) rfl
theorem d_N_score_61 : decode mN_score.2.1 61 = .ok (.getfield 10, 3) := dq_get dd_N_score_0 (i := 29) rfl
theorem d_N_score_64 : decode mN_score.2.1 64 = .ok (.aload_n 0, 1) := dq_get dd_N_score_0 (i := 30) rfl
theorem d_N_score_65 : decode mN_score.2.1 65 = .ok (.getfield 24, 3) := dq_get dd_N_score_0 (i := 31) rfl
theorem dd_N_score_32 : dq mN_score.2.1 [(68, .invokevirtual 107, 3), (71, .putfield 24, 3), (74, .aload_n 0, 1), (75, .getfield 31, 3), (78, .aload_n 0, 1), (79, .getfield 24, 3), (82, .invokevirtual 80, 3), (85, .aload_n 0, 1), (86, .getfield 42, 3), (89, .invokevirtual 111, 3), (92, .aload_n 0, 1), (93, .getfield 73, 3), (96, .invokevirtual 114, 3), (99, .aload_n 0, 1), (100, .iconst 0, 1), (101, .putfield 115, 3), (104, .iconst 0, 1), (105, .istore_n 1, 1), (106, .iload_n 1, 1), (107, .aload_n 0, 1), (108, .getfield 35, 3), (111, .arraylength, 1), (112, .if_icmp .ge 19, 3), (115, .aload_n 0, 1), (116, .getfield 35, 3), (119, .iload_n 1, 1), (120, .aaload, 1), (121, .iconst 0, 1), (122, .putfield 118, 3), (125, .iinc 1 1, 3), (128, .goto (-22), 3), (131, .aload_n 0, 1)] = true := by decide +kernel
theorem d_N_score_68 : decode mN_score.2.1 68 = .ok (.invokevirtual 107, 3) := dq_get dd_N_score_32 (i := 0) rfl
theorem d_N_score_71 : decode mN_score.2.1 71 = .ok (.putfield 24, 3) := dq_get dd_N_score_32 (i := 1) rfl
theorem d_N_score_74 : decode mN_score.2.1 74 = .ok (.aload_n 0, 1) := dq_get dd_N_score_32 (i := 2) rfl
theorem d_N_score_75 : decode mN_score.2.1 75 = .ok (.getfield 31, 3) := dq_get dd_N_score_32 (i := 3) rfl
theorem d_N_score_78 : decode mN_score.2.1 78 = .ok (.aload_n 0, 1) := dq_get dd_N_score_32 (i := 4) rfl
theorem d_N_score_79 : decode mN_score.2.1 79 = .ok (.getfield 24, 3) := dq_get dd_N_score_32 (i := 5) rfl
theorem d_N_score_82 : decode mN_score.2.1 82 = .ok (.invokevirtual 80, 3) := dq_get dd_N_score_32 (i := 6) rfl
theorem d_N_score_85 : decode mN_score.2.1 85 = .ok (.aload_n 0, 1) := dq_get dd_N_score_32 (i := 7) rfl
theorem d_N_score_86 : decode mN_score.2.1 86 = .ok (.getfield 42, 3) := dq_get dd_N_score_32 (i := 8) rfl
theorem d_N_score_89 : decode mN_score.2.1 89 = .ok (.invokevirtual 111, 3) := dq_get dd_N_score_32 (i := 9) rfl
theorem d_N_score_92 : decode mN_score.2.1 92 = .ok (.aload_n 0, 1) := dq_get dd_N_score_32 (i := 10) rfl
theorem d_N_score_93 : decode mN_score.2.1 93 = .ok (.getfield 73, 3) := dq_get dd_N_score_32 (i := 11) rfl
theorem d_N_score_96 : decode mN_score.2.1 96 = .ok (.invokevirtual 114, 3) := dq_get dd_N_score_32 (i := 12) rfl
theorem d_N_score_99 : decode mN_score.2.1 99 = .ok (.aload_n 0, 1) := dq_get dd_N_score_32 (i := 13) rfl
theorem d_N_score_100 : decode mN_score.2.1 100 = .ok (.iconst 0, 1) := dq_get dd_N_score_32 (i := 14) rfl
theorem d_N_score_101 : decode mN_score.2.1 101 = .ok (.putfield 115, 3) := dq_get dd_N_score_32 (i := 15) rfl
theorem d_N_score_104 : decode mN_score.2.1 104 = .ok (.iconst 0, 1) := dq_get dd_N_score_32 (i := 16) rfl
theorem d_N_score_105 : decode mN_score.2.1 105 = .ok (.istore_n 1, 1) := dq_get dd_N_score_32 (i := 17) rfl
theorem d_N_score_106 : decode mN_score.2.1 106 = .ok (.iload_n 1, 1) := dq_get dd_N_score_32 (i := 18) rfl
theorem d_N_score_107 : decode mN_score.2.1 107 = .ok (.aload_n 0, 1) := dq_get dd_N_score_32 (i := 19) rfl
theorem d_N_score_108 : decode mN_score.2.1 108 = .ok (.getfield 35, 3) := dq_get dd_N_score_32 (i := 20) rfl
theorem d_N_score_111 : decode mN_score.2.1 111 = .ok (.arraylength, 1) := dq_get dd_N_score_32 (i := 21) rfl
theorem d_N_score_112 : decode mN_score.2.1 112 = .ok (.if_icmp .ge 19, 3) := dq_get dd_N_score_32 (i := 22) rfl
theorem d_N_score_115 : decode mN_score.2.1 115 = .ok (.aload_n 0, 1) := dq_get dd_N_score_32 (i := 23) rfl
theorem d_N_score_116 : decode mN_score.2.1 116 = .ok (.getfield 35, 3) := dq_get dd_N_score_32 (i := 24) rfl
theorem d_N_score_119 : decode mN_score.2.1 119 = .ok (.iload_n 1, 1) := dq_get dd_N_score_32 (i := 25) rfl
theorem d_N_score_120 : decode mN_score.2.1 120 = .ok (.aaload, 1) := dq_get dd_N_score_32 (i := 26) rfl
theorem d_N_score_121 : decode mN_score.2.1 121 = .ok (.iconst 0, 1) := dq_get dd_N_score_32 (i := 27) rfl
theorem d_N_score_122 : decode mN_score.2.1 122 = .ok (.putfield 118, 3) := dq_get dd_N_score_32 (i := 28) rfl
theorem d_N_score_125 : decode mN_score.2.1 125 = .ok (.iinc 1 1, 3) := dq_get dd_N_score_32 (i := 29) rfl
theorem d_N_score_128 : decode mN_score.2.1 128 = .ok (.goto (-22), 3) := dq_get dd_N_score_32 (i := 30) rfl
theorem d_N_score_131 : decode mN_score.2.1 131 = .ok (.aload_n 0, 1) := dq_get dd_N_score_32 (i := 31) rfl
theorem dd_N_score_64 : dq mN_score.2.1 [(132, .getfield 24, 3), (135, .getfield 122, 3), (138, .ireturn, 1)] = true := by decide +kernel
theorem d_N_score_132 : decode mN_score.2.1 132 = .ok (.getfield 24, 3) := dq_get dd_N_score_64 (i := 0) rfl
theorem d_N_score_135 : decode mN_score.2.1 135 = .ok (.getfield 122, 3) := dq_get dd_N_score_64 (i := 1) rfl
theorem d_N_score_138 : decode mN_score.2.1 138 = .ok (.ireturn, 1) := dq_get dd_N_score_64 (i := 2) rfl
theorem dd_N_fault_0 : dq mN_fault.2.1 [(0, .iload_n 1, 1), (1, .lookupswitch 43 #[(0, 27), (1, 35)], 27), (28, .aload_n 0, 1), (29, .getfield 10, 3), (32, .getfield 104, 3), (35, .ireturn, 1), (36, .aload_n 0, 1), (37, .getfield 10, 3), (40, .getfield 125, 3), (43, .ireturn, 1), (44, .iconst (-1), 1), (45, .ireturn, 1)] = true := by decide +kernel
theorem d_N_fault_0 : decode mN_fault.2.1 0 = .ok (.iload_n 1, 1) := dq_get dd_N_fault_0 (i := 0) rfl
theorem d_N_fault_1 : decode mN_fault.2.1 1 = .ok (.lookupswitch 43 #[(0, 27), (1, 35)], 27) := dq_get dd_N_fault_0 (i := 1) rfl
theorem d_N_fault_28 : decode mN_fault.2.1 28 = .ok (.aload_n 0, 1) := dq_get dd_N_fault_0 (i := 2) rfl
theorem d_N_fault_29 : decode mN_fault.2.1 29 = .ok (.getfield 10, 3) := dq_get dd_N_fault_0 (i := 3) rfl
theorem d_N_fault_32 : decode mN_fault.2.1 32 = .ok (.getfield 104, 3) := dq_get dd_N_fault_0 (i := 4) rfl
theorem d_N_fault_35 : decode mN_fault.2.1 35 = .ok (.ireturn, 1) := dq_get dd_N_fault_0 (i := 5) rfl
theorem d_N_fault_36 : decode mN_fault.2.1 36 = .ok (.aload_n 0, 1) := dq_get dd_N_fault_0 (i := 6) rfl
theorem d_N_fault_37 : decode mN_fault.2.1 37 = .ok (.getfield 10, 3) := dq_get dd_N_fault_0 (i := 7) rfl
theorem d_N_fault_40 : decode mN_fault.2.1 40 = .ok (.getfield 125, 3) := dq_get dd_N_fault_0 (i := 8) rfl
theorem d_N_fault_43 : decode mN_fault.2.1 43 = .ok (.ireturn, 1) := dq_get dd_N_fault_0 (i := 9) rfl
theorem d_N_fault_44 : decode mN_fault.2.1 44 = .ok (.iconst (-1), 1) := dq_get dd_N_fault_0 (i := 10) rfl
theorem d_N_fault_45 : decode mN_fault.2.1 45 = .ok (.ireturn, 1) := dq_get dd_N_fault_0 (i := 11) rfl
theorem dd_N_note_0 : dq mN_note.2.1 [(0, .aload_n 0, 1), (1, .iload_n 1, 1), (2, .invokevirtual 128, 3), (5, .ifCond .ne 5, 3), (8, .iconst (-1), 1), (9, .ireturn, 1), (10, .iload_n 2, 1), (11, .tableswitch 117 0 7 #[45, 55, 65, 75, 85, 95, 105, 111], 45), (56, .aload_n 0, 1), (57, .getfield 24, 3), (60, .getfield 132, 3), (63, .iload_n 1, 1), (64, .iaload, 1), (65, .ireturn, 1), (66, .aload_n 0, 1), (67, .getfield 24, 3), (70, .getfield 135, 3), (73, .iload_n 1, 1), (74, .iaload, 1), (75, .ireturn, 1), (76, .aload_n 0, 1), (77, .getfield 31, 3), (80, .getfield 138, 3), (83, .iload_n 1, 1), (84, .iaload, 1), (85, .ireturn, 1), (86, .aload_n 0, 1), (87, .getfield 31, 3), (90, .getfield 141, 3), (93, .iload_n 1, 1), (94, .iaload, 1), (95, .ireturn, 1)] = true := by decide +kernel
theorem d_N_note_0 : decode mN_note.2.1 0 = .ok (.aload_n 0, 1) := dq_get dd_N_note_0 (i := 0) rfl
theorem d_N_note_1 : decode mN_note.2.1 1 = .ok (.iload_n 1, 1) := dq_get dd_N_note_0 (i := 1) rfl
theorem d_N_note_2 : decode mN_note.2.1 2 = .ok (.invokevirtual 128, 3) := dq_get dd_N_note_0 (i := 2) rfl
theorem d_N_note_5 : decode mN_note.2.1 5 = .ok (.ifCond .ne 5, 3) := dq_get dd_N_note_0 (i := 3) rfl
theorem d_N_note_8 : decode mN_note.2.1 8 = .ok (.iconst (-1), 1) := dq_get dd_N_note_0 (i := 4) rfl
theorem d_N_note_9 : decode mN_note.2.1 9 = .ok (.ireturn, 1) := dq_get dd_N_note_0 (i := 5) rfl
theorem d_N_note_10 : decode mN_note.2.1 10 = .ok (.iload_n 2, 1) := dq_get dd_N_note_0 (i := 6) rfl
theorem d_N_note_11 : decode mN_note.2.1 11 = .ok (.tableswitch 117 0 7 #[45, 55, 65, 75, 85, 95, 105, 111], 45) := dq_get dd_N_note_0 (i := 7) rfl
theorem d_N_note_56 : decode mN_note.2.1 56 = .ok (.aload_n 0, 1) := dq_get dd_N_note_0 (i := 8) rfl
theorem d_N_note_57 : decode mN_note.2.1 57 = .ok (.getfield 24, 3) := dq_get dd_N_note_0 (i := 9) rfl
theorem d_N_note_60 : decode mN_note.2.1 60 = .ok (.getfield 132, 3) := dq_get dd_N_note_0 (i := 10) rfl
theorem d_N_note_63 : decode mN_note.2.1 63 = .ok (.iload_n 1, 1) := dq_get dd_N_note_0 (i := 11) rfl
theorem d_N_note_64 : decode mN_note.2.1 64 = .ok (.iaload, 1) := dq_get dd_N_note_0 (i := 12) rfl
theorem d_N_note_65 : decode mN_note.2.1 65 = .ok (.ireturn, 1) := dq_get dd_N_note_0 (i := 13) rfl
theorem d_N_note_66 : decode mN_note.2.1 66 = .ok (.aload_n 0, 1) := dq_get dd_N_note_0 (i := 14) rfl
theorem d_N_note_67 : decode mN_note.2.1 67 = .ok (.getfield 24, 3) := dq_get dd_N_note_0 (i := 15) rfl
theorem d_N_note_70 : decode mN_note.2.1 70 = .ok (.getfield 135, 3) := dq_get dd_N_note_0 (i := 16) rfl
theorem d_N_note_73 : decode mN_note.2.1 73 = .ok (.iload_n 1, 1) := dq_get dd_N_note_0 (i := 17) rfl
theorem d_N_note_74 : decode mN_note.2.1 74 = .ok (.iaload, 1) := dq_get dd_N_note_0 (i := 18) rfl
theorem d_N_note_75 : decode mN_note.2.1 75 = .ok (.ireturn, 1) := dq_get dd_N_note_0 (i := 19) rfl
theorem d_N_note_76 : decode mN_note.2.1 76 = .ok (.aload_n 0, 1) := dq_get dd_N_note_0 (i := 20) rfl
theorem d_N_note_77 : decode mN_note.2.1 77 = .ok (.getfield 31, 3) := dq_get dd_N_note_0 (i := 21) rfl
theorem d_N_note_80 : decode mN_note.2.1 80 = .ok (.getfield 138, 3) := dq_get dd_N_note_0 (i := 22) rfl
theorem d_N_note_83 : decode mN_note.2.1 83 = .ok (.iload_n 1, 1) := dq_get dd_N_note_0 (i := 23) rfl
theorem d_N_note_84 : decode mN_note.2.1 84 = .ok (.iaload, 1) := dq_get dd_N_note_0 (i := 24) rfl
theorem d_N_note_85 : decode mN_note.2.1 85 = .ok (.ireturn, 1) := dq_get dd_N_note_0 (i := 25) rfl
theorem d_N_note_86 : decode mN_note.2.1 86 = .ok (.aload_n 0, 1) := dq_get dd_N_note_0 (i := 26) rfl
theorem d_N_note_87 : decode mN_note.2.1 87 = .ok (.getfield 31, 3) := dq_get dd_N_note_0 (i := 27) rfl
theorem d_N_note_90 : decode mN_note.2.1 90 = .ok (.getfield 141, 3) := dq_get dd_N_note_0 (i := 28) rfl
theorem d_N_note_93 : decode mN_note.2.1 93 = .ok (.iload_n 1, 1) := dq_get dd_N_note_0 (i := 29) rfl
theorem d_N_note_94 : decode mN_note.2.1 94 = .ok (.iaload, 1) := dq_get dd_N_note_0 (i := 30) rfl
theorem d_N_note_95 : decode mN_note.2.1 95 = .ok (.ireturn, 1) := dq_get dd_N_note_0 (i := 31) rfl
theorem dd_N_note_32 : dq mN_note.2.1 [(96, .aload_n 0, 1), (97, .getfield 31, 3), (100, .getfield 144, 3), (103, .iload_n 1, 1), (104, .iaload, 1), (105, .ireturn, 1), (106, .aload_n 0, 1), (107, .getfield 31, 3), (110, .getfield 147, 3), (113, .iload_n 1, 1), (114, .iaload, 1), (115, .ireturn, 1), (116, .aload_n 0, 1), (117, .iload_n 1, 1), (118, .invokevirtual 150, 3), (121, .ireturn, 1), (122, .aload_n 0, 1), (123, .iload_n 1, 1), (124, .invokevirtual 154, 3), (127, .ireturn, 1), (128, .iconst (-1), 1), (129, .ireturn, 1)] = true := by decide +kernel
theorem d_N_note_96 : decode mN_note.2.1 96 = .ok (.aload_n 0, 1) := dq_get dd_N_note_32 (i := 0) rfl
theorem d_N_note_97 : decode mN_note.2.1 97 = .ok (.getfield 31, 3) := dq_get dd_N_note_32 (i := 1) rfl
theorem d_N_note_100 : decode mN_note.2.1 100 = .ok (.getfield 144, 3) := dq_get dd_N_note_32 (i := 2) rfl
theorem d_N_note_103 : decode mN_note.2.1 103 = .ok (.iload_n 1, 1) := dq_get dd_N_note_32 (i := 3) rfl
theorem d_N_note_104 : decode mN_note.2.1 104 = .ok (.iaload, 1) := dq_get dd_N_note_32 (i := 4) rfl
theorem d_N_note_105 : decode mN_note.2.1 105 = .ok (.ireturn, 1) := dq_get dd_N_note_32 (i := 5) rfl
theorem d_N_note_106 : decode mN_note.2.1 106 = .ok (.aload_n 0, 1) := dq_get dd_N_note_32 (i := 6) rfl
theorem d_N_note_107 : decode mN_note.2.1 107 = .ok (.getfield 31, 3) := dq_get dd_N_note_32 (i := 7) rfl
theorem d_N_note_110 : decode mN_note.2.1 110 = .ok (.getfield 147, 3) := dq_get dd_N_note_32 (i := 8) rfl
theorem d_N_note_113 : decode mN_note.2.1 113 = .ok (.iload_n 1, 1) := dq_get dd_N_note_32 (i := 9) rfl
theorem d_N_note_114 : decode mN_note.2.1 114 = .ok (.iaload, 1) := dq_get dd_N_note_32 (i := 10) rfl
theorem d_N_note_115 : decode mN_note.2.1 115 = .ok (.ireturn, 1) := dq_get dd_N_note_32 (i := 11) rfl
theorem d_N_note_116 : decode mN_note.2.1 116 = .ok (.aload_n 0, 1) := dq_get dd_N_note_32 (i := 12) rfl
theorem d_N_note_117 : decode mN_note.2.1 117 = .ok (.iload_n 1, 1) := dq_get dd_N_note_32 (i := 13) rfl
theorem d_N_note_118 : decode mN_note.2.1 118 = .ok (.invokevirtual 150, 3) := dq_get dd_N_note_32 (i := 14) rfl
theorem d_N_note_121 : decode mN_note.2.1 121 = .ok (.ireturn, 1) := dq_get dd_N_note_32 (i := 15) rfl
theorem d_N_note_122 : decode mN_note.2.1 122 = .ok (.aload_n 0, 1) := dq_get dd_N_note_32 (i := 16) rfl
theorem d_N_note_123 : decode mN_note.2.1 123 = .ok (.iload_n 1, 1) := dq_get dd_N_note_32 (i := 17) rfl
theorem d_N_note_124 : decode mN_note.2.1 124 = .ok (.invokevirtual 154, 3) := dq_get dd_N_note_32 (i := 18) rfl
theorem d_N_note_127 : decode mN_note.2.1 127 = .ok (.ireturn, 1) := dq_get dd_N_note_32 (i := 19) rfl
theorem d_N_note_128 : decode mN_note.2.1 128 = .ok (.iconst (-1), 1) := dq_get dd_N_note_32 (i := 20) rfl
theorem d_N_note_129 : decode mN_note.2.1 129 = .ok (.ireturn, 1) := dq_get dd_N_note_32 (i := 21) rfl
theorem dd_N_isNote_0 : dq mN_isNote.2.1 [(0, .iload_n 1, 1), (1, .ifCond .lt 18, 3), (4, .iload_n 1, 1), (5, .aload_n 0, 1), (6, .getfield 24, 3), (9, .getfield 122, 3), (12, .if_icmp .ge 7, 3), (15, .iconst 1, 1), (16, .goto 4, 3), (19, .iconst 0, 1), (20, .ireturn, 1)] = true := by decide +kernel
theorem d_N_isNote_0 : decode mN_isNote.2.1 0 = .ok (.iload_n 1, 1) := dq_get dd_N_isNote_0 (i := 0) rfl
theorem d_N_isNote_1 : decode mN_isNote.2.1 1 = .ok (.ifCond .lt 18, 3) := dq_get dd_N_isNote_0 (i := 1) rfl
theorem d_N_isNote_4 : decode mN_isNote.2.1 4 = .ok (.iload_n 1, 1) := dq_get dd_N_isNote_0 (i := 2) rfl
theorem d_N_isNote_5 : decode mN_isNote.2.1 5 = .ok (.aload_n 0, 1) := dq_get dd_N_isNote_0 (i := 3) rfl
theorem d_N_isNote_6 : decode mN_isNote.2.1 6 = .ok (.getfield 24, 3) := dq_get dd_N_isNote_0 (i := 4) rfl
theorem d_N_isNote_9 : decode mN_isNote.2.1 9 = .ok (.getfield 122, 3) := dq_get dd_N_isNote_0 (i := 5) rfl
theorem d_N_isNote_12 : decode mN_isNote.2.1 12 = .ok (.if_icmp .ge 7, 3) := dq_get dd_N_isNote_0 (i := 6) rfl
theorem d_N_isNote_15 : decode mN_isNote.2.1 15 = .ok (.iconst 1, 1) := dq_get dd_N_isNote_0 (i := 7) rfl
theorem d_N_isNote_16 : decode mN_isNote.2.1 16 = .ok (.goto 4, 3) := dq_get dd_N_isNote_0 (i := 8) rfl
theorem d_N_isNote_19 : decode mN_isNote.2.1 19 = .ok (.iconst 0, 1) := dq_get dd_N_isNote_0 (i := 9) rfl
theorem d_N_isNote_20 : decode mN_isNote.2.1 20 = .ok (.ireturn, 1) := dq_get dd_N_isNote_0 (i := 10) rfl
theorem dd_N_missedOf_0 : dq mN_missedOf.2.1 [(0, .aload_n 0, 1), (1, .getfield 24, 3), (4, .iload_n 1, 1), (5, .invokevirtual 208, 3), (8, .istore_n 2, 1), (9, .aload_n 0, 1), (10, .getfield 31, 3), (13, .getfield 144, 3), (16, .iload_n 1, 1), (17, .iaload, 1), (18, .istore_n 3, 1), (19, .aload_n 0, 1), (20, .iload_n 1, 1), (21, .invokevirtual 154, 3), (24, .invokestatic 211, 3), (27, .istore 4, 2), (29, .iload_n 3, 1), (30, .iload_n 2, 1), (31, .iconst 5, 1), (32, .imul, 1), (33, .iadd, 1), (34, .iload 4, 2), (36, .isub, 1), (37, .istore 5, 2), (39, .aload_n 0, 1), (40, .getfield 24, 3), (43, .getfield 216, 3), (46, .invokevirtual 220, 3), (49, .ifCond .eq 46, 3), (52, .aload_n 0, 1), (53, .getfield 24, 3), (56, .getfield 216, 3)] = true := by decide +kernel
theorem d_N_missedOf_0 : decode mN_missedOf.2.1 0 = .ok (.aload_n 0, 1) := dq_get dd_N_missedOf_0 (i := 0) rfl
theorem d_N_missedOf_1 : decode mN_missedOf.2.1 1 = .ok (.getfield 24, 3) := dq_get dd_N_missedOf_0 (i := 1) rfl
theorem d_N_missedOf_4 : decode mN_missedOf.2.1 4 = .ok (.iload_n 1, 1) := dq_get dd_N_missedOf_0 (i := 2) rfl
theorem d_N_missedOf_5 : decode mN_missedOf.2.1 5 = .ok (.invokevirtual 208, 3) := dq_get dd_N_missedOf_0 (i := 3) rfl
theorem d_N_missedOf_8 : decode mN_missedOf.2.1 8 = .ok (.istore_n 2, 1) := dq_get dd_N_missedOf_0 (i := 4) rfl
theorem d_N_missedOf_9 : decode mN_missedOf.2.1 9 = .ok (.aload_n 0, 1) := dq_get dd_N_missedOf_0 (i := 5) rfl
theorem d_N_missedOf_10 : decode mN_missedOf.2.1 10 = .ok (.getfield 31, 3) := dq_get dd_N_missedOf_0 (i := 6) rfl
theorem d_N_missedOf_13 : decode mN_missedOf.2.1 13 = .ok (.getfield 144, 3) := dq_get dd_N_missedOf_0 (i := 7) rfl
theorem d_N_missedOf_16 : decode mN_missedOf.2.1 16 = .ok (.iload_n 1, 1) := dq_get dd_N_missedOf_0 (i := 8) rfl
theorem d_N_missedOf_17 : decode mN_missedOf.2.1 17 = .ok (.iaload, 1) := dq_get dd_N_missedOf_0 (i := 9) rfl
theorem d_N_missedOf_18 : decode mN_missedOf.2.1 18 = .ok (.istore_n 3, 1) := dq_get dd_N_missedOf_0 (i := 10) rfl
theorem d_N_missedOf_19 : decode mN_missedOf.2.1 19 = .ok (.aload_n 0, 1) := dq_get dd_N_missedOf_0 (i := 11) rfl
theorem d_N_missedOf_20 : decode mN_missedOf.2.1 20 = .ok (.iload_n 1, 1) := dq_get dd_N_missedOf_0 (i := 12) rfl
theorem d_N_missedOf_21 : decode mN_missedOf.2.1 21 = .ok (.invokevirtual 154, 3) := dq_get dd_N_missedOf_0 (i := 13) rfl
theorem d_N_missedOf_24 : decode mN_missedOf.2.1 24 = .ok (.invokestatic 211, 3) := dq_get dd_N_missedOf_0 (i := 14) rfl
theorem d_N_missedOf_27 : decode mN_missedOf.2.1 27 = .ok (.istore 4, 2) := dq_get dd_N_missedOf_0 (i := 15) rfl
theorem d_N_missedOf_29 : decode mN_missedOf.2.1 29 = .ok (.iload_n 3, 1) := dq_get dd_N_missedOf_0 (i := 16) rfl
theorem d_N_missedOf_30 : decode mN_missedOf.2.1 30 = .ok (.iload_n 2, 1) := dq_get dd_N_missedOf_0 (i := 17) rfl
theorem d_N_missedOf_31 : decode mN_missedOf.2.1 31 = .ok (.iconst 5, 1) := dq_get dd_N_missedOf_0 (i := 18) rfl
theorem d_N_missedOf_32 : decode mN_missedOf.2.1 32 = .ok (.imul, 1) := dq_get dd_N_missedOf_0 (i := 19) rfl
theorem d_N_missedOf_33 : decode mN_missedOf.2.1 33 = .ok (.iadd, 1) := dq_get dd_N_missedOf_0 (i := 20) rfl
theorem d_N_missedOf_34 : decode mN_missedOf.2.1 34 = .ok (.iload 4, 2) := dq_get dd_N_missedOf_0 (i := 21) rfl
theorem d_N_missedOf_36 : decode mN_missedOf.2.1 36 = .ok (.isub, 1) := dq_get dd_N_missedOf_0 (i := 22) rfl
theorem d_N_missedOf_37 : decode mN_missedOf.2.1 37 = .ok (.istore 5, 2) := dq_get dd_N_missedOf_0 (i := 23) rfl
theorem d_N_missedOf_39 : decode mN_missedOf.2.1 39 = .ok (.aload_n 0, 1) := dq_get dd_N_missedOf_0 (i := 24) rfl
theorem d_N_missedOf_40 : decode mN_missedOf.2.1 40 = .ok (.getfield 24, 3) := dq_get dd_N_missedOf_0 (i := 25) rfl
theorem d_N_missedOf_43 : decode mN_missedOf.2.1 43 = .ok (.getfield 216, 3) := dq_get dd_N_missedOf_0 (i := 26) rfl
theorem d_N_missedOf_46 : decode mN_missedOf.2.1 46 = .ok (.invokevirtual 220, 3) := dq_get dd_N_missedOf_0 (i := 27) rfl
theorem d_N_missedOf_49 : decode mN_missedOf.2.1 49 = .ok (.ifCond .eq 46, 3) := dq_get dd_N_missedOf_0 (i := 28) rfl
theorem d_N_missedOf_52 : decode mN_missedOf.2.1 52 = .ok (.aload_n 0, 1) := dq_get dd_N_missedOf_0 (i := 29) rfl
theorem d_N_missedOf_53 : decode mN_missedOf.2.1 53 = .ok (.getfield 24, 3) := dq_get dd_N_missedOf_0 (i := 30) rfl
theorem d_N_missedOf_56 : decode mN_missedOf.2.1 56 = .ok (.getfield 216, 3) := dq_get dd_N_missedOf_0 (i := 31) rfl
theorem dd_N_missedOf_32 : dq mN_missedOf.2.1 [(59, .iload_n 2, 1), (60, .aload_n 0, 1), (61, .getfield 31, 3), (64, .getfield 138, 3), (67, .iload_n 1, 1), (68, .iaload, 1), (69, .aload_n 0, 1), (70, .getfield 31, 3), (73, .getfield 141, 3), (76, .iload_n 1, 1), (77, .iaload, 1), (78, .iload_n 3, 1), (79, .iload 4, 2), (81, .aload_n 0, 1), (82, .getfield 24, 3), (85, .getfield 135, 3), (88, .iload_n 1, 1), (89, .iaload, 1), (90, .invokevirtual 225, 3), (93, .istore 5, 2), (95, .iconst 0, 1), (96, .sipush 999, 3), (99, .iload 5, 2), (101, .invokestatic 229, 3), (104, .invokestatic 234, 3), (107, .ireturn, 1)] = true := by decide +kernel
theorem d_N_missedOf_59 : decode mN_missedOf.2.1 59 = .ok (.iload_n 2, 1) := dq_get dd_N_missedOf_32 (i := 0) rfl
theorem d_N_missedOf_60 : decode mN_missedOf.2.1 60 = .ok (.aload_n 0, 1) := dq_get dd_N_missedOf_32 (i := 1) rfl
theorem d_N_missedOf_61 : decode mN_missedOf.2.1 61 = .ok (.getfield 31, 3) := dq_get dd_N_missedOf_32 (i := 2) rfl
theorem d_N_missedOf_64 : decode mN_missedOf.2.1 64 = .ok (.getfield 138, 3) := dq_get dd_N_missedOf_32 (i := 3) rfl
theorem d_N_missedOf_67 : decode mN_missedOf.2.1 67 = .ok (.iload_n 1, 1) := dq_get dd_N_missedOf_32 (i := 4) rfl
theorem d_N_missedOf_68 : decode mN_missedOf.2.1 68 = .ok (.iaload, 1) := dq_get dd_N_missedOf_32 (i := 5) rfl
theorem d_N_missedOf_69 : decode mN_missedOf.2.1 69 = .ok (.aload_n 0, 1) := dq_get dd_N_missedOf_32 (i := 6) rfl
theorem d_N_missedOf_70 : decode mN_missedOf.2.1 70 = .ok (.getfield 31, 3) := dq_get dd_N_missedOf_32 (i := 7) rfl
theorem d_N_missedOf_73 : decode mN_missedOf.2.1 73 = .ok (.getfield 141, 3) := dq_get dd_N_missedOf_32 (i := 8) rfl
theorem d_N_missedOf_76 : decode mN_missedOf.2.1 76 = .ok (.iload_n 1, 1) := dq_get dd_N_missedOf_32 (i := 9) rfl
theorem d_N_missedOf_77 : decode mN_missedOf.2.1 77 = .ok (.iaload, 1) := dq_get dd_N_missedOf_32 (i := 10) rfl
theorem d_N_missedOf_78 : decode mN_missedOf.2.1 78 = .ok (.iload_n 3, 1) := dq_get dd_N_missedOf_32 (i := 11) rfl
theorem d_N_missedOf_79 : decode mN_missedOf.2.1 79 = .ok (.iload 4, 2) := dq_get dd_N_missedOf_32 (i := 12) rfl
theorem d_N_missedOf_81 : decode mN_missedOf.2.1 81 = .ok (.aload_n 0, 1) := dq_get dd_N_missedOf_32 (i := 13) rfl
theorem d_N_missedOf_82 : decode mN_missedOf.2.1 82 = .ok (.getfield 24, 3) := dq_get dd_N_missedOf_32 (i := 14) rfl
theorem d_N_missedOf_85 : decode mN_missedOf.2.1 85 = .ok (.getfield 135, 3) := dq_get dd_N_missedOf_32 (i := 15) rfl
theorem d_N_missedOf_88 : decode mN_missedOf.2.1 88 = .ok (.iload_n 1, 1) := dq_get dd_N_missedOf_32 (i := 16) rfl
theorem d_N_missedOf_89 : decode mN_missedOf.2.1 89 = .ok (.iaload, 1) := dq_get dd_N_missedOf_32 (i := 17) rfl
theorem d_N_missedOf_90 : decode mN_missedOf.2.1 90 = .ok (.invokevirtual 225, 3) := dq_get dd_N_missedOf_32 (i := 18) rfl
theorem d_N_missedOf_93 : decode mN_missedOf.2.1 93 = .ok (.istore 5, 2) := dq_get dd_N_missedOf_32 (i := 19) rfl
theorem d_N_missedOf_95 : decode mN_missedOf.2.1 95 = .ok (.iconst 0, 1) := dq_get dd_N_missedOf_32 (i := 20) rfl
theorem d_N_missedOf_96 : decode mN_missedOf.2.1 96 = .ok (.sipush 999, 3) := dq_get dd_N_missedOf_32 (i := 21) rfl
theorem d_N_missedOf_99 : decode mN_missedOf.2.1 99 = .ok (.iload 5, 2) := dq_get dd_N_missedOf_32 (i := 22) rfl
theorem d_N_missedOf_101 : decode mN_missedOf.2.1 101 = .ok (.invokestatic 229, 3) := dq_get dd_N_missedOf_32 (i := 23) rfl
theorem d_N_missedOf_104 : decode mN_missedOf.2.1 104 = .ok (.invokestatic 234, 3) := dq_get dd_N_missedOf_32 (i := 24) rfl
theorem d_N_missedOf_107 : decode mN_missedOf.2.1 107 = .ok (.ireturn, 1) := dq_get dd_N_missedOf_32 (i := 25) rfl
theorem dd_N_doublesOf_0 : dq mN_doublesOf.2.1 [(0, .iconst 0, 1), (1, .istore_n 2, 1), (2, .iconst 0, 1), (3, .istore_n 3, 1), (4, .iload_n 3, 1), (5, .aload_n 0, 1), (6, .getfield 24, 3), (9, .getfield 122, 3), (12, .if_icmp .ge 78, 3), (15, .aload_n 0, 1), (16, .getfield 24, 3), (19, .getfield 135, 3), (22, .iload_n 3, 1), (23, .iaload, 1), (24, .aload_n 0, 1), (25, .getfield 24, 3), (28, .getfield 135, 3), (31, .iload_n 1, 1), (32, .iaload, 1), (33, .if_icmp .ne 7, 3), (36, .iconst 1, 1), (37, .goto 4, 3), (40, .iconst 0, 1), (41, .istore 4, 2), (43, .iload_n 3, 1), (44, .iload_n 1, 1), (45, .if_icmp .eq 39, 3), (48, .iload 4, 2), (50, .ifCond .eq 34, 3), (53, .aload_n 0, 1), (54, .getfield 31, 3), (57, .getfield 138, 3)] = true := by decide +kernel
theorem d_N_doublesOf_0 : decode mN_doublesOf.2.1 0 = .ok (.iconst 0, 1) := dq_get dd_N_doublesOf_0 (i := 0) rfl
theorem d_N_doublesOf_1 : decode mN_doublesOf.2.1 1 = .ok (.istore_n 2, 1) := dq_get dd_N_doublesOf_0 (i := 1) rfl
theorem d_N_doublesOf_2 : decode mN_doublesOf.2.1 2 = .ok (.iconst 0, 1) := dq_get dd_N_doublesOf_0 (i := 2) rfl
theorem d_N_doublesOf_3 : decode mN_doublesOf.2.1 3 = .ok (.istore_n 3, 1) := dq_get dd_N_doublesOf_0 (i := 3) rfl
theorem d_N_doublesOf_4 : decode mN_doublesOf.2.1 4 = .ok (.iload_n 3, 1) := dq_get dd_N_doublesOf_0 (i := 4) rfl
theorem d_N_doublesOf_5 : decode mN_doublesOf.2.1 5 = .ok (.aload_n 0, 1) := dq_get dd_N_doublesOf_0 (i := 5) rfl
theorem d_N_doublesOf_6 : decode mN_doublesOf.2.1 6 = .ok (.getfield 24, 3) := dq_get dd_N_doublesOf_0 (i := 6) rfl
theorem d_N_doublesOf_9 : decode mN_doublesOf.2.1 9 = .ok (.getfield 122, 3) := dq_get dd_N_doublesOf_0 (i := 7) rfl
theorem d_N_doublesOf_12 : decode mN_doublesOf.2.1 12 = .ok (.if_icmp .ge 78, 3) := dq_get dd_N_doublesOf_0 (i := 8) rfl
theorem d_N_doublesOf_15 : decode mN_doublesOf.2.1 15 = .ok (.aload_n 0, 1) := dq_get dd_N_doublesOf_0 (i := 9) rfl
theorem d_N_doublesOf_16 : decode mN_doublesOf.2.1 16 = .ok (.getfield 24, 3) := dq_get dd_N_doublesOf_0 (i := 10) rfl
theorem d_N_doublesOf_19 : decode mN_doublesOf.2.1 19 = .ok (.getfield 135, 3) := dq_get dd_N_doublesOf_0 (i := 11) rfl
theorem d_N_doublesOf_22 : decode mN_doublesOf.2.1 22 = .ok (.iload_n 3, 1) := dq_get dd_N_doublesOf_0 (i := 12) rfl
theorem d_N_doublesOf_23 : decode mN_doublesOf.2.1 23 = .ok (.iaload, 1) := dq_get dd_N_doublesOf_0 (i := 13) rfl
theorem d_N_doublesOf_24 : decode mN_doublesOf.2.1 24 = .ok (.aload_n 0, 1) := dq_get dd_N_doublesOf_0 (i := 14) rfl
theorem d_N_doublesOf_25 : decode mN_doublesOf.2.1 25 = .ok (.getfield 24, 3) := dq_get dd_N_doublesOf_0 (i := 15) rfl
theorem d_N_doublesOf_28 : decode mN_doublesOf.2.1 28 = .ok (.getfield 135, 3) := dq_get dd_N_doublesOf_0 (i := 16) rfl
theorem d_N_doublesOf_31 : decode mN_doublesOf.2.1 31 = .ok (.iload_n 1, 1) := dq_get dd_N_doublesOf_0 (i := 17) rfl
theorem d_N_doublesOf_32 : decode mN_doublesOf.2.1 32 = .ok (.iaload, 1) := dq_get dd_N_doublesOf_0 (i := 18) rfl
theorem d_N_doublesOf_33 : decode mN_doublesOf.2.1 33 = .ok (.if_icmp .ne 7, 3) := dq_get dd_N_doublesOf_0 (i := 19) rfl
theorem d_N_doublesOf_36 : decode mN_doublesOf.2.1 36 = .ok (.iconst 1, 1) := dq_get dd_N_doublesOf_0 (i := 20) rfl
theorem d_N_doublesOf_37 : decode mN_doublesOf.2.1 37 = .ok (.goto 4, 3) := dq_get dd_N_doublesOf_0 (i := 21) rfl
theorem d_N_doublesOf_40 : decode mN_doublesOf.2.1 40 = .ok (.iconst 0, 1) := dq_get dd_N_doublesOf_0 (i := 22) rfl
theorem d_N_doublesOf_41 : decode mN_doublesOf.2.1 41 = .ok (.istore 4, 2) := dq_get dd_N_doublesOf_0 (i := 23) rfl
theorem d_N_doublesOf_43 : decode mN_doublesOf.2.1 43 = .ok (.iload_n 3, 1) := dq_get dd_N_doublesOf_0 (i := 24) rfl
theorem d_N_doublesOf_44 : decode mN_doublesOf.2.1 44 = .ok (.iload_n 1, 1) := dq_get dd_N_doublesOf_0 (i := 25) rfl
theorem d_N_doublesOf_45 : decode mN_doublesOf.2.1 45 = .ok (.if_icmp .eq 39, 3) := dq_get dd_N_doublesOf_0 (i := 26) rfl
theorem d_N_doublesOf_48 : decode mN_doublesOf.2.1 48 = .ok (.iload 4, 2) := dq_get dd_N_doublesOf_0 (i := 27) rfl
theorem d_N_doublesOf_50 : decode mN_doublesOf.2.1 50 = .ok (.ifCond .eq 34, 3) := dq_get dd_N_doublesOf_0 (i := 28) rfl
theorem d_N_doublesOf_53 : decode mN_doublesOf.2.1 53 = .ok (.aload_n 0, 1) := dq_get dd_N_doublesOf_0 (i := 29) rfl
theorem d_N_doublesOf_54 : decode mN_doublesOf.2.1 54 = .ok (.getfield 31, 3) := dq_get dd_N_doublesOf_0 (i := 30) rfl
theorem d_N_doublesOf_57 : decode mN_doublesOf.2.1 57 = .ok (.getfield 138, 3) := dq_get dd_N_doublesOf_0 (i := 31) rfl
theorem dd_N_doublesOf_32 : dq mN_doublesOf.2.1 [(60, .iload_n 3, 1), (61, .iaload, 1), (62, .aload_n 0, 1), (63, .getfield 31, 3), (66, .getfield 138, 3), (69, .iload_n 1, 1), (70, .iaload, 1), (71, .isub, 1), (72, .bipush 12, 2), (74, .irem, 1), (75, .ifCond .ne 9, 3), (78, .iload_n 2, 1), (79, .iconst 1, 1), (80, .iload_n 3, 1), (81, .ishl, 1), (82, .ior, 1), (83, .istore_n 2, 1), (84, .iinc 3 1, 3), (87, .goto (-83), 3), (90, .iload_n 2, 1), (91, .ireturn, 1)] = true := by decide +kernel
theorem d_N_doublesOf_60 : decode mN_doublesOf.2.1 60 = .ok (.iload_n 3, 1) := dq_get dd_N_doublesOf_32 (i := 0) rfl
theorem d_N_doublesOf_61 : decode mN_doublesOf.2.1 61 = .ok (.iaload, 1) := dq_get dd_N_doublesOf_32 (i := 1) rfl
theorem d_N_doublesOf_62 : decode mN_doublesOf.2.1 62 = .ok (.aload_n 0, 1) := dq_get dd_N_doublesOf_32 (i := 2) rfl
theorem d_N_doublesOf_63 : decode mN_doublesOf.2.1 63 = .ok (.getfield 31, 3) := dq_get dd_N_doublesOf_32 (i := 3) rfl
theorem d_N_doublesOf_66 : decode mN_doublesOf.2.1 66 = .ok (.getfield 138, 3) := dq_get dd_N_doublesOf_32 (i := 4) rfl
theorem d_N_doublesOf_69 : decode mN_doublesOf.2.1 69 = .ok (.iload_n 1, 1) := dq_get dd_N_doublesOf_32 (i := 5) rfl
theorem d_N_doublesOf_70 : decode mN_doublesOf.2.1 70 = .ok (.iaload, 1) := dq_get dd_N_doublesOf_32 (i := 6) rfl
theorem d_N_doublesOf_71 : decode mN_doublesOf.2.1 71 = .ok (.isub, 1) := dq_get dd_N_doublesOf_32 (i := 7) rfl
theorem d_N_doublesOf_72 : decode mN_doublesOf.2.1 72 = .ok (.bipush 12, 2) := dq_get dd_N_doublesOf_32 (i := 8) rfl
theorem d_N_doublesOf_74 : decode mN_doublesOf.2.1 74 = .ok (.irem, 1) := dq_get dd_N_doublesOf_32 (i := 9) rfl
theorem d_N_doublesOf_75 : decode mN_doublesOf.2.1 75 = .ok (.ifCond .ne 9, 3) := dq_get dd_N_doublesOf_32 (i := 10) rfl
theorem d_N_doublesOf_78 : decode mN_doublesOf.2.1 78 = .ok (.iload_n 2, 1) := dq_get dd_N_doublesOf_32 (i := 11) rfl
theorem d_N_doublesOf_79 : decode mN_doublesOf.2.1 79 = .ok (.iconst 1, 1) := dq_get dd_N_doublesOf_32 (i := 12) rfl
theorem d_N_doublesOf_80 : decode mN_doublesOf.2.1 80 = .ok (.iload_n 3, 1) := dq_get dd_N_doublesOf_32 (i := 13) rfl
theorem d_N_doublesOf_81 : decode mN_doublesOf.2.1 81 = .ok (.ishl, 1) := dq_get dd_N_doublesOf_32 (i := 14) rfl
theorem d_N_doublesOf_82 : decode mN_doublesOf.2.1 82 = .ok (.ior, 1) := dq_get dd_N_doublesOf_32 (i := 15) rfl
theorem d_N_doublesOf_83 : decode mN_doublesOf.2.1 83 = .ok (.istore_n 2, 1) := dq_get dd_N_doublesOf_32 (i := 16) rfl
theorem d_N_doublesOf_84 : decode mN_doublesOf.2.1 84 = .ok (.iinc 3 1, 3) := dq_get dd_N_doublesOf_32 (i := 17) rfl
theorem d_N_doublesOf_87 : decode mN_doublesOf.2.1 87 = .ok (.goto (-83), 3) := dq_get dd_N_doublesOf_32 (i := 18) rfl
theorem d_N_doublesOf_90 : decode mN_doublesOf.2.1 90 = .ok (.iload_n 2, 1) := dq_get dd_N_doublesOf_32 (i := 19) rfl
theorem d_N_doublesOf_91 : decode mN_doublesOf.2.1 91 = .ok (.ireturn, 1) := dq_get dd_N_doublesOf_32 (i := 20) rfl
theorem dd_N_part_0 : dq mN_part.2.1 [(0, .iload_n 1, 1), (1, .ifCond .lt 14, 3), (4, .iload_n 1, 1), (5, .aload_n 0, 1), (6, .getfield 24, 3), (9, .getfield 157, 3), (12, .if_icmp .lt 5, 3), (15, .iconst (-1), 1), (16, .ireturn, 1), (17, .iload_n 2, 1), (18, .tableswitch 59 0 2 #[26, 36, 45], 26), (44, .aload_n 0, 1), (45, .getfield 24, 3), (48, .getfield 160, 3), (51, .iload_n 1, 1), (52, .iaload, 1), (53, .ireturn, 1), (54, .aload_n 0, 1), (55, .getfield 24, 3), (58, .iload_n 1, 1), (59, .invokevirtual 163, 3), (62, .ireturn, 1), (63, .aload_n 0, 1), (64, .getfield 24, 3), (67, .iload_n 1, 1), (68, .invokevirtual 163, 3), (71, .aload_n 0, 1), (72, .invokevirtual 166, 3), (75, .iand, 1), (76, .ireturn, 1), (77, .iconst (-1), 1), (78, .ireturn, 1)] = true := by decide +kernel
theorem d_N_part_0 : decode mN_part.2.1 0 = .ok (.iload_n 1, 1) := dq_get dd_N_part_0 (i := 0) rfl
theorem d_N_part_1 : decode mN_part.2.1 1 = .ok (.ifCond .lt 14, 3) := dq_get dd_N_part_0 (i := 1) rfl
theorem d_N_part_4 : decode mN_part.2.1 4 = .ok (.iload_n 1, 1) := dq_get dd_N_part_0 (i := 2) rfl
theorem d_N_part_5 : decode mN_part.2.1 5 = .ok (.aload_n 0, 1) := dq_get dd_N_part_0 (i := 3) rfl
theorem d_N_part_6 : decode mN_part.2.1 6 = .ok (.getfield 24, 3) := dq_get dd_N_part_0 (i := 4) rfl
theorem d_N_part_9 : decode mN_part.2.1 9 = .ok (.getfield 157, 3) := dq_get dd_N_part_0 (i := 5) rfl
theorem d_N_part_12 : decode mN_part.2.1 12 = .ok (.if_icmp .lt 5, 3) := dq_get dd_N_part_0 (i := 6) rfl
theorem d_N_part_15 : decode mN_part.2.1 15 = .ok (.iconst (-1), 1) := dq_get dd_N_part_0 (i := 7) rfl
theorem d_N_part_16 : decode mN_part.2.1 16 = .ok (.ireturn, 1) := dq_get dd_N_part_0 (i := 8) rfl
theorem d_N_part_17 : decode mN_part.2.1 17 = .ok (.iload_n 2, 1) := dq_get dd_N_part_0 (i := 9) rfl
theorem d_N_part_18 : decode mN_part.2.1 18 = .ok (.tableswitch 59 0 2 #[26, 36, 45], 26) := dq_get dd_N_part_0 (i := 10) rfl
theorem d_N_part_44 : decode mN_part.2.1 44 = .ok (.aload_n 0, 1) := dq_get dd_N_part_0 (i := 11) rfl
theorem d_N_part_45 : decode mN_part.2.1 45 = .ok (.getfield 24, 3) := dq_get dd_N_part_0 (i := 12) rfl
theorem d_N_part_48 : decode mN_part.2.1 48 = .ok (.getfield 160, 3) := dq_get dd_N_part_0 (i := 13) rfl
theorem d_N_part_51 : decode mN_part.2.1 51 = .ok (.iload_n 1, 1) := dq_get dd_N_part_0 (i := 14) rfl
theorem d_N_part_52 : decode mN_part.2.1 52 = .ok (.iaload, 1) := dq_get dd_N_part_0 (i := 15) rfl
theorem d_N_part_53 : decode mN_part.2.1 53 = .ok (.ireturn, 1) := dq_get dd_N_part_0 (i := 16) rfl
theorem d_N_part_54 : decode mN_part.2.1 54 = .ok (.aload_n 0, 1) := dq_get dd_N_part_0 (i := 17) rfl
theorem d_N_part_55 : decode mN_part.2.1 55 = .ok (.getfield 24, 3) := dq_get dd_N_part_0 (i := 18) rfl
theorem d_N_part_58 : decode mN_part.2.1 58 = .ok (.iload_n 1, 1) := dq_get dd_N_part_0 (i := 19) rfl
theorem d_N_part_59 : decode mN_part.2.1 59 = .ok (.invokevirtual 163, 3) := dq_get dd_N_part_0 (i := 20) rfl
theorem d_N_part_62 : decode mN_part.2.1 62 = .ok (.ireturn, 1) := dq_get dd_N_part_0 (i := 21) rfl
theorem d_N_part_63 : decode mN_part.2.1 63 = .ok (.aload_n 0, 1) := dq_get dd_N_part_0 (i := 22) rfl
theorem d_N_part_64 : decode mN_part.2.1 64 = .ok (.getfield 24, 3) := dq_get dd_N_part_0 (i := 23) rfl
theorem d_N_part_67 : decode mN_part.2.1 67 = .ok (.iload_n 1, 1) := dq_get dd_N_part_0 (i := 24) rfl
theorem d_N_part_68 : decode mN_part.2.1 68 = .ok (.invokevirtual 163, 3) := dq_get dd_N_part_0 (i := 25) rfl
theorem d_N_part_71 : decode mN_part.2.1 71 = .ok (.aload_n 0, 1) := dq_get dd_N_part_0 (i := 26) rfl
theorem d_N_part_72 : decode mN_part.2.1 72 = .ok (.invokevirtual 166, 3) := dq_get dd_N_part_0 (i := 27) rfl
theorem d_N_part_75 : decode mN_part.2.1 75 = .ok (.iand, 1) := dq_get dd_N_part_0 (i := 28) rfl
theorem d_N_part_76 : decode mN_part.2.1 76 = .ok (.ireturn, 1) := dq_get dd_N_part_0 (i := 29) rfl
theorem d_N_part_77 : decode mN_part.2.1 77 = .ok (.iconst (-1), 1) := dq_get dd_N_part_0 (i := 30) rfl
theorem d_N_part_78 : decode mN_part.2.1 78 = .ok (.ireturn, 1) := dq_get dd_N_part_0 (i := 31) rfl
theorem dd_N_givenSet_0 : dq mN_givenSet.2.1 [(0, .aload_n 0, 1), (1, .getfield 31, 3), (4, .iconst 1, 1), (5, .invokevirtual 205, 3), (8, .aload_n 0, 1), (9, .getfield 31, 3), (12, .iconst 2, 1), (13, .invokevirtual 205, 3), (16, .ior, 1), (17, .ireturn, 1)] = true := by decide +kernel
theorem d_N_givenSet_0 : decode mN_givenSet.2.1 0 = .ok (.aload_n 0, 1) := dq_get dd_N_givenSet_0 (i := 0) rfl
theorem d_N_givenSet_1 : decode mN_givenSet.2.1 1 = .ok (.getfield 31, 3) := dq_get dd_N_givenSet_0 (i := 1) rfl
theorem d_N_givenSet_4 : decode mN_givenSet.2.1 4 = .ok (.iconst 1, 1) := dq_get dd_N_givenSet_0 (i := 2) rfl
theorem d_N_givenSet_5 : decode mN_givenSet.2.1 5 = .ok (.invokevirtual 205, 3) := dq_get dd_N_givenSet_0 (i := 3) rfl
theorem d_N_givenSet_8 : decode mN_givenSet.2.1 8 = .ok (.aload_n 0, 1) := dq_get dd_N_givenSet_0 (i := 4) rfl
theorem d_N_givenSet_9 : decode mN_givenSet.2.1 9 = .ok (.getfield 31, 3) := dq_get dd_N_givenSet_0 (i := 5) rfl
theorem d_N_givenSet_12 : decode mN_givenSet.2.1 12 = .ok (.iconst 2, 1) := dq_get dd_N_givenSet_0 (i := 6) rfl
theorem d_N_givenSet_13 : decode mN_givenSet.2.1 13 = .ok (.invokevirtual 205, 3) := dq_get dd_N_givenSet_0 (i := 7) rfl
theorem d_N_givenSet_16 : decode mN_givenSet.2.1 16 = .ok (.ior, 1) := dq_get dd_N_givenSet_0 (i := 8) rfl
theorem d_N_givenSet_17 : decode mN_givenSet.2.1 17 = .ok (.ireturn, 1) := dq_get dd_N_givenSet_0 (i := 9) rfl
theorem dd_N_held_0 : dq mN_held.2.1 [(0, .aload_n 0, 1), (1, .iload_n 1, 1), (2, .invokevirtual 170, 3), (5, .ifCond .eq 10, 3), (8, .iload_n 2, 1), (9, .invokestatic 173, 3), (12, .ifCond .ne 5, 3), (15, .iconst (-1), 1), (16, .ireturn, 1), (17, .aload_n 0, 1), (18, .invokevirtual 176, 3), (21, .aload_n 0, 1), (22, .getfield 57, 3), (25, .iload_n 2, 1), (26, .iload_n 1, 1), (27, .invokevirtual 179, 3), (30, .ireturn, 1)] = true := by decide +kernel
theorem d_N_held_0 : decode mN_held.2.1 0 = .ok (.aload_n 0, 1) := dq_get dd_N_held_0 (i := 0) rfl
theorem d_N_held_1 : decode mN_held.2.1 1 = .ok (.iload_n 1, 1) := dq_get dd_N_held_0 (i := 1) rfl
theorem d_N_held_2 : decode mN_held.2.1 2 = .ok (.invokevirtual 170, 3) := dq_get dd_N_held_0 (i := 2) rfl
theorem d_N_held_5 : decode mN_held.2.1 5 = .ok (.ifCond .eq 10, 3) := dq_get dd_N_held_0 (i := 3) rfl
theorem d_N_held_8 : decode mN_held.2.1 8 = .ok (.iload_n 2, 1) := dq_get dd_N_held_0 (i := 4) rfl
theorem d_N_held_9 : decode mN_held.2.1 9 = .ok (.invokestatic 173, 3) := dq_get dd_N_held_0 (i := 5) rfl
theorem d_N_held_12 : decode mN_held.2.1 12 = .ok (.ifCond .ne 5, 3) := dq_get dd_N_held_0 (i := 6) rfl
theorem d_N_held_15 : decode mN_held.2.1 15 = .ok (.iconst (-1), 1) := dq_get dd_N_held_0 (i := 7) rfl
theorem d_N_held_16 : decode mN_held.2.1 16 = .ok (.ireturn, 1) := dq_get dd_N_held_0 (i := 8) rfl
theorem d_N_held_17 : decode mN_held.2.1 17 = .ok (.aload_n 0, 1) := dq_get dd_N_held_0 (i := 9) rfl
theorem d_N_held_18 : decode mN_held.2.1 18 = .ok (.invokevirtual 176, 3) := dq_get dd_N_held_0 (i := 10) rfl
theorem d_N_held_21 : decode mN_held.2.1 21 = .ok (.aload_n 0, 1) := dq_get dd_N_held_0 (i := 11) rfl
theorem d_N_held_22 : decode mN_held.2.1 22 = .ok (.getfield 57, 3) := dq_get dd_N_held_0 (i := 12) rfl
theorem d_N_held_25 : decode mN_held.2.1 25 = .ok (.iload_n 2, 1) := dq_get dd_N_held_0 (i := 13) rfl
theorem d_N_held_26 : decode mN_held.2.1 26 = .ok (.iload_n 1, 1) := dq_get dd_N_held_0 (i := 14) rfl
theorem d_N_held_27 : decode mN_held.2.1 27 = .ok (.invokevirtual 179, 3) := dq_get dd_N_held_0 (i := 15) rfl
theorem d_N_held_30 : decode mN_held.2.1 30 = .ok (.ireturn, 1) := dq_get dd_N_held_0 (i := 16) rfl
theorem dd_N_isBeat_0 : dq mN_isBeat.2.1 [(0, .iload_n 1, 1), (1, .ifCond .lt 18, 3), (4, .iload_n 1, 1), (5, .aload_n 0, 1), (6, .getfield 24, 3), (9, .getfield 198, 3), (12, .if_icmp .ge 7, 3), (15, .iconst 1, 1), (16, .goto 4, 3), (19, .iconst 0, 1), (20, .ireturn, 1)] = true := by decide +kernel
theorem d_N_isBeat_0 : decode mN_isBeat.2.1 0 = .ok (.iload_n 1, 1) := dq_get dd_N_isBeat_0 (i := 0) rfl
theorem d_N_isBeat_1 : decode mN_isBeat.2.1 1 = .ok (.ifCond .lt 18, 3) := dq_get dd_N_isBeat_0 (i := 1) rfl
theorem d_N_isBeat_4 : decode mN_isBeat.2.1 4 = .ok (.iload_n 1, 1) := dq_get dd_N_isBeat_0 (i := 2) rfl
theorem d_N_isBeat_5 : decode mN_isBeat.2.1 5 = .ok (.aload_n 0, 1) := dq_get dd_N_isBeat_0 (i := 3) rfl
theorem d_N_isBeat_6 : decode mN_isBeat.2.1 6 = .ok (.getfield 24, 3) := dq_get dd_N_isBeat_0 (i := 4) rfl
theorem d_N_isBeat_9 : decode mN_isBeat.2.1 9 = .ok (.getfield 198, 3) := dq_get dd_N_isBeat_0 (i := 5) rfl
theorem d_N_isBeat_12 : decode mN_isBeat.2.1 12 = .ok (.if_icmp .ge 7, 3) := dq_get dd_N_isBeat_0 (i := 6) rfl
theorem d_N_isBeat_15 : decode mN_isBeat.2.1 15 = .ok (.iconst 1, 1) := dq_get dd_N_isBeat_0 (i := 7) rfl
theorem d_N_isBeat_16 : decode mN_isBeat.2.1 16 = .ok (.goto 4, 3) := dq_get dd_N_isBeat_0 (i := 8) rfl
theorem d_N_isBeat_19 : decode mN_isBeat.2.1 19 = .ok (.iconst 0, 1) := dq_get dd_N_isBeat_0 (i := 9) rfl
theorem d_N_isBeat_20 : decode mN_isBeat.2.1 20 = .ok (.ireturn, 1) := dq_get dd_N_isBeat_0 (i := 10) rfl
theorem dd_N_isHand_0 : dq mN_isHand.2.1 [(0, .iload_n 0, 1), (1, .iconst 1, 1), (2, .if_icmp .eq 8, 3), (5, .iload_n 0, 1), (6, .iconst 2, 1), (7, .if_icmp .ne 7, 3), (10, .iconst 1, 1), (11, .goto 4, 3), (14, .iconst 0, 1), (15, .ireturn, 1)] = true := by decide +kernel
theorem d_N_isHand_0 : decode mN_isHand.2.1 0 = .ok (.iload_n 0, 1) := dq_get dd_N_isHand_0 (i := 0) rfl
theorem d_N_isHand_1 : decode mN_isHand.2.1 1 = .ok (.iconst 1, 1) := dq_get dd_N_isHand_0 (i := 1) rfl
theorem d_N_isHand_2 : decode mN_isHand.2.1 2 = .ok (.if_icmp .eq 8, 3) := dq_get dd_N_isHand_0 (i := 2) rfl
theorem d_N_isHand_5 : decode mN_isHand.2.1 5 = .ok (.iload_n 0, 1) := dq_get dd_N_isHand_0 (i := 3) rfl
theorem d_N_isHand_6 : decode mN_isHand.2.1 6 = .ok (.iconst 2, 1) := dq_get dd_N_isHand_0 (i := 4) rfl
theorem d_N_isHand_7 : decode mN_isHand.2.1 7 = .ok (.if_icmp .ne 7, 3) := dq_get dd_N_isHand_0 (i := 5) rfl
theorem d_N_isHand_10 : decode mN_isHand.2.1 10 = .ok (.iconst 1, 1) := dq_get dd_N_isHand_0 (i := 6) rfl
theorem d_N_isHand_11 : decode mN_isHand.2.1 11 = .ok (.goto 4, 3) := dq_get dd_N_isHand_0 (i := 7) rfl
theorem d_N_isHand_14 : decode mN_isHand.2.1 14 = .ok (.iconst 0, 1) := dq_get dd_N_isHand_0 (i := 8) rfl
theorem d_N_isHand_15 : decode mN_isHand.2.1 15 = .ok (.ireturn, 1) := dq_get dd_N_isHand_0 (i := 9) rfl
theorem dd_N_lookAtKeys_0 : dq mN_lookAtKeys.2.1 [(0, .aload_n 0, 1), (1, .getfield 57, 3), (4, .aload_n 0, 1), (5, .getfield 24, 3), (8, .aload_n 0, 1), (9, .getfield 31, 3), (12, .invokevirtual 201, 3), (15, .return_, 1)] = true := by decide +kernel
theorem d_N_lookAtKeys_0 : decode mN_lookAtKeys.2.1 0 = .ok (.aload_n 0, 1) := dq_get dd_N_lookAtKeys_0 (i := 0) rfl
theorem d_N_lookAtKeys_1 : decode mN_lookAtKeys.2.1 1 = .ok (.getfield 57, 3) := dq_get dd_N_lookAtKeys_0 (i := 1) rfl
theorem d_N_lookAtKeys_4 : decode mN_lookAtKeys.2.1 4 = .ok (.aload_n 0, 1) := dq_get dd_N_lookAtKeys_0 (i := 2) rfl
theorem d_N_lookAtKeys_5 : decode mN_lookAtKeys.2.1 5 = .ok (.getfield 24, 3) := dq_get dd_N_lookAtKeys_0 (i := 3) rfl
theorem d_N_lookAtKeys_8 : decode mN_lookAtKeys.2.1 8 = .ok (.aload_n 0, 1) := dq_get dd_N_lookAtKeys_0 (i := 4) rfl
theorem d_N_lookAtKeys_9 : decode mN_lookAtKeys.2.1 9 = .ok (.getfield 31, 3) := dq_get dd_N_lookAtKeys_0 (i := 5) rfl
theorem d_N_lookAtKeys_12 : decode mN_lookAtKeys.2.1 12 = .ok (.invokevirtual 201, 3) := dq_get dd_N_lookAtKeys_0 (i := 6) rfl
theorem d_N_lookAtKeys_15 : decode mN_lookAtKeys.2.1 15 = .ok (.return_, 1) := dq_get dd_N_lookAtKeys_0 (i := 7) rfl
theorem dd_N_sounds_0 : dq mN_sounds.2.1 [(0, .aload_n 0, 1), (1, .iload_n 1, 1), (2, .invokevirtual 170, 3), (5, .ifCond .ne 5, 3), (8, .iconst (-1), 1), (9, .ireturn, 1), (10, .aload_n 0, 1), (11, .invokevirtual 176, 3), (14, .aload_n 0, 1), (15, .getfield 57, 3), (18, .iload_n 1, 1), (19, .invokevirtual 185, 3), (22, .ireturn, 1)] = true := by decide +kernel
theorem d_N_sounds_0 : decode mN_sounds.2.1 0 = .ok (.aload_n 0, 1) := dq_get dd_N_sounds_0 (i := 0) rfl
theorem d_N_sounds_1 : decode mN_sounds.2.1 1 = .ok (.iload_n 1, 1) := dq_get dd_N_sounds_0 (i := 1) rfl
theorem d_N_sounds_2 : decode mN_sounds.2.1 2 = .ok (.invokevirtual 170, 3) := dq_get dd_N_sounds_0 (i := 2) rfl
theorem d_N_sounds_5 : decode mN_sounds.2.1 5 = .ok (.ifCond .ne 5, 3) := dq_get dd_N_sounds_0 (i := 3) rfl
theorem d_N_sounds_8 : decode mN_sounds.2.1 8 = .ok (.iconst (-1), 1) := dq_get dd_N_sounds_0 (i := 4) rfl
theorem d_N_sounds_9 : decode mN_sounds.2.1 9 = .ok (.ireturn, 1) := dq_get dd_N_sounds_0 (i := 5) rfl
theorem d_N_sounds_10 : decode mN_sounds.2.1 10 = .ok (.aload_n 0, 1) := dq_get dd_N_sounds_0 (i := 6) rfl
theorem d_N_sounds_11 : decode mN_sounds.2.1 11 = .ok (.invokevirtual 176, 3) := dq_get dd_N_sounds_0 (i := 7) rfl
theorem d_N_sounds_14 : decode mN_sounds.2.1 14 = .ok (.aload_n 0, 1) := dq_get dd_N_sounds_0 (i := 8) rfl
theorem d_N_sounds_15 : decode mN_sounds.2.1 15 = .ok (.getfield 57, 3) := dq_get dd_N_sounds_0 (i := 9) rfl
theorem d_N_sounds_18 : decode mN_sounds.2.1 18 = .ok (.iload_n 1, 1) := dq_get dd_N_sounds_0 (i := 10) rfl
theorem d_N_sounds_19 : decode mN_sounds.2.1 19 = .ok (.invokevirtual 185, 3) := dq_get dd_N_sounds_0 (i := 11) rfl
theorem d_N_sounds_22 : decode mN_sounds.2.1 22 = .ok (.ireturn, 1) := dq_get dd_N_sounds_0 (i := 12) rfl
theorem dd_N_clash_0 : dq mN_clash.2.1 [(0, .aload_n 0, 1), (1, .iload_n 1, 1), (2, .invokevirtual 170, 3), (5, .ifCond .ne 5, 3), (8, .iconst (-1), 1), (9, .ireturn, 1), (10, .aload_n 0, 1), (11, .invokevirtual 176, 3), (14, .aload_n 0, 1), (15, .getfield 57, 3), (18, .aload_n 0, 1), (19, .getfield 57, 3), (22, .getfield 188, 3), (25, .aload_n 0, 1), (26, .getfield 57, 3), (29, .getfield 191, 3), (32, .iload_n 1, 1), (33, .invokevirtual 194, 3), (36, .ireturn, 1)] = true := by decide +kernel
theorem d_N_clash_0 : decode mN_clash.2.1 0 = .ok (.aload_n 0, 1) := dq_get dd_N_clash_0 (i := 0) rfl
theorem d_N_clash_1 : decode mN_clash.2.1 1 = .ok (.iload_n 1, 1) := dq_get dd_N_clash_0 (i := 1) rfl
theorem d_N_clash_2 : decode mN_clash.2.1 2 = .ok (.invokevirtual 170, 3) := dq_get dd_N_clash_0 (i := 2) rfl
theorem d_N_clash_5 : decode mN_clash.2.1 5 = .ok (.ifCond .ne 5, 3) := dq_get dd_N_clash_0 (i := 3) rfl
theorem d_N_clash_8 : decode mN_clash.2.1 8 = .ok (.iconst (-1), 1) := dq_get dd_N_clash_0 (i := 4) rfl
theorem d_N_clash_9 : decode mN_clash.2.1 9 = .ok (.ireturn, 1) := dq_get dd_N_clash_0 (i := 5) rfl
theorem d_N_clash_10 : decode mN_clash.2.1 10 = .ok (.aload_n 0, 1) := dq_get dd_N_clash_0 (i := 6) rfl
theorem d_N_clash_11 : decode mN_clash.2.1 11 = .ok (.invokevirtual 176, 3) := dq_get dd_N_clash_0 (i := 7) rfl
theorem d_N_clash_14 : decode mN_clash.2.1 14 = .ok (.aload_n 0, 1) := dq_get dd_N_clash_0 (i := 8) rfl
theorem d_N_clash_15 : decode mN_clash.2.1 15 = .ok (.getfield 57, 3) := dq_get dd_N_clash_0 (i := 9) rfl
theorem d_N_clash_18 : decode mN_clash.2.1 18 = .ok (.aload_n 0, 1) := dq_get dd_N_clash_0 (i := 10) rfl
theorem d_N_clash_19 : decode mN_clash.2.1 19 = .ok (.getfield 57, 3) := dq_get dd_N_clash_0 (i := 11) rfl
theorem d_N_clash_22 : decode mN_clash.2.1 22 = .ok (.getfield 188, 3) := dq_get dd_N_clash_0 (i := 12) rfl
theorem d_N_clash_25 : decode mN_clash.2.1 25 = .ok (.aload_n 0, 1) := dq_get dd_N_clash_0 (i := 13) rfl
theorem d_N_clash_26 : decode mN_clash.2.1 26 = .ok (.getfield 57, 3) := dq_get dd_N_clash_0 (i := 14) rfl
theorem d_N_clash_29 : decode mN_clash.2.1 29 = .ok (.getfield 191, 3) := dq_get dd_N_clash_0 (i := 15) rfl
theorem d_N_clash_32 : decode mN_clash.2.1 32 = .ok (.iload_n 1, 1) := dq_get dd_N_clash_0 (i := 16) rfl
theorem d_N_clash_33 : decode mN_clash.2.1 33 = .ok (.invokevirtual 194, 3) := dq_get dd_N_clash_0 (i := 17) rfl
theorem d_N_clash_36 : decode mN_clash.2.1 36 = .ok (.ireturn, 1) := dq_get dd_N_clash_0 (i := 18) rfl
theorem dd_N_give_0 : dq mN_give.2.1 [(0, .aload_n 0, 1), (1, .iload_n 1, 1), (2, .invokevirtual 128, 3), (5, .ifCond .eq 25, 3), (8, .iload_n 2, 1), (9, .ifCond .lt 21, 3), (12, .iload_n 2, 1), (13, .iconst 2, 1), (14, .if_icmp .gt 16, 3), (17, .aload_n 0, 1), (18, .getfield 31, 3), (21, .getfield 147, 3), (24, .iload_n 1, 1), (25, .iaload, 1), (26, .iload_n 2, 1), (27, .if_icmp .ne 5, 3), (30, .iconst (-1), 1), (31, .ireturn, 1), (32, .aload_n 0, 1), (33, .getfield 42, 3), (36, .aload_n 0, 1), (37, .getfield 31, 3), (40, .iconst 0, 1), (41, .iload_n 1, 1), (42, .iload_n 2, 1), (43, .invokevirtual 237, 3), (46, .aload_n 0, 1), (47, .invokevirtual 241, 3), (50, .ireturn, 1)] = true := by decide +kernel
theorem d_N_give_0 : decode mN_give.2.1 0 = .ok (.aload_n 0, 1) := dq_get dd_N_give_0 (i := 0) rfl
theorem d_N_give_1 : decode mN_give.2.1 1 = .ok (.iload_n 1, 1) := dq_get dd_N_give_0 (i := 1) rfl
theorem d_N_give_2 : decode mN_give.2.1 2 = .ok (.invokevirtual 128, 3) := dq_get dd_N_give_0 (i := 2) rfl
theorem d_N_give_5 : decode mN_give.2.1 5 = .ok (.ifCond .eq 25, 3) := dq_get dd_N_give_0 (i := 3) rfl
theorem d_N_give_8 : decode mN_give.2.1 8 = .ok (.iload_n 2, 1) := dq_get dd_N_give_0 (i := 4) rfl
theorem d_N_give_9 : decode mN_give.2.1 9 = .ok (.ifCond .lt 21, 3) := dq_get dd_N_give_0 (i := 5) rfl
theorem d_N_give_12 : decode mN_give.2.1 12 = .ok (.iload_n 2, 1) := dq_get dd_N_give_0 (i := 6) rfl
theorem d_N_give_13 : decode mN_give.2.1 13 = .ok (.iconst 2, 1) := dq_get dd_N_give_0 (i := 7) rfl
theorem d_N_give_14 : decode mN_give.2.1 14 = .ok (.if_icmp .gt 16, 3) := dq_get dd_N_give_0 (i := 8) rfl
theorem d_N_give_17 : decode mN_give.2.1 17 = .ok (.aload_n 0, 1) := dq_get dd_N_give_0 (i := 9) rfl
theorem d_N_give_18 : decode mN_give.2.1 18 = .ok (.getfield 31, 3) := dq_get dd_N_give_0 (i := 10) rfl
theorem d_N_give_21 : decode mN_give.2.1 21 = .ok (.getfield 147, 3) := dq_get dd_N_give_0 (i := 11) rfl
theorem d_N_give_24 : decode mN_give.2.1 24 = .ok (.iload_n 1, 1) := dq_get dd_N_give_0 (i := 12) rfl
theorem d_N_give_25 : decode mN_give.2.1 25 = .ok (.iaload, 1) := dq_get dd_N_give_0 (i := 13) rfl
theorem d_N_give_26 : decode mN_give.2.1 26 = .ok (.iload_n 2, 1) := dq_get dd_N_give_0 (i := 14) rfl
theorem d_N_give_27 : decode mN_give.2.1 27 = .ok (.if_icmp .ne 5, 3) := dq_get dd_N_give_0 (i := 15) rfl
theorem d_N_give_30 : decode mN_give.2.1 30 = .ok (.iconst (-1), 1) := dq_get dd_N_give_0 (i := 16) rfl
theorem d_N_give_31 : decode mN_give.2.1 31 = .ok (.ireturn, 1) := dq_get dd_N_give_0 (i := 17) rfl
theorem d_N_give_32 : decode mN_give.2.1 32 = .ok (.aload_n 0, 1) := dq_get dd_N_give_0 (i := 18) rfl
theorem d_N_give_33 : decode mN_give.2.1 33 = .ok (.getfield 42, 3) := dq_get dd_N_give_0 (i := 19) rfl
theorem d_N_give_36 : decode mN_give.2.1 36 = .ok (.aload_n 0, 1) := dq_get dd_N_give_0 (i := 20) rfl
theorem d_N_give_37 : decode mN_give.2.1 37 = .ok (.getfield 31, 3) := dq_get dd_N_give_0 (i := 21) rfl
theorem d_N_give_40 : decode mN_give.2.1 40 = .ok (.iconst 0, 1) := dq_get dd_N_give_0 (i := 22) rfl
theorem d_N_give_41 : decode mN_give.2.1 41 = .ok (.iload_n 1, 1) := dq_get dd_N_give_0 (i := 23) rfl
theorem d_N_give_42 : decode mN_give.2.1 42 = .ok (.iload_n 2, 1) := dq_get dd_N_give_0 (i := 24) rfl
theorem d_N_give_43 : decode mN_give.2.1 43 = .ok (.invokevirtual 237, 3) := dq_get dd_N_give_0 (i := 25) rfl
theorem d_N_give_46 : decode mN_give.2.1 46 = .ok (.aload_n 0, 1) := dq_get dd_N_give_0 (i := 26) rfl
theorem d_N_give_47 : decode mN_give.2.1 47 = .ok (.invokevirtual 241, 3) := dq_get dd_N_give_0 (i := 27) rfl
theorem d_N_give_50 : decode mN_give.2.1 50 = .ok (.ireturn, 1) := dq_get dd_N_give_0 (i := 28) rfl
theorem dd_N_clashes_0 : dq mN_clashes.2.1 [(0, .aload_n 0, 1), (1, .invokevirtual 176, 3), (4, .aload_n 0, 1), (5, .getfield 57, 3), (8, .aload_n 0, 1), (9, .getfield 57, 3), (12, .getfield 188, 3), (15, .aload_n 0, 1), (16, .getfield 57, 3), (19, .getfield 191, 3), (22, .invokevirtual 257, 3), (25, .ireturn, 1)] = true := by decide +kernel
theorem d_N_clashes_0 : decode mN_clashes.2.1 0 = .ok (.aload_n 0, 1) := dq_get dd_N_clashes_0 (i := 0) rfl
theorem d_N_clashes_1 : decode mN_clashes.2.1 1 = .ok (.invokevirtual 176, 3) := dq_get dd_N_clashes_0 (i := 1) rfl
theorem d_N_clashes_4 : decode mN_clashes.2.1 4 = .ok (.aload_n 0, 1) := dq_get dd_N_clashes_0 (i := 2) rfl
theorem d_N_clashes_5 : decode mN_clashes.2.1 5 = .ok (.getfield 57, 3) := dq_get dd_N_clashes_0 (i := 3) rfl
theorem d_N_clashes_8 : decode mN_clashes.2.1 8 = .ok (.aload_n 0, 1) := dq_get dd_N_clashes_0 (i := 4) rfl
theorem d_N_clashes_9 : decode mN_clashes.2.1 9 = .ok (.getfield 57, 3) := dq_get dd_N_clashes_0 (i := 5) rfl
theorem d_N_clashes_12 : decode mN_clashes.2.1 12 = .ok (.getfield 188, 3) := dq_get dd_N_clashes_0 (i := 6) rfl
theorem d_N_clashes_15 : decode mN_clashes.2.1 15 = .ok (.aload_n 0, 1) := dq_get dd_N_clashes_0 (i := 7) rfl
theorem d_N_clashes_16 : decode mN_clashes.2.1 16 = .ok (.getfield 57, 3) := dq_get dd_N_clashes_0 (i := 8) rfl
theorem d_N_clashes_19 : decode mN_clashes.2.1 19 = .ok (.getfield 191, 3) := dq_get dd_N_clashes_0 (i := 9) rfl
theorem d_N_clashes_22 : decode mN_clashes.2.1 22 = .ok (.invokevirtual 257, 3) := dq_get dd_N_clashes_0 (i := 10) rfl
theorem d_N_clashes_25 : decode mN_clashes.2.1 25 = .ok (.ireturn, 1) := dq_get dd_N_clashes_0 (i := 11) rfl
theorem dd_N_shift_0 : dq mN_shift.2.1 [(0, .aload_n 0, 1), (1, .iload_n 1, 1), (2, .invokevirtual 128, 3), (5, .ifCond .eq 19, 3), (8, .iload_n 2, 1), (9, .bipush (-7), 2), (11, .if_icmp .lt 13, 3), (14, .iload_n 2, 1), (15, .bipush 7, 2), (17, .if_icmp .gt 7, 3), (20, .iload_n 2, 1), (21, .ifCond .ne 5, 3), (24, .iconst (-1), 1), (25, .ireturn, 1), (26, .aload_n 0, 1), (27, .getfield 31, 3), (30, .getfield 138, 3), (33, .iload_n 1, 1), (34, .iaload, 1), (35, .iload_n 2, 1), (36, .bipush 12, 2), (38, .imul, 1), (39, .iadd, 1), (40, .istore_n 3, 1), (41, .iload_n 3, 1), (42, .invokestatic 244, 3), (45, .ifCond .ne 5, 3), (48, .iconst (-1), 1), (49, .ireturn, 1), (50, .aload_n 0, 1), (51, .getfield 42, 3), (54, .aload_n 0, 1)] = true := by decide +kernel
theorem d_N_shift_0 : decode mN_shift.2.1 0 = .ok (.aload_n 0, 1) := dq_get dd_N_shift_0 (i := 0) rfl
theorem d_N_shift_1 : decode mN_shift.2.1 1 = .ok (.iload_n 1, 1) := dq_get dd_N_shift_0 (i := 1) rfl
theorem d_N_shift_2 : decode mN_shift.2.1 2 = .ok (.invokevirtual 128, 3) := dq_get dd_N_shift_0 (i := 2) rfl
theorem d_N_shift_5 : decode mN_shift.2.1 5 = .ok (.ifCond .eq 19, 3) := dq_get dd_N_shift_0 (i := 3) rfl
theorem d_N_shift_8 : decode mN_shift.2.1 8 = .ok (.iload_n 2, 1) := dq_get dd_N_shift_0 (i := 4) rfl
theorem d_N_shift_9 : decode mN_shift.2.1 9 = .ok (.bipush (-7), 2) := dq_get dd_N_shift_0 (i := 5) rfl
theorem d_N_shift_11 : decode mN_shift.2.1 11 = .ok (.if_icmp .lt 13, 3) := dq_get dd_N_shift_0 (i := 6) rfl
theorem d_N_shift_14 : decode mN_shift.2.1 14 = .ok (.iload_n 2, 1) := dq_get dd_N_shift_0 (i := 7) rfl
theorem d_N_shift_15 : decode mN_shift.2.1 15 = .ok (.bipush 7, 2) := dq_get dd_N_shift_0 (i := 8) rfl
theorem d_N_shift_17 : decode mN_shift.2.1 17 = .ok (.if_icmp .gt 7, 3) := dq_get dd_N_shift_0 (i := 9) rfl
theorem d_N_shift_20 : decode mN_shift.2.1 20 = .ok (.iload_n 2, 1) := dq_get dd_N_shift_0 (i := 10) rfl
theorem d_N_shift_21 : decode mN_shift.2.1 21 = .ok (.ifCond .ne 5, 3) := dq_get dd_N_shift_0 (i := 11) rfl
theorem d_N_shift_24 : decode mN_shift.2.1 24 = .ok (.iconst (-1), 1) := dq_get dd_N_shift_0 (i := 12) rfl
theorem d_N_shift_25 : decode mN_shift.2.1 25 = .ok (.ireturn, 1) := dq_get dd_N_shift_0 (i := 13) rfl
theorem d_N_shift_26 : decode mN_shift.2.1 26 = .ok (.aload_n 0, 1) := dq_get dd_N_shift_0 (i := 14) rfl
theorem d_N_shift_27 : decode mN_shift.2.1 27 = .ok (.getfield 31, 3) := dq_get dd_N_shift_0 (i := 15) rfl
theorem d_N_shift_30 : decode mN_shift.2.1 30 = .ok (.getfield 138, 3) := dq_get dd_N_shift_0 (i := 16) rfl
theorem d_N_shift_33 : decode mN_shift.2.1 33 = .ok (.iload_n 1, 1) := dq_get dd_N_shift_0 (i := 17) rfl
theorem d_N_shift_34 : decode mN_shift.2.1 34 = .ok (.iaload, 1) := dq_get dd_N_shift_0 (i := 18) rfl
theorem d_N_shift_35 : decode mN_shift.2.1 35 = .ok (.iload_n 2, 1) := dq_get dd_N_shift_0 (i := 19) rfl
theorem d_N_shift_36 : decode mN_shift.2.1 36 = .ok (.bipush 12, 2) := dq_get dd_N_shift_0 (i := 20) rfl
theorem d_N_shift_38 : decode mN_shift.2.1 38 = .ok (.imul, 1) := dq_get dd_N_shift_0 (i := 21) rfl
theorem d_N_shift_39 : decode mN_shift.2.1 39 = .ok (.iadd, 1) := dq_get dd_N_shift_0 (i := 22) rfl
theorem d_N_shift_40 : decode mN_shift.2.1 40 = .ok (.istore_n 3, 1) := dq_get dd_N_shift_0 (i := 23) rfl
theorem d_N_shift_41 : decode mN_shift.2.1 41 = .ok (.iload_n 3, 1) := dq_get dd_N_shift_0 (i := 24) rfl
theorem d_N_shift_42 : decode mN_shift.2.1 42 = .ok (.invokestatic 244, 3) := dq_get dd_N_shift_0 (i := 25) rfl
theorem d_N_shift_45 : decode mN_shift.2.1 45 = .ok (.ifCond .ne 5, 3) := dq_get dd_N_shift_0 (i := 26) rfl
theorem d_N_shift_48 : decode mN_shift.2.1 48 = .ok (.iconst (-1), 1) := dq_get dd_N_shift_0 (i := 27) rfl
theorem d_N_shift_49 : decode mN_shift.2.1 49 = .ok (.ireturn, 1) := dq_get dd_N_shift_0 (i := 28) rfl
theorem d_N_shift_50 : decode mN_shift.2.1 50 = .ok (.aload_n 0, 1) := dq_get dd_N_shift_0 (i := 29) rfl
theorem d_N_shift_51 : decode mN_shift.2.1 51 = .ok (.getfield 42, 3) := dq_get dd_N_shift_0 (i := 30) rfl
theorem d_N_shift_54 : decode mN_shift.2.1 54 = .ok (.aload_n 0, 1) := dq_get dd_N_shift_0 (i := 31) rfl
theorem dd_N_shift_32 : dq mN_shift.2.1 [(55, .getfield 31, 3), (58, .iconst 1, 1), (59, .iload_n 1, 1), (60, .iload_n 3, 1), (61, .invokevirtual 237, 3), (64, .iload_n 3, 1), (65, .ireturn, 1)] = true := by decide +kernel
theorem d_N_shift_55 : decode mN_shift.2.1 55 = .ok (.getfield 31, 3) := dq_get dd_N_shift_32 (i := 0) rfl
theorem d_N_shift_58 : decode mN_shift.2.1 58 = .ok (.iconst 1, 1) := dq_get dd_N_shift_32 (i := 1) rfl
theorem d_N_shift_59 : decode mN_shift.2.1 59 = .ok (.iload_n 1, 1) := dq_get dd_N_shift_32 (i := 2) rfl
theorem d_N_shift_60 : decode mN_shift.2.1 60 = .ok (.iload_n 3, 1) := dq_get dd_N_shift_32 (i := 3) rfl
theorem d_N_shift_61 : decode mN_shift.2.1 61 = .ok (.invokevirtual 237, 3) := dq_get dd_N_shift_32 (i := 4) rfl
theorem d_N_shift_64 : decode mN_shift.2.1 64 = .ok (.iload_n 3, 1) := dq_get dd_N_shift_32 (i := 5) rfl
theorem d_N_shift_65 : decode mN_shift.2.1 65 = .ok (.ireturn, 1) := dq_get dd_N_shift_32 (i := 6) rfl
theorem dd_N_isKey_0 : dq mN_isKey.2.1 [(0, .iload_n 0, 1), (1, .ifCond .lt 13, 3), (4, .iload_n 0, 1), (5, .bipush 87, 2), (7, .if_icmp .gt 7, 3), (10, .iconst 1, 1), (11, .goto 4, 3), (14, .iconst 0, 1), (15, .ireturn, 1)] = true := by decide +kernel
theorem d_N_isKey_0 : decode mN_isKey.2.1 0 = .ok (.iload_n 0, 1) := dq_get dd_N_isKey_0 (i := 0) rfl
theorem d_N_isKey_1 : decode mN_isKey.2.1 1 = .ok (.ifCond .lt 13, 3) := dq_get dd_N_isKey_0 (i := 1) rfl
theorem d_N_isKey_4 : decode mN_isKey.2.1 4 = .ok (.iload_n 0, 1) := dq_get dd_N_isKey_0 (i := 2) rfl
theorem d_N_isKey_5 : decode mN_isKey.2.1 5 = .ok (.bipush 87, 2) := dq_get dd_N_isKey_0 (i := 3) rfl
theorem d_N_isKey_7 : decode mN_isKey.2.1 7 = .ok (.if_icmp .gt 7, 3) := dq_get dd_N_isKey_0 (i := 4) rfl
theorem d_N_isKey_10 : decode mN_isKey.2.1 10 = .ok (.iconst 1, 1) := dq_get dd_N_isKey_0 (i := 5) rfl
theorem d_N_isKey_11 : decode mN_isKey.2.1 11 = .ok (.goto 4, 3) := dq_get dd_N_isKey_0 (i := 6) rfl
theorem d_N_isKey_14 : decode mN_isKey.2.1 14 = .ok (.iconst 0, 1) := dq_get dd_N_isKey_0 (i := 7) rfl
theorem d_N_isKey_15 : decode mN_isKey.2.1 15 = .ok (.ireturn, 1) := dq_get dd_N_isKey_0 (i := 8) rfl
theorem dd_N_louder_0 : dq mN_louder.2.1 [(0, .aload_n 0, 1), (1, .iload_n 1, 1), (2, .invokevirtual 128, 3), (5, .ifCond .eq 27, 3), (8, .iload_n 2, 1), (9, .iconst 1, 1), (10, .if_icmp .lt 22, 3), (13, .iload_n 2, 1), (14, .bipush 9, 2), (16, .if_icmp .gt 16, 3), (19, .aload_n 0, 1), (20, .getfield 31, 3), (23, .getfield 144, 3), (26, .iload_n 1, 1), (27, .iaload, 1), (28, .iload_n 2, 1), (29, .if_icmp .ne 5, 3), (32, .iconst (-1), 1), (33, .ireturn, 1), (34, .aload_n 0, 1), (35, .getfield 31, 3), (38, .getfield 144, 3), (41, .iload_n 1, 1), (42, .iaload, 1), (43, .istore_n 3, 1), (44, .aload_n 0, 1), (45, .getfield 42, 3), (48, .aload_n 0, 1), (49, .getfield 31, 3), (52, .iconst 3, 1), (53, .iload_n 1, 1), (54, .iload_n 2, 1)] = true := by decide +kernel
theorem d_N_louder_0 : decode mN_louder.2.1 0 = .ok (.aload_n 0, 1) := dq_get dd_N_louder_0 (i := 0) rfl
theorem d_N_louder_1 : decode mN_louder.2.1 1 = .ok (.iload_n 1, 1) := dq_get dd_N_louder_0 (i := 1) rfl
theorem d_N_louder_2 : decode mN_louder.2.1 2 = .ok (.invokevirtual 128, 3) := dq_get dd_N_louder_0 (i := 2) rfl
theorem d_N_louder_5 : decode mN_louder.2.1 5 = .ok (.ifCond .eq 27, 3) := dq_get dd_N_louder_0 (i := 3) rfl
theorem d_N_louder_8 : decode mN_louder.2.1 8 = .ok (.iload_n 2, 1) := dq_get dd_N_louder_0 (i := 4) rfl
theorem d_N_louder_9 : decode mN_louder.2.1 9 = .ok (.iconst 1, 1) := dq_get dd_N_louder_0 (i := 5) rfl
theorem d_N_louder_10 : decode mN_louder.2.1 10 = .ok (.if_icmp .lt 22, 3) := dq_get dd_N_louder_0 (i := 6) rfl
theorem d_N_louder_13 : decode mN_louder.2.1 13 = .ok (.iload_n 2, 1) := dq_get dd_N_louder_0 (i := 7) rfl
theorem d_N_louder_14 : decode mN_louder.2.1 14 = .ok (.bipush 9, 2) := dq_get dd_N_louder_0 (i := 8) rfl
theorem d_N_louder_16 : decode mN_louder.2.1 16 = .ok (.if_icmp .gt 16, 3) := dq_get dd_N_louder_0 (i := 9) rfl
theorem d_N_louder_19 : decode mN_louder.2.1 19 = .ok (.aload_n 0, 1) := dq_get dd_N_louder_0 (i := 10) rfl
theorem d_N_louder_20 : decode mN_louder.2.1 20 = .ok (.getfield 31, 3) := dq_get dd_N_louder_0 (i := 11) rfl
theorem d_N_louder_23 : decode mN_louder.2.1 23 = .ok (.getfield 144, 3) := dq_get dd_N_louder_0 (i := 12) rfl
theorem d_N_louder_26 : decode mN_louder.2.1 26 = .ok (.iload_n 1, 1) := dq_get dd_N_louder_0 (i := 13) rfl
theorem d_N_louder_27 : decode mN_louder.2.1 27 = .ok (.iaload, 1) := dq_get dd_N_louder_0 (i := 14) rfl
theorem d_N_louder_28 : decode mN_louder.2.1 28 = .ok (.iload_n 2, 1) := dq_get dd_N_louder_0 (i := 15) rfl
theorem d_N_louder_29 : decode mN_louder.2.1 29 = .ok (.if_icmp .ne 5, 3) := dq_get dd_N_louder_0 (i := 16) rfl
theorem d_N_louder_32 : decode mN_louder.2.1 32 = .ok (.iconst (-1), 1) := dq_get dd_N_louder_0 (i := 17) rfl
theorem d_N_louder_33 : decode mN_louder.2.1 33 = .ok (.ireturn, 1) := dq_get dd_N_louder_0 (i := 18) rfl
theorem d_N_louder_34 : decode mN_louder.2.1 34 = .ok (.aload_n 0, 1) := dq_get dd_N_louder_0 (i := 19) rfl
theorem d_N_louder_35 : decode mN_louder.2.1 35 = .ok (.getfield 31, 3) := dq_get dd_N_louder_0 (i := 20) rfl
theorem d_N_louder_38 : decode mN_louder.2.1 38 = .ok (.getfield 144, 3) := dq_get dd_N_louder_0 (i := 21) rfl
theorem d_N_louder_41 : decode mN_louder.2.1 41 = .ok (.iload_n 1, 1) := dq_get dd_N_louder_0 (i := 22) rfl
theorem d_N_louder_42 : decode mN_louder.2.1 42 = .ok (.iaload, 1) := dq_get dd_N_louder_0 (i := 23) rfl
theorem d_N_louder_43 : decode mN_louder.2.1 43 = .ok (.istore_n 3, 1) := dq_get dd_N_louder_0 (i := 24) rfl
theorem d_N_louder_44 : decode mN_louder.2.1 44 = .ok (.aload_n 0, 1) := dq_get dd_N_louder_0 (i := 25) rfl
theorem d_N_louder_45 : decode mN_louder.2.1 45 = .ok (.getfield 42, 3) := dq_get dd_N_louder_0 (i := 26) rfl
theorem d_N_louder_48 : decode mN_louder.2.1 48 = .ok (.aload_n 0, 1) := dq_get dd_N_louder_0 (i := 27) rfl
theorem d_N_louder_49 : decode mN_louder.2.1 49 = .ok (.getfield 31, 3) := dq_get dd_N_louder_0 (i := 28) rfl
theorem d_N_louder_52 : decode mN_louder.2.1 52 = .ok (.iconst 3, 1) := dq_get dd_N_louder_0 (i := 29) rfl
theorem d_N_louder_53 : decode mN_louder.2.1 53 = .ok (.iload_n 1, 1) := dq_get dd_N_louder_0 (i := 30) rfl
theorem d_N_louder_54 : decode mN_louder.2.1 54 = .ok (.iload_n 2, 1) := dq_get dd_N_louder_0 (i := 31) rfl
theorem dd_N_louder_32 : dq mN_louder.2.1 [(55, .invokevirtual 237, 3), (58, .iload_n 3, 1), (59, .ireturn, 1)] = true := by decide +kernel
theorem d_N_louder_55 : decode mN_louder.2.1 55 = .ok (.invokevirtual 237, 3) := dq_get dd_N_louder_32 (i := 0) rfl
theorem d_N_louder_58 : decode mN_louder.2.1 58 = .ok (.iload_n 3, 1) := dq_get dd_N_louder_32 (i := 1) rfl
theorem d_N_louder_59 : decode mN_louder.2.1 59 = .ok (.ireturn, 1) := dq_get dd_N_louder_32 (i := 2) rfl
theorem dd_N_last_0 : dq mN_last.2.1 [(0, .aload_n 0, 1), (1, .iload_n 1, 1), (2, .invokevirtual 128, 3), (5, .ifCond .eq 27, 3), (8, .iload_n 2, 1), (9, .iconst 1, 1), (10, .if_icmp .lt 22, 3), (13, .iload_n 2, 1), (14, .bipush 12, 2), (16, .if_icmp .gt 16, 3), (19, .aload_n 0, 1), (20, .getfield 31, 3), (23, .getfield 141, 3), (26, .iload_n 1, 1), (27, .iaload, 1), (28, .iload_n 2, 1), (29, .if_icmp .ne 5, 3), (32, .iconst (-1), 1), (33, .ireturn, 1), (34, .aload_n 0, 1), (35, .getfield 31, 3), (38, .getfield 141, 3), (41, .iload_n 1, 1), (42, .iaload, 1), (43, .istore_n 3, 1), (44, .aload_n 0, 1), (45, .getfield 42, 3), (48, .aload_n 0, 1), (49, .getfield 31, 3), (52, .iconst 2, 1), (53, .iload_n 1, 1), (54, .iload_n 2, 1)] = true := by decide +kernel
theorem d_N_last_0 : decode mN_last.2.1 0 = .ok (.aload_n 0, 1) := dq_get dd_N_last_0 (i := 0) rfl
theorem d_N_last_1 : decode mN_last.2.1 1 = .ok (.iload_n 1, 1) := dq_get dd_N_last_0 (i := 1) rfl
theorem d_N_last_2 : decode mN_last.2.1 2 = .ok (.invokevirtual 128, 3) := dq_get dd_N_last_0 (i := 2) rfl
theorem d_N_last_5 : decode mN_last.2.1 5 = .ok (.ifCond .eq 27, 3) := dq_get dd_N_last_0 (i := 3) rfl
theorem d_N_last_8 : decode mN_last.2.1 8 = .ok (.iload_n 2, 1) := dq_get dd_N_last_0 (i := 4) rfl
theorem d_N_last_9 : decode mN_last.2.1 9 = .ok (.iconst 1, 1) := dq_get dd_N_last_0 (i := 5) rfl
theorem d_N_last_10 : decode mN_last.2.1 10 = .ok (.if_icmp .lt 22, 3) := dq_get dd_N_last_0 (i := 6) rfl
theorem d_N_last_13 : decode mN_last.2.1 13 = .ok (.iload_n 2, 1) := dq_get dd_N_last_0 (i := 7) rfl
theorem d_N_last_14 : decode mN_last.2.1 14 = .ok (.bipush 12, 2) := dq_get dd_N_last_0 (i := 8) rfl
theorem d_N_last_16 : decode mN_last.2.1 16 = .ok (.if_icmp .gt 16, 3) := dq_get dd_N_last_0 (i := 9) rfl
theorem d_N_last_19 : decode mN_last.2.1 19 = .ok (.aload_n 0, 1) := dq_get dd_N_last_0 (i := 10) rfl
theorem d_N_last_20 : decode mN_last.2.1 20 = .ok (.getfield 31, 3) := dq_get dd_N_last_0 (i := 11) rfl
theorem d_N_last_23 : decode mN_last.2.1 23 = .ok (.getfield 141, 3) := dq_get dd_N_last_0 (i := 12) rfl
theorem d_N_last_26 : decode mN_last.2.1 26 = .ok (.iload_n 1, 1) := dq_get dd_N_last_0 (i := 13) rfl
theorem d_N_last_27 : decode mN_last.2.1 27 = .ok (.iaload, 1) := dq_get dd_N_last_0 (i := 14) rfl
theorem d_N_last_28 : decode mN_last.2.1 28 = .ok (.iload_n 2, 1) := dq_get dd_N_last_0 (i := 15) rfl
theorem d_N_last_29 : decode mN_last.2.1 29 = .ok (.if_icmp .ne 5, 3) := dq_get dd_N_last_0 (i := 16) rfl
theorem d_N_last_32 : decode mN_last.2.1 32 = .ok (.iconst (-1), 1) := dq_get dd_N_last_0 (i := 17) rfl
theorem d_N_last_33 : decode mN_last.2.1 33 = .ok (.ireturn, 1) := dq_get dd_N_last_0 (i := 18) rfl
theorem d_N_last_34 : decode mN_last.2.1 34 = .ok (.aload_n 0, 1) := dq_get dd_N_last_0 (i := 19) rfl
theorem d_N_last_35 : decode mN_last.2.1 35 = .ok (.getfield 31, 3) := dq_get dd_N_last_0 (i := 20) rfl
theorem d_N_last_38 : decode mN_last.2.1 38 = .ok (.getfield 141, 3) := dq_get dd_N_last_0 (i := 21) rfl
theorem d_N_last_41 : decode mN_last.2.1 41 = .ok (.iload_n 1, 1) := dq_get dd_N_last_0 (i := 22) rfl
theorem d_N_last_42 : decode mN_last.2.1 42 = .ok (.iaload, 1) := dq_get dd_N_last_0 (i := 23) rfl
theorem d_N_last_43 : decode mN_last.2.1 43 = .ok (.istore_n 3, 1) := dq_get dd_N_last_0 (i := 24) rfl
theorem d_N_last_44 : decode mN_last.2.1 44 = .ok (.aload_n 0, 1) := dq_get dd_N_last_0 (i := 25) rfl
theorem d_N_last_45 : decode mN_last.2.1 45 = .ok (.getfield 42, 3) := dq_get dd_N_last_0 (i := 26) rfl
theorem d_N_last_48 : decode mN_last.2.1 48 = .ok (.aload_n 0, 1) := dq_get dd_N_last_0 (i := 27) rfl
theorem d_N_last_49 : decode mN_last.2.1 49 = .ok (.getfield 31, 3) := dq_get dd_N_last_0 (i := 28) rfl
theorem d_N_last_52 : decode mN_last.2.1 52 = .ok (.iconst 2, 1) := dq_get dd_N_last_0 (i := 29) rfl
theorem d_N_last_53 : decode mN_last.2.1 53 = .ok (.iload_n 1, 1) := dq_get dd_N_last_0 (i := 30) rfl
theorem d_N_last_54 : decode mN_last.2.1 54 = .ok (.iload_n 2, 1) := dq_get dd_N_last_0 (i := 31) rfl
theorem dd_N_last_32 : dq mN_last.2.1 [(55, .invokevirtual 237, 3), (58, .iload_n 3, 1), (59, .ireturn, 1)] = true := by decide +kernel
theorem d_N_last_55 : decode mN_last.2.1 55 = .ok (.invokevirtual 237, 3) := dq_get dd_N_last_32 (i := 0) rfl
theorem d_N_last_58 : decode mN_last.2.1 58 = .ok (.iload_n 3, 1) := dq_get dd_N_last_32 (i := 1) rfl
theorem d_N_last_59 : decode mN_last.2.1 59 = .ok (.ireturn, 1) := dq_get dd_N_last_32 (i := 2) rfl
theorem dd_N_pedal_0 : dq mN_pedal.2.1 [(0, .aload_n 0, 1), (1, .iload_n 1, 1), (2, .invokevirtual 170, 3), (5, .ifCond .ne 5, 3), (8, .iconst (-1), 1), (9, .ireturn, 1), (10, .aload_n 0, 1), (11, .getfield 42, 3), (14, .aload_n 0, 1), (15, .getfield 31, 3), (18, .iconst 4, 1), (19, .iload_n 1, 1), (20, .aload_n 0, 1), (21, .getfield 31, 3), (24, .getfield 247, 3), (27, .iconst 1, 1), (28, .iload_n 1, 1), (29, .ishl, 1), (30, .ixor, 1), (31, .invokevirtual 237, 3), (34, .aload_n 0, 1), (35, .getfield 31, 3), (38, .getfield 247, 3), (41, .ireturn, 1)] = true := by decide +kernel
theorem d_N_pedal_0 : decode mN_pedal.2.1 0 = .ok (.aload_n 0, 1) := dq_get dd_N_pedal_0 (i := 0) rfl
theorem d_N_pedal_1 : decode mN_pedal.2.1 1 = .ok (.iload_n 1, 1) := dq_get dd_N_pedal_0 (i := 1) rfl
theorem d_N_pedal_2 : decode mN_pedal.2.1 2 = .ok (.invokevirtual 170, 3) := dq_get dd_N_pedal_0 (i := 2) rfl
theorem d_N_pedal_5 : decode mN_pedal.2.1 5 = .ok (.ifCond .ne 5, 3) := dq_get dd_N_pedal_0 (i := 3) rfl
theorem d_N_pedal_8 : decode mN_pedal.2.1 8 = .ok (.iconst (-1), 1) := dq_get dd_N_pedal_0 (i := 4) rfl
theorem d_N_pedal_9 : decode mN_pedal.2.1 9 = .ok (.ireturn, 1) := dq_get dd_N_pedal_0 (i := 5) rfl
theorem d_N_pedal_10 : decode mN_pedal.2.1 10 = .ok (.aload_n 0, 1) := dq_get dd_N_pedal_0 (i := 6) rfl
theorem d_N_pedal_11 : decode mN_pedal.2.1 11 = .ok (.getfield 42, 3) := dq_get dd_N_pedal_0 (i := 7) rfl
theorem d_N_pedal_14 : decode mN_pedal.2.1 14 = .ok (.aload_n 0, 1) := dq_get dd_N_pedal_0 (i := 8) rfl
theorem d_N_pedal_15 : decode mN_pedal.2.1 15 = .ok (.getfield 31, 3) := dq_get dd_N_pedal_0 (i := 9) rfl
theorem d_N_pedal_18 : decode mN_pedal.2.1 18 = .ok (.iconst 4, 1) := dq_get dd_N_pedal_0 (i := 10) rfl
theorem d_N_pedal_19 : decode mN_pedal.2.1 19 = .ok (.iload_n 1, 1) := dq_get dd_N_pedal_0 (i := 11) rfl
theorem d_N_pedal_20 : decode mN_pedal.2.1 20 = .ok (.aload_n 0, 1) := dq_get dd_N_pedal_0 (i := 12) rfl
theorem d_N_pedal_21 : decode mN_pedal.2.1 21 = .ok (.getfield 31, 3) := dq_get dd_N_pedal_0 (i := 13) rfl
theorem d_N_pedal_24 : decode mN_pedal.2.1 24 = .ok (.getfield 247, 3) := dq_get dd_N_pedal_0 (i := 14) rfl
theorem d_N_pedal_27 : decode mN_pedal.2.1 27 = .ok (.iconst 1, 1) := dq_get dd_N_pedal_0 (i := 15) rfl
theorem d_N_pedal_28 : decode mN_pedal.2.1 28 = .ok (.iload_n 1, 1) := dq_get dd_N_pedal_0 (i := 16) rfl
theorem d_N_pedal_29 : decode mN_pedal.2.1 29 = .ok (.ishl, 1) := dq_get dd_N_pedal_0 (i := 17) rfl
theorem d_N_pedal_30 : decode mN_pedal.2.1 30 = .ok (.ixor, 1) := dq_get dd_N_pedal_0 (i := 18) rfl
theorem d_N_pedal_31 : decode mN_pedal.2.1 31 = .ok (.invokevirtual 237, 3) := dq_get dd_N_pedal_0 (i := 19) rfl
theorem d_N_pedal_34 : decode mN_pedal.2.1 34 = .ok (.aload_n 0, 1) := dq_get dd_N_pedal_0 (i := 20) rfl
theorem d_N_pedal_35 : decode mN_pedal.2.1 35 = .ok (.getfield 31, 3) := dq_get dd_N_pedal_0 (i := 21) rfl
theorem d_N_pedal_38 : decode mN_pedal.2.1 38 = .ok (.getfield 247, 3) := dq_get dd_N_pedal_0 (i := 22) rfl
theorem d_N_pedal_41 : decode mN_pedal.2.1 41 = .ok (.ireturn, 1) := dq_get dd_N_pedal_0 (i := 23) rfl
theorem dd_N_undo_0 : dq mN_undo.2.1 [(0, .aload_n 0, 1), (1, .getfield 42, 3), (4, .aload_n 0, 1), (5, .getfield 31, 3), (8, .invokevirtual 250, 3), (11, .ireturn, 1)] = true := by decide +kernel
theorem d_N_undo_0 : decode mN_undo.2.1 0 = .ok (.aload_n 0, 1) := dq_get dd_N_undo_0 (i := 0) rfl
theorem d_N_undo_1 : decode mN_undo.2.1 1 = .ok (.getfield 42, 3) := dq_get dd_N_undo_0 (i := 1) rfl
theorem d_N_undo_4 : decode mN_undo.2.1 4 = .ok (.aload_n 0, 1) := dq_get dd_N_undo_0 (i := 2) rfl
theorem d_N_undo_5 : decode mN_undo.2.1 5 = .ok (.getfield 31, 3) := dq_get dd_N_undo_0 (i := 3) rfl
theorem d_N_undo_8 : decode mN_undo.2.1 8 = .ok (.invokevirtual 250, 3) := dq_get dd_N_undo_0 (i := 4) rfl
theorem d_N_undo_11 : decode mN_undo.2.1 11 = .ok (.ireturn, 1) := dq_get dd_N_undo_0 (i := 5) rfl
theorem dd_N_redo_0 : dq mN_redo.2.1 [(0, .aload_n 0, 1), (1, .getfield 42, 3), (4, .aload_n 0, 1), (5, .getfield 31, 3), (8, .invokevirtual 254, 3), (11, .ireturn, 1)] = true := by decide +kernel
theorem d_N_redo_0 : decode mN_redo.2.1 0 = .ok (.aload_n 0, 1) := dq_get dd_N_redo_0 (i := 0) rfl
theorem d_N_redo_1 : decode mN_redo.2.1 1 = .ok (.getfield 42, 3) := dq_get dd_N_redo_0 (i := 1) rfl
theorem d_N_redo_4 : decode mN_redo.2.1 4 = .ok (.aload_n 0, 1) := dq_get dd_N_redo_0 (i := 2) rfl
theorem d_N_redo_5 : decode mN_redo.2.1 5 = .ok (.getfield 31, 3) := dq_get dd_N_redo_0 (i := 3) rfl
theorem d_N_redo_8 : decode mN_redo.2.1 8 = .ok (.invokevirtual 254, 3) := dq_get dd_N_redo_0 (i := 4) rfl
theorem d_N_redo_11 : decode mN_redo.2.1 11 = .ok (.ireturn, 1) := dq_get dd_N_redo_0 (i := 5) rfl
theorem dd_N_loss_0 : dq mN_loss.2.1 [(0, .iconst 0, 1), (1, .istore_n 1, 1), (2, .iconst 0, 1), (3, .istore_n 2, 1), (4, .iload_n 2, 1), (5, .aload_n 0, 1), (6, .getfield 24, 3), (9, .getfield 122, 3), (12, .if_icmp .ge 29, 3), (15, .aload_n 0, 1), (16, .getfield 31, 3), (19, .getfield 147, 3), (22, .iload_n 2, 1), (23, .iaload, 1), (24, .ifCond .ne 11, 3), (27, .iload_n 1, 1), (28, .aload_n 0, 1), (29, .iload_n 2, 1), (30, .invokevirtual 150, 3), (33, .iadd, 1), (34, .istore_n 1, 1), (35, .iinc 2 1, 3), (38, .goto (-34), 3), (41, .iload_n 1, 1), (42, .ireturn, 1)] = true := by decide +kernel
theorem d_N_loss_0 : decode mN_loss.2.1 0 = .ok (.iconst 0, 1) := dq_get dd_N_loss_0 (i := 0) rfl
theorem d_N_loss_1 : decode mN_loss.2.1 1 = .ok (.istore_n 1, 1) := dq_get dd_N_loss_0 (i := 1) rfl
theorem d_N_loss_2 : decode mN_loss.2.1 2 = .ok (.iconst 0, 1) := dq_get dd_N_loss_0 (i := 2) rfl
theorem d_N_loss_3 : decode mN_loss.2.1 3 = .ok (.istore_n 2, 1) := dq_get dd_N_loss_0 (i := 3) rfl
theorem d_N_loss_4 : decode mN_loss.2.1 4 = .ok (.iload_n 2, 1) := dq_get dd_N_loss_0 (i := 4) rfl
theorem d_N_loss_5 : decode mN_loss.2.1 5 = .ok (.aload_n 0, 1) := dq_get dd_N_loss_0 (i := 5) rfl
theorem d_N_loss_6 : decode mN_loss.2.1 6 = .ok (.getfield 24, 3) := dq_get dd_N_loss_0 (i := 6) rfl
theorem d_N_loss_9 : decode mN_loss.2.1 9 = .ok (.getfield 122, 3) := dq_get dd_N_loss_0 (i := 7) rfl
theorem d_N_loss_12 : decode mN_loss.2.1 12 = .ok (.if_icmp .ge 29, 3) := dq_get dd_N_loss_0 (i := 8) rfl
theorem d_N_loss_15 : decode mN_loss.2.1 15 = .ok (.aload_n 0, 1) := dq_get dd_N_loss_0 (i := 9) rfl
theorem d_N_loss_16 : decode mN_loss.2.1 16 = .ok (.getfield 31, 3) := dq_get dd_N_loss_0 (i := 10) rfl
theorem d_N_loss_19 : decode mN_loss.2.1 19 = .ok (.getfield 147, 3) := dq_get dd_N_loss_0 (i := 11) rfl
theorem d_N_loss_22 : decode mN_loss.2.1 22 = .ok (.iload_n 2, 1) := dq_get dd_N_loss_0 (i := 12) rfl
theorem d_N_loss_23 : decode mN_loss.2.1 23 = .ok (.iaload, 1) := dq_get dd_N_loss_0 (i := 13) rfl
theorem d_N_loss_24 : decode mN_loss.2.1 24 = .ok (.ifCond .ne 11, 3) := dq_get dd_N_loss_0 (i := 14) rfl
theorem d_N_loss_27 : decode mN_loss.2.1 27 = .ok (.iload_n 1, 1) := dq_get dd_N_loss_0 (i := 15) rfl
theorem d_N_loss_28 : decode mN_loss.2.1 28 = .ok (.aload_n 0, 1) := dq_get dd_N_loss_0 (i := 16) rfl
theorem d_N_loss_29 : decode mN_loss.2.1 29 = .ok (.iload_n 2, 1) := dq_get dd_N_loss_0 (i := 17) rfl
theorem d_N_loss_30 : decode mN_loss.2.1 30 = .ok (.invokevirtual 150, 3) := dq_get dd_N_loss_0 (i := 18) rfl
theorem d_N_loss_33 : decode mN_loss.2.1 33 = .ok (.iadd, 1) := dq_get dd_N_loss_0 (i := 19) rfl
theorem d_N_loss_34 : decode mN_loss.2.1 34 = .ok (.istore_n 1, 1) := dq_get dd_N_loss_0 (i := 20) rfl
theorem d_N_loss_35 : decode mN_loss.2.1 35 = .ok (.iinc 2 1, 3) := dq_get dd_N_loss_0 (i := 21) rfl
theorem d_N_loss_38 : decode mN_loss.2.1 38 = .ok (.goto (-34), 3) := dq_get dd_N_loss_0 (i := 22) rfl
theorem d_N_loss_41 : decode mN_loss.2.1 41 = .ok (.iload_n 1, 1) := dq_get dd_N_loss_0 (i := 23) rfl
theorem d_N_loss_42 : decode mN_loss.2.1 42 = .ok (.ireturn, 1) := dq_get dd_N_loss_0 (i := 24) rfl
theorem dd_N_version_0 : dq mN_version.2.1 [(0, .aload_n 0, 1), (1, .aload_n 0, 1), (2, .getfield 24, 3), (5, .getfield 260, 3), (8, .aload_n 0, 1), (9, .getfield 24, 3), (12, .getfield 263, 3), (15, .invokevirtual 266, 3), (18, .iload_n 1, 1), (19, .lookupswitch 52 #[(0, 25), (1, 33)], 25), (44, .aload_n 0, 1), (45, .getfield 49, 3), (48, .getfield 270, 3), (51, .ireturn, 1), (52, .aload_n 0, 1), (53, .getfield 49, 3), (56, .getfield 273, 3), (59, .aload_n 0, 1), (60, .getfield 49, 3), (63, .getfield 274, 3), (66, .ior, 1), (67, .invokestatic 211, 3), (70, .ireturn, 1), (71, .iconst (-1), 1), (72, .ireturn, 1)] = true := by decide +kernel
theorem d_N_version_0 : decode mN_version.2.1 0 = .ok (.aload_n 0, 1) := dq_get dd_N_version_0 (i := 0) rfl
theorem d_N_version_1 : decode mN_version.2.1 1 = .ok (.aload_n 0, 1) := dq_get dd_N_version_0 (i := 1) rfl
theorem d_N_version_2 : decode mN_version.2.1 2 = .ok (.getfield 24, 3) := dq_get dd_N_version_0 (i := 2) rfl
theorem d_N_version_5 : decode mN_version.2.1 5 = .ok (.getfield 260, 3) := dq_get dd_N_version_0 (i := 3) rfl
theorem d_N_version_8 : decode mN_version.2.1 8 = .ok (.aload_n 0, 1) := dq_get dd_N_version_0 (i := 4) rfl
theorem d_N_version_9 : decode mN_version.2.1 9 = .ok (.getfield 24, 3) := dq_get dd_N_version_0 (i := 5) rfl
theorem d_N_version_12 : decode mN_version.2.1 12 = .ok (.getfield 263, 3) := dq_get dd_N_version_0 (i := 6) rfl
theorem d_N_version_15 : decode mN_version.2.1 15 = .ok (.invokevirtual 266, 3) := dq_get dd_N_version_0 (i := 7) rfl
theorem d_N_version_18 : decode mN_version.2.1 18 = .ok (.iload_n 1, 1) := dq_get dd_N_version_0 (i := 8) rfl
theorem d_N_version_19 : decode mN_version.2.1 19 = .ok (.lookupswitch 52 #[(0, 25), (1, 33)], 25) := dq_get dd_N_version_0 (i := 9) rfl
theorem d_N_version_44 : decode mN_version.2.1 44 = .ok (.aload_n 0, 1) := dq_get dd_N_version_0 (i := 10) rfl
theorem d_N_version_45 : decode mN_version.2.1 45 = .ok (.getfield 49, 3) := dq_get dd_N_version_0 (i := 11) rfl
theorem d_N_version_48 : decode mN_version.2.1 48 = .ok (.getfield 270, 3) := dq_get dd_N_version_0 (i := 12) rfl
theorem d_N_version_51 : decode mN_version.2.1 51 = .ok (.ireturn, 1) := dq_get dd_N_version_0 (i := 13) rfl
theorem d_N_version_52 : decode mN_version.2.1 52 = .ok (.aload_n 0, 1) := dq_get dd_N_version_0 (i := 14) rfl
theorem d_N_version_53 : decode mN_version.2.1 53 = .ok (.getfield 49, 3) := dq_get dd_N_version_0 (i := 15) rfl
theorem d_N_version_56 : decode mN_version.2.1 56 = .ok (.getfield 273, 3) := dq_get dd_N_version_0 (i := 16) rfl
theorem d_N_version_59 : decode mN_version.2.1 59 = .ok (.aload_n 0, 1) := dq_get dd_N_version_0 (i := 17) rfl
theorem d_N_version_60 : decode mN_version.2.1 60 = .ok (.getfield 49, 3) := dq_get dd_N_version_0 (i := 18) rfl
theorem d_N_version_63 : decode mN_version.2.1 63 = .ok (.getfield 274, 3) := dq_get dd_N_version_0 (i := 19) rfl
theorem d_N_version_66 : decode mN_version.2.1 66 = .ok (.ior, 1) := dq_get dd_N_version_0 (i := 20) rfl
theorem d_N_version_67 : decode mN_version.2.1 67 = .ok (.invokestatic 211, 3) := dq_get dd_N_version_0 (i := 21) rfl
theorem d_N_version_70 : decode mN_version.2.1 70 = .ok (.ireturn, 1) := dq_get dd_N_version_0 (i := 22) rfl
theorem d_N_version_71 : decode mN_version.2.1 71 = .ok (.iconst (-1), 1) := dq_get dd_N_version_0 (i := 23) rfl
theorem d_N_version_72 : decode mN_version.2.1 72 = .ok (.ireturn, 1) := dq_get dd_N_version_0 (i := 24) rfl
theorem dd_N_layLeastMissed_0 : dq mN_layLeastMissed.2.1 [(0, .aload_n 0, 1), (1, .invokevirtual 176, 3), (4, .aload_n 0, 1), (5, .invokevirtual 275, 3), (8, .aload_n 0, 1), (9, .getfield 57, 3), (12, .iload_n 1, 1), (13, .putfield 278, 3), (16, .aload_n 0, 1), (17, .getfield 57, 3), (20, .iload_n 2, 1), (21, .putfield 279, 3), (24, .aload_n 0, 1), (25, .getfield 49, 3), (28, .invokevirtual 280, 3), (31, .iconst 0, 1), (32, .istore_n 3, 1), (33, .iload_n 3, 1), (34, .aload_n 0, 1), (35, .getfield 24, 3), (38, .getfield 122, 3), (41, .if_icmp .ge 23, 3), (44, .aload_n 0, 1), (45, .getfield 77, 3), (48, .iload_n 3, 1), (49, .aload_n 0, 1), (50, .getfield 49, 3), (53, .iload_n 3, 1), (54, .invokevirtual 283, 3), (57, .iastore, 1), (58, .iinc 3 1, 3), (61, .goto (-28), 3)] = true := by decide +kernel
theorem d_N_layLeastMissed_0 : decode mN_layLeastMissed.2.1 0 = .ok (.aload_n 0, 1) := dq_get dd_N_layLeastMissed_0 (i := 0) rfl
theorem d_N_layLeastMissed_1 : decode mN_layLeastMissed.2.1 1 = .ok (.invokevirtual 176, 3) := dq_get dd_N_layLeastMissed_0 (i := 1) rfl
theorem d_N_layLeastMissed_4 : decode mN_layLeastMissed.2.1 4 = .ok (.aload_n 0, 1) := dq_get dd_N_layLeastMissed_0 (i := 2) rfl
theorem d_N_layLeastMissed_5 : decode mN_layLeastMissed.2.1 5 = .ok (.invokevirtual 275, 3) := dq_get dd_N_layLeastMissed_0 (i := 3) rfl
theorem d_N_layLeastMissed_8 : decode mN_layLeastMissed.2.1 8 = .ok (.aload_n 0, 1) := dq_get dd_N_layLeastMissed_0 (i := 4) rfl
theorem d_N_layLeastMissed_9 : decode mN_layLeastMissed.2.1 9 = .ok (.getfield 57, 3) := dq_get dd_N_layLeastMissed_0 (i := 5) rfl
theorem d_N_layLeastMissed_12 : decode mN_layLeastMissed.2.1 12 = .ok (.iload_n 1, 1) := dq_get dd_N_layLeastMissed_0 (i := 6) rfl
theorem d_N_layLeastMissed_13 : decode mN_layLeastMissed.2.1 13 = .ok (.putfield 278, 3) := dq_get dd_N_layLeastMissed_0 (i := 7) rfl
theorem d_N_layLeastMissed_16 : decode mN_layLeastMissed.2.1 16 = .ok (.aload_n 0, 1) := dq_get dd_N_layLeastMissed_0 (i := 8) rfl
theorem d_N_layLeastMissed_17 : decode mN_layLeastMissed.2.1 17 = .ok (.getfield 57, 3) := dq_get dd_N_layLeastMissed_0 (i := 9) rfl
theorem d_N_layLeastMissed_20 : decode mN_layLeastMissed.2.1 20 = .ok (.iload_n 2, 1) := dq_get dd_N_layLeastMissed_0 (i := 10) rfl
theorem d_N_layLeastMissed_21 : decode mN_layLeastMissed.2.1 21 = .ok (.putfield 279, 3) := dq_get dd_N_layLeastMissed_0 (i := 11) rfl
theorem d_N_layLeastMissed_24 : decode mN_layLeastMissed.2.1 24 = .ok (.aload_n 0, 1) := dq_get dd_N_layLeastMissed_0 (i := 12) rfl
theorem d_N_layLeastMissed_25 : decode mN_layLeastMissed.2.1 25 = .ok (.getfield 49, 3) := dq_get dd_N_layLeastMissed_0 (i := 13) rfl
theorem d_N_layLeastMissed_28 : decode mN_layLeastMissed.2.1 28 = .ok (.invokevirtual 280, 3) := dq_get dd_N_layLeastMissed_0 (i := 14) rfl
theorem d_N_layLeastMissed_31 : decode mN_layLeastMissed.2.1 31 = .ok (.iconst 0, 1) := dq_get dd_N_layLeastMissed_0 (i := 15) rfl
theorem d_N_layLeastMissed_32 : decode mN_layLeastMissed.2.1 32 = .ok (.istore_n 3, 1) := dq_get dd_N_layLeastMissed_0 (i := 16) rfl
theorem d_N_layLeastMissed_33 : decode mN_layLeastMissed.2.1 33 = .ok (.iload_n 3, 1) := dq_get dd_N_layLeastMissed_0 (i := 17) rfl
theorem d_N_layLeastMissed_34 : decode mN_layLeastMissed.2.1 34 = .ok (.aload_n 0, 1) := dq_get dd_N_layLeastMissed_0 (i := 18) rfl
theorem d_N_layLeastMissed_35 : decode mN_layLeastMissed.2.1 35 = .ok (.getfield 24, 3) := dq_get dd_N_layLeastMissed_0 (i := 19) rfl
theorem d_N_layLeastMissed_38 : decode mN_layLeastMissed.2.1 38 = .ok (.getfield 122, 3) := dq_get dd_N_layLeastMissed_0 (i := 20) rfl
theorem d_N_layLeastMissed_41 : decode mN_layLeastMissed.2.1 41 = .ok (.if_icmp .ge 23, 3) := dq_get dd_N_layLeastMissed_0 (i := 21) rfl
theorem d_N_layLeastMissed_44 : decode mN_layLeastMissed.2.1 44 = .ok (.aload_n 0, 1) := dq_get dd_N_layLeastMissed_0 (i := 22) rfl
theorem d_N_layLeastMissed_45 : decode mN_layLeastMissed.2.1 45 = .ok (.getfield 77, 3) := dq_get dd_N_layLeastMissed_0 (i := 23) rfl
theorem d_N_layLeastMissed_48 : decode mN_layLeastMissed.2.1 48 = .ok (.iload_n 3, 1) := dq_get dd_N_layLeastMissed_0 (i := 24) rfl
theorem d_N_layLeastMissed_49 : decode mN_layLeastMissed.2.1 49 = .ok (.aload_n 0, 1) := dq_get dd_N_layLeastMissed_0 (i := 25) rfl
theorem d_N_layLeastMissed_50 : decode mN_layLeastMissed.2.1 50 = .ok (.getfield 49, 3) := dq_get dd_N_layLeastMissed_0 (i := 26) rfl
theorem d_N_layLeastMissed_53 : decode mN_layLeastMissed.2.1 53 = .ok (.iload_n 3, 1) := dq_get dd_N_layLeastMissed_0 (i := 27) rfl
theorem d_N_layLeastMissed_54 : decode mN_layLeastMissed.2.1 54 = .ok (.invokevirtual 283, 3) := dq_get dd_N_layLeastMissed_0 (i := 28) rfl
theorem d_N_layLeastMissed_57 : decode mN_layLeastMissed.2.1 57 = .ok (.iastore, 1) := dq_get dd_N_layLeastMissed_0 (i := 29) rfl
theorem d_N_layLeastMissed_58 : decode mN_layLeastMissed.2.1 58 = .ok (.iinc 3 1, 3) := dq_get dd_N_layLeastMissed_0 (i := 30) rfl
theorem d_N_layLeastMissed_61 : decode mN_layLeastMissed.2.1 61 = .ok (.goto (-28), 3) := dq_get dd_N_layLeastMissed_0 (i := 31) rfl
theorem dd_N_layLeastMissed_32 : dq mN_layLeastMissed.2.1 [(64, .aload_n 0, 1), (65, .aload_n 0, 1), (66, .getfield 24, 3), (69, .getfield 122, 3), (72, .putfield 115, 3), (75, .return_, 1)] = true := by decide +kernel
theorem d_N_layLeastMissed_64 : decode mN_layLeastMissed.2.1 64 = .ok (.aload_n 0, 1) := dq_get dd_N_layLeastMissed_32 (i := 0) rfl
theorem d_N_layLeastMissed_65 : decode mN_layLeastMissed.2.1 65 = .ok (.aload_n 0, 1) := dq_get dd_N_layLeastMissed_32 (i := 1) rfl
theorem d_N_layLeastMissed_66 : decode mN_layLeastMissed.2.1 66 = .ok (.getfield 24, 3) := dq_get dd_N_layLeastMissed_32 (i := 2) rfl
theorem d_N_layLeastMissed_69 : decode mN_layLeastMissed.2.1 69 = .ok (.getfield 122, 3) := dq_get dd_N_layLeastMissed_32 (i := 3) rfl
theorem d_N_layLeastMissed_72 : decode mN_layLeastMissed.2.1 72 = .ok (.putfield 115, 3) := dq_get dd_N_layLeastMissed_32 (i := 4) rfl
theorem d_N_layLeastMissed_75 : decode mN_layLeastMissed.2.1 75 = .ok (.return_, 1) := dq_get dd_N_layLeastMissed_32 (i := 5) rfl
theorem dd_N_weighAll_0 : dq mN_weighAll.2.1 [(0, .iconst 0, 1), (1, .istore_n 1, 1), (2, .iload_n 1, 1), (3, .aload_n 0, 1), (4, .getfield 24, 3), (7, .getfield 122, 3), (10, .if_icmp .ge 20, 3), (13, .aload_n 0, 1), (14, .getfield 62, 3), (17, .iload_n 1, 1), (18, .aload_n 0, 1), (19, .iload_n 1, 1), (20, .invokevirtual 150, 3), (23, .iastore, 1), (24, .iinc 1 1, 3), (27, .goto (-25), 3), (30, .return_, 1)] = true := by decide +kernel
theorem d_N_weighAll_0 : decode mN_weighAll.2.1 0 = .ok (.iconst 0, 1) := dq_get dd_N_weighAll_0 (i := 0) rfl
theorem d_N_weighAll_1 : decode mN_weighAll.2.1 1 = .ok (.istore_n 1, 1) := dq_get dd_N_weighAll_0 (i := 1) rfl
theorem d_N_weighAll_2 : decode mN_weighAll.2.1 2 = .ok (.iload_n 1, 1) := dq_get dd_N_weighAll_0 (i := 2) rfl
theorem d_N_weighAll_3 : decode mN_weighAll.2.1 3 = .ok (.aload_n 0, 1) := dq_get dd_N_weighAll_0 (i := 3) rfl
theorem d_N_weighAll_4 : decode mN_weighAll.2.1 4 = .ok (.getfield 24, 3) := dq_get dd_N_weighAll_0 (i := 4) rfl
theorem d_N_weighAll_7 : decode mN_weighAll.2.1 7 = .ok (.getfield 122, 3) := dq_get dd_N_weighAll_0 (i := 5) rfl
theorem d_N_weighAll_10 : decode mN_weighAll.2.1 10 = .ok (.if_icmp .ge 20, 3) := dq_get dd_N_weighAll_0 (i := 6) rfl
theorem d_N_weighAll_13 : decode mN_weighAll.2.1 13 = .ok (.aload_n 0, 1) := dq_get dd_N_weighAll_0 (i := 7) rfl
theorem d_N_weighAll_14 : decode mN_weighAll.2.1 14 = .ok (.getfield 62, 3) := dq_get dd_N_weighAll_0 (i := 8) rfl
theorem d_N_weighAll_17 : decode mN_weighAll.2.1 17 = .ok (.iload_n 1, 1) := dq_get dd_N_weighAll_0 (i := 9) rfl
theorem d_N_weighAll_18 : decode mN_weighAll.2.1 18 = .ok (.aload_n 0, 1) := dq_get dd_N_weighAll_0 (i := 10) rfl
theorem d_N_weighAll_19 : decode mN_weighAll.2.1 19 = .ok (.iload_n 1, 1) := dq_get dd_N_weighAll_0 (i := 11) rfl
theorem d_N_weighAll_20 : decode mN_weighAll.2.1 20 = .ok (.invokevirtual 150, 3) := dq_get dd_N_weighAll_0 (i := 12) rfl
theorem d_N_weighAll_23 : decode mN_weighAll.2.1 23 = .ok (.iastore, 1) := dq_get dd_N_weighAll_0 (i := 13) rfl
theorem d_N_weighAll_24 : decode mN_weighAll.2.1 24 = .ok (.iinc 1 1, 3) := dq_get dd_N_weighAll_0 (i := 14) rfl
theorem d_N_weighAll_27 : decode mN_weighAll.2.1 27 = .ok (.goto (-25), 3) := dq_get dd_N_weighAll_0 (i := 15) rfl
theorem d_N_weighAll_30 : decode mN_weighAll.2.1 30 = .ok (.return_, 1) := dq_get dd_N_weighAll_0 (i := 16) rfl
theorem dd_N_child_0 : dq mN_child.2.1 [(0, .iload_n 1, 1), (1, .iconst 1, 1), (2, .if_icmp .lt 15, 3), (5, .iload_n 1, 1), (6, .iconst 5, 1), (7, .if_icmp .gt 10, 3), (10, .iload_n 2, 1), (11, .invokestatic 244, 3), (14, .ifCond .ne 10, 3), (17, .aload_n 0, 1), (18, .iconst 0, 1), (19, .putfield 115, 3), (22, .iconst (-1), 1), (23, .ireturn, 1), (24, .aload_n 0, 1), (25, .iload_n 1, 1), (26, .iload_n 2, 1), (27, .invokevirtual 266, 3), (30, .aload_n 0, 1), (31, .getfield 49, 3), (34, .getfield 270, 3), (37, .ireturn, 1)] = true := by decide +kernel
theorem d_N_child_0 : decode mN_child.2.1 0 = .ok (.iload_n 1, 1) := dq_get dd_N_child_0 (i := 0) rfl
theorem d_N_child_1 : decode mN_child.2.1 1 = .ok (.iconst 1, 1) := dq_get dd_N_child_0 (i := 1) rfl
theorem d_N_child_2 : decode mN_child.2.1 2 = .ok (.if_icmp .lt 15, 3) := dq_get dd_N_child_0 (i := 2) rfl
theorem d_N_child_5 : decode mN_child.2.1 5 = .ok (.iload_n 1, 1) := dq_get dd_N_child_0 (i := 3) rfl
theorem d_N_child_6 : decode mN_child.2.1 6 = .ok (.iconst 5, 1) := dq_get dd_N_child_0 (i := 4) rfl
theorem d_N_child_7 : decode mN_child.2.1 7 = .ok (.if_icmp .gt 10, 3) := dq_get dd_N_child_0 (i := 5) rfl
theorem d_N_child_10 : decode mN_child.2.1 10 = .ok (.iload_n 2, 1) := dq_get dd_N_child_0 (i := 6) rfl
theorem d_N_child_11 : decode mN_child.2.1 11 = .ok (.invokestatic 244, 3) := dq_get dd_N_child_0 (i := 7) rfl
theorem d_N_child_14 : decode mN_child.2.1 14 = .ok (.ifCond .ne 10, 3) := dq_get dd_N_child_0 (i := 8) rfl
theorem d_N_child_17 : decode mN_child.2.1 17 = .ok (.aload_n 0, 1) := dq_get dd_N_child_0 (i := 9) rfl
theorem d_N_child_18 : decode mN_child.2.1 18 = .ok (.iconst 0, 1) := dq_get dd_N_child_0 (i := 10) rfl
theorem d_N_child_19 : decode mN_child.2.1 19 = .ok (.putfield 115, 3) := dq_get dd_N_child_0 (i := 11) rfl
theorem d_N_child_22 : decode mN_child.2.1 22 = .ok (.iconst (-1), 1) := dq_get dd_N_child_0 (i := 12) rfl
theorem d_N_child_23 : decode mN_child.2.1 23 = .ok (.ireturn, 1) := dq_get dd_N_child_0 (i := 13) rfl
theorem d_N_child_24 : decode mN_child.2.1 24 = .ok (.aload_n 0, 1) := dq_get dd_N_child_0 (i := 14) rfl
theorem d_N_child_25 : decode mN_child.2.1 25 = .ok (.iload_n 1, 1) := dq_get dd_N_child_0 (i := 15) rfl
theorem d_N_child_26 : decode mN_child.2.1 26 = .ok (.iload_n 2, 1) := dq_get dd_N_child_0 (i := 16) rfl
theorem d_N_child_27 : decode mN_child.2.1 27 = .ok (.invokevirtual 266, 3) := dq_get dd_N_child_0 (i := 17) rfl
theorem d_N_child_30 : decode mN_child.2.1 30 = .ok (.aload_n 0, 1) := dq_get dd_N_child_0 (i := 18) rfl
theorem d_N_child_31 : decode mN_child.2.1 31 = .ok (.getfield 49, 3) := dq_get dd_N_child_0 (i := 19) rfl
theorem d_N_child_34 : decode mN_child.2.1 34 = .ok (.getfield 270, 3) := dq_get dd_N_child_0 (i := 20) rfl
theorem d_N_child_37 : decode mN_child.2.1 37 = .ok (.ireturn, 1) := dq_get dd_N_child_0 (i := 21) rfl
theorem dd_N_forbids_0 : dq mN_forbids.2.1 [(0, .aload_n 0, 1), (1, .iload_n 1, 1), (2, .invokevirtual 286, 3), (5, .ifCond .eq 10, 3), (8, .iload_n 2, 1), (9, .invokestatic 173, 3), (12, .ifCond .ne 5, 3), (15, .iconst (-1), 1), (16, .ireturn, 1), (17, .aload_n 0, 1), (18, .invokevirtual 176, 3), (21, .aload_n 0, 1), (22, .getfield 57, 3), (25, .iload_n 1, 1), (26, .iload_n 2, 1), (27, .invokevirtual 289, 3), (30, .ireturn, 1)] = true := by decide +kernel
theorem d_N_forbids_0 : decode mN_forbids.2.1 0 = .ok (.aload_n 0, 1) := dq_get dd_N_forbids_0 (i := 0) rfl
theorem d_N_forbids_1 : decode mN_forbids.2.1 1 = .ok (.iload_n 1, 1) := dq_get dd_N_forbids_0 (i := 1) rfl
theorem d_N_forbids_2 : decode mN_forbids.2.1 2 = .ok (.invokevirtual 286, 3) := dq_get dd_N_forbids_0 (i := 2) rfl
theorem d_N_forbids_5 : decode mN_forbids.2.1 5 = .ok (.ifCond .eq 10, 3) := dq_get dd_N_forbids_0 (i := 3) rfl
theorem d_N_forbids_8 : decode mN_forbids.2.1 8 = .ok (.iload_n 2, 1) := dq_get dd_N_forbids_0 (i := 4) rfl
theorem d_N_forbids_9 : decode mN_forbids.2.1 9 = .ok (.invokestatic 173, 3) := dq_get dd_N_forbids_0 (i := 5) rfl
theorem d_N_forbids_12 : decode mN_forbids.2.1 12 = .ok (.ifCond .ne 5, 3) := dq_get dd_N_forbids_0 (i := 6) rfl
theorem d_N_forbids_15 : decode mN_forbids.2.1 15 = .ok (.iconst (-1), 1) := dq_get dd_N_forbids_0 (i := 7) rfl
theorem d_N_forbids_16 : decode mN_forbids.2.1 16 = .ok (.ireturn, 1) := dq_get dd_N_forbids_0 (i := 8) rfl
theorem d_N_forbids_17 : decode mN_forbids.2.1 17 = .ok (.aload_n 0, 1) := dq_get dd_N_forbids_0 (i := 9) rfl
theorem d_N_forbids_18 : decode mN_forbids.2.1 18 = .ok (.invokevirtual 176, 3) := dq_get dd_N_forbids_0 (i := 10) rfl
theorem d_N_forbids_21 : decode mN_forbids.2.1 21 = .ok (.aload_n 0, 1) := dq_get dd_N_forbids_0 (i := 11) rfl
theorem d_N_forbids_22 : decode mN_forbids.2.1 22 = .ok (.getfield 57, 3) := dq_get dd_N_forbids_0 (i := 12) rfl
theorem d_N_forbids_25 : decode mN_forbids.2.1 25 = .ok (.iload_n 1, 1) := dq_get dd_N_forbids_0 (i := 13) rfl
theorem d_N_forbids_26 : decode mN_forbids.2.1 26 = .ok (.iload_n 2, 1) := dq_get dd_N_forbids_0 (i := 14) rfl
theorem d_N_forbids_27 : decode mN_forbids.2.1 27 = .ok (.invokevirtual 289, 3) := dq_get dd_N_forbids_0 (i := 15) rfl
theorem d_N_forbids_30 : decode mN_forbids.2.1 30 = .ok (.ireturn, 1) := dq_get dd_N_forbids_0 (i := 16) rfl
theorem dd_N_isLeftOut_0 : dq mN_isLeftOut.2.1 [(0, .aload_n 0, 1), (1, .iload_n 1, 1), (2, .invokevirtual 128, 3), (5, .ifCond .eq 19, 3), (8, .aload_n 0, 1), (9, .getfield 31, 3), (12, .getfield 147, 3), (15, .iload_n 1, 1), (16, .iaload, 1), (17, .ifCond .ne 7, 3), (20, .iconst 1, 1), (21, .goto 4, 3), (24, .iconst 0, 1), (25, .ireturn, 1)] = true := by decide +kernel
theorem d_N_isLeftOut_0 : decode mN_isLeftOut.2.1 0 = .ok (.aload_n 0, 1) := dq_get dd_N_isLeftOut_0 (i := 0) rfl
theorem d_N_isLeftOut_1 : decode mN_isLeftOut.2.1 1 = .ok (.iload_n 1, 1) := dq_get dd_N_isLeftOut_0 (i := 1) rfl
theorem d_N_isLeftOut_2 : decode mN_isLeftOut.2.1 2 = .ok (.invokevirtual 128, 3) := dq_get dd_N_isLeftOut_0 (i := 2) rfl
theorem d_N_isLeftOut_5 : decode mN_isLeftOut.2.1 5 = .ok (.ifCond .eq 19, 3) := dq_get dd_N_isLeftOut_0 (i := 3) rfl
theorem d_N_isLeftOut_8 : decode mN_isLeftOut.2.1 8 = .ok (.aload_n 0, 1) := dq_get dd_N_isLeftOut_0 (i := 4) rfl
theorem d_N_isLeftOut_9 : decode mN_isLeftOut.2.1 9 = .ok (.getfield 31, 3) := dq_get dd_N_isLeftOut_0 (i := 5) rfl
theorem d_N_isLeftOut_12 : decode mN_isLeftOut.2.1 12 = .ok (.getfield 147, 3) := dq_get dd_N_isLeftOut_0 (i := 6) rfl
theorem d_N_isLeftOut_15 : decode mN_isLeftOut.2.1 15 = .ok (.iload_n 1, 1) := dq_get dd_N_isLeftOut_0 (i := 7) rfl
theorem d_N_isLeftOut_16 : decode mN_isLeftOut.2.1 16 = .ok (.iaload, 1) := dq_get dd_N_isLeftOut_0 (i := 8) rfl
theorem d_N_isLeftOut_17 : decode mN_isLeftOut.2.1 17 = .ok (.ifCond .ne 7, 3) := dq_get dd_N_isLeftOut_0 (i := 9) rfl
theorem d_N_isLeftOut_20 : decode mN_isLeftOut.2.1 20 = .ok (.iconst 1, 1) := dq_get dd_N_isLeftOut_0 (i := 10) rfl
theorem d_N_isLeftOut_21 : decode mN_isLeftOut.2.1 21 = .ok (.goto 4, 3) := dq_get dd_N_isLeftOut_0 (i := 11) rfl
theorem d_N_isLeftOut_24 : decode mN_isLeftOut.2.1 24 = .ok (.iconst 0, 1) := dq_get dd_N_isLeftOut_0 (i := 12) rfl
theorem d_N_isLeftOut_25 : decode mN_isLeftOut.2.1 25 = .ok (.ireturn, 1) := dq_get dd_N_isLeftOut_0 (i := 13) rfl
theorem dd_N_giveway_0 : dq mN_giveway.2.1 [(0, .aload_n 0, 1), (1, .iload_n 1, 1), (2, .invokevirtual 286, 3), (5, .ifCond .eq 19, 3), (8, .iload_n 2, 1), (9, .invokestatic 173, 3), (12, .ifCond .eq 12, 3), (15, .iload_n 3, 1), (16, .ifCond .lt 8, 3), (19, .iload_n 3, 1), (20, .iconst 1, 1), (21, .if_icmp .le 5, 3), (24, .iconst (-1), 1), (25, .ireturn, 1), (26, .aload_n 0, 1), (27, .invokevirtual 176, 3), (30, .aload_n 0, 1), (31, .invokevirtual 275, 3), (34, .aload_n 0, 1), (35, .getfield 49, 3), (38, .iload_n 1, 1), (39, .iload_n 2, 1), (40, .invokevirtual 292, 3), (43, .istore 4, 2), (45, .iload_n 3, 1), (46, .ifCond .ne 17, 3), (49, .iload 4, 2), (51, .iconst (-1), 1), (52, .if_icmp .eq 11, 3), (55, .iload 4, 2), (57, .invokestatic 211, 3), (60, .goto 5, 3)] = true := by decide +kernel
theorem d_N_giveway_0 : decode mN_giveway.2.1 0 = .ok (.aload_n 0, 1) := dq_get dd_N_giveway_0 (i := 0) rfl
theorem d_N_giveway_1 : decode mN_giveway.2.1 1 = .ok (.iload_n 1, 1) := dq_get dd_N_giveway_0 (i := 1) rfl
theorem d_N_giveway_2 : decode mN_giveway.2.1 2 = .ok (.invokevirtual 286, 3) := dq_get dd_N_giveway_0 (i := 2) rfl
theorem d_N_giveway_5 : decode mN_giveway.2.1 5 = .ok (.ifCond .eq 19, 3) := dq_get dd_N_giveway_0 (i := 3) rfl
theorem d_N_giveway_8 : decode mN_giveway.2.1 8 = .ok (.iload_n 2, 1) := dq_get dd_N_giveway_0 (i := 4) rfl
theorem d_N_giveway_9 : decode mN_giveway.2.1 9 = .ok (.invokestatic 173, 3) := dq_get dd_N_giveway_0 (i := 5) rfl
theorem d_N_giveway_12 : decode mN_giveway.2.1 12 = .ok (.ifCond .eq 12, 3) := dq_get dd_N_giveway_0 (i := 6) rfl
theorem d_N_giveway_15 : decode mN_giveway.2.1 15 = .ok (.iload_n 3, 1) := dq_get dd_N_giveway_0 (i := 7) rfl
theorem d_N_giveway_16 : decode mN_giveway.2.1 16 = .ok (.ifCond .lt 8, 3) := dq_get dd_N_giveway_0 (i := 8) rfl
theorem d_N_giveway_19 : decode mN_giveway.2.1 19 = .ok (.iload_n 3, 1) := dq_get dd_N_giveway_0 (i := 9) rfl
theorem d_N_giveway_20 : decode mN_giveway.2.1 20 = .ok (.iconst 1, 1) := dq_get dd_N_giveway_0 (i := 10) rfl
theorem d_N_giveway_21 : decode mN_giveway.2.1 21 = .ok (.if_icmp .le 5, 3) := dq_get dd_N_giveway_0 (i := 11) rfl
theorem d_N_giveway_24 : decode mN_giveway.2.1 24 = .ok (.iconst (-1), 1) := dq_get dd_N_giveway_0 (i := 12) rfl
theorem d_N_giveway_25 : decode mN_giveway.2.1 25 = .ok (.ireturn, 1) := dq_get dd_N_giveway_0 (i := 13) rfl
theorem d_N_giveway_26 : decode mN_giveway.2.1 26 = .ok (.aload_n 0, 1) := dq_get dd_N_giveway_0 (i := 14) rfl
theorem d_N_giveway_27 : decode mN_giveway.2.1 27 = .ok (.invokevirtual 176, 3) := dq_get dd_N_giveway_0 (i := 15) rfl
theorem d_N_giveway_30 : decode mN_giveway.2.1 30 = .ok (.aload_n 0, 1) := dq_get dd_N_giveway_0 (i := 16) rfl
theorem d_N_giveway_31 : decode mN_giveway.2.1 31 = .ok (.invokevirtual 275, 3) := dq_get dd_N_giveway_0 (i := 17) rfl
theorem d_N_giveway_34 : decode mN_giveway.2.1 34 = .ok (.aload_n 0, 1) := dq_get dd_N_giveway_0 (i := 18) rfl
theorem d_N_giveway_35 : decode mN_giveway.2.1 35 = .ok (.getfield 49, 3) := dq_get dd_N_giveway_0 (i := 19) rfl
theorem d_N_giveway_38 : decode mN_giveway.2.1 38 = .ok (.iload_n 1, 1) := dq_get dd_N_giveway_0 (i := 20) rfl
theorem d_N_giveway_39 : decode mN_giveway.2.1 39 = .ok (.iload_n 2, 1) := dq_get dd_N_giveway_0 (i := 21) rfl
theorem d_N_giveway_40 : decode mN_giveway.2.1 40 = .ok (.invokevirtual 292, 3) := dq_get dd_N_giveway_0 (i := 22) rfl
theorem d_N_giveway_43 : decode mN_giveway.2.1 43 = .ok (.istore 4, 2) := dq_get dd_N_giveway_0 (i := 23) rfl
theorem d_N_giveway_45 : decode mN_giveway.2.1 45 = .ok (.iload_n 3, 1) := dq_get dd_N_giveway_0 (i := 24) rfl
theorem d_N_giveway_46 : decode mN_giveway.2.1 46 = .ok (.ifCond .ne 17, 3) := dq_get dd_N_giveway_0 (i := 25) rfl
theorem d_N_giveway_49 : decode mN_giveway.2.1 49 = .ok (.iload 4, 2) := dq_get dd_N_giveway_0 (i := 26) rfl
theorem d_N_giveway_51 : decode mN_giveway.2.1 51 = .ok (.iconst (-1), 1) := dq_get dd_N_giveway_0 (i := 27) rfl
theorem d_N_giveway_52 : decode mN_giveway.2.1 52 = .ok (.if_icmp .eq 11, 3) := dq_get dd_N_giveway_0 (i := 28) rfl
theorem d_N_giveway_55 : decode mN_giveway.2.1 55 = .ok (.iload 4, 2) := dq_get dd_N_giveway_0 (i := 29) rfl
theorem d_N_giveway_57 : decode mN_giveway.2.1 57 = .ok (.invokestatic 211, 3) := dq_get dd_N_giveway_0 (i := 30) rfl
theorem d_N_giveway_60 : decode mN_giveway.2.1 60 = .ok (.goto 5, 3) := dq_get dd_N_giveway_0 (i := 31) rfl
theorem dd_N_giveway_32 : dq mN_giveway.2.1 [(63, .iload 4, 2), (65, .ireturn, 1)] = true := by decide +kernel
theorem d_N_giveway_63 : decode mN_giveway.2.1 63 = .ok (.iload 4, 2) := dq_get dd_N_giveway_32 (i := 0) rfl
theorem d_N_giveway_65 : decode mN_giveway.2.1 65 = .ok (.ireturn, 1) := dq_get dd_N_giveway_32 (i := 1) rfl
theorem dd_N_letin_0 : dq mN_letin.2.1 [(0, .aload_n 0, 1), (1, .iload_n 1, 1), (2, .invokevirtual 286, 3), (5, .ifCond .eq 12, 3), (8, .iload_n 2, 1), (9, .ifCond .lt 8, 3), (12, .iload_n 2, 1), (13, .iconst 1, 1), (14, .if_icmp .le 6, 3), (17, .bipush (-100), 2), (19, .ireturn, 1), (20, .aload_n 0, 1), (21, .invokevirtual 176, 3), (24, .iconst 0, 1), (25, .istore_n 3, 1), (26, .iload_n 3, 1), (27, .bipush 7, 2), (29, .if_icmp .gt 65, 3), (32, .aload_n 0, 1), (33, .getfield 57, 3), (36, .iload_n 1, 1), (37, .iload_n 3, 1), (38, .invokevirtual 295, 3), (41, .istore 4, 2), (43, .iload 4, 2), (45, .ifCond .eq 14, 3), (48, .iload_n 2, 1), (49, .ifCond .ne 7, 3), (52, .iload_n 3, 1), (53, .goto 5, 3), (56, .iload 4, 2), (58, .ireturn, 1)] = true := by decide +kernel
theorem d_N_letin_0 : decode mN_letin.2.1 0 = .ok (.aload_n 0, 1) := dq_get dd_N_letin_0 (i := 0) rfl
theorem d_N_letin_1 : decode mN_letin.2.1 1 = .ok (.iload_n 1, 1) := dq_get dd_N_letin_0 (i := 1) rfl
theorem d_N_letin_2 : decode mN_letin.2.1 2 = .ok (.invokevirtual 286, 3) := dq_get dd_N_letin_0 (i := 2) rfl
theorem d_N_letin_5 : decode mN_letin.2.1 5 = .ok (.ifCond .eq 12, 3) := dq_get dd_N_letin_0 (i := 3) rfl
theorem d_N_letin_8 : decode mN_letin.2.1 8 = .ok (.iload_n 2, 1) := dq_get dd_N_letin_0 (i := 4) rfl
theorem d_N_letin_9 : decode mN_letin.2.1 9 = .ok (.ifCond .lt 8, 3) := dq_get dd_N_letin_0 (i := 5) rfl
theorem d_N_letin_12 : decode mN_letin.2.1 12 = .ok (.iload_n 2, 1) := dq_get dd_N_letin_0 (i := 6) rfl
theorem d_N_letin_13 : decode mN_letin.2.1 13 = .ok (.iconst 1, 1) := dq_get dd_N_letin_0 (i := 7) rfl
theorem d_N_letin_14 : decode mN_letin.2.1 14 = .ok (.if_icmp .le 6, 3) := dq_get dd_N_letin_0 (i := 8) rfl
theorem d_N_letin_17 : decode mN_letin.2.1 17 = .ok (.bipush (-100), 2) := dq_get dd_N_letin_0 (i := 9) rfl
theorem d_N_letin_19 : decode mN_letin.2.1 19 = .ok (.ireturn, 1) := dq_get dd_N_letin_0 (i := 10) rfl
theorem d_N_letin_20 : decode mN_letin.2.1 20 = .ok (.aload_n 0, 1) := dq_get dd_N_letin_0 (i := 11) rfl
theorem d_N_letin_21 : decode mN_letin.2.1 21 = .ok (.invokevirtual 176, 3) := dq_get dd_N_letin_0 (i := 12) rfl
theorem d_N_letin_24 : decode mN_letin.2.1 24 = .ok (.iconst 0, 1) := dq_get dd_N_letin_0 (i := 13) rfl
theorem d_N_letin_25 : decode mN_letin.2.1 25 = .ok (.istore_n 3, 1) := dq_get dd_N_letin_0 (i := 14) rfl
theorem d_N_letin_26 : decode mN_letin.2.1 26 = .ok (.iload_n 3, 1) := dq_get dd_N_letin_0 (i := 15) rfl
theorem d_N_letin_27 : decode mN_letin.2.1 27 = .ok (.bipush 7, 2) := dq_get dd_N_letin_0 (i := 16) rfl
theorem d_N_letin_29 : decode mN_letin.2.1 29 = .ok (.if_icmp .gt 65, 3) := dq_get dd_N_letin_0 (i := 17) rfl
theorem d_N_letin_32 : decode mN_letin.2.1 32 = .ok (.aload_n 0, 1) := dq_get dd_N_letin_0 (i := 18) rfl
theorem d_N_letin_33 : decode mN_letin.2.1 33 = .ok (.getfield 57, 3) := dq_get dd_N_letin_0 (i := 19) rfl
theorem d_N_letin_36 : decode mN_letin.2.1 36 = .ok (.iload_n 1, 1) := dq_get dd_N_letin_0 (i := 20) rfl
theorem d_N_letin_37 : decode mN_letin.2.1 37 = .ok (.iload_n 3, 1) := dq_get dd_N_letin_0 (i := 21) rfl
theorem d_N_letin_38 : decode mN_letin.2.1 38 = .ok (.invokevirtual 295, 3) := dq_get dd_N_letin_0 (i := 22) rfl
theorem d_N_letin_41 : decode mN_letin.2.1 41 = .ok (.istore 4, 2) := dq_get dd_N_letin_0 (i := 23) rfl
theorem d_N_letin_43 : decode mN_letin.2.1 43 = .ok (.iload 4, 2) := dq_get dd_N_letin_0 (i := 24) rfl
theorem d_N_letin_45 : decode mN_letin.2.1 45 = .ok (.ifCond .eq 14, 3) := dq_get dd_N_letin_0 (i := 25) rfl
theorem d_N_letin_48 : decode mN_letin.2.1 48 = .ok (.iload_n 2, 1) := dq_get dd_N_letin_0 (i := 26) rfl
theorem d_N_letin_49 : decode mN_letin.2.1 49 = .ok (.ifCond .ne 7, 3) := dq_get dd_N_letin_0 (i := 27) rfl
theorem d_N_letin_52 : decode mN_letin.2.1 52 = .ok (.iload_n 3, 1) := dq_get dd_N_letin_0 (i := 28) rfl
theorem d_N_letin_53 : decode mN_letin.2.1 53 = .ok (.goto 5, 3) := dq_get dd_N_letin_0 (i := 29) rfl
theorem d_N_letin_56 : decode mN_letin.2.1 56 = .ok (.iload 4, 2) := dq_get dd_N_letin_0 (i := 30) rfl
theorem d_N_letin_58 : decode mN_letin.2.1 58 = .ok (.ireturn, 1) := dq_get dd_N_letin_0 (i := 31) rfl
theorem dd_N_letin_32 : dq mN_letin.2.1 [(59, .aload_n 0, 1), (60, .getfield 57, 3), (63, .iload_n 1, 1), (64, .iload_n 3, 1), (65, .ineg, 1), (66, .invokevirtual 295, 3), (69, .istore 5, 2), (71, .iload 5, 2), (73, .ifCond .eq 15, 3), (76, .iload_n 2, 1), (77, .ifCond .ne 8, 3), (80, .iload_n 3, 1), (81, .ineg, 1), (82, .goto 5, 3), (85, .iload 5, 2), (87, .ireturn, 1), (88, .iinc 3 1, 3), (91, .goto (-65), 3), (94, .bipush (-100), 2), (96, .ireturn, 1)] = true := by decide +kernel
theorem d_N_letin_59 : decode mN_letin.2.1 59 = .ok (.aload_n 0, 1) := dq_get dd_N_letin_32 (i := 0) rfl
theorem d_N_letin_60 : decode mN_letin.2.1 60 = .ok (.getfield 57, 3) := dq_get dd_N_letin_32 (i := 1) rfl
theorem d_N_letin_63 : decode mN_letin.2.1 63 = .ok (.iload_n 1, 1) := dq_get dd_N_letin_32 (i := 2) rfl
theorem d_N_letin_64 : decode mN_letin.2.1 64 = .ok (.iload_n 3, 1) := dq_get dd_N_letin_32 (i := 3) rfl
theorem d_N_letin_65 : decode mN_letin.2.1 65 = .ok (.ineg, 1) := dq_get dd_N_letin_32 (i := 4) rfl
theorem d_N_letin_66 : decode mN_letin.2.1 66 = .ok (.invokevirtual 295, 3) := dq_get dd_N_letin_32 (i := 5) rfl
theorem d_N_letin_69 : decode mN_letin.2.1 69 = .ok (.istore 5, 2) := dq_get dd_N_letin_32 (i := 6) rfl
theorem d_N_letin_71 : decode mN_letin.2.1 71 = .ok (.iload 5, 2) := dq_get dd_N_letin_32 (i := 7) rfl
theorem d_N_letin_73 : decode mN_letin.2.1 73 = .ok (.ifCond .eq 15, 3) := dq_get dd_N_letin_32 (i := 8) rfl
theorem d_N_letin_76 : decode mN_letin.2.1 76 = .ok (.iload_n 2, 1) := dq_get dd_N_letin_32 (i := 9) rfl
theorem d_N_letin_77 : decode mN_letin.2.1 77 = .ok (.ifCond .ne 8, 3) := dq_get dd_N_letin_32 (i := 10) rfl
theorem d_N_letin_80 : decode mN_letin.2.1 80 = .ok (.iload_n 3, 1) := dq_get dd_N_letin_32 (i := 11) rfl
theorem d_N_letin_81 : decode mN_letin.2.1 81 = .ok (.ineg, 1) := dq_get dd_N_letin_32 (i := 12) rfl
theorem d_N_letin_82 : decode mN_letin.2.1 82 = .ok (.goto 5, 3) := dq_get dd_N_letin_32 (i := 13) rfl
theorem d_N_letin_85 : decode mN_letin.2.1 85 = .ok (.iload 5, 2) := dq_get dd_N_letin_32 (i := 14) rfl
theorem d_N_letin_87 : decode mN_letin.2.1 87 = .ok (.ireturn, 1) := dq_get dd_N_letin_32 (i := 15) rfl
theorem d_N_letin_88 : decode mN_letin.2.1 88 = .ok (.iinc 3 1, 3) := dq_get dd_N_letin_32 (i := 16) rfl
theorem d_N_letin_91 : decode mN_letin.2.1 91 = .ok (.goto (-65), 3) := dq_get dd_N_letin_32 (i := 17) rfl
theorem d_N_letin_94 : decode mN_letin.2.1 94 = .ok (.bipush (-100), 2) := dq_get dd_N_letin_32 (i := 18) rfl
theorem d_N_letin_96 : decode mN_letin.2.1 96 = .ok (.ireturn, 1) := dq_get dd_N_letin_32 (i := 19) rfl
theorem dd_N_pedals_0 : dq mN_pedals.2.1 [(0, .iload_n 1, 1), (1, .ifCond .lt 8, 3), (4, .iload_n 1, 1), (5, .iconst 1, 1), (6, .if_icmp .le 5, 3), (9, .iconst (-1), 1), (10, .ireturn, 1), (11, .aload_n 0, 1), (12, .invokevirtual 176, 3), (15, .aload_n 0, 1), (16, .getfield 66, 3), (19, .aload_n 0, 1), (20, .getfield 57, 3), (23, .invokevirtual 298, 3), (26, .istore_n 2, 1), (27, .iload_n 1, 1), (28, .ifCond .ne 15, 3), (31, .iload_n 2, 1), (32, .iconst (-1), 1), (33, .if_icmp .eq 10, 3), (36, .iload_n 2, 1), (37, .invokestatic 211, 3), (40, .goto 4, 3), (43, .iload_n 2, 1), (44, .ireturn, 1)] = true := by decide +kernel
theorem d_N_pedals_0 : decode mN_pedals.2.1 0 = .ok (.iload_n 1, 1) := dq_get dd_N_pedals_0 (i := 0) rfl
theorem d_N_pedals_1 : decode mN_pedals.2.1 1 = .ok (.ifCond .lt 8, 3) := dq_get dd_N_pedals_0 (i := 1) rfl
theorem d_N_pedals_4 : decode mN_pedals.2.1 4 = .ok (.iload_n 1, 1) := dq_get dd_N_pedals_0 (i := 2) rfl
theorem d_N_pedals_5 : decode mN_pedals.2.1 5 = .ok (.iconst 1, 1) := dq_get dd_N_pedals_0 (i := 3) rfl
theorem d_N_pedals_6 : decode mN_pedals.2.1 6 = .ok (.if_icmp .le 5, 3) := dq_get dd_N_pedals_0 (i := 4) rfl
theorem d_N_pedals_9 : decode mN_pedals.2.1 9 = .ok (.iconst (-1), 1) := dq_get dd_N_pedals_0 (i := 5) rfl
theorem d_N_pedals_10 : decode mN_pedals.2.1 10 = .ok (.ireturn, 1) := dq_get dd_N_pedals_0 (i := 6) rfl
theorem d_N_pedals_11 : decode mN_pedals.2.1 11 = .ok (.aload_n 0, 1) := dq_get dd_N_pedals_0 (i := 7) rfl
theorem d_N_pedals_12 : decode mN_pedals.2.1 12 = .ok (.invokevirtual 176, 3) := dq_get dd_N_pedals_0 (i := 8) rfl
theorem d_N_pedals_15 : decode mN_pedals.2.1 15 = .ok (.aload_n 0, 1) := dq_get dd_N_pedals_0 (i := 9) rfl
theorem d_N_pedals_16 : decode mN_pedals.2.1 16 = .ok (.getfield 66, 3) := dq_get dd_N_pedals_0 (i := 10) rfl
theorem d_N_pedals_19 : decode mN_pedals.2.1 19 = .ok (.aload_n 0, 1) := dq_get dd_N_pedals_0 (i := 11) rfl
theorem d_N_pedals_20 : decode mN_pedals.2.1 20 = .ok (.getfield 57, 3) := dq_get dd_N_pedals_0 (i := 12) rfl
theorem d_N_pedals_23 : decode mN_pedals.2.1 23 = .ok (.invokevirtual 298, 3) := dq_get dd_N_pedals_0 (i := 13) rfl
theorem d_N_pedals_26 : decode mN_pedals.2.1 26 = .ok (.istore_n 2, 1) := dq_get dd_N_pedals_0 (i := 14) rfl
theorem d_N_pedals_27 : decode mN_pedals.2.1 27 = .ok (.iload_n 1, 1) := dq_get dd_N_pedals_0 (i := 15) rfl
theorem d_N_pedals_28 : decode mN_pedals.2.1 28 = .ok (.ifCond .ne 15, 3) := dq_get dd_N_pedals_0 (i := 16) rfl
theorem d_N_pedals_31 : decode mN_pedals.2.1 31 = .ok (.iload_n 2, 1) := dq_get dd_N_pedals_0 (i := 17) rfl
theorem d_N_pedals_32 : decode mN_pedals.2.1 32 = .ok (.iconst (-1), 1) := dq_get dd_N_pedals_0 (i := 18) rfl
theorem d_N_pedals_33 : decode mN_pedals.2.1 33 = .ok (.if_icmp .eq 10, 3) := dq_get dd_N_pedals_0 (i := 19) rfl
theorem d_N_pedals_36 : decode mN_pedals.2.1 36 = .ok (.iload_n 2, 1) := dq_get dd_N_pedals_0 (i := 20) rfl
theorem d_N_pedals_37 : decode mN_pedals.2.1 37 = .ok (.invokestatic 211, 3) := dq_get dd_N_pedals_0 (i := 21) rfl
theorem d_N_pedals_40 : decode mN_pedals.2.1 40 = .ok (.goto 4, 3) := dq_get dd_N_pedals_0 (i := 22) rfl
theorem d_N_pedals_43 : decode mN_pedals.2.1 43 = .ok (.iload_n 2, 1) := dq_get dd_N_pedals_0 (i := 23) rfl
theorem d_N_pedals_44 : decode mN_pedals.2.1 44 = .ok (.ireturn, 1) := dq_get dd_N_pedals_0 (i := 24) rfl
theorem dd_N_spread_0 : dq mN_spread.2.1 [(0, .iload_n 1, 1), (1, .invokestatic 173, 3), (4, .ifCond .ne 5, 3), (7, .iconst (-1), 1), (8, .ireturn, 1), (9, .aload_n 0, 1), (10, .invokevirtual 176, 3), (13, .iconst 0, 1), (14, .istore_n 2, 1), (15, .iconst 0, 1), (16, .istore_n 3, 1), (17, .iload_n 3, 1), (18, .aload_n 0, 1), (19, .getfield 24, 3), (22, .getfield 198, 3), (25, .if_icmp .ge 30, 3), (28, .iload_n 2, 1), (29, .aload_n 0, 1), (30, .getfield 57, 3), (33, .aload_n 0, 1), (34, .getfield 57, 3), (37, .iload_n 1, 1), (38, .iload_n 3, 1), (39, .invokevirtual 179, 3), (42, .invokevirtual 302, 3), (45, .invokestatic 234, 3), (48, .istore_n 2, 1), (49, .iinc 3 1, 3), (52, .goto (-35), 3), (55, .iload_n 2, 1), (56, .ireturn, 1)] = true := by decide +kernel
theorem d_N_spread_0 : decode mN_spread.2.1 0 = .ok (.iload_n 1, 1) := dq_get dd_N_spread_0 (i := 0) rfl
theorem d_N_spread_1 : decode mN_spread.2.1 1 = .ok (.invokestatic 173, 3) := dq_get dd_N_spread_0 (i := 1) rfl
theorem d_N_spread_4 : decode mN_spread.2.1 4 = .ok (.ifCond .ne 5, 3) := dq_get dd_N_spread_0 (i := 2) rfl
theorem d_N_spread_7 : decode mN_spread.2.1 7 = .ok (.iconst (-1), 1) := dq_get dd_N_spread_0 (i := 3) rfl
theorem d_N_spread_8 : decode mN_spread.2.1 8 = .ok (.ireturn, 1) := dq_get dd_N_spread_0 (i := 4) rfl
theorem d_N_spread_9 : decode mN_spread.2.1 9 = .ok (.aload_n 0, 1) := dq_get dd_N_spread_0 (i := 5) rfl
theorem d_N_spread_10 : decode mN_spread.2.1 10 = .ok (.invokevirtual 176, 3) := dq_get dd_N_spread_0 (i := 6) rfl
theorem d_N_spread_13 : decode mN_spread.2.1 13 = .ok (.iconst 0, 1) := dq_get dd_N_spread_0 (i := 7) rfl
theorem d_N_spread_14 : decode mN_spread.2.1 14 = .ok (.istore_n 2, 1) := dq_get dd_N_spread_0 (i := 8) rfl
theorem d_N_spread_15 : decode mN_spread.2.1 15 = .ok (.iconst 0, 1) := dq_get dd_N_spread_0 (i := 9) rfl
theorem d_N_spread_16 : decode mN_spread.2.1 16 = .ok (.istore_n 3, 1) := dq_get dd_N_spread_0 (i := 10) rfl
theorem d_N_spread_17 : decode mN_spread.2.1 17 = .ok (.iload_n 3, 1) := dq_get dd_N_spread_0 (i := 11) rfl
theorem d_N_spread_18 : decode mN_spread.2.1 18 = .ok (.aload_n 0, 1) := dq_get dd_N_spread_0 (i := 12) rfl
theorem d_N_spread_19 : decode mN_spread.2.1 19 = .ok (.getfield 24, 3) := dq_get dd_N_spread_0 (i := 13) rfl
theorem d_N_spread_22 : decode mN_spread.2.1 22 = .ok (.getfield 198, 3) := dq_get dd_N_spread_0 (i := 14) rfl
theorem d_N_spread_25 : decode mN_spread.2.1 25 = .ok (.if_icmp .ge 30, 3) := dq_get dd_N_spread_0 (i := 15) rfl
theorem d_N_spread_28 : decode mN_spread.2.1 28 = .ok (.iload_n 2, 1) := dq_get dd_N_spread_0 (i := 16) rfl
theorem d_N_spread_29 : decode mN_spread.2.1 29 = .ok (.aload_n 0, 1) := dq_get dd_N_spread_0 (i := 17) rfl
theorem d_N_spread_30 : decode mN_spread.2.1 30 = .ok (.getfield 57, 3) := dq_get dd_N_spread_0 (i := 18) rfl
theorem d_N_spread_33 : decode mN_spread.2.1 33 = .ok (.aload_n 0, 1) := dq_get dd_N_spread_0 (i := 19) rfl
theorem d_N_spread_34 : decode mN_spread.2.1 34 = .ok (.getfield 57, 3) := dq_get dd_N_spread_0 (i := 20) rfl
theorem d_N_spread_37 : decode mN_spread.2.1 37 = .ok (.iload_n 1, 1) := dq_get dd_N_spread_0 (i := 21) rfl
theorem d_N_spread_38 : decode mN_spread.2.1 38 = .ok (.iload_n 3, 1) := dq_get dd_N_spread_0 (i := 22) rfl
theorem d_N_spread_39 : decode mN_spread.2.1 39 = .ok (.invokevirtual 179, 3) := dq_get dd_N_spread_0 (i := 23) rfl
theorem d_N_spread_42 : decode mN_spread.2.1 42 = .ok (.invokevirtual 302, 3) := dq_get dd_N_spread_0 (i := 24) rfl
theorem d_N_spread_45 : decode mN_spread.2.1 45 = .ok (.invokestatic 234, 3) := dq_get dd_N_spread_0 (i := 25) rfl
theorem d_N_spread_48 : decode mN_spread.2.1 48 = .ok (.istore_n 2, 1) := dq_get dd_N_spread_0 (i := 26) rfl
theorem d_N_spread_49 : decode mN_spread.2.1 49 = .ok (.iinc 3 1, 3) := dq_get dd_N_spread_0 (i := 27) rfl
theorem d_N_spread_52 : decode mN_spread.2.1 52 = .ok (.goto (-35), 3) := dq_get dd_N_spread_0 (i := 28) rfl
theorem d_N_spread_55 : decode mN_spread.2.1 55 = .ok (.iload_n 2, 1) := dq_get dd_N_spread_0 (i := 29) rfl
theorem d_N_spread_56 : decode mN_spread.2.1 56 = .ok (.ireturn, 1) := dq_get dd_N_spread_0 (i := 30) rfl
theorem dd_N_leaps_0 : dq mN_leaps.2.1 [(0, .iload_n 1, 1), (1, .invokestatic 173, 3), (4, .ifCond .ne 5, 3), (7, .iconst (-1), 1), (8, .ireturn, 1), (9, .aload_n 0, 1), (10, .invokevirtual 176, 3), (13, .iconst 0, 1), (14, .istore_n 2, 1), (15, .iconst 1, 1), (16, .istore_n 3, 1), (17, .iload_n 3, 1), (18, .aload_n 0, 1), (19, .getfield 24, 3), (22, .getfield 198, 3), (25, .if_icmp .ge 45, 3), (28, .aload_n 0, 1), (29, .getfield 57, 3), (32, .iload_n 1, 1), (33, .iload_n 3, 1), (34, .iconst 1, 1), (35, .isub, 1), (36, .invokevirtual 179, 3), (39, .istore 4, 2), (41, .iload_n 2, 1), (42, .aload_n 0, 1), (43, .getfield 57, 3), (46, .iload 4, 2), (48, .aload_n 0, 1), (49, .getfield 57, 3), (52, .iload_n 1, 1), (53, .iload_n 3, 1)] = true := by decide +kernel
theorem d_N_leaps_0 : decode mN_leaps.2.1 0 = .ok (.iload_n 1, 1) := dq_get dd_N_leaps_0 (i := 0) rfl
theorem d_N_leaps_1 : decode mN_leaps.2.1 1 = .ok (.invokestatic 173, 3) := dq_get dd_N_leaps_0 (i := 1) rfl
theorem d_N_leaps_4 : decode mN_leaps.2.1 4 = .ok (.ifCond .ne 5, 3) := dq_get dd_N_leaps_0 (i := 2) rfl
theorem d_N_leaps_7 : decode mN_leaps.2.1 7 = .ok (.iconst (-1), 1) := dq_get dd_N_leaps_0 (i := 3) rfl
theorem d_N_leaps_8 : decode mN_leaps.2.1 8 = .ok (.ireturn, 1) := dq_get dd_N_leaps_0 (i := 4) rfl
theorem d_N_leaps_9 : decode mN_leaps.2.1 9 = .ok (.aload_n 0, 1) := dq_get dd_N_leaps_0 (i := 5) rfl
theorem d_N_leaps_10 : decode mN_leaps.2.1 10 = .ok (.invokevirtual 176, 3) := dq_get dd_N_leaps_0 (i := 6) rfl
theorem d_N_leaps_13 : decode mN_leaps.2.1 13 = .ok (.iconst 0, 1) := dq_get dd_N_leaps_0 (i := 7) rfl
theorem d_N_leaps_14 : decode mN_leaps.2.1 14 = .ok (.istore_n 2, 1) := dq_get dd_N_leaps_0 (i := 8) rfl
theorem d_N_leaps_15 : decode mN_leaps.2.1 15 = .ok (.iconst 1, 1) := dq_get dd_N_leaps_0 (i := 9) rfl
theorem d_N_leaps_16 : decode mN_leaps.2.1 16 = .ok (.istore_n 3, 1) := dq_get dd_N_leaps_0 (i := 10) rfl
theorem d_N_leaps_17 : decode mN_leaps.2.1 17 = .ok (.iload_n 3, 1) := dq_get dd_N_leaps_0 (i := 11) rfl
theorem d_N_leaps_18 : decode mN_leaps.2.1 18 = .ok (.aload_n 0, 1) := dq_get dd_N_leaps_0 (i := 12) rfl
theorem d_N_leaps_19 : decode mN_leaps.2.1 19 = .ok (.getfield 24, 3) := dq_get dd_N_leaps_0 (i := 13) rfl
theorem d_N_leaps_22 : decode mN_leaps.2.1 22 = .ok (.getfield 198, 3) := dq_get dd_N_leaps_0 (i := 14) rfl
theorem d_N_leaps_25 : decode mN_leaps.2.1 25 = .ok (.if_icmp .ge 45, 3) := dq_get dd_N_leaps_0 (i := 15) rfl
theorem d_N_leaps_28 : decode mN_leaps.2.1 28 = .ok (.aload_n 0, 1) := dq_get dd_N_leaps_0 (i := 16) rfl
theorem d_N_leaps_29 : decode mN_leaps.2.1 29 = .ok (.getfield 57, 3) := dq_get dd_N_leaps_0 (i := 17) rfl
theorem d_N_leaps_32 : decode mN_leaps.2.1 32 = .ok (.iload_n 1, 1) := dq_get dd_N_leaps_0 (i := 18) rfl
theorem d_N_leaps_33 : decode mN_leaps.2.1 33 = .ok (.iload_n 3, 1) := dq_get dd_N_leaps_0 (i := 19) rfl
theorem d_N_leaps_34 : decode mN_leaps.2.1 34 = .ok (.iconst 1, 1) := dq_get dd_N_leaps_0 (i := 20) rfl
theorem d_N_leaps_35 : decode mN_leaps.2.1 35 = .ok (.isub, 1) := dq_get dd_N_leaps_0 (i := 21) rfl
theorem d_N_leaps_36 : decode mN_leaps.2.1 36 = .ok (.invokevirtual 179, 3) := dq_get dd_N_leaps_0 (i := 22) rfl
theorem d_N_leaps_39 : decode mN_leaps.2.1 39 = .ok (.istore 4, 2) := dq_get dd_N_leaps_0 (i := 23) rfl
theorem d_N_leaps_41 : decode mN_leaps.2.1 41 = .ok (.iload_n 2, 1) := dq_get dd_N_leaps_0 (i := 24) rfl
theorem d_N_leaps_42 : decode mN_leaps.2.1 42 = .ok (.aload_n 0, 1) := dq_get dd_N_leaps_0 (i := 25) rfl
theorem d_N_leaps_43 : decode mN_leaps.2.1 43 = .ok (.getfield 57, 3) := dq_get dd_N_leaps_0 (i := 26) rfl
theorem d_N_leaps_46 : decode mN_leaps.2.1 46 = .ok (.iload 4, 2) := dq_get dd_N_leaps_0 (i := 27) rfl
theorem d_N_leaps_48 : decode mN_leaps.2.1 48 = .ok (.aload_n 0, 1) := dq_get dd_N_leaps_0 (i := 28) rfl
theorem d_N_leaps_49 : decode mN_leaps.2.1 49 = .ok (.getfield 57, 3) := dq_get dd_N_leaps_0 (i := 29) rfl
theorem d_N_leaps_52 : decode mN_leaps.2.1 52 = .ok (.iload_n 1, 1) := dq_get dd_N_leaps_0 (i := 30) rfl
theorem d_N_leaps_53 : decode mN_leaps.2.1 53 = .ok (.iload_n 3, 1) := dq_get dd_N_leaps_0 (i := 31) rfl
theorem dd_N_leaps_32 : dq mN_leaps.2.1 [(54, .invokevirtual 179, 3), (57, .invokevirtual 305, 3), (60, .invokestatic 234, 3), (63, .istore_n 2, 1), (64, .iinc 3 1, 3), (67, .goto (-50), 3), (70, .iload_n 2, 1), (71, .ireturn, 1)] = true := by decide +kernel
theorem d_N_leaps_54 : decode mN_leaps.2.1 54 = .ok (.invokevirtual 179, 3) := dq_get dd_N_leaps_32 (i := 0) rfl
theorem d_N_leaps_57 : decode mN_leaps.2.1 57 = .ok (.invokevirtual 305, 3) := dq_get dd_N_leaps_32 (i := 1) rfl
theorem d_N_leaps_60 : decode mN_leaps.2.1 60 = .ok (.invokestatic 234, 3) := dq_get dd_N_leaps_32 (i := 2) rfl
theorem d_N_leaps_63 : decode mN_leaps.2.1 63 = .ok (.istore_n 2, 1) := dq_get dd_N_leaps_32 (i := 3) rfl
theorem d_N_leaps_64 : decode mN_leaps.2.1 64 = .ok (.iinc 3 1, 3) := dq_get dd_N_leaps_32 (i := 4) rfl
theorem d_N_leaps_67 : decode mN_leaps.2.1 67 = .ok (.goto (-50), 3) := dq_get dd_N_leaps_32 (i := 5) rfl
theorem d_N_leaps_70 : decode mN_leaps.2.1 70 = .ok (.iload_n 2, 1) := dq_get dd_N_leaps_32 (i := 6) rfl
theorem d_N_leaps_71 : decode mN_leaps.2.1 71 = .ok (.ireturn, 1) := dq_get dd_N_leaps_32 (i := 7) rfl
theorem dd_N_blur_0 : dq mN_blur.2.1 [(0, .aload_n 0, 1), (1, .invokevirtual 176, 3), (4, .iconst 0, 1), (5, .istore_n 1, 1), (6, .iconst 0, 1), (7, .istore_n 2, 1), (8, .iload_n 2, 1), (9, .aload_n 0, 1), (10, .getfield 24, 3), (13, .getfield 198, 3), (16, .if_icmp .ge 20, 3), (19, .iload_n 1, 1), (20, .aload_n 0, 1), (21, .getfield 57, 3), (24, .iload_n 2, 1), (25, .invokevirtual 308, 3), (28, .iadd, 1), (29, .istore_n 1, 1), (30, .iinc 2 1, 3), (33, .goto (-25), 3), (36, .iload_n 1, 1), (37, .ireturn, 1)] = true := by decide +kernel
theorem d_N_blur_0 : decode mN_blur.2.1 0 = .ok (.aload_n 0, 1) := dq_get dd_N_blur_0 (i := 0) rfl
theorem d_N_blur_1 : decode mN_blur.2.1 1 = .ok (.invokevirtual 176, 3) := dq_get dd_N_blur_0 (i := 1) rfl
theorem d_N_blur_4 : decode mN_blur.2.1 4 = .ok (.iconst 0, 1) := dq_get dd_N_blur_0 (i := 2) rfl
theorem d_N_blur_5 : decode mN_blur.2.1 5 = .ok (.istore_n 1, 1) := dq_get dd_N_blur_0 (i := 3) rfl
theorem d_N_blur_6 : decode mN_blur.2.1 6 = .ok (.iconst 0, 1) := dq_get dd_N_blur_0 (i := 4) rfl
theorem d_N_blur_7 : decode mN_blur.2.1 7 = .ok (.istore_n 2, 1) := dq_get dd_N_blur_0 (i := 5) rfl
theorem d_N_blur_8 : decode mN_blur.2.1 8 = .ok (.iload_n 2, 1) := dq_get dd_N_blur_0 (i := 6) rfl
theorem d_N_blur_9 : decode mN_blur.2.1 9 = .ok (.aload_n 0, 1) := dq_get dd_N_blur_0 (i := 7) rfl
theorem d_N_blur_10 : decode mN_blur.2.1 10 = .ok (.getfield 24, 3) := dq_get dd_N_blur_0 (i := 8) rfl
theorem d_N_blur_13 : decode mN_blur.2.1 13 = .ok (.getfield 198, 3) := dq_get dd_N_blur_0 (i := 9) rfl
theorem d_N_blur_16 : decode mN_blur.2.1 16 = .ok (.if_icmp .ge 20, 3) := dq_get dd_N_blur_0 (i := 10) rfl
theorem d_N_blur_19 : decode mN_blur.2.1 19 = .ok (.iload_n 1, 1) := dq_get dd_N_blur_0 (i := 11) rfl
theorem d_N_blur_20 : decode mN_blur.2.1 20 = .ok (.aload_n 0, 1) := dq_get dd_N_blur_0 (i := 12) rfl
theorem d_N_blur_21 : decode mN_blur.2.1 21 = .ok (.getfield 57, 3) := dq_get dd_N_blur_0 (i := 13) rfl
theorem d_N_blur_24 : decode mN_blur.2.1 24 = .ok (.iload_n 2, 1) := dq_get dd_N_blur_0 (i := 14) rfl
theorem d_N_blur_25 : decode mN_blur.2.1 25 = .ok (.invokevirtual 308, 3) := dq_get dd_N_blur_0 (i := 15) rfl
theorem d_N_blur_28 : decode mN_blur.2.1 28 = .ok (.iadd, 1) := dq_get dd_N_blur_0 (i := 16) rfl
theorem d_N_blur_29 : decode mN_blur.2.1 29 = .ok (.istore_n 1, 1) := dq_get dd_N_blur_0 (i := 17) rfl
theorem d_N_blur_30 : decode mN_blur.2.1 30 = .ok (.iinc 2 1, 3) := dq_get dd_N_blur_0 (i := 18) rfl
theorem d_N_blur_33 : decode mN_blur.2.1 33 = .ok (.goto (-25), 3) := dq_get dd_N_blur_0 (i := 19) rfl
theorem d_N_blur_36 : decode mN_blur.2.1 36 = .ok (.iload_n 1, 1) := dq_get dd_N_blur_0 (i := 20) rfl
theorem d_N_blur_37 : decode mN_blur.2.1 37 = .ok (.ireturn, 1) := dq_get dd_N_blur_0 (i := 21) rfl
theorem dd_N_open_0 : dq mN_open.2.1 [(0, .aload_n 0, 1), (1, .iload_n 1, 1), (2, .invokevirtual 170, 3), (5, .ifCond .ne 5, 3), (8, .iconst (-1), 1), (9, .ireturn, 1), (10, .aload_n 0, 1), (11, .invokevirtual 176, 3), (14, .aload_n 0, 1), (15, .iload_n 1, 1), (16, .invokevirtual 311, 3), (19, .ireturn, 1)] = true := by decide +kernel
theorem d_N_open_0 : decode mN_open.2.1 0 = .ok (.aload_n 0, 1) := dq_get dd_N_open_0 (i := 0) rfl
theorem d_N_open_1 : decode mN_open.2.1 1 = .ok (.iload_n 1, 1) := dq_get dd_N_open_0 (i := 1) rfl
theorem d_N_open_2 : decode mN_open.2.1 2 = .ok (.invokevirtual 170, 3) := dq_get dd_N_open_0 (i := 2) rfl
theorem d_N_open_5 : decode mN_open.2.1 5 = .ok (.ifCond .ne 5, 3) := dq_get dd_N_open_0 (i := 3) rfl
theorem d_N_open_8 : decode mN_open.2.1 8 = .ok (.iconst (-1), 1) := dq_get dd_N_open_0 (i := 4) rfl
theorem d_N_open_9 : decode mN_open.2.1 9 = .ok (.ireturn, 1) := dq_get dd_N_open_0 (i := 5) rfl
theorem d_N_open_10 : decode mN_open.2.1 10 = .ok (.aload_n 0, 1) := dq_get dd_N_open_0 (i := 6) rfl
theorem d_N_open_11 : decode mN_open.2.1 11 = .ok (.invokevirtual 176, 3) := dq_get dd_N_open_0 (i := 7) rfl
theorem d_N_open_14 : decode mN_open.2.1 14 = .ok (.aload_n 0, 1) := dq_get dd_N_open_0 (i := 8) rfl
theorem d_N_open_15 : decode mN_open.2.1 15 = .ok (.iload_n 1, 1) := dq_get dd_N_open_0 (i := 9) rfl
theorem d_N_open_16 : decode mN_open.2.1 16 = .ok (.invokevirtual 311, 3) := dq_get dd_N_open_0 (i := 10) rfl
theorem d_N_open_19 : decode mN_open.2.1 19 = .ok (.ireturn, 1) := dq_get dd_N_open_0 (i := 11) rfl
theorem dd_N_openAt_0 : dq mN_openAt.2.1 [(0, .aload_n 0, 1), (1, .getfield 57, 3), (4, .iload_n 1, 1), (5, .invokevirtual 185, 3), (8, .istore_n 2, 1), (9, .iconst 0, 1), (10, .istore_n 3, 1), (11, .iconst 0, 1), (12, .istore 4, 2), (14, .iload 4, 2), (16, .aload_n 0, 1), (17, .getfield 24, 3), (20, .getfield 122, 3), (23, .if_icmp .ge 33, 3), (26, .iload_n 2, 1), (27, .iload 4, 2), (29, .ishr, 1), (30, .iconst 1, 1), (31, .iand, 1), (32, .ifCond .eq 18, 3), (35, .iload_n 3, 1), (36, .aload_n 0, 1), (37, .getfield 31, 3), (40, .getfield 144, 3), (43, .iload 4, 2), (45, .iaload, 1), (46, .invokestatic 234, 3), (49, .istore_n 3, 1), (50, .iinc 4 1, 3), (53, .goto (-39), 3), (56, .iconst 0, 1), (57, .istore 4, 2)] = true := by decide +kernel
theorem d_N_openAt_0 : decode mN_openAt.2.1 0 = .ok (.aload_n 0, 1) := dq_get dd_N_openAt_0 (i := 0) rfl
theorem d_N_openAt_1 : decode mN_openAt.2.1 1 = .ok (.getfield 57, 3) := dq_get dd_N_openAt_0 (i := 1) rfl
theorem d_N_openAt_4 : decode mN_openAt.2.1 4 = .ok (.iload_n 1, 1) := dq_get dd_N_openAt_0 (i := 2) rfl
theorem d_N_openAt_5 : decode mN_openAt.2.1 5 = .ok (.invokevirtual 185, 3) := dq_get dd_N_openAt_0 (i := 3) rfl
theorem d_N_openAt_8 : decode mN_openAt.2.1 8 = .ok (.istore_n 2, 1) := dq_get dd_N_openAt_0 (i := 4) rfl
theorem d_N_openAt_9 : decode mN_openAt.2.1 9 = .ok (.iconst 0, 1) := dq_get dd_N_openAt_0 (i := 5) rfl
theorem d_N_openAt_10 : decode mN_openAt.2.1 10 = .ok (.istore_n 3, 1) := dq_get dd_N_openAt_0 (i := 6) rfl
theorem d_N_openAt_11 : decode mN_openAt.2.1 11 = .ok (.iconst 0, 1) := dq_get dd_N_openAt_0 (i := 7) rfl
theorem d_N_openAt_12 : decode mN_openAt.2.1 12 = .ok (.istore 4, 2) := dq_get dd_N_openAt_0 (i := 8) rfl
theorem d_N_openAt_14 : decode mN_openAt.2.1 14 = .ok (.iload 4, 2) := dq_get dd_N_openAt_0 (i := 9) rfl
theorem d_N_openAt_16 : decode mN_openAt.2.1 16 = .ok (.aload_n 0, 1) := dq_get dd_N_openAt_0 (i := 10) rfl
theorem d_N_openAt_17 : decode mN_openAt.2.1 17 = .ok (.getfield 24, 3) := dq_get dd_N_openAt_0 (i := 11) rfl
theorem d_N_openAt_20 : decode mN_openAt.2.1 20 = .ok (.getfield 122, 3) := dq_get dd_N_openAt_0 (i := 12) rfl
theorem d_N_openAt_23 : decode mN_openAt.2.1 23 = .ok (.if_icmp .ge 33, 3) := dq_get dd_N_openAt_0 (i := 13) rfl
theorem d_N_openAt_26 : decode mN_openAt.2.1 26 = .ok (.iload_n 2, 1) := dq_get dd_N_openAt_0 (i := 14) rfl
theorem d_N_openAt_27 : decode mN_openAt.2.1 27 = .ok (.iload 4, 2) := dq_get dd_N_openAt_0 (i := 15) rfl
theorem d_N_openAt_29 : decode mN_openAt.2.1 29 = .ok (.ishr, 1) := dq_get dd_N_openAt_0 (i := 16) rfl
theorem d_N_openAt_30 : decode mN_openAt.2.1 30 = .ok (.iconst 1, 1) := dq_get dd_N_openAt_0 (i := 17) rfl
theorem d_N_openAt_31 : decode mN_openAt.2.1 31 = .ok (.iand, 1) := dq_get dd_N_openAt_0 (i := 18) rfl
theorem d_N_openAt_32 : decode mN_openAt.2.1 32 = .ok (.ifCond .eq 18, 3) := dq_get dd_N_openAt_0 (i := 19) rfl
theorem d_N_openAt_35 : decode mN_openAt.2.1 35 = .ok (.iload_n 3, 1) := dq_get dd_N_openAt_0 (i := 20) rfl
theorem d_N_openAt_36 : decode mN_openAt.2.1 36 = .ok (.aload_n 0, 1) := dq_get dd_N_openAt_0 (i := 21) rfl
theorem d_N_openAt_37 : decode mN_openAt.2.1 37 = .ok (.getfield 31, 3) := dq_get dd_N_openAt_0 (i := 22) rfl
theorem d_N_openAt_40 : decode mN_openAt.2.1 40 = .ok (.getfield 144, 3) := dq_get dd_N_openAt_0 (i := 23) rfl
theorem d_N_openAt_43 : decode mN_openAt.2.1 43 = .ok (.iload 4, 2) := dq_get dd_N_openAt_0 (i := 24) rfl
theorem d_N_openAt_45 : decode mN_openAt.2.1 45 = .ok (.iaload, 1) := dq_get dd_N_openAt_0 (i := 25) rfl
theorem d_N_openAt_46 : decode mN_openAt.2.1 46 = .ok (.invokestatic 234, 3) := dq_get dd_N_openAt_0 (i := 26) rfl
theorem d_N_openAt_49 : decode mN_openAt.2.1 49 = .ok (.istore_n 3, 1) := dq_get dd_N_openAt_0 (i := 27) rfl
theorem d_N_openAt_50 : decode mN_openAt.2.1 50 = .ok (.iinc 4 1, 3) := dq_get dd_N_openAt_0 (i := 28) rfl
theorem d_N_openAt_53 : decode mN_openAt.2.1 53 = .ok (.goto (-39), 3) := dq_get dd_N_openAt_0 (i := 29) rfl
theorem d_N_openAt_56 : decode mN_openAt.2.1 56 = .ok (.iconst 0, 1) := dq_get dd_N_openAt_0 (i := 30) rfl
theorem d_N_openAt_57 : decode mN_openAt.2.1 57 = .ok (.istore 4, 2) := dq_get dd_N_openAt_0 (i := 31) rfl
theorem dd_N_openAt_32 : dq mN_openAt.2.1 [(59, .iconst 0, 1), (60, .istore 5, 2), (62, .iload 5, 2), (64, .aload_n 0, 1), (65, .getfield 24, 3), (68, .getfield 122, 3), (71, .if_icmp .ge 49, 3), (74, .iload_n 2, 1), (75, .iload 5, 2), (77, .ishr, 1), (78, .iconst 1, 1), (79, .iand, 1), (80, .ifCond .eq 34, 3), (83, .iload_n 3, 1), (84, .aload_n 0, 1), (85, .getfield 31, 3), (88, .getfield 144, 3), (91, .iload 5, 2), (93, .iaload, 1), (94, .isub, 1), (95, .aload_n 0, 1), (96, .getfield 24, 3), (99, .getfield 314, 3), (102, .if_icmp .gt 12, 3), (105, .iload 4, 2), (107, .iconst 1, 1), (108, .iload 5, 2), (110, .ishl, 1), (111, .ior, 1), (112, .istore 4, 2), (114, .iinc 5 1, 3), (117, .goto (-55), 3)] = true := by decide +kernel
theorem d_N_openAt_59 : decode mN_openAt.2.1 59 = .ok (.iconst 0, 1) := dq_get dd_N_openAt_32 (i := 0) rfl
theorem d_N_openAt_60 : decode mN_openAt.2.1 60 = .ok (.istore 5, 2) := dq_get dd_N_openAt_32 (i := 1) rfl
theorem d_N_openAt_62 : decode mN_openAt.2.1 62 = .ok (.iload 5, 2) := dq_get dd_N_openAt_32 (i := 2) rfl
theorem d_N_openAt_64 : decode mN_openAt.2.1 64 = .ok (.aload_n 0, 1) := dq_get dd_N_openAt_32 (i := 3) rfl
theorem d_N_openAt_65 : decode mN_openAt.2.1 65 = .ok (.getfield 24, 3) := dq_get dd_N_openAt_32 (i := 4) rfl
theorem d_N_openAt_68 : decode mN_openAt.2.1 68 = .ok (.getfield 122, 3) := dq_get dd_N_openAt_32 (i := 5) rfl
theorem d_N_openAt_71 : decode mN_openAt.2.1 71 = .ok (.if_icmp .ge 49, 3) := dq_get dd_N_openAt_32 (i := 6) rfl
theorem d_N_openAt_74 : decode mN_openAt.2.1 74 = .ok (.iload_n 2, 1) := dq_get dd_N_openAt_32 (i := 7) rfl
theorem d_N_openAt_75 : decode mN_openAt.2.1 75 = .ok (.iload 5, 2) := dq_get dd_N_openAt_32 (i := 8) rfl
theorem d_N_openAt_77 : decode mN_openAt.2.1 77 = .ok (.ishr, 1) := dq_get dd_N_openAt_32 (i := 9) rfl
theorem d_N_openAt_78 : decode mN_openAt.2.1 78 = .ok (.iconst 1, 1) := dq_get dd_N_openAt_32 (i := 10) rfl
theorem d_N_openAt_79 : decode mN_openAt.2.1 79 = .ok (.iand, 1) := dq_get dd_N_openAt_32 (i := 11) rfl
theorem d_N_openAt_80 : decode mN_openAt.2.1 80 = .ok (.ifCond .eq 34, 3) := dq_get dd_N_openAt_32 (i := 12) rfl
theorem d_N_openAt_83 : decode mN_openAt.2.1 83 = .ok (.iload_n 3, 1) := dq_get dd_N_openAt_32 (i := 13) rfl
theorem d_N_openAt_84 : decode mN_openAt.2.1 84 = .ok (.aload_n 0, 1) := dq_get dd_N_openAt_32 (i := 14) rfl
theorem d_N_openAt_85 : decode mN_openAt.2.1 85 = .ok (.getfield 31, 3) := dq_get dd_N_openAt_32 (i := 15) rfl
theorem d_N_openAt_88 : decode mN_openAt.2.1 88 = .ok (.getfield 144, 3) := dq_get dd_N_openAt_32 (i := 16) rfl
theorem d_N_openAt_91 : decode mN_openAt.2.1 91 = .ok (.iload 5, 2) := dq_get dd_N_openAt_32 (i := 17) rfl
theorem d_N_openAt_93 : decode mN_openAt.2.1 93 = .ok (.iaload, 1) := dq_get dd_N_openAt_32 (i := 18) rfl
theorem d_N_openAt_94 : decode mN_openAt.2.1 94 = .ok (.isub, 1) := dq_get dd_N_openAt_32 (i := 19) rfl
theorem d_N_openAt_95 : decode mN_openAt.2.1 95 = .ok (.aload_n 0, 1) := dq_get dd_N_openAt_32 (i := 20) rfl
theorem d_N_openAt_96 : decode mN_openAt.2.1 96 = .ok (.getfield 24, 3) := dq_get dd_N_openAt_32 (i := 21) rfl
theorem d_N_openAt_99 : decode mN_openAt.2.1 99 = .ok (.getfield 314, 3) := dq_get dd_N_openAt_32 (i := 22) rfl
theorem d_N_openAt_102 : decode mN_openAt.2.1 102 = .ok (.if_icmp .gt 12, 3) := dq_get dd_N_openAt_32 (i := 23) rfl
theorem d_N_openAt_105 : decode mN_openAt.2.1 105 = .ok (.iload 4, 2) := dq_get dd_N_openAt_32 (i := 24) rfl
theorem d_N_openAt_107 : decode mN_openAt.2.1 107 = .ok (.iconst 1, 1) := dq_get dd_N_openAt_32 (i := 25) rfl
theorem d_N_openAt_108 : decode mN_openAt.2.1 108 = .ok (.iload 5, 2) := dq_get dd_N_openAt_32 (i := 26) rfl
theorem d_N_openAt_110 : decode mN_openAt.2.1 110 = .ok (.ishl, 1) := dq_get dd_N_openAt_32 (i := 27) rfl
theorem d_N_openAt_111 : decode mN_openAt.2.1 111 = .ok (.ior, 1) := dq_get dd_N_openAt_32 (i := 28) rfl
theorem d_N_openAt_112 : decode mN_openAt.2.1 112 = .ok (.istore 4, 2) := dq_get dd_N_openAt_32 (i := 29) rfl
theorem d_N_openAt_114 : decode mN_openAt.2.1 114 = .ok (.iinc 5 1, 3) := dq_get dd_N_openAt_32 (i := 30) rfl
theorem d_N_openAt_117 : decode mN_openAt.2.1 117 = .ok (.goto (-55), 3) := dq_get dd_N_openAt_32 (i := 31) rfl
theorem dd_N_openAt_64 : dq mN_openAt.2.1 [(120, .iload 4, 2), (122, .ireturn, 1)] = true := by decide +kernel
theorem d_N_openAt_120 : decode mN_openAt.2.1 120 = .ok (.iload 4, 2) := dq_get dd_N_openAt_64 (i := 0) rfl
theorem d_N_openAt_122 : decode mN_openAt.2.1 122 = .ok (.ireturn, 1) := dq_get dd_N_openAt_64 (i := 1) rfl
theorem dd_N_lost_0 : dq mN_lost.2.1 [(0, .aload_n 0, 1), (1, .invokevirtual 176, 3), (4, .iconst 0, 1), (5, .istore_n 1, 1), (6, .iconst 0, 1), (7, .istore_n 2, 1), (8, .iload_n 2, 1), (9, .aload_n 0, 1), (10, .getfield 24, 3), (13, .getfield 122, 3), (16, .if_icmp .ge 69, 3), (19, .aload_n 0, 1), (20, .getfield 24, 3), (23, .iload_n 2, 1), (24, .invokevirtual 208, 3), (27, .iconst 2, 1), (28, .if_icmp .ne 19, 3), (31, .aload_n 0, 1), (32, .getfield 31, 3), (35, .getfield 147, 3), (38, .iload_n 2, 1), (39, .iaload, 1), (40, .ifCond .eq 7, 3), (43, .iconst 1, 1), (44, .goto 4, 3), (47, .iconst 0, 1), (48, .istore_n 3, 1), (49, .iload_n 3, 1), (50, .ifCond .eq 29, 3), (53, .aload_n 0, 1), (54, .aload_n 0, 1), (55, .getfield 24, 3)] = true := by decide +kernel
theorem d_N_lost_0 : decode mN_lost.2.1 0 = .ok (.aload_n 0, 1) := dq_get dd_N_lost_0 (i := 0) rfl
theorem d_N_lost_1 : decode mN_lost.2.1 1 = .ok (.invokevirtual 176, 3) := dq_get dd_N_lost_0 (i := 1) rfl
theorem d_N_lost_4 : decode mN_lost.2.1 4 = .ok (.iconst 0, 1) := dq_get dd_N_lost_0 (i := 2) rfl
theorem d_N_lost_5 : decode mN_lost.2.1 5 = .ok (.istore_n 1, 1) := dq_get dd_N_lost_0 (i := 3) rfl
theorem d_N_lost_6 : decode mN_lost.2.1 6 = .ok (.iconst 0, 1) := dq_get dd_N_lost_0 (i := 4) rfl
theorem d_N_lost_7 : decode mN_lost.2.1 7 = .ok (.istore_n 2, 1) := dq_get dd_N_lost_0 (i := 5) rfl
theorem d_N_lost_8 : decode mN_lost.2.1 8 = .ok (.iload_n 2, 1) := dq_get dd_N_lost_0 (i := 6) rfl
theorem d_N_lost_9 : decode mN_lost.2.1 9 = .ok (.aload_n 0, 1) := dq_get dd_N_lost_0 (i := 7) rfl
theorem d_N_lost_10 : decode mN_lost.2.1 10 = .ok (.getfield 24, 3) := dq_get dd_N_lost_0 (i := 8) rfl
theorem d_N_lost_13 : decode mN_lost.2.1 13 = .ok (.getfield 122, 3) := dq_get dd_N_lost_0 (i := 9) rfl
theorem d_N_lost_16 : decode mN_lost.2.1 16 = .ok (.if_icmp .ge 69, 3) := dq_get dd_N_lost_0 (i := 10) rfl
theorem d_N_lost_19 : decode mN_lost.2.1 19 = .ok (.aload_n 0, 1) := dq_get dd_N_lost_0 (i := 11) rfl
theorem d_N_lost_20 : decode mN_lost.2.1 20 = .ok (.getfield 24, 3) := dq_get dd_N_lost_0 (i := 12) rfl
theorem d_N_lost_23 : decode mN_lost.2.1 23 = .ok (.iload_n 2, 1) := dq_get dd_N_lost_0 (i := 13) rfl
theorem d_N_lost_24 : decode mN_lost.2.1 24 = .ok (.invokevirtual 208, 3) := dq_get dd_N_lost_0 (i := 14) rfl
theorem d_N_lost_27 : decode mN_lost.2.1 27 = .ok (.iconst 2, 1) := dq_get dd_N_lost_0 (i := 15) rfl
theorem d_N_lost_28 : decode mN_lost.2.1 28 = .ok (.if_icmp .ne 19, 3) := dq_get dd_N_lost_0 (i := 16) rfl
theorem d_N_lost_31 : decode mN_lost.2.1 31 = .ok (.aload_n 0, 1) := dq_get dd_N_lost_0 (i := 17) rfl
theorem d_N_lost_32 : decode mN_lost.2.1 32 = .ok (.getfield 31, 3) := dq_get dd_N_lost_0 (i := 18) rfl
theorem d_N_lost_35 : decode mN_lost.2.1 35 = .ok (.getfield 147, 3) := dq_get dd_N_lost_0 (i := 19) rfl
theorem d_N_lost_38 : decode mN_lost.2.1 38 = .ok (.iload_n 2, 1) := dq_get dd_N_lost_0 (i := 20) rfl
theorem d_N_lost_39 : decode mN_lost.2.1 39 = .ok (.iaload, 1) := dq_get dd_N_lost_0 (i := 21) rfl
theorem d_N_lost_40 : decode mN_lost.2.1 40 = .ok (.ifCond .eq 7, 3) := dq_get dd_N_lost_0 (i := 22) rfl
theorem d_N_lost_43 : decode mN_lost.2.1 43 = .ok (.iconst 1, 1) := dq_get dd_N_lost_0 (i := 23) rfl
theorem d_N_lost_44 : decode mN_lost.2.1 44 = .ok (.goto 4, 3) := dq_get dd_N_lost_0 (i := 24) rfl
theorem d_N_lost_47 : decode mN_lost.2.1 47 = .ok (.iconst 0, 1) := dq_get dd_N_lost_0 (i := 25) rfl
theorem d_N_lost_48 : decode mN_lost.2.1 48 = .ok (.istore_n 3, 1) := dq_get dd_N_lost_0 (i := 26) rfl
theorem d_N_lost_49 : decode mN_lost.2.1 49 = .ok (.iload_n 3, 1) := dq_get dd_N_lost_0 (i := 27) rfl
theorem d_N_lost_50 : decode mN_lost.2.1 50 = .ok (.ifCond .eq 29, 3) := dq_get dd_N_lost_0 (i := 28) rfl
theorem d_N_lost_53 : decode mN_lost.2.1 53 = .ok (.aload_n 0, 1) := dq_get dd_N_lost_0 (i := 29) rfl
theorem d_N_lost_54 : decode mN_lost.2.1 54 = .ok (.aload_n 0, 1) := dq_get dd_N_lost_0 (i := 30) rfl
theorem d_N_lost_55 : decode mN_lost.2.1 55 = .ok (.getfield 24, 3) := dq_get dd_N_lost_0 (i := 31) rfl
theorem dd_N_lost_32 : dq mN_lost.2.1 [(58, .getfield 135, 3), (61, .iload_n 2, 1), (62, .iaload, 1), (63, .invokevirtual 311, 3), (66, .iload_n 2, 1), (67, .ishr, 1), (68, .iconst 1, 1), (69, .iand, 1), (70, .ifCond .ne 9, 3), (73, .iload_n 1, 1), (74, .iconst 1, 1), (75, .iload_n 2, 1), (76, .ishl, 1), (77, .ior, 1), (78, .istore_n 1, 1), (79, .iinc 2 1, 3), (82, .goto (-74), 3), (85, .iload_n 1, 1), (86, .ireturn, 1)] = true := by decide +kernel
theorem d_N_lost_58 : decode mN_lost.2.1 58 = .ok (.getfield 135, 3) := dq_get dd_N_lost_32 (i := 0) rfl
theorem d_N_lost_61 : decode mN_lost.2.1 61 = .ok (.iload_n 2, 1) := dq_get dd_N_lost_32 (i := 1) rfl
theorem d_N_lost_62 : decode mN_lost.2.1 62 = .ok (.iaload, 1) := dq_get dd_N_lost_32 (i := 2) rfl
theorem d_N_lost_63 : decode mN_lost.2.1 63 = .ok (.invokevirtual 311, 3) := dq_get dd_N_lost_32 (i := 3) rfl
theorem d_N_lost_66 : decode mN_lost.2.1 66 = .ok (.iload_n 2, 1) := dq_get dd_N_lost_32 (i := 4) rfl
theorem d_N_lost_67 : decode mN_lost.2.1 67 = .ok (.ishr, 1) := dq_get dd_N_lost_32 (i := 5) rfl
theorem d_N_lost_68 : decode mN_lost.2.1 68 = .ok (.iconst 1, 1) := dq_get dd_N_lost_32 (i := 6) rfl
theorem d_N_lost_69 : decode mN_lost.2.1 69 = .ok (.iand, 1) := dq_get dd_N_lost_32 (i := 7) rfl
theorem d_N_lost_70 : decode mN_lost.2.1 70 = .ok (.ifCond .ne 9, 3) := dq_get dd_N_lost_32 (i := 8) rfl
theorem d_N_lost_73 : decode mN_lost.2.1 73 = .ok (.iload_n 1, 1) := dq_get dd_N_lost_32 (i := 9) rfl
theorem d_N_lost_74 : decode mN_lost.2.1 74 = .ok (.iconst 1, 1) := dq_get dd_N_lost_32 (i := 10) rfl
theorem d_N_lost_75 : decode mN_lost.2.1 75 = .ok (.iload_n 2, 1) := dq_get dd_N_lost_32 (i := 11) rfl
theorem d_N_lost_76 : decode mN_lost.2.1 76 = .ok (.ishl, 1) := dq_get dd_N_lost_32 (i := 12) rfl
theorem d_N_lost_77 : decode mN_lost.2.1 77 = .ok (.ior, 1) := dq_get dd_N_lost_32 (i := 13) rfl
theorem d_N_lost_78 : decode mN_lost.2.1 78 = .ok (.istore_n 1, 1) := dq_get dd_N_lost_32 (i := 14) rfl
theorem d_N_lost_79 : decode mN_lost.2.1 79 = .ok (.iinc 2 1, 3) := dq_get dd_N_lost_32 (i := 15) rfl
theorem d_N_lost_82 : decode mN_lost.2.1 82 = .ok (.goto (-74), 3) := dq_get dd_N_lost_32 (i := 16) rfl
theorem d_N_lost_85 : decode mN_lost.2.1 85 = .ok (.iload_n 1, 1) := dq_get dd_N_lost_32 (i := 17) rfl
theorem d_N_lost_86 : decode mN_lost.2.1 86 = .ok (.ireturn, 1) := dq_get dd_N_lost_32 (i := 18) rfl
theorem dd_N_gaps_0 : dq mN_gaps.2.1 [(0, .aload_n 0, 1), (1, .invokevirtual 176, 3), (4, .iconst 0, 1), (5, .istore_n 1, 1), (6, .iconst 0, 1), (7, .istore_n 2, 1), (8, .iload_n 2, 1), (9, .aload_n 0, 1), (10, .getfield 24, 3), (13, .getfield 122, 3), (16, .if_icmp .ge 27, 3), (19, .aload_n 0, 1), (20, .getfield 24, 3), (23, .iload_n 2, 1), (24, .invokevirtual 208, 3), (27, .iconst 2, 1), (28, .if_icmp .ne 9, 3), (31, .iload_n 1, 1), (32, .iconst 1, 1), (33, .iload_n 2, 1), (34, .ishl, 1), (35, .ior, 1), (36, .istore_n 1, 1), (37, .iinc 2 1, 3), (40, .goto (-32), 3), (43, .iconst 0, 1), (44, .istore_n 2, 1), (45, .iconst 0, 1), (46, .istore_n 3, 1), (47, .iload_n 3, 1), (48, .aload_n 0, 1), (49, .getfield 24, 3)] = true := by decide +kernel
theorem d_N_gaps_0 : decode mN_gaps.2.1 0 = .ok (.aload_n 0, 1) := dq_get dd_N_gaps_0 (i := 0) rfl
theorem d_N_gaps_1 : decode mN_gaps.2.1 1 = .ok (.invokevirtual 176, 3) := dq_get dd_N_gaps_0 (i := 1) rfl
theorem d_N_gaps_4 : decode mN_gaps.2.1 4 = .ok (.iconst 0, 1) := dq_get dd_N_gaps_0 (i := 2) rfl
theorem d_N_gaps_5 : decode mN_gaps.2.1 5 = .ok (.istore_n 1, 1) := dq_get dd_N_gaps_0 (i := 3) rfl
theorem d_N_gaps_6 : decode mN_gaps.2.1 6 = .ok (.iconst 0, 1) := dq_get dd_N_gaps_0 (i := 4) rfl
theorem d_N_gaps_7 : decode mN_gaps.2.1 7 = .ok (.istore_n 2, 1) := dq_get dd_N_gaps_0 (i := 5) rfl
theorem d_N_gaps_8 : decode mN_gaps.2.1 8 = .ok (.iload_n 2, 1) := dq_get dd_N_gaps_0 (i := 6) rfl
theorem d_N_gaps_9 : decode mN_gaps.2.1 9 = .ok (.aload_n 0, 1) := dq_get dd_N_gaps_0 (i := 7) rfl
theorem d_N_gaps_10 : decode mN_gaps.2.1 10 = .ok (.getfield 24, 3) := dq_get dd_N_gaps_0 (i := 8) rfl
theorem d_N_gaps_13 : decode mN_gaps.2.1 13 = .ok (.getfield 122, 3) := dq_get dd_N_gaps_0 (i := 9) rfl
theorem d_N_gaps_16 : decode mN_gaps.2.1 16 = .ok (.if_icmp .ge 27, 3) := dq_get dd_N_gaps_0 (i := 10) rfl
theorem d_N_gaps_19 : decode mN_gaps.2.1 19 = .ok (.aload_n 0, 1) := dq_get dd_N_gaps_0 (i := 11) rfl
theorem d_N_gaps_20 : decode mN_gaps.2.1 20 = .ok (.getfield 24, 3) := dq_get dd_N_gaps_0 (i := 12) rfl
theorem d_N_gaps_23 : decode mN_gaps.2.1 23 = .ok (.iload_n 2, 1) := dq_get dd_N_gaps_0 (i := 13) rfl
theorem d_N_gaps_24 : decode mN_gaps.2.1 24 = .ok (.invokevirtual 208, 3) := dq_get dd_N_gaps_0 (i := 14) rfl
theorem d_N_gaps_27 : decode mN_gaps.2.1 27 = .ok (.iconst 2, 1) := dq_get dd_N_gaps_0 (i := 15) rfl
theorem d_N_gaps_28 : decode mN_gaps.2.1 28 = .ok (.if_icmp .ne 9, 3) := dq_get dd_N_gaps_0 (i := 16) rfl
theorem d_N_gaps_31 : decode mN_gaps.2.1 31 = .ok (.iload_n 1, 1) := dq_get dd_N_gaps_0 (i := 17) rfl
theorem d_N_gaps_32 : decode mN_gaps.2.1 32 = .ok (.iconst 1, 1) := dq_get dd_N_gaps_0 (i := 18) rfl
theorem d_N_gaps_33 : decode mN_gaps.2.1 33 = .ok (.iload_n 2, 1) := dq_get dd_N_gaps_0 (i := 19) rfl
theorem d_N_gaps_34 : decode mN_gaps.2.1 34 = .ok (.ishl, 1) := dq_get dd_N_gaps_0 (i := 20) rfl
theorem d_N_gaps_35 : decode mN_gaps.2.1 35 = .ok (.ior, 1) := dq_get dd_N_gaps_0 (i := 21) rfl
theorem d_N_gaps_36 : decode mN_gaps.2.1 36 = .ok (.istore_n 1, 1) := dq_get dd_N_gaps_0 (i := 22) rfl
theorem d_N_gaps_37 : decode mN_gaps.2.1 37 = .ok (.iinc 2 1, 3) := dq_get dd_N_gaps_0 (i := 23) rfl
theorem d_N_gaps_40 : decode mN_gaps.2.1 40 = .ok (.goto (-32), 3) := dq_get dd_N_gaps_0 (i := 24) rfl
theorem d_N_gaps_43 : decode mN_gaps.2.1 43 = .ok (.iconst 0, 1) := dq_get dd_N_gaps_0 (i := 25) rfl
theorem d_N_gaps_44 : decode mN_gaps.2.1 44 = .ok (.istore_n 2, 1) := dq_get dd_N_gaps_0 (i := 26) rfl
theorem d_N_gaps_45 : decode mN_gaps.2.1 45 = .ok (.iconst 0, 1) := dq_get dd_N_gaps_0 (i := 27) rfl
theorem d_N_gaps_46 : decode mN_gaps.2.1 46 = .ok (.istore_n 3, 1) := dq_get dd_N_gaps_0 (i := 28) rfl
theorem d_N_gaps_47 : decode mN_gaps.2.1 47 = .ok (.iload_n 3, 1) := dq_get dd_N_gaps_0 (i := 29) rfl
theorem d_N_gaps_48 : decode mN_gaps.2.1 48 = .ok (.aload_n 0, 1) := dq_get dd_N_gaps_0 (i := 30) rfl
theorem d_N_gaps_49 : decode mN_gaps.2.1 49 = .ok (.getfield 24, 3) := dq_get dd_N_gaps_0 (i := 31) rfl
theorem dd_N_gaps_32 : dq mN_gaps.2.1 [(52, .getfield 198, 3), (55, .if_icmp .ge 28, 3), (58, .aload_n 0, 1), (59, .getfield 57, 3), (62, .iload_n 3, 1), (63, .invokevirtual 185, 3), (66, .iload_n 1, 1), (67, .iand, 1), (68, .ifCond .ne 9, 3), (71, .iload_n 2, 1), (72, .iconst 1, 1), (73, .iload_n 3, 1), (74, .ishl, 1), (75, .ior, 1), (76, .istore_n 2, 1), (77, .iinc 3 1, 3), (80, .goto (-33), 3), (83, .iload_n 2, 1), (84, .ireturn, 1)] = true := by decide +kernel
theorem d_N_gaps_52 : decode mN_gaps.2.1 52 = .ok (.getfield 198, 3) := dq_get dd_N_gaps_32 (i := 0) rfl
theorem d_N_gaps_55 : decode mN_gaps.2.1 55 = .ok (.if_icmp .ge 28, 3) := dq_get dd_N_gaps_32 (i := 1) rfl
theorem d_N_gaps_58 : decode mN_gaps.2.1 58 = .ok (.aload_n 0, 1) := dq_get dd_N_gaps_32 (i := 2) rfl
theorem d_N_gaps_59 : decode mN_gaps.2.1 59 = .ok (.getfield 57, 3) := dq_get dd_N_gaps_32 (i := 3) rfl
theorem d_N_gaps_62 : decode mN_gaps.2.1 62 = .ok (.iload_n 3, 1) := dq_get dd_N_gaps_32 (i := 4) rfl
theorem d_N_gaps_63 : decode mN_gaps.2.1 63 = .ok (.invokevirtual 185, 3) := dq_get dd_N_gaps_32 (i := 5) rfl
theorem d_N_gaps_66 : decode mN_gaps.2.1 66 = .ok (.iload_n 1, 1) := dq_get dd_N_gaps_32 (i := 6) rfl
theorem d_N_gaps_67 : decode mN_gaps.2.1 67 = .ok (.iand, 1) := dq_get dd_N_gaps_32 (i := 7) rfl
theorem d_N_gaps_68 : decode mN_gaps.2.1 68 = .ok (.ifCond .ne 9, 3) := dq_get dd_N_gaps_32 (i := 8) rfl
theorem d_N_gaps_71 : decode mN_gaps.2.1 71 = .ok (.iload_n 2, 1) := dq_get dd_N_gaps_32 (i := 9) rfl
theorem d_N_gaps_72 : decode mN_gaps.2.1 72 = .ok (.iconst 1, 1) := dq_get dd_N_gaps_32 (i := 10) rfl
theorem d_N_gaps_73 : decode mN_gaps.2.1 73 = .ok (.iload_n 3, 1) := dq_get dd_N_gaps_32 (i := 11) rfl
theorem d_N_gaps_74 : decode mN_gaps.2.1 74 = .ok (.ishl, 1) := dq_get dd_N_gaps_32 (i := 12) rfl
theorem d_N_gaps_75 : decode mN_gaps.2.1 75 = .ok (.ior, 1) := dq_get dd_N_gaps_32 (i := 13) rfl
theorem d_N_gaps_76 : decode mN_gaps.2.1 76 = .ok (.istore_n 2, 1) := dq_get dd_N_gaps_32 (i := 14) rfl
theorem d_N_gaps_77 : decode mN_gaps.2.1 77 = .ok (.iinc 3 1, 3) := dq_get dd_N_gaps_32 (i := 15) rfl
theorem d_N_gaps_80 : decode mN_gaps.2.1 80 = .ok (.goto (-33), 3) := dq_get dd_N_gaps_32 (i := 16) rfl
theorem d_N_gaps_83 : decode mN_gaps.2.1 83 = .ok (.iload_n 2, 1) := dq_get dd_N_gaps_32 (i := 17) rfl
theorem d_N_gaps_84 : decode mN_gaps.2.1 84 = .ok (.ireturn, 1) := dq_get dd_N_gaps_32 (i := 18) rfl
theorem dd_N_easier_0 : dq mN_easier.2.1 [(0, .aload_n 0, 1), (1, .iload_n 1, 1), (2, .invokevirtual 128, 3), (5, .ifCond .eq 15, 3), (8, .aload_n 0, 1), (9, .getfield 31, 3), (12, .getfield 147, 3), (15, .iload_n 1, 1), (16, .iaload, 1), (17, .ifCond .ne 5, 3), (20, .iconst (-1), 1), (21, .ireturn, 1), (22, .aload_n 0, 1), (23, .invokevirtual 176, 3), (26, .iconst 1, 1), (27, .iload_n 1, 1), (28, .ishl, 1), (29, .iconst (-1), 1), (30, .ixor, 1), (31, .istore_n 2, 1), (32, .aload_n 0, 1), (33, .getfield 57, 3), (36, .aload_n 0, 1), (37, .getfield 57, 3), (40, .getfield 188, 3), (43, .aload_n 0, 1), (44, .getfield 57, 3), (47, .getfield 191, 3), (50, .invokevirtual 257, 3), (53, .istore_n 3, 1), (54, .aload_n 0, 1), (55, .getfield 57, 3)] = true := by decide +kernel
theorem d_N_easier_0 : decode mN_easier.2.1 0 = .ok (.aload_n 0, 1) := dq_get dd_N_easier_0 (i := 0) rfl
theorem d_N_easier_1 : decode mN_easier.2.1 1 = .ok (.iload_n 1, 1) := dq_get dd_N_easier_0 (i := 1) rfl
theorem d_N_easier_2 : decode mN_easier.2.1 2 = .ok (.invokevirtual 128, 3) := dq_get dd_N_easier_0 (i := 2) rfl
theorem d_N_easier_5 : decode mN_easier.2.1 5 = .ok (.ifCond .eq 15, 3) := dq_get dd_N_easier_0 (i := 3) rfl
theorem d_N_easier_8 : decode mN_easier.2.1 8 = .ok (.aload_n 0, 1) := dq_get dd_N_easier_0 (i := 4) rfl
theorem d_N_easier_9 : decode mN_easier.2.1 9 = .ok (.getfield 31, 3) := dq_get dd_N_easier_0 (i := 5) rfl
theorem d_N_easier_12 : decode mN_easier.2.1 12 = .ok (.getfield 147, 3) := dq_get dd_N_easier_0 (i := 6) rfl
theorem d_N_easier_15 : decode mN_easier.2.1 15 = .ok (.iload_n 1, 1) := dq_get dd_N_easier_0 (i := 7) rfl
theorem d_N_easier_16 : decode mN_easier.2.1 16 = .ok (.iaload, 1) := dq_get dd_N_easier_0 (i := 8) rfl
theorem d_N_easier_17 : decode mN_easier.2.1 17 = .ok (.ifCond .ne 5, 3) := dq_get dd_N_easier_0 (i := 9) rfl
theorem d_N_easier_20 : decode mN_easier.2.1 20 = .ok (.iconst (-1), 1) := dq_get dd_N_easier_0 (i := 10) rfl
theorem d_N_easier_21 : decode mN_easier.2.1 21 = .ok (.ireturn, 1) := dq_get dd_N_easier_0 (i := 11) rfl
theorem d_N_easier_22 : decode mN_easier.2.1 22 = .ok (.aload_n 0, 1) := dq_get dd_N_easier_0 (i := 12) rfl
theorem d_N_easier_23 : decode mN_easier.2.1 23 = .ok (.invokevirtual 176, 3) := dq_get dd_N_easier_0 (i := 13) rfl
theorem d_N_easier_26 : decode mN_easier.2.1 26 = .ok (.iconst 1, 1) := dq_get dd_N_easier_0 (i := 14) rfl
theorem d_N_easier_27 : decode mN_easier.2.1 27 = .ok (.iload_n 1, 1) := dq_get dd_N_easier_0 (i := 15) rfl
theorem d_N_easier_28 : decode mN_easier.2.1 28 = .ok (.ishl, 1) := dq_get dd_N_easier_0 (i := 16) rfl
theorem d_N_easier_29 : decode mN_easier.2.1 29 = .ok (.iconst (-1), 1) := dq_get dd_N_easier_0 (i := 17) rfl
theorem d_N_easier_30 : decode mN_easier.2.1 30 = .ok (.ixor, 1) := dq_get dd_N_easier_0 (i := 18) rfl
theorem d_N_easier_31 : decode mN_easier.2.1 31 = .ok (.istore_n 2, 1) := dq_get dd_N_easier_0 (i := 19) rfl
theorem d_N_easier_32 : decode mN_easier.2.1 32 = .ok (.aload_n 0, 1) := dq_get dd_N_easier_0 (i := 20) rfl
theorem d_N_easier_33 : decode mN_easier.2.1 33 = .ok (.getfield 57, 3) := dq_get dd_N_easier_0 (i := 21) rfl
theorem d_N_easier_36 : decode mN_easier.2.1 36 = .ok (.aload_n 0, 1) := dq_get dd_N_easier_0 (i := 22) rfl
theorem d_N_easier_37 : decode mN_easier.2.1 37 = .ok (.getfield 57, 3) := dq_get dd_N_easier_0 (i := 23) rfl
theorem d_N_easier_40 : decode mN_easier.2.1 40 = .ok (.getfield 188, 3) := dq_get dd_N_easier_0 (i := 24) rfl
theorem d_N_easier_43 : decode mN_easier.2.1 43 = .ok (.aload_n 0, 1) := dq_get dd_N_easier_0 (i := 25) rfl
theorem d_N_easier_44 : decode mN_easier.2.1 44 = .ok (.getfield 57, 3) := dq_get dd_N_easier_0 (i := 26) rfl
theorem d_N_easier_47 : decode mN_easier.2.1 47 = .ok (.getfield 191, 3) := dq_get dd_N_easier_0 (i := 27) rfl
theorem d_N_easier_50 : decode mN_easier.2.1 50 = .ok (.invokevirtual 257, 3) := dq_get dd_N_easier_0 (i := 28) rfl
theorem d_N_easier_53 : decode mN_easier.2.1 53 = .ok (.istore_n 3, 1) := dq_get dd_N_easier_0 (i := 29) rfl
theorem d_N_easier_54 : decode mN_easier.2.1 54 = .ok (.aload_n 0, 1) := dq_get dd_N_easier_0 (i := 30) rfl
theorem d_N_easier_55 : decode mN_easier.2.1 55 = .ok (.getfield 57, 3) := dq_get dd_N_easier_0 (i := 31) rfl
theorem dd_N_easier_32 : dq mN_easier.2.1 [(58, .aload_n 0, 1), (59, .getfield 57, 3), (62, .getfield 188, 3), (65, .iload_n 2, 1), (66, .iand, 1), (67, .aload_n 0, 1), (68, .getfield 57, 3), (71, .getfield 191, 3), (74, .iload_n 2, 1), (75, .iand, 1), (76, .invokevirtual 257, 3), (79, .istore 4, 2), (81, .iload_n 3, 1), (82, .invokestatic 211, 3), (85, .iload 4, 2), (87, .invokestatic 211, 3), (90, .isub, 1), (91, .ireturn, 1)] = true := by decide +kernel
theorem d_N_easier_58 : decode mN_easier.2.1 58 = .ok (.aload_n 0, 1) := dq_get dd_N_easier_32 (i := 0) rfl
theorem d_N_easier_59 : decode mN_easier.2.1 59 = .ok (.getfield 57, 3) := dq_get dd_N_easier_32 (i := 1) rfl
theorem d_N_easier_62 : decode mN_easier.2.1 62 = .ok (.getfield 188, 3) := dq_get dd_N_easier_32 (i := 2) rfl
theorem d_N_easier_65 : decode mN_easier.2.1 65 = .ok (.iload_n 2, 1) := dq_get dd_N_easier_32 (i := 3) rfl
theorem d_N_easier_66 : decode mN_easier.2.1 66 = .ok (.iand, 1) := dq_get dd_N_easier_32 (i := 4) rfl
theorem d_N_easier_67 : decode mN_easier.2.1 67 = .ok (.aload_n 0, 1) := dq_get dd_N_easier_32 (i := 5) rfl
theorem d_N_easier_68 : decode mN_easier.2.1 68 = .ok (.getfield 57, 3) := dq_get dd_N_easier_32 (i := 6) rfl
theorem d_N_easier_71 : decode mN_easier.2.1 71 = .ok (.getfield 191, 3) := dq_get dd_N_easier_32 (i := 7) rfl
theorem d_N_easier_74 : decode mN_easier.2.1 74 = .ok (.iload_n 2, 1) := dq_get dd_N_easier_32 (i := 8) rfl
theorem d_N_easier_75 : decode mN_easier.2.1 75 = .ok (.iand, 1) := dq_get dd_N_easier_32 (i := 9) rfl
theorem d_N_easier_76 : decode mN_easier.2.1 76 = .ok (.invokevirtual 257, 3) := dq_get dd_N_easier_32 (i := 10) rfl
theorem d_N_easier_79 : decode mN_easier.2.1 79 = .ok (.istore 4, 2) := dq_get dd_N_easier_32 (i := 11) rfl
theorem d_N_easier_81 : decode mN_easier.2.1 81 = .ok (.iload_n 3, 1) := dq_get dd_N_easier_32 (i := 12) rfl
theorem d_N_easier_82 : decode mN_easier.2.1 82 = .ok (.invokestatic 211, 3) := dq_get dd_N_easier_32 (i := 13) rfl
theorem d_N_easier_85 : decode mN_easier.2.1 85 = .ok (.iload 4, 2) := dq_get dd_N_easier_32 (i := 14) rfl
theorem d_N_easier_87 : decode mN_easier.2.1 87 = .ok (.invokestatic 211, 3) := dq_get dd_N_easier_32 (i := 15) rfl
theorem d_N_easier_90 : decode mN_easier.2.1 90 = .ok (.isub, 1) := dq_get dd_N_easier_32 (i := 16) rfl
theorem d_N_easier_91 : decode mN_easier.2.1 91 = .ok (.ireturn, 1) := dq_get dd_N_easier_32 (i := 17) rfl
theorem dd_N_thickest_0 : dq mN_thickest.2.1 [(0, .aload_n 0, 1), (1, .invokevirtual 176, 3), (4, .aload_n 0, 1), (5, .getfield 57, 3), (8, .aload_n 0, 1), (9, .getfield 57, 3), (12, .getfield 188, 3), (15, .aload_n 0, 1), (16, .getfield 57, 3), (19, .getfield 191, 3), (22, .ior, 1), (23, .invokevirtual 317, 3), (26, .ireturn, 1)] = true := by decide +kernel
theorem d_N_thickest_0 : decode mN_thickest.2.1 0 = .ok (.aload_n 0, 1) := dq_get dd_N_thickest_0 (i := 0) rfl
theorem d_N_thickest_1 : decode mN_thickest.2.1 1 = .ok (.invokevirtual 176, 3) := dq_get dd_N_thickest_0 (i := 1) rfl
theorem d_N_thickest_4 : decode mN_thickest.2.1 4 = .ok (.aload_n 0, 1) := dq_get dd_N_thickest_0 (i := 2) rfl
theorem d_N_thickest_5 : decode mN_thickest.2.1 5 = .ok (.getfield 57, 3) := dq_get dd_N_thickest_0 (i := 3) rfl
theorem d_N_thickest_8 : decode mN_thickest.2.1 8 = .ok (.aload_n 0, 1) := dq_get dd_N_thickest_0 (i := 4) rfl
theorem d_N_thickest_9 : decode mN_thickest.2.1 9 = .ok (.getfield 57, 3) := dq_get dd_N_thickest_0 (i := 5) rfl
theorem d_N_thickest_12 : decode mN_thickest.2.1 12 = .ok (.getfield 188, 3) := dq_get dd_N_thickest_0 (i := 6) rfl
theorem d_N_thickest_15 : decode mN_thickest.2.1 15 = .ok (.aload_n 0, 1) := dq_get dd_N_thickest_0 (i := 7) rfl
theorem d_N_thickest_16 : decode mN_thickest.2.1 16 = .ok (.getfield 57, 3) := dq_get dd_N_thickest_0 (i := 8) rfl
theorem d_N_thickest_19 : decode mN_thickest.2.1 19 = .ok (.getfield 191, 3) := dq_get dd_N_thickest_0 (i := 9) rfl
theorem d_N_thickest_22 : decode mN_thickest.2.1 22 = .ok (.ior, 1) := dq_get dd_N_thickest_0 (i := 10) rfl
theorem d_N_thickest_23 : decode mN_thickest.2.1 23 = .ok (.invokevirtual 317, 3) := dq_get dd_N_thickest_0 (i := 11) rfl
theorem d_N_thickest_26 : decode mN_thickest.2.1 26 = .ok (.ireturn, 1) := dq_get dd_N_thickest_0 (i := 12) rfl
theorem dd_N_busiest_0 : dq mN_busiest.2.1 [(0, .iload_n 1, 1), (1, .invokestatic 173, 3), (4, .ifCond .ne 5, 3), (7, .iconst (-1), 1), (8, .ireturn, 1), (9, .aload_n 0, 1), (10, .invokevirtual 176, 3), (13, .aload_n 0, 1), (14, .getfield 57, 3), (17, .aload_n 0, 1), (18, .getfield 57, 3), (21, .iload_n 1, 1), (22, .invokevirtual 320, 3), (25, .invokevirtual 317, 3), (28, .ireturn, 1)] = true := by decide +kernel
theorem d_N_busiest_0 : decode mN_busiest.2.1 0 = .ok (.iload_n 1, 1) := dq_get dd_N_busiest_0 (i := 0) rfl
theorem d_N_busiest_1 : decode mN_busiest.2.1 1 = .ok (.invokestatic 173, 3) := dq_get dd_N_busiest_0 (i := 1) rfl
theorem d_N_busiest_4 : decode mN_busiest.2.1 4 = .ok (.ifCond .ne 5, 3) := dq_get dd_N_busiest_0 (i := 2) rfl
theorem d_N_busiest_7 : decode mN_busiest.2.1 7 = .ok (.iconst (-1), 1) := dq_get dd_N_busiest_0 (i := 3) rfl
theorem d_N_busiest_8 : decode mN_busiest.2.1 8 = .ok (.ireturn, 1) := dq_get dd_N_busiest_0 (i := 4) rfl
theorem d_N_busiest_9 : decode mN_busiest.2.1 9 = .ok (.aload_n 0, 1) := dq_get dd_N_busiest_0 (i := 5) rfl
theorem d_N_busiest_10 : decode mN_busiest.2.1 10 = .ok (.invokevirtual 176, 3) := dq_get dd_N_busiest_0 (i := 6) rfl
theorem d_N_busiest_13 : decode mN_busiest.2.1 13 = .ok (.aload_n 0, 1) := dq_get dd_N_busiest_0 (i := 7) rfl
theorem d_N_busiest_14 : decode mN_busiest.2.1 14 = .ok (.getfield 57, 3) := dq_get dd_N_busiest_0 (i := 8) rfl
theorem d_N_busiest_17 : decode mN_busiest.2.1 17 = .ok (.aload_n 0, 1) := dq_get dd_N_busiest_0 (i := 9) rfl
theorem d_N_busiest_18 : decode mN_busiest.2.1 18 = .ok (.getfield 57, 3) := dq_get dd_N_busiest_0 (i := 10) rfl
theorem d_N_busiest_21 : decode mN_busiest.2.1 21 = .ok (.iload_n 1, 1) := dq_get dd_N_busiest_0 (i := 11) rfl
theorem d_N_busiest_22 : decode mN_busiest.2.1 22 = .ok (.invokevirtual 320, 3) := dq_get dd_N_busiest_0 (i := 12) rfl
theorem d_N_busiest_25 : decode mN_busiest.2.1 25 = .ok (.invokevirtual 317, 3) := dq_get dd_N_busiest_0 (i := 13) rfl
theorem d_N_busiest_28 : decode mN_busiest.2.1 28 = .ok (.ireturn, 1) := dq_get dd_N_busiest_0 (i := 14) rfl
theorem dd_N_law_0 : dq mN_law.2.1 [(0, .iload_n 1, 1), (1, .invokestatic 244, 3), (4, .ifCond .ne 5, 3), (7, .iconst (-1), 1), (8, .ireturn, 1), (9, .aload_n 0, 1), (10, .invokevirtual 176, 3), (13, .aload_n 0, 1), (14, .getfield 57, 3), (17, .iload_n 1, 1), (18, .putfield 279, 3), (21, .aload_n 0, 1), (22, .getfield 57, 3), (25, .aload_n 0, 1), (26, .getfield 57, 3), (29, .getfield 188, 3), (32, .aload_n 0, 1), (33, .getfield 57, 3), (36, .getfield 191, 3), (39, .invokevirtual 257, 3), (42, .invokestatic 211, 3), (45, .ireturn, 1)] = true := by decide +kernel
theorem d_N_law_0 : decode mN_law.2.1 0 = .ok (.iload_n 1, 1) := dq_get dd_N_law_0 (i := 0) rfl
theorem d_N_law_1 : decode mN_law.2.1 1 = .ok (.invokestatic 244, 3) := dq_get dd_N_law_0 (i := 1) rfl
theorem d_N_law_4 : decode mN_law.2.1 4 = .ok (.ifCond .ne 5, 3) := dq_get dd_N_law_0 (i := 2) rfl
theorem d_N_law_7 : decode mN_law.2.1 7 = .ok (.iconst (-1), 1) := dq_get dd_N_law_0 (i := 3) rfl
theorem d_N_law_8 : decode mN_law.2.1 8 = .ok (.ireturn, 1) := dq_get dd_N_law_0 (i := 4) rfl
theorem d_N_law_9 : decode mN_law.2.1 9 = .ok (.aload_n 0, 1) := dq_get dd_N_law_0 (i := 5) rfl
theorem d_N_law_10 : decode mN_law.2.1 10 = .ok (.invokevirtual 176, 3) := dq_get dd_N_law_0 (i := 6) rfl
theorem d_N_law_13 : decode mN_law.2.1 13 = .ok (.aload_n 0, 1) := dq_get dd_N_law_0 (i := 7) rfl
theorem d_N_law_14 : decode mN_law.2.1 14 = .ok (.getfield 57, 3) := dq_get dd_N_law_0 (i := 8) rfl
theorem d_N_law_17 : decode mN_law.2.1 17 = .ok (.iload_n 1, 1) := dq_get dd_N_law_0 (i := 9) rfl
theorem d_N_law_18 : decode mN_law.2.1 18 = .ok (.putfield 279, 3) := dq_get dd_N_law_0 (i := 10) rfl
theorem d_N_law_21 : decode mN_law.2.1 21 = .ok (.aload_n 0, 1) := dq_get dd_N_law_0 (i := 11) rfl
theorem d_N_law_22 : decode mN_law.2.1 22 = .ok (.getfield 57, 3) := dq_get dd_N_law_0 (i := 12) rfl
theorem d_N_law_25 : decode mN_law.2.1 25 = .ok (.aload_n 0, 1) := dq_get dd_N_law_0 (i := 13) rfl
theorem d_N_law_26 : decode mN_law.2.1 26 = .ok (.getfield 57, 3) := dq_get dd_N_law_0 (i := 14) rfl
theorem d_N_law_29 : decode mN_law.2.1 29 = .ok (.getfield 188, 3) := dq_get dd_N_law_0 (i := 15) rfl
theorem d_N_law_32 : decode mN_law.2.1 32 = .ok (.aload_n 0, 1) := dq_get dd_N_law_0 (i := 16) rfl
theorem d_N_law_33 : decode mN_law.2.1 33 = .ok (.getfield 57, 3) := dq_get dd_N_law_0 (i := 17) rfl
theorem d_N_law_36 : decode mN_law.2.1 36 = .ok (.getfield 191, 3) := dq_get dd_N_law_0 (i := 18) rfl
theorem d_N_law_39 : decode mN_law.2.1 39 = .ok (.invokevirtual 257, 3) := dq_get dd_N_law_0 (i := 19) rfl
theorem d_N_law_42 : decode mN_law.2.1 42 = .ok (.invokestatic 211, 3) := dq_get dd_N_law_0 (i := 20) rfl
theorem d_N_law_45 : decode mN_law.2.1 45 = .ok (.ireturn, 1) := dq_get dd_N_law_0 (i := 21) rfl
theorem dd_N_dearest_0 : dq mN_dearest.2.1 [(0, .iconst (-1), 1), (1, .istore_n 1, 1), (2, .iconst (-1), 1), (3, .istore_n 2, 1), (4, .iconst 0, 1), (5, .istore_n 3, 1), (6, .iload_n 3, 1), (7, .aload_n 0, 1), (8, .getfield 24, 3), (11, .getfield 122, 3), (14, .if_icmp .ge 43, 3), (17, .aload_n 0, 1), (18, .getfield 31, 3), (21, .getfield 147, 3), (24, .iload_n 3, 1), (25, .iaload, 1), (26, .ifCond .ne 11, 3), (29, .aload_n 0, 1), (30, .iload_n 3, 1), (31, .invokevirtual 150, 3), (34, .goto 4, 3), (37, .iconst (-1), 1), (38, .istore 4, 2), (40, .iload 4, 2), (42, .iload_n 2, 1), (43, .if_icmp .le 8, 3), (46, .iload 4, 2), (48, .istore_n 2, 1), (49, .iload_n 3, 1), (50, .istore_n 1, 1), (51, .iinc 3 1, 3), (54, .goto (-48), 3)] = true := by decide +kernel
theorem d_N_dearest_0 : decode mN_dearest.2.1 0 = .ok (.iconst (-1), 1) := dq_get dd_N_dearest_0 (i := 0) rfl
theorem d_N_dearest_1 : decode mN_dearest.2.1 1 = .ok (.istore_n 1, 1) := dq_get dd_N_dearest_0 (i := 1) rfl
theorem d_N_dearest_2 : decode mN_dearest.2.1 2 = .ok (.iconst (-1), 1) := dq_get dd_N_dearest_0 (i := 2) rfl
theorem d_N_dearest_3 : decode mN_dearest.2.1 3 = .ok (.istore_n 2, 1) := dq_get dd_N_dearest_0 (i := 3) rfl
theorem d_N_dearest_4 : decode mN_dearest.2.1 4 = .ok (.iconst 0, 1) := dq_get dd_N_dearest_0 (i := 4) rfl
theorem d_N_dearest_5 : decode mN_dearest.2.1 5 = .ok (.istore_n 3, 1) := dq_get dd_N_dearest_0 (i := 5) rfl
theorem d_N_dearest_6 : decode mN_dearest.2.1 6 = .ok (.iload_n 3, 1) := dq_get dd_N_dearest_0 (i := 6) rfl
theorem d_N_dearest_7 : decode mN_dearest.2.1 7 = .ok (.aload_n 0, 1) := dq_get dd_N_dearest_0 (i := 7) rfl
theorem d_N_dearest_8 : decode mN_dearest.2.1 8 = .ok (.getfield 24, 3) := dq_get dd_N_dearest_0 (i := 8) rfl
theorem d_N_dearest_11 : decode mN_dearest.2.1 11 = .ok (.getfield 122, 3) := dq_get dd_N_dearest_0 (i := 9) rfl
theorem d_N_dearest_14 : decode mN_dearest.2.1 14 = .ok (.if_icmp .ge 43, 3) := dq_get dd_N_dearest_0 (i := 10) rfl
theorem d_N_dearest_17 : decode mN_dearest.2.1 17 = .ok (.aload_n 0, 1) := dq_get dd_N_dearest_0 (i := 11) rfl
theorem d_N_dearest_18 : decode mN_dearest.2.1 18 = .ok (.getfield 31, 3) := dq_get dd_N_dearest_0 (i := 12) rfl
theorem d_N_dearest_21 : decode mN_dearest.2.1 21 = .ok (.getfield 147, 3) := dq_get dd_N_dearest_0 (i := 13) rfl
theorem d_N_dearest_24 : decode mN_dearest.2.1 24 = .ok (.iload_n 3, 1) := dq_get dd_N_dearest_0 (i := 14) rfl
theorem d_N_dearest_25 : decode mN_dearest.2.1 25 = .ok (.iaload, 1) := dq_get dd_N_dearest_0 (i := 15) rfl
theorem d_N_dearest_26 : decode mN_dearest.2.1 26 = .ok (.ifCond .ne 11, 3) := dq_get dd_N_dearest_0 (i := 16) rfl
theorem d_N_dearest_29 : decode mN_dearest.2.1 29 = .ok (.aload_n 0, 1) := dq_get dd_N_dearest_0 (i := 17) rfl
theorem d_N_dearest_30 : decode mN_dearest.2.1 30 = .ok (.iload_n 3, 1) := dq_get dd_N_dearest_0 (i := 18) rfl
theorem d_N_dearest_31 : decode mN_dearest.2.1 31 = .ok (.invokevirtual 150, 3) := dq_get dd_N_dearest_0 (i := 19) rfl
theorem d_N_dearest_34 : decode mN_dearest.2.1 34 = .ok (.goto 4, 3) := dq_get dd_N_dearest_0 (i := 20) rfl
theorem d_N_dearest_37 : decode mN_dearest.2.1 37 = .ok (.iconst (-1), 1) := dq_get dd_N_dearest_0 (i := 21) rfl
theorem d_N_dearest_38 : decode mN_dearest.2.1 38 = .ok (.istore 4, 2) := dq_get dd_N_dearest_0 (i := 22) rfl
theorem d_N_dearest_40 : decode mN_dearest.2.1 40 = .ok (.iload 4, 2) := dq_get dd_N_dearest_0 (i := 23) rfl
theorem d_N_dearest_42 : decode mN_dearest.2.1 42 = .ok (.iload_n 2, 1) := dq_get dd_N_dearest_0 (i := 24) rfl
theorem d_N_dearest_43 : decode mN_dearest.2.1 43 = .ok (.if_icmp .le 8, 3) := dq_get dd_N_dearest_0 (i := 25) rfl
theorem d_N_dearest_46 : decode mN_dearest.2.1 46 = .ok (.iload 4, 2) := dq_get dd_N_dearest_0 (i := 26) rfl
theorem d_N_dearest_48 : decode mN_dearest.2.1 48 = .ok (.istore_n 2, 1) := dq_get dd_N_dearest_0 (i := 27) rfl
theorem d_N_dearest_49 : decode mN_dearest.2.1 49 = .ok (.iload_n 3, 1) := dq_get dd_N_dearest_0 (i := 28) rfl
theorem d_N_dearest_50 : decode mN_dearest.2.1 50 = .ok (.istore_n 1, 1) := dq_get dd_N_dearest_0 (i := 29) rfl
theorem d_N_dearest_51 : decode mN_dearest.2.1 51 = .ok (.iinc 3 1, 3) := dq_get dd_N_dearest_0 (i := 30) rfl
theorem d_N_dearest_54 : decode mN_dearest.2.1 54 = .ok (.goto (-48), 3) := dq_get dd_N_dearest_0 (i := 31) rfl
theorem dd_N_dearest_32 : dq mN_dearest.2.1 [(57, .iload_n 1, 1), (58, .ireturn, 1)] = true := by decide +kernel
theorem d_N_dearest_57 : decode mN_dearest.2.1 57 = .ok (.iload_n 1, 1) := dq_get dd_N_dearest_32 (i := 0) rfl
theorem d_N_dearest_58 : decode mN_dearest.2.1 58 = .ok (.ireturn, 1) := dq_get dd_N_dearest_32 (i := 1) rfl
theorem dd_N_could_0 : dq mN_could.2.1 [(0, .iload_n 1, 1), (1, .invokestatic 173, 3), (4, .ifCond .ne 5, 3), (7, .iconst (-1), 1), (8, .ireturn, 1), (9, .aload_n 0, 1), (10, .invokevirtual 176, 3), (13, .iconst 0, 1), (14, .istore_n 2, 1), (15, .iconst 0, 1), (16, .istore_n 3, 1), (17, .iload_n 3, 1), (18, .aload_n 0, 1), (19, .getfield 24, 3), (22, .getfield 122, 3), (25, .if_icmp .ge 39, 3), (28, .aload_n 0, 1), (29, .getfield 31, 3), (32, .getfield 147, 3), (35, .iload_n 3, 1), (36, .iaload, 1), (37, .ifCond .ne 21, 3), (40, .aload_n 0, 1), (41, .getfield 57, 3), (44, .iload_n 3, 1), (45, .iload_n 1, 1), (46, .invokevirtual 289, 3), (49, .ifCond .ne 9, 3), (52, .iload_n 2, 1), (53, .iconst 1, 1), (54, .iload_n 3, 1), (55, .ishl, 1)] = true := by decide +kernel
theorem d_N_could_0 : decode mN_could.2.1 0 = .ok (.iload_n 1, 1) := dq_get dd_N_could_0 (i := 0) rfl
theorem d_N_could_1 : decode mN_could.2.1 1 = .ok (.invokestatic 173, 3) := dq_get dd_N_could_0 (i := 1) rfl
theorem d_N_could_4 : decode mN_could.2.1 4 = .ok (.ifCond .ne 5, 3) := dq_get dd_N_could_0 (i := 2) rfl
theorem d_N_could_7 : decode mN_could.2.1 7 = .ok (.iconst (-1), 1) := dq_get dd_N_could_0 (i := 3) rfl
theorem d_N_could_8 : decode mN_could.2.1 8 = .ok (.ireturn, 1) := dq_get dd_N_could_0 (i := 4) rfl
theorem d_N_could_9 : decode mN_could.2.1 9 = .ok (.aload_n 0, 1) := dq_get dd_N_could_0 (i := 5) rfl
theorem d_N_could_10 : decode mN_could.2.1 10 = .ok (.invokevirtual 176, 3) := dq_get dd_N_could_0 (i := 6) rfl
theorem d_N_could_13 : decode mN_could.2.1 13 = .ok (.iconst 0, 1) := dq_get dd_N_could_0 (i := 7) rfl
theorem d_N_could_14 : decode mN_could.2.1 14 = .ok (.istore_n 2, 1) := dq_get dd_N_could_0 (i := 8) rfl
theorem d_N_could_15 : decode mN_could.2.1 15 = .ok (.iconst 0, 1) := dq_get dd_N_could_0 (i := 9) rfl
theorem d_N_could_16 : decode mN_could.2.1 16 = .ok (.istore_n 3, 1) := dq_get dd_N_could_0 (i := 10) rfl
theorem d_N_could_17 : decode mN_could.2.1 17 = .ok (.iload_n 3, 1) := dq_get dd_N_could_0 (i := 11) rfl
theorem d_N_could_18 : decode mN_could.2.1 18 = .ok (.aload_n 0, 1) := dq_get dd_N_could_0 (i := 12) rfl
theorem d_N_could_19 : decode mN_could.2.1 19 = .ok (.getfield 24, 3) := dq_get dd_N_could_0 (i := 13) rfl
theorem d_N_could_22 : decode mN_could.2.1 22 = .ok (.getfield 122, 3) := dq_get dd_N_could_0 (i := 14) rfl
theorem d_N_could_25 : decode mN_could.2.1 25 = .ok (.if_icmp .ge 39, 3) := dq_get dd_N_could_0 (i := 15) rfl
theorem d_N_could_28 : decode mN_could.2.1 28 = .ok (.aload_n 0, 1) := dq_get dd_N_could_0 (i := 16) rfl
theorem d_N_could_29 : decode mN_could.2.1 29 = .ok (.getfield 31, 3) := dq_get dd_N_could_0 (i := 17) rfl
theorem d_N_could_32 : decode mN_could.2.1 32 = .ok (.getfield 147, 3) := dq_get dd_N_could_0 (i := 18) rfl
theorem d_N_could_35 : decode mN_could.2.1 35 = .ok (.iload_n 3, 1) := dq_get dd_N_could_0 (i := 19) rfl
theorem d_N_could_36 : decode mN_could.2.1 36 = .ok (.iaload, 1) := dq_get dd_N_could_0 (i := 20) rfl
theorem d_N_could_37 : decode mN_could.2.1 37 = .ok (.ifCond .ne 21, 3) := dq_get dd_N_could_0 (i := 21) rfl
theorem d_N_could_40 : decode mN_could.2.1 40 = .ok (.aload_n 0, 1) := dq_get dd_N_could_0 (i := 22) rfl
theorem d_N_could_41 : decode mN_could.2.1 41 = .ok (.getfield 57, 3) := dq_get dd_N_could_0 (i := 23) rfl
theorem d_N_could_44 : decode mN_could.2.1 44 = .ok (.iload_n 3, 1) := dq_get dd_N_could_0 (i := 24) rfl
theorem d_N_could_45 : decode mN_could.2.1 45 = .ok (.iload_n 1, 1) := dq_get dd_N_could_0 (i := 25) rfl
theorem d_N_could_46 : decode mN_could.2.1 46 = .ok (.invokevirtual 289, 3) := dq_get dd_N_could_0 (i := 26) rfl
theorem d_N_could_49 : decode mN_could.2.1 49 = .ok (.ifCond .ne 9, 3) := dq_get dd_N_could_0 (i := 27) rfl
theorem d_N_could_52 : decode mN_could.2.1 52 = .ok (.iload_n 2, 1) := dq_get dd_N_could_0 (i := 28) rfl
theorem d_N_could_53 : decode mN_could.2.1 53 = .ok (.iconst 1, 1) := dq_get dd_N_could_0 (i := 29) rfl
theorem d_N_could_54 : decode mN_could.2.1 54 = .ok (.iload_n 3, 1) := dq_get dd_N_could_0 (i := 30) rfl
theorem d_N_could_55 : decode mN_could.2.1 55 = .ok (.ishl, 1) := dq_get dd_N_could_0 (i := 31) rfl
theorem dd_N_could_32 : dq mN_could.2.1 [(56, .ior, 1), (57, .istore_n 2, 1), (58, .iinc 3 1, 3), (61, .goto (-44), 3), (64, .iload_n 2, 1), (65, .ireturn, 1)] = true := by decide +kernel
theorem d_N_could_56 : decode mN_could.2.1 56 = .ok (.ior, 1) := dq_get dd_N_could_32 (i := 0) rfl
theorem d_N_could_57 : decode mN_could.2.1 57 = .ok (.istore_n 2, 1) := dq_get dd_N_could_32 (i := 1) rfl
theorem d_N_could_58 : decode mN_could.2.1 58 = .ok (.iinc 3 1, 3) := dq_get dd_N_could_32 (i := 2) rfl
theorem d_N_could_61 : decode mN_could.2.1 61 = .ok (.goto (-44), 3) := dq_get dd_N_could_32 (i := 3) rfl
theorem d_N_could_64 : decode mN_could.2.1 64 = .ok (.iload_n 2, 1) := dq_get dd_N_could_32 (i := 4) rfl
theorem d_N_could_65 : decode mN_could.2.1 65 = .ok (.ireturn, 1) := dq_get dd_N_could_32 (i := 5) rfl
theorem dd_N_lies_0 : dq mN_lies.2.1 [(0, .iload_n 1, 1), (1, .ifCond .lt 20, 3), (4, .iload_n 1, 1), (5, .aload_n 0, 1), (6, .getfield 115, 3), (9, .if_icmp .ge 12, 3), (12, .aload_n 0, 1), (13, .getfield 77, 3), (16, .iload_n 1, 1), (17, .iaload, 1), (18, .goto 4, 3), (21, .iconst (-1), 1), (22, .ireturn, 1)] = true := by decide +kernel
theorem d_N_lies_0 : decode mN_lies.2.1 0 = .ok (.iload_n 1, 1) := dq_get dd_N_lies_0 (i := 0) rfl
theorem d_N_lies_1 : decode mN_lies.2.1 1 = .ok (.ifCond .lt 20, 3) := dq_get dd_N_lies_0 (i := 1) rfl
theorem d_N_lies_4 : decode mN_lies.2.1 4 = .ok (.iload_n 1, 1) := dq_get dd_N_lies_0 (i := 2) rfl
theorem d_N_lies_5 : decode mN_lies.2.1 5 = .ok (.aload_n 0, 1) := dq_get dd_N_lies_0 (i := 3) rfl
theorem d_N_lies_6 : decode mN_lies.2.1 6 = .ok (.getfield 115, 3) := dq_get dd_N_lies_0 (i := 4) rfl
theorem d_N_lies_9 : decode mN_lies.2.1 9 = .ok (.if_icmp .ge 12, 3) := dq_get dd_N_lies_0 (i := 5) rfl
theorem d_N_lies_12 : decode mN_lies.2.1 12 = .ok (.aload_n 0, 1) := dq_get dd_N_lies_0 (i := 6) rfl
theorem d_N_lies_13 : decode mN_lies.2.1 13 = .ok (.getfield 77, 3) := dq_get dd_N_lies_0 (i := 7) rfl
theorem d_N_lies_16 : decode mN_lies.2.1 16 = .ok (.iload_n 1, 1) := dq_get dd_N_lies_0 (i := 8) rfl
theorem d_N_lies_17 : decode mN_lies.2.1 17 = .ok (.iaload, 1) := dq_get dd_N_lies_0 (i := 9) rfl
theorem d_N_lies_18 : decode mN_lies.2.1 18 = .ok (.goto 4, 3) := dq_get dd_N_lies_0 (i := 10) rfl
theorem d_N_lies_21 : decode mN_lies.2.1 21 = .ok (.iconst (-1), 1) := dq_get dd_N_lies_0 (i := 11) rfl
theorem d_N_lies_22 : decode mN_lies.2.1 22 = .ok (.ireturn, 1) := dq_get dd_N_lies_0 (i := 12) rfl
theorem dd_N_heard_0 : dq mN_heard.2.1 [(0, .aload_n 0, 1), (1, .iload_n 1, 1), (2, .invokevirtual 170, 3), (5, .ifCond .eq 10, 3), (8, .iload_n 2, 1), (9, .invokestatic 244, 3), (12, .ifCond .ne 5, 3), (15, .iconst (-1), 1), (16, .ireturn, 1), (17, .aload_n 0, 1), (18, .getfield 73, 3), (21, .iload_n 1, 1), (22, .iload_n 2, 1), (23, .iload_n 3, 1), (24, .invokevirtual 321, 3), (27, .ireturn, 1)] = true := by decide +kernel
theorem d_N_heard_0 : decode mN_heard.2.1 0 = .ok (.aload_n 0, 1) := dq_get dd_N_heard_0 (i := 0) rfl
theorem d_N_heard_1 : decode mN_heard.2.1 1 = .ok (.iload_n 1, 1) := dq_get dd_N_heard_0 (i := 1) rfl
theorem d_N_heard_2 : decode mN_heard.2.1 2 = .ok (.invokevirtual 170, 3) := dq_get dd_N_heard_0 (i := 2) rfl
theorem d_N_heard_5 : decode mN_heard.2.1 5 = .ok (.ifCond .eq 10, 3) := dq_get dd_N_heard_0 (i := 3) rfl
theorem d_N_heard_8 : decode mN_heard.2.1 8 = .ok (.iload_n 2, 1) := dq_get dd_N_heard_0 (i := 4) rfl
theorem d_N_heard_9 : decode mN_heard.2.1 9 = .ok (.invokestatic 244, 3) := dq_get dd_N_heard_0 (i := 5) rfl
theorem d_N_heard_12 : decode mN_heard.2.1 12 = .ok (.ifCond .ne 5, 3) := dq_get dd_N_heard_0 (i := 6) rfl
theorem d_N_heard_15 : decode mN_heard.2.1 15 = .ok (.iconst (-1), 1) := dq_get dd_N_heard_0 (i := 7) rfl
theorem d_N_heard_16 : decode mN_heard.2.1 16 = .ok (.ireturn, 1) := dq_get dd_N_heard_0 (i := 8) rfl
theorem d_N_heard_17 : decode mN_heard.2.1 17 = .ok (.aload_n 0, 1) := dq_get dd_N_heard_0 (i := 9) rfl
theorem d_N_heard_18 : decode mN_heard.2.1 18 = .ok (.getfield 73, 3) := dq_get dd_N_heard_0 (i := 10) rfl
theorem d_N_heard_21 : decode mN_heard.2.1 21 = .ok (.iload_n 1, 1) := dq_get dd_N_heard_0 (i := 11) rfl
theorem d_N_heard_22 : decode mN_heard.2.1 22 = .ok (.iload_n 2, 1) := dq_get dd_N_heard_0 (i := 12) rfl
theorem d_N_heard_23 : decode mN_heard.2.1 23 = .ok (.iload_n 3, 1) := dq_get dd_N_heard_0 (i := 13) rfl
theorem d_N_heard_24 : decode mN_heard.2.1 24 = .ok (.invokevirtual 321, 3) := dq_get dd_N_heard_0 (i := 14) rfl
theorem d_N_heard_27 : decode mN_heard.2.1 27 = .ok (.ireturn, 1) := dq_get dd_N_heard_0 (i := 15) rfl
theorem dd_N_untell_0 : dq mN_untell.2.1 [(0, .aload_n 0, 1), (1, .getfield 73, 3), (4, .iload_n 1, 1), (5, .invokevirtual 325, 3), (8, .ireturn, 1)] = true := by decide +kernel
theorem d_N_untell_0 : decode mN_untell.2.1 0 = .ok (.aload_n 0, 1) := dq_get dd_N_untell_0 (i := 0) rfl
theorem d_N_untell_1 : decode mN_untell.2.1 1 = .ok (.getfield 73, 3) := dq_get dd_N_untell_0 (i := 1) rfl
theorem d_N_untell_4 : decode mN_untell.2.1 4 = .ok (.iload_n 1, 1) := dq_get dd_N_untell_0 (i := 2) rfl
theorem d_N_untell_5 : decode mN_untell.2.1 5 = .ok (.invokevirtual 325, 3) := dq_get dd_N_untell_0 (i := 3) rfl
theorem d_N_untell_8 : decode mN_untell.2.1 8 = .ok (.ireturn, 1) := dq_get dd_N_untell_0 (i := 4) rfl
theorem dd_N_later_0 : dq mN_later.2.1 [(0, .aload_n 0, 1), (1, .getfield 73, 3), (4, .iload_n 1, 1), (5, .invokevirtual 328, 3), (8, .ireturn, 1)] = true := by decide +kernel
theorem d_N_later_0 : decode mN_later.2.1 0 = .ok (.aload_n 0, 1) := dq_get dd_N_later_0 (i := 0) rfl
theorem d_N_later_1 : decode mN_later.2.1 1 = .ok (.getfield 73, 3) := dq_get dd_N_later_0 (i := 1) rfl
theorem d_N_later_4 : decode mN_later.2.1 4 = .ok (.iload_n 1, 1) := dq_get dd_N_later_0 (i := 2) rfl
theorem d_N_later_5 : decode mN_later.2.1 5 = .ok (.invokevirtual 328, 3) := dq_get dd_N_later_0 (i := 3) rfl
theorem d_N_later_8 : decode mN_later.2.1 8 = .ok (.ireturn, 1) := dq_get dd_N_later_0 (i := 4) rfl
theorem dd_N_sets_0 : dq mN_sets.2.1 [(0, .aload_n 0, 1), (1, .getfield 73, 3), (4, .aload_n 0, 1), (5, .getfield 24, 3), (8, .iload_n 1, 1), (9, .invokevirtual 331, 3), (12, .aload_n 0, 1), (13, .getfield 73, 3), (16, .getfield 335, 3), (19, .ireturn, 1)] = true := by decide +kernel
theorem d_N_sets_0 : decode mN_sets.2.1 0 = .ok (.aload_n 0, 1) := dq_get dd_N_sets_0 (i := 0) rfl
theorem d_N_sets_1 : decode mN_sets.2.1 1 = .ok (.getfield 73, 3) := dq_get dd_N_sets_0 (i := 1) rfl
theorem d_N_sets_4 : decode mN_sets.2.1 4 = .ok (.aload_n 0, 1) := dq_get dd_N_sets_0 (i := 2) rfl
theorem d_N_sets_5 : decode mN_sets.2.1 5 = .ok (.getfield 24, 3) := dq_get dd_N_sets_0 (i := 3) rfl
theorem d_N_sets_8 : decode mN_sets.2.1 8 = .ok (.iload_n 1, 1) := dq_get dd_N_sets_0 (i := 4) rfl
theorem d_N_sets_9 : decode mN_sets.2.1 9 = .ok (.invokevirtual 331, 3) := dq_get dd_N_sets_0 (i := 5) rfl
theorem d_N_sets_12 : decode mN_sets.2.1 12 = .ok (.aload_n 0, 1) := dq_get dd_N_sets_0 (i := 6) rfl
theorem d_N_sets_13 : decode mN_sets.2.1 13 = .ok (.getfield 73, 3) := dq_get dd_N_sets_0 (i := 7) rfl
theorem d_N_sets_16 : decode mN_sets.2.1 16 = .ok (.getfield 335, 3) := dq_get dd_N_sets_0 (i := 8) rfl
theorem d_N_sets_19 : decode mN_sets.2.1 19 = .ok (.ireturn, 1) := dq_get dd_N_sets_0 (i := 9) rfl
theorem dd_N_sure_0 : dq mN_sure.2.1 [(0, .aload_n 0, 1), (1, .iload_n 1, 1), (2, .invokevirtual 128, 3), (5, .ifCond .ne 5, 3), (8, .iconst (-1), 1), (9, .ireturn, 1), (10, .aload_n 0, 1), (11, .getfield 73, 3), (14, .aload_n 0, 1), (15, .getfield 24, 3), (18, .iload_n 2, 1), (19, .invokevirtual 331, 3), (22, .aload_n 0, 1), (23, .getfield 73, 3), (26, .getfield 335, 3), (29, .ifCond .ne 5, 3), (32, .iconst (-1), 1), (33, .ireturn, 1), (34, .aload_n 0, 1), (35, .getfield 73, 3), (38, .getfield 338, 3), (41, .iload_n 1, 1), (42, .iaload, 1), (43, .istore_n 3, 1), (44, .iload_n 3, 1), (45, .aload_n 0, 1), (46, .getfield 73, 3), (49, .getfield 335, 3), (52, .if_icmp .ne 5, 3), (55, .iconst 1, 1), (56, .ireturn, 1), (57, .iload_n 3, 1)] = true := by decide +kernel
theorem d_N_sure_0 : decode mN_sure.2.1 0 = .ok (.aload_n 0, 1) := dq_get dd_N_sure_0 (i := 0) rfl
theorem d_N_sure_1 : decode mN_sure.2.1 1 = .ok (.iload_n 1, 1) := dq_get dd_N_sure_0 (i := 1) rfl
theorem d_N_sure_2 : decode mN_sure.2.1 2 = .ok (.invokevirtual 128, 3) := dq_get dd_N_sure_0 (i := 2) rfl
theorem d_N_sure_5 : decode mN_sure.2.1 5 = .ok (.ifCond .ne 5, 3) := dq_get dd_N_sure_0 (i := 3) rfl
theorem d_N_sure_8 : decode mN_sure.2.1 8 = .ok (.iconst (-1), 1) := dq_get dd_N_sure_0 (i := 4) rfl
theorem d_N_sure_9 : decode mN_sure.2.1 9 = .ok (.ireturn, 1) := dq_get dd_N_sure_0 (i := 5) rfl
theorem d_N_sure_10 : decode mN_sure.2.1 10 = .ok (.aload_n 0, 1) := dq_get dd_N_sure_0 (i := 6) rfl
theorem d_N_sure_11 : decode mN_sure.2.1 11 = .ok (.getfield 73, 3) := dq_get dd_N_sure_0 (i := 7) rfl
theorem d_N_sure_14 : decode mN_sure.2.1 14 = .ok (.aload_n 0, 1) := dq_get dd_N_sure_0 (i := 8) rfl
theorem d_N_sure_15 : decode mN_sure.2.1 15 = .ok (.getfield 24, 3) := dq_get dd_N_sure_0 (i := 9) rfl
theorem d_N_sure_18 : decode mN_sure.2.1 18 = .ok (.iload_n 2, 1) := dq_get dd_N_sure_0 (i := 10) rfl
theorem d_N_sure_19 : decode mN_sure.2.1 19 = .ok (.invokevirtual 331, 3) := dq_get dd_N_sure_0 (i := 11) rfl
theorem d_N_sure_22 : decode mN_sure.2.1 22 = .ok (.aload_n 0, 1) := dq_get dd_N_sure_0 (i := 12) rfl
theorem d_N_sure_23 : decode mN_sure.2.1 23 = .ok (.getfield 73, 3) := dq_get dd_N_sure_0 (i := 13) rfl
theorem d_N_sure_26 : decode mN_sure.2.1 26 = .ok (.getfield 335, 3) := dq_get dd_N_sure_0 (i := 14) rfl
theorem d_N_sure_29 : decode mN_sure.2.1 29 = .ok (.ifCond .ne 5, 3) := dq_get dd_N_sure_0 (i := 15) rfl
theorem d_N_sure_32 : decode mN_sure.2.1 32 = .ok (.iconst (-1), 1) := dq_get dd_N_sure_0 (i := 16) rfl
theorem d_N_sure_33 : decode mN_sure.2.1 33 = .ok (.ireturn, 1) := dq_get dd_N_sure_0 (i := 17) rfl
theorem d_N_sure_34 : decode mN_sure.2.1 34 = .ok (.aload_n 0, 1) := dq_get dd_N_sure_0 (i := 18) rfl
theorem d_N_sure_35 : decode mN_sure.2.1 35 = .ok (.getfield 73, 3) := dq_get dd_N_sure_0 (i := 19) rfl
theorem d_N_sure_38 : decode mN_sure.2.1 38 = .ok (.getfield 338, 3) := dq_get dd_N_sure_0 (i := 20) rfl
theorem d_N_sure_41 : decode mN_sure.2.1 41 = .ok (.iload_n 1, 1) := dq_get dd_N_sure_0 (i := 21) rfl
theorem d_N_sure_42 : decode mN_sure.2.1 42 = .ok (.iaload, 1) := dq_get dd_N_sure_0 (i := 22) rfl
theorem d_N_sure_43 : decode mN_sure.2.1 43 = .ok (.istore_n 3, 1) := dq_get dd_N_sure_0 (i := 23) rfl
theorem d_N_sure_44 : decode mN_sure.2.1 44 = .ok (.iload_n 3, 1) := dq_get dd_N_sure_0 (i := 24) rfl
theorem d_N_sure_45 : decode mN_sure.2.1 45 = .ok (.aload_n 0, 1) := dq_get dd_N_sure_0 (i := 25) rfl
theorem d_N_sure_46 : decode mN_sure.2.1 46 = .ok (.getfield 73, 3) := dq_get dd_N_sure_0 (i := 26) rfl
theorem d_N_sure_49 : decode mN_sure.2.1 49 = .ok (.getfield 335, 3) := dq_get dd_N_sure_0 (i := 27) rfl
theorem d_N_sure_52 : decode mN_sure.2.1 52 = .ok (.if_icmp .ne 5, 3) := dq_get dd_N_sure_0 (i := 28) rfl
theorem d_N_sure_55 : decode mN_sure.2.1 55 = .ok (.iconst 1, 1) := dq_get dd_N_sure_0 (i := 29) rfl
theorem d_N_sure_56 : decode mN_sure.2.1 56 = .ok (.ireturn, 1) := dq_get dd_N_sure_0 (i := 30) rfl
theorem d_N_sure_57 : decode mN_sure.2.1 57 = .ok (.iload_n 3, 1) := dq_get dd_N_sure_0 (i := 31) rfl
theorem dd_N_sure_32 : dq mN_sure.2.1 [(58, .ifCond .ne 7, 3), (61, .iconst 0, 1), (62, .goto 5, 3), (65, .bipush (-2), 2), (67, .ireturn, 1)] = true := by decide +kernel
theorem d_N_sure_58 : decode mN_sure.2.1 58 = .ok (.ifCond .ne 7, 3) := dq_get dd_N_sure_32 (i := 0) rfl
theorem d_N_sure_61 : decode mN_sure.2.1 61 = .ok (.iconst 0, 1) := dq_get dd_N_sure_32 (i := 1) rfl
theorem d_N_sure_62 : decode mN_sure.2.1 62 = .ok (.goto 5, 3) := dq_get dd_N_sure_32 (i := 2) rfl
theorem d_N_sure_65 : decode mN_sure.2.1 65 = .ok (.bipush (-2), 2) := dq_get dd_N_sure_32 (i := 3) rfl
theorem d_N_sure_67 : decode mN_sure.2.1 67 = .ok (.ireturn, 1) := dq_get dd_N_sure_32 (i := 4) rfl
theorem dd_N_ask_0 : dq mN_ask.2.1 [(0, .iload_n 1, 1), (1, .ifCond .lt 8, 3), (4, .iload_n 1, 1), (5, .iconst 1, 1), (6, .if_icmp .le 5, 3), (9, .iconst (-1), 1), (10, .ireturn, 1), (11, .aload_n 0, 1), (12, .getfield 73, 3), (15, .aload_n 0, 1), (16, .getfield 24, 3), (19, .iload_n 2, 1), (20, .invokevirtual 331, 3), (23, .iconst (-1), 1), (24, .istore_n 3, 1), (25, .aload_n 0, 1), (26, .getfield 73, 3), (29, .getfield 335, 3), (32, .iconst 1, 1), (33, .iadd, 1), (34, .istore 4, 2), (36, .iconst 0, 1), (37, .istore 5, 2), (39, .iload 5, 2), (41, .aload_n 0, 1), (42, .getfield 24, 3), (45, .getfield 122, 3), (48, .if_icmp .ge 66, 3), (51, .aload_n 0, 1), (52, .getfield 73, 3), (55, .getfield 335, 3), (58, .ifCond .le 56, 3)] = true := by decide +kernel
theorem d_N_ask_0 : decode mN_ask.2.1 0 = .ok (.iload_n 1, 1) := dq_get dd_N_ask_0 (i := 0) rfl
theorem d_N_ask_1 : decode mN_ask.2.1 1 = .ok (.ifCond .lt 8, 3) := dq_get dd_N_ask_0 (i := 1) rfl
theorem d_N_ask_4 : decode mN_ask.2.1 4 = .ok (.iload_n 1, 1) := dq_get dd_N_ask_0 (i := 2) rfl
theorem d_N_ask_5 : decode mN_ask.2.1 5 = .ok (.iconst 1, 1) := dq_get dd_N_ask_0 (i := 3) rfl
theorem d_N_ask_6 : decode mN_ask.2.1 6 = .ok (.if_icmp .le 5, 3) := dq_get dd_N_ask_0 (i := 4) rfl
theorem d_N_ask_9 : decode mN_ask.2.1 9 = .ok (.iconst (-1), 1) := dq_get dd_N_ask_0 (i := 5) rfl
theorem d_N_ask_10 : decode mN_ask.2.1 10 = .ok (.ireturn, 1) := dq_get dd_N_ask_0 (i := 6) rfl
theorem d_N_ask_11 : decode mN_ask.2.1 11 = .ok (.aload_n 0, 1) := dq_get dd_N_ask_0 (i := 7) rfl
theorem d_N_ask_12 : decode mN_ask.2.1 12 = .ok (.getfield 73, 3) := dq_get dd_N_ask_0 (i := 8) rfl
theorem d_N_ask_15 : decode mN_ask.2.1 15 = .ok (.aload_n 0, 1) := dq_get dd_N_ask_0 (i := 9) rfl
theorem d_N_ask_16 : decode mN_ask.2.1 16 = .ok (.getfield 24, 3) := dq_get dd_N_ask_0 (i := 10) rfl
theorem d_N_ask_19 : decode mN_ask.2.1 19 = .ok (.iload_n 2, 1) := dq_get dd_N_ask_0 (i := 11) rfl
theorem d_N_ask_20 : decode mN_ask.2.1 20 = .ok (.invokevirtual 331, 3) := dq_get dd_N_ask_0 (i := 12) rfl
theorem d_N_ask_23 : decode mN_ask.2.1 23 = .ok (.iconst (-1), 1) := dq_get dd_N_ask_0 (i := 13) rfl
theorem d_N_ask_24 : decode mN_ask.2.1 24 = .ok (.istore_n 3, 1) := dq_get dd_N_ask_0 (i := 14) rfl
theorem d_N_ask_25 : decode mN_ask.2.1 25 = .ok (.aload_n 0, 1) := dq_get dd_N_ask_0 (i := 15) rfl
theorem d_N_ask_26 : decode mN_ask.2.1 26 = .ok (.getfield 73, 3) := dq_get dd_N_ask_0 (i := 16) rfl
theorem d_N_ask_29 : decode mN_ask.2.1 29 = .ok (.getfield 335, 3) := dq_get dd_N_ask_0 (i := 17) rfl
theorem d_N_ask_32 : decode mN_ask.2.1 32 = .ok (.iconst 1, 1) := dq_get dd_N_ask_0 (i := 18) rfl
theorem d_N_ask_33 : decode mN_ask.2.1 33 = .ok (.iadd, 1) := dq_get dd_N_ask_0 (i := 19) rfl
theorem d_N_ask_34 : decode mN_ask.2.1 34 = .ok (.istore 4, 2) := dq_get dd_N_ask_0 (i := 20) rfl
theorem d_N_ask_36 : decode mN_ask.2.1 36 = .ok (.iconst 0, 1) := dq_get dd_N_ask_0 (i := 21) rfl
theorem d_N_ask_37 : decode mN_ask.2.1 37 = .ok (.istore 5, 2) := dq_get dd_N_ask_0 (i := 22) rfl
theorem d_N_ask_39 : decode mN_ask.2.1 39 = .ok (.iload 5, 2) := dq_get dd_N_ask_0 (i := 23) rfl
theorem d_N_ask_41 : decode mN_ask.2.1 41 = .ok (.aload_n 0, 1) := dq_get dd_N_ask_0 (i := 24) rfl
theorem d_N_ask_42 : decode mN_ask.2.1 42 = .ok (.getfield 24, 3) := dq_get dd_N_ask_0 (i := 25) rfl
theorem d_N_ask_45 : decode mN_ask.2.1 45 = .ok (.getfield 122, 3) := dq_get dd_N_ask_0 (i := 26) rfl
theorem d_N_ask_48 : decode mN_ask.2.1 48 = .ok (.if_icmp .ge 66, 3) := dq_get dd_N_ask_0 (i := 27) rfl
theorem d_N_ask_51 : decode mN_ask.2.1 51 = .ok (.aload_n 0, 1) := dq_get dd_N_ask_0 (i := 28) rfl
theorem d_N_ask_52 : decode mN_ask.2.1 52 = .ok (.getfield 73, 3) := dq_get dd_N_ask_0 (i := 29) rfl
theorem d_N_ask_55 : decode mN_ask.2.1 55 = .ok (.getfield 335, 3) := dq_get dd_N_ask_0 (i := 30) rfl
theorem d_N_ask_58 : decode mN_ask.2.1 58 = .ok (.ifCond .le 56, 3) := dq_get dd_N_ask_0 (i := 31) rfl
theorem dd_N_ask_32 : dq mN_ask.2.1 [(61, .aload_n 0, 1), (62, .getfield 73, 3), (65, .getfield 338, 3), (68, .iload 5, 2), (70, .iaload, 1), (71, .aload_n 0, 1), (72, .getfield 73, 3), (75, .getfield 335, 3), (78, .aload_n 0, 1), (79, .getfield 73, 3), (82, .getfield 338, 3), (85, .iload 5, 2), (87, .iaload, 1), (88, .isub, 1), (89, .invokestatic 234, 3), (92, .istore 6, 2), (94, .iload 6, 2), (96, .iload 4, 2), (98, .if_icmp .ge 10, 3), (101, .iload 6, 2), (103, .istore 4, 2), (105, .iload 5, 2), (107, .istore_n 3, 1), (108, .iinc 5 1, 3), (111, .goto (-72), 3), (114, .iload_n 1, 1), (115, .ifCond .eq 8, 3), (118, .iload_n 3, 1), (119, .iconst (-1), 1), (120, .if_icmp .ne 7, 3), (123, .iload_n 3, 1), (124, .goto 5, 3)] = true := by decide +kernel
theorem d_N_ask_61 : decode mN_ask.2.1 61 = .ok (.aload_n 0, 1) := dq_get dd_N_ask_32 (i := 0) rfl
theorem d_N_ask_62 : decode mN_ask.2.1 62 = .ok (.getfield 73, 3) := dq_get dd_N_ask_32 (i := 1) rfl
theorem d_N_ask_65 : decode mN_ask.2.1 65 = .ok (.getfield 338, 3) := dq_get dd_N_ask_32 (i := 2) rfl
theorem d_N_ask_68 : decode mN_ask.2.1 68 = .ok (.iload 5, 2) := dq_get dd_N_ask_32 (i := 3) rfl
theorem d_N_ask_70 : decode mN_ask.2.1 70 = .ok (.iaload, 1) := dq_get dd_N_ask_32 (i := 4) rfl
theorem d_N_ask_71 : decode mN_ask.2.1 71 = .ok (.aload_n 0, 1) := dq_get dd_N_ask_32 (i := 5) rfl
theorem d_N_ask_72 : decode mN_ask.2.1 72 = .ok (.getfield 73, 3) := dq_get dd_N_ask_32 (i := 6) rfl
theorem d_N_ask_75 : decode mN_ask.2.1 75 = .ok (.getfield 335, 3) := dq_get dd_N_ask_32 (i := 7) rfl
theorem d_N_ask_78 : decode mN_ask.2.1 78 = .ok (.aload_n 0, 1) := dq_get dd_N_ask_32 (i := 8) rfl
theorem d_N_ask_79 : decode mN_ask.2.1 79 = .ok (.getfield 73, 3) := dq_get dd_N_ask_32 (i := 9) rfl
theorem d_N_ask_82 : decode mN_ask.2.1 82 = .ok (.getfield 338, 3) := dq_get dd_N_ask_32 (i := 10) rfl
theorem d_N_ask_85 : decode mN_ask.2.1 85 = .ok (.iload 5, 2) := dq_get dd_N_ask_32 (i := 11) rfl
theorem d_N_ask_87 : decode mN_ask.2.1 87 = .ok (.iaload, 1) := dq_get dd_N_ask_32 (i := 12) rfl
theorem d_N_ask_88 : decode mN_ask.2.1 88 = .ok (.isub, 1) := dq_get dd_N_ask_32 (i := 13) rfl
theorem d_N_ask_89 : decode mN_ask.2.1 89 = .ok (.invokestatic 234, 3) := dq_get dd_N_ask_32 (i := 14) rfl
theorem d_N_ask_92 : decode mN_ask.2.1 92 = .ok (.istore 6, 2) := dq_get dd_N_ask_32 (i := 15) rfl
theorem d_N_ask_94 : decode mN_ask.2.1 94 = .ok (.iload 6, 2) := dq_get dd_N_ask_32 (i := 16) rfl
theorem d_N_ask_96 : decode mN_ask.2.1 96 = .ok (.iload 4, 2) := dq_get dd_N_ask_32 (i := 17) rfl
theorem d_N_ask_98 : decode mN_ask.2.1 98 = .ok (.if_icmp .ge 10, 3) := dq_get dd_N_ask_32 (i := 18) rfl
theorem d_N_ask_101 : decode mN_ask.2.1 101 = .ok (.iload 6, 2) := dq_get dd_N_ask_32 (i := 19) rfl
theorem d_N_ask_103 : decode mN_ask.2.1 103 = .ok (.istore 4, 2) := dq_get dd_N_ask_32 (i := 20) rfl
theorem d_N_ask_105 : decode mN_ask.2.1 105 = .ok (.iload 5, 2) := dq_get dd_N_ask_32 (i := 21) rfl
theorem d_N_ask_107 : decode mN_ask.2.1 107 = .ok (.istore_n 3, 1) := dq_get dd_N_ask_32 (i := 22) rfl
theorem d_N_ask_108 : decode mN_ask.2.1 108 = .ok (.iinc 5 1, 3) := dq_get dd_N_ask_32 (i := 23) rfl
theorem d_N_ask_111 : decode mN_ask.2.1 111 = .ok (.goto (-72), 3) := dq_get dd_N_ask_32 (i := 24) rfl
theorem d_N_ask_114 : decode mN_ask.2.1 114 = .ok (.iload_n 1, 1) := dq_get dd_N_ask_32 (i := 25) rfl
theorem d_N_ask_115 : decode mN_ask.2.1 115 = .ok (.ifCond .eq 8, 3) := dq_get dd_N_ask_32 (i := 26) rfl
theorem d_N_ask_118 : decode mN_ask.2.1 118 = .ok (.iload_n 3, 1) := dq_get dd_N_ask_32 (i := 27) rfl
theorem d_N_ask_119 : decode mN_ask.2.1 119 = .ok (.iconst (-1), 1) := dq_get dd_N_ask_32 (i := 28) rfl
theorem d_N_ask_120 : decode mN_ask.2.1 120 = .ok (.if_icmp .ne 7, 3) := dq_get dd_N_ask_32 (i := 29) rfl
theorem d_N_ask_123 : decode mN_ask.2.1 123 = .ok (.iload_n 3, 1) := dq_get dd_N_ask_32 (i := 30) rfl
theorem d_N_ask_124 : decode mN_ask.2.1 124 = .ok (.goto 5, 3) := dq_get dd_N_ask_32 (i := 31) rfl
theorem dd_N_ask_64 : dq mN_ask.2.1 [(127, .iload 4, 2), (129, .ireturn, 1)] = true := by decide +kernel
theorem d_N_ask_127 : decode mN_ask.2.1 127 = .ok (.iload 4, 2) := dq_get dd_N_ask_64 (i := 0) rfl
theorem d_N_ask_129 : decode mN_ask.2.1 129 = .ok (.ireturn, 1) := dq_get dd_N_ask_64 (i := 1) rfl
theorem dd_N_image_0 : dq mN_image.2.1 [(0, .iload_n 1, 1), (1, .ifCond .lt 12, 3), (4, .iload_n 1, 1), (5, .aload_n 0, 1), (6, .getfield 35, 3), (9, .arraylength, 1), (10, .if_icmp .lt 5, 3), (13, .iconst (-1), 1), (14, .ireturn, 1), (15, .aload_n 0, 1), (16, .getfield 35, 3), (19, .iload_n 1, 1), (20, .aaload, 1), (21, .aload_n 0, 1), (22, .getfield 31, 3), (25, .invokevirtual 341, 3), (28, .aload_n 0, 1), (29, .getfield 35, 3), (32, .iload_n 1, 1), (33, .aaload, 1), (34, .iconst 1, 1), (35, .putfield 118, 3), (38, .aload_n 0, 1), (39, .invokevirtual 166, 3), (42, .invokestatic 211, 3), (45, .ireturn, 1)] = true := by decide +kernel
theorem d_N_image_0 : decode mN_image.2.1 0 = .ok (.iload_n 1, 1) := dq_get dd_N_image_0 (i := 0) rfl
theorem d_N_image_1 : decode mN_image.2.1 1 = .ok (.ifCond .lt 12, 3) := dq_get dd_N_image_0 (i := 1) rfl
theorem d_N_image_4 : decode mN_image.2.1 4 = .ok (.iload_n 1, 1) := dq_get dd_N_image_0 (i := 2) rfl
theorem d_N_image_5 : decode mN_image.2.1 5 = .ok (.aload_n 0, 1) := dq_get dd_N_image_0 (i := 3) rfl
theorem d_N_image_6 : decode mN_image.2.1 6 = .ok (.getfield 35, 3) := dq_get dd_N_image_0 (i := 4) rfl
theorem d_N_image_9 : decode mN_image.2.1 9 = .ok (.arraylength, 1) := dq_get dd_N_image_0 (i := 5) rfl
theorem d_N_image_10 : decode mN_image.2.1 10 = .ok (.if_icmp .lt 5, 3) := dq_get dd_N_image_0 (i := 6) rfl
theorem d_N_image_13 : decode mN_image.2.1 13 = .ok (.iconst (-1), 1) := dq_get dd_N_image_0 (i := 7) rfl
theorem d_N_image_14 : decode mN_image.2.1 14 = .ok (.ireturn, 1) := dq_get dd_N_image_0 (i := 8) rfl
theorem d_N_image_15 : decode mN_image.2.1 15 = .ok (.aload_n 0, 1) := dq_get dd_N_image_0 (i := 9) rfl
theorem d_N_image_16 : decode mN_image.2.1 16 = .ok (.getfield 35, 3) := dq_get dd_N_image_0 (i := 10) rfl
theorem d_N_image_19 : decode mN_image.2.1 19 = .ok (.iload_n 1, 1) := dq_get dd_N_image_0 (i := 11) rfl
theorem d_N_image_20 : decode mN_image.2.1 20 = .ok (.aaload, 1) := dq_get dd_N_image_0 (i := 12) rfl
theorem d_N_image_21 : decode mN_image.2.1 21 = .ok (.aload_n 0, 1) := dq_get dd_N_image_0 (i := 13) rfl
theorem d_N_image_22 : decode mN_image.2.1 22 = .ok (.getfield 31, 3) := dq_get dd_N_image_0 (i := 14) rfl
theorem d_N_image_25 : decode mN_image.2.1 25 = .ok (.invokevirtual 341, 3) := dq_get dd_N_image_0 (i := 15) rfl
theorem d_N_image_28 : decode mN_image.2.1 28 = .ok (.aload_n 0, 1) := dq_get dd_N_image_0 (i := 16) rfl
theorem d_N_image_29 : decode mN_image.2.1 29 = .ok (.getfield 35, 3) := dq_get dd_N_image_0 (i := 17) rfl
theorem d_N_image_32 : decode mN_image.2.1 32 = .ok (.iload_n 1, 1) := dq_get dd_N_image_0 (i := 18) rfl
theorem d_N_image_33 : decode mN_image.2.1 33 = .ok (.aaload, 1) := dq_get dd_N_image_0 (i := 19) rfl
theorem d_N_image_34 : decode mN_image.2.1 34 = .ok (.iconst 1, 1) := dq_get dd_N_image_0 (i := 20) rfl
theorem d_N_image_35 : decode mN_image.2.1 35 = .ok (.putfield 118, 3) := dq_get dd_N_image_0 (i := 21) rfl
theorem d_N_image_38 : decode mN_image.2.1 38 = .ok (.aload_n 0, 1) := dq_get dd_N_image_0 (i := 22) rfl
theorem d_N_image_39 : decode mN_image.2.1 39 = .ok (.invokevirtual 166, 3) := dq_get dd_N_image_0 (i := 23) rfl
theorem d_N_image_42 : decode mN_image.2.1 42 = .ok (.invokestatic 211, 3) := dq_get dd_N_image_0 (i := 24) rfl
theorem d_N_image_45 : decode mN_image.2.1 45 = .ok (.ireturn, 1) := dq_get dd_N_image_0 (i := 25) rfl
theorem dd_N_back_0 : dq mN_back.2.1 [(0, .aload_n 0, 1), (1, .iload_n 1, 1), (2, .invokevirtual 345, 3), (5, .ifCond .ne 5, 3), (8, .iconst (-1), 1), (9, .ireturn, 1), (10, .aload_n 0, 1), (11, .getfield 31, 3), (14, .aload_n 0, 1), (15, .getfield 35, 3), (18, .iload_n 1, 1), (19, .aaload, 1), (20, .invokevirtual 341, 3), (23, .aload_n 0, 1), (24, .getfield 42, 3), (27, .invokevirtual 111, 3), (30, .aload_n 0, 1), (31, .invokevirtual 166, 3), (34, .invokestatic 211, 3), (37, .ireturn, 1)] = true := by decide +kernel
theorem d_N_back_0 : decode mN_back.2.1 0 = .ok (.aload_n 0, 1) := dq_get dd_N_back_0 (i := 0) rfl
theorem d_N_back_1 : decode mN_back.2.1 1 = .ok (.iload_n 1, 1) := dq_get dd_N_back_0 (i := 1) rfl
theorem d_N_back_2 : decode mN_back.2.1 2 = .ok (.invokevirtual 345, 3) := dq_get dd_N_back_0 (i := 2) rfl
theorem d_N_back_5 : decode mN_back.2.1 5 = .ok (.ifCond .ne 5, 3) := dq_get dd_N_back_0 (i := 3) rfl
theorem d_N_back_8 : decode mN_back.2.1 8 = .ok (.iconst (-1), 1) := dq_get dd_N_back_0 (i := 4) rfl
theorem d_N_back_9 : decode mN_back.2.1 9 = .ok (.ireturn, 1) := dq_get dd_N_back_0 (i := 5) rfl
theorem d_N_back_10 : decode mN_back.2.1 10 = .ok (.aload_n 0, 1) := dq_get dd_N_back_0 (i := 6) rfl
theorem d_N_back_11 : decode mN_back.2.1 11 = .ok (.getfield 31, 3) := dq_get dd_N_back_0 (i := 7) rfl
theorem d_N_back_14 : decode mN_back.2.1 14 = .ok (.aload_n 0, 1) := dq_get dd_N_back_0 (i := 8) rfl
theorem d_N_back_15 : decode mN_back.2.1 15 = .ok (.getfield 35, 3) := dq_get dd_N_back_0 (i := 9) rfl
theorem d_N_back_18 : decode mN_back.2.1 18 = .ok (.iload_n 1, 1) := dq_get dd_N_back_0 (i := 10) rfl
theorem d_N_back_19 : decode mN_back.2.1 19 = .ok (.aaload, 1) := dq_get dd_N_back_0 (i := 11) rfl
theorem d_N_back_20 : decode mN_back.2.1 20 = .ok (.invokevirtual 341, 3) := dq_get dd_N_back_0 (i := 12) rfl
theorem d_N_back_23 : decode mN_back.2.1 23 = .ok (.aload_n 0, 1) := dq_get dd_N_back_0 (i := 13) rfl
theorem d_N_back_24 : decode mN_back.2.1 24 = .ok (.getfield 42, 3) := dq_get dd_N_back_0 (i := 14) rfl
theorem d_N_back_27 : decode mN_back.2.1 27 = .ok (.invokevirtual 111, 3) := dq_get dd_N_back_0 (i := 15) rfl
theorem d_N_back_30 : decode mN_back.2.1 30 = .ok (.aload_n 0, 1) := dq_get dd_N_back_0 (i := 16) rfl
theorem d_N_back_31 : decode mN_back.2.1 31 = .ok (.invokevirtual 166, 3) := dq_get dd_N_back_0 (i := 17) rfl
theorem d_N_back_34 : decode mN_back.2.1 34 = .ok (.invokestatic 211, 3) := dq_get dd_N_back_0 (i := 18) rfl
theorem d_N_back_37 : decode mN_back.2.1 37 = .ok (.ireturn, 1) := dq_get dd_N_back_0 (i := 19) rfl
theorem dd_N_isKept_0 : dq mN_isKept.2.1 [(0, .iload_n 1, 1), (1, .ifCond .lt 28, 3), (4, .iload_n 1, 1), (5, .aload_n 0, 1), (6, .getfield 35, 3), (9, .arraylength, 1), (10, .if_icmp .ge 19, 3), (13, .aload_n 0, 1), (14, .getfield 35, 3), (17, .iload_n 1, 1), (18, .aaload, 1), (19, .getfield 118, 3), (22, .ifCond .eq 7, 3), (25, .iconst 1, 1), (26, .goto 4, 3), (29, .iconst 0, 1), (30, .ireturn, 1)] = true := by decide +kernel
theorem d_N_isKept_0 : decode mN_isKept.2.1 0 = .ok (.iload_n 1, 1) := dq_get dd_N_isKept_0 (i := 0) rfl
theorem d_N_isKept_1 : decode mN_isKept.2.1 1 = .ok (.ifCond .lt 28, 3) := dq_get dd_N_isKept_0 (i := 1) rfl
theorem d_N_isKept_4 : decode mN_isKept.2.1 4 = .ok (.iload_n 1, 1) := dq_get dd_N_isKept_0 (i := 2) rfl
theorem d_N_isKept_5 : decode mN_isKept.2.1 5 = .ok (.aload_n 0, 1) := dq_get dd_N_isKept_0 (i := 3) rfl
theorem d_N_isKept_6 : decode mN_isKept.2.1 6 = .ok (.getfield 35, 3) := dq_get dd_N_isKept_0 (i := 4) rfl
theorem d_N_isKept_9 : decode mN_isKept.2.1 9 = .ok (.arraylength, 1) := dq_get dd_N_isKept_0 (i := 5) rfl
theorem d_N_isKept_10 : decode mN_isKept.2.1 10 = .ok (.if_icmp .ge 19, 3) := dq_get dd_N_isKept_0 (i := 6) rfl
theorem d_N_isKept_13 : decode mN_isKept.2.1 13 = .ok (.aload_n 0, 1) := dq_get dd_N_isKept_0 (i := 7) rfl
theorem d_N_isKept_14 : decode mN_isKept.2.1 14 = .ok (.getfield 35, 3) := dq_get dd_N_isKept_0 (i := 8) rfl
theorem d_N_isKept_17 : decode mN_isKept.2.1 17 = .ok (.iload_n 1, 1) := dq_get dd_N_isKept_0 (i := 9) rfl
theorem d_N_isKept_18 : decode mN_isKept.2.1 18 = .ok (.aaload, 1) := dq_get dd_N_isKept_0 (i := 10) rfl
theorem d_N_isKept_19 : decode mN_isKept.2.1 19 = .ok (.getfield 118, 3) := dq_get dd_N_isKept_0 (i := 11) rfl
theorem d_N_isKept_22 : decode mN_isKept.2.1 22 = .ok (.ifCond .eq 7, 3) := dq_get dd_N_isKept_0 (i := 12) rfl
theorem d_N_isKept_25 : decode mN_isKept.2.1 25 = .ok (.iconst 1, 1) := dq_get dd_N_isKept_0 (i := 13) rfl
theorem d_N_isKept_26 : decode mN_isKept.2.1 26 = .ok (.goto 4, 3) := dq_get dd_N_isKept_0 (i := 14) rfl
theorem d_N_isKept_29 : decode mN_isKept.2.1 29 = .ok (.iconst 0, 1) := dq_get dd_N_isKept_0 (i := 15) rfl
theorem d_N_isKept_30 : decode mN_isKept.2.1 30 = .ok (.ireturn, 1) := dq_get dd_N_isKept_0 (i := 16) rfl
theorem dd_N_differ_0 : dq mN_differ.2.1 [(0, .aload_n 0, 1), (1, .iload_n 1, 1), (2, .invokevirtual 345, 3), (5, .ifCond .ne 5, 3), (8, .iconst (-1), 1), (9, .ireturn, 1), (10, .iconst 0, 1), (11, .istore_n 2, 1), (12, .iconst 0, 1), (13, .istore_n 3, 1), (14, .iload_n 3, 1), (15, .aload_n 0, 1), (16, .getfield 24, 3), (19, .getfield 122, 3), (22, .if_icmp .ge 32, 3), (25, .aload_n 0, 1), (26, .getfield 31, 3), (29, .iload_n 3, 1), (30, .aload_n 0, 1), (31, .getfield 35, 3), (34, .iload_n 1, 1), (35, .aaload, 1), (36, .invokevirtual 348, 3), (39, .ifCond .eq 9, 3), (42, .iload_n 2, 1), (43, .iconst 1, 1), (44, .iload_n 3, 1), (45, .ishl, 1), (46, .ior, 1), (47, .istore_n 2, 1), (48, .iinc 3 1, 3), (51, .goto (-37), 3)] = true := by decide +kernel
theorem d_N_differ_0 : decode mN_differ.2.1 0 = .ok (.aload_n 0, 1) := dq_get dd_N_differ_0 (i := 0) rfl
theorem d_N_differ_1 : decode mN_differ.2.1 1 = .ok (.iload_n 1, 1) := dq_get dd_N_differ_0 (i := 1) rfl
theorem d_N_differ_2 : decode mN_differ.2.1 2 = .ok (.invokevirtual 345, 3) := dq_get dd_N_differ_0 (i := 2) rfl
theorem d_N_differ_5 : decode mN_differ.2.1 5 = .ok (.ifCond .ne 5, 3) := dq_get dd_N_differ_0 (i := 3) rfl
theorem d_N_differ_8 : decode mN_differ.2.1 8 = .ok (.iconst (-1), 1) := dq_get dd_N_differ_0 (i := 4) rfl
theorem d_N_differ_9 : decode mN_differ.2.1 9 = .ok (.ireturn, 1) := dq_get dd_N_differ_0 (i := 5) rfl
theorem d_N_differ_10 : decode mN_differ.2.1 10 = .ok (.iconst 0, 1) := dq_get dd_N_differ_0 (i := 6) rfl
theorem d_N_differ_11 : decode mN_differ.2.1 11 = .ok (.istore_n 2, 1) := dq_get dd_N_differ_0 (i := 7) rfl
theorem d_N_differ_12 : decode mN_differ.2.1 12 = .ok (.iconst 0, 1) := dq_get dd_N_differ_0 (i := 8) rfl
theorem d_N_differ_13 : decode mN_differ.2.1 13 = .ok (.istore_n 3, 1) := dq_get dd_N_differ_0 (i := 9) rfl
theorem d_N_differ_14 : decode mN_differ.2.1 14 = .ok (.iload_n 3, 1) := dq_get dd_N_differ_0 (i := 10) rfl
theorem d_N_differ_15 : decode mN_differ.2.1 15 = .ok (.aload_n 0, 1) := dq_get dd_N_differ_0 (i := 11) rfl
theorem d_N_differ_16 : decode mN_differ.2.1 16 = .ok (.getfield 24, 3) := dq_get dd_N_differ_0 (i := 12) rfl
theorem d_N_differ_19 : decode mN_differ.2.1 19 = .ok (.getfield 122, 3) := dq_get dd_N_differ_0 (i := 13) rfl
theorem d_N_differ_22 : decode mN_differ.2.1 22 = .ok (.if_icmp .ge 32, 3) := dq_get dd_N_differ_0 (i := 14) rfl
theorem d_N_differ_25 : decode mN_differ.2.1 25 = .ok (.aload_n 0, 1) := dq_get dd_N_differ_0 (i := 15) rfl
theorem d_N_differ_26 : decode mN_differ.2.1 26 = .ok (.getfield 31, 3) := dq_get dd_N_differ_0 (i := 16) rfl
theorem d_N_differ_29 : decode mN_differ.2.1 29 = .ok (.iload_n 3, 1) := dq_get dd_N_differ_0 (i := 17) rfl
theorem d_N_differ_30 : decode mN_differ.2.1 30 = .ok (.aload_n 0, 1) := dq_get dd_N_differ_0 (i := 18) rfl
theorem d_N_differ_31 : decode mN_differ.2.1 31 = .ok (.getfield 35, 3) := dq_get dd_N_differ_0 (i := 19) rfl
theorem d_N_differ_34 : decode mN_differ.2.1 34 = .ok (.iload_n 1, 1) := dq_get dd_N_differ_0 (i := 20) rfl
theorem d_N_differ_35 : decode mN_differ.2.1 35 = .ok (.aaload, 1) := dq_get dd_N_differ_0 (i := 21) rfl
theorem d_N_differ_36 : decode mN_differ.2.1 36 = .ok (.invokevirtual 348, 3) := dq_get dd_N_differ_0 (i := 22) rfl
theorem d_N_differ_39 : decode mN_differ.2.1 39 = .ok (.ifCond .eq 9, 3) := dq_get dd_N_differ_0 (i := 23) rfl
theorem d_N_differ_42 : decode mN_differ.2.1 42 = .ok (.iload_n 2, 1) := dq_get dd_N_differ_0 (i := 24) rfl
theorem d_N_differ_43 : decode mN_differ.2.1 43 = .ok (.iconst 1, 1) := dq_get dd_N_differ_0 (i := 25) rfl
theorem d_N_differ_44 : decode mN_differ.2.1 44 = .ok (.iload_n 3, 1) := dq_get dd_N_differ_0 (i := 26) rfl
theorem d_N_differ_45 : decode mN_differ.2.1 45 = .ok (.ishl, 1) := dq_get dd_N_differ_0 (i := 27) rfl
theorem d_N_differ_46 : decode mN_differ.2.1 46 = .ok (.ior, 1) := dq_get dd_N_differ_0 (i := 28) rfl
theorem d_N_differ_47 : decode mN_differ.2.1 47 = .ok (.istore_n 2, 1) := dq_get dd_N_differ_0 (i := 29) rfl
theorem d_N_differ_48 : decode mN_differ.2.1 48 = .ok (.iinc 3 1, 3) := dq_get dd_N_differ_0 (i := 30) rfl
theorem d_N_differ_51 : decode mN_differ.2.1 51 = .ok (.goto (-37), 3) := dq_get dd_N_differ_0 (i := 31) rfl
theorem dd_N_differ_32 : dq mN_differ.2.1 [(54, .iload_n 2, 1), (55, .ireturn, 1)] = true := by decide +kernel
theorem d_N_differ_54 : decode mN_differ.2.1 54 = .ok (.iload_n 2, 1) := dq_get dd_N_differ_32 (i := 0) rfl
theorem d_N_differ_55 : decode mN_differ.2.1 55 = .ok (.ireturn, 1) := dq_get dd_N_differ_32 (i := 1) rfl
theorem dd_N_about_0 : dq mN_about.2.1 [(0, .iload_n 1, 1), (1, .tableswitch 111 0 7 #[47, 55, 63, 71, 79, 87, 95, 103], 47), (48, .aload_n 0, 1), (49, .getfield 24, 3), (52, .getfield 122, 3), (55, .ireturn, 1), (56, .aload_n 0, 1), (57, .getfield 24, 3), (60, .getfield 157, 3), (63, .ireturn, 1), (64, .aload_n 0, 1), (65, .getfield 24, 3), (68, .getfield 198, 3), (71, .ireturn, 1), (72, .aload_n 0, 1), (73, .getfield 24, 3), (76, .getfield 263, 3), (79, .ireturn, 1), (80, .aload_n 0, 1), (81, .getfield 24, 3), (84, .getfield 260, 3), (87, .ireturn, 1), (88, .aload_n 0, 1), (89, .getfield 24, 3), (92, .getfield 352, 3), (95, .ireturn, 1), (96, .aload_n 0, 1), (97, .getfield 24, 3), (100, .getfield 314, 3), (103, .ireturn, 1), (104, .aload_n 0, 1), (105, .getfield 31, 3)] = true := by decide +kernel
theorem d_N_about_0 : decode mN_about.2.1 0 = .ok (.iload_n 1, 1) := dq_get dd_N_about_0 (i := 0) rfl
theorem d_N_about_1 : decode mN_about.2.1 1 = .ok (.tableswitch 111 0 7 #[47, 55, 63, 71, 79, 87, 95, 103], 47) := dq_get dd_N_about_0 (i := 1) rfl
theorem d_N_about_48 : decode mN_about.2.1 48 = .ok (.aload_n 0, 1) := dq_get dd_N_about_0 (i := 2) rfl
theorem d_N_about_49 : decode mN_about.2.1 49 = .ok (.getfield 24, 3) := dq_get dd_N_about_0 (i := 3) rfl
theorem d_N_about_52 : decode mN_about.2.1 52 = .ok (.getfield 122, 3) := dq_get dd_N_about_0 (i := 4) rfl
theorem d_N_about_55 : decode mN_about.2.1 55 = .ok (.ireturn, 1) := dq_get dd_N_about_0 (i := 5) rfl
theorem d_N_about_56 : decode mN_about.2.1 56 = .ok (.aload_n 0, 1) := dq_get dd_N_about_0 (i := 6) rfl
theorem d_N_about_57 : decode mN_about.2.1 57 = .ok (.getfield 24, 3) := dq_get dd_N_about_0 (i := 7) rfl
theorem d_N_about_60 : decode mN_about.2.1 60 = .ok (.getfield 157, 3) := dq_get dd_N_about_0 (i := 8) rfl
theorem d_N_about_63 : decode mN_about.2.1 63 = .ok (.ireturn, 1) := dq_get dd_N_about_0 (i := 9) rfl
theorem d_N_about_64 : decode mN_about.2.1 64 = .ok (.aload_n 0, 1) := dq_get dd_N_about_0 (i := 10) rfl
theorem d_N_about_65 : decode mN_about.2.1 65 = .ok (.getfield 24, 3) := dq_get dd_N_about_0 (i := 11) rfl
theorem d_N_about_68 : decode mN_about.2.1 68 = .ok (.getfield 198, 3) := dq_get dd_N_about_0 (i := 12) rfl
theorem d_N_about_71 : decode mN_about.2.1 71 = .ok (.ireturn, 1) := dq_get dd_N_about_0 (i := 13) rfl
theorem d_N_about_72 : decode mN_about.2.1 72 = .ok (.aload_n 0, 1) := dq_get dd_N_about_0 (i := 14) rfl
theorem d_N_about_73 : decode mN_about.2.1 73 = .ok (.getfield 24, 3) := dq_get dd_N_about_0 (i := 15) rfl
theorem d_N_about_76 : decode mN_about.2.1 76 = .ok (.getfield 263, 3) := dq_get dd_N_about_0 (i := 16) rfl
theorem d_N_about_79 : decode mN_about.2.1 79 = .ok (.ireturn, 1) := dq_get dd_N_about_0 (i := 17) rfl
theorem d_N_about_80 : decode mN_about.2.1 80 = .ok (.aload_n 0, 1) := dq_get dd_N_about_0 (i := 18) rfl
theorem d_N_about_81 : decode mN_about.2.1 81 = .ok (.getfield 24, 3) := dq_get dd_N_about_0 (i := 19) rfl
theorem d_N_about_84 : decode mN_about.2.1 84 = .ok (.getfield 260, 3) := dq_get dd_N_about_0 (i := 20) rfl
theorem d_N_about_87 : decode mN_about.2.1 87 = .ok (.ireturn, 1) := dq_get dd_N_about_0 (i := 21) rfl
theorem d_N_about_88 : decode mN_about.2.1 88 = .ok (.aload_n 0, 1) := dq_get dd_N_about_0 (i := 22) rfl
theorem d_N_about_89 : decode mN_about.2.1 89 = .ok (.getfield 24, 3) := dq_get dd_N_about_0 (i := 23) rfl
theorem d_N_about_92 : decode mN_about.2.1 92 = .ok (.getfield 352, 3) := dq_get dd_N_about_0 (i := 24) rfl
theorem d_N_about_95 : decode mN_about.2.1 95 = .ok (.ireturn, 1) := dq_get dd_N_about_0 (i := 25) rfl
theorem d_N_about_96 : decode mN_about.2.1 96 = .ok (.aload_n 0, 1) := dq_get dd_N_about_0 (i := 26) rfl
theorem d_N_about_97 : decode mN_about.2.1 97 = .ok (.getfield 24, 3) := dq_get dd_N_about_0 (i := 27) rfl
theorem d_N_about_100 : decode mN_about.2.1 100 = .ok (.getfield 314, 3) := dq_get dd_N_about_0 (i := 28) rfl
theorem d_N_about_103 : decode mN_about.2.1 103 = .ok (.ireturn, 1) := dq_get dd_N_about_0 (i := 29) rfl
theorem d_N_about_104 : decode mN_about.2.1 104 = .ok (.aload_n 0, 1) := dq_get dd_N_about_0 (i := 30) rfl
theorem d_N_about_105 : decode mN_about.2.1 105 = .ok (.getfield 31, 3) := dq_get dd_N_about_0 (i := 31) rfl
theorem dd_N_about_32 : dq mN_about.2.1 [(108, .getfield 247, 3), (111, .ireturn, 1), (112, .aload_n 0, 1), (113, .iload_n 1, 1), (114, .invokevirtual 355, 3), (117, .ireturn, 1)] = true := by decide +kernel
theorem d_N_about_108 : decode mN_about.2.1 108 = .ok (.getfield 247, 3) := dq_get dd_N_about_32 (i := 0) rfl
theorem d_N_about_111 : decode mN_about.2.1 111 = .ok (.ireturn, 1) := dq_get dd_N_about_32 (i := 1) rfl
theorem d_N_about_112 : decode mN_about.2.1 112 = .ok (.aload_n 0, 1) := dq_get dd_N_about_32 (i := 2) rfl
theorem d_N_about_113 : decode mN_about.2.1 113 = .ok (.iload_n 1, 1) := dq_get dd_N_about_32 (i := 3) rfl
theorem d_N_about_114 : decode mN_about.2.1 114 = .ok (.invokevirtual 355, 3) := dq_get dd_N_about_32 (i := 4) rfl
theorem d_N_about_117 : decode mN_about.2.1 117 = .ok (.ireturn, 1) := dq_get dd_N_about_32 (i := 5) rfl
theorem dd_N_aboutTheRest_0 : dq mN_aboutTheRest.2.1 [(0, .iload_n 1, 1), (1, .tableswitch 119 8 15 #[47, 55, 71, 79, 87, 95, 106, 111], 47), (48, .aload_n 0, 1), (49, .getfield 42, 3), (52, .getfield 358, 3), (55, .ireturn, 1), (56, .aload_n 0, 1), (57, .getfield 42, 3), (60, .getfield 361, 3), (63, .aload_n 0, 1), (64, .getfield 42, 3), (67, .getfield 358, 3), (70, .isub, 1), (71, .ireturn, 1), (72, .aload_n 0, 1), (73, .getfield 73, 3), (76, .getfield 363, 3), (79, .ireturn, 1), (80, .aload_n 0, 1), (81, .getfield 73, 3), (84, .getfield 364, 3), (87, .ireturn, 1), (88, .aload_n 0, 1), (89, .getfield 20, 3), (92, .getfield 84, 3), (95, .ireturn, 1), (96, .aload_n 0, 1), (97, .getfield 24, 3), (100, .getfield 216, 3), (103, .getfield 367, 3), (106, .ireturn, 1), (107, .aload_n 0, 1)] = true := by decide +kernel
theorem d_N_aboutTheRest_0 : decode mN_aboutTheRest.2.1 0 = .ok (.iload_n 1, 1) := dq_get dd_N_aboutTheRest_0 (i := 0) rfl
theorem d_N_aboutTheRest_1 : decode mN_aboutTheRest.2.1 1 = .ok (.tableswitch 119 8 15 #[47, 55, 71, 79, 87, 95, 106, 111], 47) := dq_get dd_N_aboutTheRest_0 (i := 1) rfl
theorem d_N_aboutTheRest_48 : decode mN_aboutTheRest.2.1 48 = .ok (.aload_n 0, 1) := dq_get dd_N_aboutTheRest_0 (i := 2) rfl
theorem d_N_aboutTheRest_49 : decode mN_aboutTheRest.2.1 49 = .ok (.getfield 42, 3) := dq_get dd_N_aboutTheRest_0 (i := 3) rfl
theorem d_N_aboutTheRest_52 : decode mN_aboutTheRest.2.1 52 = .ok (.getfield 358, 3) := dq_get dd_N_aboutTheRest_0 (i := 4) rfl
theorem d_N_aboutTheRest_55 : decode mN_aboutTheRest.2.1 55 = .ok (.ireturn, 1) := dq_get dd_N_aboutTheRest_0 (i := 5) rfl
theorem d_N_aboutTheRest_56 : decode mN_aboutTheRest.2.1 56 = .ok (.aload_n 0, 1) := dq_get dd_N_aboutTheRest_0 (i := 6) rfl
theorem d_N_aboutTheRest_57 : decode mN_aboutTheRest.2.1 57 = .ok (.getfield 42, 3) := dq_get dd_N_aboutTheRest_0 (i := 7) rfl
theorem d_N_aboutTheRest_60 : decode mN_aboutTheRest.2.1 60 = .ok (.getfield 361, 3) := dq_get dd_N_aboutTheRest_0 (i := 8) rfl
theorem d_N_aboutTheRest_63 : decode mN_aboutTheRest.2.1 63 = .ok (.aload_n 0, 1) := dq_get dd_N_aboutTheRest_0 (i := 9) rfl
theorem d_N_aboutTheRest_64 : decode mN_aboutTheRest.2.1 64 = .ok (.getfield 42, 3) := dq_get dd_N_aboutTheRest_0 (i := 10) rfl
theorem d_N_aboutTheRest_67 : decode mN_aboutTheRest.2.1 67 = .ok (.getfield 358, 3) := dq_get dd_N_aboutTheRest_0 (i := 11) rfl
theorem d_N_aboutTheRest_70 : decode mN_aboutTheRest.2.1 70 = .ok (.isub, 1) := dq_get dd_N_aboutTheRest_0 (i := 12) rfl
theorem d_N_aboutTheRest_71 : decode mN_aboutTheRest.2.1 71 = .ok (.ireturn, 1) := dq_get dd_N_aboutTheRest_0 (i := 13) rfl
theorem d_N_aboutTheRest_72 : decode mN_aboutTheRest.2.1 72 = .ok (.aload_n 0, 1) := dq_get dd_N_aboutTheRest_0 (i := 14) rfl
theorem d_N_aboutTheRest_73 : decode mN_aboutTheRest.2.1 73 = .ok (.getfield 73, 3) := dq_get dd_N_aboutTheRest_0 (i := 15) rfl
theorem d_N_aboutTheRest_76 : decode mN_aboutTheRest.2.1 76 = .ok (.getfield 363, 3) := dq_get dd_N_aboutTheRest_0 (i := 16) rfl
theorem d_N_aboutTheRest_79 : decode mN_aboutTheRest.2.1 79 = .ok (.ireturn, 1) := dq_get dd_N_aboutTheRest_0 (i := 17) rfl
theorem d_N_aboutTheRest_80 : decode mN_aboutTheRest.2.1 80 = .ok (.aload_n 0, 1) := dq_get dd_N_aboutTheRest_0 (i := 18) rfl
theorem d_N_aboutTheRest_81 : decode mN_aboutTheRest.2.1 81 = .ok (.getfield 73, 3) := dq_get dd_N_aboutTheRest_0 (i := 19) rfl
theorem d_N_aboutTheRest_84 : decode mN_aboutTheRest.2.1 84 = .ok (.getfield 364, 3) := dq_get dd_N_aboutTheRest_0 (i := 20) rfl
theorem d_N_aboutTheRest_87 : decode mN_aboutTheRest.2.1 87 = .ok (.ireturn, 1) := dq_get dd_N_aboutTheRest_0 (i := 21) rfl
theorem d_N_aboutTheRest_88 : decode mN_aboutTheRest.2.1 88 = .ok (.aload_n 0, 1) := dq_get dd_N_aboutTheRest_0 (i := 22) rfl
theorem d_N_aboutTheRest_89 : decode mN_aboutTheRest.2.1 89 = .ok (.getfield 20, 3) := dq_get dd_N_aboutTheRest_0 (i := 23) rfl
theorem d_N_aboutTheRest_92 : decode mN_aboutTheRest.2.1 92 = .ok (.getfield 84, 3) := dq_get dd_N_aboutTheRest_0 (i := 24) rfl
theorem d_N_aboutTheRest_95 : decode mN_aboutTheRest.2.1 95 = .ok (.ireturn, 1) := dq_get dd_N_aboutTheRest_0 (i := 25) rfl
theorem d_N_aboutTheRest_96 : decode mN_aboutTheRest.2.1 96 = .ok (.aload_n 0, 1) := dq_get dd_N_aboutTheRest_0 (i := 26) rfl
theorem d_N_aboutTheRest_97 : decode mN_aboutTheRest.2.1 97 = .ok (.getfield 24, 3) := dq_get dd_N_aboutTheRest_0 (i := 27) rfl
theorem d_N_aboutTheRest_100 : decode mN_aboutTheRest.2.1 100 = .ok (.getfield 216, 3) := dq_get dd_N_aboutTheRest_0 (i := 28) rfl
theorem d_N_aboutTheRest_103 : decode mN_aboutTheRest.2.1 103 = .ok (.getfield 367, 3) := dq_get dd_N_aboutTheRest_0 (i := 29) rfl
theorem d_N_aboutTheRest_106 : decode mN_aboutTheRest.2.1 106 = .ok (.ireturn, 1) := dq_get dd_N_aboutTheRest_0 (i := 30) rfl
theorem d_N_aboutTheRest_107 : decode mN_aboutTheRest.2.1 107 = .ok (.aload_n 0, 1) := dq_get dd_N_aboutTheRest_0 (i := 31) rfl
theorem dd_N_aboutTheRest_32 : dq mN_aboutTheRest.2.1 [(108, .getfield 115, 3), (111, .ireturn, 1), (112, .aload_n 0, 1), (113, .invokevirtual 166, 3), (116, .invokestatic 211, 3), (119, .ireturn, 1), (120, .iconst (-1), 1), (121, .ireturn, 1)] = true := by decide +kernel
theorem d_N_aboutTheRest_108 : decode mN_aboutTheRest.2.1 108 = .ok (.getfield 115, 3) := dq_get dd_N_aboutTheRest_32 (i := 0) rfl
theorem d_N_aboutTheRest_111 : decode mN_aboutTheRest.2.1 111 = .ok (.ireturn, 1) := dq_get dd_N_aboutTheRest_32 (i := 1) rfl
theorem d_N_aboutTheRest_112 : decode mN_aboutTheRest.2.1 112 = .ok (.aload_n 0, 1) := dq_get dd_N_aboutTheRest_32 (i := 2) rfl
theorem d_N_aboutTheRest_113 : decode mN_aboutTheRest.2.1 113 = .ok (.invokevirtual 166, 3) := dq_get dd_N_aboutTheRest_32 (i := 3) rfl
theorem d_N_aboutTheRest_116 : decode mN_aboutTheRest.2.1 116 = .ok (.invokestatic 211, 3) := dq_get dd_N_aboutTheRest_32 (i := 4) rfl
theorem d_N_aboutTheRest_119 : decode mN_aboutTheRest.2.1 119 = .ok (.ireturn, 1) := dq_get dd_N_aboutTheRest_32 (i := 5) rfl
theorem d_N_aboutTheRest_120 : decode mN_aboutTheRest.2.1 120 = .ok (.iconst (-1), 1) := dq_get dd_N_aboutTheRest_32 (i := 6) rfl
theorem d_N_aboutTheRest_121 : decode mN_aboutTheRest.2.1 121 = .ok (.ireturn, 1) := dq_get dd_N_aboutTheRest_32 (i := 7) rfl
