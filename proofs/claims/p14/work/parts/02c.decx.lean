theorem d_N_init_0 : decode mN_init.2.1 0 = .ok (.aload_n 0, 1) := by decide +kernel
theorem d_N_init_1 : decode mN_init.2.1 1 = .ok (.invokespecial 1, 3) := by decide +kernel
theorem d_N_init_4 : decode mN_init.2.1 4 = .ok (.aload_n 0, 1) := by decide +kernel
theorem d_N_init_5 : decode mN_init.2.1 5 = .ok (.new 7, 3) := by decide +kernel
theorem d_N_init_8 : decode mN_init.2.1 8 = .ok (.dup, 1) := by decide +kernel
theorem d_N_init_9 : decode mN_init.2.1 9 = .ok (.invokespecial 9, 3) := by decide +kernel
theorem d_N_init_12 : decode mN_init.2.1 12 = .ok (.putfield 10, 3) := by decide +kernel
theorem d_N_init_15 : decode mN_init.2.1 15 = .ok (.aload_n 0, 1) := by decide +kernel
theorem d_N_init_16 : decode mN_init.2.1 16 = .ok (.aload_n 0, 1) := by decide +kernel
theorem d_N_init_17 : decode mN_init.2.1 17 = .ok (.getfield 10, 3) := by decide +kernel
theorem d_N_init_20 : decode mN_init.2.1 20 = .ok (.getfield 16, 3) := by decide +kernel
theorem d_N_init_23 : decode mN_init.2.1 23 = .ok (.putfield 20, 3) := by decide +kernel
theorem d_N_init_26 : decode mN_init.2.1 26 = .ok (.aload_n 0, 1) := by decide +kernel
theorem d_N_init_27 : decode mN_init.2.1 27 = .ok (.new 21, 3) := by decide +kernel
theorem d_N_init_30 : decode mN_init.2.1 30 = .ok (.dup, 1) := by decide +kernel
theorem d_N_init_31 : decode mN_init.2.1 31 = .ok (.invokespecial 23, 3) := by decide +kernel
theorem d_N_init_34 : decode mN_init.2.1 34 = .ok (.putfield 24, 3) := by decide +kernel
theorem d_N_init_37 : decode mN_init.2.1 37 = .ok (.aload_n 0, 1) := by decide +kernel
theorem d_N_init_38 : decode mN_init.2.1 38 = .ok (.new 28, 3) := by decide +kernel
theorem d_N_init_41 : decode mN_init.2.1 41 = .ok (.dup, 1) := by decide +kernel
theorem d_N_init_42 : decode mN_init.2.1 42 = .ok (.invokespecial 30, 3) := by decide +kernel
theorem d_N_init_45 : decode mN_init.2.1 45 = .ok (.putfield 31, 3) := by decide +kernel
theorem d_N_init_48 : decode mN_init.2.1 48 = .ok (.aload_n 0, 1) := by decide +kernel
theorem d_N_init_49 : decode mN_init.2.1 49 = .ok (.iconst 3, 1) := by decide +kernel
theorem d_N_init_50 : decode mN_init.2.1 50 = .ok (.anewarray 28, 3) := by decide +kernel
theorem d_N_init_53 : decode mN_init.2.1 53 = .ok (.dup, 1) := by decide +kernel
theorem d_N_init_54 : decode mN_init.2.1 54 = .ok (.iconst 0, 1) := by decide +kernel
theorem d_N_init_55 : decode mN_init.2.1 55 = .ok (.new 28, 3) := by decide +kernel
theorem d_N_init_58 : decode mN_init.2.1 58 = .ok (.dup, 1) := by decide +kernel
theorem d_N_init_59 : decode mN_init.2.1 59 = .ok (.invokespecial 30, 3) := by decide +kernel
theorem d_N_init_62 : decode mN_init.2.1 62 = .ok (.aastore, 1) := by decide +kernel
theorem d_N_init_63 : decode mN_init.2.1 63 = .ok (.dup, 1) := by decide +kernel
theorem d_N_init_64 : decode mN_init.2.1 64 = .ok (.iconst 1, 1) := by decide +kernel
theorem d_N_init_65 : decode mN_init.2.1 65 = .ok (.new 28, 3) := by decide +kernel
theorem d_N_init_68 : decode mN_init.2.1 68 = .ok (.dup, 1) := by decide +kernel
theorem d_N_init_69 : decode mN_init.2.1 69 = .ok (.invokespecial 30, 3) := by decide +kernel
theorem d_N_init_72 : decode mN_init.2.1 72 = .ok (.aastore, 1) := by decide +kernel
theorem d_N_init_73 : decode mN_init.2.1 73 = .ok (.dup, 1) := by decide +kernel
theorem d_N_init_74 : decode mN_init.2.1 74 = .ok (.iconst 2, 1) := by decide +kernel
theorem d_N_init_75 : decode mN_init.2.1 75 = .ok (.new 28, 3) := by decide +kernel
theorem d_N_init_78 : decode mN_init.2.1 78 = .ok (.dup, 1) := by decide +kernel
theorem d_N_init_79 : decode mN_init.2.1 79 = .ok (.invokespecial 30, 3) := by decide +kernel
theorem d_N_init_82 : decode mN_init.2.1 82 = .ok (.aastore, 1) := by decide +kernel
theorem d_N_init_83 : decode mN_init.2.1 83 = .ok (.putfield 35, 3) := by decide +kernel
theorem d_N_init_86 : decode mN_init.2.1 86 = .ok (.aload_n 0, 1) := by decide +kernel
theorem d_N_init_87 : decode mN_init.2.1 87 = .ok (.new 39, 3) := by decide +kernel
theorem d_N_init_90 : decode mN_init.2.1 90 = .ok (.dup, 1) := by decide +kernel
theorem d_N_init_91 : decode mN_init.2.1 91 = .ok (.invokespecial 41, 3) := by decide +kernel
theorem d_N_init_94 : decode mN_init.2.1 94 = .ok (.putfield 42, 3) := by decide +kernel
theorem d_N_init_97 : decode mN_init.2.1 97 = .ok (.aload_n 0, 1) := by decide +kernel
theorem d_N_init_98 : decode mN_init.2.1 98 = .ok (.new 46, 3) := by decide +kernel
theorem d_N_init_101 : decode mN_init.2.1 101 = .ok (.dup, 1) := by decide +kernel
theorem d_N_init_102 : decode mN_init.2.1 102 = .ok (.invokespecial 48, 3) := by decide +kernel
theorem d_N_init_105 : decode mN_init.2.1 105 = .ok (.putfield 49, 3) := by decide +kernel
theorem d_N_init_108 : decode mN_init.2.1 108 = .ok (.aload_n 0, 1) := by decide +kernel
theorem d_N_init_109 : decode mN_init.2.1 109 = .ok (.aload_n 0, 1) := by decide +kernel
theorem d_N_init_110 : decode mN_init.2.1 110 = .ok (.getfield 49, 3) := by decide +kernel
theorem d_N_init_113 : decode mN_init.2.1 113 = .ok (.getfield 53, 3) := by decide +kernel
theorem d_N_init_116 : decode mN_init.2.1 116 = .ok (.putfield 57, 3) := by decide +kernel
theorem d_N_init_119 : decode mN_init.2.1 119 = .ok (.aload_n 0, 1) := by decide +kernel
theorem d_N_init_120 : decode mN_init.2.1 120 = .ok (.aload_n 0, 1) := by decide +kernel
theorem d_N_init_121 : decode mN_init.2.1 121 = .ok (.getfield 49, 3) := by decide +kernel
theorem d_N_init_124 : decode mN_init.2.1 124 = .ok (.getfield 58, 3) := by decide +kernel
theorem d_N_init_127 : decode mN_init.2.1 127 = .ok (.putfield 62, 3) := by decide +kernel
theorem d_N_init_130 : decode mN_init.2.1 130 = .ok (.aload_n 0, 1) := by decide +kernel
theorem d_N_init_131 : decode mN_init.2.1 131 = .ok (.new 63, 3) := by decide +kernel
theorem d_N_init_134 : decode mN_init.2.1 134 = .ok (.dup, 1) := by decide +kernel
theorem d_N_init_135 : decode mN_init.2.1 135 = .ok (.invokespecial 65, 3) := by decide +kernel
theorem d_N_init_138 : decode mN_init.2.1 138 = .ok (.putfield 66, 3) := by decide +kernel
theorem d_N_init_141 : decode mN_init.2.1 141 = .ok (.aload_n 0, 1) := by decide +kernel
theorem d_N_init_142 : decode mN_init.2.1 142 = .ok (.new 70, 3) := by decide +kernel
theorem d_N_init_145 : decode mN_init.2.1 145 = .ok (.dup, 1) := by decide +kernel
theorem d_N_init_146 : decode mN_init.2.1 146 = .ok (.invokespecial 72, 3) := by decide +kernel
theorem d_N_init_149 : decode mN_init.2.1 149 = .ok (.putfield 73, 3) := by decide +kernel
theorem d_N_init_152 : decode mN_init.2.1 152 = .ok (.aload_n 0, 1) := by decide +kernel
theorem d_N_init_153 : decode mN_init.2.1 153 = .ok (.bipush 10, 2) := by decide +kernel
theorem d_N_init_155 : decode mN_init.2.1 155 = .ok (.newarray .int, 2) := by decide +kernel
theorem d_N_init_157 : decode mN_init.2.1 157 = .ok (.putfield 77, 3) := by decide +kernel
theorem d_N_init_160 : decode mN_init.2.1 160 = .ok (.aload_n 0, 1) := by decide +kernel
theorem d_N_init_161 : decode mN_init.2.1 161 = .ok (.getfield 31, 3) := by decide +kernel
theorem d_N_init_164 : decode mN_init.2.1 164 = .ok (.aload_n 0, 1) := by decide +kernel
theorem d_N_init_165 : decode mN_init.2.1 165 = .ok (.getfield 24, 3) := by decide +kernel
theorem d_N_init_168 : decode mN_init.2.1 168 = .ok (.invokevirtual 80, 3) := by decide +kernel
theorem d_N_init_171 : decode mN_init.2.1 171 = .ok (.return_, 1) := by decide +kernel
theorem d_N_feed_0 : decode mN_feed.2.1 0 = .ok (.aload_n 0, 1) := by decide +kernel
theorem d_N_feed_1 : decode mN_feed.2.1 1 = .ok (.getfield 20, 3) := by decide +kernel
theorem d_N_feed_4 : decode mN_feed.2.1 4 = .ok (.getfield 84, 3) := by decide +kernel
theorem d_N_feed_7 : decode mN_feed.2.1 7 = .ok (.bipush 20, 2) := by decide +kernel
theorem d_N_feed_9 : decode mN_feed.2.1 9 = .ok (.iadd, 1) := by decide +kernel
theorem d_N_feed_10 : decode mN_feed.2.1 10 = .ok (.sipush 1600, 3) := by decide +kernel
theorem d_N_feed_13 : decode mN_feed.2.1 13 = .ok (.if_icmp .le 5, 3) := by decide +kernel
theorem d_N_feed_16 : decode mN_feed.2.1 16 = .ok (.iconst (-1), 1) := by decide +kernel
theorem d_N_feed_17 : decode mN_feed.2.1 17 = .ok (.ireturn, 1) := by decide +kernel
theorem d_N_feed_18 : decode mN_feed.2.1 18 = .ok (.aload_n 0, 1) := by decide +kernel
theorem d_N_feed_19 : decode mN_feed.2.1 19 = .ok (.getfield 20, 3) := by decide +kernel
theorem d_N_feed_22 : decode mN_feed.2.1 22 = .ok (.iload_n 1, 1) := by decide +kernel
theorem d_N_feed_23 : decode mN_feed.2.1 23 = .ok (.invokevirtual 90, 3) := by decide +kernel
theorem d_N_feed_26 : decode mN_feed.2.1 26 = .ok (.aload_n 0, 1) := by decide +kernel
theorem d_N_feed_27 : decode mN_feed.2.1 27 = .ok (.getfield 20, 3) := by decide +kernel
theorem d_N_feed_30 : decode mN_feed.2.1 30 = .ok (.iload_n 2, 1) := by decide +kernel
theorem d_N_feed_31 : decode mN_feed.2.1 31 = .ok (.invokevirtual 90, 3) := by decide +kernel
theorem d_N_feed_34 : decode mN_feed.2.1 34 = .ok (.aload_n 0, 1) := by decide +kernel
theorem d_N_feed_35 : decode mN_feed.2.1 35 = .ok (.getfield 20, 3) := by decide +kernel
theorem d_N_feed_38 : decode mN_feed.2.1 38 = .ok (.iload_n 3, 1) := by decide +kernel
theorem d_N_feed_39 : decode mN_feed.2.1 39 = .ok (.invokevirtual 90, 3) := by decide +kernel
theorem d_N_feed_42 : decode mN_feed.2.1 42 = .ok (.aload_n 0, 1) := by decide +kernel
theorem d_N_feed_43 : decode mN_feed.2.1 43 = .ok (.getfield 20, 3) := by decide +kernel
theorem d_N_feed_46 : decode mN_feed.2.1 46 = .ok (.iload 4, 2) := by decide +kernel
theorem d_N_feed_48 : decode mN_feed.2.1 48 = .ok (.invokevirtual 90, 3) := by decide +kernel
theorem d_N_feed_51 : decode mN_feed.2.1 51 = .ok (.aload_n 0, 1) := by decide +kernel
theorem d_N_feed_52 : decode mN_feed.2.1 52 = .ok (.getfield 20, 3) := by decide +kernel
theorem d_N_feed_55 : decode mN_feed.2.1 55 = .ok (.iload 5, 2) := by decide +kernel
theorem d_N_feed_57 : decode mN_feed.2.1 57 = .ok (.invokevirtual 90, 3) := by decide +kernel
theorem d_N_feed_60 : decode mN_feed.2.1 60 = .ok (.aload_n 0, 1) := by decide +kernel
theorem d_N_feed_61 : decode mN_feed.2.1 61 = .ok (.getfield 20, 3) := by decide +kernel
theorem d_N_feed_64 : decode mN_feed.2.1 64 = .ok (.getfield 84, 3) := by decide +kernel
theorem d_N_feed_67 : decode mN_feed.2.1 67 = .ok (.ireturn, 1) := by decide +kernel
theorem d_N_end_0 : decode mN_end.2.1 0 = .ok (.iload_n 1, 1) := by decide +kernel
theorem d_N_end_1 : decode mN_end.2.1 1 = .ok (.ifCond .lt 14, 3) := by decide +kernel
theorem d_N_end_4 : decode mN_end.2.1 4 = .ok (.iload_n 1, 1) := by decide +kernel
theorem d_N_end_5 : decode mN_end.2.1 5 = .ok (.aload_n 0, 1) := by decide +kernel
theorem d_N_end_6 : decode mN_end.2.1 6 = .ok (.getfield 20, 3) := by decide +kernel
theorem d_N_end_9 : decode mN_end.2.1 9 = .ok (.getfield 84, 3) := by decide +kernel
theorem d_N_end_12 : decode mN_end.2.1 12 = .ok (.if_icmp .le 5, 3) := by decide +kernel
theorem d_N_end_15 : decode mN_end.2.1 15 = .ok (.iconst (-1), 1) := by decide +kernel
theorem d_N_end_16 : decode mN_end.2.1 16 = .ok (.ireturn, 1) := by decide +kernel
theorem d_N_end_17 : decode mN_end.2.1 17 = .ok (.aload_n 0, 1) := by decide +kernel
theorem d_N_end_18 : decode mN_end.2.1 18 = .ok (.getfield 20, 3) := by decide +kernel
theorem d_N_end_21 : decode mN_end.2.1 21 = .ok (.iload_n 1, 1) := by decide +kernel
theorem d_N_end_22 : decode mN_end.2.1 22 = .ok (.putfield 84, 3) := by decide +kernel
theorem d_N_end_25 : decode mN_end.2.1 25 = .ok (.iload_n 1, 1) := by decide +kernel
theorem d_N_end_26 : decode mN_end.2.1 26 = .ok (.ireturn, 1) := by decide +kernel
theorem d_N_score_0 : decode mN_score.2.1 0 = .ok (.aload_n 0, 1) := by decide +kernel
theorem d_N_score_1 : decode mN_score.2.1 1 = .ok (.getfield 10, 3) := by decide +kernel
theorem d_N_score_4 : decode mN_score.2.1 4 = .ok (.invokevirtual 94, 3) := by decide +kernel
theorem d_N_score_7 : decode mN_score.2.1 7 = .ok (.iconst 0, 1) := by decide +kernel
theorem d_N_score_8 : decode mN_score.2.1 8 = .ok (.istore_n 1, 1) := by decide +kernel
theorem d_N_score_9 : decode mN_score.2.1 9 = .ok (.iload_n 1, 1) := by decide +kernel
theorem d_N_score_10 : decode mN_score.2.1 10 = .ok (.sipush 1600, 3) := by decide +kernel
theorem d_N_score_13 : decode mN_score.2.1 13 = .ok (.if_icmp .ge 26, 3) := by decide +kernel
theorem d_N_score_16 : decode mN_score.2.1 16 = .ok (.aload_n 0, 1) := by decide +kernel
theorem d_N_score_17 : decode mN_score.2.1 17 = .ok (.getfield 10, 3) := by decide +kernel
theorem d_N_score_20 : decode mN_score.2.1 20 = .ok (.invokevirtual 97, 3) := by decide +kernel
theorem d_N_score_23 : decode mN_score.2.1 23 = .ok (.ifCond .eq 16, 3) := by decide +kernel
theorem d_N_score_26 : decode mN_score.2.1 26 = .ok (.aload_n 0, 1) := by decide +kernel
theorem d_N_score_27 : decode mN_score.2.1 27 = .ok (.getfield 10, 3) := by decide +kernel
theorem d_N_score_30 : decode mN_score.2.1 30 = .ok (.invokevirtual 101, 3) := by decide +kernel
theorem d_N_score_33 : decode mN_score.2.1 33 = .ok (.iinc 1 1, 3) := by decide +kernel
theorem d_N_score_36 : decode mN_score.2.1 36 = .ok (.goto (-27), 3) := by decide +kernel
theorem d_N_score_39 : decode mN_score.2.1 39 = .ok (.aload_n 0, 1) := by decide +kernel
theorem d_N_score_40 : decode mN_score.2.1 40 = .ok (.getfield 20, 3) := by decide +kernel
theorem d_N_score_43 : decode mN_score.2.1 43 = .ok (.iconst 0, 1) := by decide +kernel
theorem d_N_score_44 : decode mN_score.2.1 44 = .ok (.putfield 84, 3) := by decide +kernel
theorem d_N_score_47 : decode mN_score.2.1 47 = .ok (.aload_n 0, 1) := by decide +kernel
theorem d_N_score_48 : decode mN_score.2.1 48 = .ok (.getfield 10, 3) := by decide +kernel
theorem d_N_score_51 : decode mN_score.2.1 51 = .ok (.getfield 104, 3) := by decide +kernel
theorem d_N_score_54 : decode mN_score.2.1 54 = .ok (.ifCond .eq 5, 3) := by decide +kernel
theorem d_N_score_57 : decode mN_score.2.1 57 = .ok (.iconst (-1), 1) := by decide +kernel
theorem d_N_score_58 : decode mN_score.2.1 58 = .ok (.ireturn, 1) := by decide +kernel
theorem d_N_score_59 : decode mN_score.2.1 59 = .ok (.aload_n 0, 1) := by decide +kernel
theorem d_N_score_60 : decode mN_score.2.1 60 = .ok (.aload_n 0, 1) := by decide +kernel
theorem d_N_score_61 : decode mN_score.2.1 61 = .ok (.getfield 10, 3) := by decide +kernel
theorem d_N_score_64 : decode mN_score.2.1 64 = .ok (.aload_n 0, 1) := by decide +kernel
theorem d_N_score_65 : decode mN_score.2.1 65 = .ok (.getfield 24, 3) := by decide +kernel
theorem d_N_score_68 : decode mN_score.2.1 68 = .ok (.invokevirtual 107, 3) := by decide +kernel
theorem d_N_score_71 : decode mN_score.2.1 71 = .ok (.putfield 24, 3) := by decide +kernel
theorem d_N_score_74 : decode mN_score.2.1 74 = .ok (.aload_n 0, 1) := by decide +kernel
theorem d_N_score_75 : decode mN_score.2.1 75 = .ok (.getfield 31, 3) := by decide +kernel
theorem d_N_score_78 : decode mN_score.2.1 78 = .ok (.aload_n 0, 1) := by decide +kernel
theorem d_N_score_79 : decode mN_score.2.1 79 = .ok (.getfield 24, 3) := by decide +kernel
theorem d_N_score_82 : decode mN_score.2.1 82 = .ok (.invokevirtual 80, 3) := by decide +kernel
theorem d_N_score_85 : decode mN_score.2.1 85 = .ok (.aload_n 0, 1) := by decide +kernel
theorem d_N_score_86 : decode mN_score.2.1 86 = .ok (.getfield 42, 3) := by decide +kernel
theorem d_N_score_89 : decode mN_score.2.1 89 = .ok (.invokevirtual 111, 3) := by decide +kernel
theorem d_N_score_92 : decode mN_score.2.1 92 = .ok (.aload_n 0, 1) := by decide +kernel
theorem d_N_score_93 : decode mN_score.2.1 93 = .ok (.getfield 73, 3) := by decide +kernel
theorem d_N_score_96 : decode mN_score.2.1 96 = .ok (.invokevirtual 114, 3) := by decide +kernel
theorem d_N_score_99 : decode mN_score.2.1 99 = .ok (.aload_n 0, 1) := by decide +kernel
theorem d_N_score_100 : decode mN_score.2.1 100 = .ok (.iconst 0, 1) := by decide +kernel
theorem d_N_score_101 : decode mN_score.2.1 101 = .ok (.putfield 115, 3) := by decide +kernel
theorem d_N_score_104 : decode mN_score.2.1 104 = .ok (.iconst 0, 1) := by decide +kernel
theorem d_N_score_105 : decode mN_score.2.1 105 = .ok (.istore_n 1, 1) := by decide +kernel
theorem d_N_score_106 : decode mN_score.2.1 106 = .ok (.iload_n 1, 1) := by decide +kernel
theorem d_N_score_107 : decode mN_score.2.1 107 = .ok (.aload_n 0, 1) := by decide +kernel
theorem d_N_score_108 : decode mN_score.2.1 108 = .ok (.getfield 35, 3) := by decide +kernel
theorem d_N_score_111 : decode mN_score.2.1 111 = .ok (.arraylength, 1) := by decide +kernel
theorem d_N_score_112 : decode mN_score.2.1 112 = .ok (.if_icmp .ge 19, 3) := by decide +kernel
theorem d_N_score_115 : decode mN_score.2.1 115 = .ok (.aload_n 0, 1) := by decide +kernel
theorem d_N_score_116 : decode mN_score.2.1 116 = .ok (.getfield 35, 3) := by decide +kernel
theorem d_N_score_119 : decode mN_score.2.1 119 = .ok (.iload_n 1, 1) := by decide +kernel
theorem d_N_score_120 : decode mN_score.2.1 120 = .ok (.aaload, 1) := by decide +kernel
theorem d_N_score_121 : decode mN_score.2.1 121 = .ok (.iconst 0, 1) := by decide +kernel
theorem d_N_score_122 : decode mN_score.2.1 122 = .ok (.putfield 118, 3) := by decide +kernel
theorem d_N_score_125 : decode mN_score.2.1 125 = .ok (.iinc 1 1, 3) := by decide +kernel
theorem d_N_score_128 : decode mN_score.2.1 128 = .ok (.goto (-22), 3) := by decide +kernel
theorem d_N_score_131 : decode mN_score.2.1 131 = .ok (.aload_n 0, 1) := by decide +kernel
theorem d_N_score_132 : decode mN_score.2.1 132 = .ok (.getfield 24, 3) := by decide +kernel
theorem d_N_score_135 : decode mN_score.2.1 135 = .ok (.getfield 122, 3) := by decide +kernel
theorem d_N_score_138 : decode mN_score.2.1 138 = .ok (.ireturn, 1) := by decide +kernel
theorem d_N_fault_0 : decode mN_fault.2.1 0 = .ok (.iload_n 1, 1) := by decide +kernel
theorem d_N_fault_1 : decode mN_fault.2.1 1 = .ok (.lookupswitch 43 #[(0, 27), (1, 35)], 27) := by decide +kernel
theorem d_N_fault_28 : decode mN_fault.2.1 28 = .ok (.aload_n 0, 1) := by decide +kernel
theorem d_N_fault_29 : decode mN_fault.2.1 29 = .ok (.getfield 10, 3) := by decide +kernel
theorem d_N_fault_32 : decode mN_fault.2.1 32 = .ok (.getfield 104, 3) := by decide +kernel
theorem d_N_fault_35 : decode mN_fault.2.1 35 = .ok (.ireturn, 1) := by decide +kernel
theorem d_N_fault_36 : decode mN_fault.2.1 36 = .ok (.aload_n 0, 1) := by decide +kernel
theorem d_N_fault_37 : decode mN_fault.2.1 37 = .ok (.getfield 10, 3) := by decide +kernel
theorem d_N_fault_40 : decode mN_fault.2.1 40 = .ok (.getfield 125, 3) := by decide +kernel
theorem d_N_fault_43 : decode mN_fault.2.1 43 = .ok (.ireturn, 1) := by decide +kernel
theorem d_N_fault_44 : decode mN_fault.2.1 44 = .ok (.iconst (-1), 1) := by decide +kernel
theorem d_N_fault_45 : decode mN_fault.2.1 45 = .ok (.ireturn, 1) := by decide +kernel
theorem d_N_note_0 : decode mN_note.2.1 0 = .ok (.aload_n 0, 1) := by decide +kernel
theorem d_N_note_1 : decode mN_note.2.1 1 = .ok (.iload_n 1, 1) := by decide +kernel
theorem d_N_note_2 : decode mN_note.2.1 2 = .ok (.invokevirtual 128, 3) := by decide +kernel
theorem d_N_note_5 : decode mN_note.2.1 5 = .ok (.ifCond .ne 5, 3) := by decide +kernel
theorem d_N_note_8 : decode mN_note.2.1 8 = .ok (.iconst (-1), 1) := by decide +kernel
theorem d_N_note_9 : decode mN_note.2.1 9 = .ok (.ireturn, 1) := by decide +kernel
theorem d_N_note_10 : decode mN_note.2.1 10 = .ok (.iload_n 2, 1) := by decide +kernel
theorem d_N_note_11 : decode mN_note.2.1 11 = .ok (.tableswitch 117 0 7 #[45, 55, 65, 75, 85, 95, 105, 111], 45) := by decide +kernel
theorem d_N_note_56 : decode mN_note.2.1 56 = .ok (.aload_n 0, 1) := by decide +kernel
theorem d_N_note_57 : decode mN_note.2.1 57 = .ok (.getfield 24, 3) := by decide +kernel
theorem d_N_note_60 : decode mN_note.2.1 60 = .ok (.getfield 132, 3) := by decide +kernel
theorem d_N_note_63 : decode mN_note.2.1 63 = .ok (.iload_n 1, 1) := by decide +kernel
theorem d_N_note_64 : decode mN_note.2.1 64 = .ok (.iaload, 1) := by decide +kernel
theorem d_N_note_65 : decode mN_note.2.1 65 = .ok (.ireturn, 1) := by decide +kernel
theorem d_N_note_66 : decode mN_note.2.1 66 = .ok (.aload_n 0, 1) := by decide +kernel
theorem d_N_note_67 : decode mN_note.2.1 67 = .ok (.getfield 24, 3) := by decide +kernel
theorem d_N_note_70 : decode mN_note.2.1 70 = .ok (.getfield 135, 3) := by decide +kernel
theorem d_N_note_73 : decode mN_note.2.1 73 = .ok (.iload_n 1, 1) := by decide +kernel
theorem d_N_note_74 : decode mN_note.2.1 74 = .ok (.iaload, 1) := by decide +kernel
theorem d_N_note_75 : decode mN_note.2.1 75 = .ok (.ireturn, 1) := by decide +kernel
theorem d_N_note_76 : decode mN_note.2.1 76 = .ok (.aload_n 0, 1) := by decide +kernel
theorem d_N_note_77 : decode mN_note.2.1 77 = .ok (.getfield 31, 3) := by decide +kernel
theorem d_N_note_80 : decode mN_note.2.1 80 = .ok (.getfield 138, 3) := by decide +kernel
theorem d_N_note_83 : decode mN_note.2.1 83 = .ok (.iload_n 1, 1) := by decide +kernel
theorem d_N_note_84 : decode mN_note.2.1 84 = .ok (.iaload, 1) := by decide +kernel
theorem d_N_note_85 : decode mN_note.2.1 85 = .ok (.ireturn, 1) := by decide +kernel
theorem d_N_note_86 : decode mN_note.2.1 86 = .ok (.aload_n 0, 1) := by decide +kernel
theorem d_N_note_87 : decode mN_note.2.1 87 = .ok (.getfield 31, 3) := by decide +kernel
theorem d_N_note_90 : decode mN_note.2.1 90 = .ok (.getfield 141, 3) := by decide +kernel
theorem d_N_note_93 : decode mN_note.2.1 93 = .ok (.iload_n 1, 1) := by decide +kernel
theorem d_N_note_94 : decode mN_note.2.1 94 = .ok (.iaload, 1) := by decide +kernel
theorem d_N_note_95 : decode mN_note.2.1 95 = .ok (.ireturn, 1) := by decide +kernel
theorem d_N_note_96 : decode mN_note.2.1 96 = .ok (.aload_n 0, 1) := by decide +kernel
theorem d_N_note_97 : decode mN_note.2.1 97 = .ok (.getfield 31, 3) := by decide +kernel
theorem d_N_note_100 : decode mN_note.2.1 100 = .ok (.getfield 144, 3) := by decide +kernel
theorem d_N_note_103 : decode mN_note.2.1 103 = .ok (.iload_n 1, 1) := by decide +kernel
theorem d_N_note_104 : decode mN_note.2.1 104 = .ok (.iaload, 1) := by decide +kernel
theorem d_N_note_105 : decode mN_note.2.1 105 = .ok (.ireturn, 1) := by decide +kernel
theorem d_N_note_106 : decode mN_note.2.1 106 = .ok (.aload_n 0, 1) := by decide +kernel
theorem d_N_note_107 : decode mN_note.2.1 107 = .ok (.getfield 31, 3) := by decide +kernel
theorem d_N_note_110 : decode mN_note.2.1 110 = .ok (.getfield 147, 3) := by decide +kernel
theorem d_N_note_113 : decode mN_note.2.1 113 = .ok (.iload_n 1, 1) := by decide +kernel
theorem d_N_note_114 : decode mN_note.2.1 114 = .ok (.iaload, 1) := by decide +kernel
theorem d_N_note_115 : decode mN_note.2.1 115 = .ok (.ireturn, 1) := by decide +kernel
theorem d_N_note_116 : decode mN_note.2.1 116 = .ok (.aload_n 0, 1) := by decide +kernel
theorem d_N_note_117 : decode mN_note.2.1 117 = .ok (.iload_n 1, 1) := by decide +kernel
theorem d_N_note_118 : decode mN_note.2.1 118 = .ok (.invokevirtual 150, 3) := by decide +kernel
theorem d_N_note_121 : decode mN_note.2.1 121 = .ok (.ireturn, 1) := by decide +kernel
theorem d_N_note_122 : decode mN_note.2.1 122 = .ok (.aload_n 0, 1) := by decide +kernel
theorem d_N_note_123 : decode mN_note.2.1 123 = .ok (.iload_n 1, 1) := by decide +kernel
theorem d_N_note_124 : decode mN_note.2.1 124 = .ok (.invokevirtual 154, 3) := by decide +kernel
theorem d_N_note_127 : decode mN_note.2.1 127 = .ok (.ireturn, 1) := by decide +kernel
theorem d_N_note_128 : decode mN_note.2.1 128 = .ok (.iconst (-1), 1) := by decide +kernel
theorem d_N_note_129 : decode mN_note.2.1 129 = .ok (.ireturn, 1) := by decide +kernel
theorem d_N_isNote_0 : decode mN_isNote.2.1 0 = .ok (.iload_n 1, 1) := by decide +kernel
theorem d_N_isNote_1 : decode mN_isNote.2.1 1 = .ok (.ifCond .lt 18, 3) := by decide +kernel
theorem d_N_isNote_4 : decode mN_isNote.2.1 4 = .ok (.iload_n 1, 1) := by decide +kernel
theorem d_N_isNote_5 : decode mN_isNote.2.1 5 = .ok (.aload_n 0, 1) := by decide +kernel
theorem d_N_isNote_6 : decode mN_isNote.2.1 6 = .ok (.getfield 24, 3) := by decide +kernel
theorem d_N_isNote_9 : decode mN_isNote.2.1 9 = .ok (.getfield 122, 3) := by decide +kernel
theorem d_N_isNote_12 : decode mN_isNote.2.1 12 = .ok (.if_icmp .ge 7, 3) := by decide +kernel
theorem d_N_isNote_15 : decode mN_isNote.2.1 15 = .ok (.iconst 1, 1) := by decide +kernel
theorem d_N_isNote_16 : decode mN_isNote.2.1 16 = .ok (.goto 4, 3) := by decide +kernel
theorem d_N_isNote_19 : decode mN_isNote.2.1 19 = .ok (.iconst 0, 1) := by decide +kernel
theorem d_N_isNote_20 : decode mN_isNote.2.1 20 = .ok (.ireturn, 1) := by decide +kernel
theorem d_N_missedOf_0 : decode mN_missedOf.2.1 0 = .ok (.aload_n 0, 1) := by decide +kernel
theorem d_N_missedOf_1 : decode mN_missedOf.2.1 1 = .ok (.getfield 24, 3) := by decide +kernel
theorem d_N_missedOf_4 : decode mN_missedOf.2.1 4 = .ok (.iload_n 1, 1) := by decide +kernel
theorem d_N_missedOf_5 : decode mN_missedOf.2.1 5 = .ok (.invokevirtual 208, 3) := by decide +kernel
theorem d_N_missedOf_8 : decode mN_missedOf.2.1 8 = .ok (.istore_n 2, 1) := by decide +kernel
theorem d_N_missedOf_9 : decode mN_missedOf.2.1 9 = .ok (.aload_n 0, 1) := by decide +kernel
theorem d_N_missedOf_10 : decode mN_missedOf.2.1 10 = .ok (.getfield 31, 3) := by decide +kernel
theorem d_N_missedOf_13 : decode mN_missedOf.2.1 13 = .ok (.getfield 144, 3) := by decide +kernel
theorem d_N_missedOf_16 : decode mN_missedOf.2.1 16 = .ok (.iload_n 1, 1) := by decide +kernel
theorem d_N_missedOf_17 : decode mN_missedOf.2.1 17 = .ok (.iaload, 1) := by decide +kernel
theorem d_N_missedOf_18 : decode mN_missedOf.2.1 18 = .ok (.istore_n 3, 1) := by decide +kernel
theorem d_N_missedOf_19 : decode mN_missedOf.2.1 19 = .ok (.aload_n 0, 1) := by decide +kernel
theorem d_N_missedOf_20 : decode mN_missedOf.2.1 20 = .ok (.iload_n 1, 1) := by decide +kernel
theorem d_N_missedOf_21 : decode mN_missedOf.2.1 21 = .ok (.invokevirtual 154, 3) := by decide +kernel
theorem d_N_missedOf_24 : decode mN_missedOf.2.1 24 = .ok (.invokestatic 211, 3) := by decide +kernel
theorem d_N_missedOf_27 : decode mN_missedOf.2.1 27 = .ok (.istore 4, 2) := by decide +kernel
theorem d_N_missedOf_29 : decode mN_missedOf.2.1 29 = .ok (.iload_n 3, 1) := by decide +kernel
theorem d_N_missedOf_30 : decode mN_missedOf.2.1 30 = .ok (.iload_n 2, 1) := by decide +kernel
theorem d_N_missedOf_31 : decode mN_missedOf.2.1 31 = .ok (.iconst 5, 1) := by decide +kernel
theorem d_N_missedOf_32 : decode mN_missedOf.2.1 32 = .ok (.imul, 1) := by decide +kernel
theorem d_N_missedOf_33 : decode mN_missedOf.2.1 33 = .ok (.iadd, 1) := by decide +kernel
theorem d_N_missedOf_34 : decode mN_missedOf.2.1 34 = .ok (.iload 4, 2) := by decide +kernel
theorem d_N_missedOf_36 : decode mN_missedOf.2.1 36 = .ok (.isub, 1) := by decide +kernel
theorem d_N_missedOf_37 : decode mN_missedOf.2.1 37 = .ok (.istore 5, 2) := by decide +kernel
theorem d_N_missedOf_39 : decode mN_missedOf.2.1 39 = .ok (.aload_n 0, 1) := by decide +kernel
theorem d_N_missedOf_40 : decode mN_missedOf.2.1 40 = .ok (.getfield 24, 3) := by decide +kernel
theorem d_N_missedOf_43 : decode mN_missedOf.2.1 43 = .ok (.getfield 216, 3) := by decide +kernel
theorem d_N_missedOf_46 : decode mN_missedOf.2.1 46 = .ok (.invokevirtual 220, 3) := by decide +kernel
theorem d_N_missedOf_49 : decode mN_missedOf.2.1 49 = .ok (.ifCond .eq 46, 3) := by decide +kernel
theorem d_N_missedOf_52 : decode mN_missedOf.2.1 52 = .ok (.aload_n 0, 1) := by decide +kernel
theorem d_N_missedOf_53 : decode mN_missedOf.2.1 53 = .ok (.getfield 24, 3) := by decide +kernel
theorem d_N_missedOf_56 : decode mN_missedOf.2.1 56 = .ok (.getfield 216, 3) := by decide +kernel
theorem d_N_missedOf_59 : decode mN_missedOf.2.1 59 = .ok (.iload_n 2, 1) := by decide +kernel
theorem d_N_missedOf_60 : decode mN_missedOf.2.1 60 = .ok (.aload_n 0, 1) := by decide +kernel
theorem d_N_missedOf_61 : decode mN_missedOf.2.1 61 = .ok (.getfield 31, 3) := by decide +kernel
theorem d_N_missedOf_64 : decode mN_missedOf.2.1 64 = .ok (.getfield 138, 3) := by decide +kernel
theorem d_N_missedOf_67 : decode mN_missedOf.2.1 67 = .ok (.iload_n 1, 1) := by decide +kernel
theorem d_N_missedOf_68 : decode mN_missedOf.2.1 68 = .ok (.iaload, 1) := by decide +kernel
theorem d_N_missedOf_69 : decode mN_missedOf.2.1 69 = .ok (.aload_n 0, 1) := by decide +kernel
theorem d_N_missedOf_70 : decode mN_missedOf.2.1 70 = .ok (.getfield 31, 3) := by decide +kernel
theorem d_N_missedOf_73 : decode mN_missedOf.2.1 73 = .ok (.getfield 141, 3) := by decide +kernel
theorem d_N_missedOf_76 : decode mN_missedOf.2.1 76 = .ok (.iload_n 1, 1) := by decide +kernel
theorem d_N_missedOf_77 : decode mN_missedOf.2.1 77 = .ok (.iaload, 1) := by decide +kernel
theorem d_N_missedOf_78 : decode mN_missedOf.2.1 78 = .ok (.iload_n 3, 1) := by decide +kernel
theorem d_N_missedOf_79 : decode mN_missedOf.2.1 79 = .ok (.iload 4, 2) := by decide +kernel
theorem d_N_missedOf_81 : decode mN_missedOf.2.1 81 = .ok (.aload_n 0, 1) := by decide +kernel
theorem d_N_missedOf_82 : decode mN_missedOf.2.1 82 = .ok (.getfield 24, 3) := by decide +kernel
theorem d_N_missedOf_85 : decode mN_missedOf.2.1 85 = .ok (.getfield 135, 3) := by decide +kernel
theorem d_N_missedOf_88 : decode mN_missedOf.2.1 88 = .ok (.iload_n 1, 1) := by decide +kernel
theorem d_N_missedOf_89 : decode mN_missedOf.2.1 89 = .ok (.iaload, 1) := by decide +kernel
theorem d_N_missedOf_90 : decode mN_missedOf.2.1 90 = .ok (.invokevirtual 225, 3) := by decide +kernel
theorem d_N_missedOf_93 : decode mN_missedOf.2.1 93 = .ok (.istore 5, 2) := by decide +kernel
theorem d_N_missedOf_95 : decode mN_missedOf.2.1 95 = .ok (.iconst 0, 1) := by decide +kernel
theorem d_N_missedOf_96 : decode mN_missedOf.2.1 96 = .ok (.sipush 999, 3) := by decide +kernel
theorem d_N_missedOf_99 : decode mN_missedOf.2.1 99 = .ok (.iload 5, 2) := by decide +kernel
theorem d_N_missedOf_101 : decode mN_missedOf.2.1 101 = .ok (.invokestatic 229, 3) := by decide +kernel
theorem d_N_missedOf_104 : decode mN_missedOf.2.1 104 = .ok (.invokestatic 234, 3) := by decide +kernel
theorem d_N_missedOf_107 : decode mN_missedOf.2.1 107 = .ok (.ireturn, 1) := by decide +kernel
theorem d_N_doublesOf_0 : decode mN_doublesOf.2.1 0 = .ok (.iconst 0, 1) := by decide +kernel
theorem d_N_doublesOf_1 : decode mN_doublesOf.2.1 1 = .ok (.istore_n 2, 1) := by decide +kernel
theorem d_N_doublesOf_2 : decode mN_doublesOf.2.1 2 = .ok (.iconst 0, 1) := by decide +kernel
theorem d_N_doublesOf_3 : decode mN_doublesOf.2.1 3 = .ok (.istore_n 3, 1) := by decide +kernel
theorem d_N_doublesOf_4 : decode mN_doublesOf.2.1 4 = .ok (.iload_n 3, 1) := by decide +kernel
theorem d_N_doublesOf_5 : decode mN_doublesOf.2.1 5 = .ok (.aload_n 0, 1) := by decide +kernel
theorem d_N_doublesOf_6 : decode mN_doublesOf.2.1 6 = .ok (.getfield 24, 3) := by decide +kernel
theorem d_N_doublesOf_9 : decode mN_doublesOf.2.1 9 = .ok (.getfield 122, 3) := by decide +kernel
theorem d_N_doublesOf_12 : decode mN_doublesOf.2.1 12 = .ok (.if_icmp .ge 78, 3) := by decide +kernel
theorem d_N_doublesOf_15 : decode mN_doublesOf.2.1 15 = .ok (.aload_n 0, 1) := by decide +kernel
theorem d_N_doublesOf_16 : decode mN_doublesOf.2.1 16 = .ok (.getfield 24, 3) := by decide +kernel
theorem d_N_doublesOf_19 : decode mN_doublesOf.2.1 19 = .ok (.getfield 135, 3) := by decide +kernel
theorem d_N_doublesOf_22 : decode mN_doublesOf.2.1 22 = .ok (.iload_n 3, 1) := by decide +kernel
theorem d_N_doublesOf_23 : decode mN_doublesOf.2.1 23 = .ok (.iaload, 1) := by decide +kernel
theorem d_N_doublesOf_24 : decode mN_doublesOf.2.1 24 = .ok (.aload_n 0, 1) := by decide +kernel
theorem d_N_doublesOf_25 : decode mN_doublesOf.2.1 25 = .ok (.getfield 24, 3) := by decide +kernel
theorem d_N_doublesOf_28 : decode mN_doublesOf.2.1 28 = .ok (.getfield 135, 3) := by decide +kernel
theorem d_N_doublesOf_31 : decode mN_doublesOf.2.1 31 = .ok (.iload_n 1, 1) := by decide +kernel
theorem d_N_doublesOf_32 : decode mN_doublesOf.2.1 32 = .ok (.iaload, 1) := by decide +kernel
theorem d_N_doublesOf_33 : decode mN_doublesOf.2.1 33 = .ok (.if_icmp .ne 7, 3) := by decide +kernel
theorem d_N_doublesOf_36 : decode mN_doublesOf.2.1 36 = .ok (.iconst 1, 1) := by decide +kernel
theorem d_N_doublesOf_37 : decode mN_doublesOf.2.1 37 = .ok (.goto 4, 3) := by decide +kernel
theorem d_N_doublesOf_40 : decode mN_doublesOf.2.1 40 = .ok (.iconst 0, 1) := by decide +kernel
theorem d_N_doublesOf_41 : decode mN_doublesOf.2.1 41 = .ok (.istore 4, 2) := by decide +kernel
theorem d_N_doublesOf_43 : decode mN_doublesOf.2.1 43 = .ok (.iload_n 3, 1) := by decide +kernel
theorem d_N_doublesOf_44 : decode mN_doublesOf.2.1 44 = .ok (.iload_n 1, 1) := by decide +kernel
theorem d_N_doublesOf_45 : decode mN_doublesOf.2.1 45 = .ok (.if_icmp .eq 39, 3) := by decide +kernel
theorem d_N_doublesOf_48 : decode mN_doublesOf.2.1 48 = .ok (.iload 4, 2) := by decide +kernel
theorem d_N_doublesOf_50 : decode mN_doublesOf.2.1 50 = .ok (.ifCond .eq 34, 3) := by decide +kernel
theorem d_N_doublesOf_53 : decode mN_doublesOf.2.1 53 = .ok (.aload_n 0, 1) := by decide +kernel
theorem d_N_doublesOf_54 : decode mN_doublesOf.2.1 54 = .ok (.getfield 31, 3) := by decide +kernel
theorem d_N_doublesOf_57 : decode mN_doublesOf.2.1 57 = .ok (.getfield 138, 3) := by decide +kernel
theorem d_N_doublesOf_60 : decode mN_doublesOf.2.1 60 = .ok (.iload_n 3, 1) := by decide +kernel
theorem d_N_doublesOf_61 : decode mN_doublesOf.2.1 61 = .ok (.iaload, 1) := by decide +kernel
theorem d_N_doublesOf_62 : decode mN_doublesOf.2.1 62 = .ok (.aload_n 0, 1) := by decide +kernel
theorem d_N_doublesOf_63 : decode mN_doublesOf.2.1 63 = .ok (.getfield 31, 3) := by decide +kernel
theorem d_N_doublesOf_66 : decode mN_doublesOf.2.1 66 = .ok (.getfield 138, 3) := by decide +kernel
theorem d_N_doublesOf_69 : decode mN_doublesOf.2.1 69 = .ok (.iload_n 1, 1) := by decide +kernel
theorem d_N_doublesOf_70 : decode mN_doublesOf.2.1 70 = .ok (.iaload, 1) := by decide +kernel
theorem d_N_doublesOf_71 : decode mN_doublesOf.2.1 71 = .ok (.isub, 1) := by decide +kernel
theorem d_N_doublesOf_72 : decode mN_doublesOf.2.1 72 = .ok (.bipush 12, 2) := by decide +kernel
theorem d_N_doublesOf_74 : decode mN_doublesOf.2.1 74 = .ok (.irem, 1) := by decide +kernel
theorem d_N_doublesOf_75 : decode mN_doublesOf.2.1 75 = .ok (.ifCond .ne 9, 3) := by decide +kernel
theorem d_N_doublesOf_78 : decode mN_doublesOf.2.1 78 = .ok (.iload_n 2, 1) := by decide +kernel
theorem d_N_doublesOf_79 : decode mN_doublesOf.2.1 79 = .ok (.iconst 1, 1) := by decide +kernel
theorem d_N_doublesOf_80 : decode mN_doublesOf.2.1 80 = .ok (.iload_n 3, 1) := by decide +kernel
theorem d_N_doublesOf_81 : decode mN_doublesOf.2.1 81 = .ok (.ishl, 1) := by decide +kernel
theorem d_N_doublesOf_82 : decode mN_doublesOf.2.1 82 = .ok (.ior, 1) := by decide +kernel
theorem d_N_doublesOf_83 : decode mN_doublesOf.2.1 83 = .ok (.istore_n 2, 1) := by decide +kernel
theorem d_N_doublesOf_84 : decode mN_doublesOf.2.1 84 = .ok (.iinc 3 1, 3) := by decide +kernel
theorem d_N_doublesOf_87 : decode mN_doublesOf.2.1 87 = .ok (.goto (-83), 3) := by decide +kernel
theorem d_N_doublesOf_90 : decode mN_doublesOf.2.1 90 = .ok (.iload_n 2, 1) := by decide +kernel
theorem d_N_doublesOf_91 : decode mN_doublesOf.2.1 91 = .ok (.ireturn, 1) := by decide +kernel
theorem d_N_part_0 : decode mN_part.2.1 0 = .ok (.iload_n 1, 1) := by decide +kernel
theorem d_N_part_1 : decode mN_part.2.1 1 = .ok (.ifCond .lt 14, 3) := by decide +kernel
theorem d_N_part_4 : decode mN_part.2.1 4 = .ok (.iload_n 1, 1) := by decide +kernel
theorem d_N_part_5 : decode mN_part.2.1 5 = .ok (.aload_n 0, 1) := by decide +kernel
theorem d_N_part_6 : decode mN_part.2.1 6 = .ok (.getfield 24, 3) := by decide +kernel
theorem d_N_part_9 : decode mN_part.2.1 9 = .ok (.getfield 157, 3) := by decide +kernel
theorem d_N_part_12 : decode mN_part.2.1 12 = .ok (.if_icmp .lt 5, 3) := by decide +kernel
theorem d_N_part_15 : decode mN_part.2.1 15 = .ok (.iconst (-1), 1) := by decide +kernel
theorem d_N_part_16 : decode mN_part.2.1 16 = .ok (.ireturn, 1) := by decide +kernel
theorem d_N_part_17 : decode mN_part.2.1 17 = .ok (.iload_n 2, 1) := by decide +kernel
theorem d_N_part_18 : decode mN_part.2.1 18 = .ok (.tableswitch 59 0 2 #[26, 36, 45], 26) := by decide +kernel
theorem d_N_part_44 : decode mN_part.2.1 44 = .ok (.aload_n 0, 1) := by decide +kernel
theorem d_N_part_45 : decode mN_part.2.1 45 = .ok (.getfield 24, 3) := by decide +kernel
theorem d_N_part_48 : decode mN_part.2.1 48 = .ok (.getfield 160, 3) := by decide +kernel
theorem d_N_part_51 : decode mN_part.2.1 51 = .ok (.iload_n 1, 1) := by decide +kernel
theorem d_N_part_52 : decode mN_part.2.1 52 = .ok (.iaload, 1) := by decide +kernel
theorem d_N_part_53 : decode mN_part.2.1 53 = .ok (.ireturn, 1) := by decide +kernel
theorem d_N_part_54 : decode mN_part.2.1 54 = .ok (.aload_n 0, 1) := by decide +kernel
theorem d_N_part_55 : decode mN_part.2.1 55 = .ok (.getfield 24, 3) := by decide +kernel
theorem d_N_part_58 : decode mN_part.2.1 58 = .ok (.iload_n 1, 1) := by decide +kernel
theorem d_N_part_59 : decode mN_part.2.1 59 = .ok (.invokevirtual 163, 3) := by decide +kernel
theorem d_N_part_62 : decode mN_part.2.1 62 = .ok (.ireturn, 1) := by decide +kernel
theorem d_N_part_63 : decode mN_part.2.1 63 = .ok (.aload_n 0, 1) := by decide +kernel
theorem d_N_part_64 : decode mN_part.2.1 64 = .ok (.getfield 24, 3) := by decide +kernel
theorem d_N_part_67 : decode mN_part.2.1 67 = .ok (.iload_n 1, 1) := by decide +kernel
theorem d_N_part_68 : decode mN_part.2.1 68 = .ok (.invokevirtual 163, 3) := by decide +kernel
theorem d_N_part_71 : decode mN_part.2.1 71 = .ok (.aload_n 0, 1) := by decide +kernel
theorem d_N_part_72 : decode mN_part.2.1 72 = .ok (.invokevirtual 166, 3) := by decide +kernel
theorem d_N_part_75 : decode mN_part.2.1 75 = .ok (.iand, 1) := by decide +kernel
theorem d_N_part_76 : decode mN_part.2.1 76 = .ok (.ireturn, 1) := by decide +kernel
theorem d_N_part_77 : decode mN_part.2.1 77 = .ok (.iconst (-1), 1) := by decide +kernel
theorem d_N_part_78 : decode mN_part.2.1 78 = .ok (.ireturn, 1) := by decide +kernel
theorem d_N_givenSet_0 : decode mN_givenSet.2.1 0 = .ok (.aload_n 0, 1) := by decide +kernel
theorem d_N_givenSet_1 : decode mN_givenSet.2.1 1 = .ok (.getfield 31, 3) := by decide +kernel
theorem d_N_givenSet_4 : decode mN_givenSet.2.1 4 = .ok (.iconst 1, 1) := by decide +kernel
theorem d_N_givenSet_5 : decode mN_givenSet.2.1 5 = .ok (.invokevirtual 205, 3) := by decide +kernel
theorem d_N_givenSet_8 : decode mN_givenSet.2.1 8 = .ok (.aload_n 0, 1) := by decide +kernel
theorem d_N_givenSet_9 : decode mN_givenSet.2.1 9 = .ok (.getfield 31, 3) := by decide +kernel
theorem d_N_givenSet_12 : decode mN_givenSet.2.1 12 = .ok (.iconst 2, 1) := by decide +kernel
theorem d_N_givenSet_13 : decode mN_givenSet.2.1 13 = .ok (.invokevirtual 205, 3) := by decide +kernel
theorem d_N_givenSet_16 : decode mN_givenSet.2.1 16 = .ok (.ior, 1) := by decide +kernel
theorem d_N_givenSet_17 : decode mN_givenSet.2.1 17 = .ok (.ireturn, 1) := by decide +kernel
theorem d_N_held_0 : decode mN_held.2.1 0 = .ok (.aload_n 0, 1) := by decide +kernel
theorem d_N_held_1 : decode mN_held.2.1 1 = .ok (.iload_n 1, 1) := by decide +kernel
theorem d_N_held_2 : decode mN_held.2.1 2 = .ok (.invokevirtual 170, 3) := by decide +kernel
theorem d_N_held_5 : decode mN_held.2.1 5 = .ok (.ifCond .eq 10, 3) := by decide +kernel
theorem d_N_held_8 : decode mN_held.2.1 8 = .ok (.iload_n 2, 1) := by decide +kernel
theorem d_N_held_9 : decode mN_held.2.1 9 = .ok (.invokestatic 173, 3) := by decide +kernel
theorem d_N_held_12 : decode mN_held.2.1 12 = .ok (.ifCond .ne 5, 3) := by decide +kernel
theorem d_N_held_15 : decode mN_held.2.1 15 = .ok (.iconst (-1), 1) := by decide +kernel
theorem d_N_held_16 : decode mN_held.2.1 16 = .ok (.ireturn, 1) := by decide +kernel
theorem d_N_held_17 : decode mN_held.2.1 17 = .ok (.aload_n 0, 1) := by decide +kernel
theorem d_N_held_18 : decode mN_held.2.1 18 = .ok (.invokevirtual 176, 3) := by decide +kernel
theorem d_N_held_21 : decode mN_held.2.1 21 = .ok (.aload_n 0, 1) := by decide +kernel
theorem d_N_held_22 : decode mN_held.2.1 22 = .ok (.getfield 57, 3) := by decide +kernel
theorem d_N_held_25 : decode mN_held.2.1 25 = .ok (.iload_n 2, 1) := by decide +kernel
theorem d_N_held_26 : decode mN_held.2.1 26 = .ok (.iload_n 1, 1) := by decide +kernel
theorem d_N_held_27 : decode mN_held.2.1 27 = .ok (.invokevirtual 179, 3) := by decide +kernel
theorem d_N_held_30 : decode mN_held.2.1 30 = .ok (.ireturn, 1) := by decide +kernel
theorem d_N_isBeat_0 : decode mN_isBeat.2.1 0 = .ok (.iload_n 1, 1) := by decide +kernel
theorem d_N_isBeat_1 : decode mN_isBeat.2.1 1 = .ok (.ifCond .lt 18, 3) := by decide +kernel
theorem d_N_isBeat_4 : decode mN_isBeat.2.1 4 = .ok (.iload_n 1, 1) := by decide +kernel
theorem d_N_isBeat_5 : decode mN_isBeat.2.1 5 = .ok (.aload_n 0, 1) := by decide +kernel
theorem d_N_isBeat_6 : decode mN_isBeat.2.1 6 = .ok (.getfield 24, 3) := by decide +kernel
theorem d_N_isBeat_9 : decode mN_isBeat.2.1 9 = .ok (.getfield 198, 3) := by decide +kernel
theorem d_N_isBeat_12 : decode mN_isBeat.2.1 12 = .ok (.if_icmp .ge 7, 3) := by decide +kernel
theorem d_N_isBeat_15 : decode mN_isBeat.2.1 15 = .ok (.iconst 1, 1) := by decide +kernel
theorem d_N_isBeat_16 : decode mN_isBeat.2.1 16 = .ok (.goto 4, 3) := by decide +kernel
theorem d_N_isBeat_19 : decode mN_isBeat.2.1 19 = .ok (.iconst 0, 1) := by decide +kernel
theorem d_N_isBeat_20 : decode mN_isBeat.2.1 20 = .ok (.ireturn, 1) := by decide +kernel
theorem d_N_isHand_0 : decode mN_isHand.2.1 0 = .ok (.iload_n 0, 1) := by decide +kernel
theorem d_N_isHand_1 : decode mN_isHand.2.1 1 = .ok (.iconst 1, 1) := by decide +kernel
theorem d_N_isHand_2 : decode mN_isHand.2.1 2 = .ok (.if_icmp .eq 8, 3) := by decide +kernel
theorem d_N_isHand_5 : decode mN_isHand.2.1 5 = .ok (.iload_n 0, 1) := by decide +kernel
theorem d_N_isHand_6 : decode mN_isHand.2.1 6 = .ok (.iconst 2, 1) := by decide +kernel
theorem d_N_isHand_7 : decode mN_isHand.2.1 7 = .ok (.if_icmp .ne 7, 3) := by decide +kernel
theorem d_N_isHand_10 : decode mN_isHand.2.1 10 = .ok (.iconst 1, 1) := by decide +kernel
theorem d_N_isHand_11 : decode mN_isHand.2.1 11 = .ok (.goto 4, 3) := by decide +kernel
theorem d_N_isHand_14 : decode mN_isHand.2.1 14 = .ok (.iconst 0, 1) := by decide +kernel
theorem d_N_isHand_15 : decode mN_isHand.2.1 15 = .ok (.ireturn, 1) := by decide +kernel
theorem d_N_lookAtKeys_0 : decode mN_lookAtKeys.2.1 0 = .ok (.aload_n 0, 1) := by decide +kernel
theorem d_N_lookAtKeys_1 : decode mN_lookAtKeys.2.1 1 = .ok (.getfield 57, 3) := by decide +kernel
theorem d_N_lookAtKeys_4 : decode mN_lookAtKeys.2.1 4 = .ok (.aload_n 0, 1) := by decide +kernel
theorem d_N_lookAtKeys_5 : decode mN_lookAtKeys.2.1 5 = .ok (.getfield 24, 3) := by decide +kernel
theorem d_N_lookAtKeys_8 : decode mN_lookAtKeys.2.1 8 = .ok (.aload_n 0, 1) := by decide +kernel
theorem d_N_lookAtKeys_9 : decode mN_lookAtKeys.2.1 9 = .ok (.getfield 31, 3) := by decide +kernel
theorem d_N_lookAtKeys_12 : decode mN_lookAtKeys.2.1 12 = .ok (.invokevirtual 201, 3) := by decide +kernel
theorem d_N_lookAtKeys_15 : decode mN_lookAtKeys.2.1 15 = .ok (.return_, 1) := by decide +kernel
theorem d_N_sounds_0 : decode mN_sounds.2.1 0 = .ok (.aload_n 0, 1) := by decide +kernel
theorem d_N_sounds_1 : decode mN_sounds.2.1 1 = .ok (.iload_n 1, 1) := by decide +kernel
theorem d_N_sounds_2 : decode mN_sounds.2.1 2 = .ok (.invokevirtual 170, 3) := by decide +kernel
theorem d_N_sounds_5 : decode mN_sounds.2.1 5 = .ok (.ifCond .ne 5, 3) := by decide +kernel
theorem d_N_sounds_8 : decode mN_sounds.2.1 8 = .ok (.iconst (-1), 1) := by decide +kernel
theorem d_N_sounds_9 : decode mN_sounds.2.1 9 = .ok (.ireturn, 1) := by decide +kernel
theorem d_N_sounds_10 : decode mN_sounds.2.1 10 = .ok (.aload_n 0, 1) := by decide +kernel
theorem d_N_sounds_11 : decode mN_sounds.2.1 11 = .ok (.invokevirtual 176, 3) := by decide +kernel
theorem d_N_sounds_14 : decode mN_sounds.2.1 14 = .ok (.aload_n 0, 1) := by decide +kernel
theorem d_N_sounds_15 : decode mN_sounds.2.1 15 = .ok (.getfield 57, 3) := by decide +kernel
theorem d_N_sounds_18 : decode mN_sounds.2.1 18 = .ok (.iload_n 1, 1) := by decide +kernel
theorem d_N_sounds_19 : decode mN_sounds.2.1 19 = .ok (.invokevirtual 185, 3) := by decide +kernel
theorem d_N_sounds_22 : decode mN_sounds.2.1 22 = .ok (.ireturn, 1) := by decide +kernel
theorem d_N_clash_0 : decode mN_clash.2.1 0 = .ok (.aload_n 0, 1) := by decide +kernel
theorem d_N_clash_1 : decode mN_clash.2.1 1 = .ok (.iload_n 1, 1) := by decide +kernel
theorem d_N_clash_2 : decode mN_clash.2.1 2 = .ok (.invokevirtual 170, 3) := by decide +kernel
theorem d_N_clash_5 : decode mN_clash.2.1 5 = .ok (.ifCond .ne 5, 3) := by decide +kernel
theorem d_N_clash_8 : decode mN_clash.2.1 8 = .ok (.iconst (-1), 1) := by decide +kernel
theorem d_N_clash_9 : decode mN_clash.2.1 9 = .ok (.ireturn, 1) := by decide +kernel
theorem d_N_clash_10 : decode mN_clash.2.1 10 = .ok (.aload_n 0, 1) := by decide +kernel
theorem d_N_clash_11 : decode mN_clash.2.1 11 = .ok (.invokevirtual 176, 3) := by decide +kernel
theorem d_N_clash_14 : decode mN_clash.2.1 14 = .ok (.aload_n 0, 1) := by decide +kernel
theorem d_N_clash_15 : decode mN_clash.2.1 15 = .ok (.getfield 57, 3) := by decide +kernel
theorem d_N_clash_18 : decode mN_clash.2.1 18 = .ok (.aload_n 0, 1) := by decide +kernel
theorem d_N_clash_19 : decode mN_clash.2.1 19 = .ok (.getfield 57, 3) := by decide +kernel
theorem d_N_clash_22 : decode mN_clash.2.1 22 = .ok (.getfield 188, 3) := by decide +kernel
theorem d_N_clash_25 : decode mN_clash.2.1 25 = .ok (.aload_n 0, 1) := by decide +kernel
theorem d_N_clash_26 : decode mN_clash.2.1 26 = .ok (.getfield 57, 3) := by decide +kernel
theorem d_N_clash_29 : decode mN_clash.2.1 29 = .ok (.getfield 191, 3) := by decide +kernel
theorem d_N_clash_32 : decode mN_clash.2.1 32 = .ok (.iload_n 1, 1) := by decide +kernel
theorem d_N_clash_33 : decode mN_clash.2.1 33 = .ok (.invokevirtual 194, 3) := by decide +kernel
theorem d_N_clash_36 : decode mN_clash.2.1 36 = .ok (.ireturn, 1) := by decide +kernel
theorem d_N_give_0 : decode mN_give.2.1 0 = .ok (.aload_n 0, 1) := by decide +kernel
theorem d_N_give_1 : decode mN_give.2.1 1 = .ok (.iload_n 1, 1) := by decide +kernel
theorem d_N_give_2 : decode mN_give.2.1 2 = .ok (.invokevirtual 128, 3) := by decide +kernel
theorem d_N_give_5 : decode mN_give.2.1 5 = .ok (.ifCond .eq 25, 3) := by decide +kernel
theorem d_N_give_8 : decode mN_give.2.1 8 = .ok (.iload_n 2, 1) := by decide +kernel
theorem d_N_give_9 : decode mN_give.2.1 9 = .ok (.ifCond .lt 21, 3) := by decide +kernel
theorem d_N_give_12 : decode mN_give.2.1 12 = .ok (.iload_n 2, 1) := by decide +kernel
theorem d_N_give_13 : decode mN_give.2.1 13 = .ok (.iconst 2, 1) := by decide +kernel
theorem d_N_give_14 : decode mN_give.2.1 14 = .ok (.if_icmp .gt 16, 3) := by decide +kernel
theorem d_N_give_17 : decode mN_give.2.1 17 = .ok (.aload_n 0, 1) := by decide +kernel
theorem d_N_give_18 : decode mN_give.2.1 18 = .ok (.getfield 31, 3) := by decide +kernel
theorem d_N_give_21 : decode mN_give.2.1 21 = .ok (.getfield 147, 3) := by decide +kernel
theorem d_N_give_24 : decode mN_give.2.1 24 = .ok (.iload_n 1, 1) := by decide +kernel
theorem d_N_give_25 : decode mN_give.2.1 25 = .ok (.iaload, 1) := by decide +kernel
theorem d_N_give_26 : decode mN_give.2.1 26 = .ok (.iload_n 2, 1) := by decide +kernel
theorem d_N_give_27 : decode mN_give.2.1 27 = .ok (.if_icmp .ne 5, 3) := by decide +kernel
theorem d_N_give_30 : decode mN_give.2.1 30 = .ok (.iconst (-1), 1) := by decide +kernel
theorem d_N_give_31 : decode mN_give.2.1 31 = .ok (.ireturn, 1) := by decide +kernel
theorem d_N_give_32 : decode mN_give.2.1 32 = .ok (.aload_n 0, 1) := by decide +kernel
theorem d_N_give_33 : decode mN_give.2.1 33 = .ok (.getfield 42, 3) := by decide +kernel
theorem d_N_give_36 : decode mN_give.2.1 36 = .ok (.aload_n 0, 1) := by decide +kernel
theorem d_N_give_37 : decode mN_give.2.1 37 = .ok (.getfield 31, 3) := by decide +kernel
theorem d_N_give_40 : decode mN_give.2.1 40 = .ok (.iconst 0, 1) := by decide +kernel
theorem d_N_give_41 : decode mN_give.2.1 41 = .ok (.iload_n 1, 1) := by decide +kernel
theorem d_N_give_42 : decode mN_give.2.1 42 = .ok (.iload_n 2, 1) := by decide +kernel
theorem d_N_give_43 : decode mN_give.2.1 43 = .ok (.invokevirtual 237, 3) := by decide +kernel
theorem d_N_give_46 : decode mN_give.2.1 46 = .ok (.aload_n 0, 1) := by decide +kernel
theorem d_N_give_47 : decode mN_give.2.1 47 = .ok (.invokevirtual 241, 3) := by decide +kernel
theorem d_N_give_50 : decode mN_give.2.1 50 = .ok (.ireturn, 1) := by decide +kernel
theorem d_N_clashes_0 : decode mN_clashes.2.1 0 = .ok (.aload_n 0, 1) := by decide +kernel
theorem d_N_clashes_1 : decode mN_clashes.2.1 1 = .ok (.invokevirtual 176, 3) := by decide +kernel
theorem d_N_clashes_4 : decode mN_clashes.2.1 4 = .ok (.aload_n 0, 1) := by decide +kernel
theorem d_N_clashes_5 : decode mN_clashes.2.1 5 = .ok (.getfield 57, 3) := by decide +kernel
theorem d_N_clashes_8 : decode mN_clashes.2.1 8 = .ok (.aload_n 0, 1) := by decide +kernel
theorem d_N_clashes_9 : decode mN_clashes.2.1 9 = .ok (.getfield 57, 3) := by decide +kernel
theorem d_N_clashes_12 : decode mN_clashes.2.1 12 = .ok (.getfield 188, 3) := by decide +kernel
theorem d_N_clashes_15 : decode mN_clashes.2.1 15 = .ok (.aload_n 0, 1) := by decide +kernel
theorem d_N_clashes_16 : decode mN_clashes.2.1 16 = .ok (.getfield 57, 3) := by decide +kernel
theorem d_N_clashes_19 : decode mN_clashes.2.1 19 = .ok (.getfield 191, 3) := by decide +kernel
theorem d_N_clashes_22 : decode mN_clashes.2.1 22 = .ok (.invokevirtual 257, 3) := by decide +kernel
theorem d_N_clashes_25 : decode mN_clashes.2.1 25 = .ok (.ireturn, 1) := by decide +kernel
theorem d_N_shift_0 : decode mN_shift.2.1 0 = .ok (.aload_n 0, 1) := by decide +kernel
theorem d_N_shift_1 : decode mN_shift.2.1 1 = .ok (.iload_n 1, 1) := by decide +kernel
theorem d_N_shift_2 : decode mN_shift.2.1 2 = .ok (.invokevirtual 128, 3) := by decide +kernel
theorem d_N_shift_5 : decode mN_shift.2.1 5 = .ok (.ifCond .eq 19, 3) := by decide +kernel
theorem d_N_shift_8 : decode mN_shift.2.1 8 = .ok (.iload_n 2, 1) := by decide +kernel
theorem d_N_shift_9 : decode mN_shift.2.1 9 = .ok (.bipush (-7), 2) := by decide +kernel
theorem d_N_shift_11 : decode mN_shift.2.1 11 = .ok (.if_icmp .lt 13, 3) := by decide +kernel
theorem d_N_shift_14 : decode mN_shift.2.1 14 = .ok (.iload_n 2, 1) := by decide +kernel
theorem d_N_shift_15 : decode mN_shift.2.1 15 = .ok (.bipush 7, 2) := by decide +kernel
theorem d_N_shift_17 : decode mN_shift.2.1 17 = .ok (.if_icmp .gt 7, 3) := by decide +kernel
theorem d_N_shift_20 : decode mN_shift.2.1 20 = .ok (.iload_n 2, 1) := by decide +kernel
theorem d_N_shift_21 : decode mN_shift.2.1 21 = .ok (.ifCond .ne 5, 3) := by decide +kernel
theorem d_N_shift_24 : decode mN_shift.2.1 24 = .ok (.iconst (-1), 1) := by decide +kernel
theorem d_N_shift_25 : decode mN_shift.2.1 25 = .ok (.ireturn, 1) := by decide +kernel
theorem d_N_shift_26 : decode mN_shift.2.1 26 = .ok (.aload_n 0, 1) := by decide +kernel
theorem d_N_shift_27 : decode mN_shift.2.1 27 = .ok (.getfield 31, 3) := by decide +kernel
theorem d_N_shift_30 : decode mN_shift.2.1 30 = .ok (.getfield 138, 3) := by decide +kernel
theorem d_N_shift_33 : decode mN_shift.2.1 33 = .ok (.iload_n 1, 1) := by decide +kernel
theorem d_N_shift_34 : decode mN_shift.2.1 34 = .ok (.iaload, 1) := by decide +kernel
theorem d_N_shift_35 : decode mN_shift.2.1 35 = .ok (.iload_n 2, 1) := by decide +kernel
theorem d_N_shift_36 : decode mN_shift.2.1 36 = .ok (.bipush 12, 2) := by decide +kernel
theorem d_N_shift_38 : decode mN_shift.2.1 38 = .ok (.imul, 1) := by decide +kernel
theorem d_N_shift_39 : decode mN_shift.2.1 39 = .ok (.iadd, 1) := by decide +kernel
theorem d_N_shift_40 : decode mN_shift.2.1 40 = .ok (.istore_n 3, 1) := by decide +kernel
theorem d_N_shift_41 : decode mN_shift.2.1 41 = .ok (.iload_n 3, 1) := by decide +kernel
theorem d_N_shift_42 : decode mN_shift.2.1 42 = .ok (.invokestatic 244, 3) := by decide +kernel
theorem d_N_shift_45 : decode mN_shift.2.1 45 = .ok (.ifCond .ne 5, 3) := by decide +kernel
theorem d_N_shift_48 : decode mN_shift.2.1 48 = .ok (.iconst (-1), 1) := by decide +kernel
theorem d_N_shift_49 : decode mN_shift.2.1 49 = .ok (.ireturn, 1) := by decide +kernel
theorem d_N_shift_50 : decode mN_shift.2.1 50 = .ok (.aload_n 0, 1) := by decide +kernel
theorem d_N_shift_51 : decode mN_shift.2.1 51 = .ok (.getfield 42, 3) := by decide +kernel
theorem d_N_shift_54 : decode mN_shift.2.1 54 = .ok (.aload_n 0, 1) := by decide +kernel
theorem d_N_shift_55 : decode mN_shift.2.1 55 = .ok (.getfield 31, 3) := by decide +kernel
theorem d_N_shift_58 : decode mN_shift.2.1 58 = .ok (.iconst 1, 1) := by decide +kernel
theorem d_N_shift_59 : decode mN_shift.2.1 59 = .ok (.iload_n 1, 1) := by decide +kernel
theorem d_N_shift_60 : decode mN_shift.2.1 60 = .ok (.iload_n 3, 1) := by decide +kernel
theorem d_N_shift_61 : decode mN_shift.2.1 61 = .ok (.invokevirtual 237, 3) := by decide +kernel
theorem d_N_shift_64 : decode mN_shift.2.1 64 = .ok (.iload_n 3, 1) := by decide +kernel
theorem d_N_shift_65 : decode mN_shift.2.1 65 = .ok (.ireturn, 1) := by decide +kernel
theorem d_N_isKey_0 : decode mN_isKey.2.1 0 = .ok (.iload_n 0, 1) := by decide +kernel
theorem d_N_isKey_1 : decode mN_isKey.2.1 1 = .ok (.ifCond .lt 13, 3) := by decide +kernel
theorem d_N_isKey_4 : decode mN_isKey.2.1 4 = .ok (.iload_n 0, 1) := by decide +kernel
theorem d_N_isKey_5 : decode mN_isKey.2.1 5 = .ok (.bipush 87, 2) := by decide +kernel
theorem d_N_isKey_7 : decode mN_isKey.2.1 7 = .ok (.if_icmp .gt 7, 3) := by decide +kernel
theorem d_N_isKey_10 : decode mN_isKey.2.1 10 = .ok (.iconst 1, 1) := by decide +kernel
theorem d_N_isKey_11 : decode mN_isKey.2.1 11 = .ok (.goto 4, 3) := by decide +kernel
theorem d_N_isKey_14 : decode mN_isKey.2.1 14 = .ok (.iconst 0, 1) := by decide +kernel
theorem d_N_isKey_15 : decode mN_isKey.2.1 15 = .ok (.ireturn, 1) := by decide +kernel
theorem d_N_louder_0 : decode mN_louder.2.1 0 = .ok (.aload_n 0, 1) := by decide +kernel
theorem d_N_louder_1 : decode mN_louder.2.1 1 = .ok (.iload_n 1, 1) := by decide +kernel
theorem d_N_louder_2 : decode mN_louder.2.1 2 = .ok (.invokevirtual 128, 3) := by decide +kernel
theorem d_N_louder_5 : decode mN_louder.2.1 5 = .ok (.ifCond .eq 27, 3) := by decide +kernel
theorem d_N_louder_8 : decode mN_louder.2.1 8 = .ok (.iload_n 2, 1) := by decide +kernel
theorem d_N_louder_9 : decode mN_louder.2.1 9 = .ok (.iconst 1, 1) := by decide +kernel
theorem d_N_louder_10 : decode mN_louder.2.1 10 = .ok (.if_icmp .lt 22, 3) := by decide +kernel
theorem d_N_louder_13 : decode mN_louder.2.1 13 = .ok (.iload_n 2, 1) := by decide +kernel
theorem d_N_louder_14 : decode mN_louder.2.1 14 = .ok (.bipush 9, 2) := by decide +kernel
theorem d_N_louder_16 : decode mN_louder.2.1 16 = .ok (.if_icmp .gt 16, 3) := by decide +kernel
theorem d_N_louder_19 : decode mN_louder.2.1 19 = .ok (.aload_n 0, 1) := by decide +kernel
theorem d_N_louder_20 : decode mN_louder.2.1 20 = .ok (.getfield 31, 3) := by decide +kernel
theorem d_N_louder_23 : decode mN_louder.2.1 23 = .ok (.getfield 144, 3) := by decide +kernel
theorem d_N_louder_26 : decode mN_louder.2.1 26 = .ok (.iload_n 1, 1) := by decide +kernel
theorem d_N_louder_27 : decode mN_louder.2.1 27 = .ok (.iaload, 1) := by decide +kernel
theorem d_N_louder_28 : decode mN_louder.2.1 28 = .ok (.iload_n 2, 1) := by decide +kernel
theorem d_N_louder_29 : decode mN_louder.2.1 29 = .ok (.if_icmp .ne 5, 3) := by decide +kernel
theorem d_N_louder_32 : decode mN_louder.2.1 32 = .ok (.iconst (-1), 1) := by decide +kernel
theorem d_N_louder_33 : decode mN_louder.2.1 33 = .ok (.ireturn, 1) := by decide +kernel
theorem d_N_louder_34 : decode mN_louder.2.1 34 = .ok (.aload_n 0, 1) := by decide +kernel
theorem d_N_louder_35 : decode mN_louder.2.1 35 = .ok (.getfield 31, 3) := by decide +kernel
theorem d_N_louder_38 : decode mN_louder.2.1 38 = .ok (.getfield 144, 3) := by decide +kernel
theorem d_N_louder_41 : decode mN_louder.2.1 41 = .ok (.iload_n 1, 1) := by decide +kernel
theorem d_N_louder_42 : decode mN_louder.2.1 42 = .ok (.iaload, 1) := by decide +kernel
theorem d_N_louder_43 : decode mN_louder.2.1 43 = .ok (.istore_n 3, 1) := by decide +kernel
theorem d_N_louder_44 : decode mN_louder.2.1 44 = .ok (.aload_n 0, 1) := by decide +kernel
theorem d_N_louder_45 : decode mN_louder.2.1 45 = .ok (.getfield 42, 3) := by decide +kernel
theorem d_N_louder_48 : decode mN_louder.2.1 48 = .ok (.aload_n 0, 1) := by decide +kernel
theorem d_N_louder_49 : decode mN_louder.2.1 49 = .ok (.getfield 31, 3) := by decide +kernel
theorem d_N_louder_52 : decode mN_louder.2.1 52 = .ok (.iconst 3, 1) := by decide +kernel
theorem d_N_louder_53 : decode mN_louder.2.1 53 = .ok (.iload_n 1, 1) := by decide +kernel
theorem d_N_louder_54 : decode mN_louder.2.1 54 = .ok (.iload_n 2, 1) := by decide +kernel
theorem d_N_louder_55 : decode mN_louder.2.1 55 = .ok (.invokevirtual 237, 3) := by decide +kernel
theorem d_N_louder_58 : decode mN_louder.2.1 58 = .ok (.iload_n 3, 1) := by decide +kernel
theorem d_N_louder_59 : decode mN_louder.2.1 59 = .ok (.ireturn, 1) := by decide +kernel
theorem d_N_last_0 : decode mN_last.2.1 0 = .ok (.aload_n 0, 1) := by decide +kernel
theorem d_N_last_1 : decode mN_last.2.1 1 = .ok (.iload_n 1, 1) := by decide +kernel
theorem d_N_last_2 : decode mN_last.2.1 2 = .ok (.invokevirtual 128, 3) := by decide +kernel
theorem d_N_last_5 : decode mN_last.2.1 5 = .ok (.ifCond .eq 27, 3) := by decide +kernel
theorem d_N_last_8 : decode mN_last.2.1 8 = .ok (.iload_n 2, 1) := by decide +kernel
theorem d_N_last_9 : decode mN_last.2.1 9 = .ok (.iconst 1, 1) := by decide +kernel
theorem d_N_last_10 : decode mN_last.2.1 10 = .ok (.if_icmp .lt 22, 3) := by decide +kernel
theorem d_N_last_13 : decode mN_last.2.1 13 = .ok (.iload_n 2, 1) := by decide +kernel
theorem d_N_last_14 : decode mN_last.2.1 14 = .ok (.bipush 12, 2) := by decide +kernel
theorem d_N_last_16 : decode mN_last.2.1 16 = .ok (.if_icmp .gt 16, 3) := by decide +kernel
theorem d_N_last_19 : decode mN_last.2.1 19 = .ok (.aload_n 0, 1) := by decide +kernel
theorem d_N_last_20 : decode mN_last.2.1 20 = .ok (.getfield 31, 3) := by decide +kernel
theorem d_N_last_23 : decode mN_last.2.1 23 = .ok (.getfield 141, 3) := by decide +kernel
theorem d_N_last_26 : decode mN_last.2.1 26 = .ok (.iload_n 1, 1) := by decide +kernel
theorem d_N_last_27 : decode mN_last.2.1 27 = .ok (.iaload, 1) := by decide +kernel
theorem d_N_last_28 : decode mN_last.2.1 28 = .ok (.iload_n 2, 1) := by decide +kernel
theorem d_N_last_29 : decode mN_last.2.1 29 = .ok (.if_icmp .ne 5, 3) := by decide +kernel
theorem d_N_last_32 : decode mN_last.2.1 32 = .ok (.iconst (-1), 1) := by decide +kernel
theorem d_N_last_33 : decode mN_last.2.1 33 = .ok (.ireturn, 1) := by decide +kernel
theorem d_N_last_34 : decode mN_last.2.1 34 = .ok (.aload_n 0, 1) := by decide +kernel
theorem d_N_last_35 : decode mN_last.2.1 35 = .ok (.getfield 31, 3) := by decide +kernel
theorem d_N_last_38 : decode mN_last.2.1 38 = .ok (.getfield 141, 3) := by decide +kernel
theorem d_N_last_41 : decode mN_last.2.1 41 = .ok (.iload_n 1, 1) := by decide +kernel
theorem d_N_last_42 : decode mN_last.2.1 42 = .ok (.iaload, 1) := by decide +kernel
theorem d_N_last_43 : decode mN_last.2.1 43 = .ok (.istore_n 3, 1) := by decide +kernel
theorem d_N_last_44 : decode mN_last.2.1 44 = .ok (.aload_n 0, 1) := by decide +kernel
theorem d_N_last_45 : decode mN_last.2.1 45 = .ok (.getfield 42, 3) := by decide +kernel
theorem d_N_last_48 : decode mN_last.2.1 48 = .ok (.aload_n 0, 1) := by decide +kernel
theorem d_N_last_49 : decode mN_last.2.1 49 = .ok (.getfield 31, 3) := by decide +kernel
theorem d_N_last_52 : decode mN_last.2.1 52 = .ok (.iconst 2, 1) := by decide +kernel
theorem d_N_last_53 : decode mN_last.2.1 53 = .ok (.iload_n 1, 1) := by decide +kernel
theorem d_N_last_54 : decode mN_last.2.1 54 = .ok (.iload_n 2, 1) := by decide +kernel
theorem d_N_last_55 : decode mN_last.2.1 55 = .ok (.invokevirtual 237, 3) := by decide +kernel
theorem d_N_last_58 : decode mN_last.2.1 58 = .ok (.iload_n 3, 1) := by decide +kernel
theorem d_N_last_59 : decode mN_last.2.1 59 = .ok (.ireturn, 1) := by decide +kernel
theorem d_N_pedal_0 : decode mN_pedal.2.1 0 = .ok (.aload_n 0, 1) := by decide +kernel
theorem d_N_pedal_1 : decode mN_pedal.2.1 1 = .ok (.iload_n 1, 1) := by decide +kernel
theorem d_N_pedal_2 : decode mN_pedal.2.1 2 = .ok (.invokevirtual 170, 3) := by decide +kernel
theorem d_N_pedal_5 : decode mN_pedal.2.1 5 = .ok (.ifCond .ne 5, 3) := by decide +kernel
theorem d_N_pedal_8 : decode mN_pedal.2.1 8 = .ok (.iconst (-1), 1) := by decide +kernel
theorem d_N_pedal_9 : decode mN_pedal.2.1 9 = .ok (.ireturn, 1) := by decide +kernel
theorem d_N_pedal_10 : decode mN_pedal.2.1 10 = .ok (.aload_n 0, 1) := by decide +kernel
theorem d_N_pedal_11 : decode mN_pedal.2.1 11 = .ok (.getfield 42, 3) := by decide +kernel
theorem d_N_pedal_14 : decode mN_pedal.2.1 14 = .ok (.aload_n 0, 1) := by decide +kernel
theorem d_N_pedal_15 : decode mN_pedal.2.1 15 = .ok (.getfield 31, 3) := by decide +kernel
theorem d_N_pedal_18 : decode mN_pedal.2.1 18 = .ok (.iconst 4, 1) := by decide +kernel
theorem d_N_pedal_19 : decode mN_pedal.2.1 19 = .ok (.iload_n 1, 1) := by decide +kernel
theorem d_N_pedal_20 : decode mN_pedal.2.1 20 = .ok (.aload_n 0, 1) := by decide +kernel
theorem d_N_pedal_21 : decode mN_pedal.2.1 21 = .ok (.getfield 31, 3) := by decide +kernel
theorem d_N_pedal_24 : decode mN_pedal.2.1 24 = .ok (.getfield 247, 3) := by decide +kernel
theorem d_N_pedal_27 : decode mN_pedal.2.1 27 = .ok (.iconst 1, 1) := by decide +kernel
theorem d_N_pedal_28 : decode mN_pedal.2.1 28 = .ok (.iload_n 1, 1) := by decide +kernel
theorem d_N_pedal_29 : decode mN_pedal.2.1 29 = .ok (.ishl, 1) := by decide +kernel
theorem d_N_pedal_30 : decode mN_pedal.2.1 30 = .ok (.ixor, 1) := by decide +kernel
theorem d_N_pedal_31 : decode mN_pedal.2.1 31 = .ok (.invokevirtual 237, 3) := by decide +kernel
theorem d_N_pedal_34 : decode mN_pedal.2.1 34 = .ok (.aload_n 0, 1) := by decide +kernel
theorem d_N_pedal_35 : decode mN_pedal.2.1 35 = .ok (.getfield 31, 3) := by decide +kernel
theorem d_N_pedal_38 : decode mN_pedal.2.1 38 = .ok (.getfield 247, 3) := by decide +kernel
theorem d_N_pedal_41 : decode mN_pedal.2.1 41 = .ok (.ireturn, 1) := by decide +kernel
theorem d_N_undo_0 : decode mN_undo.2.1 0 = .ok (.aload_n 0, 1) := by decide +kernel
theorem d_N_undo_1 : decode mN_undo.2.1 1 = .ok (.getfield 42, 3) := by decide +kernel
theorem d_N_undo_4 : decode mN_undo.2.1 4 = .ok (.aload_n 0, 1) := by decide +kernel
theorem d_N_undo_5 : decode mN_undo.2.1 5 = .ok (.getfield 31, 3) := by decide +kernel
theorem d_N_undo_8 : decode mN_undo.2.1 8 = .ok (.invokevirtual 250, 3) := by decide +kernel
theorem d_N_undo_11 : decode mN_undo.2.1 11 = .ok (.ireturn, 1) := by decide +kernel
theorem d_N_redo_0 : decode mN_redo.2.1 0 = .ok (.aload_n 0, 1) := by decide +kernel
theorem d_N_redo_1 : decode mN_redo.2.1 1 = .ok (.getfield 42, 3) := by decide +kernel
theorem d_N_redo_4 : decode mN_redo.2.1 4 = .ok (.aload_n 0, 1) := by decide +kernel
theorem d_N_redo_5 : decode mN_redo.2.1 5 = .ok (.getfield 31, 3) := by decide +kernel
theorem d_N_redo_8 : decode mN_redo.2.1 8 = .ok (.invokevirtual 254, 3) := by decide +kernel
theorem d_N_redo_11 : decode mN_redo.2.1 11 = .ok (.ireturn, 1) := by decide +kernel
theorem d_N_loss_0 : decode mN_loss.2.1 0 = .ok (.iconst 0, 1) := by decide +kernel
theorem d_N_loss_1 : decode mN_loss.2.1 1 = .ok (.istore_n 1, 1) := by decide +kernel
theorem d_N_loss_2 : decode mN_loss.2.1 2 = .ok (.iconst 0, 1) := by decide +kernel
theorem d_N_loss_3 : decode mN_loss.2.1 3 = .ok (.istore_n 2, 1) := by decide +kernel
theorem d_N_loss_4 : decode mN_loss.2.1 4 = .ok (.iload_n 2, 1) := by decide +kernel
theorem d_N_loss_5 : decode mN_loss.2.1 5 = .ok (.aload_n 0, 1) := by decide +kernel
theorem d_N_loss_6 : decode mN_loss.2.1 6 = .ok (.getfield 24, 3) := by decide +kernel
theorem d_N_loss_9 : decode mN_loss.2.1 9 = .ok (.getfield 122, 3) := by decide +kernel
theorem d_N_loss_12 : decode mN_loss.2.1 12 = .ok (.if_icmp .ge 29, 3) := by decide +kernel
theorem d_N_loss_15 : decode mN_loss.2.1 15 = .ok (.aload_n 0, 1) := by decide +kernel
theorem d_N_loss_16 : decode mN_loss.2.1 16 = .ok (.getfield 31, 3) := by decide +kernel
theorem d_N_loss_19 : decode mN_loss.2.1 19 = .ok (.getfield 147, 3) := by decide +kernel
theorem d_N_loss_22 : decode mN_loss.2.1 22 = .ok (.iload_n 2, 1) := by decide +kernel
theorem d_N_loss_23 : decode mN_loss.2.1 23 = .ok (.iaload, 1) := by decide +kernel
theorem d_N_loss_24 : decode mN_loss.2.1 24 = .ok (.ifCond .ne 11, 3) := by decide +kernel
theorem d_N_loss_27 : decode mN_loss.2.1 27 = .ok (.iload_n 1, 1) := by decide +kernel
theorem d_N_loss_28 : decode mN_loss.2.1 28 = .ok (.aload_n 0, 1) := by decide +kernel
theorem d_N_loss_29 : decode mN_loss.2.1 29 = .ok (.iload_n 2, 1) := by decide +kernel
theorem d_N_loss_30 : decode mN_loss.2.1 30 = .ok (.invokevirtual 150, 3) := by decide +kernel
theorem d_N_loss_33 : decode mN_loss.2.1 33 = .ok (.iadd, 1) := by decide +kernel
theorem d_N_loss_34 : decode mN_loss.2.1 34 = .ok (.istore_n 1, 1) := by decide +kernel
theorem d_N_loss_35 : decode mN_loss.2.1 35 = .ok (.iinc 2 1, 3) := by decide +kernel
theorem d_N_loss_38 : decode mN_loss.2.1 38 = .ok (.goto (-34), 3) := by decide +kernel
theorem d_N_loss_41 : decode mN_loss.2.1 41 = .ok (.iload_n 1, 1) := by decide +kernel
theorem d_N_loss_42 : decode mN_loss.2.1 42 = .ok (.ireturn, 1) := by decide +kernel
theorem d_N_version_0 : decode mN_version.2.1 0 = .ok (.aload_n 0, 1) := by decide +kernel
theorem d_N_version_1 : decode mN_version.2.1 1 = .ok (.aload_n 0, 1) := by decide +kernel
theorem d_N_version_2 : decode mN_version.2.1 2 = .ok (.getfield 24, 3) := by decide +kernel
theorem d_N_version_5 : decode mN_version.2.1 5 = .ok (.getfield 260, 3) := by decide +kernel
theorem d_N_version_8 : decode mN_version.2.1 8 = .ok (.aload_n 0, 1) := by decide +kernel
theorem d_N_version_9 : decode mN_version.2.1 9 = .ok (.getfield 24, 3) := by decide +kernel
theorem d_N_version_12 : decode mN_version.2.1 12 = .ok (.getfield 263, 3) := by decide +kernel
theorem d_N_version_15 : decode mN_version.2.1 15 = .ok (.invokevirtual 266, 3) := by decide +kernel
theorem d_N_version_18 : decode mN_version.2.1 18 = .ok (.iload_n 1, 1) := by decide +kernel
theorem d_N_version_19 : decode mN_version.2.1 19 = .ok (.lookupswitch 52 #[(0, 25), (1, 33)], 25) := by decide +kernel
theorem d_N_version_44 : decode mN_version.2.1 44 = .ok (.aload_n 0, 1) := by decide +kernel
theorem d_N_version_45 : decode mN_version.2.1 45 = .ok (.getfield 49, 3) := by decide +kernel
theorem d_N_version_48 : decode mN_version.2.1 48 = .ok (.getfield 270, 3) := by decide +kernel
theorem d_N_version_51 : decode mN_version.2.1 51 = .ok (.ireturn, 1) := by decide +kernel
theorem d_N_version_52 : decode mN_version.2.1 52 = .ok (.aload_n 0, 1) := by decide +kernel
theorem d_N_version_53 : decode mN_version.2.1 53 = .ok (.getfield 49, 3) := by decide +kernel
theorem d_N_version_56 : decode mN_version.2.1 56 = .ok (.getfield 273, 3) := by decide +kernel
theorem d_N_version_59 : decode mN_version.2.1 59 = .ok (.aload_n 0, 1) := by decide +kernel
theorem d_N_version_60 : decode mN_version.2.1 60 = .ok (.getfield 49, 3) := by decide +kernel
theorem d_N_version_63 : decode mN_version.2.1 63 = .ok (.getfield 274, 3) := by decide +kernel
theorem d_N_version_66 : decode mN_version.2.1 66 = .ok (.ior, 1) := by decide +kernel
theorem d_N_version_67 : decode mN_version.2.1 67 = .ok (.invokestatic 211, 3) := by decide +kernel
theorem d_N_version_70 : decode mN_version.2.1 70 = .ok (.ireturn, 1) := by decide +kernel
theorem d_N_version_71 : decode mN_version.2.1 71 = .ok (.iconst (-1), 1) := by decide +kernel
theorem d_N_version_72 : decode mN_version.2.1 72 = .ok (.ireturn, 1) := by decide +kernel
theorem d_N_layLeastMissed_0 : decode mN_layLeastMissed.2.1 0 = .ok (.aload_n 0, 1) := by decide +kernel
theorem d_N_layLeastMissed_1 : decode mN_layLeastMissed.2.1 1 = .ok (.invokevirtual 176, 3) := by decide +kernel
theorem d_N_layLeastMissed_4 : decode mN_layLeastMissed.2.1 4 = .ok (.aload_n 0, 1) := by decide +kernel
theorem d_N_layLeastMissed_5 : decode mN_layLeastMissed.2.1 5 = .ok (.invokevirtual 275, 3) := by decide +kernel
theorem d_N_layLeastMissed_8 : decode mN_layLeastMissed.2.1 8 = .ok (.aload_n 0, 1) := by decide +kernel
theorem d_N_layLeastMissed_9 : decode mN_layLeastMissed.2.1 9 = .ok (.getfield 57, 3) := by decide +kernel
theorem d_N_layLeastMissed_12 : decode mN_layLeastMissed.2.1 12 = .ok (.iload_n 1, 1) := by decide +kernel
theorem d_N_layLeastMissed_13 : decode mN_layLeastMissed.2.1 13 = .ok (.putfield 278, 3) := by decide +kernel
theorem d_N_layLeastMissed_16 : decode mN_layLeastMissed.2.1 16 = .ok (.aload_n 0, 1) := by decide +kernel
theorem d_N_layLeastMissed_17 : decode mN_layLeastMissed.2.1 17 = .ok (.getfield 57, 3) := by decide +kernel
theorem d_N_layLeastMissed_20 : decode mN_layLeastMissed.2.1 20 = .ok (.iload_n 2, 1) := by decide +kernel
theorem d_N_layLeastMissed_21 : decode mN_layLeastMissed.2.1 21 = .ok (.putfield 279, 3) := by decide +kernel
theorem d_N_layLeastMissed_24 : decode mN_layLeastMissed.2.1 24 = .ok (.aload_n 0, 1) := by decide +kernel
theorem d_N_layLeastMissed_25 : decode mN_layLeastMissed.2.1 25 = .ok (.getfield 49, 3) := by decide +kernel
theorem d_N_layLeastMissed_28 : decode mN_layLeastMissed.2.1 28 = .ok (.invokevirtual 280, 3) := by decide +kernel
theorem d_N_layLeastMissed_31 : decode mN_layLeastMissed.2.1 31 = .ok (.iconst 0, 1) := by decide +kernel
theorem d_N_layLeastMissed_32 : decode mN_layLeastMissed.2.1 32 = .ok (.istore_n 3, 1) := by decide +kernel
theorem d_N_layLeastMissed_33 : decode mN_layLeastMissed.2.1 33 = .ok (.iload_n 3, 1) := by decide +kernel
theorem d_N_layLeastMissed_34 : decode mN_layLeastMissed.2.1 34 = .ok (.aload_n 0, 1) := by decide +kernel
theorem d_N_layLeastMissed_35 : decode mN_layLeastMissed.2.1 35 = .ok (.getfield 24, 3) := by decide +kernel
theorem d_N_layLeastMissed_38 : decode mN_layLeastMissed.2.1 38 = .ok (.getfield 122, 3) := by decide +kernel
theorem d_N_layLeastMissed_41 : decode mN_layLeastMissed.2.1 41 = .ok (.if_icmp .ge 23, 3) := by decide +kernel
theorem d_N_layLeastMissed_44 : decode mN_layLeastMissed.2.1 44 = .ok (.aload_n 0, 1) := by decide +kernel
theorem d_N_layLeastMissed_45 : decode mN_layLeastMissed.2.1 45 = .ok (.getfield 77, 3) := by decide +kernel
theorem d_N_layLeastMissed_48 : decode mN_layLeastMissed.2.1 48 = .ok (.iload_n 3, 1) := by decide +kernel
theorem d_N_layLeastMissed_49 : decode mN_layLeastMissed.2.1 49 = .ok (.aload_n 0, 1) := by decide +kernel
theorem d_N_layLeastMissed_50 : decode mN_layLeastMissed.2.1 50 = .ok (.getfield 49, 3) := by decide +kernel
theorem d_N_layLeastMissed_53 : decode mN_layLeastMissed.2.1 53 = .ok (.iload_n 3, 1) := by decide +kernel
theorem d_N_layLeastMissed_54 : decode mN_layLeastMissed.2.1 54 = .ok (.invokevirtual 283, 3) := by decide +kernel
theorem d_N_layLeastMissed_57 : decode mN_layLeastMissed.2.1 57 = .ok (.iastore, 1) := by decide +kernel
theorem d_N_layLeastMissed_58 : decode mN_layLeastMissed.2.1 58 = .ok (.iinc 3 1, 3) := by decide +kernel
theorem d_N_layLeastMissed_61 : decode mN_layLeastMissed.2.1 61 = .ok (.goto (-28), 3) := by decide +kernel
theorem d_N_layLeastMissed_64 : decode mN_layLeastMissed.2.1 64 = .ok (.aload_n 0, 1) := by decide +kernel
theorem d_N_layLeastMissed_65 : decode mN_layLeastMissed.2.1 65 = .ok (.aload_n 0, 1) := by decide +kernel
theorem d_N_layLeastMissed_66 : decode mN_layLeastMissed.2.1 66 = .ok (.getfield 24, 3) := by decide +kernel
theorem d_N_layLeastMissed_69 : decode mN_layLeastMissed.2.1 69 = .ok (.getfield 122, 3) := by decide +kernel
theorem d_N_layLeastMissed_72 : decode mN_layLeastMissed.2.1 72 = .ok (.putfield 115, 3) := by decide +kernel
theorem d_N_layLeastMissed_75 : decode mN_layLeastMissed.2.1 75 = .ok (.return_, 1) := by decide +kernel
theorem d_N_weighAll_0 : decode mN_weighAll.2.1 0 = .ok (.iconst 0, 1) := by decide +kernel
theorem d_N_weighAll_1 : decode mN_weighAll.2.1 1 = .ok (.istore_n 1, 1) := by decide +kernel
theorem d_N_weighAll_2 : decode mN_weighAll.2.1 2 = .ok (.iload_n 1, 1) := by decide +kernel
theorem d_N_weighAll_3 : decode mN_weighAll.2.1 3 = .ok (.aload_n 0, 1) := by decide +kernel
theorem d_N_weighAll_4 : decode mN_weighAll.2.1 4 = .ok (.getfield 24, 3) := by decide +kernel
theorem d_N_weighAll_7 : decode mN_weighAll.2.1 7 = .ok (.getfield 122, 3) := by decide +kernel
theorem d_N_weighAll_10 : decode mN_weighAll.2.1 10 = .ok (.if_icmp .ge 20, 3) := by decide +kernel
theorem d_N_weighAll_13 : decode mN_weighAll.2.1 13 = .ok (.aload_n 0, 1) := by decide +kernel
theorem d_N_weighAll_14 : decode mN_weighAll.2.1 14 = .ok (.getfield 62, 3) := by decide +kernel
theorem d_N_weighAll_17 : decode mN_weighAll.2.1 17 = .ok (.iload_n 1, 1) := by decide +kernel
theorem d_N_weighAll_18 : decode mN_weighAll.2.1 18 = .ok (.aload_n 0, 1) := by decide +kernel
theorem d_N_weighAll_19 : decode mN_weighAll.2.1 19 = .ok (.iload_n 1, 1) := by decide +kernel
theorem d_N_weighAll_20 : decode mN_weighAll.2.1 20 = .ok (.invokevirtual 150, 3) := by decide +kernel
theorem d_N_weighAll_23 : decode mN_weighAll.2.1 23 = .ok (.iastore, 1) := by decide +kernel
theorem d_N_weighAll_24 : decode mN_weighAll.2.1 24 = .ok (.iinc 1 1, 3) := by decide +kernel
theorem d_N_weighAll_27 : decode mN_weighAll.2.1 27 = .ok (.goto (-25), 3) := by decide +kernel
theorem d_N_weighAll_30 : decode mN_weighAll.2.1 30 = .ok (.return_, 1) := by decide +kernel
theorem d_N_child_0 : decode mN_child.2.1 0 = .ok (.iload_n 1, 1) := by decide +kernel
theorem d_N_child_1 : decode mN_child.2.1 1 = .ok (.iconst 1, 1) := by decide +kernel
theorem d_N_child_2 : decode mN_child.2.1 2 = .ok (.if_icmp .lt 15, 3) := by decide +kernel
theorem d_N_child_5 : decode mN_child.2.1 5 = .ok (.iload_n 1, 1) := by decide +kernel
theorem d_N_child_6 : decode mN_child.2.1 6 = .ok (.iconst 5, 1) := by decide +kernel
theorem d_N_child_7 : decode mN_child.2.1 7 = .ok (.if_icmp .gt 10, 3) := by decide +kernel
theorem d_N_child_10 : decode mN_child.2.1 10 = .ok (.iload_n 2, 1) := by decide +kernel
theorem d_N_child_11 : decode mN_child.2.1 11 = .ok (.invokestatic 244, 3) := by decide +kernel
theorem d_N_child_14 : decode mN_child.2.1 14 = .ok (.ifCond .ne 10, 3) := by decide +kernel
theorem d_N_child_17 : decode mN_child.2.1 17 = .ok (.aload_n 0, 1) := by decide +kernel
theorem d_N_child_18 : decode mN_child.2.1 18 = .ok (.iconst 0, 1) := by decide +kernel
theorem d_N_child_19 : decode mN_child.2.1 19 = .ok (.putfield 115, 3) := by decide +kernel
theorem d_N_child_22 : decode mN_child.2.1 22 = .ok (.iconst (-1), 1) := by decide +kernel
theorem d_N_child_23 : decode mN_child.2.1 23 = .ok (.ireturn, 1) := by decide +kernel
theorem d_N_child_24 : decode mN_child.2.1 24 = .ok (.aload_n 0, 1) := by decide +kernel
theorem d_N_child_25 : decode mN_child.2.1 25 = .ok (.iload_n 1, 1) := by decide +kernel
theorem d_N_child_26 : decode mN_child.2.1 26 = .ok (.iload_n 2, 1) := by decide +kernel
theorem d_N_child_27 : decode mN_child.2.1 27 = .ok (.invokevirtual 266, 3) := by decide +kernel
theorem d_N_child_30 : decode mN_child.2.1 30 = .ok (.aload_n 0, 1) := by decide +kernel
theorem d_N_child_31 : decode mN_child.2.1 31 = .ok (.getfield 49, 3) := by decide +kernel
theorem d_N_child_34 : decode mN_child.2.1 34 = .ok (.getfield 270, 3) := by decide +kernel
theorem d_N_child_37 : decode mN_child.2.1 37 = .ok (.ireturn, 1) := by decide +kernel
theorem d_N_forbids_0 : decode mN_forbids.2.1 0 = .ok (.aload_n 0, 1) := by decide +kernel
theorem d_N_forbids_1 : decode mN_forbids.2.1 1 = .ok (.iload_n 1, 1) := by decide +kernel
theorem d_N_forbids_2 : decode mN_forbids.2.1 2 = .ok (.invokevirtual 286, 3) := by decide +kernel
theorem d_N_forbids_5 : decode mN_forbids.2.1 5 = .ok (.ifCond .eq 10, 3) := by decide +kernel
theorem d_N_forbids_8 : decode mN_forbids.2.1 8 = .ok (.iload_n 2, 1) := by decide +kernel
theorem d_N_forbids_9 : decode mN_forbids.2.1 9 = .ok (.invokestatic 173, 3) := by decide +kernel
theorem d_N_forbids_12 : decode mN_forbids.2.1 12 = .ok (.ifCond .ne 5, 3) := by decide +kernel
theorem d_N_forbids_15 : decode mN_forbids.2.1 15 = .ok (.iconst (-1), 1) := by decide +kernel
theorem d_N_forbids_16 : decode mN_forbids.2.1 16 = .ok (.ireturn, 1) := by decide +kernel
theorem d_N_forbids_17 : decode mN_forbids.2.1 17 = .ok (.aload_n 0, 1) := by decide +kernel
theorem d_N_forbids_18 : decode mN_forbids.2.1 18 = .ok (.invokevirtual 176, 3) := by decide +kernel
theorem d_N_forbids_21 : decode mN_forbids.2.1 21 = .ok (.aload_n 0, 1) := by decide +kernel
theorem d_N_forbids_22 : decode mN_forbids.2.1 22 = .ok (.getfield 57, 3) := by decide +kernel
theorem d_N_forbids_25 : decode mN_forbids.2.1 25 = .ok (.iload_n 1, 1) := by decide +kernel
theorem d_N_forbids_26 : decode mN_forbids.2.1 26 = .ok (.iload_n 2, 1) := by decide +kernel
theorem d_N_forbids_27 : decode mN_forbids.2.1 27 = .ok (.invokevirtual 289, 3) := by decide +kernel
theorem d_N_forbids_30 : decode mN_forbids.2.1 30 = .ok (.ireturn, 1) := by decide +kernel
theorem d_N_isLeftOut_0 : decode mN_isLeftOut.2.1 0 = .ok (.aload_n 0, 1) := by decide +kernel
theorem d_N_isLeftOut_1 : decode mN_isLeftOut.2.1 1 = .ok (.iload_n 1, 1) := by decide +kernel
theorem d_N_isLeftOut_2 : decode mN_isLeftOut.2.1 2 = .ok (.invokevirtual 128, 3) := by decide +kernel
theorem d_N_isLeftOut_5 : decode mN_isLeftOut.2.1 5 = .ok (.ifCond .eq 19, 3) := by decide +kernel
theorem d_N_isLeftOut_8 : decode mN_isLeftOut.2.1 8 = .ok (.aload_n 0, 1) := by decide +kernel
theorem d_N_isLeftOut_9 : decode mN_isLeftOut.2.1 9 = .ok (.getfield 31, 3) := by decide +kernel
theorem d_N_isLeftOut_12 : decode mN_isLeftOut.2.1 12 = .ok (.getfield 147, 3) := by decide +kernel
theorem d_N_isLeftOut_15 : decode mN_isLeftOut.2.1 15 = .ok (.iload_n 1, 1) := by decide +kernel
theorem d_N_isLeftOut_16 : decode mN_isLeftOut.2.1 16 = .ok (.iaload, 1) := by decide +kernel
theorem d_N_isLeftOut_17 : decode mN_isLeftOut.2.1 17 = .ok (.ifCond .ne 7, 3) := by decide +kernel
theorem d_N_isLeftOut_20 : decode mN_isLeftOut.2.1 20 = .ok (.iconst 1, 1) := by decide +kernel
theorem d_N_isLeftOut_21 : decode mN_isLeftOut.2.1 21 = .ok (.goto 4, 3) := by decide +kernel
theorem d_N_isLeftOut_24 : decode mN_isLeftOut.2.1 24 = .ok (.iconst 0, 1) := by decide +kernel
theorem d_N_isLeftOut_25 : decode mN_isLeftOut.2.1 25 = .ok (.ireturn, 1) := by decide +kernel
theorem d_N_giveway_0 : decode mN_giveway.2.1 0 = .ok (.aload_n 0, 1) := by decide +kernel
theorem d_N_giveway_1 : decode mN_giveway.2.1 1 = .ok (.iload_n 1, 1) := by decide +kernel
theorem d_N_giveway_2 : decode mN_giveway.2.1 2 = .ok (.invokevirtual 286, 3) := by decide +kernel
theorem d_N_giveway_5 : decode mN_giveway.2.1 5 = .ok (.ifCond .eq 19, 3) := by decide +kernel
theorem d_N_giveway_8 : decode mN_giveway.2.1 8 = .ok (.iload_n 2, 1) := by decide +kernel
theorem d_N_giveway_9 : decode mN_giveway.2.1 9 = .ok (.invokestatic 173, 3) := by decide +kernel
theorem d_N_giveway_12 : decode mN_giveway.2.1 12 = .ok (.ifCond .eq 12, 3) := by decide +kernel
theorem d_N_giveway_15 : decode mN_giveway.2.1 15 = .ok (.iload_n 3, 1) := by decide +kernel
theorem d_N_giveway_16 : decode mN_giveway.2.1 16 = .ok (.ifCond .lt 8, 3) := by decide +kernel
theorem d_N_giveway_19 : decode mN_giveway.2.1 19 = .ok (.iload_n 3, 1) := by decide +kernel
theorem d_N_giveway_20 : decode mN_giveway.2.1 20 = .ok (.iconst 1, 1) := by decide +kernel
theorem d_N_giveway_21 : decode mN_giveway.2.1 21 = .ok (.if_icmp .le 5, 3) := by decide +kernel
theorem d_N_giveway_24 : decode mN_giveway.2.1 24 = .ok (.iconst (-1), 1) := by decide +kernel
theorem d_N_giveway_25 : decode mN_giveway.2.1 25 = .ok (.ireturn, 1) := by decide +kernel
theorem d_N_giveway_26 : decode mN_giveway.2.1 26 = .ok (.aload_n 0, 1) := by decide +kernel
theorem d_N_giveway_27 : decode mN_giveway.2.1 27 = .ok (.invokevirtual 176, 3) := by decide +kernel
theorem d_N_giveway_30 : decode mN_giveway.2.1 30 = .ok (.aload_n 0, 1) := by decide +kernel
theorem d_N_giveway_31 : decode mN_giveway.2.1 31 = .ok (.invokevirtual 275, 3) := by decide +kernel
theorem d_N_giveway_34 : decode mN_giveway.2.1 34 = .ok (.aload_n 0, 1) := by decide +kernel
theorem d_N_giveway_35 : decode mN_giveway.2.1 35 = .ok (.getfield 49, 3) := by decide +kernel
theorem d_N_giveway_38 : decode mN_giveway.2.1 38 = .ok (.iload_n 1, 1) := by decide +kernel
theorem d_N_giveway_39 : decode mN_giveway.2.1 39 = .ok (.iload_n 2, 1) := by decide +kernel
theorem d_N_giveway_40 : decode mN_giveway.2.1 40 = .ok (.invokevirtual 292, 3) := by decide +kernel
theorem d_N_giveway_43 : decode mN_giveway.2.1 43 = .ok (.istore 4, 2) := by decide +kernel
theorem d_N_giveway_45 : decode mN_giveway.2.1 45 = .ok (.iload_n 3, 1) := by decide +kernel
theorem d_N_giveway_46 : decode mN_giveway.2.1 46 = .ok (.ifCond .ne 17, 3) := by decide +kernel
theorem d_N_giveway_49 : decode mN_giveway.2.1 49 = .ok (.iload 4, 2) := by decide +kernel
theorem d_N_giveway_51 : decode mN_giveway.2.1 51 = .ok (.iconst (-1), 1) := by decide +kernel
theorem d_N_giveway_52 : decode mN_giveway.2.1 52 = .ok (.if_icmp .eq 11, 3) := by decide +kernel
theorem d_N_giveway_55 : decode mN_giveway.2.1 55 = .ok (.iload 4, 2) := by decide +kernel
theorem d_N_giveway_57 : decode mN_giveway.2.1 57 = .ok (.invokestatic 211, 3) := by decide +kernel
theorem d_N_giveway_60 : decode mN_giveway.2.1 60 = .ok (.goto 5, 3) := by decide +kernel
theorem d_N_giveway_63 : decode mN_giveway.2.1 63 = .ok (.iload 4, 2) := by decide +kernel
theorem d_N_giveway_65 : decode mN_giveway.2.1 65 = .ok (.ireturn, 1) := by decide +kernel
theorem d_N_letin_0 : decode mN_letin.2.1 0 = .ok (.aload_n 0, 1) := by decide +kernel
theorem d_N_letin_1 : decode mN_letin.2.1 1 = .ok (.iload_n 1, 1) := by decide +kernel
theorem d_N_letin_2 : decode mN_letin.2.1 2 = .ok (.invokevirtual 286, 3) := by decide +kernel
theorem d_N_letin_5 : decode mN_letin.2.1 5 = .ok (.ifCond .eq 12, 3) := by decide +kernel
theorem d_N_letin_8 : decode mN_letin.2.1 8 = .ok (.iload_n 2, 1) := by decide +kernel
theorem d_N_letin_9 : decode mN_letin.2.1 9 = .ok (.ifCond .lt 8, 3) := by decide +kernel
theorem d_N_letin_12 : decode mN_letin.2.1 12 = .ok (.iload_n 2, 1) := by decide +kernel
theorem d_N_letin_13 : decode mN_letin.2.1 13 = .ok (.iconst 1, 1) := by decide +kernel
theorem d_N_letin_14 : decode mN_letin.2.1 14 = .ok (.if_icmp .le 6, 3) := by decide +kernel
theorem d_N_letin_17 : decode mN_letin.2.1 17 = .ok (.bipush (-100), 2) := by decide +kernel
theorem d_N_letin_19 : decode mN_letin.2.1 19 = .ok (.ireturn, 1) := by decide +kernel
theorem d_N_letin_20 : decode mN_letin.2.1 20 = .ok (.aload_n 0, 1) := by decide +kernel
theorem d_N_letin_21 : decode mN_letin.2.1 21 = .ok (.invokevirtual 176, 3) := by decide +kernel
theorem d_N_letin_24 : decode mN_letin.2.1 24 = .ok (.iconst 0, 1) := by decide +kernel
theorem d_N_letin_25 : decode mN_letin.2.1 25 = .ok (.istore_n 3, 1) := by decide +kernel
theorem d_N_letin_26 : decode mN_letin.2.1 26 = .ok (.iload_n 3, 1) := by decide +kernel
theorem d_N_letin_27 : decode mN_letin.2.1 27 = .ok (.bipush 7, 2) := by decide +kernel
theorem d_N_letin_29 : decode mN_letin.2.1 29 = .ok (.if_icmp .gt 65, 3) := by decide +kernel
theorem d_N_letin_32 : decode mN_letin.2.1 32 = .ok (.aload_n 0, 1) := by decide +kernel
theorem d_N_letin_33 : decode mN_letin.2.1 33 = .ok (.getfield 57, 3) := by decide +kernel
theorem d_N_letin_36 : decode mN_letin.2.1 36 = .ok (.iload_n 1, 1) := by decide +kernel
theorem d_N_letin_37 : decode mN_letin.2.1 37 = .ok (.iload_n 3, 1) := by decide +kernel
theorem d_N_letin_38 : decode mN_letin.2.1 38 = .ok (.invokevirtual 295, 3) := by decide +kernel
theorem d_N_letin_41 : decode mN_letin.2.1 41 = .ok (.istore 4, 2) := by decide +kernel
theorem d_N_letin_43 : decode mN_letin.2.1 43 = .ok (.iload 4, 2) := by decide +kernel
theorem d_N_letin_45 : decode mN_letin.2.1 45 = .ok (.ifCond .eq 14, 3) := by decide +kernel
theorem d_N_letin_48 : decode mN_letin.2.1 48 = .ok (.iload_n 2, 1) := by decide +kernel
theorem d_N_letin_49 : decode mN_letin.2.1 49 = .ok (.ifCond .ne 7, 3) := by decide +kernel
theorem d_N_letin_52 : decode mN_letin.2.1 52 = .ok (.iload_n 3, 1) := by decide +kernel
theorem d_N_letin_53 : decode mN_letin.2.1 53 = .ok (.goto 5, 3) := by decide +kernel
theorem d_N_letin_56 : decode mN_letin.2.1 56 = .ok (.iload 4, 2) := by decide +kernel
theorem d_N_letin_58 : decode mN_letin.2.1 58 = .ok (.ireturn, 1) := by decide +kernel
theorem d_N_letin_59 : decode mN_letin.2.1 59 = .ok (.aload_n 0, 1) := by decide +kernel
theorem d_N_letin_60 : decode mN_letin.2.1 60 = .ok (.getfield 57, 3) := by decide +kernel
theorem d_N_letin_63 : decode mN_letin.2.1 63 = .ok (.iload_n 1, 1) := by decide +kernel
theorem d_N_letin_64 : decode mN_letin.2.1 64 = .ok (.iload_n 3, 1) := by decide +kernel
theorem d_N_letin_65 : decode mN_letin.2.1 65 = .ok (.ineg, 1) := by decide +kernel
theorem d_N_letin_66 : decode mN_letin.2.1 66 = .ok (.invokevirtual 295, 3) := by decide +kernel
theorem d_N_letin_69 : decode mN_letin.2.1 69 = .ok (.istore 5, 2) := by decide +kernel
theorem d_N_letin_71 : decode mN_letin.2.1 71 = .ok (.iload 5, 2) := by decide +kernel
theorem d_N_letin_73 : decode mN_letin.2.1 73 = .ok (.ifCond .eq 15, 3) := by decide +kernel
theorem d_N_letin_76 : decode mN_letin.2.1 76 = .ok (.iload_n 2, 1) := by decide +kernel
theorem d_N_letin_77 : decode mN_letin.2.1 77 = .ok (.ifCond .ne 8, 3) := by decide +kernel
theorem d_N_letin_80 : decode mN_letin.2.1 80 = .ok (.iload_n 3, 1) := by decide +kernel
theorem d_N_letin_81 : decode mN_letin.2.1 81 = .ok (.ineg, 1) := by decide +kernel
theorem d_N_letin_82 : decode mN_letin.2.1 82 = .ok (.goto 5, 3) := by decide +kernel
theorem d_N_letin_85 : decode mN_letin.2.1 85 = .ok (.iload 5, 2) := by decide +kernel
theorem d_N_letin_87 : decode mN_letin.2.1 87 = .ok (.ireturn, 1) := by decide +kernel
theorem d_N_letin_88 : decode mN_letin.2.1 88 = .ok (.iinc 3 1, 3) := by decide +kernel
theorem d_N_letin_91 : decode mN_letin.2.1 91 = .ok (.goto (-65), 3) := by decide +kernel
theorem d_N_letin_94 : decode mN_letin.2.1 94 = .ok (.bipush (-100), 2) := by decide +kernel
theorem d_N_letin_96 : decode mN_letin.2.1 96 = .ok (.ireturn, 1) := by decide +kernel
theorem d_N_pedals_0 : decode mN_pedals.2.1 0 = .ok (.iload_n 1, 1) := by decide +kernel
theorem d_N_pedals_1 : decode mN_pedals.2.1 1 = .ok (.ifCond .lt 8, 3) := by decide +kernel
theorem d_N_pedals_4 : decode mN_pedals.2.1 4 = .ok (.iload_n 1, 1) := by decide +kernel
theorem d_N_pedals_5 : decode mN_pedals.2.1 5 = .ok (.iconst 1, 1) := by decide +kernel
theorem d_N_pedals_6 : decode mN_pedals.2.1 6 = .ok (.if_icmp .le 5, 3) := by decide +kernel
theorem d_N_pedals_9 : decode mN_pedals.2.1 9 = .ok (.iconst (-1), 1) := by decide +kernel
theorem d_N_pedals_10 : decode mN_pedals.2.1 10 = .ok (.ireturn, 1) := by decide +kernel
theorem d_N_pedals_11 : decode mN_pedals.2.1 11 = .ok (.aload_n 0, 1) := by decide +kernel
theorem d_N_pedals_12 : decode mN_pedals.2.1 12 = .ok (.invokevirtual 176, 3) := by decide +kernel
theorem d_N_pedals_15 : decode mN_pedals.2.1 15 = .ok (.aload_n 0, 1) := by decide +kernel
theorem d_N_pedals_16 : decode mN_pedals.2.1 16 = .ok (.getfield 66, 3) := by decide +kernel
theorem d_N_pedals_19 : decode mN_pedals.2.1 19 = .ok (.aload_n 0, 1) := by decide +kernel
theorem d_N_pedals_20 : decode mN_pedals.2.1 20 = .ok (.getfield 57, 3) := by decide +kernel
theorem d_N_pedals_23 : decode mN_pedals.2.1 23 = .ok (.invokevirtual 298, 3) := by decide +kernel
theorem d_N_pedals_26 : decode mN_pedals.2.1 26 = .ok (.istore_n 2, 1) := by decide +kernel
theorem d_N_pedals_27 : decode mN_pedals.2.1 27 = .ok (.iload_n 1, 1) := by decide +kernel
theorem d_N_pedals_28 : decode mN_pedals.2.1 28 = .ok (.ifCond .ne 15, 3) := by decide +kernel
theorem d_N_pedals_31 : decode mN_pedals.2.1 31 = .ok (.iload_n 2, 1) := by decide +kernel
theorem d_N_pedals_32 : decode mN_pedals.2.1 32 = .ok (.iconst (-1), 1) := by decide +kernel
theorem d_N_pedals_33 : decode mN_pedals.2.1 33 = .ok (.if_icmp .eq 10, 3) := by decide +kernel
theorem d_N_pedals_36 : decode mN_pedals.2.1 36 = .ok (.iload_n 2, 1) := by decide +kernel
theorem d_N_pedals_37 : decode mN_pedals.2.1 37 = .ok (.invokestatic 211, 3) := by decide +kernel
theorem d_N_pedals_40 : decode mN_pedals.2.1 40 = .ok (.goto 4, 3) := by decide +kernel
theorem d_N_pedals_43 : decode mN_pedals.2.1 43 = .ok (.iload_n 2, 1) := by decide +kernel
theorem d_N_pedals_44 : decode mN_pedals.2.1 44 = .ok (.ireturn, 1) := by decide +kernel
theorem d_N_spread_0 : decode mN_spread.2.1 0 = .ok (.iload_n 1, 1) := by decide +kernel
theorem d_N_spread_1 : decode mN_spread.2.1 1 = .ok (.invokestatic 173, 3) := by decide +kernel
theorem d_N_spread_4 : decode mN_spread.2.1 4 = .ok (.ifCond .ne 5, 3) := by decide +kernel
theorem d_N_spread_7 : decode mN_spread.2.1 7 = .ok (.iconst (-1), 1) := by decide +kernel
theorem d_N_spread_8 : decode mN_spread.2.1 8 = .ok (.ireturn, 1) := by decide +kernel
theorem d_N_spread_9 : decode mN_spread.2.1 9 = .ok (.aload_n 0, 1) := by decide +kernel
theorem d_N_spread_10 : decode mN_spread.2.1 10 = .ok (.invokevirtual 176, 3) := by decide +kernel
theorem d_N_spread_13 : decode mN_spread.2.1 13 = .ok (.iconst 0, 1) := by decide +kernel
theorem d_N_spread_14 : decode mN_spread.2.1 14 = .ok (.istore_n 2, 1) := by decide +kernel
theorem d_N_spread_15 : decode mN_spread.2.1 15 = .ok (.iconst 0, 1) := by decide +kernel
theorem d_N_spread_16 : decode mN_spread.2.1 16 = .ok (.istore_n 3, 1) := by decide +kernel
theorem d_N_spread_17 : decode mN_spread.2.1 17 = .ok (.iload_n 3, 1) := by decide +kernel
theorem d_N_spread_18 : decode mN_spread.2.1 18 = .ok (.aload_n 0, 1) := by decide +kernel
theorem d_N_spread_19 : decode mN_spread.2.1 19 = .ok (.getfield 24, 3) := by decide +kernel
theorem d_N_spread_22 : decode mN_spread.2.1 22 = .ok (.getfield 198, 3) := by decide +kernel
theorem d_N_spread_25 : decode mN_spread.2.1 25 = .ok (.if_icmp .ge 30, 3) := by decide +kernel
theorem d_N_spread_28 : decode mN_spread.2.1 28 = .ok (.iload_n 2, 1) := by decide +kernel
theorem d_N_spread_29 : decode mN_spread.2.1 29 = .ok (.aload_n 0, 1) := by decide +kernel
theorem d_N_spread_30 : decode mN_spread.2.1 30 = .ok (.getfield 57, 3) := by decide +kernel
theorem d_N_spread_33 : decode mN_spread.2.1 33 = .ok (.aload_n 0, 1) := by decide +kernel
theorem d_N_spread_34 : decode mN_spread.2.1 34 = .ok (.getfield 57, 3) := by decide +kernel
theorem d_N_spread_37 : decode mN_spread.2.1 37 = .ok (.iload_n 1, 1) := by decide +kernel
theorem d_N_spread_38 : decode mN_spread.2.1 38 = .ok (.iload_n 3, 1) := by decide +kernel
theorem d_N_spread_39 : decode mN_spread.2.1 39 = .ok (.invokevirtual 179, 3) := by decide +kernel
theorem d_N_spread_42 : decode mN_spread.2.1 42 = .ok (.invokevirtual 302, 3) := by decide +kernel
theorem d_N_spread_45 : decode mN_spread.2.1 45 = .ok (.invokestatic 234, 3) := by decide +kernel
theorem d_N_spread_48 : decode mN_spread.2.1 48 = .ok (.istore_n 2, 1) := by decide +kernel
theorem d_N_spread_49 : decode mN_spread.2.1 49 = .ok (.iinc 3 1, 3) := by decide +kernel
theorem d_N_spread_52 : decode mN_spread.2.1 52 = .ok (.goto (-35), 3) := by decide +kernel
theorem d_N_spread_55 : decode mN_spread.2.1 55 = .ok (.iload_n 2, 1) := by decide +kernel
theorem d_N_spread_56 : decode mN_spread.2.1 56 = .ok (.ireturn, 1) := by decide +kernel
theorem d_N_leaps_0 : decode mN_leaps.2.1 0 = .ok (.iload_n 1, 1) := by decide +kernel
theorem d_N_leaps_1 : decode mN_leaps.2.1 1 = .ok (.invokestatic 173, 3) := by decide +kernel
theorem d_N_leaps_4 : decode mN_leaps.2.1 4 = .ok (.ifCond .ne 5, 3) := by decide +kernel
theorem d_N_leaps_7 : decode mN_leaps.2.1 7 = .ok (.iconst (-1), 1) := by decide +kernel
theorem d_N_leaps_8 : decode mN_leaps.2.1 8 = .ok (.ireturn, 1) := by decide +kernel
theorem d_N_leaps_9 : decode mN_leaps.2.1 9 = .ok (.aload_n 0, 1) := by decide +kernel
theorem d_N_leaps_10 : decode mN_leaps.2.1 10 = .ok (.invokevirtual 176, 3) := by decide +kernel
theorem d_N_leaps_13 : decode mN_leaps.2.1 13 = .ok (.iconst 0, 1) := by decide +kernel
theorem d_N_leaps_14 : decode mN_leaps.2.1 14 = .ok (.istore_n 2, 1) := by decide +kernel
theorem d_N_leaps_15 : decode mN_leaps.2.1 15 = .ok (.iconst 1, 1) := by decide +kernel
theorem d_N_leaps_16 : decode mN_leaps.2.1 16 = .ok (.istore_n 3, 1) := by decide +kernel
theorem d_N_leaps_17 : decode mN_leaps.2.1 17 = .ok (.iload_n 3, 1) := by decide +kernel
theorem d_N_leaps_18 : decode mN_leaps.2.1 18 = .ok (.aload_n 0, 1) := by decide +kernel
theorem d_N_leaps_19 : decode mN_leaps.2.1 19 = .ok (.getfield 24, 3) := by decide +kernel
theorem d_N_leaps_22 : decode mN_leaps.2.1 22 = .ok (.getfield 198, 3) := by decide +kernel
theorem d_N_leaps_25 : decode mN_leaps.2.1 25 = .ok (.if_icmp .ge 45, 3) := by decide +kernel
theorem d_N_leaps_28 : decode mN_leaps.2.1 28 = .ok (.aload_n 0, 1) := by decide +kernel
theorem d_N_leaps_29 : decode mN_leaps.2.1 29 = .ok (.getfield 57, 3) := by decide +kernel
theorem d_N_leaps_32 : decode mN_leaps.2.1 32 = .ok (.iload_n 1, 1) := by decide +kernel
theorem d_N_leaps_33 : decode mN_leaps.2.1 33 = .ok (.iload_n 3, 1) := by decide +kernel
theorem d_N_leaps_34 : decode mN_leaps.2.1 34 = .ok (.iconst 1, 1) := by decide +kernel
theorem d_N_leaps_35 : decode mN_leaps.2.1 35 = .ok (.isub, 1) := by decide +kernel
theorem d_N_leaps_36 : decode mN_leaps.2.1 36 = .ok (.invokevirtual 179, 3) := by decide +kernel
theorem d_N_leaps_39 : decode mN_leaps.2.1 39 = .ok (.istore 4, 2) := by decide +kernel
theorem d_N_leaps_41 : decode mN_leaps.2.1 41 = .ok (.iload_n 2, 1) := by decide +kernel
theorem d_N_leaps_42 : decode mN_leaps.2.1 42 = .ok (.aload_n 0, 1) := by decide +kernel
theorem d_N_leaps_43 : decode mN_leaps.2.1 43 = .ok (.getfield 57, 3) := by decide +kernel
theorem d_N_leaps_46 : decode mN_leaps.2.1 46 = .ok (.iload 4, 2) := by decide +kernel
theorem d_N_leaps_48 : decode mN_leaps.2.1 48 = .ok (.aload_n 0, 1) := by decide +kernel
theorem d_N_leaps_49 : decode mN_leaps.2.1 49 = .ok (.getfield 57, 3) := by decide +kernel
theorem d_N_leaps_52 : decode mN_leaps.2.1 52 = .ok (.iload_n 1, 1) := by decide +kernel
theorem d_N_leaps_53 : decode mN_leaps.2.1 53 = .ok (.iload_n 3, 1) := by decide +kernel
theorem d_N_leaps_54 : decode mN_leaps.2.1 54 = .ok (.invokevirtual 179, 3) := by decide +kernel
theorem d_N_leaps_57 : decode mN_leaps.2.1 57 = .ok (.invokevirtual 305, 3) := by decide +kernel
theorem d_N_leaps_60 : decode mN_leaps.2.1 60 = .ok (.invokestatic 234, 3) := by decide +kernel
theorem d_N_leaps_63 : decode mN_leaps.2.1 63 = .ok (.istore_n 2, 1) := by decide +kernel
theorem d_N_leaps_64 : decode mN_leaps.2.1 64 = .ok (.iinc 3 1, 3) := by decide +kernel
theorem d_N_leaps_67 : decode mN_leaps.2.1 67 = .ok (.goto (-50), 3) := by decide +kernel
theorem d_N_leaps_70 : decode mN_leaps.2.1 70 = .ok (.iload_n 2, 1) := by decide +kernel
theorem d_N_leaps_71 : decode mN_leaps.2.1 71 = .ok (.ireturn, 1) := by decide +kernel
theorem d_N_blur_0 : decode mN_blur.2.1 0 = .ok (.aload_n 0, 1) := by decide +kernel
theorem d_N_blur_1 : decode mN_blur.2.1 1 = .ok (.invokevirtual 176, 3) := by decide +kernel
theorem d_N_blur_4 : decode mN_blur.2.1 4 = .ok (.iconst 0, 1) := by decide +kernel
theorem d_N_blur_5 : decode mN_blur.2.1 5 = .ok (.istore_n 1, 1) := by decide +kernel
theorem d_N_blur_6 : decode mN_blur.2.1 6 = .ok (.iconst 0, 1) := by decide +kernel
theorem d_N_blur_7 : decode mN_blur.2.1 7 = .ok (.istore_n 2, 1) := by decide +kernel
theorem d_N_blur_8 : decode mN_blur.2.1 8 = .ok (.iload_n 2, 1) := by decide +kernel
theorem d_N_blur_9 : decode mN_blur.2.1 9 = .ok (.aload_n 0, 1) := by decide +kernel
theorem d_N_blur_10 : decode mN_blur.2.1 10 = .ok (.getfield 24, 3) := by decide +kernel
theorem d_N_blur_13 : decode mN_blur.2.1 13 = .ok (.getfield 198, 3) := by decide +kernel
theorem d_N_blur_16 : decode mN_blur.2.1 16 = .ok (.if_icmp .ge 20, 3) := by decide +kernel
theorem d_N_blur_19 : decode mN_blur.2.1 19 = .ok (.iload_n 1, 1) := by decide +kernel
theorem d_N_blur_20 : decode mN_blur.2.1 20 = .ok (.aload_n 0, 1) := by decide +kernel
theorem d_N_blur_21 : decode mN_blur.2.1 21 = .ok (.getfield 57, 3) := by decide +kernel
theorem d_N_blur_24 : decode mN_blur.2.1 24 = .ok (.iload_n 2, 1) := by decide +kernel
theorem d_N_blur_25 : decode mN_blur.2.1 25 = .ok (.invokevirtual 308, 3) := by decide +kernel
theorem d_N_blur_28 : decode mN_blur.2.1 28 = .ok (.iadd, 1) := by decide +kernel
theorem d_N_blur_29 : decode mN_blur.2.1 29 = .ok (.istore_n 1, 1) := by decide +kernel
theorem d_N_blur_30 : decode mN_blur.2.1 30 = .ok (.iinc 2 1, 3) := by decide +kernel
theorem d_N_blur_33 : decode mN_blur.2.1 33 = .ok (.goto (-25), 3) := by decide +kernel
theorem d_N_blur_36 : decode mN_blur.2.1 36 = .ok (.iload_n 1, 1) := by decide +kernel
theorem d_N_blur_37 : decode mN_blur.2.1 37 = .ok (.ireturn, 1) := by decide +kernel
theorem d_N_open_0 : decode mN_open.2.1 0 = .ok (.aload_n 0, 1) := by decide +kernel
theorem d_N_open_1 : decode mN_open.2.1 1 = .ok (.iload_n 1, 1) := by decide +kernel
theorem d_N_open_2 : decode mN_open.2.1 2 = .ok (.invokevirtual 170, 3) := by decide +kernel
theorem d_N_open_5 : decode mN_open.2.1 5 = .ok (.ifCond .ne 5, 3) := by decide +kernel
theorem d_N_open_8 : decode mN_open.2.1 8 = .ok (.iconst (-1), 1) := by decide +kernel
theorem d_N_open_9 : decode mN_open.2.1 9 = .ok (.ireturn, 1) := by decide +kernel
theorem d_N_open_10 : decode mN_open.2.1 10 = .ok (.aload_n 0, 1) := by decide +kernel
theorem d_N_open_11 : decode mN_open.2.1 11 = .ok (.invokevirtual 176, 3) := by decide +kernel
theorem d_N_open_14 : decode mN_open.2.1 14 = .ok (.aload_n 0, 1) := by decide +kernel
theorem d_N_open_15 : decode mN_open.2.1 15 = .ok (.iload_n 1, 1) := by decide +kernel
theorem d_N_open_16 : decode mN_open.2.1 16 = .ok (.invokevirtual 311, 3) := by decide +kernel
theorem d_N_open_19 : decode mN_open.2.1 19 = .ok (.ireturn, 1) := by decide +kernel
theorem d_N_openAt_0 : decode mN_openAt.2.1 0 = .ok (.aload_n 0, 1) := by decide +kernel
theorem d_N_openAt_1 : decode mN_openAt.2.1 1 = .ok (.getfield 57, 3) := by decide +kernel
theorem d_N_openAt_4 : decode mN_openAt.2.1 4 = .ok (.iload_n 1, 1) := by decide +kernel
theorem d_N_openAt_5 : decode mN_openAt.2.1 5 = .ok (.invokevirtual 185, 3) := by decide +kernel
theorem d_N_openAt_8 : decode mN_openAt.2.1 8 = .ok (.istore_n 2, 1) := by decide +kernel
theorem d_N_openAt_9 : decode mN_openAt.2.1 9 = .ok (.iconst 0, 1) := by decide +kernel
theorem d_N_openAt_10 : decode mN_openAt.2.1 10 = .ok (.istore_n 3, 1) := by decide +kernel
theorem d_N_openAt_11 : decode mN_openAt.2.1 11 = .ok (.iconst 0, 1) := by decide +kernel
theorem d_N_openAt_12 : decode mN_openAt.2.1 12 = .ok (.istore 4, 2) := by decide +kernel
theorem d_N_openAt_14 : decode mN_openAt.2.1 14 = .ok (.iload 4, 2) := by decide +kernel
theorem d_N_openAt_16 : decode mN_openAt.2.1 16 = .ok (.aload_n 0, 1) := by decide +kernel
theorem d_N_openAt_17 : decode mN_openAt.2.1 17 = .ok (.getfield 24, 3) := by decide +kernel
theorem d_N_openAt_20 : decode mN_openAt.2.1 20 = .ok (.getfield 122, 3) := by decide +kernel
theorem d_N_openAt_23 : decode mN_openAt.2.1 23 = .ok (.if_icmp .ge 33, 3) := by decide +kernel
theorem d_N_openAt_26 : decode mN_openAt.2.1 26 = .ok (.iload_n 2, 1) := by decide +kernel
theorem d_N_openAt_27 : decode mN_openAt.2.1 27 = .ok (.iload 4, 2) := by decide +kernel
theorem d_N_openAt_29 : decode mN_openAt.2.1 29 = .ok (.ishr, 1) := by decide +kernel
theorem d_N_openAt_30 : decode mN_openAt.2.1 30 = .ok (.iconst 1, 1) := by decide +kernel
theorem d_N_openAt_31 : decode mN_openAt.2.1 31 = .ok (.iand, 1) := by decide +kernel
theorem d_N_openAt_32 : decode mN_openAt.2.1 32 = .ok (.ifCond .eq 18, 3) := by decide +kernel
theorem d_N_openAt_35 : decode mN_openAt.2.1 35 = .ok (.iload_n 3, 1) := by decide +kernel
theorem d_N_openAt_36 : decode mN_openAt.2.1 36 = .ok (.aload_n 0, 1) := by decide +kernel
theorem d_N_openAt_37 : decode mN_openAt.2.1 37 = .ok (.getfield 31, 3) := by decide +kernel
theorem d_N_openAt_40 : decode mN_openAt.2.1 40 = .ok (.getfield 144, 3) := by decide +kernel
theorem d_N_openAt_43 : decode mN_openAt.2.1 43 = .ok (.iload 4, 2) := by decide +kernel
theorem d_N_openAt_45 : decode mN_openAt.2.1 45 = .ok (.iaload, 1) := by decide +kernel
theorem d_N_openAt_46 : decode mN_openAt.2.1 46 = .ok (.invokestatic 234, 3) := by decide +kernel
theorem d_N_openAt_49 : decode mN_openAt.2.1 49 = .ok (.istore_n 3, 1) := by decide +kernel
theorem d_N_openAt_50 : decode mN_openAt.2.1 50 = .ok (.iinc 4 1, 3) := by decide +kernel
theorem d_N_openAt_53 : decode mN_openAt.2.1 53 = .ok (.goto (-39), 3) := by decide +kernel
theorem d_N_openAt_56 : decode mN_openAt.2.1 56 = .ok (.iconst 0, 1) := by decide +kernel
theorem d_N_openAt_57 : decode mN_openAt.2.1 57 = .ok (.istore 4, 2) := by decide +kernel
theorem d_N_openAt_59 : decode mN_openAt.2.1 59 = .ok (.iconst 0, 1) := by decide +kernel
theorem d_N_openAt_60 : decode mN_openAt.2.1 60 = .ok (.istore 5, 2) := by decide +kernel
theorem d_N_openAt_62 : decode mN_openAt.2.1 62 = .ok (.iload 5, 2) := by decide +kernel
theorem d_N_openAt_64 : decode mN_openAt.2.1 64 = .ok (.aload_n 0, 1) := by decide +kernel
theorem d_N_openAt_65 : decode mN_openAt.2.1 65 = .ok (.getfield 24, 3) := by decide +kernel
theorem d_N_openAt_68 : decode mN_openAt.2.1 68 = .ok (.getfield 122, 3) := by decide +kernel
theorem d_N_openAt_71 : decode mN_openAt.2.1 71 = .ok (.if_icmp .ge 49, 3) := by decide +kernel
theorem d_N_openAt_74 : decode mN_openAt.2.1 74 = .ok (.iload_n 2, 1) := by decide +kernel
theorem d_N_openAt_75 : decode mN_openAt.2.1 75 = .ok (.iload 5, 2) := by decide +kernel
theorem d_N_openAt_77 : decode mN_openAt.2.1 77 = .ok (.ishr, 1) := by decide +kernel
theorem d_N_openAt_78 : decode mN_openAt.2.1 78 = .ok (.iconst 1, 1) := by decide +kernel
theorem d_N_openAt_79 : decode mN_openAt.2.1 79 = .ok (.iand, 1) := by decide +kernel
theorem d_N_openAt_80 : decode mN_openAt.2.1 80 = .ok (.ifCond .eq 34, 3) := by decide +kernel
theorem d_N_openAt_83 : decode mN_openAt.2.1 83 = .ok (.iload_n 3, 1) := by decide +kernel
theorem d_N_openAt_84 : decode mN_openAt.2.1 84 = .ok (.aload_n 0, 1) := by decide +kernel
theorem d_N_openAt_85 : decode mN_openAt.2.1 85 = .ok (.getfield 31, 3) := by decide +kernel
theorem d_N_openAt_88 : decode mN_openAt.2.1 88 = .ok (.getfield 144, 3) := by decide +kernel
theorem d_N_openAt_91 : decode mN_openAt.2.1 91 = .ok (.iload 5, 2) := by decide +kernel
theorem d_N_openAt_93 : decode mN_openAt.2.1 93 = .ok (.iaload, 1) := by decide +kernel
theorem d_N_openAt_94 : decode mN_openAt.2.1 94 = .ok (.isub, 1) := by decide +kernel
theorem d_N_openAt_95 : decode mN_openAt.2.1 95 = .ok (.aload_n 0, 1) := by decide +kernel
theorem d_N_openAt_96 : decode mN_openAt.2.1 96 = .ok (.getfield 24, 3) := by decide +kernel
theorem d_N_openAt_99 : decode mN_openAt.2.1 99 = .ok (.getfield 314, 3) := by decide +kernel
theorem d_N_openAt_102 : decode mN_openAt.2.1 102 = .ok (.if_icmp .gt 12, 3) := by decide +kernel
theorem d_N_openAt_105 : decode mN_openAt.2.1 105 = .ok (.iload 4, 2) := by decide +kernel
theorem d_N_openAt_107 : decode mN_openAt.2.1 107 = .ok (.iconst 1, 1) := by decide +kernel
theorem d_N_openAt_108 : decode mN_openAt.2.1 108 = .ok (.iload 5, 2) := by decide +kernel
theorem d_N_openAt_110 : decode mN_openAt.2.1 110 = .ok (.ishl, 1) := by decide +kernel
theorem d_N_openAt_111 : decode mN_openAt.2.1 111 = .ok (.ior, 1) := by decide +kernel
theorem d_N_openAt_112 : decode mN_openAt.2.1 112 = .ok (.istore 4, 2) := by decide +kernel
theorem d_N_openAt_114 : decode mN_openAt.2.1 114 = .ok (.iinc 5 1, 3) := by decide +kernel
theorem d_N_openAt_117 : decode mN_openAt.2.1 117 = .ok (.goto (-55), 3) := by decide +kernel
theorem d_N_openAt_120 : decode mN_openAt.2.1 120 = .ok (.iload 4, 2) := by decide +kernel
theorem d_N_openAt_122 : decode mN_openAt.2.1 122 = .ok (.ireturn, 1) := by decide +kernel
theorem d_N_lost_0 : decode mN_lost.2.1 0 = .ok (.aload_n 0, 1) := by decide +kernel
theorem d_N_lost_1 : decode mN_lost.2.1 1 = .ok (.invokevirtual 176, 3) := by decide +kernel
theorem d_N_lost_4 : decode mN_lost.2.1 4 = .ok (.iconst 0, 1) := by decide +kernel
theorem d_N_lost_5 : decode mN_lost.2.1 5 = .ok (.istore_n 1, 1) := by decide +kernel
theorem d_N_lost_6 : decode mN_lost.2.1 6 = .ok (.iconst 0, 1) := by decide +kernel
theorem d_N_lost_7 : decode mN_lost.2.1 7 = .ok (.istore_n 2, 1) := by decide +kernel
theorem d_N_lost_8 : decode mN_lost.2.1 8 = .ok (.iload_n 2, 1) := by decide +kernel
theorem d_N_lost_9 : decode mN_lost.2.1 9 = .ok (.aload_n 0, 1) := by decide +kernel
theorem d_N_lost_10 : decode mN_lost.2.1 10 = .ok (.getfield 24, 3) := by decide +kernel
theorem d_N_lost_13 : decode mN_lost.2.1 13 = .ok (.getfield 122, 3) := by decide +kernel
theorem d_N_lost_16 : decode mN_lost.2.1 16 = .ok (.if_icmp .ge 69, 3) := by decide +kernel
theorem d_N_lost_19 : decode mN_lost.2.1 19 = .ok (.aload_n 0, 1) := by decide +kernel
theorem d_N_lost_20 : decode mN_lost.2.1 20 = .ok (.getfield 24, 3) := by decide +kernel
theorem d_N_lost_23 : decode mN_lost.2.1 23 = .ok (.iload_n 2, 1) := by decide +kernel
theorem d_N_lost_24 : decode mN_lost.2.1 24 = .ok (.invokevirtual 208, 3) := by decide +kernel
theorem d_N_lost_27 : decode mN_lost.2.1 27 = .ok (.iconst 2, 1) := by decide +kernel
theorem d_N_lost_28 : decode mN_lost.2.1 28 = .ok (.if_icmp .ne 19, 3) := by decide +kernel
theorem d_N_lost_31 : decode mN_lost.2.1 31 = .ok (.aload_n 0, 1) := by decide +kernel
theorem d_N_lost_32 : decode mN_lost.2.1 32 = .ok (.getfield 31, 3) := by decide +kernel
theorem d_N_lost_35 : decode mN_lost.2.1 35 = .ok (.getfield 147, 3) := by decide +kernel
theorem d_N_lost_38 : decode mN_lost.2.1 38 = .ok (.iload_n 2, 1) := by decide +kernel
theorem d_N_lost_39 : decode mN_lost.2.1 39 = .ok (.iaload, 1) := by decide +kernel
theorem d_N_lost_40 : decode mN_lost.2.1 40 = .ok (.ifCond .eq 7, 3) := by decide +kernel
theorem d_N_lost_43 : decode mN_lost.2.1 43 = .ok (.iconst 1, 1) := by decide +kernel
theorem d_N_lost_44 : decode mN_lost.2.1 44 = .ok (.goto 4, 3) := by decide +kernel
theorem d_N_lost_47 : decode mN_lost.2.1 47 = .ok (.iconst 0, 1) := by decide +kernel
theorem d_N_lost_48 : decode mN_lost.2.1 48 = .ok (.istore_n 3, 1) := by decide +kernel
theorem d_N_lost_49 : decode mN_lost.2.1 49 = .ok (.iload_n 3, 1) := by decide +kernel
theorem d_N_lost_50 : decode mN_lost.2.1 50 = .ok (.ifCond .eq 29, 3) := by decide +kernel
theorem d_N_lost_53 : decode mN_lost.2.1 53 = .ok (.aload_n 0, 1) := by decide +kernel
theorem d_N_lost_54 : decode mN_lost.2.1 54 = .ok (.aload_n 0, 1) := by decide +kernel
theorem d_N_lost_55 : decode mN_lost.2.1 55 = .ok (.getfield 24, 3) := by decide +kernel
theorem d_N_lost_58 : decode mN_lost.2.1 58 = .ok (.getfield 135, 3) := by decide +kernel
theorem d_N_lost_61 : decode mN_lost.2.1 61 = .ok (.iload_n 2, 1) := by decide +kernel
theorem d_N_lost_62 : decode mN_lost.2.1 62 = .ok (.iaload, 1) := by decide +kernel
theorem d_N_lost_63 : decode mN_lost.2.1 63 = .ok (.invokevirtual 311, 3) := by decide +kernel
theorem d_N_lost_66 : decode mN_lost.2.1 66 = .ok (.iload_n 2, 1) := by decide +kernel
theorem d_N_lost_67 : decode mN_lost.2.1 67 = .ok (.ishr, 1) := by decide +kernel
theorem d_N_lost_68 : decode mN_lost.2.1 68 = .ok (.iconst 1, 1) := by decide +kernel
theorem d_N_lost_69 : decode mN_lost.2.1 69 = .ok (.iand, 1) := by decide +kernel
theorem d_N_lost_70 : decode mN_lost.2.1 70 = .ok (.ifCond .ne 9, 3) := by decide +kernel
theorem d_N_lost_73 : decode mN_lost.2.1 73 = .ok (.iload_n 1, 1) := by decide +kernel
theorem d_N_lost_74 : decode mN_lost.2.1 74 = .ok (.iconst 1, 1) := by decide +kernel
theorem d_N_lost_75 : decode mN_lost.2.1 75 = .ok (.iload_n 2, 1) := by decide +kernel
theorem d_N_lost_76 : decode mN_lost.2.1 76 = .ok (.ishl, 1) := by decide +kernel
theorem d_N_lost_77 : decode mN_lost.2.1 77 = .ok (.ior, 1) := by decide +kernel
theorem d_N_lost_78 : decode mN_lost.2.1 78 = .ok (.istore_n 1, 1) := by decide +kernel
theorem d_N_lost_79 : decode mN_lost.2.1 79 = .ok (.iinc 2 1, 3) := by decide +kernel
theorem d_N_lost_82 : decode mN_lost.2.1 82 = .ok (.goto (-74), 3) := by decide +kernel
theorem d_N_lost_85 : decode mN_lost.2.1 85 = .ok (.iload_n 1, 1) := by decide +kernel
theorem d_N_lost_86 : decode mN_lost.2.1 86 = .ok (.ireturn, 1) := by decide +kernel
theorem d_N_gaps_0 : decode mN_gaps.2.1 0 = .ok (.aload_n 0, 1) := by decide +kernel
theorem d_N_gaps_1 : decode mN_gaps.2.1 1 = .ok (.invokevirtual 176, 3) := by decide +kernel
theorem d_N_gaps_4 : decode mN_gaps.2.1 4 = .ok (.iconst 0, 1) := by decide +kernel
theorem d_N_gaps_5 : decode mN_gaps.2.1 5 = .ok (.istore_n 1, 1) := by decide +kernel
theorem d_N_gaps_6 : decode mN_gaps.2.1 6 = .ok (.iconst 0, 1) := by decide +kernel
theorem d_N_gaps_7 : decode mN_gaps.2.1 7 = .ok (.istore_n 2, 1) := by decide +kernel
theorem d_N_gaps_8 : decode mN_gaps.2.1 8 = .ok (.iload_n 2, 1) := by decide +kernel
theorem d_N_gaps_9 : decode mN_gaps.2.1 9 = .ok (.aload_n 0, 1) := by decide +kernel
theorem d_N_gaps_10 : decode mN_gaps.2.1 10 = .ok (.getfield 24, 3) := by decide +kernel
theorem d_N_gaps_13 : decode mN_gaps.2.1 13 = .ok (.getfield 122, 3) := by decide +kernel
theorem d_N_gaps_16 : decode mN_gaps.2.1 16 = .ok (.if_icmp .ge 27, 3) := by decide +kernel
theorem d_N_gaps_19 : decode mN_gaps.2.1 19 = .ok (.aload_n 0, 1) := by decide +kernel
theorem d_N_gaps_20 : decode mN_gaps.2.1 20 = .ok (.getfield 24, 3) := by decide +kernel
theorem d_N_gaps_23 : decode mN_gaps.2.1 23 = .ok (.iload_n 2, 1) := by decide +kernel
theorem d_N_gaps_24 : decode mN_gaps.2.1 24 = .ok (.invokevirtual 208, 3) := by decide +kernel
theorem d_N_gaps_27 : decode mN_gaps.2.1 27 = .ok (.iconst 2, 1) := by decide +kernel
theorem d_N_gaps_28 : decode mN_gaps.2.1 28 = .ok (.if_icmp .ne 9, 3) := by decide +kernel
theorem d_N_gaps_31 : decode mN_gaps.2.1 31 = .ok (.iload_n 1, 1) := by decide +kernel
theorem d_N_gaps_32 : decode mN_gaps.2.1 32 = .ok (.iconst 1, 1) := by decide +kernel
theorem d_N_gaps_33 : decode mN_gaps.2.1 33 = .ok (.iload_n 2, 1) := by decide +kernel
theorem d_N_gaps_34 : decode mN_gaps.2.1 34 = .ok (.ishl, 1) := by decide +kernel
theorem d_N_gaps_35 : decode mN_gaps.2.1 35 = .ok (.ior, 1) := by decide +kernel
theorem d_N_gaps_36 : decode mN_gaps.2.1 36 = .ok (.istore_n 1, 1) := by decide +kernel
theorem d_N_gaps_37 : decode mN_gaps.2.1 37 = .ok (.iinc 2 1, 3) := by decide +kernel
theorem d_N_gaps_40 : decode mN_gaps.2.1 40 = .ok (.goto (-32), 3) := by decide +kernel
theorem d_N_gaps_43 : decode mN_gaps.2.1 43 = .ok (.iconst 0, 1) := by decide +kernel
theorem d_N_gaps_44 : decode mN_gaps.2.1 44 = .ok (.istore_n 2, 1) := by decide +kernel
theorem d_N_gaps_45 : decode mN_gaps.2.1 45 = .ok (.iconst 0, 1) := by decide +kernel
theorem d_N_gaps_46 : decode mN_gaps.2.1 46 = .ok (.istore_n 3, 1) := by decide +kernel
theorem d_N_gaps_47 : decode mN_gaps.2.1 47 = .ok (.iload_n 3, 1) := by decide +kernel
theorem d_N_gaps_48 : decode mN_gaps.2.1 48 = .ok (.aload_n 0, 1) := by decide +kernel
theorem d_N_gaps_49 : decode mN_gaps.2.1 49 = .ok (.getfield 24, 3) := by decide +kernel
theorem d_N_gaps_52 : decode mN_gaps.2.1 52 = .ok (.getfield 198, 3) := by decide +kernel
theorem d_N_gaps_55 : decode mN_gaps.2.1 55 = .ok (.if_icmp .ge 28, 3) := by decide +kernel
theorem d_N_gaps_58 : decode mN_gaps.2.1 58 = .ok (.aload_n 0, 1) := by decide +kernel
theorem d_N_gaps_59 : decode mN_gaps.2.1 59 = .ok (.getfield 57, 3) := by decide +kernel
theorem d_N_gaps_62 : decode mN_gaps.2.1 62 = .ok (.iload_n 3, 1) := by decide +kernel
theorem d_N_gaps_63 : decode mN_gaps.2.1 63 = .ok (.invokevirtual 185, 3) := by decide +kernel
theorem d_N_gaps_66 : decode mN_gaps.2.1 66 = .ok (.iload_n 1, 1) := by decide +kernel
theorem d_N_gaps_67 : decode mN_gaps.2.1 67 = .ok (.iand, 1) := by decide +kernel
theorem d_N_gaps_68 : decode mN_gaps.2.1 68 = .ok (.ifCond .ne 9, 3) := by decide +kernel
theorem d_N_gaps_71 : decode mN_gaps.2.1 71 = .ok (.iload_n 2, 1) := by decide +kernel
theorem d_N_gaps_72 : decode mN_gaps.2.1 72 = .ok (.iconst 1, 1) := by decide +kernel
theorem d_N_gaps_73 : decode mN_gaps.2.1 73 = .ok (.iload_n 3, 1) := by decide +kernel
theorem d_N_gaps_74 : decode mN_gaps.2.1 74 = .ok (.ishl, 1) := by decide +kernel
theorem d_N_gaps_75 : decode mN_gaps.2.1 75 = .ok (.ior, 1) := by decide +kernel
theorem d_N_gaps_76 : decode mN_gaps.2.1 76 = .ok (.istore_n 2, 1) := by decide +kernel
theorem d_N_gaps_77 : decode mN_gaps.2.1 77 = .ok (.iinc 3 1, 3) := by decide +kernel
theorem d_N_gaps_80 : decode mN_gaps.2.1 80 = .ok (.goto (-33), 3) := by decide +kernel
theorem d_N_gaps_83 : decode mN_gaps.2.1 83 = .ok (.iload_n 2, 1) := by decide +kernel
theorem d_N_gaps_84 : decode mN_gaps.2.1 84 = .ok (.ireturn, 1) := by decide +kernel
theorem d_N_easier_0 : decode mN_easier.2.1 0 = .ok (.aload_n 0, 1) := by decide +kernel
theorem d_N_easier_1 : decode mN_easier.2.1 1 = .ok (.iload_n 1, 1) := by decide +kernel
theorem d_N_easier_2 : decode mN_easier.2.1 2 = .ok (.invokevirtual 128, 3) := by decide +kernel
theorem d_N_easier_5 : decode mN_easier.2.1 5 = .ok (.ifCond .eq 15, 3) := by decide +kernel
theorem d_N_easier_8 : decode mN_easier.2.1 8 = .ok (.aload_n 0, 1) := by decide +kernel
theorem d_N_easier_9 : decode mN_easier.2.1 9 = .ok (.getfield 31, 3) := by decide +kernel
theorem d_N_easier_12 : decode mN_easier.2.1 12 = .ok (.getfield 147, 3) := by decide +kernel
theorem d_N_easier_15 : decode mN_easier.2.1 15 = .ok (.iload_n 1, 1) := by decide +kernel
theorem d_N_easier_16 : decode mN_easier.2.1 16 = .ok (.iaload, 1) := by decide +kernel
theorem d_N_easier_17 : decode mN_easier.2.1 17 = .ok (.ifCond .ne 5, 3) := by decide +kernel
theorem d_N_easier_20 : decode mN_easier.2.1 20 = .ok (.iconst (-1), 1) := by decide +kernel
theorem d_N_easier_21 : decode mN_easier.2.1 21 = .ok (.ireturn, 1) := by decide +kernel
theorem d_N_easier_22 : decode mN_easier.2.1 22 = .ok (.aload_n 0, 1) := by decide +kernel
theorem d_N_easier_23 : decode mN_easier.2.1 23 = .ok (.invokevirtual 176, 3) := by decide +kernel
theorem d_N_easier_26 : decode mN_easier.2.1 26 = .ok (.iconst 1, 1) := by decide +kernel
theorem d_N_easier_27 : decode mN_easier.2.1 27 = .ok (.iload_n 1, 1) := by decide +kernel
theorem d_N_easier_28 : decode mN_easier.2.1 28 = .ok (.ishl, 1) := by decide +kernel
theorem d_N_easier_29 : decode mN_easier.2.1 29 = .ok (.iconst (-1), 1) := by decide +kernel
theorem d_N_easier_30 : decode mN_easier.2.1 30 = .ok (.ixor, 1) := by decide +kernel
theorem d_N_easier_31 : decode mN_easier.2.1 31 = .ok (.istore_n 2, 1) := by decide +kernel
theorem d_N_easier_32 : decode mN_easier.2.1 32 = .ok (.aload_n 0, 1) := by decide +kernel
theorem d_N_easier_33 : decode mN_easier.2.1 33 = .ok (.getfield 57, 3) := by decide +kernel
theorem d_N_easier_36 : decode mN_easier.2.1 36 = .ok (.aload_n 0, 1) := by decide +kernel
theorem d_N_easier_37 : decode mN_easier.2.1 37 = .ok (.getfield 57, 3) := by decide +kernel
theorem d_N_easier_40 : decode mN_easier.2.1 40 = .ok (.getfield 188, 3) := by decide +kernel
theorem d_N_easier_43 : decode mN_easier.2.1 43 = .ok (.aload_n 0, 1) := by decide +kernel
theorem d_N_easier_44 : decode mN_easier.2.1 44 = .ok (.getfield 57, 3) := by decide +kernel
theorem d_N_easier_47 : decode mN_easier.2.1 47 = .ok (.getfield 191, 3) := by decide +kernel
theorem d_N_easier_50 : decode mN_easier.2.1 50 = .ok (.invokevirtual 257, 3) := by decide +kernel
theorem d_N_easier_53 : decode mN_easier.2.1 53 = .ok (.istore_n 3, 1) := by decide +kernel
theorem d_N_easier_54 : decode mN_easier.2.1 54 = .ok (.aload_n 0, 1) := by decide +kernel
theorem d_N_easier_55 : decode mN_easier.2.1 55 = .ok (.getfield 57, 3) := by decide +kernel
theorem d_N_easier_58 : decode mN_easier.2.1 58 = .ok (.aload_n 0, 1) := by decide +kernel
theorem d_N_easier_59 : decode mN_easier.2.1 59 = .ok (.getfield 57, 3) := by decide +kernel
theorem d_N_easier_62 : decode mN_easier.2.1 62 = .ok (.getfield 188, 3) := by decide +kernel
theorem d_N_easier_65 : decode mN_easier.2.1 65 = .ok (.iload_n 2, 1) := by decide +kernel
theorem d_N_easier_66 : decode mN_easier.2.1 66 = .ok (.iand, 1) := by decide +kernel
theorem d_N_easier_67 : decode mN_easier.2.1 67 = .ok (.aload_n 0, 1) := by decide +kernel
theorem d_N_easier_68 : decode mN_easier.2.1 68 = .ok (.getfield 57, 3) := by decide +kernel
theorem d_N_easier_71 : decode mN_easier.2.1 71 = .ok (.getfield 191, 3) := by decide +kernel
theorem d_N_easier_74 : decode mN_easier.2.1 74 = .ok (.iload_n 2, 1) := by decide +kernel
theorem d_N_easier_75 : decode mN_easier.2.1 75 = .ok (.iand, 1) := by decide +kernel
theorem d_N_easier_76 : decode mN_easier.2.1 76 = .ok (.invokevirtual 257, 3) := by decide +kernel
theorem d_N_easier_79 : decode mN_easier.2.1 79 = .ok (.istore 4, 2) := by decide +kernel
theorem d_N_easier_81 : decode mN_easier.2.1 81 = .ok (.iload_n 3, 1) := by decide +kernel
theorem d_N_easier_82 : decode mN_easier.2.1 82 = .ok (.invokestatic 211, 3) := by decide +kernel
theorem d_N_easier_85 : decode mN_easier.2.1 85 = .ok (.iload 4, 2) := by decide +kernel
theorem d_N_easier_87 : decode mN_easier.2.1 87 = .ok (.invokestatic 211, 3) := by decide +kernel
theorem d_N_easier_90 : decode mN_easier.2.1 90 = .ok (.isub, 1) := by decide +kernel
theorem d_N_easier_91 : decode mN_easier.2.1 91 = .ok (.ireturn, 1) := by decide +kernel
theorem d_N_thickest_0 : decode mN_thickest.2.1 0 = .ok (.aload_n 0, 1) := by decide +kernel
theorem d_N_thickest_1 : decode mN_thickest.2.1 1 = .ok (.invokevirtual 176, 3) := by decide +kernel
theorem d_N_thickest_4 : decode mN_thickest.2.1 4 = .ok (.aload_n 0, 1) := by decide +kernel
theorem d_N_thickest_5 : decode mN_thickest.2.1 5 = .ok (.getfield 57, 3) := by decide +kernel
theorem d_N_thickest_8 : decode mN_thickest.2.1 8 = .ok (.aload_n 0, 1) := by decide +kernel
theorem d_N_thickest_9 : decode mN_thickest.2.1 9 = .ok (.getfield 57, 3) := by decide +kernel
theorem d_N_thickest_12 : decode mN_thickest.2.1 12 = .ok (.getfield 188, 3) := by decide +kernel
theorem d_N_thickest_15 : decode mN_thickest.2.1 15 = .ok (.aload_n 0, 1) := by decide +kernel
theorem d_N_thickest_16 : decode mN_thickest.2.1 16 = .ok (.getfield 57, 3) := by decide +kernel
theorem d_N_thickest_19 : decode mN_thickest.2.1 19 = .ok (.getfield 191, 3) := by decide +kernel
theorem d_N_thickest_22 : decode mN_thickest.2.1 22 = .ok (.ior, 1) := by decide +kernel
theorem d_N_thickest_23 : decode mN_thickest.2.1 23 = .ok (.invokevirtual 317, 3) := by decide +kernel
theorem d_N_thickest_26 : decode mN_thickest.2.1 26 = .ok (.ireturn, 1) := by decide +kernel
theorem d_N_busiest_0 : decode mN_busiest.2.1 0 = .ok (.iload_n 1, 1) := by decide +kernel
theorem d_N_busiest_1 : decode mN_busiest.2.1 1 = .ok (.invokestatic 173, 3) := by decide +kernel
theorem d_N_busiest_4 : decode mN_busiest.2.1 4 = .ok (.ifCond .ne 5, 3) := by decide +kernel
theorem d_N_busiest_7 : decode mN_busiest.2.1 7 = .ok (.iconst (-1), 1) := by decide +kernel
theorem d_N_busiest_8 : decode mN_busiest.2.1 8 = .ok (.ireturn, 1) := by decide +kernel
theorem d_N_busiest_9 : decode mN_busiest.2.1 9 = .ok (.aload_n 0, 1) := by decide +kernel
theorem d_N_busiest_10 : decode mN_busiest.2.1 10 = .ok (.invokevirtual 176, 3) := by decide +kernel
theorem d_N_busiest_13 : decode mN_busiest.2.1 13 = .ok (.aload_n 0, 1) := by decide +kernel
theorem d_N_busiest_14 : decode mN_busiest.2.1 14 = .ok (.getfield 57, 3) := by decide +kernel
theorem d_N_busiest_17 : decode mN_busiest.2.1 17 = .ok (.aload_n 0, 1) := by decide +kernel
theorem d_N_busiest_18 : decode mN_busiest.2.1 18 = .ok (.getfield 57, 3) := by decide +kernel
theorem d_N_busiest_21 : decode mN_busiest.2.1 21 = .ok (.iload_n 1, 1) := by decide +kernel
theorem d_N_busiest_22 : decode mN_busiest.2.1 22 = .ok (.invokevirtual 320, 3) := by decide +kernel
theorem d_N_busiest_25 : decode mN_busiest.2.1 25 = .ok (.invokevirtual 317, 3) := by decide +kernel
theorem d_N_busiest_28 : decode mN_busiest.2.1 28 = .ok (.ireturn, 1) := by decide +kernel
theorem d_N_law_0 : decode mN_law.2.1 0 = .ok (.iload_n 1, 1) := by decide +kernel
theorem d_N_law_1 : decode mN_law.2.1 1 = .ok (.invokestatic 244, 3) := by decide +kernel
theorem d_N_law_4 : decode mN_law.2.1 4 = .ok (.ifCond .ne 5, 3) := by decide +kernel
theorem d_N_law_7 : decode mN_law.2.1 7 = .ok (.iconst (-1), 1) := by decide +kernel
theorem d_N_law_8 : decode mN_law.2.1 8 = .ok (.ireturn, 1) := by decide +kernel
theorem d_N_law_9 : decode mN_law.2.1 9 = .ok (.aload_n 0, 1) := by decide +kernel
theorem d_N_law_10 : decode mN_law.2.1 10 = .ok (.invokevirtual 176, 3) := by decide +kernel
theorem d_N_law_13 : decode mN_law.2.1 13 = .ok (.aload_n 0, 1) := by decide +kernel
theorem d_N_law_14 : decode mN_law.2.1 14 = .ok (.getfield 57, 3) := by decide +kernel
theorem d_N_law_17 : decode mN_law.2.1 17 = .ok (.iload_n 1, 1) := by decide +kernel
theorem d_N_law_18 : decode mN_law.2.1 18 = .ok (.putfield 279, 3) := by decide +kernel
theorem d_N_law_21 : decode mN_law.2.1 21 = .ok (.aload_n 0, 1) := by decide +kernel
theorem d_N_law_22 : decode mN_law.2.1 22 = .ok (.getfield 57, 3) := by decide +kernel
theorem d_N_law_25 : decode mN_law.2.1 25 = .ok (.aload_n 0, 1) := by decide +kernel
theorem d_N_law_26 : decode mN_law.2.1 26 = .ok (.getfield 57, 3) := by decide +kernel
theorem d_N_law_29 : decode mN_law.2.1 29 = .ok (.getfield 188, 3) := by decide +kernel
theorem d_N_law_32 : decode mN_law.2.1 32 = .ok (.aload_n 0, 1) := by decide +kernel
theorem d_N_law_33 : decode mN_law.2.1 33 = .ok (.getfield 57, 3) := by decide +kernel
theorem d_N_law_36 : decode mN_law.2.1 36 = .ok (.getfield 191, 3) := by decide +kernel
theorem d_N_law_39 : decode mN_law.2.1 39 = .ok (.invokevirtual 257, 3) := by decide +kernel
theorem d_N_law_42 : decode mN_law.2.1 42 = .ok (.invokestatic 211, 3) := by decide +kernel
theorem d_N_law_45 : decode mN_law.2.1 45 = .ok (.ireturn, 1) := by decide +kernel
theorem d_N_dearest_0 : decode mN_dearest.2.1 0 = .ok (.iconst (-1), 1) := by decide +kernel
theorem d_N_dearest_1 : decode mN_dearest.2.1 1 = .ok (.istore_n 1, 1) := by decide +kernel
theorem d_N_dearest_2 : decode mN_dearest.2.1 2 = .ok (.iconst (-1), 1) := by decide +kernel
theorem d_N_dearest_3 : decode mN_dearest.2.1 3 = .ok (.istore_n 2, 1) := by decide +kernel
theorem d_N_dearest_4 : decode mN_dearest.2.1 4 = .ok (.iconst 0, 1) := by decide +kernel
theorem d_N_dearest_5 : decode mN_dearest.2.1 5 = .ok (.istore_n 3, 1) := by decide +kernel
theorem d_N_dearest_6 : decode mN_dearest.2.1 6 = .ok (.iload_n 3, 1) := by decide +kernel
theorem d_N_dearest_7 : decode mN_dearest.2.1 7 = .ok (.aload_n 0, 1) := by decide +kernel
theorem d_N_dearest_8 : decode mN_dearest.2.1 8 = .ok (.getfield 24, 3) := by decide +kernel
theorem d_N_dearest_11 : decode mN_dearest.2.1 11 = .ok (.getfield 122, 3) := by decide +kernel
theorem d_N_dearest_14 : decode mN_dearest.2.1 14 = .ok (.if_icmp .ge 43, 3) := by decide +kernel
theorem d_N_dearest_17 : decode mN_dearest.2.1 17 = .ok (.aload_n 0, 1) := by decide +kernel
theorem d_N_dearest_18 : decode mN_dearest.2.1 18 = .ok (.getfield 31, 3) := by decide +kernel
theorem d_N_dearest_21 : decode mN_dearest.2.1 21 = .ok (.getfield 147, 3) := by decide +kernel
theorem d_N_dearest_24 : decode mN_dearest.2.1 24 = .ok (.iload_n 3, 1) := by decide +kernel
theorem d_N_dearest_25 : decode mN_dearest.2.1 25 = .ok (.iaload, 1) := by decide +kernel
theorem d_N_dearest_26 : decode mN_dearest.2.1 26 = .ok (.ifCond .ne 11, 3) := by decide +kernel
theorem d_N_dearest_29 : decode mN_dearest.2.1 29 = .ok (.aload_n 0, 1) := by decide +kernel
theorem d_N_dearest_30 : decode mN_dearest.2.1 30 = .ok (.iload_n 3, 1) := by decide +kernel
theorem d_N_dearest_31 : decode mN_dearest.2.1 31 = .ok (.invokevirtual 150, 3) := by decide +kernel
theorem d_N_dearest_34 : decode mN_dearest.2.1 34 = .ok (.goto 4, 3) := by decide +kernel
theorem d_N_dearest_37 : decode mN_dearest.2.1 37 = .ok (.iconst (-1), 1) := by decide +kernel
theorem d_N_dearest_38 : decode mN_dearest.2.1 38 = .ok (.istore 4, 2) := by decide +kernel
theorem d_N_dearest_40 : decode mN_dearest.2.1 40 = .ok (.iload 4, 2) := by decide +kernel
theorem d_N_dearest_42 : decode mN_dearest.2.1 42 = .ok (.iload_n 2, 1) := by decide +kernel
theorem d_N_dearest_43 : decode mN_dearest.2.1 43 = .ok (.if_icmp .le 8, 3) := by decide +kernel
theorem d_N_dearest_46 : decode mN_dearest.2.1 46 = .ok (.iload 4, 2) := by decide +kernel
theorem d_N_dearest_48 : decode mN_dearest.2.1 48 = .ok (.istore_n 2, 1) := by decide +kernel
theorem d_N_dearest_49 : decode mN_dearest.2.1 49 = .ok (.iload_n 3, 1) := by decide +kernel
theorem d_N_dearest_50 : decode mN_dearest.2.1 50 = .ok (.istore_n 1, 1) := by decide +kernel
theorem d_N_dearest_51 : decode mN_dearest.2.1 51 = .ok (.iinc 3 1, 3) := by decide +kernel
theorem d_N_dearest_54 : decode mN_dearest.2.1 54 = .ok (.goto (-48), 3) := by decide +kernel
theorem d_N_dearest_57 : decode mN_dearest.2.1 57 = .ok (.iload_n 1, 1) := by decide +kernel
theorem d_N_dearest_58 : decode mN_dearest.2.1 58 = .ok (.ireturn, 1) := by decide +kernel
theorem d_N_could_0 : decode mN_could.2.1 0 = .ok (.iload_n 1, 1) := by decide +kernel
theorem d_N_could_1 : decode mN_could.2.1 1 = .ok (.invokestatic 173, 3) := by decide +kernel
theorem d_N_could_4 : decode mN_could.2.1 4 = .ok (.ifCond .ne 5, 3) := by decide +kernel
theorem d_N_could_7 : decode mN_could.2.1 7 = .ok (.iconst (-1), 1) := by decide +kernel
theorem d_N_could_8 : decode mN_could.2.1 8 = .ok (.ireturn, 1) := by decide +kernel
theorem d_N_could_9 : decode mN_could.2.1 9 = .ok (.aload_n 0, 1) := by decide +kernel
theorem d_N_could_10 : decode mN_could.2.1 10 = .ok (.invokevirtual 176, 3) := by decide +kernel
theorem d_N_could_13 : decode mN_could.2.1 13 = .ok (.iconst 0, 1) := by decide +kernel
theorem d_N_could_14 : decode mN_could.2.1 14 = .ok (.istore_n 2, 1) := by decide +kernel
theorem d_N_could_15 : decode mN_could.2.1 15 = .ok (.iconst 0, 1) := by decide +kernel
theorem d_N_could_16 : decode mN_could.2.1 16 = .ok (.istore_n 3, 1) := by decide +kernel
theorem d_N_could_17 : decode mN_could.2.1 17 = .ok (.iload_n 3, 1) := by decide +kernel
theorem d_N_could_18 : decode mN_could.2.1 18 = .ok (.aload_n 0, 1) := by decide +kernel
theorem d_N_could_19 : decode mN_could.2.1 19 = .ok (.getfield 24, 3) := by decide +kernel
theorem d_N_could_22 : decode mN_could.2.1 22 = .ok (.getfield 122, 3) := by decide +kernel
theorem d_N_could_25 : decode mN_could.2.1 25 = .ok (.if_icmp .ge 39, 3) := by decide +kernel
theorem d_N_could_28 : decode mN_could.2.1 28 = .ok (.aload_n 0, 1) := by decide +kernel
theorem d_N_could_29 : decode mN_could.2.1 29 = .ok (.getfield 31, 3) := by decide +kernel
theorem d_N_could_32 : decode mN_could.2.1 32 = .ok (.getfield 147, 3) := by decide +kernel
theorem d_N_could_35 : decode mN_could.2.1 35 = .ok (.iload_n 3, 1) := by decide +kernel
theorem d_N_could_36 : decode mN_could.2.1 36 = .ok (.iaload, 1) := by decide +kernel
theorem d_N_could_37 : decode mN_could.2.1 37 = .ok (.ifCond .ne 21, 3) := by decide +kernel
theorem d_N_could_40 : decode mN_could.2.1 40 = .ok (.aload_n 0, 1) := by decide +kernel
theorem d_N_could_41 : decode mN_could.2.1 41 = .ok (.getfield 57, 3) := by decide +kernel
theorem d_N_could_44 : decode mN_could.2.1 44 = .ok (.iload_n 3, 1) := by decide +kernel
theorem d_N_could_45 : decode mN_could.2.1 45 = .ok (.iload_n 1, 1) := by decide +kernel
theorem d_N_could_46 : decode mN_could.2.1 46 = .ok (.invokevirtual 289, 3) := by decide +kernel
theorem d_N_could_49 : decode mN_could.2.1 49 = .ok (.ifCond .ne 9, 3) := by decide +kernel
theorem d_N_could_52 : decode mN_could.2.1 52 = .ok (.iload_n 2, 1) := by decide +kernel
theorem d_N_could_53 : decode mN_could.2.1 53 = .ok (.iconst 1, 1) := by decide +kernel
theorem d_N_could_54 : decode mN_could.2.1 54 = .ok (.iload_n 3, 1) := by decide +kernel
theorem d_N_could_55 : decode mN_could.2.1 55 = .ok (.ishl, 1) := by decide +kernel
theorem d_N_could_56 : decode mN_could.2.1 56 = .ok (.ior, 1) := by decide +kernel
theorem d_N_could_57 : decode mN_could.2.1 57 = .ok (.istore_n 2, 1) := by decide +kernel
theorem d_N_could_58 : decode mN_could.2.1 58 = .ok (.iinc 3 1, 3) := by decide +kernel
theorem d_N_could_61 : decode mN_could.2.1 61 = .ok (.goto (-44), 3) := by decide +kernel
theorem d_N_could_64 : decode mN_could.2.1 64 = .ok (.iload_n 2, 1) := by decide +kernel
theorem d_N_could_65 : decode mN_could.2.1 65 = .ok (.ireturn, 1) := by decide +kernel
theorem d_N_lies_0 : decode mN_lies.2.1 0 = .ok (.iload_n 1, 1) := by decide +kernel
theorem d_N_lies_1 : decode mN_lies.2.1 1 = .ok (.ifCond .lt 20, 3) := by decide +kernel
theorem d_N_lies_4 : decode mN_lies.2.1 4 = .ok (.iload_n 1, 1) := by decide +kernel
theorem d_N_lies_5 : decode mN_lies.2.1 5 = .ok (.aload_n 0, 1) := by decide +kernel
theorem d_N_lies_6 : decode mN_lies.2.1 6 = .ok (.getfield 115, 3) := by decide +kernel
theorem d_N_lies_9 : decode mN_lies.2.1 9 = .ok (.if_icmp .ge 12, 3) := by decide +kernel
theorem d_N_lies_12 : decode mN_lies.2.1 12 = .ok (.aload_n 0, 1) := by decide +kernel
theorem d_N_lies_13 : decode mN_lies.2.1 13 = .ok (.getfield 77, 3) := by decide +kernel
theorem d_N_lies_16 : decode mN_lies.2.1 16 = .ok (.iload_n 1, 1) := by decide +kernel
theorem d_N_lies_17 : decode mN_lies.2.1 17 = .ok (.iaload, 1) := by decide +kernel
theorem d_N_lies_18 : decode mN_lies.2.1 18 = .ok (.goto 4, 3) := by decide +kernel
theorem d_N_lies_21 : decode mN_lies.2.1 21 = .ok (.iconst (-1), 1) := by decide +kernel
theorem d_N_lies_22 : decode mN_lies.2.1 22 = .ok (.ireturn, 1) := by decide +kernel
theorem d_N_heard_0 : decode mN_heard.2.1 0 = .ok (.aload_n 0, 1) := by decide +kernel
theorem d_N_heard_1 : decode mN_heard.2.1 1 = .ok (.iload_n 1, 1) := by decide +kernel
theorem d_N_heard_2 : decode mN_heard.2.1 2 = .ok (.invokevirtual 170, 3) := by decide +kernel
theorem d_N_heard_5 : decode mN_heard.2.1 5 = .ok (.ifCond .eq 10, 3) := by decide +kernel
theorem d_N_heard_8 : decode mN_heard.2.1 8 = .ok (.iload_n 2, 1) := by decide +kernel
theorem d_N_heard_9 : decode mN_heard.2.1 9 = .ok (.invokestatic 244, 3) := by decide +kernel
theorem d_N_heard_12 : decode mN_heard.2.1 12 = .ok (.ifCond .ne 5, 3) := by decide +kernel
theorem d_N_heard_15 : decode mN_heard.2.1 15 = .ok (.iconst (-1), 1) := by decide +kernel
theorem d_N_heard_16 : decode mN_heard.2.1 16 = .ok (.ireturn, 1) := by decide +kernel
theorem d_N_heard_17 : decode mN_heard.2.1 17 = .ok (.aload_n 0, 1) := by decide +kernel
theorem d_N_heard_18 : decode mN_heard.2.1 18 = .ok (.getfield 73, 3) := by decide +kernel
theorem d_N_heard_21 : decode mN_heard.2.1 21 = .ok (.iload_n 1, 1) := by decide +kernel
theorem d_N_heard_22 : decode mN_heard.2.1 22 = .ok (.iload_n 2, 1) := by decide +kernel
theorem d_N_heard_23 : decode mN_heard.2.1 23 = .ok (.iload_n 3, 1) := by decide +kernel
theorem d_N_heard_24 : decode mN_heard.2.1 24 = .ok (.invokevirtual 321, 3) := by decide +kernel
theorem d_N_heard_27 : decode mN_heard.2.1 27 = .ok (.ireturn, 1) := by decide +kernel
theorem d_N_untell_0 : decode mN_untell.2.1 0 = .ok (.aload_n 0, 1) := by decide +kernel
theorem d_N_untell_1 : decode mN_untell.2.1 1 = .ok (.getfield 73, 3) := by decide +kernel
theorem d_N_untell_4 : decode mN_untell.2.1 4 = .ok (.iload_n 1, 1) := by decide +kernel
theorem d_N_untell_5 : decode mN_untell.2.1 5 = .ok (.invokevirtual 325, 3) := by decide +kernel
theorem d_N_untell_8 : decode mN_untell.2.1 8 = .ok (.ireturn, 1) := by decide +kernel
theorem d_N_later_0 : decode mN_later.2.1 0 = .ok (.aload_n 0, 1) := by decide +kernel
theorem d_N_later_1 : decode mN_later.2.1 1 = .ok (.getfield 73, 3) := by decide +kernel
theorem d_N_later_4 : decode mN_later.2.1 4 = .ok (.iload_n 1, 1) := by decide +kernel
theorem d_N_later_5 : decode mN_later.2.1 5 = .ok (.invokevirtual 328, 3) := by decide +kernel
theorem d_N_later_8 : decode mN_later.2.1 8 = .ok (.ireturn, 1) := by decide +kernel
theorem d_N_sets_0 : decode mN_sets.2.1 0 = .ok (.aload_n 0, 1) := by decide +kernel
theorem d_N_sets_1 : decode mN_sets.2.1 1 = .ok (.getfield 73, 3) := by decide +kernel
theorem d_N_sets_4 : decode mN_sets.2.1 4 = .ok (.aload_n 0, 1) := by decide +kernel
theorem d_N_sets_5 : decode mN_sets.2.1 5 = .ok (.getfield 24, 3) := by decide +kernel
theorem d_N_sets_8 : decode mN_sets.2.1 8 = .ok (.iload_n 1, 1) := by decide +kernel
theorem d_N_sets_9 : decode mN_sets.2.1 9 = .ok (.invokevirtual 331, 3) := by decide +kernel
theorem d_N_sets_12 : decode mN_sets.2.1 12 = .ok (.aload_n 0, 1) := by decide +kernel
theorem d_N_sets_13 : decode mN_sets.2.1 13 = .ok (.getfield 73, 3) := by decide +kernel
theorem d_N_sets_16 : decode mN_sets.2.1 16 = .ok (.getfield 335, 3) := by decide +kernel
theorem d_N_sets_19 : decode mN_sets.2.1 19 = .ok (.ireturn, 1) := by decide +kernel
theorem d_N_sure_0 : decode mN_sure.2.1 0 = .ok (.aload_n 0, 1) := by decide +kernel
theorem d_N_sure_1 : decode mN_sure.2.1 1 = .ok (.iload_n 1, 1) := by decide +kernel
theorem d_N_sure_2 : decode mN_sure.2.1 2 = .ok (.invokevirtual 128, 3) := by decide +kernel
theorem d_N_sure_5 : decode mN_sure.2.1 5 = .ok (.ifCond .ne 5, 3) := by decide +kernel
theorem d_N_sure_8 : decode mN_sure.2.1 8 = .ok (.iconst (-1), 1) := by decide +kernel
theorem d_N_sure_9 : decode mN_sure.2.1 9 = .ok (.ireturn, 1) := by decide +kernel
theorem d_N_sure_10 : decode mN_sure.2.1 10 = .ok (.aload_n 0, 1) := by decide +kernel
theorem d_N_sure_11 : decode mN_sure.2.1 11 = .ok (.getfield 73, 3) := by decide +kernel
theorem d_N_sure_14 : decode mN_sure.2.1 14 = .ok (.aload_n 0, 1) := by decide +kernel
theorem d_N_sure_15 : decode mN_sure.2.1 15 = .ok (.getfield 24, 3) := by decide +kernel
theorem d_N_sure_18 : decode mN_sure.2.1 18 = .ok (.iload_n 2, 1) := by decide +kernel
theorem d_N_sure_19 : decode mN_sure.2.1 19 = .ok (.invokevirtual 331, 3) := by decide +kernel
theorem d_N_sure_22 : decode mN_sure.2.1 22 = .ok (.aload_n 0, 1) := by decide +kernel
theorem d_N_sure_23 : decode mN_sure.2.1 23 = .ok (.getfield 73, 3) := by decide +kernel
theorem d_N_sure_26 : decode mN_sure.2.1 26 = .ok (.getfield 335, 3) := by decide +kernel
theorem d_N_sure_29 : decode mN_sure.2.1 29 = .ok (.ifCond .ne 5, 3) := by decide +kernel
theorem d_N_sure_32 : decode mN_sure.2.1 32 = .ok (.iconst (-1), 1) := by decide +kernel
theorem d_N_sure_33 : decode mN_sure.2.1 33 = .ok (.ireturn, 1) := by decide +kernel
theorem d_N_sure_34 : decode mN_sure.2.1 34 = .ok (.aload_n 0, 1) := by decide +kernel
theorem d_N_sure_35 : decode mN_sure.2.1 35 = .ok (.getfield 73, 3) := by decide +kernel
theorem d_N_sure_38 : decode mN_sure.2.1 38 = .ok (.getfield 338, 3) := by decide +kernel
theorem d_N_sure_41 : decode mN_sure.2.1 41 = .ok (.iload_n 1, 1) := by decide +kernel
theorem d_N_sure_42 : decode mN_sure.2.1 42 = .ok (.iaload, 1) := by decide +kernel
theorem d_N_sure_43 : decode mN_sure.2.1 43 = .ok (.istore_n 3, 1) := by decide +kernel
theorem d_N_sure_44 : decode mN_sure.2.1 44 = .ok (.iload_n 3, 1) := by decide +kernel
theorem d_N_sure_45 : decode mN_sure.2.1 45 = .ok (.aload_n 0, 1) := by decide +kernel
theorem d_N_sure_46 : decode mN_sure.2.1 46 = .ok (.getfield 73, 3) := by decide +kernel
theorem d_N_sure_49 : decode mN_sure.2.1 49 = .ok (.getfield 335, 3) := by decide +kernel
theorem d_N_sure_52 : decode mN_sure.2.1 52 = .ok (.if_icmp .ne 5, 3) := by decide +kernel
theorem d_N_sure_55 : decode mN_sure.2.1 55 = .ok (.iconst 1, 1) := by decide +kernel
theorem d_N_sure_56 : decode mN_sure.2.1 56 = .ok (.ireturn, 1) := by decide +kernel
theorem d_N_sure_57 : decode mN_sure.2.1 57 = .ok (.iload_n 3, 1) := by decide +kernel
theorem d_N_sure_58 : decode mN_sure.2.1 58 = .ok (.ifCond .ne 7, 3) := by decide +kernel
theorem d_N_sure_61 : decode mN_sure.2.1 61 = .ok (.iconst 0, 1) := by decide +kernel
theorem d_N_sure_62 : decode mN_sure.2.1 62 = .ok (.goto 5, 3) := by decide +kernel
theorem d_N_sure_65 : decode mN_sure.2.1 65 = .ok (.bipush (-2), 2) := by decide +kernel
theorem d_N_sure_67 : decode mN_sure.2.1 67 = .ok (.ireturn, 1) := by decide +kernel
theorem d_N_ask_0 : decode mN_ask.2.1 0 = .ok (.iload_n 1, 1) := by decide +kernel
theorem d_N_ask_1 : decode mN_ask.2.1 1 = .ok (.ifCond .lt 8, 3) := by decide +kernel
theorem d_N_ask_4 : decode mN_ask.2.1 4 = .ok (.iload_n 1, 1) := by decide +kernel
theorem d_N_ask_5 : decode mN_ask.2.1 5 = .ok (.iconst 1, 1) := by decide +kernel
theorem d_N_ask_6 : decode mN_ask.2.1 6 = .ok (.if_icmp .le 5, 3) := by decide +kernel
theorem d_N_ask_9 : decode mN_ask.2.1 9 = .ok (.iconst (-1), 1) := by decide +kernel
theorem d_N_ask_10 : decode mN_ask.2.1 10 = .ok (.ireturn, 1) := by decide +kernel
theorem d_N_ask_11 : decode mN_ask.2.1 11 = .ok (.aload_n 0, 1) := by decide +kernel
theorem d_N_ask_12 : decode mN_ask.2.1 12 = .ok (.getfield 73, 3) := by decide +kernel
theorem d_N_ask_15 : decode mN_ask.2.1 15 = .ok (.aload_n 0, 1) := by decide +kernel
theorem d_N_ask_16 : decode mN_ask.2.1 16 = .ok (.getfield 24, 3) := by decide +kernel
theorem d_N_ask_19 : decode mN_ask.2.1 19 = .ok (.iload_n 2, 1) := by decide +kernel
theorem d_N_ask_20 : decode mN_ask.2.1 20 = .ok (.invokevirtual 331, 3) := by decide +kernel
theorem d_N_ask_23 : decode mN_ask.2.1 23 = .ok (.iconst (-1), 1) := by decide +kernel
theorem d_N_ask_24 : decode mN_ask.2.1 24 = .ok (.istore_n 3, 1) := by decide +kernel
theorem d_N_ask_25 : decode mN_ask.2.1 25 = .ok (.aload_n 0, 1) := by decide +kernel
theorem d_N_ask_26 : decode mN_ask.2.1 26 = .ok (.getfield 73, 3) := by decide +kernel
theorem d_N_ask_29 : decode mN_ask.2.1 29 = .ok (.getfield 335, 3) := by decide +kernel
theorem d_N_ask_32 : decode mN_ask.2.1 32 = .ok (.iconst 1, 1) := by decide +kernel
theorem d_N_ask_33 : decode mN_ask.2.1 33 = .ok (.iadd, 1) := by decide +kernel
theorem d_N_ask_34 : decode mN_ask.2.1 34 = .ok (.istore 4, 2) := by decide +kernel
theorem d_N_ask_36 : decode mN_ask.2.1 36 = .ok (.iconst 0, 1) := by decide +kernel
theorem d_N_ask_37 : decode mN_ask.2.1 37 = .ok (.istore 5, 2) := by decide +kernel
theorem d_N_ask_39 : decode mN_ask.2.1 39 = .ok (.iload 5, 2) := by decide +kernel
theorem d_N_ask_41 : decode mN_ask.2.1 41 = .ok (.aload_n 0, 1) := by decide +kernel
theorem d_N_ask_42 : decode mN_ask.2.1 42 = .ok (.getfield 24, 3) := by decide +kernel
theorem d_N_ask_45 : decode mN_ask.2.1 45 = .ok (.getfield 122, 3) := by decide +kernel
theorem d_N_ask_48 : decode mN_ask.2.1 48 = .ok (.if_icmp .ge 66, 3) := by decide +kernel
theorem d_N_ask_51 : decode mN_ask.2.1 51 = .ok (.aload_n 0, 1) := by decide +kernel
theorem d_N_ask_52 : decode mN_ask.2.1 52 = .ok (.getfield 73, 3) := by decide +kernel
theorem d_N_ask_55 : decode mN_ask.2.1 55 = .ok (.getfield 335, 3) := by decide +kernel
theorem d_N_ask_58 : decode mN_ask.2.1 58 = .ok (.ifCond .le 56, 3) := by decide +kernel
theorem d_N_ask_61 : decode mN_ask.2.1 61 = .ok (.aload_n 0, 1) := by decide +kernel
theorem d_N_ask_62 : decode mN_ask.2.1 62 = .ok (.getfield 73, 3) := by decide +kernel
theorem d_N_ask_65 : decode mN_ask.2.1 65 = .ok (.getfield 338, 3) := by decide +kernel
theorem d_N_ask_68 : decode mN_ask.2.1 68 = .ok (.iload 5, 2) := by decide +kernel
theorem d_N_ask_70 : decode mN_ask.2.1 70 = .ok (.iaload, 1) := by decide +kernel
theorem d_N_ask_71 : decode mN_ask.2.1 71 = .ok (.aload_n 0, 1) := by decide +kernel
theorem d_N_ask_72 : decode mN_ask.2.1 72 = .ok (.getfield 73, 3) := by decide +kernel
theorem d_N_ask_75 : decode mN_ask.2.1 75 = .ok (.getfield 335, 3) := by decide +kernel
theorem d_N_ask_78 : decode mN_ask.2.1 78 = .ok (.aload_n 0, 1) := by decide +kernel
theorem d_N_ask_79 : decode mN_ask.2.1 79 = .ok (.getfield 73, 3) := by decide +kernel
theorem d_N_ask_82 : decode mN_ask.2.1 82 = .ok (.getfield 338, 3) := by decide +kernel
theorem d_N_ask_85 : decode mN_ask.2.1 85 = .ok (.iload 5, 2) := by decide +kernel
theorem d_N_ask_87 : decode mN_ask.2.1 87 = .ok (.iaload, 1) := by decide +kernel
theorem d_N_ask_88 : decode mN_ask.2.1 88 = .ok (.isub, 1) := by decide +kernel
theorem d_N_ask_89 : decode mN_ask.2.1 89 = .ok (.invokestatic 234, 3) := by decide +kernel
theorem d_N_ask_92 : decode mN_ask.2.1 92 = .ok (.istore 6, 2) := by decide +kernel
theorem d_N_ask_94 : decode mN_ask.2.1 94 = .ok (.iload 6, 2) := by decide +kernel
theorem d_N_ask_96 : decode mN_ask.2.1 96 = .ok (.iload 4, 2) := by decide +kernel
theorem d_N_ask_98 : decode mN_ask.2.1 98 = .ok (.if_icmp .ge 10, 3) := by decide +kernel
theorem d_N_ask_101 : decode mN_ask.2.1 101 = .ok (.iload 6, 2) := by decide +kernel
theorem d_N_ask_103 : decode mN_ask.2.1 103 = .ok (.istore 4, 2) := by decide +kernel
theorem d_N_ask_105 : decode mN_ask.2.1 105 = .ok (.iload 5, 2) := by decide +kernel
theorem d_N_ask_107 : decode mN_ask.2.1 107 = .ok (.istore_n 3, 1) := by decide +kernel
theorem d_N_ask_108 : decode mN_ask.2.1 108 = .ok (.iinc 5 1, 3) := by decide +kernel
theorem d_N_ask_111 : decode mN_ask.2.1 111 = .ok (.goto (-72), 3) := by decide +kernel
theorem d_N_ask_114 : decode mN_ask.2.1 114 = .ok (.iload_n 1, 1) := by decide +kernel
theorem d_N_ask_115 : decode mN_ask.2.1 115 = .ok (.ifCond .eq 8, 3) := by decide +kernel
theorem d_N_ask_118 : decode mN_ask.2.1 118 = .ok (.iload_n 3, 1) := by decide +kernel
theorem d_N_ask_119 : decode mN_ask.2.1 119 = .ok (.iconst (-1), 1) := by decide +kernel
theorem d_N_ask_120 : decode mN_ask.2.1 120 = .ok (.if_icmp .ne 7, 3) := by decide +kernel
theorem d_N_ask_123 : decode mN_ask.2.1 123 = .ok (.iload_n 3, 1) := by decide +kernel
theorem d_N_ask_124 : decode mN_ask.2.1 124 = .ok (.goto 5, 3) := by decide +kernel
theorem d_N_ask_127 : decode mN_ask.2.1 127 = .ok (.iload 4, 2) := by decide +kernel
theorem d_N_ask_129 : decode mN_ask.2.1 129 = .ok (.ireturn, 1) := by decide +kernel
theorem d_N_image_0 : decode mN_image.2.1 0 = .ok (.iload_n 1, 1) := by decide +kernel
theorem d_N_image_1 : decode mN_image.2.1 1 = .ok (.ifCond .lt 12, 3) := by decide +kernel
theorem d_N_image_4 : decode mN_image.2.1 4 = .ok (.iload_n 1, 1) := by decide +kernel
theorem d_N_image_5 : decode mN_image.2.1 5 = .ok (.aload_n 0, 1) := by decide +kernel
theorem d_N_image_6 : decode mN_image.2.1 6 = .ok (.getfield 35, 3) := by decide +kernel
theorem d_N_image_9 : decode mN_image.2.1 9 = .ok (.arraylength, 1) := by decide +kernel
theorem d_N_image_10 : decode mN_image.2.1 10 = .ok (.if_icmp .lt 5, 3) := by decide +kernel
theorem d_N_image_13 : decode mN_image.2.1 13 = .ok (.iconst (-1), 1) := by decide +kernel
theorem d_N_image_14 : decode mN_image.2.1 14 = .ok (.ireturn, 1) := by decide +kernel
theorem d_N_image_15 : decode mN_image.2.1 15 = .ok (.aload_n 0, 1) := by decide +kernel
theorem d_N_image_16 : decode mN_image.2.1 16 = .ok (.getfield 35, 3) := by decide +kernel
theorem d_N_image_19 : decode mN_image.2.1 19 = .ok (.iload_n 1, 1) := by decide +kernel
theorem d_N_image_20 : decode mN_image.2.1 20 = .ok (.aaload, 1) := by decide +kernel
theorem d_N_image_21 : decode mN_image.2.1 21 = .ok (.aload_n 0, 1) := by decide +kernel
theorem d_N_image_22 : decode mN_image.2.1 22 = .ok (.getfield 31, 3) := by decide +kernel
theorem d_N_image_25 : decode mN_image.2.1 25 = .ok (.invokevirtual 341, 3) := by decide +kernel
theorem d_N_image_28 : decode mN_image.2.1 28 = .ok (.aload_n 0, 1) := by decide +kernel
theorem d_N_image_29 : decode mN_image.2.1 29 = .ok (.getfield 35, 3) := by decide +kernel
theorem d_N_image_32 : decode mN_image.2.1 32 = .ok (.iload_n 1, 1) := by decide +kernel
theorem d_N_image_33 : decode mN_image.2.1 33 = .ok (.aaload, 1) := by decide +kernel
theorem d_N_image_34 : decode mN_image.2.1 34 = .ok (.iconst 1, 1) := by decide +kernel
theorem d_N_image_35 : decode mN_image.2.1 35 = .ok (.putfield 118, 3) := by decide +kernel
theorem d_N_image_38 : decode mN_image.2.1 38 = .ok (.aload_n 0, 1) := by decide +kernel
theorem d_N_image_39 : decode mN_image.2.1 39 = .ok (.invokevirtual 166, 3) := by decide +kernel
theorem d_N_image_42 : decode mN_image.2.1 42 = .ok (.invokestatic 211, 3) := by decide +kernel
theorem d_N_image_45 : decode mN_image.2.1 45 = .ok (.ireturn, 1) := by decide +kernel
theorem d_N_back_0 : decode mN_back.2.1 0 = .ok (.aload_n 0, 1) := by decide +kernel
theorem d_N_back_1 : decode mN_back.2.1 1 = .ok (.iload_n 1, 1) := by decide +kernel
theorem d_N_back_2 : decode mN_back.2.1 2 = .ok (.invokevirtual 345, 3) := by decide +kernel
theorem d_N_back_5 : decode mN_back.2.1 5 = .ok (.ifCond .ne 5, 3) := by decide +kernel
theorem d_N_back_8 : decode mN_back.2.1 8 = .ok (.iconst (-1), 1) := by decide +kernel
theorem d_N_back_9 : decode mN_back.2.1 9 = .ok (.ireturn, 1) := by decide +kernel
theorem d_N_back_10 : decode mN_back.2.1 10 = .ok (.aload_n 0, 1) := by decide +kernel
theorem d_N_back_11 : decode mN_back.2.1 11 = .ok (.getfield 31, 3) := by decide +kernel
theorem d_N_back_14 : decode mN_back.2.1 14 = .ok (.aload_n 0, 1) := by decide +kernel
theorem d_N_back_15 : decode mN_back.2.1 15 = .ok (.getfield 35, 3) := by decide +kernel
theorem d_N_back_18 : decode mN_back.2.1 18 = .ok (.iload_n 1, 1) := by decide +kernel
theorem d_N_back_19 : decode mN_back.2.1 19 = .ok (.aaload, 1) := by decide +kernel
theorem d_N_back_20 : decode mN_back.2.1 20 = .ok (.invokevirtual 341, 3) := by decide +kernel
theorem d_N_back_23 : decode mN_back.2.1 23 = .ok (.aload_n 0, 1) := by decide +kernel
theorem d_N_back_24 : decode mN_back.2.1 24 = .ok (.getfield 42, 3) := by decide +kernel
theorem d_N_back_27 : decode mN_back.2.1 27 = .ok (.invokevirtual 111, 3) := by decide +kernel
theorem d_N_back_30 : decode mN_back.2.1 30 = .ok (.aload_n 0, 1) := by decide +kernel
theorem d_N_back_31 : decode mN_back.2.1 31 = .ok (.invokevirtual 166, 3) := by decide +kernel
theorem d_N_back_34 : decode mN_back.2.1 34 = .ok (.invokestatic 211, 3) := by decide +kernel
theorem d_N_back_37 : decode mN_back.2.1 37 = .ok (.ireturn, 1) := by decide +kernel
theorem d_N_isKept_0 : decode mN_isKept.2.1 0 = .ok (.iload_n 1, 1) := by decide +kernel
theorem d_N_isKept_1 : decode mN_isKept.2.1 1 = .ok (.ifCond .lt 28, 3) := by decide +kernel
theorem d_N_isKept_4 : decode mN_isKept.2.1 4 = .ok (.iload_n 1, 1) := by decide +kernel
theorem d_N_isKept_5 : decode mN_isKept.2.1 5 = .ok (.aload_n 0, 1) := by decide +kernel
theorem d_N_isKept_6 : decode mN_isKept.2.1 6 = .ok (.getfield 35, 3) := by decide +kernel
theorem d_N_isKept_9 : decode mN_isKept.2.1 9 = .ok (.arraylength, 1) := by decide +kernel
theorem d_N_isKept_10 : decode mN_isKept.2.1 10 = .ok (.if_icmp .ge 19, 3) := by decide +kernel
theorem d_N_isKept_13 : decode mN_isKept.2.1 13 = .ok (.aload_n 0, 1) := by decide +kernel
theorem d_N_isKept_14 : decode mN_isKept.2.1 14 = .ok (.getfield 35, 3) := by decide +kernel
theorem d_N_isKept_17 : decode mN_isKept.2.1 17 = .ok (.iload_n 1, 1) := by decide +kernel
theorem d_N_isKept_18 : decode mN_isKept.2.1 18 = .ok (.aaload, 1) := by decide +kernel
theorem d_N_isKept_19 : decode mN_isKept.2.1 19 = .ok (.getfield 118, 3) := by decide +kernel
theorem d_N_isKept_22 : decode mN_isKept.2.1 22 = .ok (.ifCond .eq 7, 3) := by decide +kernel
theorem d_N_isKept_25 : decode mN_isKept.2.1 25 = .ok (.iconst 1, 1) := by decide +kernel
theorem d_N_isKept_26 : decode mN_isKept.2.1 26 = .ok (.goto 4, 3) := by decide +kernel
theorem d_N_isKept_29 : decode mN_isKept.2.1 29 = .ok (.iconst 0, 1) := by decide +kernel
theorem d_N_isKept_30 : decode mN_isKept.2.1 30 = .ok (.ireturn, 1) := by decide +kernel
theorem d_N_differ_0 : decode mN_differ.2.1 0 = .ok (.aload_n 0, 1) := by decide +kernel
theorem d_N_differ_1 : decode mN_differ.2.1 1 = .ok (.iload_n 1, 1) := by decide +kernel
theorem d_N_differ_2 : decode mN_differ.2.1 2 = .ok (.invokevirtual 345, 3) := by decide +kernel
theorem d_N_differ_5 : decode mN_differ.2.1 5 = .ok (.ifCond .ne 5, 3) := by decide +kernel
theorem d_N_differ_8 : decode mN_differ.2.1 8 = .ok (.iconst (-1), 1) := by decide +kernel
theorem d_N_differ_9 : decode mN_differ.2.1 9 = .ok (.ireturn, 1) := by decide +kernel
theorem d_N_differ_10 : decode mN_differ.2.1 10 = .ok (.iconst 0, 1) := by decide +kernel
theorem d_N_differ_11 : decode mN_differ.2.1 11 = .ok (.istore_n 2, 1) := by decide +kernel
theorem d_N_differ_12 : decode mN_differ.2.1 12 = .ok (.iconst 0, 1) := by decide +kernel
theorem d_N_differ_13 : decode mN_differ.2.1 13 = .ok (.istore_n 3, 1) := by decide +kernel
theorem d_N_differ_14 : decode mN_differ.2.1 14 = .ok (.iload_n 3, 1) := by decide +kernel
theorem d_N_differ_15 : decode mN_differ.2.1 15 = .ok (.aload_n 0, 1) := by decide +kernel
theorem d_N_differ_16 : decode mN_differ.2.1 16 = .ok (.getfield 24, 3) := by decide +kernel
theorem d_N_differ_19 : decode mN_differ.2.1 19 = .ok (.getfield 122, 3) := by decide +kernel
theorem d_N_differ_22 : decode mN_differ.2.1 22 = .ok (.if_icmp .ge 32, 3) := by decide +kernel
theorem d_N_differ_25 : decode mN_differ.2.1 25 = .ok (.aload_n 0, 1) := by decide +kernel
theorem d_N_differ_26 : decode mN_differ.2.1 26 = .ok (.getfield 31, 3) := by decide +kernel
theorem d_N_differ_29 : decode mN_differ.2.1 29 = .ok (.iload_n 3, 1) := by decide +kernel
theorem d_N_differ_30 : decode mN_differ.2.1 30 = .ok (.aload_n 0, 1) := by decide +kernel
theorem d_N_differ_31 : decode mN_differ.2.1 31 = .ok (.getfield 35, 3) := by decide +kernel
theorem d_N_differ_34 : decode mN_differ.2.1 34 = .ok (.iload_n 1, 1) := by decide +kernel
theorem d_N_differ_35 : decode mN_differ.2.1 35 = .ok (.aaload, 1) := by decide +kernel
theorem d_N_differ_36 : decode mN_differ.2.1 36 = .ok (.invokevirtual 348, 3) := by decide +kernel
theorem d_N_differ_39 : decode mN_differ.2.1 39 = .ok (.ifCond .eq 9, 3) := by decide +kernel
theorem d_N_differ_42 : decode mN_differ.2.1 42 = .ok (.iload_n 2, 1) := by decide +kernel
theorem d_N_differ_43 : decode mN_differ.2.1 43 = .ok (.iconst 1, 1) := by decide +kernel
theorem d_N_differ_44 : decode mN_differ.2.1 44 = .ok (.iload_n 3, 1) := by decide +kernel
theorem d_N_differ_45 : decode mN_differ.2.1 45 = .ok (.ishl, 1) := by decide +kernel
theorem d_N_differ_46 : decode mN_differ.2.1 46 = .ok (.ior, 1) := by decide +kernel
theorem d_N_differ_47 : decode mN_differ.2.1 47 = .ok (.istore_n 2, 1) := by decide +kernel
theorem d_N_differ_48 : decode mN_differ.2.1 48 = .ok (.iinc 3 1, 3) := by decide +kernel
theorem d_N_differ_51 : decode mN_differ.2.1 51 = .ok (.goto (-37), 3) := by decide +kernel
theorem d_N_differ_54 : decode mN_differ.2.1 54 = .ok (.iload_n 2, 1) := by decide +kernel
theorem d_N_differ_55 : decode mN_differ.2.1 55 = .ok (.ireturn, 1) := by decide +kernel
theorem d_N_about_0 : decode mN_about.2.1 0 = .ok (.iload_n 1, 1) := by decide +kernel
theorem d_N_about_1 : decode mN_about.2.1 1 = .ok (.tableswitch 111 0 7 #[47, 55, 63, 71, 79, 87, 95, 103], 47) := by decide +kernel
theorem d_N_about_48 : decode mN_about.2.1 48 = .ok (.aload_n 0, 1) := by decide +kernel
theorem d_N_about_49 : decode mN_about.2.1 49 = .ok (.getfield 24, 3) := by decide +kernel
theorem d_N_about_52 : decode mN_about.2.1 52 = .ok (.getfield 122, 3) := by decide +kernel
theorem d_N_about_55 : decode mN_about.2.1 55 = .ok (.ireturn, 1) := by decide +kernel
theorem d_N_about_56 : decode mN_about.2.1 56 = .ok (.aload_n 0, 1) := by decide +kernel
theorem d_N_about_57 : decode mN_about.2.1 57 = .ok (.getfield 24, 3) := by decide +kernel
theorem d_N_about_60 : decode mN_about.2.1 60 = .ok (.getfield 157, 3) := by decide +kernel
theorem d_N_about_63 : decode mN_about.2.1 63 = .ok (.ireturn, 1) := by decide +kernel
theorem d_N_about_64 : decode mN_about.2.1 64 = .ok (.aload_n 0, 1) := by decide +kernel
theorem d_N_about_65 : decode mN_about.2.1 65 = .ok (.getfield 24, 3) := by decide +kernel
theorem d_N_about_68 : decode mN_about.2.1 68 = .ok (.getfield 198, 3) := by decide +kernel
theorem d_N_about_71 : decode mN_about.2.1 71 = .ok (.ireturn, 1) := by decide +kernel
theorem d_N_about_72 : decode mN_about.2.1 72 = .ok (.aload_n 0, 1) := by decide +kernel
theorem d_N_about_73 : decode mN_about.2.1 73 = .ok (.getfield 24, 3) := by decide +kernel
theorem d_N_about_76 : decode mN_about.2.1 76 = .ok (.getfield 263, 3) := by decide +kernel
theorem d_N_about_79 : decode mN_about.2.1 79 = .ok (.ireturn, 1) := by decide +kernel
theorem d_N_about_80 : decode mN_about.2.1 80 = .ok (.aload_n 0, 1) := by decide +kernel
theorem d_N_about_81 : decode mN_about.2.1 81 = .ok (.getfield 24, 3) := by decide +kernel
theorem d_N_about_84 : decode mN_about.2.1 84 = .ok (.getfield 260, 3) := by decide +kernel
theorem d_N_about_87 : decode mN_about.2.1 87 = .ok (.ireturn, 1) := by decide +kernel
theorem d_N_about_88 : decode mN_about.2.1 88 = .ok (.aload_n 0, 1) := by decide +kernel
theorem d_N_about_89 : decode mN_about.2.1 89 = .ok (.getfield 24, 3) := by decide +kernel
theorem d_N_about_92 : decode mN_about.2.1 92 = .ok (.getfield 352, 3) := by decide +kernel
theorem d_N_about_95 : decode mN_about.2.1 95 = .ok (.ireturn, 1) := by decide +kernel
theorem d_N_about_96 : decode mN_about.2.1 96 = .ok (.aload_n 0, 1) := by decide +kernel
theorem d_N_about_97 : decode mN_about.2.1 97 = .ok (.getfield 24, 3) := by decide +kernel
theorem d_N_about_100 : decode mN_about.2.1 100 = .ok (.getfield 314, 3) := by decide +kernel
theorem d_N_about_103 : decode mN_about.2.1 103 = .ok (.ireturn, 1) := by decide +kernel
theorem d_N_about_104 : decode mN_about.2.1 104 = .ok (.aload_n 0, 1) := by decide +kernel
theorem d_N_about_105 : decode mN_about.2.1 105 = .ok (.getfield 31, 3) := by decide +kernel
theorem d_N_about_108 : decode mN_about.2.1 108 = .ok (.getfield 247, 3) := by decide +kernel
theorem d_N_about_111 : decode mN_about.2.1 111 = .ok (.ireturn, 1) := by decide +kernel
theorem d_N_about_112 : decode mN_about.2.1 112 = .ok (.aload_n 0, 1) := by decide +kernel
theorem d_N_about_113 : decode mN_about.2.1 113 = .ok (.iload_n 1, 1) := by decide +kernel
theorem d_N_about_114 : decode mN_about.2.1 114 = .ok (.invokevirtual 355, 3) := by decide +kernel
theorem d_N_about_117 : decode mN_about.2.1 117 = .ok (.ireturn, 1) := by decide +kernel
theorem d_N_aboutTheRest_0 : decode mN_aboutTheRest.2.1 0 = .ok (.iload_n 1, 1) := by decide +kernel
theorem d_N_aboutTheRest_1 : decode mN_aboutTheRest.2.1 1 = .ok (.tableswitch 119 8 15 #[47, 55, 71, 79, 87, 95, 106, 111], 47) := by decide +kernel
theorem d_N_aboutTheRest_48 : decode mN_aboutTheRest.2.1 48 = .ok (.aload_n 0, 1) := by decide +kernel
theorem d_N_aboutTheRest_49 : decode mN_aboutTheRest.2.1 49 = .ok (.getfield 42, 3) := by decide +kernel
theorem d_N_aboutTheRest_52 : decode mN_aboutTheRest.2.1 52 = .ok (.getfield 358, 3) := by decide +kernel
theorem d_N_aboutTheRest_55 : decode mN_aboutTheRest.2.1 55 = .ok (.ireturn, 1) := by decide +kernel
theorem d_N_aboutTheRest_56 : decode mN_aboutTheRest.2.1 56 = .ok (.aload_n 0, 1) := by decide +kernel
theorem d_N_aboutTheRest_57 : decode mN_aboutTheRest.2.1 57 = .ok (.getfield 42, 3) := by decide +kernel
theorem d_N_aboutTheRest_60 : decode mN_aboutTheRest.2.1 60 = .ok (.getfield 361, 3) := by decide +kernel
theorem d_N_aboutTheRest_63 : decode mN_aboutTheRest.2.1 63 = .ok (.aload_n 0, 1) := by decide +kernel
theorem d_N_aboutTheRest_64 : decode mN_aboutTheRest.2.1 64 = .ok (.getfield 42, 3) := by decide +kernel
theorem d_N_aboutTheRest_67 : decode mN_aboutTheRest.2.1 67 = .ok (.getfield 358, 3) := by decide +kernel
theorem d_N_aboutTheRest_70 : decode mN_aboutTheRest.2.1 70 = .ok (.isub, 1) := by decide +kernel
theorem d_N_aboutTheRest_71 : decode mN_aboutTheRest.2.1 71 = .ok (.ireturn, 1) := by decide +kernel
theorem d_N_aboutTheRest_72 : decode mN_aboutTheRest.2.1 72 = .ok (.aload_n 0, 1) := by decide +kernel
theorem d_N_aboutTheRest_73 : decode mN_aboutTheRest.2.1 73 = .ok (.getfield 73, 3) := by decide +kernel
theorem d_N_aboutTheRest_76 : decode mN_aboutTheRest.2.1 76 = .ok (.getfield 363, 3) := by decide +kernel
theorem d_N_aboutTheRest_79 : decode mN_aboutTheRest.2.1 79 = .ok (.ireturn, 1) := by decide +kernel
theorem d_N_aboutTheRest_80 : decode mN_aboutTheRest.2.1 80 = .ok (.aload_n 0, 1) := by decide +kernel
theorem d_N_aboutTheRest_81 : decode mN_aboutTheRest.2.1 81 = .ok (.getfield 73, 3) := by decide +kernel
theorem d_N_aboutTheRest_84 : decode mN_aboutTheRest.2.1 84 = .ok (.getfield 364, 3) := by decide +kernel
theorem d_N_aboutTheRest_87 : decode mN_aboutTheRest.2.1 87 = .ok (.ireturn, 1) := by decide +kernel
theorem d_N_aboutTheRest_88 : decode mN_aboutTheRest.2.1 88 = .ok (.aload_n 0, 1) := by decide +kernel
theorem d_N_aboutTheRest_89 : decode mN_aboutTheRest.2.1 89 = .ok (.getfield 20, 3) := by decide +kernel
theorem d_N_aboutTheRest_92 : decode mN_aboutTheRest.2.1 92 = .ok (.getfield 84, 3) := by decide +kernel
theorem d_N_aboutTheRest_95 : decode mN_aboutTheRest.2.1 95 = .ok (.ireturn, 1) := by decide +kernel
theorem d_N_aboutTheRest_96 : decode mN_aboutTheRest.2.1 96 = .ok (.aload_n 0, 1) := by decide +kernel
theorem d_N_aboutTheRest_97 : decode mN_aboutTheRest.2.1 97 = .ok (.getfield 24, 3) := by decide +kernel
theorem d_N_aboutTheRest_100 : decode mN_aboutTheRest.2.1 100 = .ok (.getfield 216, 3) := by decide +kernel
theorem d_N_aboutTheRest_103 : decode mN_aboutTheRest.2.1 103 = .ok (.getfield 367, 3) := by decide +kernel
theorem d_N_aboutTheRest_106 : decode mN_aboutTheRest.2.1 106 = .ok (.ireturn, 1) := by decide +kernel
theorem d_N_aboutTheRest_107 : decode mN_aboutTheRest.2.1 107 = .ok (.aload_n 0, 1) := by decide +kernel
theorem d_N_aboutTheRest_108 : decode mN_aboutTheRest.2.1 108 = .ok (.getfield 115, 3) := by decide +kernel
theorem d_N_aboutTheRest_111 : decode mN_aboutTheRest.2.1 111 = .ok (.ireturn, 1) := by decide +kernel
theorem d_N_aboutTheRest_112 : decode mN_aboutTheRest.2.1 112 = .ok (.aload_n 0, 1) := by decide +kernel
theorem d_N_aboutTheRest_113 : decode mN_aboutTheRest.2.1 113 = .ok (.invokevirtual 166, 3) := by decide +kernel
theorem d_N_aboutTheRest_116 : decode mN_aboutTheRest.2.1 116 = .ok (.invokestatic 211, 3) := by decide +kernel
theorem d_N_aboutTheRest_119 : decode mN_aboutTheRest.2.1 119 = .ok (.ireturn, 1) := by decide +kernel
theorem d_N_aboutTheRest_120 : decode mN_aboutTheRest.2.1 120 = .ok (.iconst (-1), 1) := by decide +kernel
theorem d_N_aboutTheRest_121 : decode mN_aboutTheRest.2.1 121 = .ok (.ireturn, 1) := by decide +kernel
