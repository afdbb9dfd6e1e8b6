theorem d_1_0 : decode m1.2.1 0 = .ok (.aload_n 0, 1) := by decide +kernel
theorem d_1_1 : decode m1.2.1 1 = .ok (.invokespecial 1, 3) := by decide +kernel
theorem d_1_4 : decode m1.2.1 4 = .ok (.aload_n 0, 1) := by decide +kernel
theorem d_1_5 : decode m1.2.1 5 = .ok (.sipush 1600, 3) := by decide +kernel
theorem d_1_8 : decode m1.2.1 8 = .ok (.newarray .byte, 2) := by decide +kernel
theorem d_1_10 : decode m1.2.1 10 = .ok (.putfield 9, 3) := by decide +kernel
theorem d_1_13 : decode m1.2.1 13 = .ok (.aload_n 0, 1) := by decide +kernel
theorem d_1_14 : decode m1.2.1 14 = .ok (.new 13, 3) := by decide +kernel
theorem d_1_17 : decode m1.2.1 17 = .ok (.dup, 1) := by decide +kernel
theorem d_1_18 : decode m1.2.1 18 = .ok (.aload_n 0, 1) := by decide +kernel
theorem d_1_19 : decode m1.2.1 19 = .ok (.getfield 9, 3) := by decide +kernel
theorem d_1_22 : decode m1.2.1 22 = .ok (.invokespecial 15, 3) := by decide +kernel
theorem d_1_25 : decode m1.2.1 25 = .ok (.putfield 18, 3) := by decide +kernel
theorem d_1_28 : decode m1.2.1 28 = .ok (.aload_n 0, 1) := by decide +kernel
theorem d_1_29 : decode m1.2.1 29 = .ok (.new 22, 3) := by decide +kernel
theorem d_1_32 : decode m1.2.1 32 = .ok (.dup, 1) := by decide +kernel
theorem d_1_33 : decode m1.2.1 33 = .ok (.invokespecial 24, 3) := by decide +kernel
theorem d_1_36 : decode m1.2.1 36 = .ok (.putfield 25, 3) := by decide +kernel
theorem d_1_39 : decode m1.2.1 39 = .ok (.aload_n 0, 1) := by decide +kernel
theorem d_1_40 : decode m1.2.1 40 = .ok (.new 29, 3) := by decide +kernel
theorem d_1_43 : decode m1.2.1 43 = .ok (.dup, 1) := by decide +kernel
theorem d_1_44 : decode m1.2.1 44 = .ok (.invokespecial 31, 3) := by decide +kernel
theorem d_1_47 : decode m1.2.1 47 = .ok (.putfield 32, 3) := by decide +kernel
theorem d_1_50 : decode m1.2.1 50 = .ok (.aload_n 0, 1) := by decide +kernel
theorem d_1_51 : decode m1.2.1 51 = .ok (.iconst 3, 1) := by decide +kernel
theorem d_1_52 : decode m1.2.1 52 = .ok (.anewarray 29, 3) := by decide +kernel
theorem d_1_55 : decode m1.2.1 55 = .ok (.dup, 1) := by decide +kernel
theorem d_1_56 : decode m1.2.1 56 = .ok (.iconst 0, 1) := by decide +kernel
theorem d_1_57 : decode m1.2.1 57 = .ok (.new 29, 3) := by decide +kernel
theorem d_1_60 : decode m1.2.1 60 = .ok (.dup, 1) := by decide +kernel
theorem d_1_61 : decode m1.2.1 61 = .ok (.invokespecial 31, 3) := by decide +kernel
theorem d_1_64 : decode m1.2.1 64 = .ok (.aastore, 1) := by decide +kernel
theorem d_1_65 : decode m1.2.1 65 = .ok (.dup, 1) := by decide +kernel
theorem d_1_66 : decode m1.2.1 66 = .ok (.iconst 1, 1) := by decide +kernel
theorem d_1_67 : decode m1.2.1 67 = .ok (.new 29, 3) := by decide +kernel
theorem d_1_70 : decode m1.2.1 70 = .ok (.dup, 1) := by decide +kernel
theorem d_1_71 : decode m1.2.1 71 = .ok (.invokespecial 31, 3) := by decide +kernel
theorem d_1_74 : decode m1.2.1 74 = .ok (.aastore, 1) := by decide +kernel
theorem d_1_75 : decode m1.2.1 75 = .ok (.dup, 1) := by decide +kernel
theorem d_1_76 : decode m1.2.1 76 = .ok (.iconst 2, 1) := by decide +kernel
theorem d_1_77 : decode m1.2.1 77 = .ok (.new 29, 3) := by decide +kernel
theorem d_1_80 : decode m1.2.1 80 = .ok (.dup, 1) := by decide +kernel
theorem d_1_81 : decode m1.2.1 81 = .ok (.invokespecial 31, 3) := by decide +kernel
theorem d_1_84 : decode m1.2.1 84 = .ok (.aastore, 1) := by decide +kernel
theorem d_1_85 : decode m1.2.1 85 = .ok (.putfield 36, 3) := by decide +kernel
theorem d_1_88 : decode m1.2.1 88 = .ok (.aload_n 0, 1) := by decide +kernel
theorem d_1_89 : decode m1.2.1 89 = .ok (.new 40, 3) := by decide +kernel
theorem d_1_92 : decode m1.2.1 92 = .ok (.dup, 1) := by decide +kernel
theorem d_1_93 : decode m1.2.1 93 = .ok (.invokespecial 42, 3) := by decide +kernel
theorem d_1_96 : decode m1.2.1 96 = .ok (.putfield 43, 3) := by decide +kernel
theorem d_1_99 : decode m1.2.1 99 = .ok (.aload_n 0, 1) := by decide +kernel
theorem d_1_100 : decode m1.2.1 100 = .ok (.new 47, 3) := by decide +kernel
theorem d_1_103 : decode m1.2.1 103 = .ok (.dup, 1) := by decide +kernel
theorem d_1_104 : decode m1.2.1 104 = .ok (.invokespecial 49, 3) := by decide +kernel
theorem d_1_107 : decode m1.2.1 107 = .ok (.putfield 50, 3) := by decide +kernel
theorem d_1_110 : decode m1.2.1 110 = .ok (.aload_n 0, 1) := by decide +kernel
theorem d_1_111 : decode m1.2.1 111 = .ok (.bipush 10, 2) := by decide +kernel
theorem d_1_113 : decode m1.2.1 113 = .ok (.newarray .int, 2) := by decide +kernel
theorem d_1_115 : decode m1.2.1 115 = .ok (.putfield 54, 3) := by decide +kernel
theorem d_1_118 : decode m1.2.1 118 = .ok (.aload_n 0, 1) := by decide +kernel
theorem d_1_119 : decode m1.2.1 119 = .ok (.new 58, 3) := by decide +kernel
theorem d_1_122 : decode m1.2.1 122 = .ok (.dup, 1) := by decide +kernel
theorem d_1_123 : decode m1.2.1 123 = .ok (.aload_n 0, 1) := by decide +kernel
theorem d_1_124 : decode m1.2.1 124 = .ok (.getfield 50, 3) := by decide +kernel
theorem d_1_127 : decode m1.2.1 127 = .ok (.aload_n 0, 1) := by decide +kernel
theorem d_1_128 : decode m1.2.1 128 = .ok (.getfield 54, 3) := by decide +kernel
theorem d_1_131 : decode m1.2.1 131 = .ok (.invokespecial 60, 3) := by decide +kernel
theorem d_1_134 : decode m1.2.1 134 = .ok (.putfield 63, 3) := by decide +kernel
theorem d_1_137 : decode m1.2.1 137 = .ok (.aload_n 0, 1) := by decide +kernel
theorem d_1_138 : decode m1.2.1 138 = .ok (.new 67, 3) := by decide +kernel
theorem d_1_141 : decode m1.2.1 141 = .ok (.dup, 1) := by decide +kernel
theorem d_1_142 : decode m1.2.1 142 = .ok (.aload_n 0, 1) := by decide +kernel
theorem d_1_143 : decode m1.2.1 143 = .ok (.getfield 50, 3) := by decide +kernel
theorem d_1_146 : decode m1.2.1 146 = .ok (.invokespecial 69, 3) := by decide +kernel
theorem d_1_149 : decode m1.2.1 149 = .ok (.putfield 72, 3) := by decide +kernel
theorem d_1_152 : decode m1.2.1 152 = .ok (.aload_n 0, 1) := by decide +kernel
theorem d_1_153 : decode m1.2.1 153 = .ok (.new 76, 3) := by decide +kernel
theorem d_1_156 : decode m1.2.1 156 = .ok (.dup, 1) := by decide +kernel
theorem d_1_157 : decode m1.2.1 157 = .ok (.invokespecial 78, 3) := by decide +kernel
theorem d_1_160 : decode m1.2.1 160 = .ok (.putfield 79, 3) := by decide +kernel
theorem d_1_163 : decode m1.2.1 163 = .ok (.aload_n 0, 1) := by decide +kernel
theorem d_1_164 : decode m1.2.1 164 = .ok (.bipush 10, 2) := by decide +kernel
theorem d_1_166 : decode m1.2.1 166 = .ok (.newarray .int, 2) := by decide +kernel
theorem d_1_168 : decode m1.2.1 168 = .ok (.putfield 83, 3) := by decide +kernel
theorem d_1_171 : decode m1.2.1 171 = .ok (.aload_n 0, 1) := by decide +kernel
theorem d_1_172 : decode m1.2.1 172 = .ok (.getfield 32, 3) := by decide +kernel
theorem d_1_175 : decode m1.2.1 175 = .ok (.aload_n 0, 1) := by decide +kernel
theorem d_1_176 : decode m1.2.1 176 = .ok (.getfield 25, 3) := by decide +kernel
theorem d_1_179 : decode m1.2.1 179 = .ok (.invokevirtual 86, 3) := by decide +kernel
theorem d_1_182 : decode m1.2.1 182 = .ok (.return_, 1) := by decide +kernel
theorem d_16_0 : decode m16.2.1 0 = .ok (.aload_n 0, 1) := by decide +kernel
theorem d_16_1 : decode m16.2.1 1 = .ok (.getfield 90, 3) := by decide +kernel
theorem d_16_4 : decode m16.2.1 4 = .ok (.bipush 20, 2) := by decide +kernel
theorem d_16_6 : decode m16.2.1 6 = .ok (.iadd, 1) := by decide +kernel
theorem d_16_7 : decode m16.2.1 7 = .ok (.sipush 1600, 3) := by decide +kernel
theorem d_16_10 : decode m16.2.1 10 = .ok (.if_icmp .le 5, 3) := by decide +kernel
theorem d_16_13 : decode m16.2.1 13 = .ok (.iconst (-1), 1) := by decide +kernel
theorem d_16_14 : decode m16.2.1 14 = .ok (.ireturn, 1) := by decide +kernel
theorem d_16_15 : decode m16.2.1 15 = .ok (.aload_n 0, 1) := by decide +kernel
theorem d_16_16 : decode m16.2.1 16 = .ok (.iload_n 1, 1) := by decide +kernel
theorem d_16_17 : decode m16.2.1 17 = .ok (.invokevirtual 94, 3) := by decide +kernel
theorem d_16_20 : decode m16.2.1 20 = .ok (.aload_n 0, 1) := by decide +kernel
theorem d_16_21 : decode m16.2.1 21 = .ok (.iload_n 2, 1) := by decide +kernel
theorem d_16_22 : decode m16.2.1 22 = .ok (.invokevirtual 94, 3) := by decide +kernel
theorem d_16_25 : decode m16.2.1 25 = .ok (.aload_n 0, 1) := by decide +kernel
theorem d_16_26 : decode m16.2.1 26 = .ok (.iload_n 3, 1) := by decide +kernel
theorem d_16_27 : decode m16.2.1 27 = .ok (.invokevirtual 94, 3) := by decide +kernel
theorem d_16_30 : decode m16.2.1 30 = .ok (.aload_n 0, 1) := by decide +kernel
theorem d_16_31 : decode m16.2.1 31 = .ok (.iload 4, 2) := by decide +kernel
theorem d_16_33 : decode m16.2.1 33 = .ok (.invokevirtual 94, 3) := by decide +kernel
theorem d_16_36 : decode m16.2.1 36 = .ok (.aload_n 0, 1) := by decide +kernel
theorem d_16_37 : decode m16.2.1 37 = .ok (.iload 5, 2) := by decide +kernel
theorem d_16_39 : decode m16.2.1 39 = .ok (.invokevirtual 94, 3) := by decide +kernel
theorem d_16_42 : decode m16.2.1 42 = .ok (.aload_n 0, 1) := by decide +kernel
theorem d_16_43 : decode m16.2.1 43 = .ok (.getfield 90, 3) := by decide +kernel
theorem d_16_46 : decode m16.2.1 46 = .ok (.ireturn, 1) := by decide +kernel
theorem d_17_0 : decode m17.2.1 0 = .ok (.bipush 24, 2) := by decide +kernel
theorem d_17_2 : decode m17.2.1 2 = .ok (.istore_n 2, 1) := by decide +kernel
theorem d_17_3 : decode m17.2.1 3 = .ok (.iload_n 2, 1) := by decide +kernel
theorem d_17_4 : decode m17.2.1 4 = .ok (.ifCond .lt 42, 3) := by decide +kernel
theorem d_17_7 : decode m17.2.1 7 = .ok (.aload_n 0, 1) := by decide +kernel
theorem d_17_8 : decode m17.2.1 8 = .ok (.getfield 90, 3) := by decide +kernel
theorem d_17_11 : decode m17.2.1 11 = .ok (.sipush 1600, 3) := by decide +kernel
theorem d_17_14 : decode m17.2.1 14 = .ok (.if_icmp .ge 32, 3) := by decide +kernel
theorem d_17_17 : decode m17.2.1 17 = .ok (.aload_n 0, 1) := by decide +kernel
theorem d_17_18 : decode m17.2.1 18 = .ok (.getfield 9, 3) := by decide +kernel
theorem d_17_21 : decode m17.2.1 21 = .ok (.aload_n 0, 1) := by decide +kernel
theorem d_17_22 : decode m17.2.1 22 = .ok (.getfield 90, 3) := by decide +kernel
theorem d_17_25 : decode m17.2.1 25 = .ok (.iload_n 1, 1) := by decide +kernel
theorem d_17_26 : decode m17.2.1 26 = .ok (.iload_n 2, 1) := by decide +kernel
theorem d_17_27 : decode m17.2.1 27 = .ok (.ishr, 1) := by decide +kernel
theorem d_17_28 : decode m17.2.1 28 = .ok (.i2b, 1) := by decide +kernel
theorem d_17_29 : decode m17.2.1 29 = .ok (.bastore, 1) := by decide +kernel
theorem d_17_30 : decode m17.2.1 30 = .ok (.aload_n 0, 1) := by decide +kernel
theorem d_17_31 : decode m17.2.1 31 = .ok (.dup, 1) := by decide +kernel
theorem d_17_32 : decode m17.2.1 32 = .ok (.getfield 90, 3) := by decide +kernel
theorem d_17_35 : decode m17.2.1 35 = .ok (.iconst 1, 1) := by decide +kernel
theorem d_17_36 : decode m17.2.1 36 = .ok (.iadd, 1) := by decide +kernel
theorem d_17_37 : decode m17.2.1 37 = .ok (.putfield 90, 3) := by decide +kernel
theorem d_17_40 : decode m17.2.1 40 = .ok (.iinc 2 (-8), 3) := by decide +kernel
theorem d_17_43 : decode m17.2.1 43 = .ok (.goto (-40), 3) := by decide +kernel
theorem d_17_46 : decode m17.2.1 46 = .ok (.return_, 1) := by decide +kernel
theorem d_18_0 : decode m18.2.1 0 = .ok (.iload_n 1, 1) := by decide +kernel
theorem d_18_1 : decode m18.2.1 1 = .ok (.ifCond .lt 11, 3) := by decide +kernel
theorem d_18_4 : decode m18.2.1 4 = .ok (.iload_n 1, 1) := by decide +kernel
theorem d_18_5 : decode m18.2.1 5 = .ok (.aload_n 0, 1) := by decide +kernel
theorem d_18_6 : decode m18.2.1 6 = .ok (.getfield 90, 3) := by decide +kernel
theorem d_18_9 : decode m18.2.1 9 = .ok (.if_icmp .le 5, 3) := by decide +kernel
theorem d_18_12 : decode m18.2.1 12 = .ok (.iconst (-1), 1) := by decide +kernel
theorem d_18_13 : decode m18.2.1 13 = .ok (.ireturn, 1) := by decide +kernel
theorem d_18_14 : decode m18.2.1 14 = .ok (.aload_n 0, 1) := by decide +kernel
theorem d_18_15 : decode m18.2.1 15 = .ok (.iload_n 1, 1) := by decide +kernel
theorem d_18_16 : decode m18.2.1 16 = .ok (.putfield 90, 3) := by decide +kernel
theorem d_18_19 : decode m18.2.1 19 = .ok (.iload_n 1, 1) := by decide +kernel
theorem d_18_20 : decode m18.2.1 20 = .ok (.ireturn, 1) := by decide +kernel
theorem d_19_0 : decode m19.2.1 0 = .ok (.aload_n 0, 1) := by decide +kernel
theorem d_19_1 : decode m19.2.1 1 = .ok (.getfield 18, 3) := by decide +kernel
theorem d_19_4 : decode m19.2.1 4 = .ok (.aload_n 0, 1) := by decide +kernel
theorem d_19_5 : decode m19.2.1 5 = .ok (.getfield 90, 3) := by decide +kernel
theorem d_19_8 : decode m19.2.1 8 = .ok (.invokevirtual 98, 3) := by decide +kernel
theorem d_19_11 : decode m19.2.1 11 = .ok (.istore_n 1, 1) := by decide +kernel
theorem d_19_12 : decode m19.2.1 12 = .ok (.aload_n 0, 1) := by decide +kernel
theorem d_19_13 : decode m19.2.1 13 = .ok (.iconst 0, 1) := by decide +kernel
theorem d_19_14 : decode m19.2.1 14 = .ok (.putfield 90, 3) := by decide +kernel
theorem d_19_17 : decode m19.2.1 17 = .ok (.iload_n 1, 1) := by decide +kernel
theorem d_19_18 : decode m19.2.1 18 = .ok (.ifCond .ne 5, 3) := by decide +kernel
theorem d_19_21 : decode m19.2.1 21 = .ok (.iconst (-1), 1) := by decide +kernel
theorem d_19_22 : decode m19.2.1 22 = .ok (.ireturn, 1) := by decide +kernel
theorem d_19_23 : decode m19.2.1 23 = .ok (.aload_n 0, 1) := by decide +kernel
theorem d_19_24 : decode m19.2.1 24 = .ok (.aload_n 0, 1) := by decide +kernel
theorem d_19_25 : decode m19.2.1 25 = .ok (.getfield 18, 3) := by decide +kernel
theorem d_19_28 : decode m19.2.1 28 = .ok (.aload_n 0, 1) := by decide +kernel
theorem d_19_29 : decode m19.2.1 29 = .ok (.getfield 25, 3) := by decide +kernel
theorem d_19_32 : decode m19.2.1 32 = .ok (.invokevirtual 102, 3) := by decide +kernel
theorem d_19_35 : decode m19.2.1 35 = .ok (.putfield 25, 3) := by decide +kernel
theorem d_19_38 : decode m19.2.1 38 = .ok (.aload_n 0, 1) := by decide +kernel
theorem d_19_39 : decode m19.2.1 39 = .ok (.getfield 32, 3) := by decide +kernel
theorem d_19_42 : decode m19.2.1 42 = .ok (.aload_n 0, 1) := by decide +kernel
theorem d_19_43 : decode m19.2.1 43 = .ok (.getfield 25, 3) := by decide +kernel
theorem d_19_46 : decode m19.2.1 46 = .ok (.invokevirtual 86, 3) := by decide +kernel
theorem d_19_49 : decode m19.2.1 49 = .ok (.aload_n 0, 1) := by decide +kernel
theorem d_19_50 : decode m19.2.1 50 = .ok (.getfield 43, 3) := by decide +kernel
theorem d_19_53 : decode m19.2.1 53 = .ok (.invokevirtual 106, 3) := by decide +kernel
theorem d_19_56 : decode m19.2.1 56 = .ok (.aload_n 0, 1) := by decide +kernel
theorem d_19_57 : decode m19.2.1 57 = .ok (.getfield 79, 3) := by decide +kernel
theorem d_19_60 : decode m19.2.1 60 = .ok (.invokevirtual 109, 3) := by decide +kernel
theorem d_19_63 : decode m19.2.1 63 = .ok (.aload_n 0, 1) := by decide +kernel
theorem d_19_64 : decode m19.2.1 64 = .ok (.iconst 0, 1) := by decide +kernel
theorem d_19_65 : decode m19.2.1 65 = .ok (.putfield 110, 3) := by decide +kernel
theorem d_19_68 : decode m19.2.1 68 = .ok (.iconst 0, 1) := by decide +kernel
theorem d_19_69 : decode m19.2.1 69 = .ok (.istore_n 2, 1) := by decide +kernel
theorem d_19_70 : decode m19.2.1 70 = .ok (.iload_n 2, 1) := by decide +kernel
theorem d_19_71 : decode m19.2.1 71 = .ok (.aload_n 0, 1) := by decide +kernel
theorem d_19_72 : decode m19.2.1 72 = .ok (.getfield 36, 3) := by decide +kernel
theorem d_19_75 : decode m19.2.1 75 = .ok (.arraylength, 1) := by decide +kernel
theorem d_19_76 : decode m19.2.1 76 = .ok (.if_icmp .ge 19, 3) := by decide +kernel
theorem d_19_79 : decode m19.2.1 79 = .ok (.aload_n 0, 1) := by decide +kernel
theorem d_19_80 : decode m19.2.1 80 = .ok (.getfield 36, 3) := by decide +kernel
theorem d_19_83 : decode m19.2.1 83 = .ok (.iload_n 2, 1) := by decide +kernel
theorem d_19_84 : decode m19.2.1 84 = .ok (.aaload, 1) := by decide +kernel
theorem d_19_85 : decode m19.2.1 85 = .ok (.iconst 0, 1) := by decide +kernel
theorem d_19_86 : decode m19.2.1 86 = .ok (.putfield 113, 3) := by decide +kernel
theorem d_19_89 : decode m19.2.1 89 = .ok (.iinc 2 1, 3) := by decide +kernel
theorem d_19_92 : decode m19.2.1 92 = .ok (.goto (-22), 3) := by decide +kernel
theorem d_19_95 : decode m19.2.1 95 = .ok (.aload_n 0, 1) := by decide +kernel
theorem d_19_96 : decode m19.2.1 96 = .ok (.getfield 25, 3) := by decide +kernel
theorem d_19_99 : decode m19.2.1 99 = .ok (.getfield 117, 3) := by decide +kernel
theorem d_19_102 : decode m19.2.1 102 = .ok (.ireturn, 1) := by decide +kernel
theorem d_85_0 : decode m85.2.1 0 = .ok (.iload_n 1, 1) := by decide +kernel
theorem d_85_1 : decode m85.2.1 1 = .ok (.lookupswitch 43 #[(0, 27), (1, 35)], 27) := by decide +kernel
theorem d_85_28 : decode m85.2.1 28 = .ok (.aload_n 0, 1) := by decide +kernel
theorem d_85_29 : decode m85.2.1 29 = .ok (.getfield 18, 3) := by decide +kernel
theorem d_85_32 : decode m85.2.1 32 = .ok (.getfield 120, 3) := by decide +kernel
theorem d_85_35 : decode m85.2.1 35 = .ok (.ireturn, 1) := by decide +kernel
theorem d_85_36 : decode m85.2.1 36 = .ok (.aload_n 0, 1) := by decide +kernel
theorem d_85_37 : decode m85.2.1 37 = .ok (.getfield 18, 3) := by decide +kernel
theorem d_85_40 : decode m85.2.1 40 = .ok (.getfield 123, 3) := by decide +kernel
theorem d_85_43 : decode m85.2.1 43 = .ok (.ireturn, 1) := by decide +kernel
theorem d_85_44 : decode m85.2.1 44 = .ok (.iconst (-1), 1) := by decide +kernel
theorem d_85_45 : decode m85.2.1 45 = .ok (.ireturn, 1) := by decide +kernel
theorem d_86_0 : decode m86.2.1 0 = .ok (.aload_n 0, 1) := by decide +kernel
theorem d_86_1 : decode m86.2.1 1 = .ok (.iload_n 1, 1) := by decide +kernel
theorem d_86_2 : decode m86.2.1 2 = .ok (.invokevirtual 126, 3) := by decide +kernel
theorem d_86_5 : decode m86.2.1 5 = .ok (.ifCond .ne 5, 3) := by decide +kernel
theorem d_86_8 : decode m86.2.1 8 = .ok (.iconst (-1), 1) := by decide +kernel
theorem d_86_9 : decode m86.2.1 9 = .ok (.ireturn, 1) := by decide +kernel
theorem d_86_10 : decode m86.2.1 10 = .ok (.iload_n 2, 1) := by decide +kernel
theorem d_86_11 : decode m86.2.1 11 = .ok (.tableswitch 117 0 7 #[45, 55, 65, 75, 85, 95, 105, 111], 45) := by decide +kernel
theorem d_86_56 : decode m86.2.1 56 = .ok (.aload_n 0, 1) := by decide +kernel
theorem d_86_57 : decode m86.2.1 57 = .ok (.getfield 25, 3) := by decide +kernel
theorem d_86_60 : decode m86.2.1 60 = .ok (.getfield 129, 3) := by decide +kernel
theorem d_86_63 : decode m86.2.1 63 = .ok (.iload_n 1, 1) := by decide +kernel
theorem d_86_64 : decode m86.2.1 64 = .ok (.iaload, 1) := by decide +kernel
theorem d_86_65 : decode m86.2.1 65 = .ok (.ireturn, 1) := by decide +kernel
theorem d_86_66 : decode m86.2.1 66 = .ok (.aload_n 0, 1) := by decide +kernel
theorem d_86_67 : decode m86.2.1 67 = .ok (.getfield 25, 3) := by decide +kernel
theorem d_86_70 : decode m86.2.1 70 = .ok (.getfield 132, 3) := by decide +kernel
theorem d_86_73 : decode m86.2.1 73 = .ok (.iload_n 1, 1) := by decide +kernel
theorem d_86_74 : decode m86.2.1 74 = .ok (.iaload, 1) := by decide +kernel
theorem d_86_75 : decode m86.2.1 75 = .ok (.ireturn, 1) := by decide +kernel
theorem d_86_76 : decode m86.2.1 76 = .ok (.aload_n 0, 1) := by decide +kernel
theorem d_86_77 : decode m86.2.1 77 = .ok (.getfield 32, 3) := by decide +kernel
theorem d_86_80 : decode m86.2.1 80 = .ok (.getfield 135, 3) := by decide +kernel
theorem d_86_83 : decode m86.2.1 83 = .ok (.iload_n 1, 1) := by decide +kernel
theorem d_86_84 : decode m86.2.1 84 = .ok (.iaload, 1) := by decide +kernel
theorem d_86_85 : decode m86.2.1 85 = .ok (.ireturn, 1) := by decide +kernel
theorem d_86_86 : decode m86.2.1 86 = .ok (.aload_n 0, 1) := by decide +kernel
theorem d_86_87 : decode m86.2.1 87 = .ok (.getfield 32, 3) := by decide +kernel
theorem d_86_90 : decode m86.2.1 90 = .ok (.getfield 138, 3) := by decide +kernel
theorem d_86_93 : decode m86.2.1 93 = .ok (.iload_n 1, 1) := by decide +kernel
theorem d_86_94 : decode m86.2.1 94 = .ok (.iaload, 1) := by decide +kernel
theorem d_86_95 : decode m86.2.1 95 = .ok (.ireturn, 1) := by decide +kernel
theorem d_86_96 : decode m86.2.1 96 = .ok (.aload_n 0, 1) := by decide +kernel
theorem d_86_97 : decode m86.2.1 97 = .ok (.getfield 32, 3) := by decide +kernel
theorem d_86_100 : decode m86.2.1 100 = .ok (.getfield 141, 3) := by decide +kernel
theorem d_86_103 : decode m86.2.1 103 = .ok (.iload_n 1, 1) := by decide +kernel
theorem d_86_104 : decode m86.2.1 104 = .ok (.iaload, 1) := by decide +kernel
theorem d_86_105 : decode m86.2.1 105 = .ok (.ireturn, 1) := by decide +kernel
theorem d_86_106 : decode m86.2.1 106 = .ok (.aload_n 0, 1) := by decide +kernel
theorem d_86_107 : decode m86.2.1 107 = .ok (.getfield 32, 3) := by decide +kernel
theorem d_86_110 : decode m86.2.1 110 = .ok (.getfield 144, 3) := by decide +kernel
theorem d_86_113 : decode m86.2.1 113 = .ok (.iload_n 1, 1) := by decide +kernel
theorem d_86_114 : decode m86.2.1 114 = .ok (.iaload, 1) := by decide +kernel
theorem d_86_115 : decode m86.2.1 115 = .ok (.ireturn, 1) := by decide +kernel
theorem d_86_116 : decode m86.2.1 116 = .ok (.aload_n 0, 1) := by decide +kernel
theorem d_86_117 : decode m86.2.1 117 = .ok (.iload_n 1, 1) := by decide +kernel
theorem d_86_118 : decode m86.2.1 118 = .ok (.invokevirtual 147, 3) := by decide +kernel
theorem d_86_121 : decode m86.2.1 121 = .ok (.ireturn, 1) := by decide +kernel
theorem d_86_122 : decode m86.2.1 122 = .ok (.aload_n 0, 1) := by decide +kernel
theorem d_86_123 : decode m86.2.1 123 = .ok (.iload_n 1, 1) := by decide +kernel
theorem d_86_124 : decode m86.2.1 124 = .ok (.invokevirtual 151, 3) := by decide +kernel
theorem d_86_127 : decode m86.2.1 127 = .ok (.ireturn, 1) := by decide +kernel
theorem d_86_128 : decode m86.2.1 128 = .ok (.iconst (-1), 1) := by decide +kernel
theorem d_86_129 : decode m86.2.1 129 = .ok (.ireturn, 1) := by decide +kernel
theorem d_87_0 : decode m87.2.1 0 = .ok (.iload_n 1, 1) := by decide +kernel
theorem d_87_1 : decode m87.2.1 1 = .ok (.ifCond .lt 18, 3) := by decide +kernel
theorem d_87_4 : decode m87.2.1 4 = .ok (.iload_n 1, 1) := by decide +kernel
theorem d_87_5 : decode m87.2.1 5 = .ok (.aload_n 0, 1) := by decide +kernel
theorem d_87_6 : decode m87.2.1 6 = .ok (.getfield 25, 3) := by decide +kernel
theorem d_87_9 : decode m87.2.1 9 = .ok (.getfield 117, 3) := by decide +kernel
theorem d_87_12 : decode m87.2.1 12 = .ok (.if_icmp .ge 7, 3) := by decide +kernel
theorem d_87_15 : decode m87.2.1 15 = .ok (.iconst 1, 1) := by decide +kernel
theorem d_87_16 : decode m87.2.1 16 = .ok (.goto 4, 3) := by decide +kernel
theorem d_87_19 : decode m87.2.1 19 = .ok (.iconst 0, 1) := by decide +kernel
theorem d_87_20 : decode m87.2.1 20 = .ok (.ireturn, 1) := by decide +kernel
theorem d_88_0 : decode m88.2.1 0 = .ok (.aload_n 0, 1) := by decide +kernel
theorem d_88_1 : decode m88.2.1 1 = .ok (.getfield 25, 3) := by decide +kernel
theorem d_88_4 : decode m88.2.1 4 = .ok (.iload_n 1, 1) := by decide +kernel
theorem d_88_5 : decode m88.2.1 5 = .ok (.invokevirtual 203, 3) := by decide +kernel
theorem d_88_8 : decode m88.2.1 8 = .ok (.istore_n 2, 1) := by decide +kernel
theorem d_88_9 : decode m88.2.1 9 = .ok (.aload_n 0, 1) := by decide +kernel
theorem d_88_10 : decode m88.2.1 10 = .ok (.getfield 32, 3) := by decide +kernel
theorem d_88_13 : decode m88.2.1 13 = .ok (.getfield 141, 3) := by decide +kernel
theorem d_88_16 : decode m88.2.1 16 = .ok (.iload_n 1, 1) := by decide +kernel
theorem d_88_17 : decode m88.2.1 17 = .ok (.iaload, 1) := by decide +kernel
theorem d_88_18 : decode m88.2.1 18 = .ok (.istore_n 3, 1) := by decide +kernel
theorem d_88_19 : decode m88.2.1 19 = .ok (.aload_n 0, 1) := by decide +kernel
theorem d_88_20 : decode m88.2.1 20 = .ok (.iload_n 1, 1) := by decide +kernel
theorem d_88_21 : decode m88.2.1 21 = .ok (.invokevirtual 151, 3) := by decide +kernel
theorem d_88_24 : decode m88.2.1 24 = .ok (.invokestatic 206, 3) := by decide +kernel
theorem d_88_27 : decode m88.2.1 27 = .ok (.istore 4, 2) := by decide +kernel
theorem d_88_29 : decode m88.2.1 29 = .ok (.iload_n 3, 1) := by decide +kernel
theorem d_88_30 : decode m88.2.1 30 = .ok (.iload_n 2, 1) := by decide +kernel
theorem d_88_31 : decode m88.2.1 31 = .ok (.iconst 5, 1) := by decide +kernel
theorem d_88_32 : decode m88.2.1 32 = .ok (.imul, 1) := by decide +kernel
theorem d_88_33 : decode m88.2.1 33 = .ok (.iadd, 1) := by decide +kernel
theorem d_88_34 : decode m88.2.1 34 = .ok (.iload 4, 2) := by decide +kernel
theorem d_88_36 : decode m88.2.1 36 = .ok (.isub, 1) := by decide +kernel
theorem d_88_37 : decode m88.2.1 37 = .ok (.istore 5, 2) := by decide +kernel
theorem d_88_39 : decode m88.2.1 39 = .ok (.aload_n 0, 1) := by decide +kernel
theorem d_88_40 : decode m88.2.1 40 = .ok (.getfield 25, 3) := by decide +kernel
theorem d_88_43 : decode m88.2.1 43 = .ok (.getfield 211, 3) := by decide +kernel
theorem d_88_46 : decode m88.2.1 46 = .ok (.invokevirtual 215, 3) := by decide +kernel
theorem d_88_49 : decode m88.2.1 49 = .ok (.ifCond .eq 46, 3) := by decide +kernel
theorem d_88_52 : decode m88.2.1 52 = .ok (.aload_n 0, 1) := by decide +kernel
theorem d_88_53 : decode m88.2.1 53 = .ok (.getfield 25, 3) := by decide +kernel
theorem d_88_56 : decode m88.2.1 56 = .ok (.getfield 211, 3) := by decide +kernel
theorem d_88_59 : decode m88.2.1 59 = .ok (.iload_n 2, 1) := by decide +kernel
theorem d_88_60 : decode m88.2.1 60 = .ok (.aload_n 0, 1) := by decide +kernel
theorem d_88_61 : decode m88.2.1 61 = .ok (.getfield 32, 3) := by decide +kernel
theorem d_88_64 : decode m88.2.1 64 = .ok (.getfield 135, 3) := by decide +kernel
theorem d_88_67 : decode m88.2.1 67 = .ok (.iload_n 1, 1) := by decide +kernel
theorem d_88_68 : decode m88.2.1 68 = .ok (.iaload, 1) := by decide +kernel
theorem d_88_69 : decode m88.2.1 69 = .ok (.aload_n 0, 1) := by decide +kernel
theorem d_88_70 : decode m88.2.1 70 = .ok (.getfield 32, 3) := by decide +kernel
theorem d_88_73 : decode m88.2.1 73 = .ok (.getfield 138, 3) := by decide +kernel
theorem d_88_76 : decode m88.2.1 76 = .ok (.iload_n 1, 1) := by decide +kernel
theorem d_88_77 : decode m88.2.1 77 = .ok (.iaload, 1) := by decide +kernel
theorem d_88_78 : decode m88.2.1 78 = .ok (.iload_n 3, 1) := by decide +kernel
theorem d_88_79 : decode m88.2.1 79 = .ok (.iload 4, 2) := by decide +kernel
theorem d_88_81 : decode m88.2.1 81 = .ok (.aload_n 0, 1) := by decide +kernel
theorem d_88_82 : decode m88.2.1 82 = .ok (.getfield 25, 3) := by decide +kernel
theorem d_88_85 : decode m88.2.1 85 = .ok (.getfield 132, 3) := by decide +kernel
theorem d_88_88 : decode m88.2.1 88 = .ok (.iload_n 1, 1) := by decide +kernel
theorem d_88_89 : decode m88.2.1 89 = .ok (.iaload, 1) := by decide +kernel
theorem d_88_90 : decode m88.2.1 90 = .ok (.invokevirtual 221, 3) := by decide +kernel
theorem d_88_93 : decode m88.2.1 93 = .ok (.istore 5, 2) := by decide +kernel
theorem d_88_95 : decode m88.2.1 95 = .ok (.iconst 0, 1) := by decide +kernel
theorem d_88_96 : decode m88.2.1 96 = .ok (.sipush 999, 3) := by decide +kernel
theorem d_88_99 : decode m88.2.1 99 = .ok (.iload 5, 2) := by decide +kernel
theorem d_88_101 : decode m88.2.1 101 = .ok (.invokestatic 225, 3) := by decide +kernel
theorem d_88_104 : decode m88.2.1 104 = .ok (.invokestatic 230, 3) := by decide +kernel
theorem d_88_107 : decode m88.2.1 107 = .ok (.ireturn, 1) := by decide +kernel
theorem d_90_0 : decode m90.2.1 0 = .ok (.iconst 0, 1) := by decide +kernel
theorem d_90_1 : decode m90.2.1 1 = .ok (.istore_n 2, 1) := by decide +kernel
theorem d_90_2 : decode m90.2.1 2 = .ok (.iconst 0, 1) := by decide +kernel
theorem d_90_3 : decode m90.2.1 3 = .ok (.istore_n 3, 1) := by decide +kernel
theorem d_90_4 : decode m90.2.1 4 = .ok (.iload_n 3, 1) := by decide +kernel
theorem d_90_5 : decode m90.2.1 5 = .ok (.aload_n 0, 1) := by decide +kernel
theorem d_90_6 : decode m90.2.1 6 = .ok (.getfield 25, 3) := by decide +kernel
theorem d_90_9 : decode m90.2.1 9 = .ok (.getfield 117, 3) := by decide +kernel
theorem d_90_12 : decode m90.2.1 12 = .ok (.if_icmp .ge 78, 3) := by decide +kernel
theorem d_90_15 : decode m90.2.1 15 = .ok (.aload_n 0, 1) := by decide +kernel
theorem d_90_16 : decode m90.2.1 16 = .ok (.getfield 25, 3) := by decide +kernel
theorem d_90_19 : decode m90.2.1 19 = .ok (.getfield 132, 3) := by decide +kernel
theorem d_90_22 : decode m90.2.1 22 = .ok (.iload_n 3, 1) := by decide +kernel
theorem d_90_23 : decode m90.2.1 23 = .ok (.iaload, 1) := by decide +kernel
theorem d_90_24 : decode m90.2.1 24 = .ok (.aload_n 0, 1) := by decide +kernel
theorem d_90_25 : decode m90.2.1 25 = .ok (.getfield 25, 3) := by decide +kernel
theorem d_90_28 : decode m90.2.1 28 = .ok (.getfield 132, 3) := by decide +kernel
theorem d_90_31 : decode m90.2.1 31 = .ok (.iload_n 1, 1) := by decide +kernel
theorem d_90_32 : decode m90.2.1 32 = .ok (.iaload, 1) := by decide +kernel
theorem d_90_33 : decode m90.2.1 33 = .ok (.if_icmp .ne 7, 3) := by decide +kernel
theorem d_90_36 : decode m90.2.1 36 = .ok (.iconst 1, 1) := by decide +kernel
theorem d_90_37 : decode m90.2.1 37 = .ok (.goto 4, 3) := by decide +kernel
theorem d_90_40 : decode m90.2.1 40 = .ok (.iconst 0, 1) := by decide +kernel
theorem d_90_41 : decode m90.2.1 41 = .ok (.istore 4, 2) := by decide +kernel
theorem d_90_43 : decode m90.2.1 43 = .ok (.iload_n 3, 1) := by decide +kernel
theorem d_90_44 : decode m90.2.1 44 = .ok (.iload_n 1, 1) := by decide +kernel
theorem d_90_45 : decode m90.2.1 45 = .ok (.if_icmp .eq 39, 3) := by decide +kernel
theorem d_90_48 : decode m90.2.1 48 = .ok (.iload 4, 2) := by decide +kernel
theorem d_90_50 : decode m90.2.1 50 = .ok (.ifCond .eq 34, 3) := by decide +kernel
theorem d_90_53 : decode m90.2.1 53 = .ok (.aload_n 0, 1) := by decide +kernel
theorem d_90_54 : decode m90.2.1 54 = .ok (.getfield 32, 3) := by decide +kernel
theorem d_90_57 : decode m90.2.1 57 = .ok (.getfield 135, 3) := by decide +kernel
theorem d_90_60 : decode m90.2.1 60 = .ok (.iload_n 3, 1) := by decide +kernel
theorem d_90_61 : decode m90.2.1 61 = .ok (.iaload, 1) := by decide +kernel
theorem d_90_62 : decode m90.2.1 62 = .ok (.aload_n 0, 1) := by decide +kernel
theorem d_90_63 : decode m90.2.1 63 = .ok (.getfield 32, 3) := by decide +kernel
theorem d_90_66 : decode m90.2.1 66 = .ok (.getfield 135, 3) := by decide +kernel
theorem d_90_69 : decode m90.2.1 69 = .ok (.iload_n 1, 1) := by decide +kernel
theorem d_90_70 : decode m90.2.1 70 = .ok (.iaload, 1) := by decide +kernel
theorem d_90_71 : decode m90.2.1 71 = .ok (.isub, 1) := by decide +kernel
theorem d_90_72 : decode m90.2.1 72 = .ok (.bipush 12, 2) := by decide +kernel
theorem d_90_74 : decode m90.2.1 74 = .ok (.irem, 1) := by decide +kernel
theorem d_90_75 : decode m90.2.1 75 = .ok (.ifCond .ne 9, 3) := by decide +kernel
theorem d_90_78 : decode m90.2.1 78 = .ok (.iload_n 2, 1) := by decide +kernel
theorem d_90_79 : decode m90.2.1 79 = .ok (.iconst 1, 1) := by decide +kernel
theorem d_90_80 : decode m90.2.1 80 = .ok (.iload_n 3, 1) := by decide +kernel
theorem d_90_81 : decode m90.2.1 81 = .ok (.ishl, 1) := by decide +kernel
theorem d_90_82 : decode m90.2.1 82 = .ok (.ior, 1) := by decide +kernel
theorem d_90_83 : decode m90.2.1 83 = .ok (.istore_n 2, 1) := by decide +kernel
theorem d_90_84 : decode m90.2.1 84 = .ok (.iinc 3 1, 3) := by decide +kernel
theorem d_90_87 : decode m90.2.1 87 = .ok (.goto (-83), 3) := by decide +kernel
theorem d_90_90 : decode m90.2.1 90 = .ok (.iload_n 2, 1) := by decide +kernel
theorem d_90_91 : decode m90.2.1 91 = .ok (.ireturn, 1) := by decide +kernel
theorem d_97_0 : decode m97.2.1 0 = .ok (.iload_n 1, 1) := by decide +kernel
theorem d_97_1 : decode m97.2.1 1 = .ok (.ifCond .lt 14, 3) := by decide +kernel
theorem d_97_4 : decode m97.2.1 4 = .ok (.iload_n 1, 1) := by decide +kernel
theorem d_97_5 : decode m97.2.1 5 = .ok (.aload_n 0, 1) := by decide +kernel
theorem d_97_6 : decode m97.2.1 6 = .ok (.getfield 25, 3) := by decide +kernel
theorem d_97_9 : decode m97.2.1 9 = .ok (.getfield 154, 3) := by decide +kernel
theorem d_97_12 : decode m97.2.1 12 = .ok (.if_icmp .lt 5, 3) := by decide +kernel
theorem d_97_15 : decode m97.2.1 15 = .ok (.iconst (-1), 1) := by decide +kernel
theorem d_97_16 : decode m97.2.1 16 = .ok (.ireturn, 1) := by decide +kernel
theorem d_97_17 : decode m97.2.1 17 = .ok (.iload_n 2, 1) := by decide +kernel
theorem d_97_18 : decode m97.2.1 18 = .ok (.tableswitch 59 0 2 #[26, 36, 45], 26) := by decide +kernel
theorem d_97_44 : decode m97.2.1 44 = .ok (.aload_n 0, 1) := by decide +kernel
theorem d_97_45 : decode m97.2.1 45 = .ok (.getfield 25, 3) := by decide +kernel
theorem d_97_48 : decode m97.2.1 48 = .ok (.getfield 157, 3) := by decide +kernel
theorem d_97_51 : decode m97.2.1 51 = .ok (.iload_n 1, 1) := by decide +kernel
theorem d_97_52 : decode m97.2.1 52 = .ok (.iaload, 1) := by decide +kernel
theorem d_97_53 : decode m97.2.1 53 = .ok (.ireturn, 1) := by decide +kernel
theorem d_97_54 : decode m97.2.1 54 = .ok (.aload_n 0, 1) := by decide +kernel
theorem d_97_55 : decode m97.2.1 55 = .ok (.getfield 25, 3) := by decide +kernel
theorem d_97_58 : decode m97.2.1 58 = .ok (.iload_n 1, 1) := by decide +kernel
theorem d_97_59 : decode m97.2.1 59 = .ok (.invokevirtual 160, 3) := by decide +kernel
theorem d_97_62 : decode m97.2.1 62 = .ok (.ireturn, 1) := by decide +kernel
theorem d_97_63 : decode m97.2.1 63 = .ok (.aload_n 0, 1) := by decide +kernel
theorem d_97_64 : decode m97.2.1 64 = .ok (.getfield 25, 3) := by decide +kernel
theorem d_97_67 : decode m97.2.1 67 = .ok (.iload_n 1, 1) := by decide +kernel
theorem d_97_68 : decode m97.2.1 68 = .ok (.invokevirtual 160, 3) := by decide +kernel
theorem d_97_71 : decode m97.2.1 71 = .ok (.aload_n 0, 1) := by decide +kernel
theorem d_97_72 : decode m97.2.1 72 = .ok (.invokevirtual 163, 3) := by decide +kernel
theorem d_97_75 : decode m97.2.1 75 = .ok (.iand, 1) := by decide +kernel
theorem d_97_76 : decode m97.2.1 76 = .ok (.ireturn, 1) := by decide +kernel
theorem d_97_77 : decode m97.2.1 77 = .ok (.iconst (-1), 1) := by decide +kernel
theorem d_97_78 : decode m97.2.1 78 = .ok (.ireturn, 1) := by decide +kernel
theorem d_99_0 : decode m99.2.1 0 = .ok (.aload_n 0, 1) := by decide +kernel
theorem d_99_1 : decode m99.2.1 1 = .ok (.getfield 32, 3) := by decide +kernel
theorem d_99_4 : decode m99.2.1 4 = .ok (.iconst 1, 1) := by decide +kernel
theorem d_99_5 : decode m99.2.1 5 = .ok (.invokevirtual 200, 3) := by decide +kernel
theorem d_99_8 : decode m99.2.1 8 = .ok (.aload_n 0, 1) := by decide +kernel
theorem d_99_9 : decode m99.2.1 9 = .ok (.getfield 32, 3) := by decide +kernel
theorem d_99_12 : decode m99.2.1 12 = .ok (.iconst 2, 1) := by decide +kernel
theorem d_99_13 : decode m99.2.1 13 = .ok (.invokevirtual 200, 3) := by decide +kernel
theorem d_99_16 : decode m99.2.1 16 = .ok (.ior, 1) := by decide +kernel
theorem d_99_17 : decode m99.2.1 17 = .ok (.ireturn, 1) := by decide +kernel
theorem d_101_0 : decode m101.2.1 0 = .ok (.aload_n 0, 1) := by decide +kernel
theorem d_101_1 : decode m101.2.1 1 = .ok (.iload_n 1, 1) := by decide +kernel
theorem d_101_2 : decode m101.2.1 2 = .ok (.invokevirtual 167, 3) := by decide +kernel
theorem d_101_5 : decode m101.2.1 5 = .ok (.ifCond .eq 10, 3) := by decide +kernel
theorem d_101_8 : decode m101.2.1 8 = .ok (.iload_n 2, 1) := by decide +kernel
theorem d_101_9 : decode m101.2.1 9 = .ok (.invokestatic 170, 3) := by decide +kernel
theorem d_101_12 : decode m101.2.1 12 = .ok (.ifCond .ne 5, 3) := by decide +kernel
theorem d_101_15 : decode m101.2.1 15 = .ok (.iconst (-1), 1) := by decide +kernel
theorem d_101_16 : decode m101.2.1 16 = .ok (.ireturn, 1) := by decide +kernel
theorem d_101_17 : decode m101.2.1 17 = .ok (.aload_n 0, 1) := by decide +kernel
theorem d_101_18 : decode m101.2.1 18 = .ok (.invokevirtual 173, 3) := by decide +kernel
theorem d_101_21 : decode m101.2.1 21 = .ok (.aload_n 0, 1) := by decide +kernel
theorem d_101_22 : decode m101.2.1 22 = .ok (.getfield 50, 3) := by decide +kernel
theorem d_101_25 : decode m101.2.1 25 = .ok (.iload_n 2, 1) := by decide +kernel
theorem d_101_26 : decode m101.2.1 26 = .ok (.iload_n 1, 1) := by decide +kernel
theorem d_101_27 : decode m101.2.1 27 = .ok (.invokevirtual 176, 3) := by decide +kernel
theorem d_101_30 : decode m101.2.1 30 = .ok (.ireturn, 1) := by decide +kernel
theorem d_102_0 : decode m102.2.1 0 = .ok (.iload_n 1, 1) := by decide +kernel
theorem d_102_1 : decode m102.2.1 1 = .ok (.ifCond .lt 18, 3) := by decide +kernel
theorem d_102_4 : decode m102.2.1 4 = .ok (.iload_n 1, 1) := by decide +kernel
theorem d_102_5 : decode m102.2.1 5 = .ok (.aload_n 0, 1) := by decide +kernel
theorem d_102_6 : decode m102.2.1 6 = .ok (.getfield 25, 3) := by decide +kernel
theorem d_102_9 : decode m102.2.1 9 = .ok (.getfield 193, 3) := by decide +kernel
theorem d_102_12 : decode m102.2.1 12 = .ok (.if_icmp .ge 7, 3) := by decide +kernel
theorem d_102_15 : decode m102.2.1 15 = .ok (.iconst 1, 1) := by decide +kernel
theorem d_102_16 : decode m102.2.1 16 = .ok (.goto 4, 3) := by decide +kernel
theorem d_102_19 : decode m102.2.1 19 = .ok (.iconst 0, 1) := by decide +kernel
theorem d_102_20 : decode m102.2.1 20 = .ok (.ireturn, 1) := by decide +kernel
theorem d_103_0 : decode m103.2.1 0 = .ok (.iload_n 0, 1) := by decide +kernel
theorem d_103_1 : decode m103.2.1 1 = .ok (.iconst 1, 1) := by decide +kernel
theorem d_103_2 : decode m103.2.1 2 = .ok (.if_icmp .eq 8, 3) := by decide +kernel
theorem d_103_5 : decode m103.2.1 5 = .ok (.iload_n 0, 1) := by decide +kernel
theorem d_103_6 : decode m103.2.1 6 = .ok (.iconst 2, 1) := by decide +kernel
theorem d_103_7 : decode m103.2.1 7 = .ok (.if_icmp .ne 7, 3) := by decide +kernel
theorem d_103_10 : decode m103.2.1 10 = .ok (.iconst 1, 1) := by decide +kernel
theorem d_103_11 : decode m103.2.1 11 = .ok (.goto 4, 3) := by decide +kernel
theorem d_103_14 : decode m103.2.1 14 = .ok (.iconst 0, 1) := by decide +kernel
theorem d_103_15 : decode m103.2.1 15 = .ok (.ireturn, 1) := by decide +kernel
theorem d_104_0 : decode m104.2.1 0 = .ok (.aload_n 0, 1) := by decide +kernel
theorem d_104_1 : decode m104.2.1 1 = .ok (.getfield 50, 3) := by decide +kernel
theorem d_104_4 : decode m104.2.1 4 = .ok (.aload_n 0, 1) := by decide +kernel
theorem d_104_5 : decode m104.2.1 5 = .ok (.getfield 25, 3) := by decide +kernel
theorem d_104_8 : decode m104.2.1 8 = .ok (.aload_n 0, 1) := by decide +kernel
theorem d_104_9 : decode m104.2.1 9 = .ok (.getfield 32, 3) := by decide +kernel
theorem d_104_12 : decode m104.2.1 12 = .ok (.invokevirtual 196, 3) := by decide +kernel
theorem d_104_15 : decode m104.2.1 15 = .ok (.return_, 1) := by decide +kernel
theorem d_111_0 : decode m111.2.1 0 = .ok (.aload_n 0, 1) := by decide +kernel
theorem d_111_1 : decode m111.2.1 1 = .ok (.iload_n 1, 1) := by decide +kernel
theorem d_111_2 : decode m111.2.1 2 = .ok (.invokevirtual 167, 3) := by decide +kernel
theorem d_111_5 : decode m111.2.1 5 = .ok (.ifCond .ne 5, 3) := by decide +kernel
theorem d_111_8 : decode m111.2.1 8 = .ok (.iconst (-1), 1) := by decide +kernel
theorem d_111_9 : decode m111.2.1 9 = .ok (.ireturn, 1) := by decide +kernel
theorem d_111_10 : decode m111.2.1 10 = .ok (.aload_n 0, 1) := by decide +kernel
theorem d_111_11 : decode m111.2.1 11 = .ok (.invokevirtual 173, 3) := by decide +kernel
theorem d_111_14 : decode m111.2.1 14 = .ok (.aload_n 0, 1) := by decide +kernel
theorem d_111_15 : decode m111.2.1 15 = .ok (.getfield 50, 3) := by decide +kernel
theorem d_111_18 : decode m111.2.1 18 = .ok (.iload_n 1, 1) := by decide +kernel
theorem d_111_19 : decode m111.2.1 19 = .ok (.invokevirtual 180, 3) := by decide +kernel
theorem d_111_22 : decode m111.2.1 22 = .ok (.ireturn, 1) := by decide +kernel
theorem d_113_0 : decode m113.2.1 0 = .ok (.aload_n 0, 1) := by decide +kernel
theorem d_113_1 : decode m113.2.1 1 = .ok (.iload_n 1, 1) := by decide +kernel
theorem d_113_2 : decode m113.2.1 2 = .ok (.invokevirtual 167, 3) := by decide +kernel
theorem d_113_5 : decode m113.2.1 5 = .ok (.ifCond .ne 5, 3) := by decide +kernel
theorem d_113_8 : decode m113.2.1 8 = .ok (.iconst (-1), 1) := by decide +kernel
theorem d_113_9 : decode m113.2.1 9 = .ok (.ireturn, 1) := by decide +kernel
theorem d_113_10 : decode m113.2.1 10 = .ok (.aload_n 0, 1) := by decide +kernel
theorem d_113_11 : decode m113.2.1 11 = .ok (.invokevirtual 173, 3) := by decide +kernel
theorem d_113_14 : decode m113.2.1 14 = .ok (.aload_n 0, 1) := by decide +kernel
theorem d_113_15 : decode m113.2.1 15 = .ok (.getfield 50, 3) := by decide +kernel
theorem d_113_18 : decode m113.2.1 18 = .ok (.aload_n 0, 1) := by decide +kernel
theorem d_113_19 : decode m113.2.1 19 = .ok (.getfield 50, 3) := by decide +kernel
theorem d_113_22 : decode m113.2.1 22 = .ok (.getfield 183, 3) := by decide +kernel
theorem d_113_25 : decode m113.2.1 25 = .ok (.aload_n 0, 1) := by decide +kernel
theorem d_113_26 : decode m113.2.1 26 = .ok (.getfield 50, 3) := by decide +kernel
theorem d_113_29 : decode m113.2.1 29 = .ok (.getfield 186, 3) := by decide +kernel
theorem d_113_32 : decode m113.2.1 32 = .ok (.iload_n 1, 1) := by decide +kernel
theorem d_113_33 : decode m113.2.1 33 = .ok (.invokevirtual 189, 3) := by decide +kernel
theorem d_113_36 : decode m113.2.1 36 = .ok (.ireturn, 1) := by decide +kernel
theorem d_121_0 : decode m121.2.1 0 = .ok (.aload_n 0, 1) := by decide +kernel
theorem d_121_1 : decode m121.2.1 1 = .ok (.iload_n 1, 1) := by decide +kernel
theorem d_121_2 : decode m121.2.1 2 = .ok (.invokevirtual 126, 3) := by decide +kernel
theorem d_121_5 : decode m121.2.1 5 = .ok (.ifCond .eq 25, 3) := by decide +kernel
theorem d_121_8 : decode m121.2.1 8 = .ok (.iload_n 2, 1) := by decide +kernel
theorem d_121_9 : decode m121.2.1 9 = .ok (.ifCond .lt 21, 3) := by decide +kernel
theorem d_121_12 : decode m121.2.1 12 = .ok (.iload_n 2, 1) := by decide +kernel
theorem d_121_13 : decode m121.2.1 13 = .ok (.iconst 2, 1) := by decide +kernel
theorem d_121_14 : decode m121.2.1 14 = .ok (.if_icmp .gt 16, 3) := by decide +kernel
theorem d_121_17 : decode m121.2.1 17 = .ok (.aload_n 0, 1) := by decide +kernel
theorem d_121_18 : decode m121.2.1 18 = .ok (.getfield 32, 3) := by decide +kernel
theorem d_121_21 : decode m121.2.1 21 = .ok (.getfield 144, 3) := by decide +kernel
theorem d_121_24 : decode m121.2.1 24 = .ok (.iload_n 1, 1) := by decide +kernel
theorem d_121_25 : decode m121.2.1 25 = .ok (.iaload, 1) := by decide +kernel
theorem d_121_26 : decode m121.2.1 26 = .ok (.iload_n 2, 1) := by decide +kernel
theorem d_121_27 : decode m121.2.1 27 = .ok (.if_icmp .ne 5, 3) := by decide +kernel
theorem d_121_30 : decode m121.2.1 30 = .ok (.iconst (-1), 1) := by decide +kernel
theorem d_121_31 : decode m121.2.1 31 = .ok (.ireturn, 1) := by decide +kernel
theorem d_121_32 : decode m121.2.1 32 = .ok (.aload_n 0, 1) := by decide +kernel
theorem d_121_33 : decode m121.2.1 33 = .ok (.getfield 43, 3) := by decide +kernel
theorem d_121_36 : decode m121.2.1 36 = .ok (.aload_n 0, 1) := by decide +kernel
theorem d_121_37 : decode m121.2.1 37 = .ok (.getfield 32, 3) := by decide +kernel
theorem d_121_40 : decode m121.2.1 40 = .ok (.iconst 0, 1) := by decide +kernel
theorem d_121_41 : decode m121.2.1 41 = .ok (.iload_n 1, 1) := by decide +kernel
theorem d_121_42 : decode m121.2.1 42 = .ok (.iload_n 2, 1) := by decide +kernel
theorem d_121_43 : decode m121.2.1 43 = .ok (.invokevirtual 233, 3) := by decide +kernel
theorem d_121_46 : decode m121.2.1 46 = .ok (.aload_n 0, 1) := by decide +kernel
theorem d_121_47 : decode m121.2.1 47 = .ok (.invokevirtual 237, 3) := by decide +kernel
theorem d_121_50 : decode m121.2.1 50 = .ok (.ireturn, 1) := by decide +kernel
theorem d_127_0 : decode m127.2.1 0 = .ok (.aload_n 0, 1) := by decide +kernel
theorem d_127_1 : decode m127.2.1 1 = .ok (.invokevirtual 173, 3) := by decide +kernel
theorem d_127_4 : decode m127.2.1 4 = .ok (.aload_n 0, 1) := by decide +kernel
theorem d_127_5 : decode m127.2.1 5 = .ok (.getfield 50, 3) := by decide +kernel
theorem d_127_8 : decode m127.2.1 8 = .ok (.aload_n 0, 1) := by decide +kernel
theorem d_127_9 : decode m127.2.1 9 = .ok (.getfield 50, 3) := by decide +kernel
theorem d_127_12 : decode m127.2.1 12 = .ok (.getfield 183, 3) := by decide +kernel
theorem d_127_15 : decode m127.2.1 15 = .ok (.aload_n 0, 1) := by decide +kernel
theorem d_127_16 : decode m127.2.1 16 = .ok (.getfield 50, 3) := by decide +kernel
theorem d_127_19 : decode m127.2.1 19 = .ok (.getfield 186, 3) := by decide +kernel
theorem d_127_22 : decode m127.2.1 22 = .ok (.invokevirtual 253, 3) := by decide +kernel
theorem d_127_25 : decode m127.2.1 25 = .ok (.ireturn, 1) := by decide +kernel
theorem d_129_0 : decode m129.2.1 0 = .ok (.aload_n 0, 1) := by decide +kernel
theorem d_129_1 : decode m129.2.1 1 = .ok (.iload_n 1, 1) := by decide +kernel
theorem d_129_2 : decode m129.2.1 2 = .ok (.invokevirtual 126, 3) := by decide +kernel
theorem d_129_5 : decode m129.2.1 5 = .ok (.ifCond .eq 19, 3) := by decide +kernel
theorem d_129_8 : decode m129.2.1 8 = .ok (.iload_n 2, 1) := by decide +kernel
theorem d_129_9 : decode m129.2.1 9 = .ok (.bipush (-7), 2) := by decide +kernel
theorem d_129_11 : decode m129.2.1 11 = .ok (.if_icmp .lt 13, 3) := by decide +kernel
theorem d_129_14 : decode m129.2.1 14 = .ok (.iload_n 2, 1) := by decide +kernel
theorem d_129_15 : decode m129.2.1 15 = .ok (.bipush 7, 2) := by decide +kernel
theorem d_129_17 : decode m129.2.1 17 = .ok (.if_icmp .gt 7, 3) := by decide +kernel
theorem d_129_20 : decode m129.2.1 20 = .ok (.iload_n 2, 1) := by decide +kernel
theorem d_129_21 : decode m129.2.1 21 = .ok (.ifCond .ne 5, 3) := by decide +kernel
theorem d_129_24 : decode m129.2.1 24 = .ok (.iconst (-1), 1) := by decide +kernel
theorem d_129_25 : decode m129.2.1 25 = .ok (.ireturn, 1) := by decide +kernel
theorem d_129_26 : decode m129.2.1 26 = .ok (.aload_n 0, 1) := by decide +kernel
theorem d_129_27 : decode m129.2.1 27 = .ok (.getfield 32, 3) := by decide +kernel
theorem d_129_30 : decode m129.2.1 30 = .ok (.getfield 135, 3) := by decide +kernel
theorem d_129_33 : decode m129.2.1 33 = .ok (.iload_n 1, 1) := by decide +kernel
theorem d_129_34 : decode m129.2.1 34 = .ok (.iaload, 1) := by decide +kernel
theorem d_129_35 : decode m129.2.1 35 = .ok (.iload_n 2, 1) := by decide +kernel
theorem d_129_36 : decode m129.2.1 36 = .ok (.bipush 12, 2) := by decide +kernel
theorem d_129_38 : decode m129.2.1 38 = .ok (.imul, 1) := by decide +kernel
theorem d_129_39 : decode m129.2.1 39 = .ok (.iadd, 1) := by decide +kernel
theorem d_129_40 : decode m129.2.1 40 = .ok (.istore_n 3, 1) := by decide +kernel
theorem d_129_41 : decode m129.2.1 41 = .ok (.iload_n 3, 1) := by decide +kernel
theorem d_129_42 : decode m129.2.1 42 = .ok (.invokestatic 240, 3) := by decide +kernel
theorem d_129_45 : decode m129.2.1 45 = .ok (.ifCond .ne 5, 3) := by decide +kernel
theorem d_129_48 : decode m129.2.1 48 = .ok (.iconst (-1), 1) := by decide +kernel
theorem d_129_49 : decode m129.2.1 49 = .ok (.ireturn, 1) := by decide +kernel
theorem d_129_50 : decode m129.2.1 50 = .ok (.aload_n 0, 1) := by decide +kernel
theorem d_129_51 : decode m129.2.1 51 = .ok (.getfield 43, 3) := by decide +kernel
theorem d_129_54 : decode m129.2.1 54 = .ok (.aload_n 0, 1) := by decide +kernel
theorem d_129_55 : decode m129.2.1 55 = .ok (.getfield 32, 3) := by decide +kernel
theorem d_129_58 : decode m129.2.1 58 = .ok (.iconst 1, 1) := by decide +kernel
theorem d_129_59 : decode m129.2.1 59 = .ok (.iload_n 1, 1) := by decide +kernel
theorem d_129_60 : decode m129.2.1 60 = .ok (.iload_n 3, 1) := by decide +kernel
theorem d_129_61 : decode m129.2.1 61 = .ok (.invokevirtual 233, 3) := by decide +kernel
theorem d_129_64 : decode m129.2.1 64 = .ok (.iload_n 3, 1) := by decide +kernel
theorem d_129_65 : decode m129.2.1 65 = .ok (.ireturn, 1) := by decide +kernel
theorem d_130_0 : decode m130.2.1 0 = .ok (.iload_n 0, 1) := by decide +kernel
theorem d_130_1 : decode m130.2.1 1 = .ok (.ifCond .lt 13, 3) := by decide +kernel
theorem d_130_4 : decode m130.2.1 4 = .ok (.iload_n 0, 1) := by decide +kernel
theorem d_130_5 : decode m130.2.1 5 = .ok (.bipush 87, 2) := by decide +kernel
theorem d_130_7 : decode m130.2.1 7 = .ok (.if_icmp .gt 7, 3) := by decide +kernel
theorem d_130_10 : decode m130.2.1 10 = .ok (.iconst 1, 1) := by decide +kernel
theorem d_130_11 : decode m130.2.1 11 = .ok (.goto 4, 3) := by decide +kernel
theorem d_130_14 : decode m130.2.1 14 = .ok (.iconst 0, 1) := by decide +kernel
theorem d_130_15 : decode m130.2.1 15 = .ok (.ireturn, 1) := by decide +kernel
theorem d_131_0 : decode m131.2.1 0 = .ok (.aload_n 0, 1) := by decide +kernel
theorem d_131_1 : decode m131.2.1 1 = .ok (.iload_n 1, 1) := by decide +kernel
theorem d_131_2 : decode m131.2.1 2 = .ok (.invokevirtual 126, 3) := by decide +kernel
theorem d_131_5 : decode m131.2.1 5 = .ok (.ifCond .eq 27, 3) := by decide +kernel
theorem d_131_8 : decode m131.2.1 8 = .ok (.iload_n 2, 1) := by decide +kernel
theorem d_131_9 : decode m131.2.1 9 = .ok (.iconst 1, 1) := by decide +kernel
theorem d_131_10 : decode m131.2.1 10 = .ok (.if_icmp .lt 22, 3) := by decide +kernel
theorem d_131_13 : decode m131.2.1 13 = .ok (.iload_n 2, 1) := by decide +kernel
theorem d_131_14 : decode m131.2.1 14 = .ok (.bipush 9, 2) := by decide +kernel
theorem d_131_16 : decode m131.2.1 16 = .ok (.if_icmp .gt 16, 3) := by decide +kernel
theorem d_131_19 : decode m131.2.1 19 = .ok (.aload_n 0, 1) := by decide +kernel
theorem d_131_20 : decode m131.2.1 20 = .ok (.getfield 32, 3) := by decide +kernel
theorem d_131_23 : decode m131.2.1 23 = .ok (.getfield 141, 3) := by decide +kernel
theorem d_131_26 : decode m131.2.1 26 = .ok (.iload_n 1, 1) := by decide +kernel
theorem d_131_27 : decode m131.2.1 27 = .ok (.iaload, 1) := by decide +kernel
theorem d_131_28 : decode m131.2.1 28 = .ok (.iload_n 2, 1) := by decide +kernel
theorem d_131_29 : decode m131.2.1 29 = .ok (.if_icmp .ne 5, 3) := by decide +kernel
theorem d_131_32 : decode m131.2.1 32 = .ok (.iconst (-1), 1) := by decide +kernel
theorem d_131_33 : decode m131.2.1 33 = .ok (.ireturn, 1) := by decide +kernel
theorem d_131_34 : decode m131.2.1 34 = .ok (.aload_n 0, 1) := by decide +kernel
theorem d_131_35 : decode m131.2.1 35 = .ok (.getfield 32, 3) := by decide +kernel
theorem d_131_38 : decode m131.2.1 38 = .ok (.getfield 141, 3) := by decide +kernel
theorem d_131_41 : decode m131.2.1 41 = .ok (.iload_n 1, 1) := by decide +kernel
theorem d_131_42 : decode m131.2.1 42 = .ok (.iaload, 1) := by decide +kernel
theorem d_131_43 : decode m131.2.1 43 = .ok (.istore_n 3, 1) := by decide +kernel
theorem d_131_44 : decode m131.2.1 44 = .ok (.aload_n 0, 1) := by decide +kernel
theorem d_131_45 : decode m131.2.1 45 = .ok (.getfield 43, 3) := by decide +kernel
theorem d_131_48 : decode m131.2.1 48 = .ok (.aload_n 0, 1) := by decide +kernel
theorem d_131_49 : decode m131.2.1 49 = .ok (.getfield 32, 3) := by decide +kernel
theorem d_131_52 : decode m131.2.1 52 = .ok (.iconst 3, 1) := by decide +kernel
theorem d_131_53 : decode m131.2.1 53 = .ok (.iload_n 1, 1) := by decide +kernel
theorem d_131_54 : decode m131.2.1 54 = .ok (.iload_n 2, 1) := by decide +kernel
theorem d_131_55 : decode m131.2.1 55 = .ok (.invokevirtual 233, 3) := by decide +kernel
theorem d_131_58 : decode m131.2.1 58 = .ok (.iload_n 3, 1) := by decide +kernel
theorem d_131_59 : decode m131.2.1 59 = .ok (.ireturn, 1) := by decide +kernel
theorem d_132_0 : decode m132.2.1 0 = .ok (.aload_n 0, 1) := by decide +kernel
theorem d_132_1 : decode m132.2.1 1 = .ok (.iload_n 1, 1) := by decide +kernel
theorem d_132_2 : decode m132.2.1 2 = .ok (.invokevirtual 126, 3) := by decide +kernel
theorem d_132_5 : decode m132.2.1 5 = .ok (.ifCond .eq 27, 3) := by decide +kernel
theorem d_132_8 : decode m132.2.1 8 = .ok (.iload_n 2, 1) := by decide +kernel
theorem d_132_9 : decode m132.2.1 9 = .ok (.iconst 1, 1) := by decide +kernel
theorem d_132_10 : decode m132.2.1 10 = .ok (.if_icmp .lt 22, 3) := by decide +kernel
theorem d_132_13 : decode m132.2.1 13 = .ok (.iload_n 2, 1) := by decide +kernel
theorem d_132_14 : decode m132.2.1 14 = .ok (.bipush 12, 2) := by decide +kernel
theorem d_132_16 : decode m132.2.1 16 = .ok (.if_icmp .gt 16, 3) := by decide +kernel
theorem d_132_19 : decode m132.2.1 19 = .ok (.aload_n 0, 1) := by decide +kernel
theorem d_132_20 : decode m132.2.1 20 = .ok (.getfield 32, 3) := by decide +kernel
theorem d_132_23 : decode m132.2.1 23 = .ok (.getfield 138, 3) := by decide +kernel
theorem d_132_26 : decode m132.2.1 26 = .ok (.iload_n 1, 1) := by decide +kernel
theorem d_132_27 : decode m132.2.1 27 = .ok (.iaload, 1) := by decide +kernel
theorem d_132_28 : decode m132.2.1 28 = .ok (.iload_n 2, 1) := by decide +kernel
theorem d_132_29 : decode m132.2.1 29 = .ok (.if_icmp .ne 5, 3) := by decide +kernel
theorem d_132_32 : decode m132.2.1 32 = .ok (.iconst (-1), 1) := by decide +kernel
theorem d_132_33 : decode m132.2.1 33 = .ok (.ireturn, 1) := by decide +kernel
theorem d_132_34 : decode m132.2.1 34 = .ok (.aload_n 0, 1) := by decide +kernel
theorem d_132_35 : decode m132.2.1 35 = .ok (.getfield 32, 3) := by decide +kernel
theorem d_132_38 : decode m132.2.1 38 = .ok (.getfield 138, 3) := by decide +kernel
theorem d_132_41 : decode m132.2.1 41 = .ok (.iload_n 1, 1) := by decide +kernel
theorem d_132_42 : decode m132.2.1 42 = .ok (.iaload, 1) := by decide +kernel
theorem d_132_43 : decode m132.2.1 43 = .ok (.istore_n 3, 1) := by decide +kernel
theorem d_132_44 : decode m132.2.1 44 = .ok (.aload_n 0, 1) := by decide +kernel
theorem d_132_45 : decode m132.2.1 45 = .ok (.getfield 43, 3) := by decide +kernel
theorem d_132_48 : decode m132.2.1 48 = .ok (.aload_n 0, 1) := by decide +kernel
theorem d_132_49 : decode m132.2.1 49 = .ok (.getfield 32, 3) := by decide +kernel
theorem d_132_52 : decode m132.2.1 52 = .ok (.iconst 2, 1) := by decide +kernel
theorem d_132_53 : decode m132.2.1 53 = .ok (.iload_n 1, 1) := by decide +kernel
theorem d_132_54 : decode m132.2.1 54 = .ok (.iload_n 2, 1) := by decide +kernel
theorem d_132_55 : decode m132.2.1 55 = .ok (.invokevirtual 233, 3) := by decide +kernel
theorem d_132_58 : decode m132.2.1 58 = .ok (.iload_n 3, 1) := by decide +kernel
theorem d_132_59 : decode m132.2.1 59 = .ok (.ireturn, 1) := by decide +kernel
theorem d_133_0 : decode m133.2.1 0 = .ok (.aload_n 0, 1) := by decide +kernel
theorem d_133_1 : decode m133.2.1 1 = .ok (.iload_n 1, 1) := by decide +kernel
theorem d_133_2 : decode m133.2.1 2 = .ok (.invokevirtual 167, 3) := by decide +kernel
theorem d_133_5 : decode m133.2.1 5 = .ok (.ifCond .ne 5, 3) := by decide +kernel
theorem d_133_8 : decode m133.2.1 8 = .ok (.iconst (-1), 1) := by decide +kernel
theorem d_133_9 : decode m133.2.1 9 = .ok (.ireturn, 1) := by decide +kernel
theorem d_133_10 : decode m133.2.1 10 = .ok (.aload_n 0, 1) := by decide +kernel
theorem d_133_11 : decode m133.2.1 11 = .ok (.getfield 43, 3) := by decide +kernel
theorem d_133_14 : decode m133.2.1 14 = .ok (.aload_n 0, 1) := by decide +kernel
theorem d_133_15 : decode m133.2.1 15 = .ok (.getfield 32, 3) := by decide +kernel
theorem d_133_18 : decode m133.2.1 18 = .ok (.iconst 4, 1) := by decide +kernel
theorem d_133_19 : decode m133.2.1 19 = .ok (.iload_n 1, 1) := by decide +kernel
theorem d_133_20 : decode m133.2.1 20 = .ok (.aload_n 0, 1) := by decide +kernel
theorem d_133_21 : decode m133.2.1 21 = .ok (.getfield 32, 3) := by decide +kernel
theorem d_133_24 : decode m133.2.1 24 = .ok (.getfield 243, 3) := by decide +kernel
theorem d_133_27 : decode m133.2.1 27 = .ok (.iconst 1, 1) := by decide +kernel
theorem d_133_28 : decode m133.2.1 28 = .ok (.iload_n 1, 1) := by decide +kernel
theorem d_133_29 : decode m133.2.1 29 = .ok (.ishl, 1) := by decide +kernel
theorem d_133_30 : decode m133.2.1 30 = .ok (.ixor, 1) := by decide +kernel
theorem d_133_31 : decode m133.2.1 31 = .ok (.invokevirtual 233, 3) := by decide +kernel
theorem d_133_34 : decode m133.2.1 34 = .ok (.aload_n 0, 1) := by decide +kernel
theorem d_133_35 : decode m133.2.1 35 = .ok (.getfield 32, 3) := by decide +kernel
theorem d_133_38 : decode m133.2.1 38 = .ok (.getfield 243, 3) := by decide +kernel
theorem d_133_41 : decode m133.2.1 41 = .ok (.ireturn, 1) := by decide +kernel
theorem d_134_0 : decode m134.2.1 0 = .ok (.aload_n 0, 1) := by decide +kernel
theorem d_134_1 : decode m134.2.1 1 = .ok (.getfield 43, 3) := by decide +kernel
theorem d_134_4 : decode m134.2.1 4 = .ok (.aload_n 0, 1) := by decide +kernel
theorem d_134_5 : decode m134.2.1 5 = .ok (.getfield 32, 3) := by decide +kernel
theorem d_134_8 : decode m134.2.1 8 = .ok (.invokevirtual 246, 3) := by decide +kernel
theorem d_134_11 : decode m134.2.1 11 = .ok (.ireturn, 1) := by decide +kernel
theorem d_136_0 : decode m136.2.1 0 = .ok (.aload_n 0, 1) := by decide +kernel
theorem d_136_1 : decode m136.2.1 1 = .ok (.getfield 43, 3) := by decide +kernel
theorem d_136_4 : decode m136.2.1 4 = .ok (.aload_n 0, 1) := by decide +kernel
theorem d_136_5 : decode m136.2.1 5 = .ok (.getfield 32, 3) := by decide +kernel
theorem d_136_8 : decode m136.2.1 8 = .ok (.invokevirtual 250, 3) := by decide +kernel
theorem d_136_11 : decode m136.2.1 11 = .ok (.ireturn, 1) := by decide +kernel
theorem d_138_0 : decode m138.2.1 0 = .ok (.iconst 0, 1) := by decide +kernel
theorem d_138_1 : decode m138.2.1 1 = .ok (.istore_n 1, 1) := by decide +kernel
theorem d_138_2 : decode m138.2.1 2 = .ok (.iconst 0, 1) := by decide +kernel
theorem d_138_3 : decode m138.2.1 3 = .ok (.istore_n 2, 1) := by decide +kernel
theorem d_138_4 : decode m138.2.1 4 = .ok (.iload_n 2, 1) := by decide +kernel
theorem d_138_5 : decode m138.2.1 5 = .ok (.aload_n 0, 1) := by decide +kernel
theorem d_138_6 : decode m138.2.1 6 = .ok (.getfield 25, 3) := by decide +kernel
theorem d_138_9 : decode m138.2.1 9 = .ok (.getfield 117, 3) := by decide +kernel
theorem d_138_12 : decode m138.2.1 12 = .ok (.if_icmp .ge 29, 3) := by decide +kernel
theorem d_138_15 : decode m138.2.1 15 = .ok (.aload_n 0, 1) := by decide +kernel
theorem d_138_16 : decode m138.2.1 16 = .ok (.getfield 32, 3) := by decide +kernel
theorem d_138_19 : decode m138.2.1 19 = .ok (.getfield 144, 3) := by decide +kernel
theorem d_138_22 : decode m138.2.1 22 = .ok (.iload_n 2, 1) := by decide +kernel
theorem d_138_23 : decode m138.2.1 23 = .ok (.iaload, 1) := by decide +kernel
theorem d_138_24 : decode m138.2.1 24 = .ok (.ifCond .ne 11, 3) := by decide +kernel
theorem d_138_27 : decode m138.2.1 27 = .ok (.iload_n 1, 1) := by decide +kernel
theorem d_138_28 : decode m138.2.1 28 = .ok (.aload_n 0, 1) := by decide +kernel
theorem d_138_29 : decode m138.2.1 29 = .ok (.iload_n 2, 1) := by decide +kernel
theorem d_138_30 : decode m138.2.1 30 = .ok (.invokevirtual 147, 3) := by decide +kernel
theorem d_138_33 : decode m138.2.1 33 = .ok (.iadd, 1) := by decide +kernel
theorem d_138_34 : decode m138.2.1 34 = .ok (.istore_n 1, 1) := by decide +kernel
theorem d_138_35 : decode m138.2.1 35 = .ok (.iinc 2 1, 3) := by decide +kernel
theorem d_138_38 : decode m138.2.1 38 = .ok (.goto (-34), 3) := by decide +kernel
theorem d_138_41 : decode m138.2.1 41 = .ok (.iload_n 1, 1) := by decide +kernel
theorem d_138_42 : decode m138.2.1 42 = .ok (.ireturn, 1) := by decide +kernel
theorem d_139_0 : decode m139.2.1 0 = .ok (.aload_n 0, 1) := by decide +kernel
theorem d_139_1 : decode m139.2.1 1 = .ok (.aload_n 0, 1) := by decide +kernel
theorem d_139_2 : decode m139.2.1 2 = .ok (.getfield 25, 3) := by decide +kernel
theorem d_139_5 : decode m139.2.1 5 = .ok (.getfield 256, 3) := by decide +kernel
theorem d_139_8 : decode m139.2.1 8 = .ok (.aload_n 0, 1) := by decide +kernel
theorem d_139_9 : decode m139.2.1 9 = .ok (.getfield 25, 3) := by decide +kernel
theorem d_139_12 : decode m139.2.1 12 = .ok (.getfield 259, 3) := by decide +kernel
theorem d_139_15 : decode m139.2.1 15 = .ok (.invokevirtual 262, 3) := by decide +kernel
theorem d_139_18 : decode m139.2.1 18 = .ok (.iload_n 1, 1) := by decide +kernel
theorem d_139_19 : decode m139.2.1 19 = .ok (.lookupswitch 52 #[(0, 25), (1, 33)], 25) := by decide +kernel
theorem d_139_44 : decode m139.2.1 44 = .ok (.aload_n 0, 1) := by decide +kernel
theorem d_139_45 : decode m139.2.1 45 = .ok (.getfield 63, 3) := by decide +kernel
theorem d_139_48 : decode m139.2.1 48 = .ok (.getfield 266, 3) := by decide +kernel
theorem d_139_51 : decode m139.2.1 51 = .ok (.ireturn, 1) := by decide +kernel
theorem d_139_52 : decode m139.2.1 52 = .ok (.aload_n 0, 1) := by decide +kernel
theorem d_139_53 : decode m139.2.1 53 = .ok (.getfield 63, 3) := by decide +kernel
theorem d_139_56 : decode m139.2.1 56 = .ok (.getfield 269, 3) := by decide +kernel
theorem d_139_59 : decode m139.2.1 59 = .ok (.aload_n 0, 1) := by decide +kernel
theorem d_139_60 : decode m139.2.1 60 = .ok (.getfield 63, 3) := by decide +kernel
theorem d_139_63 : decode m139.2.1 63 = .ok (.getfield 270, 3) := by decide +kernel
theorem d_139_66 : decode m139.2.1 66 = .ok (.ior, 1) := by decide +kernel
theorem d_139_67 : decode m139.2.1 67 = .ok (.invokestatic 206, 3) := by decide +kernel
theorem d_139_70 : decode m139.2.1 70 = .ok (.ireturn, 1) := by decide +kernel
theorem d_139_71 : decode m139.2.1 71 = .ok (.iconst (-1), 1) := by decide +kernel
theorem d_139_72 : decode m139.2.1 72 = .ok (.ireturn, 1) := by decide +kernel
theorem d_140_0 : decode m140.2.1 0 = .ok (.aload_n 0, 1) := by decide +kernel
theorem d_140_1 : decode m140.2.1 1 = .ok (.invokevirtual 173, 3) := by decide +kernel
theorem d_140_4 : decode m140.2.1 4 = .ok (.aload_n 0, 1) := by decide +kernel
theorem d_140_5 : decode m140.2.1 5 = .ok (.invokevirtual 271, 3) := by decide +kernel
theorem d_140_8 : decode m140.2.1 8 = .ok (.aload_n 0, 1) := by decide +kernel
theorem d_140_9 : decode m140.2.1 9 = .ok (.getfield 50, 3) := by decide +kernel
theorem d_140_12 : decode m140.2.1 12 = .ok (.iload_n 1, 1) := by decide +kernel
theorem d_140_13 : decode m140.2.1 13 = .ok (.putfield 274, 3) := by decide +kernel
theorem d_140_16 : decode m140.2.1 16 = .ok (.aload_n 0, 1) := by decide +kernel
theorem d_140_17 : decode m140.2.1 17 = .ok (.getfield 50, 3) := by decide +kernel
theorem d_140_20 : decode m140.2.1 20 = .ok (.iload_n 2, 1) := by decide +kernel
theorem d_140_21 : decode m140.2.1 21 = .ok (.putfield 275, 3) := by decide +kernel
theorem d_140_24 : decode m140.2.1 24 = .ok (.aload_n 0, 1) := by decide +kernel
theorem d_140_25 : decode m140.2.1 25 = .ok (.getfield 63, 3) := by decide +kernel
theorem d_140_28 : decode m140.2.1 28 = .ok (.invokevirtual 276, 3) := by decide +kernel
theorem d_140_31 : decode m140.2.1 31 = .ok (.iconst 0, 1) := by decide +kernel
theorem d_140_32 : decode m140.2.1 32 = .ok (.istore_n 3, 1) := by decide +kernel
theorem d_140_33 : decode m140.2.1 33 = .ok (.iload_n 3, 1) := by decide +kernel
theorem d_140_34 : decode m140.2.1 34 = .ok (.aload_n 0, 1) := by decide +kernel
theorem d_140_35 : decode m140.2.1 35 = .ok (.getfield 25, 3) := by decide +kernel
theorem d_140_38 : decode m140.2.1 38 = .ok (.getfield 117, 3) := by decide +kernel
theorem d_140_41 : decode m140.2.1 41 = .ok (.if_icmp .ge 23, 3) := by decide +kernel
theorem d_140_44 : decode m140.2.1 44 = .ok (.aload_n 0, 1) := by decide +kernel
theorem d_140_45 : decode m140.2.1 45 = .ok (.getfield 83, 3) := by decide +kernel
theorem d_140_48 : decode m140.2.1 48 = .ok (.iload_n 3, 1) := by decide +kernel
theorem d_140_49 : decode m140.2.1 49 = .ok (.aload_n 0, 1) := by decide +kernel
theorem d_140_50 : decode m140.2.1 50 = .ok (.getfield 63, 3) := by decide +kernel
theorem d_140_53 : decode m140.2.1 53 = .ok (.iload_n 3, 1) := by decide +kernel
theorem d_140_54 : decode m140.2.1 54 = .ok (.invokevirtual 279, 3) := by decide +kernel
theorem d_140_57 : decode m140.2.1 57 = .ok (.iastore, 1) := by decide +kernel
theorem d_140_58 : decode m140.2.1 58 = .ok (.iinc 3 1, 3) := by decide +kernel
theorem d_140_61 : decode m140.2.1 61 = .ok (.goto (-28), 3) := by decide +kernel
theorem d_140_64 : decode m140.2.1 64 = .ok (.aload_n 0, 1) := by decide +kernel
theorem d_140_65 : decode m140.2.1 65 = .ok (.aload_n 0, 1) := by decide +kernel
theorem d_140_66 : decode m140.2.1 66 = .ok (.getfield 25, 3) := by decide +kernel
theorem d_140_69 : decode m140.2.1 69 = .ok (.getfield 117, 3) := by decide +kernel
theorem d_140_72 : decode m140.2.1 72 = .ok (.putfield 110, 3) := by decide +kernel
theorem d_140_75 : decode m140.2.1 75 = .ok (.return_, 1) := by decide +kernel
theorem d_141_0 : decode m141.2.1 0 = .ok (.iconst 0, 1) := by decide +kernel
theorem d_141_1 : decode m141.2.1 1 = .ok (.istore_n 1, 1) := by decide +kernel
theorem d_141_2 : decode m141.2.1 2 = .ok (.iload_n 1, 1) := by decide +kernel
theorem d_141_3 : decode m141.2.1 3 = .ok (.aload_n 0, 1) := by decide +kernel
theorem d_141_4 : decode m141.2.1 4 = .ok (.getfield 25, 3) := by decide +kernel
theorem d_141_7 : decode m141.2.1 7 = .ok (.getfield 117, 3) := by decide +kernel
theorem d_141_10 : decode m141.2.1 10 = .ok (.if_icmp .ge 20, 3) := by decide +kernel
theorem d_141_13 : decode m141.2.1 13 = .ok (.aload_n 0, 1) := by decide +kernel
theorem d_141_14 : decode m141.2.1 14 = .ok (.getfield 54, 3) := by decide +kernel
theorem d_141_17 : decode m141.2.1 17 = .ok (.iload_n 1, 1) := by decide +kernel
theorem d_141_18 : decode m141.2.1 18 = .ok (.aload_n 0, 1) := by decide +kernel
theorem d_141_19 : decode m141.2.1 19 = .ok (.iload_n 1, 1) := by decide +kernel
theorem d_141_20 : decode m141.2.1 20 = .ok (.invokevirtual 147, 3) := by decide +kernel
theorem d_141_23 : decode m141.2.1 23 = .ok (.iastore, 1) := by decide +kernel
theorem d_141_24 : decode m141.2.1 24 = .ok (.iinc 1 1, 3) := by decide +kernel
theorem d_141_27 : decode m141.2.1 27 = .ok (.goto (-25), 3) := by decide +kernel
theorem d_141_30 : decode m141.2.1 30 = .ok (.return_, 1) := by decide +kernel
theorem d_152_0 : decode m152.2.1 0 = .ok (.iload_n 1, 1) := by decide +kernel
theorem d_152_1 : decode m152.2.1 1 = .ok (.iconst 1, 1) := by decide +kernel
theorem d_152_2 : decode m152.2.1 2 = .ok (.if_icmp .lt 15, 3) := by decide +kernel
theorem d_152_5 : decode m152.2.1 5 = .ok (.iload_n 1, 1) := by decide +kernel
theorem d_152_6 : decode m152.2.1 6 = .ok (.iconst 5, 1) := by decide +kernel
theorem d_152_7 : decode m152.2.1 7 = .ok (.if_icmp .gt 10, 3) := by decide +kernel
theorem d_152_10 : decode m152.2.1 10 = .ok (.iload_n 2, 1) := by decide +kernel
theorem d_152_11 : decode m152.2.1 11 = .ok (.invokestatic 240, 3) := by decide +kernel
theorem d_152_14 : decode m152.2.1 14 = .ok (.ifCond .ne 10, 3) := by decide +kernel
theorem d_152_17 : decode m152.2.1 17 = .ok (.aload_n 0, 1) := by decide +kernel
theorem d_152_18 : decode m152.2.1 18 = .ok (.iconst 0, 1) := by decide +kernel
theorem d_152_19 : decode m152.2.1 19 = .ok (.putfield 110, 3) := by decide +kernel
theorem d_152_22 : decode m152.2.1 22 = .ok (.iconst (-1), 1) := by decide +kernel
theorem d_152_23 : decode m152.2.1 23 = .ok (.ireturn, 1) := by decide +kernel
theorem d_152_24 : decode m152.2.1 24 = .ok (.aload_n 0, 1) := by decide +kernel
theorem d_152_25 : decode m152.2.1 25 = .ok (.iload_n 1, 1) := by decide +kernel
theorem d_152_26 : decode m152.2.1 26 = .ok (.iload_n 2, 1) := by decide +kernel
theorem d_152_27 : decode m152.2.1 27 = .ok (.invokevirtual 262, 3) := by decide +kernel
theorem d_152_30 : decode m152.2.1 30 = .ok (.aload_n 0, 1) := by decide +kernel
theorem d_152_31 : decode m152.2.1 31 = .ok (.getfield 63, 3) := by decide +kernel
theorem d_152_34 : decode m152.2.1 34 = .ok (.getfield 266, 3) := by decide +kernel
theorem d_152_37 : decode m152.2.1 37 = .ok (.ireturn, 1) := by decide +kernel
theorem d_153_0 : decode m153.2.1 0 = .ok (.aload_n 0, 1) := by decide +kernel
theorem d_153_1 : decode m153.2.1 1 = .ok (.iload_n 1, 1) := by decide +kernel
theorem d_153_2 : decode m153.2.1 2 = .ok (.invokevirtual 282, 3) := by decide +kernel
theorem d_153_5 : decode m153.2.1 5 = .ok (.ifCond .eq 10, 3) := by decide +kernel
theorem d_153_8 : decode m153.2.1 8 = .ok (.iload_n 2, 1) := by decide +kernel
theorem d_153_9 : decode m153.2.1 9 = .ok (.invokestatic 170, 3) := by decide +kernel
theorem d_153_12 : decode m153.2.1 12 = .ok (.ifCond .ne 5, 3) := by decide +kernel
theorem d_153_15 : decode m153.2.1 15 = .ok (.iconst (-1), 1) := by decide +kernel
theorem d_153_16 : decode m153.2.1 16 = .ok (.ireturn, 1) := by decide +kernel
theorem d_153_17 : decode m153.2.1 17 = .ok (.aload_n 0, 1) := by decide +kernel
theorem d_153_18 : decode m153.2.1 18 = .ok (.invokevirtual 173, 3) := by decide +kernel
theorem d_153_21 : decode m153.2.1 21 = .ok (.aload_n 0, 1) := by decide +kernel
theorem d_153_22 : decode m153.2.1 22 = .ok (.getfield 50, 3) := by decide +kernel
theorem d_153_25 : decode m153.2.1 25 = .ok (.iload_n 1, 1) := by decide +kernel
theorem d_153_26 : decode m153.2.1 26 = .ok (.iload_n 2, 1) := by decide +kernel
theorem d_153_27 : decode m153.2.1 27 = .ok (.invokevirtual 285, 3) := by decide +kernel
theorem d_153_30 : decode m153.2.1 30 = .ok (.ireturn, 1) := by decide +kernel
theorem d_154_0 : decode m154.2.1 0 = .ok (.aload_n 0, 1) := by decide +kernel
theorem d_154_1 : decode m154.2.1 1 = .ok (.iload_n 1, 1) := by decide +kernel
theorem d_154_2 : decode m154.2.1 2 = .ok (.invokevirtual 126, 3) := by decide +kernel
theorem d_154_5 : decode m154.2.1 5 = .ok (.ifCond .eq 19, 3) := by decide +kernel
theorem d_154_8 : decode m154.2.1 8 = .ok (.aload_n 0, 1) := by decide +kernel
theorem d_154_9 : decode m154.2.1 9 = .ok (.getfield 32, 3) := by decide +kernel
theorem d_154_12 : decode m154.2.1 12 = .ok (.getfield 144, 3) := by decide +kernel
theorem d_154_15 : decode m154.2.1 15 = .ok (.iload_n 1, 1) := by decide +kernel
theorem d_154_16 : decode m154.2.1 16 = .ok (.iaload, 1) := by decide +kernel
theorem d_154_17 : decode m154.2.1 17 = .ok (.ifCond .ne 7, 3) := by decide +kernel
theorem d_154_20 : decode m154.2.1 20 = .ok (.iconst 1, 1) := by decide +kernel
theorem d_154_21 : decode m154.2.1 21 = .ok (.goto 4, 3) := by decide +kernel
theorem d_154_24 : decode m154.2.1 24 = .ok (.iconst 0, 1) := by decide +kernel
theorem d_154_25 : decode m154.2.1 25 = .ok (.ireturn, 1) := by decide +kernel
theorem d_156_0 : decode m156.2.1 0 = .ok (.aload_n 0, 1) := by decide +kernel
theorem d_156_1 : decode m156.2.1 1 = .ok (.iload_n 1, 1) := by decide +kernel
theorem d_156_2 : decode m156.2.1 2 = .ok (.invokevirtual 282, 3) := by decide +kernel
theorem d_156_5 : decode m156.2.1 5 = .ok (.ifCond .eq 19, 3) := by decide +kernel
theorem d_156_8 : decode m156.2.1 8 = .ok (.iload_n 2, 1) := by decide +kernel
theorem d_156_9 : decode m156.2.1 9 = .ok (.invokestatic 170, 3) := by decide +kernel
theorem d_156_12 : decode m156.2.1 12 = .ok (.ifCond .eq 12, 3) := by decide +kernel
theorem d_156_15 : decode m156.2.1 15 = .ok (.iload_n 3, 1) := by decide +kernel
theorem d_156_16 : decode m156.2.1 16 = .ok (.ifCond .lt 8, 3) := by decide +kernel
theorem d_156_19 : decode m156.2.1 19 = .ok (.iload_n 3, 1) := by decide +kernel
theorem d_156_20 : decode m156.2.1 20 = .ok (.iconst 1, 1) := by decide +kernel
theorem d_156_21 : decode m156.2.1 21 = .ok (.if_icmp .le 5, 3) := by decide +kernel
theorem d_156_24 : decode m156.2.1 24 = .ok (.iconst (-1), 1) := by decide +kernel
theorem d_156_25 : decode m156.2.1 25 = .ok (.ireturn, 1) := by decide +kernel
theorem d_156_26 : decode m156.2.1 26 = .ok (.aload_n 0, 1) := by decide +kernel
theorem d_156_27 : decode m156.2.1 27 = .ok (.invokevirtual 173, 3) := by decide +kernel
theorem d_156_30 : decode m156.2.1 30 = .ok (.aload_n 0, 1) := by decide +kernel
theorem d_156_31 : decode m156.2.1 31 = .ok (.invokevirtual 271, 3) := by decide +kernel
theorem d_156_34 : decode m156.2.1 34 = .ok (.aload_n 0, 1) := by decide +kernel
theorem d_156_35 : decode m156.2.1 35 = .ok (.getfield 63, 3) := by decide +kernel
theorem d_156_38 : decode m156.2.1 38 = .ok (.iload_n 1, 1) := by decide +kernel
theorem d_156_39 : decode m156.2.1 39 = .ok (.iload_n 2, 1) := by decide +kernel
theorem d_156_40 : decode m156.2.1 40 = .ok (.invokevirtual 288, 3) := by decide +kernel
theorem d_156_43 : decode m156.2.1 43 = .ok (.istore 4, 2) := by decide +kernel
theorem d_156_45 : decode m156.2.1 45 = .ok (.iload_n 3, 1) := by decide +kernel
theorem d_156_46 : decode m156.2.1 46 = .ok (.ifCond .ne 17, 3) := by decide +kernel
theorem d_156_49 : decode m156.2.1 49 = .ok (.iload 4, 2) := by decide +kernel
theorem d_156_51 : decode m156.2.1 51 = .ok (.iconst (-1), 1) := by decide +kernel
theorem d_156_52 : decode m156.2.1 52 = .ok (.if_icmp .eq 11, 3) := by decide +kernel
theorem d_156_55 : decode m156.2.1 55 = .ok (.iload 4, 2) := by decide +kernel
theorem d_156_57 : decode m156.2.1 57 = .ok (.invokestatic 206, 3) := by decide +kernel
theorem d_156_60 : decode m156.2.1 60 = .ok (.goto 5, 3) := by decide +kernel
theorem d_156_63 : decode m156.2.1 63 = .ok (.iload 4, 2) := by decide +kernel
theorem d_156_65 : decode m156.2.1 65 = .ok (.ireturn, 1) := by decide +kernel
theorem d_161_0 : decode m161.2.1 0 = .ok (.aload_n 0, 1) := by decide +kernel
theorem d_161_1 : decode m161.2.1 1 = .ok (.iload_n 1, 1) := by decide +kernel
theorem d_161_2 : decode m161.2.1 2 = .ok (.invokevirtual 282, 3) := by decide +kernel
theorem d_161_5 : decode m161.2.1 5 = .ok (.ifCond .eq 12, 3) := by decide +kernel
theorem d_161_8 : decode m161.2.1 8 = .ok (.iload_n 2, 1) := by decide +kernel
theorem d_161_9 : decode m161.2.1 9 = .ok (.ifCond .lt 8, 3) := by decide +kernel
theorem d_161_12 : decode m161.2.1 12 = .ok (.iload_n 2, 1) := by decide +kernel
theorem d_161_13 : decode m161.2.1 13 = .ok (.iconst 1, 1) := by decide +kernel
theorem d_161_14 : decode m161.2.1 14 = .ok (.if_icmp .le 6, 3) := by decide +kernel
theorem d_161_17 : decode m161.2.1 17 = .ok (.bipush (-100), 2) := by decide +kernel
theorem d_161_19 : decode m161.2.1 19 = .ok (.ireturn, 1) := by decide +kernel
theorem d_161_20 : decode m161.2.1 20 = .ok (.aload_n 0, 1) := by decide +kernel
theorem d_161_21 : decode m161.2.1 21 = .ok (.invokevirtual 173, 3) := by decide +kernel
theorem d_161_24 : decode m161.2.1 24 = .ok (.iconst 0, 1) := by decide +kernel
theorem d_161_25 : decode m161.2.1 25 = .ok (.istore_n 3, 1) := by decide +kernel
theorem d_161_26 : decode m161.2.1 26 = .ok (.iload_n 3, 1) := by decide +kernel
theorem d_161_27 : decode m161.2.1 27 = .ok (.bipush 7, 2) := by decide +kernel
theorem d_161_29 : decode m161.2.1 29 = .ok (.if_icmp .gt 65, 3) := by decide +kernel
theorem d_161_32 : decode m161.2.1 32 = .ok (.aload_n 0, 1) := by decide +kernel
theorem d_161_33 : decode m161.2.1 33 = .ok (.getfield 50, 3) := by decide +kernel
theorem d_161_36 : decode m161.2.1 36 = .ok (.iload_n 1, 1) := by decide +kernel
theorem d_161_37 : decode m161.2.1 37 = .ok (.iload_n 3, 1) := by decide +kernel
theorem d_161_38 : decode m161.2.1 38 = .ok (.invokevirtual 291, 3) := by decide +kernel
theorem d_161_41 : decode m161.2.1 41 = .ok (.istore 4, 2) := by decide +kernel
theorem d_161_43 : decode m161.2.1 43 = .ok (.iload 4, 2) := by decide +kernel
theorem d_161_45 : decode m161.2.1 45 = .ok (.ifCond .eq 14, 3) := by decide +kernel
theorem d_161_48 : decode m161.2.1 48 = .ok (.iload_n 2, 1) := by decide +kernel
theorem d_161_49 : decode m161.2.1 49 = .ok (.ifCond .ne 7, 3) := by decide +kernel
theorem d_161_52 : decode m161.2.1 52 = .ok (.iload_n 3, 1) := by decide +kernel
theorem d_161_53 : decode m161.2.1 53 = .ok (.goto 5, 3) := by decide +kernel
theorem d_161_56 : decode m161.2.1 56 = .ok (.iload 4, 2) := by decide +kernel
theorem d_161_58 : decode m161.2.1 58 = .ok (.ireturn, 1) := by decide +kernel
theorem d_161_59 : decode m161.2.1 59 = .ok (.aload_n 0, 1) := by decide +kernel
theorem d_161_60 : decode m161.2.1 60 = .ok (.getfield 50, 3) := by decide +kernel
theorem d_161_63 : decode m161.2.1 63 = .ok (.iload_n 1, 1) := by decide +kernel
theorem d_161_64 : decode m161.2.1 64 = .ok (.iload_n 3, 1) := by decide +kernel
theorem d_161_65 : decode m161.2.1 65 = .ok (.ineg, 1) := by decide +kernel
theorem d_161_66 : decode m161.2.1 66 = .ok (.invokevirtual 291, 3) := by decide +kernel
theorem d_161_69 : decode m161.2.1 69 = .ok (.istore 5, 2) := by decide +kernel
theorem d_161_71 : decode m161.2.1 71 = .ok (.iload 5, 2) := by decide +kernel
theorem d_161_73 : decode m161.2.1 73 = .ok (.ifCond .eq 15, 3) := by decide +kernel
theorem d_161_76 : decode m161.2.1 76 = .ok (.iload_n 2, 1) := by decide +kernel
theorem d_161_77 : decode m161.2.1 77 = .ok (.ifCond .ne 8, 3) := by decide +kernel
theorem d_161_80 : decode m161.2.1 80 = .ok (.iload_n 3, 1) := by decide +kernel
theorem d_161_81 : decode m161.2.1 81 = .ok (.ineg, 1) := by decide +kernel
theorem d_161_82 : decode m161.2.1 82 = .ok (.goto 5, 3) := by decide +kernel
theorem d_161_85 : decode m161.2.1 85 = .ok (.iload 5, 2) := by decide +kernel
theorem d_161_87 : decode m161.2.1 87 = .ok (.ireturn, 1) := by decide +kernel
theorem d_161_88 : decode m161.2.1 88 = .ok (.iinc 3 1, 3) := by decide +kernel
theorem d_161_91 : decode m161.2.1 91 = .ok (.goto (-65), 3) := by decide +kernel
theorem d_161_94 : decode m161.2.1 94 = .ok (.bipush (-100), 2) := by decide +kernel
theorem d_161_96 : decode m161.2.1 96 = .ok (.ireturn, 1) := by decide +kernel
theorem d_163_0 : decode m163.2.1 0 = .ok (.iload_n 1, 1) := by decide +kernel
theorem d_163_1 : decode m163.2.1 1 = .ok (.ifCond .lt 8, 3) := by decide +kernel
theorem d_163_4 : decode m163.2.1 4 = .ok (.iload_n 1, 1) := by decide +kernel
theorem d_163_5 : decode m163.2.1 5 = .ok (.iconst 1, 1) := by decide +kernel
theorem d_163_6 : decode m163.2.1 6 = .ok (.if_icmp .le 5, 3) := by decide +kernel
theorem d_163_9 : decode m163.2.1 9 = .ok (.iconst (-1), 1) := by decide +kernel
theorem d_163_10 : decode m163.2.1 10 = .ok (.ireturn, 1) := by decide +kernel
theorem d_163_11 : decode m163.2.1 11 = .ok (.aload_n 0, 1) := by decide +kernel
theorem d_163_12 : decode m163.2.1 12 = .ok (.invokevirtual 173, 3) := by decide +kernel
theorem d_163_15 : decode m163.2.1 15 = .ok (.aload_n 0, 1) := by decide +kernel
theorem d_163_16 : decode m163.2.1 16 = .ok (.getfield 72, 3) := by decide +kernel
theorem d_163_19 : decode m163.2.1 19 = .ok (.invokevirtual 294, 3) := by decide +kernel
theorem d_163_22 : decode m163.2.1 22 = .ok (.istore_n 2, 1) := by decide +kernel
theorem d_163_23 : decode m163.2.1 23 = .ok (.iload_n 1, 1) := by decide +kernel
theorem d_163_24 : decode m163.2.1 24 = .ok (.ifCond .ne 15, 3) := by decide +kernel
theorem d_163_27 : decode m163.2.1 27 = .ok (.iload_n 2, 1) := by decide +kernel
theorem d_163_28 : decode m163.2.1 28 = .ok (.iconst (-1), 1) := by decide +kernel
theorem d_163_29 : decode m163.2.1 29 = .ok (.if_icmp .eq 10, 3) := by decide +kernel
theorem d_163_32 : decode m163.2.1 32 = .ok (.iload_n 2, 1) := by decide +kernel
theorem d_163_33 : decode m163.2.1 33 = .ok (.invokestatic 206, 3) := by decide +kernel
theorem d_163_36 : decode m163.2.1 36 = .ok (.goto 4, 3) := by decide +kernel
theorem d_163_39 : decode m163.2.1 39 = .ok (.iload_n 2, 1) := by decide +kernel
theorem d_163_40 : decode m163.2.1 40 = .ok (.ireturn, 1) := by decide +kernel
theorem d_168_0 : decode m168.2.1 0 = .ok (.iload_n 1, 1) := by decide +kernel
theorem d_168_1 : decode m168.2.1 1 = .ok (.invokestatic 170, 3) := by decide +kernel
theorem d_168_4 : decode m168.2.1 4 = .ok (.ifCond .ne 5, 3) := by decide +kernel
theorem d_168_7 : decode m168.2.1 7 = .ok (.iconst (-1), 1) := by decide +kernel
theorem d_168_8 : decode m168.2.1 8 = .ok (.ireturn, 1) := by decide +kernel
theorem d_168_9 : decode m168.2.1 9 = .ok (.aload_n 0, 1) := by decide +kernel
theorem d_168_10 : decode m168.2.1 10 = .ok (.invokevirtual 173, 3) := by decide +kernel
theorem d_168_13 : decode m168.2.1 13 = .ok (.iconst 0, 1) := by decide +kernel
theorem d_168_14 : decode m168.2.1 14 = .ok (.istore_n 2, 1) := by decide +kernel
theorem d_168_15 : decode m168.2.1 15 = .ok (.iconst 0, 1) := by decide +kernel
theorem d_168_16 : decode m168.2.1 16 = .ok (.istore_n 3, 1) := by decide +kernel
theorem d_168_17 : decode m168.2.1 17 = .ok (.iload_n 3, 1) := by decide +kernel
theorem d_168_18 : decode m168.2.1 18 = .ok (.aload_n 0, 1) := by decide +kernel
theorem d_168_19 : decode m168.2.1 19 = .ok (.getfield 25, 3) := by decide +kernel
theorem d_168_22 : decode m168.2.1 22 = .ok (.getfield 193, 3) := by decide +kernel
theorem d_168_25 : decode m168.2.1 25 = .ok (.if_icmp .ge 30, 3) := by decide +kernel
theorem d_168_28 : decode m168.2.1 28 = .ok (.iload_n 2, 1) := by decide +kernel
theorem d_168_29 : decode m168.2.1 29 = .ok (.aload_n 0, 1) := by decide +kernel
theorem d_168_30 : decode m168.2.1 30 = .ok (.getfield 50, 3) := by decide +kernel
theorem d_168_33 : decode m168.2.1 33 = .ok (.aload_n 0, 1) := by decide +kernel
theorem d_168_34 : decode m168.2.1 34 = .ok (.getfield 50, 3) := by decide +kernel
theorem d_168_37 : decode m168.2.1 37 = .ok (.iload_n 1, 1) := by decide +kernel
theorem d_168_38 : decode m168.2.1 38 = .ok (.iload_n 3, 1) := by decide +kernel
theorem d_168_39 : decode m168.2.1 39 = .ok (.invokevirtual 176, 3) := by decide +kernel
theorem d_168_42 : decode m168.2.1 42 = .ok (.invokevirtual 297, 3) := by decide +kernel
theorem d_168_45 : decode m168.2.1 45 = .ok (.invokestatic 230, 3) := by decide +kernel
theorem d_168_48 : decode m168.2.1 48 = .ok (.istore_n 2, 1) := by decide +kernel
theorem d_168_49 : decode m168.2.1 49 = .ok (.iinc 3 1, 3) := by decide +kernel
theorem d_168_52 : decode m168.2.1 52 = .ok (.goto (-35), 3) := by decide +kernel
theorem d_168_55 : decode m168.2.1 55 = .ok (.iload_n 2, 1) := by decide +kernel
theorem d_168_56 : decode m168.2.1 56 = .ok (.ireturn, 1) := by decide +kernel
theorem d_170_0 : decode m170.2.1 0 = .ok (.iload_n 1, 1) := by decide +kernel
theorem d_170_1 : decode m170.2.1 1 = .ok (.invokestatic 170, 3) := by decide +kernel
theorem d_170_4 : decode m170.2.1 4 = .ok (.ifCond .ne 5, 3) := by decide +kernel
theorem d_170_7 : decode m170.2.1 7 = .ok (.iconst (-1), 1) := by decide +kernel
theorem d_170_8 : decode m170.2.1 8 = .ok (.ireturn, 1) := by decide +kernel
theorem d_170_9 : decode m170.2.1 9 = .ok (.aload_n 0, 1) := by decide +kernel
theorem d_170_10 : decode m170.2.1 10 = .ok (.invokevirtual 173, 3) := by decide +kernel
theorem d_170_13 : decode m170.2.1 13 = .ok (.iconst 0, 1) := by decide +kernel
theorem d_170_14 : decode m170.2.1 14 = .ok (.istore_n 2, 1) := by decide +kernel
theorem d_170_15 : decode m170.2.1 15 = .ok (.iconst 1, 1) := by decide +kernel
theorem d_170_16 : decode m170.2.1 16 = .ok (.istore_n 3, 1) := by decide +kernel
theorem d_170_17 : decode m170.2.1 17 = .ok (.iload_n 3, 1) := by decide +kernel
theorem d_170_18 : decode m170.2.1 18 = .ok (.aload_n 0, 1) := by decide +kernel
theorem d_170_19 : decode m170.2.1 19 = .ok (.getfield 25, 3) := by decide +kernel
theorem d_170_22 : decode m170.2.1 22 = .ok (.getfield 193, 3) := by decide +kernel
theorem d_170_25 : decode m170.2.1 25 = .ok (.if_icmp .ge 45, 3) := by decide +kernel
theorem d_170_28 : decode m170.2.1 28 = .ok (.aload_n 0, 1) := by decide +kernel
theorem d_170_29 : decode m170.2.1 29 = .ok (.getfield 50, 3) := by decide +kernel
theorem d_170_32 : decode m170.2.1 32 = .ok (.iload_n 1, 1) := by decide +kernel
theorem d_170_33 : decode m170.2.1 33 = .ok (.iload_n 3, 1) := by decide +kernel
theorem d_170_34 : decode m170.2.1 34 = .ok (.iconst 1, 1) := by decide +kernel
theorem d_170_35 : decode m170.2.1 35 = .ok (.isub, 1) := by decide +kernel
theorem d_170_36 : decode m170.2.1 36 = .ok (.invokevirtual 176, 3) := by decide +kernel
theorem d_170_39 : decode m170.2.1 39 = .ok (.istore 4, 2) := by decide +kernel
theorem d_170_41 : decode m170.2.1 41 = .ok (.iload_n 2, 1) := by decide +kernel
theorem d_170_42 : decode m170.2.1 42 = .ok (.aload_n 0, 1) := by decide +kernel
theorem d_170_43 : decode m170.2.1 43 = .ok (.getfield 50, 3) := by decide +kernel
theorem d_170_46 : decode m170.2.1 46 = .ok (.iload 4, 2) := by decide +kernel
theorem d_170_48 : decode m170.2.1 48 = .ok (.aload_n 0, 1) := by decide +kernel
theorem d_170_49 : decode m170.2.1 49 = .ok (.getfield 50, 3) := by decide +kernel
theorem d_170_52 : decode m170.2.1 52 = .ok (.iload_n 1, 1) := by decide +kernel
theorem d_170_53 : decode m170.2.1 53 = .ok (.iload_n 3, 1) := by decide +kernel
theorem d_170_54 : decode m170.2.1 54 = .ok (.invokevirtual 176, 3) := by decide +kernel
theorem d_170_57 : decode m170.2.1 57 = .ok (.invokevirtual 300, 3) := by decide +kernel
theorem d_170_60 : decode m170.2.1 60 = .ok (.invokestatic 230, 3) := by decide +kernel
theorem d_170_63 : decode m170.2.1 63 = .ok (.istore_n 2, 1) := by decide +kernel
theorem d_170_64 : decode m170.2.1 64 = .ok (.iinc 3 1, 3) := by decide +kernel
theorem d_170_67 : decode m170.2.1 67 = .ok (.goto (-50), 3) := by decide +kernel
theorem d_170_70 : decode m170.2.1 70 = .ok (.iload_n 2, 1) := by decide +kernel
theorem d_170_71 : decode m170.2.1 71 = .ok (.ireturn, 1) := by decide +kernel
theorem d_171_0 : decode m171.2.1 0 = .ok (.aload_n 0, 1) := by decide +kernel
theorem d_171_1 : decode m171.2.1 1 = .ok (.invokevirtual 173, 3) := by decide +kernel
theorem d_171_4 : decode m171.2.1 4 = .ok (.iconst 0, 1) := by decide +kernel
theorem d_171_5 : decode m171.2.1 5 = .ok (.istore_n 1, 1) := by decide +kernel
theorem d_171_6 : decode m171.2.1 6 = .ok (.iconst 0, 1) := by decide +kernel
theorem d_171_7 : decode m171.2.1 7 = .ok (.istore_n 2, 1) := by decide +kernel
theorem d_171_8 : decode m171.2.1 8 = .ok (.iload_n 2, 1) := by decide +kernel
theorem d_171_9 : decode m171.2.1 9 = .ok (.aload_n 0, 1) := by decide +kernel
theorem d_171_10 : decode m171.2.1 10 = .ok (.getfield 25, 3) := by decide +kernel
theorem d_171_13 : decode m171.2.1 13 = .ok (.getfield 193, 3) := by decide +kernel
theorem d_171_16 : decode m171.2.1 16 = .ok (.if_icmp .ge 20, 3) := by decide +kernel
theorem d_171_19 : decode m171.2.1 19 = .ok (.iload_n 1, 1) := by decide +kernel
theorem d_171_20 : decode m171.2.1 20 = .ok (.aload_n 0, 1) := by decide +kernel
theorem d_171_21 : decode m171.2.1 21 = .ok (.getfield 50, 3) := by decide +kernel
theorem d_171_24 : decode m171.2.1 24 = .ok (.iload_n 2, 1) := by decide +kernel
theorem d_171_25 : decode m171.2.1 25 = .ok (.invokevirtual 303, 3) := by decide +kernel
theorem d_171_28 : decode m171.2.1 28 = .ok (.iadd, 1) := by decide +kernel
theorem d_171_29 : decode m171.2.1 29 = .ok (.istore_n 1, 1) := by decide +kernel
theorem d_171_30 : decode m171.2.1 30 = .ok (.iinc 2 1, 3) := by decide +kernel
theorem d_171_33 : decode m171.2.1 33 = .ok (.goto (-25), 3) := by decide +kernel
theorem d_171_36 : decode m171.2.1 36 = .ok (.iload_n 1, 1) := by decide +kernel
theorem d_171_37 : decode m171.2.1 37 = .ok (.ireturn, 1) := by decide +kernel
theorem d_173_0 : decode m173.2.1 0 = .ok (.aload_n 0, 1) := by decide +kernel
theorem d_173_1 : decode m173.2.1 1 = .ok (.iload_n 1, 1) := by decide +kernel
theorem d_173_2 : decode m173.2.1 2 = .ok (.invokevirtual 167, 3) := by decide +kernel
theorem d_173_5 : decode m173.2.1 5 = .ok (.ifCond .ne 5, 3) := by decide +kernel
theorem d_173_8 : decode m173.2.1 8 = .ok (.iconst (-1), 1) := by decide +kernel
theorem d_173_9 : decode m173.2.1 9 = .ok (.ireturn, 1) := by decide +kernel
theorem d_173_10 : decode m173.2.1 10 = .ok (.aload_n 0, 1) := by decide +kernel
theorem d_173_11 : decode m173.2.1 11 = .ok (.invokevirtual 173, 3) := by decide +kernel
theorem d_173_14 : decode m173.2.1 14 = .ok (.aload_n 0, 1) := by decide +kernel
theorem d_173_15 : decode m173.2.1 15 = .ok (.iload_n 1, 1) := by decide +kernel
theorem d_173_16 : decode m173.2.1 16 = .ok (.invokevirtual 306, 3) := by decide +kernel
theorem d_173_19 : decode m173.2.1 19 = .ok (.ireturn, 1) := by decide +kernel
theorem d_174_0 : decode m174.2.1 0 = .ok (.aload_n 0, 1) := by decide +kernel
theorem d_174_1 : decode m174.2.1 1 = .ok (.getfield 50, 3) := by decide +kernel
theorem d_174_4 : decode m174.2.1 4 = .ok (.iload_n 1, 1) := by decide +kernel
theorem d_174_5 : decode m174.2.1 5 = .ok (.invokevirtual 180, 3) := by decide +kernel
theorem d_174_8 : decode m174.2.1 8 = .ok (.istore_n 2, 1) := by decide +kernel
theorem d_174_9 : decode m174.2.1 9 = .ok (.iconst 0, 1) := by decide +kernel
theorem d_174_10 : decode m174.2.1 10 = .ok (.istore_n 3, 1) := by decide +kernel
theorem d_174_11 : decode m174.2.1 11 = .ok (.iconst 0, 1) := by decide +kernel
theorem d_174_12 : decode m174.2.1 12 = .ok (.istore 4, 2) := by decide +kernel
theorem d_174_14 : decode m174.2.1 14 = .ok (.iload 4, 2) := by decide +kernel
theorem d_174_16 : decode m174.2.1 16 = .ok (.aload_n 0, 1) := by decide +kernel
theorem d_174_17 : decode m174.2.1 17 = .ok (.getfield 25, 3) := by decide +kernel
theorem d_174_20 : decode m174.2.1 20 = .ok (.getfield 117, 3) := by decide +kernel
theorem d_174_23 : decode m174.2.1 23 = .ok (.if_icmp .ge 33, 3) := by decide +kernel
theorem d_174_26 : decode m174.2.1 26 = .ok (.iload_n 2, 1) := by decide +kernel
theorem d_174_27 : decode m174.2.1 27 = .ok (.iload 4, 2) := by decide +kernel
theorem d_174_29 : decode m174.2.1 29 = .ok (.ishr, 1) := by decide +kernel
theorem d_174_30 : decode m174.2.1 30 = .ok (.iconst 1, 1) := by decide +kernel
theorem d_174_31 : decode m174.2.1 31 = .ok (.iand, 1) := by decide +kernel
theorem d_174_32 : decode m174.2.1 32 = .ok (.ifCond .eq 18, 3) := by decide +kernel
theorem d_174_35 : decode m174.2.1 35 = .ok (.iload_n 3, 1) := by decide +kernel
theorem d_174_36 : decode m174.2.1 36 = .ok (.aload_n 0, 1) := by decide +kernel
theorem d_174_37 : decode m174.2.1 37 = .ok (.getfield 32, 3) := by decide +kernel
theorem d_174_40 : decode m174.2.1 40 = .ok (.getfield 141, 3) := by decide +kernel
theorem d_174_43 : decode m174.2.1 43 = .ok (.iload 4, 2) := by decide +kernel
theorem d_174_45 : decode m174.2.1 45 = .ok (.iaload, 1) := by decide +kernel
theorem d_174_46 : decode m174.2.1 46 = .ok (.invokestatic 230, 3) := by decide +kernel
theorem d_174_49 : decode m174.2.1 49 = .ok (.istore_n 3, 1) := by decide +kernel
theorem d_174_50 : decode m174.2.1 50 = .ok (.iinc 4 1, 3) := by decide +kernel
theorem d_174_53 : decode m174.2.1 53 = .ok (.goto (-39), 3) := by decide +kernel
theorem d_174_56 : decode m174.2.1 56 = .ok (.iconst 0, 1) := by decide +kernel
theorem d_174_57 : decode m174.2.1 57 = .ok (.istore 4, 2) := by decide +kernel
theorem d_174_59 : decode m174.2.1 59 = .ok (.iconst 0, 1) := by decide +kernel
theorem d_174_60 : decode m174.2.1 60 = .ok (.istore 5, 2) := by decide +kernel
theorem d_174_62 : decode m174.2.1 62 = .ok (.iload 5, 2) := by decide +kernel
theorem d_174_64 : decode m174.2.1 64 = .ok (.aload_n 0, 1) := by decide +kernel
theorem d_174_65 : decode m174.2.1 65 = .ok (.getfield 25, 3) := by decide +kernel
theorem d_174_68 : decode m174.2.1 68 = .ok (.getfield 117, 3) := by decide +kernel
theorem d_174_71 : decode m174.2.1 71 = .ok (.if_icmp .ge 49, 3) := by decide +kernel
theorem d_174_74 : decode m174.2.1 74 = .ok (.iload_n 2, 1) := by decide +kernel
theorem d_174_75 : decode m174.2.1 75 = .ok (.iload 5, 2) := by decide +kernel
theorem d_174_77 : decode m174.2.1 77 = .ok (.ishr, 1) := by decide +kernel
theorem d_174_78 : decode m174.2.1 78 = .ok (.iconst 1, 1) := by decide +kernel
theorem d_174_79 : decode m174.2.1 79 = .ok (.iand, 1) := by decide +kernel
theorem d_174_80 : decode m174.2.1 80 = .ok (.ifCond .eq 34, 3) := by decide +kernel
theorem d_174_83 : decode m174.2.1 83 = .ok (.iload_n 3, 1) := by decide +kernel
theorem d_174_84 : decode m174.2.1 84 = .ok (.aload_n 0, 1) := by decide +kernel
theorem d_174_85 : decode m174.2.1 85 = .ok (.getfield 32, 3) := by decide +kernel
theorem d_174_88 : decode m174.2.1 88 = .ok (.getfield 141, 3) := by decide +kernel
theorem d_174_91 : decode m174.2.1 91 = .ok (.iload 5, 2) := by decide +kernel
theorem d_174_93 : decode m174.2.1 93 = .ok (.iaload, 1) := by decide +kernel
theorem d_174_94 : decode m174.2.1 94 = .ok (.isub, 1) := by decide +kernel
theorem d_174_95 : decode m174.2.1 95 = .ok (.aload_n 0, 1) := by decide +kernel
theorem d_174_96 : decode m174.2.1 96 = .ok (.getfield 25, 3) := by decide +kernel
theorem d_174_99 : decode m174.2.1 99 = .ok (.getfield 309, 3) := by decide +kernel
theorem d_174_102 : decode m174.2.1 102 = .ok (.if_icmp .gt 12, 3) := by decide +kernel
theorem d_174_105 : decode m174.2.1 105 = .ok (.iload 4, 2) := by decide +kernel
theorem d_174_107 : decode m174.2.1 107 = .ok (.iconst 1, 1) := by decide +kernel
theorem d_174_108 : decode m174.2.1 108 = .ok (.iload 5, 2) := by decide +kernel
theorem d_174_110 : decode m174.2.1 110 = .ok (.ishl, 1) := by decide +kernel
theorem d_174_111 : decode m174.2.1 111 = .ok (.ior, 1) := by decide +kernel
theorem d_174_112 : decode m174.2.1 112 = .ok (.istore 4, 2) := by decide +kernel
theorem d_174_114 : decode m174.2.1 114 = .ok (.iinc 5 1, 3) := by decide +kernel
theorem d_174_117 : decode m174.2.1 117 = .ok (.goto (-55), 3) := by decide +kernel
theorem d_174_120 : decode m174.2.1 120 = .ok (.iload 4, 2) := by decide +kernel
theorem d_174_122 : decode m174.2.1 122 = .ok (.ireturn, 1) := by decide +kernel
theorem d_175_0 : decode m175.2.1 0 = .ok (.aload_n 0, 1) := by decide +kernel
theorem d_175_1 : decode m175.2.1 1 = .ok (.invokevirtual 173, 3) := by decide +kernel
theorem d_175_4 : decode m175.2.1 4 = .ok (.iconst 0, 1) := by decide +kernel
theorem d_175_5 : decode m175.2.1 5 = .ok (.istore_n 1, 1) := by decide +kernel
theorem d_175_6 : decode m175.2.1 6 = .ok (.iconst 0, 1) := by decide +kernel
theorem d_175_7 : decode m175.2.1 7 = .ok (.istore_n 2, 1) := by decide +kernel
theorem d_175_8 : decode m175.2.1 8 = .ok (.iload_n 2, 1) := by decide +kernel
theorem d_175_9 : decode m175.2.1 9 = .ok (.aload_n 0, 1) := by decide +kernel
theorem d_175_10 : decode m175.2.1 10 = .ok (.getfield 25, 3) := by decide +kernel
theorem d_175_13 : decode m175.2.1 13 = .ok (.getfield 117, 3) := by decide +kernel
theorem d_175_16 : decode m175.2.1 16 = .ok (.if_icmp .ge 69, 3) := by decide +kernel
theorem d_175_19 : decode m175.2.1 19 = .ok (.aload_n 0, 1) := by decide +kernel
theorem d_175_20 : decode m175.2.1 20 = .ok (.getfield 25, 3) := by decide +kernel
theorem d_175_23 : decode m175.2.1 23 = .ok (.iload_n 2, 1) := by decide +kernel
theorem d_175_24 : decode m175.2.1 24 = .ok (.invokevirtual 203, 3) := by decide +kernel
theorem d_175_27 : decode m175.2.1 27 = .ok (.iconst 2, 1) := by decide +kernel
theorem d_175_28 : decode m175.2.1 28 = .ok (.if_icmp .ne 19, 3) := by decide +kernel
theorem d_175_31 : decode m175.2.1 31 = .ok (.aload_n 0, 1) := by decide +kernel
theorem d_175_32 : decode m175.2.1 32 = .ok (.getfield 32, 3) := by decide +kernel
theorem d_175_35 : decode m175.2.1 35 = .ok (.getfield 144, 3) := by decide +kernel
theorem d_175_38 : decode m175.2.1 38 = .ok (.iload_n 2, 1) := by decide +kernel
theorem d_175_39 : decode m175.2.1 39 = .ok (.iaload, 1) := by decide +kernel
theorem d_175_40 : decode m175.2.1 40 = .ok (.ifCond .eq 7, 3) := by decide +kernel
theorem d_175_43 : decode m175.2.1 43 = .ok (.iconst 1, 1) := by decide +kernel
theorem d_175_44 : decode m175.2.1 44 = .ok (.goto 4, 3) := by decide +kernel
theorem d_175_47 : decode m175.2.1 47 = .ok (.iconst 0, 1) := by decide +kernel
theorem d_175_48 : decode m175.2.1 48 = .ok (.istore_n 3, 1) := by decide +kernel
theorem d_175_49 : decode m175.2.1 49 = .ok (.iload_n 3, 1) := by decide +kernel
theorem d_175_50 : decode m175.2.1 50 = .ok (.ifCond .eq 29, 3) := by decide +kernel
theorem d_175_53 : decode m175.2.1 53 = .ok (.aload_n 0, 1) := by decide +kernel
theorem d_175_54 : decode m175.2.1 54 = .ok (.aload_n 0, 1) := by decide +kernel
theorem d_175_55 : decode m175.2.1 55 = .ok (.getfield 25, 3) := by decide +kernel
theorem d_175_58 : decode m175.2.1 58 = .ok (.getfield 132, 3) := by decide +kernel
theorem d_175_61 : decode m175.2.1 61 = .ok (.iload_n 2, 1) := by decide +kernel
theorem d_175_62 : decode m175.2.1 62 = .ok (.iaload, 1) := by decide +kernel
theorem d_175_63 : decode m175.2.1 63 = .ok (.invokevirtual 306, 3) := by decide +kernel
theorem d_175_66 : decode m175.2.1 66 = .ok (.iload_n 2, 1) := by decide +kernel
theorem d_175_67 : decode m175.2.1 67 = .ok (.ishr, 1) := by decide +kernel
theorem d_175_68 : decode m175.2.1 68 = .ok (.iconst 1, 1) := by decide +kernel
theorem d_175_69 : decode m175.2.1 69 = .ok (.iand, 1) := by decide +kernel
theorem d_175_70 : decode m175.2.1 70 = .ok (.ifCond .ne 9, 3) := by decide +kernel
theorem d_175_73 : decode m175.2.1 73 = .ok (.iload_n 1, 1) := by decide +kernel
theorem d_175_74 : decode m175.2.1 74 = .ok (.iconst 1, 1) := by decide +kernel
theorem d_175_75 : decode m175.2.1 75 = .ok (.iload_n 2, 1) := by decide +kernel
theorem d_175_76 : decode m175.2.1 76 = .ok (.ishl, 1) := by decide +kernel
theorem d_175_77 : decode m175.2.1 77 = .ok (.ior, 1) := by decide +kernel
theorem d_175_78 : decode m175.2.1 78 = .ok (.istore_n 1, 1) := by decide +kernel
theorem d_175_79 : decode m175.2.1 79 = .ok (.iinc 2 1, 3) := by decide +kernel
theorem d_175_82 : decode m175.2.1 82 = .ok (.goto (-74), 3) := by decide +kernel
theorem d_175_85 : decode m175.2.1 85 = .ok (.iload_n 1, 1) := by decide +kernel
theorem d_175_86 : decode m175.2.1 86 = .ok (.ireturn, 1) := by decide +kernel
theorem d_176_0 : decode m176.2.1 0 = .ok (.aload_n 0, 1) := by decide +kernel
theorem d_176_1 : decode m176.2.1 1 = .ok (.invokevirtual 173, 3) := by decide +kernel
theorem d_176_4 : decode m176.2.1 4 = .ok (.iconst 0, 1) := by decide +kernel
theorem d_176_5 : decode m176.2.1 5 = .ok (.istore_n 1, 1) := by decide +kernel
theorem d_176_6 : decode m176.2.1 6 = .ok (.iconst 0, 1) := by decide +kernel
theorem d_176_7 : decode m176.2.1 7 = .ok (.istore_n 2, 1) := by decide +kernel
theorem d_176_8 : decode m176.2.1 8 = .ok (.iload_n 2, 1) := by decide +kernel
theorem d_176_9 : decode m176.2.1 9 = .ok (.aload_n 0, 1) := by decide +kernel
theorem d_176_10 : decode m176.2.1 10 = .ok (.getfield 25, 3) := by decide +kernel
theorem d_176_13 : decode m176.2.1 13 = .ok (.getfield 117, 3) := by decide +kernel
theorem d_176_16 : decode m176.2.1 16 = .ok (.if_icmp .ge 27, 3) := by decide +kernel
theorem d_176_19 : decode m176.2.1 19 = .ok (.aload_n 0, 1) := by decide +kernel
theorem d_176_20 : decode m176.2.1 20 = .ok (.getfield 25, 3) := by decide +kernel
theorem d_176_23 : decode m176.2.1 23 = .ok (.iload_n 2, 1) := by decide +kernel
theorem d_176_24 : decode m176.2.1 24 = .ok (.invokevirtual 203, 3) := by decide +kernel
theorem d_176_27 : decode m176.2.1 27 = .ok (.iconst 2, 1) := by decide +kernel
theorem d_176_28 : decode m176.2.1 28 = .ok (.if_icmp .ne 9, 3) := by decide +kernel
theorem d_176_31 : decode m176.2.1 31 = .ok (.iload_n 1, 1) := by decide +kernel
theorem d_176_32 : decode m176.2.1 32 = .ok (.iconst 1, 1) := by decide +kernel
theorem d_176_33 : decode m176.2.1 33 = .ok (.iload_n 2, 1) := by decide +kernel
theorem d_176_34 : decode m176.2.1 34 = .ok (.ishl, 1) := by decide +kernel
theorem d_176_35 : decode m176.2.1 35 = .ok (.ior, 1) := by decide +kernel
theorem d_176_36 : decode m176.2.1 36 = .ok (.istore_n 1, 1) := by decide +kernel
theorem d_176_37 : decode m176.2.1 37 = .ok (.iinc 2 1, 3) := by decide +kernel
theorem d_176_40 : decode m176.2.1 40 = .ok (.goto (-32), 3) := by decide +kernel
theorem d_176_43 : decode m176.2.1 43 = .ok (.iconst 0, 1) := by decide +kernel
theorem d_176_44 : decode m176.2.1 44 = .ok (.istore_n 2, 1) := by decide +kernel
theorem d_176_45 : decode m176.2.1 45 = .ok (.iconst 0, 1) := by decide +kernel
theorem d_176_46 : decode m176.2.1 46 = .ok (.istore_n 3, 1) := by decide +kernel
theorem d_176_47 : decode m176.2.1 47 = .ok (.iload_n 3, 1) := by decide +kernel
theorem d_176_48 : decode m176.2.1 48 = .ok (.aload_n 0, 1) := by decide +kernel
theorem d_176_49 : decode m176.2.1 49 = .ok (.getfield 25, 3) := by decide +kernel
theorem d_176_52 : decode m176.2.1 52 = .ok (.getfield 193, 3) := by decide +kernel
theorem d_176_55 : decode m176.2.1 55 = .ok (.if_icmp .ge 28, 3) := by decide +kernel
theorem d_176_58 : decode m176.2.1 58 = .ok (.aload_n 0, 1) := by decide +kernel
theorem d_176_59 : decode m176.2.1 59 = .ok (.getfield 50, 3) := by decide +kernel
theorem d_176_62 : decode m176.2.1 62 = .ok (.iload_n 3, 1) := by decide +kernel
theorem d_176_63 : decode m176.2.1 63 = .ok (.invokevirtual 180, 3) := by decide +kernel
theorem d_176_66 : decode m176.2.1 66 = .ok (.iload_n 1, 1) := by decide +kernel
theorem d_176_67 : decode m176.2.1 67 = .ok (.iand, 1) := by decide +kernel
theorem d_176_68 : decode m176.2.1 68 = .ok (.ifCond .ne 9, 3) := by decide +kernel
theorem d_176_71 : decode m176.2.1 71 = .ok (.iload_n 2, 1) := by decide +kernel
theorem d_176_72 : decode m176.2.1 72 = .ok (.iconst 1, 1) := by decide +kernel
theorem d_176_73 : decode m176.2.1 73 = .ok (.iload_n 3, 1) := by decide +kernel
theorem d_176_74 : decode m176.2.1 74 = .ok (.ishl, 1) := by decide +kernel
theorem d_176_75 : decode m176.2.1 75 = .ok (.ior, 1) := by decide +kernel
theorem d_176_76 : decode m176.2.1 76 = .ok (.istore_n 2, 1) := by decide +kernel
theorem d_176_77 : decode m176.2.1 77 = .ok (.iinc 3 1, 3) := by decide +kernel
theorem d_176_80 : decode m176.2.1 80 = .ok (.goto (-33), 3) := by decide +kernel
theorem d_176_83 : decode m176.2.1 83 = .ok (.iload_n 2, 1) := by decide +kernel
theorem d_176_84 : decode m176.2.1 84 = .ok (.ireturn, 1) := by decide +kernel
theorem d_177_0 : decode m177.2.1 0 = .ok (.aload_n 0, 1) := by decide +kernel
theorem d_177_1 : decode m177.2.1 1 = .ok (.iload_n 1, 1) := by decide +kernel
theorem d_177_2 : decode m177.2.1 2 = .ok (.invokevirtual 126, 3) := by decide +kernel
theorem d_177_5 : decode m177.2.1 5 = .ok (.ifCond .eq 15, 3) := by decide +kernel
theorem d_177_8 : decode m177.2.1 8 = .ok (.aload_n 0, 1) := by decide +kernel
theorem d_177_9 : decode m177.2.1 9 = .ok (.getfield 32, 3) := by decide +kernel
theorem d_177_12 : decode m177.2.1 12 = .ok (.getfield 144, 3) := by decide +kernel
theorem d_177_15 : decode m177.2.1 15 = .ok (.iload_n 1, 1) := by decide +kernel
theorem d_177_16 : decode m177.2.1 16 = .ok (.iaload, 1) := by decide +kernel
theorem d_177_17 : decode m177.2.1 17 = .ok (.ifCond .ne 5, 3) := by decide +kernel
theorem d_177_20 : decode m177.2.1 20 = .ok (.iconst (-1), 1) := by decide +kernel
theorem d_177_21 : decode m177.2.1 21 = .ok (.ireturn, 1) := by decide +kernel
theorem d_177_22 : decode m177.2.1 22 = .ok (.aload_n 0, 1) := by decide +kernel
theorem d_177_23 : decode m177.2.1 23 = .ok (.invokevirtual 173, 3) := by decide +kernel
theorem d_177_26 : decode m177.2.1 26 = .ok (.iconst 1, 1) := by decide +kernel
theorem d_177_27 : decode m177.2.1 27 = .ok (.iload_n 1, 1) := by decide +kernel
theorem d_177_28 : decode m177.2.1 28 = .ok (.ishl, 1) := by decide +kernel
theorem d_177_29 : decode m177.2.1 29 = .ok (.iconst (-1), 1) := by decide +kernel
theorem d_177_30 : decode m177.2.1 30 = .ok (.ixor, 1) := by decide +kernel
theorem d_177_31 : decode m177.2.1 31 = .ok (.istore_n 2, 1) := by decide +kernel
theorem d_177_32 : decode m177.2.1 32 = .ok (.aload_n 0, 1) := by decide +kernel
theorem d_177_33 : decode m177.2.1 33 = .ok (.getfield 50, 3) := by decide +kernel
theorem d_177_36 : decode m177.2.1 36 = .ok (.aload_n 0, 1) := by decide +kernel
theorem d_177_37 : decode m177.2.1 37 = .ok (.getfield 50, 3) := by decide +kernel
theorem d_177_40 : decode m177.2.1 40 = .ok (.getfield 183, 3) := by decide +kernel
theorem d_177_43 : decode m177.2.1 43 = .ok (.aload_n 0, 1) := by decide +kernel
theorem d_177_44 : decode m177.2.1 44 = .ok (.getfield 50, 3) := by decide +kernel
theorem d_177_47 : decode m177.2.1 47 = .ok (.getfield 186, 3) := by decide +kernel
theorem d_177_50 : decode m177.2.1 50 = .ok (.invokevirtual 253, 3) := by decide +kernel
theorem d_177_53 : decode m177.2.1 53 = .ok (.istore_n 3, 1) := by decide +kernel
theorem d_177_54 : decode m177.2.1 54 = .ok (.aload_n 0, 1) := by decide +kernel
theorem d_177_55 : decode m177.2.1 55 = .ok (.getfield 50, 3) := by decide +kernel
theorem d_177_58 : decode m177.2.1 58 = .ok (.aload_n 0, 1) := by decide +kernel
theorem d_177_59 : decode m177.2.1 59 = .ok (.getfield 50, 3) := by decide +kernel
theorem d_177_62 : decode m177.2.1 62 = .ok (.getfield 183, 3) := by decide +kernel
theorem d_177_65 : decode m177.2.1 65 = .ok (.iload_n 2, 1) := by decide +kernel
theorem d_177_66 : decode m177.2.1 66 = .ok (.iand, 1) := by decide +kernel
theorem d_177_67 : decode m177.2.1 67 = .ok (.aload_n 0, 1) := by decide +kernel
theorem d_177_68 : decode m177.2.1 68 = .ok (.getfield 50, 3) := by decide +kernel
theorem d_177_71 : decode m177.2.1 71 = .ok (.getfield 186, 3) := by decide +kernel
theorem d_177_74 : decode m177.2.1 74 = .ok (.iload_n 2, 1) := by decide +kernel
theorem d_177_75 : decode m177.2.1 75 = .ok (.iand, 1) := by decide +kernel
theorem d_177_76 : decode m177.2.1 76 = .ok (.invokevirtual 253, 3) := by decide +kernel
theorem d_177_79 : decode m177.2.1 79 = .ok (.istore 4, 2) := by decide +kernel
theorem d_177_81 : decode m177.2.1 81 = .ok (.iload_n 3, 1) := by decide +kernel
theorem d_177_82 : decode m177.2.1 82 = .ok (.invokestatic 206, 3) := by decide +kernel
theorem d_177_85 : decode m177.2.1 85 = .ok (.iload 4, 2) := by decide +kernel
theorem d_177_87 : decode m177.2.1 87 = .ok (.invokestatic 206, 3) := by decide +kernel
theorem d_177_90 : decode m177.2.1 90 = .ok (.isub, 1) := by decide +kernel
theorem d_177_91 : decode m177.2.1 91 = .ok (.ireturn, 1) := by decide +kernel
theorem d_178_0 : decode m178.2.1 0 = .ok (.aload_n 0, 1) := by decide +kernel
theorem d_178_1 : decode m178.2.1 1 = .ok (.invokevirtual 173, 3) := by decide +kernel
theorem d_178_4 : decode m178.2.1 4 = .ok (.aload_n 0, 1) := by decide +kernel
theorem d_178_5 : decode m178.2.1 5 = .ok (.getfield 50, 3) := by decide +kernel
theorem d_178_8 : decode m178.2.1 8 = .ok (.aload_n 0, 1) := by decide +kernel
theorem d_178_9 : decode m178.2.1 9 = .ok (.getfield 50, 3) := by decide +kernel
theorem d_178_12 : decode m178.2.1 12 = .ok (.getfield 183, 3) := by decide +kernel
theorem d_178_15 : decode m178.2.1 15 = .ok (.aload_n 0, 1) := by decide +kernel
theorem d_178_16 : decode m178.2.1 16 = .ok (.getfield 50, 3) := by decide +kernel
theorem d_178_19 : decode m178.2.1 19 = .ok (.getfield 186, 3) := by decide +kernel
theorem d_178_22 : decode m178.2.1 22 = .ok (.ior, 1) := by decide +kernel
theorem d_178_23 : decode m178.2.1 23 = .ok (.invokevirtual 312, 3) := by decide +kernel
theorem d_178_26 : decode m178.2.1 26 = .ok (.ireturn, 1) := by decide +kernel
theorem d_180_0 : decode m180.2.1 0 = .ok (.iload_n 1, 1) := by decide +kernel
theorem d_180_1 : decode m180.2.1 1 = .ok (.invokestatic 170, 3) := by decide +kernel
theorem d_180_4 : decode m180.2.1 4 = .ok (.ifCond .ne 5, 3) := by decide +kernel
theorem d_180_7 : decode m180.2.1 7 = .ok (.iconst (-1), 1) := by decide +kernel
theorem d_180_8 : decode m180.2.1 8 = .ok (.ireturn, 1) := by decide +kernel
theorem d_180_9 : decode m180.2.1 9 = .ok (.aload_n 0, 1) := by decide +kernel
theorem d_180_10 : decode m180.2.1 10 = .ok (.invokevirtual 173, 3) := by decide +kernel
theorem d_180_13 : decode m180.2.1 13 = .ok (.aload_n 0, 1) := by decide +kernel
theorem d_180_14 : decode m180.2.1 14 = .ok (.getfield 50, 3) := by decide +kernel
theorem d_180_17 : decode m180.2.1 17 = .ok (.aload_n 0, 1) := by decide +kernel
theorem d_180_18 : decode m180.2.1 18 = .ok (.getfield 50, 3) := by decide +kernel
theorem d_180_21 : decode m180.2.1 21 = .ok (.iload_n 1, 1) := by decide +kernel
theorem d_180_22 : decode m180.2.1 22 = .ok (.invokevirtual 315, 3) := by decide +kernel
theorem d_180_25 : decode m180.2.1 25 = .ok (.invokevirtual 312, 3) := by decide +kernel
theorem d_180_28 : decode m180.2.1 28 = .ok (.ireturn, 1) := by decide +kernel
theorem d_181_0 : decode m181.2.1 0 = .ok (.iload_n 1, 1) := by decide +kernel
theorem d_181_1 : decode m181.2.1 1 = .ok (.invokestatic 240, 3) := by decide +kernel
theorem d_181_4 : decode m181.2.1 4 = .ok (.ifCond .ne 5, 3) := by decide +kernel
theorem d_181_7 : decode m181.2.1 7 = .ok (.iconst (-1), 1) := by decide +kernel
theorem d_181_8 : decode m181.2.1 8 = .ok (.ireturn, 1) := by decide +kernel
theorem d_181_9 : decode m181.2.1 9 = .ok (.aload_n 0, 1) := by decide +kernel
theorem d_181_10 : decode m181.2.1 10 = .ok (.invokevirtual 173, 3) := by decide +kernel
theorem d_181_13 : decode m181.2.1 13 = .ok (.aload_n 0, 1) := by decide +kernel
theorem d_181_14 : decode m181.2.1 14 = .ok (.getfield 50, 3) := by decide +kernel
theorem d_181_17 : decode m181.2.1 17 = .ok (.iload_n 1, 1) := by decide +kernel
theorem d_181_18 : decode m181.2.1 18 = .ok (.putfield 275, 3) := by decide +kernel
theorem d_181_21 : decode m181.2.1 21 = .ok (.aload_n 0, 1) := by decide +kernel
theorem d_181_22 : decode m181.2.1 22 = .ok (.getfield 50, 3) := by decide +kernel
theorem d_181_25 : decode m181.2.1 25 = .ok (.aload_n 0, 1) := by decide +kernel
theorem d_181_26 : decode m181.2.1 26 = .ok (.getfield 50, 3) := by decide +kernel
theorem d_181_29 : decode m181.2.1 29 = .ok (.getfield 183, 3) := by decide +kernel
theorem d_181_32 : decode m181.2.1 32 = .ok (.aload_n 0, 1) := by decide +kernel
theorem d_181_33 : decode m181.2.1 33 = .ok (.getfield 50, 3) := by decide +kernel
theorem d_181_36 : decode m181.2.1 36 = .ok (.getfield 186, 3) := by decide +kernel
theorem d_181_39 : decode m181.2.1 39 = .ok (.invokevirtual 253, 3) := by decide +kernel
theorem d_181_42 : decode m181.2.1 42 = .ok (.invokestatic 206, 3) := by decide +kernel
theorem d_181_45 : decode m181.2.1 45 = .ok (.ireturn, 1) := by decide +kernel
theorem d_182_0 : decode m182.2.1 0 = .ok (.iconst (-1), 1) := by decide +kernel
theorem d_182_1 : decode m182.2.1 1 = .ok (.istore_n 1, 1) := by decide +kernel
theorem d_182_2 : decode m182.2.1 2 = .ok (.iconst (-1), 1) := by decide +kernel
theorem d_182_3 : decode m182.2.1 3 = .ok (.istore_n 2, 1) := by decide +kernel
theorem d_182_4 : decode m182.2.1 4 = .ok (.iconst 0, 1) := by decide +kernel
theorem d_182_5 : decode m182.2.1 5 = .ok (.istore_n 3, 1) := by decide +kernel
theorem d_182_6 : decode m182.2.1 6 = .ok (.iload_n 3, 1) := by decide +kernel
theorem d_182_7 : decode m182.2.1 7 = .ok (.aload_n 0, 1) := by decide +kernel
theorem d_182_8 : decode m182.2.1 8 = .ok (.getfield 25, 3) := by decide +kernel
theorem d_182_11 : decode m182.2.1 11 = .ok (.getfield 117, 3) := by decide +kernel
theorem d_182_14 : decode m182.2.1 14 = .ok (.if_icmp .ge 43, 3) := by decide +kernel
theorem d_182_17 : decode m182.2.1 17 = .ok (.aload_n 0, 1) := by decide +kernel
theorem d_182_18 : decode m182.2.1 18 = .ok (.getfield 32, 3) := by decide +kernel
theorem d_182_21 : decode m182.2.1 21 = .ok (.getfield 144, 3) := by decide +kernel
theorem d_182_24 : decode m182.2.1 24 = .ok (.iload_n 3, 1) := by decide +kernel
theorem d_182_25 : decode m182.2.1 25 = .ok (.iaload, 1) := by decide +kernel
theorem d_182_26 : decode m182.2.1 26 = .ok (.ifCond .ne 11, 3) := by decide +kernel
theorem d_182_29 : decode m182.2.1 29 = .ok (.aload_n 0, 1) := by decide +kernel
theorem d_182_30 : decode m182.2.1 30 = .ok (.iload_n 3, 1) := by decide +kernel
theorem d_182_31 : decode m182.2.1 31 = .ok (.invokevirtual 147, 3) := by decide +kernel
theorem d_182_34 : decode m182.2.1 34 = .ok (.goto 4, 3) := by decide +kernel
theorem d_182_37 : decode m182.2.1 37 = .ok (.iconst (-1), 1) := by decide +kernel
theorem d_182_38 : decode m182.2.1 38 = .ok (.istore 4, 2) := by decide +kernel
theorem d_182_40 : decode m182.2.1 40 = .ok (.iload 4, 2) := by decide +kernel
theorem d_182_42 : decode m182.2.1 42 = .ok (.iload_n 2, 1) := by decide +kernel
theorem d_182_43 : decode m182.2.1 43 = .ok (.if_icmp .le 8, 3) := by decide +kernel
theorem d_182_46 : decode m182.2.1 46 = .ok (.iload 4, 2) := by decide +kernel
theorem d_182_48 : decode m182.2.1 48 = .ok (.istore_n 2, 1) := by decide +kernel
theorem d_182_49 : decode m182.2.1 49 = .ok (.iload_n 3, 1) := by decide +kernel
theorem d_182_50 : decode m182.2.1 50 = .ok (.istore_n 1, 1) := by decide +kernel
theorem d_182_51 : decode m182.2.1 51 = .ok (.iinc 3 1, 3) := by decide +kernel
theorem d_182_54 : decode m182.2.1 54 = .ok (.goto (-48), 3) := by decide +kernel
theorem d_182_57 : decode m182.2.1 57 = .ok (.iload_n 1, 1) := by decide +kernel
theorem d_182_58 : decode m182.2.1 58 = .ok (.ireturn, 1) := by decide +kernel
theorem d_183_0 : decode m183.2.1 0 = .ok (.iload_n 1, 1) := by decide +kernel
theorem d_183_1 : decode m183.2.1 1 = .ok (.invokestatic 170, 3) := by decide +kernel
theorem d_183_4 : decode m183.2.1 4 = .ok (.ifCond .ne 5, 3) := by decide +kernel
theorem d_183_7 : decode m183.2.1 7 = .ok (.iconst (-1), 1) := by decide +kernel
theorem d_183_8 : decode m183.2.1 8 = .ok (.ireturn, 1) := by decide +kernel
theorem d_183_9 : decode m183.2.1 9 = .ok (.aload_n 0, 1) := by decide +kernel
theorem d_183_10 : decode m183.2.1 10 = .ok (.invokevirtual 173, 3) := by decide +kernel
theorem d_183_13 : decode m183.2.1 13 = .ok (.iconst 0, 1) := by decide +kernel
theorem d_183_14 : decode m183.2.1 14 = .ok (.istore_n 2, 1) := by decide +kernel
theorem d_183_15 : decode m183.2.1 15 = .ok (.iconst 0, 1) := by decide +kernel
theorem d_183_16 : decode m183.2.1 16 = .ok (.istore_n 3, 1) := by decide +kernel
theorem d_183_17 : decode m183.2.1 17 = .ok (.iload_n 3, 1) := by decide +kernel
theorem d_183_18 : decode m183.2.1 18 = .ok (.aload_n 0, 1) := by decide +kernel
theorem d_183_19 : decode m183.2.1 19 = .ok (.getfield 25, 3) := by decide +kernel
theorem d_183_22 : decode m183.2.1 22 = .ok (.getfield 117, 3) := by decide +kernel
theorem d_183_25 : decode m183.2.1 25 = .ok (.if_icmp .ge 39, 3) := by decide +kernel
theorem d_183_28 : decode m183.2.1 28 = .ok (.aload_n 0, 1) := by decide +kernel
theorem d_183_29 : decode m183.2.1 29 = .ok (.getfield 32, 3) := by decide +kernel
theorem d_183_32 : decode m183.2.1 32 = .ok (.getfield 144, 3) := by decide +kernel
theorem d_183_35 : decode m183.2.1 35 = .ok (.iload_n 3, 1) := by decide +kernel
theorem d_183_36 : decode m183.2.1 36 = .ok (.iaload, 1) := by decide +kernel
theorem d_183_37 : decode m183.2.1 37 = .ok (.ifCond .ne 21, 3) := by decide +kernel
theorem d_183_40 : decode m183.2.1 40 = .ok (.aload_n 0, 1) := by decide +kernel
theorem d_183_41 : decode m183.2.1 41 = .ok (.getfield 50, 3) := by decide +kernel
theorem d_183_44 : decode m183.2.1 44 = .ok (.iload_n 3, 1) := by decide +kernel
theorem d_183_45 : decode m183.2.1 45 = .ok (.iload_n 1, 1) := by decide +kernel
theorem d_183_46 : decode m183.2.1 46 = .ok (.invokevirtual 285, 3) := by decide +kernel
theorem d_183_49 : decode m183.2.1 49 = .ok (.ifCond .ne 9, 3) := by decide +kernel
theorem d_183_52 : decode m183.2.1 52 = .ok (.iload_n 2, 1) := by decide +kernel
theorem d_183_53 : decode m183.2.1 53 = .ok (.iconst 1, 1) := by decide +kernel
theorem d_183_54 : decode m183.2.1 54 = .ok (.iload_n 3, 1) := by decide +kernel
theorem d_183_55 : decode m183.2.1 55 = .ok (.ishl, 1) := by decide +kernel
theorem d_183_56 : decode m183.2.1 56 = .ok (.ior, 1) := by decide +kernel
theorem d_183_57 : decode m183.2.1 57 = .ok (.istore_n 2, 1) := by decide +kernel
theorem d_183_58 : decode m183.2.1 58 = .ok (.iinc 3 1, 3) := by decide +kernel
theorem d_183_61 : decode m183.2.1 61 = .ok (.goto (-44), 3) := by decide +kernel
theorem d_183_64 : decode m183.2.1 64 = .ok (.iload_n 2, 1) := by decide +kernel
theorem d_183_65 : decode m183.2.1 65 = .ok (.ireturn, 1) := by decide +kernel
theorem d_184_0 : decode m184.2.1 0 = .ok (.iload_n 1, 1) := by decide +kernel
theorem d_184_1 : decode m184.2.1 1 = .ok (.ifCond .lt 20, 3) := by decide +kernel
theorem d_184_4 : decode m184.2.1 4 = .ok (.iload_n 1, 1) := by decide +kernel
theorem d_184_5 : decode m184.2.1 5 = .ok (.aload_n 0, 1) := by decide +kernel
theorem d_184_6 : decode m184.2.1 6 = .ok (.getfield 110, 3) := by decide +kernel
theorem d_184_9 : decode m184.2.1 9 = .ok (.if_icmp .ge 12, 3) := by decide +kernel
theorem d_184_12 : decode m184.2.1 12 = .ok (.aload_n 0, 1) := by decide +kernel
theorem d_184_13 : decode m184.2.1 13 = .ok (.getfield 83, 3) := by decide +kernel
theorem d_184_16 : decode m184.2.1 16 = .ok (.iload_n 1, 1) := by decide +kernel
theorem d_184_17 : decode m184.2.1 17 = .ok (.iaload, 1) := by decide +kernel
theorem d_184_18 : decode m184.2.1 18 = .ok (.goto 4, 3) := by decide +kernel
theorem d_184_21 : decode m184.2.1 21 = .ok (.iconst (-1), 1) := by decide +kernel
theorem d_184_22 : decode m184.2.1 22 = .ok (.ireturn, 1) := by decide +kernel
theorem d_185_0 : decode m185.2.1 0 = .ok (.aload_n 0, 1) := by decide +kernel
theorem d_185_1 : decode m185.2.1 1 = .ok (.iload_n 1, 1) := by decide +kernel
theorem d_185_2 : decode m185.2.1 2 = .ok (.invokevirtual 167, 3) := by decide +kernel
theorem d_185_5 : decode m185.2.1 5 = .ok (.ifCond .eq 10, 3) := by decide +kernel
theorem d_185_8 : decode m185.2.1 8 = .ok (.iload_n 2, 1) := by decide +kernel
theorem d_185_9 : decode m185.2.1 9 = .ok (.invokestatic 240, 3) := by decide +kernel
theorem d_185_12 : decode m185.2.1 12 = .ok (.ifCond .ne 5, 3) := by decide +kernel
theorem d_185_15 : decode m185.2.1 15 = .ok (.iconst (-1), 1) := by decide +kernel
theorem d_185_16 : decode m185.2.1 16 = .ok (.ireturn, 1) := by decide +kernel
theorem d_185_17 : decode m185.2.1 17 = .ok (.aload_n 0, 1) := by decide +kernel
theorem d_185_18 : decode m185.2.1 18 = .ok (.getfield 79, 3) := by decide +kernel
theorem d_185_21 : decode m185.2.1 21 = .ok (.iload_n 1, 1) := by decide +kernel
theorem d_185_22 : decode m185.2.1 22 = .ok (.iload_n 2, 1) := by decide +kernel
theorem d_185_23 : decode m185.2.1 23 = .ok (.iload_n 3, 1) := by decide +kernel
theorem d_185_24 : decode m185.2.1 24 = .ok (.invokevirtual 316, 3) := by decide +kernel
theorem d_185_27 : decode m185.2.1 27 = .ok (.ireturn, 1) := by decide +kernel
theorem d_187_0 : decode m187.2.1 0 = .ok (.aload_n 0, 1) := by decide +kernel
theorem d_187_1 : decode m187.2.1 1 = .ok (.getfield 79, 3) := by decide +kernel
theorem d_187_4 : decode m187.2.1 4 = .ok (.iload_n 1, 1) := by decide +kernel
theorem d_187_5 : decode m187.2.1 5 = .ok (.invokevirtual 320, 3) := by decide +kernel
theorem d_187_8 : decode m187.2.1 8 = .ok (.ireturn, 1) := by decide +kernel
theorem d_189_0 : decode m189.2.1 0 = .ok (.aload_n 0, 1) := by decide +kernel
theorem d_189_1 : decode m189.2.1 1 = .ok (.getfield 79, 3) := by decide +kernel
theorem d_189_4 : decode m189.2.1 4 = .ok (.iload_n 1, 1) := by decide +kernel
theorem d_189_5 : decode m189.2.1 5 = .ok (.invokevirtual 323, 3) := by decide +kernel
theorem d_189_8 : decode m189.2.1 8 = .ok (.ireturn, 1) := by decide +kernel
theorem d_191_0 : decode m191.2.1 0 = .ok (.aload_n 0, 1) := by decide +kernel
theorem d_191_1 : decode m191.2.1 1 = .ok (.getfield 79, 3) := by decide +kernel
theorem d_191_4 : decode m191.2.1 4 = .ok (.aload_n 0, 1) := by decide +kernel
theorem d_191_5 : decode m191.2.1 5 = .ok (.getfield 25, 3) := by decide +kernel
theorem d_191_8 : decode m191.2.1 8 = .ok (.iload_n 1, 1) := by decide +kernel
theorem d_191_9 : decode m191.2.1 9 = .ok (.invokevirtual 326, 3) := by decide +kernel
theorem d_191_12 : decode m191.2.1 12 = .ok (.aload_n 0, 1) := by decide +kernel
theorem d_191_13 : decode m191.2.1 13 = .ok (.getfield 79, 3) := by decide +kernel
theorem d_191_16 : decode m191.2.1 16 = .ok (.getfield 330, 3) := by decide +kernel
theorem d_191_19 : decode m191.2.1 19 = .ok (.ireturn, 1) := by decide +kernel
theorem d_197_0 : decode m197.2.1 0 = .ok (.aload_n 0, 1) := by decide +kernel
theorem d_197_1 : decode m197.2.1 1 = .ok (.iload_n 1, 1) := by decide +kernel
theorem d_197_2 : decode m197.2.1 2 = .ok (.invokevirtual 126, 3) := by decide +kernel
theorem d_197_5 : decode m197.2.1 5 = .ok (.ifCond .ne 5, 3) := by decide +kernel
theorem d_197_8 : decode m197.2.1 8 = .ok (.iconst (-1), 1) := by decide +kernel
theorem d_197_9 : decode m197.2.1 9 = .ok (.ireturn, 1) := by decide +kernel
theorem d_197_10 : decode m197.2.1 10 = .ok (.aload_n 0, 1) := by decide +kernel
theorem d_197_11 : decode m197.2.1 11 = .ok (.getfield 79, 3) := by decide +kernel
theorem d_197_14 : decode m197.2.1 14 = .ok (.aload_n 0, 1) := by decide +kernel
theorem d_197_15 : decode m197.2.1 15 = .ok (.getfield 25, 3) := by decide +kernel
theorem d_197_18 : decode m197.2.1 18 = .ok (.iload_n 2, 1) := by decide +kernel
theorem d_197_19 : decode m197.2.1 19 = .ok (.invokevirtual 326, 3) := by decide +kernel
theorem d_197_22 : decode m197.2.1 22 = .ok (.aload_n 0, 1) := by decide +kernel
theorem d_197_23 : decode m197.2.1 23 = .ok (.getfield 79, 3) := by decide +kernel
theorem d_197_26 : decode m197.2.1 26 = .ok (.getfield 330, 3) := by decide +kernel
theorem d_197_29 : decode m197.2.1 29 = .ok (.ifCond .ne 5, 3) := by decide +kernel
theorem d_197_32 : decode m197.2.1 32 = .ok (.iconst (-1), 1) := by decide +kernel
theorem d_197_33 : decode m197.2.1 33 = .ok (.ireturn, 1) := by decide +kernel
theorem d_197_34 : decode m197.2.1 34 = .ok (.aload_n 0, 1) := by decide +kernel
theorem d_197_35 : decode m197.2.1 35 = .ok (.getfield 79, 3) := by decide +kernel
theorem d_197_38 : decode m197.2.1 38 = .ok (.getfield 333, 3) := by decide +kernel
theorem d_197_41 : decode m197.2.1 41 = .ok (.iload_n 1, 1) := by decide +kernel
theorem d_197_42 : decode m197.2.1 42 = .ok (.iaload, 1) := by decide +kernel
theorem d_197_43 : decode m197.2.1 43 = .ok (.istore_n 3, 1) := by decide +kernel
theorem d_197_44 : decode m197.2.1 44 = .ok (.iload_n 3, 1) := by decide +kernel
theorem d_197_45 : decode m197.2.1 45 = .ok (.aload_n 0, 1) := by decide +kernel
theorem d_197_46 : decode m197.2.1 46 = .ok (.getfield 79, 3) := by decide +kernel
theorem d_197_49 : decode m197.2.1 49 = .ok (.getfield 330, 3) := by decide +kernel
theorem d_197_52 : decode m197.2.1 52 = .ok (.if_icmp .ne 5, 3) := by decide +kernel
theorem d_197_55 : decode m197.2.1 55 = .ok (.iconst 1, 1) := by decide +kernel
theorem d_197_56 : decode m197.2.1 56 = .ok (.ireturn, 1) := by decide +kernel
theorem d_197_57 : decode m197.2.1 57 = .ok (.iload_n 3, 1) := by decide +kernel
theorem d_197_58 : decode m197.2.1 58 = .ok (.ifCond .ne 7, 3) := by decide +kernel
theorem d_197_61 : decode m197.2.1 61 = .ok (.iconst 0, 1) := by decide +kernel
theorem d_197_62 : decode m197.2.1 62 = .ok (.goto 5, 3) := by decide +kernel
theorem d_197_65 : decode m197.2.1 65 = .ok (.bipush (-2), 2) := by decide +kernel
theorem d_197_67 : decode m197.2.1 67 = .ok (.ireturn, 1) := by decide +kernel
theorem d_198_0 : decode m198.2.1 0 = .ok (.iload_n 1, 1) := by decide +kernel
theorem d_198_1 : decode m198.2.1 1 = .ok (.ifCond .lt 8, 3) := by decide +kernel
theorem d_198_4 : decode m198.2.1 4 = .ok (.iload_n 1, 1) := by decide +kernel
theorem d_198_5 : decode m198.2.1 5 = .ok (.iconst 1, 1) := by decide +kernel
theorem d_198_6 : decode m198.2.1 6 = .ok (.if_icmp .le 5, 3) := by decide +kernel
theorem d_198_9 : decode m198.2.1 9 = .ok (.iconst (-1), 1) := by decide +kernel
theorem d_198_10 : decode m198.2.1 10 = .ok (.ireturn, 1) := by decide +kernel
theorem d_198_11 : decode m198.2.1 11 = .ok (.aload_n 0, 1) := by decide +kernel
theorem d_198_12 : decode m198.2.1 12 = .ok (.getfield 79, 3) := by decide +kernel
theorem d_198_15 : decode m198.2.1 15 = .ok (.aload_n 0, 1) := by decide +kernel
theorem d_198_16 : decode m198.2.1 16 = .ok (.getfield 25, 3) := by decide +kernel
theorem d_198_19 : decode m198.2.1 19 = .ok (.iload_n 2, 1) := by decide +kernel
theorem d_198_20 : decode m198.2.1 20 = .ok (.invokevirtual 326, 3) := by decide +kernel
theorem d_198_23 : decode m198.2.1 23 = .ok (.iconst (-1), 1) := by decide +kernel
theorem d_198_24 : decode m198.2.1 24 = .ok (.istore_n 3, 1) := by decide +kernel
theorem d_198_25 : decode m198.2.1 25 = .ok (.aload_n 0, 1) := by decide +kernel
theorem d_198_26 : decode m198.2.1 26 = .ok (.getfield 79, 3) := by decide +kernel
theorem d_198_29 : decode m198.2.1 29 = .ok (.getfield 330, 3) := by decide +kernel
theorem d_198_32 : decode m198.2.1 32 = .ok (.iconst 1, 1) := by decide +kernel
theorem d_198_33 : decode m198.2.1 33 = .ok (.iadd, 1) := by decide +kernel
theorem d_198_34 : decode m198.2.1 34 = .ok (.istore 4, 2) := by decide +kernel
theorem d_198_36 : decode m198.2.1 36 = .ok (.iconst 0, 1) := by decide +kernel
theorem d_198_37 : decode m198.2.1 37 = .ok (.istore 5, 2) := by decide +kernel
theorem d_198_39 : decode m198.2.1 39 = .ok (.iload 5, 2) := by decide +kernel
theorem d_198_41 : decode m198.2.1 41 = .ok (.aload_n 0, 1) := by decide +kernel
theorem d_198_42 : decode m198.2.1 42 = .ok (.getfield 25, 3) := by decide +kernel
theorem d_198_45 : decode m198.2.1 45 = .ok (.getfield 117, 3) := by decide +kernel
theorem d_198_48 : decode m198.2.1 48 = .ok (.if_icmp .ge 66, 3) := by decide +kernel
theorem d_198_51 : decode m198.2.1 51 = .ok (.aload_n 0, 1) := by decide +kernel
theorem d_198_52 : decode m198.2.1 52 = .ok (.getfield 79, 3) := by decide +kernel
theorem d_198_55 : decode m198.2.1 55 = .ok (.getfield 330, 3) := by decide +kernel
theorem d_198_58 : decode m198.2.1 58 = .ok (.ifCond .le 56, 3) := by decide +kernel
theorem d_198_61 : decode m198.2.1 61 = .ok (.aload_n 0, 1) := by decide +kernel
theorem d_198_62 : decode m198.2.1 62 = .ok (.getfield 79, 3) := by decide +kernel
theorem d_198_65 : decode m198.2.1 65 = .ok (.getfield 333, 3) := by decide +kernel
theorem d_198_68 : decode m198.2.1 68 = .ok (.iload 5, 2) := by decide +kernel
theorem d_198_70 : decode m198.2.1 70 = .ok (.iaload, 1) := by decide +kernel
theorem d_198_71 : decode m198.2.1 71 = .ok (.aload_n 0, 1) := by decide +kernel
theorem d_198_72 : decode m198.2.1 72 = .ok (.getfield 79, 3) := by decide +kernel
theorem d_198_75 : decode m198.2.1 75 = .ok (.getfield 330, 3) := by decide +kernel
theorem d_198_78 : decode m198.2.1 78 = .ok (.aload_n 0, 1) := by decide +kernel
theorem d_198_79 : decode m198.2.1 79 = .ok (.getfield 79, 3) := by decide +kernel
theorem d_198_82 : decode m198.2.1 82 = .ok (.getfield 333, 3) := by decide +kernel
theorem d_198_85 : decode m198.2.1 85 = .ok (.iload 5, 2) := by decide +kernel
theorem d_198_87 : decode m198.2.1 87 = .ok (.iaload, 1) := by decide +kernel
theorem d_198_88 : decode m198.2.1 88 = .ok (.isub, 1) := by decide +kernel
theorem d_198_89 : decode m198.2.1 89 = .ok (.invokestatic 230, 3) := by decide +kernel
theorem d_198_92 : decode m198.2.1 92 = .ok (.istore 6, 2) := by decide +kernel
theorem d_198_94 : decode m198.2.1 94 = .ok (.iload 6, 2) := by decide +kernel
theorem d_198_96 : decode m198.2.1 96 = .ok (.iload 4, 2) := by decide +kernel
theorem d_198_98 : decode m198.2.1 98 = .ok (.if_icmp .ge 10, 3) := by decide +kernel
theorem d_198_101 : decode m198.2.1 101 = .ok (.iload 6, 2) := by decide +kernel
theorem d_198_103 : decode m198.2.1 103 = .ok (.istore 4, 2) := by decide +kernel
theorem d_198_105 : decode m198.2.1 105 = .ok (.iload 5, 2) := by decide +kernel
theorem d_198_107 : decode m198.2.1 107 = .ok (.istore_n 3, 1) := by decide +kernel
theorem d_198_108 : decode m198.2.1 108 = .ok (.iinc 5 1, 3) := by decide +kernel
theorem d_198_111 : decode m198.2.1 111 = .ok (.goto (-72), 3) := by decide +kernel
theorem d_198_114 : decode m198.2.1 114 = .ok (.iload_n 1, 1) := by decide +kernel
theorem d_198_115 : decode m198.2.1 115 = .ok (.ifCond .eq 8, 3) := by decide +kernel
theorem d_198_118 : decode m198.2.1 118 = .ok (.iload_n 3, 1) := by decide +kernel
theorem d_198_119 : decode m198.2.1 119 = .ok (.iconst (-1), 1) := by decide +kernel
theorem d_198_120 : decode m198.2.1 120 = .ok (.if_icmp .ne 7, 3) := by decide +kernel
theorem d_198_123 : decode m198.2.1 123 = .ok (.iload_n 3, 1) := by decide +kernel
theorem d_198_124 : decode m198.2.1 124 = .ok (.goto 5, 3) := by decide +kernel
theorem d_198_127 : decode m198.2.1 127 = .ok (.iload 4, 2) := by decide +kernel
theorem d_198_129 : decode m198.2.1 129 = .ok (.ireturn, 1) := by decide +kernel
theorem d_199_0 : decode m199.2.1 0 = .ok (.iload_n 1, 1) := by decide +kernel
theorem d_199_1 : decode m199.2.1 1 = .ok (.ifCond .lt 12, 3) := by decide +kernel
theorem d_199_4 : decode m199.2.1 4 = .ok (.iload_n 1, 1) := by decide +kernel
theorem d_199_5 : decode m199.2.1 5 = .ok (.aload_n 0, 1) := by decide +kernel
theorem d_199_6 : decode m199.2.1 6 = .ok (.getfield 36, 3) := by decide +kernel
theorem d_199_9 : decode m199.2.1 9 = .ok (.arraylength, 1) := by decide +kernel
theorem d_199_10 : decode m199.2.1 10 = .ok (.if_icmp .lt 5, 3) := by decide +kernel
theorem d_199_13 : decode m199.2.1 13 = .ok (.iconst (-1), 1) := by decide +kernel
theorem d_199_14 : decode m199.2.1 14 = .ok (.ireturn, 1) := by decide +kernel
theorem d_199_15 : decode m199.2.1 15 = .ok (.aload_n 0, 1) := by decide +kernel
theorem d_199_16 : decode m199.2.1 16 = .ok (.getfield 36, 3) := by decide +kernel
theorem d_199_19 : decode m199.2.1 19 = .ok (.iload_n 1, 1) := by decide +kernel
theorem d_199_20 : decode m199.2.1 20 = .ok (.aaload, 1) := by decide +kernel
theorem d_199_21 : decode m199.2.1 21 = .ok (.aload_n 0, 1) := by decide +kernel
theorem d_199_22 : decode m199.2.1 22 = .ok (.getfield 32, 3) := by decide +kernel
theorem d_199_25 : decode m199.2.1 25 = .ok (.invokevirtual 336, 3) := by decide +kernel
theorem d_199_28 : decode m199.2.1 28 = .ok (.aload_n 0, 1) := by decide +kernel
theorem d_199_29 : decode m199.2.1 29 = .ok (.getfield 36, 3) := by decide +kernel
theorem d_199_32 : decode m199.2.1 32 = .ok (.iload_n 1, 1) := by decide +kernel
theorem d_199_33 : decode m199.2.1 33 = .ok (.aaload, 1) := by decide +kernel
theorem d_199_34 : decode m199.2.1 34 = .ok (.iconst 1, 1) := by decide +kernel
theorem d_199_35 : decode m199.2.1 35 = .ok (.putfield 113, 3) := by decide +kernel
theorem d_199_38 : decode m199.2.1 38 = .ok (.aload_n 0, 1) := by decide +kernel
theorem d_199_39 : decode m199.2.1 39 = .ok (.invokevirtual 163, 3) := by decide +kernel
theorem d_199_42 : decode m199.2.1 42 = .ok (.invokestatic 206, 3) := by decide +kernel
theorem d_199_45 : decode m199.2.1 45 = .ok (.ireturn, 1) := by decide +kernel
theorem d_201_0 : decode m201.2.1 0 = .ok (.aload_n 0, 1) := by decide +kernel
theorem d_201_1 : decode m201.2.1 1 = .ok (.iload_n 1, 1) := by decide +kernel
theorem d_201_2 : decode m201.2.1 2 = .ok (.invokevirtual 340, 3) := by decide +kernel
theorem d_201_5 : decode m201.2.1 5 = .ok (.ifCond .ne 5, 3) := by decide +kernel
theorem d_201_8 : decode m201.2.1 8 = .ok (.iconst (-1), 1) := by decide +kernel
theorem d_201_9 : decode m201.2.1 9 = .ok (.ireturn, 1) := by decide +kernel
theorem d_201_10 : decode m201.2.1 10 = .ok (.aload_n 0, 1) := by decide +kernel
theorem d_201_11 : decode m201.2.1 11 = .ok (.getfield 32, 3) := by decide +kernel
theorem d_201_14 : decode m201.2.1 14 = .ok (.aload_n 0, 1) := by decide +kernel
theorem d_201_15 : decode m201.2.1 15 = .ok (.getfield 36, 3) := by decide +kernel
theorem d_201_18 : decode m201.2.1 18 = .ok (.iload_n 1, 1) := by decide +kernel
theorem d_201_19 : decode m201.2.1 19 = .ok (.aaload, 1) := by decide +kernel
theorem d_201_20 : decode m201.2.1 20 = .ok (.invokevirtual 336, 3) := by decide +kernel
theorem d_201_23 : decode m201.2.1 23 = .ok (.aload_n 0, 1) := by decide +kernel
theorem d_201_24 : decode m201.2.1 24 = .ok (.getfield 43, 3) := by decide +kernel
theorem d_201_27 : decode m201.2.1 27 = .ok (.invokevirtual 106, 3) := by decide +kernel
theorem d_201_30 : decode m201.2.1 30 = .ok (.aload_n 0, 1) := by decide +kernel
theorem d_201_31 : decode m201.2.1 31 = .ok (.invokevirtual 163, 3) := by decide +kernel
theorem d_201_34 : decode m201.2.1 34 = .ok (.invokestatic 206, 3) := by decide +kernel
theorem d_201_37 : decode m201.2.1 37 = .ok (.ireturn, 1) := by decide +kernel
theorem d_202_0 : decode m202.2.1 0 = .ok (.iload_n 1, 1) := by decide +kernel
theorem d_202_1 : decode m202.2.1 1 = .ok (.ifCond .lt 28, 3) := by decide +kernel
theorem d_202_4 : decode m202.2.1 4 = .ok (.iload_n 1, 1) := by decide +kernel
theorem d_202_5 : decode m202.2.1 5 = .ok (.aload_n 0, 1) := by decide +kernel
theorem d_202_6 : decode m202.2.1 6 = .ok (.getfield 36, 3) := by decide +kernel
theorem d_202_9 : decode m202.2.1 9 = .ok (.arraylength, 1) := by decide +kernel
theorem d_202_10 : decode m202.2.1 10 = .ok (.if_icmp .ge 19, 3) := by decide +kernel
theorem d_202_13 : decode m202.2.1 13 = .ok (.aload_n 0, 1) := by decide +kernel
theorem d_202_14 : decode m202.2.1 14 = .ok (.getfield 36, 3) := by decide +kernel
theorem d_202_17 : decode m202.2.1 17 = .ok (.iload_n 1, 1) := by decide +kernel
theorem d_202_18 : decode m202.2.1 18 = .ok (.aaload, 1) := by decide +kernel
theorem d_202_19 : decode m202.2.1 19 = .ok (.getfield 113, 3) := by decide +kernel
theorem d_202_22 : decode m202.2.1 22 = .ok (.ifCond .eq 7, 3) := by decide +kernel
theorem d_202_25 : decode m202.2.1 25 = .ok (.iconst 1, 1) := by decide +kernel
theorem d_202_26 : decode m202.2.1 26 = .ok (.goto 4, 3) := by decide +kernel
theorem d_202_29 : decode m202.2.1 29 = .ok (.iconst 0, 1) := by decide +kernel
theorem d_202_30 : decode m202.2.1 30 = .ok (.ireturn, 1) := by decide +kernel
theorem d_203_0 : decode m203.2.1 0 = .ok (.aload_n 0, 1) := by decide +kernel
theorem d_203_1 : decode m203.2.1 1 = .ok (.iload_n 1, 1) := by decide +kernel
theorem d_203_2 : decode m203.2.1 2 = .ok (.invokevirtual 340, 3) := by decide +kernel
theorem d_203_5 : decode m203.2.1 5 = .ok (.ifCond .ne 5, 3) := by decide +kernel
theorem d_203_8 : decode m203.2.1 8 = .ok (.iconst (-1), 1) := by decide +kernel
theorem d_203_9 : decode m203.2.1 9 = .ok (.ireturn, 1) := by decide +kernel
theorem d_203_10 : decode m203.2.1 10 = .ok (.iconst 0, 1) := by decide +kernel
theorem d_203_11 : decode m203.2.1 11 = .ok (.istore_n 2, 1) := by decide +kernel
theorem d_203_12 : decode m203.2.1 12 = .ok (.iconst 0, 1) := by decide +kernel
theorem d_203_13 : decode m203.2.1 13 = .ok (.istore_n 3, 1) := by decide +kernel
theorem d_203_14 : decode m203.2.1 14 = .ok (.iload_n 3, 1) := by decide +kernel
theorem d_203_15 : decode m203.2.1 15 = .ok (.aload_n 0, 1) := by decide +kernel
theorem d_203_16 : decode m203.2.1 16 = .ok (.getfield 25, 3) := by decide +kernel
theorem d_203_19 : decode m203.2.1 19 = .ok (.getfield 117, 3) := by decide +kernel
theorem d_203_22 : decode m203.2.1 22 = .ok (.if_icmp .ge 32, 3) := by decide +kernel
theorem d_203_25 : decode m203.2.1 25 = .ok (.aload_n 0, 1) := by decide +kernel
theorem d_203_26 : decode m203.2.1 26 = .ok (.getfield 32, 3) := by decide +kernel
theorem d_203_29 : decode m203.2.1 29 = .ok (.iload_n 3, 1) := by decide +kernel
theorem d_203_30 : decode m203.2.1 30 = .ok (.aload_n 0, 1) := by decide +kernel
theorem d_203_31 : decode m203.2.1 31 = .ok (.getfield 36, 3) := by decide +kernel
theorem d_203_34 : decode m203.2.1 34 = .ok (.iload_n 1, 1) := by decide +kernel
theorem d_203_35 : decode m203.2.1 35 = .ok (.aaload, 1) := by decide +kernel
theorem d_203_36 : decode m203.2.1 36 = .ok (.invokevirtual 343, 3) := by decide +kernel
theorem d_203_39 : decode m203.2.1 39 = .ok (.ifCond .eq 9, 3) := by decide +kernel
theorem d_203_42 : decode m203.2.1 42 = .ok (.iload_n 2, 1) := by decide +kernel
theorem d_203_43 : decode m203.2.1 43 = .ok (.iconst 1, 1) := by decide +kernel
theorem d_203_44 : decode m203.2.1 44 = .ok (.iload_n 3, 1) := by decide +kernel
theorem d_203_45 : decode m203.2.1 45 = .ok (.ishl, 1) := by decide +kernel
theorem d_203_46 : decode m203.2.1 46 = .ok (.ior, 1) := by decide +kernel
theorem d_203_47 : decode m203.2.1 47 = .ok (.istore_n 2, 1) := by decide +kernel
theorem d_203_48 : decode m203.2.1 48 = .ok (.iinc 3 1, 3) := by decide +kernel
theorem d_203_51 : decode m203.2.1 51 = .ok (.goto (-37), 3) := by decide +kernel
theorem d_203_54 : decode m203.2.1 54 = .ok (.iload_n 2, 1) := by decide +kernel
theorem d_203_55 : decode m203.2.1 55 = .ok (.ireturn, 1) := by decide +kernel
theorem d_205_0 : decode m205.2.1 0 = .ok (.iload_n 1, 1) := by decide +kernel
theorem d_205_1 : decode m205.2.1 1 = .ok (.tableswitch 111 0 7 #[47, 55, 63, 71, 79, 87, 95, 103], 47) := by decide +kernel
theorem d_205_48 : decode m205.2.1 48 = .ok (.aload_n 0, 1) := by decide +kernel
theorem d_205_49 : decode m205.2.1 49 = .ok (.getfield 25, 3) := by decide +kernel
theorem d_205_52 : decode m205.2.1 52 = .ok (.getfield 117, 3) := by decide +kernel
theorem d_205_55 : decode m205.2.1 55 = .ok (.ireturn, 1) := by decide +kernel
theorem d_205_56 : decode m205.2.1 56 = .ok (.aload_n 0, 1) := by decide +kernel
theorem d_205_57 : decode m205.2.1 57 = .ok (.getfield 25, 3) := by decide +kernel
theorem d_205_60 : decode m205.2.1 60 = .ok (.getfield 154, 3) := by decide +kernel
theorem d_205_63 : decode m205.2.1 63 = .ok (.ireturn, 1) := by decide +kernel
theorem d_205_64 : decode m205.2.1 64 = .ok (.aload_n 0, 1) := by decide +kernel
theorem d_205_65 : decode m205.2.1 65 = .ok (.getfield 25, 3) := by decide +kernel
theorem d_205_68 : decode m205.2.1 68 = .ok (.getfield 193, 3) := by decide +kernel
theorem d_205_71 : decode m205.2.1 71 = .ok (.ireturn, 1) := by decide +kernel
theorem d_205_72 : decode m205.2.1 72 = .ok (.aload_n 0, 1) := by decide +kernel
theorem d_205_73 : decode m205.2.1 73 = .ok (.getfield 25, 3) := by decide +kernel
theorem d_205_76 : decode m205.2.1 76 = .ok (.getfield 259, 3) := by decide +kernel
theorem d_205_79 : decode m205.2.1 79 = .ok (.ireturn, 1) := by decide +kernel
theorem d_205_80 : decode m205.2.1 80 = .ok (.aload_n 0, 1) := by decide +kernel
theorem d_205_81 : decode m205.2.1 81 = .ok (.getfield 25, 3) := by decide +kernel
theorem d_205_84 : decode m205.2.1 84 = .ok (.getfield 256, 3) := by decide +kernel
theorem d_205_87 : decode m205.2.1 87 = .ok (.ireturn, 1) := by decide +kernel
theorem d_205_88 : decode m205.2.1 88 = .ok (.aload_n 0, 1) := by decide +kernel
theorem d_205_89 : decode m205.2.1 89 = .ok (.getfield 25, 3) := by decide +kernel
theorem d_205_92 : decode m205.2.1 92 = .ok (.getfield 347, 3) := by decide +kernel
theorem d_205_95 : decode m205.2.1 95 = .ok (.ireturn, 1) := by decide +kernel
theorem d_205_96 : decode m205.2.1 96 = .ok (.aload_n 0, 1) := by decide +kernel
theorem d_205_97 : decode m205.2.1 97 = .ok (.getfield 25, 3) := by decide +kernel
theorem d_205_100 : decode m205.2.1 100 = .ok (.getfield 309, 3) := by decide +kernel
theorem d_205_103 : decode m205.2.1 103 = .ok (.ireturn, 1) := by decide +kernel
theorem d_205_104 : decode m205.2.1 104 = .ok (.aload_n 0, 1) := by decide +kernel
theorem d_205_105 : decode m205.2.1 105 = .ok (.getfield 32, 3) := by decide +kernel
theorem d_205_108 : decode m205.2.1 108 = .ok (.getfield 243, 3) := by decide +kernel
theorem d_205_111 : decode m205.2.1 111 = .ok (.ireturn, 1) := by decide +kernel
theorem d_205_112 : decode m205.2.1 112 = .ok (.aload_n 0, 1) := by decide +kernel
theorem d_205_113 : decode m205.2.1 113 = .ok (.iload_n 1, 1) := by decide +kernel
theorem d_205_114 : decode m205.2.1 114 = .ok (.invokevirtual 350, 3) := by decide +kernel
theorem d_205_117 : decode m205.2.1 117 = .ok (.ireturn, 1) := by decide +kernel
theorem d_206_0 : decode m206.2.1 0 = .ok (.iload_n 1, 1) := by decide +kernel
theorem d_206_1 : decode m206.2.1 1 = .ok (.tableswitch 116 8 15 #[47, 55, 71, 79, 87, 92, 103, 108], 47) := by decide +kernel
theorem d_206_48 : decode m206.2.1 48 = .ok (.aload_n 0, 1) := by decide +kernel
theorem d_206_49 : decode m206.2.1 49 = .ok (.getfield 43, 3) := by decide +kernel
theorem d_206_52 : decode m206.2.1 52 = .ok (.getfield 353, 3) := by decide +kernel
theorem d_206_55 : decode m206.2.1 55 = .ok (.ireturn, 1) := by decide +kernel
theorem d_206_56 : decode m206.2.1 56 = .ok (.aload_n 0, 1) := by decide +kernel
theorem d_206_57 : decode m206.2.1 57 = .ok (.getfield 43, 3) := by decide +kernel
theorem d_206_60 : decode m206.2.1 60 = .ok (.getfield 356, 3) := by decide +kernel
theorem d_206_63 : decode m206.2.1 63 = .ok (.aload_n 0, 1) := by decide +kernel
theorem d_206_64 : decode m206.2.1 64 = .ok (.getfield 43, 3) := by decide +kernel
theorem d_206_67 : decode m206.2.1 67 = .ok (.getfield 353, 3) := by decide +kernel
theorem d_206_70 : decode m206.2.1 70 = .ok (.isub, 1) := by decide +kernel
theorem d_206_71 : decode m206.2.1 71 = .ok (.ireturn, 1) := by decide +kernel
theorem d_206_72 : decode m206.2.1 72 = .ok (.aload_n 0, 1) := by decide +kernel
theorem d_206_73 : decode m206.2.1 73 = .ok (.getfield 79, 3) := by decide +kernel
theorem d_206_76 : decode m206.2.1 76 = .ok (.getfield 358, 3) := by decide +kernel
theorem d_206_79 : decode m206.2.1 79 = .ok (.ireturn, 1) := by decide +kernel
theorem d_206_80 : decode m206.2.1 80 = .ok (.aload_n 0, 1) := by decide +kernel
theorem d_206_81 : decode m206.2.1 81 = .ok (.getfield 79, 3) := by decide +kernel
theorem d_206_84 : decode m206.2.1 84 = .ok (.getfield 361, 3) := by decide +kernel
theorem d_206_87 : decode m206.2.1 87 = .ok (.ireturn, 1) := by decide +kernel
theorem d_206_88 : decode m206.2.1 88 = .ok (.aload_n 0, 1) := by decide +kernel
theorem d_206_89 : decode m206.2.1 89 = .ok (.getfield 90, 3) := by decide +kernel
theorem d_206_92 : decode m206.2.1 92 = .ok (.ireturn, 1) := by decide +kernel
theorem d_206_93 : decode m206.2.1 93 = .ok (.aload_n 0, 1) := by decide +kernel
theorem d_206_94 : decode m206.2.1 94 = .ok (.getfield 25, 3) := by decide +kernel
theorem d_206_97 : decode m206.2.1 97 = .ok (.getfield 211, 3) := by decide +kernel
theorem d_206_100 : decode m206.2.1 100 = .ok (.getfield 364, 3) := by decide +kernel
theorem d_206_103 : decode m206.2.1 103 = .ok (.ireturn, 1) := by decide +kernel
theorem d_206_104 : decode m206.2.1 104 = .ok (.aload_n 0, 1) := by decide +kernel
theorem d_206_105 : decode m206.2.1 105 = .ok (.getfield 110, 3) := by decide +kernel
theorem d_206_108 : decode m206.2.1 108 = .ok (.ireturn, 1) := by decide +kernel
theorem d_206_109 : decode m206.2.1 109 = .ok (.aload_n 0, 1) := by decide +kernel
theorem d_206_110 : decode m206.2.1 110 = .ok (.invokevirtual 163, 3) := by decide +kernel
theorem d_206_113 : decode m206.2.1 113 = .ok (.invokestatic 206, 3) := by decide +kernel
theorem d_206_116 : decode m206.2.1 116 = .ok (.ireturn, 1) := by decide +kernel
theorem d_206_117 : decode m206.2.1 117 = .ok (.iconst (-1), 1) := by decide +kernel
theorem d_206_118 : decode m206.2.1 118 = .ok (.ireturn, 1) := by decide +kernel
