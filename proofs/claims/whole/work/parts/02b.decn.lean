theorem d_3_0 : decode m3.2.1 0 = .ok (.aload_n 0, 1) := by decide +kernel
theorem d_3_1 : decode m3.2.1 1 = .ok (.invokespecial 3, 3) := by decide +kernel
theorem d_3_4 : decode m3.2.1 4 = .ok (.aload_n 0, 1) := by decide +kernel
theorem d_3_5 : decode m3.2.1 5 = .ok (.iconst (-1), 1) := by decide +kernel
theorem d_3_6 : decode m3.2.1 6 = .ok (.putfield 9, 3) := by decide +kernel
theorem d_3_9 : decode m3.2.1 9 = .ok (.aload_n 0, 1) := by decide +kernel
theorem d_3_10 : decode m3.2.1 10 = .ok (.new 15, 3) := by decide +kernel
theorem d_3_13 : decode m3.2.1 13 = .ok (.dup, 1) := by decide +kernel
theorem d_3_14 : decode m3.2.1 14 = .ok (.invokespecial 17, 3) := by decide +kernel
theorem d_3_17 : decode m3.2.1 17 = .ok (.putfield 18, 3) := by decide +kernel
theorem d_3_20 : decode m3.2.1 20 = .ok (.aload_n 0, 1) := by decide +kernel
theorem d_3_21 : decode m3.2.1 21 = .ok (.new 22, 3) := by decide +kernel
theorem d_3_24 : decode m3.2.1 24 = .ok (.dup, 1) := by decide +kernel
theorem d_3_25 : decode m3.2.1 25 = .ok (.aload_n 1, 1) := by decide +kernel
theorem d_3_26 : decode m3.2.1 26 = .ok (.invokespecial 24, 3) := by decide +kernel
theorem d_3_29 : decode m3.2.1 29 = .ok (.putfield 27, 3) := by decide +kernel
theorem d_3_32 : decode m3.2.1 32 = .ok (.return_, 1) := by decide +kernel
theorem d_4_0 : decode m4.2.1 0 = .ok (.aload_n 0, 1) := by decide +kernel
theorem d_4_1 : decode m4.2.1 1 = .ok (.invokespecial 3, 3) := by decide +kernel
theorem d_4_4 : decode m4.2.1 4 = .ok (.aload_n 0, 1) := by decide +kernel
theorem d_4_5 : decode m4.2.1 5 = .ok (.iconst 4, 1) := by decide +kernel
theorem d_4_6 : decode m4.2.1 6 = .ok (.newarray .long, 2) := by decide +kernel
theorem d_4_8 : decode m4.2.1 8 = .ok (.putfield 9, 3) := by decide +kernel
theorem d_4_11 : decode m4.2.1 11 = .ok (.aload_n 0, 1) := by decide +kernel
theorem d_4_12 : decode m4.2.1 12 = .ok (.iconst 4, 1) := by decide +kernel
theorem d_4_13 : decode m4.2.1 13 = .ok (.newarray .int, 2) := by decide +kernel
theorem d_4_15 : decode m4.2.1 15 = .ok (.putfield 15, 3) := by decide +kernel
theorem d_4_18 : decode m4.2.1 18 = .ok (.aload_n 0, 1) := by decide +kernel
theorem d_4_19 : decode m4.2.1 19 = .ok (.bipush 10, 2) := by decide +kernel
theorem d_4_21 : decode m4.2.1 21 = .ok (.newarray .long, 2) := by decide +kernel
theorem d_4_23 : decode m4.2.1 23 = .ok (.putfield 19, 3) := by decide +kernel
theorem d_4_26 : decode m4.2.1 26 = .ok (.aload_n 0, 1) := by decide +kernel
theorem d_4_27 : decode m4.2.1 27 = .ok (.bipush 10, 2) := by decide +kernel
theorem d_4_29 : decode m4.2.1 29 = .ok (.newarray .int, 2) := by decide +kernel
theorem d_4_31 : decode m4.2.1 31 = .ok (.putfield 22, 3) := by decide +kernel
theorem d_4_34 : decode m4.2.1 34 = .ok (.aload_n 0, 1) := by decide +kernel
theorem d_4_35 : decode m4.2.1 35 = .ok (.bipush 10, 2) := by decide +kernel
theorem d_4_37 : decode m4.2.1 37 = .ok (.newarray .int, 2) := by decide +kernel
theorem d_4_39 : decode m4.2.1 39 = .ok (.putfield 25, 3) := by decide +kernel
theorem d_4_42 : decode m4.2.1 42 = .ok (.aload_n 0, 1) := by decide +kernel
theorem d_4_43 : decode m4.2.1 43 = .ok (.bipush 10, 2) := by decide +kernel
theorem d_4_45 : decode m4.2.1 45 = .ok (.newarray .int, 2) := by decide +kernel
theorem d_4_47 : decode m4.2.1 47 = .ok (.putfield 28, 3) := by decide +kernel
theorem d_4_50 : decode m4.2.1 50 = .ok (.aload_n 0, 1) := by decide +kernel
theorem d_4_51 : decode m4.2.1 51 = .ok (.bipush 10, 2) := by decide +kernel
theorem d_4_53 : decode m4.2.1 53 = .ok (.newarray .int, 2) := by decide +kernel
theorem d_4_55 : decode m4.2.1 55 = .ok (.putfield 31, 3) := by decide +kernel
theorem d_4_58 : decode m4.2.1 58 = .ok (.aload_n 0, 1) := by decide +kernel
theorem d_4_59 : decode m4.2.1 59 = .ok (.bipush 10, 2) := by decide +kernel
theorem d_4_61 : decode m4.2.1 61 = .ok (.newarray .int, 2) := by decide +kernel
theorem d_4_63 : decode m4.2.1 63 = .ok (.putfield 34, 3) := by decide +kernel
theorem d_4_66 : decode m4.2.1 66 = .ok (.aload_n 0, 1) := by decide +kernel
theorem d_4_67 : decode m4.2.1 67 = .ok (.new 37, 3) := by decide +kernel
theorem d_4_70 : decode m4.2.1 70 = .ok (.dup, 1) := by decide +kernel
theorem d_4_71 : decode m4.2.1 71 = .ok (.invokespecial 39, 3) := by decide +kernel
theorem d_4_74 : decode m4.2.1 74 = .ok (.putfield 40, 3) := by decide +kernel
theorem d_4_77 : decode m4.2.1 77 = .ok (.aload_n 0, 1) := by decide +kernel
theorem d_4_78 : decode m4.2.1 78 = .ok (.invokevirtual 44, 3) := by decide +kernel
theorem d_4_81 : decode m4.2.1 81 = .ok (.return_, 1) := by decide +kernel
theorem d_5_0 : decode m5.2.1 0 = .ok (.aload_n 0, 1) := by decide +kernel
theorem d_5_1 : decode m5.2.1 1 = .ok (.invokespecial 3, 3) := by decide +kernel
theorem d_5_4 : decode m5.2.1 4 = .ok (.aload_n 0, 1) := by decide +kernel
theorem d_5_5 : decode m5.2.1 5 = .ok (.sipush 270, 3) := by decide +kernel
theorem d_5_8 : decode m5.2.1 8 = .ok (.newarray .int, 2) := by decide +kernel
theorem d_5_10 : decode m5.2.1 10 = .ok (.putfield 9, 3) := by decide +kernel
theorem d_5_13 : decode m5.2.1 13 = .ok (.aload_n 0, 1) := by decide +kernel
theorem d_5_14 : decode m5.2.1 14 = .ok (.bipush 31, 2) := by decide +kernel
theorem d_5_16 : decode m5.2.1 16 = .ok (.newarray .int, 2) := by decide +kernel
theorem d_5_18 : decode m5.2.1 18 = .ok (.putfield 13, 3) := by decide +kernel
theorem d_5_21 : decode m5.2.1 21 = .ok (.aload_n 0, 1) := by decide +kernel
theorem d_5_22 : decode m5.2.1 22 = .ok (.bipush 6, 2) := by decide +kernel
theorem d_5_24 : decode m5.2.1 24 = .ok (.newarray .int, 2) := by decide +kernel
theorem d_5_26 : decode m5.2.1 26 = .ok (.putfield 18, 3) := by decide +kernel
theorem d_5_29 : decode m5.2.1 29 = .ok (.return_, 1) := by decide +kernel
theorem d_6_0 : decode m6.2.1 0 = .ok (.aload_n 0, 1) := by decide +kernel
theorem d_6_1 : decode m6.2.1 1 = .ok (.bipush 12, 2) := by decide +kernel
theorem d_6_3 : decode m6.2.1 3 = .ok (.putfield 47, 3) := by decide +kernel
theorem d_6_6 : decode m6.2.1 6 = .ok (.aload_n 0, 1) := by decide +kernel
theorem d_6_7 : decode m6.2.1 7 = .ok (.bipush 12, 2) := by decide +kernel
theorem d_6_9 : decode m6.2.1 9 = .ok (.putfield 51, 3) := by decide +kernel
theorem d_6_12 : decode m6.2.1 12 = .ok (.aload_n 0, 1) := by decide +kernel
theorem d_6_13 : decode m6.2.1 13 = .ok (.iconst 5, 1) := by decide +kernel
theorem d_6_14 : decode m6.2.1 14 = .ok (.putfield 54, 3) := by decide +kernel
theorem d_6_17 : decode m6.2.1 17 = .ok (.aload_n 0, 1) := by decide +kernel
theorem d_6_18 : decode m6.2.1 18 = .ok (.bipush 20, 2) := by decide +kernel
theorem d_6_20 : decode m6.2.1 20 = .ok (.putfield 57, 3) := by decide +kernel
theorem d_6_23 : decode m6.2.1 23 = .ok (.aload_n 0, 1) := by decide +kernel
theorem d_6_24 : decode m6.2.1 24 = .ok (.iconst 2, 1) := by decide +kernel
theorem d_6_25 : decode m6.2.1 25 = .ok (.putfield 60, 3) := by decide +kernel
theorem d_6_28 : decode m6.2.1 28 = .ok (.aload_n 0, 1) := by decide +kernel
theorem d_6_29 : decode m6.2.1 29 = .ok (.iconst 0, 1) := by decide +kernel
theorem d_6_30 : decode m6.2.1 30 = .ok (.putfield 63, 3) := by decide +kernel
theorem d_6_33 : decode m6.2.1 33 = .ok (.aload_n 0, 1) := by decide +kernel
theorem d_6_34 : decode m6.2.1 34 = .ok (.iconst 0, 1) := by decide +kernel
theorem d_6_35 : decode m6.2.1 35 = .ok (.putfield 66, 3) := by decide +kernel
theorem d_6_38 : decode m6.2.1 38 = .ok (.aload_n 0, 1) := by decide +kernel
theorem d_6_39 : decode m6.2.1 39 = .ok (.getfield 40, 3) := by decide +kernel
theorem d_6_42 : decode m6.2.1 42 = .ok (.invokevirtual 69, 3) := by decide +kernel
theorem d_6_45 : decode m6.2.1 45 = .ok (.return_, 1) := by decide +kernel
theorem d_7_0 : decode m7.2.1 0 = .ok (.aload_n 0, 1) := by decide +kernel
theorem d_7_1 : decode m7.2.1 1 = .ok (.iconst 0, 1) := by decide +kernel
theorem d_7_2 : decode m7.2.1 2 = .ok (.putfield 21, 3) := by decide +kernel
theorem d_7_5 : decode m7.2.1 5 = .ok (.aload_n 0, 1) := by decide +kernel
theorem d_7_6 : decode m7.2.1 6 = .ok (.iconst 0, 1) := by decide +kernel
theorem d_7_7 : decode m7.2.1 7 = .ok (.putfield 25, 3) := by decide +kernel
theorem d_7_10 : decode m7.2.1 10 = .ok (.return_, 1) := by decide +kernel
theorem d_8_0 : decode m8.2.1 0 = .ok (.aload_n 0, 1) := by decide +kernel
theorem d_8_1 : decode m8.2.1 1 = .ok (.invokespecial 3, 3) := by decide +kernel
theorem d_8_4 : decode m8.2.1 4 = .ok (.aload_n 0, 1) := by decide +kernel
theorem d_8_5 : decode m8.2.1 5 = .ok (.aload_n 1, 1) := by decide +kernel
theorem d_8_6 : decode m8.2.1 6 = .ok (.putfield 9, 3) := by decide +kernel
theorem d_8_9 : decode m8.2.1 9 = .ok (.return_, 1) := by decide +kernel
theorem d_9_0 : decode m9.2.1 0 = .ok (.aload_n 0, 1) := by decide +kernel
theorem d_9_1 : decode m9.2.1 1 = .ok (.invokespecial 3, 3) := by decide +kernel
theorem d_9_4 : decode m9.2.1 4 = .ok (.aload_n 0, 1) := by decide +kernel
theorem d_9_5 : decode m9.2.1 5 = .ok (.bipush 10, 2) := by decide +kernel
theorem d_9_7 : decode m9.2.1 7 = .ok (.newarray .int, 2) := by decide +kernel
theorem d_9_9 : decode m9.2.1 9 = .ok (.putfield 9, 3) := by decide +kernel
theorem d_9_12 : decode m9.2.1 12 = .ok (.aload_n 0, 1) := by decide +kernel
theorem d_9_13 : decode m9.2.1 13 = .ok (.bipush 10, 2) := by decide +kernel
theorem d_9_15 : decode m9.2.1 15 = .ok (.newarray .int, 2) := by decide +kernel
theorem d_9_17 : decode m9.2.1 17 = .ok (.putfield 15, 3) := by decide +kernel
theorem d_9_20 : decode m9.2.1 20 = .ok (.aload_n 0, 1) := by decide +kernel
theorem d_9_21 : decode m9.2.1 21 = .ok (.bipush 10, 2) := by decide +kernel
theorem d_9_23 : decode m9.2.1 23 = .ok (.newarray .int, 2) := by decide +kernel
theorem d_9_25 : decode m9.2.1 25 = .ok (.putfield 18, 3) := by decide +kernel
theorem d_9_28 : decode m9.2.1 28 = .ok (.aload_n 0, 1) := by decide +kernel
theorem d_9_29 : decode m9.2.1 29 = .ok (.bipush 10, 2) := by decide +kernel
theorem d_9_31 : decode m9.2.1 31 = .ok (.newarray .int, 2) := by decide +kernel
theorem d_9_33 : decode m9.2.1 33 = .ok (.putfield 21, 3) := by decide +kernel
theorem d_9_36 : decode m9.2.1 36 = .ok (.return_, 1) := by decide +kernel
theorem d_10_0 : decode m10.2.1 0 = .ok (.aload_n 0, 1) := by decide +kernel
theorem d_10_1 : decode m10.2.1 1 = .ok (.invokespecial 3, 3) := by decide +kernel
theorem d_10_4 : decode m10.2.1 4 = .ok (.aload_n 0, 1) := by decide +kernel
theorem d_10_5 : decode m10.2.1 5 = .ok (.bipush 40, 2) := by decide +kernel
theorem d_10_7 : decode m10.2.1 7 = .ok (.newarray .int, 2) := by decide +kernel
theorem d_10_9 : decode m10.2.1 9 = .ok (.putfield 9, 3) := by decide +kernel
theorem d_10_12 : decode m10.2.1 12 = .ok (.aload_n 0, 1) := by decide +kernel
theorem d_10_13 : decode m10.2.1 13 = .ok (.bipush 40, 2) := by decide +kernel
theorem d_10_15 : decode m10.2.1 15 = .ok (.newarray .int, 2) := by decide +kernel
theorem d_10_17 : decode m10.2.1 17 = .ok (.putfield 15, 3) := by decide +kernel
theorem d_10_20 : decode m10.2.1 20 = .ok (.aload_n 0, 1) := by decide +kernel
theorem d_10_21 : decode m10.2.1 21 = .ok (.bipush 40, 2) := by decide +kernel
theorem d_10_23 : decode m10.2.1 23 = .ok (.newarray .int, 2) := by decide +kernel
theorem d_10_25 : decode m10.2.1 25 = .ok (.putfield 18, 3) := by decide +kernel
theorem d_10_28 : decode m10.2.1 28 = .ok (.aload_n 0, 1) := by decide +kernel
theorem d_10_29 : decode m10.2.1 29 = .ok (.bipush 40, 2) := by decide +kernel
theorem d_10_31 : decode m10.2.1 31 = .ok (.newarray .int, 2) := by decide +kernel
theorem d_10_33 : decode m10.2.1 33 = .ok (.putfield 21, 3) := by decide +kernel
theorem d_10_36 : decode m10.2.1 36 = .ok (.return_, 1) := by decide +kernel
theorem d_11_0 : decode m11.2.1 0 = .ok (.aload_n 0, 1) := by decide +kernel
theorem d_11_1 : decode m11.2.1 1 = .ok (.invokespecial 3, 3) := by decide +kernel
theorem d_11_4 : decode m11.2.1 4 = .ok (.aload_n 0, 1) := by decide +kernel
theorem d_11_5 : decode m11.2.1 5 = .ok (.bipush 10, 2) := by decide +kernel
theorem d_11_7 : decode m11.2.1 7 = .ok (.newarray .int, 2) := by decide +kernel
theorem d_11_9 : decode m11.2.1 9 = .ok (.putfield 9, 3) := by decide +kernel
theorem d_11_12 : decode m11.2.1 12 = .ok (.aload_n 0, 1) := by decide +kernel
theorem d_11_13 : decode m11.2.1 13 = .ok (.bipush 10, 2) := by decide +kernel
theorem d_11_15 : decode m11.2.1 15 = .ok (.newarray .int, 2) := by decide +kernel
theorem d_11_17 : decode m11.2.1 17 = .ok (.putfield 15, 3) := by decide +kernel
theorem d_11_20 : decode m11.2.1 20 = .ok (.aload_n 0, 1) := by decide +kernel
theorem d_11_21 : decode m11.2.1 21 = .ok (.bipush 10, 2) := by decide +kernel
theorem d_11_23 : decode m11.2.1 23 = .ok (.newarray .int, 2) := by decide +kernel
theorem d_11_25 : decode m11.2.1 25 = .ok (.putfield 18, 3) := by decide +kernel
theorem d_11_28 : decode m11.2.1 28 = .ok (.aload_n 0, 1) := by decide +kernel
theorem d_11_29 : decode m11.2.1 29 = .ok (.bipush 12, 2) := by decide +kernel
theorem d_11_31 : decode m11.2.1 31 = .ok (.newarray .int, 2) := by decide +kernel
theorem d_11_33 : decode m11.2.1 33 = .ok (.putfield 21, 3) := by decide +kernel
theorem d_11_36 : decode m11.2.1 36 = .ok (.return_, 1) := by decide +kernel
theorem d_12_0 : decode m12.2.1 0 = .ok (.aload_n 0, 1) := by decide +kernel
theorem d_12_1 : decode m12.2.1 1 = .ok (.invokespecial 3, 3) := by decide +kernel
theorem d_12_4 : decode m12.2.1 4 = .ok (.aload_n 0, 1) := by decide +kernel
theorem d_12_5 : decode m12.2.1 5 = .ok (.bipush 10, 2) := by decide +kernel
theorem d_12_7 : decode m12.2.1 7 = .ok (.newarray .int, 2) := by decide +kernel
theorem d_12_9 : decode m12.2.1 9 = .ok (.putfield 9, 3) := by decide +kernel
theorem d_12_12 : decode m12.2.1 12 = .ok (.aload_n 0, 1) := by decide +kernel
theorem d_12_13 : decode m12.2.1 13 = .ok (.bipush 10, 2) := by decide +kernel
theorem d_12_15 : decode m12.2.1 15 = .ok (.newarray .int, 2) := by decide +kernel
theorem d_12_17 : decode m12.2.1 17 = .ok (.putfield 15, 3) := by decide +kernel
theorem d_12_20 : decode m12.2.1 20 = .ok (.aload_n 0, 1) := by decide +kernel
theorem d_12_21 : decode m12.2.1 21 = .ok (.bipush 10, 2) := by decide +kernel
theorem d_12_23 : decode m12.2.1 23 = .ok (.newarray .int, 2) := by decide +kernel
theorem d_12_25 : decode m12.2.1 25 = .ok (.putfield 18, 3) := by decide +kernel
theorem d_12_28 : decode m12.2.1 28 = .ok (.aload_n 0, 1) := by decide +kernel
theorem d_12_29 : decode m12.2.1 29 = .ok (.bipush 10, 2) := by decide +kernel
theorem d_12_31 : decode m12.2.1 31 = .ok (.newarray .int, 2) := by decide +kernel
theorem d_12_33 : decode m12.2.1 33 = .ok (.putfield 21, 3) := by decide +kernel
theorem d_12_36 : decode m12.2.1 36 = .ok (.aload_n 0, 1) := by decide +kernel
theorem d_12_37 : decode m12.2.1 37 = .ok (.aload_n 1, 1) := by decide +kernel
theorem d_12_38 : decode m12.2.1 38 = .ok (.putfield 24, 3) := by decide +kernel
theorem d_12_41 : decode m12.2.1 41 = .ok (.aload_n 0, 1) := by decide +kernel
theorem d_12_42 : decode m12.2.1 42 = .ok (.aload_n 2, 1) := by decide +kernel
theorem d_12_43 : decode m12.2.1 43 = .ok (.putfield 28, 3) := by decide +kernel
theorem d_12_46 : decode m12.2.1 46 = .ok (.return_, 1) := by decide +kernel
theorem d_13_0 : decode m13.2.1 0 = .ok (.aload_n 0, 1) := by decide +kernel
theorem d_13_1 : decode m13.2.1 1 = .ok (.invokespecial 3, 3) := by decide +kernel
theorem d_13_4 : decode m13.2.1 4 = .ok (.aload_n 0, 1) := by decide +kernel
theorem d_13_5 : decode m13.2.1 5 = .ok (.bipush 12, 2) := by decide +kernel
theorem d_13_7 : decode m13.2.1 7 = .ok (.newarray .int, 2) := by decide +kernel
theorem d_13_9 : decode m13.2.1 9 = .ok (.putfield 9, 3) := by decide +kernel
theorem d_13_12 : decode m13.2.1 12 = .ok (.aload_n 0, 1) := by decide +kernel
theorem d_13_13 : decode m13.2.1 13 = .ok (.aload_n 1, 1) := by decide +kernel
theorem d_13_14 : decode m13.2.1 14 = .ok (.putfield 15, 3) := by decide +kernel
theorem d_13_17 : decode m13.2.1 17 = .ok (.return_, 1) := by decide +kernel
theorem d_14_0 : decode m14.2.1 0 = .ok (.aload_n 0, 1) := by decide +kernel
theorem d_14_1 : decode m14.2.1 1 = .ok (.invokespecial 3, 3) := by decide +kernel
theorem d_14_4 : decode m14.2.1 4 = .ok (.aload_n 0, 1) := by decide +kernel
theorem d_14_5 : decode m14.2.1 5 = .ok (.bipush 10, 2) := by decide +kernel
theorem d_14_7 : decode m14.2.1 7 = .ok (.newarray .int, 2) := by decide +kernel
theorem d_14_9 : decode m14.2.1 9 = .ok (.putfield 9, 3) := by decide +kernel
theorem d_14_12 : decode m14.2.1 12 = .ok (.aload_n 0, 1) := by decide +kernel
theorem d_14_13 : decode m14.2.1 13 = .ok (.bipush 30, 2) := by decide +kernel
theorem d_14_15 : decode m14.2.1 15 = .ok (.newarray .int, 2) := by decide +kernel
theorem d_14_17 : decode m14.2.1 17 = .ok (.putfield 15, 3) := by decide +kernel
theorem d_14_20 : decode m14.2.1 20 = .ok (.aload_n 0, 1) := by decide +kernel
theorem d_14_21 : decode m14.2.1 21 = .ok (.bipush 30, 2) := by decide +kernel
theorem d_14_23 : decode m14.2.1 23 = .ok (.newarray .int, 2) := by decide +kernel
theorem d_14_25 : decode m14.2.1 25 = .ok (.putfield 18, 3) := by decide +kernel
theorem d_14_28 : decode m14.2.1 28 = .ok (.aload_n 0, 1) := by decide +kernel
theorem d_14_29 : decode m14.2.1 29 = .ok (.bipush 30, 2) := by decide +kernel
theorem d_14_31 : decode m14.2.1 31 = .ok (.newarray .boolean, 2) := by decide +kernel
theorem d_14_33 : decode m14.2.1 33 = .ok (.putfield 21, 3) := by decide +kernel
theorem d_14_36 : decode m14.2.1 36 = .ok (.aload_n 0, 1) := by decide +kernel
theorem d_14_37 : decode m14.2.1 37 = .ok (.bipush 30, 2) := by decide +kernel
theorem d_14_39 : decode m14.2.1 39 = .ok (.newarray .int, 2) := by decide +kernel
theorem d_14_41 : decode m14.2.1 41 = .ok (.putfield 25, 3) := by decide +kernel
theorem d_14_44 : decode m14.2.1 44 = .ok (.aload_n 0, 1) := by decide +kernel
theorem d_14_45 : decode m14.2.1 45 = .ok (.bipush 30, 2) := by decide +kernel
theorem d_14_47 : decode m14.2.1 47 = .ok (.newarray .int, 2) := by decide +kernel
theorem d_14_49 : decode m14.2.1 49 = .ok (.putfield 28, 3) := by decide +kernel
theorem d_14_52 : decode m14.2.1 52 = .ok (.aload_n 0, 1) := by decide +kernel
theorem d_14_53 : decode m14.2.1 53 = .ok (.bipush 30, 2) := by decide +kernel
theorem d_14_55 : decode m14.2.1 55 = .ok (.newarray .int, 2) := by decide +kernel
theorem d_14_57 : decode m14.2.1 57 = .ok (.putfield 31, 3) := by decide +kernel
theorem d_14_60 : decode m14.2.1 60 = .ok (.return_, 1) := by decide +kernel
theorem d_15_0 : decode m15.2.1 0 = .ok (.aload_n 0, 1) := by decide +kernel
theorem d_15_1 : decode m15.2.1 1 = .ok (.iconst 0, 1) := by decide +kernel
theorem d_15_2 : decode m15.2.1 2 = .ok (.putfield 24, 3) := by decide +kernel
theorem d_15_5 : decode m15.2.1 5 = .ok (.iconst 0, 1) := by decide +kernel
theorem d_15_6 : decode m15.2.1 6 = .ok (.istore_n 2, 1) := by decide +kernel
theorem d_15_7 : decode m15.2.1 7 = .ok (.iload_n 2, 1) := by decide +kernel
theorem d_15_8 : decode m15.2.1 8 = .ok (.bipush 10, 2) := by decide +kernel
theorem d_15_10 : decode m15.2.1 10 = .ok (.if_icmp .ge 52, 3) := by decide +kernel
theorem d_15_13 : decode m15.2.1 13 = .ok (.aload_n 0, 1) := by decide +kernel
theorem d_15_14 : decode m15.2.1 14 = .ok (.getfield 9, 3) := by decide +kernel
theorem d_15_17 : decode m15.2.1 17 = .ok (.iload_n 2, 1) := by decide +kernel
theorem d_15_18 : decode m15.2.1 18 = .ok (.iconst 0, 1) := by decide +kernel
theorem d_15_19 : decode m15.2.1 19 = .ok (.iastore, 1) := by decide +kernel
theorem d_15_20 : decode m15.2.1 20 = .ok (.aload_n 0, 1) := by decide +kernel
theorem d_15_21 : decode m15.2.1 21 = .ok (.getfield 15, 3) := by decide +kernel
theorem d_15_24 : decode m15.2.1 24 = .ok (.iload_n 2, 1) := by decide +kernel
theorem d_15_25 : decode m15.2.1 25 = .ok (.aload_n 1, 1) := by decide +kernel
theorem d_15_26 : decode m15.2.1 26 = .ok (.getfield 28, 3) := by decide +kernel
theorem d_15_29 : decode m15.2.1 29 = .ok (.iload_n 2, 1) := by decide +kernel
theorem d_15_30 : decode m15.2.1 30 = .ok (.iaload, 1) := by decide +kernel
theorem d_15_31 : decode m15.2.1 31 = .ok (.iastore, 1) := by decide +kernel
theorem d_15_32 : decode m15.2.1 32 = .ok (.aload_n 0, 1) := by decide +kernel
theorem d_15_33 : decode m15.2.1 33 = .ok (.getfield 18, 3) := by decide +kernel
theorem d_15_36 : decode m15.2.1 36 = .ok (.iload_n 2, 1) := by decide +kernel
theorem d_15_37 : decode m15.2.1 37 = .ok (.aload_n 1, 1) := by decide +kernel
theorem d_15_38 : decode m15.2.1 38 = .ok (.getfield 31, 3) := by decide +kernel
theorem d_15_41 : decode m15.2.1 41 = .ok (.iload_n 2, 1) := by decide +kernel
theorem d_15_42 : decode m15.2.1 42 = .ok (.iaload, 1) := by decide +kernel
theorem d_15_43 : decode m15.2.1 43 = .ok (.iastore, 1) := by decide +kernel
theorem d_15_44 : decode m15.2.1 44 = .ok (.aload_n 0, 1) := by decide +kernel
theorem d_15_45 : decode m15.2.1 45 = .ok (.getfield 21, 3) := by decide +kernel
theorem d_15_48 : decode m15.2.1 48 = .ok (.iload_n 2, 1) := by decide +kernel
theorem d_15_49 : decode m15.2.1 49 = .ok (.aload_n 1, 1) := by decide +kernel
theorem d_15_50 : decode m15.2.1 50 = .ok (.getfield 32, 3) := by decide +kernel
theorem d_15_53 : decode m15.2.1 53 = .ok (.iload_n 2, 1) := by decide +kernel
theorem d_15_54 : decode m15.2.1 54 = .ok (.iaload, 1) := by decide +kernel
theorem d_15_55 : decode m15.2.1 55 = .ok (.iastore, 1) := by decide +kernel
theorem d_15_56 : decode m15.2.1 56 = .ok (.iinc 2 1, 3) := by decide +kernel
theorem d_15_59 : decode m15.2.1 59 = .ok (.goto (-52), 3) := by decide +kernel
theorem d_15_62 : decode m15.2.1 62 = .ok (.return_, 1) := by decide +kernel
theorem d_20_0 : decode m20.2.1 0 = .ok (.aload_n 0, 1) := by decide +kernel
theorem d_20_1 : decode m20.2.1 1 = .ok (.iconst 0, 1) := by decide +kernel
theorem d_20_2 : decode m20.2.1 2 = .ok (.putfield 31, 3) := by decide +kernel
theorem d_20_5 : decode m20.2.1 5 = .ok (.aload_n 0, 1) := by decide +kernel
theorem d_20_6 : decode m20.2.1 6 = .ok (.iconst (-1), 1) := by decide +kernel
theorem d_20_7 : decode m20.2.1 7 = .ok (.putfield 9, 3) := by decide +kernel
theorem d_20_10 : decode m20.2.1 10 = .ok (.aload_n 0, 1) := by decide +kernel
theorem d_20_11 : decode m20.2.1 11 = .ok (.iconst 0, 1) := by decide +kernel
theorem d_20_12 : decode m20.2.1 12 = .ok (.putfield 34, 3) := by decide +kernel
theorem d_20_15 : decode m20.2.1 15 = .ok (.aload_n 0, 1) := by decide +kernel
theorem d_20_16 : decode m20.2.1 16 = .ok (.getfield 18, 3) := by decide +kernel
theorem d_20_19 : decode m20.2.1 19 = .ok (.invokevirtual 37, 3) := by decide +kernel
theorem d_20_22 : decode m20.2.1 22 = .ok (.aload_n 0, 1) := by decide +kernel
theorem d_20_23 : decode m20.2.1 23 = .ok (.getfield 27, 3) := by decide +kernel
theorem d_20_26 : decode m20.2.1 26 = .ok (.iload_n 1, 1) := by decide +kernel
theorem d_20_27 : decode m20.2.1 27 = .ok (.invokevirtual 40, 3) := by decide +kernel
theorem d_20_30 : decode m20.2.1 30 = .ok (.iconst 0, 1) := by decide +kernel
theorem d_20_31 : decode m20.2.1 31 = .ok (.istore_n 2, 1) := by decide +kernel
theorem d_20_32 : decode m20.2.1 32 = .ok (.iload_n 2, 1) := by decide +kernel
theorem d_20_33 : decode m20.2.1 33 = .ok (.sipush 1600, 3) := by decide +kernel
theorem d_20_36 : decode m20.2.1 36 = .ok (.if_icmp .ge 30, 3) := by decide +kernel
theorem d_20_39 : decode m20.2.1 39 = .ok (.aload_n 0, 1) := by decide +kernel
theorem d_20_40 : decode m20.2.1 40 = .ok (.getfield 31, 3) := by decide +kernel
theorem d_20_43 : decode m20.2.1 43 = .ok (.ifCond .ne 23, 3) := by decide +kernel
theorem d_20_46 : decode m20.2.1 46 = .ok (.aload_n 0, 1) := by decide +kernel
theorem d_20_47 : decode m20.2.1 47 = .ok (.getfield 27, 3) := by decide +kernel
theorem d_20_50 : decode m20.2.1 50 = .ok (.getfield 44, 3) := by decide +kernel
theorem d_20_53 : decode m20.2.1 53 = .ok (.ifCond .eq 13, 3) := by decide +kernel
theorem d_20_56 : decode m20.2.1 56 = .ok (.aload_n 0, 1) := by decide +kernel
theorem d_20_57 : decode m20.2.1 57 = .ok (.invokevirtual 47, 3) := by decide +kernel
theorem d_20_60 : decode m20.2.1 60 = .ok (.iinc 2 1, 3) := by decide +kernel
theorem d_20_63 : decode m20.2.1 63 = .ok (.goto (-31), 3) := by decide +kernel
theorem d_20_66 : decode m20.2.1 66 = .ok (.aload_n 0, 1) := by decide +kernel
theorem d_20_67 : decode m20.2.1 67 = .ok (.getfield 31, 3) := by decide +kernel
theorem d_20_70 : decode m20.2.1 70 = .ok (.ifCond .ne 7, 3) := by decide +kernel
theorem d_20_73 : decode m20.2.1 73 = .ok (.iconst 1, 1) := by decide +kernel
theorem d_20_74 : decode m20.2.1 74 = .ok (.goto 4, 3) := by decide +kernel
theorem d_20_77 : decode m20.2.1 77 = .ok (.iconst 0, 1) := by decide +kernel
theorem d_20_78 : decode m20.2.1 78 = .ok (.ireturn, 1) := by decide +kernel
theorem d_21_0 : decode m21.2.1 0 = .ok (.aload_n 0, 1) := by decide +kernel
theorem d_21_1 : decode m21.2.1 1 = .ok (.iconst 0, 1) := by decide +kernel
theorem d_21_2 : decode m21.2.1 2 = .ok (.iload_n 1, 1) := by decide +kernel
theorem d_21_3 : decode m21.2.1 3 = .ok (.aload_n 0, 1) := by decide +kernel
theorem d_21_4 : decode m21.2.1 4 = .ok (.getfield 9, 3) := by decide +kernel
theorem d_21_7 : decode m21.2.1 7 = .ok (.arraylength, 1) := by decide +kernel
theorem d_21_8 : decode m21.2.1 8 = .ok (.invokestatic 15, 3) := by decide +kernel
theorem d_21_11 : decode m21.2.1 11 = .ok (.invokestatic 21, 3) := by decide +kernel
theorem d_21_14 : decode m21.2.1 14 = .ok (.putfield 24, 3) := by decide +kernel
theorem d_21_17 : decode m21.2.1 17 = .ok (.aload_n 0, 1) := by decide +kernel
theorem d_21_18 : decode m21.2.1 18 = .ok (.iconst 0, 1) := by decide +kernel
theorem d_21_19 : decode m21.2.1 19 = .ok (.putfield 28, 3) := by decide +kernel
theorem d_21_22 : decode m21.2.1 22 = .ok (.aload_n 0, 1) := by decide +kernel
theorem d_21_23 : decode m21.2.1 23 = .ok (.invokevirtual 31, 3) := by decide +kernel
theorem d_21_26 : decode m21.2.1 26 = .ok (.return_, 1) := by decide +kernel
theorem d_24_0 : decode m24.2.1 0 = .ok (.aload_n 0, 1) := by decide +kernel
theorem d_24_1 : decode m24.2.1 1 = .ok (.getfield 28, 3) := by decide +kernel
theorem d_24_4 : decode m24.2.1 4 = .ok (.aload_n 0, 1) := by decide +kernel
theorem d_24_5 : decode m24.2.1 5 = .ok (.getfield 24, 3) := by decide +kernel
theorem d_24_8 : decode m24.2.1 8 = .ok (.if_icmp .ge 30, 3) := by decide +kernel
theorem d_24_11 : decode m24.2.1 11 = .ok (.aload_n 0, 1) := by decide +kernel
theorem d_24_12 : decode m24.2.1 12 = .ok (.aload_n 0, 1) := by decide +kernel
theorem d_24_13 : decode m24.2.1 13 = .ok (.getfield 28, 3) := by decide +kernel
theorem d_24_16 : decode m24.2.1 16 = .ok (.invokevirtual 34, 3) := by decide +kernel
theorem d_24_19 : decode m24.2.1 19 = .ok (.invokestatic 38, 3) := by decide +kernel
theorem d_24_22 : decode m24.2.1 22 = .ok (.ifCond .eq 16, 3) := by decide +kernel
theorem d_24_25 : decode m24.2.1 25 = .ok (.aload_n 0, 1) := by decide +kernel
theorem d_24_26 : decode m24.2.1 26 = .ok (.dup, 1) := by decide +kernel
theorem d_24_27 : decode m24.2.1 27 = .ok (.getfield 28, 3) := by decide +kernel
theorem d_24_30 : decode m24.2.1 30 = .ok (.iconst 1, 1) := by decide +kernel
theorem d_24_31 : decode m24.2.1 31 = .ok (.iadd, 1) := by decide +kernel
theorem d_24_32 : decode m24.2.1 32 = .ok (.putfield 28, 3) := by decide +kernel
theorem d_24_35 : decode m24.2.1 35 = .ok (.goto (-35), 3) := by decide +kernel
theorem d_24_38 : decode m24.2.1 38 = .ok (.aload_n 0, 1) := by decide +kernel
theorem d_24_39 : decode m24.2.1 39 = .ok (.aload_n 0, 1) := by decide +kernel
theorem d_24_40 : decode m24.2.1 40 = .ok (.getfield 28, 3) := by decide +kernel
theorem d_24_43 : decode m24.2.1 43 = .ok (.putfield 42, 3) := by decide +kernel
theorem d_24_46 : decode m24.2.1 46 = .ok (.aload_n 0, 1) := by decide +kernel
theorem d_24_47 : decode m24.2.1 47 = .ok (.aload_n 0, 1) := by decide +kernel
theorem d_24_48 : decode m24.2.1 48 = .ok (.getfield 28, 3) := by decide +kernel
theorem d_24_51 : decode m24.2.1 51 = .ok (.invokevirtual 34, 3) := by decide +kernel
theorem d_24_54 : decode m24.2.1 54 = .ok (.istore_n 1, 1) := by decide +kernel
theorem d_24_55 : decode m24.2.1 55 = .ok (.iload_n 1, 1) := by decide +kernel
theorem d_24_56 : decode m24.2.1 56 = .ok (.iconst (-1), 1) := by decide +kernel
theorem d_24_57 : decode m24.2.1 57 = .ok (.if_icmp .ne 11, 3) := by decide +kernel
theorem d_24_60 : decode m24.2.1 60 = .ok (.aload_n 0, 1) := by decide +kernel
theorem d_24_61 : decode m24.2.1 61 = .ok (.iconst 0, 1) := by decide +kernel
theorem d_24_62 : decode m24.2.1 62 = .ok (.putfield 45, 3) := by decide +kernel
theorem d_24_65 : decode m24.2.1 65 = .ok (.goto 65, 3) := by decide +kernel
theorem d_24_68 : decode m24.2.1 68 = .ok (.iload_n 1, 1) := by decide +kernel
theorem d_24_69 : decode m24.2.1 69 = .ok (.invokestatic 48, 3) := by decide +kernel
theorem d_24_72 : decode m24.2.1 72 = .ok (.ifCond .eq 10, 3) := by decide +kernel
theorem d_24_75 : decode m24.2.1 75 = .ok (.aload_n 0, 1) := by decide +kernel
theorem d_24_76 : decode m24.2.1 76 = .ok (.invokevirtual 51, 3) := by decide +kernel
theorem d_24_79 : decode m24.2.1 79 = .ok (.goto 51, 3) := by decide +kernel
theorem d_24_82 : decode m24.2.1 82 = .ok (.iload_n 1, 1) := by decide +kernel
theorem d_24_83 : decode m24.2.1 83 = .ok (.invokestatic 54, 3) := by decide +kernel
theorem d_24_86 : decode m24.2.1 86 = .ok (.ifCond .eq 10, 3) := by decide +kernel
theorem d_24_89 : decode m24.2.1 89 = .ok (.aload_n 0, 1) := by decide +kernel
theorem d_24_90 : decode m24.2.1 90 = .ok (.invokevirtual 57, 3) := by decide +kernel
theorem d_24_93 : decode m24.2.1 93 = .ok (.goto 37, 3) := by decide +kernel
theorem d_24_96 : decode m24.2.1 96 = .ok (.aload_n 0, 1) := by decide +kernel
theorem d_24_97 : decode m24.2.1 97 = .ok (.ldc 60, 2) := by decide +kernel
theorem d_24_99 : decode m24.2.1 99 = .ok (.iload_n 1, 1) := by decide +kernel
theorem d_24_100 : decode m24.2.1 100 = .ok (.i2c, 1) := by decide +kernel
theorem d_24_101 : decode m24.2.1 101 = .ok (.invokevirtual 62, 3) := by decide +kernel
theorem d_24_104 : decode m24.2.1 104 = .ok (.ifCond .lt 7, 3) := by decide +kernel
theorem d_24_107 : decode m24.2.1 107 = .ok (.iconst 4, 1) := by decide +kernel
theorem d_24_108 : decode m24.2.1 108 = .ok (.goto 4, 3) := by decide +kernel
theorem d_24_111 : decode m24.2.1 111 = .ok (.iconst 5, 1) := by decide +kernel
theorem d_24_112 : decode m24.2.1 112 = .ok (.putfield 45, 3) := by decide +kernel
theorem d_24_115 : decode m24.2.1 115 = .ok (.aload_n 0, 1) := by decide +kernel
theorem d_24_116 : decode m24.2.1 116 = .ok (.iload_n 1, 1) := by decide +kernel
theorem d_24_117 : decode m24.2.1 117 = .ok (.putfield 67, 3) := by decide +kernel
theorem d_24_120 : decode m24.2.1 120 = .ok (.aload_n 0, 1) := by decide +kernel
theorem d_24_121 : decode m24.2.1 121 = .ok (.dup, 1) := by decide +kernel
theorem d_24_122 : decode m24.2.1 122 = .ok (.getfield 28, 3) := by decide +kernel
theorem d_24_125 : decode m24.2.1 125 = .ok (.iconst 1, 1) := by decide +kernel
theorem d_24_126 : decode m24.2.1 126 = .ok (.iadd, 1) := by decide +kernel
theorem d_24_127 : decode m24.2.1 127 = .ok (.putfield 28, 3) := by decide +kernel
theorem d_24_130 : decode m24.2.1 130 = .ok (.return_, 1) := by decide +kernel
theorem d_25_0 : decode m25.2.1 0 = .ok (.iload_n 1, 1) := by decide +kernel
theorem d_25_1 : decode m25.2.1 1 = .ok (.ifCond .lt 33, 3) := by decide +kernel
theorem d_25_4 : decode m25.2.1 4 = .ok (.iload_n 1, 1) := by decide +kernel
theorem d_25_5 : decode m25.2.1 5 = .ok (.aload_n 0, 1) := by decide +kernel
theorem d_25_6 : decode m25.2.1 6 = .ok (.getfield 24, 3) := by decide +kernel
theorem d_25_9 : decode m25.2.1 9 = .ok (.if_icmp .ge 25, 3) := by decide +kernel
theorem d_25_12 : decode m25.2.1 12 = .ok (.iload_n 1, 1) := by decide +kernel
theorem d_25_13 : decode m25.2.1 13 = .ok (.aload_n 0, 1) := by decide +kernel
theorem d_25_14 : decode m25.2.1 14 = .ok (.getfield 9, 3) := by decide +kernel
theorem d_25_17 : decode m25.2.1 17 = .ok (.arraylength, 1) := by decide +kernel
theorem d_25_18 : decode m25.2.1 18 = .ok (.if_icmp .ge 16, 3) := by decide +kernel
theorem d_25_21 : decode m25.2.1 21 = .ok (.aload_n 0, 1) := by decide +kernel
theorem d_25_22 : decode m25.2.1 22 = .ok (.getfield 9, 3) := by decide +kernel
theorem d_25_25 : decode m25.2.1 25 = .ok (.iload_n 1, 1) := by decide +kernel
theorem d_25_26 : decode m25.2.1 26 = .ok (.baload, 1) := by decide +kernel
theorem d_25_27 : decode m25.2.1 27 = .ok (.sipush 255, 3) := by decide +kernel
theorem d_25_30 : decode m25.2.1 30 = .ok (.iand, 1) := by decide +kernel
theorem d_25_31 : decode m25.2.1 31 = .ok (.goto 4, 3) := by decide +kernel
theorem d_25_34 : decode m25.2.1 34 = .ok (.iconst (-1), 1) := by decide +kernel
theorem d_25_35 : decode m25.2.1 35 = .ok (.ireturn, 1) := by decide +kernel
theorem d_26_0 : decode m26.2.1 0 = .ok (.iload_n 0, 1) := by decide +kernel
theorem d_26_1 : decode m26.2.1 1 = .ok (.bipush 32, 2) := by decide +kernel
theorem d_26_3 : decode m26.2.1 3 = .ok (.if_icmp .eq 9, 3) := by decide +kernel
theorem d_26_6 : decode m26.2.1 6 = .ok (.iload_n 0, 1) := by decide +kernel
theorem d_26_7 : decode m26.2.1 7 = .ok (.bipush 10, 2) := by decide +kernel
theorem d_26_9 : decode m26.2.1 9 = .ok (.if_icmp .ne 7, 3) := by decide +kernel
theorem d_26_12 : decode m26.2.1 12 = .ok (.iconst 1, 1) := by decide +kernel
theorem d_26_13 : decode m26.2.1 13 = .ok (.goto 4, 3) := by decide +kernel
theorem d_26_16 : decode m26.2.1 16 = .ok (.iconst 0, 1) := by decide +kernel
theorem d_26_17 : decode m26.2.1 17 = .ok (.ireturn, 1) := by decide +kernel
theorem d_27_0 : decode m27.2.1 0 = .ok (.iload_n 0, 1) := by decide +kernel
theorem d_27_1 : decode m27.2.1 1 = .ok (.bipush 97, 2) := by decide +kernel
theorem d_27_3 : decode m27.2.1 3 = .ok (.if_icmp .lt 13, 3) := by decide +kernel
theorem d_27_6 : decode m27.2.1 6 = .ok (.iload_n 0, 1) := by decide +kernel
theorem d_27_7 : decode m27.2.1 7 = .ok (.bipush 122, 2) := by decide +kernel
theorem d_27_9 : decode m27.2.1 9 = .ok (.if_icmp .gt 7, 3) := by decide +kernel
theorem d_27_12 : decode m27.2.1 12 = .ok (.iconst 1, 1) := by decide +kernel
theorem d_27_13 : decode m27.2.1 13 = .ok (.goto 4, 3) := by decide +kernel
theorem d_27_16 : decode m27.2.1 16 = .ok (.iconst 0, 1) := by decide +kernel
theorem d_27_17 : decode m27.2.1 17 = .ok (.ireturn, 1) := by decide +kernel
theorem d_28_0 : decode m28.2.1 0 = .ok (.aload_n 0, 1) := by decide +kernel
theorem d_28_1 : decode m28.2.1 1 = .ok (.lconst 0, 1) := by decide +kernel
theorem d_28_2 : decode m28.2.1 2 = .ok (.putfield 70, 3) := by decide +kernel
theorem d_28_5 : decode m28.2.1 5 = .ok (.aload_n 0, 1) := by decide +kernel
theorem d_28_6 : decode m28.2.1 6 = .ok (.getfield 28, 3) := by decide +kernel
theorem d_28_9 : decode m28.2.1 9 = .ok (.aload_n 0, 1) := by decide +kernel
theorem d_28_10 : decode m28.2.1 10 = .ok (.getfield 24, 3) := by decide +kernel
theorem d_28_13 : decode m28.2.1 13 = .ok (.if_icmp .ge 55, 3) := by decide +kernel
theorem d_28_16 : decode m28.2.1 16 = .ok (.aload_n 0, 1) := by decide +kernel
theorem d_28_17 : decode m28.2.1 17 = .ok (.aload_n 0, 1) := by decide +kernel
theorem d_28_18 : decode m28.2.1 18 = .ok (.getfield 28, 3) := by decide +kernel
theorem d_28_21 : decode m28.2.1 21 = .ok (.invokevirtual 34, 3) := by decide +kernel
theorem d_28_24 : decode m28.2.1 24 = .ok (.invokestatic 48, 3) := by decide +kernel
theorem d_28_27 : decode m28.2.1 27 = .ok (.ifCond .eq 41, 3) := by decide +kernel
theorem d_28_30 : decode m28.2.1 30 = .ok (.aload_n 0, 1) := by decide +kernel
theorem d_28_31 : decode m28.2.1 31 = .ok (.aload_n 0, 1) := by decide +kernel
theorem d_28_32 : decode m28.2.1 32 = .ok (.getfield 70, 3) := by decide +kernel
theorem d_28_35 : decode m28.2.1 35 = .ok (.iconst 5, 1) := by decide +kernel
theorem d_28_36 : decode m28.2.1 36 = .ok (.lshl, 1) := by decide +kernel
theorem d_28_37 : decode m28.2.1 37 = .ok (.aload_n 0, 1) := by decide +kernel
theorem d_28_38 : decode m28.2.1 38 = .ok (.aload_n 0, 1) := by decide +kernel
theorem d_28_39 : decode m28.2.1 39 = .ok (.getfield 28, 3) := by decide +kernel
theorem d_28_42 : decode m28.2.1 42 = .ok (.invokevirtual 34, 3) := by decide +kernel
theorem d_28_45 : decode m28.2.1 45 = .ok (.bipush 97, 2) := by decide +kernel
theorem d_28_47 : decode m28.2.1 47 = .ok (.isub, 1) := by decide +kernel
theorem d_28_48 : decode m28.2.1 48 = .ok (.iconst 1, 1) := by decide +kernel
theorem d_28_49 : decode m28.2.1 49 = .ok (.iadd, 1) := by decide +kernel
theorem d_28_50 : decode m28.2.1 50 = .ok (.i2l, 1) := by decide +kernel
theorem d_28_51 : decode m28.2.1 51 = .ok (.lor, 1) := by decide +kernel
theorem d_28_52 : decode m28.2.1 52 = .ok (.putfield 70, 3) := by decide +kernel
theorem d_28_55 : decode m28.2.1 55 = .ok (.aload_n 0, 1) := by decide +kernel
theorem d_28_56 : decode m28.2.1 56 = .ok (.dup, 1) := by decide +kernel
theorem d_28_57 : decode m28.2.1 57 = .ok (.getfield 28, 3) := by decide +kernel
theorem d_28_60 : decode m28.2.1 60 = .ok (.iconst 1, 1) := by decide +kernel
theorem d_28_61 : decode m28.2.1 61 = .ok (.iadd, 1) := by decide +kernel
theorem d_28_62 : decode m28.2.1 62 = .ok (.putfield 28, 3) := by decide +kernel
theorem d_28_65 : decode m28.2.1 65 = .ok (.goto (-60), 3) := by decide +kernel
theorem d_28_68 : decode m28.2.1 68 = .ok (.aload_n 0, 1) := by decide +kernel
theorem d_28_69 : decode m28.2.1 69 = .ok (.aload_n 0, 1) := by decide +kernel
theorem d_28_70 : decode m28.2.1 70 = .ok (.getfield 9, 3) := by decide +kernel
theorem d_28_73 : decode m28.2.1 73 = .ok (.aload_n 0, 1) := by decide +kernel
theorem d_28_74 : decode m28.2.1 74 = .ok (.getfield 42, 3) := by decide +kernel
theorem d_28_77 : decode m28.2.1 77 = .ok (.aload_n 0, 1) := by decide +kernel
theorem d_28_78 : decode m28.2.1 78 = .ok (.getfield 28, 3) := by decide +kernel
theorem d_28_81 : decode m28.2.1 81 = .ok (.invokestatic 74, 3) := by decide +kernel
theorem d_28_84 : decode m28.2.1 84 = .ok (.putfield 67, 3) := by decide +kernel
theorem d_28_87 : decode m28.2.1 87 = .ok (.aload_n 0, 1) := by decide +kernel
theorem d_28_88 : decode m28.2.1 88 = .ok (.aload_n 0, 1) := by decide +kernel
theorem d_28_89 : decode m28.2.1 89 = .ok (.getfield 67, 3) := by decide +kernel
theorem d_28_92 : decode m28.2.1 92 = .ok (.iconst (-1), 1) := by decide +kernel
theorem d_28_93 : decode m28.2.1 93 = .ok (.if_icmp .ne 7, 3) := by decide +kernel
theorem d_28_96 : decode m28.2.1 96 = .ok (.iconst 2, 1) := by decide +kernel
theorem d_28_97 : decode m28.2.1 97 = .ok (.goto 4, 3) := by decide +kernel
theorem d_28_100 : decode m28.2.1 100 = .ok (.iconst 1, 1) := by decide +kernel
theorem d_28_101 : decode m28.2.1 101 = .ok (.putfield 45, 3) := by decide +kernel
theorem d_28_104 : decode m28.2.1 104 = .ok (.aload_n 0, 1) := by decide +kernel
theorem d_28_105 : decode m28.2.1 105 = .ok (.getfield 28, 3) := by decide +kernel
theorem d_28_108 : decode m28.2.1 108 = .ok (.aload_n 0, 1) := by decide +kernel
theorem d_28_109 : decode m28.2.1 109 = .ok (.getfield 42, 3) := by decide +kernel
theorem d_28_112 : decode m28.2.1 112 = .ok (.isub, 1) := by decide +kernel
theorem d_28_113 : decode m28.2.1 113 = .ok (.bipush 8, 2) := by decide +kernel
theorem d_28_115 : decode m28.2.1 115 = .ok (.if_icmp .le 8, 3) := by decide +kernel
theorem d_28_118 : decode m28.2.1 118 = .ok (.aload_n 0, 1) := by decide +kernel
theorem d_28_119 : decode m28.2.1 119 = .ok (.iconst 5, 1) := by decide +kernel
theorem d_28_120 : decode m28.2.1 120 = .ok (.putfield 45, 3) := by decide +kernel
theorem d_28_123 : decode m28.2.1 123 = .ok (.return_, 1) := by decide +kernel
theorem d_29_0 : decode m29.2.1 0 = .ok (.iconst 0, 1) := by decide +kernel
theorem d_29_1 : decode m29.2.1 1 = .ok (.istore_n 3, 1) := by decide +kernel
theorem d_29_2 : decode m29.2.1 2 = .ok (.iload_n 3, 1) := by decide +kernel
theorem d_29_3 : decode m29.2.1 3 = .ok (.bipush 20, 2) := by decide +kernel
theorem d_29_5 : decode m29.2.1 5 = .ok (.if_icmp .gt 21, 3) := by decide +kernel
theorem d_29_8 : decode m29.2.1 8 = .ok (.iload_n 3, 1) := by decide +kernel
theorem d_29_9 : decode m29.2.1 9 = .ok (.aload_n 0, 1) := by decide +kernel
theorem d_29_10 : decode m29.2.1 10 = .ok (.iload_n 1, 1) := by decide +kernel
theorem d_29_11 : decode m29.2.1 11 = .ok (.iload_n 2, 1) := by decide +kernel
theorem d_29_12 : decode m29.2.1 12 = .ok (.invokestatic 11, 3) := by decide +kernel
theorem d_29_15 : decode m29.2.1 15 = .ok (.ifCond .eq 5, 3) := by decide +kernel
theorem d_29_18 : decode m29.2.1 18 = .ok (.iload_n 3, 1) := by decide +kernel
theorem d_29_19 : decode m29.2.1 19 = .ok (.ireturn, 1) := by decide +kernel
theorem d_29_20 : decode m29.2.1 20 = .ok (.iinc 3 1, 3) := by decide +kernel
theorem d_29_23 : decode m29.2.1 23 = .ok (.goto (-21), 3) := by decide +kernel
theorem d_29_26 : decode m29.2.1 26 = .ok (.iconst (-1), 1) := by decide +kernel
theorem d_29_27 : decode m29.2.1 27 = .ok (.ireturn, 1) := by decide +kernel
theorem d_30_0 : decode m30.2.1 0 = .ok (.iload_n 0, 1) := by decide +kernel
theorem d_30_1 : decode m30.2.1 1 = .ok (.bipush 8, 2) := by decide +kernel
theorem d_30_3 : decode m30.2.1 3 = .ok (.imul, 1) := by decide +kernel
theorem d_30_4 : decode m30.2.1 4 = .ok (.istore 4, 2) := by decide +kernel
theorem d_30_6 : decode m30.2.1 6 = .ok (.iconst 0, 1) := by decide +kernel
theorem d_30_7 : decode m30.2.1 7 = .ok (.istore 5, 2) := by decide +kernel
theorem d_30_9 : decode m30.2.1 9 = .ok (.iload 5, 2) := by decide +kernel
theorem d_30_11 : decode m30.2.1 11 = .ok (.bipush 8, 2) := by decide +kernel
theorem d_30_13 : decode m30.2.1 13 = .ok (.if_icmp .ge 74, 3) := by decide +kernel
theorem d_30_16 : decode m30.2.1 16 = .ok (.iload 4, 2) := by decide +kernel
theorem d_30_18 : decode m30.2.1 18 = .ok (.iload 5, 2) := by decide +kernel
theorem d_30_20 : decode m30.2.1 20 = .ok (.iadd, 1) := by decide +kernel
theorem d_30_21 : decode m30.2.1 21 = .ok (.ldc 15, 2) := by decide +kernel
theorem d_30_23 : decode m30.2.1 23 = .ok (.invokevirtual 17, 3) := by decide +kernel
theorem d_30_26 : decode m30.2.1 26 = .ok (.if_icmp .ge 61, 3) := by decide +kernel
theorem d_30_29 : decode m30.2.1 29 = .ok (.iload_n 2, 1) := by decide +kernel
theorem d_30_30 : decode m30.2.1 30 = .ok (.iload 5, 2) := by decide +kernel
theorem d_30_32 : decode m30.2.1 32 = .ok (.iadd, 1) := by decide +kernel
theorem d_30_33 : decode m30.2.1 33 = .ok (.istore 6, 2) := by decide +kernel
theorem d_30_35 : decode m30.2.1 35 = .ok (.iload 6, 2) := by decide +kernel
theorem d_30_37 : decode m30.2.1 37 = .ok (.ifCond .lt 23, 3) := by decide +kernel
theorem d_30_40 : decode m30.2.1 40 = .ok (.iload 6, 2) := by decide +kernel
theorem d_30_42 : decode m30.2.1 42 = .ok (.iload_n 3, 1) := by decide +kernel
theorem d_30_43 : decode m30.2.1 43 = .ok (.if_icmp .ge 17, 3) := by decide +kernel
theorem d_30_46 : decode m30.2.1 46 = .ok (.iload 6, 2) := by decide +kernel
theorem d_30_48 : decode m30.2.1 48 = .ok (.aload_n 1, 1) := by decide +kernel
theorem d_30_49 : decode m30.2.1 49 = .ok (.arraylength, 1) := by decide +kernel
theorem d_30_50 : decode m30.2.1 50 = .ok (.if_icmp .ge 10, 3) := by decide +kernel
theorem d_30_53 : decode m30.2.1 53 = .ok (.aload_n 1, 1) := by decide +kernel
theorem d_30_54 : decode m30.2.1 54 = .ok (.iload 6, 2) := by decide +kernel
theorem d_30_56 : decode m30.2.1 56 = .ok (.baload, 1) := by decide +kernel
theorem d_30_57 : decode m30.2.1 57 = .ok (.goto 5, 3) := by decide +kernel
theorem d_30_60 : decode m30.2.1 60 = .ok (.bipush 32, 2) := by decide +kernel
theorem d_30_62 : decode m30.2.1 62 = .ok (.istore 7, 2) := by decide +kernel
theorem d_30_64 : decode m30.2.1 64 = .ok (.ldc 15, 2) := by decide +kernel
theorem d_30_66 : decode m30.2.1 66 = .ok (.iload 4, 2) := by decide +kernel
theorem d_30_68 : decode m30.2.1 68 = .ok (.iload 5, 2) := by decide +kernel
theorem d_30_70 : decode m30.2.1 70 = .ok (.iadd, 1) := by decide +kernel
theorem d_30_71 : decode m30.2.1 71 = .ok (.invokevirtual 23, 3) := by decide +kernel
theorem d_30_74 : decode m30.2.1 74 = .ok (.iload 7, 2) := by decide +kernel
theorem d_30_76 : decode m30.2.1 76 = .ok (.if_icmp .eq 5, 3) := by decide +kernel
theorem d_30_79 : decode m30.2.1 79 = .ok (.iconst 0, 1) := by decide +kernel
theorem d_30_80 : decode m30.2.1 80 = .ok (.ireturn, 1) := by decide +kernel
theorem d_30_81 : decode m30.2.1 81 = .ok (.iinc 5 1, 3) := by decide +kernel
theorem d_30_84 : decode m30.2.1 84 = .ok (.goto (-75), 3) := by decide +kernel
theorem d_30_87 : decode m30.2.1 87 = .ok (.iload_n 3, 1) := by decide +kernel
theorem d_30_88 : decode m30.2.1 88 = .ok (.iload_n 2, 1) := by decide +kernel
theorem d_30_89 : decode m30.2.1 89 = .ok (.isub, 1) := by decide +kernel
theorem d_30_90 : decode m30.2.1 90 = .ok (.bipush 8, 2) := by decide +kernel
theorem d_30_92 : decode m30.2.1 92 = .ok (.if_icmp .gt 7, 3) := by decide +kernel
theorem d_30_95 : decode m30.2.1 95 = .ok (.iconst 1, 1) := by decide +kernel
theorem d_30_96 : decode m30.2.1 96 = .ok (.goto 4, 3) := by decide +kernel
theorem d_30_99 : decode m30.2.1 99 = .ok (.iconst 0, 1) := by decide +kernel
theorem d_30_100 : decode m30.2.1 100 = .ok (.ireturn, 1) := by decide +kernel
theorem d_31_0 : decode m31.2.1 0 = .ok (.aload_n 0, 1) := by decide +kernel
theorem d_31_1 : decode m31.2.1 1 = .ok (.getfield 9, 3) := by decide +kernel
theorem d_31_4 : decode m31.2.1 4 = .ok (.arraylength, 1) := by decide +kernel
theorem d_31_5 : decode m31.2.1 5 = .ok (.aload_n 0, 1) := by decide +kernel
theorem d_31_6 : decode m31.2.1 6 = .ok (.invokevirtual 335, 3) := by decide +kernel
theorem d_31_9 : decode m31.2.1 9 = .ok (.ishr, 1) := by decide +kernel
theorem d_31_10 : decode m31.2.1 10 = .ok (.ireturn, 1) := by decide +kernel
theorem d_32_0 : decode m32.2.1 0 = .ok (.getstatic 38, 3) := by decide +kernel
theorem d_32_3 : decode m32.2.1 3 = .ok (.ifCond .eq 10, 3) := by decide +kernel
theorem d_32_6 : decode m32.2.1 6 = .ok (.aload_n 0, 1) := by decide +kernel
theorem d_32_7 : decode m32.2.1 7 = .ok (.getfield 15, 3) := by decide +kernel
theorem d_32_10 : decode m32.2.1 10 = .ok (.goto 4, 3) := by decide +kernel
theorem d_32_13 : decode m32.2.1 13 = .ok (.iconst 1, 1) := by decide +kernel
theorem d_32_14 : decode m32.2.1 14 = .ok (.ireturn, 1) := by decide +kernel
theorem d_33_0 : decode m33.2.1 0 = .ok (.aload_n 0, 1) := by decide +kernel
theorem d_33_1 : decode m33.2.1 1 = .ok (.invokevirtual 492, 3) := by decide +kernel
theorem d_33_4 : decode m33.2.1 4 = .ok (.ifCond .eq 12, 3) := by decide +kernel
theorem d_33_7 : decode m33.2.1 7 = .ok (.aload_n 0, 1) := by decide +kernel
theorem d_33_8 : decode m33.2.1 8 = .ok (.getfield 9, 3) := by decide +kernel
theorem d_33_11 : decode m33.2.1 11 = .ok (.iload_n 1, 1) := by decide +kernel
theorem d_33_12 : decode m33.2.1 12 = .ok (.invokestatic 495, 3) := by decide +kernel
theorem d_33_15 : decode m33.2.1 15 = .ok (.ireturn, 1) := by decide +kernel
theorem d_33_16 : decode m33.2.1 16 = .ok (.aload_n 0, 1) := by decide +kernel
theorem d_33_17 : decode m33.2.1 17 = .ok (.getfield 9, 3) := by decide +kernel
theorem d_33_20 : decode m33.2.1 20 = .ok (.iload_n 1, 1) := by decide +kernel
theorem d_33_21 : decode m33.2.1 21 = .ok (.invokestatic 498, 3) := by decide +kernel
theorem d_33_24 : decode m33.2.1 24 = .ok (.ireturn, 1) := by decide +kernel
theorem d_34_0 : decode m34.2.1 0 = .ok (.getstatic 38, 3) := by decide +kernel
theorem d_34_3 : decode m34.2.1 3 = .ok (.ifCond .eq 14, 3) := by decide +kernel
theorem d_34_6 : decode m34.2.1 6 = .ok (.aload_n 0, 1) := by decide +kernel
theorem d_34_7 : decode m34.2.1 7 = .ok (.getfield 15, 3) := by decide +kernel
theorem d_34_10 : decode m34.2.1 10 = .ok (.ifCond .ne 7, 3) := by decide +kernel
theorem d_34_13 : decode m34.2.1 13 = .ok (.iconst 1, 1) := by decide +kernel
theorem d_34_14 : decode m34.2.1 14 = .ok (.goto 4, 3) := by decide +kernel
theorem d_34_17 : decode m34.2.1 17 = .ok (.iconst 0, 1) := by decide +kernel
theorem d_34_18 : decode m34.2.1 18 = .ok (.ireturn, 1) := by decide +kernel
theorem d_35_0 : decode m35.2.1 0 = .ok (.iload_n 1, 1) := by decide +kernel
theorem d_35_1 : decode m35.2.1 1 = .ok (.aload_n 0, 1) := by decide +kernel
theorem d_35_2 : decode m35.2.1 2 = .ok (.arraylength, 1) := by decide +kernel
theorem d_35_3 : decode m35.2.1 3 = .ok (.invokestatic 9, 3) := by decide +kernel
theorem d_35_6 : decode m35.2.1 6 = .ok (.aload_n 0, 1) := by decide +kernel
theorem d_35_7 : decode m35.2.1 7 = .ok (.iload_n 1, 1) := by decide +kernel
theorem d_35_8 : decode m35.2.1 8 = .ok (.baload, 1) := by decide +kernel
theorem d_35_9 : decode m35.2.1 9 = .ok (.sipush 255, 3) := by decide +kernel
theorem d_35_12 : decode m35.2.1 12 = .ok (.iand, 1) := by decide +kernel
theorem d_35_13 : decode m35.2.1 13 = .ok (.i2c, 1) := by decide +kernel
theorem d_35_14 : decode m35.2.1 14 = .ok (.ireturn, 1) := by decide +kernel
theorem d_36_0 : decode m36.2.1 0 = .ok (.iload_n 0, 1) := by decide +kernel
theorem d_36_1 : decode m36.2.1 1 = .ok (.iload_n 1, 1) := by decide +kernel
theorem d_36_2 : decode m36.2.1 2 = .ok (.getstatic 1053, 3) := by decide +kernel
theorem d_36_5 : decode m36.2.1 5 = .ok (.invokestatic 1059, 3) := by decide +kernel
theorem d_36_8 : decode m36.2.1 8 = .ok (.pop, 1) := by decide +kernel
theorem d_36_9 : decode m36.2.1 9 = .ok (.return_, 1) := by decide +kernel
theorem d_37_0 : decode m37.2.1 0 = .ok (.iload_n 0, 1) := by decide +kernel
theorem d_37_1 : decode m37.2.1 1 = .ok (.ifCond .lt 8, 3) := by decide +kernel
theorem d_37_4 : decode m37.2.1 4 = .ok (.iload_n 0, 1) := by decide +kernel
theorem d_37_5 : decode m37.2.1 5 = .ok (.iload_n 1, 1) := by decide +kernel
theorem d_37_6 : decode m37.2.1 6 = .ok (.if_icmp .lt 10, 3) := by decide +kernel
theorem d_37_9 : decode m37.2.1 9 = .ok (.aload_n 2, 1) := by decide +kernel
theorem d_37_10 : decode m37.2.1 10 = .ok (.iload_n 0, 1) := by decide +kernel
theorem d_37_11 : decode m37.2.1 11 = .ok (.iload_n 1, 1) := by decide +kernel
theorem d_37_12 : decode m37.2.1 12 = .ok (.invokestatic 95, 3) := by decide +kernel
theorem d_37_16 : decode m37.2.1 16 = .ok (.iload_n 0, 1) := by decide +kernel
theorem d_37_17 : decode m37.2.1 17 = .ok (.ireturn, 1) := by decide +kernel
theorem d_42_0 : decode m42.2.1 0 = .ok (.iload_n 0, 1) := by decide +kernel
theorem d_42_1 : decode m42.2.1 1 = .ok (.bipush 48, 2) := by decide +kernel
theorem d_42_3 : decode m42.2.1 3 = .ok (.if_icmp .lt 13, 3) := by decide +kernel
theorem d_42_6 : decode m42.2.1 6 = .ok (.iload_n 0, 1) := by decide +kernel
theorem d_42_7 : decode m42.2.1 7 = .ok (.bipush 57, 2) := by decide +kernel
theorem d_42_9 : decode m42.2.1 9 = .ok (.if_icmp .gt 7, 3) := by decide +kernel
theorem d_42_12 : decode m42.2.1 12 = .ok (.iconst 1, 1) := by decide +kernel
theorem d_42_13 : decode m42.2.1 13 = .ok (.goto 4, 3) := by decide +kernel
theorem d_42_16 : decode m42.2.1 16 = .ok (.iconst 0, 1) := by decide +kernel
theorem d_42_17 : decode m42.2.1 17 = .ok (.ireturn, 1) := by decide +kernel
theorem d_43_0 : decode m43.2.1 0 = .ok (.aload_n 0, 1) := by decide +kernel
theorem d_43_1 : decode m43.2.1 1 = .ok (.iconst 0, 1) := by decide +kernel
theorem d_43_2 : decode m43.2.1 2 = .ok (.putfield 67, 3) := by decide +kernel
theorem d_43_5 : decode m43.2.1 5 = .ok (.aload_n 0, 1) := by decide +kernel
theorem d_43_6 : decode m43.2.1 6 = .ok (.getfield 28, 3) := by decide +kernel
theorem d_43_9 : decode m43.2.1 9 = .ok (.aload_n 0, 1) := by decide +kernel
theorem d_43_10 : decode m43.2.1 10 = .ok (.getfield 24, 3) := by decide +kernel
theorem d_43_13 : decode m43.2.1 13 = .ok (.if_icmp .ge 53, 3) := by decide +kernel
theorem d_43_16 : decode m43.2.1 16 = .ok (.aload_n 0, 1) := by decide +kernel
theorem d_43_17 : decode m43.2.1 17 = .ok (.aload_n 0, 1) := by decide +kernel
theorem d_43_18 : decode m43.2.1 18 = .ok (.getfield 28, 3) := by decide +kernel
theorem d_43_21 : decode m43.2.1 21 = .ok (.invokevirtual 34, 3) := by decide +kernel
theorem d_43_24 : decode m43.2.1 24 = .ok (.invokestatic 54, 3) := by decide +kernel
theorem d_43_27 : decode m43.2.1 27 = .ok (.ifCond .eq 39, 3) := by decide +kernel
theorem d_43_30 : decode m43.2.1 30 = .ok (.aload_n 0, 1) := by decide +kernel
theorem d_43_31 : decode m43.2.1 31 = .ok (.aload_n 0, 1) := by decide +kernel
theorem d_43_32 : decode m43.2.1 32 = .ok (.getfield 67, 3) := by decide +kernel
theorem d_43_35 : decode m43.2.1 35 = .ok (.bipush 10, 2) := by decide +kernel
theorem d_43_37 : decode m43.2.1 37 = .ok (.imul, 1) := by decide +kernel
theorem d_43_38 : decode m43.2.1 38 = .ok (.aload_n 0, 1) := by decide +kernel
theorem d_43_39 : decode m43.2.1 39 = .ok (.aload_n 0, 1) := by decide +kernel
theorem d_43_40 : decode m43.2.1 40 = .ok (.getfield 28, 3) := by decide +kernel
theorem d_43_43 : decode m43.2.1 43 = .ok (.invokevirtual 34, 3) := by decide +kernel
theorem d_43_46 : decode m43.2.1 46 = .ok (.iadd, 1) := by decide +kernel
theorem d_43_47 : decode m43.2.1 47 = .ok (.bipush 48, 2) := by decide +kernel
theorem d_43_49 : decode m43.2.1 49 = .ok (.isub, 1) := by decide +kernel
theorem d_43_50 : decode m43.2.1 50 = .ok (.putfield 67, 3) := by decide +kernel
theorem d_43_53 : decode m43.2.1 53 = .ok (.aload_n 0, 1) := by decide +kernel
theorem d_43_54 : decode m43.2.1 54 = .ok (.dup, 1) := by decide +kernel
theorem d_43_55 : decode m43.2.1 55 = .ok (.getfield 28, 3) := by decide +kernel
theorem d_43_58 : decode m43.2.1 58 = .ok (.iconst 1, 1) := by decide +kernel
theorem d_43_59 : decode m43.2.1 59 = .ok (.iadd, 1) := by decide +kernel
theorem d_43_60 : decode m43.2.1 60 = .ok (.putfield 28, 3) := by decide +kernel
theorem d_43_63 : decode m43.2.1 63 = .ok (.goto (-58), 3) := by decide +kernel
theorem d_43_66 : decode m43.2.1 66 = .ok (.aload_n 0, 1) := by decide +kernel
theorem d_43_67 : decode m43.2.1 67 = .ok (.aload_n 0, 1) := by decide +kernel
theorem d_43_68 : decode m43.2.1 68 = .ok (.getfield 28, 3) := by decide +kernel
theorem d_43_71 : decode m43.2.1 71 = .ok (.aload_n 0, 1) := by decide +kernel
theorem d_43_72 : decode m43.2.1 72 = .ok (.getfield 42, 3) := by decide +kernel
theorem d_43_75 : decode m43.2.1 75 = .ok (.isub, 1) := by decide +kernel
theorem d_43_76 : decode m43.2.1 76 = .ok (.iconst 4, 1) := by decide +kernel
theorem d_43_77 : decode m43.2.1 77 = .ok (.if_icmp .gt 17, 3) := by decide +kernel
theorem d_43_80 : decode m43.2.1 80 = .ok (.aload_n 0, 1) := by decide +kernel
theorem d_43_81 : decode m43.2.1 81 = .ok (.aload_n 0, 1) := by decide +kernel
theorem d_43_82 : decode m43.2.1 82 = .ok (.getfield 28, 3) := by decide +kernel
theorem d_43_85 : decode m43.2.1 85 = .ok (.invokevirtual 34, 3) := by decide +kernel
theorem d_43_88 : decode m43.2.1 88 = .ok (.invokestatic 48, 3) := by decide +kernel
theorem d_43_91 : decode m43.2.1 91 = .ok (.ifCond .eq 7, 3) := by decide +kernel
theorem d_43_94 : decode m43.2.1 94 = .ok (.iconst 5, 1) := by decide +kernel
theorem d_43_95 : decode m43.2.1 95 = .ok (.goto 4, 3) := by decide +kernel
theorem d_43_98 : decode m43.2.1 98 = .ok (.iconst 3, 1) := by decide +kernel
theorem d_43_99 : decode m43.2.1 99 = .ok (.putfield 45, 3) := by decide +kernel
theorem d_43_102 : decode m43.2.1 102 = .ok (.return_, 1) := by decide +kernel
theorem d_44_0 : decode m44.2.1 0 = .ok (.aload_n 0, 1) := by decide +kernel
theorem d_44_1 : decode m44.2.1 1 = .ok (.iload_n 1, 1) := by decide +kernel
theorem d_44_2 : decode m44.2.1 2 = .ok (.iconst 0, 1) := by decide +kernel
theorem d_44_3 : decode m44.2.1 3 = .ok (.invokevirtual 633, 3) := by decide +kernel
theorem d_44_6 : decode m44.2.1 6 = .ok (.ireturn, 1) := by decide +kernel
theorem d_45_0 : decode m45.2.1 0 = .ok (.aload_n 0, 1) := by decide +kernel
theorem d_45_1 : decode m45.2.1 1 = .ok (.invokevirtual 492, 3) := by decide +kernel
theorem d_45_4 : decode m45.2.1 4 = .ok (.ifCond .eq 19, 3) := by decide +kernel
theorem d_45_7 : decode m45.2.1 7 = .ok (.aload_n 0, 1) := by decide +kernel
theorem d_45_8 : decode m45.2.1 8 = .ok (.getfield 9, 3) := by decide +kernel
theorem d_45_11 : decode m45.2.1 11 = .ok (.iload_n 1, 1) := by decide +kernel
theorem d_45_12 : decode m45.2.1 12 = .ok (.iload_n 2, 1) := by decide +kernel
theorem d_45_13 : decode m45.2.1 13 = .ok (.aload_n 0, 1) := by decide +kernel
theorem d_45_14 : decode m45.2.1 14 = .ok (.invokevirtual 505, 3) := by decide +kernel
theorem d_45_17 : decode m45.2.1 17 = .ok (.invokestatic 637, 3) := by decide +kernel
theorem d_45_20 : decode m45.2.1 20 = .ok (.goto 16, 3) := by decide +kernel
theorem d_45_23 : decode m45.2.1 23 = .ok (.aload_n 0, 1) := by decide +kernel
theorem d_45_24 : decode m45.2.1 24 = .ok (.getfield 9, 3) := by decide +kernel
theorem d_45_27 : decode m45.2.1 27 = .ok (.iload_n 1, 1) := by decide +kernel
theorem d_45_28 : decode m45.2.1 28 = .ok (.iload_n 2, 1) := by decide +kernel
theorem d_45_29 : decode m45.2.1 29 = .ok (.aload_n 0, 1) := by decide +kernel
theorem d_45_30 : decode m45.2.1 30 = .ok (.invokevirtual 505, 3) := by decide +kernel
theorem d_45_33 : decode m45.2.1 33 = .ok (.invokestatic 640, 3) := by decide +kernel
theorem d_45_36 : decode m45.2.1 36 = .ok (.ireturn, 1) := by decide +kernel
theorem d_46_0 : decode m46.2.1 0 = .ok (.iload_n 1, 1) := by decide +kernel
theorem d_46_1 : decode m46.2.1 1 = .ok (.invokestatic 88, 3) := by decide +kernel
theorem d_46_4 : decode m46.2.1 4 = .ok (.ifCond .ne 5, 3) := by decide +kernel
theorem d_46_7 : decode m46.2.1 7 = .ok (.iconst (-1), 1) := by decide +kernel
theorem d_46_8 : decode m46.2.1 8 = .ok (.ireturn, 1) := by decide +kernel
theorem d_46_9 : decode m46.2.1 9 = .ok (.iload_n 2, 1) := by decide +kernel
theorem d_46_10 : decode m46.2.1 10 = .ok (.iconst 0, 1) := by decide +kernel
theorem d_46_11 : decode m46.2.1 11 = .ok (.invokestatic 92, 3) := by decide +kernel
theorem d_46_14 : decode m46.2.1 14 = .ok (.istore_n 2, 1) := by decide +kernel
theorem d_46_15 : decode m46.2.1 15 = .ok (.iload_n 3, 1) := by decide +kernel
theorem d_46_16 : decode m46.2.1 16 = .ok (.aload_n 0, 1) := by decide +kernel
theorem d_46_17 : decode m46.2.1 17 = .ok (.arraylength, 1) := by decide +kernel
theorem d_46_18 : decode m46.2.1 18 = .ok (.invokestatic 38, 3) := by decide +kernel
theorem d_46_21 : decode m46.2.1 21 = .ok (.istore_n 3, 1) := by decide +kernel
theorem d_46_22 : decode m46.2.1 22 = .ok (.iload_n 2, 1) := by decide +kernel
theorem d_46_23 : decode m46.2.1 23 = .ok (.iload_n 3, 1) := by decide +kernel
theorem d_46_24 : decode m46.2.1 24 = .ok (.if_icmp .lt 5, 3) := by decide +kernel
theorem d_46_27 : decode m46.2.1 27 = .ok (.iconst (-1), 1) := by decide +kernel
theorem d_46_28 : decode m46.2.1 28 = .ok (.ireturn, 1) := by decide +kernel
theorem d_46_29 : decode m46.2.1 29 = .ok (.aload_n 0, 1) := by decide +kernel
theorem d_46_30 : decode m46.2.1 30 = .ok (.iload_n 1, 1) := by decide +kernel
theorem d_46_31 : decode m46.2.1 31 = .ok (.iload_n 2, 1) := by decide +kernel
theorem d_46_32 : decode m46.2.1 32 = .ok (.iload_n 3, 1) := by decide +kernel
theorem d_46_33 : decode m46.2.1 33 = .ok (.invokestatic 95, 3) := by decide +kernel
theorem d_46_36 : decode m46.2.1 36 = .ok (.ireturn, 1) := by decide +kernel
theorem d_47_0 : decode m47.2.1 0 = .ok (.iload_n 0, 1) := by decide +kernel
theorem d_47_1 : decode m47.2.1 1 = .ok (.ifCond .lt 14, 3) := by decide +kernel
theorem d_47_4 : decode m47.2.1 4 = .ok (.iload_n 0, 1) := by decide +kernel
theorem d_47_5 : decode m47.2.1 5 = .ok (.sipush 255, 3) := by decide +kernel
theorem d_47_8 : decode m47.2.1 8 = .ok (.if_icmp .gt 7, 3) := by decide +kernel
theorem d_47_11 : decode m47.2.1 11 = .ok (.iconst 1, 1) := by decide +kernel
theorem d_47_12 : decode m47.2.1 12 = .ok (.goto 4, 3) := by decide +kernel
theorem d_47_15 : decode m47.2.1 15 = .ok (.iconst 0, 1) := by decide +kernel
theorem d_47_16 : decode m47.2.1 16 = .ok (.ireturn, 1) := by decide +kernel
theorem d_48_0 : decode m48.2.1 0 = .ok (.iload_n 1, 1) := by decide +kernel
theorem d_48_1 : decode m48.2.1 1 = .ok (.i2b, 1) := by decide +kernel
theorem d_48_2 : decode m48.2.1 2 = .ok (.istore 4, 2) := by decide +kernel
theorem d_48_4 : decode m48.2.1 4 = .ok (.iload_n 2, 1) := by decide +kernel
theorem d_48_5 : decode m48.2.1 5 = .ok (.istore 5, 2) := by decide +kernel
theorem d_48_7 : decode m48.2.1 7 = .ok (.iload 5, 2) := by decide +kernel
theorem d_48_9 : decode m48.2.1 9 = .ok (.iload_n 3, 1) := by decide +kernel
theorem d_48_10 : decode m48.2.1 10 = .ok (.if_icmp .ge 21, 3) := by decide +kernel
theorem d_48_13 : decode m48.2.1 13 = .ok (.aload_n 0, 1) := by decide +kernel
theorem d_48_14 : decode m48.2.1 14 = .ok (.iload 5, 2) := by decide +kernel
theorem d_48_16 : decode m48.2.1 16 = .ok (.baload, 1) := by decide +kernel
theorem d_48_17 : decode m48.2.1 17 = .ok (.iload 4, 2) := by decide +kernel
theorem d_48_19 : decode m48.2.1 19 = .ok (.if_icmp .ne 6, 3) := by decide +kernel
theorem d_48_22 : decode m48.2.1 22 = .ok (.iload 5, 2) := by decide +kernel
theorem d_48_24 : decode m48.2.1 24 = .ok (.ireturn, 1) := by decide +kernel
theorem d_48_25 : decode m48.2.1 25 = .ok (.iinc 5 1, 3) := by decide +kernel
theorem d_48_28 : decode m48.2.1 28 = .ok (.goto (-21), 3) := by decide +kernel
theorem d_48_31 : decode m48.2.1 31 = .ok (.iconst (-1), 1) := by decide +kernel
theorem d_48_32 : decode m48.2.1 32 = .ok (.ireturn, 1) := by decide +kernel
theorem d_59_0 : decode m59.2.1 0 = .ok (.aload_n 0, 1) := by decide +kernel
theorem d_59_1 : decode m59.2.1 1 = .ok (.getfield 27, 3) := by decide +kernel
theorem d_59_4 : decode m59.2.1 4 = .ok (.getfield 44, 3) := by decide +kernel
theorem d_59_7 : decode m59.2.1 7 = .ok (.iconst 1, 1) := by decide +kernel
theorem d_59_8 : decode m59.2.1 8 = .ok (.if_icmp .ne 13, 3) := by decide +kernel
theorem d_59_11 : decode m59.2.1 11 = .ok (.aload_n 0, 1) := by decide +kernel
theorem d_59_12 : decode m59.2.1 12 = .ok (.getfield 27, 3) := by decide +kernel
theorem d_59_15 : decode m59.2.1 15 = .ok (.getfield 50, 3) := by decide +kernel
theorem d_59_18 : decode m59.2.1 18 = .ok (.goto 4, 3) := by decide +kernel
theorem d_59_21 : decode m59.2.1 21 = .ok (.iconst (-1), 1) := by decide +kernel
theorem d_59_22 : decode m59.2.1 22 = .ok (.istore_n 1, 1) := by decide +kernel
theorem d_59_23 : decode m59.2.1 23 = .ok (.aload_n 0, 1) := by decide +kernel
theorem d_59_24 : decode m59.2.1 24 = .ok (.iload_n 1, 1) := by decide +kernel
theorem d_59_25 : decode m59.2.1 25 = .ok (.invokevirtual 53, 3) := by decide +kernel
theorem d_59_28 : decode m59.2.1 28 = .ok (.ifCond .ne 9, 3) := by decide +kernel
theorem d_59_31 : decode m59.2.1 31 = .ok (.aload_n 0, 1) := by decide +kernel
theorem d_59_32 : decode m59.2.1 32 = .ok (.iconst 2, 1) := by decide +kernel
theorem d_59_33 : decode m59.2.1 33 = .ok (.invokevirtual 57, 3) := by decide +kernel
theorem d_59_36 : decode m59.2.1 36 = .ok (.return_, 1) := by decide +kernel
theorem d_59_37 : decode m59.2.1 37 = .ok (.aload_n 0, 1) := by decide +kernel
theorem d_59_38 : decode m59.2.1 38 = .ok (.dup, 1) := by decide +kernel
theorem d_59_39 : decode m59.2.1 39 = .ok (.getfield 34, 3) := by decide +kernel
theorem d_59_42 : decode m59.2.1 42 = .ok (.iconst 1, 1) := by decide +kernel
theorem d_59_43 : decode m59.2.1 43 = .ok (.iload_n 1, 1) := by decide +kernel
theorem d_59_44 : decode m59.2.1 44 = .ok (.ishl, 1) := by decide +kernel
theorem d_59_45 : decode m59.2.1 45 = .ok (.ior, 1) := by decide +kernel
theorem d_59_46 : decode m59.2.1 46 = .ok (.putfield 34, 3) := by decide +kernel
theorem d_59_49 : decode m59.2.1 49 = .ok (.aload_n 0, 1) := by decide +kernel
theorem d_59_50 : decode m59.2.1 50 = .ok (.getfield 27, 3) := by decide +kernel
theorem d_59_53 : decode m59.2.1 53 = .ok (.invokevirtual 60, 3) := by decide +kernel
theorem d_59_56 : decode m59.2.1 56 = .ok (.iload_n 1, 1) := by decide +kernel
theorem d_59_57 : decode m59.2.1 57 = .ok (.tableswitch 132 0 6 #[43, 60, 67, 74, 82, 99, 115], 43) := by decide +kernel
theorem d_59_100 : decode m59.2.1 100 = .ok (.aload_n 0, 1) := by decide +kernel
theorem d_59_101 : decode m59.2.1 101 = .ok (.getfield 18, 3) := by decide +kernel
theorem d_59_104 : decode m59.2.1 104 = .ok (.aload_n 0, 1) := by decide +kernel
theorem d_59_105 : decode m59.2.1 105 = .ok (.iconst 1, 1) := by decide +kernel
theorem d_59_106 : decode m59.2.1 106 = .ok (.bipush 12, 2) := by decide +kernel
theorem d_59_108 : decode m59.2.1 108 = .ok (.invokevirtual 63, 3) := by decide +kernel
theorem d_59_111 : decode m59.2.1 111 = .ok (.putfield 67, 3) := by decide +kernel
theorem d_59_114 : decode m59.2.1 114 = .ok (.goto 89, 3) := by decide +kernel
theorem d_59_117 : decode m59.2.1 117 = .ok (.aload_n 0, 1) := by decide +kernel
theorem d_59_118 : decode m59.2.1 118 = .ok (.invokevirtual 70, 3) := by decide +kernel
theorem d_59_121 : decode m59.2.1 121 = .ok (.goto 82, 3) := by decide +kernel
theorem d_59_124 : decode m59.2.1 124 = .ok (.aload_n 0, 1) := by decide +kernel
theorem d_59_125 : decode m59.2.1 125 = .ok (.invokevirtual 73, 3) := by decide +kernel
theorem d_59_128 : decode m59.2.1 128 = .ok (.goto 75, 3) := by decide +kernel
theorem d_59_131 : decode m59.2.1 131 = .ok (.aload_n 0, 1) := by decide +kernel
theorem d_59_132 : decode m59.2.1 132 = .ok (.iconst 0, 1) := by decide +kernel
theorem d_59_133 : decode m59.2.1 133 = .ok (.invokevirtual 76, 3) := by decide +kernel
theorem d_59_136 : decode m59.2.1 136 = .ok (.goto 67, 3) := by decide +kernel
theorem d_59_139 : decode m59.2.1 139 = .ok (.aload_n 0, 1) := by decide +kernel
theorem d_59_140 : decode m59.2.1 140 = .ok (.getfield 18, 3) := by decide +kernel
theorem d_59_143 : decode m59.2.1 143 = .ok (.aload_n 0, 1) := by decide +kernel
theorem d_59_144 : decode m59.2.1 144 = .ok (.iconst 0, 1) := by decide +kernel
theorem d_59_145 : decode m59.2.1 145 = .ok (.bipush 87, 2) := by decide +kernel
theorem d_59_147 : decode m59.2.1 147 = .ok (.invokevirtual 63, 3) := by decide +kernel
theorem d_59_150 : decode m59.2.1 150 = .ok (.putfield 79, 3) := by decide +kernel
theorem d_59_153 : decode m59.2.1 153 = .ok (.goto 50, 3) := by decide +kernel
theorem d_59_156 : decode m59.2.1 156 = .ok (.aload_n 0, 1) := by decide +kernel
theorem d_59_157 : decode m59.2.1 157 = .ok (.getfield 18, 3) := by decide +kernel
theorem d_59_160 : decode m59.2.1 160 = .ok (.aload_n 0, 1) := by decide +kernel
theorem d_59_161 : decode m59.2.1 161 = .ok (.iconst 1, 1) := by decide +kernel
theorem d_59_162 : decode m59.2.1 162 = .ok (.iconst 5, 1) := by decide +kernel
theorem d_59_163 : decode m59.2.1 163 = .ok (.invokevirtual 63, 3) := by decide +kernel
theorem d_59_166 : decode m59.2.1 166 = .ok (.putfield 82, 3) := by decide +kernel
theorem d_59_169 : decode m59.2.1 169 = .ok (.goto 34, 3) := by decide +kernel
theorem d_59_172 : decode m59.2.1 172 = .ok (.aload_n 0, 1) := by decide +kernel
theorem d_59_173 : decode m59.2.1 173 = .ok (.getfield 18, 3) := by decide +kernel
theorem d_59_176 : decode m59.2.1 176 = .ok (.aload_n 0, 1) := by decide +kernel
theorem d_59_177 : decode m59.2.1 177 = .ok (.iconst 0, 1) := by decide +kernel
theorem d_59_178 : decode m59.2.1 178 = .ok (.bipush 87, 2) := by decide +kernel
theorem d_59_180 : decode m59.2.1 180 = .ok (.invokevirtual 63, 3) := by decide +kernel
theorem d_59_183 : decode m59.2.1 183 = .ok (.putfield 85, 3) := by decide +kernel
theorem d_59_186 : decode m59.2.1 186 = .ok (.goto 17, 3) := by decide +kernel
theorem d_59_189 : decode m59.2.1 189 = .ok (.aload_n 0, 1) := by decide +kernel
theorem d_59_190 : decode m59.2.1 190 = .ok (.getfield 18, 3) := by decide +kernel
theorem d_59_193 : decode m59.2.1 193 = .ok (.aload_n 0, 1) := by decide +kernel
theorem d_59_194 : decode m59.2.1 194 = .ok (.iconst 0, 1) := by decide +kernel
theorem d_59_195 : decode m59.2.1 195 = .ok (.bipush 9, 2) := by decide +kernel
theorem d_59_197 : decode m59.2.1 197 = .ok (.invokevirtual 63, 3) := by decide +kernel
theorem d_59_200 : decode m59.2.1 200 = .ok (.putfield 88, 3) := by decide +kernel
theorem d_59_203 : decode m59.2.1 203 = .ok (.aload_n 0, 1) := by decide +kernel
theorem d_59_204 : decode m59.2.1 204 = .ok (.bipush 59, 2) := by decide +kernel
theorem d_59_206 : decode m59.2.1 206 = .ok (.invokevirtual 91, 3) := by decide +kernel
theorem d_59_209 : decode m59.2.1 209 = .ok (.return_, 1) := by decide +kernel
theorem d_60_0 : decode m60.2.1 0 = .ok (.iload_n 1, 1) := by decide +kernel
theorem d_60_1 : decode m60.2.1 1 = .ok (.tableswitch 75 0 2 #[27, 40, 57], 27) := by decide +kernel
theorem d_60_28 : decode m60.2.1 28 = .ok (.aload_n 0, 1) := by decide +kernel
theorem d_60_29 : decode m60.2.1 29 = .ok (.getfield 34, 3) := by decide +kernel
theorem d_60_32 : decode m60.2.1 32 = .ok (.ifCond .ne 7, 3) := by decide +kernel
theorem d_60_35 : decode m60.2.1 35 = .ok (.iconst 1, 1) := by decide +kernel
theorem d_60_36 : decode m60.2.1 36 = .ok (.goto 4, 3) := by decide +kernel
theorem d_60_39 : decode m60.2.1 39 = .ok (.iconst 0, 1) := by decide +kernel
theorem d_60_40 : decode m60.2.1 40 = .ok (.ireturn, 1) := by decide +kernel
theorem d_60_41 : decode m60.2.1 41 = .ok (.aload_n 0, 1) := by decide +kernel
theorem d_60_42 : decode m60.2.1 42 = .ok (.getfield 18, 3) := by decide +kernel
theorem d_60_45 : decode m60.2.1 45 = .ok (.getfield 95, 3) := by decide +kernel
theorem d_60_48 : decode m60.2.1 48 = .ok (.iconst 4, 1) := by decide +kernel
theorem d_60_49 : decode m60.2.1 49 = .ok (.if_icmp .ge 7, 3) := by decide +kernel
theorem d_60_52 : decode m60.2.1 52 = .ok (.iconst 1, 1) := by decide +kernel
theorem d_60_53 : decode m60.2.1 53 = .ok (.goto 4, 3) := by decide +kernel
theorem d_60_56 : decode m60.2.1 56 = .ok (.iconst 0, 1) := by decide +kernel
theorem d_60_57 : decode m60.2.1 57 = .ok (.ireturn, 1) := by decide +kernel
theorem d_60_58 : decode m60.2.1 58 = .ok (.aload_n 0, 1) := by decide +kernel
theorem d_60_59 : decode m60.2.1 59 = .ok (.getfield 18, 3) := by decide +kernel
theorem d_60_62 : decode m60.2.1 62 = .ok (.getfield 98, 3) := by decide +kernel
theorem d_60_65 : decode m60.2.1 65 = .ok (.bipush 10, 2) := by decide +kernel
theorem d_60_67 : decode m60.2.1 67 = .ok (.if_icmp .ge 7, 3) := by decide +kernel
theorem d_60_70 : decode m60.2.1 70 = .ok (.iconst 1, 1) := by decide +kernel
theorem d_60_71 : decode m60.2.1 71 = .ok (.goto 4, 3) := by decide +kernel
theorem d_60_74 : decode m60.2.1 74 = .ok (.iconst 0, 1) := by decide +kernel
theorem d_60_75 : decode m60.2.1 75 = .ok (.ireturn, 1) := by decide +kernel
theorem d_60_76 : decode m60.2.1 76 = .ok (.iload_n 1, 1) := by decide +kernel
theorem d_60_77 : decode m60.2.1 77 = .ok (.iconst 3, 1) := by decide +kernel
theorem d_60_78 : decode m60.2.1 78 = .ok (.if_icmp .lt 24, 3) := by decide +kernel
theorem d_60_81 : decode m60.2.1 81 = .ok (.iload_n 1, 1) := by decide +kernel
theorem d_60_82 : decode m60.2.1 82 = .ok (.bipush 7, 2) := by decide +kernel
theorem d_60_84 : decode m60.2.1 84 = .ok (.if_icmp .gt 18, 3) := by decide +kernel
theorem d_60_87 : decode m60.2.1 87 = .ok (.aload_n 0, 1) := by decide +kernel
theorem d_60_88 : decode m60.2.1 88 = .ok (.getfield 34, 3) := by decide +kernel
theorem d_60_91 : decode m60.2.1 91 = .ok (.iload_n 1, 1) := by decide +kernel
theorem d_60_92 : decode m60.2.1 92 = .ok (.ishr, 1) := by decide +kernel
theorem d_60_93 : decode m60.2.1 93 = .ok (.iconst 1, 1) := by decide +kernel
theorem d_60_94 : decode m60.2.1 94 = .ok (.iand, 1) := by decide +kernel
theorem d_60_95 : decode m60.2.1 95 = .ok (.ifCond .ne 7, 3) := by decide +kernel
theorem d_60_98 : decode m60.2.1 98 = .ok (.iconst 1, 1) := by decide +kernel
theorem d_60_99 : decode m60.2.1 99 = .ok (.goto 4, 3) := by decide +kernel
theorem d_60_102 : decode m60.2.1 102 = .ok (.iconst 0, 1) := by decide +kernel
theorem d_60_103 : decode m60.2.1 103 = .ok (.ireturn, 1) := by decide +kernel
theorem d_61_0 : decode m61.2.1 0 = .ok (.aload_n 0, 1) := by decide +kernel
theorem d_61_1 : decode m61.2.1 1 = .ok (.getfield 31, 3) := by decide +kernel
theorem d_61_4 : decode m61.2.1 4 = .ok (.ifCond .ne 34, 3) := by decide +kernel
theorem d_61_7 : decode m61.2.1 7 = .ok (.aload_n 0, 1) := by decide +kernel
theorem d_61_8 : decode m61.2.1 8 = .ok (.aload_n 0, 1) := by decide +kernel
theorem d_61_9 : decode m61.2.1 9 = .ok (.getfield 27, 3) := by decide +kernel
theorem d_61_12 : decode m61.2.1 12 = .ok (.getfield 44, 3) := by decide +kernel
theorem d_61_15 : decode m61.2.1 15 = .ok (.iconst 5, 1) := by decide +kernel
theorem d_61_16 : decode m61.2.1 16 = .ok (.if_icmp .ne 7, 3) := by decide +kernel
theorem d_61_19 : decode m61.2.1 19 = .ok (.iconst 1, 1) := by decide +kernel
theorem d_61_20 : decode m61.2.1 20 = .ok (.goto 4, 3) := by decide +kernel
theorem d_61_23 : decode m61.2.1 23 = .ok (.iload_n 1, 1) := by decide +kernel
theorem d_61_24 : decode m61.2.1 24 = .ok (.putfield 31, 3) := by decide +kernel
theorem d_61_27 : decode m61.2.1 27 = .ok (.aload_n 0, 1) := by decide +kernel
theorem d_61_28 : decode m61.2.1 28 = .ok (.aload_n 0, 1) := by decide +kernel
theorem d_61_29 : decode m61.2.1 29 = .ok (.getfield 27, 3) := by decide +kernel
theorem d_61_32 : decode m61.2.1 32 = .ok (.getfield 141, 3) := by decide +kernel
theorem d_61_35 : decode m61.2.1 35 = .ok (.putfield 9, 3) := by decide +kernel
theorem d_61_38 : decode m61.2.1 38 = .ok (.return_, 1) := by decide +kernel
theorem d_62_0 : decode m62.2.1 0 = .ok (.aload_n 0, 1) := by decide +kernel
theorem d_62_1 : decode m62.2.1 1 = .ok (.getfield 31, 3) := by decide +kernel
theorem d_62_4 : decode m62.2.1 4 = .ok (.ifCond .ne 19, 3) := by decide +kernel
theorem d_62_7 : decode m62.2.1 7 = .ok (.aload_n 0, 1) := by decide +kernel
theorem d_62_8 : decode m62.2.1 8 = .ok (.getfield 27, 3) := by decide +kernel
theorem d_62_11 : decode m62.2.1 11 = .ok (.getfield 44, 3) := by decide +kernel
theorem d_62_14 : decode m62.2.1 14 = .ok (.iconst 3, 1) := by decide +kernel
theorem d_62_15 : decode m62.2.1 15 = .ok (.if_icmp .eq 8, 3) := by decide +kernel
theorem d_62_18 : decode m62.2.1 18 = .ok (.aload_n 0, 1) := by decide +kernel
theorem d_62_19 : decode m62.2.1 19 = .ok (.iconst 2, 1) := by decide +kernel
theorem d_62_20 : decode m62.2.1 20 = .ok (.invokevirtual 57, 3) := by decide +kernel
theorem d_62_23 : decode m62.2.1 23 = .ok (.aload_n 0, 1) := by decide +kernel
theorem d_62_24 : decode m62.2.1 24 = .ok (.getfield 27, 3) := by decide +kernel
theorem d_62_27 : decode m62.2.1 27 = .ok (.getfield 50, 3) := by decide +kernel
theorem d_62_30 : decode m62.2.1 30 = .ok (.istore_n 3, 1) := by decide +kernel
theorem d_62_31 : decode m62.2.1 31 = .ok (.aload_n 0, 1) := by decide +kernel
theorem d_62_32 : decode m62.2.1 32 = .ok (.getfield 31, 3) := by decide +kernel
theorem d_62_35 : decode m62.2.1 35 = .ok (.ifCond .ne 18, 3) := by decide +kernel
theorem d_62_38 : decode m62.2.1 38 = .ok (.iload_n 3, 1) := by decide +kernel
theorem d_62_39 : decode m62.2.1 39 = .ok (.iload_n 1, 1) := by decide +kernel
theorem d_62_40 : decode m62.2.1 40 = .ok (.if_icmp .lt 8, 3) := by decide +kernel
theorem d_62_43 : decode m62.2.1 43 = .ok (.iload_n 3, 1) := by decide +kernel
theorem d_62_44 : decode m62.2.1 44 = .ok (.iload_n 2, 1) := by decide +kernel
theorem d_62_45 : decode m62.2.1 45 = .ok (.if_icmp .le 8, 3) := by decide +kernel
theorem d_62_48 : decode m62.2.1 48 = .ok (.aload_n 0, 1) := by decide +kernel
theorem d_62_49 : decode m62.2.1 49 = .ok (.iconst 4, 1) := by decide +kernel
theorem d_62_50 : decode m62.2.1 50 = .ok (.invokevirtual 57, 3) := by decide +kernel
theorem d_62_53 : decode m62.2.1 53 = .ok (.aload_n 0, 1) := by decide +kernel
theorem d_62_54 : decode m62.2.1 54 = .ok (.getfield 31, 3) := by decide +kernel
theorem d_62_57 : decode m62.2.1 57 = .ok (.ifCond .ne 10, 3) := by decide +kernel
theorem d_62_60 : decode m62.2.1 60 = .ok (.aload_n 0, 1) := by decide +kernel
theorem d_62_61 : decode m62.2.1 61 = .ok (.getfield 27, 3) := by decide +kernel
theorem d_62_64 : decode m62.2.1 64 = .ok (.invokevirtual 60, 3) := by decide +kernel
theorem d_62_67 : decode m62.2.1 67 = .ok (.iload_n 3, 1) := by decide +kernel
theorem d_62_68 : decode m62.2.1 68 = .ok (.ireturn, 1) := by decide +kernel
theorem d_63_0 : decode m63.2.1 0 = .ok (.aload_n 0, 1) := by decide +kernel
theorem d_63_1 : decode m63.2.1 1 = .ok (.aload_n 0, 1) := by decide +kernel
theorem d_63_2 : decode m63.2.1 2 = .ok (.getfield 27, 3) := by decide +kernel
theorem d_63_5 : decode m63.2.1 5 = .ok (.getfield 44, 3) := by decide +kernel
theorem d_63_8 : decode m63.2.1 8 = .ok (.iconst 2, 1) := by decide +kernel
theorem d_63_9 : decode m63.2.1 9 = .ok (.if_icmp .ne 25, 3) := by decide +kernel
theorem d_63_12 : decode m63.2.1 12 = .ok (.aload_n 0, 1) := by decide +kernel
theorem d_63_13 : decode m63.2.1 13 = .ok (.getfield 18, 3) := by decide +kernel
theorem d_63_16 : decode m63.2.1 16 = .ok (.aload_n 0, 1) := by decide +kernel
theorem d_63_17 : decode m63.2.1 17 = .ok (.getfield 27, 3) := by decide +kernel
theorem d_63_20 : decode m63.2.1 20 = .ok (.getfield 103, 3) := by decide +kernel
theorem d_63_23 : decode m63.2.1 23 = .ok (.invokevirtual 107, 3) := by decide +kernel
theorem d_63_26 : decode m63.2.1 26 = .ok (.iconst (-1), 1) := by decide +kernel
theorem d_63_27 : decode m63.2.1 27 = .ok (.if_icmp .eq 7, 3) := by decide +kernel
theorem d_63_30 : decode m63.2.1 30 = .ok (.iconst 1, 1) := by decide +kernel
theorem d_63_31 : decode m63.2.1 31 = .ok (.goto 4, 3) := by decide +kernel
theorem d_63_34 : decode m63.2.1 34 = .ok (.iconst 0, 1) := by decide +kernel
theorem d_63_35 : decode m63.2.1 35 = .ok (.invokevirtual 111, 3) := by decide +kernel
theorem d_63_38 : decode m63.2.1 38 = .ok (.lstore_n 1, 1) := by decide +kernel
theorem d_63_39 : decode m63.2.1 39 = .ok (.iconst 0, 1) := by decide +kernel
theorem d_63_40 : decode m63.2.1 40 = .ok (.istore_n 3, 1) := by decide +kernel
theorem d_63_41 : decode m63.2.1 41 = .ok (.aload_n 0, 1) := by decide +kernel
theorem d_63_42 : decode m63.2.1 42 = .ok (.bipush 8, 2) := by decide +kernel
theorem d_63_44 : decode m63.2.1 44 = .ok (.invokevirtual 115, 3) := by decide +kernel
theorem d_63_47 : decode m63.2.1 47 = .ok (.ifCond .eq 15, 3) := by decide +kernel
theorem d_63_50 : decode m63.2.1 50 = .ok (.iconst 2, 1) := by decide +kernel
theorem d_63_51 : decode m63.2.1 51 = .ok (.istore_n 3, 1) := by decide +kernel
theorem d_63_52 : decode m63.2.1 52 = .ok (.aload_n 0, 1) := by decide +kernel
theorem d_63_53 : decode m63.2.1 53 = .ok (.getfield 27, 3) := by decide +kernel
theorem d_63_56 : decode m63.2.1 56 = .ok (.invokevirtual 60, 3) := by decide +kernel
theorem d_63_59 : decode m63.2.1 59 = .ok (.goto 21, 3) := by decide +kernel
theorem d_63_62 : decode m63.2.1 62 = .ok (.aload_n 0, 1) := by decide +kernel
theorem d_63_63 : decode m63.2.1 63 = .ok (.bipush 9, 2) := by decide +kernel
theorem d_63_65 : decode m63.2.1 65 = .ok (.invokevirtual 115, 3) := by decide +kernel
theorem d_63_68 : decode m63.2.1 68 = .ok (.ifCond .eq 12, 3) := by decide +kernel
theorem d_63_71 : decode m63.2.1 71 = .ok (.iconst 1, 1) := by decide +kernel
theorem d_63_72 : decode m63.2.1 72 = .ok (.istore_n 3, 1) := by decide +kernel
theorem d_63_73 : decode m63.2.1 73 = .ok (.aload_n 0, 1) := by decide +kernel
theorem d_63_74 : decode m63.2.1 74 = .ok (.getfield 27, 3) := by decide +kernel
theorem d_63_77 : decode m63.2.1 77 = .ok (.invokevirtual 60, 3) := by decide +kernel
theorem d_63_80 : decode m63.2.1 80 = .ok (.aload_n 0, 1) := by decide +kernel
theorem d_63_81 : decode m63.2.1 81 = .ok (.getfield 31, 3) := by decide +kernel
theorem d_63_84 : decode m63.2.1 84 = .ok (.ifCond .ne 12, 3) := by decide +kernel
theorem d_63_87 : decode m63.2.1 87 = .ok (.aload_n 0, 1) := by decide +kernel
theorem d_63_88 : decode m63.2.1 88 = .ok (.getfield 18, 3) := by decide +kernel
theorem d_63_91 : decode m63.2.1 91 = .ok (.lload_n 1, 1) := by decide +kernel
theorem d_63_92 : decode m63.2.1 92 = .ok (.iload_n 3, 1) := by decide +kernel
theorem d_63_93 : decode m63.2.1 93 = .ok (.invokevirtual 118, 3) := by decide +kernel
theorem d_63_96 : decode m63.2.1 96 = .ok (.return_, 1) := by decide +kernel
theorem d_64_0 : decode m64.2.1 0 = .ok (.iconst 0, 1) := by decide +kernel
theorem d_64_1 : decode m64.2.1 1 = .ok (.istore_n 3, 1) := by decide +kernel
theorem d_64_2 : decode m64.2.1 2 = .ok (.iload_n 3, 1) := by decide +kernel
theorem d_64_3 : decode m64.2.1 3 = .ok (.aload_n 0, 1) := by decide +kernel
theorem d_64_4 : decode m64.2.1 4 = .ok (.getfield 63, 3) := by decide +kernel
theorem d_64_7 : decode m64.2.1 7 = .ok (.if_icmp .ge 22, 3) := by decide +kernel
theorem d_64_10 : decode m64.2.1 10 = .ok (.aload_n 0, 1) := by decide +kernel
theorem d_64_11 : decode m64.2.1 11 = .ok (.getfield 9, 3) := by decide +kernel
theorem d_64_14 : decode m64.2.1 14 = .ok (.iload_n 3, 1) := by decide +kernel
theorem d_64_15 : decode m64.2.1 15 = .ok (.laload, 1) := by decide +kernel
theorem d_64_16 : decode m64.2.1 16 = .ok (.lload_n 1, 1) := by decide +kernel
theorem d_64_17 : decode m64.2.1 17 = .ok (.lcmp, 1) := by decide +kernel
theorem d_64_18 : decode m64.2.1 18 = .ok (.ifCond .ne 5, 3) := by decide +kernel
theorem d_64_21 : decode m64.2.1 21 = .ok (.iload_n 3, 1) := by decide +kernel
theorem d_64_22 : decode m64.2.1 22 = .ok (.ireturn, 1) := by decide +kernel
theorem d_64_23 : decode m64.2.1 23 = .ok (.iinc 3 1, 3) := by decide +kernel
theorem d_64_26 : decode m64.2.1 26 = .ok (.goto (-24), 3) := by decide +kernel
theorem d_64_29 : decode m64.2.1 29 = .ok (.iconst (-1), 1) := by decide +kernel
theorem d_64_30 : decode m64.2.1 30 = .ok (.ireturn, 1) := by decide +kernel
theorem d_65_0 : decode m65.2.1 0 = .ok (.aload_n 0, 1) := by decide +kernel
theorem d_65_1 : decode m65.2.1 1 = .ok (.getfield 31, 3) := by decide +kernel
theorem d_65_4 : decode m65.2.1 4 = .ok (.ifCond .ne 31, 3) := by decide +kernel
theorem d_65_7 : decode m65.2.1 7 = .ok (.aload_n 0, 1) := by decide +kernel
theorem d_65_8 : decode m65.2.1 8 = .ok (.getfield 27, 3) := by decide +kernel
theorem d_65_11 : decode m65.2.1 11 = .ok (.getfield 44, 3) := by decide +kernel
theorem d_65_14 : decode m65.2.1 14 = .ok (.iconst 2, 1) := by decide +kernel
theorem d_65_15 : decode m65.2.1 15 = .ok (.if_icmp .ne 7, 3) := by decide +kernel
theorem d_65_18 : decode m65.2.1 18 = .ok (.iload_n 1, 1) := by decide +kernel
theorem d_65_19 : decode m65.2.1 19 = .ok (.ifCond .eq 16, 3) := by decide +kernel
theorem d_65_22 : decode m65.2.1 22 = .ok (.aload_n 0, 1) := by decide +kernel
theorem d_65_23 : decode m65.2.1 23 = .ok (.iload_n 1, 1) := by decide +kernel
theorem d_65_24 : decode m65.2.1 24 = .ok (.ifCond .eq 7, 3) := by decide +kernel
theorem d_65_27 : decode m65.2.1 27 = .ok (.iconst 3, 1) := by decide +kernel
theorem d_65_28 : decode m65.2.1 28 = .ok (.goto 4, 3) := by decide +kernel
theorem d_65_31 : decode m65.2.1 31 = .ok (.iconst 2, 1) := by decide +kernel
theorem d_65_32 : decode m65.2.1 32 = .ok (.invokevirtual 57, 3) := by decide +kernel
theorem d_65_35 : decode m65.2.1 35 = .ok (.aload_n 0, 1) := by decide +kernel
theorem d_65_36 : decode m65.2.1 36 = .ok (.getfield 27, 3) := by decide +kernel
theorem d_65_39 : decode m65.2.1 39 = .ok (.getfield 103, 3) := by decide +kernel
theorem d_65_42 : decode m65.2.1 42 = .ok (.lstore_n 2, 1) := by decide +kernel
theorem d_65_43 : decode m65.2.1 43 = .ok (.aload_n 0, 1) := by decide +kernel
theorem d_65_44 : decode m65.2.1 44 = .ok (.getfield 31, 3) := by decide +kernel
theorem d_65_47 : decode m65.2.1 47 = .ok (.ifCond .ne 10, 3) := by decide +kernel
theorem d_65_50 : decode m65.2.1 50 = .ok (.aload_n 0, 1) := by decide +kernel
theorem d_65_51 : decode m65.2.1 51 = .ok (.getfield 27, 3) := by decide +kernel
theorem d_65_54 : decode m65.2.1 54 = .ok (.invokevirtual 60, 3) := by decide +kernel
theorem d_65_57 : decode m65.2.1 57 = .ok (.lload_n 2, 1) := by decide +kernel
theorem d_65_58 : decode m65.2.1 58 = .ok (.lreturn, 1) := by decide +kernel
theorem d_66_0 : decode m66.2.1 0 = .ok (.aload_n 0, 1) := by decide +kernel
theorem d_66_1 : decode m66.2.1 1 = .ok (.getfield 31, 3) := by decide +kernel
theorem d_66_4 : decode m66.2.1 4 = .ok (.ifCond .ne 29, 3) := by decide +kernel
theorem d_66_7 : decode m66.2.1 7 = .ok (.aload_n 0, 1) := by decide +kernel
theorem d_66_8 : decode m66.2.1 8 = .ok (.getfield 27, 3) := by decide +kernel
theorem d_66_11 : decode m66.2.1 11 = .ok (.getfield 44, 3) := by decide +kernel
theorem d_66_14 : decode m66.2.1 14 = .ok (.iconst 1, 1) := by decide +kernel
theorem d_66_15 : decode m66.2.1 15 = .ok (.if_icmp .ne 18, 3) := by decide +kernel
theorem d_66_18 : decode m66.2.1 18 = .ok (.aload_n 0, 1) := by decide +kernel
theorem d_66_19 : decode m66.2.1 19 = .ok (.getfield 27, 3) := by decide +kernel
theorem d_66_22 : decode m66.2.1 22 = .ok (.getfield 50, 3) := by decide +kernel
theorem d_66_25 : decode m66.2.1 25 = .ok (.iload_n 1, 1) := by decide +kernel
theorem d_66_26 : decode m66.2.1 26 = .ok (.if_icmp .ne 7, 3) := by decide +kernel
theorem d_66_29 : decode m66.2.1 29 = .ok (.iconst 1, 1) := by decide +kernel
theorem d_66_30 : decode m66.2.1 30 = .ok (.goto 4, 3) := by decide +kernel
theorem d_66_33 : decode m66.2.1 33 = .ok (.iconst 0, 1) := by decide +kernel
theorem d_66_34 : decode m66.2.1 34 = .ok (.ireturn, 1) := by decide +kernel
theorem d_67_0 : decode m67.2.1 0 = .ok (.aload_n 0, 1) := by decide +kernel
theorem d_67_1 : decode m67.2.1 1 = .ok (.getfield 63, 3) := by decide +kernel
theorem d_67_4 : decode m67.2.1 4 = .ok (.iconst 4, 1) := by decide +kernel
theorem d_67_5 : decode m67.2.1 5 = .ok (.if_icmp .ge 33, 3) := by decide +kernel
theorem d_67_8 : decode m67.2.1 8 = .ok (.aload_n 0, 1) := by decide +kernel
theorem d_67_9 : decode m67.2.1 9 = .ok (.getfield 9, 3) := by decide +kernel
theorem d_67_12 : decode m67.2.1 12 = .ok (.aload_n 0, 1) := by decide +kernel
theorem d_67_13 : decode m67.2.1 13 = .ok (.getfield 63, 3) := by decide +kernel
theorem d_67_16 : decode m67.2.1 16 = .ok (.lload_n 1, 1) := by decide +kernel
theorem d_67_17 : decode m67.2.1 17 = .ok (.lastore, 1) := by decide +kernel
theorem d_67_18 : decode m67.2.1 18 = .ok (.aload_n 0, 1) := by decide +kernel
theorem d_67_19 : decode m67.2.1 19 = .ok (.getfield 15, 3) := by decide +kernel
theorem d_67_22 : decode m67.2.1 22 = .ok (.aload_n 0, 1) := by decide +kernel
theorem d_67_23 : decode m67.2.1 23 = .ok (.getfield 63, 3) := by decide +kernel
theorem d_67_26 : decode m67.2.1 26 = .ok (.iload_n 3, 1) := by decide +kernel
theorem d_67_27 : decode m67.2.1 27 = .ok (.iastore, 1) := by decide +kernel
theorem d_67_28 : decode m67.2.1 28 = .ok (.aload_n 0, 1) := by decide +kernel
theorem d_67_29 : decode m67.2.1 29 = .ok (.dup, 1) := by decide +kernel
theorem d_67_30 : decode m67.2.1 30 = .ok (.getfield 63, 3) := by decide +kernel
theorem d_67_33 : decode m67.2.1 33 = .ok (.iconst 1, 1) := by decide +kernel
theorem d_67_34 : decode m67.2.1 34 = .ok (.iadd, 1) := by decide +kernel
theorem d_67_35 : decode m67.2.1 35 = .ok (.putfield 63, 3) := by decide +kernel
theorem d_67_38 : decode m67.2.1 38 = .ok (.return_, 1) := by decide +kernel
theorem d_68_0 : decode m68.2.1 0 = .ok (.aload_n 0, 1) := by decide +kernel
theorem d_68_1 : decode m68.2.1 1 = .ok (.aload_n 0, 1) := by decide +kernel
theorem d_68_2 : decode m68.2.1 2 = .ok (.getfield 27, 3) := by decide +kernel
theorem d_68_5 : decode m68.2.1 5 = .ok (.getfield 44, 3) := by decide +kernel
theorem d_68_8 : decode m68.2.1 8 = .ok (.iconst 2, 1) := by decide +kernel
theorem d_68_9 : decode m68.2.1 9 = .ok (.if_icmp .ne 24, 3) := by decide +kernel
theorem d_68_12 : decode m68.2.1 12 = .ok (.aload_n 0, 1) := by decide +kernel
theorem d_68_13 : decode m68.2.1 13 = .ok (.getfield 18, 3) := by decide +kernel
theorem d_68_16 : decode m68.2.1 16 = .ok (.aload_n 0, 1) := by decide +kernel
theorem d_68_17 : decode m68.2.1 17 = .ok (.getfield 27, 3) := by decide +kernel
theorem d_68_20 : decode m68.2.1 20 = .ok (.getfield 103, 3) := by decide +kernel
theorem d_68_23 : decode m68.2.1 23 = .ok (.invokevirtual 122, 3) := by decide +kernel
theorem d_68_26 : decode m68.2.1 26 = .ok (.ifCond .eq 7, 3) := by decide +kernel
theorem d_68_29 : decode m68.2.1 29 = .ok (.iconst 1, 1) := by decide +kernel
theorem d_68_30 : decode m68.2.1 30 = .ok (.goto 4, 3) := by decide +kernel
theorem d_68_33 : decode m68.2.1 33 = .ok (.iconst 0, 1) := by decide +kernel
theorem d_68_34 : decode m68.2.1 34 = .ok (.invokevirtual 111, 3) := by decide +kernel
theorem d_68_37 : decode m68.2.1 37 = .ok (.lstore_n 1, 1) := by decide +kernel
theorem d_68_38 : decode m68.2.1 38 = .ok (.aload_n 0, 1) := by decide +kernel
theorem d_68_39 : decode m68.2.1 39 = .ok (.bipush 10, 2) := by decide +kernel
theorem d_68_41 : decode m68.2.1 41 = .ok (.invokevirtual 126, 3) := by decide +kernel
theorem d_68_44 : decode m68.2.1 44 = .ok (.aload_n 0, 1) := by decide +kernel
theorem d_68_45 : decode m68.2.1 45 = .ok (.invokevirtual 129, 3) := by decide +kernel
theorem d_68_48 : decode m68.2.1 48 = .ok (.istore_n 3, 1) := by decide +kernel
theorem d_68_49 : decode m68.2.1 49 = .ok (.aload_n 0, 1) := by decide +kernel
theorem d_68_50 : decode m68.2.1 50 = .ok (.bipush 11, 2) := by decide +kernel
theorem d_68_52 : decode m68.2.1 52 = .ok (.invokevirtual 126, 3) := by decide +kernel
theorem d_68_55 : decode m68.2.1 55 = .ok (.aload_n 0, 1) := by decide +kernel
theorem d_68_56 : decode m68.2.1 56 = .ok (.iconst 0, 1) := by decide +kernel
theorem d_68_57 : decode m68.2.1 57 = .ok (.aload_n 0, 1) := by decide +kernel
theorem d_68_58 : decode m68.2.1 58 = .ok (.getfield 18, 3) := by decide +kernel
theorem d_68_61 : decode m68.2.1 61 = .ok (.getfield 67, 3) := by decide +kernel
theorem d_68_64 : decode m68.2.1 64 = .ok (.iconst 1, 1) := by decide +kernel
theorem d_68_65 : decode m68.2.1 65 = .ok (.isub, 1) := by decide +kernel
theorem d_68_66 : decode m68.2.1 66 = .ok (.invokevirtual 63, 3) := by decide +kernel
theorem d_68_69 : decode m68.2.1 69 = .ok (.istore 4, 2) := by decide +kernel
theorem d_68_71 : decode m68.2.1 71 = .ok (.aload_n 0, 1) := by decide +kernel
theorem d_68_72 : decode m68.2.1 72 = .ok (.bipush 16, 2) := by decide +kernel
theorem d_68_74 : decode m68.2.1 74 = .ok (.invokevirtual 126, 3) := by decide +kernel
theorem d_68_77 : decode m68.2.1 77 = .ok (.aload_n 0, 1) := by decide +kernel
theorem d_68_78 : decode m68.2.1 78 = .ok (.iconst 0, 1) := by decide +kernel
theorem d_68_79 : decode m68.2.1 79 = .ok (.bipush 87, 2) := by decide +kernel
theorem d_68_81 : decode m68.2.1 81 = .ok (.invokevirtual 63, 3) := by decide +kernel
theorem d_68_84 : decode m68.2.1 84 = .ok (.istore 5, 2) := by decide +kernel
theorem d_68_86 : decode m68.2.1 86 = .ok (.aload_n 0, 1) := by decide +kernel
theorem d_68_87 : decode m68.2.1 87 = .ok (.bipush 17, 2) := by decide +kernel
theorem d_68_89 : decode m68.2.1 89 = .ok (.invokevirtual 126, 3) := by decide +kernel
theorem d_68_92 : decode m68.2.1 92 = .ok (.aload_n 0, 1) := by decide +kernel
theorem d_68_93 : decode m68.2.1 93 = .ok (.iconst 1, 1) := by decide +kernel
theorem d_68_94 : decode m68.2.1 94 = .ok (.bipush 12, 2) := by decide +kernel
theorem d_68_96 : decode m68.2.1 96 = .ok (.invokevirtual 63, 3) := by decide +kernel
theorem d_68_99 : decode m68.2.1 99 = .ok (.istore 6, 2) := by decide +kernel
theorem d_68_101 : decode m68.2.1 101 = .ok (.iconst 5, 1) := by decide +kernel
theorem d_68_102 : decode m68.2.1 102 = .ok (.istore 7, 2) := by decide +kernel
theorem d_68_104 : decode m68.2.1 104 = .ok (.aload_n 0, 1) := by decide +kernel
theorem d_68_105 : decode m68.2.1 105 = .ok (.bipush 18, 2) := by decide +kernel
theorem d_68_107 : decode m68.2.1 107 = .ok (.invokevirtual 115, 3) := by decide +kernel
theorem d_68_110 : decode m68.2.1 110 = .ok (.ifCond .eq 19, 3) := by decide +kernel
theorem d_68_113 : decode m68.2.1 113 = .ok (.aload_n 0, 1) := by decide +kernel
theorem d_68_114 : decode m68.2.1 114 = .ok (.getfield 27, 3) := by decide +kernel
theorem d_68_117 : decode m68.2.1 117 = .ok (.invokevirtual 60, 3) := by decide +kernel
theorem d_68_120 : decode m68.2.1 120 = .ok (.aload_n 0, 1) := by decide +kernel
theorem d_68_121 : decode m68.2.1 121 = .ok (.iconst 1, 1) := by decide +kernel
theorem d_68_122 : decode m68.2.1 122 = .ok (.bipush 9, 2) := by decide +kernel
theorem d_68_124 : decode m68.2.1 124 = .ok (.invokevirtual 63, 3) := by decide +kernel
theorem d_68_127 : decode m68.2.1 127 = .ok (.istore 7, 2) := by decide +kernel
theorem d_68_129 : decode m68.2.1 129 = .ok (.aload_n 0, 1) := by decide +kernel
theorem d_68_130 : decode m68.2.1 130 = .ok (.getfield 31, 3) := by decide +kernel
theorem d_68_133 : decode m68.2.1 133 = .ok (.ifCond .ne 20, 3) := by decide +kernel
theorem d_68_136 : decode m68.2.1 136 = .ok (.aload_n 0, 1) := by decide +kernel
theorem d_68_137 : decode m68.2.1 137 = .ok (.getfield 18, 3) := by decide +kernel
theorem d_68_140 : decode m68.2.1 140 = .ok (.lload_n 1, 1) := by decide +kernel
theorem d_68_141 : decode m68.2.1 141 = .ok (.iload_n 3, 1) := by decide +kernel
theorem d_68_142 : decode m68.2.1 142 = .ok (.iload 4, 2) := by decide +kernel
theorem d_68_144 : decode m68.2.1 144 = .ok (.iload 5, 2) := by decide +kernel
theorem d_68_146 : decode m68.2.1 146 = .ok (.iload 6, 2) := by decide +kernel
theorem d_68_148 : decode m68.2.1 148 = .ok (.iload 7, 2) := by decide +kernel
theorem d_68_150 : decode m68.2.1 150 = .ok (.invokevirtual 133, 3) := by decide +kernel
theorem d_68_153 : decode m68.2.1 153 = .ok (.return_, 1) := by decide +kernel
theorem d_69_0 : decode m69.2.1 0 = .ok (.iconst 0, 1) := by decide +kernel
theorem d_69_1 : decode m69.2.1 1 = .ok (.istore_n 3, 1) := by decide +kernel
theorem d_69_2 : decode m69.2.1 2 = .ok (.iload_n 3, 1) := by decide +kernel
theorem d_69_3 : decode m69.2.1 3 = .ok (.aload_n 0, 1) := by decide +kernel
theorem d_69_4 : decode m69.2.1 4 = .ok (.getfield 66, 3) := by decide +kernel
theorem d_69_7 : decode m69.2.1 7 = .ok (.if_icmp .ge 22, 3) := by decide +kernel
theorem d_69_10 : decode m69.2.1 10 = .ok (.aload_n 0, 1) := by decide +kernel
theorem d_69_11 : decode m69.2.1 11 = .ok (.getfield 19, 3) := by decide +kernel
theorem d_69_14 : decode m69.2.1 14 = .ok (.iload_n 3, 1) := by decide +kernel
theorem d_69_15 : decode m69.2.1 15 = .ok (.laload, 1) := by decide +kernel
theorem d_69_16 : decode m69.2.1 16 = .ok (.lload_n 1, 1) := by decide +kernel
theorem d_69_17 : decode m69.2.1 17 = .ok (.lcmp, 1) := by decide +kernel
theorem d_69_18 : decode m69.2.1 18 = .ok (.ifCond .ne 5, 3) := by decide +kernel
theorem d_69_21 : decode m69.2.1 21 = .ok (.iconst 1, 1) := by decide +kernel
theorem d_69_22 : decode m69.2.1 22 = .ok (.ireturn, 1) := by decide +kernel
theorem d_69_23 : decode m69.2.1 23 = .ok (.iinc 3 1, 3) := by decide +kernel
theorem d_69_26 : decode m69.2.1 26 = .ok (.goto (-24), 3) := by decide +kernel
theorem d_69_29 : decode m69.2.1 29 = .ok (.iconst 0, 1) := by decide +kernel
theorem d_69_30 : decode m69.2.1 30 = .ok (.ireturn, 1) := by decide +kernel
theorem d_70_0 : decode m70.2.1 0 = .ok (.aload_n 0, 1) := by decide +kernel
theorem d_70_1 : decode m70.2.1 1 = .ok (.iload_n 1, 1) := by decide +kernel
theorem d_70_2 : decode m70.2.1 2 = .ok (.invokevirtual 115, 3) := by decide +kernel
theorem d_70_5 : decode m70.2.1 5 = .ok (.ifCond .eq 13, 3) := by decide +kernel
theorem d_70_8 : decode m70.2.1 8 = .ok (.aload_n 0, 1) := by decide +kernel
theorem d_70_9 : decode m70.2.1 9 = .ok (.getfield 27, 3) := by decide +kernel
theorem d_70_12 : decode m70.2.1 12 = .ok (.invokevirtual 60, 3) := by decide +kernel
theorem d_70_15 : decode m70.2.1 15 = .ok (.goto 8, 3) := by decide +kernel
theorem d_70_18 : decode m70.2.1 18 = .ok (.aload_n 0, 1) := by decide +kernel
theorem d_70_19 : decode m70.2.1 19 = .ok (.iconst 2, 1) := by decide +kernel
theorem d_70_20 : decode m70.2.1 20 = .ok (.invokevirtual 57, 3) := by decide +kernel
theorem d_70_23 : decode m70.2.1 23 = .ok (.return_, 1) := by decide +kernel
theorem d_71_0 : decode m71.2.1 0 = .ok (.aload_n 0, 1) := by decide +kernel
theorem d_71_1 : decode m71.2.1 1 = .ok (.getfield 27, 3) := by decide +kernel
theorem d_71_4 : decode m71.2.1 4 = .ok (.getfield 44, 3) := by decide +kernel
theorem d_71_7 : decode m71.2.1 7 = .ok (.iconst 2, 1) := by decide +kernel
theorem d_71_8 : decode m71.2.1 8 = .ok (.if_icmp .ne 20, 3) := by decide +kernel
theorem d_71_11 : decode m71.2.1 11 = .ok (.aload_n 0, 1) := by decide +kernel
theorem d_71_12 : decode m71.2.1 12 = .ok (.getfield 18, 3) := by decide +kernel
theorem d_71_15 : decode m71.2.1 15 = .ok (.aload_n 0, 1) := by decide +kernel
theorem d_71_16 : decode m71.2.1 16 = .ok (.getfield 27, 3) := by decide +kernel
theorem d_71_19 : decode m71.2.1 19 = .ok (.getfield 103, 3) := by decide +kernel
theorem d_71_22 : decode m71.2.1 22 = .ok (.invokevirtual 107, 3) := by decide +kernel
theorem d_71_25 : decode m71.2.1 25 = .ok (.goto 4, 3) := by decide +kernel
theorem d_71_28 : decode m71.2.1 28 = .ok (.iconst (-1), 1) := by decide +kernel
theorem d_71_29 : decode m71.2.1 29 = .ok (.istore_n 1, 1) := by decide +kernel
theorem d_71_30 : decode m71.2.1 30 = .ok (.aload_n 0, 1) := by decide +kernel
theorem d_71_31 : decode m71.2.1 31 = .ok (.getfield 31, 3) := by decide +kernel
theorem d_71_34 : decode m71.2.1 34 = .ok (.ifCond .ne 28, 3) := by decide +kernel
theorem d_71_37 : decode m71.2.1 37 = .ok (.iload_n 1, 1) := by decide +kernel
theorem d_71_38 : decode m71.2.1 38 = .ok (.iconst (-1), 1) := by decide +kernel
theorem d_71_39 : decode m71.2.1 39 = .ok (.if_icmp .ne 23, 3) := by decide +kernel
theorem d_71_42 : decode m71.2.1 42 = .ok (.aload_n 0, 1) := by decide +kernel
theorem d_71_43 : decode m71.2.1 43 = .ok (.aload_n 0, 1) := by decide +kernel
theorem d_71_44 : decode m71.2.1 44 = .ok (.getfield 27, 3) := by decide +kernel
theorem d_71_47 : decode m71.2.1 47 = .ok (.getfield 44, 3) := by decide +kernel
theorem d_71_50 : decode m71.2.1 50 = .ok (.iconst 2, 1) := by decide +kernel
theorem d_71_51 : decode m71.2.1 51 = .ok (.if_icmp .ne 7, 3) := by decide +kernel
theorem d_71_54 : decode m71.2.1 54 = .ok (.iconst 5, 1) := by decide +kernel
theorem d_71_55 : decode m71.2.1 55 = .ok (.goto 4, 3) := by decide +kernel
theorem d_71_58 : decode m71.2.1 58 = .ok (.iconst 2, 1) := by decide +kernel
theorem d_71_59 : decode m71.2.1 59 = .ok (.invokevirtual 57, 3) := by decide +kernel
theorem d_71_62 : decode m71.2.1 62 = .ok (.aload_n 0, 1) := by decide +kernel
theorem d_71_63 : decode m71.2.1 63 = .ok (.getfield 31, 3) := by decide +kernel
theorem d_71_66 : decode m71.2.1 66 = .ok (.ifCond .ne 10, 3) := by decide +kernel
theorem d_71_69 : decode m71.2.1 69 = .ok (.aload_n 0, 1) := by decide +kernel
theorem d_71_70 : decode m71.2.1 70 = .ok (.getfield 27, 3) := by decide +kernel
theorem d_71_73 : decode m71.2.1 73 = .ok (.invokevirtual 60, 3) := by decide +kernel
theorem d_71_76 : decode m71.2.1 76 = .ok (.iload_n 1, 1) := by decide +kernel
theorem d_71_77 : decode m71.2.1 77 = .ok (.ireturn, 1) := by decide +kernel
theorem d_72_0 : decode m72.2.1 0 = .ok (.aload_n 0, 1) := by decide +kernel
theorem d_72_1 : decode m72.2.1 1 = .ok (.getfield 66, 3) := by decide +kernel
theorem d_72_4 : decode m72.2.1 4 = .ok (.bipush 10, 2) := by decide +kernel
theorem d_72_6 : decode m72.2.1 6 = .ok (.if_icmp .ge 77, 3) := by decide +kernel
theorem d_72_9 : decode m72.2.1 9 = .ok (.aload_n 0, 1) := by decide +kernel
theorem d_72_10 : decode m72.2.1 10 = .ok (.getfield 19, 3) := by decide +kernel
theorem d_72_13 : decode m72.2.1 13 = .ok (.aload_n 0, 1) := by decide +kernel
theorem d_72_14 : decode m72.2.1 14 = .ok (.getfield 66, 3) := by decide +kernel
theorem d_72_17 : decode m72.2.1 17 = .ok (.lload_n 1, 1) := by decide +kernel
theorem d_72_18 : decode m72.2.1 18 = .ok (.lastore, 1) := by decide +kernel
theorem d_72_19 : decode m72.2.1 19 = .ok (.aload_n 0, 1) := by decide +kernel
theorem d_72_20 : decode m72.2.1 20 = .ok (.getfield 22, 3) := by decide +kernel
theorem d_72_23 : decode m72.2.1 23 = .ok (.aload_n 0, 1) := by decide +kernel
theorem d_72_24 : decode m72.2.1 24 = .ok (.getfield 66, 3) := by decide +kernel
theorem d_72_27 : decode m72.2.1 27 = .ok (.iload_n 3, 1) := by decide +kernel
theorem d_72_28 : decode m72.2.1 28 = .ok (.iastore, 1) := by decide +kernel
theorem d_72_29 : decode m72.2.1 29 = .ok (.aload_n 0, 1) := by decide +kernel
theorem d_72_30 : decode m72.2.1 30 = .ok (.getfield 25, 3) := by decide +kernel
theorem d_72_33 : decode m72.2.1 33 = .ok (.aload_n 0, 1) := by decide +kernel
theorem d_72_34 : decode m72.2.1 34 = .ok (.getfield 66, 3) := by decide +kernel
theorem d_72_37 : decode m72.2.1 37 = .ok (.iload 4, 2) := by decide +kernel
theorem d_72_39 : decode m72.2.1 39 = .ok (.iastore, 1) := by decide +kernel
theorem d_72_40 : decode m72.2.1 40 = .ok (.aload_n 0, 1) := by decide +kernel
theorem d_72_41 : decode m72.2.1 41 = .ok (.getfield 28, 3) := by decide +kernel
theorem d_72_44 : decode m72.2.1 44 = .ok (.aload_n 0, 1) := by decide +kernel
theorem d_72_45 : decode m72.2.1 45 = .ok (.getfield 66, 3) := by decide +kernel
theorem d_72_48 : decode m72.2.1 48 = .ok (.iload 5, 2) := by decide +kernel
theorem d_72_50 : decode m72.2.1 50 = .ok (.iastore, 1) := by decide +kernel
theorem d_72_51 : decode m72.2.1 51 = .ok (.aload_n 0, 1) := by decide +kernel
theorem d_72_52 : decode m72.2.1 52 = .ok (.getfield 31, 3) := by decide +kernel
theorem d_72_55 : decode m72.2.1 55 = .ok (.aload_n 0, 1) := by decide +kernel
theorem d_72_56 : decode m72.2.1 56 = .ok (.getfield 66, 3) := by decide +kernel
theorem d_72_59 : decode m72.2.1 59 = .ok (.iload 6, 2) := by decide +kernel
theorem d_72_61 : decode m72.2.1 61 = .ok (.iastore, 1) := by decide +kernel
theorem d_72_62 : decode m72.2.1 62 = .ok (.aload_n 0, 1) := by decide +kernel
theorem d_72_63 : decode m72.2.1 63 = .ok (.getfield 34, 3) := by decide +kernel
theorem d_72_66 : decode m72.2.1 66 = .ok (.aload_n 0, 1) := by decide +kernel
theorem d_72_67 : decode m72.2.1 67 = .ok (.getfield 66, 3) := by decide +kernel
theorem d_72_70 : decode m72.2.1 70 = .ok (.iload 7, 2) := by decide +kernel
theorem d_72_72 : decode m72.2.1 72 = .ok (.iastore, 1) := by decide +kernel
theorem d_72_73 : decode m72.2.1 73 = .ok (.aload_n 0, 1) := by decide +kernel
theorem d_72_74 : decode m72.2.1 74 = .ok (.dup, 1) := by decide +kernel
theorem d_72_75 : decode m72.2.1 75 = .ok (.getfield 66, 3) := by decide +kernel
theorem d_72_78 : decode m72.2.1 78 = .ok (.iconst 1, 1) := by decide +kernel
theorem d_72_79 : decode m72.2.1 79 = .ok (.iadd, 1) := by decide +kernel
theorem d_72_80 : decode m72.2.1 80 = .ok (.putfield 66, 3) := by decide +kernel
theorem d_72_83 : decode m72.2.1 83 = .ok (.return_, 1) := by decide +kernel
theorem d_73_0 : decode m73.2.1 0 = .ok (.aload_n 0, 1) := by decide +kernel
theorem d_73_1 : decode m73.2.1 1 = .ok (.iload_n 1, 1) := by decide +kernel
theorem d_73_2 : decode m73.2.1 2 = .ok (.invokevirtual 142, 3) := by decide +kernel
theorem d_73_5 : decode m73.2.1 5 = .ok (.iconst 0, 1) := by decide +kernel
theorem d_73_6 : decode m73.2.1 6 = .ok (.istore_n 2, 1) := by decide +kernel
theorem d_73_7 : decode m73.2.1 7 = .ok (.iload_n 2, 1) := by decide +kernel
theorem d_73_8 : decode m73.2.1 8 = .ok (.sipush 1600, 3) := by decide +kernel
theorem d_73_11 : decode m73.2.1 11 = .ok (.if_icmp .ge 42, 3) := by decide +kernel
theorem d_73_14 : decode m73.2.1 14 = .ok (.aload_n 0, 1) := by decide +kernel
theorem d_73_15 : decode m73.2.1 15 = .ok (.bipush 12, 2) := by decide +kernel
theorem d_73_17 : decode m73.2.1 17 = .ok (.invokevirtual 115, 3) := by decide +kernel
theorem d_73_20 : decode m73.2.1 20 = .ok (.ifCond .eq 33, 3) := by decide +kernel
theorem d_73_23 : decode m73.2.1 23 = .ok (.aload_n 0, 1) := by decide +kernel
theorem d_73_24 : decode m73.2.1 24 = .ok (.getfield 27, 3) := by decide +kernel
theorem d_73_27 : decode m73.2.1 27 = .ok (.invokevirtual 60, 3) := by decide +kernel
theorem d_73_30 : decode m73.2.1 30 = .ok (.aload_n 0, 1) := by decide +kernel
theorem d_73_31 : decode m73.2.1 31 = .ok (.iload_n 1, 1) := by decide +kernel
theorem d_73_32 : decode m73.2.1 32 = .ok (.invokevirtual 142, 3) := by decide +kernel
theorem d_73_35 : decode m73.2.1 35 = .ok (.aload_n 0, 1) := by decide +kernel
theorem d_73_36 : decode m73.2.1 36 = .ok (.getfield 18, 3) := by decide +kernel
theorem d_73_39 : decode m73.2.1 39 = .ok (.getfield 145, 3) := by decide +kernel
theorem d_73_42 : decode m73.2.1 42 = .ok (.bipush (-12), 2) := by decide +kernel
theorem d_73_44 : decode m73.2.1 44 = .ok (.invokevirtual 149, 3) := by decide +kernel
theorem d_73_47 : decode m73.2.1 47 = .ok (.iinc 2 1, 3) := by decide +kernel
theorem d_73_50 : decode m73.2.1 50 = .ok (.goto (-43), 3) := by decide +kernel
theorem d_73_53 : decode m73.2.1 53 = .ok (.return_, 1) := by decide +kernel
theorem d_74_0 : decode m74.2.1 0 = .ok (.aload_n 0, 1) := by decide +kernel
theorem d_74_1 : decode m74.2.1 1 = .ok (.iload_n 1, 1) := by decide +kernel
theorem d_74_2 : decode m74.2.1 2 = .ok (.invokevirtual 154, 3) := by decide +kernel
theorem d_74_5 : decode m74.2.1 5 = .ok (.iconst 0, 1) := by decide +kernel
theorem d_74_6 : decode m74.2.1 6 = .ok (.istore_n 2, 1) := by decide +kernel
theorem d_74_7 : decode m74.2.1 7 = .ok (.iload_n 2, 1) := by decide +kernel
theorem d_74_8 : decode m74.2.1 8 = .ok (.sipush 1600, 3) := by decide +kernel
theorem d_74_11 : decode m74.2.1 11 = .ok (.if_icmp .ge 42, 3) := by decide +kernel
theorem d_74_14 : decode m74.2.1 14 = .ok (.aload_n 0, 1) := by decide +kernel
theorem d_74_15 : decode m74.2.1 15 = .ok (.bipush 13, 2) := by decide +kernel
theorem d_74_17 : decode m74.2.1 17 = .ok (.invokevirtual 115, 3) := by decide +kernel
theorem d_74_20 : decode m74.2.1 20 = .ok (.ifCond .eq 33, 3) := by decide +kernel
theorem d_74_23 : decode m74.2.1 23 = .ok (.aload_n 0, 1) := by decide +kernel
theorem d_74_24 : decode m74.2.1 24 = .ok (.getfield 27, 3) := by decide +kernel
theorem d_74_27 : decode m74.2.1 27 = .ok (.invokevirtual 60, 3) := by decide +kernel
theorem d_74_30 : decode m74.2.1 30 = .ok (.aload_n 0, 1) := by decide +kernel
theorem d_74_31 : decode m74.2.1 31 = .ok (.iload_n 1, 1) := by decide +kernel
theorem d_74_32 : decode m74.2.1 32 = .ok (.invokevirtual 154, 3) := by decide +kernel
theorem d_74_35 : decode m74.2.1 35 = .ok (.aload_n 0, 1) := by decide +kernel
theorem d_74_36 : decode m74.2.1 36 = .ok (.getfield 18, 3) := by decide +kernel
theorem d_74_39 : decode m74.2.1 39 = .ok (.getfield 145, 3) := by decide +kernel
theorem d_74_42 : decode m74.2.1 42 = .ok (.bipush (-13), 2) := by decide +kernel
theorem d_74_44 : decode m74.2.1 44 = .ok (.invokevirtual 149, 3) := by decide +kernel
theorem d_74_47 : decode m74.2.1 47 = .ok (.iinc 2 1, 3) := by decide +kernel
theorem d_74_50 : decode m74.2.1 50 = .ok (.goto (-43), 3) := by decide +kernel
theorem d_74_53 : decode m74.2.1 53 = .ok (.return_, 1) := by decide +kernel
theorem d_75_0 : decode m75.2.1 0 = .ok (.aload_n 0, 1) := by decide +kernel
theorem d_75_1 : decode m75.2.1 1 = .ok (.bipush 14, 2) := by decide +kernel
theorem d_75_3 : decode m75.2.1 3 = .ok (.invokevirtual 115, 3) := by decide +kernel
theorem d_75_6 : decode m75.2.1 6 = .ok (.ifCond .eq 42, 3) := by decide +kernel
theorem d_75_9 : decode m75.2.1 9 = .ok (.iload_n 1, 1) := by decide +kernel
theorem d_75_10 : decode m75.2.1 10 = .ok (.bipush 7, 2) := by decide +kernel
theorem d_75_12 : decode m75.2.1 12 = .ok (.if_icmp .lt 9, 3) := by decide +kernel
theorem d_75_15 : decode m75.2.1 15 = .ok (.aload_n 0, 1) := by decide +kernel
theorem d_75_16 : decode m75.2.1 16 = .ok (.iconst 2, 1) := by decide +kernel
theorem d_75_17 : decode m75.2.1 17 = .ok (.invokevirtual 57, 3) := by decide +kernel
theorem d_75_20 : decode m75.2.1 20 = .ok (.return_, 1) := by decide +kernel
theorem d_75_21 : decode m75.2.1 21 = .ok (.aload_n 0, 1) := by decide +kernel
theorem d_75_22 : decode m75.2.1 22 = .ok (.getfield 27, 3) := by decide +kernel
theorem d_75_25 : decode m75.2.1 25 = .ok (.invokevirtual 60, 3) := by decide +kernel
theorem d_75_28 : decode m75.2.1 28 = .ok (.aload_n 0, 1) := by decide +kernel
theorem d_75_29 : decode m75.2.1 29 = .ok (.iload_n 1, 1) := by decide +kernel
theorem d_75_30 : decode m75.2.1 30 = .ok (.iconst 1, 1) := by decide +kernel
theorem d_75_31 : decode m75.2.1 31 = .ok (.iadd, 1) := by decide +kernel
theorem d_75_32 : decode m75.2.1 32 = .ok (.invokevirtual 154, 3) := by decide +kernel
theorem d_75_35 : decode m75.2.1 35 = .ok (.aload_n 0, 1) := by decide +kernel
theorem d_75_36 : decode m75.2.1 36 = .ok (.getfield 18, 3) := by decide +kernel
theorem d_75_39 : decode m75.2.1 39 = .ok (.getfield 145, 3) := by decide +kernel
theorem d_75_42 : decode m75.2.1 42 = .ok (.bipush (-14), 2) := by decide +kernel
theorem d_75_44 : decode m75.2.1 44 = .ok (.invokevirtual 149, 3) := by decide +kernel
theorem d_75_47 : decode m75.2.1 47 = .ok (.return_, 1) := by decide +kernel
theorem d_75_48 : decode m75.2.1 48 = .ok (.aload_n 0, 1) := by decide +kernel
theorem d_75_49 : decode m75.2.1 49 = .ok (.iload_n 1, 1) := by decide +kernel
theorem d_75_50 : decode m75.2.1 50 = .ok (.invokevirtual 157, 3) := by decide +kernel
theorem d_75_53 : decode m75.2.1 53 = .ok (.aload_n 0, 1) := by decide +kernel
theorem d_75_54 : decode m75.2.1 54 = .ok (.bipush 60, 2) := by decide +kernel
theorem d_75_56 : decode m75.2.1 56 = .ok (.invokevirtual 137, 3) := by decide +kernel
theorem d_75_59 : decode m75.2.1 59 = .ok (.ifCond .ne 21, 3) := by decide +kernel
theorem d_75_62 : decode m75.2.1 62 = .ok (.aload_n 0, 1) := by decide +kernel
theorem d_75_63 : decode m75.2.1 63 = .ok (.bipush 62, 2) := by decide +kernel
theorem d_75_65 : decode m75.2.1 65 = .ok (.invokevirtual 137, 3) := by decide +kernel
theorem d_75_68 : decode m75.2.1 68 = .ok (.ifCond .ne 12, 3) := by decide +kernel
theorem d_75_71 : decode m75.2.1 71 = .ok (.aload_n 0, 1) := by decide +kernel
theorem d_75_72 : decode m75.2.1 72 = .ok (.bipush 61, 2) := by decide +kernel
theorem d_75_74 : decode m75.2.1 74 = .ok (.invokevirtual 137, 3) := by decide +kernel
theorem d_75_77 : decode m75.2.1 77 = .ok (.ifCond .eq 35, 3) := by decide +kernel
theorem d_75_80 : decode m75.2.1 80 = .ok (.aload_n 0, 1) := by decide +kernel
theorem d_75_81 : decode m75.2.1 81 = .ok (.getfield 27, 3) := by decide +kernel
theorem d_75_84 : decode m75.2.1 84 = .ok (.getfield 50, 3) := by decide +kernel
theorem d_75_87 : decode m75.2.1 87 = .ok (.istore_n 2, 1) := by decide +kernel
theorem d_75_88 : decode m75.2.1 88 = .ok (.aload_n 0, 1) := by decide +kernel
theorem d_75_89 : decode m75.2.1 89 = .ok (.getfield 27, 3) := by decide +kernel
theorem d_75_92 : decode m75.2.1 92 = .ok (.invokevirtual 60, 3) := by decide +kernel
theorem d_75_95 : decode m75.2.1 95 = .ok (.aload_n 0, 1) := by decide +kernel
theorem d_75_96 : decode m75.2.1 96 = .ok (.iload_n 1, 1) := by decide +kernel
theorem d_75_97 : decode m75.2.1 97 = .ok (.invokevirtual 157, 3) := by decide +kernel
theorem d_75_100 : decode m75.2.1 100 = .ok (.aload_n 0, 1) := by decide +kernel
theorem d_75_101 : decode m75.2.1 101 = .ok (.getfield 18, 3) := by decide +kernel
theorem d_75_104 : decode m75.2.1 104 = .ok (.getfield 145, 3) := by decide +kernel
theorem d_75_107 : decode m75.2.1 107 = .ok (.iload_n 2, 1) := by decide +kernel
theorem d_75_108 : decode m75.2.1 108 = .ok (.ineg, 1) := by decide +kernel
theorem d_75_109 : decode m75.2.1 109 = .ok (.invokevirtual 149, 3) := by decide +kernel
theorem d_75_112 : decode m75.2.1 112 = .ok (.return_, 1) := by decide +kernel
theorem d_76_0 : decode m76.2.1 0 = .ok (.aload_n 0, 1) := by decide +kernel
theorem d_76_1 : decode m76.2.1 1 = .ok (.getfield 25, 3) := by decide +kernel
theorem d_76_4 : decode m76.2.1 4 = .ok (.sipush 270, 3) := by decide +kernel
theorem d_76_7 : decode m76.2.1 7 = .ok (.if_icmp .ge 23, 3) := by decide +kernel
theorem d_76_10 : decode m76.2.1 10 = .ok (.aload_n 0, 1) := by decide +kernel
theorem d_76_11 : decode m76.2.1 11 = .ok (.getfield 9, 3) := by decide +kernel
theorem d_76_14 : decode m76.2.1 14 = .ok (.aload_n 0, 1) := by decide +kernel
theorem d_76_15 : decode m76.2.1 15 = .ok (.getfield 25, 3) := by decide +kernel
theorem d_76_18 : decode m76.2.1 18 = .ok (.iload_n 1, 1) := by decide +kernel
theorem d_76_19 : decode m76.2.1 19 = .ok (.iastore, 1) := by decide +kernel
theorem d_76_20 : decode m76.2.1 20 = .ok (.aload_n 0, 1) := by decide +kernel
theorem d_76_21 : decode m76.2.1 21 = .ok (.dup, 1) := by decide +kernel
theorem d_76_22 : decode m76.2.1 22 = .ok (.getfield 25, 3) := by decide +kernel
theorem d_76_25 : decode m76.2.1 25 = .ok (.iconst 1, 1) := by decide +kernel
theorem d_76_26 : decode m76.2.1 26 = .ok (.iadd, 1) := by decide +kernel
theorem d_76_27 : decode m76.2.1 27 = .ok (.putfield 25, 3) := by decide +kernel
theorem d_76_30 : decode m76.2.1 30 = .ok (.return_, 1) := by decide +kernel
theorem d_77_0 : decode m77.2.1 0 = .ok (.aload_n 0, 1) := by decide +kernel
theorem d_77_1 : decode m77.2.1 1 = .ok (.iload_n 1, 1) := by decide +kernel
theorem d_77_2 : decode m77.2.1 2 = .ok (.invokevirtual 160, 3) := by decide +kernel
theorem d_77_5 : decode m77.2.1 5 = .ok (.iconst 0, 1) := by decide +kernel
theorem d_77_6 : decode m77.2.1 6 = .ok (.istore_n 2, 1) := by decide +kernel
theorem d_77_7 : decode m77.2.1 7 = .ok (.iload_n 2, 1) := by decide +kernel
theorem d_77_8 : decode m77.2.1 8 = .ok (.sipush 1600, 3) := by decide +kernel
theorem d_77_11 : decode m77.2.1 11 = .ok (.if_icmp .ge 59, 3) := by decide +kernel
theorem d_77_14 : decode m77.2.1 14 = .ok (.aload_n 0, 1) := by decide +kernel
theorem d_77_15 : decode m77.2.1 15 = .ok (.bipush 43, 2) := by decide +kernel
theorem d_77_17 : decode m77.2.1 17 = .ok (.invokevirtual 137, 3) := by decide +kernel
theorem d_77_20 : decode m77.2.1 20 = .ok (.ifCond .ne 12, 3) := by decide +kernel
theorem d_77_23 : decode m77.2.1 23 = .ok (.aload_n 0, 1) := by decide +kernel
theorem d_77_24 : decode m77.2.1 24 = .ok (.bipush 45, 2) := by decide +kernel
theorem d_77_26 : decode m77.2.1 26 = .ok (.invokevirtual 137, 3) := by decide +kernel
theorem d_77_29 : decode m77.2.1 29 = .ok (.ifCond .eq 41, 3) := by decide +kernel
theorem d_77_32 : decode m77.2.1 32 = .ok (.aload_n 0, 1) := by decide +kernel
theorem d_77_33 : decode m77.2.1 33 = .ok (.getfield 27, 3) := by decide +kernel
theorem d_77_36 : decode m77.2.1 36 = .ok (.getfield 50, 3) := by decide +kernel
theorem d_77_39 : decode m77.2.1 39 = .ok (.istore_n 3, 1) := by decide +kernel
theorem d_77_40 : decode m77.2.1 40 = .ok (.aload_n 0, 1) := by decide +kernel
theorem d_77_41 : decode m77.2.1 41 = .ok (.getfield 27, 3) := by decide +kernel
theorem d_77_44 : decode m77.2.1 44 = .ok (.invokevirtual 60, 3) := by decide +kernel
theorem d_77_47 : decode m77.2.1 47 = .ok (.aload_n 0, 1) := by decide +kernel
theorem d_77_48 : decode m77.2.1 48 = .ok (.iload_n 1, 1) := by decide +kernel
theorem d_77_49 : decode m77.2.1 49 = .ok (.invokevirtual 160, 3) := by decide +kernel
theorem d_77_52 : decode m77.2.1 52 = .ok (.aload_n 0, 1) := by decide +kernel
theorem d_77_53 : decode m77.2.1 53 = .ok (.getfield 18, 3) := by decide +kernel
theorem d_77_56 : decode m77.2.1 56 = .ok (.getfield 145, 3) := by decide +kernel
theorem d_77_59 : decode m77.2.1 59 = .ok (.iload_n 3, 1) := by decide +kernel
theorem d_77_60 : decode m77.2.1 60 = .ok (.ineg, 1) := by decide +kernel
theorem d_77_61 : decode m77.2.1 61 = .ok (.invokevirtual 149, 3) := by decide +kernel
theorem d_77_64 : decode m77.2.1 64 = .ok (.iinc 2 1, 3) := by decide +kernel
theorem d_77_67 : decode m77.2.1 67 = .ok (.goto (-60), 3) := by decide +kernel
theorem d_77_70 : decode m77.2.1 70 = .ok (.return_, 1) := by decide +kernel
theorem d_78_0 : decode m78.2.1 0 = .ok (.aload_n 0, 1) := by decide +kernel
theorem d_78_1 : decode m78.2.1 1 = .ok (.iload_n 1, 1) := by decide +kernel
theorem d_78_2 : decode m78.2.1 2 = .ok (.invokevirtual 163, 3) := by decide +kernel
theorem d_78_5 : decode m78.2.1 5 = .ok (.iconst 0, 1) := by decide +kernel
theorem d_78_6 : decode m78.2.1 6 = .ok (.istore_n 2, 1) := by decide +kernel
theorem d_78_7 : decode m78.2.1 7 = .ok (.iload_n 2, 1) := by decide +kernel
theorem d_78_8 : decode m78.2.1 8 = .ok (.sipush 1600, 3) := by decide +kernel
theorem d_78_11 : decode m78.2.1 11 = .ok (.if_icmp .ge 68, 3) := by decide +kernel
theorem d_78_14 : decode m78.2.1 14 = .ok (.aload_n 0, 1) := by decide +kernel
theorem d_78_15 : decode m78.2.1 15 = .ok (.bipush 42, 2) := by decide +kernel
theorem d_78_17 : decode m78.2.1 17 = .ok (.invokevirtual 137, 3) := by decide +kernel
theorem d_78_20 : decode m78.2.1 20 = .ok (.ifCond .ne 21, 3) := by decide +kernel
theorem d_78_23 : decode m78.2.1 23 = .ok (.aload_n 0, 1) := by decide +kernel
theorem d_78_24 : decode m78.2.1 24 = .ok (.bipush 47, 2) := by decide +kernel
theorem d_78_26 : decode m78.2.1 26 = .ok (.invokevirtual 137, 3) := by decide +kernel
theorem d_78_29 : decode m78.2.1 29 = .ok (.ifCond .ne 12, 3) := by decide +kernel
theorem d_78_32 : decode m78.2.1 32 = .ok (.aload_n 0, 1) := by decide +kernel
theorem d_78_33 : decode m78.2.1 33 = .ok (.bipush 37, 2) := by decide +kernel
theorem d_78_35 : decode m78.2.1 35 = .ok (.invokevirtual 137, 3) := by decide +kernel
theorem d_78_38 : decode m78.2.1 38 = .ok (.ifCond .eq 41, 3) := by decide +kernel
theorem d_78_41 : decode m78.2.1 41 = .ok (.aload_n 0, 1) := by decide +kernel
theorem d_78_42 : decode m78.2.1 42 = .ok (.getfield 27, 3) := by decide +kernel
theorem d_78_45 : decode m78.2.1 45 = .ok (.getfield 50, 3) := by decide +kernel
theorem d_78_48 : decode m78.2.1 48 = .ok (.istore_n 3, 1) := by decide +kernel
theorem d_78_49 : decode m78.2.1 49 = .ok (.aload_n 0, 1) := by decide +kernel
theorem d_78_50 : decode m78.2.1 50 = .ok (.getfield 27, 3) := by decide +kernel
theorem d_78_53 : decode m78.2.1 53 = .ok (.invokevirtual 60, 3) := by decide +kernel
theorem d_78_56 : decode m78.2.1 56 = .ok (.aload_n 0, 1) := by decide +kernel
theorem d_78_57 : decode m78.2.1 57 = .ok (.iload_n 1, 1) := by decide +kernel
theorem d_78_58 : decode m78.2.1 58 = .ok (.invokevirtual 163, 3) := by decide +kernel
theorem d_78_61 : decode m78.2.1 61 = .ok (.aload_n 0, 1) := by decide +kernel
theorem d_78_62 : decode m78.2.1 62 = .ok (.getfield 18, 3) := by decide +kernel
theorem d_78_65 : decode m78.2.1 65 = .ok (.getfield 145, 3) := by decide +kernel
theorem d_78_68 : decode m78.2.1 68 = .ok (.iload_n 3, 1) := by decide +kernel
theorem d_78_69 : decode m78.2.1 69 = .ok (.ineg, 1) := by decide +kernel
theorem d_78_70 : decode m78.2.1 70 = .ok (.invokevirtual 149, 3) := by decide +kernel
theorem d_78_73 : decode m78.2.1 73 = .ok (.iinc 2 1, 3) := by decide +kernel
theorem d_78_76 : decode m78.2.1 76 = .ok (.goto (-69), 3) := by decide +kernel
theorem d_78_79 : decode m78.2.1 79 = .ok (.return_, 1) := by decide +kernel
theorem d_79_0 : decode m79.2.1 0 = .ok (.aload_n 0, 1) := by decide +kernel
theorem d_79_1 : decode m79.2.1 1 = .ok (.getfield 31, 3) := by decide +kernel
theorem d_79_4 : decode m79.2.1 4 = .ok (.ifCond .eq 4, 3) := by decide +kernel
theorem d_79_7 : decode m79.2.1 7 = .ok (.return_, 1) := by decide +kernel
theorem d_79_8 : decode m79.2.1 8 = .ok (.aload_n 0, 1) := by decide +kernel
theorem d_79_9 : decode m79.2.1 9 = .ok (.bipush 40, 2) := by decide +kernel
theorem d_79_11 : decode m79.2.1 11 = .ok (.invokevirtual 137, 3) := by decide +kernel
theorem d_79_14 : decode m79.2.1 14 = .ok (.istore_n 2, 1) := by decide +kernel
theorem d_79_15 : decode m79.2.1 15 = .ok (.aload_n 0, 1) := by decide +kernel
theorem d_79_16 : decode m79.2.1 16 = .ok (.getfield 27, 3) := by decide +kernel
theorem d_79_19 : decode m79.2.1 19 = .ok (.getfield 44, 3) := by decide +kernel
theorem d_79_22 : decode m79.2.1 22 = .ok (.iconst 1, 1) := by decide +kernel
theorem d_79_23 : decode m79.2.1 23 = .ok (.if_icmp .ne 31, 3) := by decide +kernel
theorem d_79_26 : decode m79.2.1 26 = .ok (.aload_n 0, 1) := by decide +kernel
theorem d_79_27 : decode m79.2.1 27 = .ok (.getfield 27, 3) := by decide +kernel
theorem d_79_30 : decode m79.2.1 30 = .ok (.getfield 50, 3) := by decide +kernel
theorem d_79_33 : decode m79.2.1 33 = .ok (.bipush 15, 2) := by decide +kernel
theorem d_79_35 : decode m79.2.1 35 = .ok (.if_icmp .lt 19, 3) := by decide +kernel
theorem d_79_38 : decode m79.2.1 38 = .ok (.aload_n 0, 1) := by decide +kernel
theorem d_79_39 : decode m79.2.1 39 = .ok (.getfield 27, 3) := by decide +kernel
theorem d_79_42 : decode m79.2.1 42 = .ok (.getfield 50, 3) := by decide +kernel
theorem d_79_45 : decode m79.2.1 45 = .ok (.bipush 20, 2) := by decide +kernel
theorem d_79_47 : decode m79.2.1 47 = .ok (.if_icmp .gt 7, 3) := by decide +kernel
theorem d_79_50 : decode m79.2.1 50 = .ok (.iconst 1, 1) := by decide +kernel
theorem d_79_51 : decode m79.2.1 51 = .ok (.goto 4, 3) := by decide +kernel
theorem d_79_54 : decode m79.2.1 54 = .ok (.iconst 0, 1) := by decide +kernel
theorem d_79_55 : decode m79.2.1 55 = .ok (.istore_n 3, 1) := by decide +kernel
theorem d_79_56 : decode m79.2.1 56 = .ok (.aload_n 0, 1) := by decide +kernel
theorem d_79_57 : decode m79.2.1 57 = .ok (.getfield 18, 3) := by decide +kernel
theorem d_79_60 : decode m79.2.1 60 = .ok (.getfield 145, 3) := by decide +kernel
theorem d_79_63 : decode m79.2.1 63 = .ok (.getfield 166, 3) := by decide +kernel
theorem d_79_66 : decode m79.2.1 66 = .ok (.bipush 30, 2) := by decide +kernel
theorem d_79_68 : decode m79.2.1 68 = .ok (.if_icmp .ge 17, 3) := by decide +kernel
theorem d_79_71 : decode m79.2.1 71 = .ok (.iload_n 2, 1) := by decide +kernel
theorem d_79_72 : decode m79.2.1 72 = .ok (.ifCond .eq 9, 3) := by decide +kernel
theorem d_79_75 : decode m79.2.1 75 = .ok (.iload_n 1, 1) := by decide +kernel
theorem d_79_76 : decode m79.2.1 76 = .ok (.bipush 7, 2) := by decide +kernel
theorem d_79_78 : decode m79.2.1 78 = .ok (.if_icmp .ge 7, 3) := by decide +kernel
theorem d_79_81 : decode m79.2.1 81 = .ok (.iconst 1, 1) := by decide +kernel
theorem d_79_82 : decode m79.2.1 82 = .ok (.goto 4, 3) := by decide +kernel
theorem d_79_85 : decode m79.2.1 85 = .ok (.iconst 0, 1) := by decide +kernel
theorem d_79_86 : decode m79.2.1 86 = .ok (.istore 4, 2) := by decide +kernel
theorem d_79_88 : decode m79.2.1 88 = .ok (.iload 4, 2) := by decide +kernel
theorem d_79_90 : decode m79.2.1 90 = .ok (.ifCond .eq 22, 3) := by decide +kernel
theorem d_79_93 : decode m79.2.1 93 = .ok (.iload_n 2, 1) := by decide +kernel
theorem d_79_94 : decode m79.2.1 94 = .ok (.ifCond .ne 24, 3) := by decide +kernel
theorem d_79_97 : decode m79.2.1 97 = .ok (.iload_n 3, 1) := by decide +kernel
theorem d_79_98 : decode m79.2.1 98 = .ok (.ifCond .ne 20, 3) := by decide +kernel
theorem d_79_101 : decode m79.2.1 101 = .ok (.aload_n 0, 1) := by decide +kernel
theorem d_79_102 : decode m79.2.1 102 = .ok (.getfield 27, 3) := by decide +kernel
theorem d_79_105 : decode m79.2.1 105 = .ok (.getfield 44, 3) := by decide +kernel
theorem d_79_108 : decode m79.2.1 108 = .ok (.iconst 3, 1) := by decide +kernel
theorem d_79_109 : decode m79.2.1 109 = .ok (.if_icmp .eq 9, 3) := by decide +kernel
theorem d_79_112 : decode m79.2.1 112 = .ok (.aload_n 0, 1) := by decide +kernel
theorem d_79_113 : decode m79.2.1 113 = .ok (.iconst 2, 1) := by decide +kernel
theorem d_79_114 : decode m79.2.1 114 = .ok (.invokevirtual 57, 3) := by decide +kernel
theorem d_79_117 : decode m79.2.1 117 = .ok (.return_, 1) := by decide +kernel
theorem d_79_118 : decode m79.2.1 118 = .ok (.aload_n 0, 1) := by decide +kernel
theorem d_79_119 : decode m79.2.1 119 = .ok (.getfield 18, 3) := by decide +kernel
theorem d_79_122 : decode m79.2.1 122 = .ok (.getfield 145, 3) := by decide +kernel
theorem d_79_125 : decode m79.2.1 125 = .ok (.dup, 1) := by decide +kernel
theorem d_79_126 : decode m79.2.1 126 = .ok (.getfield 166, 3) := by decide +kernel
theorem d_79_129 : decode m79.2.1 129 = .ok (.iconst 1, 1) := by decide +kernel
theorem d_79_130 : decode m79.2.1 130 = .ok (.iadd, 1) := by decide +kernel
theorem d_79_131 : decode m79.2.1 131 = .ok (.putfield 166, 3) := by decide +kernel
theorem d_79_134 : decode m79.2.1 134 = .ok (.aload_n 0, 1) := by decide +kernel
theorem d_79_135 : decode m79.2.1 135 = .ok (.getfield 27, 3) := by decide +kernel
theorem d_79_138 : decode m79.2.1 138 = .ok (.getfield 50, 3) := by decide +kernel
theorem d_79_141 : decode m79.2.1 141 = .ok (.istore 5, 2) := by decide +kernel
theorem d_79_143 : decode m79.2.1 143 = .ok (.aload_n 0, 1) := by decide +kernel
theorem d_79_144 : decode m79.2.1 144 = .ok (.getfield 27, 3) := by decide +kernel
theorem d_79_147 : decode m79.2.1 147 = .ok (.invokevirtual 60, 3) := by decide +kernel
theorem d_79_150 : decode m79.2.1 150 = .ok (.iload_n 2, 1) := by decide +kernel
theorem d_79_151 : decode m79.2.1 151 = .ok (.ifCond .eq 19, 3) := by decide +kernel
theorem d_79_154 : decode m79.2.1 154 = .ok (.aload_n 0, 1) := by decide +kernel
theorem d_79_155 : decode m79.2.1 155 = .ok (.iload_n 1, 1) := by decide +kernel
theorem d_79_156 : decode m79.2.1 156 = .ok (.iconst 1, 1) := by decide +kernel
theorem d_79_157 : decode m79.2.1 157 = .ok (.iadd, 1) := by decide +kernel
theorem d_79_158 : decode m79.2.1 158 = .ok (.invokevirtual 76, 3) := by decide +kernel
theorem d_79_161 : decode m79.2.1 161 = .ok (.aload_n 0, 1) := by decide +kernel
theorem d_79_162 : decode m79.2.1 162 = .ok (.bipush 41, 2) := by decide +kernel
theorem d_79_164 : decode m79.2.1 164 = .ok (.invokevirtual 91, 3) := by decide +kernel
theorem d_79_167 : decode m79.2.1 167 = .ok (.goto 25, 3) := by decide +kernel
theorem d_79_170 : decode m79.2.1 170 = .ok (.aload_n 0, 1) := by decide +kernel
theorem d_79_171 : decode m79.2.1 171 = .ok (.getfield 18, 3) := by decide +kernel
theorem d_79_174 : decode m79.2.1 174 = .ok (.getfield 145, 3) := by decide +kernel
theorem d_79_177 : decode m79.2.1 177 = .ok (.iload_n 3, 1) := by decide +kernel
theorem d_79_178 : decode m79.2.1 178 = .ok (.ifCond .eq 9, 3) := by decide +kernel
theorem d_79_181 : decode m79.2.1 181 = .ok (.iload 5, 2) := by decide +kernel
theorem d_79_183 : decode m79.2.1 183 = .ok (.ineg, 1) := by decide +kernel
theorem d_79_184 : decode m79.2.1 184 = .ok (.goto 5, 3) := by decide +kernel
theorem d_79_187 : decode m79.2.1 187 = .ok (.iload 5, 2) := by decide +kernel
theorem d_79_189 : decode m79.2.1 189 = .ok (.invokevirtual 149, 3) := by decide +kernel
theorem d_79_192 : decode m79.2.1 192 = .ok (.return_, 1) := by decide +kernel
theorem d_80_0 : decode m80.2.1 0 = .ok (.aload_n 0, 1) := by decide +kernel
theorem d_80_1 : decode m80.2.1 1 = .ok (.getfield 31, 3) := by decide +kernel
theorem d_80_4 : decode m80.2.1 4 = .ok (.ifCond .ne 29, 3) := by decide +kernel
theorem d_80_7 : decode m80.2.1 7 = .ok (.aload_n 0, 1) := by decide +kernel
theorem d_80_8 : decode m80.2.1 8 = .ok (.getfield 27, 3) := by decide +kernel
theorem d_80_11 : decode m80.2.1 11 = .ok (.getfield 44, 3) := by decide +kernel
theorem d_80_14 : decode m80.2.1 14 = .ok (.iconst 4, 1) := by decide +kernel
theorem d_80_15 : decode m80.2.1 15 = .ok (.if_icmp .ne 18, 3) := by decide +kernel
theorem d_80_18 : decode m80.2.1 18 = .ok (.aload_n 0, 1) := by decide +kernel
theorem d_80_19 : decode m80.2.1 19 = .ok (.getfield 27, 3) := by decide +kernel
theorem d_80_22 : decode m80.2.1 22 = .ok (.getfield 50, 3) := by decide +kernel
theorem d_80_25 : decode m80.2.1 25 = .ok (.iload_n 1, 1) := by decide +kernel
theorem d_80_26 : decode m80.2.1 26 = .ok (.if_icmp .ne 7, 3) := by decide +kernel
theorem d_80_29 : decode m80.2.1 29 = .ok (.iconst 1, 1) := by decide +kernel
theorem d_80_30 : decode m80.2.1 30 = .ok (.goto 4, 3) := by decide +kernel
theorem d_80_33 : decode m80.2.1 33 = .ok (.iconst 0, 1) := by decide +kernel
theorem d_80_34 : decode m80.2.1 34 = .ok (.ireturn, 1) := by decide +kernel
theorem d_81_0 : decode m81.2.1 0 = .ok (.aload_n 0, 1) := by decide +kernel
theorem d_81_1 : decode m81.2.1 1 = .ok (.iload_n 1, 1) := by decide +kernel
theorem d_81_2 : decode m81.2.1 2 = .ok (.invokevirtual 137, 3) := by decide +kernel
theorem d_81_5 : decode m81.2.1 5 = .ok (.ifCond .eq 13, 3) := by decide +kernel
theorem d_81_8 : decode m81.2.1 8 = .ok (.aload_n 0, 1) := by decide +kernel
theorem d_81_9 : decode m81.2.1 9 = .ok (.getfield 27, 3) := by decide +kernel
theorem d_81_12 : decode m81.2.1 12 = .ok (.invokevirtual 60, 3) := by decide +kernel
theorem d_81_15 : decode m81.2.1 15 = .ok (.goto 8, 3) := by decide +kernel
theorem d_81_18 : decode m81.2.1 18 = .ok (.aload_n 0, 1) := by decide +kernel
theorem d_81_19 : decode m81.2.1 19 = .ok (.iconst 2, 1) := by decide +kernel
theorem d_81_20 : decode m81.2.1 20 = .ok (.invokevirtual 57, 3) := by decide +kernel
theorem d_81_23 : decode m81.2.1 23 = .ok (.return_, 1) := by decide +kernel
theorem d_82_0 : decode m82.2.1 0 = .ok (.aload_n 0, 1) := by decide +kernel
theorem d_82_1 : decode m82.2.1 1 = .ok (.getfield 18, 3) := by decide +kernel
theorem d_82_4 : decode m82.2.1 4 = .ok (.astore_n 2, 1) := by decide +kernel
theorem d_82_5 : decode m82.2.1 5 = .ok (.aload_n 0, 1) := by decide +kernel
theorem d_82_6 : decode m82.2.1 6 = .ok (.aload_n 1, 1) := by decide +kernel
theorem d_82_7 : decode m82.2.1 7 = .ok (.putfield 18, 3) := by decide +kernel
theorem d_82_10 : decode m82.2.1 10 = .ok (.aload_n 2, 1) := by decide +kernel
theorem d_82_11 : decode m82.2.1 11 = .ok (.areturn, 1) := by decide +kernel
theorem d_83_0 : decode m83.2.1 0 = .ok (.aload_n 0, 1) := by decide +kernel
theorem d_83_1 : decode m83.2.1 1 = .ok (.iconst 0, 1) := by decide +kernel
theorem d_83_2 : decode m83.2.1 2 = .ok (.putfield 24, 3) := by decide +kernel
theorem d_83_5 : decode m83.2.1 5 = .ok (.aload_n 0, 1) := by decide +kernel
theorem d_83_6 : decode m83.2.1 6 = .ok (.iconst 0, 1) := by decide +kernel
theorem d_83_7 : decode m83.2.1 7 = .ok (.putfield 28, 3) := by decide +kernel
theorem d_83_10 : decode m83.2.1 10 = .ok (.return_, 1) := by decide +kernel
theorem d_84_0 : decode m84.2.1 0 = .ok (.aload_n 0, 1) := by decide +kernel
theorem d_84_1 : decode m84.2.1 1 = .ok (.iconst 0, 1) := by decide +kernel
theorem d_84_2 : decode m84.2.1 2 = .ok (.putfield 34, 3) := by decide +kernel
theorem d_84_5 : decode m84.2.1 5 = .ok (.return_, 1) := by decide +kernel
theorem d_89_0 : decode m89.2.1 0 = .ok (.iload_n 1, 1) := by decide +kernel
theorem d_89_1 : decode m89.2.1 1 = .ok (.ifCond .lt 20, 3) := by decide +kernel
theorem d_89_4 : decode m89.2.1 4 = .ok (.iload_n 1, 1) := by decide +kernel
theorem d_89_5 : decode m89.2.1 5 = .ok (.aload_n 0, 1) := by decide +kernel
theorem d_89_6 : decode m89.2.1 6 = .ok (.getfield 66, 3) := by decide +kernel
theorem d_89_9 : decode m89.2.1 9 = .ok (.if_icmp .ge 12, 3) := by decide +kernel
theorem d_89_12 : decode m89.2.1 12 = .ok (.aload_n 0, 1) := by decide +kernel
theorem d_89_13 : decode m89.2.1 13 = .ok (.getfield 22, 3) := by decide +kernel
theorem d_89_16 : decode m89.2.1 16 = .ok (.iload_n 1, 1) := by decide +kernel
theorem d_89_17 : decode m89.2.1 17 = .ok (.iaload, 1) := by decide +kernel
theorem d_89_18 : decode m89.2.1 18 = .ok (.goto 4, 3) := by decide +kernel
theorem d_89_21 : decode m89.2.1 21 = .ok (.iconst (-1), 1) := by decide +kernel
theorem d_89_22 : decode m89.2.1 22 = .ok (.istore_n 2, 1) := by decide +kernel
theorem d_89_23 : decode m89.2.1 23 = .ok (.iload_n 2, 1) := by decide +kernel
theorem d_89_24 : decode m89.2.1 24 = .ok (.ifCond .lt 20, 3) := by decide +kernel
theorem d_89_27 : decode m89.2.1 27 = .ok (.iload_n 2, 1) := by decide +kernel
theorem d_89_28 : decode m89.2.1 28 = .ok (.aload_n 0, 1) := by decide +kernel
theorem d_89_29 : decode m89.2.1 29 = .ok (.getfield 63, 3) := by decide +kernel
theorem d_89_32 : decode m89.2.1 32 = .ok (.if_icmp .ge 12, 3) := by decide +kernel
theorem d_89_35 : decode m89.2.1 35 = .ok (.aload_n 0, 1) := by decide +kernel
theorem d_89_36 : decode m89.2.1 36 = .ok (.getfield 15, 3) := by decide +kernel
theorem d_89_39 : decode m89.2.1 39 = .ok (.iload_n 2, 1) := by decide +kernel
theorem d_89_40 : decode m89.2.1 40 = .ok (.iaload, 1) := by decide +kernel
theorem d_89_41 : decode m89.2.1 41 = .ok (.goto 4, 3) := by decide +kernel
theorem d_89_44 : decode m89.2.1 44 = .ok (.iconst 0, 1) := by decide +kernel
theorem d_89_45 : decode m89.2.1 45 = .ok (.ireturn, 1) := by decide +kernel
theorem d_91_0 : decode m91.2.1 0 = .ok (.iload_n 0, 1) := by decide +kernel
theorem d_91_1 : decode m91.2.1 1 = .ok (.iload_n 0, 1) := by decide +kernel
theorem d_91_2 : decode m91.2.1 2 = .ok (.iconst 1, 1) := by decide +kernel
theorem d_91_3 : decode m91.2.1 3 = .ok (.iushr, 1) := by decide +kernel
theorem d_91_4 : decode m91.2.1 4 = .ok (.ldc_w 265, 3) := by decide +kernel
theorem d_91_7 : decode m91.2.1 7 = .ok (.iand, 1) := by decide +kernel
theorem d_91_8 : decode m91.2.1 8 = .ok (.isub, 1) := by decide +kernel
theorem d_91_9 : decode m91.2.1 9 = .ok (.istore_n 0, 1) := by decide +kernel
theorem d_91_10 : decode m91.2.1 10 = .ok (.iload_n 0, 1) := by decide +kernel
theorem d_91_11 : decode m91.2.1 11 = .ok (.ldc_w 266, 3) := by decide +kernel
theorem d_91_14 : decode m91.2.1 14 = .ok (.iand, 1) := by decide +kernel
theorem d_91_15 : decode m91.2.1 15 = .ok (.iload_n 0, 1) := by decide +kernel
theorem d_91_16 : decode m91.2.1 16 = .ok (.iconst 2, 1) := by decide +kernel
theorem d_91_17 : decode m91.2.1 17 = .ok (.iushr, 1) := by decide +kernel
theorem d_91_18 : decode m91.2.1 18 = .ok (.ldc_w 266, 3) := by decide +kernel
theorem d_91_21 : decode m91.2.1 21 = .ok (.iand, 1) := by decide +kernel
theorem d_91_22 : decode m91.2.1 22 = .ok (.iadd, 1) := by decide +kernel
theorem d_91_23 : decode m91.2.1 23 = .ok (.istore_n 0, 1) := by decide +kernel
theorem d_91_24 : decode m91.2.1 24 = .ok (.iload_n 0, 1) := by decide +kernel
theorem d_91_25 : decode m91.2.1 25 = .ok (.iload_n 0, 1) := by decide +kernel
theorem d_91_26 : decode m91.2.1 26 = .ok (.iconst 4, 1) := by decide +kernel
theorem d_91_27 : decode m91.2.1 27 = .ok (.iushr, 1) := by decide +kernel
theorem d_91_28 : decode m91.2.1 28 = .ok (.iadd, 1) := by decide +kernel
theorem d_91_29 : decode m91.2.1 29 = .ok (.ldc_w 267, 3) := by decide +kernel
theorem d_91_32 : decode m91.2.1 32 = .ok (.iand, 1) := by decide +kernel
theorem d_91_33 : decode m91.2.1 33 = .ok (.istore_n 0, 1) := by decide +kernel
theorem d_91_34 : decode m91.2.1 34 = .ok (.iload_n 0, 1) := by decide +kernel
theorem d_91_35 : decode m91.2.1 35 = .ok (.iload_n 0, 1) := by decide +kernel
theorem d_91_36 : decode m91.2.1 36 = .ok (.bipush 8, 2) := by decide +kernel
theorem d_91_38 : decode m91.2.1 38 = .ok (.iushr, 1) := by decide +kernel
theorem d_91_39 : decode m91.2.1 39 = .ok (.iadd, 1) := by decide +kernel
theorem d_91_40 : decode m91.2.1 40 = .ok (.istore_n 0, 1) := by decide +kernel
theorem d_91_41 : decode m91.2.1 41 = .ok (.iload_n 0, 1) := by decide +kernel
theorem d_91_42 : decode m91.2.1 42 = .ok (.iload_n 0, 1) := by decide +kernel
theorem d_91_43 : decode m91.2.1 43 = .ok (.bipush 16, 2) := by decide +kernel
theorem d_91_45 : decode m91.2.1 45 = .ok (.iushr, 1) := by decide +kernel
theorem d_91_46 : decode m91.2.1 46 = .ok (.iadd, 1) := by decide +kernel
theorem d_91_47 : decode m91.2.1 47 = .ok (.istore_n 0, 1) := by decide +kernel
theorem d_91_48 : decode m91.2.1 48 = .ok (.iload_n 0, 1) := by decide +kernel
theorem d_91_49 : decode m91.2.1 49 = .ok (.bipush 63, 2) := by decide +kernel
theorem d_91_51 : decode m91.2.1 51 = .ok (.iand, 1) := by decide +kernel
theorem d_91_52 : decode m91.2.1 52 = .ok (.ireturn, 1) := by decide +kernel
theorem d_92_0 : decode m92.2.1 0 = .ok (.aload_n 0, 1) := by decide +kernel
theorem d_92_1 : decode m92.2.1 1 = .ok (.getfield 25, 3) := by decide +kernel
theorem d_92_4 : decode m92.2.1 4 = .ok (.ifCond .le 7, 3) := by decide +kernel
theorem d_92_7 : decode m92.2.1 7 = .ok (.iconst 1, 1) := by decide +kernel
theorem d_92_8 : decode m92.2.1 8 = .ok (.goto 4, 3) := by decide +kernel
theorem d_92_11 : decode m92.2.1 11 = .ok (.iconst 0, 1) := by decide +kernel
theorem d_92_12 : decode m92.2.1 12 = .ok (.ireturn, 1) := by decide +kernel
theorem d_93_0 : decode m93.2.1 0 = .ok (.aload_n 0, 1) := by decide +kernel
theorem d_93_1 : decode m93.2.1 1 = .ok (.getfield 18, 3) := by decide +kernel
theorem d_93_4 : decode m93.2.1 4 = .ok (.iconst 0, 1) := by decide +kernel
theorem d_93_5 : decode m93.2.1 5 = .ok (.iload_n 1, 1) := by decide +kernel
theorem d_93_6 : decode m93.2.1 6 = .ok (.iastore, 1) := by decide +kernel
theorem d_93_7 : decode m93.2.1 7 = .ok (.aload_n 0, 1) := by decide +kernel
theorem d_93_8 : decode m93.2.1 8 = .ok (.getfield 18, 3) := by decide +kernel
theorem d_93_11 : decode m93.2.1 11 = .ok (.iconst 1, 1) := by decide +kernel
theorem d_93_12 : decode m93.2.1 12 = .ok (.iload_n 2, 1) := by decide +kernel
theorem d_93_13 : decode m93.2.1 13 = .ok (.iastore, 1) := by decide +kernel
theorem d_93_14 : decode m93.2.1 14 = .ok (.aload_n 0, 1) := by decide +kernel
theorem d_93_15 : decode m93.2.1 15 = .ok (.getfield 18, 3) := by decide +kernel
theorem d_93_18 : decode m93.2.1 18 = .ok (.iconst 2, 1) := by decide +kernel
theorem d_93_19 : decode m93.2.1 19 = .ok (.iload_n 3, 1) := by decide +kernel
theorem d_93_20 : decode m93.2.1 20 = .ok (.iastore, 1) := by decide +kernel
theorem d_93_21 : decode m93.2.1 21 = .ok (.aload_n 0, 1) := by decide +kernel
theorem d_93_22 : decode m93.2.1 22 = .ok (.getfield 18, 3) := by decide +kernel
theorem d_93_25 : decode m93.2.1 25 = .ok (.iconst 3, 1) := by decide +kernel
theorem d_93_26 : decode m93.2.1 26 = .ok (.iload 4, 2) := by decide +kernel
theorem d_93_28 : decode m93.2.1 28 = .ok (.iastore, 1) := by decide +kernel
theorem d_93_29 : decode m93.2.1 29 = .ok (.aload_n 0, 1) := by decide +kernel
theorem d_93_30 : decode m93.2.1 30 = .ok (.getfield 18, 3) := by decide +kernel
theorem d_93_33 : decode m93.2.1 33 = .ok (.iconst 4, 1) := by decide +kernel
theorem d_93_34 : decode m93.2.1 34 = .ok (.iload 5, 2) := by decide +kernel
theorem d_93_36 : decode m93.2.1 36 = .ok (.iastore, 1) := by decide +kernel
theorem d_93_37 : decode m93.2.1 37 = .ok (.aload_n 0, 1) := by decide +kernel
theorem d_93_38 : decode m93.2.1 38 = .ok (.getfield 18, 3) := by decide +kernel
theorem d_93_41 : decode m93.2.1 41 = .ok (.iconst 5, 1) := by decide +kernel
theorem d_93_42 : decode m93.2.1 42 = .ok (.iload 6, 2) := by decide +kernel
theorem d_93_44 : decode m93.2.1 44 = .ok (.iastore, 1) := by decide +kernel
theorem d_93_45 : decode m93.2.1 45 = .ok (.aload_n 0, 1) := by decide +kernel
theorem d_93_46 : decode m93.2.1 46 = .ok (.iconst 0, 1) := by decide +kernel
theorem d_93_47 : decode m93.2.1 47 = .ok (.putfield 28, 3) := by decide +kernel
theorem d_93_50 : decode m93.2.1 50 = .ok (.iconst 0, 1) := by decide +kernel
theorem d_93_51 : decode m93.2.1 51 = .ok (.istore 7, 2) := by decide +kernel
theorem d_93_53 : decode m93.2.1 53 = .ok (.iload 7, 2) := by decide +kernel
theorem d_93_55 : decode m93.2.1 55 = .ok (.aload_n 0, 1) := by decide +kernel
theorem d_93_56 : decode m93.2.1 56 = .ok (.getfield 25, 3) := by decide +kernel
theorem d_93_59 : decode m93.2.1 59 = .ok (.if_icmp .ge 20, 3) := by decide +kernel
theorem d_93_62 : decode m93.2.1 62 = .ok (.aload_n 0, 1) := by decide +kernel
theorem d_93_63 : decode m93.2.1 63 = .ok (.aload_n 0, 1) := by decide +kernel
theorem d_93_64 : decode m93.2.1 64 = .ok (.getfield 9, 3) := by decide +kernel
theorem d_93_67 : decode m93.2.1 67 = .ok (.iload 7, 2) := by decide +kernel
theorem d_93_69 : decode m93.2.1 69 = .ok (.iaload, 1) := by decide +kernel
theorem d_93_70 : decode m93.2.1 70 = .ok (.invokevirtual 31, 3) := by decide +kernel
theorem d_93_73 : decode m93.2.1 73 = .ok (.iinc 7 1, 3) := by decide +kernel
theorem d_93_76 : decode m93.2.1 76 = .ok (.goto (-23), 3) := by decide +kernel
theorem d_93_79 : decode m93.2.1 79 = .ok (.aload_n 0, 1) := by decide +kernel
theorem d_93_80 : decode m93.2.1 80 = .ok (.getfield 28, 3) := by decide +kernel
theorem d_93_83 : decode m93.2.1 83 = .ok (.ifCond .le 12, 3) := by decide +kernel
theorem d_93_86 : decode m93.2.1 86 = .ok (.aload_n 0, 1) := by decide +kernel
theorem d_93_87 : decode m93.2.1 87 = .ok (.getfield 13, 3) := by decide +kernel
theorem d_93_90 : decode m93.2.1 90 = .ok (.iconst 0, 1) := by decide +kernel
theorem d_93_91 : decode m93.2.1 91 = .ok (.iaload, 1) := by decide +kernel
theorem d_93_92 : decode m93.2.1 92 = .ok (.goto 4, 3) := by decide +kernel
theorem d_93_95 : decode m93.2.1 95 = .ok (.iconst 0, 1) := by decide +kernel
theorem d_93_96 : decode m93.2.1 96 = .ok (.ireturn, 1) := by decide +kernel
theorem d_94_0 : decode m94.2.1 0 = .ok (.iload_n 1, 1) := by decide +kernel
theorem d_94_1 : decode m94.2.1 1 = .ok (.ineg, 1) := by decide +kernel
theorem d_94_2 : decode m94.2.1 2 = .ok (.istore_n 2, 1) := by decide +kernel
theorem d_94_3 : decode m94.2.1 3 = .ok (.iload_n 1, 1) := by decide +kernel
theorem d_94_4 : decode m94.2.1 4 = .ok (.ifCond .lt 11, 3) := by decide +kernel
theorem d_94_7 : decode m94.2.1 7 = .ok (.aload_n 0, 1) := by decide +kernel
theorem d_94_8 : decode m94.2.1 8 = .ok (.iload_n 1, 1) := by decide +kernel
theorem d_94_9 : decode m94.2.1 9 = .ok (.invokevirtual 35, 3) := by decide +kernel
theorem d_94_12 : decode m94.2.1 12 = .ok (.goto 130, 3) := by decide +kernel
theorem d_94_15 : decode m94.2.1 15 = .ok (.iload_n 2, 1) := by decide +kernel
theorem d_94_16 : decode m94.2.1 16 = .ok (.bipush 15, 2) := by decide +kernel
theorem d_94_18 : decode m94.2.1 18 = .ok (.if_icmp .lt 25, 3) := by decide +kernel
theorem d_94_21 : decode m94.2.1 21 = .ok (.iload_n 2, 1) := by decide +kernel
theorem d_94_22 : decode m94.2.1 22 = .ok (.bipush 20, 2) := by decide +kernel
theorem d_94_24 : decode m94.2.1 24 = .ok (.if_icmp .gt 19, 3) := by decide +kernel
theorem d_94_27 : decode m94.2.1 27 = .ok (.aload_n 0, 1) := by decide +kernel
theorem d_94_28 : decode m94.2.1 28 = .ok (.aload_n 0, 1) := by decide +kernel
theorem d_94_29 : decode m94.2.1 29 = .ok (.getfield 18, 3) := by decide +kernel
theorem d_94_32 : decode m94.2.1 32 = .ok (.iload_n 2, 1) := by decide +kernel
theorem d_94_33 : decode m94.2.1 33 = .ok (.bipush 15, 2) := by decide +kernel
theorem d_94_35 : decode m94.2.1 35 = .ok (.isub, 1) := by decide +kernel
theorem d_94_36 : decode m94.2.1 36 = .ok (.iaload, 1) := by decide +kernel
theorem d_94_37 : decode m94.2.1 37 = .ok (.invokevirtual 35, 3) := by decide +kernel
theorem d_94_40 : decode m94.2.1 40 = .ok (.goto 102, 3) := by decide +kernel
theorem d_94_43 : decode m94.2.1 43 = .ok (.iload_n 2, 1) := by decide +kernel
theorem d_94_44 : decode m94.2.1 44 = .ok (.bipush 14, 2) := by decide +kernel
theorem d_94_46 : decode m94.2.1 46 = .ok (.if_icmp .ne 43, 3) := by decide +kernel
theorem d_94_49 : decode m94.2.1 49 = .ok (.aload_n 0, 1) := by decide +kernel
theorem d_94_50 : decode m94.2.1 50 = .ok (.getfield 28, 3) := by decide +kernel
theorem d_94_53 : decode m94.2.1 53 = .ok (.ifCond .le 36, 3) := by decide +kernel
theorem d_94_56 : decode m94.2.1 56 = .ok (.aload_n 0, 1) := by decide +kernel
theorem d_94_57 : decode m94.2.1 57 = .ok (.getfield 13, 3) := by decide +kernel
theorem d_94_60 : decode m94.2.1 60 = .ok (.aload_n 0, 1) := by decide +kernel
theorem d_94_61 : decode m94.2.1 61 = .ok (.getfield 28, 3) := by decide +kernel
theorem d_94_64 : decode m94.2.1 64 = .ok (.iconst 1, 1) := by decide +kernel
theorem d_94_65 : decode m94.2.1 65 = .ok (.isub, 1) := by decide +kernel
theorem d_94_66 : decode m94.2.1 66 = .ok (.aload_n 0, 1) := by decide +kernel
theorem d_94_67 : decode m94.2.1 67 = .ok (.getfield 13, 3) := by decide +kernel
theorem d_94_70 : decode m94.2.1 70 = .ok (.aload_n 0, 1) := by decide +kernel
theorem d_94_71 : decode m94.2.1 71 = .ok (.getfield 28, 3) := by decide +kernel
theorem d_94_74 : decode m94.2.1 74 = .ok (.iconst 1, 1) := by decide +kernel
theorem d_94_75 : decode m94.2.1 75 = .ok (.isub, 1) := by decide +kernel
theorem d_94_76 : decode m94.2.1 76 = .ok (.iaload, 1) := by decide +kernel
theorem d_94_77 : decode m94.2.1 77 = .ok (.ifCond .ne 7, 3) := by decide +kernel
theorem d_94_80 : decode m94.2.1 80 = .ok (.iconst 1, 1) := by decide +kernel
theorem d_94_81 : decode m94.2.1 81 = .ok (.goto 4, 3) := by decide +kernel
theorem d_94_84 : decode m94.2.1 84 = .ok (.iconst 0, 1) := by decide +kernel
theorem d_94_85 : decode m94.2.1 85 = .ok (.iastore, 1) := by decide +kernel
theorem d_94_86 : decode m94.2.1 86 = .ok (.goto 56, 3) := by decide +kernel
theorem d_94_89 : decode m94.2.1 89 = .ok (.aload_n 0, 1) := by decide +kernel
theorem d_94_90 : decode m94.2.1 90 = .ok (.getfield 28, 3) := by decide +kernel
theorem d_94_93 : decode m94.2.1 93 = .ok (.iconst 1, 1) := by decide +kernel
theorem d_94_94 : decode m94.2.1 94 = .ok (.if_icmp .le 48, 3) := by decide +kernel
theorem d_94_97 : decode m94.2.1 97 = .ok (.aload_n 0, 1) := by decide +kernel
theorem d_94_98 : decode m94.2.1 98 = .ok (.dup, 1) := by decide +kernel
theorem d_94_99 : decode m94.2.1 99 = .ok (.getfield 28, 3) := by decide +kernel
theorem d_94_102 : decode m94.2.1 102 = .ok (.iconst 1, 1) := by decide +kernel
theorem d_94_103 : decode m94.2.1 103 = .ok (.isub, 1) := by decide +kernel
theorem d_94_104 : decode m94.2.1 104 = .ok (.putfield 28, 3) := by decide +kernel
theorem d_94_107 : decode m94.2.1 107 = .ok (.aload_n 0, 1) := by decide +kernel
theorem d_94_108 : decode m94.2.1 108 = .ok (.getfield 13, 3) := by decide +kernel
theorem d_94_111 : decode m94.2.1 111 = .ok (.aload_n 0, 1) := by decide +kernel
theorem d_94_112 : decode m94.2.1 112 = .ok (.getfield 28, 3) := by decide +kernel
theorem d_94_115 : decode m94.2.1 115 = .ok (.iconst 1, 1) := by decide +kernel
theorem d_94_116 : decode m94.2.1 116 = .ok (.isub, 1) := by decide +kernel
theorem d_94_117 : decode m94.2.1 117 = .ok (.iload_n 2, 1) := by decide +kernel
theorem d_94_118 : decode m94.2.1 118 = .ok (.aload_n 0, 1) := by decide +kernel
theorem d_94_119 : decode m94.2.1 119 = .ok (.getfield 13, 3) := by decide +kernel
theorem d_94_122 : decode m94.2.1 122 = .ok (.aload_n 0, 1) := by decide +kernel
theorem d_94_123 : decode m94.2.1 123 = .ok (.getfield 28, 3) := by decide +kernel
theorem d_94_126 : decode m94.2.1 126 = .ok (.iconst 1, 1) := by decide +kernel
theorem d_94_127 : decode m94.2.1 127 = .ok (.isub, 1) := by decide +kernel
theorem d_94_128 : decode m94.2.1 128 = .ok (.iaload, 1) := by decide +kernel
theorem d_94_129 : decode m94.2.1 129 = .ok (.aload_n 0, 1) := by decide +kernel
theorem d_94_130 : decode m94.2.1 130 = .ok (.getfield 13, 3) := by decide +kernel
theorem d_94_133 : decode m94.2.1 133 = .ok (.aload_n 0, 1) := by decide +kernel
theorem d_94_134 : decode m94.2.1 134 = .ok (.getfield 28, 3) := by decide +kernel
theorem d_94_137 : decode m94.2.1 137 = .ok (.iaload, 1) := by decide +kernel
theorem d_94_138 : decode m94.2.1 138 = .ok (.invokestatic 38, 3) := by decide +kernel
theorem d_94_141 : decode m94.2.1 141 = .ok (.iastore, 1) := by decide +kernel
theorem d_94_142 : decode m94.2.1 142 = .ok (.return_, 1) := by decide +kernel
theorem d_95_0 : decode m95.2.1 0 = .ok (.aload_n 0, 1) := by decide +kernel
theorem d_95_1 : decode m95.2.1 1 = .ok (.getfield 28, 3) := by decide +kernel
theorem d_95_4 : decode m95.2.1 4 = .ok (.aload_n 0, 1) := by decide +kernel
theorem d_95_5 : decode m95.2.1 5 = .ok (.getfield 13, 3) := by decide +kernel
theorem d_95_8 : decode m95.2.1 8 = .ok (.arraylength, 1) := by decide +kernel
theorem d_95_9 : decode m95.2.1 9 = .ok (.if_icmp .ge 23, 3) := by decide +kernel
theorem d_95_12 : decode m95.2.1 12 = .ok (.aload_n 0, 1) := by decide +kernel
theorem d_95_13 : decode m95.2.1 13 = .ok (.getfield 13, 3) := by decide +kernel
theorem d_95_16 : decode m95.2.1 16 = .ok (.aload_n 0, 1) := by decide +kernel
theorem d_95_17 : decode m95.2.1 17 = .ok (.getfield 28, 3) := by decide +kernel
theorem d_95_20 : decode m95.2.1 20 = .ok (.iload_n 1, 1) := by decide +kernel
theorem d_95_21 : decode m95.2.1 21 = .ok (.iastore, 1) := by decide +kernel
theorem d_95_22 : decode m95.2.1 22 = .ok (.aload_n 0, 1) := by decide +kernel
theorem d_95_23 : decode m95.2.1 23 = .ok (.dup, 1) := by decide +kernel
theorem d_95_24 : decode m95.2.1 24 = .ok (.getfield 28, 3) := by decide +kernel
theorem d_95_27 : decode m95.2.1 27 = .ok (.iconst 1, 1) := by decide +kernel
theorem d_95_28 : decode m95.2.1 28 = .ok (.iadd, 1) := by decide +kernel
theorem d_95_29 : decode m95.2.1 29 = .ok (.putfield 28, 3) := by decide +kernel
theorem d_95_32 : decode m95.2.1 32 = .ok (.return_, 1) := by decide +kernel
theorem d_96_0 : decode m96.2.1 0 = .ok (.iload_n 0, 1) := by decide +kernel
theorem d_96_1 : decode m96.2.1 1 = .ok (.lookupswitch 188 #[(12, 174), (13, 160), (37, 115), (42, 99), (43, 91), (45, 95), (47, 103), (60, 127), (61, 149), (62, 138)], 91) := by decide +kernel
theorem d_96_92 : decode m96.2.1 92 = .ok (.iload_n 1, 1) := by decide +kernel
theorem d_96_93 : decode m96.2.1 93 = .ok (.iload_n 2, 1) := by decide +kernel
theorem d_96_94 : decode m96.2.1 94 = .ok (.iadd, 1) := by decide +kernel
theorem d_96_95 : decode m96.2.1 95 = .ok (.ireturn, 1) := by decide +kernel
theorem d_96_96 : decode m96.2.1 96 = .ok (.iload_n 1, 1) := by decide +kernel
theorem d_96_97 : decode m96.2.1 97 = .ok (.iload_n 2, 1) := by decide +kernel
theorem d_96_98 : decode m96.2.1 98 = .ok (.isub, 1) := by decide +kernel
theorem d_96_99 : decode m96.2.1 99 = .ok (.ireturn, 1) := by decide +kernel
theorem d_96_100 : decode m96.2.1 100 = .ok (.iload_n 1, 1) := by decide +kernel
theorem d_96_101 : decode m96.2.1 101 = .ok (.iload_n 2, 1) := by decide +kernel
theorem d_96_102 : decode m96.2.1 102 = .ok (.imul, 1) := by decide +kernel
theorem d_96_103 : decode m96.2.1 103 = .ok (.ireturn, 1) := by decide +kernel
theorem d_96_104 : decode m96.2.1 104 = .ok (.iload_n 2, 1) := by decide +kernel
theorem d_96_105 : decode m96.2.1 105 = .ok (.ifCond .ne 7, 3) := by decide +kernel
theorem d_96_108 : decode m96.2.1 108 = .ok (.iconst 0, 1) := by decide +kernel
theorem d_96_109 : decode m96.2.1 109 = .ok (.goto 6, 3) := by decide +kernel
theorem d_96_112 : decode m96.2.1 112 = .ok (.iload_n 1, 1) := by decide +kernel
theorem d_96_113 : decode m96.2.1 113 = .ok (.iload_n 2, 1) := by decide +kernel
theorem d_96_114 : decode m96.2.1 114 = .ok (.idiv, 1) := by decide +kernel
theorem d_96_115 : decode m96.2.1 115 = .ok (.ireturn, 1) := by decide +kernel
theorem d_96_116 : decode m96.2.1 116 = .ok (.iload_n 2, 1) := by decide +kernel
theorem d_96_117 : decode m96.2.1 117 = .ok (.ifCond .ne 7, 3) := by decide +kernel
theorem d_96_120 : decode m96.2.1 120 = .ok (.iconst 0, 1) := by decide +kernel
theorem d_96_121 : decode m96.2.1 121 = .ok (.goto 6, 3) := by decide +kernel
theorem d_96_124 : decode m96.2.1 124 = .ok (.iload_n 1, 1) := by decide +kernel
theorem d_96_125 : decode m96.2.1 125 = .ok (.iload_n 2, 1) := by decide +kernel
theorem d_96_126 : decode m96.2.1 126 = .ok (.irem, 1) := by decide +kernel
theorem d_96_127 : decode m96.2.1 127 = .ok (.ireturn, 1) := by decide +kernel
theorem d_96_128 : decode m96.2.1 128 = .ok (.iload_n 1, 1) := by decide +kernel
theorem d_96_129 : decode m96.2.1 129 = .ok (.iload_n 2, 1) := by decide +kernel
theorem d_96_130 : decode m96.2.1 130 = .ok (.if_icmp .ge 7, 3) := by decide +kernel
theorem d_96_133 : decode m96.2.1 133 = .ok (.iconst 1, 1) := by decide +kernel
theorem d_96_134 : decode m96.2.1 134 = .ok (.goto 4, 3) := by decide +kernel
theorem d_96_137 : decode m96.2.1 137 = .ok (.iconst 0, 1) := by decide +kernel
theorem d_96_138 : decode m96.2.1 138 = .ok (.ireturn, 1) := by decide +kernel
theorem d_96_139 : decode m96.2.1 139 = .ok (.iload_n 1, 1) := by decide +kernel
theorem d_96_140 : decode m96.2.1 140 = .ok (.iload_n 2, 1) := by decide +kernel
theorem d_96_141 : decode m96.2.1 141 = .ok (.if_icmp .le 7, 3) := by decide +kernel
theorem d_96_144 : decode m96.2.1 144 = .ok (.iconst 1, 1) := by decide +kernel
theorem d_96_145 : decode m96.2.1 145 = .ok (.goto 4, 3) := by decide +kernel
theorem d_96_148 : decode m96.2.1 148 = .ok (.iconst 0, 1) := by decide +kernel
theorem d_96_149 : decode m96.2.1 149 = .ok (.ireturn, 1) := by decide +kernel
theorem d_96_150 : decode m96.2.1 150 = .ok (.iload_n 1, 1) := by decide +kernel
theorem d_96_151 : decode m96.2.1 151 = .ok (.iload_n 2, 1) := by decide +kernel
theorem d_96_152 : decode m96.2.1 152 = .ok (.if_icmp .ne 7, 3) := by decide +kernel
theorem d_96_155 : decode m96.2.1 155 = .ok (.iconst 1, 1) := by decide +kernel
theorem d_96_156 : decode m96.2.1 156 = .ok (.goto 4, 3) := by decide +kernel
theorem d_96_159 : decode m96.2.1 159 = .ok (.iconst 0, 1) := by decide +kernel
theorem d_96_160 : decode m96.2.1 160 = .ok (.ireturn, 1) := by decide +kernel
theorem d_96_161 : decode m96.2.1 161 = .ok (.iload_n 1, 1) := by decide +kernel
theorem d_96_162 : decode m96.2.1 162 = .ok (.ifCond .eq 11, 3) := by decide +kernel
theorem d_96_165 : decode m96.2.1 165 = .ok (.iload_n 2, 1) := by decide +kernel
theorem d_96_166 : decode m96.2.1 166 = .ok (.ifCond .eq 7, 3) := by decide +kernel
theorem d_96_169 : decode m96.2.1 169 = .ok (.iconst 1, 1) := by decide +kernel
theorem d_96_170 : decode m96.2.1 170 = .ok (.goto 4, 3) := by decide +kernel
theorem d_96_173 : decode m96.2.1 173 = .ok (.iconst 0, 1) := by decide +kernel
theorem d_96_174 : decode m96.2.1 174 = .ok (.ireturn, 1) := by decide +kernel
theorem d_96_175 : decode m96.2.1 175 = .ok (.iload_n 1, 1) := by decide +kernel
theorem d_96_176 : decode m96.2.1 176 = .ok (.ifCond .ne 7, 3) := by decide +kernel
theorem d_96_179 : decode m96.2.1 179 = .ok (.iload_n 2, 1) := by decide +kernel
theorem d_96_180 : decode m96.2.1 180 = .ok (.ifCond .eq 7, 3) := by decide +kernel
theorem d_96_183 : decode m96.2.1 183 = .ok (.iconst 1, 1) := by decide +kernel
theorem d_96_184 : decode m96.2.1 184 = .ok (.goto 4, 3) := by decide +kernel
theorem d_96_187 : decode m96.2.1 187 = .ok (.iconst 0, 1) := by decide +kernel
theorem d_96_188 : decode m96.2.1 188 = .ok (.ireturn, 1) := by decide +kernel
theorem d_96_189 : decode m96.2.1 189 = .ok (.iconst 0, 1) := by decide +kernel
theorem d_96_190 : decode m96.2.1 190 = .ok (.ireturn, 1) := by decide +kernel
theorem d_98_0 : decode m98.2.1 0 = .ok (.iconst 0, 1) := by decide +kernel
theorem d_98_1 : decode m98.2.1 1 = .ok (.istore_n 2, 1) := by decide +kernel
theorem d_98_2 : decode m98.2.1 2 = .ok (.iconst 0, 1) := by decide +kernel
theorem d_98_3 : decode m98.2.1 3 = .ok (.istore_n 3, 1) := by decide +kernel
theorem d_98_4 : decode m98.2.1 4 = .ok (.iload_n 3, 1) := by decide +kernel
theorem d_98_5 : decode m98.2.1 5 = .ok (.aload_n 0, 1) := by decide +kernel
theorem d_98_6 : decode m98.2.1 6 = .ok (.getfield 66, 3) := by decide +kernel
theorem d_98_9 : decode m98.2.1 9 = .ok (.if_icmp .ge 25, 3) := by decide +kernel
theorem d_98_12 : decode m98.2.1 12 = .ok (.aload_n 0, 1) := by decide +kernel
theorem d_98_13 : decode m98.2.1 13 = .ok (.getfield 22, 3) := by decide +kernel
theorem d_98_16 : decode m98.2.1 16 = .ok (.iload_n 3, 1) := by decide +kernel
theorem d_98_17 : decode m98.2.1 17 = .ok (.iaload, 1) := by decide +kernel
theorem d_98_18 : decode m98.2.1 18 = .ok (.iload_n 1, 1) := by decide +kernel
theorem d_98_19 : decode m98.2.1 19 = .ok (.if_icmp .ne 9, 3) := by decide +kernel
theorem d_98_22 : decode m98.2.1 22 = .ok (.iload_n 2, 1) := by decide +kernel
theorem d_98_23 : decode m98.2.1 23 = .ok (.iconst 1, 1) := by decide +kernel
theorem d_98_24 : decode m98.2.1 24 = .ok (.iload_n 3, 1) := by decide +kernel
theorem d_98_25 : decode m98.2.1 25 = .ok (.ishl, 1) := by decide +kernel
theorem d_98_26 : decode m98.2.1 26 = .ok (.ior, 1) := by decide +kernel
theorem d_98_27 : decode m98.2.1 27 = .ok (.istore_n 2, 1) := by decide +kernel
theorem d_98_28 : decode m98.2.1 28 = .ok (.iinc 3 1, 3) := by decide +kernel
theorem d_98_31 : decode m98.2.1 31 = .ok (.goto (-27), 3) := by decide +kernel
theorem d_98_34 : decode m98.2.1 34 = .ok (.iload_n 2, 1) := by decide +kernel
theorem d_98_35 : decode m98.2.1 35 = .ok (.ireturn, 1) := by decide +kernel
theorem d_100_0 : decode m100.2.1 0 = .ok (.iconst 0, 1) := by decide +kernel
theorem d_100_1 : decode m100.2.1 1 = .ok (.istore_n 2, 1) := by decide +kernel
theorem d_100_2 : decode m100.2.1 2 = .ok (.iconst 0, 1) := by decide +kernel
theorem d_100_3 : decode m100.2.1 3 = .ok (.istore_n 3, 1) := by decide +kernel
theorem d_100_4 : decode m100.2.1 4 = .ok (.iload_n 3, 1) := by decide +kernel
theorem d_100_5 : decode m100.2.1 5 = .ok (.bipush 10, 2) := by decide +kernel
theorem d_100_7 : decode m100.2.1 7 = .ok (.if_icmp .ge 25, 3) := by decide +kernel
theorem d_100_10 : decode m100.2.1 10 = .ok (.aload_n 0, 1) := by decide +kernel
theorem d_100_11 : decode m100.2.1 11 = .ok (.getfield 9, 3) := by decide +kernel
theorem d_100_14 : decode m100.2.1 14 = .ok (.iload_n 3, 1) := by decide +kernel
theorem d_100_15 : decode m100.2.1 15 = .ok (.iaload, 1) := by decide +kernel
theorem d_100_16 : decode m100.2.1 16 = .ok (.iload_n 1, 1) := by decide +kernel
theorem d_100_17 : decode m100.2.1 17 = .ok (.if_icmp .ne 9, 3) := by decide +kernel
theorem d_100_20 : decode m100.2.1 20 = .ok (.iload_n 2, 1) := by decide +kernel
theorem d_100_21 : decode m100.2.1 21 = .ok (.iconst 1, 1) := by decide +kernel
theorem d_100_22 : decode m100.2.1 22 = .ok (.iload_n 3, 1) := by decide +kernel
theorem d_100_23 : decode m100.2.1 23 = .ok (.ishl, 1) := by decide +kernel
theorem d_100_24 : decode m100.2.1 24 = .ok (.ior, 1) := by decide +kernel
theorem d_100_25 : decode m100.2.1 25 = .ok (.istore_n 2, 1) := by decide +kernel
theorem d_100_26 : decode m100.2.1 26 = .ok (.iinc 3 1, 3) := by decide +kernel
theorem d_100_29 : decode m100.2.1 29 = .ok (.goto (-25), 3) := by decide +kernel
theorem d_100_32 : decode m100.2.1 32 = .ok (.iload_n 2, 1) := by decide +kernel
theorem d_100_33 : decode m100.2.1 33 = .ok (.ireturn, 1) := by decide +kernel
theorem d_105_0 : decode m105.2.1 0 = .ok (.aload_n 0, 1) := by decide +kernel
theorem d_105_1 : decode m105.2.1 1 = .ok (.aload_n 1, 1) := by decide +kernel
theorem d_105_2 : decode m105.2.1 2 = .ok (.getfield 24, 3) := by decide +kernel
theorem d_105_5 : decode m105.2.1 5 = .ok (.putfield 30, 3) := by decide +kernel
theorem d_105_8 : decode m105.2.1 8 = .ok (.aload_n 0, 1) := by decide +kernel
theorem d_105_9 : decode m105.2.1 9 = .ok (.aload_n 1, 1) := by decide +kernel
theorem d_105_10 : decode m105.2.1 10 = .ok (.getfield 31, 3) := by decide +kernel
theorem d_105_13 : decode m105.2.1 13 = .ok (.putfield 34, 3) := by decide +kernel
theorem d_105_16 : decode m105.2.1 16 = .ok (.aload_n 0, 1) := by decide +kernel
theorem d_105_17 : decode m105.2.1 17 = .ok (.aload_n 1, 1) := by decide +kernel
theorem d_105_18 : decode m105.2.1 18 = .ok (.getfield 35, 3) := by decide +kernel
theorem d_105_21 : decode m105.2.1 21 = .ok (.putfield 38, 3) := by decide +kernel
theorem d_105_24 : decode m105.2.1 24 = .ok (.aload_n 0, 1) := by decide +kernel
theorem d_105_25 : decode m105.2.1 25 = .ok (.aload_n 1, 1) := by decide +kernel
theorem d_105_26 : decode m105.2.1 26 = .ok (.getfield 39, 3) := by decide +kernel
theorem d_105_29 : decode m105.2.1 29 = .ok (.putfield 42, 3) := by decide +kernel
theorem d_105_32 : decode m105.2.1 32 = .ok (.aload_n 0, 1) := by decide +kernel
theorem d_105_33 : decode m105.2.1 33 = .ok (.aload_n 1, 1) := by decide +kernel
theorem d_105_34 : decode m105.2.1 34 = .ok (.getfield 43, 3) := by decide +kernel
theorem d_105_37 : decode m105.2.1 37 = .ok (.putfield 46, 3) := by decide +kernel
theorem d_105_40 : decode m105.2.1 40 = .ok (.aload_n 0, 1) := by decide +kernel
theorem d_105_41 : decode m105.2.1 41 = .ok (.aload_n 2, 1) := by decide +kernel
theorem d_105_42 : decode m105.2.1 42 = .ok (.iconst 1, 1) := by decide +kernel
theorem d_105_43 : decode m105.2.1 43 = .ok (.invokevirtual 47, 3) := by decide +kernel
theorem d_105_46 : decode m105.2.1 46 = .ok (.putfield 53, 3) := by decide +kernel
theorem d_105_49 : decode m105.2.1 49 = .ok (.aload_n 0, 1) := by decide +kernel
theorem d_105_50 : decode m105.2.1 50 = .ok (.aload_n 2, 1) := by decide +kernel
theorem d_105_51 : decode m105.2.1 51 = .ok (.iconst 2, 1) := by decide +kernel
theorem d_105_52 : decode m105.2.1 52 = .ok (.invokevirtual 47, 3) := by decide +kernel
theorem d_105_55 : decode m105.2.1 55 = .ok (.putfield 56, 3) := by decide +kernel
theorem d_105_58 : decode m105.2.1 58 = .ok (.aload_n 0, 1) := by decide +kernel
theorem d_105_59 : decode m105.2.1 59 = .ok (.aload_n 2, 1) := by decide +kernel
theorem d_105_60 : decode m105.2.1 60 = .ok (.getfield 59, 3) := by decide +kernel
theorem d_105_63 : decode m105.2.1 63 = .ok (.putfield 62, 3) := by decide +kernel
theorem d_105_66 : decode m105.2.1 66 = .ok (.iconst 0, 1) := by decide +kernel
theorem d_105_67 : decode m105.2.1 67 = .ok (.istore_n 3, 1) := by decide +kernel
theorem d_105_68 : decode m105.2.1 68 = .ok (.iload_n 3, 1) := by decide +kernel
theorem d_105_69 : decode m105.2.1 69 = .ok (.aload_n 0, 1) := by decide +kernel
theorem d_105_70 : decode m105.2.1 70 = .ok (.getfield 34, 3) := by decide +kernel
theorem d_105_73 : decode m105.2.1 73 = .ok (.if_icmp .ge 45, 3) := by decide +kernel
theorem d_105_76 : decode m105.2.1 76 = .ok (.aload_n 0, 1) := by decide +kernel
theorem d_105_77 : decode m105.2.1 77 = .ok (.getfield 9, 3) := by decide +kernel
theorem d_105_80 : decode m105.2.1 80 = .ok (.iload_n 3, 1) := by decide +kernel
theorem d_105_81 : decode m105.2.1 81 = .ok (.aload_n 2, 1) := by decide +kernel
theorem d_105_82 : decode m105.2.1 82 = .ok (.getfield 63, 3) := by decide +kernel
theorem d_105_85 : decode m105.2.1 85 = .ok (.iload_n 3, 1) := by decide +kernel
theorem d_105_86 : decode m105.2.1 86 = .ok (.iaload, 1) := by decide +kernel
theorem d_105_87 : decode m105.2.1 87 = .ok (.iastore, 1) := by decide +kernel
theorem d_105_88 : decode m105.2.1 88 = .ok (.aload_n 0, 1) := by decide +kernel
theorem d_105_89 : decode m105.2.1 89 = .ok (.getfield 15, 3) := by decide +kernel
theorem d_105_92 : decode m105.2.1 92 = .ok (.iload_n 3, 1) := by decide +kernel
theorem d_105_93 : decode m105.2.1 93 = .ok (.aload_n 1, 1) := by decide +kernel
theorem d_105_94 : decode m105.2.1 94 = .ok (.getfield 64, 3) := by decide +kernel
theorem d_105_97 : decode m105.2.1 97 = .ok (.iload_n 3, 1) := by decide +kernel
theorem d_105_98 : decode m105.2.1 98 = .ok (.iaload, 1) := by decide +kernel
theorem d_105_99 : decode m105.2.1 99 = .ok (.iastore, 1) := by decide +kernel
theorem d_105_100 : decode m105.2.1 100 = .ok (.aload_n 0, 1) := by decide +kernel
theorem d_105_101 : decode m105.2.1 101 = .ok (.getfield 18, 3) := by decide +kernel
theorem d_105_104 : decode m105.2.1 104 = .ok (.iload_n 3, 1) := by decide +kernel
theorem d_105_105 : decode m105.2.1 105 = .ok (.aload_n 2, 1) := by decide +kernel
theorem d_105_106 : decode m105.2.1 106 = .ok (.getfield 65, 3) := by decide +kernel
theorem d_105_109 : decode m105.2.1 109 = .ok (.iload_n 3, 1) := by decide +kernel
theorem d_105_110 : decode m105.2.1 110 = .ok (.iaload, 1) := by decide +kernel
theorem d_105_111 : decode m105.2.1 111 = .ok (.iastore, 1) := by decide +kernel
theorem d_105_112 : decode m105.2.1 112 = .ok (.iinc 3 1, 3) := by decide +kernel
theorem d_105_115 : decode m105.2.1 115 = .ok (.goto (-47), 3) := by decide +kernel
theorem d_105_118 : decode m105.2.1 118 = .ok (.iconst 0, 1) := by decide +kernel
theorem d_105_119 : decode m105.2.1 119 = .ok (.istore_n 3, 1) := by decide +kernel
theorem d_105_120 : decode m105.2.1 120 = .ok (.iconst 0, 1) := by decide +kernel
theorem d_105_121 : decode m105.2.1 121 = .ok (.istore 4, 2) := by decide +kernel
theorem d_105_123 : decode m105.2.1 123 = .ok (.iload 4, 2) := by decide +kernel
theorem d_105_125 : decode m105.2.1 125 = .ok (.aload_n 0, 1) := by decide +kernel
theorem d_105_126 : decode m105.2.1 126 = .ok (.getfield 30, 3) := by decide +kernel
theorem d_105_129 : decode m105.2.1 129 = .ok (.if_icmp .ge 39, 3) := by decide +kernel
theorem d_105_132 : decode m105.2.1 132 = .ok (.aload_n 0, 1) := by decide +kernel
theorem d_105_133 : decode m105.2.1 133 = .ok (.iload 4, 2) := by decide +kernel
theorem d_105_135 : decode m105.2.1 135 = .ok (.invokevirtual 66, 3) := by decide +kernel
theorem d_105_138 : decode m105.2.1 138 = .ok (.ifCond .eq 8, 3) := by decide +kernel
theorem d_105_141 : decode m105.2.1 141 = .ok (.iload 4, 2) := by decide +kernel
theorem d_105_143 : decode m105.2.1 143 = .ok (.goto 4, 3) := by decide +kernel
theorem d_105_146 : decode m105.2.1 146 = .ok (.iload_n 3, 1) := by decide +kernel
theorem d_105_147 : decode m105.2.1 147 = .ok (.istore_n 3, 1) := by decide +kernel
theorem d_105_148 : decode m105.2.1 148 = .ok (.aload_n 0, 1) := by decide +kernel
theorem d_105_149 : decode m105.2.1 149 = .ok (.getfield 21, 3) := by decide +kernel
theorem d_105_152 : decode m105.2.1 152 = .ok (.iload 4, 2) := by decide +kernel
theorem d_105_154 : decode m105.2.1 154 = .ok (.aload_n 0, 1) := by decide +kernel
theorem d_105_155 : decode m105.2.1 155 = .ok (.iload_n 3, 1) := by decide +kernel
theorem d_105_156 : decode m105.2.1 156 = .ok (.iload 4, 2) := by decide +kernel
theorem d_105_158 : decode m105.2.1 158 = .ok (.invokevirtual 70, 3) := by decide +kernel
theorem d_105_161 : decode m105.2.1 161 = .ok (.iastore, 1) := by decide +kernel
theorem d_105_162 : decode m105.2.1 162 = .ok (.iinc 4 1, 3) := by decide +kernel
theorem d_105_165 : decode m105.2.1 165 = .ok (.goto (-42), 3) := by decide +kernel
theorem d_105_168 : decode m105.2.1 168 = .ok (.return_, 1) := by decide +kernel
theorem d_106_0 : decode m106.2.1 0 = .ok (.aload_n 0, 1) := by decide +kernel
theorem d_106_1 : decode m106.2.1 1 = .ok (.getfield 62, 3) := by decide +kernel
theorem d_106_4 : decode m106.2.1 4 = .ok (.iload_n 1, 1) := by decide +kernel
theorem d_106_5 : decode m106.2.1 5 = .ok (.ishr, 1) := by decide +kernel
theorem d_106_6 : decode m106.2.1 6 = .ok (.iconst 1, 1) := by decide +kernel
theorem d_106_7 : decode m106.2.1 7 = .ok (.iand, 1) := by decide +kernel
theorem d_106_8 : decode m106.2.1 8 = .ok (.ifCond .eq 7, 3) := by decide +kernel
theorem d_106_11 : decode m106.2.1 11 = .ok (.iconst 1, 1) := by decide +kernel
theorem d_106_12 : decode m106.2.1 12 = .ok (.goto 4, 3) := by decide +kernel
theorem d_106_15 : decode m106.2.1 15 = .ok (.iconst 0, 1) := by decide +kernel
theorem d_106_16 : decode m106.2.1 16 = .ok (.ireturn, 1) := by decide +kernel
theorem d_107_0 : decode m107.2.1 0 = .ok (.iconst 0, 1) := by decide +kernel
theorem d_107_1 : decode m107.2.1 1 = .ok (.istore_n 3, 1) := by decide +kernel
theorem d_107_2 : decode m107.2.1 2 = .ok (.iconst 0, 1) := by decide +kernel
theorem d_107_3 : decode m107.2.1 3 = .ok (.istore 4, 2) := by decide +kernel
theorem d_107_5 : decode m107.2.1 5 = .ok (.iload 4, 2) := by decide +kernel
theorem d_107_7 : decode m107.2.1 7 = .ok (.aload_n 0, 1) := by decide +kernel
theorem d_107_8 : decode m107.2.1 8 = .ok (.getfield 34, 3) := by decide +kernel
theorem d_107_11 : decode m107.2.1 11 = .ok (.if_icmp .ge 51, 3) := by decide +kernel
theorem d_107_14 : decode m107.2.1 14 = .ok (.aload_n 0, 1) := by decide +kernel
theorem d_107_15 : decode m107.2.1 15 = .ok (.getfield 15, 3) := by decide +kernel
theorem d_107_18 : decode m107.2.1 18 = .ok (.iload 4, 2) := by decide +kernel
theorem d_107_20 : decode m107.2.1 20 = .ok (.iaload, 1) := by decide +kernel
theorem d_107_21 : decode m107.2.1 21 = .ok (.istore 5, 2) := by decide +kernel
theorem d_107_23 : decode m107.2.1 23 = .ok (.iload 5, 2) := by decide +kernel
theorem d_107_25 : decode m107.2.1 25 = .ok (.iload_n 1, 1) := by decide +kernel
theorem d_107_26 : decode m107.2.1 26 = .ok (.if_icmp .lt 30, 3) := by decide +kernel
theorem d_107_29 : decode m107.2.1 29 = .ok (.iload 5, 2) := by decide +kernel
theorem d_107_31 : decode m107.2.1 31 = .ok (.iload_n 2, 1) := by decide +kernel
theorem d_107_32 : decode m107.2.1 32 = .ok (.if_icmp .gt 24, 3) := by decide +kernel
theorem d_107_35 : decode m107.2.1 35 = .ok (.iload_n 2, 1) := by decide +kernel
theorem d_107_36 : decode m107.2.1 36 = .ok (.iload 5, 2) := by decide +kernel
theorem d_107_38 : decode m107.2.1 38 = .ok (.aload_n 0, 1) := by decide +kernel
theorem d_107_39 : decode m107.2.1 39 = .ok (.getfield 18, 3) := by decide +kernel
theorem d_107_42 : decode m107.2.1 42 = .ok (.iload 4, 2) := by decide +kernel
theorem d_107_44 : decode m107.2.1 44 = .ok (.iaload, 1) := by decide +kernel
theorem d_107_45 : decode m107.2.1 45 = .ok (.iadd, 1) := by decide +kernel
theorem d_107_46 : decode m107.2.1 46 = .ok (.if_icmp .ge 10, 3) := by decide +kernel
theorem d_107_49 : decode m107.2.1 49 = .ok (.iload_n 3, 1) := by decide +kernel
theorem d_107_50 : decode m107.2.1 50 = .ok (.iconst 1, 1) := by decide +kernel
theorem d_107_51 : decode m107.2.1 51 = .ok (.iload 4, 2) := by decide +kernel
theorem d_107_53 : decode m107.2.1 53 = .ok (.ishl, 1) := by decide +kernel
theorem d_107_54 : decode m107.2.1 54 = .ok (.ior, 1) := by decide +kernel
theorem d_107_55 : decode m107.2.1 55 = .ok (.istore_n 3, 1) := by decide +kernel
theorem d_107_56 : decode m107.2.1 56 = .ok (.iinc 4 1, 3) := by decide +kernel
theorem d_107_59 : decode m107.2.1 59 = .ok (.goto (-54), 3) := by decide +kernel
theorem d_107_62 : decode m107.2.1 62 = .ok (.iload_n 3, 1) := by decide +kernel
theorem d_107_63 : decode m107.2.1 63 = .ok (.ireturn, 1) := by decide +kernel
theorem d_108_0 : decode m108.2.1 0 = .ok (.aload_n 0, 1) := by decide +kernel
theorem d_108_1 : decode m108.2.1 1 = .ok (.iload_n 1, 1) := by decide +kernel
theorem d_108_2 : decode m108.2.1 2 = .ok (.invokevirtual 74, 3) := by decide +kernel
theorem d_108_5 : decode m108.2.1 5 = .ok (.aload_n 0, 1) := by decide +kernel
theorem d_108_6 : decode m108.2.1 6 = .ok (.iload_n 2, 1) := by decide +kernel
theorem d_108_7 : decode m108.2.1 7 = .ok (.invokevirtual 75, 3) := by decide +kernel
theorem d_108_10 : decode m108.2.1 10 = .ok (.iand, 1) := by decide +kernel
theorem d_108_11 : decode m108.2.1 11 = .ok (.ireturn, 1) := by decide +kernel
theorem d_109_0 : decode m109.2.1 0 = .ok (.iload_n 1, 1) := by decide +kernel
theorem d_109_1 : decode m109.2.1 1 = .ok (.iconst 1, 1) := by decide +kernel
theorem d_109_2 : decode m109.2.1 2 = .ok (.if_icmp .ne 10, 3) := by decide +kernel
theorem d_109_5 : decode m109.2.1 5 = .ok (.aload_n 0, 1) := by decide +kernel
theorem d_109_6 : decode m109.2.1 6 = .ok (.getfield 53, 3) := by decide +kernel
theorem d_109_9 : decode m109.2.1 9 = .ok (.goto 7, 3) := by decide +kernel
theorem d_109_12 : decode m109.2.1 12 = .ok (.aload_n 0, 1) := by decide +kernel
theorem d_109_13 : decode m109.2.1 13 = .ok (.getfield 56, 3) := by decide +kernel
theorem d_109_16 : decode m109.2.1 16 = .ok (.ireturn, 1) := by decide +kernel
theorem d_110_0 : decode m110.2.1 0 = .ok (.iload_n 1, 1) := by decide +kernel
theorem d_110_1 : decode m110.2.1 1 = .ok (.ifCond .lt 26, 3) := by decide +kernel
theorem d_110_4 : decode m110.2.1 4 = .ok (.iload_n 1, 1) := by decide +kernel
theorem d_110_5 : decode m110.2.1 5 = .ok (.aload_n 0, 1) := by decide +kernel
theorem d_110_6 : decode m110.2.1 6 = .ok (.getfield 30, 3) := by decide +kernel
theorem d_110_9 : decode m110.2.1 9 = .ok (.if_icmp .ge 18, 3) := by decide +kernel
theorem d_110_12 : decode m110.2.1 12 = .ok (.iload_n 1, 1) := by decide +kernel
theorem d_110_13 : decode m110.2.1 13 = .ok (.bipush 12, 2) := by decide +kernel
theorem d_110_15 : decode m110.2.1 15 = .ok (.if_icmp .ge 12, 3) := by decide +kernel
theorem d_110_18 : decode m110.2.1 18 = .ok (.aload_n 0, 1) := by decide +kernel
theorem d_110_19 : decode m110.2.1 19 = .ok (.getfield 21, 3) := by decide +kernel
theorem d_110_22 : decode m110.2.1 22 = .ok (.iload_n 1, 1) := by decide +kernel
theorem d_110_23 : decode m110.2.1 23 = .ok (.iaload, 1) := by decide +kernel
theorem d_110_24 : decode m110.2.1 24 = .ok (.goto 4, 3) := by decide +kernel
theorem d_110_27 : decode m110.2.1 27 = .ok (.iconst 0, 1) := by decide +kernel
theorem d_110_28 : decode m110.2.1 28 = .ok (.ireturn, 1) := by decide +kernel
theorem d_112_0 : decode m112.2.1 0 = .ok (.iconst 0, 1) := by decide +kernel
theorem d_112_1 : decode m112.2.1 1 = .ok (.istore_n 2, 1) := by decide +kernel
theorem d_112_2 : decode m112.2.1 2 = .ok (.iconst 0, 1) := by decide +kernel
theorem d_112_3 : decode m112.2.1 3 = .ok (.istore_n 3, 1) := by decide +kernel
theorem d_112_4 : decode m112.2.1 4 = .ok (.iload_n 3, 1) := by decide +kernel
theorem d_112_5 : decode m112.2.1 5 = .ok (.iload_n 1, 1) := by decide +kernel
theorem d_112_6 : decode m112.2.1 6 = .ok (.if_icmp .gt 37, 3) := by decide +kernel
theorem d_112_9 : decode m112.2.1 9 = .ok (.iload_n 3, 1) := by decide +kernel
theorem d_112_10 : decode m112.2.1 10 = .ok (.aload_n 0, 1) := by decide +kernel
theorem d_112_11 : decode m112.2.1 11 = .ok (.getfield 30, 3) := by decide +kernel
theorem d_112_14 : decode m112.2.1 14 = .ok (.if_icmp .ge 29, 3) := by decide +kernel
theorem d_112_17 : decode m112.2.1 17 = .ok (.aload_n 0, 1) := by decide +kernel
theorem d_112_18 : decode m112.2.1 18 = .ok (.iload_n 3, 1) := by decide +kernel
theorem d_112_19 : decode m112.2.1 19 = .ok (.invokevirtual 75, 3) := by decide +kernel
theorem d_112_22 : decode m112.2.1 22 = .ok (.aload_n 0, 1) := by decide +kernel
theorem d_112_23 : decode m112.2.1 23 = .ok (.iload_n 3, 1) := by decide +kernel
theorem d_112_24 : decode m112.2.1 24 = .ok (.invokevirtual 66, 3) := by decide +kernel
theorem d_112_27 : decode m112.2.1 27 = .ok (.ifCond .eq 7, 3) := by decide +kernel
theorem d_112_30 : decode m112.2.1 30 = .ok (.iload_n 2, 1) := by decide +kernel
theorem d_112_31 : decode m112.2.1 31 = .ok (.goto 4, 3) := by decide +kernel
theorem d_112_34 : decode m112.2.1 34 = .ok (.iconst 0, 1) := by decide +kernel
theorem d_112_35 : decode m112.2.1 35 = .ok (.ior, 1) := by decide +kernel
theorem d_112_36 : decode m112.2.1 36 = .ok (.istore_n 2, 1) := by decide +kernel
theorem d_112_37 : decode m112.2.1 37 = .ok (.iinc 3 1, 3) := by decide +kernel
theorem d_112_40 : decode m112.2.1 40 = .ok (.goto (-36), 3) := by decide +kernel
theorem d_112_43 : decode m112.2.1 43 = .ok (.iload_n 2, 1) := by decide +kernel
theorem d_112_44 : decode m112.2.1 44 = .ok (.aload_n 0, 1) := by decide +kernel
theorem d_112_45 : decode m112.2.1 45 = .ok (.getfield 53, 3) := by decide +kernel
theorem d_112_48 : decode m112.2.1 48 = .ok (.aload_n 0, 1) := by decide +kernel
theorem d_112_49 : decode m112.2.1 49 = .ok (.getfield 56, 3) := by decide +kernel
theorem d_112_52 : decode m112.2.1 52 = .ok (.ior, 1) := by decide +kernel
theorem d_112_53 : decode m112.2.1 53 = .ok (.iand, 1) := by decide +kernel
theorem d_112_54 : decode m112.2.1 54 = .ok (.ireturn, 1) := by decide +kernel
theorem d_114_0 : decode m114.2.1 0 = .ok (.aload_n 0, 1) := by decide +kernel
theorem d_114_1 : decode m114.2.1 1 = .ok (.iload_n 1, 1) := by decide +kernel
theorem d_114_2 : decode m114.2.1 2 = .ok (.iload_n 2, 1) := by decide +kernel
theorem d_114_3 : decode m114.2.1 3 = .ok (.aload_n 0, 1) := by decide +kernel
theorem d_114_4 : decode m114.2.1 4 = .ok (.iload_n 3, 1) := by decide +kernel
theorem d_114_5 : decode m114.2.1 5 = .ok (.iconst 1, 1) := by decide +kernel
theorem d_114_6 : decode m114.2.1 6 = .ok (.isub, 1) := by decide +kernel
theorem d_114_7 : decode m114.2.1 7 = .ok (.invokevirtual 75, 3) := by decide +kernel
theorem d_114_10 : decode m114.2.1 10 = .ok (.aload_n 0, 1) := by decide +kernel
theorem d_114_11 : decode m114.2.1 11 = .ok (.iload_n 3, 1) := by decide +kernel
theorem d_114_12 : decode m114.2.1 12 = .ok (.invokevirtual 75, 3) := by decide +kernel
theorem d_114_15 : decode m114.2.1 15 = .ok (.invokevirtual 100, 3) := by decide +kernel
theorem d_114_18 : decode m114.2.1 18 = .ok (.ireturn, 1) := by decide +kernel
theorem d_115_0 : decode m115.2.1 0 = .ok (.iload_n 1, 1) := by decide +kernel
theorem d_115_1 : decode m115.2.1 1 = .ok (.iload 4, 2) := by decide +kernel
theorem d_115_3 : decode m115.2.1 3 = .ok (.iand, 1) := by decide +kernel
theorem d_115_4 : decode m115.2.1 4 = .ok (.istore 5, 2) := by decide +kernel
theorem d_115_6 : decode m115.2.1 6 = .ok (.iload_n 2, 1) := by decide +kernel
theorem d_115_7 : decode m115.2.1 7 = .ok (.iload 4, 2) := by decide +kernel
theorem d_115_9 : decode m115.2.1 9 = .ok (.iand, 1) := by decide +kernel
theorem d_115_10 : decode m115.2.1 10 = .ok (.istore 6, 2) := by decide +kernel
theorem d_115_12 : decode m115.2.1 12 = .ok (.aload_n 0, 1) := by decide +kernel
theorem d_115_13 : decode m115.2.1 13 = .ok (.iload_n 1, 1) := by decide +kernel
theorem d_115_14 : decode m115.2.1 14 = .ok (.iload_n 3, 1) := by decide +kernel
theorem d_115_15 : decode m115.2.1 15 = .ok (.iand, 1) := by decide +kernel
theorem d_115_16 : decode m115.2.1 16 = .ok (.iload 5, 2) := by decide +kernel
theorem d_115_18 : decode m115.2.1 18 = .ok (.invokevirtual 94, 3) := by decide +kernel
theorem d_115_21 : decode m115.2.1 21 = .ok (.aload_n 0, 1) := by decide +kernel
theorem d_115_22 : decode m115.2.1 22 = .ok (.iload_n 2, 1) := by decide +kernel
theorem d_115_23 : decode m115.2.1 23 = .ok (.iload_n 3, 1) := by decide +kernel
theorem d_115_24 : decode m115.2.1 24 = .ok (.iand, 1) := by decide +kernel
theorem d_115_25 : decode m115.2.1 25 = .ok (.iload 6, 2) := by decide +kernel
theorem d_115_27 : decode m115.2.1 27 = .ok (.invokevirtual 94, 3) := by decide +kernel
theorem d_115_30 : decode m115.2.1 30 = .ok (.ior, 1) := by decide +kernel
theorem d_115_31 : decode m115.2.1 31 = .ok (.istore 7, 2) := by decide +kernel
theorem d_115_33 : decode m115.2.1 33 = .ok (.iload 5, 2) := by decide +kernel
theorem d_115_35 : decode m115.2.1 35 = .ok (.ifCond .eq 29, 3) := by decide +kernel
theorem d_115_38 : decode m115.2.1 38 = .ok (.iload 6, 2) := by decide +kernel
theorem d_115_40 : decode m115.2.1 40 = .ok (.ifCond .eq 24, 3) := by decide +kernel
theorem d_115_43 : decode m115.2.1 43 = .ok (.aload_n 0, 1) := by decide +kernel
theorem d_115_44 : decode m115.2.1 44 = .ok (.iload 5, 2) := by decide +kernel
theorem d_115_46 : decode m115.2.1 46 = .ok (.invokevirtual 78, 3) := by decide +kernel
theorem d_115_49 : decode m115.2.1 49 = .ok (.aload_n 0, 1) := by decide +kernel
theorem d_115_50 : decode m115.2.1 50 = .ok (.iload 6, 2) := by decide +kernel
theorem d_115_52 : decode m115.2.1 52 = .ok (.invokevirtual 81, 3) := by decide +kernel
theorem d_115_55 : decode m115.2.1 55 = .ok (.if_icmp .lt 9, 3) := by decide +kernel
theorem d_115_58 : decode m115.2.1 58 = .ok (.iload 7, 2) := by decide +kernel
theorem d_115_60 : decode m115.2.1 60 = .ok (.iconst 4, 1) := by decide +kernel
theorem d_115_61 : decode m115.2.1 61 = .ok (.ior, 1) := by decide +kernel
theorem d_115_62 : decode m115.2.1 62 = .ok (.istore 7, 2) := by decide +kernel
theorem d_115_64 : decode m115.2.1 64 = .ok (.iload 7, 2) := by decide +kernel
theorem d_115_66 : decode m115.2.1 66 = .ok (.aload_n 0, 1) := by decide +kernel
theorem d_115_67 : decode m115.2.1 67 = .ok (.iload 5, 2) := by decide +kernel
theorem d_115_69 : decode m115.2.1 69 = .ok (.iload 6, 2) := by decide +kernel
theorem d_115_71 : decode m115.2.1 71 = .ok (.ior, 1) := by decide +kernel
theorem d_115_72 : decode m115.2.1 72 = .ok (.invokevirtual 97, 3) := by decide +kernel
theorem d_115_75 : decode m115.2.1 75 = .ok (.ifCond .eq 8, 3) := by decide +kernel
theorem d_115_78 : decode m115.2.1 78 = .ok (.bipush 8, 2) := by decide +kernel
theorem d_115_80 : decode m115.2.1 80 = .ok (.goto 4, 3) := by decide +kernel
theorem d_115_83 : decode m115.2.1 83 = .ok (.iconst 0, 1) := by decide +kernel
theorem d_115_84 : decode m115.2.1 84 = .ok (.ior, 1) := by decide +kernel
theorem d_115_85 : decode m115.2.1 85 = .ok (.ireturn, 1) := by decide +kernel
theorem d_116_0 : decode m116.2.1 0 = .ok (.iload_n 2, 1) := by decide +kernel
theorem d_116_1 : decode m116.2.1 1 = .ok (.ifCond .ne 5, 3) := by decide +kernel
theorem d_116_4 : decode m116.2.1 4 = .ok (.iconst 0, 1) := by decide +kernel
theorem d_116_5 : decode m116.2.1 5 = .ok (.ireturn, 1) := by decide +kernel
theorem d_116_6 : decode m116.2.1 6 = .ok (.aload_n 0, 1) := by decide +kernel
theorem d_116_7 : decode m116.2.1 7 = .ok (.iload_n 2, 1) := by decide +kernel
theorem d_116_8 : decode m116.2.1 8 = .ok (.invokevirtual 81, 3) := by decide +kernel
theorem d_116_11 : decode m116.2.1 11 = .ok (.istore_n 3, 1) := by decide +kernel
theorem d_116_12 : decode m116.2.1 12 = .ok (.iload_n 2, 1) := by decide +kernel
theorem d_116_13 : decode m116.2.1 13 = .ok (.invokestatic 89, 3) := by decide +kernel
theorem d_116_16 : decode m116.2.1 16 = .ok (.aload_n 0, 1) := by decide +kernel
theorem d_116_17 : decode m116.2.1 17 = .ok (.getfield 42, 3) := by decide +kernel
theorem d_116_20 : decode m116.2.1 20 = .ok (.if_icmp .le 7, 3) := by decide +kernel
theorem d_116_23 : decode m116.2.1 23 = .ok (.iconst 1, 1) := by decide +kernel
theorem d_116_24 : decode m116.2.1 24 = .ok (.goto 4, 3) := by decide +kernel
theorem d_116_27 : decode m116.2.1 27 = .ok (.iconst 0, 1) := by decide +kernel
theorem d_116_28 : decode m116.2.1 28 = .ok (.istore 4, 2) := by decide +kernel
theorem d_116_30 : decode m116.2.1 30 = .ok (.iload 4, 2) := by decide +kernel
theorem d_116_32 : decode m116.2.1 32 = .ok (.aload_n 0, 1) := by decide +kernel
theorem d_116_33 : decode m116.2.1 33 = .ok (.iload_n 2, 1) := by decide +kernel
theorem d_116_34 : decode m116.2.1 34 = .ok (.invokevirtual 78, 3) := by decide +kernel
theorem d_116_37 : decode m116.2.1 37 = .ok (.iload_n 3, 1) := by decide +kernel
theorem d_116_38 : decode m116.2.1 38 = .ok (.isub, 1) := by decide +kernel
theorem d_116_39 : decode m116.2.1 39 = .ok (.aload_n 0, 1) := by decide +kernel
theorem d_116_40 : decode m116.2.1 40 = .ok (.getfield 38, 3) := by decide +kernel
theorem d_116_43 : decode m116.2.1 43 = .ok (.if_icmp .le 7, 3) := by decide +kernel
theorem d_116_46 : decode m116.2.1 46 = .ok (.iconst 2, 1) := by decide +kernel
theorem d_116_47 : decode m116.2.1 47 = .ok (.goto 4, 3) := by decide +kernel
theorem d_116_50 : decode m116.2.1 50 = .ok (.iconst 0, 1) := by decide +kernel
theorem d_116_51 : decode m116.2.1 51 = .ok (.ior, 1) := by decide +kernel
theorem d_116_52 : decode m116.2.1 52 = .ok (.istore 4, 2) := by decide +kernel
theorem d_116_54 : decode m116.2.1 54 = .ok (.iload_n 1, 1) := by decide +kernel
theorem d_116_55 : decode m116.2.1 55 = .ok (.ifCond .eq 24, 3) := by decide +kernel
theorem d_116_58 : decode m116.2.1 58 = .ok (.iload_n 3, 1) := by decide +kernel
theorem d_116_59 : decode m116.2.1 59 = .ok (.aload_n 0, 1) := by decide +kernel
theorem d_116_60 : decode m116.2.1 60 = .ok (.iload_n 1, 1) := by decide +kernel
theorem d_116_61 : decode m116.2.1 61 = .ok (.invokevirtual 81, 3) := by decide +kernel
theorem d_116_64 : decode m116.2.1 64 = .ok (.isub, 1) := by decide +kernel
theorem d_116_65 : decode m116.2.1 65 = .ok (.invokestatic 84, 3) := by decide +kernel
theorem d_116_68 : decode m116.2.1 68 = .ok (.aload_n 0, 1) := by decide +kernel
theorem d_116_69 : decode m116.2.1 69 = .ok (.getfield 46, 3) := by decide +kernel
theorem d_116_72 : decode m116.2.1 72 = .ok (.if_icmp .le 7, 3) := by decide +kernel
theorem d_116_75 : decode m116.2.1 75 = .ok (.iconst 1, 1) := by decide +kernel
theorem d_116_76 : decode m116.2.1 76 = .ok (.goto 4, 3) := by decide +kernel
theorem d_116_79 : decode m116.2.1 79 = .ok (.iconst 0, 1) := by decide +kernel
theorem d_116_80 : decode m116.2.1 80 = .ok (.istore 5, 2) := by decide +kernel
theorem d_116_82 : decode m116.2.1 82 = .ok (.iload 5, 2) := by decide +kernel
theorem d_116_84 : decode m116.2.1 84 = .ok (.ifCond .eq 11, 3) := by decide +kernel
theorem d_116_87 : decode m116.2.1 87 = .ok (.iload 4, 2) := by decide +kernel
theorem d_116_89 : decode m116.2.1 89 = .ok (.bipush 16, 2) := by decide +kernel
theorem d_116_91 : decode m116.2.1 91 = .ok (.ior, 1) := by decide +kernel
theorem d_116_92 : decode m116.2.1 92 = .ok (.goto 5, 3) := by decide +kernel
theorem d_116_95 : decode m116.2.1 95 = .ok (.iload 4, 2) := by decide +kernel
theorem d_116_97 : decode m116.2.1 97 = .ok (.ireturn, 1) := by decide +kernel
theorem d_117_0 : decode m117.2.1 0 = .ok (.bipush 87, 2) := by decide +kernel
theorem d_117_2 : decode m117.2.1 2 = .ok (.istore_n 2, 1) := by decide +kernel
theorem d_117_3 : decode m117.2.1 3 = .ok (.iconst 0, 1) := by decide +kernel
theorem d_117_4 : decode m117.2.1 4 = .ok (.istore_n 3, 1) := by decide +kernel
theorem d_117_5 : decode m117.2.1 5 = .ok (.iload_n 3, 1) := by decide +kernel
theorem d_117_6 : decode m117.2.1 6 = .ok (.aload_n 0, 1) := by decide +kernel
theorem d_117_7 : decode m117.2.1 7 = .ok (.getfield 34, 3) := by decide +kernel
theorem d_117_10 : decode m117.2.1 10 = .ok (.if_icmp .ge 34, 3) := by decide +kernel
theorem d_117_13 : decode m117.2.1 13 = .ok (.iload_n 1, 1) := by decide +kernel
theorem d_117_14 : decode m117.2.1 14 = .ok (.iload_n 3, 1) := by decide +kernel
theorem d_117_15 : decode m117.2.1 15 = .ok (.ishr, 1) := by decide +kernel
theorem d_117_16 : decode m117.2.1 16 = .ok (.iconst 1, 1) := by decide +kernel
theorem d_117_17 : decode m117.2.1 17 = .ok (.iand, 1) := by decide +kernel
theorem d_117_18 : decode m117.2.1 18 = .ok (.ifCond .eq 20, 3) := by decide +kernel
theorem d_117_21 : decode m117.2.1 21 = .ok (.aload_n 0, 1) := by decide +kernel
theorem d_117_22 : decode m117.2.1 22 = .ok (.getfield 9, 3) := by decide +kernel
theorem d_117_25 : decode m117.2.1 25 = .ok (.iload_n 3, 1) := by decide +kernel
theorem d_117_26 : decode m117.2.1 26 = .ok (.iaload, 1) := by decide +kernel
theorem d_117_27 : decode m117.2.1 27 = .ok (.iload_n 2, 1) := by decide +kernel
theorem d_117_28 : decode m117.2.1 28 = .ok (.if_icmp .ge 10, 3) := by decide +kernel
theorem d_117_31 : decode m117.2.1 31 = .ok (.aload_n 0, 1) := by decide +kernel
theorem d_117_32 : decode m117.2.1 32 = .ok (.getfield 9, 3) := by decide +kernel
theorem d_117_35 : decode m117.2.1 35 = .ok (.iload_n 3, 1) := by decide +kernel
theorem d_117_36 : decode m117.2.1 36 = .ok (.iaload, 1) := by decide +kernel
theorem d_117_37 : decode m117.2.1 37 = .ok (.istore_n 2, 1) := by decide +kernel
theorem d_117_38 : decode m117.2.1 38 = .ok (.iinc 3 1, 3) := by decide +kernel
theorem d_117_41 : decode m117.2.1 41 = .ok (.goto (-36), 3) := by decide +kernel
theorem d_117_44 : decode m117.2.1 44 = .ok (.iload_n 2, 1) := by decide +kernel
theorem d_117_45 : decode m117.2.1 45 = .ok (.ireturn, 1) := by decide +kernel
theorem d_118_0 : decode m118.2.1 0 = .ok (.iconst 0, 1) := by decide +kernel
theorem d_118_1 : decode m118.2.1 1 = .ok (.istore_n 2, 1) := by decide +kernel
theorem d_118_2 : decode m118.2.1 2 = .ok (.iconst 0, 1) := by decide +kernel
theorem d_118_3 : decode m118.2.1 3 = .ok (.istore_n 3, 1) := by decide +kernel
theorem d_118_4 : decode m118.2.1 4 = .ok (.iload_n 3, 1) := by decide +kernel
theorem d_118_5 : decode m118.2.1 5 = .ok (.aload_n 0, 1) := by decide +kernel
theorem d_118_6 : decode m118.2.1 6 = .ok (.getfield 34, 3) := by decide +kernel
theorem d_118_9 : decode m118.2.1 9 = .ok (.if_icmp .ge 34, 3) := by decide +kernel
theorem d_118_12 : decode m118.2.1 12 = .ok (.iload_n 1, 1) := by decide +kernel
theorem d_118_13 : decode m118.2.1 13 = .ok (.iload_n 3, 1) := by decide +kernel
theorem d_118_14 : decode m118.2.1 14 = .ok (.ishr, 1) := by decide +kernel
theorem d_118_15 : decode m118.2.1 15 = .ok (.iconst 1, 1) := by decide +kernel
theorem d_118_16 : decode m118.2.1 16 = .ok (.iand, 1) := by decide +kernel
theorem d_118_17 : decode m118.2.1 17 = .ok (.ifCond .eq 20, 3) := by decide +kernel
theorem d_118_20 : decode m118.2.1 20 = .ok (.aload_n 0, 1) := by decide +kernel
theorem d_118_21 : decode m118.2.1 21 = .ok (.getfield 9, 3) := by decide +kernel
theorem d_118_24 : decode m118.2.1 24 = .ok (.iload_n 3, 1) := by decide +kernel
theorem d_118_25 : decode m118.2.1 25 = .ok (.iaload, 1) := by decide +kernel
theorem d_118_26 : decode m118.2.1 26 = .ok (.iload_n 2, 1) := by decide +kernel
theorem d_118_27 : decode m118.2.1 27 = .ok (.if_icmp .le 10, 3) := by decide +kernel
theorem d_118_30 : decode m118.2.1 30 = .ok (.aload_n 0, 1) := by decide +kernel
theorem d_118_31 : decode m118.2.1 31 = .ok (.getfield 9, 3) := by decide +kernel
theorem d_118_34 : decode m118.2.1 34 = .ok (.iload_n 3, 1) := by decide +kernel
theorem d_118_35 : decode m118.2.1 35 = .ok (.iaload, 1) := by decide +kernel
theorem d_118_36 : decode m118.2.1 36 = .ok (.istore_n 2, 1) := by decide +kernel
theorem d_118_37 : decode m118.2.1 37 = .ok (.iinc 3 1, 3) := by decide +kernel
theorem d_118_40 : decode m118.2.1 40 = .ok (.goto (-36), 3) := by decide +kernel
theorem d_118_43 : decode m118.2.1 43 = .ok (.iload_n 2, 1) := by decide +kernel
theorem d_118_44 : decode m118.2.1 44 = .ok (.ireturn, 1) := by decide +kernel
theorem d_120_0 : decode m120.2.1 0 = .ok (.iconst 1, 1) := by decide +kernel
theorem d_120_1 : decode m120.2.1 1 = .ok (.istore_n 2, 1) := by decide +kernel
theorem d_120_2 : decode m120.2.1 2 = .ok (.iload_n 2, 1) := by decide +kernel
theorem d_120_3 : decode m120.2.1 3 = .ok (.aload_n 0, 1) := by decide +kernel
theorem d_120_4 : decode m120.2.1 4 = .ok (.getfield 34, 3) := by decide +kernel
theorem d_120_7 : decode m120.2.1 7 = .ok (.if_icmp .ge 69, 3) := by decide +kernel
theorem d_120_10 : decode m120.2.1 10 = .ok (.iload_n 1, 1) := by decide +kernel
theorem d_120_11 : decode m120.2.1 11 = .ok (.iload_n 2, 1) := by decide +kernel
theorem d_120_12 : decode m120.2.1 12 = .ok (.ishr, 1) := by decide +kernel
theorem d_120_13 : decode m120.2.1 13 = .ok (.iconst 1, 1) := by decide +kernel
theorem d_120_14 : decode m120.2.1 14 = .ok (.iand, 1) := by decide +kernel
theorem d_120_15 : decode m120.2.1 15 = .ok (.ifCond .eq 7, 3) := by decide +kernel
theorem d_120_18 : decode m120.2.1 18 = .ok (.iconst 1, 1) := by decide +kernel
theorem d_120_19 : decode m120.2.1 19 = .ok (.goto 4, 3) := by decide +kernel
theorem d_120_22 : decode m120.2.1 22 = .ok (.iconst 0, 1) := by decide +kernel
theorem d_120_23 : decode m120.2.1 23 = .ok (.istore_n 3, 1) := by decide +kernel
theorem d_120_24 : decode m120.2.1 24 = .ok (.iconst 0, 1) := by decide +kernel
theorem d_120_25 : decode m120.2.1 25 = .ok (.istore 4, 2) := by decide +kernel
theorem d_120_27 : decode m120.2.1 27 = .ok (.iload_n 3, 1) := by decide +kernel
theorem d_120_28 : decode m120.2.1 28 = .ok (.ifCond .eq 42, 3) := by decide +kernel
theorem d_120_31 : decode m120.2.1 31 = .ok (.iload 4, 2) := by decide +kernel
theorem d_120_33 : decode m120.2.1 33 = .ok (.iload_n 2, 1) := by decide +kernel
theorem d_120_34 : decode m120.2.1 34 = .ok (.if_icmp .ge 36, 3) := by decide +kernel
theorem d_120_37 : decode m120.2.1 37 = .ok (.iload_n 1, 1) := by decide +kernel
theorem d_120_38 : decode m120.2.1 38 = .ok (.iload 4, 2) := by decide +kernel
theorem d_120_40 : decode m120.2.1 40 = .ok (.ishr, 1) := by decide +kernel
theorem d_120_41 : decode m120.2.1 41 = .ok (.iconst 1, 1) := by decide +kernel
theorem d_120_42 : decode m120.2.1 42 = .ok (.iand, 1) := by decide +kernel
theorem d_120_43 : decode m120.2.1 43 = .ok (.ifCond .eq 21, 3) := by decide +kernel
theorem d_120_46 : decode m120.2.1 46 = .ok (.aload_n 0, 1) := by decide +kernel
theorem d_120_47 : decode m120.2.1 47 = .ok (.getfield 9, 3) := by decide +kernel
theorem d_120_50 : decode m120.2.1 50 = .ok (.iload_n 2, 1) := by decide +kernel
theorem d_120_51 : decode m120.2.1 51 = .ok (.iaload, 1) := by decide +kernel
theorem d_120_52 : decode m120.2.1 52 = .ok (.aload_n 0, 1) := by decide +kernel
theorem d_120_53 : decode m120.2.1 53 = .ok (.getfield 9, 3) := by decide +kernel
theorem d_120_56 : decode m120.2.1 56 = .ok (.iload 4, 2) := by decide +kernel
theorem d_120_58 : decode m120.2.1 58 = .ok (.iaload, 1) := by decide +kernel
theorem d_120_59 : decode m120.2.1 59 = .ok (.if_icmp .ne 5, 3) := by decide +kernel
theorem d_120_62 : decode m120.2.1 62 = .ok (.iconst 1, 1) := by decide +kernel
theorem d_120_63 : decode m120.2.1 63 = .ok (.ireturn, 1) := by decide +kernel
theorem d_120_64 : decode m120.2.1 64 = .ok (.iinc 4 1, 3) := by decide +kernel
theorem d_120_67 : decode m120.2.1 67 = .ok (.goto (-40), 3) := by decide +kernel
theorem d_120_70 : decode m120.2.1 70 = .ok (.iinc 2 1, 3) := by decide +kernel
theorem d_120_73 : decode m120.2.1 73 = .ok (.goto (-71), 3) := by decide +kernel
theorem d_120_76 : decode m120.2.1 76 = .ok (.iconst 0, 1) := by decide +kernel
theorem d_120_77 : decode m120.2.1 77 = .ok (.ireturn, 1) := by decide +kernel
theorem d_122_0 : decode m122.2.1 0 = .ok (.aload_n 0, 1) := by decide +kernel
theorem d_122_1 : decode m122.2.1 1 = .ok (.getfield 24, 3) := by decide +kernel
theorem d_122_4 : decode m122.2.1 4 = .ok (.bipush 40, 2) := by decide +kernel
theorem d_122_6 : decode m122.2.1 6 = .ok (.if_icmp .lt 7, 3) := by decide +kernel
theorem d_122_9 : decode m122.2.1 9 = .ok (.aload_n 0, 1) := by decide +kernel
theorem d_122_10 : decode m122.2.1 10 = .ok (.invokevirtual 31, 3) := by decide +kernel
theorem d_122_13 : decode m122.2.1 13 = .ok (.aload_n 0, 1) := by decide +kernel
theorem d_122_14 : decode m122.2.1 14 = .ok (.getfield 9, 3) := by decide +kernel
theorem d_122_17 : decode m122.2.1 17 = .ok (.aload_n 0, 1) := by decide +kernel
theorem d_122_18 : decode m122.2.1 18 = .ok (.getfield 24, 3) := by decide +kernel
theorem d_122_21 : decode m122.2.1 21 = .ok (.iload_n 2, 1) := by decide +kernel
theorem d_122_22 : decode m122.2.1 22 = .ok (.iastore, 1) := by decide +kernel
theorem d_122_23 : decode m122.2.1 23 = .ok (.aload_n 0, 1) := by decide +kernel
theorem d_122_24 : decode m122.2.1 24 = .ok (.getfield 15, 3) := by decide +kernel
theorem d_122_27 : decode m122.2.1 27 = .ok (.aload_n 0, 1) := by decide +kernel
theorem d_122_28 : decode m122.2.1 28 = .ok (.getfield 24, 3) := by decide +kernel
theorem d_122_31 : decode m122.2.1 31 = .ok (.iload_n 3, 1) := by decide +kernel
theorem d_122_32 : decode m122.2.1 32 = .ok (.iastore, 1) := by decide +kernel
theorem d_122_33 : decode m122.2.1 33 = .ok (.aload_n 0, 1) := by decide +kernel
theorem d_122_34 : decode m122.2.1 34 = .ok (.getfield 18, 3) := by decide +kernel
theorem d_122_37 : decode m122.2.1 37 = .ok (.aload_n 0, 1) := by decide +kernel
theorem d_122_38 : decode m122.2.1 38 = .ok (.getfield 24, 3) := by decide +kernel
theorem d_122_41 : decode m122.2.1 41 = .ok (.aload_n 1, 1) := by decide +kernel
theorem d_122_42 : decode m122.2.1 42 = .ok (.iload_n 2, 1) := by decide +kernel
theorem d_122_43 : decode m122.2.1 43 = .ok (.iload_n 3, 1) := by decide +kernel
theorem d_122_44 : decode m122.2.1 44 = .ok (.invokevirtual 34, 3) := by decide +kernel
theorem d_122_47 : decode m122.2.1 47 = .ok (.iastore, 1) := by decide +kernel
theorem d_122_48 : decode m122.2.1 48 = .ok (.aload_n 0, 1) := by decide +kernel
theorem d_122_49 : decode m122.2.1 49 = .ok (.getfield 21, 3) := by decide +kernel
theorem d_122_52 : decode m122.2.1 52 = .ok (.aload_n 0, 1) := by decide +kernel
theorem d_122_53 : decode m122.2.1 53 = .ok (.getfield 24, 3) := by decide +kernel
theorem d_122_56 : decode m122.2.1 56 = .ok (.iload 4, 2) := by decide +kernel
theorem d_122_58 : decode m122.2.1 58 = .ok (.iastore, 1) := by decide +kernel
theorem d_122_59 : decode m122.2.1 59 = .ok (.aload_n 0, 1) := by decide +kernel
theorem d_122_60 : decode m122.2.1 60 = .ok (.dup, 1) := by decide +kernel
theorem d_122_61 : decode m122.2.1 61 = .ok (.getfield 24, 3) := by decide +kernel
theorem d_122_64 : decode m122.2.1 64 = .ok (.iconst 1, 1) := by decide +kernel
theorem d_122_65 : decode m122.2.1 65 = .ok (.iadd, 1) := by decide +kernel
theorem d_122_66 : decode m122.2.1 66 = .ok (.putfield 24, 3) := by decide +kernel
theorem d_122_69 : decode m122.2.1 69 = .ok (.aload_n 0, 1) := by decide +kernel
theorem d_122_70 : decode m122.2.1 70 = .ok (.aload_n 0, 1) := by decide +kernel
theorem d_122_71 : decode m122.2.1 71 = .ok (.getfield 24, 3) := by decide +kernel
theorem d_122_74 : decode m122.2.1 74 = .ok (.putfield 28, 3) := by decide +kernel
theorem d_122_77 : decode m122.2.1 77 = .ok (.aload_n 1, 1) := by decide +kernel
theorem d_122_78 : decode m122.2.1 78 = .ok (.iload_n 2, 1) := by decide +kernel
theorem d_122_79 : decode m122.2.1 79 = .ok (.iload_n 3, 1) := by decide +kernel
theorem d_122_80 : decode m122.2.1 80 = .ok (.iload 4, 2) := by decide +kernel
theorem d_122_82 : decode m122.2.1 82 = .ok (.invokevirtual 40, 3) := by decide +kernel
theorem d_122_85 : decode m122.2.1 85 = .ok (.return_, 1) := by decide +kernel
theorem d_123_0 : decode m123.2.1 0 = .ok (.aload_n 0, 1) := by decide +kernel
theorem d_123_1 : decode m123.2.1 1 = .ok (.bipush 39, 2) := by decide +kernel
theorem d_123_3 : decode m123.2.1 3 = .ok (.putfield 24, 3) := by decide +kernel
theorem d_123_6 : decode m123.2.1 6 = .ok (.aload_n 0, 1) := by decide +kernel
theorem d_123_7 : decode m123.2.1 7 = .ok (.getfield 9, 3) := by decide +kernel
theorem d_123_10 : decode m123.2.1 10 = .ok (.iconst 1, 1) := by decide +kernel
theorem d_123_11 : decode m123.2.1 11 = .ok (.aload_n 0, 1) := by decide +kernel
theorem d_123_12 : decode m123.2.1 12 = .ok (.getfield 9, 3) := by decide +kernel
theorem d_123_15 : decode m123.2.1 15 = .ok (.iconst 0, 1) := by decide +kernel
theorem d_123_16 : decode m123.2.1 16 = .ok (.aload_n 0, 1) := by decide +kernel
theorem d_123_17 : decode m123.2.1 17 = .ok (.getfield 24, 3) := by decide +kernel
theorem d_123_20 : decode m123.2.1 20 = .ok (.invokestatic 44, 3) := by decide +kernel
theorem d_123_23 : decode m123.2.1 23 = .ok (.aload_n 0, 1) := by decide +kernel
theorem d_123_24 : decode m123.2.1 24 = .ok (.getfield 15, 3) := by decide +kernel
theorem d_123_27 : decode m123.2.1 27 = .ok (.iconst 1, 1) := by decide +kernel
theorem d_123_28 : decode m123.2.1 28 = .ok (.aload_n 0, 1) := by decide +kernel
theorem d_123_29 : decode m123.2.1 29 = .ok (.getfield 15, 3) := by decide +kernel
theorem d_123_32 : decode m123.2.1 32 = .ok (.iconst 0, 1) := by decide +kernel
theorem d_123_33 : decode m123.2.1 33 = .ok (.aload_n 0, 1) := by decide +kernel
theorem d_123_34 : decode m123.2.1 34 = .ok (.getfield 24, 3) := by decide +kernel
theorem d_123_37 : decode m123.2.1 37 = .ok (.invokestatic 44, 3) := by decide +kernel
theorem d_123_40 : decode m123.2.1 40 = .ok (.aload_n 0, 1) := by decide +kernel
theorem d_123_41 : decode m123.2.1 41 = .ok (.getfield 18, 3) := by decide +kernel
theorem d_123_44 : decode m123.2.1 44 = .ok (.iconst 1, 1) := by decide +kernel
theorem d_123_45 : decode m123.2.1 45 = .ok (.aload_n 0, 1) := by decide +kernel
theorem d_123_46 : decode m123.2.1 46 = .ok (.getfield 18, 3) := by decide +kernel
theorem d_123_49 : decode m123.2.1 49 = .ok (.iconst 0, 1) := by decide +kernel
theorem d_123_50 : decode m123.2.1 50 = .ok (.aload_n 0, 1) := by decide +kernel
theorem d_123_51 : decode m123.2.1 51 = .ok (.getfield 24, 3) := by decide +kernel
theorem d_123_54 : decode m123.2.1 54 = .ok (.invokestatic 44, 3) := by decide +kernel
theorem d_123_57 : decode m123.2.1 57 = .ok (.aload_n 0, 1) := by decide +kernel
theorem d_123_58 : decode m123.2.1 58 = .ok (.getfield 21, 3) := by decide +kernel
theorem d_123_61 : decode m123.2.1 61 = .ok (.iconst 1, 1) := by decide +kernel
theorem d_123_62 : decode m123.2.1 62 = .ok (.aload_n 0, 1) := by decide +kernel
theorem d_123_63 : decode m123.2.1 63 = .ok (.getfield 21, 3) := by decide +kernel
theorem d_123_66 : decode m123.2.1 66 = .ok (.iconst 0, 1) := by decide +kernel
theorem d_123_67 : decode m123.2.1 67 = .ok (.aload_n 0, 1) := by decide +kernel
theorem d_123_68 : decode m123.2.1 68 = .ok (.getfield 24, 3) := by decide +kernel
theorem d_123_71 : decode m123.2.1 71 = .ok (.invokestatic 44, 3) := by decide +kernel
theorem d_123_74 : decode m123.2.1 74 = .ok (.return_, 1) := by decide +kernel
theorem d_124_0 : decode m124.2.1 0 = .ok (.aload_n 0, 1) := by decide +kernel
theorem d_124_1 : decode m124.2.1 1 = .ok (.iload_n 1, 1) := by decide +kernel
theorem d_124_2 : decode m124.2.1 2 = .ok (.invokevirtual 33, 3) := by decide +kernel
theorem d_124_5 : decode m124.2.1 5 = .ok (.astore_n 3, 1) := by decide +kernel
theorem d_124_6 : decode m124.2.1 6 = .ok (.iload_n 1, 1) := by decide +kernel
theorem d_124_7 : decode m124.2.1 7 = .ok (.iconst 4, 1) := by decide +kernel
theorem d_124_8 : decode m124.2.1 8 = .ok (.if_icmp .ne 8, 3) := by decide +kernel
theorem d_124_11 : decode m124.2.1 11 = .ok (.aload_n 0, 1) := by decide +kernel
theorem d_124_12 : decode m124.2.1 12 = .ok (.getfield 24, 3) := by decide +kernel
theorem d_124_15 : decode m124.2.1 15 = .ok (.ireturn, 1) := by decide +kernel
theorem d_124_16 : decode m124.2.1 16 = .ok (.iload_n 2, 1) := by decide +kernel
theorem d_124_17 : decode m124.2.1 17 = .ok (.ifCond .lt 15, 3) := by decide +kernel
theorem d_124_20 : decode m124.2.1 20 = .ok (.iload_n 2, 1) := by decide +kernel
theorem d_124_21 : decode m124.2.1 21 = .ok (.aload_n 3, 1) := by decide +kernel
theorem d_124_22 : decode m124.2.1 22 = .ok (.arraylength, 1) := by decide +kernel
theorem d_124_23 : decode m124.2.1 23 = .ok (.if_icmp .ge 9, 3) := by decide +kernel
theorem d_124_26 : decode m124.2.1 26 = .ok (.aload_n 3, 1) := by decide +kernel
theorem d_124_27 : decode m124.2.1 27 = .ok (.iload_n 2, 1) := by decide +kernel
theorem d_124_28 : decode m124.2.1 28 = .ok (.iaload, 1) := by decide +kernel
theorem d_124_29 : decode m124.2.1 29 = .ok (.goto 4, 3) := by decide +kernel
theorem d_124_32 : decode m124.2.1 32 = .ok (.iconst 0, 1) := by decide +kernel
theorem d_124_33 : decode m124.2.1 33 = .ok (.ireturn, 1) := by decide +kernel
theorem d_125_0 : decode m125.2.1 0 = .ok (.iload_n 1, 1) := by decide +kernel
theorem d_125_1 : decode m125.2.1 1 = .ok (.tableswitch 42 0 2 #[27, 32, 37], 27) := by decide +kernel
theorem d_125_28 : decode m125.2.1 28 = .ok (.aload_n 0, 1) := by decide +kernel
theorem d_125_29 : decode m125.2.1 29 = .ok (.getfield 9, 3) := by decide +kernel
theorem d_125_32 : decode m125.2.1 32 = .ok (.areturn, 1) := by decide +kernel
theorem d_125_33 : decode m125.2.1 33 = .ok (.aload_n 0, 1) := by decide +kernel
theorem d_125_34 : decode m125.2.1 34 = .ok (.getfield 15, 3) := by decide +kernel
theorem d_125_37 : decode m125.2.1 37 = .ok (.areturn, 1) := by decide +kernel
theorem d_125_38 : decode m125.2.1 38 = .ok (.aload_n 0, 1) := by decide +kernel
theorem d_125_39 : decode m125.2.1 39 = .ok (.getfield 18, 3) := by decide +kernel
theorem d_125_42 : decode m125.2.1 42 = .ok (.areturn, 1) := by decide +kernel
theorem d_125_43 : decode m125.2.1 43 = .ok (.aload_n 0, 1) := by decide +kernel
theorem d_125_44 : decode m125.2.1 44 = .ok (.getfield 21, 3) := by decide +kernel
theorem d_125_47 : decode m125.2.1 47 = .ok (.areturn, 1) := by decide +kernel
theorem d_126_0 : decode m126.2.1 0 = .ok (.aload_n 0, 1) := by decide +kernel
theorem d_126_1 : decode m126.2.1 1 = .ok (.iload_n 1, 1) := by decide +kernel
theorem d_126_2 : decode m126.2.1 2 = .ok (.invokevirtual 33, 3) := by decide +kernel
theorem d_126_5 : decode m126.2.1 5 = .ok (.astore 4, 2) := by decide +kernel
theorem d_126_7 : decode m126.2.1 7 = .ok (.iload_n 1, 1) := by decide +kernel
theorem d_126_8 : decode m126.2.1 8 = .ok (.iconst 4, 1) := by decide +kernel
theorem d_126_9 : decode m126.2.1 9 = .ok (.if_icmp .ne 11, 3) := by decide +kernel
theorem d_126_12 : decode m126.2.1 12 = .ok (.aload_n 0, 1) := by decide +kernel
theorem d_126_13 : decode m126.2.1 13 = .ok (.iload_n 3, 1) := by decide +kernel
theorem d_126_14 : decode m126.2.1 14 = .ok (.putfield 24, 3) := by decide +kernel
theorem d_126_17 : decode m126.2.1 17 = .ok (.goto 19, 3) := by decide +kernel
theorem d_126_20 : decode m126.2.1 20 = .ok (.iload_n 2, 1) := by decide +kernel
theorem d_126_21 : decode m126.2.1 21 = .ok (.ifCond .lt 15, 3) := by decide +kernel
theorem d_126_24 : decode m126.2.1 24 = .ok (.iload_n 2, 1) := by decide +kernel
theorem d_126_25 : decode m126.2.1 25 = .ok (.aload 4, 2) := by decide +kernel
theorem d_126_27 : decode m126.2.1 27 = .ok (.arraylength, 1) := by decide +kernel
theorem d_126_28 : decode m126.2.1 28 = .ok (.if_icmp .ge 8, 3) := by decide +kernel
theorem d_126_31 : decode m126.2.1 31 = .ok (.aload 4, 2) := by decide +kernel
theorem d_126_33 : decode m126.2.1 33 = .ok (.iload_n 2, 1) := by decide +kernel
theorem d_126_34 : decode m126.2.1 34 = .ok (.iload_n 3, 1) := by decide +kernel
theorem d_126_35 : decode m126.2.1 35 = .ok (.iastore, 1) := by decide +kernel
theorem d_126_36 : decode m126.2.1 36 = .ok (.return_, 1) := by decide +kernel
theorem d_128_0 : decode m128.2.1 0 = .ok (.iconst 0, 1) := by decide +kernel
theorem d_128_1 : decode m128.2.1 1 = .ok (.istore_n 3, 1) := by decide +kernel
theorem d_128_2 : decode m128.2.1 2 = .ok (.iconst 0, 1) := by decide +kernel
theorem d_128_3 : decode m128.2.1 3 = .ok (.istore 4, 2) := by decide +kernel
theorem d_128_5 : decode m128.2.1 5 = .ok (.iload 4, 2) := by decide +kernel
theorem d_128_7 : decode m128.2.1 7 = .ok (.aload_n 0, 1) := by decide +kernel
theorem d_128_8 : decode m128.2.1 8 = .ok (.getfield 30, 3) := by decide +kernel
theorem d_128_11 : decode m128.2.1 11 = .ok (.if_icmp .ge 27, 3) := by decide +kernel
theorem d_128_14 : decode m128.2.1 14 = .ok (.aload_n 0, 1) := by decide +kernel
theorem d_128_15 : decode m128.2.1 15 = .ok (.iload_n 1, 1) := by decide +kernel
theorem d_128_16 : decode m128.2.1 16 = .ok (.iload_n 2, 1) := by decide +kernel
theorem d_128_17 : decode m128.2.1 17 = .ok (.iload 4, 2) := by decide +kernel
theorem d_128_19 : decode m128.2.1 19 = .ok (.invokevirtual 104, 3) := by decide +kernel
theorem d_128_22 : decode m128.2.1 22 = .ok (.ifCond .eq 10, 3) := by decide +kernel
theorem d_128_25 : decode m128.2.1 25 = .ok (.iload_n 3, 1) := by decide +kernel
theorem d_128_26 : decode m128.2.1 26 = .ok (.iconst 1, 1) := by decide +kernel
theorem d_128_27 : decode m128.2.1 27 = .ok (.iload 4, 2) := by decide +kernel
theorem d_128_29 : decode m128.2.1 29 = .ok (.ishl, 1) := by decide +kernel
theorem d_128_30 : decode m128.2.1 30 = .ok (.ior, 1) := by decide +kernel
theorem d_128_31 : decode m128.2.1 31 = .ok (.istore_n 3, 1) := by decide +kernel
theorem d_128_32 : decode m128.2.1 32 = .ok (.iinc 4 1, 3) := by decide +kernel
theorem d_128_35 : decode m128.2.1 35 = .ok (.goto (-30), 3) := by decide +kernel
theorem d_128_38 : decode m128.2.1 38 = .ok (.iload_n 3, 1) := by decide +kernel
theorem d_128_39 : decode m128.2.1 39 = .ok (.ireturn, 1) := by decide +kernel
theorem d_135_0 : decode m135.2.1 0 = .ok (.aload_n 0, 1) := by decide +kernel
theorem d_135_1 : decode m135.2.1 1 = .ok (.getfield 24, 3) := by decide +kernel
theorem d_135_4 : decode m135.2.1 4 = .ok (.ifCond .gt 5, 3) := by decide +kernel
theorem d_135_7 : decode m135.2.1 7 = .ok (.iconst 0, 1) := by decide +kernel
theorem d_135_8 : decode m135.2.1 8 = .ok (.ireturn, 1) := by decide +kernel
theorem d_135_9 : decode m135.2.1 9 = .ok (.aload_n 0, 1) := by decide +kernel
theorem d_135_10 : decode m135.2.1 10 = .ok (.dup, 1) := by decide +kernel
theorem d_135_11 : decode m135.2.1 11 = .ok (.getfield 24, 3) := by decide +kernel
theorem d_135_14 : decode m135.2.1 14 = .ok (.iconst 1, 1) := by decide +kernel
theorem d_135_15 : decode m135.2.1 15 = .ok (.isub, 1) := by decide +kernel
theorem d_135_16 : decode m135.2.1 16 = .ok (.putfield 24, 3) := by decide +kernel
theorem d_135_19 : decode m135.2.1 19 = .ok (.aload_n 1, 1) := by decide +kernel
theorem d_135_20 : decode m135.2.1 20 = .ok (.aload_n 0, 1) := by decide +kernel
theorem d_135_21 : decode m135.2.1 21 = .ok (.getfield 9, 3) := by decide +kernel
theorem d_135_24 : decode m135.2.1 24 = .ok (.aload_n 0, 1) := by decide +kernel
theorem d_135_25 : decode m135.2.1 25 = .ok (.getfield 24, 3) := by decide +kernel
theorem d_135_28 : decode m135.2.1 28 = .ok (.iaload, 1) := by decide +kernel
theorem d_135_29 : decode m135.2.1 29 = .ok (.aload_n 0, 1) := by decide +kernel
theorem d_135_30 : decode m135.2.1 30 = .ok (.getfield 15, 3) := by decide +kernel
theorem d_135_33 : decode m135.2.1 33 = .ok (.aload_n 0, 1) := by decide +kernel
theorem d_135_34 : decode m135.2.1 34 = .ok (.getfield 24, 3) := by decide +kernel
theorem d_135_37 : decode m135.2.1 37 = .ok (.iaload, 1) := by decide +kernel
theorem d_135_38 : decode m135.2.1 38 = .ok (.aload_n 0, 1) := by decide +kernel
theorem d_135_39 : decode m135.2.1 39 = .ok (.getfield 18, 3) := by decide +kernel
theorem d_135_42 : decode m135.2.1 42 = .ok (.aload_n 0, 1) := by decide +kernel
theorem d_135_43 : decode m135.2.1 43 = .ok (.getfield 24, 3) := by decide +kernel
theorem d_135_46 : decode m135.2.1 46 = .ok (.iaload, 1) := by decide +kernel
theorem d_135_47 : decode m135.2.1 47 = .ok (.invokevirtual 40, 3) := by decide +kernel
theorem d_135_50 : decode m135.2.1 50 = .ok (.iconst 1, 1) := by decide +kernel
theorem d_135_51 : decode m135.2.1 51 = .ok (.ireturn, 1) := by decide +kernel
theorem d_137_0 : decode m137.2.1 0 = .ok (.aload_n 0, 1) := by decide +kernel
theorem d_137_1 : decode m137.2.1 1 = .ok (.getfield 24, 3) := by decide +kernel
theorem d_137_4 : decode m137.2.1 4 = .ok (.aload_n 0, 1) := by decide +kernel
theorem d_137_5 : decode m137.2.1 5 = .ok (.getfield 28, 3) := by decide +kernel
theorem d_137_8 : decode m137.2.1 8 = .ok (.if_icmp .lt 5, 3) := by decide +kernel
theorem d_137_11 : decode m137.2.1 11 = .ok (.iconst 0, 1) := by decide +kernel
theorem d_137_12 : decode m137.2.1 12 = .ok (.ireturn, 1) := by decide +kernel
theorem d_137_13 : decode m137.2.1 13 = .ok (.aload_n 1, 1) := by decide +kernel
theorem d_137_14 : decode m137.2.1 14 = .ok (.aload_n 0, 1) := by decide +kernel
theorem d_137_15 : decode m137.2.1 15 = .ok (.getfield 9, 3) := by decide +kernel
theorem d_137_18 : decode m137.2.1 18 = .ok (.aload_n 0, 1) := by decide +kernel
theorem d_137_19 : decode m137.2.1 19 = .ok (.getfield 24, 3) := by decide +kernel
theorem d_137_22 : decode m137.2.1 22 = .ok (.iaload, 1) := by decide +kernel
theorem d_137_23 : decode m137.2.1 23 = .ok (.aload_n 0, 1) := by decide +kernel
theorem d_137_24 : decode m137.2.1 24 = .ok (.getfield 15, 3) := by decide +kernel
theorem d_137_27 : decode m137.2.1 27 = .ok (.aload_n 0, 1) := by decide +kernel
theorem d_137_28 : decode m137.2.1 28 = .ok (.getfield 24, 3) := by decide +kernel
theorem d_137_31 : decode m137.2.1 31 = .ok (.iaload, 1) := by decide +kernel
theorem d_137_32 : decode m137.2.1 32 = .ok (.aload_n 0, 1) := by decide +kernel
theorem d_137_33 : decode m137.2.1 33 = .ok (.getfield 21, 3) := by decide +kernel
theorem d_137_36 : decode m137.2.1 36 = .ok (.aload_n 0, 1) := by decide +kernel
theorem d_137_37 : decode m137.2.1 37 = .ok (.getfield 24, 3) := by decide +kernel
theorem d_137_40 : decode m137.2.1 40 = .ok (.iaload, 1) := by decide +kernel
theorem d_137_41 : decode m137.2.1 41 = .ok (.invokevirtual 40, 3) := by decide +kernel
theorem d_137_44 : decode m137.2.1 44 = .ok (.aload_n 0, 1) := by decide +kernel
theorem d_137_45 : decode m137.2.1 45 = .ok (.dup, 1) := by decide +kernel
theorem d_137_46 : decode m137.2.1 46 = .ok (.getfield 24, 3) := by decide +kernel
theorem d_137_49 : decode m137.2.1 49 = .ok (.iconst 1, 1) := by decide +kernel
theorem d_137_50 : decode m137.2.1 50 = .ok (.iadd, 1) := by decide +kernel
theorem d_137_51 : decode m137.2.1 51 = .ok (.putfield 24, 3) := by decide +kernel
theorem d_137_54 : decode m137.2.1 54 = .ok (.iconst 1, 1) := by decide +kernel
theorem d_137_55 : decode m137.2.1 55 = .ok (.ireturn, 1) := by decide +kernel
theorem d_142_0 : decode m142.2.1 0 = .ok (.iconst 0, 1) := by decide +kernel
theorem d_142_1 : decode m142.2.1 1 = .ok (.istore_n 1, 1) := by decide +kernel
theorem d_142_2 : decode m142.2.1 2 = .ok (.iload_n 1, 1) := by decide +kernel
theorem d_142_3 : decode m142.2.1 3 = .ok (.aload_n 0, 1) := by decide +kernel
theorem d_142_4 : decode m142.2.1 4 = .ok (.getfield 24, 3) := by decide +kernel
theorem d_142_7 : decode m142.2.1 7 = .ok (.getfield 38, 3) := by decide +kernel
theorem d_142_10 : decode m142.2.1 10 = .ok (.if_icmp .ge 19, 3) := by decide +kernel
theorem d_142_13 : decode m142.2.1 13 = .ok (.aload_n 0, 1) := by decide +kernel
theorem d_142_14 : decode m142.2.1 14 = .ok (.iload_n 1, 1) := by decide +kernel
theorem d_142_15 : decode m142.2.1 15 = .ok (.invokevirtual 43, 3) := by decide +kernel
theorem d_142_18 : decode m142.2.1 18 = .ok (.aload_n 0, 1) := by decide +kernel
theorem d_142_19 : decode m142.2.1 19 = .ok (.iload_n 1, 1) := by decide +kernel
theorem d_142_20 : decode m142.2.1 20 = .ok (.invokevirtual 47, 3) := by decide +kernel
theorem d_142_23 : decode m142.2.1 23 = .ok (.iinc 1 1, 3) := by decide +kernel
theorem d_142_26 : decode m142.2.1 26 = .ok (.goto (-24), 3) := by decide +kernel
theorem d_142_29 : decode m142.2.1 29 = .ok (.aload_n 0, 1) := by decide +kernel
theorem d_142_30 : decode m142.2.1 30 = .ok (.sipush 9991, 3) := by decide +kernel
theorem d_142_33 : decode m142.2.1 33 = .ok (.putfield 50, 3) := by decide +kernel
theorem d_142_36 : decode m142.2.1 36 = .ok (.aload_n 0, 1) := by decide +kernel
theorem d_142_37 : decode m142.2.1 37 = .ok (.iconst 0, 1) := by decide +kernel
theorem d_142_38 : decode m142.2.1 38 = .ok (.putfield 31, 3) := by decide +kernel
theorem d_142_41 : decode m142.2.1 41 = .ok (.aload_n 0, 1) := by decide +kernel
theorem d_142_42 : decode m142.2.1 42 = .ok (.iconst 0, 1) := by decide +kernel
theorem d_142_43 : decode m142.2.1 43 = .ok (.putfield 35, 3) := by decide +kernel
theorem d_142_46 : decode m142.2.1 46 = .ok (.aload_n 0, 1) := by decide +kernel
theorem d_142_47 : decode m142.2.1 47 = .ok (.iconst 0, 1) := by decide +kernel
theorem d_142_48 : decode m142.2.1 48 = .ok (.iconst 0, 1) := by decide +kernel
theorem d_142_49 : decode m142.2.1 49 = .ok (.iconst 0, 1) := by decide +kernel
theorem d_142_50 : decode m142.2.1 50 = .ok (.iconst 0, 1) := by decide +kernel
theorem d_142_51 : decode m142.2.1 51 = .ok (.invokevirtual 53, 3) := by decide +kernel
theorem d_142_54 : decode m142.2.1 54 = .ok (.return_, 1) := by decide +kernel
theorem d_143_0 : decode m143.2.1 0 = .ok (.iconst 0, 1) := by decide +kernel
theorem d_143_1 : decode m143.2.1 1 = .ok (.istore_n 2, 1) := by decide +kernel
theorem d_143_2 : decode m143.2.1 2 = .ok (.iconst 0, 1) := by decide +kernel
theorem d_143_3 : decode m143.2.1 3 = .ok (.istore_n 3, 1) := by decide +kernel
theorem d_143_4 : decode m143.2.1 4 = .ok (.iload_n 3, 1) := by decide +kernel
theorem d_143_5 : decode m143.2.1 5 = .ok (.aload_n 0, 1) := by decide +kernel
theorem d_143_6 : decode m143.2.1 6 = .ok (.getfield 24, 3) := by decide +kernel
theorem d_143_9 : decode m143.2.1 9 = .ok (.getfield 57, 3) := by decide +kernel
theorem d_143_12 : decode m143.2.1 12 = .ok (.if_icmp .ge 37, 3) := by decide +kernel
theorem d_143_15 : decode m143.2.1 15 = .ok (.aload_n 0, 1) := by decide +kernel
theorem d_143_16 : decode m143.2.1 16 = .ok (.getfield 24, 3) := by decide +kernel
theorem d_143_19 : decode m143.2.1 19 = .ok (.iload_n 3, 1) := by decide +kernel
theorem d_143_20 : decode m143.2.1 20 = .ok (.invokevirtual 60, 3) := by decide +kernel
theorem d_143_23 : decode m143.2.1 23 = .ok (.istore 4, 2) := by decide +kernel
theorem d_143_25 : decode m143.2.1 25 = .ok (.iload_n 2, 1) := by decide +kernel
theorem d_143_26 : decode m143.2.1 26 = .ok (.iload 4, 2) := by decide +kernel
theorem d_143_28 : decode m143.2.1 28 = .ok (.iload_n 1, 1) := by decide +kernel
theorem d_143_29 : decode m143.2.1 29 = .ok (.ishr, 1) := by decide +kernel
theorem d_143_30 : decode m143.2.1 30 = .ok (.iconst 1, 1) := by decide +kernel
theorem d_143_31 : decode m143.2.1 31 = .ok (.iand, 1) := by decide +kernel
theorem d_143_32 : decode m143.2.1 32 = .ok (.ifCond .eq 8, 3) := by decide +kernel
theorem d_143_35 : decode m143.2.1 35 = .ok (.iload 4, 2) := by decide +kernel
theorem d_143_37 : decode m143.2.1 37 = .ok (.goto 4, 3) := by decide +kernel
theorem d_143_40 : decode m143.2.1 40 = .ok (.iconst 0, 1) := by decide +kernel
theorem d_143_41 : decode m143.2.1 41 = .ok (.ior, 1) := by decide +kernel
theorem d_143_42 : decode m143.2.1 42 = .ok (.istore_n 2, 1) := by decide +kernel
theorem d_143_43 : decode m143.2.1 43 = .ok (.iinc 3 1, 3) := by decide +kernel
theorem d_143_46 : decode m143.2.1 46 = .ok (.goto (-42), 3) := by decide +kernel
theorem d_143_49 : decode m143.2.1 49 = .ok (.aload_n 0, 1) := by decide +kernel
theorem d_143_50 : decode m143.2.1 50 = .ok (.getfield 9, 3) := by decide +kernel
theorem d_143_53 : decode m143.2.1 53 = .ok (.iload_n 1, 1) := by decide +kernel
theorem d_143_54 : decode m143.2.1 54 = .ok (.iconst 0, 1) := by decide +kernel
theorem d_143_55 : decode m143.2.1 55 = .ok (.iastore, 1) := by decide +kernel
theorem d_143_56 : decode m143.2.1 56 = .ok (.aload_n 0, 1) := by decide +kernel
theorem d_143_57 : decode m143.2.1 57 = .ok (.getfield 15, 3) := by decide +kernel
theorem d_143_60 : decode m143.2.1 60 = .ok (.iload_n 1, 1) := by decide +kernel
theorem d_143_61 : decode m143.2.1 61 = .ok (.iconst 0, 1) := by decide +kernel
theorem d_143_62 : decode m143.2.1 62 = .ok (.iastore, 1) := by decide +kernel
theorem d_143_63 : decode m143.2.1 63 = .ok (.aload_n 0, 1) := by decide +kernel
theorem d_143_64 : decode m143.2.1 64 = .ok (.getfield 18, 3) := by decide +kernel
theorem d_143_67 : decode m143.2.1 67 = .ok (.iload_n 1, 1) := by decide +kernel
theorem d_143_68 : decode m143.2.1 68 = .ok (.iconst 0, 1) := by decide +kernel
theorem d_143_69 : decode m143.2.1 69 = .ok (.iastore, 1) := by decide +kernel
theorem d_143_70 : decode m143.2.1 70 = .ok (.iconst 0, 1) := by decide +kernel
theorem d_143_71 : decode m143.2.1 71 = .ok (.istore_n 3, 1) := by decide +kernel
theorem d_143_72 : decode m143.2.1 72 = .ok (.iload_n 3, 1) := by decide +kernel
theorem d_143_73 : decode m143.2.1 73 = .ok (.aload_n 0, 1) := by decide +kernel
theorem d_143_74 : decode m143.2.1 74 = .ok (.getfield 24, 3) := by decide +kernel
theorem d_143_77 : decode m143.2.1 77 = .ok (.getfield 38, 3) := by decide +kernel
theorem d_143_80 : decode m143.2.1 80 = .ok (.if_icmp .ge 121, 3) := by decide +kernel
theorem d_143_83 : decode m143.2.1 83 = .ok (.iload_n 3, 1) := by decide +kernel
theorem d_143_84 : decode m143.2.1 84 = .ok (.iload_n 1, 1) := by decide +kernel
theorem d_143_85 : decode m143.2.1 85 = .ok (.if_icmp .eq 110, 3) := by decide +kernel
theorem d_143_88 : decode m143.2.1 88 = .ok (.iload_n 2, 1) := by decide +kernel
theorem d_143_89 : decode m143.2.1 89 = .ok (.iload_n 3, 1) := by decide +kernel
theorem d_143_90 : decode m143.2.1 90 = .ok (.ishr, 1) := by decide +kernel
theorem d_143_91 : decode m143.2.1 91 = .ok (.iconst 1, 1) := by decide +kernel
theorem d_143_92 : decode m143.2.1 92 = .ok (.iand, 1) := by decide +kernel
theorem d_143_93 : decode m143.2.1 93 = .ok (.ifCond .eq 102, 3) := by decide +kernel
theorem d_143_96 : decode m143.2.1 96 = .ok (.aload_n 0, 1) := by decide +kernel
theorem d_143_97 : decode m143.2.1 97 = .ok (.getfield 24, 3) := by decide +kernel
theorem d_143_100 : decode m143.2.1 100 = .ok (.getfield 64, 3) := by decide +kernel
theorem d_143_103 : decode m143.2.1 103 = .ok (.iload_n 3, 1) := by decide +kernel
theorem d_143_104 : decode m143.2.1 104 = .ok (.iaload, 1) := by decide +kernel
theorem d_143_105 : decode m143.2.1 105 = .ok (.aload_n 0, 1) := by decide +kernel
theorem d_143_106 : decode m143.2.1 106 = .ok (.getfield 24, 3) := by decide +kernel
theorem d_143_109 : decode m143.2.1 109 = .ok (.getfield 64, 3) := by decide +kernel
theorem d_143_112 : decode m143.2.1 112 = .ok (.iload_n 1, 1) := by decide +kernel
theorem d_143_113 : decode m143.2.1 113 = .ok (.iaload, 1) := by decide +kernel
theorem d_143_114 : decode m143.2.1 114 = .ok (.isub, 1) := by decide +kernel
theorem d_143_115 : decode m143.2.1 115 = .ok (.istore 4, 2) := by decide +kernel
theorem d_143_117 : decode m143.2.1 117 = .ok (.aload_n 0, 1) := by decide +kernel
theorem d_143_118 : decode m143.2.1 118 = .ok (.getfield 9, 3) := by decide +kernel
theorem d_143_121 : decode m143.2.1 121 = .ok (.iload_n 1, 1) := by decide +kernel
theorem d_143_122 : decode m143.2.1 122 = .ok (.dup2, 1) := by decide +kernel
theorem d_143_123 : decode m143.2.1 123 = .ok (.iaload, 1) := by decide +kernel
theorem d_143_124 : decode m143.2.1 124 = .ok (.iload 4, 2) := by decide +kernel
theorem d_143_126 : decode m143.2.1 126 = .ok (.ifCond .eq 18, 3) := by decide +kernel
theorem d_143_129 : decode m143.2.1 129 = .ok (.iload 4, 2) := by decide +kernel
theorem d_143_131 : decode m143.2.1 131 = .ok (.invokestatic 67, 3) := by decide +kernel
theorem d_143_134 : decode m143.2.1 134 = .ok (.aload_n 0, 1) := by decide +kernel
theorem d_143_135 : decode m143.2.1 135 = .ok (.getfield 24, 3) := by decide +kernel
theorem d_143_138 : decode m143.2.1 138 = .ok (.getfield 72, 3) := by decide +kernel
theorem d_143_141 : decode m143.2.1 141 = .ok (.if_icmp .le 9, 3) := by decide +kernel
theorem d_143_144 : decode m143.2.1 144 = .ok (.iconst 1, 1) := by decide +kernel
theorem d_143_145 : decode m143.2.1 145 = .ok (.iload_n 3, 1) := by decide +kernel
theorem d_143_146 : decode m143.2.1 146 = .ok (.ishl, 1) := by decide +kernel
theorem d_143_147 : decode m143.2.1 147 = .ok (.goto 4, 3) := by decide +kernel
theorem d_143_150 : decode m143.2.1 150 = .ok (.iconst 0, 1) := by decide +kernel
theorem d_143_151 : decode m143.2.1 151 = .ok (.ior, 1) := by decide +kernel
theorem d_143_152 : decode m143.2.1 152 = .ok (.iastore, 1) := by decide +kernel
theorem d_143_153 : decode m143.2.1 153 = .ok (.aload_n 0, 1) := by decide +kernel
theorem d_143_154 : decode m143.2.1 154 = .ok (.getfield 15, 3) := by decide +kernel
theorem d_143_157 : decode m143.2.1 157 = .ok (.iload_n 1, 1) := by decide +kernel
theorem d_143_158 : decode m143.2.1 158 = .ok (.dup2, 1) := by decide +kernel
theorem d_143_159 : decode m143.2.1 159 = .ok (.iaload, 1) := by decide +kernel
theorem d_143_160 : decode m143.2.1 160 = .ok (.iload 4, 2) := by decide +kernel
theorem d_143_162 : decode m143.2.1 162 = .ok (.ifCond .gt 9, 3) := by decide +kernel
theorem d_143_165 : decode m143.2.1 165 = .ok (.iconst 1, 1) := by decide +kernel
theorem d_143_166 : decode m143.2.1 166 = .ok (.iload_n 3, 1) := by decide +kernel
theorem d_143_167 : decode m143.2.1 167 = .ok (.ishl, 1) := by decide +kernel
theorem d_143_168 : decode m143.2.1 168 = .ok (.goto 4, 3) := by decide +kernel
theorem d_143_171 : decode m143.2.1 171 = .ok (.iconst 0, 1) := by decide +kernel
theorem d_143_172 : decode m143.2.1 172 = .ok (.ior, 1) := by decide +kernel
theorem d_143_173 : decode m143.2.1 173 = .ok (.iastore, 1) := by decide +kernel
theorem d_143_174 : decode m143.2.1 174 = .ok (.aload_n 0, 1) := by decide +kernel
theorem d_143_175 : decode m143.2.1 175 = .ok (.getfield 18, 3) := by decide +kernel
theorem d_143_178 : decode m143.2.1 178 = .ok (.iload_n 1, 1) := by decide +kernel
theorem d_143_179 : decode m143.2.1 179 = .ok (.dup2, 1) := by decide +kernel
theorem d_143_180 : decode m143.2.1 180 = .ok (.iaload, 1) := by decide +kernel
theorem d_143_181 : decode m143.2.1 181 = .ok (.iload 4, 2) := by decide +kernel
theorem d_143_183 : decode m143.2.1 183 = .ok (.ifCond .lt 9, 3) := by decide +kernel
theorem d_143_186 : decode m143.2.1 186 = .ok (.iconst 1, 1) := by decide +kernel
theorem d_143_187 : decode m143.2.1 187 = .ok (.iload_n 3, 1) := by decide +kernel
theorem d_143_188 : decode m143.2.1 188 = .ok (.ishl, 1) := by decide +kernel
theorem d_143_189 : decode m143.2.1 189 = .ok (.goto 4, 3) := by decide +kernel
theorem d_143_192 : decode m143.2.1 192 = .ok (.iconst 0, 1) := by decide +kernel
theorem d_143_193 : decode m143.2.1 193 = .ok (.ior, 1) := by decide +kernel
theorem d_143_194 : decode m143.2.1 194 = .ok (.iastore, 1) := by decide +kernel
theorem d_143_195 : decode m143.2.1 195 = .ok (.iinc 3 1, 3) := by decide +kernel
theorem d_143_198 : decode m143.2.1 198 = .ok (.goto (-126), 3) := by decide +kernel
theorem d_143_201 : decode m143.2.1 201 = .ok (.return_, 1) := by decide +kernel
theorem d_144_0 : decode m144.2.1 0 = .ok (.aload_n 0, 1) := by decide +kernel
theorem d_144_1 : decode m144.2.1 1 = .ok (.getfield 21, 3) := by decide +kernel
theorem d_144_4 : decode m144.2.1 4 = .ok (.iload_n 1, 1) := by decide +kernel
theorem d_144_5 : decode m144.2.1 5 = .ok (.iconst 0, 1) := by decide +kernel
theorem d_144_6 : decode m144.2.1 6 = .ok (.iastore, 1) := by decide +kernel
theorem d_144_7 : decode m144.2.1 7 = .ok (.iconst 1, 1) := by decide +kernel
theorem d_144_8 : decode m144.2.1 8 = .ok (.istore_n 2, 1) := by decide +kernel
theorem d_144_9 : decode m144.2.1 9 = .ok (.iload_n 2, 1) := by decide +kernel
theorem d_144_10 : decode m144.2.1 10 = .ok (.aload_n 0, 1) := by decide +kernel
theorem d_144_11 : decode m144.2.1 11 = .ok (.getfield 24, 3) := by decide +kernel
theorem d_144_14 : decode m144.2.1 14 = .ok (.getfield 57, 3) := by decide +kernel
theorem d_144_17 : decode m144.2.1 17 = .ok (.if_icmp .ge 52, 3) := by decide +kernel
theorem d_144_20 : decode m144.2.1 20 = .ok (.aload_n 0, 1) := by decide +kernel
theorem d_144_21 : decode m144.2.1 21 = .ok (.getfield 24, 3) := by decide +kernel
theorem d_144_24 : decode m144.2.1 24 = .ok (.iload_n 2, 1) := by decide +kernel
theorem d_144_25 : decode m144.2.1 25 = .ok (.iconst 1, 1) := by decide +kernel
theorem d_144_26 : decode m144.2.1 26 = .ok (.isub, 1) := by decide +kernel
theorem d_144_27 : decode m144.2.1 27 = .ok (.invokevirtual 60, 3) := by decide +kernel
theorem d_144_30 : decode m144.2.1 30 = .ok (.aload_n 0, 1) := by decide +kernel
theorem d_144_31 : decode m144.2.1 31 = .ok (.getfield 24, 3) := by decide +kernel
theorem d_144_34 : decode m144.2.1 34 = .ok (.iload_n 2, 1) := by decide +kernel
theorem d_144_35 : decode m144.2.1 35 = .ok (.invokevirtual 60, 3) := by decide +kernel
theorem d_144_38 : decode m144.2.1 38 = .ok (.ior, 1) := by decide +kernel
theorem d_144_39 : decode m144.2.1 39 = .ok (.istore_n 3, 1) := by decide +kernel
theorem d_144_40 : decode m144.2.1 40 = .ok (.aload_n 0, 1) := by decide +kernel
theorem d_144_41 : decode m144.2.1 41 = .ok (.getfield 21, 3) := by decide +kernel
theorem d_144_44 : decode m144.2.1 44 = .ok (.iload_n 1, 1) := by decide +kernel
theorem d_144_45 : decode m144.2.1 45 = .ok (.dup2, 1) := by decide +kernel
theorem d_144_46 : decode m144.2.1 46 = .ok (.iaload, 1) := by decide +kernel
theorem d_144_47 : decode m144.2.1 47 = .ok (.iload_n 3, 1) := by decide +kernel
theorem d_144_48 : decode m144.2.1 48 = .ok (.iload_n 1, 1) := by decide +kernel
theorem d_144_49 : decode m144.2.1 49 = .ok (.ishr, 1) := by decide +kernel
theorem d_144_50 : decode m144.2.1 50 = .ok (.iconst 1, 1) := by decide +kernel
theorem d_144_51 : decode m144.2.1 51 = .ok (.if_icmp .ne 9, 3) := by decide +kernel
theorem d_144_54 : decode m144.2.1 54 = .ok (.iconst 1, 1) := by decide +kernel
theorem d_144_55 : decode m144.2.1 55 = .ok (.iload_n 2, 1) := by decide +kernel
theorem d_144_56 : decode m144.2.1 56 = .ok (.ishl, 1) := by decide +kernel
theorem d_144_57 : decode m144.2.1 57 = .ok (.goto 4, 3) := by decide +kernel
theorem d_144_60 : decode m144.2.1 60 = .ok (.iconst 0, 1) := by decide +kernel
theorem d_144_61 : decode m144.2.1 61 = .ok (.ior, 1) := by decide +kernel
theorem d_144_62 : decode m144.2.1 62 = .ok (.iastore, 1) := by decide +kernel
theorem d_144_63 : decode m144.2.1 63 = .ok (.iinc 2 1, 3) := by decide +kernel
theorem d_144_66 : decode m144.2.1 66 = .ok (.goto (-57), 3) := by decide +kernel
theorem d_144_69 : decode m144.2.1 69 = .ok (.return_, 1) := by decide +kernel
theorem d_145_0 : decode m145.2.1 0 = .ok (.iload 4, 2) := by decide +kernel
theorem d_145_2 : decode m145.2.1 2 = .ok (.aload_n 0, 1) := by decide +kernel
theorem d_145_3 : decode m145.2.1 3 = .ok (.getfield 50, 3) := by decide +kernel
theorem d_145_6 : decode m145.2.1 6 = .ok (.if_icmp .lt 4, 3) := by decide +kernel
theorem d_145_9 : decode m145.2.1 9 = .ok (.return_, 1) := by decide +kernel
theorem d_145_10 : decode m145.2.1 10 = .ok (.iload_n 1, 1) := by decide +kernel
theorem d_145_11 : decode m145.2.1 11 = .ok (.aload_n 0, 1) := by decide +kernel
theorem d_145_12 : decode m145.2.1 12 = .ok (.getfield 24, 3) := by decide +kernel
theorem d_145_15 : decode m145.2.1 15 = .ok (.getfield 38, 3) := by decide +kernel
theorem d_145_18 : decode m145.2.1 18 = .ok (.if_icmp .lt 20, 3) := by decide +kernel
theorem d_145_21 : decode m145.2.1 21 = .ok (.aload_n 0, 1) := by decide +kernel
theorem d_145_22 : decode m145.2.1 22 = .ok (.iload 4, 2) := by decide +kernel
theorem d_145_24 : decode m145.2.1 24 = .ok (.putfield 50, 3) := by decide +kernel
theorem d_145_27 : decode m145.2.1 27 = .ok (.aload_n 0, 1) := by decide +kernel
theorem d_145_28 : decode m145.2.1 28 = .ok (.iload_n 2, 1) := by decide +kernel
theorem d_145_29 : decode m145.2.1 29 = .ok (.putfield 31, 3) := by decide +kernel
theorem d_145_32 : decode m145.2.1 32 = .ok (.aload_n 0, 1) := by decide +kernel
theorem d_145_33 : decode m145.2.1 33 = .ok (.iload_n 3, 1) := by decide +kernel
theorem d_145_34 : decode m145.2.1 34 = .ok (.putfield 35, 3) := by decide +kernel
theorem d_145_37 : decode m145.2.1 37 = .ok (.return_, 1) := by decide +kernel
theorem d_145_38 : decode m145.2.1 38 = .ok (.iconst 1, 1) := by decide +kernel
theorem d_145_39 : decode m145.2.1 39 = .ok (.iload_n 1, 1) := by decide +kernel
theorem d_145_40 : decode m145.2.1 40 = .ok (.ishl, 1) := by decide +kernel
theorem d_145_41 : decode m145.2.1 41 = .ok (.istore 5, 2) := by decide +kernel
theorem d_145_43 : decode m145.2.1 43 = .ok (.aload_n 0, 1) := by decide +kernel
theorem d_145_44 : decode m145.2.1 44 = .ok (.iload_n 1, 1) := by decide +kernel
theorem d_145_45 : decode m145.2.1 45 = .ok (.iload_n 2, 1) := by decide +kernel
theorem d_145_46 : decode m145.2.1 46 = .ok (.iload_n 3, 1) := by decide +kernel
theorem d_145_47 : decode m145.2.1 47 = .ok (.invokevirtual 75, 3) := by decide +kernel
theorem d_145_50 : decode m145.2.1 50 = .ok (.ifCond .eq 42, 3) := by decide +kernel
theorem d_145_53 : decode m145.2.1 53 = .ok (.aload_n 0, 1) := by decide +kernel
theorem d_145_54 : decode m145.2.1 54 = .ok (.iload_n 1, 1) := by decide +kernel
theorem d_145_55 : decode m145.2.1 55 = .ok (.iload_n 2, 1) := by decide +kernel
theorem d_145_56 : decode m145.2.1 56 = .ok (.iload 5, 2) := by decide +kernel
theorem d_145_58 : decode m145.2.1 58 = .ok (.ior, 1) := by decide +kernel
theorem d_145_59 : decode m145.2.1 59 = .ok (.invokevirtual 79, 3) := by decide +kernel
theorem d_145_62 : decode m145.2.1 62 = .ok (.ifCond .eq 30, 3) := by decide +kernel
theorem d_145_65 : decode m145.2.1 65 = .ok (.aload_n 0, 1) := by decide +kernel
theorem d_145_66 : decode m145.2.1 66 = .ok (.iload_n 1, 1) := by decide +kernel
theorem d_145_67 : decode m145.2.1 67 = .ok (.iload_n 2, 1) := by decide +kernel
theorem d_145_68 : decode m145.2.1 68 = .ok (.iload 5, 2) := by decide +kernel
theorem d_145_70 : decode m145.2.1 70 = .ok (.ior, 1) := by decide +kernel
theorem d_145_71 : decode m145.2.1 71 = .ok (.iload_n 3, 1) := by decide +kernel
theorem d_145_72 : decode m145.2.1 72 = .ok (.invokevirtual 83, 3) := by decide +kernel
theorem d_145_75 : decode m145.2.1 75 = .ok (.ifCond .eq 17, 3) := by decide +kernel
theorem d_145_78 : decode m145.2.1 78 = .ok (.aload_n 0, 1) := by decide +kernel
theorem d_145_79 : decode m145.2.1 79 = .ok (.iload_n 1, 1) := by decide +kernel
theorem d_145_80 : decode m145.2.1 80 = .ok (.iconst 1, 1) := by decide +kernel
theorem d_145_81 : decode m145.2.1 81 = .ok (.iadd, 1) := by decide +kernel
theorem d_145_82 : decode m145.2.1 82 = .ok (.iload_n 2, 1) := by decide +kernel
theorem d_145_83 : decode m145.2.1 83 = .ok (.iload 5, 2) := by decide +kernel
theorem d_145_85 : decode m145.2.1 85 = .ok (.ior, 1) := by decide +kernel
theorem d_145_86 : decode m145.2.1 86 = .ok (.iload_n 3, 1) := by decide +kernel
theorem d_145_87 : decode m145.2.1 87 = .ok (.iload 4, 2) := by decide +kernel
theorem d_145_89 : decode m145.2.1 89 = .ok (.invokevirtual 53, 3) := by decide +kernel
theorem d_145_92 : decode m145.2.1 92 = .ok (.aload_n 0, 1) := by decide +kernel
theorem d_145_93 : decode m145.2.1 93 = .ok (.iload_n 1, 1) := by decide +kernel
theorem d_145_94 : decode m145.2.1 94 = .ok (.iload_n 2, 1) := by decide +kernel
theorem d_145_95 : decode m145.2.1 95 = .ok (.iload_n 3, 1) := by decide +kernel
theorem d_145_96 : decode m145.2.1 96 = .ok (.invokevirtual 86, 3) := by decide +kernel
theorem d_145_99 : decode m145.2.1 99 = .ok (.ifCond .eq 42, 3) := by decide +kernel
theorem d_145_102 : decode m145.2.1 102 = .ok (.aload_n 0, 1) := by decide +kernel
theorem d_145_103 : decode m145.2.1 103 = .ok (.iload_n 1, 1) := by decide +kernel
theorem d_145_104 : decode m145.2.1 104 = .ok (.iload_n 3, 1) := by decide +kernel
theorem d_145_105 : decode m145.2.1 105 = .ok (.iload 5, 2) := by decide +kernel
theorem d_145_107 : decode m145.2.1 107 = .ok (.ior, 1) := by decide +kernel
theorem d_145_108 : decode m145.2.1 108 = .ok (.invokevirtual 79, 3) := by decide +kernel
theorem d_145_111 : decode m145.2.1 111 = .ok (.ifCond .eq 30, 3) := by decide +kernel
theorem d_145_114 : decode m145.2.1 114 = .ok (.aload_n 0, 1) := by decide +kernel
theorem d_145_115 : decode m145.2.1 115 = .ok (.iload_n 1, 1) := by decide +kernel
theorem d_145_116 : decode m145.2.1 116 = .ok (.iload_n 2, 1) := by decide +kernel
theorem d_145_117 : decode m145.2.1 117 = .ok (.iload_n 3, 1) := by decide +kernel
theorem d_145_118 : decode m145.2.1 118 = .ok (.iload 5, 2) := by decide +kernel
theorem d_145_120 : decode m145.2.1 120 = .ok (.ior, 1) := by decide +kernel
theorem d_145_121 : decode m145.2.1 121 = .ok (.invokevirtual 83, 3) := by decide +kernel
theorem d_145_124 : decode m145.2.1 124 = .ok (.ifCond .eq 17, 3) := by decide +kernel
theorem d_145_127 : decode m145.2.1 127 = .ok (.aload_n 0, 1) := by decide +kernel
theorem d_145_128 : decode m145.2.1 128 = .ok (.iload_n 1, 1) := by decide +kernel
theorem d_145_129 : decode m145.2.1 129 = .ok (.iconst 1, 1) := by decide +kernel
theorem d_145_130 : decode m145.2.1 130 = .ok (.iadd, 1) := by decide +kernel
theorem d_145_131 : decode m145.2.1 131 = .ok (.iload_n 2, 1) := by decide +kernel
theorem d_145_132 : decode m145.2.1 132 = .ok (.iload_n 3, 1) := by decide +kernel
theorem d_145_133 : decode m145.2.1 133 = .ok (.iload 5, 2) := by decide +kernel
theorem d_145_135 : decode m145.2.1 135 = .ok (.ior, 1) := by decide +kernel
theorem d_145_136 : decode m145.2.1 136 = .ok (.iload 4, 2) := by decide +kernel
theorem d_145_138 : decode m145.2.1 138 = .ok (.invokevirtual 53, 3) := by decide +kernel
theorem d_145_141 : decode m145.2.1 141 = .ok (.aload_n 0, 1) := by decide +kernel
theorem d_145_142 : decode m145.2.1 142 = .ok (.iload_n 1, 1) := by decide +kernel
theorem d_145_143 : decode m145.2.1 143 = .ok (.iload_n 2, 1) := by decide +kernel
theorem d_145_144 : decode m145.2.1 144 = .ok (.iload_n 3, 1) := by decide +kernel
theorem d_145_145 : decode m145.2.1 145 = .ok (.invokevirtual 83, 3) := by decide +kernel
theorem d_145_148 : decode m145.2.1 148 = .ok (.ifCond .eq 21, 3) := by decide +kernel
theorem d_145_151 : decode m145.2.1 151 = .ok (.aload_n 0, 1) := by decide +kernel
theorem d_145_152 : decode m145.2.1 152 = .ok (.iload_n 1, 1) := by decide +kernel
theorem d_145_153 : decode m145.2.1 153 = .ok (.iconst 1, 1) := by decide +kernel
theorem d_145_154 : decode m145.2.1 154 = .ok (.iadd, 1) := by decide +kernel
theorem d_145_155 : decode m145.2.1 155 = .ok (.iload_n 2, 1) := by decide +kernel
theorem d_145_156 : decode m145.2.1 156 = .ok (.iload_n 3, 1) := by decide +kernel
theorem d_145_157 : decode m145.2.1 157 = .ok (.iload 4, 2) := by decide +kernel
theorem d_145_159 : decode m145.2.1 159 = .ok (.aload_n 0, 1) := by decide +kernel
theorem d_145_160 : decode m145.2.1 160 = .ok (.getfield 28, 3) := by decide +kernel
theorem d_145_163 : decode m145.2.1 163 = .ok (.iload_n 1, 1) := by decide +kernel
theorem d_145_164 : decode m145.2.1 164 = .ok (.iaload, 1) := by decide +kernel
theorem d_145_165 : decode m145.2.1 165 = .ok (.iadd, 1) := by decide +kernel
theorem d_145_166 : decode m145.2.1 166 = .ok (.invokevirtual 53, 3) := by decide +kernel
theorem d_145_169 : decode m145.2.1 169 = .ok (.return_, 1) := by decide +kernel
theorem d_146_0 : decode m146.2.1 0 = .ok (.iload_n 2, 1) := by decide +kernel
theorem d_146_1 : decode m146.2.1 1 = .ok (.aload_n 0, 1) := by decide +kernel
theorem d_146_2 : decode m146.2.1 2 = .ok (.getfield 9, 3) := by decide +kernel
theorem d_146_5 : decode m146.2.1 5 = .ok (.iload_n 1, 1) := by decide +kernel
theorem d_146_6 : decode m146.2.1 6 = .ok (.iaload, 1) := by decide +kernel
theorem d_146_7 : decode m146.2.1 7 = .ok (.iand, 1) := by decide +kernel
theorem d_146_8 : decode m146.2.1 8 = .ok (.iload_n 3, 1) := by decide +kernel
theorem d_146_9 : decode m146.2.1 9 = .ok (.aload_n 0, 1) := by decide +kernel
theorem d_146_10 : decode m146.2.1 10 = .ok (.getfield 15, 3) := by decide +kernel
theorem d_146_13 : decode m146.2.1 13 = .ok (.iload_n 1, 1) := by decide +kernel
theorem d_146_14 : decode m146.2.1 14 = .ok (.iaload, 1) := by decide +kernel
theorem d_146_15 : decode m146.2.1 15 = .ok (.iand, 1) := by decide +kernel
theorem d_146_16 : decode m146.2.1 16 = .ok (.ior, 1) := by decide +kernel
theorem d_146_17 : decode m146.2.1 17 = .ok (.ifCond .ne 7, 3) := by decide +kernel
theorem d_146_20 : decode m146.2.1 20 = .ok (.iconst 1, 1) := by decide +kernel
theorem d_146_21 : decode m146.2.1 21 = .ok (.goto 4, 3) := by decide +kernel
theorem d_146_24 : decode m146.2.1 24 = .ok (.iconst 0, 1) := by decide +kernel
theorem d_146_25 : decode m146.2.1 25 = .ok (.ireturn, 1) := by decide +kernel
theorem d_147_0 : decode m147.2.1 0 = .ok (.iload_n 2, 1) := by decide +kernel
theorem d_147_1 : decode m147.2.1 1 = .ok (.invokestatic 89, 3) := by decide +kernel
theorem d_147_4 : decode m147.2.1 4 = .ok (.aload_n 0, 1) := by decide +kernel
theorem d_147_5 : decode m147.2.1 5 = .ok (.getfield 24, 3) := by decide +kernel
theorem d_147_8 : decode m147.2.1 8 = .ok (.getfield 94, 3) := by decide +kernel
theorem d_147_11 : decode m147.2.1 11 = .ok (.if_icmp .gt 7, 3) := by decide +kernel
theorem d_147_14 : decode m147.2.1 14 = .ok (.iconst 1, 1) := by decide +kernel
theorem d_147_15 : decode m147.2.1 15 = .ok (.goto 4, 3) := by decide +kernel
theorem d_147_18 : decode m147.2.1 18 = .ok (.iconst 0, 1) := by decide +kernel
theorem d_147_19 : decode m147.2.1 19 = .ok (.istore_n 3, 1) := by decide +kernel
theorem d_147_20 : decode m147.2.1 20 = .ok (.iconst 0, 1) := by decide +kernel
theorem d_147_21 : decode m147.2.1 21 = .ok (.istore 4, 2) := by decide +kernel
theorem d_147_23 : decode m147.2.1 23 = .ok (.iload_n 3, 1) := by decide +kernel
theorem d_147_24 : decode m147.2.1 24 = .ok (.ifCond .ne 60, 3) := by decide +kernel
theorem d_147_27 : decode m147.2.1 27 = .ok (.iload 4, 2) := by decide +kernel
theorem d_147_29 : decode m147.2.1 29 = .ok (.aload_n 0, 1) := by decide +kernel
theorem d_147_30 : decode m147.2.1 30 = .ok (.getfield 24, 3) := by decide +kernel
theorem d_147_33 : decode m147.2.1 33 = .ok (.getfield 57, 3) := by decide +kernel
theorem d_147_36 : decode m147.2.1 36 = .ok (.if_icmp .ge 48, 3) := by decide +kernel
theorem d_147_39 : decode m147.2.1 39 = .ok (.aload_n 0, 1) := by decide +kernel
theorem d_147_40 : decode m147.2.1 40 = .ok (.getfield 24, 3) := by decide +kernel
theorem d_147_43 : decode m147.2.1 43 = .ok (.iload 4, 2) := by decide +kernel
theorem d_147_45 : decode m147.2.1 45 = .ok (.invokevirtual 60, 3) := by decide +kernel
theorem d_147_48 : decode m147.2.1 48 = .ok (.istore 5, 2) := by decide +kernel
theorem d_147_50 : decode m147.2.1 50 = .ok (.iload 5, 2) := by decide +kernel
theorem d_147_52 : decode m147.2.1 52 = .ok (.iload_n 1, 1) := by decide +kernel
theorem d_147_53 : decode m147.2.1 53 = .ok (.ishr, 1) := by decide +kernel
theorem d_147_54 : decode m147.2.1 54 = .ok (.iconst 1, 1) := by decide +kernel
theorem d_147_55 : decode m147.2.1 55 = .ok (.iand, 1) := by decide +kernel
theorem d_147_56 : decode m147.2.1 56 = .ok (.ifCond .eq 22, 3) := by decide +kernel
theorem d_147_59 : decode m147.2.1 59 = .ok (.iload 5, 2) := by decide +kernel
theorem d_147_61 : decode m147.2.1 61 = .ok (.iload_n 2, 1) := by decide +kernel
theorem d_147_62 : decode m147.2.1 62 = .ok (.iand, 1) := by decide +kernel
theorem d_147_63 : decode m147.2.1 63 = .ok (.invokestatic 89, 3) := by decide +kernel
theorem d_147_66 : decode m147.2.1 66 = .ok (.aload_n 0, 1) := by decide +kernel
theorem d_147_67 : decode m147.2.1 67 = .ok (.getfield 24, 3) := by decide +kernel
theorem d_147_70 : decode m147.2.1 70 = .ok (.getfield 94, 3) := by decide +kernel
theorem d_147_73 : decode m147.2.1 73 = .ok (.if_icmp .le 5, 3) := by decide +kernel
theorem d_147_76 : decode m147.2.1 76 = .ok (.iconst 0, 1) := by decide +kernel
theorem d_147_77 : decode m147.2.1 77 = .ok (.ireturn, 1) := by decide +kernel
theorem d_147_78 : decode m147.2.1 78 = .ok (.iinc 4 1, 3) := by decide +kernel
theorem d_147_81 : decode m147.2.1 81 = .ok (.goto (-58), 3) := by decide +kernel
theorem d_147_84 : decode m147.2.1 84 = .ok (.iconst 1, 1) := by decide +kernel
theorem d_147_85 : decode m147.2.1 85 = .ok (.ireturn, 1) := by decide +kernel
theorem d_148_0 : decode m148.2.1 0 = .ok (.aload_n 0, 1) := by decide +kernel
theorem d_148_1 : decode m148.2.1 1 = .ok (.getfield 21, 3) := by decide +kernel
theorem d_148_4 : decode m148.2.1 4 = .ok (.iload_n 1, 1) := by decide +kernel
theorem d_148_5 : decode m148.2.1 5 = .ok (.iaload, 1) := by decide +kernel
theorem d_148_6 : decode m148.2.1 6 = .ok (.istore 4, 2) := by decide +kernel
theorem d_148_8 : decode m148.2.1 8 = .ok (.iconst 1, 1) := by decide +kernel
theorem d_148_9 : decode m148.2.1 9 = .ok (.istore 5, 2) := by decide +kernel
theorem d_148_11 : decode m148.2.1 11 = .ok (.iload 4, 2) := by decide +kernel
theorem d_148_13 : decode m148.2.1 13 = .ok (.ifCond .eq 115, 3) := by decide +kernel
theorem d_148_16 : decode m148.2.1 16 = .ok (.iload 5, 2) := by decide +kernel
theorem d_148_18 : decode m148.2.1 18 = .ok (.aload_n 0, 1) := by decide +kernel
theorem d_148_19 : decode m148.2.1 19 = .ok (.getfield 24, 3) := by decide +kernel
theorem d_148_22 : decode m148.2.1 22 = .ok (.getfield 57, 3) := by decide +kernel
theorem d_148_25 : decode m148.2.1 25 = .ok (.if_icmp .ge 103, 3) := by decide +kernel
theorem d_148_28 : decode m148.2.1 28 = .ok (.iload 4, 2) := by decide +kernel
theorem d_148_30 : decode m148.2.1 30 = .ok (.iload 5, 2) := by decide +kernel
theorem d_148_32 : decode m148.2.1 32 = .ok (.ishr, 1) := by decide +kernel
theorem d_148_33 : decode m148.2.1 33 = .ok (.iconst 1, 1) := by decide +kernel
theorem d_148_34 : decode m148.2.1 34 = .ok (.iand, 1) := by decide +kernel
theorem d_148_35 : decode m148.2.1 35 = .ok (.ifCond .eq 87, 3) := by decide +kernel
theorem d_148_38 : decode m148.2.1 38 = .ok (.aload_n 0, 1) := by decide +kernel
theorem d_148_39 : decode m148.2.1 39 = .ok (.getfield 24, 3) := by decide +kernel
theorem d_148_42 : decode m148.2.1 42 = .ok (.iload 5, 2) := by decide +kernel
theorem d_148_44 : decode m148.2.1 44 = .ok (.iconst 1, 1) := by decide +kernel
theorem d_148_45 : decode m148.2.1 45 = .ok (.isub, 1) := by decide +kernel
theorem d_148_46 : decode m148.2.1 46 = .ok (.invokevirtual 60, 3) := by decide +kernel
theorem d_148_49 : decode m148.2.1 49 = .ok (.istore 6, 2) := by decide +kernel
theorem d_148_51 : decode m148.2.1 51 = .ok (.aload_n 0, 1) := by decide +kernel
theorem d_148_52 : decode m148.2.1 52 = .ok (.getfield 24, 3) := by decide +kernel
theorem d_148_55 : decode m148.2.1 55 = .ok (.iload 5, 2) := by decide +kernel
theorem d_148_57 : decode m148.2.1 57 = .ok (.invokevirtual 60, 3) := by decide +kernel
theorem d_148_60 : decode m148.2.1 60 = .ok (.istore 7, 2) := by decide +kernel
theorem d_148_62 : decode m148.2.1 62 = .ok (.aload_n 0, 1) := by decide +kernel
theorem d_148_63 : decode m148.2.1 63 = .ok (.getfield 24, 3) := by decide +kernel
theorem d_148_66 : decode m148.2.1 66 = .ok (.iload_n 2, 1) := by decide +kernel
theorem d_148_67 : decode m148.2.1 67 = .ok (.iload 6, 2) := by decide +kernel
theorem d_148_69 : decode m148.2.1 69 = .ok (.iand, 1) := by decide +kernel
theorem d_148_70 : decode m148.2.1 70 = .ok (.iload_n 2, 1) := by decide +kernel
theorem d_148_71 : decode m148.2.1 71 = .ok (.iload 7, 2) := by decide +kernel
theorem d_148_73 : decode m148.2.1 73 = .ok (.iand, 1) := by decide +kernel
theorem d_148_74 : decode m148.2.1 74 = .ok (.invokevirtual 97, 3) := by decide +kernel
theorem d_148_77 : decode m148.2.1 77 = .ok (.istore 8, 2) := by decide +kernel
theorem d_148_79 : decode m148.2.1 79 = .ok (.aload_n 0, 1) := by decide +kernel
theorem d_148_80 : decode m148.2.1 80 = .ok (.getfield 24, 3) := by decide +kernel
theorem d_148_83 : decode m148.2.1 83 = .ok (.iload_n 3, 1) := by decide +kernel
theorem d_148_84 : decode m148.2.1 84 = .ok (.iload 6, 2) := by decide +kernel
theorem d_148_86 : decode m148.2.1 86 = .ok (.iand, 1) := by decide +kernel
theorem d_148_87 : decode m148.2.1 87 = .ok (.iload_n 3, 1) := by decide +kernel
theorem d_148_88 : decode m148.2.1 88 = .ok (.iload 7, 2) := by decide +kernel
theorem d_148_90 : decode m148.2.1 90 = .ok (.iand, 1) := by decide +kernel
theorem d_148_91 : decode m148.2.1 91 = .ok (.invokevirtual 97, 3) := by decide +kernel
theorem d_148_94 : decode m148.2.1 94 = .ok (.istore 9, 2) := by decide +kernel
theorem d_148_96 : decode m148.2.1 96 = .ok (.iload 8, 2) := by decide +kernel
theorem d_148_98 : decode m148.2.1 98 = .ok (.aload_n 0, 1) := by decide +kernel
theorem d_148_99 : decode m148.2.1 99 = .ok (.getfield 24, 3) := by decide +kernel
theorem d_148_102 : decode m148.2.1 102 = .ok (.getfield 101, 3) := by decide +kernel
theorem d_148_105 : decode m148.2.1 105 = .ok (.if_icmp .gt 15, 3) := by decide +kernel
theorem d_148_108 : decode m148.2.1 108 = .ok (.iload 9, 2) := by decide +kernel
theorem d_148_110 : decode m148.2.1 110 = .ok (.aload_n 0, 1) := by decide +kernel
theorem d_148_111 : decode m148.2.1 111 = .ok (.getfield 24, 3) := by decide +kernel
theorem d_148_114 : decode m148.2.1 114 = .ok (.getfield 101, 3) := by decide +kernel
theorem d_148_117 : decode m148.2.1 117 = .ok (.if_icmp .le 5, 3) := by decide +kernel
theorem d_148_120 : decode m148.2.1 120 = .ok (.iconst 0, 1) := by decide +kernel
theorem d_148_121 : decode m148.2.1 121 = .ok (.ireturn, 1) := by decide +kernel
theorem d_148_122 : decode m148.2.1 122 = .ok (.iinc 5 1, 3) := by decide +kernel
theorem d_148_125 : decode m148.2.1 125 = .ok (.goto (-114), 3) := by decide +kernel
theorem d_148_128 : decode m148.2.1 128 = .ok (.iconst 1, 1) := by decide +kernel
theorem d_148_129 : decode m148.2.1 129 = .ok (.ireturn, 1) := by decide +kernel
theorem d_149_0 : decode m149.2.1 0 = .ok (.iload_n 1, 1) := by decide +kernel
theorem d_149_1 : decode m149.2.1 1 = .ok (.ifCond .eq 7, 3) := by decide +kernel
theorem d_149_4 : decode m149.2.1 4 = .ok (.iload_n 2, 1) := by decide +kernel
theorem d_149_5 : decode m149.2.1 5 = .ok (.ifCond .ne 7, 3) := by decide +kernel
theorem d_149_8 : decode m149.2.1 8 = .ok (.iconst 0, 1) := by decide +kernel
theorem d_149_9 : decode m149.2.1 9 = .ok (.goto 17, 3) := by decide +kernel
theorem d_149_12 : decode m149.2.1 12 = .ok (.aload_n 0, 1) := by decide +kernel
theorem d_149_13 : decode m149.2.1 13 = .ok (.iload_n 2, 1) := by decide +kernel
theorem d_149_14 : decode m149.2.1 14 = .ok (.invokevirtual 81, 3) := by decide +kernel
theorem d_149_17 : decode m149.2.1 17 = .ok (.aload_n 0, 1) := by decide +kernel
theorem d_149_18 : decode m149.2.1 18 = .ok (.iload_n 1, 1) := by decide +kernel
theorem d_149_19 : decode m149.2.1 19 = .ok (.invokevirtual 81, 3) := by decide +kernel
theorem d_149_22 : decode m149.2.1 22 = .ok (.isub, 1) := by decide +kernel
theorem d_149_23 : decode m149.2.1 23 = .ok (.invokestatic 84, 3) := by decide +kernel
theorem d_149_26 : decode m149.2.1 26 = .ok (.ireturn, 1) := by decide +kernel
theorem d_150_0 : decode m150.2.1 0 = .ok (.iload_n 3, 1) := by decide +kernel
theorem d_150_1 : decode m150.2.1 1 = .ok (.aload_n 0, 1) := by decide +kernel
theorem d_150_2 : decode m150.2.1 2 = .ok (.getfield 9, 3) := by decide +kernel
theorem d_150_5 : decode m150.2.1 5 = .ok (.iload_n 1, 1) := by decide +kernel
theorem d_150_6 : decode m150.2.1 6 = .ok (.iaload, 1) := by decide +kernel
theorem d_150_7 : decode m150.2.1 7 = .ok (.iand, 1) := by decide +kernel
theorem d_150_8 : decode m150.2.1 8 = .ok (.iload_n 2, 1) := by decide +kernel
theorem d_150_9 : decode m150.2.1 9 = .ok (.aload_n 0, 1) := by decide +kernel
theorem d_150_10 : decode m150.2.1 10 = .ok (.getfield 18, 3) := by decide +kernel
theorem d_150_13 : decode m150.2.1 13 = .ok (.iload_n 1, 1) := by decide +kernel
theorem d_150_14 : decode m150.2.1 14 = .ok (.iaload, 1) := by decide +kernel
theorem d_150_15 : decode m150.2.1 15 = .ok (.iand, 1) := by decide +kernel
theorem d_150_16 : decode m150.2.1 16 = .ok (.ior, 1) := by decide +kernel
theorem d_150_17 : decode m150.2.1 17 = .ok (.ifCond .ne 7, 3) := by decide +kernel
theorem d_150_20 : decode m150.2.1 20 = .ok (.iconst 1, 1) := by decide +kernel
theorem d_150_21 : decode m150.2.1 21 = .ok (.goto 4, 3) := by decide +kernel
theorem d_150_24 : decode m150.2.1 24 = .ok (.iconst 0, 1) := by decide +kernel
theorem d_150_25 : decode m150.2.1 25 = .ok (.ireturn, 1) := by decide +kernel
theorem d_151_0 : decode m151.2.1 0 = .ok (.aload_n 0, 1) := by decide +kernel
theorem d_151_1 : decode m151.2.1 1 = .ok (.getfield 31, 3) := by decide +kernel
theorem d_151_4 : decode m151.2.1 4 = .ok (.iload_n 1, 1) := by decide +kernel
theorem d_151_5 : decode m151.2.1 5 = .ok (.ishr, 1) := by decide +kernel
theorem d_151_6 : decode m151.2.1 6 = .ok (.iconst 1, 1) := by decide +kernel
theorem d_151_7 : decode m151.2.1 7 = .ok (.iand, 1) := by decide +kernel
theorem d_151_8 : decode m151.2.1 8 = .ok (.ifCond .eq 7, 3) := by decide +kernel
theorem d_151_11 : decode m151.2.1 11 = .ok (.iconst 1, 1) := by decide +kernel
theorem d_151_12 : decode m151.2.1 12 = .ok (.goto 19, 3) := by decide +kernel
theorem d_151_15 : decode m151.2.1 15 = .ok (.aload_n 0, 1) := by decide +kernel
theorem d_151_16 : decode m151.2.1 16 = .ok (.getfield 35, 3) := by decide +kernel
theorem d_151_19 : decode m151.2.1 19 = .ok (.iload_n 1, 1) := by decide +kernel
theorem d_151_20 : decode m151.2.1 20 = .ok (.ishr, 1) := by decide +kernel
theorem d_151_21 : decode m151.2.1 21 = .ok (.iconst 1, 1) := by decide +kernel
theorem d_151_22 : decode m151.2.1 22 = .ok (.iand, 1) := by decide +kernel
theorem d_151_23 : decode m151.2.1 23 = .ok (.ifCond .eq 7, 3) := by decide +kernel
theorem d_151_26 : decode m151.2.1 26 = .ok (.iconst 2, 1) := by decide +kernel
theorem d_151_27 : decode m151.2.1 27 = .ok (.goto 4, 3) := by decide +kernel
theorem d_151_30 : decode m151.2.1 30 = .ok (.iconst 0, 1) := by decide +kernel
theorem d_151_31 : decode m151.2.1 31 = .ok (.ireturn, 1) := by decide +kernel
theorem d_155_0 : decode m155.2.1 0 = .ok (.iload_n 2, 1) := by decide +kernel
theorem d_155_1 : decode m155.2.1 1 = .ok (.iconst 1, 1) := by decide +kernel
theorem d_155_2 : decode m155.2.1 2 = .ok (.if_icmp .ne 14, 3) := by decide +kernel
theorem d_155_5 : decode m155.2.1 5 = .ok (.aload_n 0, 1) := by decide +kernel
theorem d_155_6 : decode m155.2.1 6 = .ok (.getfield 53, 3) := by decide +kernel
theorem d_155_9 : decode m155.2.1 9 = .ok (.iconst 1, 1) := by decide +kernel
theorem d_155_10 : decode m155.2.1 10 = .ok (.iload_n 1, 1) := by decide +kernel
theorem d_155_11 : decode m155.2.1 11 = .ok (.ishl, 1) := by decide +kernel
theorem d_155_12 : decode m155.2.1 12 = .ok (.ior, 1) := by decide +kernel
theorem d_155_13 : decode m155.2.1 13 = .ok (.goto 7, 3) := by decide +kernel
theorem d_155_16 : decode m155.2.1 16 = .ok (.aload_n 0, 1) := by decide +kernel
theorem d_155_17 : decode m155.2.1 17 = .ok (.getfield 53, 3) := by decide +kernel
theorem d_155_20 : decode m155.2.1 20 = .ok (.istore_n 3, 1) := by decide +kernel
theorem d_155_21 : decode m155.2.1 21 = .ok (.iload_n 2, 1) := by decide +kernel
theorem d_155_22 : decode m155.2.1 22 = .ok (.iconst 2, 1) := by decide +kernel
theorem d_155_23 : decode m155.2.1 23 = .ok (.if_icmp .ne 14, 3) := by decide +kernel
theorem d_155_26 : decode m155.2.1 26 = .ok (.aload_n 0, 1) := by decide +kernel
theorem d_155_27 : decode m155.2.1 27 = .ok (.getfield 56, 3) := by decide +kernel
theorem d_155_30 : decode m155.2.1 30 = .ok (.iconst 1, 1) := by decide +kernel
theorem d_155_31 : decode m155.2.1 31 = .ok (.iload_n 1, 1) := by decide +kernel
theorem d_155_32 : decode m155.2.1 32 = .ok (.ishl, 1) := by decide +kernel
theorem d_155_33 : decode m155.2.1 33 = .ok (.ior, 1) := by decide +kernel
theorem d_155_34 : decode m155.2.1 34 = .ok (.goto 7, 3) := by decide +kernel
theorem d_155_37 : decode m155.2.1 37 = .ok (.aload_n 0, 1) := by decide +kernel
theorem d_155_38 : decode m155.2.1 38 = .ok (.getfield 56, 3) := by decide +kernel
theorem d_155_41 : decode m155.2.1 41 = .ok (.istore 4, 2) := by decide +kernel
theorem d_155_43 : decode m155.2.1 43 = .ok (.iconst 0, 1) := by decide +kernel
theorem d_155_44 : decode m155.2.1 44 = .ok (.istore 5, 2) := by decide +kernel
theorem d_155_46 : decode m155.2.1 46 = .ok (.iconst 0, 1) := by decide +kernel
theorem d_155_47 : decode m155.2.1 47 = .ok (.istore 6, 2) := by decide +kernel
theorem d_155_49 : decode m155.2.1 49 = .ok (.iload 6, 2) := by decide +kernel
theorem d_155_51 : decode m155.2.1 51 = .ok (.aload_n 0, 1) := by decide +kernel
theorem d_155_52 : decode m155.2.1 52 = .ok (.getfield 30, 3) := by decide +kernel
theorem d_155_55 : decode m155.2.1 55 = .ok (.if_icmp .ge 40, 3) := by decide +kernel
theorem d_155_58 : decode m155.2.1 58 = .ok (.iload 5, 2) := by decide +kernel
theorem d_155_60 : decode m155.2.1 60 = .ok (.aload_n 0, 1) := by decide +kernel
theorem d_155_61 : decode m155.2.1 61 = .ok (.iload_n 3, 1) := by decide +kernel
theorem d_155_62 : decode m155.2.1 62 = .ok (.iload 4, 2) := by decide +kernel
theorem d_155_64 : decode m155.2.1 64 = .ok (.iload 6, 2) := by decide +kernel
theorem d_155_66 : decode m155.2.1 66 = .ok (.invokevirtual 104, 3) := by decide +kernel
theorem d_155_69 : decode m155.2.1 69 = .ok (.aload_n 0, 1) := by decide +kernel
theorem d_155_70 : decode m155.2.1 70 = .ok (.aload_n 0, 1) := by decide +kernel
theorem d_155_71 : decode m155.2.1 71 = .ok (.getfield 53, 3) := by decide +kernel
theorem d_155_74 : decode m155.2.1 74 = .ok (.aload_n 0, 1) := by decide +kernel
theorem d_155_75 : decode m155.2.1 75 = .ok (.getfield 56, 3) := by decide +kernel
theorem d_155_78 : decode m155.2.1 78 = .ok (.iload 6, 2) := by decide +kernel
theorem d_155_80 : decode m155.2.1 80 = .ok (.invokevirtual 104, 3) := by decide +kernel
theorem d_155_83 : decode m155.2.1 83 = .ok (.iconst (-1), 1) := by decide +kernel
theorem d_155_84 : decode m155.2.1 84 = .ok (.ixor, 1) := by decide +kernel
theorem d_155_85 : decode m155.2.1 85 = .ok (.iand, 1) := by decide +kernel
theorem d_155_86 : decode m155.2.1 86 = .ok (.ior, 1) := by decide +kernel
theorem d_155_87 : decode m155.2.1 87 = .ok (.istore 5, 2) := by decide +kernel
theorem d_155_89 : decode m155.2.1 89 = .ok (.iinc 6 1, 3) := by decide +kernel
theorem d_155_92 : decode m155.2.1 92 = .ok (.goto (-43), 3) := by decide +kernel
theorem d_155_95 : decode m155.2.1 95 = .ok (.iload 5, 2) := by decide +kernel
theorem d_155_97 : decode m155.2.1 97 = .ok (.ireturn, 1) := by decide +kernel
theorem d_157_0 : decode m157.2.1 0 = .ok (.aload_n 0, 1) := by decide +kernel
theorem d_157_1 : decode m157.2.1 1 = .ok (.getfield 24, 3) := by decide +kernel
theorem d_157_4 : decode m157.2.1 4 = .ok (.getfield 104, 3) := by decide +kernel
theorem d_157_7 : decode m157.2.1 7 = .ok (.iload_n 2, 1) := by decide +kernel
theorem d_157_8 : decode m157.2.1 8 = .ok (.iconst 1, 1) := by decide +kernel
theorem d_157_9 : decode m157.2.1 9 = .ok (.if_icmp .ne 9, 3) := by decide +kernel
theorem d_157_12 : decode m157.2.1 12 = .ok (.iconst 1, 1) := by decide +kernel
theorem d_157_13 : decode m157.2.1 13 = .ok (.iload_n 1, 1) := by decide +kernel
theorem d_157_14 : decode m157.2.1 14 = .ok (.ishl, 1) := by decide +kernel
theorem d_157_15 : decode m157.2.1 15 = .ok (.goto 4, 3) := by decide +kernel
theorem d_157_18 : decode m157.2.1 18 = .ok (.iconst 0, 1) := by decide +kernel
theorem d_157_19 : decode m157.2.1 19 = .ok (.ior, 1) := by decide +kernel
theorem d_157_20 : decode m157.2.1 20 = .ok (.istore_n 3, 1) := by decide +kernel
theorem d_157_21 : decode m157.2.1 21 = .ok (.aload_n 0, 1) := by decide +kernel
theorem d_157_22 : decode m157.2.1 22 = .ok (.getfield 24, 3) := by decide +kernel
theorem d_157_25 : decode m157.2.1 25 = .ok (.getfield 105, 3) := by decide +kernel
theorem d_157_28 : decode m157.2.1 28 = .ok (.iload_n 2, 1) := by decide +kernel
theorem d_157_29 : decode m157.2.1 29 = .ok (.iconst 2, 1) := by decide +kernel
theorem d_157_30 : decode m157.2.1 30 = .ok (.if_icmp .ne 9, 3) := by decide +kernel
theorem d_157_33 : decode m157.2.1 33 = .ok (.iconst 1, 1) := by decide +kernel
theorem d_157_34 : decode m157.2.1 34 = .ok (.iload_n 1, 1) := by decide +kernel
theorem d_157_35 : decode m157.2.1 35 = .ok (.ishl, 1) := by decide +kernel
theorem d_157_36 : decode m157.2.1 36 = .ok (.goto 4, 3) := by decide +kernel
theorem d_157_39 : decode m157.2.1 39 = .ok (.iconst 0, 1) := by decide +kernel
theorem d_157_40 : decode m157.2.1 40 = .ok (.ior, 1) := by decide +kernel
theorem d_157_41 : decode m157.2.1 41 = .ok (.istore 4, 2) := by decide +kernel
theorem d_157_43 : decode m157.2.1 43 = .ok (.aload_n 0, 1) := by decide +kernel
theorem d_157_44 : decode m157.2.1 44 = .ok (.getfield 24, 3) := by decide +kernel
theorem d_157_47 : decode m157.2.1 47 = .ok (.getfield 104, 3) := by decide +kernel
theorem d_157_50 : decode m157.2.1 50 = .ok (.aload_n 0, 1) := by decide +kernel
theorem d_157_51 : decode m157.2.1 51 = .ok (.getfield 24, 3) := by decide +kernel
theorem d_157_54 : decode m157.2.1 54 = .ok (.getfield 105, 3) := by decide +kernel
theorem d_157_57 : decode m157.2.1 57 = .ok (.ior, 1) := by decide +kernel
theorem d_157_58 : decode m157.2.1 58 = .ok (.istore 5, 2) := by decide +kernel
theorem d_157_60 : decode m157.2.1 60 = .ok (.iconst (-1), 1) := by decide +kernel
theorem d_157_61 : decode m157.2.1 61 = .ok (.istore 6, 2) := by decide +kernel
theorem d_157_63 : decode m157.2.1 63 = .ok (.iconst 0, 1) := by decide +kernel
theorem d_157_64 : decode m157.2.1 64 = .ok (.istore 7, 2) := by decide +kernel
theorem d_157_66 : decode m157.2.1 66 = .ok (.iload 7, 2) := by decide +kernel
theorem d_157_68 : decode m157.2.1 68 = .ok (.iconst 1, 1) := by decide +kernel
theorem d_157_69 : decode m157.2.1 69 = .ok (.aload_n 0, 1) := by decide +kernel
theorem d_157_70 : decode m157.2.1 70 = .ok (.getfield 24, 3) := by decide +kernel
theorem d_157_73 : decode m157.2.1 73 = .ok (.getfield 38, 3) := by decide +kernel
theorem d_157_76 : decode m157.2.1 76 = .ok (.ishl, 1) := by decide +kernel
theorem d_157_77 : decode m157.2.1 77 = .ok (.if_icmp .ge 75, 3) := by decide +kernel
theorem d_157_80 : decode m157.2.1 80 = .ok (.iload 7, 2) := by decide +kernel
theorem d_157_82 : decode m157.2.1 82 = .ok (.iload 5, 2) := by decide +kernel
theorem d_157_84 : decode m157.2.1 84 = .ok (.iconst (-1), 1) := by decide +kernel
theorem d_157_85 : decode m157.2.1 85 = .ok (.ixor, 1) := by decide +kernel
theorem d_157_86 : decode m157.2.1 86 = .ok (.iand, 1) := by decide +kernel
theorem d_157_87 : decode m157.2.1 87 = .ok (.ifCond .ne 24, 3) := by decide +kernel
theorem d_157_90 : decode m157.2.1 90 = .ok (.iload 6, 2) := by decide +kernel
theorem d_157_92 : decode m157.2.1 92 = .ok (.iconst (-1), 1) := by decide +kernel
theorem d_157_93 : decode m157.2.1 93 = .ok (.if_icmp .eq 14, 3) := by decide +kernel
theorem d_157_96 : decode m157.2.1 96 = .ok (.aload_n 0, 1) := by decide +kernel
theorem d_157_97 : decode m157.2.1 97 = .ok (.iload 7, 2) := by decide +kernel
theorem d_157_99 : decode m157.2.1 99 = .ok (.iload 6, 2) := by decide +kernel
theorem d_157_101 : decode m157.2.1 101 = .ok (.invokevirtual 106, 3) := by decide +kernel
theorem d_157_104 : decode m157.2.1 104 = .ok (.ifCond .eq 7, 3) := by decide +kernel
theorem d_157_107 : decode m157.2.1 107 = .ok (.iconst 1, 1) := by decide +kernel
theorem d_157_108 : decode m157.2.1 108 = .ok (.goto 4, 3) := by decide +kernel
theorem d_157_111 : decode m157.2.1 111 = .ok (.iconst 0, 1) := by decide +kernel
theorem d_157_112 : decode m157.2.1 112 = .ok (.istore 8, 2) := by decide +kernel
theorem d_157_114 : decode m157.2.1 114 = .ok (.iload 8, 2) := by decide +kernel
theorem d_157_116 : decode m157.2.1 116 = .ok (.ifCond .eq 30, 3) := by decide +kernel
theorem d_157_119 : decode m157.2.1 119 = .ok (.aload_n 0, 1) := by decide +kernel
theorem d_157_120 : decode m157.2.1 120 = .ok (.getfield 24, 3) := by decide +kernel
theorem d_157_123 : decode m157.2.1 123 = .ok (.iload_n 3, 1) := by decide +kernel
theorem d_157_124 : decode m157.2.1 124 = .ok (.iload 7, 2) := by decide +kernel
theorem d_157_126 : decode m157.2.1 126 = .ok (.iconst (-1), 1) := by decide +kernel
theorem d_157_127 : decode m157.2.1 127 = .ok (.ixor, 1) := by decide +kernel
theorem d_157_128 : decode m157.2.1 128 = .ok (.iand, 1) := by decide +kernel
theorem d_157_129 : decode m157.2.1 129 = .ok (.iload 4, 2) := by decide +kernel
theorem d_157_131 : decode m157.2.1 131 = .ok (.iload 7, 2) := by decide +kernel
theorem d_157_133 : decode m157.2.1 133 = .ok (.iconst (-1), 1) := by decide +kernel
theorem d_157_134 : decode m157.2.1 134 = .ok (.ixor, 1) := by decide +kernel
theorem d_157_135 : decode m157.2.1 135 = .ok (.iand, 1) := by decide +kernel
theorem d_157_136 : decode m157.2.1 136 = .ok (.invokevirtual 109, 3) := by decide +kernel
theorem d_157_139 : decode m157.2.1 139 = .ok (.ifCond .eq 7, 3) := by decide +kernel
theorem d_157_142 : decode m157.2.1 142 = .ok (.iload 7, 2) := by decide +kernel
theorem d_157_144 : decode m157.2.1 144 = .ok (.istore 6, 2) := by decide +kernel
theorem d_157_146 : decode m157.2.1 146 = .ok (.iinc 7 1, 3) := by decide +kernel
theorem d_157_149 : decode m157.2.1 149 = .ok (.goto (-83), 3) := by decide +kernel
theorem d_157_152 : decode m157.2.1 152 = .ok (.iload 6, 2) := by decide +kernel
theorem d_157_154 : decode m157.2.1 154 = .ok (.ireturn, 1) := by decide +kernel
theorem d_158_0 : decode m158.2.1 0 = .ok (.iload_n 1, 1) := by decide +kernel
theorem d_158_1 : decode m158.2.1 1 = .ok (.invokestatic 89, 3) := by decide +kernel
theorem d_158_4 : decode m158.2.1 4 = .ok (.istore_n 3, 1) := by decide +kernel
theorem d_158_5 : decode m158.2.1 5 = .ok (.iload_n 2, 1) := by decide +kernel
theorem d_158_6 : decode m158.2.1 6 = .ok (.invokestatic 89, 3) := by decide +kernel
theorem d_158_9 : decode m158.2.1 9 = .ok (.istore 4, 2) := by decide +kernel
theorem d_158_11 : decode m158.2.1 11 = .ok (.iload_n 3, 1) := by decide +kernel
theorem d_158_12 : decode m158.2.1 12 = .ok (.iload 4, 2) := by decide +kernel
theorem d_158_14 : decode m158.2.1 14 = .ok (.if_icmp .lt 22, 3) := by decide +kernel
theorem d_158_17 : decode m158.2.1 17 = .ok (.iload_n 3, 1) := by decide +kernel
theorem d_158_18 : decode m158.2.1 18 = .ok (.iload 4, 2) := by decide +kernel
theorem d_158_20 : decode m158.2.1 20 = .ok (.if_icmp .ne 20, 3) := by decide +kernel
theorem d_158_23 : decode m158.2.1 23 = .ok (.aload_n 0, 1) := by decide +kernel
theorem d_158_24 : decode m158.2.1 24 = .ok (.iload_n 1, 1) := by decide +kernel
theorem d_158_25 : decode m158.2.1 25 = .ok (.invokevirtual 112, 3) := by decide +kernel
theorem d_158_28 : decode m158.2.1 28 = .ok (.aload_n 0, 1) := by decide +kernel
theorem d_158_29 : decode m158.2.1 29 = .ok (.iload_n 2, 1) := by decide +kernel
theorem d_158_30 : decode m158.2.1 30 = .ok (.invokevirtual 112, 3) := by decide +kernel
theorem d_158_33 : decode m158.2.1 33 = .ok (.if_icmp .ge 7, 3) := by decide +kernel
theorem d_158_36 : decode m158.2.1 36 = .ok (.iconst 1, 1) := by decide +kernel
theorem d_158_37 : decode m158.2.1 37 = .ok (.goto 4, 3) := by decide +kernel
theorem d_158_40 : decode m158.2.1 40 = .ok (.iconst 0, 1) := by decide +kernel
theorem d_158_41 : decode m158.2.1 41 = .ok (.ireturn, 1) := by decide +kernel
theorem d_159_0 : decode m159.2.1 0 = .ok (.iconst 0, 1) := by decide +kernel
theorem d_159_1 : decode m159.2.1 1 = .ok (.istore_n 2, 1) := by decide +kernel
theorem d_159_2 : decode m159.2.1 2 = .ok (.iconst 0, 1) := by decide +kernel
theorem d_159_3 : decode m159.2.1 3 = .ok (.istore_n 3, 1) := by decide +kernel
theorem d_159_4 : decode m159.2.1 4 = .ok (.iload_n 3, 1) := by decide +kernel
theorem d_159_5 : decode m159.2.1 5 = .ok (.aload_n 0, 1) := by decide +kernel
theorem d_159_6 : decode m159.2.1 6 = .ok (.getfield 24, 3) := by decide +kernel
theorem d_159_9 : decode m159.2.1 9 = .ok (.getfield 38, 3) := by decide +kernel
theorem d_159_12 : decode m159.2.1 12 = .ok (.if_icmp .ge 30, 3) := by decide +kernel
theorem d_159_15 : decode m159.2.1 15 = .ok (.iload_n 2, 1) := by decide +kernel
theorem d_159_16 : decode m159.2.1 16 = .ok (.iload_n 1, 1) := by decide +kernel
theorem d_159_17 : decode m159.2.1 17 = .ok (.iload_n 3, 1) := by decide +kernel
theorem d_159_18 : decode m159.2.1 18 = .ok (.ishr, 1) := by decide +kernel
theorem d_159_19 : decode m159.2.1 19 = .ok (.iconst 1, 1) := by decide +kernel
theorem d_159_20 : decode m159.2.1 20 = .ok (.iand, 1) := by decide +kernel
theorem d_159_21 : decode m159.2.1 21 = .ok (.ifCond .eq 12, 3) := by decide +kernel
theorem d_159_24 : decode m159.2.1 24 = .ok (.aload_n 0, 1) := by decide +kernel
theorem d_159_25 : decode m159.2.1 25 = .ok (.getfield 28, 3) := by decide +kernel
theorem d_159_28 : decode m159.2.1 28 = .ok (.iload_n 3, 1) := by decide +kernel
theorem d_159_29 : decode m159.2.1 29 = .ok (.iaload, 1) := by decide +kernel
theorem d_159_30 : decode m159.2.1 30 = .ok (.goto 4, 3) := by decide +kernel
theorem d_159_33 : decode m159.2.1 33 = .ok (.iconst 0, 1) := by decide +kernel
theorem d_159_34 : decode m159.2.1 34 = .ok (.iadd, 1) := by decide +kernel
theorem d_159_35 : decode m159.2.1 35 = .ok (.istore_n 2, 1) := by decide +kernel
theorem d_159_36 : decode m159.2.1 36 = .ok (.iinc 3 1, 3) := by decide +kernel
theorem d_159_39 : decode m159.2.1 39 = .ok (.goto (-35), 3) := by decide +kernel
theorem d_159_42 : decode m159.2.1 42 = .ok (.iload_n 2, 1) := by decide +kernel
theorem d_159_43 : decode m159.2.1 43 = .ok (.ireturn, 1) := by decide +kernel
theorem d_160_0 : decode m160.2.1 0 = .ok (.iconst 0, 1) := by decide +kernel
theorem d_160_1 : decode m160.2.1 1 = .ok (.istore_n 3, 1) := by decide +kernel
theorem d_160_2 : decode m160.2.1 2 = .ok (.iload_n 3, 1) := by decide +kernel
theorem d_160_3 : decode m160.2.1 3 = .ok (.aload_n 0, 1) := by decide +kernel
theorem d_160_4 : decode m160.2.1 4 = .ok (.getfield 30, 3) := by decide +kernel
theorem d_160_7 : decode m160.2.1 7 = .ok (.if_icmp .ge 21, 3) := by decide +kernel
theorem d_160_10 : decode m160.2.1 10 = .ok (.aload_n 0, 1) := by decide +kernel
theorem d_160_11 : decode m160.2.1 11 = .ok (.iload_n 1, 1) := by decide +kernel
theorem d_160_12 : decode m160.2.1 12 = .ok (.iload_n 2, 1) := by decide +kernel
theorem d_160_13 : decode m160.2.1 13 = .ok (.iload_n 3, 1) := by decide +kernel
theorem d_160_14 : decode m160.2.1 14 = .ok (.invokevirtual 104, 3) := by decide +kernel
theorem d_160_17 : decode m160.2.1 17 = .ok (.ifCond .eq 5, 3) := by decide +kernel
theorem d_160_20 : decode m160.2.1 20 = .ok (.iconst 0, 1) := by decide +kernel
theorem d_160_21 : decode m160.2.1 21 = .ok (.ireturn, 1) := by decide +kernel
theorem d_160_22 : decode m160.2.1 22 = .ok (.iinc 3 1, 3) := by decide +kernel
theorem d_160_25 : decode m160.2.1 25 = .ok (.goto (-23), 3) := by decide +kernel
theorem d_160_28 : decode m160.2.1 28 = .ok (.iconst 1, 1) := by decide +kernel
theorem d_160_29 : decode m160.2.1 29 = .ok (.ireturn, 1) := by decide +kernel
theorem d_162_0 : decode m162.2.1 0 = .ok (.aload_n 0, 1) := by decide +kernel
theorem d_162_1 : decode m162.2.1 1 = .ok (.getfield 9, 3) := by decide +kernel
theorem d_162_4 : decode m162.2.1 4 = .ok (.iload_n 1, 1) := by decide +kernel
theorem d_162_5 : decode m162.2.1 5 = .ok (.iaload, 1) := by decide +kernel
theorem d_162_6 : decode m162.2.1 6 = .ok (.istore_n 3, 1) := by decide +kernel
theorem d_162_7 : decode m162.2.1 7 = .ok (.iload_n 3, 1) := by decide +kernel
theorem d_162_8 : decode m162.2.1 8 = .ok (.iload_n 2, 1) := by decide +kernel
theorem d_162_9 : decode m162.2.1 9 = .ok (.bipush 12, 2) := by decide +kernel
theorem d_162_11 : decode m162.2.1 11 = .ok (.imul, 1) := by decide +kernel
theorem d_162_12 : decode m162.2.1 12 = .ok (.iadd, 1) := by decide +kernel
theorem d_162_13 : decode m162.2.1 13 = .ok (.istore 4, 2) := by decide +kernel
theorem d_162_15 : decode m162.2.1 15 = .ok (.iload 4, 2) := by decide +kernel
theorem d_162_17 : decode m162.2.1 17 = .ok (.invokestatic 108, 3) := by decide +kernel
theorem d_162_20 : decode m162.2.1 20 = .ok (.ifCond .ne 5, 3) := by decide +kernel
theorem d_162_23 : decode m162.2.1 23 = .ok (.iconst 0, 1) := by decide +kernel
theorem d_162_24 : decode m162.2.1 24 = .ok (.ireturn, 1) := by decide +kernel
theorem d_162_25 : decode m162.2.1 25 = .ok (.iconst 1, 1) := by decide +kernel
theorem d_162_26 : decode m162.2.1 26 = .ok (.iload_n 1, 1) := by decide +kernel
theorem d_162_27 : decode m162.2.1 27 = .ok (.ishl, 1) := by decide +kernel
theorem d_162_28 : decode m162.2.1 28 = .ok (.istore 5, 2) := by decide +kernel
theorem d_162_30 : decode m162.2.1 30 = .ok (.aload_n 0, 1) := by decide +kernel
theorem d_162_31 : decode m162.2.1 31 = .ok (.getfield 9, 3) := by decide +kernel
theorem d_162_34 : decode m162.2.1 34 = .ok (.iload_n 1, 1) := by decide +kernel
theorem d_162_35 : decode m162.2.1 35 = .ok (.iload 4, 2) := by decide +kernel
theorem d_162_37 : decode m162.2.1 37 = .ok (.iastore, 1) := by decide +kernel
theorem d_162_38 : decode m162.2.1 38 = .ok (.aload_n 0, 1) := by decide +kernel
theorem d_162_39 : decode m162.2.1 39 = .ok (.aload_n 0, 1) := by decide +kernel
theorem d_162_40 : decode m162.2.1 40 = .ok (.getfield 53, 3) := by decide +kernel
theorem d_162_43 : decode m162.2.1 43 = .ok (.iload 5, 2) := by decide +kernel
theorem d_162_45 : decode m162.2.1 45 = .ok (.ior, 1) := by decide +kernel
theorem d_162_46 : decode m162.2.1 46 = .ok (.aload_n 0, 1) := by decide +kernel
theorem d_162_47 : decode m162.2.1 47 = .ok (.getfield 56, 3) := by decide +kernel
theorem d_162_50 : decode m162.2.1 50 = .ok (.invokevirtual 111, 3) := by decide +kernel
theorem d_162_53 : decode m162.2.1 53 = .ok (.ifCond .eq 7, 3) := by decide +kernel
theorem d_162_56 : decode m162.2.1 56 = .ok (.iconst 1, 1) := by decide +kernel
theorem d_162_57 : decode m162.2.1 57 = .ok (.goto 26, 3) := by decide +kernel
theorem d_162_60 : decode m162.2.1 60 = .ok (.aload_n 0, 1) := by decide +kernel
theorem d_162_61 : decode m162.2.1 61 = .ok (.aload_n 0, 1) := by decide +kernel
theorem d_162_62 : decode m162.2.1 62 = .ok (.getfield 53, 3) := by decide +kernel
theorem d_162_65 : decode m162.2.1 65 = .ok (.aload_n 0, 1) := by decide +kernel
theorem d_162_66 : decode m162.2.1 66 = .ok (.getfield 56, 3) := by decide +kernel
theorem d_162_69 : decode m162.2.1 69 = .ok (.iload 5, 2) := by decide +kernel
theorem d_162_71 : decode m162.2.1 71 = .ok (.ior, 1) := by decide +kernel
theorem d_162_72 : decode m162.2.1 72 = .ok (.invokevirtual 111, 3) := by decide +kernel
theorem d_162_75 : decode m162.2.1 75 = .ok (.ifCond .eq 7, 3) := by decide +kernel
theorem d_162_78 : decode m162.2.1 78 = .ok (.iconst 2, 1) := by decide +kernel
theorem d_162_79 : decode m162.2.1 79 = .ok (.goto 4, 3) := by decide +kernel
theorem d_162_82 : decode m162.2.1 82 = .ok (.iconst 0, 1) := by decide +kernel
theorem d_162_83 : decode m162.2.1 83 = .ok (.istore 6, 2) := by decide +kernel
theorem d_162_85 : decode m162.2.1 85 = .ok (.aload_n 0, 1) := by decide +kernel
theorem d_162_86 : decode m162.2.1 86 = .ok (.getfield 9, 3) := by decide +kernel
theorem d_162_89 : decode m162.2.1 89 = .ok (.iload_n 1, 1) := by decide +kernel
theorem d_162_90 : decode m162.2.1 90 = .ok (.iload_n 3, 1) := by decide +kernel
theorem d_162_91 : decode m162.2.1 91 = .ok (.iastore, 1) := by decide +kernel
theorem d_162_92 : decode m162.2.1 92 = .ok (.iload 6, 2) := by decide +kernel
theorem d_162_94 : decode m162.2.1 94 = .ok (.ireturn, 1) := by decide +kernel
theorem d_164_0 : decode m164.2.1 0 = .ok (.aload_n 0, 1) := by decide +kernel
theorem d_164_1 : decode m164.2.1 1 = .ok (.getfield 9, 3) := by decide +kernel
theorem d_164_4 : decode m164.2.1 4 = .ok (.iconst 0, 1) := by decide +kernel
theorem d_164_5 : decode m164.2.1 5 = .ok (.aload_n 0, 1) := by decide +kernel
theorem d_164_6 : decode m164.2.1 6 = .ok (.iconst 0, 1) := by decide +kernel
theorem d_164_7 : decode m164.2.1 7 = .ok (.iconst 0, 1) := by decide +kernel
theorem d_164_8 : decode m164.2.1 8 = .ok (.iconst 0, 1) := by decide +kernel
theorem d_164_9 : decode m164.2.1 9 = .ok (.invokevirtual 19, 3) := by decide +kernel
theorem d_164_12 : decode m164.2.1 12 = .ok (.ifCond .eq 7, 3) := by decide +kernel
theorem d_164_15 : decode m164.2.1 15 = .ok (.iconst 0, 1) := by decide +kernel
theorem d_164_16 : decode m164.2.1 16 = .ok (.goto 4, 3) := by decide +kernel
theorem d_164_19 : decode m164.2.1 19 = .ok (.iconst (-1), 1) := by decide +kernel
theorem d_164_20 : decode m164.2.1 20 = .ok (.iastore, 1) := by decide +kernel
theorem d_164_21 : decode m164.2.1 21 = .ok (.iconst 1, 1) := by decide +kernel
theorem d_164_22 : decode m164.2.1 22 = .ok (.istore_n 1, 1) := by decide +kernel
theorem d_164_23 : decode m164.2.1 23 = .ok (.iload_n 1, 1) := by decide +kernel
theorem d_164_24 : decode m164.2.1 24 = .ok (.aload_n 0, 1) := by decide +kernel
theorem d_164_25 : decode m164.2.1 25 = .ok (.getfield 15, 3) := by decide +kernel
theorem d_164_28 : decode m164.2.1 28 = .ok (.getfield 23, 3) := by decide +kernel
theorem d_164_31 : decode m164.2.1 31 = .ok (.if_icmp .ge 50, 3) := by decide +kernel
theorem d_164_34 : decode m164.2.1 34 = .ok (.aload_n 0, 1) := by decide +kernel
theorem d_164_35 : decode m164.2.1 35 = .ok (.getfield 9, 3) := by decide +kernel
theorem d_164_38 : decode m164.2.1 38 = .ok (.iload_n 1, 1) := by decide +kernel
theorem d_164_39 : decode m164.2.1 39 = .ok (.aload_n 0, 1) := by decide +kernel
theorem d_164_40 : decode m164.2.1 40 = .ok (.iload_n 1, 1) := by decide +kernel
theorem d_164_41 : decode m164.2.1 41 = .ok (.invokevirtual 29, 3) := by decide +kernel
theorem d_164_44 : decode m164.2.1 44 = .ok (.iastore, 1) := by decide +kernel
theorem d_164_45 : decode m164.2.1 45 = .ok (.iconst 0, 1) := by decide +kernel
theorem d_164_46 : decode m164.2.1 46 = .ok (.istore_n 2, 1) := by decide +kernel
theorem d_164_47 : decode m164.2.1 47 = .ok (.iload_n 2, 1) := by decide +kernel
theorem d_164_48 : decode m164.2.1 48 = .ok (.iload_n 1, 1) := by decide +kernel
theorem d_164_49 : decode m164.2.1 49 = .ok (.if_icmp .ge 26, 3) := by decide +kernel
theorem d_164_52 : decode m164.2.1 52 = .ok (.aload_n 0, 1) := by decide +kernel
theorem d_164_53 : decode m164.2.1 53 = .ok (.iload_n 1, 1) := by decide +kernel
theorem d_164_54 : decode m164.2.1 54 = .ok (.iload_n 2, 1) := by decide +kernel
theorem d_164_55 : decode m164.2.1 55 = .ok (.iload_n 2, 1) := by decide +kernel
theorem d_164_56 : decode m164.2.1 56 = .ok (.invokevirtual 19, 3) := by decide +kernel
theorem d_164_59 : decode m164.2.1 59 = .ok (.ifCond .ne 10, 3) := by decide +kernel
theorem d_164_62 : decode m164.2.1 62 = .ok (.aload_n 0, 1) := by decide +kernel
theorem d_164_63 : decode m164.2.1 63 = .ok (.getfield 9, 3) := by decide +kernel
theorem d_164_66 : decode m164.2.1 66 = .ok (.iload_n 2, 1) := by decide +kernel
theorem d_164_67 : decode m164.2.1 67 = .ok (.iconst (-1), 1) := by decide +kernel
theorem d_164_68 : decode m164.2.1 68 = .ok (.iastore, 1) := by decide +kernel
theorem d_164_69 : decode m164.2.1 69 = .ok (.iinc 2 1, 3) := by decide +kernel
theorem d_164_72 : decode m164.2.1 72 = .ok (.goto (-25), 3) := by decide +kernel
theorem d_164_75 : decode m164.2.1 75 = .ok (.iinc 1 1, 3) := by decide +kernel
theorem d_164_78 : decode m164.2.1 78 = .ok (.goto (-55), 3) := by decide +kernel
theorem d_164_81 : decode m164.2.1 81 = .ok (.iconst (-1), 1) := by decide +kernel
theorem d_164_82 : decode m164.2.1 82 = .ok (.istore_n 1, 1) := by decide +kernel
theorem d_164_83 : decode m164.2.1 83 = .ok (.iconst 0, 1) := by decide +kernel
theorem d_164_84 : decode m164.2.1 84 = .ok (.istore_n 2, 1) := by decide +kernel
theorem d_164_85 : decode m164.2.1 85 = .ok (.iload_n 2, 1) := by decide +kernel
theorem d_164_86 : decode m164.2.1 86 = .ok (.aload_n 0, 1) := by decide +kernel
theorem d_164_87 : decode m164.2.1 87 = .ok (.getfield 15, 3) := by decide +kernel
theorem d_164_90 : decode m164.2.1 90 = .ok (.getfield 23, 3) := by decide +kernel
theorem d_164_93 : decode m164.2.1 93 = .ok (.if_icmp .ge 20, 3) := by decide +kernel
theorem d_164_96 : decode m164.2.1 96 = .ok (.iload_n 1, 1) := by decide +kernel
theorem d_164_97 : decode m164.2.1 97 = .ok (.aload_n 0, 1) := by decide +kernel
theorem d_164_98 : decode m164.2.1 98 = .ok (.getfield 9, 3) := by decide +kernel
theorem d_164_101 : decode m164.2.1 101 = .ok (.iload_n 2, 1) := by decide +kernel
theorem d_164_102 : decode m164.2.1 102 = .ok (.iaload, 1) := by decide +kernel
theorem d_164_103 : decode m164.2.1 103 = .ok (.invokestatic 33, 3) := by decide +kernel
theorem d_164_106 : decode m164.2.1 106 = .ok (.istore_n 1, 1) := by decide +kernel
theorem d_164_107 : decode m164.2.1 107 = .ok (.iinc 2 1, 3) := by decide +kernel
theorem d_164_110 : decode m164.2.1 110 = .ok (.goto (-25), 3) := by decide +kernel
theorem d_164_113 : decode m164.2.1 113 = .ok (.iload_n 1, 1) := by decide +kernel
theorem d_164_114 : decode m164.2.1 114 = .ok (.ireturn, 1) := by decide +kernel
theorem d_165_0 : decode m165.2.1 0 = .ok (.aload_n 0, 1) := by decide +kernel
theorem d_165_1 : decode m165.2.1 1 = .ok (.getfield 15, 3) := by decide +kernel
theorem d_165_4 : decode m165.2.1 4 = .ok (.iload_n 2, 1) := by decide +kernel
theorem d_165_5 : decode m165.2.1 5 = .ok (.iload_n 1, 1) := by decide +kernel
theorem d_165_6 : decode m165.2.1 6 = .ok (.iconst 1, 1) := by decide +kernel
theorem d_165_7 : decode m165.2.1 7 = .ok (.isub, 1) := by decide +kernel
theorem d_165_8 : decode m165.2.1 8 = .ok (.invokevirtual 37, 3) := by decide +kernel
theorem d_165_11 : decode m165.2.1 11 = .ok (.istore 4, 2) := by decide +kernel
theorem d_165_13 : decode m165.2.1 13 = .ok (.aload_n 0, 1) := by decide +kernel
theorem d_165_14 : decode m165.2.1 14 = .ok (.getfield 15, 3) := by decide +kernel
theorem d_165_17 : decode m165.2.1 17 = .ok (.iload_n 3, 1) := by decide +kernel
theorem d_165_18 : decode m165.2.1 18 = .ok (.iload_n 1, 1) := by decide +kernel
theorem d_165_19 : decode m165.2.1 19 = .ok (.invokevirtual 37, 3) := by decide +kernel
theorem d_165_22 : decode m165.2.1 22 = .ok (.istore 5, 2) := by decide +kernel
theorem d_165_24 : decode m165.2.1 24 = .ok (.aload_n 0, 1) := by decide +kernel
theorem d_165_25 : decode m165.2.1 25 = .ok (.getfield 15, 3) := by decide +kernel
theorem d_165_28 : decode m165.2.1 28 = .ok (.aload_n 0, 1) := by decide +kernel
theorem d_165_29 : decode m165.2.1 29 = .ok (.getfield 15, 3) := by decide +kernel
theorem d_165_32 : decode m165.2.1 32 = .ok (.getfield 40, 3) := by decide +kernel
theorem d_165_35 : decode m165.2.1 35 = .ok (.aload_n 0, 1) := by decide +kernel
theorem d_165_36 : decode m165.2.1 36 = .ok (.getfield 15, 3) := by decide +kernel
theorem d_165_39 : decode m165.2.1 39 = .ok (.getfield 43, 3) := by decide +kernel
theorem d_165_42 : decode m165.2.1 42 = .ok (.iload 4, 2) := by decide +kernel
theorem d_165_44 : decode m165.2.1 44 = .ok (.iload 5, 2) := by decide +kernel
theorem d_165_46 : decode m165.2.1 46 = .ok (.invokevirtual 46, 3) := by decide +kernel
theorem d_165_49 : decode m165.2.1 49 = .ok (.ifCond .ne 7, 3) := by decide +kernel
theorem d_165_52 : decode m165.2.1 52 = .ok (.iconst 1, 1) := by decide +kernel
theorem d_165_53 : decode m165.2.1 53 = .ok (.goto 4, 3) := by decide +kernel
theorem d_165_56 : decode m165.2.1 56 = .ok (.iconst 0, 1) := by decide +kernel
theorem d_165_57 : decode m165.2.1 57 = .ok (.ireturn, 1) := by decide +kernel
theorem d_166_0 : decode m166.2.1 0 = .ok (.iconst (-1), 1) := by decide +kernel
theorem d_166_1 : decode m166.2.1 1 = .ok (.istore_n 2, 1) := by decide +kernel
theorem d_166_2 : decode m166.2.1 2 = .ok (.iconst 0, 1) := by decide +kernel
theorem d_166_3 : decode m166.2.1 3 = .ok (.istore_n 3, 1) := by decide +kernel
theorem d_166_4 : decode m166.2.1 4 = .ok (.iload_n 3, 1) := by decide +kernel
theorem d_166_5 : decode m166.2.1 5 = .ok (.iload_n 1, 1) := by decide +kernel
theorem d_166_6 : decode m166.2.1 6 = .ok (.if_icmp .ge 44, 3) := by decide +kernel
theorem d_166_9 : decode m166.2.1 9 = .ok (.aload_n 0, 1) := by decide +kernel
theorem d_166_10 : decode m166.2.1 10 = .ok (.getfield 9, 3) := by decide +kernel
theorem d_166_13 : decode m166.2.1 13 = .ok (.iload_n 3, 1) := by decide +kernel
theorem d_166_14 : decode m166.2.1 14 = .ok (.iaload, 1) := by decide +kernel
theorem d_166_15 : decode m166.2.1 15 = .ok (.iconst (-1), 1) := by decide +kernel
theorem d_166_16 : decode m166.2.1 16 = .ok (.if_icmp .eq 28, 3) := by decide +kernel
theorem d_166_19 : decode m166.2.1 19 = .ok (.aload_n 0, 1) := by decide +kernel
theorem d_166_20 : decode m166.2.1 20 = .ok (.iload_n 1, 1) := by decide +kernel
theorem d_166_21 : decode m166.2.1 21 = .ok (.iload_n 3, 1) := by decide +kernel
theorem d_166_22 : decode m166.2.1 22 = .ok (.iload_n 1, 1) := by decide +kernel
theorem d_166_23 : decode m166.2.1 23 = .ok (.invokevirtual 19, 3) := by decide +kernel
theorem d_166_26 : decode m166.2.1 26 = .ok (.ifCond .eq 18, 3) := by decide +kernel
theorem d_166_29 : decode m166.2.1 29 = .ok (.iload_n 2, 1) := by decide +kernel
theorem d_166_30 : decode m166.2.1 30 = .ok (.aload_n 0, 1) := by decide +kernel
theorem d_166_31 : decode m166.2.1 31 = .ok (.getfield 9, 3) := by decide +kernel
theorem d_166_34 : decode m166.2.1 34 = .ok (.iload_n 3, 1) := by decide +kernel
theorem d_166_35 : decode m166.2.1 35 = .ok (.iaload, 1) := by decide +kernel
theorem d_166_36 : decode m166.2.1 36 = .ok (.iconst 1, 1) := by decide +kernel
theorem d_166_37 : decode m166.2.1 37 = .ok (.iload_n 1, 1) := by decide +kernel
theorem d_166_38 : decode m166.2.1 38 = .ok (.ishl, 1) := by decide +kernel
theorem d_166_39 : decode m166.2.1 39 = .ok (.ior, 1) := by decide +kernel
theorem d_166_40 : decode m166.2.1 40 = .ok (.invokestatic 33, 3) := by decide +kernel
theorem d_166_43 : decode m166.2.1 43 = .ok (.istore_n 2, 1) := by decide +kernel
theorem d_166_44 : decode m166.2.1 44 = .ok (.iinc 3 1, 3) := by decide +kernel
theorem d_166_47 : decode m166.2.1 47 = .ok (.goto (-43), 3) := by decide +kernel
theorem d_166_50 : decode m166.2.1 50 = .ok (.iload_n 2, 1) := by decide +kernel
theorem d_166_51 : decode m166.2.1 51 = .ok (.ireturn, 1) := by decide +kernel
theorem d_167_0 : decode m167.2.1 0 = .ok (.iload_n 0, 1) := by decide +kernel
theorem d_167_1 : decode m167.2.1 1 = .ok (.iconst (-1), 1) := by decide +kernel
theorem d_167_2 : decode m167.2.1 2 = .ok (.if_icmp .eq 8, 3) := by decide +kernel
theorem d_167_5 : decode m167.2.1 5 = .ok (.iload_n 1, 1) := by decide +kernel
theorem d_167_6 : decode m167.2.1 6 = .ok (.iconst (-1), 1) := by decide +kernel
theorem d_167_7 : decode m167.2.1 7 = .ok (.if_icmp .ne 14, 3) := by decide +kernel
theorem d_167_10 : decode m167.2.1 10 = .ok (.iload_n 0, 1) := by decide +kernel
theorem d_167_11 : decode m167.2.1 11 = .ok (.iconst (-1), 1) := by decide +kernel
theorem d_167_12 : decode m167.2.1 12 = .ok (.if_icmp .ne 7, 3) := by decide +kernel
theorem d_167_15 : decode m167.2.1 15 = .ok (.iload_n 1, 1) := by decide +kernel
theorem d_167_16 : decode m167.2.1 16 = .ok (.goto 4, 3) := by decide +kernel
theorem d_167_19 : decode m167.2.1 19 = .ok (.iload_n 0, 1) := by decide +kernel
theorem d_167_20 : decode m167.2.1 20 = .ok (.ireturn, 1) := by decide +kernel
theorem d_167_21 : decode m167.2.1 21 = .ok (.iload_n 0, 1) := by decide +kernel
theorem d_167_22 : decode m167.2.1 22 = .ok (.invokestatic 50, 3) := by decide +kernel
theorem d_167_25 : decode m167.2.1 25 = .ok (.iload_n 1, 1) := by decide +kernel
theorem d_167_26 : decode m167.2.1 26 = .ok (.invokestatic 50, 3) := by decide +kernel
theorem d_167_29 : decode m167.2.1 29 = .ok (.isub, 1) := by decide +kernel
theorem d_167_30 : decode m167.2.1 30 = .ok (.istore_n 2, 1) := by decide +kernel
theorem d_167_31 : decode m167.2.1 31 = .ok (.iload_n 2, 1) := by decide +kernel
theorem d_167_32 : decode m167.2.1 32 = .ok (.ifCond .lt 12, 3) := by decide +kernel
theorem d_167_35 : decode m167.2.1 35 = .ok (.iload_n 2, 1) := by decide +kernel
theorem d_167_36 : decode m167.2.1 36 = .ok (.ifCond .ne 12, 3) := by decide +kernel
theorem d_167_39 : decode m167.2.1 39 = .ok (.iload_n 0, 1) := by decide +kernel
theorem d_167_40 : decode m167.2.1 40 = .ok (.iload_n 1, 1) := by decide +kernel
theorem d_167_41 : decode m167.2.1 41 = .ok (.if_icmp .ge 7, 3) := by decide +kernel
theorem d_167_44 : decode m167.2.1 44 = .ok (.iload_n 0, 1) := by decide +kernel
theorem d_167_45 : decode m167.2.1 45 = .ok (.goto 4, 3) := by decide +kernel
theorem d_167_48 : decode m167.2.1 48 = .ok (.iload_n 1, 1) := by decide +kernel
theorem d_167_49 : decode m167.2.1 49 = .ok (.ireturn, 1) := by decide +kernel
theorem d_169_0 : decode m169.2.1 0 = .ok (.iload_n 1, 1) := by decide +kernel
theorem d_169_1 : decode m169.2.1 1 = .ok (.ifCond .ne 7, 3) := by decide +kernel
theorem d_169_4 : decode m169.2.1 4 = .ok (.iconst 0, 1) := by decide +kernel
theorem d_169_5 : decode m169.2.1 5 = .ok (.goto 14, 3) := by decide +kernel
theorem d_169_8 : decode m169.2.1 8 = .ok (.aload_n 0, 1) := by decide +kernel
theorem d_169_9 : decode m169.2.1 9 = .ok (.iload_n 1, 1) := by decide +kernel
theorem d_169_10 : decode m169.2.1 10 = .ok (.invokevirtual 78, 3) := by decide +kernel
theorem d_169_13 : decode m169.2.1 13 = .ok (.aload_n 0, 1) := by decide +kernel
theorem d_169_14 : decode m169.2.1 14 = .ok (.iload_n 1, 1) := by decide +kernel
theorem d_169_15 : decode m169.2.1 15 = .ok (.invokevirtual 81, 3) := by decide +kernel
theorem d_169_18 : decode m169.2.1 18 = .ok (.isub, 1) := by decide +kernel
theorem d_169_19 : decode m169.2.1 19 = .ok (.ireturn, 1) := by decide +kernel
theorem d_172_0 : decode m172.2.1 0 = .ok (.aload_n 0, 1) := by decide +kernel
theorem d_172_1 : decode m172.2.1 1 = .ok (.iload_n 1, 1) := by decide +kernel
theorem d_172_2 : decode m172.2.1 2 = .ok (.invokevirtual 115, 3) := by decide +kernel
theorem d_172_5 : decode m172.2.1 5 = .ok (.istore_n 2, 1) := by decide +kernel
theorem d_172_6 : decode m172.2.1 6 = .ok (.aload_n 0, 1) := by decide +kernel
theorem d_172_7 : decode m172.2.1 7 = .ok (.iload_n 1, 1) := by decide +kernel
theorem d_172_8 : decode m172.2.1 8 = .ok (.invokevirtual 75, 3) := by decide +kernel
theorem d_172_11 : decode m172.2.1 11 = .ok (.istore_n 3, 1) := by decide +kernel
theorem d_172_12 : decode m172.2.1 12 = .ok (.iconst 0, 1) := by decide +kernel
theorem d_172_13 : decode m172.2.1 13 = .ok (.istore 4, 2) := by decide +kernel
theorem d_172_15 : decode m172.2.1 15 = .ok (.iconst 1, 1) := by decide +kernel
theorem d_172_16 : decode m172.2.1 16 = .ok (.istore 5, 2) := by decide +kernel
theorem d_172_18 : decode m172.2.1 18 = .ok (.iload 5, 2) := by decide +kernel
theorem d_172_20 : decode m172.2.1 20 = .ok (.aload_n 0, 1) := by decide +kernel
theorem d_172_21 : decode m172.2.1 21 = .ok (.getfield 34, 3) := by decide +kernel
theorem d_172_24 : decode m172.2.1 24 = .ok (.if_icmp .ge 101, 3) := by decide +kernel
theorem d_172_27 : decode m172.2.1 27 = .ok (.iconst 0, 1) := by decide +kernel
theorem d_172_28 : decode m172.2.1 28 = .ok (.istore 6, 2) := by decide +kernel
theorem d_172_30 : decode m172.2.1 30 = .ok (.iload 6, 2) := by decide +kernel
theorem d_172_32 : decode m172.2.1 32 = .ok (.iload 5, 2) := by decide +kernel
theorem d_172_34 : decode m172.2.1 34 = .ok (.if_icmp .ge 85, 3) := by decide +kernel
theorem d_172_37 : decode m172.2.1 37 = .ok (.iconst 1, 1) := by decide +kernel
theorem d_172_38 : decode m172.2.1 38 = .ok (.iload 5, 2) := by decide +kernel
theorem d_172_40 : decode m172.2.1 40 = .ok (.ishl, 1) := by decide +kernel
theorem d_172_41 : decode m172.2.1 41 = .ok (.iconst 1, 1) := by decide +kernel
theorem d_172_42 : decode m172.2.1 42 = .ok (.iload 6, 2) := by decide +kernel
theorem d_172_44 : decode m172.2.1 44 = .ok (.ishl, 1) := by decide +kernel
theorem d_172_45 : decode m172.2.1 45 = .ok (.ior, 1) := by decide +kernel
theorem d_172_46 : decode m172.2.1 46 = .ok (.istore 7, 2) := by decide +kernel
theorem d_172_48 : decode m172.2.1 48 = .ok (.aload_n 0, 1) := by decide +kernel
theorem d_172_49 : decode m172.2.1 49 = .ok (.getfield 9, 3) := by decide +kernel
theorem d_172_52 : decode m172.2.1 52 = .ok (.iload 5, 2) := by decide +kernel
theorem d_172_54 : decode m172.2.1 54 = .ok (.iaload, 1) := by decide +kernel
theorem d_172_55 : decode m172.2.1 55 = .ok (.aload_n 0, 1) := by decide +kernel
theorem d_172_56 : decode m172.2.1 56 = .ok (.getfield 9, 3) := by decide +kernel
theorem d_172_59 : decode m172.2.1 59 = .ok (.iload 6, 2) := by decide +kernel
theorem d_172_61 : decode m172.2.1 61 = .ok (.iaload, 1) := by decide +kernel
theorem d_172_62 : decode m172.2.1 62 = .ok (.isub, 1) := by decide +kernel
theorem d_172_63 : decode m172.2.1 63 = .ok (.invokestatic 84, 3) := by decide +kernel
theorem d_172_66 : decode m172.2.1 66 = .ok (.istore 8, 2) := by decide +kernel
theorem d_172_68 : decode m172.2.1 68 = .ok (.iload 8, 2) := by decide +kernel
theorem d_172_70 : decode m172.2.1 70 = .ok (.iconst 1, 1) := by decide +kernel
theorem d_172_71 : decode m172.2.1 71 = .ok (.if_icmp .eq 9, 3) := by decide +kernel
theorem d_172_74 : decode m172.2.1 74 = .ok (.iload 8, 2) := by decide +kernel
theorem d_172_76 : decode m172.2.1 76 = .ok (.iconst 2, 1) := by decide +kernel
theorem d_172_77 : decode m172.2.1 77 = .ok (.if_icmp .ne 7, 3) := by decide +kernel
theorem d_172_80 : decode m172.2.1 80 = .ok (.iconst 1, 1) := by decide +kernel
theorem d_172_81 : decode m172.2.1 81 = .ok (.goto 4, 3) := by decide +kernel
theorem d_172_84 : decode m172.2.1 84 = .ok (.iconst 0, 1) := by decide +kernel
theorem d_172_85 : decode m172.2.1 85 = .ok (.istore 9, 2) := by decide +kernel
theorem d_172_87 : decode m172.2.1 87 = .ok (.iload 9, 2) := by decide +kernel
theorem d_172_89 : decode m172.2.1 89 = .ok (.ifCond .eq 24, 3) := by decide +kernel
theorem d_172_92 : decode m172.2.1 92 = .ok (.iload_n 2, 1) := by decide +kernel
theorem d_172_93 : decode m172.2.1 93 = .ok (.iload 7, 2) := by decide +kernel
theorem d_172_95 : decode m172.2.1 95 = .ok (.iand, 1) := by decide +kernel
theorem d_172_96 : decode m172.2.1 96 = .ok (.iload 7, 2) := by decide +kernel
theorem d_172_98 : decode m172.2.1 98 = .ok (.if_icmp .ne 15, 3) := by decide +kernel
theorem d_172_101 : decode m172.2.1 101 = .ok (.iload_n 3, 1) := by decide +kernel
theorem d_172_102 : decode m172.2.1 102 = .ok (.iload 7, 2) := by decide +kernel
theorem d_172_104 : decode m172.2.1 104 = .ok (.iand, 1) := by decide +kernel
theorem d_172_105 : decode m172.2.1 105 = .ok (.iload 7, 2) := by decide +kernel
theorem d_172_107 : decode m172.2.1 107 = .ok (.if_icmp .eq 6, 3) := by decide +kernel
theorem d_172_110 : decode m172.2.1 110 = .ok (.iinc 4 1, 3) := by decide +kernel
theorem d_172_113 : decode m172.2.1 113 = .ok (.iinc 6 1, 3) := by decide +kernel
theorem d_172_116 : decode m172.2.1 116 = .ok (.goto (-86), 3) := by decide +kernel
theorem d_172_119 : decode m172.2.1 119 = .ok (.iinc 5 1, 3) := by decide +kernel
theorem d_172_122 : decode m172.2.1 122 = .ok (.goto (-104), 3) := by decide +kernel
theorem d_172_125 : decode m172.2.1 125 = .ok (.iload 4, 2) := by decide +kernel
theorem d_172_127 : decode m172.2.1 127 = .ok (.ireturn, 1) := by decide +kernel
theorem d_179_0 : decode m179.2.1 0 = .ok (.iconst 0, 1) := by decide +kernel
theorem d_179_1 : decode m179.2.1 1 = .ok (.istore_n 2, 1) := by decide +kernel
theorem d_179_2 : decode m179.2.1 2 = .ok (.iconst 0, 1) := by decide +kernel
theorem d_179_3 : decode m179.2.1 3 = .ok (.istore_n 3, 1) := by decide +kernel
theorem d_179_4 : decode m179.2.1 4 = .ok (.iconst 0, 1) := by decide +kernel
theorem d_179_5 : decode m179.2.1 5 = .ok (.istore 4, 2) := by decide +kernel
theorem d_179_7 : decode m179.2.1 7 = .ok (.iload 4, 2) := by decide +kernel
theorem d_179_9 : decode m179.2.1 9 = .ok (.aload_n 0, 1) := by decide +kernel
theorem d_179_10 : decode m179.2.1 10 = .ok (.getfield 30, 3) := by decide +kernel
theorem d_179_13 : decode m179.2.1 13 = .ok (.if_icmp .ge 34, 3) := by decide +kernel
theorem d_179_16 : decode m179.2.1 16 = .ok (.iload_n 1, 1) := by decide +kernel
theorem d_179_17 : decode m179.2.1 17 = .ok (.aload_n 0, 1) := by decide +kernel
theorem d_179_18 : decode m179.2.1 18 = .ok (.iload 4, 2) := by decide +kernel
theorem d_179_20 : decode m179.2.1 20 = .ok (.invokevirtual 75, 3) := by decide +kernel
theorem d_179_23 : decode m179.2.1 23 = .ok (.iand, 1) := by decide +kernel
theorem d_179_24 : decode m179.2.1 24 = .ok (.invokestatic 89, 3) := by decide +kernel
theorem d_179_27 : decode m179.2.1 27 = .ok (.istore 5, 2) := by decide +kernel
theorem d_179_29 : decode m179.2.1 29 = .ok (.iload 5, 2) := by decide +kernel
theorem d_179_31 : decode m179.2.1 31 = .ok (.iload_n 3, 1) := by decide +kernel
theorem d_179_32 : decode m179.2.1 32 = .ok (.if_icmp .le 9, 3) := by decide +kernel
theorem d_179_35 : decode m179.2.1 35 = .ok (.iload 5, 2) := by decide +kernel
theorem d_179_37 : decode m179.2.1 37 = .ok (.istore_n 3, 1) := by decide +kernel
theorem d_179_38 : decode m179.2.1 38 = .ok (.iload 4, 2) := by decide +kernel
theorem d_179_40 : decode m179.2.1 40 = .ok (.istore_n 2, 1) := by decide +kernel
theorem d_179_41 : decode m179.2.1 41 = .ok (.iinc 4 1, 3) := by decide +kernel
theorem d_179_44 : decode m179.2.1 44 = .ok (.goto (-37), 3) := by decide +kernel
theorem d_179_47 : decode m179.2.1 47 = .ok (.iload_n 2, 1) := by decide +kernel
theorem d_179_48 : decode m179.2.1 48 = .ok (.ireturn, 1) := by decide +kernel
theorem d_186_0 : decode m186.2.1 0 = .ok (.aload_n 0, 1) := by decide +kernel
theorem d_186_1 : decode m186.2.1 1 = .ok (.getfield 34, 3) := by decide +kernel
theorem d_186_4 : decode m186.2.1 4 = .ok (.bipush 30, 2) := by decide +kernel
theorem d_186_6 : decode m186.2.1 6 = .ok (.if_icmp .lt 5, 3) := by decide +kernel
theorem d_186_9 : decode m186.2.1 9 = .ok (.iconst (-1), 1) := by decide +kernel
theorem d_186_10 : decode m186.2.1 10 = .ok (.ireturn, 1) := by decide +kernel
theorem d_186_11 : decode m186.2.1 11 = .ok (.aload_n 0, 1) := by decide +kernel
theorem d_186_12 : decode m186.2.1 12 = .ok (.getfield 15, 3) := by decide +kernel
theorem d_186_15 : decode m186.2.1 15 = .ok (.aload_n 0, 1) := by decide +kernel
theorem d_186_16 : decode m186.2.1 16 = .ok (.getfield 34, 3) := by decide +kernel
theorem d_186_19 : decode m186.2.1 19 = .ok (.iload_n 1, 1) := by decide +kernel
theorem d_186_20 : decode m186.2.1 20 = .ok (.iastore, 1) := by decide +kernel
theorem d_186_21 : decode m186.2.1 21 = .ok (.aload_n 0, 1) := by decide +kernel
theorem d_186_22 : decode m186.2.1 22 = .ok (.getfield 18, 3) := by decide +kernel
theorem d_186_25 : decode m186.2.1 25 = .ok (.aload_n 0, 1) := by decide +kernel
theorem d_186_26 : decode m186.2.1 26 = .ok (.getfield 34, 3) := by decide +kernel
theorem d_186_29 : decode m186.2.1 29 = .ok (.iload_n 2, 1) := by decide +kernel
theorem d_186_30 : decode m186.2.1 30 = .ok (.iastore, 1) := by decide +kernel
theorem d_186_31 : decode m186.2.1 31 = .ok (.aload_n 0, 1) := by decide +kernel
theorem d_186_32 : decode m186.2.1 32 = .ok (.getfield 21, 3) := by decide +kernel
theorem d_186_35 : decode m186.2.1 35 = .ok (.aload_n 0, 1) := by decide +kernel
theorem d_186_36 : decode m186.2.1 36 = .ok (.getfield 34, 3) := by decide +kernel
theorem d_186_39 : decode m186.2.1 39 = .ok (.iload_n 3, 1) := by decide +kernel
theorem d_186_40 : decode m186.2.1 40 = .ok (.bastore, 1) := by decide +kernel
theorem d_186_41 : decode m186.2.1 41 = .ok (.aload_n 0, 1) := by decide +kernel
theorem d_186_42 : decode m186.2.1 42 = .ok (.getfield 25, 3) := by decide +kernel
theorem d_186_45 : decode m186.2.1 45 = .ok (.aload_n 0, 1) := by decide +kernel
theorem d_186_46 : decode m186.2.1 46 = .ok (.getfield 34, 3) := by decide +kernel
theorem d_186_49 : decode m186.2.1 49 = .ok (.aload_n 0, 1) := by decide +kernel
theorem d_186_50 : decode m186.2.1 50 = .ok (.getfield 38, 3) := by decide +kernel
theorem d_186_53 : decode m186.2.1 53 = .ok (.iastore, 1) := by decide +kernel
theorem d_186_54 : decode m186.2.1 54 = .ok (.aload_n 0, 1) := by decide +kernel
theorem d_186_55 : decode m186.2.1 55 = .ok (.getfield 28, 3) := by decide +kernel
theorem d_186_58 : decode m186.2.1 58 = .ok (.aload_n 0, 1) := by decide +kernel
theorem d_186_59 : decode m186.2.1 59 = .ok (.getfield 34, 3) := by decide +kernel
theorem d_186_62 : decode m186.2.1 62 = .ok (.iconst (-1), 1) := by decide +kernel
theorem d_186_63 : decode m186.2.1 63 = .ok (.iastore, 1) := by decide +kernel
theorem d_186_64 : decode m186.2.1 64 = .ok (.aload_n 0, 1) := by decide +kernel
theorem d_186_65 : decode m186.2.1 65 = .ok (.dup, 1) := by decide +kernel
theorem d_186_66 : decode m186.2.1 66 = .ok (.getfield 34, 3) := by decide +kernel
theorem d_186_69 : decode m186.2.1 69 = .ok (.iconst 1, 1) := by decide +kernel
theorem d_186_70 : decode m186.2.1 70 = .ok (.iadd, 1) := by decide +kernel
theorem d_186_71 : decode m186.2.1 71 = .ok (.putfield 34, 3) := by decide +kernel
theorem d_186_74 : decode m186.2.1 74 = .ok (.aload_n 0, 1) := by decide +kernel
theorem d_186_75 : decode m186.2.1 75 = .ok (.getfield 34, 3) := by decide +kernel
theorem d_186_78 : decode m186.2.1 78 = .ok (.iconst 1, 1) := by decide +kernel
theorem d_186_79 : decode m186.2.1 79 = .ok (.isub, 1) := by decide +kernel
theorem d_186_80 : decode m186.2.1 80 = .ok (.ireturn, 1) := by decide +kernel
theorem d_188_0 : decode m188.2.1 0 = .ok (.iload_n 1, 1) := by decide +kernel
theorem d_188_1 : decode m188.2.1 1 = .ok (.ifCond .lt 21, 3) := by decide +kernel
theorem d_188_4 : decode m188.2.1 4 = .ok (.iload_n 1, 1) := by decide +kernel
theorem d_188_5 : decode m188.2.1 5 = .ok (.aload_n 0, 1) := by decide +kernel
theorem d_188_6 : decode m188.2.1 6 = .ok (.getfield 34, 3) := by decide +kernel
theorem d_188_9 : decode m188.2.1 9 = .ok (.if_icmp .ge 13, 3) := by decide +kernel
theorem d_188_12 : decode m188.2.1 12 = .ok (.aload_n 0, 1) := by decide +kernel
theorem d_188_13 : decode m188.2.1 13 = .ok (.getfield 28, 3) := by decide +kernel
theorem d_188_16 : decode m188.2.1 16 = .ok (.iload_n 1, 1) := by decide +kernel
theorem d_188_17 : decode m188.2.1 17 = .ok (.iaload, 1) := by decide +kernel
theorem d_188_18 : decode m188.2.1 18 = .ok (.iconst (-1), 1) := by decide +kernel
theorem d_188_19 : decode m188.2.1 19 = .ok (.if_icmp .eq 5, 3) := by decide +kernel
theorem d_188_22 : decode m188.2.1 22 = .ok (.iconst 0, 1) := by decide +kernel
theorem d_188_23 : decode m188.2.1 23 = .ok (.ireturn, 1) := by decide +kernel
theorem d_188_24 : decode m188.2.1 24 = .ok (.aload_n 0, 1) := by decide +kernel
theorem d_188_25 : decode m188.2.1 25 = .ok (.getfield 28, 3) := by decide +kernel
theorem d_188_28 : decode m188.2.1 28 = .ok (.iload_n 1, 1) := by decide +kernel
theorem d_188_29 : decode m188.2.1 29 = .ok (.aload_n 0, 1) := by decide +kernel
theorem d_188_30 : decode m188.2.1 30 = .ok (.getfield 38, 3) := by decide +kernel
theorem d_188_33 : decode m188.2.1 33 = .ok (.iastore, 1) := by decide +kernel
theorem d_188_34 : decode m188.2.1 34 = .ok (.iconst 1, 1) := by decide +kernel
theorem d_188_35 : decode m188.2.1 35 = .ok (.ireturn, 1) := by decide +kernel
theorem d_190_0 : decode m190.2.1 0 = .ok (.iload_n 1, 1) := by decide +kernel
theorem d_190_1 : decode m190.2.1 1 = .ok (.ifCond .lt 21, 3) := by decide +kernel
theorem d_190_4 : decode m190.2.1 4 = .ok (.iload_n 1, 1) := by decide +kernel
theorem d_190_5 : decode m190.2.1 5 = .ok (.sipush 1000, 3) := by decide +kernel
theorem d_190_8 : decode m190.2.1 8 = .ok (.if_icmp .gt 14, 3) := by decide +kernel
theorem d_190_11 : decode m190.2.1 11 = .ok (.aload_n 0, 1) := by decide +kernel
theorem d_190_12 : decode m190.2.1 12 = .ok (.getfield 38, 3) := by decide +kernel
theorem d_190_15 : decode m190.2.1 15 = .ok (.iload_n 1, 1) := by decide +kernel
theorem d_190_16 : decode m190.2.1 16 = .ok (.iadd, 1) := by decide +kernel
theorem d_190_17 : decode m190.2.1 17 = .ok (.ldc 41, 2) := by decide +kernel
theorem d_190_19 : decode m190.2.1 19 = .ok (.if_icmp .le 5, 3) := by decide +kernel
theorem d_190_22 : decode m190.2.1 22 = .ok (.iconst (-1), 1) := by decide +kernel
theorem d_190_23 : decode m190.2.1 23 = .ok (.ireturn, 1) := by decide +kernel
theorem d_190_24 : decode m190.2.1 24 = .ok (.aload_n 0, 1) := by decide +kernel
theorem d_190_25 : decode m190.2.1 25 = .ok (.dup, 1) := by decide +kernel
theorem d_190_26 : decode m190.2.1 26 = .ok (.getfield 38, 3) := by decide +kernel
theorem d_190_29 : decode m190.2.1 29 = .ok (.iload_n 1, 1) := by decide +kernel
theorem d_190_30 : decode m190.2.1 30 = .ok (.iadd, 1) := by decide +kernel
theorem d_190_31 : decode m190.2.1 31 = .ok (.putfield 38, 3) := by decide +kernel
theorem d_190_34 : decode m190.2.1 34 = .ok (.aload_n 0, 1) := by decide +kernel
theorem d_190_35 : decode m190.2.1 35 = .ok (.getfield 38, 3) := by decide +kernel
theorem d_190_38 : decode m190.2.1 38 = .ok (.ireturn, 1) := by decide +kernel
theorem d_192_0 : decode m192.2.1 0 = .ok (.aload_n 0, 1) := by decide +kernel
theorem d_192_1 : decode m192.2.1 1 = .ok (.aload_n 1, 1) := by decide +kernel
theorem d_192_2 : decode m192.2.1 2 = .ok (.iload_n 2, 1) := by decide +kernel
theorem d_192_3 : decode m192.2.1 3 = .ok (.invokevirtual 42, 3) := by decide +kernel
theorem d_192_6 : decode m192.2.1 6 = .ok (.aload_n 0, 1) := by decide +kernel
theorem d_192_7 : decode m192.2.1 7 = .ok (.iconst 0, 1) := by decide +kernel
theorem d_192_8 : decode m192.2.1 8 = .ok (.putfield 46, 3) := by decide +kernel
theorem d_192_11 : decode m192.2.1 11 = .ok (.iconst 0, 1) := by decide +kernel
theorem d_192_12 : decode m192.2.1 12 = .ok (.istore_n 3, 1) := by decide +kernel
theorem d_192_13 : decode m192.2.1 13 = .ok (.iload_n 3, 1) := by decide +kernel
theorem d_192_14 : decode m192.2.1 14 = .ok (.bipush 10, 2) := by decide +kernel
theorem d_192_16 : decode m192.2.1 16 = .ok (.if_icmp .ge 16, 3) := by decide +kernel
theorem d_192_19 : decode m192.2.1 19 = .ok (.aload_n 0, 1) := by decide +kernel
theorem d_192_20 : decode m192.2.1 20 = .ok (.getfield 9, 3) := by decide +kernel
theorem d_192_23 : decode m192.2.1 23 = .ok (.iload_n 3, 1) := by decide +kernel
theorem d_192_24 : decode m192.2.1 24 = .ok (.iconst 0, 1) := by decide +kernel
theorem d_192_25 : decode m192.2.1 25 = .ok (.iastore, 1) := by decide +kernel
theorem d_192_26 : decode m192.2.1 26 = .ok (.iinc 3 1, 3) := by decide +kernel
theorem d_192_29 : decode m192.2.1 29 = .ok (.goto (-16), 3) := by decide +kernel
theorem d_192_32 : decode m192.2.1 32 = .ok (.iconst 0, 1) := by decide +kernel
theorem d_192_33 : decode m192.2.1 33 = .ok (.istore_n 3, 1) := by decide +kernel
theorem d_192_34 : decode m192.2.1 34 = .ok (.iload_n 3, 1) := by decide +kernel
theorem d_192_35 : decode m192.2.1 35 = .ok (.iconst 1, 1) := by decide +kernel
theorem d_192_36 : decode m192.2.1 36 = .ok (.aload_n 1, 1) := by decide +kernel
theorem d_192_37 : decode m192.2.1 37 = .ok (.getfield 49, 3) := by decide +kernel
theorem d_192_40 : decode m192.2.1 40 = .ok (.ishl, 1) := by decide +kernel
theorem d_192_41 : decode m192.2.1 41 = .ok (.if_icmp .ge 22, 3) := by decide +kernel
theorem d_192_44 : decode m192.2.1 44 = .ok (.aload_n 0, 1) := by decide +kernel
theorem d_192_45 : decode m192.2.1 45 = .ok (.iload_n 3, 1) := by decide +kernel
theorem d_192_46 : decode m192.2.1 46 = .ok (.invokevirtual 54, 3) := by decide +kernel
theorem d_192_49 : decode m192.2.1 49 = .ok (.ifCond .eq 8, 3) := by decide +kernel
theorem d_192_52 : decode m192.2.1 52 = .ok (.aload_n 0, 1) := by decide +kernel
theorem d_192_53 : decode m192.2.1 53 = .ok (.iload_n 3, 1) := by decide +kernel
theorem d_192_54 : decode m192.2.1 54 = .ok (.invokevirtual 58, 3) := by decide +kernel
theorem d_192_57 : decode m192.2.1 57 = .ok (.iinc 3 1, 3) := by decide +kernel
theorem d_192_60 : decode m192.2.1 60 = .ok (.goto (-26), 3) := by decide +kernel
theorem d_192_63 : decode m192.2.1 63 = .ok (.return_, 1) := by decide +kernel
theorem d_193_0 : decode m193.2.1 0 = .ok (.aload_n 0, 1) := by decide +kernel
theorem d_193_1 : decode m193.2.1 1 = .ok (.iconst 0, 1) := by decide +kernel
theorem d_193_2 : decode m193.2.1 2 = .ok (.putfield 62, 3) := by decide +kernel
theorem d_193_5 : decode m193.2.1 5 = .ok (.aload_n 0, 1) := by decide +kernel
theorem d_193_6 : decode m193.2.1 6 = .ok (.iconst 0, 1) := by decide +kernel
theorem d_193_7 : decode m193.2.1 7 = .ok (.putfield 65, 3) := by decide +kernel
theorem d_193_10 : decode m193.2.1 10 = .ok (.iconst 0, 1) := by decide +kernel
theorem d_193_11 : decode m193.2.1 11 = .ok (.istore_n 3, 1) := by decide +kernel
theorem d_193_12 : decode m193.2.1 12 = .ok (.iload_n 3, 1) := by decide +kernel
theorem d_193_13 : decode m193.2.1 13 = .ok (.aload_n 0, 1) := by decide +kernel
theorem d_193_14 : decode m193.2.1 14 = .ok (.getfield 34, 3) := by decide +kernel
theorem d_193_17 : decode m193.2.1 17 = .ok (.if_icmp .ge 113, 3) := by decide +kernel
theorem d_193_20 : decode m193.2.1 20 = .ok (.aload_n 0, 1) := by decide +kernel
theorem d_193_21 : decode m193.2.1 21 = .ok (.getfield 28, 3) := by decide +kernel
theorem d_193_24 : decode m193.2.1 24 = .ok (.iload_n 3, 1) := by decide +kernel
theorem d_193_25 : decode m193.2.1 25 = .ok (.iaload, 1) := by decide +kernel
theorem d_193_26 : decode m193.2.1 26 = .ok (.iconst (-1), 1) := by decide +kernel
theorem d_193_27 : decode m193.2.1 27 = .ok (.if_icmp .eq 17, 3) := by decide +kernel
theorem d_193_30 : decode m193.2.1 30 = .ok (.aload_n 0, 1) := by decide +kernel
theorem d_193_31 : decode m193.2.1 31 = .ok (.getfield 28, 3) := by decide +kernel
theorem d_193_34 : decode m193.2.1 34 = .ok (.iload_n 3, 1) := by decide +kernel
theorem d_193_35 : decode m193.2.1 35 = .ok (.iaload, 1) := by decide +kernel
theorem d_193_36 : decode m193.2.1 36 = .ok (.iload_n 2, 1) := by decide +kernel
theorem d_193_37 : decode m193.2.1 37 = .ok (.if_icmp .gt 7, 3) := by decide +kernel
theorem d_193_40 : decode m193.2.1 40 = .ok (.iconst 1, 1) := by decide +kernel
theorem d_193_41 : decode m193.2.1 41 = .ok (.goto 4, 3) := by decide +kernel
theorem d_193_44 : decode m193.2.1 44 = .ok (.iconst 0, 1) := by decide +kernel
theorem d_193_45 : decode m193.2.1 45 = .ok (.istore 4, 2) := by decide +kernel
theorem d_193_47 : decode m193.2.1 47 = .ok (.aload_n 0, 1) := by decide +kernel
theorem d_193_48 : decode m193.2.1 48 = .ok (.getfield 25, 3) := by decide +kernel
theorem d_193_51 : decode m193.2.1 51 = .ok (.iload_n 3, 1) := by decide +kernel
theorem d_193_52 : decode m193.2.1 52 = .ok (.iaload, 1) := by decide +kernel
theorem d_193_53 : decode m193.2.1 53 = .ok (.iload_n 2, 1) := by decide +kernel
theorem d_193_54 : decode m193.2.1 54 = .ok (.if_icmp .gt 70, 3) := by decide +kernel
theorem d_193_57 : decode m193.2.1 57 = .ok (.iload 4, 2) := by decide +kernel
theorem d_193_59 : decode m193.2.1 59 = .ok (.ifCond .ne 65, 3) := by decide +kernel
theorem d_193_62 : decode m193.2.1 62 = .ok (.aload_n 1, 1) := by decide +kernel
theorem d_193_63 : decode m193.2.1 63 = .ok (.aload_n 0, 1) := by decide +kernel
theorem d_193_64 : decode m193.2.1 64 = .ok (.getfield 15, 3) := by decide +kernel
theorem d_193_67 : decode m193.2.1 67 = .ok (.iload_n 3, 1) := by decide +kernel
theorem d_193_68 : decode m193.2.1 68 = .ok (.iaload, 1) := by decide +kernel
theorem d_193_69 : decode m193.2.1 69 = .ok (.aload_n 0, 1) := by decide +kernel
theorem d_193_70 : decode m193.2.1 70 = .ok (.getfield 18, 3) := by decide +kernel
theorem d_193_73 : decode m193.2.1 73 = .ok (.iload_n 3, 1) := by decide +kernel
theorem d_193_74 : decode m193.2.1 74 = .ok (.iaload, 1) := by decide +kernel
theorem d_193_75 : decode m193.2.1 75 = .ok (.invokestatic 68, 3) := by decide +kernel
theorem d_193_78 : decode m193.2.1 78 = .ok (.istore 5, 2) := by decide +kernel
theorem d_193_80 : decode m193.2.1 80 = .ok (.aload_n 0, 1) := by decide +kernel
theorem d_193_81 : decode m193.2.1 81 = .ok (.getfield 21, 3) := by decide +kernel
theorem d_193_84 : decode m193.2.1 84 = .ok (.iload_n 3, 1) := by decide +kernel
theorem d_193_85 : decode m193.2.1 85 = .ok (.baload, 1) := by decide +kernel
theorem d_193_86 : decode m193.2.1 86 = .ok (.ifCond .eq 27, 3) := by decide +kernel
theorem d_193_89 : decode m193.2.1 89 = .ok (.aload_n 0, 1) := by decide +kernel
theorem d_193_90 : decode m193.2.1 90 = .ok (.getfield 31, 3) := by decide +kernel
theorem d_193_93 : decode m193.2.1 93 = .ok (.aload_n 0, 1) := by decide +kernel
theorem d_193_94 : decode m193.2.1 94 = .ok (.getfield 62, 3) := by decide +kernel
theorem d_193_97 : decode m193.2.1 97 = .ok (.iload 5, 2) := by decide +kernel
theorem d_193_99 : decode m193.2.1 99 = .ok (.iastore, 1) := by decide +kernel
theorem d_193_100 : decode m193.2.1 100 = .ok (.aload_n 0, 1) := by decide +kernel
theorem d_193_101 : decode m193.2.1 101 = .ok (.dup, 1) := by decide +kernel
theorem d_193_102 : decode m193.2.1 102 = .ok (.getfield 62, 3) := by decide +kernel
theorem d_193_105 : decode m193.2.1 105 = .ok (.iconst 1, 1) := by decide +kernel
theorem d_193_106 : decode m193.2.1 106 = .ok (.iadd, 1) := by decide +kernel
theorem d_193_107 : decode m193.2.1 107 = .ok (.putfield 62, 3) := by decide +kernel
theorem d_193_110 : decode m193.2.1 110 = .ok (.goto 14, 3) := by decide +kernel
theorem d_193_113 : decode m193.2.1 113 = .ok (.aload_n 0, 1) := by decide +kernel
theorem d_193_114 : decode m193.2.1 114 = .ok (.dup, 1) := by decide +kernel
theorem d_193_115 : decode m193.2.1 115 = .ok (.getfield 65, 3) := by decide +kernel
theorem d_193_118 : decode m193.2.1 118 = .ok (.iload 5, 2) := by decide +kernel
theorem d_193_120 : decode m193.2.1 120 = .ok (.ior, 1) := by decide +kernel
theorem d_193_121 : decode m193.2.1 121 = .ok (.putfield 65, 3) := by decide +kernel
theorem d_193_124 : decode m193.2.1 124 = .ok (.iinc 3 1, 3) := by decide +kernel
theorem d_193_127 : decode m193.2.1 127 = .ok (.goto (-115), 3) := by decide +kernel
theorem d_193_130 : decode m193.2.1 130 = .ok (.return_, 1) := by decide +kernel
theorem d_194_0 : decode m194.2.1 0 = .ok (.iconst 0, 1) := by decide +kernel
theorem d_194_1 : decode m194.2.1 1 = .ok (.istore_n 3, 1) := by decide +kernel
theorem d_194_2 : decode m194.2.1 2 = .ok (.iconst 0, 1) := by decide +kernel
theorem d_194_3 : decode m194.2.1 3 = .ok (.istore 4, 2) := by decide +kernel
theorem d_194_5 : decode m194.2.1 5 = .ok (.iload 4, 2) := by decide +kernel
theorem d_194_7 : decode m194.2.1 7 = .ok (.aload_n 0, 1) := by decide +kernel
theorem d_194_8 : decode m194.2.1 8 = .ok (.getfield 49, 3) := by decide +kernel
theorem d_194_11 : decode m194.2.1 11 = .ok (.if_icmp .ge 56, 3) := by decide +kernel
theorem d_194_14 : decode m194.2.1 14 = .ok (.aload_n 0, 1) := by decide +kernel
theorem d_194_15 : decode m194.2.1 15 = .ok (.getfield 72, 3) := by decide +kernel
theorem d_194_18 : decode m194.2.1 18 = .ok (.iload 4, 2) := by decide +kernel
theorem d_194_20 : decode m194.2.1 20 = .ok (.iaload, 1) := by decide +kernel
theorem d_194_21 : decode m194.2.1 21 = .ok (.istore 5, 2) := by decide +kernel
theorem d_194_23 : decode m194.2.1 23 = .ok (.aload_n 0, 1) := by decide +kernel
theorem d_194_24 : decode m194.2.1 24 = .ok (.getfield 75, 3) := by decide +kernel
theorem d_194_27 : decode m194.2.1 27 = .ok (.iload 4, 2) := by decide +kernel
theorem d_194_29 : decode m194.2.1 29 = .ok (.iaload, 1) := by decide +kernel
theorem d_194_30 : decode m194.2.1 30 = .ok (.iload_n 2, 1) := by decide +kernel
theorem d_194_31 : decode m194.2.1 31 = .ok (.if_icmp .ne 30, 3) := by decide +kernel
theorem d_194_34 : decode m194.2.1 34 = .ok (.iload 5, 2) := by decide +kernel
theorem d_194_36 : decode m194.2.1 36 = .ok (.iload_n 1, 1) := by decide +kernel
theorem d_194_37 : decode m194.2.1 37 = .ok (.if_icmp .gt 24, 3) := by decide +kernel
theorem d_194_40 : decode m194.2.1 40 = .ok (.iload_n 1, 1) := by decide +kernel
theorem d_194_41 : decode m194.2.1 41 = .ok (.iload 5, 2) := by decide +kernel
theorem d_194_43 : decode m194.2.1 43 = .ok (.aload_n 0, 1) := by decide +kernel
theorem d_194_44 : decode m194.2.1 44 = .ok (.getfield 76, 3) := by decide +kernel
theorem d_194_47 : decode m194.2.1 47 = .ok (.iload 4, 2) := by decide +kernel
theorem d_194_49 : decode m194.2.1 49 = .ok (.iaload, 1) := by decide +kernel
theorem d_194_50 : decode m194.2.1 50 = .ok (.iadd, 1) := by decide +kernel
theorem d_194_51 : decode m194.2.1 51 = .ok (.if_icmp .ge 10, 3) := by decide +kernel
theorem d_194_54 : decode m194.2.1 54 = .ok (.iload_n 3, 1) := by decide +kernel
theorem d_194_55 : decode m194.2.1 55 = .ok (.iconst 1, 1) := by decide +kernel
theorem d_194_56 : decode m194.2.1 56 = .ok (.iload 4, 2) := by decide +kernel
theorem d_194_58 : decode m194.2.1 58 = .ok (.ishl, 1) := by decide +kernel
theorem d_194_59 : decode m194.2.1 59 = .ok (.ior, 1) := by decide +kernel
theorem d_194_60 : decode m194.2.1 60 = .ok (.istore_n 3, 1) := by decide +kernel
theorem d_194_61 : decode m194.2.1 61 = .ok (.iinc 4 1, 3) := by decide +kernel
theorem d_194_64 : decode m194.2.1 64 = .ok (.goto (-59), 3) := by decide +kernel
theorem d_194_67 : decode m194.2.1 67 = .ok (.iload_n 3, 1) := by decide +kernel
theorem d_194_68 : decode m194.2.1 68 = .ok (.ireturn, 1) := by decide +kernel
theorem d_195_0 : decode m195.2.1 0 = .ok (.iload_n 1, 1) := by decide +kernel
theorem d_195_1 : decode m195.2.1 1 = .ok (.aload_n 0, 1) := by decide +kernel
theorem d_195_2 : decode m195.2.1 2 = .ok (.getfield 65, 3) := by decide +kernel
theorem d_195_5 : decode m195.2.1 5 = .ok (.iand, 1) := by decide +kernel
theorem d_195_6 : decode m195.2.1 6 = .ok (.ifCond .eq 5, 3) := by decide +kernel
theorem d_195_9 : decode m195.2.1 9 = .ok (.iconst 0, 1) := by decide +kernel
theorem d_195_10 : decode m195.2.1 10 = .ok (.ireturn, 1) := by decide +kernel
theorem d_195_11 : decode m195.2.1 11 = .ok (.iconst 0, 1) := by decide +kernel
theorem d_195_12 : decode m195.2.1 12 = .ok (.istore_n 2, 1) := by decide +kernel
theorem d_195_13 : decode m195.2.1 13 = .ok (.iload_n 2, 1) := by decide +kernel
theorem d_195_14 : decode m195.2.1 14 = .ok (.aload_n 0, 1) := by decide +kernel
theorem d_195_15 : decode m195.2.1 15 = .ok (.getfield 62, 3) := by decide +kernel
theorem d_195_18 : decode m195.2.1 18 = .ok (.if_icmp .ge 22, 3) := by decide +kernel
theorem d_195_21 : decode m195.2.1 21 = .ok (.iload_n 1, 1) := by decide +kernel
theorem d_195_22 : decode m195.2.1 22 = .ok (.aload_n 0, 1) := by decide +kernel
theorem d_195_23 : decode m195.2.1 23 = .ok (.getfield 31, 3) := by decide +kernel
theorem d_195_26 : decode m195.2.1 26 = .ok (.iload_n 2, 1) := by decide +kernel
theorem d_195_27 : decode m195.2.1 27 = .ok (.iaload, 1) := by decide +kernel
theorem d_195_28 : decode m195.2.1 28 = .ok (.iand, 1) := by decide +kernel
theorem d_195_29 : decode m195.2.1 29 = .ok (.ifCond .ne 5, 3) := by decide +kernel
theorem d_195_32 : decode m195.2.1 32 = .ok (.iconst 0, 1) := by decide +kernel
theorem d_195_33 : decode m195.2.1 33 = .ok (.ireturn, 1) := by decide +kernel
theorem d_195_34 : decode m195.2.1 34 = .ok (.iinc 2 1, 3) := by decide +kernel
theorem d_195_37 : decode m195.2.1 37 = .ok (.goto (-24), 3) := by decide +kernel
theorem d_195_40 : decode m195.2.1 40 = .ok (.iconst 1, 1) := by decide +kernel
theorem d_195_41 : decode m195.2.1 41 = .ok (.ireturn, 1) := by decide +kernel
theorem d_196_0 : decode m196.2.1 0 = .ok (.aload_n 0, 1) := by decide +kernel
theorem d_196_1 : decode m196.2.1 1 = .ok (.dup, 1) := by decide +kernel
theorem d_196_2 : decode m196.2.1 2 = .ok (.getfield 46, 3) := by decide +kernel
theorem d_196_5 : decode m196.2.1 5 = .ok (.iconst 1, 1) := by decide +kernel
theorem d_196_6 : decode m196.2.1 6 = .ok (.iadd, 1) := by decide +kernel
theorem d_196_7 : decode m196.2.1 7 = .ok (.putfield 46, 3) := by decide +kernel
theorem d_196_10 : decode m196.2.1 10 = .ok (.iconst 0, 1) := by decide +kernel
theorem d_196_11 : decode m196.2.1 11 = .ok (.istore_n 2, 1) := by decide +kernel
theorem d_196_12 : decode m196.2.1 12 = .ok (.iload_n 2, 1) := by decide +kernel
theorem d_196_13 : decode m196.2.1 13 = .ok (.bipush 10, 2) := by decide +kernel
theorem d_196_15 : decode m196.2.1 15 = .ok (.if_icmp .ge 23, 3) := by decide +kernel
theorem d_196_18 : decode m196.2.1 18 = .ok (.aload_n 0, 1) := by decide +kernel
theorem d_196_19 : decode m196.2.1 19 = .ok (.getfield 9, 3) := by decide +kernel
theorem d_196_22 : decode m196.2.1 22 = .ok (.iload_n 2, 1) := by decide +kernel
theorem d_196_23 : decode m196.2.1 23 = .ok (.dup2, 1) := by decide +kernel
theorem d_196_24 : decode m196.2.1 24 = .ok (.iaload, 1) := by decide +kernel
theorem d_196_25 : decode m196.2.1 25 = .ok (.iload_n 1, 1) := by decide +kernel
theorem d_196_26 : decode m196.2.1 26 = .ok (.iload_n 2, 1) := by decide +kernel
theorem d_196_27 : decode m196.2.1 27 = .ok (.ishr, 1) := by decide +kernel
theorem d_196_28 : decode m196.2.1 28 = .ok (.iconst 1, 1) := by decide +kernel
theorem d_196_29 : decode m196.2.1 29 = .ok (.iand, 1) := by decide +kernel
theorem d_196_30 : decode m196.2.1 30 = .ok (.iadd, 1) := by decide +kernel
theorem d_196_31 : decode m196.2.1 31 = .ok (.iastore, 1) := by decide +kernel
theorem d_196_32 : decode m196.2.1 32 = .ok (.iinc 2 1, 3) := by decide +kernel
theorem d_196_35 : decode m196.2.1 35 = .ok (.goto (-23), 3) := by decide +kernel
theorem d_196_38 : decode m196.2.1 38 = .ok (.return_, 1) := by decide +kernel
theorem d_200_0 : decode m200.2.1 0 = .ok (.aload_n 0, 1) := by decide +kernel
theorem d_200_1 : decode m200.2.1 1 = .ok (.aload_n 1, 1) := by decide +kernel
theorem d_200_2 : decode m200.2.1 2 = .ok (.getfield 24, 3) := by decide +kernel
theorem d_200_5 : decode m200.2.1 5 = .ok (.putfield 24, 3) := by decide +kernel
theorem d_200_8 : decode m200.2.1 8 = .ok (.iconst 0, 1) := by decide +kernel
theorem d_200_9 : decode m200.2.1 9 = .ok (.istore_n 2, 1) := by decide +kernel
theorem d_200_10 : decode m200.2.1 10 = .ok (.iload_n 2, 1) := by decide +kernel
theorem d_200_11 : decode m200.2.1 11 = .ok (.bipush 10, 2) := by decide +kernel
theorem d_200_13 : decode m200.2.1 13 = .ok (.if_icmp .ge 57, 3) := by decide +kernel
theorem d_200_16 : decode m200.2.1 16 = .ok (.aload_n 0, 1) := by decide +kernel
theorem d_200_17 : decode m200.2.1 17 = .ok (.getfield 9, 3) := by decide +kernel
theorem d_200_20 : decode m200.2.1 20 = .ok (.iload_n 2, 1) := by decide +kernel
theorem d_200_21 : decode m200.2.1 21 = .ok (.aload_n 1, 1) := by decide +kernel
theorem d_200_22 : decode m200.2.1 22 = .ok (.getfield 9, 3) := by decide +kernel
theorem d_200_25 : decode m200.2.1 25 = .ok (.iload_n 2, 1) := by decide +kernel
theorem d_200_26 : decode m200.2.1 26 = .ok (.iaload, 1) := by decide +kernel
theorem d_200_27 : decode m200.2.1 27 = .ok (.iastore, 1) := by decide +kernel
theorem d_200_28 : decode m200.2.1 28 = .ok (.aload_n 0, 1) := by decide +kernel
theorem d_200_29 : decode m200.2.1 29 = .ok (.getfield 15, 3) := by decide +kernel
theorem d_200_32 : decode m200.2.1 32 = .ok (.iload_n 2, 1) := by decide +kernel
theorem d_200_33 : decode m200.2.1 33 = .ok (.aload_n 1, 1) := by decide +kernel
theorem d_200_34 : decode m200.2.1 34 = .ok (.getfield 15, 3) := by decide +kernel
theorem d_200_37 : decode m200.2.1 37 = .ok (.iload_n 2, 1) := by decide +kernel
theorem d_200_38 : decode m200.2.1 38 = .ok (.iaload, 1) := by decide +kernel
theorem d_200_39 : decode m200.2.1 39 = .ok (.iastore, 1) := by decide +kernel
theorem d_200_40 : decode m200.2.1 40 = .ok (.aload_n 0, 1) := by decide +kernel
theorem d_200_41 : decode m200.2.1 41 = .ok (.getfield 18, 3) := by decide +kernel
theorem d_200_44 : decode m200.2.1 44 = .ok (.iload_n 2, 1) := by decide +kernel
theorem d_200_45 : decode m200.2.1 45 = .ok (.aload_n 1, 1) := by decide +kernel
theorem d_200_46 : decode m200.2.1 46 = .ok (.getfield 18, 3) := by decide +kernel
theorem d_200_49 : decode m200.2.1 49 = .ok (.iload_n 2, 1) := by decide +kernel
theorem d_200_50 : decode m200.2.1 50 = .ok (.iaload, 1) := by decide +kernel
theorem d_200_51 : decode m200.2.1 51 = .ok (.iastore, 1) := by decide +kernel
theorem d_200_52 : decode m200.2.1 52 = .ok (.aload_n 0, 1) := by decide +kernel
theorem d_200_53 : decode m200.2.1 53 = .ok (.getfield 21, 3) := by decide +kernel
theorem d_200_56 : decode m200.2.1 56 = .ok (.iload_n 2, 1) := by decide +kernel
theorem d_200_57 : decode m200.2.1 57 = .ok (.aload_n 1, 1) := by decide +kernel
theorem d_200_58 : decode m200.2.1 58 = .ok (.getfield 21, 3) := by decide +kernel
theorem d_200_61 : decode m200.2.1 61 = .ok (.iload_n 2, 1) := by decide +kernel
theorem d_200_62 : decode m200.2.1 62 = .ok (.iaload, 1) := by decide +kernel
theorem d_200_63 : decode m200.2.1 63 = .ok (.iastore, 1) := by decide +kernel
theorem d_200_64 : decode m200.2.1 64 = .ok (.iinc 2 1, 3) := by decide +kernel
theorem d_200_67 : decode m200.2.1 67 = .ok (.goto (-57), 3) := by decide +kernel
theorem d_200_70 : decode m200.2.1 70 = .ok (.return_, 1) := by decide +kernel
theorem d_204_0 : decode m204.2.1 0 = .ok (.aload_n 0, 1) := by decide +kernel
theorem d_204_1 : decode m204.2.1 1 = .ok (.getfield 9, 3) := by decide +kernel
theorem d_204_4 : decode m204.2.1 4 = .ok (.iload_n 1, 1) := by decide +kernel
theorem d_204_5 : decode m204.2.1 5 = .ok (.iaload, 1) := by decide +kernel
theorem d_204_6 : decode m204.2.1 6 = .ok (.aload_n 2, 1) := by decide +kernel
theorem d_204_7 : decode m204.2.1 7 = .ok (.getfield 9, 3) := by decide +kernel
theorem d_204_10 : decode m204.2.1 10 = .ok (.iload_n 1, 1) := by decide +kernel
theorem d_204_11 : decode m204.2.1 11 = .ok (.iaload, 1) := by decide +kernel
theorem d_204_12 : decode m204.2.1 12 = .ok (.if_icmp .ne 48, 3) := by decide +kernel
theorem d_204_15 : decode m204.2.1 15 = .ok (.aload_n 0, 1) := by decide +kernel
theorem d_204_16 : decode m204.2.1 16 = .ok (.getfield 15, 3) := by decide +kernel
theorem d_204_19 : decode m204.2.1 19 = .ok (.iload_n 1, 1) := by decide +kernel
theorem d_204_20 : decode m204.2.1 20 = .ok (.iaload, 1) := by decide +kernel
theorem d_204_21 : decode m204.2.1 21 = .ok (.aload_n 2, 1) := by decide +kernel
theorem d_204_22 : decode m204.2.1 22 = .ok (.getfield 15, 3) := by decide +kernel
theorem d_204_25 : decode m204.2.1 25 = .ok (.iload_n 1, 1) := by decide +kernel
theorem d_204_26 : decode m204.2.1 26 = .ok (.iaload, 1) := by decide +kernel
theorem d_204_27 : decode m204.2.1 27 = .ok (.if_icmp .ne 33, 3) := by decide +kernel
theorem d_204_30 : decode m204.2.1 30 = .ok (.aload_n 0, 1) := by decide +kernel
theorem d_204_31 : decode m204.2.1 31 = .ok (.getfield 18, 3) := by decide +kernel
theorem d_204_34 : decode m204.2.1 34 = .ok (.iload_n 1, 1) := by decide +kernel
theorem d_204_35 : decode m204.2.1 35 = .ok (.iaload, 1) := by decide +kernel
theorem d_204_36 : decode m204.2.1 36 = .ok (.aload_n 2, 1) := by decide +kernel
theorem d_204_37 : decode m204.2.1 37 = .ok (.getfield 18, 3) := by decide +kernel
theorem d_204_40 : decode m204.2.1 40 = .ok (.iload_n 1, 1) := by decide +kernel
theorem d_204_41 : decode m204.2.1 41 = .ok (.iaload, 1) := by decide +kernel
theorem d_204_42 : decode m204.2.1 42 = .ok (.if_icmp .ne 18, 3) := by decide +kernel
theorem d_204_45 : decode m204.2.1 45 = .ok (.aload_n 0, 1) := by decide +kernel
theorem d_204_46 : decode m204.2.1 46 = .ok (.getfield 21, 3) := by decide +kernel
theorem d_204_49 : decode m204.2.1 49 = .ok (.iload_n 1, 1) := by decide +kernel
theorem d_204_50 : decode m204.2.1 50 = .ok (.iaload, 1) := by decide +kernel
theorem d_204_51 : decode m204.2.1 51 = .ok (.aload_n 2, 1) := by decide +kernel
theorem d_204_52 : decode m204.2.1 52 = .ok (.getfield 21, 3) := by decide +kernel
theorem d_204_55 : decode m204.2.1 55 = .ok (.iload_n 1, 1) := by decide +kernel
theorem d_204_56 : decode m204.2.1 56 = .ok (.iaload, 1) := by decide +kernel
theorem d_204_57 : decode m204.2.1 57 = .ok (.if_icmp .eq 7, 3) := by decide +kernel
theorem d_204_60 : decode m204.2.1 60 = .ok (.iconst 1, 1) := by decide +kernel
theorem d_204_61 : decode m204.2.1 61 = .ok (.goto 4, 3) := by decide +kernel
theorem d_204_64 : decode m204.2.1 64 = .ok (.iconst 0, 1) := by decide +kernel
theorem d_204_65 : decode m204.2.1 65 = .ok (.ireturn, 1) := by decide +kernel
