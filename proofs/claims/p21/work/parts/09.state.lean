/-! THE STATE: ints and longs by handle and place, the handles of the score that is told and of the draft -/
abbrev St : Type := (Nat → Nat → Int32) × (Nat → Nat → Int64) × Nat × Nat
def KS : Kds := [(0, 0), (0, 1), (0, 4), (3, 1600), (0, 2), (2, 4), (1, 4), (2, 10), (1, 10), (1, 10), (1, 10), (1, 10), (1, 10), (0, 3), (1, 270), (1, 31), (1, 6), (0, 2), (2, 4), (1, 4), (2, 10), (1, 10), (1, 10), (1, 10), (1, 10), (1, 10), (0, 3), (1, 270), (1, 31), (1, 6), (0, 5), (1, 10), (1, 10), (1, 10), (1, 10), (5, 3), (0, 5), (1, 10), (1, 10), (1, 10), (1, 10), (0, 5), (1, 10), (1, 10), (1, 10), (1, 10), (0, 5), (1, 10), (1, 10), (1, 10), (1, 10), (0, 6), (1, 40), (1, 40), (1, 40), (1, 40), (0, 8), (0, 7), (1, 10), (1, 10), (1, 10), (1, 12), (1, 10), (1, 10), (1, 10), (1, 10), (1, 10), (0, 9), (1, 12), (0, 10), (1, 10), (1, 30), (1, 30), (4, 30), (1, 30), (1, 30), (1, 30), (1, 10), (0, 11), (1, 1600), (2, 14), (1, 320), (1, 320), (1, 320), (1, 320), (1, 160), (1, 64), (1, 6), (1, 4), (1, 10), (1, 10), (1, 10), (1, 10), (1, 10), (1, 4), (1, 10), (1, 10), (1, 10), (1, 10), (1, 10), (1, 41), (1, 41), (1, 12), (1, 12), (1, 1640), (1, 10), (1, 10), (1, 10), (1, 30), (1, 30), (1, 30), (1, 30), (4, 30), (1, 30), (1, 10), (4, 3), (1, 123)]
def rlk : List (Nat × Nat × Nat) → Nat → Nat → Option Nat
  | [], _, _ => none
  | q :: l, h, k => if h = q.1 ∧ k = q.2.1 then some q.2.2 else rlk l h k
def refT : List (Nat × Nat × Nat) := [(78, 79, 116), (78, 78, 115), (78, 77, 114), (78, 76, 113), (78, 73, 112), (78, 72, 111), (78, 71, 110), (78, 70, 109), (78, 69, 108), (78, 67, 107), (78, 66, 106), (78, 65, 105), (78, 62, 104), (78, 61, 103), (78, 60, 102), (78, 59, 101), (78, 58, 100), (78, 38, 99), (78, 37, 98), (78, 36, 97), (78, 35, 96), (78, 34, 95), (78, 33, 94), (78, 32, 93), (78, 31, 92), (78, 30, 91), (78, 29, 90), (78, 28, 89), (78, 27, 88), (78, 26, 87), (78, 16, 86), (78, 15, 85), (78, 14, 84), (78, 13, 83), (78, 12, 82), (78, 11, 81), (78, 10, 80), (78, 0, 79), (0, 11, 77), (0, 10, 69), (69, 9, 76), (69, 8, 75), (69, 7, 74), (69, 6, 73), (69, 5, 72), (69, 4, 71), (69, 3, 70), (0, 9, 67), (67, 0, 68), (0, 8, 62), (0, 7, 57), (0, 6, 56), (56, 8, 66), (56, 7, 65), (56, 6, 64), (56, 5, 63), (56, 1, 62), (56, 0, 57), (57, 11, 61), (57, 10, 60), (57, 9, 59), (57, 8, 58), (0, 5, 51), (51, 5, 55), (51, 4, 54), (51, 3, 53), (51, 2, 52), (0, 4, 35), (35, 2, 46), (46, 5, 50), (46, 4, 49), (46, 3, 48), (46, 2, 47), (35, 1, 41), (41, 5, 45), (41, 4, 44), (41, 3, 43), (41, 2, 42), (35, 0, 36), (36, 5, 40), (36, 4, 39), (36, 3, 38), (36, 2, 37), (0, 3, 30), (30, 5, 34), (30, 4, 33), (30, 3, 32), (30, 2, 31), (0, 2, 17), (17, 15, 26), (26, 4, 29), (26, 3, 28), (26, 2, 27), (17, 14, 25), (17, 13, 24), (17, 12, 23), (17, 11, 22), (17, 10, 21), (17, 9, 20), (17, 8, 19), (17, 7, 18), (0, 1, 2), (0, 0, 1), (1, 3, 4), (4, 15, 13), (13, 4, 16), (13, 3, 15), (13, 2, 14), (4, 14, 12), (4, 13, 11), (4, 12, 10), (4, 11, 9), (4, 10, 8), (4, 9, 7), (4, 8, 6), (4, 7, 5), (1, 2, 2), (2, 1, 3)]
def RR (t dr h k : Nat) : Option Nat := if h = 0 ∧ k = 2 then some t else if h = 1 ∧ k = 3 then some dr else rlk refT h k
def mk (S : St) : Mem := (S.1, S.2.1, RR S.2.2.1 S.2.2.2)
def sI (S : St) (h k : Nat) (x : Int32) : St := (fun j => if j = h then upd (S.1 h) k x else S.1 j, S.2)
def sL (S : St) (h k : Nat) (x : Int64) : St := (S.1, fun j => if j = h then vp_updL (S.2.1 h) k x else S.2.1 j, S.2.2)
def sA (S : St) (h : Nat) (f : Nat → Int32) : St := (fun j => if j = h then f else S.1 j, S.2)
def sT (S : St) (t : Nat) : St := (S.1, S.2.1, t, S.2.2.2)
def sD (S : St) (t : Nat) : St := (S.1, S.2.1, S.2.2.1, t)
theorem kd_0 : KS[0]? = some (0, 0) := rfl
theorem kd_1 : KS[1]? = some (0, 1) := rfl
theorem kd_2 : KS[2]? = some (0, 4) := rfl
theorem kd_3 : KS[3]? = some (3, 1600) := rfl
theorem kd_4 : KS[4]? = some (0, 2) := rfl
theorem kd_5 : KS[5]? = some (2, 4) := rfl
theorem kd_6 : KS[6]? = some (1, 4) := rfl
theorem kd_7 : KS[7]? = some (2, 10) := rfl
theorem kd_8 : KS[8]? = some (1, 10) := rfl
theorem kd_9 : KS[9]? = some (1, 10) := rfl
theorem kd_10 : KS[10]? = some (1, 10) := rfl
theorem kd_11 : KS[11]? = some (1, 10) := rfl
theorem kd_12 : KS[12]? = some (1, 10) := rfl
theorem kd_13 : KS[13]? = some (0, 3) := rfl
theorem kd_14 : KS[14]? = some (1, 270) := rfl
theorem kd_15 : KS[15]? = some (1, 31) := rfl
theorem kd_16 : KS[16]? = some (1, 6) := rfl
theorem kd_17 : KS[17]? = some (0, 2) := rfl
theorem kd_18 : KS[18]? = some (2, 4) := rfl
theorem kd_19 : KS[19]? = some (1, 4) := rfl
theorem kd_20 : KS[20]? = some (2, 10) := rfl
theorem kd_21 : KS[21]? = some (1, 10) := rfl
theorem kd_22 : KS[22]? = some (1, 10) := rfl
theorem kd_23 : KS[23]? = some (1, 10) := rfl
theorem kd_24 : KS[24]? = some (1, 10) := rfl
theorem kd_25 : KS[25]? = some (1, 10) := rfl
theorem kd_26 : KS[26]? = some (0, 3) := rfl
theorem kd_27 : KS[27]? = some (1, 270) := rfl
theorem kd_28 : KS[28]? = some (1, 31) := rfl
theorem kd_29 : KS[29]? = some (1, 6) := rfl
theorem kd_30 : KS[30]? = some (0, 5) := rfl
theorem kd_31 : KS[31]? = some (1, 10) := rfl
theorem kd_32 : KS[32]? = some (1, 10) := rfl
theorem kd_33 : KS[33]? = some (1, 10) := rfl
theorem kd_34 : KS[34]? = some (1, 10) := rfl
theorem kd_35 : KS[35]? = some (5, 3) := rfl
theorem kd_36 : KS[36]? = some (0, 5) := rfl
theorem kd_37 : KS[37]? = some (1, 10) := rfl
theorem kd_38 : KS[38]? = some (1, 10) := rfl
theorem kd_39 : KS[39]? = some (1, 10) := rfl
theorem kd_40 : KS[40]? = some (1, 10) := rfl
theorem kd_41 : KS[41]? = some (0, 5) := rfl
theorem kd_42 : KS[42]? = some (1, 10) := rfl
theorem kd_43 : KS[43]? = some (1, 10) := rfl
theorem kd_44 : KS[44]? = some (1, 10) := rfl
theorem kd_45 : KS[45]? = some (1, 10) := rfl
theorem kd_46 : KS[46]? = some (0, 5) := rfl
theorem kd_47 : KS[47]? = some (1, 10) := rfl
theorem kd_48 : KS[48]? = some (1, 10) := rfl
theorem kd_49 : KS[49]? = some (1, 10) := rfl
theorem kd_50 : KS[50]? = some (1, 10) := rfl
theorem kd_51 : KS[51]? = some (0, 6) := rfl
theorem kd_52 : KS[52]? = some (1, 40) := rfl
theorem kd_53 : KS[53]? = some (1, 40) := rfl
theorem kd_54 : KS[54]? = some (1, 40) := rfl
theorem kd_55 : KS[55]? = some (1, 40) := rfl
theorem kd_56 : KS[56]? = some (0, 8) := rfl
theorem kd_57 : KS[57]? = some (0, 7) := rfl
theorem kd_58 : KS[58]? = some (1, 10) := rfl
theorem kd_59 : KS[59]? = some (1, 10) := rfl
theorem kd_60 : KS[60]? = some (1, 10) := rfl
theorem kd_61 : KS[61]? = some (1, 12) := rfl
theorem kd_62 : KS[62]? = some (1, 10) := rfl
theorem kd_63 : KS[63]? = some (1, 10) := rfl
theorem kd_64 : KS[64]? = some (1, 10) := rfl
theorem kd_65 : KS[65]? = some (1, 10) := rfl
theorem kd_66 : KS[66]? = some (1, 10) := rfl
theorem kd_67 : KS[67]? = some (0, 9) := rfl
theorem kd_68 : KS[68]? = some (1, 12) := rfl
theorem kd_69 : KS[69]? = some (0, 10) := rfl
theorem kd_70 : KS[70]? = some (1, 10) := rfl
theorem kd_71 : KS[71]? = some (1, 30) := rfl
theorem kd_72 : KS[72]? = some (1, 30) := rfl
theorem kd_73 : KS[73]? = some (4, 30) := rfl
theorem kd_74 : KS[74]? = some (1, 30) := rfl
theorem kd_75 : KS[75]? = some (1, 30) := rfl
theorem kd_76 : KS[76]? = some (1, 30) := rfl
theorem kd_77 : KS[77]? = some (1, 10) := rfl
theorem kd_78 : KS[78]? = some (0, 11) := rfl
theorem kd_79 : KS[79]? = some (1, 1600) := rfl
theorem kd_80 : KS[80]? = some (2, 14) := rfl
theorem kd_81 : KS[81]? = some (1, 320) := rfl
theorem kd_82 : KS[82]? = some (1, 320) := rfl
theorem kd_83 : KS[83]? = some (1, 320) := rfl
theorem kd_84 : KS[84]? = some (1, 320) := rfl
theorem kd_85 : KS[85]? = some (1, 160) := rfl
theorem kd_86 : KS[86]? = some (1, 64) := rfl
theorem kd_87 : KS[87]? = some (1, 6) := rfl
theorem kd_88 : KS[88]? = some (1, 4) := rfl
theorem kd_89 : KS[89]? = some (1, 10) := rfl
theorem kd_90 : KS[90]? = some (1, 10) := rfl
theorem kd_91 : KS[91]? = some (1, 10) := rfl
theorem kd_92 : KS[92]? = some (1, 10) := rfl
theorem kd_93 : KS[93]? = some (1, 10) := rfl
theorem kd_94 : KS[94]? = some (1, 4) := rfl
theorem kd_95 : KS[95]? = some (1, 10) := rfl
theorem kd_96 : KS[96]? = some (1, 10) := rfl
theorem kd_97 : KS[97]? = some (1, 10) := rfl
theorem kd_98 : KS[98]? = some (1, 10) := rfl
theorem kd_99 : KS[99]? = some (1, 10) := rfl
theorem kd_100 : KS[100]? = some (1, 41) := rfl
theorem kd_101 : KS[101]? = some (1, 41) := rfl
theorem kd_102 : KS[102]? = some (1, 12) := rfl
theorem kd_103 : KS[103]? = some (1, 12) := rfl
theorem kd_104 : KS[104]? = some (1, 1640) := rfl
theorem kd_105 : KS[105]? = some (1, 10) := rfl
theorem kd_106 : KS[106]? = some (1, 10) := rfl
theorem kd_107 : KS[107]? = some (1, 10) := rfl
theorem kd_108 : KS[108]? = some (1, 30) := rfl
theorem kd_109 : KS[109]? = some (1, 30) := rfl
theorem kd_110 : KS[110]? = some (1, 30) := rfl
theorem kd_111 : KS[111]? = some (1, 30) := rfl
theorem kd_112 : KS[112]? = some (4, 30) := rfl
theorem kd_113 : KS[113]? = some (1, 30) := rfl
theorem kd_114 : KS[114]? = some (1, 10) := rfl
theorem kd_115 : KS[115]? = some (4, 3) := rfl
theorem kd_116 : KS[116]? = some (1, 123) := rfl
theorem rr_0_0 {t dr : Nat} : RR t dr 0 0 = some 1 := rfl
theorem rr_0_1 {t dr : Nat} : RR t dr 0 1 = some 2 := rfl
theorem rr_0_3 {t dr : Nat} : RR t dr 0 3 = some 30 := rfl
theorem rr_0_4 {t dr : Nat} : RR t dr 0 4 = some 35 := rfl
theorem rr_0_5 {t dr : Nat} : RR t dr 0 5 = some 51 := rfl
theorem rr_0_6 {t dr : Nat} : RR t dr 0 6 = some 56 := rfl
theorem rr_0_7 {t dr : Nat} : RR t dr 0 7 = some 57 := rfl
theorem rr_0_8 {t dr : Nat} : RR t dr 0 8 = some 62 := rfl
theorem rr_0_9 {t dr : Nat} : RR t dr 0 9 = some 67 := rfl
theorem rr_0_10 {t dr : Nat} : RR t dr 0 10 = some 69 := rfl
theorem rr_0_11 {t dr : Nat} : RR t dr 0 11 = some 77 := rfl
theorem rr_1_2 {t dr : Nat} : RR t dr 1 2 = some 2 := rfl
theorem rr_2_1 {t dr : Nat} : RR t dr 2 1 = some 3 := rfl
theorem rr_4_7 {t dr : Nat} : RR t dr 4 7 = some 5 := rfl
theorem rr_4_8 {t dr : Nat} : RR t dr 4 8 = some 6 := rfl
theorem rr_4_9 {t dr : Nat} : RR t dr 4 9 = some 7 := rfl
theorem rr_4_10 {t dr : Nat} : RR t dr 4 10 = some 8 := rfl
theorem rr_4_11 {t dr : Nat} : RR t dr 4 11 = some 9 := rfl
theorem rr_4_12 {t dr : Nat} : RR t dr 4 12 = some 10 := rfl
theorem rr_4_13 {t dr : Nat} : RR t dr 4 13 = some 11 := rfl
theorem rr_4_14 {t dr : Nat} : RR t dr 4 14 = some 12 := rfl
theorem rr_4_15 {t dr : Nat} : RR t dr 4 15 = some 13 := rfl
theorem rr_13_2 {t dr : Nat} : RR t dr 13 2 = some 14 := rfl
theorem rr_13_3 {t dr : Nat} : RR t dr 13 3 = some 15 := rfl
theorem rr_13_4 {t dr : Nat} : RR t dr 13 4 = some 16 := rfl
theorem rr_17_7 {t dr : Nat} : RR t dr 17 7 = some 18 := rfl
theorem rr_17_8 {t dr : Nat} : RR t dr 17 8 = some 19 := rfl
theorem rr_17_9 {t dr : Nat} : RR t dr 17 9 = some 20 := rfl
theorem rr_17_10 {t dr : Nat} : RR t dr 17 10 = some 21 := rfl
theorem rr_17_11 {t dr : Nat} : RR t dr 17 11 = some 22 := rfl
theorem rr_17_12 {t dr : Nat} : RR t dr 17 12 = some 23 := rfl
theorem rr_17_13 {t dr : Nat} : RR t dr 17 13 = some 24 := rfl
theorem rr_17_14 {t dr : Nat} : RR t dr 17 14 = some 25 := rfl
theorem rr_17_15 {t dr : Nat} : RR t dr 17 15 = some 26 := rfl
theorem rr_26_2 {t dr : Nat} : RR t dr 26 2 = some 27 := rfl
theorem rr_26_3 {t dr : Nat} : RR t dr 26 3 = some 28 := rfl
theorem rr_26_4 {t dr : Nat} : RR t dr 26 4 = some 29 := rfl
theorem rr_30_2 {t dr : Nat} : RR t dr 30 2 = some 31 := rfl
theorem rr_30_3 {t dr : Nat} : RR t dr 30 3 = some 32 := rfl
theorem rr_30_4 {t dr : Nat} : RR t dr 30 4 = some 33 := rfl
theorem rr_30_5 {t dr : Nat} : RR t dr 30 5 = some 34 := rfl
theorem rr_35_0 {t dr : Nat} : RR t dr 35 0 = some 36 := rfl
theorem rr_35_1 {t dr : Nat} : RR t dr 35 1 = some 41 := rfl
theorem rr_35_2 {t dr : Nat} : RR t dr 35 2 = some 46 := rfl
theorem rr_36_2 {t dr : Nat} : RR t dr 36 2 = some 37 := rfl
theorem rr_36_3 {t dr : Nat} : RR t dr 36 3 = some 38 := rfl
theorem rr_36_4 {t dr : Nat} : RR t dr 36 4 = some 39 := rfl
theorem rr_36_5 {t dr : Nat} : RR t dr 36 5 = some 40 := rfl
theorem rr_41_2 {t dr : Nat} : RR t dr 41 2 = some 42 := rfl
theorem rr_41_3 {t dr : Nat} : RR t dr 41 3 = some 43 := rfl
theorem rr_41_4 {t dr : Nat} : RR t dr 41 4 = some 44 := rfl
theorem rr_41_5 {t dr : Nat} : RR t dr 41 5 = some 45 := rfl
theorem rr_46_2 {t dr : Nat} : RR t dr 46 2 = some 47 := rfl
theorem rr_46_3 {t dr : Nat} : RR t dr 46 3 = some 48 := rfl
theorem rr_46_4 {t dr : Nat} : RR t dr 46 4 = some 49 := rfl
theorem rr_46_5 {t dr : Nat} : RR t dr 46 5 = some 50 := rfl
theorem rr_51_2 {t dr : Nat} : RR t dr 51 2 = some 52 := rfl
theorem rr_51_3 {t dr : Nat} : RR t dr 51 3 = some 53 := rfl
theorem rr_51_4 {t dr : Nat} : RR t dr 51 4 = some 54 := rfl
theorem rr_51_5 {t dr : Nat} : RR t dr 51 5 = some 55 := rfl
theorem rr_56_0 {t dr : Nat} : RR t dr 56 0 = some 57 := rfl
theorem rr_56_1 {t dr : Nat} : RR t dr 56 1 = some 62 := rfl
theorem rr_56_5 {t dr : Nat} : RR t dr 56 5 = some 63 := rfl
theorem rr_56_6 {t dr : Nat} : RR t dr 56 6 = some 64 := rfl
theorem rr_56_7 {t dr : Nat} : RR t dr 56 7 = some 65 := rfl
theorem rr_56_8 {t dr : Nat} : RR t dr 56 8 = some 66 := rfl
theorem rr_57_8 {t dr : Nat} : RR t dr 57 8 = some 58 := rfl
theorem rr_57_9 {t dr : Nat} : RR t dr 57 9 = some 59 := rfl
theorem rr_57_10 {t dr : Nat} : RR t dr 57 10 = some 60 := rfl
theorem rr_57_11 {t dr : Nat} : RR t dr 57 11 = some 61 := rfl
theorem rr_67_0 {t dr : Nat} : RR t dr 67 0 = some 68 := rfl
theorem rr_69_3 {t dr : Nat} : RR t dr 69 3 = some 70 := rfl
theorem rr_69_4 {t dr : Nat} : RR t dr 69 4 = some 71 := rfl
theorem rr_69_5 {t dr : Nat} : RR t dr 69 5 = some 72 := rfl
theorem rr_69_6 {t dr : Nat} : RR t dr 69 6 = some 73 := rfl
theorem rr_69_7 {t dr : Nat} : RR t dr 69 7 = some 74 := rfl
theorem rr_69_8 {t dr : Nat} : RR t dr 69 8 = some 75 := rfl
theorem rr_69_9 {t dr : Nat} : RR t dr 69 9 = some 76 := rfl
theorem rr_78_0 {t dr : Nat} : RR t dr 78 0 = some 79 := rfl
theorem rr_78_10 {t dr : Nat} : RR t dr 78 10 = some 80 := rfl
theorem rr_78_11 {t dr : Nat} : RR t dr 78 11 = some 81 := rfl
theorem rr_78_12 {t dr : Nat} : RR t dr 78 12 = some 82 := rfl
theorem rr_78_13 {t dr : Nat} : RR t dr 78 13 = some 83 := rfl
theorem rr_78_14 {t dr : Nat} : RR t dr 78 14 = some 84 := rfl
theorem rr_78_15 {t dr : Nat} : RR t dr 78 15 = some 85 := rfl
theorem rr_78_16 {t dr : Nat} : RR t dr 78 16 = some 86 := rfl
theorem rr_78_26 {t dr : Nat} : RR t dr 78 26 = some 87 := rfl
theorem rr_78_27 {t dr : Nat} : RR t dr 78 27 = some 88 := rfl
theorem rr_78_28 {t dr : Nat} : RR t dr 78 28 = some 89 := rfl
theorem rr_78_29 {t dr : Nat} : RR t dr 78 29 = some 90 := rfl
theorem rr_78_30 {t dr : Nat} : RR t dr 78 30 = some 91 := rfl
theorem rr_78_31 {t dr : Nat} : RR t dr 78 31 = some 92 := rfl
theorem rr_78_32 {t dr : Nat} : RR t dr 78 32 = some 93 := rfl
theorem rr_78_33 {t dr : Nat} : RR t dr 78 33 = some 94 := rfl
theorem rr_78_34 {t dr : Nat} : RR t dr 78 34 = some 95 := rfl
theorem rr_78_35 {t dr : Nat} : RR t dr 78 35 = some 96 := rfl
theorem rr_78_36 {t dr : Nat} : RR t dr 78 36 = some 97 := rfl
theorem rr_78_37 {t dr : Nat} : RR t dr 78 37 = some 98 := rfl
theorem rr_78_38 {t dr : Nat} : RR t dr 78 38 = some 99 := rfl
theorem rr_78_58 {t dr : Nat} : RR t dr 78 58 = some 100 := rfl
theorem rr_78_59 {t dr : Nat} : RR t dr 78 59 = some 101 := rfl
theorem rr_78_60 {t dr : Nat} : RR t dr 78 60 = some 102 := rfl
theorem rr_78_61 {t dr : Nat} : RR t dr 78 61 = some 103 := rfl
theorem rr_78_62 {t dr : Nat} : RR t dr 78 62 = some 104 := rfl
theorem rr_78_65 {t dr : Nat} : RR t dr 78 65 = some 105 := rfl
theorem rr_78_66 {t dr : Nat} : RR t dr 78 66 = some 106 := rfl
theorem rr_78_67 {t dr : Nat} : RR t dr 78 67 = some 107 := rfl
theorem rr_78_69 {t dr : Nat} : RR t dr 78 69 = some 108 := rfl
theorem rr_78_70 {t dr : Nat} : RR t dr 78 70 = some 109 := rfl
theorem rr_78_71 {t dr : Nat} : RR t dr 78 71 = some 110 := rfl
theorem rr_78_72 {t dr : Nat} : RR t dr 78 72 = some 111 := rfl
theorem rr_78_73 {t dr : Nat} : RR t dr 78 73 = some 112 := rfl
theorem rr_78_76 {t dr : Nat} : RR t dr 78 76 = some 113 := rfl
theorem rr_78_77 {t dr : Nat} : RR t dr 78 77 = some 114 := rfl
theorem rr_78_78 {t dr : Nat} : RR t dr 78 78 = some 115 := rfl
theorem rr_78_79 {t dr : Nat} : RR t dr 78 79 = some 116 := rfl
theorem rr_told {t dr : Nat} : RR t dr 0 2 = some t := rfl
theorem rr_draft {t dr : Nat} : RR t dr 1 3 = some dr := rfl
def isSc (h : Nat) : Bool := h == 4 || h == 17
def isFo (h : Nat) : Bool := h == 13 || h == 26
def isLa (h : Nat) : Bool := h == 30 || h == 36 || h == 41 || h == 46
def isRw (h : Nat) : Bool := (31 ≤ h && h ≤ 34) || (37 ≤ h && h ≤ 40) || (42 ≤ h && h ≤ 45) || (47 ≤ h && h ≤ 50)
theorem isSc_or {h : Nat} (p : isSc h = true) : h = 4 ∨ h = 17 := by simpa [isSc] using p
theorem isFo_or {h : Nat} (p : isFo h = true) : h = 13 ∨ h = 26 := by simpa [isFo] using p
theorem isLa_or {h : Nat} (p : isLa h = true) : h = 30 ∨ h = 36 ∨ h = 41 ∨ h = 46 := by simpa [isLa, or_assoc] using p
theorem isFo_of {h : Nat} (p : isSc h = true) : isFo (h + 9) = true := by rcases isSc_or p with rfl | rfl <;> rfl
theorem ksRw {h : Nat} (p : isRw h = true) : KS[h]? = some (1, 10) := by
  have : h ≤ 50 := by simp [isRw] at p; omega
  exact (by decide +kernel : ∀ h, h ≤ 50 → isRw h = true → KS[h]? = some (1, 10)) h this p
theorem ksSc {h : Nat} (p : isSc h = true) : KS[h]? = some (0, 2) := by rcases isSc_or p with rfl | rfl <;> rfl
theorem ksFo {h : Nat} (p : isFo h = true) : KS[h]? = some (0, 3) := by rcases isFo_or p with rfl | rfl <;> rfl
theorem ksLa {h : Nat} (p : isLa h = true) : KS[h]? = some (0, 5) := by rcases isLa_or p with rfl | rfl | rfl | rfl <;> rfl
theorem rrSc_7 {t dr h : Nat} (p : isSc h = true) : RR t dr h 7 = some (h + 1) := by rcases isSc_or p with rfl | rfl <;> rfl
theorem ksSc_1 {h : Nat} (p : isSc h = true) : KS[h + 1]? = some (2, 4) := by rcases isSc_or p with rfl | rfl <;> rfl
theorem rrSc_8 {t dr h : Nat} (p : isSc h = true) : RR t dr h 8 = some (h + 2) := by rcases isSc_or p with rfl | rfl <;> rfl
theorem ksSc_2 {h : Nat} (p : isSc h = true) : KS[h + 2]? = some (1, 4) := by rcases isSc_or p with rfl | rfl <;> rfl
theorem rrSc_9 {t dr h : Nat} (p : isSc h = true) : RR t dr h 9 = some (h + 3) := by rcases isSc_or p with rfl | rfl <;> rfl
theorem ksSc_3 {h : Nat} (p : isSc h = true) : KS[h + 3]? = some (2, 10) := by rcases isSc_or p with rfl | rfl <;> rfl
theorem rrSc_10 {t dr h : Nat} (p : isSc h = true) : RR t dr h 10 = some (h + 4) := by rcases isSc_or p with rfl | rfl <;> rfl
theorem ksSc_4 {h : Nat} (p : isSc h = true) : KS[h + 4]? = some (1, 10) := by rcases isSc_or p with rfl | rfl <;> rfl
theorem rrSc_11 {t dr h : Nat} (p : isSc h = true) : RR t dr h 11 = some (h + 5) := by rcases isSc_or p with rfl | rfl <;> rfl
theorem ksSc_5 {h : Nat} (p : isSc h = true) : KS[h + 5]? = some (1, 10) := by rcases isSc_or p with rfl | rfl <;> rfl
theorem rrSc_12 {t dr h : Nat} (p : isSc h = true) : RR t dr h 12 = some (h + 6) := by rcases isSc_or p with rfl | rfl <;> rfl
theorem ksSc_6 {h : Nat} (p : isSc h = true) : KS[h + 6]? = some (1, 10) := by rcases isSc_or p with rfl | rfl <;> rfl
theorem rrSc_13 {t dr h : Nat} (p : isSc h = true) : RR t dr h 13 = some (h + 7) := by rcases isSc_or p with rfl | rfl <;> rfl
theorem ksSc_7 {h : Nat} (p : isSc h = true) : KS[h + 7]? = some (1, 10) := by rcases isSc_or p with rfl | rfl <;> rfl
theorem rrSc_14 {t dr h : Nat} (p : isSc h = true) : RR t dr h 14 = some (h + 8) := by rcases isSc_or p with rfl | rfl <;> rfl
theorem ksSc_8 {h : Nat} (p : isSc h = true) : KS[h + 8]? = some (1, 10) := by rcases isSc_or p with rfl | rfl <;> rfl
theorem rrSc_15 {t dr h : Nat} (p : isSc h = true) : RR t dr h 15 = some (h + 9) := by rcases isSc_or p with rfl | rfl <;> rfl
theorem ksSc_9 {h : Nat} (p : isSc h = true) : KS[h + 9]? = some (0, 3) := by rcases isSc_or p with rfl | rfl <;> rfl
theorem rrFo_2 {t dr h : Nat} (p : isFo h = true) : RR t dr h 2 = some (h + 1) := by rcases isFo_or p with rfl | rfl <;> rfl
theorem ksFo_1 {h : Nat} (p : isFo h = true) : KS[h + 1]? = some (1, 270) := by rcases isFo_or p with rfl | rfl <;> rfl
theorem rrFo_3 {t dr h : Nat} (p : isFo h = true) : RR t dr h 3 = some (h + 2) := by rcases isFo_or p with rfl | rfl <;> rfl
theorem ksFo_2 {h : Nat} (p : isFo h = true) : KS[h + 2]? = some (1, 31) := by rcases isFo_or p with rfl | rfl <;> rfl
theorem rrFo_4 {t dr h : Nat} (p : isFo h = true) : RR t dr h 4 = some (h + 3) := by rcases isFo_or p with rfl | rfl <;> rfl
theorem ksFo_3 {h : Nat} (p : isFo h = true) : KS[h + 3]? = some (1, 6) := by rcases isFo_or p with rfl | rfl <;> rfl
theorem rrLa_2 {t dr h : Nat} (p : isLa h = true) : RR t dr h 2 = some (h + 1) := by rcases isLa_or p with rfl | rfl | rfl | rfl <;> rfl
theorem ksLa_1 {h : Nat} (p : isLa h = true) : KS[h + 1]? = some (1, 10) := by rcases isLa_or p with rfl | rfl | rfl | rfl <;> rfl
theorem rrLa_3 {t dr h : Nat} (p : isLa h = true) : RR t dr h 3 = some (h + 2) := by rcases isLa_or p with rfl | rfl | rfl | rfl <;> rfl
theorem ksLa_2 {h : Nat} (p : isLa h = true) : KS[h + 2]? = some (1, 10) := by rcases isLa_or p with rfl | rfl | rfl | rfl <;> rfl
theorem rrLa_4 {t dr h : Nat} (p : isLa h = true) : RR t dr h 4 = some (h + 3) := by rcases isLa_or p with rfl | rfl | rfl | rfl <;> rfl
theorem ksLa_3 {h : Nat} (p : isLa h = true) : KS[h + 3]? = some (1, 10) := by rcases isLa_or p with rfl | rfl | rfl | rfl <;> rfl
theorem rrLa_5 {t dr h : Nat} (p : isLa h = true) : RR t dr h 5 = some (h + 4) := by rcases isLa_or p with rfl | rfl | rfl | rfl <;> rfl
theorem ksLa_4 {h : Nat} (p : isLa h = true) : KS[h + 4]? = some (1, 10) := by rcases isLa_or p with rfl | rfl | rfl | rfl <;> rfl
theorem rr_box {t dr : Nat} {i : Nat} (h : i < 3) : RR t dr 35 i = some (36 + 5 * i) := by rcases (by omega : i = 0 ∨ i = 1 ∨ i = 2) with rfl | rfl | rfl <;> rfl
theorem isLa_box {i : Nat} (h : i < 3) : isLa (36 + 5 * i) = true := by rcases (by omega : i = 0 ∨ i = 1 ∨ i = 2) with rfl | rfl | rfl <;> rfl
/-! words of the functions: a guard, a name, a call, a loop -/
def gd {α : Type} (b : Bool) (x : Option α) : Option α := if b = true then x else none
theorem gd_inv {α : Type} {b : Bool} {x : Option α} {y : α} (h : gd b x = some y) : b = true ∧ x = some y := by
  cases b with
  | true => exact ⟨rfl, h⟩
  | false => cases h
def lt {α β : Type} (a : α) (f : α → β) : β := f a
theorem lt_inv {α β : Type} {a : α} {f : α → β} {y : β} (h : lt a f = y) : ∃ b, b = a ∧ f b = y := ⟨a, rfl, h⟩
def bd {α β : Type} (x : Option α) (f : α → Option β) : Option β := match x with
  | none => none
  | some a => f a
theorem bd_inv {α β : Type} {x : Option α} {f : α → Option β} {y : β} (h : bd x f = some y) : ∃ a, x = some a ∧ f a = some y := by
  cases x with
  | none => cases h
  | some a => exact ⟨a, rfl, h⟩
def bd2 {α γ β : Type} (x : Option (α × γ)) (f : α → γ → Option β) : Option β := match x with
  | none => none
  | some a => f a.1 a.2
theorem bd2_inv {α γ β : Type} {x : Option (α × γ)} {f : α → γ → Option β} {y : β} (h : bd2 x f = some y) : ∃ a c, x = some (a, c) ∧ f a c = some y := by
  cases x with
  | none => cases h
  | some a => exact ⟨a.1, a.2, rfl, h⟩
theorem ite_t {α : Type} {c : Prop} [Decidable c] {a b x : α} (hc : c) (h : (if c then a else b) = x) : a = x := by rw [if_pos hc] at h; exact h
theorem ite_f {α : Type} {c : Prop} [Decidable c] {a b x : α} (hc : ¬ c) (h : (if c then a else b) = x) : b = x := by rw [if_neg hc] at h; exact h
def inB (i : Int32) (n : Nat) : Bool := decide (0 ≤ i) && decide (i.toNatClampNeg < n)
theorem inB_in {i : Int32} {n : Nat} (h : inB i n = true) : vp_in i n := by
  simp only [inB, Bool.and_eq_true, decide_eq_true_eq] at h
  rintro (q | q)
  · exact absurd h.1 (Int32.not_le.mpr q)
  · omega
def isB (x : Int32) : Bool := decide (x = 0) || decide (x = 1)
theorem isB_nar {x : Int32} (h : isB x = true) : narrow .boolean (.int x) = .int x := by
  simp only [isB, Bool.or_eq_true, decide_eq_true_eq] at h
  rcases h with rfl | rfl <;> rfl
theorem isB_fit {x : Int32} (h : isB x = true) : fits .boolean (.int x) = true := by
  simp only [isB, Bool.or_eq_true, decide_eq_true_eq] at h
  rcases h with rfl | rfl <;> rfl
def nz (x : Int32) : Bool := decide (¬ x = 0)
theorem nz_ne {x : Int32} (h : nz x = true) : ¬ x = 0 := by simpa [nz] using h
def fx1 {A1 R : Type} (body : (A1 → Option R) → A1 → Option R) : Nat → A1 → Option R
  | 0, _ => none
  | f + 1, a1 => body (fx1 body f) a1
theorem fx1_ind {A1 R : Type} {body : (A1 → Option R) → A1 → Option R} {Q : A1 → R → Prop} (hs : ∀ rec : A1 → Option R, (∀ a1 r, rec a1 = some r → Q a1 r) → ∀ a1 r, body rec a1 = some r → Q a1 r) : ∀ f a1 r, fx1 body f a1 = some r → Q a1 r
  | 0, _, _, h => by cases h
  | f + 1, a1, r, h => hs (fx1 body f) (fx1_ind hs f) a1 r h
def fx2 {A1 A2 R : Type} (body : (A1 → A2 → Option R) → A1 → A2 → Option R) : Nat → A1 → A2 → Option R
  | 0, _, _ => none
  | f + 1, a1, a2 => body (fx2 body f) a1 a2
theorem fx2_ind {A1 A2 R : Type} {body : (A1 → A2 → Option R) → A1 → A2 → Option R} {Q : A1 → A2 → R → Prop} (hs : ∀ rec : A1 → A2 → Option R, (∀ a1 a2 r, rec a1 a2 = some r → Q a1 a2 r) → ∀ a1 a2 r, body rec a1 a2 = some r → Q a1 a2 r) : ∀ f a1 a2 r, fx2 body f a1 a2 = some r → Q a1 a2 r
  | 0, _, _, _, h => by cases h
  | f + 1, a1, a2, r, h => hs (fx2 body f) (fx2_ind hs f) a1 a2 r h
def fx3 {A1 A2 A3 R : Type} (body : (A1 → A2 → A3 → Option R) → A1 → A2 → A3 → Option R) : Nat → A1 → A2 → A3 → Option R
  | 0, _, _, _ => none
  | f + 1, a1, a2, a3 => body (fx3 body f) a1 a2 a3
theorem fx3_ind {A1 A2 A3 R : Type} {body : (A1 → A2 → A3 → Option R) → A1 → A2 → A3 → Option R} {Q : A1 → A2 → A3 → R → Prop} (hs : ∀ rec : A1 → A2 → A3 → Option R, (∀ a1 a2 a3 r, rec a1 a2 a3 = some r → Q a1 a2 a3 r) → ∀ a1 a2 a3 r, body rec a1 a2 a3 = some r → Q a1 a2 a3 r) : ∀ f a1 a2 a3 r, fx3 body f a1 a2 a3 = some r → Q a1 a2 a3 r
  | 0, _, _, _, _, h => by cases h
  | f + 1, a1, a2, a3, r, h => hs (fx3 body f) (fx3_ind hs f) a1 a2 a3 r h
def fx4 {A1 A2 A3 A4 R : Type} (body : (A1 → A2 → A3 → A4 → Option R) → A1 → A2 → A3 → A4 → Option R) : Nat → A1 → A2 → A3 → A4 → Option R
  | 0, _, _, _, _ => none
  | f + 1, a1, a2, a3, a4 => body (fx4 body f) a1 a2 a3 a4
theorem fx4_ind {A1 A2 A3 A4 R : Type} {body : (A1 → A2 → A3 → A4 → Option R) → A1 → A2 → A3 → A4 → Option R} {Q : A1 → A2 → A3 → A4 → R → Prop} (hs : ∀ rec : A1 → A2 → A3 → A4 → Option R, (∀ a1 a2 a3 a4 r, rec a1 a2 a3 a4 = some r → Q a1 a2 a3 a4 r) → ∀ a1 a2 a3 a4 r, body rec a1 a2 a3 a4 = some r → Q a1 a2 a3 a4 r) : ∀ f a1 a2 a3 a4 r, fx4 body f a1 a2 a3 a4 = some r → Q a1 a2 a3 a4 r
  | 0, _, _, _, _, _, h => by cases h
  | f + 1, a1, a2, a3, a4, r, h => hs (fx4 body f) (fx4_ind hs f) a1 a2 a3 a4 r h
def fx5 {A1 A2 A3 A4 A5 R : Type} (body : (A1 → A2 → A3 → A4 → A5 → Option R) → A1 → A2 → A3 → A4 → A5 → Option R) : Nat → A1 → A2 → A3 → A4 → A5 → Option R
  | 0, _, _, _, _, _ => none
  | f + 1, a1, a2, a3, a4, a5 => body (fx5 body f) a1 a2 a3 a4 a5
theorem fx5_ind {A1 A2 A3 A4 A5 R : Type} {body : (A1 → A2 → A3 → A4 → A5 → Option R) → A1 → A2 → A3 → A4 → A5 → Option R} {Q : A1 → A2 → A3 → A4 → A5 → R → Prop} (hs : ∀ rec : A1 → A2 → A3 → A4 → A5 → Option R, (∀ a1 a2 a3 a4 a5 r, rec a1 a2 a3 a4 a5 = some r → Q a1 a2 a3 a4 a5 r) → ∀ a1 a2 a3 a4 a5 r, body rec a1 a2 a3 a4 a5 = some r → Q a1 a2 a3 a4 a5 r) : ∀ f a1 a2 a3 a4 a5 r, fx5 body f a1 a2 a3 a4 a5 = some r → Q a1 a2 a3 a4 a5 r
  | 0, _, _, _, _, _, _, h => by cases h
  | f + 1, a1, a2, a3, a4, a5, r, h => hs (fx5 body f) (fx5_ind hs f) a1 a2 a3 a4 a5 r h
def fx6 {A1 A2 A3 A4 A5 A6 R : Type} (body : (A1 → A2 → A3 → A4 → A5 → A6 → Option R) → A1 → A2 → A3 → A4 → A5 → A6 → Option R) : Nat → A1 → A2 → A3 → A4 → A5 → A6 → Option R
  | 0, _, _, _, _, _, _ => none
  | f + 1, a1, a2, a3, a4, a5, a6 => body (fx6 body f) a1 a2 a3 a4 a5 a6
theorem fx6_ind {A1 A2 A3 A4 A5 A6 R : Type} {body : (A1 → A2 → A3 → A4 → A5 → A6 → Option R) → A1 → A2 → A3 → A4 → A5 → A6 → Option R} {Q : A1 → A2 → A3 → A4 → A5 → A6 → R → Prop} (hs : ∀ rec : A1 → A2 → A3 → A4 → A5 → A6 → Option R, (∀ a1 a2 a3 a4 a5 a6 r, rec a1 a2 a3 a4 a5 a6 = some r → Q a1 a2 a3 a4 a5 a6 r) → ∀ a1 a2 a3 a4 a5 a6 r, body rec a1 a2 a3 a4 a5 a6 = some r → Q a1 a2 a3 a4 a5 a6 r) : ∀ f a1 a2 a3 a4 a5 a6 r, fx6 body f a1 a2 a3 a4 a5 a6 = some r → Q a1 a2 a3 a4 a5 a6 r
  | 0, _, _, _, _, _, _, _, h => by cases h
  | f + 1, a1, a2, a3, a4, a5, a6, r, h => hs (fx6 body f) (fx6_ind hs f) a1 a2 a3 a4 a5 a6 r h
def fx7 {A1 A2 A3 A4 A5 A6 A7 R : Type} (body : (A1 → A2 → A3 → A4 → A5 → A6 → A7 → Option R) → A1 → A2 → A3 → A4 → A5 → A6 → A7 → Option R) : Nat → A1 → A2 → A3 → A4 → A5 → A6 → A7 → Option R
  | 0, _, _, _, _, _, _, _ => none
  | f + 1, a1, a2, a3, a4, a5, a6, a7 => body (fx7 body f) a1 a2 a3 a4 a5 a6 a7
theorem fx7_ind {A1 A2 A3 A4 A5 A6 A7 R : Type} {body : (A1 → A2 → A3 → A4 → A5 → A6 → A7 → Option R) → A1 → A2 → A3 → A4 → A5 → A6 → A7 → Option R} {Q : A1 → A2 → A3 → A4 → A5 → A6 → A7 → R → Prop} (hs : ∀ rec : A1 → A2 → A3 → A4 → A5 → A6 → A7 → Option R, (∀ a1 a2 a3 a4 a5 a6 a7 r, rec a1 a2 a3 a4 a5 a6 a7 = some r → Q a1 a2 a3 a4 a5 a6 a7 r) → ∀ a1 a2 a3 a4 a5 a6 a7 r, body rec a1 a2 a3 a4 a5 a6 a7 = some r → Q a1 a2 a3 a4 a5 a6 a7 r) : ∀ f a1 a2 a3 a4 a5 a6 a7 r, fx7 body f a1 a2 a3 a4 a5 a6 a7 = some r → Q a1 a2 a3 a4 a5 a6 a7 r
  | 0, _, _, _, _, _, _, _, _, h => by cases h
  | f + 1, a1, a2, a3, a4, a5, a6, a7, r, h => hs (fx7 body f) (fx7_ind hs f) a1 a2 a3 a4 a5 a6 a7 r h
def fx8 {A1 A2 A3 A4 A5 A6 A7 A8 R : Type} (body : (A1 → A2 → A3 → A4 → A5 → A6 → A7 → A8 → Option R) → A1 → A2 → A3 → A4 → A5 → A6 → A7 → A8 → Option R) : Nat → A1 → A2 → A3 → A4 → A5 → A6 → A7 → A8 → Option R
  | 0, _, _, _, _, _, _, _, _ => none
  | f + 1, a1, a2, a3, a4, a5, a6, a7, a8 => body (fx8 body f) a1 a2 a3 a4 a5 a6 a7 a8
theorem fx8_ind {A1 A2 A3 A4 A5 A6 A7 A8 R : Type} {body : (A1 → A2 → A3 → A4 → A5 → A6 → A7 → A8 → Option R) → A1 → A2 → A3 → A4 → A5 → A6 → A7 → A8 → Option R} {Q : A1 → A2 → A3 → A4 → A5 → A6 → A7 → A8 → R → Prop} (hs : ∀ rec : A1 → A2 → A3 → A4 → A5 → A6 → A7 → A8 → Option R, (∀ a1 a2 a3 a4 a5 a6 a7 a8 r, rec a1 a2 a3 a4 a5 a6 a7 a8 = some r → Q a1 a2 a3 a4 a5 a6 a7 a8 r) → ∀ a1 a2 a3 a4 a5 a6 a7 a8 r, body rec a1 a2 a3 a4 a5 a6 a7 a8 = some r → Q a1 a2 a3 a4 a5 a6 a7 a8 r) : ∀ f a1 a2 a3 a4 a5 a6 a7 a8 r, fx8 body f a1 a2 a3 a4 a5 a6 a7 a8 = some r → Q a1 a2 a3 a4 a5 a6 a7 a8 r
  | 0, _, _, _, _, _, _, _, _, _, h => by cases h
  | f + 1, a1, a2, a3, a4, a5, a6, a7, a8, r, h => hs (fx8 body f) (fx8_ind hs f) a1 a2 a3 a4 a5 a6 a7 a8 r h
def fx9 {A1 A2 A3 A4 A5 A6 A7 A8 A9 R : Type} (body : (A1 → A2 → A3 → A4 → A5 → A6 → A7 → A8 → A9 → Option R) → A1 → A2 → A3 → A4 → A5 → A6 → A7 → A8 → A9 → Option R) : Nat → A1 → A2 → A3 → A4 → A5 → A6 → A7 → A8 → A9 → Option R
  | 0, _, _, _, _, _, _, _, _, _ => none
  | f + 1, a1, a2, a3, a4, a5, a6, a7, a8, a9 => body (fx9 body f) a1 a2 a3 a4 a5 a6 a7 a8 a9
theorem fx9_ind {A1 A2 A3 A4 A5 A6 A7 A8 A9 R : Type} {body : (A1 → A2 → A3 → A4 → A5 → A6 → A7 → A8 → A9 → Option R) → A1 → A2 → A3 → A4 → A5 → A6 → A7 → A8 → A9 → Option R} {Q : A1 → A2 → A3 → A4 → A5 → A6 → A7 → A8 → A9 → R → Prop} (hs : ∀ rec : A1 → A2 → A3 → A4 → A5 → A6 → A7 → A8 → A9 → Option R, (∀ a1 a2 a3 a4 a5 a6 a7 a8 a9 r, rec a1 a2 a3 a4 a5 a6 a7 a8 a9 = some r → Q a1 a2 a3 a4 a5 a6 a7 a8 a9 r) → ∀ a1 a2 a3 a4 a5 a6 a7 a8 a9 r, body rec a1 a2 a3 a4 a5 a6 a7 a8 a9 = some r → Q a1 a2 a3 a4 a5 a6 a7 a8 a9 r) : ∀ f a1 a2 a3 a4 a5 a6 a7 a8 a9 r, fx9 body f a1 a2 a3 a4 a5 a6 a7 a8 a9 = some r → Q a1 a2 a3 a4 a5 a6 a7 a8 a9 r
  | 0, _, _, _, _, _, _, _, _, _, _, h => by cases h
  | f + 1, a1, a2, a3, a4, a5, a6, a7, a8, a9, r, h => hs (fx9 body f) (fx9_ind hs f) a1 a2 a3 a4 a5 a6 a7 a8 a9 r h
def fx10 {A1 A2 A3 A4 A5 A6 A7 A8 A9 A10 R : Type} (body : (A1 → A2 → A3 → A4 → A5 → A6 → A7 → A8 → A9 → A10 → Option R) → A1 → A2 → A3 → A4 → A5 → A6 → A7 → A8 → A9 → A10 → Option R) : Nat → A1 → A2 → A3 → A4 → A5 → A6 → A7 → A8 → A9 → A10 → Option R
  | 0, _, _, _, _, _, _, _, _, _, _ => none
  | f + 1, a1, a2, a3, a4, a5, a6, a7, a8, a9, a10 => body (fx10 body f) a1 a2 a3 a4 a5 a6 a7 a8 a9 a10
theorem fx10_ind {A1 A2 A3 A4 A5 A6 A7 A8 A9 A10 R : Type} {body : (A1 → A2 → A3 → A4 → A5 → A6 → A7 → A8 → A9 → A10 → Option R) → A1 → A2 → A3 → A4 → A5 → A6 → A7 → A8 → A9 → A10 → Option R} {Q : A1 → A2 → A3 → A4 → A5 → A6 → A7 → A8 → A9 → A10 → R → Prop} (hs : ∀ rec : A1 → A2 → A3 → A4 → A5 → A6 → A7 → A8 → A9 → A10 → Option R, (∀ a1 a2 a3 a4 a5 a6 a7 a8 a9 a10 r, rec a1 a2 a3 a4 a5 a6 a7 a8 a9 a10 = some r → Q a1 a2 a3 a4 a5 a6 a7 a8 a9 a10 r) → ∀ a1 a2 a3 a4 a5 a6 a7 a8 a9 a10 r, body rec a1 a2 a3 a4 a5 a6 a7 a8 a9 a10 = some r → Q a1 a2 a3 a4 a5 a6 a7 a8 a9 a10 r) : ∀ f a1 a2 a3 a4 a5 a6 a7 a8 a9 a10 r, fx10 body f a1 a2 a3 a4 a5 a6 a7 a8 a9 a10 = some r → Q a1 a2 a3 a4 a5 a6 a7 a8 a9 a10 r
  | 0, _, _, _, _, _, _, _, _, _, _, _, h => by cases h
  | f + 1, a1, a2, a3, a4, a5, a6, a7, a8, a9, a10, r, h => hs (fx10 body f) (fx10_ind hs f) a1 a2 a3 a4 a5 a6 a7 a8 a9 a10 r h
abbrev Ek (X : Nat × (Nat → Int32)) (d : Nat) (μ : Mt) (pc : Nat) (L : List (Nat × Value)) (st : List Value) (S : St) (r : Option Value) (S' : St) : Prop := Ev X d μ pc L st KS (mk S) r KS (mk S')
section YR
variable {X : Nat × (Nat → Int32)} {d : Nat} {μ : Mt} {pc : Nat} {L L1 : List (Nat × Value)} {st : List Value} {S S1 : St} {r : Option Value} {S' : St} {h idx ci f n : Nat}
theorem y_getI (hd : decode μ.2.1 pc = .ok (.getfield idx, 3)) (hf : fL μ.1.cls idx ci f) (ht : isI (tyT ci f) = true) (ho : KS[h]? = some (0, ci)) (k : Ek X d μ (pc + 3) L (.int (S.1 h f) :: st) S r S') : Ek X d μ pc L (.ref h :: st) S r S' := x_getI hd hf ht ho k
theorem y_getL (hd : decode μ.2.1 pc = .ok (.getfield idx, 3)) (hf : fL μ.1.cls idx ci f) (ht : tyT ci f = .long) (ho : KS[h]? = some (0, ci)) (k : Ek X d μ (pc + 3) L (.long (S.2.1 h f) :: st) S r S') : Ek X d μ pc L (.ref h :: st) S r S' := x_getL hd hf ht ho k
theorem y_getR {a : Nat} (hd : decode μ.2.1 pc = .ok (.getfield idx, 3)) (hf : fL μ.1.cls idx ci f) (ht : isRf (tyT ci f) = true) (ho : KS[h]? = some (0, ci)) (hm : RR S.2.2.1 S.2.2.2 h f = some a) (k : Ek X d μ (pc + 3) L (.ref a :: st) S r S') : Ek X d μ pc L (.ref h :: st) S r S' := x_getR hd hf ht ho hm k
theorem y_putI {x : Int32} (e : S1 = sI S h f x) (hd : decode μ.2.1 pc = .ok (.putfield idx, 3)) (hf : fL μ.1.cls idx ci f) (ht : isI (tyT ci f) = true) (hnf : fin ci f = false) (ho : KS[h]? = some (0, ci)) (hn : narrow (tyT ci f) (.int x) = .int x) (hft : fits (tyT ci f) (.int x) = true) (k : Ek X d μ (pc + 3) L st S1 r S') : Ek X d μ pc L (.int x :: .ref h :: st) S r S' := by
  subst e
  exact x_putI hd hf ht hnf ho hn hft k
theorem y_putL {x : Int64} (e : S1 = sL S h f x) (hd : decode μ.2.1 pc = .ok (.putfield idx, 3)) (hf : fL μ.1.cls idx ci f) (ht : tyT ci f = .long) (hnf : fin ci f = false) (ho : KS[h]? = some (0, ci)) (k : Ek X d μ (pc + 3) L st S1 r S') : Ek X d μ pc L (.long x :: .ref h :: st) S r S' := by
  subst e
  exact x_putL hd hf ht hnf ho k
theorem y_iald {i : Int32} (hd : decode μ.2.1 pc = .ok (.iaload, 1)) (ho : KS[h]? = some (1, n)) (hin : inB i n = true) (k : Ek X d μ (pc + 1) L (.int (S.1 h i.toNatClampNeg) :: st) S r S') : Ek X d μ pc L (.int i :: .ref h :: st) S r S' := x_iald hd ho (inB_in hin) k
theorem y_bald {i : Int32} (hd : decode μ.2.1 pc = .ok (.baload, 1)) (ho : KS[h]? = some (3, n)) (hin : inB i n = true) (k : Ek X d μ (pc + 1) L (.int (S.1 h i.toNatClampNeg) :: st) S r S') : Ek X d μ pc L (.int i :: .ref h :: st) S r S' := x_bald hd ho (inB_in hin) k
theorem y_zald {i : Int32} (hd : decode μ.2.1 pc = .ok (.baload, 1)) (ho : KS[h]? = some (4, n)) (hin : inB i n = true) (k : Ek X d μ (pc + 1) L (.int (S.1 h i.toNatClampNeg) :: st) S r S') : Ek X d μ pc L (.int i :: .ref h :: st) S r S' := x_zald hd ho (inB_in hin) k
theorem y_lald {i : Int32} (hd : decode μ.2.1 pc = .ok (.laload, 1)) (ho : KS[h]? = some (2, n)) (hin : inB i n = true) (k : Ek X d μ (pc + 1) L (.long (S.2.1 h i.toNatClampNeg) :: st) S r S') : Ek X d μ pc L (.int i :: .ref h :: st) S r S' := x_lald hd ho (inB_in hin) k
theorem y_aald {i : Int32} (hd : decode μ.2.1 pc = .ok (.aaload, 1)) (hin : inB i 3 = true) (k : Ek X d μ (pc + 1) L (.ref (36 + 5 * i.toNatClampNeg) :: st) S r S') : Ek X d μ pc L (.int i :: .ref 35 :: st) S r S' := by
  refine x_aald hd kd_35 (inB_in hin) (rr_box (t := S.2.2.1) (dr := S.2.2.2) ?_) k
  simp only [inB, Bool.and_eq_true, decide_eq_true_eq] at hin
  exact hin.2
theorem inB_lt {i : Int32} {n : Nat} (h : inB i n = true) : i.toNatClampNeg < n := by
  simp only [inB, Bool.and_eq_true, decide_eq_true_eq] at h
  exact h.2
theorem y_iast {i x : Int32} (e : S1 = sI S h i.toNatClampNeg x) (hd : decode μ.2.1 pc = .ok (.iastore, 1)) (ho : KS[h]? = some (1, n)) (hin : inB i n = true) (k : Ek X d μ (pc + 1) L st S1 r S') : Ek X d μ pc L (.int x :: .int i :: .ref h :: st) S r S' := by
  subst e
  exact x_iast hd ho (inB_in hin) k
theorem y_bast {i x : Int32} (e : S1 = sI S h i.toNatClampNeg (vp_nar .byte x)) (hd : decode μ.2.1 pc = .ok (.bastore, 1)) (ho : KS[h]? = some (3, n)) (hin : inB i n = true) (k : Ek X d μ (pc + 1) L st S1 r S') : Ek X d μ pc L (.int x :: .int i :: .ref h :: st) S r S' := by
  subst e
  exact x_bast hd ho (inB_in hin) k
theorem y_zast {i x : Int32} (e : S1 = sI S h i.toNatClampNeg (vp_nar .boolean x)) (hd : decode μ.2.1 pc = .ok (.bastore, 1)) (ho : KS[h]? = some (4, n)) (hin : inB i n = true) (k : Ek X d μ (pc + 1) L st S1 r S') : Ek X d μ pc L (.int x :: .int i :: .ref h :: st) S r S' := by
  subst e
  exact x_zast hd ho (inB_in hin) k
theorem y_last {i : Int32} {x : Int64} (e : S1 = sL S h i.toNatClampNeg x) (hd : decode μ.2.1 pc = .ok (.lastore, 1)) (ho : KS[h]? = some (2, n)) (hin : inB i n = true) (k : Ek X d μ (pc + 1) L st S1 r S') : Ek X d μ pc L (.long x :: .int i :: .ref h :: st) S r S' := by
  subst e
  exact x_last hd ho (inB_in hin) k
theorem y_istore_n {k4 : Fin 4} {i : Nat} {x v : Int32} (e : v = x) (hd : decode μ.2.1 pc = .ok (.istore_n k4, 1)) (hi : (k4 : Nat) = i) (hn : i < μ.2.2.1) (hok : lok i L = true) (hL : lput i (.int v) L = L1) (k : Ek X d μ (pc + 1) L1 st S r S') : Ek X d μ pc L (.int x :: st) S r S' := by
  subst e
  exact x_istore_n hd hi hn hok hL k
theorem y_istore {i : Nat} {x v : Int32} (e : v = x) (hd : decode μ.2.1 pc = .ok (.istore i, 2)) (hn : i < μ.2.2.1) (hok : lok i L = true) (hL : lput i (.int v) L = L1) (k : Ek X d μ (pc + 2) L1 st S r S') : Ek X d μ pc L (.int x :: st) S r S' := by
  subst e
  exact x_istore hd hn hok hL k
theorem y_lstore_n {k4 : Fin 4} {i : Nat} {x v : Int64} (e : v = x) (hd : decode μ.2.1 pc = .ok (.lstore_n k4, 1)) (hi : (k4 : Nat) = i) (hn : i + 1 < μ.2.2.1) (hok : lok2 i L = true) (hL : lput i (.long v) L = L1) (k : Ek X d μ (pc + 1) L1 st S r S') : Ek X d μ pc L (.long x :: st) S r S' := by
  subst e
  exact x_lstore_n hd hi hn hok hL k
theorem y_iinc {i : Nat} {z : Int} {x c v : Int32} (e : v = x + c) (hz : Int32.ofInt z = c) (hd : decode μ.2.1 pc = .ok (.iinc i z, 3)) (j : Nat) (hj : L[j]? = some (i, .int x)) (hn : i < μ.2.2.1) (hok : lok i L = true) (hL : lput i (.int v) L = L1) (k : Ek X d μ (pc + 3) L1 st S r S') : Ek X d μ pc L st S r S' := by
  subst e
  subst hz
  exact x_iinc hd j hj rfl hn hok hL k
theorem y_copy {h' n' : Nat} {sp dp z : Int32} (e : S1 = sA S h' (va_cpy (S.1 h) (S.1 h') sp.toNatClampNeg dp.toNatClampNeg z.toNatClampNeg)) (hg : (decide (0 ≤ sp) && decide (0 ≤ dp) && decide (0 ≤ z) && decide (sp.toNatClampNeg + z.toNatClampNeg ≤ n) && decide (dp.toNatClampNeg + z.toNatClampNeg ≤ n')) = true) (hd : decode μ.2.1 pc = .ok (.invokestatic idx, 3)) (hw : Cond.methodLink μ.1.cls idx arraycopyName ∈ GW ∧ Cond.native arraycopyName ∈ GW ∧ Cond.static arraycopyName ∈ GW ∧ Cond.initialized "java/lang/System" ∈ GW) (ho : KS[h]? = some (1, n)) (ho' : KS[h']? = some (1, n')) (hst : (st.map fun v => v.category).sum ≤ 8) (k : Ek X (d + 1) μ (pc + 3) L st S1 r S') : Ek X (d + 1) μ pc L (.int z :: .int dp :: .ref h' :: .int sp :: .ref h :: st) S r S' := by
  subst e
  simp only [Bool.and_eq_true, decide_eq_true_eq] at hg
  obtain ⟨⟨⟨⟨g1, g2⟩, g3⟩, g4⟩, g5⟩ := hg
  exact x_copy hd hw ho ho' (Int32.not_lt.mpr g1) (Int32.not_lt.mpr g2) (Int32.not_lt.mpr g3) g4 g5 hst k
theorem y_pick (is : List Nat) (hL : is.filterMap (fun i => L[i]?) = L1) (k : Ek X d μ pc L1 st S r S') : Ek X d μ pc L st S r S' := by
  refine x_drop (fun q hq => ?_) k
  rw [← hL] at hq
  obtain ⟨i, -, hi⟩ := List.mem_filterMap.mp hq
  exact List.mem_of_getElem? hi
theorem y_V0v {μ' : Mt} (hd : decode μ.2.1 pc = .ok (.invokevirtual idx, 3)) (hm : mLV μ.1.cls idx μ' 0) (ho : KS[h]? = some (0, ci)) (hc : (classes[ci]?).map (fun q => q.1) = some μ'.1.cls) (hst : (st.map fun v => v.category).sum ≤ 8) (hsl : (lg_sl (.ref h :: [])).length ≤ μ'.2.2.1) (hE : Ek X d μ' 0 (lv_args 0 (.ref h :: [])) [] S none S1) (k : Ek X (d + 1) μ (pc + 3) L st S1 r S') : Ek X (d + 1) μ pc L (.ref h :: st) S r S' := x_invV (av := []) hd hm rfl ho hc hst hsl ⟨Nat.le_refl _, Nat.le_refl _⟩ hE k
theorem y_S0v {μ' : Mt} (hd : decode μ.2.1 pc = .ok (.invokestatic idx, 3)) (hm : mLS μ.1.cls idx μ' 0) (hst : (st.map fun v => v.category).sum ≤ 8) (hsl : (lg_sl []).length ≤ μ'.2.2.1) (hE : Ek X d μ' 0 (lv_args 0 []) [] S none S1) (k : Ek X (d + 1) μ (pc + 3) L st S1 r S') : Ek X (d + 1) μ pc L (st) S r S' := x_invS (av := []) hd hm rfl hst hsl ⟨Nat.le_refl _, Nat.le_refl _⟩ hE k
theorem y_V0i {μ' : Mt} {v : Int32} (hd : decode μ.2.1 pc = .ok (.invokevirtual idx, 3)) (hm : mLV μ.1.cls idx μ' 0) (ho : KS[h]? = some (0, ci)) (hc : (classes[ci]?).map (fun q => q.1) = some μ'.1.cls) (hst : (st.map fun v => v.category).sum ≤ 8) (hsl : (lg_sl (.ref h :: [])).length ≤ μ'.2.2.1) (hE : Ek X d μ' 0 (lv_args 0 (.ref h :: [])) [] S (some (.int v)) S1) (k : Ek X (d + 1) μ (pc + 3) L (.int v :: st) S1 r S') : Ek X (d + 1) μ pc L (.ref h :: st) S r S' := x_invV (av := []) hd hm rfl ho hc hst hsl ⟨Nat.le_refl _, Nat.le_refl _⟩ hE k
theorem y_S0i {μ' : Mt} {v : Int32} (hd : decode μ.2.1 pc = .ok (.invokestatic idx, 3)) (hm : mLS μ.1.cls idx μ' 0) (hst : (st.map fun v => v.category).sum ≤ 8) (hsl : (lg_sl []).length ≤ μ'.2.2.1) (hE : Ek X d μ' 0 (lv_args 0 []) [] S (some (.int v)) S1) (k : Ek X (d + 1) μ (pc + 3) L (.int v :: st) S1 r S') : Ek X (d + 1) μ pc L (st) S r S' := x_invS (av := []) hd hm rfl hst hsl ⟨Nat.le_refl _, Nat.le_refl _⟩ hE k
theorem y_V0l {μ' : Mt} {v : Int64} (hd : decode μ.2.1 pc = .ok (.invokevirtual idx, 3)) (hm : mLV μ.1.cls idx μ' 0) (ho : KS[h]? = some (0, ci)) (hc : (classes[ci]?).map (fun q => q.1) = some μ'.1.cls) (hst : (st.map fun v => v.category).sum ≤ 8) (hsl : (lg_sl (.ref h :: [])).length ≤ μ'.2.2.1) (hE : Ek X d μ' 0 (lv_args 0 (.ref h :: [])) [] S (some (.long v)) S1) (k : Ek X (d + 1) μ (pc + 3) L (.long v :: st) S1 r S') : Ek X (d + 1) μ pc L (.ref h :: st) S r S' := x_invV (av := []) hd hm rfl ho hc hst hsl ⟨Nat.le_refl _, Nat.le_refl _⟩ hE k
theorem y_S0l {μ' : Mt} {v : Int64} (hd : decode μ.2.1 pc = .ok (.invokestatic idx, 3)) (hm : mLS μ.1.cls idx μ' 0) (hst : (st.map fun v => v.category).sum ≤ 8) (hsl : (lg_sl []).length ≤ μ'.2.2.1) (hE : Ek X d μ' 0 (lv_args 0 []) [] S (some (.long v)) S1) (k : Ek X (d + 1) μ (pc + 3) L (.long v :: st) S1 r S') : Ek X (d + 1) μ pc L (st) S r S' := x_invS (av := []) hd hm rfl hst hsl ⟨Nat.le_refl _, Nat.le_refl _⟩ hE k
theorem y_V0r {μ' : Mt} {v : Nat} (hd : decode μ.2.1 pc = .ok (.invokevirtual idx, 3)) (hm : mLV μ.1.cls idx μ' 0) (ho : KS[h]? = some (0, ci)) (hc : (classes[ci]?).map (fun q => q.1) = some μ'.1.cls) (hst : (st.map fun v => v.category).sum ≤ 8) (hsl : (lg_sl (.ref h :: [])).length ≤ μ'.2.2.1) (hE : Ek X d μ' 0 (lv_args 0 (.ref h :: [])) [] S (some (.ref v)) S1) (k : Ek X (d + 1) μ (pc + 3) L (.ref v :: st) S1 r S') : Ek X (d + 1) μ pc L (.ref h :: st) S r S' := x_invV (av := []) hd hm rfl ho hc hst hsl ⟨Nat.le_refl _, Nat.le_refl _⟩ hE k
theorem y_S0r {μ' : Mt} {v : Nat} (hd : decode μ.2.1 pc = .ok (.invokestatic idx, 3)) (hm : mLS μ.1.cls idx μ' 0) (hst : (st.map fun v => v.category).sum ≤ 8) (hsl : (lg_sl []).length ≤ μ'.2.2.1) (hE : Ek X d μ' 0 (lv_args 0 []) [] S (some (.ref v)) S1) (k : Ek X (d + 1) μ (pc + 3) L (.ref v :: st) S1 r S') : Ek X (d + 1) μ pc L (st) S r S' := x_invS (av := []) hd hm rfl hst hsl ⟨Nat.le_refl _, Nat.le_refl _⟩ hE k
theorem y_V1v {μ' : Mt} {a1 : Value} (hd : decode μ.2.1 pc = .ok (.invokevirtual idx, 3)) (hm : mLV μ.1.cls idx μ' 1) (ho : KS[h]? = some (0, ci)) (hc : (classes[ci]?).map (fun q => q.1) = some μ'.1.cls) (hst : (st.map fun v => v.category).sum ≤ 8) (hsl : (lg_sl (.ref h :: [a1])).length ≤ μ'.2.2.1) (hE : Ek X d μ' 0 (lv_args 0 (.ref h :: [a1])) [] S none S1) (k : Ek X (d + 1) μ (pc + 3) L st S1 r S') : Ek X (d + 1) μ pc L (a1 :: .ref h :: st) S r S' := x_invV (av := [a1]) hd hm rfl ho hc hst hsl ⟨Nat.le_refl _, Nat.le_refl _⟩ hE k
theorem y_S1v {μ' : Mt} {a1 : Value} (hd : decode μ.2.1 pc = .ok (.invokestatic idx, 3)) (hm : mLS μ.1.cls idx μ' 1) (hst : (st.map fun v => v.category).sum ≤ 8) (hsl : (lg_sl [a1]).length ≤ μ'.2.2.1) (hE : Ek X d μ' 0 (lv_args 0 [a1]) [] S none S1) (k : Ek X (d + 1) μ (pc + 3) L st S1 r S') : Ek X (d + 1) μ pc L (a1 :: st) S r S' := x_invS (av := [a1]) hd hm rfl hst hsl ⟨Nat.le_refl _, Nat.le_refl _⟩ hE k
theorem y_V1i {μ' : Mt} {a1 : Value} {v : Int32} (hd : decode μ.2.1 pc = .ok (.invokevirtual idx, 3)) (hm : mLV μ.1.cls idx μ' 1) (ho : KS[h]? = some (0, ci)) (hc : (classes[ci]?).map (fun q => q.1) = some μ'.1.cls) (hst : (st.map fun v => v.category).sum ≤ 8) (hsl : (lg_sl (.ref h :: [a1])).length ≤ μ'.2.2.1) (hE : Ek X d μ' 0 (lv_args 0 (.ref h :: [a1])) [] S (some (.int v)) S1) (k : Ek X (d + 1) μ (pc + 3) L (.int v :: st) S1 r S') : Ek X (d + 1) μ pc L (a1 :: .ref h :: st) S r S' := x_invV (av := [a1]) hd hm rfl ho hc hst hsl ⟨Nat.le_refl _, Nat.le_refl _⟩ hE k
theorem y_S1i {μ' : Mt} {a1 : Value} {v : Int32} (hd : decode μ.2.1 pc = .ok (.invokestatic idx, 3)) (hm : mLS μ.1.cls idx μ' 1) (hst : (st.map fun v => v.category).sum ≤ 8) (hsl : (lg_sl [a1]).length ≤ μ'.2.2.1) (hE : Ek X d μ' 0 (lv_args 0 [a1]) [] S (some (.int v)) S1) (k : Ek X (d + 1) μ (pc + 3) L (.int v :: st) S1 r S') : Ek X (d + 1) μ pc L (a1 :: st) S r S' := x_invS (av := [a1]) hd hm rfl hst hsl ⟨Nat.le_refl _, Nat.le_refl _⟩ hE k
theorem y_V1l {μ' : Mt} {a1 : Value} {v : Int64} (hd : decode μ.2.1 pc = .ok (.invokevirtual idx, 3)) (hm : mLV μ.1.cls idx μ' 1) (ho : KS[h]? = some (0, ci)) (hc : (classes[ci]?).map (fun q => q.1) = some μ'.1.cls) (hst : (st.map fun v => v.category).sum ≤ 8) (hsl : (lg_sl (.ref h :: [a1])).length ≤ μ'.2.2.1) (hE : Ek X d μ' 0 (lv_args 0 (.ref h :: [a1])) [] S (some (.long v)) S1) (k : Ek X (d + 1) μ (pc + 3) L (.long v :: st) S1 r S') : Ek X (d + 1) μ pc L (a1 :: .ref h :: st) S r S' := x_invV (av := [a1]) hd hm rfl ho hc hst hsl ⟨Nat.le_refl _, Nat.le_refl _⟩ hE k
theorem y_S1l {μ' : Mt} {a1 : Value} {v : Int64} (hd : decode μ.2.1 pc = .ok (.invokestatic idx, 3)) (hm : mLS μ.1.cls idx μ' 1) (hst : (st.map fun v => v.category).sum ≤ 8) (hsl : (lg_sl [a1]).length ≤ μ'.2.2.1) (hE : Ek X d μ' 0 (lv_args 0 [a1]) [] S (some (.long v)) S1) (k : Ek X (d + 1) μ (pc + 3) L (.long v :: st) S1 r S') : Ek X (d + 1) μ pc L (a1 :: st) S r S' := x_invS (av := [a1]) hd hm rfl hst hsl ⟨Nat.le_refl _, Nat.le_refl _⟩ hE k
theorem y_V1r {μ' : Mt} {a1 : Value} {v : Nat} (hd : decode μ.2.1 pc = .ok (.invokevirtual idx, 3)) (hm : mLV μ.1.cls idx μ' 1) (ho : KS[h]? = some (0, ci)) (hc : (classes[ci]?).map (fun q => q.1) = some μ'.1.cls) (hst : (st.map fun v => v.category).sum ≤ 8) (hsl : (lg_sl (.ref h :: [a1])).length ≤ μ'.2.2.1) (hE : Ek X d μ' 0 (lv_args 0 (.ref h :: [a1])) [] S (some (.ref v)) S1) (k : Ek X (d + 1) μ (pc + 3) L (.ref v :: st) S1 r S') : Ek X (d + 1) μ pc L (a1 :: .ref h :: st) S r S' := x_invV (av := [a1]) hd hm rfl ho hc hst hsl ⟨Nat.le_refl _, Nat.le_refl _⟩ hE k
theorem y_S1r {μ' : Mt} {a1 : Value} {v : Nat} (hd : decode μ.2.1 pc = .ok (.invokestatic idx, 3)) (hm : mLS μ.1.cls idx μ' 1) (hst : (st.map fun v => v.category).sum ≤ 8) (hsl : (lg_sl [a1]).length ≤ μ'.2.2.1) (hE : Ek X d μ' 0 (lv_args 0 [a1]) [] S (some (.ref v)) S1) (k : Ek X (d + 1) μ (pc + 3) L (.ref v :: st) S1 r S') : Ek X (d + 1) μ pc L (a1 :: st) S r S' := x_invS (av := [a1]) hd hm rfl hst hsl ⟨Nat.le_refl _, Nat.le_refl _⟩ hE k
theorem y_V2v {μ' : Mt} {a1 a2 : Value} (hd : decode μ.2.1 pc = .ok (.invokevirtual idx, 3)) (hm : mLV μ.1.cls idx μ' 2) (ho : KS[h]? = some (0, ci)) (hc : (classes[ci]?).map (fun q => q.1) = some μ'.1.cls) (hst : (st.map fun v => v.category).sum ≤ 8) (hsl : (lg_sl (.ref h :: [a1, a2])).length ≤ μ'.2.2.1) (hE : Ek X d μ' 0 (lv_args 0 (.ref h :: [a1, a2])) [] S none S1) (k : Ek X (d + 1) μ (pc + 3) L st S1 r S') : Ek X (d + 1) μ pc L (a2 :: a1 :: .ref h :: st) S r S' := x_invV (av := [a1, a2]) hd hm rfl ho hc hst hsl ⟨Nat.le_refl _, Nat.le_refl _⟩ hE k
theorem y_S2v {μ' : Mt} {a1 a2 : Value} (hd : decode μ.2.1 pc = .ok (.invokestatic idx, 3)) (hm : mLS μ.1.cls idx μ' 2) (hst : (st.map fun v => v.category).sum ≤ 8) (hsl : (lg_sl [a1, a2]).length ≤ μ'.2.2.1) (hE : Ek X d μ' 0 (lv_args 0 [a1, a2]) [] S none S1) (k : Ek X (d + 1) μ (pc + 3) L st S1 r S') : Ek X (d + 1) μ pc L (a2 :: a1 :: st) S r S' := x_invS (av := [a1, a2]) hd hm rfl hst hsl ⟨Nat.le_refl _, Nat.le_refl _⟩ hE k
theorem y_V2i {μ' : Mt} {a1 a2 : Value} {v : Int32} (hd : decode μ.2.1 pc = .ok (.invokevirtual idx, 3)) (hm : mLV μ.1.cls idx μ' 2) (ho : KS[h]? = some (0, ci)) (hc : (classes[ci]?).map (fun q => q.1) = some μ'.1.cls) (hst : (st.map fun v => v.category).sum ≤ 8) (hsl : (lg_sl (.ref h :: [a1, a2])).length ≤ μ'.2.2.1) (hE : Ek X d μ' 0 (lv_args 0 (.ref h :: [a1, a2])) [] S (some (.int v)) S1) (k : Ek X (d + 1) μ (pc + 3) L (.int v :: st) S1 r S') : Ek X (d + 1) μ pc L (a2 :: a1 :: .ref h :: st) S r S' := x_invV (av := [a1, a2]) hd hm rfl ho hc hst hsl ⟨Nat.le_refl _, Nat.le_refl _⟩ hE k
theorem y_S2i {μ' : Mt} {a1 a2 : Value} {v : Int32} (hd : decode μ.2.1 pc = .ok (.invokestatic idx, 3)) (hm : mLS μ.1.cls idx μ' 2) (hst : (st.map fun v => v.category).sum ≤ 8) (hsl : (lg_sl [a1, a2]).length ≤ μ'.2.2.1) (hE : Ek X d μ' 0 (lv_args 0 [a1, a2]) [] S (some (.int v)) S1) (k : Ek X (d + 1) μ (pc + 3) L (.int v :: st) S1 r S') : Ek X (d + 1) μ pc L (a2 :: a1 :: st) S r S' := x_invS (av := [a1, a2]) hd hm rfl hst hsl ⟨Nat.le_refl _, Nat.le_refl _⟩ hE k
theorem y_V2l {μ' : Mt} {a1 a2 : Value} {v : Int64} (hd : decode μ.2.1 pc = .ok (.invokevirtual idx, 3)) (hm : mLV μ.1.cls idx μ' 2) (ho : KS[h]? = some (0, ci)) (hc : (classes[ci]?).map (fun q => q.1) = some μ'.1.cls) (hst : (st.map fun v => v.category).sum ≤ 8) (hsl : (lg_sl (.ref h :: [a1, a2])).length ≤ μ'.2.2.1) (hE : Ek X d μ' 0 (lv_args 0 (.ref h :: [a1, a2])) [] S (some (.long v)) S1) (k : Ek X (d + 1) μ (pc + 3) L (.long v :: st) S1 r S') : Ek X (d + 1) μ pc L (a2 :: a1 :: .ref h :: st) S r S' := x_invV (av := [a1, a2]) hd hm rfl ho hc hst hsl ⟨Nat.le_refl _, Nat.le_refl _⟩ hE k
theorem y_S2l {μ' : Mt} {a1 a2 : Value} {v : Int64} (hd : decode μ.2.1 pc = .ok (.invokestatic idx, 3)) (hm : mLS μ.1.cls idx μ' 2) (hst : (st.map fun v => v.category).sum ≤ 8) (hsl : (lg_sl [a1, a2]).length ≤ μ'.2.2.1) (hE : Ek X d μ' 0 (lv_args 0 [a1, a2]) [] S (some (.long v)) S1) (k : Ek X (d + 1) μ (pc + 3) L (.long v :: st) S1 r S') : Ek X (d + 1) μ pc L (a2 :: a1 :: st) S r S' := x_invS (av := [a1, a2]) hd hm rfl hst hsl ⟨Nat.le_refl _, Nat.le_refl _⟩ hE k
theorem y_V2r {μ' : Mt} {a1 a2 : Value} {v : Nat} (hd : decode μ.2.1 pc = .ok (.invokevirtual idx, 3)) (hm : mLV μ.1.cls idx μ' 2) (ho : KS[h]? = some (0, ci)) (hc : (classes[ci]?).map (fun q => q.1) = some μ'.1.cls) (hst : (st.map fun v => v.category).sum ≤ 8) (hsl : (lg_sl (.ref h :: [a1, a2])).length ≤ μ'.2.2.1) (hE : Ek X d μ' 0 (lv_args 0 (.ref h :: [a1, a2])) [] S (some (.ref v)) S1) (k : Ek X (d + 1) μ (pc + 3) L (.ref v :: st) S1 r S') : Ek X (d + 1) μ pc L (a2 :: a1 :: .ref h :: st) S r S' := x_invV (av := [a1, a2]) hd hm rfl ho hc hst hsl ⟨Nat.le_refl _, Nat.le_refl _⟩ hE k
theorem y_S2r {μ' : Mt} {a1 a2 : Value} {v : Nat} (hd : decode μ.2.1 pc = .ok (.invokestatic idx, 3)) (hm : mLS μ.1.cls idx μ' 2) (hst : (st.map fun v => v.category).sum ≤ 8) (hsl : (lg_sl [a1, a2]).length ≤ μ'.2.2.1) (hE : Ek X d μ' 0 (lv_args 0 [a1, a2]) [] S (some (.ref v)) S1) (k : Ek X (d + 1) μ (pc + 3) L (.ref v :: st) S1 r S') : Ek X (d + 1) μ pc L (a2 :: a1 :: st) S r S' := x_invS (av := [a1, a2]) hd hm rfl hst hsl ⟨Nat.le_refl _, Nat.le_refl _⟩ hE k
theorem y_V3v {μ' : Mt} {a1 a2 a3 : Value} (hd : decode μ.2.1 pc = .ok (.invokevirtual idx, 3)) (hm : mLV μ.1.cls idx μ' 3) (ho : KS[h]? = some (0, ci)) (hc : (classes[ci]?).map (fun q => q.1) = some μ'.1.cls) (hst : (st.map fun v => v.category).sum ≤ 8) (hsl : (lg_sl (.ref h :: [a1, a2, a3])).length ≤ μ'.2.2.1) (hE : Ek X d μ' 0 (lv_args 0 (.ref h :: [a1, a2, a3])) [] S none S1) (k : Ek X (d + 1) μ (pc + 3) L st S1 r S') : Ek X (d + 1) μ pc L (a3 :: a2 :: a1 :: .ref h :: st) S r S' := x_invV (av := [a1, a2, a3]) hd hm rfl ho hc hst hsl ⟨Nat.le_refl _, Nat.le_refl _⟩ hE k
theorem y_S3v {μ' : Mt} {a1 a2 a3 : Value} (hd : decode μ.2.1 pc = .ok (.invokestatic idx, 3)) (hm : mLS μ.1.cls idx μ' 3) (hst : (st.map fun v => v.category).sum ≤ 8) (hsl : (lg_sl [a1, a2, a3]).length ≤ μ'.2.2.1) (hE : Ek X d μ' 0 (lv_args 0 [a1, a2, a3]) [] S none S1) (k : Ek X (d + 1) μ (pc + 3) L st S1 r S') : Ek X (d + 1) μ pc L (a3 :: a2 :: a1 :: st) S r S' := x_invS (av := [a1, a2, a3]) hd hm rfl hst hsl ⟨Nat.le_refl _, Nat.le_refl _⟩ hE k
theorem y_V3i {μ' : Mt} {a1 a2 a3 : Value} {v : Int32} (hd : decode μ.2.1 pc = .ok (.invokevirtual idx, 3)) (hm : mLV μ.1.cls idx μ' 3) (ho : KS[h]? = some (0, ci)) (hc : (classes[ci]?).map (fun q => q.1) = some μ'.1.cls) (hst : (st.map fun v => v.category).sum ≤ 8) (hsl : (lg_sl (.ref h :: [a1, a2, a3])).length ≤ μ'.2.2.1) (hE : Ek X d μ' 0 (lv_args 0 (.ref h :: [a1, a2, a3])) [] S (some (.int v)) S1) (k : Ek X (d + 1) μ (pc + 3) L (.int v :: st) S1 r S') : Ek X (d + 1) μ pc L (a3 :: a2 :: a1 :: .ref h :: st) S r S' := x_invV (av := [a1, a2, a3]) hd hm rfl ho hc hst hsl ⟨Nat.le_refl _, Nat.le_refl _⟩ hE k
theorem y_S3i {μ' : Mt} {a1 a2 a3 : Value} {v : Int32} (hd : decode μ.2.1 pc = .ok (.invokestatic idx, 3)) (hm : mLS μ.1.cls idx μ' 3) (hst : (st.map fun v => v.category).sum ≤ 8) (hsl : (lg_sl [a1, a2, a3]).length ≤ μ'.2.2.1) (hE : Ek X d μ' 0 (lv_args 0 [a1, a2, a3]) [] S (some (.int v)) S1) (k : Ek X (d + 1) μ (pc + 3) L (.int v :: st) S1 r S') : Ek X (d + 1) μ pc L (a3 :: a2 :: a1 :: st) S r S' := x_invS (av := [a1, a2, a3]) hd hm rfl hst hsl ⟨Nat.le_refl _, Nat.le_refl _⟩ hE k
theorem y_V3l {μ' : Mt} {a1 a2 a3 : Value} {v : Int64} (hd : decode μ.2.1 pc = .ok (.invokevirtual idx, 3)) (hm : mLV μ.1.cls idx μ' 3) (ho : KS[h]? = some (0, ci)) (hc : (classes[ci]?).map (fun q => q.1) = some μ'.1.cls) (hst : (st.map fun v => v.category).sum ≤ 8) (hsl : (lg_sl (.ref h :: [a1, a2, a3])).length ≤ μ'.2.2.1) (hE : Ek X d μ' 0 (lv_args 0 (.ref h :: [a1, a2, a3])) [] S (some (.long v)) S1) (k : Ek X (d + 1) μ (pc + 3) L (.long v :: st) S1 r S') : Ek X (d + 1) μ pc L (a3 :: a2 :: a1 :: .ref h :: st) S r S' := x_invV (av := [a1, a2, a3]) hd hm rfl ho hc hst hsl ⟨Nat.le_refl _, Nat.le_refl _⟩ hE k
theorem y_S3l {μ' : Mt} {a1 a2 a3 : Value} {v : Int64} (hd : decode μ.2.1 pc = .ok (.invokestatic idx, 3)) (hm : mLS μ.1.cls idx μ' 3) (hst : (st.map fun v => v.category).sum ≤ 8) (hsl : (lg_sl [a1, a2, a3]).length ≤ μ'.2.2.1) (hE : Ek X d μ' 0 (lv_args 0 [a1, a2, a3]) [] S (some (.long v)) S1) (k : Ek X (d + 1) μ (pc + 3) L (.long v :: st) S1 r S') : Ek X (d + 1) μ pc L (a3 :: a2 :: a1 :: st) S r S' := x_invS (av := [a1, a2, a3]) hd hm rfl hst hsl ⟨Nat.le_refl _, Nat.le_refl _⟩ hE k
theorem y_V3r {μ' : Mt} {a1 a2 a3 : Value} {v : Nat} (hd : decode μ.2.1 pc = .ok (.invokevirtual idx, 3)) (hm : mLV μ.1.cls idx μ' 3) (ho : KS[h]? = some (0, ci)) (hc : (classes[ci]?).map (fun q => q.1) = some μ'.1.cls) (hst : (st.map fun v => v.category).sum ≤ 8) (hsl : (lg_sl (.ref h :: [a1, a2, a3])).length ≤ μ'.2.2.1) (hE : Ek X d μ' 0 (lv_args 0 (.ref h :: [a1, a2, a3])) [] S (some (.ref v)) S1) (k : Ek X (d + 1) μ (pc + 3) L (.ref v :: st) S1 r S') : Ek X (d + 1) μ pc L (a3 :: a2 :: a1 :: .ref h :: st) S r S' := x_invV (av := [a1, a2, a3]) hd hm rfl ho hc hst hsl ⟨Nat.le_refl _, Nat.le_refl _⟩ hE k
theorem y_S3r {μ' : Mt} {a1 a2 a3 : Value} {v : Nat} (hd : decode μ.2.1 pc = .ok (.invokestatic idx, 3)) (hm : mLS μ.1.cls idx μ' 3) (hst : (st.map fun v => v.category).sum ≤ 8) (hsl : (lg_sl [a1, a2, a3]).length ≤ μ'.2.2.1) (hE : Ek X d μ' 0 (lv_args 0 [a1, a2, a3]) [] S (some (.ref v)) S1) (k : Ek X (d + 1) μ (pc + 3) L (.ref v :: st) S1 r S') : Ek X (d + 1) μ pc L (a3 :: a2 :: a1 :: st) S r S' := x_invS (av := [a1, a2, a3]) hd hm rfl hst hsl ⟨Nat.le_refl _, Nat.le_refl _⟩ hE k
theorem y_V4v {μ' : Mt} {a1 a2 a3 a4 : Value} (hd : decode μ.2.1 pc = .ok (.invokevirtual idx, 3)) (hm : mLV μ.1.cls idx μ' 4) (ho : KS[h]? = some (0, ci)) (hc : (classes[ci]?).map (fun q => q.1) = some μ'.1.cls) (hst : (st.map fun v => v.category).sum ≤ 8) (hsl : (lg_sl (.ref h :: [a1, a2, a3, a4])).length ≤ μ'.2.2.1) (hE : Ek X d μ' 0 (lv_args 0 (.ref h :: [a1, a2, a3, a4])) [] S none S1) (k : Ek X (d + 1) μ (pc + 3) L st S1 r S') : Ek X (d + 1) μ pc L (a4 :: a3 :: a2 :: a1 :: .ref h :: st) S r S' := x_invV (av := [a1, a2, a3, a4]) hd hm rfl ho hc hst hsl ⟨Nat.le_refl _, Nat.le_refl _⟩ hE k
theorem y_S4v {μ' : Mt} {a1 a2 a3 a4 : Value} (hd : decode μ.2.1 pc = .ok (.invokestatic idx, 3)) (hm : mLS μ.1.cls idx μ' 4) (hst : (st.map fun v => v.category).sum ≤ 8) (hsl : (lg_sl [a1, a2, a3, a4]).length ≤ μ'.2.2.1) (hE : Ek X d μ' 0 (lv_args 0 [a1, a2, a3, a4]) [] S none S1) (k : Ek X (d + 1) μ (pc + 3) L st S1 r S') : Ek X (d + 1) μ pc L (a4 :: a3 :: a2 :: a1 :: st) S r S' := x_invS (av := [a1, a2, a3, a4]) hd hm rfl hst hsl ⟨Nat.le_refl _, Nat.le_refl _⟩ hE k
theorem y_V4i {μ' : Mt} {a1 a2 a3 a4 : Value} {v : Int32} (hd : decode μ.2.1 pc = .ok (.invokevirtual idx, 3)) (hm : mLV μ.1.cls idx μ' 4) (ho : KS[h]? = some (0, ci)) (hc : (classes[ci]?).map (fun q => q.1) = some μ'.1.cls) (hst : (st.map fun v => v.category).sum ≤ 8) (hsl : (lg_sl (.ref h :: [a1, a2, a3, a4])).length ≤ μ'.2.2.1) (hE : Ek X d μ' 0 (lv_args 0 (.ref h :: [a1, a2, a3, a4])) [] S (some (.int v)) S1) (k : Ek X (d + 1) μ (pc + 3) L (.int v :: st) S1 r S') : Ek X (d + 1) μ pc L (a4 :: a3 :: a2 :: a1 :: .ref h :: st) S r S' := x_invV (av := [a1, a2, a3, a4]) hd hm rfl ho hc hst hsl ⟨Nat.le_refl _, Nat.le_refl _⟩ hE k
theorem y_S4i {μ' : Mt} {a1 a2 a3 a4 : Value} {v : Int32} (hd : decode μ.2.1 pc = .ok (.invokestatic idx, 3)) (hm : mLS μ.1.cls idx μ' 4) (hst : (st.map fun v => v.category).sum ≤ 8) (hsl : (lg_sl [a1, a2, a3, a4]).length ≤ μ'.2.2.1) (hE : Ek X d μ' 0 (lv_args 0 [a1, a2, a3, a4]) [] S (some (.int v)) S1) (k : Ek X (d + 1) μ (pc + 3) L (.int v :: st) S1 r S') : Ek X (d + 1) μ pc L (a4 :: a3 :: a2 :: a1 :: st) S r S' := x_invS (av := [a1, a2, a3, a4]) hd hm rfl hst hsl ⟨Nat.le_refl _, Nat.le_refl _⟩ hE k
theorem y_V4l {μ' : Mt} {a1 a2 a3 a4 : Value} {v : Int64} (hd : decode μ.2.1 pc = .ok (.invokevirtual idx, 3)) (hm : mLV μ.1.cls idx μ' 4) (ho : KS[h]? = some (0, ci)) (hc : (classes[ci]?).map (fun q => q.1) = some μ'.1.cls) (hst : (st.map fun v => v.category).sum ≤ 8) (hsl : (lg_sl (.ref h :: [a1, a2, a3, a4])).length ≤ μ'.2.2.1) (hE : Ek X d μ' 0 (lv_args 0 (.ref h :: [a1, a2, a3, a4])) [] S (some (.long v)) S1) (k : Ek X (d + 1) μ (pc + 3) L (.long v :: st) S1 r S') : Ek X (d + 1) μ pc L (a4 :: a3 :: a2 :: a1 :: .ref h :: st) S r S' := x_invV (av := [a1, a2, a3, a4]) hd hm rfl ho hc hst hsl ⟨Nat.le_refl _, Nat.le_refl _⟩ hE k
theorem y_S4l {μ' : Mt} {a1 a2 a3 a4 : Value} {v : Int64} (hd : decode μ.2.1 pc = .ok (.invokestatic idx, 3)) (hm : mLS μ.1.cls idx μ' 4) (hst : (st.map fun v => v.category).sum ≤ 8) (hsl : (lg_sl [a1, a2, a3, a4]).length ≤ μ'.2.2.1) (hE : Ek X d μ' 0 (lv_args 0 [a1, a2, a3, a4]) [] S (some (.long v)) S1) (k : Ek X (d + 1) μ (pc + 3) L (.long v :: st) S1 r S') : Ek X (d + 1) μ pc L (a4 :: a3 :: a2 :: a1 :: st) S r S' := x_invS (av := [a1, a2, a3, a4]) hd hm rfl hst hsl ⟨Nat.le_refl _, Nat.le_refl _⟩ hE k
theorem y_V4r {μ' : Mt} {a1 a2 a3 a4 : Value} {v : Nat} (hd : decode μ.2.1 pc = .ok (.invokevirtual idx, 3)) (hm : mLV μ.1.cls idx μ' 4) (ho : KS[h]? = some (0, ci)) (hc : (classes[ci]?).map (fun q => q.1) = some μ'.1.cls) (hst : (st.map fun v => v.category).sum ≤ 8) (hsl : (lg_sl (.ref h :: [a1, a2, a3, a4])).length ≤ μ'.2.2.1) (hE : Ek X d μ' 0 (lv_args 0 (.ref h :: [a1, a2, a3, a4])) [] S (some (.ref v)) S1) (k : Ek X (d + 1) μ (pc + 3) L (.ref v :: st) S1 r S') : Ek X (d + 1) μ pc L (a4 :: a3 :: a2 :: a1 :: .ref h :: st) S r S' := x_invV (av := [a1, a2, a3, a4]) hd hm rfl ho hc hst hsl ⟨Nat.le_refl _, Nat.le_refl _⟩ hE k
theorem y_S4r {μ' : Mt} {a1 a2 a3 a4 : Value} {v : Nat} (hd : decode μ.2.1 pc = .ok (.invokestatic idx, 3)) (hm : mLS μ.1.cls idx μ' 4) (hst : (st.map fun v => v.category).sum ≤ 8) (hsl : (lg_sl [a1, a2, a3, a4]).length ≤ μ'.2.2.1) (hE : Ek X d μ' 0 (lv_args 0 [a1, a2, a3, a4]) [] S (some (.ref v)) S1) (k : Ek X (d + 1) μ (pc + 3) L (.ref v :: st) S1 r S') : Ek X (d + 1) μ pc L (a4 :: a3 :: a2 :: a1 :: st) S r S' := x_invS (av := [a1, a2, a3, a4]) hd hm rfl hst hsl ⟨Nat.le_refl _, Nat.le_refl _⟩ hE k
theorem y_V5v {μ' : Mt} {a1 a2 a3 a4 a5 : Value} (hd : decode μ.2.1 pc = .ok (.invokevirtual idx, 3)) (hm : mLV μ.1.cls idx μ' 5) (ho : KS[h]? = some (0, ci)) (hc : (classes[ci]?).map (fun q => q.1) = some μ'.1.cls) (hst : (st.map fun v => v.category).sum ≤ 8) (hsl : (lg_sl (.ref h :: [a1, a2, a3, a4, a5])).length ≤ μ'.2.2.1) (hE : Ek X d μ' 0 (lv_args 0 (.ref h :: [a1, a2, a3, a4, a5])) [] S none S1) (k : Ek X (d + 1) μ (pc + 3) L st S1 r S') : Ek X (d + 1) μ pc L (a5 :: a4 :: a3 :: a2 :: a1 :: .ref h :: st) S r S' := x_invV (av := [a1, a2, a3, a4, a5]) hd hm rfl ho hc hst hsl ⟨Nat.le_refl _, Nat.le_refl _⟩ hE k
theorem y_S5v {μ' : Mt} {a1 a2 a3 a4 a5 : Value} (hd : decode μ.2.1 pc = .ok (.invokestatic idx, 3)) (hm : mLS μ.1.cls idx μ' 5) (hst : (st.map fun v => v.category).sum ≤ 8) (hsl : (lg_sl [a1, a2, a3, a4, a5]).length ≤ μ'.2.2.1) (hE : Ek X d μ' 0 (lv_args 0 [a1, a2, a3, a4, a5]) [] S none S1) (k : Ek X (d + 1) μ (pc + 3) L st S1 r S') : Ek X (d + 1) μ pc L (a5 :: a4 :: a3 :: a2 :: a1 :: st) S r S' := x_invS (av := [a1, a2, a3, a4, a5]) hd hm rfl hst hsl ⟨Nat.le_refl _, Nat.le_refl _⟩ hE k
theorem y_V5i {μ' : Mt} {a1 a2 a3 a4 a5 : Value} {v : Int32} (hd : decode μ.2.1 pc = .ok (.invokevirtual idx, 3)) (hm : mLV μ.1.cls idx μ' 5) (ho : KS[h]? = some (0, ci)) (hc : (classes[ci]?).map (fun q => q.1) = some μ'.1.cls) (hst : (st.map fun v => v.category).sum ≤ 8) (hsl : (lg_sl (.ref h :: [a1, a2, a3, a4, a5])).length ≤ μ'.2.2.1) (hE : Ek X d μ' 0 (lv_args 0 (.ref h :: [a1, a2, a3, a4, a5])) [] S (some (.int v)) S1) (k : Ek X (d + 1) μ (pc + 3) L (.int v :: st) S1 r S') : Ek X (d + 1) μ pc L (a5 :: a4 :: a3 :: a2 :: a1 :: .ref h :: st) S r S' := x_invV (av := [a1, a2, a3, a4, a5]) hd hm rfl ho hc hst hsl ⟨Nat.le_refl _, Nat.le_refl _⟩ hE k
theorem y_S5i {μ' : Mt} {a1 a2 a3 a4 a5 : Value} {v : Int32} (hd : decode μ.2.1 pc = .ok (.invokestatic idx, 3)) (hm : mLS μ.1.cls idx μ' 5) (hst : (st.map fun v => v.category).sum ≤ 8) (hsl : (lg_sl [a1, a2, a3, a4, a5]).length ≤ μ'.2.2.1) (hE : Ek X d μ' 0 (lv_args 0 [a1, a2, a3, a4, a5]) [] S (some (.int v)) S1) (k : Ek X (d + 1) μ (pc + 3) L (.int v :: st) S1 r S') : Ek X (d + 1) μ pc L (a5 :: a4 :: a3 :: a2 :: a1 :: st) S r S' := x_invS (av := [a1, a2, a3, a4, a5]) hd hm rfl hst hsl ⟨Nat.le_refl _, Nat.le_refl _⟩ hE k
theorem y_V5l {μ' : Mt} {a1 a2 a3 a4 a5 : Value} {v : Int64} (hd : decode μ.2.1 pc = .ok (.invokevirtual idx, 3)) (hm : mLV μ.1.cls idx μ' 5) (ho : KS[h]? = some (0, ci)) (hc : (classes[ci]?).map (fun q => q.1) = some μ'.1.cls) (hst : (st.map fun v => v.category).sum ≤ 8) (hsl : (lg_sl (.ref h :: [a1, a2, a3, a4, a5])).length ≤ μ'.2.2.1) (hE : Ek X d μ' 0 (lv_args 0 (.ref h :: [a1, a2, a3, a4, a5])) [] S (some (.long v)) S1) (k : Ek X (d + 1) μ (pc + 3) L (.long v :: st) S1 r S') : Ek X (d + 1) μ pc L (a5 :: a4 :: a3 :: a2 :: a1 :: .ref h :: st) S r S' := x_invV (av := [a1, a2, a3, a4, a5]) hd hm rfl ho hc hst hsl ⟨Nat.le_refl _, Nat.le_refl _⟩ hE k
theorem y_S5l {μ' : Mt} {a1 a2 a3 a4 a5 : Value} {v : Int64} (hd : decode μ.2.1 pc = .ok (.invokestatic idx, 3)) (hm : mLS μ.1.cls idx μ' 5) (hst : (st.map fun v => v.category).sum ≤ 8) (hsl : (lg_sl [a1, a2, a3, a4, a5]).length ≤ μ'.2.2.1) (hE : Ek X d μ' 0 (lv_args 0 [a1, a2, a3, a4, a5]) [] S (some (.long v)) S1) (k : Ek X (d + 1) μ (pc + 3) L (.long v :: st) S1 r S') : Ek X (d + 1) μ pc L (a5 :: a4 :: a3 :: a2 :: a1 :: st) S r S' := x_invS (av := [a1, a2, a3, a4, a5]) hd hm rfl hst hsl ⟨Nat.le_refl _, Nat.le_refl _⟩ hE k
theorem y_V5r {μ' : Mt} {a1 a2 a3 a4 a5 : Value} {v : Nat} (hd : decode μ.2.1 pc = .ok (.invokevirtual idx, 3)) (hm : mLV μ.1.cls idx μ' 5) (ho : KS[h]? = some (0, ci)) (hc : (classes[ci]?).map (fun q => q.1) = some μ'.1.cls) (hst : (st.map fun v => v.category).sum ≤ 8) (hsl : (lg_sl (.ref h :: [a1, a2, a3, a4, a5])).length ≤ μ'.2.2.1) (hE : Ek X d μ' 0 (lv_args 0 (.ref h :: [a1, a2, a3, a4, a5])) [] S (some (.ref v)) S1) (k : Ek X (d + 1) μ (pc + 3) L (.ref v :: st) S1 r S') : Ek X (d + 1) μ pc L (a5 :: a4 :: a3 :: a2 :: a1 :: .ref h :: st) S r S' := x_invV (av := [a1, a2, a3, a4, a5]) hd hm rfl ho hc hst hsl ⟨Nat.le_refl _, Nat.le_refl _⟩ hE k
theorem y_S5r {μ' : Mt} {a1 a2 a3 a4 a5 : Value} {v : Nat} (hd : decode μ.2.1 pc = .ok (.invokestatic idx, 3)) (hm : mLS μ.1.cls idx μ' 5) (hst : (st.map fun v => v.category).sum ≤ 8) (hsl : (lg_sl [a1, a2, a3, a4, a5]).length ≤ μ'.2.2.1) (hE : Ek X d μ' 0 (lv_args 0 [a1, a2, a3, a4, a5]) [] S (some (.ref v)) S1) (k : Ek X (d + 1) μ (pc + 3) L (.ref v :: st) S1 r S') : Ek X (d + 1) μ pc L (a5 :: a4 :: a3 :: a2 :: a1 :: st) S r S' := x_invS (av := [a1, a2, a3, a4, a5]) hd hm rfl hst hsl ⟨Nat.le_refl _, Nat.le_refl _⟩ hE k
theorem y_V6v {μ' : Mt} {a1 a2 a3 a4 a5 a6 : Value} (hd : decode μ.2.1 pc = .ok (.invokevirtual idx, 3)) (hm : mLV μ.1.cls idx μ' 6) (ho : KS[h]? = some (0, ci)) (hc : (classes[ci]?).map (fun q => q.1) = some μ'.1.cls) (hst : (st.map fun v => v.category).sum ≤ 8) (hsl : (lg_sl (.ref h :: [a1, a2, a3, a4, a5, a6])).length ≤ μ'.2.2.1) (hE : Ek X d μ' 0 (lv_args 0 (.ref h :: [a1, a2, a3, a4, a5, a6])) [] S none S1) (k : Ek X (d + 1) μ (pc + 3) L st S1 r S') : Ek X (d + 1) μ pc L (a6 :: a5 :: a4 :: a3 :: a2 :: a1 :: .ref h :: st) S r S' := x_invV (av := [a1, a2, a3, a4, a5, a6]) hd hm rfl ho hc hst hsl ⟨Nat.le_refl _, Nat.le_refl _⟩ hE k
theorem y_S6v {μ' : Mt} {a1 a2 a3 a4 a5 a6 : Value} (hd : decode μ.2.1 pc = .ok (.invokestatic idx, 3)) (hm : mLS μ.1.cls idx μ' 6) (hst : (st.map fun v => v.category).sum ≤ 8) (hsl : (lg_sl [a1, a2, a3, a4, a5, a6]).length ≤ μ'.2.2.1) (hE : Ek X d μ' 0 (lv_args 0 [a1, a2, a3, a4, a5, a6]) [] S none S1) (k : Ek X (d + 1) μ (pc + 3) L st S1 r S') : Ek X (d + 1) μ pc L (a6 :: a5 :: a4 :: a3 :: a2 :: a1 :: st) S r S' := x_invS (av := [a1, a2, a3, a4, a5, a6]) hd hm rfl hst hsl ⟨Nat.le_refl _, Nat.le_refl _⟩ hE k
theorem y_V6i {μ' : Mt} {a1 a2 a3 a4 a5 a6 : Value} {v : Int32} (hd : decode μ.2.1 pc = .ok (.invokevirtual idx, 3)) (hm : mLV μ.1.cls idx μ' 6) (ho : KS[h]? = some (0, ci)) (hc : (classes[ci]?).map (fun q => q.1) = some μ'.1.cls) (hst : (st.map fun v => v.category).sum ≤ 8) (hsl : (lg_sl (.ref h :: [a1, a2, a3, a4, a5, a6])).length ≤ μ'.2.2.1) (hE : Ek X d μ' 0 (lv_args 0 (.ref h :: [a1, a2, a3, a4, a5, a6])) [] S (some (.int v)) S1) (k : Ek X (d + 1) μ (pc + 3) L (.int v :: st) S1 r S') : Ek X (d + 1) μ pc L (a6 :: a5 :: a4 :: a3 :: a2 :: a1 :: .ref h :: st) S r S' := x_invV (av := [a1, a2, a3, a4, a5, a6]) hd hm rfl ho hc hst hsl ⟨Nat.le_refl _, Nat.le_refl _⟩ hE k
theorem y_S6i {μ' : Mt} {a1 a2 a3 a4 a5 a6 : Value} {v : Int32} (hd : decode μ.2.1 pc = .ok (.invokestatic idx, 3)) (hm : mLS μ.1.cls idx μ' 6) (hst : (st.map fun v => v.category).sum ≤ 8) (hsl : (lg_sl [a1, a2, a3, a4, a5, a6]).length ≤ μ'.2.2.1) (hE : Ek X d μ' 0 (lv_args 0 [a1, a2, a3, a4, a5, a6]) [] S (some (.int v)) S1) (k : Ek X (d + 1) μ (pc + 3) L (.int v :: st) S1 r S') : Ek X (d + 1) μ pc L (a6 :: a5 :: a4 :: a3 :: a2 :: a1 :: st) S r S' := x_invS (av := [a1, a2, a3, a4, a5, a6]) hd hm rfl hst hsl ⟨Nat.le_refl _, Nat.le_refl _⟩ hE k
theorem y_V6l {μ' : Mt} {a1 a2 a3 a4 a5 a6 : Value} {v : Int64} (hd : decode μ.2.1 pc = .ok (.invokevirtual idx, 3)) (hm : mLV μ.1.cls idx μ' 6) (ho : KS[h]? = some (0, ci)) (hc : (classes[ci]?).map (fun q => q.1) = some μ'.1.cls) (hst : (st.map fun v => v.category).sum ≤ 8) (hsl : (lg_sl (.ref h :: [a1, a2, a3, a4, a5, a6])).length ≤ μ'.2.2.1) (hE : Ek X d μ' 0 (lv_args 0 (.ref h :: [a1, a2, a3, a4, a5, a6])) [] S (some (.long v)) S1) (k : Ek X (d + 1) μ (pc + 3) L (.long v :: st) S1 r S') : Ek X (d + 1) μ pc L (a6 :: a5 :: a4 :: a3 :: a2 :: a1 :: .ref h :: st) S r S' := x_invV (av := [a1, a2, a3, a4, a5, a6]) hd hm rfl ho hc hst hsl ⟨Nat.le_refl _, Nat.le_refl _⟩ hE k
theorem y_S6l {μ' : Mt} {a1 a2 a3 a4 a5 a6 : Value} {v : Int64} (hd : decode μ.2.1 pc = .ok (.invokestatic idx, 3)) (hm : mLS μ.1.cls idx μ' 6) (hst : (st.map fun v => v.category).sum ≤ 8) (hsl : (lg_sl [a1, a2, a3, a4, a5, a6]).length ≤ μ'.2.2.1) (hE : Ek X d μ' 0 (lv_args 0 [a1, a2, a3, a4, a5, a6]) [] S (some (.long v)) S1) (k : Ek X (d + 1) μ (pc + 3) L (.long v :: st) S1 r S') : Ek X (d + 1) μ pc L (a6 :: a5 :: a4 :: a3 :: a2 :: a1 :: st) S r S' := x_invS (av := [a1, a2, a3, a4, a5, a6]) hd hm rfl hst hsl ⟨Nat.le_refl _, Nat.le_refl _⟩ hE k
theorem y_V6r {μ' : Mt} {a1 a2 a3 a4 a5 a6 : Value} {v : Nat} (hd : decode μ.2.1 pc = .ok (.invokevirtual idx, 3)) (hm : mLV μ.1.cls idx μ' 6) (ho : KS[h]? = some (0, ci)) (hc : (classes[ci]?).map (fun q => q.1) = some μ'.1.cls) (hst : (st.map fun v => v.category).sum ≤ 8) (hsl : (lg_sl (.ref h :: [a1, a2, a3, a4, a5, a6])).length ≤ μ'.2.2.1) (hE : Ek X d μ' 0 (lv_args 0 (.ref h :: [a1, a2, a3, a4, a5, a6])) [] S (some (.ref v)) S1) (k : Ek X (d + 1) μ (pc + 3) L (.ref v :: st) S1 r S') : Ek X (d + 1) μ pc L (a6 :: a5 :: a4 :: a3 :: a2 :: a1 :: .ref h :: st) S r S' := x_invV (av := [a1, a2, a3, a4, a5, a6]) hd hm rfl ho hc hst hsl ⟨Nat.le_refl _, Nat.le_refl _⟩ hE k
theorem y_S6r {μ' : Mt} {a1 a2 a3 a4 a5 a6 : Value} {v : Nat} (hd : decode μ.2.1 pc = .ok (.invokestatic idx, 3)) (hm : mLS μ.1.cls idx μ' 6) (hst : (st.map fun v => v.category).sum ≤ 8) (hsl : (lg_sl [a1, a2, a3, a4, a5, a6]).length ≤ μ'.2.2.1) (hE : Ek X d μ' 0 (lv_args 0 [a1, a2, a3, a4, a5, a6]) [] S (some (.ref v)) S1) (k : Ek X (d + 1) μ (pc + 3) L (.ref v :: st) S1 r S') : Ek X (d + 1) μ pc L (a6 :: a5 :: a4 :: a3 :: a2 :: a1 :: st) S r S' := x_invS (av := [a1, a2, a3, a4, a5, a6]) hd hm rfl hst hsl ⟨Nat.le_refl _, Nat.le_refl _⟩ hE k
theorem y_V7v {μ' : Mt} {a1 a2 a3 a4 a5 a6 a7 : Value} (hd : decode μ.2.1 pc = .ok (.invokevirtual idx, 3)) (hm : mLV μ.1.cls idx μ' 7) (ho : KS[h]? = some (0, ci)) (hc : (classes[ci]?).map (fun q => q.1) = some μ'.1.cls) (hst : (st.map fun v => v.category).sum ≤ 8) (hsl : (lg_sl (.ref h :: [a1, a2, a3, a4, a5, a6, a7])).length ≤ μ'.2.2.1) (hE : Ek X d μ' 0 (lv_args 0 (.ref h :: [a1, a2, a3, a4, a5, a6, a7])) [] S none S1) (k : Ek X (d + 1) μ (pc + 3) L st S1 r S') : Ek X (d + 1) μ pc L (a7 :: a6 :: a5 :: a4 :: a3 :: a2 :: a1 :: .ref h :: st) S r S' := x_invV (av := [a1, a2, a3, a4, a5, a6, a7]) hd hm rfl ho hc hst hsl ⟨Nat.le_refl _, Nat.le_refl _⟩ hE k
theorem y_S7v {μ' : Mt} {a1 a2 a3 a4 a5 a6 a7 : Value} (hd : decode μ.2.1 pc = .ok (.invokestatic idx, 3)) (hm : mLS μ.1.cls idx μ' 7) (hst : (st.map fun v => v.category).sum ≤ 8) (hsl : (lg_sl [a1, a2, a3, a4, a5, a6, a7]).length ≤ μ'.2.2.1) (hE : Ek X d μ' 0 (lv_args 0 [a1, a2, a3, a4, a5, a6, a7]) [] S none S1) (k : Ek X (d + 1) μ (pc + 3) L st S1 r S') : Ek X (d + 1) μ pc L (a7 :: a6 :: a5 :: a4 :: a3 :: a2 :: a1 :: st) S r S' := x_invS (av := [a1, a2, a3, a4, a5, a6, a7]) hd hm rfl hst hsl ⟨Nat.le_refl _, Nat.le_refl _⟩ hE k
theorem y_V7i {μ' : Mt} {a1 a2 a3 a4 a5 a6 a7 : Value} {v : Int32} (hd : decode μ.2.1 pc = .ok (.invokevirtual idx, 3)) (hm : mLV μ.1.cls idx μ' 7) (ho : KS[h]? = some (0, ci)) (hc : (classes[ci]?).map (fun q => q.1) = some μ'.1.cls) (hst : (st.map fun v => v.category).sum ≤ 8) (hsl : (lg_sl (.ref h :: [a1, a2, a3, a4, a5, a6, a7])).length ≤ μ'.2.2.1) (hE : Ek X d μ' 0 (lv_args 0 (.ref h :: [a1, a2, a3, a4, a5, a6, a7])) [] S (some (.int v)) S1) (k : Ek X (d + 1) μ (pc + 3) L (.int v :: st) S1 r S') : Ek X (d + 1) μ pc L (a7 :: a6 :: a5 :: a4 :: a3 :: a2 :: a1 :: .ref h :: st) S r S' := x_invV (av := [a1, a2, a3, a4, a5, a6, a7]) hd hm rfl ho hc hst hsl ⟨Nat.le_refl _, Nat.le_refl _⟩ hE k
theorem y_S7i {μ' : Mt} {a1 a2 a3 a4 a5 a6 a7 : Value} {v : Int32} (hd : decode μ.2.1 pc = .ok (.invokestatic idx, 3)) (hm : mLS μ.1.cls idx μ' 7) (hst : (st.map fun v => v.category).sum ≤ 8) (hsl : (lg_sl [a1, a2, a3, a4, a5, a6, a7]).length ≤ μ'.2.2.1) (hE : Ek X d μ' 0 (lv_args 0 [a1, a2, a3, a4, a5, a6, a7]) [] S (some (.int v)) S1) (k : Ek X (d + 1) μ (pc + 3) L (.int v :: st) S1 r S') : Ek X (d + 1) μ pc L (a7 :: a6 :: a5 :: a4 :: a3 :: a2 :: a1 :: st) S r S' := x_invS (av := [a1, a2, a3, a4, a5, a6, a7]) hd hm rfl hst hsl ⟨Nat.le_refl _, Nat.le_refl _⟩ hE k
theorem y_V7l {μ' : Mt} {a1 a2 a3 a4 a5 a6 a7 : Value} {v : Int64} (hd : decode μ.2.1 pc = .ok (.invokevirtual idx, 3)) (hm : mLV μ.1.cls idx μ' 7) (ho : KS[h]? = some (0, ci)) (hc : (classes[ci]?).map (fun q => q.1) = some μ'.1.cls) (hst : (st.map fun v => v.category).sum ≤ 8) (hsl : (lg_sl (.ref h :: [a1, a2, a3, a4, a5, a6, a7])).length ≤ μ'.2.2.1) (hE : Ek X d μ' 0 (lv_args 0 (.ref h :: [a1, a2, a3, a4, a5, a6, a7])) [] S (some (.long v)) S1) (k : Ek X (d + 1) μ (pc + 3) L (.long v :: st) S1 r S') : Ek X (d + 1) μ pc L (a7 :: a6 :: a5 :: a4 :: a3 :: a2 :: a1 :: .ref h :: st) S r S' := x_invV (av := [a1, a2, a3, a4, a5, a6, a7]) hd hm rfl ho hc hst hsl ⟨Nat.le_refl _, Nat.le_refl _⟩ hE k
theorem y_S7l {μ' : Mt} {a1 a2 a3 a4 a5 a6 a7 : Value} {v : Int64} (hd : decode μ.2.1 pc = .ok (.invokestatic idx, 3)) (hm : mLS μ.1.cls idx μ' 7) (hst : (st.map fun v => v.category).sum ≤ 8) (hsl : (lg_sl [a1, a2, a3, a4, a5, a6, a7]).length ≤ μ'.2.2.1) (hE : Ek X d μ' 0 (lv_args 0 [a1, a2, a3, a4, a5, a6, a7]) [] S (some (.long v)) S1) (k : Ek X (d + 1) μ (pc + 3) L (.long v :: st) S1 r S') : Ek X (d + 1) μ pc L (a7 :: a6 :: a5 :: a4 :: a3 :: a2 :: a1 :: st) S r S' := x_invS (av := [a1, a2, a3, a4, a5, a6, a7]) hd hm rfl hst hsl ⟨Nat.le_refl _, Nat.le_refl _⟩ hE k
theorem y_V7r {μ' : Mt} {a1 a2 a3 a4 a5 a6 a7 : Value} {v : Nat} (hd : decode μ.2.1 pc = .ok (.invokevirtual idx, 3)) (hm : mLV μ.1.cls idx μ' 7) (ho : KS[h]? = some (0, ci)) (hc : (classes[ci]?).map (fun q => q.1) = some μ'.1.cls) (hst : (st.map fun v => v.category).sum ≤ 8) (hsl : (lg_sl (.ref h :: [a1, a2, a3, a4, a5, a6, a7])).length ≤ μ'.2.2.1) (hE : Ek X d μ' 0 (lv_args 0 (.ref h :: [a1, a2, a3, a4, a5, a6, a7])) [] S (some (.ref v)) S1) (k : Ek X (d + 1) μ (pc + 3) L (.ref v :: st) S1 r S') : Ek X (d + 1) μ pc L (a7 :: a6 :: a5 :: a4 :: a3 :: a2 :: a1 :: .ref h :: st) S r S' := x_invV (av := [a1, a2, a3, a4, a5, a6, a7]) hd hm rfl ho hc hst hsl ⟨Nat.le_refl _, Nat.le_refl _⟩ hE k
theorem y_S7r {μ' : Mt} {a1 a2 a3 a4 a5 a6 a7 : Value} {v : Nat} (hd : decode μ.2.1 pc = .ok (.invokestatic idx, 3)) (hm : mLS μ.1.cls idx μ' 7) (hst : (st.map fun v => v.category).sum ≤ 8) (hsl : (lg_sl [a1, a2, a3, a4, a5, a6, a7]).length ≤ μ'.2.2.1) (hE : Ek X d μ' 0 (lv_args 0 [a1, a2, a3, a4, a5, a6, a7]) [] S (some (.ref v)) S1) (k : Ek X (d + 1) μ (pc + 3) L (.ref v :: st) S1 r S') : Ek X (d + 1) μ pc L (a7 :: a6 :: a5 :: a4 :: a3 :: a2 :: a1 :: st) S r S' := x_invS (av := [a1, a2, a3, a4, a5, a6, a7]) hd hm rfl hst hsl ⟨Nat.le_refl _, Nat.le_refl _⟩ hE k
theorem y_SN1i {μ' : Mt} {a1 : Value} {v : Int32} {host : String} (hd : decode μ.2.1 pc = .ok (.invokestatic idx, 3)) (hm : yOK μ' 1 ∧ Cond.static μ'.1 ∈ GW) (hnl : Cond.methodLinkNest μ.1.cls idx μ'.1 host ∈ nestL) (hst : (st.map fun v => v.category).sum ≤ 8) (hsl : (lg_sl [a1]).length ≤ μ'.2.2.1) (hE : Ek X d μ' 0 (lv_args 0 [a1]) [] S (some (.int v)) S1) (k : Ek X (d + 1) μ (pc + 3) L (.int v :: st) S1 r S') : Ek X (d + 1) μ pc L (a1 :: st) S r S' := x_invSN (av := [a1]) hd hm hnl rfl hst hsl ⟨Nat.le_refl _, Nat.le_refl _⟩ hE k
theorem y_T0i {μ' : Mt} {i : Nat} {v : Int32} (hd : decode μ.2.1 pc = .ok (.invokevirtual idx, 3)) (hm : mLV μ.1.cls idx μ' 0) (hi : decide (i < 2) = true) (hcl : μ'.1.cls = "java/lang/String") (hst : (st.map fun v => v.category).sum ≤ 8) (hsl : (lg_sl (.ref (1000 + 2 * i) :: [])).length ≤ μ'.2.2.1) (hE : Ek X d μ' 0 (lv_args 0 (.ref (1000 + 2 * i) :: [])) [] S (some (.int v)) S1) (k : Ek X (d + 1) μ (pc + 3) L (.int v :: st) S1 r S') : Ek X (d + 1) μ pc L (.ref (1000 + 2 * i) :: st) S r S' := x_invVS (av := []) hd hm rfl (of_decide_eq_true hi) rfl hcl hst hsl ⟨Nat.le_refl _, Nat.le_refl _⟩ hE k
theorem y_T1i {μ' : Mt} {a1 : Value} {i : Nat} {v : Int32} (hd : decode μ.2.1 pc = .ok (.invokevirtual idx, 3)) (hm : mLV μ.1.cls idx μ' 1) (hi : decide (i < 2) = true) (hcl : μ'.1.cls = "java/lang/String") (hst : (st.map fun v => v.category).sum ≤ 8) (hsl : (lg_sl (.ref (1000 + 2 * i) :: [a1])).length ≤ μ'.2.2.1) (hE : Ek X d μ' 0 (lv_args 0 (.ref (1000 + 2 * i) :: [a1])) [] S (some (.int v)) S1) (k : Ek X (d + 1) μ (pc + 3) L (.int v :: st) S1 r S') : Ek X (d + 1) μ pc L (a1 :: .ref (1000 + 2 * i) :: st) S r S' := x_invVS (av := [a1]) hd hm rfl (of_decide_eq_true hi) rfl hcl hst hsl ⟨Nat.le_refl _, Nat.le_refl _⟩ hE k
theorem y_T2i {μ' : Mt} {a1 a2 : Value} {i : Nat} {v : Int32} (hd : decode μ.2.1 pc = .ok (.invokevirtual idx, 3)) (hm : mLV μ.1.cls idx μ' 2) (hi : decide (i < 2) = true) (hcl : μ'.1.cls = "java/lang/String") (hst : (st.map fun v => v.category).sum ≤ 8) (hsl : (lg_sl (.ref (1000 + 2 * i) :: [a1, a2])).length ≤ μ'.2.2.1) (hE : Ek X d μ' 0 (lv_args 0 (.ref (1000 + 2 * i) :: [a1, a2])) [] S (some (.int v)) S1) (k : Ek X (d + 1) μ (pc + 3) L (.int v :: st) S1 r S') : Ek X (d + 1) μ pc L (a2 :: a1 :: .ref (1000 + 2 * i) :: st) S r S' := x_invVS (av := [a1, a2]) hd hm rfl (of_decide_eq_true hi) rfl hcl hst hsl ⟨Nat.le_refl _, Nat.le_refl _⟩ hE k
theorem RR_T {t dr x : Nat} : (fun j => if j = 0 then va_up (RR t dr 0) 2 (some x) else RR t dr j) = RR x dr := by
  funext h k
  by_cases h0 : h = 0
  · subst h0
    by_cases hk : k = 2
    · subst hk; simp [va_up, RR]
    · simp [va_up, RR, hk]
  · simp [RR, h0]
theorem RR_D {t dr x : Nat} : (fun j => if j = 1 then va_up (RR t dr 1) 3 (some x) else RR t dr j) = RR t x := by
  funext h k
  by_cases h0 : h = 1
  · subst h0
    by_cases hk : k = 3
    · subst hk; simp [va_up, RR]
    · simp [va_up, RR, hk]
  · simp [RR, h0]
theorem y_putT {x : Nat} (e : S1 = sT S x) (hd : decode μ.2.1 pc = .ok (.putfield idx, 3)) (hf : fL μ.1.cls idx 0 2) (k : Ek X d μ (pc + 3) L st S1 r S') : Ek X d μ pc L (.ref x :: .ref 0 :: st) S r S' := by
  subst e
  have k : Ev X d μ (pc + 3) L st KS (setR (mk S) 0 2 (some x)) r KS (mk S') := by
    have e : setR (mk S) 0 2 (some x) = mk (sT S x) := by
      show (S.1, S.2.1, _) = (S.1, S.2.1, RR x S.2.2.2)
      rw [← RR_T (t := S.2.2.1)]
      rfl
    rw [e]; exact k
  exact x_putR hd hf rfl rfl kd_0 k
theorem y_putD {x : Nat} (e : S1 = sD S x) (hd : decode μ.2.1 pc = .ok (.putfield idx, 3)) (hf : fL μ.1.cls idx 1 3) (k : Ek X d μ (pc + 3) L st S1 r S') : Ek X d μ pc L (.ref x :: .ref 1 :: st) S r S' := by
  subst e
  have k : Ev X d μ (pc + 3) L st KS (setR (mk S) 1 3 (some x)) r KS (mk S') := by
    have e : setR (mk S) 1 3 (some x) = mk (sD S x) := by
      show (S.1, S.2.1, _) = (S.1, S.2.1, RR S.2.2.1 x)
      rw [← RR_D (dr := S.2.2.2)]
      rfl
    rw [e]; exact k
  exact x_putR hd hf rfl rfl kd_1 k
end YR
