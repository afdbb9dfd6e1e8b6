/-! THE FRESH STATE by the few cells that aren't 0 -/
def ilk : List (Nat × Nat × Int32) → Nat → Nat → Int32
  | [], _, _ => 0
  | q :: l, h, k => if h = q.1 ∧ k = q.2.1 then q.2.2 else ilk l h k
theorem il_set {M : Mem} {l : List (Nat × Nat × Int32)} {a k : Nat} {x : Int32} (h : M.1 = ilk l) : (setI M a k x).1 = ilk ((a, k, x) :: l) := by
  funext b j
  by_cases hb : b = a
  · subst hb
    by_cases hj : j = k
    · subst hj; simp [setI, upd, ilk]
    · simp [setI, upd, ilk, hj, h]
  · simp [setI, ilk, hb, h]
theorem il_set0 {M : Mem} {l : List (Nat × Nat × Int32)} {a k : Nat} {x : Int32} (h : M.1 = ilk l) (h0 : ilk l a k = 0) (hx : x = 0) : (setI M a k x).1 = ilk l := by
  subst hx
  funext b j
  by_cases hb : b = a
  · subst hb
    by_cases hj : j = k
    · subst hj; simp [setI, upd, h0]
    · simp [setI, upd, hj, h]
  · simp [setI, hb, h]
theorem ilk_out {l : List (Nat × Nat × Int32)} {n : Nat} (h : (l.all fun q => !(q.1 == n)) = true) (k : Nat) : ilk l n k = 0 := by
  induction l with
  | nil => rfl
  | cons q l ih =>
    simp only [List.all_cons, Bool.and_eq_true, Bool.not_eq_true', beq_eq_false_iff_ne] at h
    rw [ilk, if_neg (fun z => h.1 z.1.symm)]
    exact ih (by simpa using h.2)
theorem il_clr {M : Mem} {l : List (Nat × Nat × Int32)} {n : Nat} (h : M.1 = ilk l) (hn : (l.all fun q => !(q.1 == n)) = true) : (clr M n).1 = ilk l := by
  funext b j
  by_cases hb : b = n
  · subst hb; simp [clr, ilk_out hn]
  · simp [clr, hb, h]
theorem ll_clr {M : Mem} {n : Nat} (h : M.2.1 = fun _ _ => 0) : (clr M n).2.1 = fun _ _ => 0 := by
  funext b j
  by_cases hb : b = n
  · simp [clr, hb]
  · simp [clr, hb, h]
def fcells : List (Nat × Nat × Int32) := [(78, 52, 2), (78, 51, 20), (78, 50, 5), (78, 49, 12), (78, 46, 12), (78, 3, -1), (17, 4, 2), (17, 3, 20), (17, 2, 5), (17, 1, 12), (17, 0, 12), (4, 4, 2), (4, 3, 20), (4, 2, 5), (4, 1, 12), (4, 0, 12), (1, 1, -1)]
theorem il_0 : M0.1 = ilk (fcells.drop 17) := rfl
theorem ll_0 : M0.2.1 = fun _ _ => 0 := rfl
theorem il_1 : M1.1 = ilk (fcells.drop 17) := il_clr il_0 (by decide)
theorem ll_1 : M1.2.1 = fun _ _ => 0 := ll_clr ll_0
theorem il_2 : M2.1 = ilk (fcells.drop 17) := il_clr il_1 (by decide)
theorem ll_2 : M2.2.1 = fun _ _ => 0 := ll_clr ll_1
theorem il_3 : M3.1 = ilk (fcells.drop 16) := il_set (l := fcells.drop 17) il_2
theorem ll_3 : M3.2.1 = fun _ _ => 0 := ll_2
theorem il_4 : M4.1 = ilk (fcells.drop 16) := il_clr il_3 (by decide)
theorem ll_4 : M4.2.1 = fun _ _ => 0 := ll_clr ll_3
theorem il_5 : M5.1 = ilk (fcells.drop 16) := il_clr il_4 (by decide)
theorem ll_5 : M5.2.1 = fun _ _ => 0 := ll_clr ll_4
theorem il_6 : M6.1 = ilk (fcells.drop 16) := il_5
theorem ll_6 : M6.2.1 = fun _ _ => 0 := ll_5
theorem il_7 : M7.1 = ilk (fcells.drop 16) := il_6
theorem ll_7 : M7.2.1 = fun _ _ => 0 := ll_6
theorem il_8 : M8.1 = ilk (fcells.drop 16) := il_clr il_7 (by decide)
theorem ll_8 : M8.2.1 = fun _ _ => 0 := ll_clr ll_7
theorem il_9 : M9.1 = ilk (fcells.drop 16) := il_clr il_8 (by decide)
theorem ll_9 : M9.2.1 = fun _ _ => 0 := ll_clr ll_8
theorem il_10 : M10.1 = ilk (fcells.drop 16) := il_9
theorem ll_10 : M10.2.1 = fun _ _ => 0 := ll_9
theorem il_11 : M11.1 = ilk (fcells.drop 16) := il_clr il_10 (by decide)
theorem ll_11 : M11.2.1 = fun _ _ => 0 := ll_clr ll_10
theorem il_12 : M12.1 = ilk (fcells.drop 16) := il_11
theorem ll_12 : M12.2.1 = fun _ _ => 0 := ll_11
theorem il_13 : M13.1 = ilk (fcells.drop 16) := il_clr il_12 (by decide)
theorem ll_13 : M13.2.1 = fun _ _ => 0 := ll_clr ll_12
theorem il_14 : M14.1 = ilk (fcells.drop 16) := il_13
theorem ll_14 : M14.2.1 = fun _ _ => 0 := ll_13
theorem il_15 : M15.1 = ilk (fcells.drop 16) := il_clr il_14 (by decide)
theorem ll_15 : M15.2.1 = fun _ _ => 0 := ll_clr ll_14
theorem il_16 : M16.1 = ilk (fcells.drop 16) := il_15
theorem ll_16 : M16.2.1 = fun _ _ => 0 := ll_15
theorem il_17 : M17.1 = ilk (fcells.drop 16) := il_clr il_16 (by decide)
theorem ll_17 : M17.2.1 = fun _ _ => 0 := ll_clr ll_16
theorem il_18 : M18.1 = ilk (fcells.drop 16) := il_17
theorem ll_18 : M18.2.1 = fun _ _ => 0 := ll_17
theorem il_19 : M19.1 = ilk (fcells.drop 16) := il_clr il_18 (by decide)
theorem ll_19 : M19.2.1 = fun _ _ => 0 := ll_clr ll_18
theorem il_20 : M20.1 = ilk (fcells.drop 16) := il_19
theorem ll_20 : M20.2.1 = fun _ _ => 0 := ll_19
theorem il_21 : M21.1 = ilk (fcells.drop 16) := il_clr il_20 (by decide)
theorem ll_21 : M21.2.1 = fun _ _ => 0 := ll_clr ll_20
theorem il_22 : M22.1 = ilk (fcells.drop 16) := il_21
theorem ll_22 : M22.2.1 = fun _ _ => 0 := ll_21
theorem il_23 : M23.1 = ilk (fcells.drop 16) := il_clr il_22 (by decide)
theorem ll_23 : M23.2.1 = fun _ _ => 0 := ll_clr ll_22
theorem il_24 : M24.1 = ilk (fcells.drop 16) := il_23
theorem ll_24 : M24.2.1 = fun _ _ => 0 := ll_23
theorem il_25 : M25.1 = ilk (fcells.drop 16) := il_clr il_24 (by decide)
theorem ll_25 : M25.2.1 = fun _ _ => 0 := ll_clr ll_24
theorem il_26 : M26.1 = ilk (fcells.drop 16) := il_clr il_25 (by decide)
theorem ll_26 : M26.2.1 = fun _ _ => 0 := ll_clr ll_25
theorem il_27 : M27.1 = ilk (fcells.drop 16) := il_26
theorem ll_27 : M27.2.1 = fun _ _ => 0 := ll_26
theorem il_28 : M28.1 = ilk (fcells.drop 16) := il_clr il_27 (by decide)
theorem ll_28 : M28.2.1 = fun _ _ => 0 := ll_clr ll_27
theorem il_29 : M29.1 = ilk (fcells.drop 16) := il_28
theorem ll_29 : M29.2.1 = fun _ _ => 0 := ll_28
theorem il_30 : M30.1 = ilk (fcells.drop 16) := il_clr il_29 (by decide)
theorem ll_30 : M30.2.1 = fun _ _ => 0 := ll_clr ll_29
theorem il_31 : M31.1 = ilk (fcells.drop 16) := il_30
theorem ll_31 : M31.2.1 = fun _ _ => 0 := ll_30
theorem il_32 : M32.1 = ilk (fcells.drop 16) := il_31
theorem ll_32 : M32.2.1 = fun _ _ => 0 := ll_31
theorem il_33 : M33.1 = ilk (fcells.drop 15) := il_set (l := fcells.drop 16) il_32
theorem ll_33 : M33.2.1 = fun _ _ => 0 := ll_32
theorem il_34 : M34.1 = ilk (fcells.drop 14) := il_set (l := fcells.drop 15) il_33
theorem ll_34 : M34.2.1 = fun _ _ => 0 := ll_33
theorem il_35 : M35.1 = ilk (fcells.drop 13) := il_set (l := fcells.drop 14) il_34
theorem ll_35 : M35.2.1 = fun _ _ => 0 := ll_34
theorem il_36 : M36.1 = ilk (fcells.drop 12) := il_set (l := fcells.drop 13) il_35
theorem ll_36 : M36.2.1 = fun _ _ => 0 := ll_35
theorem il_37 : M37.1 = ilk (fcells.drop 11) := il_set (l := fcells.drop 12) il_36
theorem ll_37 : M37.2.1 = fun _ _ => 0 := ll_36
theorem il_38 : M38.1 = ilk (fcells.drop 11) := il_set0 il_37 (by decide) rfl
theorem ll_38 : M38.2.1 = fun _ _ => 0 := ll_37
theorem il_39 : M39.1 = ilk (fcells.drop 11) := il_set0 il_38 (by decide) rfl
theorem ll_39 : M39.2.1 = fun _ _ => 0 := ll_38
theorem il_40 : M40.1 = ilk (fcells.drop 11) := il_set0 il_39 (by decide) rfl
theorem ll_40 : M40.2.1 = fun _ _ => 0 := ll_39
theorem il_41 : M41.1 = ilk (fcells.drop 11) := il_set0 il_40 (by decide) rfl
theorem ll_41 : M41.2.1 = fun _ _ => 0 := ll_40
theorem il_42 : M42.1 = ilk (fcells.drop 11) := il_41
theorem ll_42 : M42.2.1 = fun _ _ => 0 := ll_41
theorem il_43 : M43.1 = ilk (fcells.drop 11) := il_42
theorem ll_43 : M43.2.1 = fun _ _ => 0 := ll_42
theorem il_44 : M44.1 = ilk (fcells.drop 11) := il_43
theorem ll_44 : M44.2.1 = fun _ _ => 0 := ll_43
theorem il_45 : M45.1 = ilk (fcells.drop 11) := il_clr il_44 (by decide)
theorem ll_45 : M45.2.1 = fun _ _ => 0 := ll_clr ll_44
theorem il_46 : M46.1 = ilk (fcells.drop 11) := il_clr il_45 (by decide)
theorem ll_46 : M46.2.1 = fun _ _ => 0 := ll_clr ll_45
theorem il_47 : M47.1 = ilk (fcells.drop 11) := il_46
theorem ll_47 : M47.2.1 = fun _ _ => 0 := ll_46
theorem il_48 : M48.1 = ilk (fcells.drop 11) := il_clr il_47 (by decide)
theorem ll_48 : M48.2.1 = fun _ _ => 0 := ll_clr ll_47
theorem il_49 : M49.1 = ilk (fcells.drop 11) := il_48
theorem ll_49 : M49.2.1 = fun _ _ => 0 := ll_48
theorem il_50 : M50.1 = ilk (fcells.drop 11) := il_clr il_49 (by decide)
theorem ll_50 : M50.2.1 = fun _ _ => 0 := ll_clr ll_49
theorem il_51 : M51.1 = ilk (fcells.drop 11) := il_50
theorem ll_51 : M51.2.1 = fun _ _ => 0 := ll_50
theorem il_52 : M52.1 = ilk (fcells.drop 11) := il_clr il_51 (by decide)
theorem ll_52 : M52.2.1 = fun _ _ => 0 := ll_clr ll_51
theorem il_53 : M53.1 = ilk (fcells.drop 11) := il_52
theorem ll_53 : M53.2.1 = fun _ _ => 0 := ll_52
theorem il_54 : M54.1 = ilk (fcells.drop 11) := il_clr il_53 (by decide)
theorem ll_54 : M54.2.1 = fun _ _ => 0 := ll_clr ll_53
theorem il_55 : M55.1 = ilk (fcells.drop 11) := il_54
theorem ll_55 : M55.2.1 = fun _ _ => 0 := ll_54
theorem il_56 : M56.1 = ilk (fcells.drop 11) := il_clr il_55 (by decide)
theorem ll_56 : M56.2.1 = fun _ _ => 0 := ll_clr ll_55
theorem il_57 : M57.1 = ilk (fcells.drop 11) := il_56
theorem ll_57 : M57.2.1 = fun _ _ => 0 := ll_56
theorem il_58 : M58.1 = ilk (fcells.drop 11) := il_clr il_57 (by decide)
theorem ll_58 : M58.2.1 = fun _ _ => 0 := ll_clr ll_57
theorem il_59 : M59.1 = ilk (fcells.drop 11) := il_58
theorem ll_59 : M59.2.1 = fun _ _ => 0 := ll_58
theorem il_60 : M60.1 = ilk (fcells.drop 11) := il_clr il_59 (by decide)
theorem ll_60 : M60.2.1 = fun _ _ => 0 := ll_clr ll_59
theorem il_61 : M61.1 = ilk (fcells.drop 11) := il_60
theorem ll_61 : M61.2.1 = fun _ _ => 0 := ll_60
theorem il_62 : M62.1 = ilk (fcells.drop 11) := il_clr il_61 (by decide)
theorem ll_62 : M62.2.1 = fun _ _ => 0 := ll_clr ll_61
theorem il_63 : M63.1 = ilk (fcells.drop 11) := il_clr il_62 (by decide)
theorem ll_63 : M63.2.1 = fun _ _ => 0 := ll_clr ll_62
theorem il_64 : M64.1 = ilk (fcells.drop 11) := il_63
theorem ll_64 : M64.2.1 = fun _ _ => 0 := ll_63
theorem il_65 : M65.1 = ilk (fcells.drop 11) := il_clr il_64 (by decide)
theorem ll_65 : M65.2.1 = fun _ _ => 0 := ll_clr ll_64
theorem il_66 : M66.1 = ilk (fcells.drop 11) := il_65
theorem ll_66 : M66.2.1 = fun _ _ => 0 := ll_65
theorem il_67 : M67.1 = ilk (fcells.drop 11) := il_clr il_66 (by decide)
theorem ll_67 : M67.2.1 = fun _ _ => 0 := ll_clr ll_66
theorem il_68 : M68.1 = ilk (fcells.drop 11) := il_67
theorem ll_68 : M68.2.1 = fun _ _ => 0 := ll_67
theorem il_69 : M69.1 = ilk (fcells.drop 11) := il_68
theorem ll_69 : M69.2.1 = fun _ _ => 0 := ll_68
theorem il_70 : M70.1 = ilk (fcells.drop 10) := il_set (l := fcells.drop 11) il_69
theorem ll_70 : M70.2.1 = fun _ _ => 0 := ll_69
theorem il_71 : M71.1 = ilk (fcells.drop 9) := il_set (l := fcells.drop 10) il_70
theorem ll_71 : M71.2.1 = fun _ _ => 0 := ll_70
theorem il_72 : M72.1 = ilk (fcells.drop 8) := il_set (l := fcells.drop 9) il_71
theorem ll_72 : M72.2.1 = fun _ _ => 0 := ll_71
theorem il_73 : M73.1 = ilk (fcells.drop 7) := il_set (l := fcells.drop 8) il_72
theorem ll_73 : M73.2.1 = fun _ _ => 0 := ll_72
theorem il_74 : M74.1 = ilk (fcells.drop 6) := il_set (l := fcells.drop 7) il_73
theorem ll_74 : M74.2.1 = fun _ _ => 0 := ll_73
theorem il_75 : M75.1 = ilk (fcells.drop 6) := il_set0 il_74 (by decide) rfl
theorem ll_75 : M75.2.1 = fun _ _ => 0 := ll_74
theorem il_76 : M76.1 = ilk (fcells.drop 6) := il_set0 il_75 (by decide) rfl
theorem ll_76 : M76.2.1 = fun _ _ => 0 := ll_75
theorem il_77 : M77.1 = ilk (fcells.drop 6) := il_set0 il_76 (by decide) rfl
theorem ll_77 : M77.2.1 = fun _ _ => 0 := ll_76
theorem il_78 : M78.1 = ilk (fcells.drop 6) := il_set0 il_77 (by decide) rfl
theorem ll_78 : M78.2.1 = fun _ _ => 0 := ll_77
theorem il_79 : M79.1 = ilk (fcells.drop 6) := il_78
theorem ll_79 : M79.2.1 = fun _ _ => 0 := ll_78
theorem il_80 : M80.1 = ilk (fcells.drop 6) := il_clr il_79 (by decide)
theorem ll_80 : M80.2.1 = fun _ _ => 0 := ll_clr ll_79
theorem il_81 : M81.1 = ilk (fcells.drop 6) := il_clr il_80 (by decide)
theorem ll_81 : M81.2.1 = fun _ _ => 0 := ll_clr ll_80
theorem il_82 : M82.1 = ilk (fcells.drop 6) := il_81
theorem ll_82 : M82.2.1 = fun _ _ => 0 := ll_81
theorem il_83 : M83.1 = ilk (fcells.drop 6) := il_clr il_82 (by decide)
theorem ll_83 : M83.2.1 = fun _ _ => 0 := ll_clr ll_82
theorem il_84 : M84.1 = ilk (fcells.drop 6) := il_83
theorem ll_84 : M84.2.1 = fun _ _ => 0 := ll_83
theorem il_85 : M85.1 = ilk (fcells.drop 6) := il_clr il_84 (by decide)
theorem ll_85 : M85.2.1 = fun _ _ => 0 := ll_clr ll_84
theorem il_86 : M86.1 = ilk (fcells.drop 6) := il_85
theorem ll_86 : M86.2.1 = fun _ _ => 0 := ll_85
theorem il_87 : M87.1 = ilk (fcells.drop 6) := il_clr il_86 (by decide)
theorem ll_87 : M87.2.1 = fun _ _ => 0 := ll_clr ll_86
theorem il_88 : M88.1 = ilk (fcells.drop 6) := il_87
theorem ll_88 : M88.2.1 = fun _ _ => 0 := ll_87
theorem il_89 : M89.1 = ilk (fcells.drop 6) := il_88
theorem ll_89 : M89.2.1 = fun _ _ => 0 := ll_88
theorem il_90 : M90.1 = ilk (fcells.drop 6) := il_clr il_89 (by decide)
theorem ll_90 : M90.2.1 = fun _ _ => 0 := ll_clr ll_89
theorem il_91 : M91.1 = ilk (fcells.drop 6) := il_clr il_90 (by decide)
theorem ll_91 : M91.2.1 = fun _ _ => 0 := ll_clr ll_90
theorem il_92 : M92.1 = ilk (fcells.drop 6) := il_clr il_91 (by decide)
theorem ll_92 : M92.2.1 = fun _ _ => 0 := ll_clr ll_91
theorem il_93 : M93.1 = ilk (fcells.drop 6) := il_92
theorem ll_93 : M93.2.1 = fun _ _ => 0 := ll_92
theorem il_94 : M94.1 = ilk (fcells.drop 6) := il_clr il_93 (by decide)
theorem ll_94 : M94.2.1 = fun _ _ => 0 := ll_clr ll_93
theorem il_95 : M95.1 = ilk (fcells.drop 6) := il_94
theorem ll_95 : M95.2.1 = fun _ _ => 0 := ll_94
theorem il_96 : M96.1 = ilk (fcells.drop 6) := il_clr il_95 (by decide)
theorem ll_96 : M96.2.1 = fun _ _ => 0 := ll_clr ll_95
theorem il_97 : M97.1 = ilk (fcells.drop 6) := il_96
theorem ll_97 : M97.2.1 = fun _ _ => 0 := ll_96
theorem il_98 : M98.1 = ilk (fcells.drop 6) := il_clr il_97 (by decide)
theorem ll_98 : M98.2.1 = fun _ _ => 0 := ll_clr ll_97
theorem il_99 : M99.1 = ilk (fcells.drop 6) := il_98
theorem ll_99 : M99.2.1 = fun _ _ => 0 := ll_98
theorem il_100 : M100.1 = ilk (fcells.drop 6) := il_99
theorem ll_100 : M100.2.1 = fun _ _ => 0 := ll_99
theorem il_101 : M101.1 = ilk (fcells.drop 6) := il_clr il_100 (by decide)
theorem ll_101 : M101.2.1 = fun _ _ => 0 := ll_clr ll_100
theorem il_102 : M102.1 = ilk (fcells.drop 6) := il_clr il_101 (by decide)
theorem ll_102 : M102.2.1 = fun _ _ => 0 := ll_clr ll_101
theorem il_103 : M103.1 = ilk (fcells.drop 6) := il_102
theorem ll_103 : M103.2.1 = fun _ _ => 0 := ll_102
theorem il_104 : M104.1 = ilk (fcells.drop 6) := il_clr il_103 (by decide)
theorem ll_104 : M104.2.1 = fun _ _ => 0 := ll_clr ll_103
theorem il_105 : M105.1 = ilk (fcells.drop 6) := il_104
theorem ll_105 : M105.2.1 = fun _ _ => 0 := ll_104
theorem il_106 : M106.1 = ilk (fcells.drop 6) := il_clr il_105 (by decide)
theorem ll_106 : M106.2.1 = fun _ _ => 0 := ll_clr ll_105
theorem il_107 : M107.1 = ilk (fcells.drop 6) := il_106
theorem ll_107 : M107.2.1 = fun _ _ => 0 := ll_106
theorem il_108 : M108.1 = ilk (fcells.drop 6) := il_clr il_107 (by decide)
theorem ll_108 : M108.2.1 = fun _ _ => 0 := ll_clr ll_107
theorem il_109 : M109.1 = ilk (fcells.drop 6) := il_108
theorem ll_109 : M109.2.1 = fun _ _ => 0 := ll_108
theorem il_110 : M110.1 = ilk (fcells.drop 6) := il_109
theorem ll_110 : M110.2.1 = fun _ _ => 0 := ll_109
theorem il_111 : M111.1 = ilk (fcells.drop 6) := il_clr il_110 (by decide)
theorem ll_111 : M111.2.1 = fun _ _ => 0 := ll_clr ll_110
theorem il_112 : M112.1 = ilk (fcells.drop 6) := il_clr il_111 (by decide)
theorem ll_112 : M112.2.1 = fun _ _ => 0 := ll_clr ll_111
theorem il_113 : M113.1 = ilk (fcells.drop 6) := il_112
theorem ll_113 : M113.2.1 = fun _ _ => 0 := ll_112
theorem il_114 : M114.1 = ilk (fcells.drop 6) := il_clr il_113 (by decide)
theorem ll_114 : M114.2.1 = fun _ _ => 0 := ll_clr ll_113
theorem il_115 : M115.1 = ilk (fcells.drop 6) := il_114
theorem ll_115 : M115.2.1 = fun _ _ => 0 := ll_114
theorem il_116 : M116.1 = ilk (fcells.drop 6) := il_clr il_115 (by decide)
theorem ll_116 : M116.2.1 = fun _ _ => 0 := ll_clr ll_115
theorem il_117 : M117.1 = ilk (fcells.drop 6) := il_116
theorem ll_117 : M117.2.1 = fun _ _ => 0 := ll_116
theorem il_118 : M118.1 = ilk (fcells.drop 6) := il_clr il_117 (by decide)
theorem ll_118 : M118.2.1 = fun _ _ => 0 := ll_clr ll_117
theorem il_119 : M119.1 = ilk (fcells.drop 6) := il_118
theorem ll_119 : M119.2.1 = fun _ _ => 0 := ll_118
theorem il_120 : M120.1 = ilk (fcells.drop 6) := il_119
theorem ll_120 : M120.2.1 = fun _ _ => 0 := ll_119
theorem il_121 : M121.1 = ilk (fcells.drop 6) := il_120
theorem ll_121 : M121.2.1 = fun _ _ => 0 := ll_120
theorem il_122 : M122.1 = ilk (fcells.drop 6) := il_clr il_121 (by decide)
theorem ll_122 : M122.2.1 = fun _ _ => 0 := ll_clr ll_121
theorem il_123 : M123.1 = ilk (fcells.drop 6) := il_clr il_122 (by decide)
theorem ll_123 : M123.2.1 = fun _ _ => 0 := ll_clr ll_122
theorem il_124 : M124.1 = ilk (fcells.drop 6) := il_123
theorem ll_124 : M124.2.1 = fun _ _ => 0 := ll_123
theorem il_125 : M125.1 = ilk (fcells.drop 6) := il_clr il_124 (by decide)
theorem ll_125 : M125.2.1 = fun _ _ => 0 := ll_clr ll_124
theorem il_126 : M126.1 = ilk (fcells.drop 6) := il_125
theorem ll_126 : M126.2.1 = fun _ _ => 0 := ll_125
theorem il_127 : M127.1 = ilk (fcells.drop 6) := il_clr il_126 (by decide)
theorem ll_127 : M127.2.1 = fun _ _ => 0 := ll_clr ll_126
theorem il_128 : M128.1 = ilk (fcells.drop 6) := il_127
theorem ll_128 : M128.2.1 = fun _ _ => 0 := ll_127
theorem il_129 : M129.1 = ilk (fcells.drop 6) := il_clr il_128 (by decide)
theorem ll_129 : M129.2.1 = fun _ _ => 0 := ll_clr ll_128
theorem il_130 : M130.1 = ilk (fcells.drop 6) := il_129
theorem ll_130 : M130.2.1 = fun _ _ => 0 := ll_129
theorem il_131 : M131.1 = ilk (fcells.drop 6) := il_130
theorem ll_131 : M131.2.1 = fun _ _ => 0 := ll_130
theorem il_132 : M132.1 = ilk (fcells.drop 6) := il_clr il_131 (by decide)
theorem ll_132 : M132.2.1 = fun _ _ => 0 := ll_clr ll_131
theorem il_133 : M133.1 = ilk (fcells.drop 6) := il_clr il_132 (by decide)
theorem ll_133 : M133.2.1 = fun _ _ => 0 := ll_clr ll_132
theorem il_134 : M134.1 = ilk (fcells.drop 6) := il_clr il_133 (by decide)
theorem ll_134 : M134.2.1 = fun _ _ => 0 := ll_clr ll_133
theorem il_135 : M135.1 = ilk (fcells.drop 6) := il_134
theorem ll_135 : M135.2.1 = fun _ _ => 0 := ll_134
theorem il_136 : M136.1 = ilk (fcells.drop 6) := il_clr il_135 (by decide)
theorem ll_136 : M136.2.1 = fun _ _ => 0 := ll_clr ll_135
theorem il_137 : M137.1 = ilk (fcells.drop 6) := il_136
theorem ll_137 : M137.2.1 = fun _ _ => 0 := ll_136
theorem il_138 : M138.1 = ilk (fcells.drop 6) := il_clr il_137 (by decide)
theorem ll_138 : M138.2.1 = fun _ _ => 0 := ll_clr ll_137
theorem il_139 : M139.1 = ilk (fcells.drop 6) := il_138
theorem ll_139 : M139.2.1 = fun _ _ => 0 := ll_138
theorem il_140 : M140.1 = ilk (fcells.drop 6) := il_clr il_139 (by decide)
theorem ll_140 : M140.2.1 = fun _ _ => 0 := ll_clr ll_139
theorem il_141 : M141.1 = ilk (fcells.drop 6) := il_140
theorem ll_141 : M141.2.1 = fun _ _ => 0 := ll_140
theorem il_142 : M142.1 = ilk (fcells.drop 6) := il_141
theorem ll_142 : M142.2.1 = fun _ _ => 0 := ll_141
theorem il_143 : M143.1 = ilk (fcells.drop 6) := il_clr il_142 (by decide)
theorem ll_143 : M143.2.1 = fun _ _ => 0 := ll_clr ll_142
theorem il_144 : M144.1 = ilk (fcells.drop 6) := il_143
theorem ll_144 : M144.2.1 = fun _ _ => 0 := ll_143
theorem il_145 : M145.1 = ilk (fcells.drop 6) := il_clr il_144 (by decide)
theorem ll_145 : M145.2.1 = fun _ _ => 0 := ll_clr ll_144
theorem il_146 : M146.1 = ilk (fcells.drop 6) := il_145
theorem ll_146 : M146.2.1 = fun _ _ => 0 := ll_145
theorem il_147 : M147.1 = ilk (fcells.drop 6) := il_clr il_146 (by decide)
theorem ll_147 : M147.2.1 = fun _ _ => 0 := ll_clr ll_146
theorem il_148 : M148.1 = ilk (fcells.drop 6) := il_147
theorem ll_148 : M148.2.1 = fun _ _ => 0 := ll_147
theorem il_149 : M149.1 = ilk (fcells.drop 6) := il_clr il_148 (by decide)
theorem ll_149 : M149.2.1 = fun _ _ => 0 := ll_clr ll_148
theorem il_150 : M150.1 = ilk (fcells.drop 6) := il_149
theorem ll_150 : M150.2.1 = fun _ _ => 0 := ll_149
theorem il_151 : M151.1 = ilk (fcells.drop 6) := il_clr il_150 (by decide)
theorem ll_151 : M151.2.1 = fun _ _ => 0 := ll_clr ll_150
theorem il_152 : M152.1 = ilk (fcells.drop 6) := il_151
theorem ll_152 : M152.2.1 = fun _ _ => 0 := ll_151
theorem il_153 : M153.1 = ilk (fcells.drop 6) := il_152
theorem ll_153 : M153.2.1 = fun _ _ => 0 := ll_152
theorem il_154 : M154.1 = ilk (fcells.drop 6) := il_153
theorem ll_154 : M154.2.1 = fun _ _ => 0 := ll_153
theorem il_155 : M155.1 = ilk (fcells.drop 6) := il_154
theorem ll_155 : M155.2.1 = fun _ _ => 0 := ll_154
theorem il_156 : M156.1 = ilk (fcells.drop 6) := il_clr il_155 (by decide)
theorem ll_156 : M156.2.1 = fun _ _ => 0 := ll_clr ll_155
theorem il_157 : M157.1 = ilk (fcells.drop 6) := il_clr il_156 (by decide)
theorem ll_157 : M157.2.1 = fun _ _ => 0 := ll_clr ll_156
theorem il_158 : M158.1 = ilk (fcells.drop 6) := il_157
theorem ll_158 : M158.2.1 = fun _ _ => 0 := ll_157
theorem il_159 : M159.1 = ilk (fcells.drop 6) := il_158
theorem ll_159 : M159.2.1 = fun _ _ => 0 := ll_158
theorem il_160 : M160.1 = ilk (fcells.drop 6) := il_clr il_159 (by decide)
theorem ll_160 : M160.2.1 = fun _ _ => 0 := ll_clr ll_159
theorem il_161 : M161.1 = ilk (fcells.drop 6) := il_clr il_160 (by decide)
theorem ll_161 : M161.2.1 = fun _ _ => 0 := ll_clr ll_160
theorem il_162 : M162.1 = ilk (fcells.drop 6) := il_161
theorem ll_162 : M162.2.1 = fun _ _ => 0 := ll_161
theorem il_163 : M163.1 = ilk (fcells.drop 6) := il_clr il_162 (by decide)
theorem ll_163 : M163.2.1 = fun _ _ => 0 := ll_clr ll_162
theorem il_164 : M164.1 = ilk (fcells.drop 6) := il_163
theorem ll_164 : M164.2.1 = fun _ _ => 0 := ll_163
theorem il_165 : M165.1 = ilk (fcells.drop 6) := il_clr il_164 (by decide)
theorem ll_165 : M165.2.1 = fun _ _ => 0 := ll_clr ll_164
theorem il_166 : M166.1 = ilk (fcells.drop 6) := il_165
theorem ll_166 : M166.2.1 = fun _ _ => 0 := ll_165
theorem il_167 : M167.1 = ilk (fcells.drop 6) := il_clr il_166 (by decide)
theorem ll_167 : M167.2.1 = fun _ _ => 0 := ll_clr ll_166
theorem il_168 : M168.1 = ilk (fcells.drop 6) := il_167
theorem ll_168 : M168.2.1 = fun _ _ => 0 := ll_167
theorem il_169 : M169.1 = ilk (fcells.drop 6) := il_clr il_168 (by decide)
theorem ll_169 : M169.2.1 = fun _ _ => 0 := ll_clr ll_168
theorem il_170 : M170.1 = ilk (fcells.drop 6) := il_169
theorem ll_170 : M170.2.1 = fun _ _ => 0 := ll_169
theorem il_171 : M171.1 = ilk (fcells.drop 6) := il_clr il_170 (by decide)
theorem ll_171 : M171.2.1 = fun _ _ => 0 := ll_clr ll_170
theorem il_172 : M172.1 = ilk (fcells.drop 6) := il_171
theorem ll_172 : M172.2.1 = fun _ _ => 0 := ll_171
theorem il_173 : M173.1 = ilk (fcells.drop 6) := il_clr il_172 (by decide)
theorem ll_173 : M173.2.1 = fun _ _ => 0 := ll_clr ll_172
theorem il_174 : M174.1 = ilk (fcells.drop 6) := il_173
theorem ll_174 : M174.2.1 = fun _ _ => 0 := ll_173
theorem il_175 : M175.1 = ilk (fcells.drop 6) := il_174
theorem ll_175 : M175.2.1 = fun _ _ => 0 := ll_174
theorem il_176 : M176.1 = ilk (fcells.drop 6) := il_clr il_175 (by decide)
theorem ll_176 : M176.2.1 = fun _ _ => 0 := ll_clr ll_175
theorem il_177 : M177.1 = ilk (fcells.drop 6) := il_176
theorem ll_177 : M177.2.1 = fun _ _ => 0 := ll_176
theorem il_178 : M178.1 = ilk (fcells.drop 6) := il_set0 il_177 (by decide) rfl
theorem ll_178 : M178.2.1 = fun _ _ => 0 := ll_177
theorem il_179 : M179.1 = ilk (fcells.drop 6) := il_set0 il_178 (by decide) rfl
theorem ll_179 : M179.2.1 = fun _ _ => 0 := ll_178
theorem il_180 : M180.1 = ilk (fcells.drop 6) := il_set0 il_179 (by decide) (by rw [il_179]; decide)
theorem ll_180 : M180.2.1 = fun _ _ => 0 := ll_179
theorem il_181 : M181.1 = ilk (fcells.drop 6) := il_set0 il_180 (by decide) (by rw [il_180]; decide)
theorem ll_181 : M181.2.1 = fun _ _ => 0 := ll_180
theorem il_182 : M182.1 = ilk (fcells.drop 6) := il_set0 il_181 (by decide) (by rw [il_181]; decide)
theorem ll_182 : M182.2.1 = fun _ _ => 0 := ll_181
theorem il_183 : M183.1 = ilk (fcells.drop 6) := il_set0 il_182 (by decide) rfl
theorem ll_183 : M183.2.1 = fun _ _ => 0 := ll_182
theorem il_184 : M184.1 = ilk (fcells.drop 6) := il_set0 il_183 (by decide) (by rw [il_183]; decide)
theorem ll_184 : M184.2.1 = fun _ _ => 0 := ll_183
theorem il_185 : M185.1 = ilk (fcells.drop 6) := il_set0 il_184 (by decide) (by rw [il_184]; decide)
theorem ll_185 : M185.2.1 = fun _ _ => 0 := ll_184
theorem il_186 : M186.1 = ilk (fcells.drop 6) := il_set0 il_185 (by decide) (by rw [il_185]; decide)
theorem ll_186 : M186.2.1 = fun _ _ => 0 := ll_185
theorem il_187 : M187.1 = ilk (fcells.drop 6) := il_set0 il_186 (by decide) rfl
theorem ll_187 : M187.2.1 = fun _ _ => 0 := ll_186
theorem il_188 : M188.1 = ilk (fcells.drop 6) := il_set0 il_187 (by decide) (by rw [il_187]; decide)
theorem ll_188 : M188.2.1 = fun _ _ => 0 := ll_187
theorem il_189 : M189.1 = ilk (fcells.drop 6) := il_set0 il_188 (by decide) (by rw [il_188]; decide)
theorem ll_189 : M189.2.1 = fun _ _ => 0 := ll_188
theorem il_190 : M190.1 = ilk (fcells.drop 6) := il_set0 il_189 (by decide) (by rw [il_189]; decide)
theorem ll_190 : M190.2.1 = fun _ _ => 0 := ll_189
theorem il_191 : M191.1 = ilk (fcells.drop 6) := il_set0 il_190 (by decide) rfl
theorem ll_191 : M191.2.1 = fun _ _ => 0 := ll_190
theorem il_192 : M192.1 = ilk (fcells.drop 6) := il_set0 il_191 (by decide) (by rw [il_191]; decide)
theorem ll_192 : M192.2.1 = fun _ _ => 0 := ll_191
theorem il_193 : M193.1 = ilk (fcells.drop 6) := il_set0 il_192 (by decide) (by rw [il_192]; decide)
theorem ll_193 : M193.2.1 = fun _ _ => 0 := ll_192
theorem il_194 : M194.1 = ilk (fcells.drop 6) := il_set0 il_193 (by decide) (by rw [il_193]; decide)
theorem ll_194 : M194.2.1 = fun _ _ => 0 := ll_193
theorem il_195 : M195.1 = ilk (fcells.drop 6) := il_set0 il_194 (by decide) rfl
theorem ll_195 : M195.2.1 = fun _ _ => 0 := ll_194
theorem il_196 : M196.1 = ilk (fcells.drop 6) := il_set0 il_195 (by decide) (by rw [il_195]; decide)
theorem ll_196 : M196.2.1 = fun _ _ => 0 := ll_195
theorem il_197 : M197.1 = ilk (fcells.drop 6) := il_set0 il_196 (by decide) (by rw [il_196]; decide)
theorem ll_197 : M197.2.1 = fun _ _ => 0 := ll_196
theorem il_198 : M198.1 = ilk (fcells.drop 6) := il_set0 il_197 (by decide) (by rw [il_197]; decide)
theorem ll_198 : M198.2.1 = fun _ _ => 0 := ll_197
theorem il_199 : M199.1 = ilk (fcells.drop 6) := il_set0 il_198 (by decide) rfl
theorem ll_199 : M199.2.1 = fun _ _ => 0 := ll_198
theorem il_200 : M200.1 = ilk (fcells.drop 6) := il_set0 il_199 (by decide) (by rw [il_199]; decide)
theorem ll_200 : M200.2.1 = fun _ _ => 0 := ll_199
theorem il_201 : M201.1 = ilk (fcells.drop 6) := il_set0 il_200 (by decide) (by rw [il_200]; decide)
theorem ll_201 : M201.2.1 = fun _ _ => 0 := ll_200
theorem il_202 : M202.1 = ilk (fcells.drop 6) := il_set0 il_201 (by decide) (by rw [il_201]; decide)
theorem ll_202 : M202.2.1 = fun _ _ => 0 := ll_201
theorem il_203 : M203.1 = ilk (fcells.drop 6) := il_set0 il_202 (by decide) rfl
theorem ll_203 : M203.2.1 = fun _ _ => 0 := ll_202
theorem il_204 : M204.1 = ilk (fcells.drop 6) := il_set0 il_203 (by decide) (by rw [il_203]; decide)
theorem ll_204 : M204.2.1 = fun _ _ => 0 := ll_203
theorem il_205 : M205.1 = ilk (fcells.drop 6) := il_set0 il_204 (by decide) (by rw [il_204]; decide)
theorem ll_205 : M205.2.1 = fun _ _ => 0 := ll_204
theorem il_206 : M206.1 = ilk (fcells.drop 6) := il_set0 il_205 (by decide) (by rw [il_205]; decide)
theorem ll_206 : M206.2.1 = fun _ _ => 0 := ll_205
theorem il_207 : M207.1 = ilk (fcells.drop 6) := il_set0 il_206 (by decide) rfl
theorem ll_207 : M207.2.1 = fun _ _ => 0 := ll_206
theorem il_208 : M208.1 = ilk (fcells.drop 6) := il_set0 il_207 (by decide) (by rw [il_207]; decide)
theorem ll_208 : M208.2.1 = fun _ _ => 0 := ll_207
theorem il_209 : M209.1 = ilk (fcells.drop 6) := il_set0 il_208 (by decide) (by rw [il_208]; decide)
theorem ll_209 : M209.2.1 = fun _ _ => 0 := ll_208
theorem il_210 : M210.1 = ilk (fcells.drop 6) := il_set0 il_209 (by decide) (by rw [il_209]; decide)
theorem ll_210 : M210.2.1 = fun _ _ => 0 := ll_209
theorem il_211 : M211.1 = ilk (fcells.drop 6) := il_set0 il_210 (by decide) rfl
theorem ll_211 : M211.2.1 = fun _ _ => 0 := ll_210
theorem il_212 : M212.1 = ilk (fcells.drop 6) := il_set0 il_211 (by decide) (by rw [il_211]; decide)
theorem ll_212 : M212.2.1 = fun _ _ => 0 := ll_211
theorem il_213 : M213.1 = ilk (fcells.drop 6) := il_set0 il_212 (by decide) (by rw [il_212]; decide)
theorem ll_213 : M213.2.1 = fun _ _ => 0 := ll_212
theorem il_214 : M214.1 = ilk (fcells.drop 6) := il_set0 il_213 (by decide) (by rw [il_213]; decide)
theorem ll_214 : M214.2.1 = fun _ _ => 0 := ll_213
theorem il_215 : M215.1 = ilk (fcells.drop 6) := il_set0 il_214 (by decide) rfl
theorem ll_215 : M215.2.1 = fun _ _ => 0 := ll_214
theorem il_216 : M216.1 = ilk (fcells.drop 6) := il_set0 il_215 (by decide) (by rw [il_215]; decide)
theorem ll_216 : M216.2.1 = fun _ _ => 0 := ll_215
theorem il_217 : M217.1 = ilk (fcells.drop 6) := il_set0 il_216 (by decide) (by rw [il_216]; decide)
theorem ll_217 : M217.2.1 = fun _ _ => 0 := ll_216
theorem il_218 : M218.1 = ilk (fcells.drop 6) := il_set0 il_217 (by decide) (by rw [il_217]; decide)
theorem ll_218 : M218.2.1 = fun _ _ => 0 := ll_217
theorem il_219 : M219.1 = ilk (fcells.drop 6) := il_clr il_218 (by decide)
theorem ll_219 : M219.2.1 = fun _ _ => 0 := ll_clr ll_218
theorem il_220 : M220.1 = ilk (fcells.drop 6) := il_clr il_219 (by decide)
theorem ll_220 : M220.2.1 = fun _ _ => 0 := ll_clr ll_219
theorem il_221 : M221.1 = ilk (fcells.drop 6) := il_220
theorem ll_221 : M221.2.1 = fun _ _ => 0 := ll_220
theorem il_222 : M222.1 = ilk (fcells.drop 5) := il_set (l := fcells.drop 6) il_221
theorem ll_222 : M222.2.1 = fun _ _ => 0 := ll_221
theorem il_223 : M223.1 = ilk (fcells.drop 5) := il_clr il_222 (by decide)
theorem ll_223 : M223.2.1 = fun _ _ => 0 := ll_clr ll_222
theorem il_224 : M224.1 = ilk (fcells.drop 5) := il_223
theorem ll_224 : M224.2.1 = fun _ _ => 0 := ll_223
theorem il_225 : M225.1 = ilk (fcells.drop 5) := il_clr il_224 (by decide)
theorem ll_225 : M225.2.1 = fun _ _ => 0 := ll_clr ll_224
theorem il_226 : M226.1 = ilk (fcells.drop 5) := il_225
theorem ll_226 : M226.2.1 = fun _ _ => 0 := ll_225
theorem il_227 : M227.1 = ilk (fcells.drop 5) := il_clr il_226 (by decide)
theorem ll_227 : M227.2.1 = fun _ _ => 0 := ll_clr ll_226
theorem il_228 : M228.1 = ilk (fcells.drop 5) := il_227
theorem ll_228 : M228.2.1 = fun _ _ => 0 := ll_227
theorem il_229 : M229.1 = ilk (fcells.drop 5) := il_clr il_228 (by decide)
theorem ll_229 : M229.2.1 = fun _ _ => 0 := ll_clr ll_228
theorem il_230 : M230.1 = ilk (fcells.drop 5) := il_229
theorem ll_230 : M230.2.1 = fun _ _ => 0 := ll_229
theorem il_231 : M231.1 = ilk (fcells.drop 5) := il_clr il_230 (by decide)
theorem ll_231 : M231.2.1 = fun _ _ => 0 := ll_clr ll_230
theorem il_232 : M232.1 = ilk (fcells.drop 5) := il_231
theorem ll_232 : M232.2.1 = fun _ _ => 0 := ll_231
theorem il_233 : M233.1 = ilk (fcells.drop 5) := il_clr il_232 (by decide)
theorem ll_233 : M233.2.1 = fun _ _ => 0 := ll_clr ll_232
theorem il_234 : M234.1 = ilk (fcells.drop 5) := il_233
theorem ll_234 : M234.2.1 = fun _ _ => 0 := ll_233
theorem il_235 : M235.1 = ilk (fcells.drop 5) := il_clr il_234 (by decide)
theorem ll_235 : M235.2.1 = fun _ _ => 0 := ll_clr ll_234
theorem il_236 : M236.1 = ilk (fcells.drop 5) := il_235
theorem ll_236 : M236.2.1 = fun _ _ => 0 := ll_235
theorem il_237 : M237.1 = ilk (fcells.drop 5) := il_clr il_236 (by decide)
theorem ll_237 : M237.2.1 = fun _ _ => 0 := ll_clr ll_236
theorem il_238 : M238.1 = ilk (fcells.drop 5) := il_237
theorem ll_238 : M238.2.1 = fun _ _ => 0 := ll_237
theorem il_239 : M239.1 = ilk (fcells.drop 5) := il_clr il_238 (by decide)
theorem ll_239 : M239.2.1 = fun _ _ => 0 := ll_clr ll_238
theorem il_240 : M240.1 = ilk (fcells.drop 5) := il_239
theorem ll_240 : M240.2.1 = fun _ _ => 0 := ll_239
theorem il_241 : M241.1 = ilk (fcells.drop 5) := il_clr il_240 (by decide)
theorem ll_241 : M241.2.1 = fun _ _ => 0 := ll_clr ll_240
theorem il_242 : M242.1 = ilk (fcells.drop 5) := il_241
theorem ll_242 : M242.2.1 = fun _ _ => 0 := ll_241
theorem il_243 : M243.1 = ilk (fcells.drop 5) := il_clr il_242 (by decide)
theorem ll_243 : M243.2.1 = fun _ _ => 0 := ll_clr ll_242
theorem il_244 : M244.1 = ilk (fcells.drop 5) := il_243
theorem ll_244 : M244.2.1 = fun _ _ => 0 := ll_243
theorem il_245 : M245.1 = ilk (fcells.drop 5) := il_clr il_244 (by decide)
theorem ll_245 : M245.2.1 = fun _ _ => 0 := ll_clr ll_244
theorem il_246 : M246.1 = ilk (fcells.drop 5) := il_245
theorem ll_246 : M246.2.1 = fun _ _ => 0 := ll_245
theorem il_247 : M247.1 = ilk (fcells.drop 5) := il_clr il_246 (by decide)
theorem ll_247 : M247.2.1 = fun _ _ => 0 := ll_clr ll_246
theorem il_248 : M248.1 = ilk (fcells.drop 5) := il_247
theorem ll_248 : M248.2.1 = fun _ _ => 0 := ll_247
theorem il_249 : M249.1 = ilk (fcells.drop 5) := il_clr il_248 (by decide)
theorem ll_249 : M249.2.1 = fun _ _ => 0 := ll_clr ll_248
theorem il_250 : M250.1 = ilk (fcells.drop 5) := il_249
theorem ll_250 : M250.2.1 = fun _ _ => 0 := ll_249
theorem il_251 : M251.1 = ilk (fcells.drop 5) := il_clr il_250 (by decide)
theorem ll_251 : M251.2.1 = fun _ _ => 0 := ll_clr ll_250
theorem il_252 : M252.1 = ilk (fcells.drop 5) := il_251
theorem ll_252 : M252.2.1 = fun _ _ => 0 := ll_251
theorem il_253 : M253.1 = ilk (fcells.drop 5) := il_clr il_252 (by decide)
theorem ll_253 : M253.2.1 = fun _ _ => 0 := ll_clr ll_252
theorem il_254 : M254.1 = ilk (fcells.drop 5) := il_253
theorem ll_254 : M254.2.1 = fun _ _ => 0 := ll_253
theorem il_255 : M255.1 = ilk (fcells.drop 5) := il_clr il_254 (by decide)
theorem ll_255 : M255.2.1 = fun _ _ => 0 := ll_clr ll_254
theorem il_256 : M256.1 = ilk (fcells.drop 5) := il_255
theorem ll_256 : M256.2.1 = fun _ _ => 0 := ll_255
theorem il_257 : M257.1 = ilk (fcells.drop 5) := il_clr il_256 (by decide)
theorem ll_257 : M257.2.1 = fun _ _ => 0 := ll_clr ll_256
theorem il_258 : M258.1 = ilk (fcells.drop 5) := il_257
theorem ll_258 : M258.2.1 = fun _ _ => 0 := ll_257
theorem il_259 : M259.1 = ilk (fcells.drop 5) := il_clr il_258 (by decide)
theorem ll_259 : M259.2.1 = fun _ _ => 0 := ll_clr ll_258
theorem il_260 : M260.1 = ilk (fcells.drop 5) := il_259
theorem ll_260 : M260.2.1 = fun _ _ => 0 := ll_259
theorem il_261 : M261.1 = ilk (fcells.drop 5) := il_clr il_260 (by decide)
theorem ll_261 : M261.2.1 = fun _ _ => 0 := ll_clr ll_260
theorem il_262 : M262.1 = ilk (fcells.drop 5) := il_261
theorem ll_262 : M262.2.1 = fun _ _ => 0 := ll_261
theorem il_263 : M263.1 = ilk (fcells.drop 4) := il_set (l := fcells.drop 5) il_262
theorem ll_263 : M263.2.1 = fun _ _ => 0 := ll_262
theorem il_264 : M264.1 = ilk (fcells.drop 3) := il_set (l := fcells.drop 4) il_263
theorem ll_264 : M264.2.1 = fun _ _ => 0 := ll_263
theorem il_265 : M265.1 = ilk (fcells.drop 2) := il_set (l := fcells.drop 3) il_264
theorem ll_265 : M265.2.1 = fun _ _ => 0 := ll_264
theorem il_266 : M266.1 = ilk (fcells.drop 1) := il_set (l := fcells.drop 2) il_265
theorem ll_266 : M266.2.1 = fun _ _ => 0 := ll_265
theorem il_267 : M267.1 = ilk (fcells.drop 0) := il_set (l := fcells.drop 1) il_266
theorem ll_267 : M267.2.1 = fun _ _ => 0 := ll_266
theorem il_268 : M268.1 = ilk (fcells.drop 0) := il_clr il_267 (by decide)
theorem ll_268 : M268.2.1 = fun _ _ => 0 := ll_clr ll_267
theorem il_269 : M269.1 = ilk (fcells.drop 0) := il_268
theorem ll_269 : M269.2.1 = fun _ _ => 0 := ll_268
theorem il_270 : M270.1 = ilk (fcells.drop 0) := il_clr il_269 (by decide)
theorem ll_270 : M270.2.1 = fun _ _ => 0 := ll_clr ll_269
theorem il_271 : M271.1 = ilk (fcells.drop 0) := il_270
theorem ll_271 : M271.2.1 = fun _ _ => 0 := ll_270
theorem il_272 : M272.1 = ilk (fcells.drop 0) := il_clr il_271 (by decide)
theorem ll_272 : M272.2.1 = fun _ _ => 0 := ll_clr ll_271
theorem il_273 : M273.1 = ilk (fcells.drop 0) := il_272
theorem ll_273 : M273.2.1 = fun _ _ => 0 := ll_272
theorem il_274 : M274.1 = ilk (fcells.drop 0) := il_clr il_273 (by decide)
theorem ll_274 : M274.2.1 = fun _ _ => 0 := ll_clr ll_273
theorem il_275 : M275.1 = ilk (fcells.drop 0) := il_274
theorem ll_275 : M275.2.1 = fun _ _ => 0 := ll_274
theorem il_276 : M276.1 = ilk (fcells.drop 0) := il_clr il_275 (by decide)
theorem ll_276 : M276.2.1 = fun _ _ => 0 := ll_clr ll_275
theorem il_277 : M277.1 = ilk (fcells.drop 0) := il_276
theorem ll_277 : M277.2.1 = fun _ _ => 0 := ll_276
theorem il_278 : M278.1 = ilk (fcells.drop 0) := il_clr il_277 (by decide)
theorem ll_278 : M278.2.1 = fun _ _ => 0 := ll_clr ll_277
theorem il_279 : M279.1 = ilk (fcells.drop 0) := il_278
theorem ll_279 : M279.2.1 = fun _ _ => 0 := ll_278
theorem il_280 : M280.1 = ilk (fcells.drop 0) := il_clr il_279 (by decide)
theorem ll_280 : M280.2.1 = fun _ _ => 0 := ll_clr ll_279
theorem il_281 : M281.1 = ilk (fcells.drop 0) := il_280
theorem ll_281 : M281.2.1 = fun _ _ => 0 := ll_280
theorem il_282 : M282.1 = ilk (fcells.drop 0) := il_clr il_281 (by decide)
theorem ll_282 : M282.2.1 = fun _ _ => 0 := ll_clr ll_281
theorem il_283 : M283.1 = ilk (fcells.drop 0) := il_282
theorem ll_283 : M283.2.1 = fun _ _ => 0 := ll_282
theorem il_284 : M284.1 = ilk (fcells.drop 0) := il_clr il_283 (by decide)
theorem ll_284 : M284.2.1 = fun _ _ => 0 := ll_clr ll_283
theorem il_285 : M285.1 = ilk (fcells.drop 0) := il_284
theorem ll_285 : M285.2.1 = fun _ _ => 0 := ll_284
theorem il_286 : M286.1 = ilk (fcells.drop 0) := il_clr il_285 (by decide)
theorem ll_286 : M286.2.1 = fun _ _ => 0 := ll_clr ll_285
theorem il_287 : M287.1 = ilk (fcells.drop 0) := il_286
theorem ll_287 : M287.2.1 = fun _ _ => 0 := ll_286
theorem il_288 : M288.1 = ilk (fcells.drop 0) := il_clr il_287 (by decide)
theorem ll_288 : M288.2.1 = fun _ _ => 0 := ll_clr ll_287
theorem il_289 : M289.1 = ilk (fcells.drop 0) := il_288
theorem ll_289 : M289.2.1 = fun _ _ => 0 := ll_288
theorem il_290 : M290.1 = ilk (fcells.drop 0) := il_clr il_289 (by decide)
theorem ll_290 : M290.2.1 = fun _ _ => 0 := ll_clr ll_289
theorem il_291 : M291.1 = ilk (fcells.drop 0) := il_290
theorem ll_291 : M291.2.1 = fun _ _ => 0 := ll_290
theorem il_292 : M292.1 = ilk (fcells.drop 0) := il_clr il_291 (by decide)
theorem ll_292 : M292.2.1 = fun _ _ => 0 := ll_clr ll_291
theorem il_293 : M293.1 = ilk (fcells.drop 0) := il_292
theorem ll_293 : M293.2.1 = fun _ _ => 0 := ll_292
theorem il_294 : M294.1 = ilk (fcells.drop 0) := il_clr il_293 (by decide)
theorem ll_294 : M294.2.1 = fun _ _ => 0 := ll_clr ll_293
theorem il_295 : M295.1 = ilk (fcells.drop 0) := il_294
theorem ll_295 : M295.2.1 = fun _ _ => 0 := ll_294
theorem il_296 : M296.1 = ilk (fcells.drop 0) := il_clr il_295 (by decide)
theorem ll_296 : M296.2.1 = fun _ _ => 0 := ll_clr ll_295
theorem il_297 : M297.1 = ilk (fcells.drop 0) := il_296
theorem ll_297 : M297.2.1 = fun _ _ => 0 := ll_296
theorem il_298 : M298.1 = ilk (fcells.drop 0) := il_clr il_297 (by decide)
theorem ll_298 : M298.2.1 = fun _ _ => 0 := ll_clr ll_297
theorem il_299 : M299.1 = ilk (fcells.drop 0) := il_298
theorem ll_299 : M299.2.1 = fun _ _ => 0 := ll_298
theorem il_300 : M300.1 = ilk (fcells.drop 0) := il_clr il_299 (by decide)
theorem ll_300 : M300.2.1 = fun _ _ => 0 := ll_clr ll_299
theorem il_301 : M301.1 = ilk (fcells.drop 0) := il_300
theorem ll_301 : M301.2.1 = fun _ _ => 0 := ll_300
def SI : St := (ilk fcells, fun _ _ => 0, 17, 4)
theorem S0_SI : S0 = SI := by
  show (M301.1, M301.2.1, 17, 4) = (ilk fcells, (fun _ _ => 0), 17, 4)
  rw [il_301, ll_301]
  rfl
