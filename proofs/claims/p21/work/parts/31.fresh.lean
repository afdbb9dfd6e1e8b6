/-! THE FRESH STATE by the few cells that aren't 0 -/
def ilk : List (Nat × Nat × Int32) → Nat → Nat → Int32
  | [], _, _ => 0
  | q :: l, h, k => if h = q.1 ∧ k = q.2.1 then q.2.2 else ilk l h k
theorem fi_set {M : Mem} {l : List (Nat × Nat × Int32)} {a k : Nat} {x : Int32} (h : M.1 = ilk l) : (setI M a k x).1 = ilk ((a, k, x) :: l) := by
  funext b j
  by_cases hb : b = a
  · subst hb
    by_cases hj : j = k
    · subst hj; simp [setI, upd, ilk]
    · simp [setI, upd, ilk, hj, h]
  · simp [setI, ilk, hb, h]
theorem fi_set0 {M : Mem} {l : List (Nat × Nat × Int32)} {a k : Nat} {x : Int32} (h : M.1 = ilk l) (h0 : ilk l a k = 0) (hx : x = 0) : (setI M a k x).1 = ilk l := by
  subst hx
  funext b j
  by_cases hb : b = a
  · subst hb
    by_cases hj : j = k
    · subst hj; simp [setI, upd, h0]
    · simp [setI, upd, hj, h]
  · simp [setI, hb, h]
theorem ilk_out {l : List (Nat × Nat × Int32)} {n : Nat} (h : (l.all fun q => !(q.1 == n)) = true) (k : Nat) : ilk l n k = 0 := by
  induction l with
  | nil => rfl
  | cons q l ih =>
    simp only [List.all_cons, Bool.and_eq_true, Bool.not_eq_true', beq_eq_false_iff_ne] at h
    rw [ilk, if_neg (fun z => h.1 z.1.symm)]
    exact ih (by simpa using h.2)
theorem fi_clr {M : Mem} {l : List (Nat × Nat × Int32)} {n : Nat} (h : M.1 = ilk l) (hn : (l.all fun q => !(q.1 == n)) = true) : (clr M n).1 = ilk l := by
  funext b j
  by_cases hb : b = n
  · subst hb; simp [clr, ilk_out hn]
  · simp [clr, hb, h]
theorem fz_clr {M : Mem} {n : Nat} (h : M.2.1 = fun _ _ => 0) : (clr M n).2.1 = fun _ _ => 0 := by
  funext b j
  by_cases hb : b = n
  · simp [clr, hb]
  · simp [clr, hb, h]
theorem fi_R {M : Mem} {l : List (Nat × Nat × Int32)} {a k : Nat} {x : Option Nat} (h : M.1 = ilk l) : (setR M a k x).1 = ilk l := h
theorem fz_R {M : Mem} {a k : Nat} {x : Option Nat} (h : M.2.1 = fun _ _ => 0) : (setR M a k x).2.1 = fun _ _ => 0 := h
theorem fz_I {M : Mem} {a k : Nat} {x : Int32} (h : M.2.1 = fun _ _ => 0) : (setI M a k x).2.1 = fun _ _ => 0 := h
def fcells : List (Nat × Nat × Int32) := [(78, 52, 2), (78, 51, 20), (78, 50, 5), (78, 49, 12), (78, 46, 12), (78, 3, -1), (17, 4, 2), (17, 3, 20), (17, 2, 5), (17, 1, 12), (17, 0, 12), (4, 4, 2), (4, 3, 20), (4, 2, 5), (4, 1, 12), (4, 0, 12), (1, 1, -1)]
theorem fi_0 : M0.1 = ilk (fcells.drop 17) := rfl
theorem fz_0 : M0.2.1 = fun _ _ => 0 := rfl
theorem fi_1 : M1.1 = ilk (fcells.drop 17) := fi_clr (M := M0) fi_0 (by decide)
theorem fz_1 : M1.2.1 = fun _ _ => 0 := fz_clr (M := M0) fz_0
theorem fi_2 : M2.1 = ilk (fcells.drop 17) := fi_clr (M := M1) fi_1 (by decide)
theorem fz_2 : M2.2.1 = fun _ _ => 0 := fz_clr (M := M1) fz_1
theorem fi_3 : M3.1 = ilk (fcells.drop 16) := fi_set (M := M2) (l := fcells.drop 17) fi_2
theorem fz_3 : M3.2.1 = fun _ _ => 0 := fz_I (M := M2) fz_2
theorem fi_4 : M4.1 = ilk (fcells.drop 16) := fi_clr (M := M3) fi_3 (by decide)
theorem fz_4 : M4.2.1 = fun _ _ => 0 := fz_clr (M := M3) fz_3
theorem fi_5 : M5.1 = ilk (fcells.drop 16) := fi_clr (M := M4) fi_4 (by decide)
theorem fz_5 : M5.2.1 = fun _ _ => 0 := fz_clr (M := M4) fz_4
theorem fi_6 : M6.1 = ilk (fcells.drop 16) := fi_R (M := M5) fi_5
theorem fz_6 : M6.2.1 = fun _ _ => 0 := fz_R (M := M5) fz_5
theorem fi_7 : M7.1 = ilk (fcells.drop 16) := fi_R (M := M6) fi_6
theorem fz_7 : M7.2.1 = fun _ _ => 0 := fz_R (M := M6) fz_6
theorem fi_8 : M8.1 = ilk (fcells.drop 16) := fi_clr (M := M7) fi_7 (by decide)
theorem fz_8 : M8.2.1 = fun _ _ => 0 := fz_clr (M := M7) fz_7
theorem fi_9 : M9.1 = ilk (fcells.drop 16) := fi_clr (M := M8) fi_8 (by decide)
theorem fz_9 : M9.2.1 = fun _ _ => 0 := fz_clr (M := M8) fz_8
theorem fi_10 : M10.1 = ilk (fcells.drop 16) := fi_R (M := M9) fi_9
theorem fz_10 : M10.2.1 = fun _ _ => 0 := fz_R (M := M9) fz_9
theorem fi_11 : M11.1 = ilk (fcells.drop 16) := fi_clr (M := M10) fi_10 (by decide)
theorem fz_11 : M11.2.1 = fun _ _ => 0 := fz_clr (M := M10) fz_10
theorem fi_12 : M12.1 = ilk (fcells.drop 16) := fi_R (M := M11) fi_11
theorem fz_12 : M12.2.1 = fun _ _ => 0 := fz_R (M := M11) fz_11
theorem fi_13 : M13.1 = ilk (fcells.drop 16) := fi_clr (M := M12) fi_12 (by decide)
theorem fz_13 : M13.2.1 = fun _ _ => 0 := fz_clr (M := M12) fz_12
theorem fi_14 : M14.1 = ilk (fcells.drop 16) := fi_R (M := M13) fi_13
theorem fz_14 : M14.2.1 = fun _ _ => 0 := fz_R (M := M13) fz_13
theorem fi_15 : M15.1 = ilk (fcells.drop 16) := fi_clr (M := M14) fi_14 (by decide)
theorem fz_15 : M15.2.1 = fun _ _ => 0 := fz_clr (M := M14) fz_14
theorem fi_16 : M16.1 = ilk (fcells.drop 16) := fi_R (M := M15) fi_15
theorem fz_16 : M16.2.1 = fun _ _ => 0 := fz_R (M := M15) fz_15
theorem fi_17 : M17.1 = ilk (fcells.drop 16) := fi_clr (M := M16) fi_16 (by decide)
theorem fz_17 : M17.2.1 = fun _ _ => 0 := fz_clr (M := M16) fz_16
theorem fi_18 : M18.1 = ilk (fcells.drop 16) := fi_R (M := M17) fi_17
theorem fz_18 : M18.2.1 = fun _ _ => 0 := fz_R (M := M17) fz_17
theorem fi_19 : M19.1 = ilk (fcells.drop 16) := fi_clr (M := M18) fi_18 (by decide)
theorem fz_19 : M19.2.1 = fun _ _ => 0 := fz_clr (M := M18) fz_18
theorem fi_20 : M20.1 = ilk (fcells.drop 16) := fi_R (M := M19) fi_19
theorem fz_20 : M20.2.1 = fun _ _ => 0 := fz_R (M := M19) fz_19
theorem fi_21 : M21.1 = ilk (fcells.drop 16) := fi_clr (M := M20) fi_20 (by decide)
theorem fz_21 : M21.2.1 = fun _ _ => 0 := fz_clr (M := M20) fz_20
theorem fi_22 : M22.1 = ilk (fcells.drop 16) := fi_R (M := M21) fi_21
theorem fz_22 : M22.2.1 = fun _ _ => 0 := fz_R (M := M21) fz_21
theorem fi_23 : M23.1 = ilk (fcells.drop 16) := fi_clr (M := M22) fi_22 (by decide)
theorem fz_23 : M23.2.1 = fun _ _ => 0 := fz_clr (M := M22) fz_22
theorem fi_24 : M24.1 = ilk (fcells.drop 16) := fi_R (M := M23) fi_23
theorem fz_24 : M24.2.1 = fun _ _ => 0 := fz_R (M := M23) fz_23
theorem fi_25 : M25.1 = ilk (fcells.drop 16) := fi_clr (M := M24) fi_24 (by decide)
theorem fz_25 : M25.2.1 = fun _ _ => 0 := fz_clr (M := M24) fz_24
theorem fi_26 : M26.1 = ilk (fcells.drop 16) := fi_clr (M := M25) fi_25 (by decide)
theorem fz_26 : M26.2.1 = fun _ _ => 0 := fz_clr (M := M25) fz_25
theorem fi_27 : M27.1 = ilk (fcells.drop 16) := fi_R (M := M26) fi_26
theorem fz_27 : M27.2.1 = fun _ _ => 0 := fz_R (M := M26) fz_26
theorem fi_28 : M28.1 = ilk (fcells.drop 16) := fi_clr (M := M27) fi_27 (by decide)
theorem fz_28 : M28.2.1 = fun _ _ => 0 := fz_clr (M := M27) fz_27
theorem fi_29 : M29.1 = ilk (fcells.drop 16) := fi_R (M := M28) fi_28
theorem fz_29 : M29.2.1 = fun _ _ => 0 := fz_R (M := M28) fz_28
theorem fi_30 : M30.1 = ilk (fcells.drop 16) := fi_clr (M := M29) fi_29 (by decide)
theorem fz_30 : M30.2.1 = fun _ _ => 0 := fz_clr (M := M29) fz_29
theorem fi_31 : M31.1 = ilk (fcells.drop 16) := fi_R (M := M30) fi_30
theorem fz_31 : M31.2.1 = fun _ _ => 0 := fz_R (M := M30) fz_30
theorem fi_32 : M32.1 = ilk (fcells.drop 16) := fi_R (M := M31) fi_31
theorem fz_32 : M32.2.1 = fun _ _ => 0 := fz_R (M := M31) fz_31
theorem fi_33 : M33.1 = ilk (fcells.drop 15) := fi_set (M := M32) (l := fcells.drop 16) fi_32
theorem fz_33 : M33.2.1 = fun _ _ => 0 := fz_I (M := M32) fz_32
theorem fi_34 : M34.1 = ilk (fcells.drop 14) := fi_set (M := M33) (l := fcells.drop 15) fi_33
theorem fz_34 : M34.2.1 = fun _ _ => 0 := fz_I (M := M33) fz_33
theorem fi_35 : M35.1 = ilk (fcells.drop 13) := fi_set (M := M34) (l := fcells.drop 14) fi_34
theorem fz_35 : M35.2.1 = fun _ _ => 0 := fz_I (M := M34) fz_34
theorem fi_36 : M36.1 = ilk (fcells.drop 12) := fi_set (M := M35) (l := fcells.drop 13) fi_35
theorem fz_36 : M36.2.1 = fun _ _ => 0 := fz_I (M := M35) fz_35
theorem fi_37 : M37.1 = ilk (fcells.drop 11) := fi_set (M := M36) (l := fcells.drop 12) fi_36
theorem fz_37 : M37.2.1 = fun _ _ => 0 := fz_I (M := M36) fz_36
theorem fi_38 : M38.1 = ilk (fcells.drop 11) := fi_set0 (M := M37) fi_37 (by decide) rfl
theorem fz_38 : M38.2.1 = fun _ _ => 0 := fz_I (M := M37) fz_37
theorem fi_39 : M39.1 = ilk (fcells.drop 11) := fi_set0 (M := M38) fi_38 (by decide) rfl
theorem fz_39 : M39.2.1 = fun _ _ => 0 := fz_I (M := M38) fz_38
theorem fi_40 : M40.1 = ilk (fcells.drop 11) := fi_set0 (M := M39) fi_39 (by decide) rfl
theorem fz_40 : M40.2.1 = fun _ _ => 0 := fz_I (M := M39) fz_39
theorem fi_41 : M41.1 = ilk (fcells.drop 11) := fi_set0 (M := M40) fi_40 (by decide) rfl
theorem fz_41 : M41.2.1 = fun _ _ => 0 := fz_I (M := M40) fz_40
theorem fi_42 : M42.1 = ilk (fcells.drop 11) := fi_R (M := M41) fi_41
theorem fz_42 : M42.2.1 = fun _ _ => 0 := fz_R (M := M41) fz_41
theorem fi_43 : M43.1 = ilk (fcells.drop 11) := fi_R (M := M42) fi_42
theorem fz_43 : M43.2.1 = fun _ _ => 0 := fz_R (M := M42) fz_42
theorem fi_44 : M44.1 = ilk (fcells.drop 11) := fi_R (M := M43) fi_43
theorem fz_44 : M44.2.1 = fun _ _ => 0 := fz_R (M := M43) fz_43
theorem fi_45 : M45.1 = ilk (fcells.drop 11) := fi_clr (M := M44) fi_44 (by decide)
theorem fz_45 : M45.2.1 = fun _ _ => 0 := fz_clr (M := M44) fz_44
theorem fi_46 : M46.1 = ilk (fcells.drop 11) := fi_clr (M := M45) fi_45 (by decide)
theorem fz_46 : M46.2.1 = fun _ _ => 0 := fz_clr (M := M45) fz_45
theorem fi_47 : M47.1 = ilk (fcells.drop 11) := fi_R (M := M46) fi_46
theorem fz_47 : M47.2.1 = fun _ _ => 0 := fz_R (M := M46) fz_46
theorem fi_48 : M48.1 = ilk (fcells.drop 11) := fi_clr (M := M47) fi_47 (by decide)
theorem fz_48 : M48.2.1 = fun _ _ => 0 := fz_clr (M := M47) fz_47
theorem fi_49 : M49.1 = ilk (fcells.drop 11) := fi_R (M := M48) fi_48
theorem fz_49 : M49.2.1 = fun _ _ => 0 := fz_R (M := M48) fz_48
theorem fi_50 : M50.1 = ilk (fcells.drop 11) := fi_clr (M := M49) fi_49 (by decide)
theorem fz_50 : M50.2.1 = fun _ _ => 0 := fz_clr (M := M49) fz_49
theorem fi_51 : M51.1 = ilk (fcells.drop 11) := fi_R (M := M50) fi_50
theorem fz_51 : M51.2.1 = fun _ _ => 0 := fz_R (M := M50) fz_50
theorem fi_52 : M52.1 = ilk (fcells.drop 11) := fi_clr (M := M51) fi_51 (by decide)
theorem fz_52 : M52.2.1 = fun _ _ => 0 := fz_clr (M := M51) fz_51
theorem fi_53 : M53.1 = ilk (fcells.drop 11) := fi_R (M := M52) fi_52
theorem fz_53 : M53.2.1 = fun _ _ => 0 := fz_R (M := M52) fz_52
theorem fi_54 : M54.1 = ilk (fcells.drop 11) := fi_clr (M := M53) fi_53 (by decide)
theorem fz_54 : M54.2.1 = fun _ _ => 0 := fz_clr (M := M53) fz_53
theorem fi_55 : M55.1 = ilk (fcells.drop 11) := fi_R (M := M54) fi_54
theorem fz_55 : M55.2.1 = fun _ _ => 0 := fz_R (M := M54) fz_54
theorem fi_56 : M56.1 = ilk (fcells.drop 11) := fi_clr (M := M55) fi_55 (by decide)
theorem fz_56 : M56.2.1 = fun _ _ => 0 := fz_clr (M := M55) fz_55
theorem fi_57 : M57.1 = ilk (fcells.drop 11) := fi_R (M := M56) fi_56
theorem fz_57 : M57.2.1 = fun _ _ => 0 := fz_R (M := M56) fz_56
theorem fi_58 : M58.1 = ilk (fcells.drop 11) := fi_clr (M := M57) fi_57 (by decide)
theorem fz_58 : M58.2.1 = fun _ _ => 0 := fz_clr (M := M57) fz_57
theorem fi_59 : M59.1 = ilk (fcells.drop 11) := fi_R (M := M58) fi_58
theorem fz_59 : M59.2.1 = fun _ _ => 0 := fz_R (M := M58) fz_58
theorem fi_60 : M60.1 = ilk (fcells.drop 11) := fi_clr (M := M59) fi_59 (by decide)
theorem fz_60 : M60.2.1 = fun _ _ => 0 := fz_clr (M := M59) fz_59
theorem fi_61 : M61.1 = ilk (fcells.drop 11) := fi_R (M := M60) fi_60
theorem fz_61 : M61.2.1 = fun _ _ => 0 := fz_R (M := M60) fz_60
theorem fi_62 : M62.1 = ilk (fcells.drop 11) := fi_clr (M := M61) fi_61 (by decide)
theorem fz_62 : M62.2.1 = fun _ _ => 0 := fz_clr (M := M61) fz_61
theorem fi_63 : M63.1 = ilk (fcells.drop 11) := fi_clr (M := M62) fi_62 (by decide)
theorem fz_63 : M63.2.1 = fun _ _ => 0 := fz_clr (M := M62) fz_62
theorem fi_64 : M64.1 = ilk (fcells.drop 11) := fi_R (M := M63) fi_63
theorem fz_64 : M64.2.1 = fun _ _ => 0 := fz_R (M := M63) fz_63
theorem fi_65 : M65.1 = ilk (fcells.drop 11) := fi_clr (M := M64) fi_64 (by decide)
theorem fz_65 : M65.2.1 = fun _ _ => 0 := fz_clr (M := M64) fz_64
theorem fi_66 : M66.1 = ilk (fcells.drop 11) := fi_R (M := M65) fi_65
theorem fz_66 : M66.2.1 = fun _ _ => 0 := fz_R (M := M65) fz_65
theorem fi_67 : M67.1 = ilk (fcells.drop 11) := fi_clr (M := M66) fi_66 (by decide)
theorem fz_67 : M67.2.1 = fun _ _ => 0 := fz_clr (M := M66) fz_66
theorem fi_68 : M68.1 = ilk (fcells.drop 11) := fi_R (M := M67) fi_67
theorem fz_68 : M68.2.1 = fun _ _ => 0 := fz_R (M := M67) fz_67
theorem fi_69 : M69.1 = ilk (fcells.drop 11) := fi_R (M := M68) fi_68
theorem fz_69 : M69.2.1 = fun _ _ => 0 := fz_R (M := M68) fz_68
theorem fi_70 : M70.1 = ilk (fcells.drop 10) := fi_set (M := M69) (l := fcells.drop 11) fi_69
theorem fz_70 : M70.2.1 = fun _ _ => 0 := fz_I (M := M69) fz_69
theorem fi_71 : M71.1 = ilk (fcells.drop 9) := fi_set (M := M70) (l := fcells.drop 10) fi_70
theorem fz_71 : M71.2.1 = fun _ _ => 0 := fz_I (M := M70) fz_70
theorem fi_72 : M72.1 = ilk (fcells.drop 8) := fi_set (M := M71) (l := fcells.drop 9) fi_71
theorem fz_72 : M72.2.1 = fun _ _ => 0 := fz_I (M := M71) fz_71
theorem fi_73 : M73.1 = ilk (fcells.drop 7) := fi_set (M := M72) (l := fcells.drop 8) fi_72
theorem fz_73 : M73.2.1 = fun _ _ => 0 := fz_I (M := M72) fz_72
theorem fi_74 : M74.1 = ilk (fcells.drop 6) := fi_set (M := M73) (l := fcells.drop 7) fi_73
theorem fz_74 : M74.2.1 = fun _ _ => 0 := fz_I (M := M73) fz_73
theorem fi_75 : M75.1 = ilk (fcells.drop 6) := fi_set0 (M := M74) fi_74 (by decide) rfl
theorem fz_75 : M75.2.1 = fun _ _ => 0 := fz_I (M := M74) fz_74
theorem fi_76 : M76.1 = ilk (fcells.drop 6) := fi_set0 (M := M75) fi_75 (by decide) rfl
theorem fz_76 : M76.2.1 = fun _ _ => 0 := fz_I (M := M75) fz_75
theorem fi_77 : M77.1 = ilk (fcells.drop 6) := fi_set0 (M := M76) fi_76 (by decide) rfl
theorem fz_77 : M77.2.1 = fun _ _ => 0 := fz_I (M := M76) fz_76
theorem fi_78 : M78.1 = ilk (fcells.drop 6) := fi_set0 (M := M77) fi_77 (by decide) rfl
theorem fz_78 : M78.2.1 = fun _ _ => 0 := fz_I (M := M77) fz_77
theorem fi_79 : M79.1 = ilk (fcells.drop 6) := fi_R (M := M78) fi_78
theorem fz_79 : M79.2.1 = fun _ _ => 0 := fz_R (M := M78) fz_78
theorem fi_80 : M80.1 = ilk (fcells.drop 6) := fi_clr (M := M79) fi_79 (by decide)
theorem fz_80 : M80.2.1 = fun _ _ => 0 := fz_clr (M := M79) fz_79
theorem fi_81 : M81.1 = ilk (fcells.drop 6) := fi_clr (M := M80) fi_80 (by decide)
theorem fz_81 : M81.2.1 = fun _ _ => 0 := fz_clr (M := M80) fz_80
theorem fi_82 : M82.1 = ilk (fcells.drop 6) := fi_R (M := M81) fi_81
theorem fz_82 : M82.2.1 = fun _ _ => 0 := fz_R (M := M81) fz_81
theorem fi_83 : M83.1 = ilk (fcells.drop 6) := fi_clr (M := M82) fi_82 (by decide)
theorem fz_83 : M83.2.1 = fun _ _ => 0 := fz_clr (M := M82) fz_82
theorem fi_84 : M84.1 = ilk (fcells.drop 6) := fi_R (M := M83) fi_83
theorem fz_84 : M84.2.1 = fun _ _ => 0 := fz_R (M := M83) fz_83
theorem fi_85 : M85.1 = ilk (fcells.drop 6) := fi_clr (M := M84) fi_84 (by decide)
theorem fz_85 : M85.2.1 = fun _ _ => 0 := fz_clr (M := M84) fz_84
theorem fi_86 : M86.1 = ilk (fcells.drop 6) := fi_R (M := M85) fi_85
theorem fz_86 : M86.2.1 = fun _ _ => 0 := fz_R (M := M85) fz_85
theorem fi_87 : M87.1 = ilk (fcells.drop 6) := fi_clr (M := M86) fi_86 (by decide)
theorem fz_87 : M87.2.1 = fun _ _ => 0 := fz_clr (M := M86) fz_86
theorem fi_88 : M88.1 = ilk (fcells.drop 6) := fi_R (M := M87) fi_87
theorem fz_88 : M88.2.1 = fun _ _ => 0 := fz_R (M := M87) fz_87
theorem fi_89 : M89.1 = ilk (fcells.drop 6) := fi_R (M := M88) fi_88
theorem fz_89 : M89.2.1 = fun _ _ => 0 := fz_R (M := M88) fz_88
theorem fi_90 : M90.1 = ilk (fcells.drop 6) := fi_clr (M := M89) fi_89 (by decide)
theorem fz_90 : M90.2.1 = fun _ _ => 0 := fz_clr (M := M89) fz_89
theorem fi_91 : M91.1 = ilk (fcells.drop 6) := fi_clr (M := M90) fi_90 (by decide)
theorem fz_91 : M91.2.1 = fun _ _ => 0 := fz_clr (M := M90) fz_90
theorem fi_92 : M92.1 = ilk (fcells.drop 6) := fi_clr (M := M91) fi_91 (by decide)
theorem fz_92 : M92.2.1 = fun _ _ => 0 := fz_clr (M := M91) fz_91
theorem fi_93 : M93.1 = ilk (fcells.drop 6) := fi_R (M := M92) fi_92
theorem fz_93 : M93.2.1 = fun _ _ => 0 := fz_R (M := M92) fz_92
theorem fi_94 : M94.1 = ilk (fcells.drop 6) := fi_clr (M := M93) fi_93 (by decide)
theorem fz_94 : M94.2.1 = fun _ _ => 0 := fz_clr (M := M93) fz_93
theorem fi_95 : M95.1 = ilk (fcells.drop 6) := fi_R (M := M94) fi_94
theorem fz_95 : M95.2.1 = fun _ _ => 0 := fz_R (M := M94) fz_94
theorem fi_96 : M96.1 = ilk (fcells.drop 6) := fi_clr (M := M95) fi_95 (by decide)
theorem fz_96 : M96.2.1 = fun _ _ => 0 := fz_clr (M := M95) fz_95
theorem fi_97 : M97.1 = ilk (fcells.drop 6) := fi_R (M := M96) fi_96
theorem fz_97 : M97.2.1 = fun _ _ => 0 := fz_R (M := M96) fz_96
theorem fi_98 : M98.1 = ilk (fcells.drop 6) := fi_clr (M := M97) fi_97 (by decide)
theorem fz_98 : M98.2.1 = fun _ _ => 0 := fz_clr (M := M97) fz_97
theorem fi_99 : M99.1 = ilk (fcells.drop 6) := fi_R (M := M98) fi_98
theorem fz_99 : M99.2.1 = fun _ _ => 0 := fz_R (M := M98) fz_98
theorem fi_100 : M100.1 = ilk (fcells.drop 6) := fi_R (M := M99) fi_99
theorem fz_100 : M100.2.1 = fun _ _ => 0 := fz_R (M := M99) fz_99
theorem fi_101 : M101.1 = ilk (fcells.drop 6) := fi_clr (M := M100) fi_100 (by decide)
theorem fz_101 : M101.2.1 = fun _ _ => 0 := fz_clr (M := M100) fz_100
theorem fi_102 : M102.1 = ilk (fcells.drop 6) := fi_clr (M := M101) fi_101 (by decide)
theorem fz_102 : M102.2.1 = fun _ _ => 0 := fz_clr (M := M101) fz_101
theorem fi_103 : M103.1 = ilk (fcells.drop 6) := fi_R (M := M102) fi_102
theorem fz_103 : M103.2.1 = fun _ _ => 0 := fz_R (M := M102) fz_102
theorem fi_104 : M104.1 = ilk (fcells.drop 6) := fi_clr (M := M103) fi_103 (by decide)
theorem fz_104 : M104.2.1 = fun _ _ => 0 := fz_clr (M := M103) fz_103
theorem fi_105 : M105.1 = ilk (fcells.drop 6) := fi_R (M := M104) fi_104
theorem fz_105 : M105.2.1 = fun _ _ => 0 := fz_R (M := M104) fz_104
theorem fi_106 : M106.1 = ilk (fcells.drop 6) := fi_clr (M := M105) fi_105 (by decide)
theorem fz_106 : M106.2.1 = fun _ _ => 0 := fz_clr (M := M105) fz_105
theorem fi_107 : M107.1 = ilk (fcells.drop 6) := fi_R (M := M106) fi_106
theorem fz_107 : M107.2.1 = fun _ _ => 0 := fz_R (M := M106) fz_106
theorem fi_108 : M108.1 = ilk (fcells.drop 6) := fi_clr (M := M107) fi_107 (by decide)
theorem fz_108 : M108.2.1 = fun _ _ => 0 := fz_clr (M := M107) fz_107
theorem fi_109 : M109.1 = ilk (fcells.drop 6) := fi_R (M := M108) fi_108
theorem fz_109 : M109.2.1 = fun _ _ => 0 := fz_R (M := M108) fz_108
theorem fi_110 : M110.1 = ilk (fcells.drop 6) := fi_R (M := M109) fi_109
theorem fz_110 : M110.2.1 = fun _ _ => 0 := fz_R (M := M109) fz_109
theorem fi_111 : M111.1 = ilk (fcells.drop 6) := fi_clr (M := M110) fi_110 (by decide)
theorem fz_111 : M111.2.1 = fun _ _ => 0 := fz_clr (M := M110) fz_110
theorem fi_112 : M112.1 = ilk (fcells.drop 6) := fi_clr (M := M111) fi_111 (by decide)
theorem fz_112 : M112.2.1 = fun _ _ => 0 := fz_clr (M := M111) fz_111
theorem fi_113 : M113.1 = ilk (fcells.drop 6) := fi_R (M := M112) fi_112
theorem fz_113 : M113.2.1 = fun _ _ => 0 := fz_R (M := M112) fz_112
theorem fi_114 : M114.1 = ilk (fcells.drop 6) := fi_clr (M := M113) fi_113 (by decide)
theorem fz_114 : M114.2.1 = fun _ _ => 0 := fz_clr (M := M113) fz_113
theorem fi_115 : M115.1 = ilk (fcells.drop 6) := fi_R (M := M114) fi_114
theorem fz_115 : M115.2.1 = fun _ _ => 0 := fz_R (M := M114) fz_114
theorem fi_116 : M116.1 = ilk (fcells.drop 6) := fi_clr (M := M115) fi_115 (by decide)
theorem fz_116 : M116.2.1 = fun _ _ => 0 := fz_clr (M := M115) fz_115
theorem fi_117 : M117.1 = ilk (fcells.drop 6) := fi_R (M := M116) fi_116
theorem fz_117 : M117.2.1 = fun _ _ => 0 := fz_R (M := M116) fz_116
theorem fi_118 : M118.1 = ilk (fcells.drop 6) := fi_clr (M := M117) fi_117 (by decide)
theorem fz_118 : M118.2.1 = fun _ _ => 0 := fz_clr (M := M117) fz_117
theorem fi_119 : M119.1 = ilk (fcells.drop 6) := fi_R (M := M118) fi_118
theorem fz_119 : M119.2.1 = fun _ _ => 0 := fz_R (M := M118) fz_118
theorem fi_120 : M120.1 = ilk (fcells.drop 6) := fi_R (M := M119) fi_119
theorem fz_120 : M120.2.1 = fun _ _ => 0 := fz_R (M := M119) fz_119
theorem fi_121 : M121.1 = ilk (fcells.drop 6) := fi_R (M := M120) fi_120
theorem fz_121 : M121.2.1 = fun _ _ => 0 := fz_R (M := M120) fz_120
theorem fi_122 : M122.1 = ilk (fcells.drop 6) := fi_clr (M := M121) fi_121 (by decide)
theorem fz_122 : M122.2.1 = fun _ _ => 0 := fz_clr (M := M121) fz_121
theorem fi_123 : M123.1 = ilk (fcells.drop 6) := fi_clr (M := M122) fi_122 (by decide)
theorem fz_123 : M123.2.1 = fun _ _ => 0 := fz_clr (M := M122) fz_122
theorem fi_124 : M124.1 = ilk (fcells.drop 6) := fi_R (M := M123) fi_123
theorem fz_124 : M124.2.1 = fun _ _ => 0 := fz_R (M := M123) fz_123
theorem fi_125 : M125.1 = ilk (fcells.drop 6) := fi_clr (M := M124) fi_124 (by decide)
theorem fz_125 : M125.2.1 = fun _ _ => 0 := fz_clr (M := M124) fz_124
theorem fi_126 : M126.1 = ilk (fcells.drop 6) := fi_R (M := M125) fi_125
theorem fz_126 : M126.2.1 = fun _ _ => 0 := fz_R (M := M125) fz_125
theorem fi_127 : M127.1 = ilk (fcells.drop 6) := fi_clr (M := M126) fi_126 (by decide)
theorem fz_127 : M127.2.1 = fun _ _ => 0 := fz_clr (M := M126) fz_126
theorem fi_128 : M128.1 = ilk (fcells.drop 6) := fi_R (M := M127) fi_127
theorem fz_128 : M128.2.1 = fun _ _ => 0 := fz_R (M := M127) fz_127
theorem fi_129 : M129.1 = ilk (fcells.drop 6) := fi_clr (M := M128) fi_128 (by decide)
theorem fz_129 : M129.2.1 = fun _ _ => 0 := fz_clr (M := M128) fz_128
theorem fi_130 : M130.1 = ilk (fcells.drop 6) := fi_R (M := M129) fi_129
theorem fz_130 : M130.2.1 = fun _ _ => 0 := fz_R (M := M129) fz_129
theorem fi_131 : M131.1 = ilk (fcells.drop 6) := fi_R (M := M130) fi_130
theorem fz_131 : M131.2.1 = fun _ _ => 0 := fz_R (M := M130) fz_130
theorem fi_132 : M132.1 = ilk (fcells.drop 6) := fi_clr (M := M131) fi_131 (by decide)
theorem fz_132 : M132.2.1 = fun _ _ => 0 := fz_clr (M := M131) fz_131
theorem fi_133 : M133.1 = ilk (fcells.drop 6) := fi_clr (M := M132) fi_132 (by decide)
theorem fz_133 : M133.2.1 = fun _ _ => 0 := fz_clr (M := M132) fz_132
theorem fi_134 : M134.1 = ilk (fcells.drop 6) := fi_clr (M := M133) fi_133 (by decide)
theorem fz_134 : M134.2.1 = fun _ _ => 0 := fz_clr (M := M133) fz_133
theorem fi_135 : M135.1 = ilk (fcells.drop 6) := fi_R (M := M134) fi_134
theorem fz_135 : M135.2.1 = fun _ _ => 0 := fz_R (M := M134) fz_134
theorem fi_136 : M136.1 = ilk (fcells.drop 6) := fi_clr (M := M135) fi_135 (by decide)
theorem fz_136 : M136.2.1 = fun _ _ => 0 := fz_clr (M := M135) fz_135
theorem fi_137 : M137.1 = ilk (fcells.drop 6) := fi_R (M := M136) fi_136
theorem fz_137 : M137.2.1 = fun _ _ => 0 := fz_R (M := M136) fz_136
theorem fi_138 : M138.1 = ilk (fcells.drop 6) := fi_clr (M := M137) fi_137 (by decide)
theorem fz_138 : M138.2.1 = fun _ _ => 0 := fz_clr (M := M137) fz_137
theorem fi_139 : M139.1 = ilk (fcells.drop 6) := fi_R (M := M138) fi_138
theorem fz_139 : M139.2.1 = fun _ _ => 0 := fz_R (M := M138) fz_138
theorem fi_140 : M140.1 = ilk (fcells.drop 6) := fi_clr (M := M139) fi_139 (by decide)
theorem fz_140 : M140.2.1 = fun _ _ => 0 := fz_clr (M := M139) fz_139
theorem fi_141 : M141.1 = ilk (fcells.drop 6) := fi_R (M := M140) fi_140
theorem fz_141 : M141.2.1 = fun _ _ => 0 := fz_R (M := M140) fz_140
theorem fi_142 : M142.1 = ilk (fcells.drop 6) := fi_R (M := M141) fi_141
theorem fz_142 : M142.2.1 = fun _ _ => 0 := fz_R (M := M141) fz_141
theorem fi_143 : M143.1 = ilk (fcells.drop 6) := fi_clr (M := M142) fi_142 (by decide)
theorem fz_143 : M143.2.1 = fun _ _ => 0 := fz_clr (M := M142) fz_142
theorem fi_144 : M144.1 = ilk (fcells.drop 6) := fi_R (M := M143) fi_143
theorem fz_144 : M144.2.1 = fun _ _ => 0 := fz_R (M := M143) fz_143
theorem fi_145 : M145.1 = ilk (fcells.drop 6) := fi_clr (M := M144) fi_144 (by decide)
theorem fz_145 : M145.2.1 = fun _ _ => 0 := fz_clr (M := M144) fz_144
theorem fi_146 : M146.1 = ilk (fcells.drop 6) := fi_R (M := M145) fi_145
theorem fz_146 : M146.2.1 = fun _ _ => 0 := fz_R (M := M145) fz_145
theorem fi_147 : M147.1 = ilk (fcells.drop 6) := fi_clr (M := M146) fi_146 (by decide)
theorem fz_147 : M147.2.1 = fun _ _ => 0 := fz_clr (M := M146) fz_146
theorem fi_148 : M148.1 = ilk (fcells.drop 6) := fi_R (M := M147) fi_147
theorem fz_148 : M148.2.1 = fun _ _ => 0 := fz_R (M := M147) fz_147
theorem fi_149 : M149.1 = ilk (fcells.drop 6) := fi_clr (M := M148) fi_148 (by decide)
theorem fz_149 : M149.2.1 = fun _ _ => 0 := fz_clr (M := M148) fz_148
theorem fi_150 : M150.1 = ilk (fcells.drop 6) := fi_R (M := M149) fi_149
theorem fz_150 : M150.2.1 = fun _ _ => 0 := fz_R (M := M149) fz_149
theorem fi_151 : M151.1 = ilk (fcells.drop 6) := fi_clr (M := M150) fi_150 (by decide)
theorem fz_151 : M151.2.1 = fun _ _ => 0 := fz_clr (M := M150) fz_150
theorem fi_152 : M152.1 = ilk (fcells.drop 6) := fi_R (M := M151) fi_151
theorem fz_152 : M152.2.1 = fun _ _ => 0 := fz_R (M := M151) fz_151
theorem fi_153 : M153.1 = ilk (fcells.drop 6) := fi_R (M := M152) fi_152
theorem fz_153 : M153.2.1 = fun _ _ => 0 := fz_R (M := M152) fz_152
theorem fi_154 : M154.1 = ilk (fcells.drop 6) := fi_R (M := M153) fi_153
theorem fz_154 : M154.2.1 = fun _ _ => 0 := fz_R (M := M153) fz_153
theorem fi_155 : M155.1 = ilk (fcells.drop 6) := fi_R (M := M154) fi_154
theorem fz_155 : M155.2.1 = fun _ _ => 0 := fz_R (M := M154) fz_154
theorem fi_156 : M156.1 = ilk (fcells.drop 6) := fi_clr (M := M155) fi_155 (by decide)
theorem fz_156 : M156.2.1 = fun _ _ => 0 := fz_clr (M := M155) fz_155
theorem fi_157 : M157.1 = ilk (fcells.drop 6) := fi_clr (M := M156) fi_156 (by decide)
theorem fz_157 : M157.2.1 = fun _ _ => 0 := fz_clr (M := M156) fz_156
theorem fi_158 : M158.1 = ilk (fcells.drop 6) := fi_R (M := M157) fi_157
theorem fz_158 : M158.2.1 = fun _ _ => 0 := fz_R (M := M157) fz_157
theorem fi_159 : M159.1 = ilk (fcells.drop 6) := fi_R (M := M158) fi_158
theorem fz_159 : M159.2.1 = fun _ _ => 0 := fz_R (M := M158) fz_158
theorem fi_160 : M160.1 = ilk (fcells.drop 6) := fi_clr (M := M159) fi_159 (by decide)
theorem fz_160 : M160.2.1 = fun _ _ => 0 := fz_clr (M := M159) fz_159
theorem fi_161 : M161.1 = ilk (fcells.drop 6) := fi_clr (M := M160) fi_160 (by decide)
theorem fz_161 : M161.2.1 = fun _ _ => 0 := fz_clr (M := M160) fz_160
theorem fi_162 : M162.1 = ilk (fcells.drop 6) := fi_R (M := M161) fi_161
theorem fz_162 : M162.2.1 = fun _ _ => 0 := fz_R (M := M161) fz_161
theorem fi_163 : M163.1 = ilk (fcells.drop 6) := fi_clr (M := M162) fi_162 (by decide)
theorem fz_163 : M163.2.1 = fun _ _ => 0 := fz_clr (M := M162) fz_162
theorem fi_164 : M164.1 = ilk (fcells.drop 6) := fi_R (M := M163) fi_163
theorem fz_164 : M164.2.1 = fun _ _ => 0 := fz_R (M := M163) fz_163
theorem fi_165 : M165.1 = ilk (fcells.drop 6) := fi_clr (M := M164) fi_164 (by decide)
theorem fz_165 : M165.2.1 = fun _ _ => 0 := fz_clr (M := M164) fz_164
theorem fi_166 : M166.1 = ilk (fcells.drop 6) := fi_R (M := M165) fi_165
theorem fz_166 : M166.2.1 = fun _ _ => 0 := fz_R (M := M165) fz_165
theorem fi_167 : M167.1 = ilk (fcells.drop 6) := fi_clr (M := M166) fi_166 (by decide)
theorem fz_167 : M167.2.1 = fun _ _ => 0 := fz_clr (M := M166) fz_166
theorem fi_168 : M168.1 = ilk (fcells.drop 6) := fi_R (M := M167) fi_167
theorem fz_168 : M168.2.1 = fun _ _ => 0 := fz_R (M := M167) fz_167
theorem fi_169 : M169.1 = ilk (fcells.drop 6) := fi_clr (M := M168) fi_168 (by decide)
theorem fz_169 : M169.2.1 = fun _ _ => 0 := fz_clr (M := M168) fz_168
theorem fi_170 : M170.1 = ilk (fcells.drop 6) := fi_R (M := M169) fi_169
theorem fz_170 : M170.2.1 = fun _ _ => 0 := fz_R (M := M169) fz_169
theorem fi_171 : M171.1 = ilk (fcells.drop 6) := fi_clr (M := M170) fi_170 (by decide)
theorem fz_171 : M171.2.1 = fun _ _ => 0 := fz_clr (M := M170) fz_170
theorem fi_172 : M172.1 = ilk (fcells.drop 6) := fi_R (M := M171) fi_171
theorem fz_172 : M172.2.1 = fun _ _ => 0 := fz_R (M := M171) fz_171
theorem fi_173 : M173.1 = ilk (fcells.drop 6) := fi_clr (M := M172) fi_172 (by decide)
theorem fz_173 : M173.2.1 = fun _ _ => 0 := fz_clr (M := M172) fz_172
theorem fi_174 : M174.1 = ilk (fcells.drop 6) := fi_R (M := M173) fi_173
theorem fz_174 : M174.2.1 = fun _ _ => 0 := fz_R (M := M173) fz_173
theorem fi_175 : M175.1 = ilk (fcells.drop 6) := fi_R (M := M174) fi_174
theorem fz_175 : M175.2.1 = fun _ _ => 0 := fz_R (M := M174) fz_174
theorem fi_176 : M176.1 = ilk (fcells.drop 6) := fi_clr (M := M175) fi_175 (by decide)
theorem fz_176 : M176.2.1 = fun _ _ => 0 := fz_clr (M := M175) fz_175
theorem fi_177 : M177.1 = ilk (fcells.drop 6) := fi_R (M := M176) fi_176
theorem fz_177 : M177.2.1 = fun _ _ => 0 := fz_R (M := M176) fz_176
theorem fi_178 : M178.1 = ilk (fcells.drop 6) := fi_set0 (M := M177) fi_177 (by decide) rfl
theorem fz_178 : M178.2.1 = fun _ _ => 0 := fz_I (M := M177) fz_177
theorem fi_179 : M179.1 = ilk (fcells.drop 6) := fi_set0 (M := M178) fi_178 (by decide) rfl
theorem fz_179 : M179.2.1 = fun _ _ => 0 := fz_I (M := M178) fz_178
theorem fi_180 : M180.1 = ilk (fcells.drop 6) := fi_set0 (M := M179) fi_179 (by decide) (by rw [fi_179]; decide)
theorem fz_180 : M180.2.1 = fun _ _ => 0 := fz_I (M := M179) fz_179
theorem fi_181 : M181.1 = ilk (fcells.drop 6) := fi_set0 (M := M180) fi_180 (by decide) (by rw [fi_180]; decide)
theorem fz_181 : M181.2.1 = fun _ _ => 0 := fz_I (M := M180) fz_180
theorem fi_182 : M182.1 = ilk (fcells.drop 6) := fi_set0 (M := M181) fi_181 (by decide) (by rw [fi_181]; decide)
theorem fz_182 : M182.2.1 = fun _ _ => 0 := fz_I (M := M181) fz_181
theorem fi_183 : M183.1 = ilk (fcells.drop 6) := fi_set0 (M := M182) fi_182 (by decide) rfl
theorem fz_183 : M183.2.1 = fun _ _ => 0 := fz_I (M := M182) fz_182
theorem fi_184 : M184.1 = ilk (fcells.drop 6) := fi_set0 (M := M183) fi_183 (by decide) (by rw [fi_183]; decide)
theorem fz_184 : M184.2.1 = fun _ _ => 0 := fz_I (M := M183) fz_183
theorem fi_185 : M185.1 = ilk (fcells.drop 6) := fi_set0 (M := M184) fi_184 (by decide) (by rw [fi_184]; decide)
theorem fz_185 : M185.2.1 = fun _ _ => 0 := fz_I (M := M184) fz_184
theorem fi_186 : M186.1 = ilk (fcells.drop 6) := fi_set0 (M := M185) fi_185 (by decide) (by rw [fi_185]; decide)
theorem fz_186 : M186.2.1 = fun _ _ => 0 := fz_I (M := M185) fz_185
theorem fi_187 : M187.1 = ilk (fcells.drop 6) := fi_set0 (M := M186) fi_186 (by decide) rfl
theorem fz_187 : M187.2.1 = fun _ _ => 0 := fz_I (M := M186) fz_186
theorem fi_188 : M188.1 = ilk (fcells.drop 6) := fi_set0 (M := M187) fi_187 (by decide) (by rw [fi_187]; decide)
theorem fz_188 : M188.2.1 = fun _ _ => 0 := fz_I (M := M187) fz_187
theorem fi_189 : M189.1 = ilk (fcells.drop 6) := fi_set0 (M := M188) fi_188 (by decide) (by rw [fi_188]; decide)
theorem fz_189 : M189.2.1 = fun _ _ => 0 := fz_I (M := M188) fz_188
theorem fi_190 : M190.1 = ilk (fcells.drop 6) := fi_set0 (M := M189) fi_189 (by decide) (by rw [fi_189]; decide)
theorem fz_190 : M190.2.1 = fun _ _ => 0 := fz_I (M := M189) fz_189
theorem fi_191 : M191.1 = ilk (fcells.drop 6) := fi_set0 (M := M190) fi_190 (by decide) rfl
theorem fz_191 : M191.2.1 = fun _ _ => 0 := fz_I (M := M190) fz_190
theorem fi_192 : M192.1 = ilk (fcells.drop 6) := fi_set0 (M := M191) fi_191 (by decide) (by rw [fi_191]; decide)
theorem fz_192 : M192.2.1 = fun _ _ => 0 := fz_I (M := M191) fz_191
theorem fi_193 : M193.1 = ilk (fcells.drop 6) := fi_set0 (M := M192) fi_192 (by decide) (by rw [fi_192]; decide)
theorem fz_193 : M193.2.1 = fun _ _ => 0 := fz_I (M := M192) fz_192
theorem fi_194 : M194.1 = ilk (fcells.drop 6) := fi_set0 (M := M193) fi_193 (by decide) (by rw [fi_193]; decide)
theorem fz_194 : M194.2.1 = fun _ _ => 0 := fz_I (M := M193) fz_193
theorem fi_195 : M195.1 = ilk (fcells.drop 6) := fi_set0 (M := M194) fi_194 (by decide) rfl
theorem fz_195 : M195.2.1 = fun _ _ => 0 := fz_I (M := M194) fz_194
theorem fi_196 : M196.1 = ilk (fcells.drop 6) := fi_set0 (M := M195) fi_195 (by decide) (by rw [fi_195]; decide)
theorem fz_196 : M196.2.1 = fun _ _ => 0 := fz_I (M := M195) fz_195
theorem fi_197 : M197.1 = ilk (fcells.drop 6) := fi_set0 (M := M196) fi_196 (by decide) (by rw [fi_196]; decide)
theorem fz_197 : M197.2.1 = fun _ _ => 0 := fz_I (M := M196) fz_196
theorem fi_198 : M198.1 = ilk (fcells.drop 6) := fi_set0 (M := M197) fi_197 (by decide) (by rw [fi_197]; decide)
theorem fz_198 : M198.2.1 = fun _ _ => 0 := fz_I (M := M197) fz_197
theorem fi_199 : M199.1 = ilk (fcells.drop 6) := fi_set0 (M := M198) fi_198 (by decide) rfl
theorem fz_199 : M199.2.1 = fun _ _ => 0 := fz_I (M := M198) fz_198
theorem fi_200 : M200.1 = ilk (fcells.drop 6) := fi_set0 (M := M199) fi_199 (by decide) (by rw [fi_199]; decide)
theorem fz_200 : M200.2.1 = fun _ _ => 0 := fz_I (M := M199) fz_199
theorem fi_201 : M201.1 = ilk (fcells.drop 6) := fi_set0 (M := M200) fi_200 (by decide) (by rw [fi_200]; decide)
theorem fz_201 : M201.2.1 = fun _ _ => 0 := fz_I (M := M200) fz_200
theorem fi_202 : M202.1 = ilk (fcells.drop 6) := fi_set0 (M := M201) fi_201 (by decide) (by rw [fi_201]; decide)
theorem fz_202 : M202.2.1 = fun _ _ => 0 := fz_I (M := M201) fz_201
theorem fi_203 : M203.1 = ilk (fcells.drop 6) := fi_set0 (M := M202) fi_202 (by decide) rfl
theorem fz_203 : M203.2.1 = fun _ _ => 0 := fz_I (M := M202) fz_202
theorem fi_204 : M204.1 = ilk (fcells.drop 6) := fi_set0 (M := M203) fi_203 (by decide) (by rw [fi_203]; decide)
theorem fz_204 : M204.2.1 = fun _ _ => 0 := fz_I (M := M203) fz_203
theorem fi_205 : M205.1 = ilk (fcells.drop 6) := fi_set0 (M := M204) fi_204 (by decide) (by rw [fi_204]; decide)
theorem fz_205 : M205.2.1 = fun _ _ => 0 := fz_I (M := M204) fz_204
theorem fi_206 : M206.1 = ilk (fcells.drop 6) := fi_set0 (M := M205) fi_205 (by decide) (by rw [fi_205]; decide)
theorem fz_206 : M206.2.1 = fun _ _ => 0 := fz_I (M := M205) fz_205
theorem fi_207 : M207.1 = ilk (fcells.drop 6) := fi_set0 (M := M206) fi_206 (by decide) rfl
theorem fz_207 : M207.2.1 = fun _ _ => 0 := fz_I (M := M206) fz_206
theorem fi_208 : M208.1 = ilk (fcells.drop 6) := fi_set0 (M := M207) fi_207 (by decide) (by rw [fi_207]; decide)
theorem fz_208 : M208.2.1 = fun _ _ => 0 := fz_I (M := M207) fz_207
theorem fi_209 : M209.1 = ilk (fcells.drop 6) := fi_set0 (M := M208) fi_208 (by decide) (by rw [fi_208]; decide)
theorem fz_209 : M209.2.1 = fun _ _ => 0 := fz_I (M := M208) fz_208
theorem fi_210 : M210.1 = ilk (fcells.drop 6) := fi_set0 (M := M209) fi_209 (by decide) (by rw [fi_209]; decide)
theorem fz_210 : M210.2.1 = fun _ _ => 0 := fz_I (M := M209) fz_209
theorem fi_211 : M211.1 = ilk (fcells.drop 6) := fi_set0 (M := M210) fi_210 (by decide) rfl
theorem fz_211 : M211.2.1 = fun _ _ => 0 := fz_I (M := M210) fz_210
theorem fi_212 : M212.1 = ilk (fcells.drop 6) := fi_set0 (M := M211) fi_211 (by decide) (by rw [fi_211]; decide)
theorem fz_212 : M212.2.1 = fun _ _ => 0 := fz_I (M := M211) fz_211
theorem fi_213 : M213.1 = ilk (fcells.drop 6) := fi_set0 (M := M212) fi_212 (by decide) (by rw [fi_212]; decide)
theorem fz_213 : M213.2.1 = fun _ _ => 0 := fz_I (M := M212) fz_212
theorem fi_214 : M214.1 = ilk (fcells.drop 6) := fi_set0 (M := M213) fi_213 (by decide) (by rw [fi_213]; decide)
theorem fz_214 : M214.2.1 = fun _ _ => 0 := fz_I (M := M213) fz_213
theorem fi_215 : M215.1 = ilk (fcells.drop 6) := fi_set0 (M := M214) fi_214 (by decide) rfl
theorem fz_215 : M215.2.1 = fun _ _ => 0 := fz_I (M := M214) fz_214
theorem fi_216 : M216.1 = ilk (fcells.drop 6) := fi_set0 (M := M215) fi_215 (by decide) (by rw [fi_215]; decide)
theorem fz_216 : M216.2.1 = fun _ _ => 0 := fz_I (M := M215) fz_215
theorem fi_217 : M217.1 = ilk (fcells.drop 6) := fi_set0 (M := M216) fi_216 (by decide) (by rw [fi_216]; decide)
theorem fz_217 : M217.2.1 = fun _ _ => 0 := fz_I (M := M216) fz_216
theorem fi_218 : M218.1 = ilk (fcells.drop 6) := fi_set0 (M := M217) fi_217 (by decide) (by rw [fi_217]; decide)
theorem fz_218 : M218.2.1 = fun _ _ => 0 := fz_I (M := M217) fz_217
theorem fi_219 : M219.1 = ilk (fcells.drop 6) := fi_clr (M := M218) fi_218 (by decide)
theorem fz_219 : M219.2.1 = fun _ _ => 0 := fz_clr (M := M218) fz_218
theorem fi_220 : M220.1 = ilk (fcells.drop 6) := fi_clr (M := M219) fi_219 (by decide)
theorem fz_220 : M220.2.1 = fun _ _ => 0 := fz_clr (M := M219) fz_219
theorem fi_221 : M221.1 = ilk (fcells.drop 6) := fi_R (M := M220) fi_220
theorem fz_221 : M221.2.1 = fun _ _ => 0 := fz_R (M := M220) fz_220
theorem fi_222 : M222.1 = ilk (fcells.drop 5) := fi_set (M := M221) (l := fcells.drop 6) fi_221
theorem fz_222 : M222.2.1 = fun _ _ => 0 := fz_I (M := M221) fz_221
theorem fi_223 : M223.1 = ilk (fcells.drop 5) := fi_clr (M := M222) fi_222 (by decide)
theorem fz_223 : M223.2.1 = fun _ _ => 0 := fz_clr (M := M222) fz_222
theorem fi_224 : M224.1 = ilk (fcells.drop 5) := fi_R (M := M223) fi_223
theorem fz_224 : M224.2.1 = fun _ _ => 0 := fz_R (M := M223) fz_223
theorem fi_225 : M225.1 = ilk (fcells.drop 5) := fi_clr (M := M224) fi_224 (by decide)
theorem fz_225 : M225.2.1 = fun _ _ => 0 := fz_clr (M := M224) fz_224
theorem fi_226 : M226.1 = ilk (fcells.drop 5) := fi_R (M := M225) fi_225
theorem fz_226 : M226.2.1 = fun _ _ => 0 := fz_R (M := M225) fz_225
theorem fi_227 : M227.1 = ilk (fcells.drop 5) := fi_clr (M := M226) fi_226 (by decide)
theorem fz_227 : M227.2.1 = fun _ _ => 0 := fz_clr (M := M226) fz_226
theorem fi_228 : M228.1 = ilk (fcells.drop 5) := fi_R (M := M227) fi_227
theorem fz_228 : M228.2.1 = fun _ _ => 0 := fz_R (M := M227) fz_227
theorem fi_229 : M229.1 = ilk (fcells.drop 5) := fi_clr (M := M228) fi_228 (by decide)
theorem fz_229 : M229.2.1 = fun _ _ => 0 := fz_clr (M := M228) fz_228
theorem fi_230 : M230.1 = ilk (fcells.drop 5) := fi_R (M := M229) fi_229
theorem fz_230 : M230.2.1 = fun _ _ => 0 := fz_R (M := M229) fz_229
theorem fi_231 : M231.1 = ilk (fcells.drop 5) := fi_clr (M := M230) fi_230 (by decide)
theorem fz_231 : M231.2.1 = fun _ _ => 0 := fz_clr (M := M230) fz_230
theorem fi_232 : M232.1 = ilk (fcells.drop 5) := fi_R (M := M231) fi_231
theorem fz_232 : M232.2.1 = fun _ _ => 0 := fz_R (M := M231) fz_231
theorem fi_233 : M233.1 = ilk (fcells.drop 5) := fi_clr (M := M232) fi_232 (by decide)
theorem fz_233 : M233.2.1 = fun _ _ => 0 := fz_clr (M := M232) fz_232
theorem fi_234 : M234.1 = ilk (fcells.drop 5) := fi_R (M := M233) fi_233
theorem fz_234 : M234.2.1 = fun _ _ => 0 := fz_R (M := M233) fz_233
theorem fi_235 : M235.1 = ilk (fcells.drop 5) := fi_clr (M := M234) fi_234 (by decide)
theorem fz_235 : M235.2.1 = fun _ _ => 0 := fz_clr (M := M234) fz_234
theorem fi_236 : M236.1 = ilk (fcells.drop 5) := fi_R (M := M235) fi_235
theorem fz_236 : M236.2.1 = fun _ _ => 0 := fz_R (M := M235) fz_235
theorem fi_237 : M237.1 = ilk (fcells.drop 5) := fi_clr (M := M236) fi_236 (by decide)
theorem fz_237 : M237.2.1 = fun _ _ => 0 := fz_clr (M := M236) fz_236
theorem fi_238 : M238.1 = ilk (fcells.drop 5) := fi_R (M := M237) fi_237
theorem fz_238 : M238.2.1 = fun _ _ => 0 := fz_R (M := M237) fz_237
theorem fi_239 : M239.1 = ilk (fcells.drop 5) := fi_clr (M := M238) fi_238 (by decide)
theorem fz_239 : M239.2.1 = fun _ _ => 0 := fz_clr (M := M238) fz_238
theorem fi_240 : M240.1 = ilk (fcells.drop 5) := fi_R (M := M239) fi_239
theorem fz_240 : M240.2.1 = fun _ _ => 0 := fz_R (M := M239) fz_239
theorem fi_241 : M241.1 = ilk (fcells.drop 5) := fi_clr (M := M240) fi_240 (by decide)
theorem fz_241 : M241.2.1 = fun _ _ => 0 := fz_clr (M := M240) fz_240
theorem fi_242 : M242.1 = ilk (fcells.drop 5) := fi_R (M := M241) fi_241
theorem fz_242 : M242.2.1 = fun _ _ => 0 := fz_R (M := M241) fz_241
theorem fi_243 : M243.1 = ilk (fcells.drop 5) := fi_clr (M := M242) fi_242 (by decide)
theorem fz_243 : M243.2.1 = fun _ _ => 0 := fz_clr (M := M242) fz_242
theorem fi_244 : M244.1 = ilk (fcells.drop 5) := fi_R (M := M243) fi_243
theorem fz_244 : M244.2.1 = fun _ _ => 0 := fz_R (M := M243) fz_243
theorem fi_245 : M245.1 = ilk (fcells.drop 5) := fi_clr (M := M244) fi_244 (by decide)
theorem fz_245 : M245.2.1 = fun _ _ => 0 := fz_clr (M := M244) fz_244
theorem fi_246 : M246.1 = ilk (fcells.drop 5) := fi_R (M := M245) fi_245
theorem fz_246 : M246.2.1 = fun _ _ => 0 := fz_R (M := M245) fz_245
theorem fi_247 : M247.1 = ilk (fcells.drop 5) := fi_clr (M := M246) fi_246 (by decide)
theorem fz_247 : M247.2.1 = fun _ _ => 0 := fz_clr (M := M246) fz_246
theorem fi_248 : M248.1 = ilk (fcells.drop 5) := fi_R (M := M247) fi_247
theorem fz_248 : M248.2.1 = fun _ _ => 0 := fz_R (M := M247) fz_247
theorem fi_249 : M249.1 = ilk (fcells.drop 5) := fi_clr (M := M248) fi_248 (by decide)
theorem fz_249 : M249.2.1 = fun _ _ => 0 := fz_clr (M := M248) fz_248
theorem fi_250 : M250.1 = ilk (fcells.drop 5) := fi_R (M := M249) fi_249
theorem fz_250 : M250.2.1 = fun _ _ => 0 := fz_R (M := M249) fz_249
theorem fi_251 : M251.1 = ilk (fcells.drop 5) := fi_clr (M := M250) fi_250 (by decide)
theorem fz_251 : M251.2.1 = fun _ _ => 0 := fz_clr (M := M250) fz_250
theorem fi_252 : M252.1 = ilk (fcells.drop 5) := fi_R (M := M251) fi_251
theorem fz_252 : M252.2.1 = fun _ _ => 0 := fz_R (M := M251) fz_251
theorem fi_253 : M253.1 = ilk (fcells.drop 5) := fi_clr (M := M252) fi_252 (by decide)
theorem fz_253 : M253.2.1 = fun _ _ => 0 := fz_clr (M := M252) fz_252
theorem fi_254 : M254.1 = ilk (fcells.drop 5) := fi_R (M := M253) fi_253
theorem fz_254 : M254.2.1 = fun _ _ => 0 := fz_R (M := M253) fz_253
theorem fi_255 : M255.1 = ilk (fcells.drop 5) := fi_clr (M := M254) fi_254 (by decide)
theorem fz_255 : M255.2.1 = fun _ _ => 0 := fz_clr (M := M254) fz_254
theorem fi_256 : M256.1 = ilk (fcells.drop 5) := fi_R (M := M255) fi_255
theorem fz_256 : M256.2.1 = fun _ _ => 0 := fz_R (M := M255) fz_255
theorem fi_257 : M257.1 = ilk (fcells.drop 5) := fi_clr (M := M256) fi_256 (by decide)
theorem fz_257 : M257.2.1 = fun _ _ => 0 := fz_clr (M := M256) fz_256
theorem fi_258 : M258.1 = ilk (fcells.drop 5) := fi_R (M := M257) fi_257
theorem fz_258 : M258.2.1 = fun _ _ => 0 := fz_R (M := M257) fz_257
theorem fi_259 : M259.1 = ilk (fcells.drop 5) := fi_clr (M := M258) fi_258 (by decide)
theorem fz_259 : M259.2.1 = fun _ _ => 0 := fz_clr (M := M258) fz_258
theorem fi_260 : M260.1 = ilk (fcells.drop 5) := fi_R (M := M259) fi_259
theorem fz_260 : M260.2.1 = fun _ _ => 0 := fz_R (M := M259) fz_259
theorem fi_261 : M261.1 = ilk (fcells.drop 5) := fi_clr (M := M260) fi_260 (by decide)
theorem fz_261 : M261.2.1 = fun _ _ => 0 := fz_clr (M := M260) fz_260
theorem fi_262 : M262.1 = ilk (fcells.drop 5) := fi_R (M := M261) fi_261
theorem fz_262 : M262.2.1 = fun _ _ => 0 := fz_R (M := M261) fz_261
theorem fi_263 : M263.1 = ilk (fcells.drop 4) := fi_set (M := M262) (l := fcells.drop 5) fi_262
theorem fz_263 : M263.2.1 = fun _ _ => 0 := fz_I (M := M262) fz_262
theorem fi_264 : M264.1 = ilk (fcells.drop 3) := fi_set (M := M263) (l := fcells.drop 4) fi_263
theorem fz_264 : M264.2.1 = fun _ _ => 0 := fz_I (M := M263) fz_263
theorem fi_265 : M265.1 = ilk (fcells.drop 2) := fi_set (M := M264) (l := fcells.drop 3) fi_264
theorem fz_265 : M265.2.1 = fun _ _ => 0 := fz_I (M := M264) fz_264
theorem fi_266 : M266.1 = ilk (fcells.drop 1) := fi_set (M := M265) (l := fcells.drop 2) fi_265
theorem fz_266 : M266.2.1 = fun _ _ => 0 := fz_I (M := M265) fz_265
theorem fi_267 : M267.1 = ilk (fcells.drop 0) := fi_set (M := M266) (l := fcells.drop 1) fi_266
theorem fz_267 : M267.2.1 = fun _ _ => 0 := fz_I (M := M266) fz_266
theorem fi_268 : M268.1 = ilk (fcells.drop 0) := fi_clr (M := M267) fi_267 (by decide)
theorem fz_268 : M268.2.1 = fun _ _ => 0 := fz_clr (M := M267) fz_267
theorem fi_269 : M269.1 = ilk (fcells.drop 0) := fi_R (M := M268) fi_268
theorem fz_269 : M269.2.1 = fun _ _ => 0 := fz_R (M := M268) fz_268
theorem fi_270 : M270.1 = ilk (fcells.drop 0) := fi_clr (M := M269) fi_269 (by decide)
theorem fz_270 : M270.2.1 = fun _ _ => 0 := fz_clr (M := M269) fz_269
theorem fi_271 : M271.1 = ilk (fcells.drop 0) := fi_R (M := M270) fi_270
theorem fz_271 : M271.2.1 = fun _ _ => 0 := fz_R (M := M270) fz_270
theorem fi_272 : M272.1 = ilk (fcells.drop 0) := fi_clr (M := M271) fi_271 (by decide)
theorem fz_272 : M272.2.1 = fun _ _ => 0 := fz_clr (M := M271) fz_271
theorem fi_273 : M273.1 = ilk (fcells.drop 0) := fi_R (M := M272) fi_272
theorem fz_273 : M273.2.1 = fun _ _ => 0 := fz_R (M := M272) fz_272
theorem fi_274 : M274.1 = ilk (fcells.drop 0) := fi_clr (M := M273) fi_273 (by decide)
theorem fz_274 : M274.2.1 = fun _ _ => 0 := fz_clr (M := M273) fz_273
theorem fi_275 : M275.1 = ilk (fcells.drop 0) := fi_R (M := M274) fi_274
theorem fz_275 : M275.2.1 = fun _ _ => 0 := fz_R (M := M274) fz_274
theorem fi_276 : M276.1 = ilk (fcells.drop 0) := fi_clr (M := M275) fi_275 (by decide)
theorem fz_276 : M276.2.1 = fun _ _ => 0 := fz_clr (M := M275) fz_275
theorem fi_277 : M277.1 = ilk (fcells.drop 0) := fi_R (M := M276) fi_276
theorem fz_277 : M277.2.1 = fun _ _ => 0 := fz_R (M := M276) fz_276
theorem fi_278 : M278.1 = ilk (fcells.drop 0) := fi_clr (M := M277) fi_277 (by decide)
theorem fz_278 : M278.2.1 = fun _ _ => 0 := fz_clr (M := M277) fz_277
theorem fi_279 : M279.1 = ilk (fcells.drop 0) := fi_R (M := M278) fi_278
theorem fz_279 : M279.2.1 = fun _ _ => 0 := fz_R (M := M278) fz_278
theorem fi_280 : M280.1 = ilk (fcells.drop 0) := fi_clr (M := M279) fi_279 (by decide)
theorem fz_280 : M280.2.1 = fun _ _ => 0 := fz_clr (M := M279) fz_279
theorem fi_281 : M281.1 = ilk (fcells.drop 0) := fi_R (M := M280) fi_280
theorem fz_281 : M281.2.1 = fun _ _ => 0 := fz_R (M := M280) fz_280
theorem fi_282 : M282.1 = ilk (fcells.drop 0) := fi_clr (M := M281) fi_281 (by decide)
theorem fz_282 : M282.2.1 = fun _ _ => 0 := fz_clr (M := M281) fz_281
theorem fi_283 : M283.1 = ilk (fcells.drop 0) := fi_R (M := M282) fi_282
theorem fz_283 : M283.2.1 = fun _ _ => 0 := fz_R (M := M282) fz_282
theorem fi_284 : M284.1 = ilk (fcells.drop 0) := fi_clr (M := M283) fi_283 (by decide)
theorem fz_284 : M284.2.1 = fun _ _ => 0 := fz_clr (M := M283) fz_283
theorem fi_285 : M285.1 = ilk (fcells.drop 0) := fi_R (M := M284) fi_284
theorem fz_285 : M285.2.1 = fun _ _ => 0 := fz_R (M := M284) fz_284
theorem fi_286 : M286.1 = ilk (fcells.drop 0) := fi_clr (M := M285) fi_285 (by decide)
theorem fz_286 : M286.2.1 = fun _ _ => 0 := fz_clr (M := M285) fz_285
theorem fi_287 : M287.1 = ilk (fcells.drop 0) := fi_R (M := M286) fi_286
theorem fz_287 : M287.2.1 = fun _ _ => 0 := fz_R (M := M286) fz_286
theorem fi_288 : M288.1 = ilk (fcells.drop 0) := fi_clr (M := M287) fi_287 (by decide)
theorem fz_288 : M288.2.1 = fun _ _ => 0 := fz_clr (M := M287) fz_287
theorem fi_289 : M289.1 = ilk (fcells.drop 0) := fi_R (M := M288) fi_288
theorem fz_289 : M289.2.1 = fun _ _ => 0 := fz_R (M := M288) fz_288
theorem fi_290 : M290.1 = ilk (fcells.drop 0) := fi_clr (M := M289) fi_289 (by decide)
theorem fz_290 : M290.2.1 = fun _ _ => 0 := fz_clr (M := M289) fz_289
theorem fi_291 : M291.1 = ilk (fcells.drop 0) := fi_R (M := M290) fi_290
theorem fz_291 : M291.2.1 = fun _ _ => 0 := fz_R (M := M290) fz_290
theorem fi_292 : M292.1 = ilk (fcells.drop 0) := fi_clr (M := M291) fi_291 (by decide)
theorem fz_292 : M292.2.1 = fun _ _ => 0 := fz_clr (M := M291) fz_291
theorem fi_293 : M293.1 = ilk (fcells.drop 0) := fi_R (M := M292) fi_292
theorem fz_293 : M293.2.1 = fun _ _ => 0 := fz_R (M := M292) fz_292
theorem fi_294 : M294.1 = ilk (fcells.drop 0) := fi_clr (M := M293) fi_293 (by decide)
theorem fz_294 : M294.2.1 = fun _ _ => 0 := fz_clr (M := M293) fz_293
theorem fi_295 : M295.1 = ilk (fcells.drop 0) := fi_R (M := M294) fi_294
theorem fz_295 : M295.2.1 = fun _ _ => 0 := fz_R (M := M294) fz_294
theorem fi_296 : M296.1 = ilk (fcells.drop 0) := fi_clr (M := M295) fi_295 (by decide)
theorem fz_296 : M296.2.1 = fun _ _ => 0 := fz_clr (M := M295) fz_295
theorem fi_297 : M297.1 = ilk (fcells.drop 0) := fi_R (M := M296) fi_296
theorem fz_297 : M297.2.1 = fun _ _ => 0 := fz_R (M := M296) fz_296
theorem fi_298 : M298.1 = ilk (fcells.drop 0) := fi_clr (M := M297) fi_297 (by decide)
theorem fz_298 : M298.2.1 = fun _ _ => 0 := fz_clr (M := M297) fz_297
theorem fi_299 : M299.1 = ilk (fcells.drop 0) := fi_R (M := M298) fi_298
theorem fz_299 : M299.2.1 = fun _ _ => 0 := fz_R (M := M298) fz_298
theorem fi_300 : M300.1 = ilk (fcells.drop 0) := fi_clr (M := M299) fi_299 (by decide)
theorem fz_300 : M300.2.1 = fun _ _ => 0 := fz_clr (M := M299) fz_299
theorem fi_301 : M301.1 = ilk (fcells.drop 0) := fi_R (M := M300) fi_300
theorem fz_301 : M301.2.1 = fun _ _ => 0 := fz_R (M := M300) fz_300
def SI : St := (ilk fcells, fun _ _ => 0, 17, 4)
theorem S0_SI : S0 = SI := by
  show (M301.1, M301.2.1, 17, 4) = (ilk fcells, (fun _ _ => 0), 17, 4)
  rw [fi_301, fz_301]
  rfl
