/-! NinetyPlayers$Reader.line -/
def j_R_line_22 (F G : Nat) (S : St) (s0 : Int32) : Option (St) :=
  bd (fR_mayBegin F G S s0) fun v3 => if v3 = 0 then bd (fR_refuse F G S (2 : Int32)) fun S69 => some S69 else lt (sI S 2 4 ((S.1 2 4) ||| ((1 : Int32) <<< (s0 &&& 31)))) fun S5 => bd (fT_step F G S5 ) fun S8 => if s0 = 0 then gd (isSc S8.2.2.2) (bd2 (fR_number F G S8 (1 : Int32) (12 : Int32)) fun v12 S13 => lt (sI S13 S8.2.2.2 0 v12) fun S14 => bd (fR_takeSign F G S14 (59 : Int32)) fun S17 => some S17) else if s0 = 1 then bd (fR_partLine F G S8 ) fun S20 => bd (fR_takeSign F G S20 (59 : Int32)) fun S22 => some S22 else if s0 = 2 then bd (fR_noteLine F G S8 ) fun S25 => bd (fR_takeSign F G S25 (59 : Int32)) fun S27 => some S27 else if s0 = 3 then bd (fR_parse F G G 0 (0 : Int32) S8) fun S30 => bd (fR_takeSign F G S30 (59 : Int32)) fun S32 => some S32 else if s0 = 4 then gd (isSc S8.2.2.2) (bd2 (fR_number F G S8 (0 : Int32) (87 : Int32)) fun v36 S37 => lt (sI S37 S8.2.2.2 1 v36) fun S38 => bd (fR_takeSign F G S38 (59 : Int32)) fun S41 => some S41) else if s0 = 5 then gd (isSc S8.2.2.2) (bd2 (fR_number F G S8 (1 : Int32) (5 : Int32)) fun v45 S46 => lt (sI S46 S8.2.2.2 2 v45) fun S47 => bd (fR_takeSign F G S47 (59 : Int32)) fun S50 => some S50) else if s0 = 6 then gd (isSc S8.2.2.2) (bd2 (fR_number F G S8 (0 : Int32) (87 : Int32)) fun v54 S55 => lt (sI S55 S8.2.2.2 3 v54) fun S56 => bd (fR_takeSign F G S56 (59 : Int32)) fun S59 => some S59) else gd (isSc S8.2.2.2) (bd2 (fR_number F G S8 (0 : Int32) (9 : Int32)) fun v62 S63 => lt (sI S63 S8.2.2.2 4 v62) fun S64 => bd (fR_takeSign F G S64 (59 : Int32)) fun S67 => some S67)
def fR_line (F G : Nat) (S : St) : Option (St) :=
  if (S.1 16 4) = (1 : Int32) then j_R_line_22 F G  S (S.1 16 5) else j_R_line_22 F G  S (-1 : Int32)
set_option maxRecDepth 100000 in
set_option maxHeartbeats 4000000 in
theorem c_R_line {X : Nat × (Nat → Int32)} {D F G : Nat} (hD : 10 + G ≤ D) {S : St} {res : St} (h : fR_line F G S  = some res) : Ek X (D) mR_line 0 [(0, .ref 2)] [] S none res := by
  obtain ⟨D, rfl⟩ : ∃ E, D = E + 1 := ⟨D - 1, by omega⟩
  unfold fR_line at h
  have J22 : ∀ (S : St) (s0 : Int32) (res : St), j_R_line_22 F G S s0 = some res → Ek X (D + 1) mR_line 22 [(0, .ref 2)] [.int s0] S none res := by
    intro S s0 res h
    unfold j_R_line_22 at h
    refine x_istore_n (L1 := [(0, .ref 2), (1, .int s0)]) d_R_line_22 rfl (Nat.le_of_ble_eq_true rfl) rfl rfl ?_
    refine x_aload_n d_R_line_23 rfl 0 rfl ?_
    refine x_iload_n d_R_line_24 rfl 1 rfl ?_
    obtain ⟨v3, q2, h⟩ := bd_inv h
    refine y_V1i (v := v3) (S1 := S) d_R_line_25 ml_1_53 kd_2 rfl (Nat.le_of_ble_eq_true rfl) (Nat.le_of_ble_eq_true rfl) (c_R_mayBegin (by omega) q2) ?_
    refine x_if_ne (tgt := 37) d_R_line_28 rfl (fun c4 => ?_) (fun c4 => ?_)
    · replace h := ite_f c4 h
      refine x_aload_n d_R_line_37 rfl 0 rfl ?_
      refine x_dup d_R_line_38 rfl ?_
      refine y_getI d_R_line_39 fl_1_34 rfl kd_2 ?_
      refine x_iconst d_R_line_42 ic_1 ?_
      refine x_iload_n d_R_line_43 rfl 1 rfl ?_
      refine x_ishl d_R_line_44 ?_
      refine x_ior d_R_line_45 ?_
      obtain ⟨S5, e6, h⟩ := lt_inv h
      refine y_putI e6 d_R_line_46 fl_1_34 rfl rfl kd_2 rfl rfl ?_
      refine x_aload_n d_R_line_49 rfl 0 rfl ?_
      refine y_getR d_R_line_50 fl_1_27 rfl kd_2 rr_2_2 ?_
      obtain ⟨S8, q7, h⟩ := bd_inv h
      refine y_V0v (S1 := S8) d_R_line_53 ml_1_60 kd_16 rfl (Nat.le_of_ble_eq_true rfl) (Nat.le_of_ble_eq_true rfl) (c_T_step (by omega) q7) ?_
      refine x_iload_n d_R_line_56 rfl 1 rfl ?_
      by_cases c9 : s0 = 0
      · replace h := ite_t c9 h
        refine x_tabC (tgt := 100) 0 d_R_line_57 (by rw [c9]; rfl) (by decide) rfl rfl ?_
        refine x_aload_n d_R_line_100 rfl 0 rfl ?_
        refine y_getR d_R_line_101 fl_1_18 rfl kd_2 rr_draft ?_
        obtain ⟨g10, h⟩ := gd_inv h
        refine x_aload_n d_R_line_104 rfl 0 rfl ?_
        refine x_iconst d_R_line_105 ic_1 ?_
        refine x_bipush d_R_line_106 bp_12 ?_
        obtain ⟨v12, S13, q11, h⟩ := bd2_inv h
        refine y_V2i (v := v12) (S1 := S13) d_R_line_108 ml_1_63 kd_2 rfl (Nat.le_of_ble_eq_true rfl) (Nat.le_of_ble_eq_true rfl) (c_R_number (by omega) q11) ?_
        obtain ⟨S14, e15, h⟩ := lt_inv h
        refine y_putI e15 d_R_line_111 fl_1_67 rfl rfl (ksSc g10) rfl rfl ?_
        refine x_goto (tgt := 203) d_R_line_114 rfl ?_
        refine x_aload_n d_R_line_203 rfl 0 rfl ?_
        refine x_bipush d_R_line_204 bp_59 ?_
        obtain ⟨S17, q16, h⟩ := bd_inv h
        refine y_V1v (S1 := S17) d_R_line_206 ml_1_91 kd_2 rfl (Nat.le_of_ble_eq_true rfl) (Nat.le_of_ble_eq_true rfl) (c_R_takeSign (by omega) q16) ?_
        obtain rfl := Option.some.inj h
        exact x_ret (r := none) d_R_line_209 rfl
      replace h := ite_f c9 h
      by_cases c18 : s0 = 1
      · replace h := ite_t c18 h
        refine x_tabC (tgt := 117) 1 d_R_line_57 (by rw [c18]; rfl) (by decide) rfl rfl ?_
        refine x_aload_n d_R_line_117 rfl 0 rfl ?_
        obtain ⟨S20, q19, h⟩ := bd_inv h
        refine y_V0v (S1 := S20) d_R_line_118 ml_1_70 kd_2 rfl (Nat.le_of_ble_eq_true rfl) (Nat.le_of_ble_eq_true rfl) (c_R_partLine (by omega) q19) ?_
        refine x_goto (tgt := 203) d_R_line_121 rfl ?_
        refine x_aload_n d_R_line_203 rfl 0 rfl ?_
        refine x_bipush d_R_line_204 bp_59 ?_
        obtain ⟨S22, q21, h⟩ := bd_inv h
        refine y_V1v (S1 := S22) d_R_line_206 ml_1_91 kd_2 rfl (Nat.le_of_ble_eq_true rfl) (Nat.le_of_ble_eq_true rfl) (c_R_takeSign (by omega) q21) ?_
        obtain rfl := Option.some.inj h
        exact x_ret (r := none) d_R_line_209 rfl
      replace h := ite_f c18 h
      by_cases c23 : s0 = 2
      · replace h := ite_t c23 h
        refine x_tabC (tgt := 124) 2 d_R_line_57 (by rw [c23]; rfl) (by decide) rfl rfl ?_
        refine x_aload_n d_R_line_124 rfl 0 rfl ?_
        obtain ⟨S25, q24, h⟩ := bd_inv h
        refine y_V0v (S1 := S25) d_R_line_125 ml_1_73 kd_2 rfl (Nat.le_of_ble_eq_true rfl) (Nat.le_of_ble_eq_true rfl) (c_R_noteLine (by omega) q24) ?_
        refine x_goto (tgt := 203) d_R_line_128 rfl ?_
        refine x_aload_n d_R_line_203 rfl 0 rfl ?_
        refine x_bipush d_R_line_204 bp_59 ?_
        obtain ⟨S27, q26, h⟩ := bd_inv h
        refine y_V1v (S1 := S27) d_R_line_206 ml_1_91 kd_2 rfl (Nat.le_of_ble_eq_true rfl) (Nat.le_of_ble_eq_true rfl) (c_R_takeSign (by omega) q26) ?_
        obtain rfl := Option.some.inj h
        exact x_ret (r := none) d_R_line_209 rfl
      replace h := ite_f c23 h
      by_cases c28 : s0 = 3
      · replace h := ite_t c28 h
        refine x_tabC (tgt := 131) 3 d_R_line_57 (by rw [c28]; rfl) (by decide) rfl rfl ?_
        refine x_aload_n d_R_line_131 rfl 0 rfl ?_
        refine x_iconst d_R_line_132 ic_0 ?_
        obtain ⟨S30, q29, h⟩ := bd_inv h
        refine y_V1v (S1 := S30) d_R_line_133 ml_1_76 kd_2 rfl (Nat.le_of_ble_eq_true rfl) (Nat.le_of_ble_eq_true rfl) (c_R_either (by omega) q29) ?_
        refine x_goto (tgt := 203) d_R_line_136 rfl ?_
        refine x_aload_n d_R_line_203 rfl 0 rfl ?_
        refine x_bipush d_R_line_204 bp_59 ?_
        obtain ⟨S32, q31, h⟩ := bd_inv h
        refine y_V1v (S1 := S32) d_R_line_206 ml_1_91 kd_2 rfl (Nat.le_of_ble_eq_true rfl) (Nat.le_of_ble_eq_true rfl) (c_R_takeSign (by omega) q31) ?_
        obtain rfl := Option.some.inj h
        exact x_ret (r := none) d_R_line_209 rfl
      replace h := ite_f c28 h
      by_cases c33 : s0 = 4
      · replace h := ite_t c33 h
        refine x_tabC (tgt := 139) 4 d_R_line_57 (by rw [c33]; rfl) (by decide) rfl rfl ?_
        refine x_aload_n d_R_line_139 rfl 0 rfl ?_
        refine y_getR d_R_line_140 fl_1_18 rfl kd_2 rr_draft ?_
        obtain ⟨g34, h⟩ := gd_inv h
        refine x_aload_n d_R_line_143 rfl 0 rfl ?_
        refine x_iconst d_R_line_144 ic_0 ?_
        refine x_bipush d_R_line_145 bp_87 ?_
        obtain ⟨v36, S37, q35, h⟩ := bd2_inv h
        refine y_V2i (v := v36) (S1 := S37) d_R_line_147 ml_1_63 kd_2 rfl (Nat.le_of_ble_eq_true rfl) (Nat.le_of_ble_eq_true rfl) (c_R_number (by omega) q35) ?_
        obtain ⟨S38, e39, h⟩ := lt_inv h
        refine y_putI e39 d_R_line_150 fl_1_79 rfl rfl (ksSc g34) rfl rfl ?_
        refine x_goto (tgt := 203) d_R_line_153 rfl ?_
        refine x_aload_n d_R_line_203 rfl 0 rfl ?_
        refine x_bipush d_R_line_204 bp_59 ?_
        obtain ⟨S41, q40, h⟩ := bd_inv h
        refine y_V1v (S1 := S41) d_R_line_206 ml_1_91 kd_2 rfl (Nat.le_of_ble_eq_true rfl) (Nat.le_of_ble_eq_true rfl) (c_R_takeSign (by omega) q40) ?_
        obtain rfl := Option.some.inj h
        exact x_ret (r := none) d_R_line_209 rfl
      replace h := ite_f c33 h
      by_cases c42 : s0 = 5
      · replace h := ite_t c42 h
        refine x_tabC (tgt := 156) 5 d_R_line_57 (by rw [c42]; rfl) (by decide) rfl rfl ?_
        refine x_aload_n d_R_line_156 rfl 0 rfl ?_
        refine y_getR d_R_line_157 fl_1_18 rfl kd_2 rr_draft ?_
        obtain ⟨g43, h⟩ := gd_inv h
        refine x_aload_n d_R_line_160 rfl 0 rfl ?_
        refine x_iconst d_R_line_161 ic_1 ?_
        refine x_iconst d_R_line_162 ic_5 ?_
        obtain ⟨v45, S46, q44, h⟩ := bd2_inv h
        refine y_V2i (v := v45) (S1 := S46) d_R_line_163 ml_1_63 kd_2 rfl (Nat.le_of_ble_eq_true rfl) (Nat.le_of_ble_eq_true rfl) (c_R_number (by omega) q44) ?_
        obtain ⟨S47, e48, h⟩ := lt_inv h
        refine y_putI e48 d_R_line_166 fl_1_82 rfl rfl (ksSc g43) rfl rfl ?_
        refine x_goto (tgt := 203) d_R_line_169 rfl ?_
        refine x_aload_n d_R_line_203 rfl 0 rfl ?_
        refine x_bipush d_R_line_204 bp_59 ?_
        obtain ⟨S50, q49, h⟩ := bd_inv h
        refine y_V1v (S1 := S50) d_R_line_206 ml_1_91 kd_2 rfl (Nat.le_of_ble_eq_true rfl) (Nat.le_of_ble_eq_true rfl) (c_R_takeSign (by omega) q49) ?_
        obtain rfl := Option.some.inj h
        exact x_ret (r := none) d_R_line_209 rfl
      replace h := ite_f c42 h
      by_cases c51 : s0 = 6
      · replace h := ite_t c51 h
        refine x_tabC (tgt := 172) 6 d_R_line_57 (by rw [c51]; rfl) (by decide) rfl rfl ?_
        refine x_aload_n d_R_line_172 rfl 0 rfl ?_
        refine y_getR d_R_line_173 fl_1_18 rfl kd_2 rr_draft ?_
        obtain ⟨g52, h⟩ := gd_inv h
        refine x_aload_n d_R_line_176 rfl 0 rfl ?_
        refine x_iconst d_R_line_177 ic_0 ?_
        refine x_bipush d_R_line_178 bp_87 ?_
        obtain ⟨v54, S55, q53, h⟩ := bd2_inv h
        refine y_V2i (v := v54) (S1 := S55) d_R_line_180 ml_1_63 kd_2 rfl (Nat.le_of_ble_eq_true rfl) (Nat.le_of_ble_eq_true rfl) (c_R_number (by omega) q53) ?_
        obtain ⟨S56, e57, h⟩ := lt_inv h
        refine y_putI e57 d_R_line_183 fl_1_85 rfl rfl (ksSc g52) rfl rfl ?_
        refine x_goto (tgt := 203) d_R_line_186 rfl ?_
        refine x_aload_n d_R_line_203 rfl 0 rfl ?_
        refine x_bipush d_R_line_204 bp_59 ?_
        obtain ⟨S59, q58, h⟩ := bd_inv h
        refine y_V1v (S1 := S59) d_R_line_206 ml_1_91 kd_2 rfl (Nat.le_of_ble_eq_true rfl) (Nat.le_of_ble_eq_true rfl) (c_R_takeSign (by omega) q58) ?_
        obtain rfl := Option.some.inj h
        exact x_ret (r := none) d_R_line_209 rfl
      replace h := ite_f c51 h
      refine x_tabD (tgt := 189) d_R_line_57 (by have := lv_neT c9 (show (0 : Int32).toInt = 0 from rfl); have := lv_neT c18 (show (1 : Int32).toInt = 1 from rfl); have := lv_neT c23 (show (2 : Int32).toInt = 2 from rfl); have := lv_neT c28 (show (3 : Int32).toInt = 3 from rfl); have := lv_neT c33 (show (4 : Int32).toInt = 4 from rfl); have := lv_neT c42 (show (5 : Int32).toInt = 5 from rfl); have := lv_neT c51 (show (6 : Int32).toInt = 6 from rfl); omega) rfl ?_
      refine x_aload_n d_R_line_189 rfl 0 rfl ?_
      refine y_getR d_R_line_190 fl_1_18 rfl kd_2 rr_draft ?_
      obtain ⟨g60, h⟩ := gd_inv h
      refine x_aload_n d_R_line_193 rfl 0 rfl ?_
      refine x_iconst d_R_line_194 ic_0 ?_
      refine x_bipush d_R_line_195 bp_9 ?_
      obtain ⟨v62, S63, q61, h⟩ := bd2_inv h
      refine y_V2i (v := v62) (S1 := S63) d_R_line_197 ml_1_63 kd_2 rfl (Nat.le_of_ble_eq_true rfl) (Nat.le_of_ble_eq_true rfl) (c_R_number (by omega) q61) ?_
      obtain ⟨S64, e65, h⟩ := lt_inv h
      refine y_putI e65 d_R_line_200 fl_1_88 rfl rfl (ksSc g60) rfl rfl ?_
      refine x_aload_n d_R_line_203 rfl 0 rfl ?_
      refine x_bipush d_R_line_204 bp_59 ?_
      obtain ⟨S67, q66, h⟩ := bd_inv h
      refine y_V1v (S1 := S67) d_R_line_206 ml_1_91 kd_2 rfl (Nat.le_of_ble_eq_true rfl) (Nat.le_of_ble_eq_true rfl) (c_R_takeSign (by omega) q66) ?_
      obtain rfl := Option.some.inj h
      exact x_ret (r := none) d_R_line_209 rfl
    · replace h := ite_t c4 h
      refine x_aload_n d_R_line_31 rfl 0 rfl ?_
      refine x_iconst d_R_line_32 ic_2 ?_
      obtain ⟨S69, q68, h⟩ := bd_inv h
      refine y_V1v (S1 := S69) d_R_line_33 ml_1_57 kd_2 rfl (Nat.le_of_ble_eq_true rfl) (Nat.le_of_ble_eq_true rfl) (c_R_refuse (by omega) q68) ?_
      obtain rfl := Option.some.inj h
      exact x_ret (r := none) d_R_line_36 rfl
  refine x_aload_n d_R_line_0 rfl 0 rfl ?_
  refine y_getR d_R_line_1 fl_1_27 rfl kd_2 rr_2_2 ?_
  refine y_getI d_R_line_4 fl_1_44 rfl kd_16 ?_
  refine x_iconst d_R_line_7 ic_1 ?_
  refine x_icmp_ne (tgt := 21) d_R_line_8 rfl (fun c1 => ?_) (fun c1 => ?_)
  · replace h := ite_f c1 h
    refine x_iconst d_R_line_21 ic_m1 ?_
    exact J22 S (-1 : Int32) _ h
  · replace h := ite_t c1 h
    refine x_aload_n d_R_line_11 rfl 0 rfl ?_
    refine y_getR d_R_line_12 fl_1_27 rfl kd_2 rr_2_2 ?_
    refine y_getI d_R_line_15 fl_1_50 rfl kd_16 ?_
    refine x_goto (tgt := 22) d_R_line_18 rfl ?_
    exact J22 S (S.1 16 5) _ h
/-! NinetyPlayers$Reader.reads -/
def b_R_reads_32 (F G : Nat) (rec : Int32 → St → Option (Int32 × St)) (w2 : Int32) (S : St) : Option (Int32 × St) :=
  if (1600 : Int32) ≤ w2 then if (S.1 2 0) = 0 then some ((1 : Int32), S) else some ((0 : Int32), S) else if (S.1 2 0) = 0 then if (S.1 16 4) = 0 then if (S.1 2 0) = 0 then some ((1 : Int32), S) else some ((0 : Int32), S) else bd (fR_line F G S ) fun S19 => lt (w2 + 1) fun v20 => rec v20 S19 else if (S.1 2 0) = 0 then some ((1 : Int32), S) else some ((0 : Int32), S)
def fR_reads (F G : Nat) (S : St) (p1 : Int32) : Option (Int32 × St) :=
  lt (sI S 2 0 (0 : Int32)) fun S1 => lt (sI S1 2 1 (-1 : Int32)) fun S3 => lt (sI S3 2 4 (0 : Int32)) fun S5 => gd (isSc S5.2.2.2) (bd (fS_forget F G S5 S5.2.2.2) fun S9 => bd (fT_begin F G S9 p1) fun S11 => fx2 (b_R_reads_32 F G ) F (0 : Int32) S11)
set_option maxRecDepth 100000 in
set_option maxHeartbeats 4000000 in
theorem T_R_reads_32 {X : Nat × (Nat → Int32)} {D F G : Nat} (hD : 11 + G ≤ D + 1) : ∀ (f : Nat) (w2 : Int32) (S : St) (res : Int32 × St), fx2 (b_R_reads_32 F G ) f w2 S = some res → Ek X (D + 1) mR_reads 32 [(0, .ref 2), (2, .int w2)] [] S (some (.int res.1)) res.2 := by
  refine fx2_ind ?_
  intro rec ih w2 S res h
  unfold b_R_reads_32 at h
  refine x_iload_n d_R_reads_32 rfl 1 rfl ?_
  refine x_sipush d_R_reads_33 sp_1600 ?_
  refine x_icmp_ge (tgt := 66) d_R_reads_36 rfl (fun c12 => ?_) (fun c12 => ?_)
  · replace h := ite_t c12 h
    refine x_aload_n d_R_reads_66 rfl 0 rfl ?_
    refine y_getI d_R_reads_67 fl_1_31 rfl kd_2 ?_
    refine x_if_ne (tgt := 77) d_R_reads_70 rfl (fun c13 => ?_) (fun c13 => ?_)
    · replace h := ite_f c13 h
      refine x_iconst d_R_reads_77 ic_0 ?_
      obtain rfl := Option.some.inj h
      exact x_ret (r := some (.int (0 : Int32))) d_R_reads_78 ⟨_, rfl, rfl⟩
    · replace h := ite_t c13 h
      refine x_iconst d_R_reads_73 ic_1 ?_
      refine x_goto (tgt := 78) d_R_reads_74 rfl ?_
      obtain rfl := Option.some.inj h
      exact x_ret (r := some (.int (1 : Int32))) d_R_reads_78 ⟨_, rfl, rfl⟩
  · replace h := ite_f c12 h
    refine x_aload_n d_R_reads_39 rfl 0 rfl ?_
    refine y_getI d_R_reads_40 fl_1_31 rfl kd_2 ?_
    refine x_if_ne (tgt := 66) d_R_reads_43 rfl (fun c14 => ?_) (fun c14 => ?_)
    · replace h := ite_f c14 h
      refine x_aload_n d_R_reads_66 rfl 0 rfl ?_
      refine y_getI d_R_reads_67 fl_1_31 rfl kd_2 ?_
      refine x_if_ne (tgt := 77) d_R_reads_70 rfl (fun c15 => ?_) (fun c15 => ?_)
      · replace h := ite_f c15 h
        refine x_iconst d_R_reads_77 ic_0 ?_
        obtain rfl := Option.some.inj h
        exact x_ret (r := some (.int (0 : Int32))) d_R_reads_78 ⟨_, rfl, rfl⟩
      · replace h := ite_t c15 h
        refine x_iconst d_R_reads_73 ic_1 ?_
        refine x_goto (tgt := 78) d_R_reads_74 rfl ?_
        obtain rfl := Option.some.inj h
        exact x_ret (r := some (.int (1 : Int32))) d_R_reads_78 ⟨_, rfl, rfl⟩
    · replace h := ite_t c14 h
      refine x_aload_n d_R_reads_46 rfl 0 rfl ?_
      refine y_getR d_R_reads_47 fl_1_27 rfl kd_2 rr_2_2 ?_
      refine y_getI d_R_reads_50 fl_1_44 rfl kd_16 ?_
      refine x_if_eq (tgt := 66) d_R_reads_53 rfl (fun c16 => ?_) (fun c16 => ?_)
      · replace h := ite_t c16 h
        refine x_aload_n d_R_reads_66 rfl 0 rfl ?_
        refine y_getI d_R_reads_67 fl_1_31 rfl kd_2 ?_
        refine x_if_ne (tgt := 77) d_R_reads_70 rfl (fun c17 => ?_) (fun c17 => ?_)
        · replace h := ite_f c17 h
          refine x_iconst d_R_reads_77 ic_0 ?_
          obtain rfl := Option.some.inj h
          exact x_ret (r := some (.int (0 : Int32))) d_R_reads_78 ⟨_, rfl, rfl⟩
        · replace h := ite_t c17 h
          refine x_iconst d_R_reads_73 ic_1 ?_
          refine x_goto (tgt := 78) d_R_reads_74 rfl ?_
          obtain rfl := Option.some.inj h
          exact x_ret (r := some (.int (1 : Int32))) d_R_reads_78 ⟨_, rfl, rfl⟩
      · replace h := ite_f c16 h
        refine x_aload_n d_R_reads_56 rfl 0 rfl ?_
        obtain ⟨S19, q18, h⟩ := bd_inv h
        refine y_V0v (S1 := S19) d_R_reads_57 ml_1_47 kd_2 rfl (Nat.le_of_ble_eq_true rfl) (Nat.le_of_ble_eq_true rfl) (c_R_line (by omega) q18) ?_
        obtain ⟨v20, e21, h⟩ := lt_inv h
        refine y_iinc (L1 := [(0, .ref 2), (2, .int v20)]) e21 ic_1 d_R_reads_60 1 rfl (Nat.le_of_ble_eq_true rfl) rfl rfl ?_
        refine x_goto (tgt := 32) d_R_reads_63 rfl ?_
        exact ih v20 S19 _ h
set_option maxRecDepth 100000 in
set_option maxHeartbeats 4000000 in
theorem c_R_reads {X : Nat × (Nat → Int32)} {D F G : Nat} (hD : 11 + G ≤ D) {S : St} {p1 : Int32} {res : Int32 × St} (h : fR_reads F G S p1 = some res) : Ek X (D) mR_reads 0 [(0, .ref 2), (1, .int p1)] [] S (some (.int res.1)) res.2 := by
  obtain ⟨D, rfl⟩ : ∃ E, D = E + 1 := ⟨D - 1, by omega⟩
  unfold fR_reads at h
  refine x_aload_n d_R_reads_0 rfl 0 rfl ?_
  refine x_iconst d_R_reads_1 ic_0 ?_
  obtain ⟨S1, e2, h⟩ := lt_inv h
  refine y_putI e2 d_R_reads_2 fl_1_31 rfl rfl kd_2 rfl rfl ?_
  refine x_aload_n d_R_reads_5 rfl 0 rfl ?_
  refine x_iconst d_R_reads_6 ic_m1 ?_
  obtain ⟨S3, e4, h⟩ := lt_inv h
  refine y_putI e4 d_R_reads_7 fl_1_9 rfl rfl kd_2 rfl rfl ?_
  refine x_aload_n d_R_reads_10 rfl 0 rfl ?_
  refine x_iconst d_R_reads_11 ic_0 ?_
  obtain ⟨S5, e6, h⟩ := lt_inv h
  refine y_putI e6 d_R_reads_12 fl_1_34 rfl rfl kd_2 rfl rfl ?_
  refine x_aload_n d_R_reads_15 rfl 0 rfl ?_
  refine y_getR d_R_reads_16 fl_1_18 rfl kd_2 rr_draft ?_
  obtain ⟨g7, h⟩ := gd_inv h
  obtain ⟨S9, q8, h⟩ := bd_inv h
  refine y_V0v (S1 := S9) d_R_reads_19 ml_1_37 (ksSc g7) rfl (Nat.le_of_ble_eq_true rfl) (Nat.le_of_ble_eq_true rfl) (c_S_forget (by omega) q8) ?_
  refine x_aload_n d_R_reads_22 rfl 0 rfl ?_
  refine y_getR d_R_reads_23 fl_1_27 rfl kd_2 rr_2_2 ?_
  refine x_iload_n d_R_reads_26 rfl 1 rfl ?_
  obtain ⟨S11, q10, h⟩ := bd_inv h
  refine y_V1v (S1 := S11) d_R_reads_27 ml_1_40 kd_16 rfl (Nat.le_of_ble_eq_true rfl) (Nat.le_of_ble_eq_true rfl) (c_T_begin (by omega) q10) ?_
  refine x_iconst d_R_reads_30 ic_0 ?_
  refine x_istore_n (L1 := [(0, .ref 2), (1, .int p1), (2, .int (0 : Int32))]) d_R_reads_31 rfl (Nat.le_of_ble_eq_true rfl) rfl rfl ?_
  refine y_pick (L1 := [(0, .ref 2), (2, .int (0 : Int32))]) [0, 2] rfl ?_
  refine T_R_reads_32 (by omega)   F (0 : Int32) S11 _ h
/-! NinetyPlayers$Reader.exchange -/
def fR_exchange (F G : Nat) (S : St) (o2 : Nat) : Option (Nat × St) :=
  gd (isSc o2) (gd (isSc S.2.2.2) (lt (sD S o2) fun S2 => some (S.2.2.2, S2)))
set_option maxRecDepth 100000 in
set_option maxHeartbeats 4000000 in
theorem c_R_exchange {X : Nat × (Nat → Int32)} {D F G : Nat} (hD : 0 ≤ D) {S : St} {o2 : Nat} {res : Nat × St} (h : fR_exchange F G S o2 = some res) : Ek X (D) mR_exchange 0 [(0, .ref 2), (1, .ref o2)] [] S (some (.ref res.1)) res.2 := by
  unfold fR_exchange at h
  obtain ⟨gg0, h⟩ := gd_inv h
  refine x_aload_n d_R_exchange_0 rfl 0 rfl ?_
  refine y_getR d_R_exchange_1 fl_1_18 rfl kd_2 rr_draft ?_
  obtain ⟨g1, h⟩ := gd_inv h
  refine x_astore_n (L1 := [(0, .ref 2), (1, .ref o2), (2, .ref S.2.2.2)]) d_R_exchange_4 rfl (Nat.le_of_ble_eq_true rfl) rfl rfl ?_
  refine x_aload_n d_R_exchange_5 rfl 0 rfl ?_
  refine x_aload_n d_R_exchange_6 rfl 1 rfl ?_
  obtain ⟨S2, e3, h⟩ := lt_inv h
  refine y_putD e3 d_R_exchange_7 fl_1_18 ?_
  refine x_aload_n d_R_exchange_10 rfl 2 rfl ?_
  obtain rfl := Option.some.inj h
  exact x_ret (r := some (.ref S.2.2.2)) d_R_exchange_11 ⟨_, rfl⟩
/-! NinetyPlayers$Laying.follow -/
def b_L_follow_7 (F G : Nat) (z0 : Nat) (z1 : Nat) (rec : Int32 → St → Option (St)) (w2 : Int32) (S : St) : Option (St) :=
  if (10 : Int32) ≤ w2 then some S else gd (inB w2 10) (lt (sI S (z0 + 1) w2.toNatClampNeg (0 : Int32)) fun S5 => gd (inB w2 10) (gd (inB w2 10) (lt (sI S5 (z0 + 2) w2.toNatClampNeg (S5.1 (z1 + 6) w2.toNatClampNeg)) fun S9 => gd (inB w2 10) (gd (inB w2 10) (lt (sI S9 (z0 + 3) w2.toNatClampNeg (S9.1 (z1 + 7) w2.toNatClampNeg)) fun S13 => gd (inB w2 10) (gd (inB w2 10) (lt (sI S13 (z0 + 4) w2.toNatClampNeg (S13.1 (z1 + 8) w2.toNatClampNeg)) fun S17 => lt (w2 + 1) fun v19 => rec v19 S17)))))))
def fL_follow (F G : Nat) (S : St) (o : Nat) (o2 : Nat) : Option (St) :=
  gd (isLa o) (gd (isSc o2) (lt (sI S o 1 (0 : Int32)) fun S1 => fx2 (b_L_follow_7 F G o o2) F (0 : Int32) S1))
set_option maxRecDepth 100000 in
set_option maxHeartbeats 4000000 in
theorem T_L_follow_7 {X : Nat × (Nat → Int32)} {D F G : Nat} (hD : 0 ≤ D) {z0 : Nat} {z1 : Nat} (hz0 : isLa z0 = true) (hz1 : isSc z1 = true) : ∀ (f : Nat) (w2 : Int32) (S : St) (res : St), fx2 (b_L_follow_7 F G z0 z1 ) f w2 S = some res → Ek X (D) mL_follow 7 [(0, .ref z0), (1, .ref z1), (2, .int w2)] [] S none res := by
  refine fx2_ind ?_
  intro rec ih w2 S res h
  unfold b_L_follow_7 at h
  refine x_iload_n d_L_follow_7 rfl 2 rfl ?_
  refine x_bipush d_L_follow_8 bp_10 ?_
  refine x_icmp_ge (tgt := 62) d_L_follow_10 rfl (fun c3 => ?_) (fun c3 => ?_)
  · replace h := ite_t c3 h
    obtain rfl := Option.some.inj h
    exact x_ret (r := none) d_L_follow_62 rfl
  · replace h := ite_f c3 h
    refine x_aload_n d_L_follow_13 rfl 0 rfl ?_
    refine y_getR d_L_follow_14 fl_5_9 rfl (ksLa hz0) (rrLa_2 hz0) ?_
    refine x_iload_n d_L_follow_17 rfl 2 rfl ?_
    refine x_iconst d_L_follow_18 ic_0 ?_
    obtain ⟨g4, h⟩ := gd_inv h
    obtain ⟨S5, e6, h⟩ := lt_inv h
    refine y_iast e6 d_L_follow_19 (ksLa_1 hz0) g4 ?_
    refine x_aload_n d_L_follow_20 rfl 0 rfl ?_
    refine y_getR d_L_follow_21 fl_5_15 rfl (ksLa hz0) (rrLa_3 hz0) ?_
    refine x_iload_n d_L_follow_24 rfl 2 rfl ?_
    refine x_aload_n d_L_follow_25 rfl 1 rfl ?_
    refine y_getR d_L_follow_26 fl_5_28 rfl (ksSc hz1) (rrSc_12 hz1) ?_
    refine x_iload_n d_L_follow_29 rfl 2 rfl ?_
    obtain ⟨g7, h⟩ := gd_inv h
    refine y_iald d_L_follow_30 (ksSc_6 hz1) g7 ?_
    obtain ⟨g8, h⟩ := gd_inv h
    obtain ⟨S9, e10, h⟩ := lt_inv h
    refine y_iast e10 d_L_follow_31 (ksLa_2 hz0) g8 ?_
    refine x_aload_n d_L_follow_32 rfl 0 rfl ?_
    refine y_getR d_L_follow_33 fl_5_18 rfl (ksLa hz0) (rrLa_4 hz0) ?_
    refine x_iload_n d_L_follow_36 rfl 2 rfl ?_
    refine x_aload_n d_L_follow_37 rfl 1 rfl ?_
    refine y_getR d_L_follow_38 fl_5_31 rfl (ksSc hz1) (rrSc_13 hz1) ?_
    refine x_iload_n d_L_follow_41 rfl 2 rfl ?_
    obtain ⟨g11, h⟩ := gd_inv h
    refine y_iald d_L_follow_42 (ksSc_7 hz1) g11 ?_
    obtain ⟨g12, h⟩ := gd_inv h
    obtain ⟨S13, e14, h⟩ := lt_inv h
    refine y_iast e14 d_L_follow_43 (ksLa_3 hz0) g12 ?_
    refine x_aload_n d_L_follow_44 rfl 0 rfl ?_
    refine y_getR d_L_follow_45 fl_5_21 rfl (ksLa hz0) (rrLa_5 hz0) ?_
    refine x_iload_n d_L_follow_48 rfl 2 rfl ?_
    refine x_aload_n d_L_follow_49 rfl 1 rfl ?_
    refine y_getR d_L_follow_50 fl_5_32 rfl (ksSc hz1) (rrSc_14 hz1) ?_
    refine x_iload_n d_L_follow_53 rfl 2 rfl ?_
    obtain ⟨g15, h⟩ := gd_inv h
    refine y_iald d_L_follow_54 (ksSc_8 hz1) g15 ?_
    obtain ⟨g16, h⟩ := gd_inv h
    obtain ⟨S17, e18, h⟩ := lt_inv h
    refine y_iast e18 d_L_follow_55 (ksLa_4 hz0) g16 ?_
    obtain ⟨v19, e20, h⟩ := lt_inv h
    refine y_iinc (L1 := [(0, .ref z0), (1, .ref z1), (2, .int v19)]) e20 ic_1 d_L_follow_56 2 rfl (Nat.le_of_ble_eq_true rfl) rfl rfl ?_
    refine x_goto (tgt := 7) d_L_follow_59 rfl ?_
    exact ih v19 S17 _ h
set_option maxRecDepth 100000 in
set_option maxHeartbeats 4000000 in
theorem c_L_follow {X : Nat × (Nat → Int32)} {D F G : Nat} (hD : 0 ≤ D) {S : St} {o : Nat} {o2 : Nat} {res : St} (h : fL_follow F G S o o2 = some res) : Ek X (D) mL_follow 0 [(0, .ref o), (1, .ref o2)] [] S none res := by
  unfold fL_follow at h
  obtain ⟨gg0, h⟩ := gd_inv h
  obtain ⟨gg1, h⟩ := gd_inv h
  refine x_aload_n d_L_follow_0 rfl 0 rfl ?_
  refine x_iconst d_L_follow_1 ic_0 ?_
  obtain ⟨S1, e2, h⟩ := lt_inv h
  refine y_putI e2 d_L_follow_2 fl_5_24 rfl rfl (ksLa gg0) rfl rfl ?_
  refine x_iconst d_L_follow_5 ic_0 ?_
  refine x_istore_n (L1 := [(0, .ref o), (1, .ref o2), (2, .int (0 : Int32))]) d_L_follow_6 rfl (Nat.le_of_ble_eq_true rfl) rfl rfl ?_
  refine T_L_follow_7 (by omega) gg0 gg1  F (0 : Int32) S1 _ h
/-! NinetyPlayers$Acts.forget -/
def fC_forget (F G : Nat) (S : St) : Option (St) :=
  lt (sI S 51 0 (0 : Int32)) fun S1 => lt (sI S1 51 1 (0 : Int32)) fun S3 => some S3
set_option maxRecDepth 100000 in
set_option maxHeartbeats 4000000 in
theorem c_C_forget {X : Nat × (Nat → Int32)} {D F G : Nat} (hD : 0 ≤ D) {S : St} {res : St} (h : fC_forget F G S  = some res) : Ek X (D) mC_forget 0 [(0, .ref 51)] [] S none res := by
  unfold fC_forget at h
  refine x_aload_n d_C_forget_0 rfl 0 rfl ?_
  refine x_iconst d_C_forget_1 ic_0 ?_
  obtain ⟨S1, e2, h⟩ := lt_inv h
  refine y_putI e2 d_C_forget_2 fl_6_24 rfl rfl kd_51 rfl rfl ?_
  refine x_aload_n d_C_forget_5 rfl 0 rfl ?_
  refine x_iconst d_C_forget_6 ic_0 ?_
  obtain ⟨S3, e4, h⟩ := lt_inv h
  refine y_putI e4 d_C_forget_7 fl_6_28 rfl rfl kd_51 rfl rfl ?_
  obtain rfl := Option.some.inj h
  exact x_ret (r := none) d_C_forget_10 rfl
/-! NinetyPlayers$Witness.forget -/
def fI_forget (F G : Nat) (S : St) : Option (St) :=
  lt (sI S 69 0 (0 : Int32)) fun S1 => some S1
set_option maxRecDepth 100000 in
set_option maxHeartbeats 4000000 in
theorem c_I_forget {X : Nat × (Nat → Int32)} {D F G : Nat} (hD : 0 ≤ D) {S : St} {res : St} (h : fI_forget F G S  = some res) : Ek X (D) mI_forget 0 [(0, .ref 69)] [] S none res := by
  unfold fI_forget at h
  refine x_aload_n d_I_forget_0 rfl 0 rfl ?_
  refine x_iconst d_I_forget_1 ic_0 ?_
  obtain ⟨S1, e2, h⟩ := lt_inv h
  refine y_putI e2 d_I_forget_2 fl_10_34 rfl rfl kd_69 rfl rfl ?_
  obtain rfl := Option.some.inj h
  exact x_ret (r := none) d_I_forget_5 rfl
/-! NinetyPlayers.score -/
def b_N_score_70 (F G : Nat) (rec : Int32 → St → Option (Int32 × St)) (w2 : Int32) (S : St) : Option (Int32 × St) :=
  if (Int32.ofNat 3) ≤ w2 then gd (isSc S.2.2.1) (some (S.1 S.2.2.1 6, S)) else gd (inB w2 3) (lt (sI S (36 + 5 * w2.toNatClampNeg) 0 (0 : Int32)) fun S26 => lt (w2 + 1) fun v28 => rec v28 S26)
def fN_score (F G : Nat) (S : St) : Option (Int32 × St) :=
  bd2 (fR_reads F G S (S.1 0 1)) fun v2 S3 => lt (sI S3 0 1 (0 : Int32)) fun S4 => if v2 = 0 then some ((-1 : Int32), S4) else gd (isSc S4.2.2.1) (bd2 (fR_exchange F G S4 S4.2.2.1) fun v9 S10 => gd (isSc v9) (lt (sT S10 v9) fun S12 => gd (isSc S12.2.2.1) (bd (fL_follow F G S12 30 S12.2.2.1) fun S16 => bd (fC_forget F G S16 ) fun S18 => bd (fI_forget F G S18 ) fun S20 => lt (sI S20 0 13 (0 : Int32)) fun S21 => fx2 (b_N_score_70 F G ) F (0 : Int32) S21)))
set_option maxRecDepth 100000 in
set_option maxHeartbeats 4000000 in
theorem T_N_score_70 {X : Nat × (Nat → Int32)} {D F G : Nat} (hD : 12 + G ≤ D + 1) : ∀ (f : Nat) (w2 : Int32) (S : St) (res : Int32 × St), fx2 (b_N_score_70 F G ) f w2 S = some res → Ek X (D + 1) mN_score 70 [(0, .ref 0), (2, .int w2)] [] S (some (.int res.1)) res.2 := by
  refine fx2_ind ?_
  intro rec ih w2 S res h
  unfold b_N_score_70 at h
  refine x_iload_n d_N_score_70 rfl 1 rfl ?_
  refine x_aload_n d_N_score_71 rfl 0 rfl ?_
  refine y_getR d_N_score_72 fl_0_36 rfl kd_0 rr_0_5 ?_
  refine x_alen5 d_N_score_75 kd_35 ?_
  refine x_icmp_ge (tgt := 95) d_N_score_76 rfl (fun c23 => ?_) (fun c23 => ?_)
  · replace h := ite_t c23 h
    refine x_aload_n d_N_score_95 rfl 0 rfl ?_
    refine y_getR d_N_score_96 fl_0_25 rfl kd_0 rr_told ?_
    obtain ⟨g24, h⟩ := gd_inv h
    refine y_getI d_N_score_99 fl_0_117 rfl (ksSc g24) ?_
    obtain rfl := Option.some.inj h
    exact x_ret (r := some (.int (S.1 S.2.2.1 6))) d_N_score_102 ⟨_, rfl, rfl⟩
  · replace h := ite_f c23 h
    refine x_aload_n d_N_score_79 rfl 0 rfl ?_
    refine y_getR d_N_score_80 fl_0_36 rfl kd_0 rr_0_5 ?_
    refine x_iload_n d_N_score_83 rfl 1 rfl ?_
    obtain ⟨g25, h⟩ := gd_inv h
    refine y_aald d_N_score_84 g25 ?_
    refine x_iconst d_N_score_85 ic_0 ?_
    obtain ⟨S26, e27, h⟩ := lt_inv h
    refine y_putI e27 d_N_score_86 fl_0_113 rfl rfl (ksLa (isLa_box (inB_lt g25))) rfl rfl ?_
    obtain ⟨v28, e29, h⟩ := lt_inv h
    refine y_iinc (L1 := [(0, .ref 0), (2, .int v28)]) e29 ic_1 d_N_score_89 1 rfl (Nat.le_of_ble_eq_true rfl) rfl rfl ?_
    refine x_goto (tgt := 70) d_N_score_92 rfl ?_
    exact ih v28 S26 _ h
set_option maxRecDepth 100000 in
set_option maxHeartbeats 4000000 in
theorem c_N_score {X : Nat × (Nat → Int32)} {D F G : Nat} (hD : 12 + G ≤ D) {S : St} {res : Int32 × St} (h : fN_score F G S  = some res) : Ek X (D) mN_score 0 [(0, .ref 0)] [] S (some (.int res.1)) res.2 := by
  obtain ⟨D, rfl⟩ : ∃ E, D = E + 1 := ⟨D - 1, by omega⟩
  unfold fN_score at h
  refine x_aload_n d_N_score_0 rfl 0 rfl ?_
  refine y_getR d_N_score_1 fl_0_18 rfl kd_0 rr_0_2 ?_
  refine x_aload_n d_N_score_4 rfl 0 rfl ?_
  refine y_getI d_N_score_5 fl_0_90 rfl kd_0 ?_
  obtain ⟨v2, S3, q1, h⟩ := bd2_inv h
  refine y_V1i (v := v2) (S1 := S3) d_N_score_8 ml_0_98 kd_2 rfl (Nat.le_of_ble_eq_true rfl) (Nat.le_of_ble_eq_true rfl) (c_R_reads (by omega) q1) ?_
  refine x_istore_n (L1 := [(0, .ref 0), (1, .int v2)]) d_N_score_11 rfl (Nat.le_of_ble_eq_true rfl) rfl rfl ?_
  refine x_aload_n d_N_score_12 rfl 0 rfl ?_
  refine x_iconst d_N_score_13 ic_0 ?_
  obtain ⟨S4, e5, h⟩ := lt_inv h
  refine y_putI e5 d_N_score_14 fl_0_90 rfl rfl kd_0 rfl rfl ?_
  refine x_iload_n d_N_score_17 rfl 1 rfl ?_
  refine x_if_ne (tgt := 23) d_N_score_18 rfl (fun c6 => ?_) (fun c6 => ?_)
  · replace h := ite_f c6 h
    refine x_aload_n d_N_score_23 rfl 0 rfl ?_
    refine x_aload_n d_N_score_24 rfl 0 rfl ?_
    refine y_getR d_N_score_25 fl_0_18 rfl kd_0 rr_0_2 ?_
    refine x_aload_n d_N_score_28 rfl 0 rfl ?_
    refine y_getR d_N_score_29 fl_0_25 rfl kd_0 rr_told ?_
    obtain ⟨g7, h⟩ := gd_inv h
    obtain ⟨v9, S10, q8, h⟩ := bd2_inv h
    refine y_V1r (v := v9) (S1 := S10) d_N_score_32 ml_0_102 kd_2 rfl (Nat.le_of_ble_eq_true rfl) (Nat.le_of_ble_eq_true rfl) (c_R_exchange (by omega) q8) ?_
    obtain ⟨g11, h⟩ := gd_inv h
    obtain ⟨S12, e13, h⟩ := lt_inv h
    refine y_putT e13 d_N_score_35 fl_0_25 ?_
    refine x_aload_n d_N_score_38 rfl 0 rfl ?_
    refine y_getR d_N_score_39 fl_0_32 rfl kd_0 rr_0_4 ?_
    refine x_aload_n d_N_score_42 rfl 0 rfl ?_
    refine y_getR d_N_score_43 fl_0_25 rfl kd_0 rr_told ?_
    obtain ⟨g14, h⟩ := gd_inv h
    obtain ⟨S16, q15, h⟩ := bd_inv h
    refine y_V1v (S1 := S16) d_N_score_46 ml_0_86 kd_30 rfl (Nat.le_of_ble_eq_true rfl) (Nat.le_of_ble_eq_true rfl) (c_L_follow (by omega) q15) ?_
    refine x_aload_n d_N_score_49 rfl 0 rfl ?_
    refine y_getR d_N_score_50 fl_0_43 rfl kd_0 rr_0_6 ?_
    obtain ⟨S18, q17, h⟩ := bd_inv h
    refine y_V0v (S1 := S18) d_N_score_53 ml_0_106 kd_51 rfl (Nat.le_of_ble_eq_true rfl) (Nat.le_of_ble_eq_true rfl) (c_C_forget (by omega) q17) ?_
    refine x_aload_n d_N_score_56 rfl 0 rfl ?_
    refine y_getR d_N_score_57 fl_0_79 rfl kd_0 rr_0_11 ?_
    obtain ⟨S20, q19, h⟩ := bd_inv h
    refine y_V0v (S1 := S20) d_N_score_60 ml_0_109 kd_69 rfl (Nat.le_of_ble_eq_true rfl) (Nat.le_of_ble_eq_true rfl) (c_I_forget (by omega) q19) ?_
    refine x_aload_n d_N_score_63 rfl 0 rfl ?_
    refine x_iconst d_N_score_64 ic_0 ?_
    obtain ⟨S21, e22, h⟩ := lt_inv h
    refine y_putI e22 d_N_score_65 fl_0_110 rfl rfl kd_0 rfl rfl ?_
    refine x_iconst d_N_score_68 ic_0 ?_
    refine x_istore_n (L1 := [(0, .ref 0), (1, .int v2), (2, .int (0 : Int32))]) d_N_score_69 rfl (Nat.le_of_ble_eq_true rfl) rfl rfl ?_
    refine y_pick (L1 := [(0, .ref 0), (2, .int (0 : Int32))]) [0, 2] rfl ?_
    refine T_N_score_70 (by omega)   F (0 : Int32) S21 _ h
  · replace h := ite_t c6 h
    refine x_iconst d_N_score_21 ic_m1 ?_
    obtain rfl := Option.some.inj h
    exact x_ret (r := some (.int (-1 : Int32))) d_N_score_22 ⟨_, rfl, rfl⟩
/-! NinetyPlayersModel.here -/
def fM_here (F G : Nat) (S : St) (p1 : Int32) : Option (Int32) :=
  if (S.1 78 5) ≤ ((S.1 78 4) + p1) then some (-1 : Int32) else gd (inB ((S.1 78 4) + p1) 1600) (some (S.1 79 ((S.1 78 4) + p1).toNatClampNeg))
set_option maxRecDepth 100000 in
set_option maxHeartbeats 4000000 in
theorem c_M_here {X : Nat × (Nat → Int32)} {D F G : Nat} (hD : 0 ≤ D) {S : St} {p1 : Int32} {res : Int32} (h : fM_here F G S p1 = some res) : Ek X (D) mM_here 0 [(0, .ref 78), (1, .int p1)] [] S (some (.int res)) S := by
  unfold fM_here at h
  refine x_aload_n d_M_here_0 rfl 0 rfl ?_
  refine y_getI d_M_here_1 fl_11_152 rfl kd_78 ?_
  refine x_iload_n d_M_here_4 rfl 1 rfl ?_
  refine x_iadd d_M_here_5 ?_
  refine x_aload_n d_M_here_6 rfl 0 rfl ?_
  refine y_getI d_M_here_7 fl_11_155 rfl kd_78 ?_
  refine x_icmp_ge (tgt := 27) d_M_here_10 rfl (fun c1 => ?_) (fun c1 => ?_)
  · replace h := ite_t c1 h
    refine x_iconst d_M_here_27 ic_m1 ?_
    obtain rfl := Option.some.inj h
    exact x_ret (r := some (.int (-1 : Int32))) d_M_here_28 ⟨_, rfl, rfl⟩
  · replace h := ite_f c1 h
    refine x_aload_n d_M_here_13 rfl 0 rfl ?_
    refine y_getR d_M_here_14 fl_11_7 rfl kd_78 rr_78_0 ?_
    refine x_aload_n d_M_here_17 rfl 0 rfl ?_
    refine y_getI d_M_here_18 fl_11_152 rfl kd_78 ?_
    refine x_iload_n d_M_here_21 rfl 1 rfl ?_
    refine x_iadd d_M_here_22 ?_
    obtain ⟨g2, h⟩ := gd_inv h
    refine y_iald d_M_here_23 kd_79 g2 ?_
    refine x_goto (tgt := 28) d_M_here_24 rfl ?_
    obtain rfl := Option.some.inj h
    exact x_ret (r := some (.int (S.1 79 ((S.1 78 4) + p1).toNatClampNeg))) d_M_here_28 ⟨_, rfl, rfl⟩
/-! NinetyPlayersModel.isLetter -/
def fM_isLetter (F G : Nat) (S : St) (p1 : Int32) : Option (Int32) :=
  if p1 < (97 : Int32) then some (0 : Int32) else if (122 : Int32) < p1 then some (0 : Int32) else some (1 : Int32)
set_option maxRecDepth 100000 in
set_option maxHeartbeats 4000000 in
theorem c_M_isLetter {X : Nat × (Nat → Int32)} {D F G : Nat} (hD : 0 ≤ D) {S : St} {p1 : Int32} {res : Int32} (h : fM_isLetter F G S p1 = some res) : Ek X (D) mM_isLetter 0 [(0, .int p1)] [] S (some (.int res)) S := by
  unfold fM_isLetter at h
  refine x_iload_n d_M_isLetter_0 rfl 0 rfl ?_
  refine x_bipush d_M_isLetter_1 bp_97 ?_
  refine x_icmp_lt (tgt := 16) d_M_isLetter_3 rfl (fun c1 => ?_) (fun c1 => ?_)
  · replace h := ite_t c1 h
    refine x_iconst d_M_isLetter_16 ic_0 ?_
    obtain rfl := Option.some.inj h
    exact x_ret (r := some (.int (0 : Int32))) d_M_isLetter_17 ⟨_, rfl, rfl⟩
  · replace h := ite_f c1 h
    refine x_iload_n d_M_isLetter_6 rfl 0 rfl ?_
    refine x_bipush d_M_isLetter_7 bp_122 ?_
    refine x_icmp_gt (tgt := 16) d_M_isLetter_9 rfl (fun c2 => ?_) (fun c2 => ?_)
    · replace h := ite_t c2 h
      refine x_iconst d_M_isLetter_16 ic_0 ?_
      obtain rfl := Option.some.inj h
      exact x_ret (r := some (.int (0 : Int32))) d_M_isLetter_17 ⟨_, rfl, rfl⟩
    · replace h := ite_f c2 h
      refine x_iconst d_M_isLetter_12 ic_1 ?_
      refine x_goto (tgt := 17) d_M_isLetter_13 rfl ?_
      obtain rfl := Option.some.inj h
      exact x_ret (r := some (.int (1 : Int32))) d_M_isLetter_17 ⟨_, rfl, rfl⟩
/-! NinetyPlayersModel.isDigit -/
def fM_isDigit (F G : Nat) (S : St) (p1 : Int32) : Option (Int32) :=
  if p1 < (48 : Int32) then some (0 : Int32) else if (57 : Int32) < p1 then some (0 : Int32) else some (1 : Int32)
set_option maxRecDepth 100000 in
set_option maxHeartbeats 4000000 in
theorem c_M_isDigit {X : Nat × (Nat → Int32)} {D F G : Nat} (hD : 0 ≤ D) {S : St} {p1 : Int32} {res : Int32} (h : fM_isDigit F G S p1 = some res) : Ek X (D) mM_isDigit 0 [(0, .int p1)] [] S (some (.int res)) S := by
  unfold fM_isDigit at h
  refine x_iload_n d_M_isDigit_0 rfl 0 rfl ?_
  refine x_bipush d_M_isDigit_1 bp_48 ?_
  refine x_icmp_lt (tgt := 16) d_M_isDigit_3 rfl (fun c1 => ?_) (fun c1 => ?_)
  · replace h := ite_t c1 h
    refine x_iconst d_M_isDigit_16 ic_0 ?_
    obtain rfl := Option.some.inj h
    exact x_ret (r := some (.int (0 : Int32))) d_M_isDigit_17 ⟨_, rfl, rfl⟩
  · replace h := ite_f c1 h
    refine x_iload_n d_M_isDigit_6 rfl 0 rfl ?_
    refine x_bipush d_M_isDigit_7 bp_57 ?_
    refine x_icmp_gt (tgt := 16) d_M_isDigit_9 rfl (fun c2 => ?_) (fun c2 => ?_)
    · replace h := ite_t c2 h
      refine x_iconst d_M_isDigit_16 ic_0 ?_
      obtain rfl := Option.some.inj h
      exact x_ret (r := some (.int (0 : Int32))) d_M_isDigit_17 ⟨_, rfl, rfl⟩
    · replace h := ite_f c2 h
      refine x_iconst d_M_isDigit_12 ic_1 ?_
      refine x_goto (tgt := 17) d_M_isDigit_13 rfl ?_
      obtain rfl := Option.some.inj h
      exact x_ret (r := some (.int (1 : Int32))) d_M_isDigit_17 ⟨_, rfl, rfl⟩
/-! NinetyPlayersModel.isSign -/
def fM_isSign (F G : Nat) (S : St) (p1 : Int32) : Option (Int32) :=
  if p1 = (59 : Int32) then some (1 : Int32) else if p1 = (40 : Int32) then some (1 : Int32) else if p1 = (41 : Int32) then some (1 : Int32) else if p1 = (60 : Int32) then some (1 : Int32) else if p1 = (62 : Int32) then some (1 : Int32) else if p1 = (61 : Int32) then some (1 : Int32) else if p1 = (43 : Int32) then some (1 : Int32) else if p1 = (45 : Int32) then some (1 : Int32) else if p1 = (42 : Int32) then some (1 : Int32) else if p1 = (47 : Int32) then some (1 : Int32) else if p1 = (37 : Int32) then some (1 : Int32) else some (0 : Int32)
set_option maxRecDepth 100000 in
set_option maxHeartbeats 4000000 in
theorem c_M_isSign {X : Nat × (Nat → Int32)} {D F G : Nat} (hD : 0 ≤ D) {S : St} {p1 : Int32} {res : Int32} (h : fM_isSign F G S p1 = some res) : Ek X (D) mM_isSign 0 [(0, .int p1)] [] S (some (.int res)) S := by
  unfold fM_isSign at h
  refine x_iload_n d_M_isSign_0 rfl 0 rfl ?_
  refine x_bipush d_M_isSign_1 bp_59 ?_
  refine x_icmp_eq (tgt := 66) d_M_isSign_3 rfl (fun c1 => ?_) (fun c1 => ?_)
  · replace h := ite_t c1 h
    refine x_iconst d_M_isSign_66 ic_1 ?_
    refine x_goto (tgt := 71) d_M_isSign_67 rfl ?_
    obtain rfl := Option.some.inj h
    exact x_ret (r := some (.int (1 : Int32))) d_M_isSign_71 ⟨_, rfl, rfl⟩
  · replace h := ite_f c1 h
    refine x_iload_n d_M_isSign_6 rfl 0 rfl ?_
    refine x_bipush d_M_isSign_7 bp_40 ?_
    refine x_icmp_eq (tgt := 66) d_M_isSign_9 rfl (fun c2 => ?_) (fun c2 => ?_)
    · replace h := ite_t c2 h
      refine x_iconst d_M_isSign_66 ic_1 ?_
      refine x_goto (tgt := 71) d_M_isSign_67 rfl ?_
      obtain rfl := Option.some.inj h
      exact x_ret (r := some (.int (1 : Int32))) d_M_isSign_71 ⟨_, rfl, rfl⟩
    · replace h := ite_f c2 h
      refine x_iload_n d_M_isSign_12 rfl 0 rfl ?_
      refine x_bipush d_M_isSign_13 bp_41 ?_
      refine x_icmp_eq (tgt := 66) d_M_isSign_15 rfl (fun c3 => ?_) (fun c3 => ?_)
      · replace h := ite_t c3 h
        refine x_iconst d_M_isSign_66 ic_1 ?_
        refine x_goto (tgt := 71) d_M_isSign_67 rfl ?_
        obtain rfl := Option.some.inj h
        exact x_ret (r := some (.int (1 : Int32))) d_M_isSign_71 ⟨_, rfl, rfl⟩
      · replace h := ite_f c3 h
        refine x_iload_n d_M_isSign_18 rfl 0 rfl ?_
        refine x_bipush d_M_isSign_19 bp_60 ?_
        refine x_icmp_eq (tgt := 66) d_M_isSign_21 rfl (fun c4 => ?_) (fun c4 => ?_)
        · replace h := ite_t c4 h
          refine x_iconst d_M_isSign_66 ic_1 ?_
          refine x_goto (tgt := 71) d_M_isSign_67 rfl ?_
          obtain rfl := Option.some.inj h
          exact x_ret (r := some (.int (1 : Int32))) d_M_isSign_71 ⟨_, rfl, rfl⟩
        · replace h := ite_f c4 h
          refine x_iload_n d_M_isSign_24 rfl 0 rfl ?_
          refine x_bipush d_M_isSign_25 bp_62 ?_
          refine x_icmp_eq (tgt := 66) d_M_isSign_27 rfl (fun c5 => ?_) (fun c5 => ?_)
          · replace h := ite_t c5 h
            refine x_iconst d_M_isSign_66 ic_1 ?_
            refine x_goto (tgt := 71) d_M_isSign_67 rfl ?_
            obtain rfl := Option.some.inj h
            exact x_ret (r := some (.int (1 : Int32))) d_M_isSign_71 ⟨_, rfl, rfl⟩
          · replace h := ite_f c5 h
            refine x_iload_n d_M_isSign_30 rfl 0 rfl ?_
            refine x_bipush d_M_isSign_31 bp_61 ?_
            refine x_icmp_eq (tgt := 66) d_M_isSign_33 rfl (fun c6 => ?_) (fun c6 => ?_)
            · replace h := ite_t c6 h
              refine x_iconst d_M_isSign_66 ic_1 ?_
              refine x_goto (tgt := 71) d_M_isSign_67 rfl ?_
              obtain rfl := Option.some.inj h
              exact x_ret (r := some (.int (1 : Int32))) d_M_isSign_71 ⟨_, rfl, rfl⟩
            · replace h := ite_f c6 h
              refine x_iload_n d_M_isSign_36 rfl 0 rfl ?_
              refine x_bipush d_M_isSign_37 bp_43 ?_
              refine x_icmp_eq (tgt := 66) d_M_isSign_39 rfl (fun c7 => ?_) (fun c7 => ?_)
              · replace h := ite_t c7 h
                refine x_iconst d_M_isSign_66 ic_1 ?_
                refine x_goto (tgt := 71) d_M_isSign_67 rfl ?_
                obtain rfl := Option.some.inj h
                exact x_ret (r := some (.int (1 : Int32))) d_M_isSign_71 ⟨_, rfl, rfl⟩
              · replace h := ite_f c7 h
                refine x_iload_n d_M_isSign_42 rfl 0 rfl ?_
                refine x_bipush d_M_isSign_43 bp_45 ?_
                refine x_icmp_eq (tgt := 66) d_M_isSign_45 rfl (fun c8 => ?_) (fun c8 => ?_)
                · replace h := ite_t c8 h
                  refine x_iconst d_M_isSign_66 ic_1 ?_
                  refine x_goto (tgt := 71) d_M_isSign_67 rfl ?_
                  obtain rfl := Option.some.inj h
                  exact x_ret (r := some (.int (1 : Int32))) d_M_isSign_71 ⟨_, rfl, rfl⟩
                · replace h := ite_f c8 h
                  refine x_iload_n d_M_isSign_48 rfl 0 rfl ?_
                  refine x_bipush d_M_isSign_49 bp_42 ?_
                  refine x_icmp_eq (tgt := 66) d_M_isSign_51 rfl (fun c9 => ?_) (fun c9 => ?_)
                  · replace h := ite_t c9 h
                    refine x_iconst d_M_isSign_66 ic_1 ?_
                    refine x_goto (tgt := 71) d_M_isSign_67 rfl ?_
                    obtain rfl := Option.some.inj h
                    exact x_ret (r := some (.int (1 : Int32))) d_M_isSign_71 ⟨_, rfl, rfl⟩
                  · replace h := ite_f c9 h
                    refine x_iload_n d_M_isSign_54 rfl 0 rfl ?_
                    refine x_bipush d_M_isSign_55 bp_47 ?_
                    refine x_icmp_eq (tgt := 66) d_M_isSign_57 rfl (fun c10 => ?_) (fun c10 => ?_)
                    · replace h := ite_t c10 h
                      refine x_iconst d_M_isSign_66 ic_1 ?_
                      refine x_goto (tgt := 71) d_M_isSign_67 rfl ?_
                      obtain rfl := Option.some.inj h
                      exact x_ret (r := some (.int (1 : Int32))) d_M_isSign_71 ⟨_, rfl, rfl⟩
                    · replace h := ite_f c10 h
                      refine x_iload_n d_M_isSign_60 rfl 0 rfl ?_
                      refine x_bipush d_M_isSign_61 bp_37 ?_
                      refine x_icmp_ne (tgt := 70) d_M_isSign_63 rfl (fun c11 => ?_) (fun c11 => ?_)
                      · replace h := ite_f c11 h
                        refine x_iconst d_M_isSign_70 ic_0 ?_
                        obtain rfl := Option.some.inj h
                        exact x_ret (r := some (.int (0 : Int32))) d_M_isSign_71 ⟨_, rfl, rfl⟩
                      · replace h := ite_t c11 h
                        refine x_iconst d_M_isSign_66 ic_1 ?_
                        refine x_goto (tgt := 71) d_M_isSign_67 rfl ?_
                        obtain rfl := Option.some.inj h
                        exact x_ret (r := some (.int (1 : Int32))) d_M_isSign_71 ⟨_, rfl, rfl⟩
/-! NinetyPlayersModel.token -/
def j_M_token_20 (F G : Nat) (k33 : St → Option (St)) (rec : St → Option (St)) (S : St) : Option (St) :=
  lt (sI S 78 4 ((S.1 78 4) + (1 : Int32))) fun S7 => rec S7
def b_M_token_0 (F G : Nat) (k33 : St → Option (St)) (rec : St → Option (St)) (S : St) : Option (St) :=
  bd (fM_here F G S (0 : Int32)) fun v2 => if v2 = (32 : Int32) then j_M_token_20 F G k33 rec  S  else bd (fM_here F G S (0 : Int32)) fun v5 => if v5 = (10 : Int32) then j_M_token_20 F G k33 rec  S  else k33 S
def b_M_token_144 (F G : Nat) (k186 : Int32 → St → Option (St)) (rec : Int32 → St → Option (St)) (w2 : Int32) (S : St) : Option (St) :=
  bd (fM_here F G S w2) fun v29 => bd (fM_isDigit F G S v29) fun v31 => if v31 = 0 then k186 w2 S else if (4 : Int32) ≤ w2 then lt (w2 + 1) fun v34 => rec v34 S else bd (fM_here F G S w2) fun v37 => lt (sI S 78 8 ((((10 : Int32) * (S.1 78 8)) + v37) - (48 : Int32))) fun S38 => lt (w2 + 1) fun v40 => rec v40 S38
def b_M_token_78 (F G : Nat) (k119 : Int32 → St → Option (St)) (rec : Int32 → St → Option (St)) (w2 : Int32) (S : St) : Option (St) :=
  bd (fM_here F G S w2) fun v51 => bd (fM_isLetter F G S v51) fun v53 => if v53 = 0 then k119 w2 S else if (8 : Int32) ≤ w2 then lt (w2 + 1) fun v56 => rec v56 S else bd (fM_here F G S w2) fun v59 => lt (sL S 78 9 (((S.2.1 78 9) <<< ((8 : Int32).toInt64 &&& 63)) ||| v59.toInt64)) fun S60 => lt (w2 + 1) fun v62 => rec v62 S60
def j_M_token_232 (F G : Nat) (S : St) (y2 : Int32) : Option (St) :=
  if (S.1 78 6) = (3 : Int32) then some S else lt (sI S 78 4 ((S.1 78 4) + y2)) fun S76 => some S76
def j_M_token_229 (F G : Nat) (S : St) (y2 : Int32) (s1 : Int32) : Option (St) :=
  lt (sI S 78 6 s1) fun S73 => j_M_token_232 F G  S73 y2
def j_M_token_208 (F G : Nat) (S : St) (y2 : Int32) (s1 : Int32) : Option (St) :=
  lt (sI S 78 6 s1) fun S71 => j_M_token_232 F G  S71 y2
def j_M_token_203 (F G : Nat) (S : St) (y2 : Int32) : Option (St) :=
  j_M_token_208 F G  S y2 (3 : Int32)
def j_M_token_131 (F G : Nat) (S : St) (y2 : Int32) (s1 : Int32) : Option (St) :=
  lt (sI S 78 6 s1) fun S69 => j_M_token_232 F G  S69 y2
def fM_token (F G : Nat) (S : St) : Option (St) :=
  fx1 (b_M_token_0 F G  (fun S9 => lt (sI S9 78 7 (S9.1 78 4)) fun S10 => bd (fM_here F G S10 (0 : Int32)) fun v13 => lt (sL S10 78 9 (0 : Int64)) fun S14 => lt (sI S14 78 8 (0 : Int32)) fun S16 => if 0 ≤ v13 then bd (fM_isLetter F G S16 v13) fun v20 => if v20 = 0 then bd (fM_isDigit F G S16 v13) fun v23 => if v23 = 0 then bd (fM_isSign F G S16 v13) fun v26 => if v26 = 0 then j_M_token_229 F G  S16 (1 : Int32) (3 : Int32) else j_M_token_229 F G  S16 (1 : Int32) v13 else fx2 (b_M_token_144 F G  (fun v42 S43 => if (4 : Int32) < v42 then j_M_token_203 F G  S43 v42 else bd (fM_here F G S43 v42) fun v46 => bd (fM_isLetter F G S43 v46) fun v48 => if v48 = 0 then j_M_token_208 F G  S43 v42 (2 : Int32) else j_M_token_203 F G  S43 v42)) F (0 : Int32) S16 else fx2 (b_M_token_78 F G  (fun v64 S65 => if v64 ≤ (8 : Int32) then j_M_token_131 F G  S65 v64 (1 : Int32) else j_M_token_131 F G  S65 v64 (3 : Int32))) F (0 : Int32) S16 else lt (sI S16 78 6 (0 : Int32)) fun S67 => j_M_token_232 F G  S67 (0 : Int32))) F S
set_option maxRecDepth 100000 in
set_option maxHeartbeats 4000000 in
theorem T_M_token_0 {X : Nat × (Nat → Int32)} {D F G : Nat} (hD : 1 ≤ D + 1) {k33 : St → Option (St)} (hk33 : ∀ (S1 : St) (res : St), k33 S1 = some res → Ek X (D + 1) mM_token 33 [(0, .ref 78)] [] S1 none res) : ∀ (f : Nat) (S : St) (res : St), fx1 (b_M_token_0 F G k33 ) f S = some res → Ek X (D + 1) mM_token 0 [(0, .ref 78)] [] S none res := by
  refine fx1_ind ?_
  intro rec ih S res h
  unfold b_M_token_0 at h
  have J20 : ∀ (S : St) (res : St), j_M_token_20 F G k33 rec S  = some res → Ek X (D + 1) mM_token 20 [(0, .ref 78)] [] S none res := by
    intro S  res h
    unfold j_M_token_20 at h
    refine x_aload_n d_M_token_20 rfl 0 rfl ?_
    refine x_dup d_M_token_21 rfl ?_
    refine y_getI d_M_token_22 fl_11_152 rfl kd_78 ?_
    refine x_iconst d_M_token_25 ic_1 ?_
    refine x_iadd d_M_token_26 ?_
    obtain ⟨S7, e8, h⟩ := lt_inv h
    refine y_putI e8 d_M_token_27 fl_11_152 rfl rfl kd_78 rfl rfl ?_
    refine x_goto (tgt := 0) d_M_token_30 rfl ?_
    exact ih S7 _ h
  refine x_aload_n d_M_token_0 rfl 0 rfl ?_
  refine x_iconst d_M_token_1 ic_0 ?_
  obtain ⟨v2, q1, h⟩ := bd_inv h
  refine y_V1i (v := v2) (S1 := S) d_M_token_2 ml_11_158 kd_78 rfl (Nat.le_of_ble_eq_true rfl) (Nat.le_of_ble_eq_true rfl) (c_M_here (by omega) q1) ?_
  refine x_bipush d_M_token_5 bp_32 ?_
  refine x_icmp_eq (tgt := 20) d_M_token_7 rfl (fun c3 => ?_) (fun c3 => ?_)
  · replace h := ite_t c3 h
    exact J20 S  _ h
  · replace h := ite_f c3 h
    refine x_aload_n d_M_token_10 rfl 0 rfl ?_
    refine x_iconst d_M_token_11 ic_0 ?_
    obtain ⟨v5, q4, h⟩ := bd_inv h
    refine y_V1i (v := v5) (S1 := S) d_M_token_12 ml_11_158 kd_78 rfl (Nat.le_of_ble_eq_true rfl) (Nat.le_of_ble_eq_true rfl) (c_M_here (by omega) q4) ?_
    refine x_bipush d_M_token_15 bp_10 ?_
    refine x_icmp_ne (tgt := 33) d_M_token_17 rfl (fun c6 => ?_) (fun c6 => ?_)
    · replace h := ite_f c6 h
      exact hk33 S _ h
    · replace h := ite_t c6 h
      exact J20 S  _ h
set_option maxRecDepth 100000 in
set_option maxHeartbeats 4000000 in
theorem T_M_token_144 {X : Nat × (Nat → Int32)} {D F G : Nat} (hD : 1 ≤ D + 1) {k186 : Int32 → St → Option (St)} (hk186 : ∀ (u2 : Int32) (S1 : St) (res : St), k186 u2 S1 = some res → Ek X (D + 1) mM_token 186 [(0, .ref 78), (2, .int u2)] [] S1 none res) : ∀ (f : Nat) (w2 : Int32) (S : St) (res : St), fx2 (b_M_token_144 F G k186 ) f w2 S = some res → Ek X (D + 1) mM_token 144 [(0, .ref 78), (2, .int w2)] [] S none res := by
  refine fx2_ind ?_
  intro rec ih w2 S res h
  unfold b_M_token_144 at h
  refine x_aload_n d_M_token_144 rfl 0 rfl ?_
  refine x_iload_n d_M_token_145 rfl 1 rfl ?_
  obtain ⟨v29, q28, h⟩ := bd_inv h
  refine y_V1i (v := v29) (S1 := S) d_M_token_146 ml_11_158 kd_78 rfl (Nat.le_of_ble_eq_true rfl) (Nat.le_of_ble_eq_true rfl) (c_M_here (by omega) q28) ?_
  obtain ⟨v31, q30, h⟩ := bd_inv h
  refine y_S1i (v := v31) (S1 := S) d_M_token_149 ml_11_179 (Nat.le_of_ble_eq_true rfl) (Nat.le_of_ble_eq_true rfl) (c_M_isDigit (by omega) q30) ?_
  refine x_if_eq (tgt := 186) d_M_token_152 rfl (fun c32 => ?_) (fun c32 => ?_)
  · replace h := ite_t c32 h
    exact hk186 w2 S _ h
  · replace h := ite_f c32 h
    refine x_iload_n d_M_token_155 rfl 1 rfl ?_
    refine x_iconst d_M_token_156 ic_4 ?_
    refine x_icmp_ge (tgt := 180) d_M_token_157 rfl (fun c33 => ?_) (fun c33 => ?_)
    · replace h := ite_t c33 h
      obtain ⟨v34, e35, h⟩ := lt_inv h
      refine y_iinc (L1 := [(0, .ref 78), (2, .int v34)]) e35 ic_1 d_M_token_180 1 rfl (Nat.le_of_ble_eq_true rfl) rfl rfl ?_
      refine x_goto (tgt := 144) d_M_token_183 rfl ?_
      exact ih v34 S _ h
    · replace h := ite_f c33 h
      refine x_aload_n d_M_token_160 rfl 0 rfl ?_
      refine x_bipush d_M_token_161 bp_10 ?_
      refine x_aload_n d_M_token_163 rfl 0 rfl ?_
      refine y_getI d_M_token_164 fl_11_169 rfl kd_78 ?_
      refine x_imul d_M_token_167 ?_
      refine x_aload_n d_M_token_168 rfl 0 rfl ?_
      refine x_iload_n d_M_token_169 rfl 1 rfl ?_
      obtain ⟨v37, q36, h⟩ := bd_inv h
      refine y_V1i (v := v37) (S1 := S) d_M_token_170 ml_11_158 kd_78 rfl (Nat.le_of_ble_eq_true rfl) (Nat.le_of_ble_eq_true rfl) (c_M_here (by omega) q36) ?_
      refine x_iadd d_M_token_173 ?_
      refine x_bipush d_M_token_174 bp_48 ?_
      refine x_isub d_M_token_176 ?_
      obtain ⟨S38, e39, h⟩ := lt_inv h
      refine y_putI e39 d_M_token_177 fl_11_169 rfl rfl kd_78 rfl rfl ?_
      obtain ⟨v40, e41, h⟩ := lt_inv h
      refine y_iinc (L1 := [(0, .ref 78), (2, .int v40)]) e41 ic_1 d_M_token_180 1 rfl (Nat.le_of_ble_eq_true rfl) rfl rfl ?_
      refine x_goto (tgt := 144) d_M_token_183 rfl ?_
      exact ih v40 S38 _ h
set_option maxRecDepth 100000 in
set_option maxHeartbeats 4000000 in
theorem T_M_token_78 {X : Nat × (Nat → Int32)} {D F G : Nat} (hD : 1 ≤ D + 1) {k119 : Int32 → St → Option (St)} (hk119 : ∀ (u2 : Int32) (S1 : St) (res : St), k119 u2 S1 = some res → Ek X (D + 1) mM_token 119 [(0, .ref 78), (2, .int u2)] [] S1 none res) : ∀ (f : Nat) (w2 : Int32) (S : St) (res : St), fx2 (b_M_token_78 F G k119 ) f w2 S = some res → Ek X (D + 1) mM_token 78 [(0, .ref 78), (2, .int w2)] [] S none res := by
  refine fx2_ind ?_
  intro rec ih w2 S res h
  unfold b_M_token_78 at h
  refine x_aload_n d_M_token_78 rfl 0 rfl ?_
  refine x_iload_n d_M_token_79 rfl 1 rfl ?_
  obtain ⟨v51, q50, h⟩ := bd_inv h
  refine y_V1i (v := v51) (S1 := S) d_M_token_80 ml_11_158 kd_78 rfl (Nat.le_of_ble_eq_true rfl) (Nat.le_of_ble_eq_true rfl) (c_M_here (by omega) q50) ?_
  obtain ⟨v53, q52, h⟩ := bd_inv h
  refine y_S1i (v := v53) (S1 := S) d_M_token_83 ml_11_175 (Nat.le_of_ble_eq_true rfl) (Nat.le_of_ble_eq_true rfl) (c_M_isLetter (by omega) q52) ?_
  refine x_if_eq (tgt := 119) d_M_token_86 rfl (fun c54 => ?_) (fun c54 => ?_)
  · replace h := ite_t c54 h
    exact hk119 w2 S _ h
  · replace h := ite_f c54 h
    refine x_iload_n d_M_token_89 rfl 1 rfl ?_
    refine x_bipush d_M_token_90 bp_8 ?_
    refine x_icmp_ge (tgt := 113) d_M_token_92 rfl (fun c55 => ?_) (fun c55 => ?_)
    · replace h := ite_t c55 h
      obtain ⟨v56, e57, h⟩ := lt_inv h
      refine y_iinc (L1 := [(0, .ref 78), (2, .int v56)]) e57 ic_1 d_M_token_113 1 rfl (Nat.le_of_ble_eq_true rfl) rfl rfl ?_
      refine x_goto (tgt := 78) d_M_token_116 rfl ?_
      exact ih v56 S _ h
    · replace h := ite_f c55 h
      refine x_aload_n d_M_token_95 rfl 0 rfl ?_
      refine x_aload_n d_M_token_96 rfl 0 rfl ?_
      refine y_getL d_M_token_97 fl_11_165 rfl kd_78 ?_
      refine x_bipush d_M_token_100 bp_8 ?_
      refine x_lshl d_M_token_102 ?_
      refine x_aload_n d_M_token_103 rfl 0 rfl ?_
      refine x_iload_n d_M_token_104 rfl 1 rfl ?_
      obtain ⟨v59, q58, h⟩ := bd_inv h
      refine y_V1i (v := v59) (S1 := S) d_M_token_105 ml_11_158 kd_78 rfl (Nat.le_of_ble_eq_true rfl) (Nat.le_of_ble_eq_true rfl) (c_M_here (by omega) q58) ?_
      refine x_i2l d_M_token_108 ?_
      refine x_lor d_M_token_109 ?_
      obtain ⟨S60, e61, h⟩ := lt_inv h
      refine y_putL e61 d_M_token_110 fl_11_165 rfl rfl kd_78 ?_
      obtain ⟨v62, e63, h⟩ := lt_inv h
      refine y_iinc (L1 := [(0, .ref 78), (2, .int v62)]) e63 ic_1 d_M_token_113 1 rfl (Nat.le_of_ble_eq_true rfl) rfl rfl ?_
      refine x_goto (tgt := 78) d_M_token_116 rfl ?_
      exact ih v62 S60 _ h
set_option maxRecDepth 100000 in
set_option maxHeartbeats 4000000 in
theorem c_M_token {X : Nat × (Nat → Int32)} {D F G : Nat} (hD : 1 ≤ D) {S : St} {res : St} (h : fM_token F G S  = some res) : Ek X (D) mM_token 0 [(0, .ref 78)] [] S none res := by
  obtain ⟨D, rfl⟩ : ∃ E, D = E + 1 := ⟨D - 1, by omega⟩
  unfold fM_token at h
  have J232 : ∀ (S : St) (y2 : Int32) (res : St), j_M_token_232 F G S y2 = some res → Ek X (D + 1) mM_token 232 [(0, .ref 78), (2, .int y2)] [] S none res := by
    intro S y2 res h
    unfold j_M_token_232 at h
    refine x_aload_n d_M_token_232 rfl 0 rfl ?_
    refine y_getI d_M_token_233 fl_11_172 rfl kd_78 ?_
    refine x_iconst d_M_token_236 ic_3 ?_
    refine x_icmp_eq (tgt := 250) d_M_token_237 rfl (fun c75 => ?_) (fun c75 => ?_)
    · replace h := ite_t c75 h
      obtain rfl := Option.some.inj h
      exact x_ret (r := none) d_M_token_250 rfl
    · replace h := ite_f c75 h
      refine x_aload_n d_M_token_240 rfl 0 rfl ?_
      refine x_dup d_M_token_241 rfl ?_
      refine y_getI d_M_token_242 fl_11_152 rfl kd_78 ?_
      refine x_iload_n d_M_token_245 rfl 1 rfl ?_
      refine x_iadd d_M_token_246 ?_
      obtain ⟨S76, e77, h⟩ := lt_inv h
      refine y_putI e77 d_M_token_247 fl_11_152 rfl rfl kd_78 rfl rfl ?_
      obtain rfl := Option.some.inj h
      exact x_ret (r := none) d_M_token_250 rfl
  have J229 : ∀ (S : St) (y2 : Int32) (s1 : Int32) (res : St), j_M_token_229 F G S y2 s1 = some res → Ek X (D + 1) mM_token 229 [(0, .ref 78), (2, .int y2)] [.int s1, .ref 78] S none res := by
    intro S y2 s1 res h
    unfold j_M_token_229 at h
    obtain ⟨S73, e74, h⟩ := lt_inv h
    refine y_putI e74 d_M_token_229 fl_11_172 rfl rfl kd_78 rfl rfl ?_
    exact J232 S73 y2 _ h
  have J208 : ∀ (S : St) (y2 : Int32) (s1 : Int32) (res : St), j_M_token_208 F G S y2 s1 = some res → Ek X (D + 1) mM_token 208 [(0, .ref 78), (2, .int y2)] [.int s1, .ref 78] S none res := by
    intro S y2 s1 res h
    unfold j_M_token_208 at h
    obtain ⟨S71, e72, h⟩ := lt_inv h
    refine y_putI e72 d_M_token_208 fl_11_172 rfl rfl kd_78 rfl rfl ?_
    refine x_goto (tgt := 232) d_M_token_211 rfl ?_
    exact J232 S71 y2 _ h
  have J203 : ∀ (S : St) (y2 : Int32) (res : St), j_M_token_203 F G S y2 = some res → Ek X (D + 1) mM_token 203 [(0, .ref 78), (2, .int y2)] [.ref 78] S none res := by
    intro S y2 res h
    unfold j_M_token_203 at h
    refine x_iconst d_M_token_203 ic_3 ?_
    refine x_goto (tgt := 208) d_M_token_204 rfl ?_
    exact J208 S y2 (3 : Int32) _ h
  have J131 : ∀ (S : St) (y2 : Int32) (s1 : Int32) (res : St), j_M_token_131 F G S y2 s1 = some res → Ek X (D + 1) mM_token 131 [(0, .ref 78), (2, .int y2)] [.int s1, .ref 78] S none res := by
    intro S y2 s1 res h
    unfold j_M_token_131 at h
    obtain ⟨S69, e70, h⟩ := lt_inv h
    refine y_putI e70 d_M_token_131 fl_11_172 rfl rfl kd_78 rfl rfl ?_
    refine x_goto (tgt := 232) d_M_token_134 rfl ?_
    exact J232 S69 y2 _ h
  refine T_M_token_0 (by omega)  ?_ F S _ h
  · intro S9 res h
    refine x_aload_n d_M_token_33 rfl 0 rfl ?_
    refine x_aload_n d_M_token_34 rfl 0 rfl ?_
    refine y_getI d_M_token_35 fl_11_152 rfl kd_78 ?_
    obtain ⟨S10, e11, h⟩ := lt_inv h
    refine y_putI e11 d_M_token_38 fl_11_162 rfl rfl kd_78 rfl rfl ?_
    refine x_aload_n d_M_token_41 rfl 0 rfl ?_
    refine x_iconst d_M_token_42 ic_0 ?_
    obtain ⟨v13, q12, h⟩ := bd_inv h
    refine y_V1i (v := v13) (S1 := S10) d_M_token_43 ml_11_158 kd_78 rfl (Nat.le_of_ble_eq_true rfl) (Nat.le_of_ble_eq_true rfl) (c_M_here (by omega) q12) ?_
    refine x_istore_n (L1 := [(0, .ref 78), (1, .int v13)]) d_M_token_46 rfl (Nat.le_of_ble_eq_true rfl) rfl rfl ?_
    refine x_iconst d_M_token_47 ic_0 ?_
    refine x_istore_n (L1 := [(0, .ref 78), (1, .int v13), (2, .int (0 : Int32))]) d_M_token_48 rfl (Nat.le_of_ble_eq_true rfl) rfl rfl ?_
    refine x_aload_n d_M_token_49 rfl 0 rfl ?_
    refine x_lconst (v := 0) d_M_token_50 rfl ?_
    obtain ⟨S14, e15, h⟩ := lt_inv h
    refine y_putL e15 d_M_token_51 fl_11_165 rfl rfl kd_78 ?_
    refine x_aload_n d_M_token_54 rfl 0 rfl ?_
    refine x_iconst d_M_token_55 ic_0 ?_
    obtain ⟨S16, e17, h⟩ := lt_inv h
    refine y_putI e17 d_M_token_56 fl_11_169 rfl rfl kd_78 rfl rfl ?_
    refine x_iload_n d_M_token_59 rfl 1 rfl ?_
    refine x_if_ge (tgt := 71) d_M_token_60 rfl (fun c18 => ?_) (fun c18 => ?_)
    · replace h := ite_t c18 h
      refine x_iload_n d_M_token_71 rfl 1 rfl ?_
      obtain ⟨v20, q19, h⟩ := bd_inv h
      refine y_S1i (v := v20) (S1 := S16) d_M_token_72 ml_11_175 (Nat.le_of_ble_eq_true rfl) (Nat.le_of_ble_eq_true rfl) (c_M_isLetter (by omega) q19) ?_
      refine x_if_eq (tgt := 137) d_M_token_75 rfl (fun c21 => ?_) (fun c21 => ?_)
      · replace h := ite_t c21 h
        refine x_iload_n d_M_token_137 rfl 1 rfl ?_
        obtain ⟨v23, q22, h⟩ := bd_inv h
        refine y_S1i (v := v23) (S1 := S16) d_M_token_138 ml_11_179 (Nat.le_of_ble_eq_true rfl) (Nat.le_of_ble_eq_true rfl) (c_M_isDigit (by omega) q22) ?_
        refine x_if_eq (tgt := 214) d_M_token_141 rfl (fun c24 => ?_) (fun c24 => ?_)
        · replace h := ite_t c24 h
          refine x_iconst d_M_token_214 ic_1 ?_
          refine x_istore_n (L1 := [(0, .ref 78), (1, .int v13), (2, .int (1 : Int32))]) d_M_token_215 rfl (Nat.le_of_ble_eq_true rfl) rfl rfl ?_
          refine x_aload_n d_M_token_216 rfl 0 rfl ?_
          refine x_iload_n d_M_token_217 rfl 1 rfl ?_
          obtain ⟨v26, q25, h⟩ := bd_inv h
          refine y_S1i (v := v26) (S1 := S16) d_M_token_218 ml_11_182 (Nat.le_of_ble_eq_true rfl) (Nat.le_of_ble_eq_true rfl) (c_M_isSign (by omega) q25) ?_
          refine x_if_eq (tgt := 228) d_M_token_221 rfl (fun c27 => ?_) (fun c27 => ?_)
          · replace h := ite_t c27 h
            refine x_iconst d_M_token_228 ic_3 ?_
            refine y_pick (L1 := [(0, .ref 78), (2, .int (1 : Int32))]) [0, 2] rfl ?_
            exact J229 S16 (1 : Int32) (3 : Int32) _ h
          · replace h := ite_f c27 h
            refine x_iload_n d_M_token_224 rfl 1 rfl ?_
            refine x_goto (tgt := 229) d_M_token_225 rfl ?_
            refine y_pick (L1 := [(0, .ref 78), (2, .int (1 : Int32))]) [0, 2] rfl ?_
            exact J229 S16 (1 : Int32) v13 _ h
        · replace h := ite_f c24 h
          refine y_pick (L1 := [(0, .ref 78), (2, .int (0 : Int32))]) [0, 2] rfl ?_
          refine T_M_token_144 (by omega)  ?_ F (0 : Int32) S16 _ h
          · intro v42 S43 res h
            refine x_aload_n d_M_token_186 rfl 0 rfl ?_
            refine x_iload_n d_M_token_187 rfl 1 rfl ?_
            refine x_iconst d_M_token_188 ic_4 ?_
            refine x_icmp_gt (tgt := 203) d_M_token_189 rfl (fun c44 => ?_) (fun c44 => ?_)
            · replace h := ite_t c44 h
              exact J203 S43 v42 _ h
            · replace h := ite_f c44 h
              refine x_aload_n d_M_token_192 rfl 0 rfl ?_
              refine x_iload_n d_M_token_193 rfl 1 rfl ?_
              obtain ⟨v46, q45, h⟩ := bd_inv h
              refine y_V1i (v := v46) (S1 := S43) d_M_token_194 ml_11_158 kd_78 rfl (Nat.le_of_ble_eq_true rfl) (Nat.le_of_ble_eq_true rfl) (c_M_here (by omega) q45) ?_
              obtain ⟨v48, q47, h⟩ := bd_inv h
              refine y_S1i (v := v48) (S1 := S43) d_M_token_197 ml_11_175 (Nat.le_of_ble_eq_true rfl) (Nat.le_of_ble_eq_true rfl) (c_M_isLetter (by omega) q47) ?_
              refine x_if_eq (tgt := 207) d_M_token_200 rfl (fun c49 => ?_) (fun c49 => ?_)
              · replace h := ite_t c49 h
                refine x_iconst d_M_token_207 ic_2 ?_
                exact J208 S43 v42 (2 : Int32) _ h
              · replace h := ite_f c49 h
                exact J203 S43 v42 _ h
      · replace h := ite_f c21 h
        refine y_pick (L1 := [(0, .ref 78), (2, .int (0 : Int32))]) [0, 2] rfl ?_
        refine T_M_token_78 (by omega)  ?_ F (0 : Int32) S16 _ h
        · intro v64 S65 res h
          refine x_aload_n d_M_token_119 rfl 0 rfl ?_
          refine x_iload_n d_M_token_120 rfl 1 rfl ?_
          refine x_bipush d_M_token_121 bp_8 ?_
          refine x_icmp_le (tgt := 130) d_M_token_123 rfl (fun c66 => ?_) (fun c66 => ?_)
          · replace h := ite_t c66 h
            refine x_iconst d_M_token_130 ic_1 ?_
            exact J131 S65 v64 (1 : Int32) _ h
          · replace h := ite_f c66 h
            refine x_iconst d_M_token_126 ic_3 ?_
            refine x_goto (tgt := 131) d_M_token_127 rfl ?_
            exact J131 S65 v64 (3 : Int32) _ h
    · replace h := ite_f c18 h
      refine x_aload_n d_M_token_63 rfl 0 rfl ?_
      refine x_iconst d_M_token_64 ic_0 ?_
      obtain ⟨S67, e68, h⟩ := lt_inv h
      refine y_putI e68 d_M_token_65 fl_11_172 rfl rfl kd_78 rfl rfl ?_
      refine x_goto (tgt := 232) d_M_token_68 rfl ?_
      refine y_pick (L1 := [(0, .ref 78), (2, .int (0 : Int32))]) [0, 2] rfl ?_
      exact J232 S67 (0 : Int32) _ h
/-! NinetyPlayersModel.isWord -/
def fM_isWord (F G : Nat) (S : St) (p1 : Int64) : Option (Int32) :=
  if (S.1 78 6) = (1 : Int32) then if (lg_cmp (S.2.1 78 9) p1) = 0 then some (1 : Int32) else some (0 : Int32) else some (0 : Int32)
set_option maxRecDepth 100000 in
set_option maxHeartbeats 4000000 in
theorem c_M_isWord {X : Nat × (Nat → Int32)} {D F G : Nat} (hD : 0 ≤ D) {S : St} {p1 : Int64} {res : Int32} (h : fM_isWord F G S p1 = some res) : Ek X (D) mM_isWord 0 [(0, .ref 78), (1, .long p1)] [] S (some (.int res)) S := by
  unfold fM_isWord at h
  refine x_aload_n d_M_isWord_0 rfl 0 rfl ?_
  refine y_getI d_M_isWord_1 fl_11_172 rfl kd_78 ?_
  refine x_iconst d_M_isWord_4 ic_1 ?_
  refine x_icmp_ne (tgt := 21) d_M_isWord_5 rfl (fun c1 => ?_) (fun c1 => ?_)
  · replace h := ite_f c1 h
    refine x_iconst d_M_isWord_21 ic_0 ?_
    obtain rfl := Option.some.inj h
    exact x_ret (r := some (.int (0 : Int32))) d_M_isWord_22 ⟨_, rfl, rfl⟩
  · replace h := ite_t c1 h
    refine x_aload_n d_M_isWord_8 rfl 0 rfl ?_
    refine y_getL d_M_isWord_9 fl_11_165 rfl kd_78 ?_
    refine x_lload_n d_M_isWord_12 rfl 1 rfl ?_
    refine x_lcmp d_M_isWord_13 ?_
    refine x_if_ne (tgt := 21) d_M_isWord_14 rfl (fun c2 => ?_) (fun c2 => ?_)
    · replace h := ite_f c2 h
      refine x_iconst d_M_isWord_21 ic_0 ?_
      obtain rfl := Option.some.inj h
      exact x_ret (r := some (.int (0 : Int32))) d_M_isWord_22 ⟨_, rfl, rfl⟩
    · replace h := ite_t c2 h
      refine x_iconst d_M_isWord_17 ic_1 ?_
      refine x_goto (tgt := 22) d_M_isWord_18 rfl ?_
      obtain rfl := Option.some.inj h
      exact x_ret (r := some (.int (1 : Int32))) d_M_isWord_22 ⟨_, rfl, rfl⟩
/-! NinetyPlayersModel.wrong -/
def j_M_wrong_22 (F G : Nat) (S : St) (s1 : Int32) : Option (St) :=
  lt (sI S 78 2 s1) fun S3 => lt (sI S3 78 3 (S3.1 78 7)) fun S5 => some S5
def fM_wrong (F G : Nat) (S : St) (p1 : Int32) : Option (St) :=
  if (S.1 78 2) ≤ 0 then if (S.1 78 6) = (3 : Int32) then j_M_wrong_22 F G  S (1 : Int32) else j_M_wrong_22 F G  S p1 else some S
set_option maxRecDepth 100000 in
set_option maxHeartbeats 4000000 in
theorem c_M_wrong {X : Nat × (Nat → Int32)} {D F G : Nat} (hD : 0 ≤ D) {S : St} {p1 : Int32} {res : St} (h : fM_wrong F G S p1 = some res) : Ek X (D) mM_wrong 0 [(0, .ref 78), (1, .int p1)] [] S none res := by
  unfold fM_wrong at h
  have J22 : ∀ (S : St) (s1 : Int32) (res : St), j_M_wrong_22 F G S s1 = some res → Ek X (D) mM_wrong 22 [(0, .ref 78)] [.int s1, .ref 78] S none res := by
    intro S s1 res h
    unfold j_M_wrong_22 at h
    obtain ⟨S3, e4, h⟩ := lt_inv h
    refine y_putI e4 d_M_wrong_22 fl_11_185 rfl rfl kd_78 rfl rfl ?_
    refine x_aload_n d_M_wrong_25 rfl 0 rfl ?_
    refine x_aload_n d_M_wrong_26 rfl 0 rfl ?_
    refine y_getI d_M_wrong_27 fl_11_162 rfl kd_78 ?_
    obtain ⟨S5, e6, h⟩ := lt_inv h
    refine y_putI e6 d_M_wrong_30 fl_11_13 rfl rfl kd_78 rfl rfl ?_
    obtain rfl := Option.some.inj h
    exact x_ret (r := none) d_M_wrong_33 rfl
  refine x_aload_n d_M_wrong_0 rfl 0 rfl ?_
  refine y_getI d_M_wrong_1 fl_11_185 rfl kd_78 ?_
  refine x_if_le (tgt := 8) d_M_wrong_4 rfl (fun c1 => ?_) (fun c1 => ?_)
  · replace h := ite_t c1 h
    refine x_aload_n d_M_wrong_8 rfl 0 rfl ?_
    refine x_aload_n d_M_wrong_9 rfl 0 rfl ?_
    refine y_getI d_M_wrong_10 fl_11_172 rfl kd_78 ?_
    refine x_iconst d_M_wrong_13 ic_3 ?_
    refine x_icmp_ne (tgt := 21) d_M_wrong_14 rfl (fun c2 => ?_) (fun c2 => ?_)
    · replace h := ite_f c2 h
      refine x_iload_n d_M_wrong_21 rfl 1 rfl ?_
      refine y_pick (L1 := [(0, .ref 78)]) [0] rfl ?_
      exact J22 S p1 _ h
    · replace h := ite_t c2 h
      refine x_iconst d_M_wrong_17 ic_1 ?_
      refine x_goto (tgt := 22) d_M_wrong_18 rfl ?_
      refine y_pick (L1 := [(0, .ref 78)]) [0] rfl ?_
      exact J22 S (1 : Int32) _ h
  · replace h := ite_f c1 h
    obtain rfl := Option.some.inj h
    exact x_ret (r := none) d_M_wrong_7 rfl
/-! NinetyPlayersModel.want -/
def fM_want (F G : Nat) (S : St) (p1 : Int64) : Option (St) :=
  if (S.1 78 2) ≤ 0 then bd (fM_isWord F G S p1) fun v3 => if v3 = 0 then bd (fM_wrong F G S (2 : Int32)) fun S8 => some S8 else bd (fM_token F G S ) fun S6 => some S6 else some S
set_option maxRecDepth 100000 in
set_option maxHeartbeats 4000000 in
theorem c_M_want {X : Nat × (Nat → Int32)} {D F G : Nat} (hD : 2 ≤ D) {S : St} {p1 : Int64} {res : St} (h : fM_want F G S p1 = some res) : Ek X (D) mM_want 0 [(0, .ref 78), (1, .long p1)] [] S none res := by
  obtain ⟨D, rfl⟩ : ∃ E, D = E + 1 := ⟨D - 1, by omega⟩
  unfold fM_want at h
  refine x_aload_n d_M_want_0 rfl 0 rfl ?_
  refine y_getI d_M_want_1 fl_11_185 rfl kd_78 ?_
  refine x_if_le (tgt := 8) d_M_want_4 rfl (fun c1 => ?_) (fun c1 => ?_)
  · replace h := ite_t c1 h
    refine x_aload_n d_M_want_8 rfl 0 rfl ?_
    refine x_lload_n d_M_want_9 rfl 1 rfl ?_
    obtain ⟨v3, q2, h⟩ := bd_inv h
    refine y_V1i (v := v3) (S1 := S) d_M_want_10 ml_11_234 kd_78 rfl (Nat.le_of_ble_eq_true rfl) (Nat.le_of_ble_eq_true rfl) (c_M_isWord (by omega) q2) ?_
    refine x_if_ne (tgt := 24) d_M_want_13 rfl (fun c4 => ?_) (fun c4 => ?_)
    · replace h := ite_f c4 h
      refine x_aload_n d_M_want_24 rfl 0 rfl ?_
      obtain ⟨S6, q5, h⟩ := bd_inv h
      refine y_V0v (S1 := S6) d_M_want_25 ml_11_241 kd_78 rfl (Nat.le_of_ble_eq_true rfl) (Nat.le_of_ble_eq_true rfl) (c_M_token (by omega) q5) ?_
      obtain rfl := Option.some.inj h
      exact x_ret (r := none) d_M_want_28 rfl
    · replace h := ite_t c4 h
      refine x_aload_n d_M_want_16 rfl 0 rfl ?_
      refine x_iconst d_M_want_17 ic_2 ?_
      obtain ⟨S8, q7, h⟩ := bd_inv h
      refine y_V1v (S1 := S8) d_M_want_18 ml_11_238 kd_78 rfl (Nat.le_of_ble_eq_true rfl) (Nat.le_of_ble_eq_true rfl) (c_M_wrong (by omega) q7) ?_
      refine x_goto (tgt := 28) d_M_want_21 rfl ?_
      obtain rfl := Option.some.inj h
      exact x_ret (r := none) d_M_want_28 rfl
  · replace h := ite_f c1 h
    obtain rfl := Option.some.inj h
    exact x_ret (r := none) d_M_want_7 rfl
/-! NinetyPlayersModel.toldNumber -/
def j_M_toldNumber_46 (F G : Nat) (S : St) : Option (Int32 × St) :=
  lt (S.1 78 8) fun v9 => if (S.1 78 2) = 0 then bd (fM_token F G S ) fun S13 => some (v9, S13) else some (v9, S)
def j_M_toldNumber_41 (F G : Nat) (S : St) : Option (Int32 × St) :=
  bd (fM_wrong F G S (4 : Int32)) fun S8 => j_M_toldNumber_46 F G  S8 
def fM_toldNumber (F G : Nat) (S : St) (p1 : Int32) (p2 : Int32) : Option (Int32 × St) :=
  if (S.1 78 2) ≤ 0 then if (S.1 78 6) = (2 : Int32) then if (S.1 78 8) < p1 then j_M_toldNumber_41 F G  S  else if (S.1 78 8) ≤ p2 then j_M_toldNumber_46 F G  S  else j_M_toldNumber_41 F G  S  else bd (fM_wrong F G S (2 : Int32)) fun S6 => j_M_toldNumber_46 F G  S6  else some ((0 : Int32), S)
set_option maxRecDepth 100000 in
set_option maxHeartbeats 4000000 in
theorem c_M_toldNumber {X : Nat × (Nat → Int32)} {D F G : Nat} (hD : 2 ≤ D) {S : St} {p1 : Int32} {p2 : Int32} {res : Int32 × St} (h : fM_toldNumber F G S p1 p2 = some res) : Ek X (D) mM_toldNumber 0 [(0, .ref 78), (1, .int p1), (2, .int p2)] [] S (some (.int res.1)) res.2 := by
  obtain ⟨D, rfl⟩ : ∃ E, D = E + 1 := ⟨D - 1, by omega⟩
  unfold fM_toldNumber at h
  have J46 : ∀ (S : St) (res : Int32 × St), j_M_toldNumber_46 F G S  = some res → Ek X (D + 1) mM_toldNumber 46 [(0, .ref 78)] [] S (some (.int res.1)) res.2 := by
    intro S  res h
    unfold j_M_toldNumber_46 at h
    refine x_aload_n d_M_toldNumber_46 rfl 0 rfl ?_
    refine y_getI d_M_toldNumber_47 fl_11_169 rfl kd_78 ?_
    obtain ⟨v9, e10, h⟩ := lt_inv h
    refine y_istore_n (L1 := [(0, .ref 78), (3, .int v9)]) e10 d_M_toldNumber_50 rfl (Nat.le_of_ble_eq_true rfl) rfl rfl ?_
    refine x_aload_n d_M_toldNumber_51 rfl 0 rfl ?_
    refine y_getI d_M_toldNumber_52 fl_11_185 rfl kd_78 ?_
    refine x_if_ne (tgt := 62) d_M_toldNumber_55 rfl (fun c11 => ?_) (fun c11 => ?_)
    · replace h := ite_f c11 h
      refine x_iload_n d_M_toldNumber_62 rfl 1 rfl ?_
      obtain rfl := Option.some.inj h
      exact x_ret (r := some (.int v9)) d_M_toldNumber_63 ⟨_, rfl, rfl⟩
    · replace h := ite_t c11 h
      refine x_aload_n d_M_toldNumber_58 rfl 0 rfl ?_
      obtain ⟨S13, q12, h⟩ := bd_inv h
      refine y_V0v (S1 := S13) d_M_toldNumber_59 ml_11_241 kd_78 rfl (Nat.le_of_ble_eq_true rfl) (Nat.le_of_ble_eq_true rfl) (c_M_token (by omega) q12) ?_
      refine x_iload_n d_M_toldNumber_62 rfl 1 rfl ?_
      obtain rfl := Option.some.inj h
      exact x_ret (r := some (.int v9)) d_M_toldNumber_63 ⟨_, rfl, rfl⟩
  have J41 : ∀ (S : St) (res : Int32 × St), j_M_toldNumber_41 F G S  = some res → Ek X (D + 1) mM_toldNumber 41 [(0, .ref 78)] [] S (some (.int res.1)) res.2 := by
    intro S  res h
    unfold j_M_toldNumber_41 at h
    refine x_aload_n d_M_toldNumber_41 rfl 0 rfl ?_
    refine x_iconst d_M_toldNumber_42 ic_4 ?_
    obtain ⟨S8, q7, h⟩ := bd_inv h
    refine y_V1v (S1 := S8) d_M_toldNumber_43 ml_11_238 kd_78 rfl (Nat.le_of_ble_eq_true rfl) (Nat.le_of_ble_eq_true rfl) (c_M_wrong (by omega) q7) ?_
    exact J46 S8  _ h
  refine x_aload_n d_M_toldNumber_0 rfl 0 rfl ?_
  refine y_getI d_M_toldNumber_1 fl_11_185 rfl kd_78 ?_
  refine x_if_le (tgt := 9) d_M_toldNumber_4 rfl (fun c1 => ?_) (fun c1 => ?_)
  · replace h := ite_t c1 h
    refine x_aload_n d_M_toldNumber_9 rfl 0 rfl ?_
    refine y_getI d_M_toldNumber_10 fl_11_172 rfl kd_78 ?_
    refine x_iconst d_M_toldNumber_13 ic_2 ?_
    refine x_icmp_eq (tgt := 25) d_M_toldNumber_14 rfl (fun c2 => ?_) (fun c2 => ?_)
    · replace h := ite_t c2 h
      refine x_aload_n d_M_toldNumber_25 rfl 0 rfl ?_
      refine y_getI d_M_toldNumber_26 fl_11_169 rfl kd_78 ?_
      refine x_iload_n d_M_toldNumber_29 rfl 1 rfl ?_
      refine x_icmp_lt (tgt := 41) d_M_toldNumber_30 rfl (fun c3 => ?_) (fun c3 => ?_)
      · replace h := ite_t c3 h
        refine y_pick (L1 := [(0, .ref 78)]) [0] rfl ?_
        exact J41 S  _ h
      · replace h := ite_f c3 h
        refine x_aload_n d_M_toldNumber_33 rfl 0 rfl ?_
        refine y_getI d_M_toldNumber_34 fl_11_169 rfl kd_78 ?_
        refine x_iload_n d_M_toldNumber_37 rfl 2 rfl ?_
        refine x_icmp_le (tgt := 46) d_M_toldNumber_38 rfl (fun c4 => ?_) (fun c4 => ?_)
        · replace h := ite_t c4 h
          refine y_pick (L1 := [(0, .ref 78)]) [0] rfl ?_
          exact J46 S  _ h
        · replace h := ite_f c4 h
          refine y_pick (L1 := [(0, .ref 78)]) [0] rfl ?_
          exact J41 S  _ h
    · replace h := ite_f c2 h
      refine x_aload_n d_M_toldNumber_17 rfl 0 rfl ?_
      refine x_iconst d_M_toldNumber_18 ic_2 ?_
      obtain ⟨S6, q5, h⟩ := bd_inv h
      refine y_V1v (S1 := S6) d_M_toldNumber_19 ml_11_238 kd_78 rfl (Nat.le_of_ble_eq_true rfl) (Nat.le_of_ble_eq_true rfl) (c_M_wrong (by omega) q5) ?_
      refine x_goto (tgt := 46) d_M_toldNumber_22 rfl ?_
      refine y_pick (L1 := [(0, .ref 78)]) [0] rfl ?_
      exact J46 S6  _ h
  · replace h := ite_f c1 h
    refine x_iconst d_M_toldNumber_7 ic_0 ?_
    obtain rfl := Option.some.inj h
    exact x_ret (r := some (.int (0 : Int32))) d_M_toldNumber_8 ⟨_, rfl, rfl⟩
/-! NinetyPlayersModel.told -/
def fM_told (F G : Nat) (S : St) (p1 : Int64) (p2 : Int32) (p3 : Int32) : Option (Int32 × St) :=
  bd (fM_want F G S p1) fun S2 => bd2 (fM_toldNumber F G S2 p2 p3) fun v4 S5 => some (v4, S5)
set_option maxRecDepth 100000 in
set_option maxHeartbeats 4000000 in
theorem c_M_told {X : Nat × (Nat → Int32)} {D F G : Nat} (hD : 3 ≤ D) {S : St} {p1 : Int64} {p2 : Int32} {p3 : Int32} {res : Int32 × St} (h : fM_told F G S p1 p2 p3 = some res) : Ek X (D) mM_told 0 [(0, .ref 78), (1, .long p1), (3, .int p2), (4, .int p3)] [] S (some (.int res.1)) res.2 := by
  obtain ⟨D, rfl⟩ : ∃ E, D = E + 1 := ⟨D - 1, by omega⟩
  unfold fM_told at h
  refine x_aload_n d_M_told_0 rfl 0 rfl ?_
  refine x_lload_n d_M_told_1 rfl 1 rfl ?_
  obtain ⟨S2, q1, h⟩ := bd_inv h
  refine y_V1v (S1 := S2) d_M_told_2 ml_11_244 kd_78 rfl (Nat.le_of_ble_eq_true rfl) (Nat.le_of_ble_eq_true rfl) (c_M_want (by omega) q1) ?_
  refine x_aload_n d_M_told_5 rfl 0 rfl ?_
  refine x_iload_n d_M_told_6 rfl 2 rfl ?_
  refine x_iload d_M_told_7 3 rfl ?_
  obtain ⟨v4, S5, q3, h⟩ := bd2_inv h
  refine y_V2i (v := v4) (S1 := S5) d_M_told_9 ml_11_248 kd_78 rfl (Nat.le_of_ble_eq_true rfl) (Nat.le_of_ble_eq_true rfl) (c_M_toldNumber (by omega) q3) ?_
  obtain rfl := Option.some.inj h
  exact x_ret (r := some (.int v4)) d_M_told_12 ⟨_, rfl, rfl⟩
/-! NinetyPlayersModel.isOwn -/
def fM_isOwn (F G : Nat) (S : St) : Option (Int32) :=
  if (lg_cmp (S.2.1 78 9) (422607680627 : Int64)) = 0 then some (1 : Int32) else if (lg_cmp (S.2.1 78 9) (1885434484 : Int64)) = 0 then some (1 : Int32) else if (lg_cmp (S.2.1 78 9) (1953853029 : Int64)) = 0 then some (1 : Int32) else if (lg_cmp (S.2.1 78 9) (1650553715 : Int64)) = 0 then some (1 : Int32) else if (lg_cmp (S.2.1 78 9) (1852798053 : Int64)) = 0 then some (1 : Int32) else if (lg_cmp (S.2.1 78 9) (28518 : Int64)) = 0 then some (1 : Int32) else if (lg_cmp (S.2.1 78 9) (24948 : Int64)) = 0 then some (1 : Int32) else if (lg_cmp (S.2.1 78 9) (7038329 : Int64)) = 0 then some (1 : Int32) else if (lg_cmp (S.2.1 78 9) (1819242087 : Int64)) = 0 then some (1 : Int32) else if (lg_cmp (S.2.1 78 9) (1819243876 : Int64)) = 0 then some (1 : Int32) else if (lg_cmp (S.2.1 78 9) (120299675936100 : Int64)) = 0 then some (1 : Int32) else if (lg_cmp (S.2.1 78 9) (1936744814 : Int64)) = 0 then some (1 : Int32) else if (lg_cmp (S.2.1 78 9) (28826370526507635 : Int64)) = 0 then some (1 : Int32) else if (lg_cmp (S.2.1 78 9) (1818583408 : Int64)) = 0 then some (1 : Int32) else if (lg_cmp (S.2.1 78 9) (6644082 : Int64)) = 0 then some (1 : Int32) else if (lg_cmp (S.2.1 78 9) (1919904869 : Int64)) = 0 then some (1 : Int32) else if (lg_cmp (S.2.1 78 9) (28270047624193380 : Int64)) = 0 then some (1 : Int32) else if (lg_cmp (S.2.1 78 9) (1650811252 : Int64)) = 0 then some (1 : Int32) else if (lg_cmp (S.2.1 78 9) (6385252 : Int64)) = 0 then some (1 : Int32) else if (lg_cmp (S.2.1 78 9) (28530 : Int64)) = 0 then some (1 : Int32) else if (lg_cmp (S.2.1 78 9) (7237492 : Int64)) = 0 then some (1 : Int32) else some (0 : Int32)
set_option maxRecDepth 100000 in
set_option maxHeartbeats 4000000 in
theorem c_M_isOwn {X : Nat × (Nat → Int32)} {D F G : Nat} (hD : 0 ≤ D) {S : St} {res : Int32} (h : fM_isOwn F G S  = some res) : Ek X (D) mM_isOwn 0 [(0, .ref 78)] [] S (some (.int res)) S := by
  unfold fM_isOwn at h
  refine x_aload_n d_M_isOwn_0 rfl 0 rfl ?_
  refine y_getL d_M_isOwn_1 fl_11_165 rfl kd_78 ?_
  refine x_ldc2 d_M_isOwn_4 kc_11_188 ?_
  refine x_lcmp d_M_isOwn_7 ?_
  refine x_if_eq (tgt := 231) d_M_isOwn_8 rfl (fun c1 => ?_) (fun c1 => ?_)
  · replace h := ite_t c1 h
    refine x_iconst d_M_isOwn_231 ic_1 ?_
    refine x_goto (tgt := 236) d_M_isOwn_232 rfl ?_
    obtain rfl := Option.some.inj h
    exact x_ret (r := some (.int (1 : Int32))) d_M_isOwn_236 ⟨_, rfl, rfl⟩
  · replace h := ite_f c1 h
    refine x_aload_n d_M_isOwn_11 rfl 0 rfl ?_
    refine y_getL d_M_isOwn_12 fl_11_165 rfl kd_78 ?_
    refine x_ldc2 d_M_isOwn_15 kc_11_190 ?_
    refine x_lcmp d_M_isOwn_18 ?_
    refine x_if_eq (tgt := 231) d_M_isOwn_19 rfl (fun c2 => ?_) (fun c2 => ?_)
    · replace h := ite_t c2 h
      refine x_iconst d_M_isOwn_231 ic_1 ?_
      refine x_goto (tgt := 236) d_M_isOwn_232 rfl ?_
      obtain rfl := Option.some.inj h
      exact x_ret (r := some (.int (1 : Int32))) d_M_isOwn_236 ⟨_, rfl, rfl⟩
    · replace h := ite_f c2 h
      refine x_aload_n d_M_isOwn_22 rfl 0 rfl ?_
      refine y_getL d_M_isOwn_23 fl_11_165 rfl kd_78 ?_
      refine x_ldc2 d_M_isOwn_26 kc_11_192 ?_
      refine x_lcmp d_M_isOwn_29 ?_
      refine x_if_eq (tgt := 231) d_M_isOwn_30 rfl (fun c3 => ?_) (fun c3 => ?_)
      · replace h := ite_t c3 h
        refine x_iconst d_M_isOwn_231 ic_1 ?_
        refine x_goto (tgt := 236) d_M_isOwn_232 rfl ?_
        obtain rfl := Option.some.inj h
        exact x_ret (r := some (.int (1 : Int32))) d_M_isOwn_236 ⟨_, rfl, rfl⟩
      · replace h := ite_f c3 h
        refine x_aload_n d_M_isOwn_33 rfl 0 rfl ?_
        refine y_getL d_M_isOwn_34 fl_11_165 rfl kd_78 ?_
        refine x_ldc2 d_M_isOwn_37 kc_11_194 ?_
        refine x_lcmp d_M_isOwn_40 ?_
        refine x_if_eq (tgt := 231) d_M_isOwn_41 rfl (fun c4 => ?_) (fun c4 => ?_)
        · replace h := ite_t c4 h
          refine x_iconst d_M_isOwn_231 ic_1 ?_
          refine x_goto (tgt := 236) d_M_isOwn_232 rfl ?_
          obtain rfl := Option.some.inj h
          exact x_ret (r := some (.int (1 : Int32))) d_M_isOwn_236 ⟨_, rfl, rfl⟩
        · replace h := ite_f c4 h
          refine x_aload_n d_M_isOwn_44 rfl 0 rfl ?_
          refine y_getL d_M_isOwn_45 fl_11_165 rfl kd_78 ?_
          refine x_ldc2 d_M_isOwn_48 kc_11_196 ?_
          refine x_lcmp d_M_isOwn_51 ?_
          refine x_if_eq (tgt := 231) d_M_isOwn_52 rfl (fun c5 => ?_) (fun c5 => ?_)
          · replace h := ite_t c5 h
            refine x_iconst d_M_isOwn_231 ic_1 ?_
            refine x_goto (tgt := 236) d_M_isOwn_232 rfl ?_
            obtain rfl := Option.some.inj h
            exact x_ret (r := some (.int (1 : Int32))) d_M_isOwn_236 ⟨_, rfl, rfl⟩
          · replace h := ite_f c5 h
            refine x_aload_n d_M_isOwn_55 rfl 0 rfl ?_
            refine y_getL d_M_isOwn_56 fl_11_165 rfl kd_78 ?_
            refine x_ldc2 d_M_isOwn_59 kc_11_198 ?_
            refine x_lcmp d_M_isOwn_62 ?_
            refine x_if_eq (tgt := 231) d_M_isOwn_63 rfl (fun c6 => ?_) (fun c6 => ?_)
            · replace h := ite_t c6 h
              refine x_iconst d_M_isOwn_231 ic_1 ?_
              refine x_goto (tgt := 236) d_M_isOwn_232 rfl ?_
              obtain rfl := Option.some.inj h
              exact x_ret (r := some (.int (1 : Int32))) d_M_isOwn_236 ⟨_, rfl, rfl⟩
            · replace h := ite_f c6 h
              refine x_aload_n d_M_isOwn_66 rfl 0 rfl ?_
              refine y_getL d_M_isOwn_67 fl_11_165 rfl kd_78 ?_
              refine x_ldc2 d_M_isOwn_70 kc_11_200 ?_
              refine x_lcmp d_M_isOwn_73 ?_
              refine x_if_eq (tgt := 231) d_M_isOwn_74 rfl (fun c7 => ?_) (fun c7 => ?_)
              · replace h := ite_t c7 h
                refine x_iconst d_M_isOwn_231 ic_1 ?_
                refine x_goto (tgt := 236) d_M_isOwn_232 rfl ?_
                obtain rfl := Option.some.inj h
                exact x_ret (r := some (.int (1 : Int32))) d_M_isOwn_236 ⟨_, rfl, rfl⟩
              · replace h := ite_f c7 h
                refine x_aload_n d_M_isOwn_77 rfl 0 rfl ?_
                refine y_getL d_M_isOwn_78 fl_11_165 rfl kd_78 ?_
                refine x_ldc2 d_M_isOwn_81 kc_11_202 ?_
                refine x_lcmp d_M_isOwn_84 ?_
                refine x_if_eq (tgt := 231) d_M_isOwn_85 rfl (fun c8 => ?_) (fun c8 => ?_)
                · replace h := ite_t c8 h
                  refine x_iconst d_M_isOwn_231 ic_1 ?_
                  refine x_goto (tgt := 236) d_M_isOwn_232 rfl ?_
                  obtain rfl := Option.some.inj h
                  exact x_ret (r := some (.int (1 : Int32))) d_M_isOwn_236 ⟨_, rfl, rfl⟩
                · replace h := ite_f c8 h
                  refine x_aload_n d_M_isOwn_88 rfl 0 rfl ?_
                  refine y_getL d_M_isOwn_89 fl_11_165 rfl kd_78 ?_
                  refine x_ldc2 d_M_isOwn_92 kc_11_204 ?_
                  refine x_lcmp d_M_isOwn_95 ?_
                  refine x_if_eq (tgt := 231) d_M_isOwn_96 rfl (fun c9 => ?_) (fun c9 => ?_)
                  · replace h := ite_t c9 h
                    refine x_iconst d_M_isOwn_231 ic_1 ?_
                    refine x_goto (tgt := 236) d_M_isOwn_232 rfl ?_
                    obtain rfl := Option.some.inj h
                    exact x_ret (r := some (.int (1 : Int32))) d_M_isOwn_236 ⟨_, rfl, rfl⟩
                  · replace h := ite_f c9 h
                    refine x_aload_n d_M_isOwn_99 rfl 0 rfl ?_
                    refine y_getL d_M_isOwn_100 fl_11_165 rfl kd_78 ?_
                    refine x_ldc2 d_M_isOwn_103 kc_11_206 ?_
                    refine x_lcmp d_M_isOwn_106 ?_
                    refine x_if_eq (tgt := 231) d_M_isOwn_107 rfl (fun c10 => ?_) (fun c10 => ?_)
                    · replace h := ite_t c10 h
                      refine x_iconst d_M_isOwn_231 ic_1 ?_
                      refine x_goto (tgt := 236) d_M_isOwn_232 rfl ?_
                      obtain rfl := Option.some.inj h
                      exact x_ret (r := some (.int (1 : Int32))) d_M_isOwn_236 ⟨_, rfl, rfl⟩
                    · replace h := ite_f c10 h
                      refine x_aload_n d_M_isOwn_110 rfl 0 rfl ?_
                      refine y_getL d_M_isOwn_111 fl_11_165 rfl kd_78 ?_
                      refine x_ldc2 d_M_isOwn_114 kc_11_208 ?_
                      refine x_lcmp d_M_isOwn_117 ?_
                      refine x_if_eq (tgt := 231) d_M_isOwn_118 rfl (fun c11 => ?_) (fun c11 => ?_)
                      · replace h := ite_t c11 h
                        refine x_iconst d_M_isOwn_231 ic_1 ?_
                        refine x_goto (tgt := 236) d_M_isOwn_232 rfl ?_
                        obtain rfl := Option.some.inj h
                        exact x_ret (r := some (.int (1 : Int32))) d_M_isOwn_236 ⟨_, rfl, rfl⟩
                      · replace h := ite_f c11 h
                        refine x_aload_n d_M_isOwn_121 rfl 0 rfl ?_
                        refine y_getL d_M_isOwn_122 fl_11_165 rfl kd_78 ?_
                        refine x_ldc2 d_M_isOwn_125 kc_11_210 ?_
                        refine x_lcmp d_M_isOwn_128 ?_
                        refine x_if_eq (tgt := 231) d_M_isOwn_129 rfl (fun c12 => ?_) (fun c12 => ?_)
                        · replace h := ite_t c12 h
                          refine x_iconst d_M_isOwn_231 ic_1 ?_
                          refine x_goto (tgt := 236) d_M_isOwn_232 rfl ?_
                          obtain rfl := Option.some.inj h
                          exact x_ret (r := some (.int (1 : Int32))) d_M_isOwn_236 ⟨_, rfl, rfl⟩
                        · replace h := ite_f c12 h
                          refine x_aload_n d_M_isOwn_132 rfl 0 rfl ?_
                          refine y_getL d_M_isOwn_133 fl_11_165 rfl kd_78 ?_
                          refine x_ldc2 d_M_isOwn_136 kc_11_212 ?_
                          refine x_lcmp d_M_isOwn_139 ?_
                          refine x_if_eq (tgt := 231) d_M_isOwn_140 rfl (fun c13 => ?_) (fun c13 => ?_)
                          · replace h := ite_t c13 h
                            refine x_iconst d_M_isOwn_231 ic_1 ?_
                            refine x_goto (tgt := 236) d_M_isOwn_232 rfl ?_
                            obtain rfl := Option.some.inj h
                            exact x_ret (r := some (.int (1 : Int32))) d_M_isOwn_236 ⟨_, rfl, rfl⟩
                          · replace h := ite_f c13 h
                            refine x_aload_n d_M_isOwn_143 rfl 0 rfl ?_
                            refine y_getL d_M_isOwn_144 fl_11_165 rfl kd_78 ?_
                            refine x_ldc2 d_M_isOwn_147 kc_11_214 ?_
                            refine x_lcmp d_M_isOwn_150 ?_
                            refine x_if_eq (tgt := 231) d_M_isOwn_151 rfl (fun c14 => ?_) (fun c14 => ?_)
                            · replace h := ite_t c14 h
                              refine x_iconst d_M_isOwn_231 ic_1 ?_
                              refine x_goto (tgt := 236) d_M_isOwn_232 rfl ?_
                              obtain rfl := Option.some.inj h
                              exact x_ret (r := some (.int (1 : Int32))) d_M_isOwn_236 ⟨_, rfl, rfl⟩
                            · replace h := ite_f c14 h
                              refine x_aload_n d_M_isOwn_154 rfl 0 rfl ?_
                              refine y_getL d_M_isOwn_155 fl_11_165 rfl kd_78 ?_
                              refine x_ldc2 d_M_isOwn_158 kc_11_216 ?_
                              refine x_lcmp d_M_isOwn_161 ?_
                              refine x_if_eq (tgt := 231) d_M_isOwn_162 rfl (fun c15 => ?_) (fun c15 => ?_)
                              · replace h := ite_t c15 h
                                refine x_iconst d_M_isOwn_231 ic_1 ?_
                                refine x_goto (tgt := 236) d_M_isOwn_232 rfl ?_
                                obtain rfl := Option.some.inj h
                                exact x_ret (r := some (.int (1 : Int32))) d_M_isOwn_236 ⟨_, rfl, rfl⟩
                              · replace h := ite_f c15 h
                                refine x_aload_n d_M_isOwn_165 rfl 0 rfl ?_
                                refine y_getL d_M_isOwn_166 fl_11_165 rfl kd_78 ?_
                                refine x_ldc2 d_M_isOwn_169 kc_11_218 ?_
                                refine x_lcmp d_M_isOwn_172 ?_
                                refine x_if_eq (tgt := 231) d_M_isOwn_173 rfl (fun c16 => ?_) (fun c16 => ?_)
                                · replace h := ite_t c16 h
                                  refine x_iconst d_M_isOwn_231 ic_1 ?_
                                  refine x_goto (tgt := 236) d_M_isOwn_232 rfl ?_
                                  obtain rfl := Option.some.inj h
                                  exact x_ret (r := some (.int (1 : Int32))) d_M_isOwn_236 ⟨_, rfl, rfl⟩
                                · replace h := ite_f c16 h
                                  refine x_aload_n d_M_isOwn_176 rfl 0 rfl ?_
                                  refine y_getL d_M_isOwn_177 fl_11_165 rfl kd_78 ?_
                                  refine x_ldc2 d_M_isOwn_180 kc_11_220 ?_
                                  refine x_lcmp d_M_isOwn_183 ?_
                                  refine x_if_eq (tgt := 231) d_M_isOwn_184 rfl (fun c17 => ?_) (fun c17 => ?_)
                                  · replace h := ite_t c17 h
                                    refine x_iconst d_M_isOwn_231 ic_1 ?_
                                    refine x_goto (tgt := 236) d_M_isOwn_232 rfl ?_
                                    obtain rfl := Option.some.inj h
                                    exact x_ret (r := some (.int (1 : Int32))) d_M_isOwn_236 ⟨_, rfl, rfl⟩
                                  · replace h := ite_f c17 h
                                    refine x_aload_n d_M_isOwn_187 rfl 0 rfl ?_
                                    refine y_getL d_M_isOwn_188 fl_11_165 rfl kd_78 ?_
                                    refine x_ldc2 d_M_isOwn_191 kc_11_222 ?_
                                    refine x_lcmp d_M_isOwn_194 ?_
                                    refine x_if_eq (tgt := 231) d_M_isOwn_195 rfl (fun c18 => ?_) (fun c18 => ?_)
                                    · replace h := ite_t c18 h
                                      refine x_iconst d_M_isOwn_231 ic_1 ?_
                                      refine x_goto (tgt := 236) d_M_isOwn_232 rfl ?_
                                      obtain rfl := Option.some.inj h
                                      exact x_ret (r := some (.int (1 : Int32))) d_M_isOwn_236 ⟨_, rfl, rfl⟩
                                    · replace h := ite_f c18 h
                                      refine x_aload_n d_M_isOwn_198 rfl 0 rfl ?_
                                      refine y_getL d_M_isOwn_199 fl_11_165 rfl kd_78 ?_
                                      refine x_ldc2 d_M_isOwn_202 kc_11_224 ?_
                                      refine x_lcmp d_M_isOwn_205 ?_
                                      refine x_if_eq (tgt := 231) d_M_isOwn_206 rfl (fun c19 => ?_) (fun c19 => ?_)
                                      · replace h := ite_t c19 h
                                        refine x_iconst d_M_isOwn_231 ic_1 ?_
                                        refine x_goto (tgt := 236) d_M_isOwn_232 rfl ?_
                                        obtain rfl := Option.some.inj h
                                        exact x_ret (r := some (.int (1 : Int32))) d_M_isOwn_236 ⟨_, rfl, rfl⟩
                                      · replace h := ite_f c19 h
                                        refine x_aload_n d_M_isOwn_209 rfl 0 rfl ?_
                                        refine y_getL d_M_isOwn_210 fl_11_165 rfl kd_78 ?_
                                        refine x_ldc2 d_M_isOwn_213 kc_11_226 ?_
                                        refine x_lcmp d_M_isOwn_216 ?_
                                        refine x_if_eq (tgt := 231) d_M_isOwn_217 rfl (fun c20 => ?_) (fun c20 => ?_)
                                        · replace h := ite_t c20 h
                                          refine x_iconst d_M_isOwn_231 ic_1 ?_
                                          refine x_goto (tgt := 236) d_M_isOwn_232 rfl ?_
                                          obtain rfl := Option.some.inj h
                                          exact x_ret (r := some (.int (1 : Int32))) d_M_isOwn_236 ⟨_, rfl, rfl⟩
                                        · replace h := ite_f c20 h
                                          refine x_aload_n d_M_isOwn_220 rfl 0 rfl ?_
                                          refine y_getL d_M_isOwn_221 fl_11_165 rfl kd_78 ?_
                                          refine x_ldc2 d_M_isOwn_224 kc_11_228 ?_
                                          refine x_lcmp d_M_isOwn_227 ?_
                                          refine x_if_ne (tgt := 235) d_M_isOwn_228 rfl (fun c21 => ?_) (fun c21 => ?_)
                                          · replace h := ite_f c21 h
                                            refine x_iconst d_M_isOwn_235 ic_0 ?_
                                            obtain rfl := Option.some.inj h
                                            exact x_ret (r := some (.int (0 : Int32))) d_M_isOwn_236 ⟨_, rfl, rfl⟩
                                          · replace h := ite_t c21 h
                                            refine x_iconst d_M_isOwn_231 ic_1 ?_
                                            refine x_goto (tgt := 236) d_M_isOwn_232 rfl ?_
                                            obtain rfl := Option.some.inj h
                                            exact x_ret (r := some (.int (1 : Int32))) d_M_isOwn_236 ⟨_, rfl, rfl⟩
/-! NinetyPlayersModel.isName -/
def fM_isName (F G : Nat) (S : St) : Option (Int32) :=
  if (S.1 78 6) = (1 : Int32) then bd (fM_isOwn F G S) fun v3 => if v3 = 0 then some (1 : Int32) else some (0 : Int32) else some (0 : Int32)
set_option maxRecDepth 100000 in
set_option maxHeartbeats 4000000 in
theorem c_M_isName {X : Nat × (Nat → Int32)} {D F G : Nat} (hD : 1 ≤ D) {S : St} {res : Int32} (h : fM_isName F G S  = some res) : Ek X (D) mM_isName 0 [(0, .ref 78)] [] S (some (.int res)) S := by
  obtain ⟨D, rfl⟩ : ∃ E, D = E + 1 := ⟨D - 1, by omega⟩
  unfold fM_isName at h
  refine x_aload_n d_M_isName_0 rfl 0 rfl ?_
  refine y_getI d_M_isName_1 fl_11_172 rfl kd_78 ?_
  refine x_iconst d_M_isName_4 ic_1 ?_
  refine x_icmp_ne (tgt := 19) d_M_isName_5 rfl (fun c1 => ?_) (fun c1 => ?_)
  · replace h := ite_f c1 h
    refine x_iconst d_M_isName_19 ic_0 ?_
    obtain rfl := Option.some.inj h
    exact x_ret (r := some (.int (0 : Int32))) d_M_isName_20 ⟨_, rfl, rfl⟩
  · replace h := ite_t c1 h
    refine x_aload_n d_M_isName_8 rfl 0 rfl ?_
    obtain ⟨v3, q2, h⟩ := bd_inv h
    refine y_V0i (v := v3) (S1 := S) d_M_isName_9 ml_11_230 kd_78 rfl (Nat.le_of_ble_eq_true rfl) (Nat.le_of_ble_eq_true rfl) (c_M_isOwn (by omega) q2) ?_
    refine x_if_ne (tgt := 19) d_M_isName_12 rfl (fun c4 => ?_) (fun c4 => ?_)
    · replace h := ite_f c4 h
      refine x_iconst d_M_isName_19 ic_0 ?_
      obtain rfl := Option.some.inj h
      exact x_ret (r := some (.int (0 : Int32))) d_M_isName_20 ⟨_, rfl, rfl⟩
    · replace h := ite_t c4 h
      refine x_iconst d_M_isName_15 ic_1 ?_
      refine x_goto (tgt := 20) d_M_isName_16 rfl ?_
      obtain rfl := Option.some.inj h
      exact x_ret (r := some (.int (1 : Int32))) d_M_isName_20 ⟨_, rfl, rfl⟩
/-! NinetyPlayersModel.find -/
def b_M_find_5 (F G : Nat) (S : St) (z1 : Int32) (z2 : Int32) (rec : Int32 → Int32 → Option (Int32)) (w3 : Int32) (w4 : Int32) : Option (Int32) :=
  if z2 ≤ w4 then some w3 else gd (inB (z1 + w4) 14) (if (lg_cmp (S.2.1 80 (z1 + w4).toNatClampNeg) (S.2.1 78 9)) = 0 then lt (w4 + 1) fun v6 => rec w4 v6 else lt (w4 + 1) fun v4 => rec w3 v4)
def fM_find (F G : Nat) (S : St) (p1 : Int32) (p2 : Int32) : Option (Int32) :=
  fx2 (b_M_find_5 F G S p1 p2) F (-1 : Int32) (0 : Int32)
set_option maxRecDepth 100000 in
set_option maxHeartbeats 4000000 in
theorem T_M_find_5 {X : Nat × (Nat → Int32)} {D F G : Nat} (hD : 0 ≤ D) {S : St} {z1 : Int32} {z2 : Int32} : ∀ (f : Nat) (w3 : Int32) (w4 : Int32) (res : Int32), fx2 (b_M_find_5 F G S z1 z2 ) f w3 w4 = some res → Ek X (D) mM_find 5 [(0, .ref 78), (1, .int z1), (2, .int z2), (3, .int w3), (4, .int w4)] [] S (some (.int res)) S := by
  refine fx2_ind ?_
  intro rec ih w3 w4 res h
  unfold b_M_find_5 at h
  refine x_iload d_M_find_5 4 rfl ?_
  refine x_iload_n d_M_find_7 rfl 2 rfl ?_
  refine x_icmp_ge (tgt := 41) d_M_find_8 rfl (fun c1 => ?_) (fun c1 => ?_)
  · replace h := ite_t c1 h
    refine x_iload_n d_M_find_41 rfl 3 rfl ?_
    obtain rfl := Option.some.inj h
    exact x_ret (r := some (.int w3)) d_M_find_42 ⟨_, rfl, rfl⟩
  · replace h := ite_f c1 h
    refine x_aload_n d_M_find_11 rfl 0 rfl ?_
    refine y_getR d_M_find_12 fl_11_17 rfl kd_78 rr_78_10 ?_
    refine x_iload_n d_M_find_15 rfl 1 rfl ?_
    refine x_iload d_M_find_16 4 rfl ?_
    refine x_iadd d_M_find_18 ?_
    obtain ⟨g2, h⟩ := gd_inv h
    refine y_lald d_M_find_19 kd_80 g2 ?_
    refine x_aload_n d_M_find_20 rfl 0 rfl ?_
    refine y_getL d_M_find_21 fl_11_165 rfl kd_78 ?_
    refine x_lcmp d_M_find_24 ?_
    refine x_if_ne (tgt := 33) d_M_find_25 rfl (fun c3 => ?_) (fun c3 => ?_)
    · replace h := ite_f c3 h
      refine x_iload_n d_M_find_33 rfl 3 rfl ?_
      refine x_istore_n (L1 := [(0, .ref 78), (1, .int z1), (2, .int z2), (3, .int w3), (4, .int w4)]) d_M_find_34 rfl (Nat.le_of_ble_eq_true rfl) rfl rfl ?_
      obtain ⟨v4, e5, h⟩ := lt_inv h
      refine y_iinc (L1 := [(0, .ref 78), (1, .int z1), (2, .int z2), (3, .int w3), (4, .int v4)]) e5 ic_1 d_M_find_35 4 rfl (Nat.le_of_ble_eq_true rfl) rfl rfl ?_
      refine x_goto (tgt := 5) d_M_find_38 rfl ?_
      exact ih w3 v4 _ h
    · replace h := ite_t c3 h
      refine x_iload d_M_find_28 4 rfl ?_
      refine x_goto (tgt := 34) d_M_find_30 rfl ?_
      refine x_istore_n (L1 := [(0, .ref 78), (1, .int z1), (2, .int z2), (3, .int w4), (4, .int w4)]) d_M_find_34 rfl (Nat.le_of_ble_eq_true rfl) rfl rfl ?_
      obtain ⟨v6, e7, h⟩ := lt_inv h
      refine y_iinc (L1 := [(0, .ref 78), (1, .int z1), (2, .int z2), (3, .int w4), (4, .int v6)]) e7 ic_1 d_M_find_35 4 rfl (Nat.le_of_ble_eq_true rfl) rfl rfl ?_
      refine x_goto (tgt := 5) d_M_find_38 rfl ?_
      exact ih w4 v6 _ h
set_option maxRecDepth 100000 in
set_option maxHeartbeats 4000000 in
theorem c_M_find {X : Nat × (Nat → Int32)} {D F G : Nat} (hD : 0 ≤ D) {S : St} {p1 : Int32} {p2 : Int32} {res : Int32} (h : fM_find F G S p1 p2 = some res) : Ek X (D) mM_find 0 [(0, .ref 78), (1, .int p1), (2, .int p2)] [] S (some (.int res)) S := by
  unfold fM_find at h
  refine x_iconst d_M_find_0 ic_m1 ?_
  refine x_istore_n (L1 := [(0, .ref 78), (1, .int p1), (2, .int p2), (3, .int (-1 : Int32))]) d_M_find_1 rfl (Nat.le_of_ble_eq_true rfl) rfl rfl ?_
  refine x_iconst d_M_find_2 ic_0 ?_
  refine x_istore (L1 := [(0, .ref 78), (1, .int p1), (2, .int p2), (3, .int (-1 : Int32)), (4, .int (0 : Int32))]) d_M_find_3 (Nat.le_of_ble_eq_true rfl) rfl rfl ?_
  refine T_M_find_5 (by omega)   F (-1 : Int32) (0 : Int32) _ h
/-! NinetyPlayersModel.newName -/
def j_M_newName_33 (F G : Nat) (S : St) (y1 : Int32) (y2 : Int32) : Option (St) :=
  if (S.1 78 2) ≤ 0 then gd (inB (y1 + y2) 14) (lt (sL S 80 (y1 + y2).toNatClampNeg (S.2.1 78 9)) fun S15 => bd (fM_token F G S15 ) fun S18 => some S18) else some S
def fM_newName (F G : Nat) (S : St) (p1 : Int32) (p2 : Int32) : Option (St) :=
  bd (fM_token F G S ) fun S2 => bd (fM_isName F G S2) fun v4 => if v4 = 0 then bd (fM_wrong F G S2 (2 : Int32)) fun S12 => j_M_newName_33 F G  S12 p1 p2 else bd (fM_find F G S2 p1 p2) fun v7 => if v7 < 0 then j_M_newName_33 F G  S2 p1 p2 else bd (fM_wrong F G S2 (3 : Int32)) fun S10 => j_M_newName_33 F G  S10 p1 p2
set_option maxRecDepth 100000 in
set_option maxHeartbeats 4000000 in
theorem c_M_newName {X : Nat × (Nat → Int32)} {D F G : Nat} (hD : 2 ≤ D) {S : St} {p1 : Int32} {p2 : Int32} {res : St} (h : fM_newName F G S p1 p2 = some res) : Ek X (D) mM_newName 0 [(0, .ref 78), (1, .int p1), (2, .int p2)] [] S none res := by
  obtain ⟨D, rfl⟩ : ∃ E, D = E + 1 := ⟨D - 1, by omega⟩
  unfold fM_newName at h
  have J33 : ∀ (S : St) (y1 : Int32) (y2 : Int32) (res : St), j_M_newName_33 F G S y1 y2 = some res → Ek X (D + 1) mM_newName 33 [(0, .ref 78), (1, .int y1), (2, .int y2)] [] S none res := by
    intro S y1 y2 res h
    unfold j_M_newName_33 at h
    refine x_aload_n d_M_newName_33 rfl 0 rfl ?_
    refine y_getI d_M_newName_34 fl_11_185 rfl kd_78 ?_
    refine x_if_le (tgt := 41) d_M_newName_37 rfl (fun c13 => ?_) (fun c13 => ?_)
    · replace h := ite_t c13 h
      refine x_aload_n d_M_newName_41 rfl 0 rfl ?_
      refine y_getR d_M_newName_42 fl_11_17 rfl kd_78 rr_78_10 ?_
      refine x_iload_n d_M_newName_45 rfl 1 rfl ?_
      refine x_iload_n d_M_newName_46 rfl 2 rfl ?_
      refine x_iadd d_M_newName_47 ?_
      refine x_aload_n d_M_newName_48 rfl 0 rfl ?_
      refine y_getL d_M_newName_49 fl_11_165 rfl kd_78 ?_
      obtain ⟨g14, h⟩ := gd_inv h
      obtain ⟨S15, e16, h⟩ := lt_inv h
      refine y_last e16 d_M_newName_52 kd_80 g14 ?_
      refine x_aload_n d_M_newName_53 rfl 0 rfl ?_
      obtain ⟨S18, q17, h⟩ := bd_inv h
      refine y_V0v (S1 := S18) d_M_newName_54 ml_11_241 kd_78 rfl (Nat.le_of_ble_eq_true rfl) (Nat.le_of_ble_eq_true rfl) (c_M_token (by omega) q17) ?_
      obtain rfl := Option.some.inj h
      exact x_ret (r := none) d_M_newName_57 rfl
    · replace h := ite_f c13 h
      obtain rfl := Option.some.inj h
      exact x_ret (r := none) d_M_newName_40 rfl
  refine x_aload_n d_M_newName_0 rfl 0 rfl ?_
  obtain ⟨S2, q1, h⟩ := bd_inv h
  refine y_V0v (S1 := S2) d_M_newName_1 ml_11_241 kd_78 rfl (Nat.le_of_ble_eq_true rfl) (Nat.le_of_ble_eq_true rfl) (c_M_token (by omega) q1) ?_
  refine x_aload_n d_M_newName_4 rfl 0 rfl ?_
  obtain ⟨v4, q3, h⟩ := bd_inv h
  refine y_V0i (v := v4) (S1 := S2) d_M_newName_5 ml_11_252 kd_78 rfl (Nat.le_of_ble_eq_true rfl) (Nat.le_of_ble_eq_true rfl) (c_M_isName (by omega) q3) ?_
  refine x_if_ne (tgt := 19) d_M_newName_8 rfl (fun c5 => ?_) (fun c5 => ?_)
  · replace h := ite_f c5 h
    refine x_aload_n d_M_newName_19 rfl 0 rfl ?_
    refine x_iload_n d_M_newName_20 rfl 1 rfl ?_
    refine x_iload_n d_M_newName_21 rfl 2 rfl ?_
    obtain ⟨v7, q6, h⟩ := bd_inv h
    refine y_V2i (v := v7) (S1 := S2) d_M_newName_22 ml_11_255 kd_78 rfl (Nat.le_of_ble_eq_true rfl) (Nat.le_of_ble_eq_true rfl) (c_M_find (by omega) q6) ?_
    refine x_if_lt (tgt := 33) d_M_newName_25 rfl (fun c8 => ?_) (fun c8 => ?_)
    · replace h := ite_t c8 h
      exact J33 S2 p1 p2 _ h
    · replace h := ite_f c8 h
      refine x_aload_n d_M_newName_28 rfl 0 rfl ?_
      refine x_iconst d_M_newName_29 ic_3 ?_
      obtain ⟨S10, q9, h⟩ := bd_inv h
      refine y_V1v (S1 := S10) d_M_newName_30 ml_11_238 kd_78 rfl (Nat.le_of_ble_eq_true rfl) (Nat.le_of_ble_eq_true rfl) (c_M_wrong (by omega) q9) ?_
      exact J33 S10 p1 p2 _ h
  · replace h := ite_t c5 h
    refine x_aload_n d_M_newName_11 rfl 0 rfl ?_
    refine x_iconst d_M_newName_12 ic_2 ?_
    obtain ⟨S12, q11, h⟩ := bd_inv h
    refine y_V1v (S1 := S12) d_M_newName_13 ml_11_238 kd_78 rfl (Nat.le_of_ble_eq_true rfl) (Nat.le_of_ble_eq_true rfl) (c_M_wrong (by omega) q11) ?_
    refine x_goto (tgt := 33) d_M_newName_16 rfl ?_
    exact J33 S12 p1 p2 _ h
/-! NinetyPlayersModel.truth -/
def fM_truth (F G : Nat) (S : St) (p1 : Int32) : Option (Int32) :=
  if p1 = 0 then some (0 : Int32) else some (1 : Int32)
set_option maxRecDepth 100000 in
set_option maxHeartbeats 4000000 in
theorem c_M_truth {X : Nat × (Nat → Int32)} {D F G : Nat} (hD : 0 ≤ D) {S : St} {p1 : Int32} {res : Int32} (h : fM_truth F G S p1 = some res) : Ek X (D) mM_truth 0 [(0, .int p1)] [] S (some (.int res)) S := by
  unfold fM_truth at h
  refine x_iload_n d_M_truth_0 rfl 0 rfl ?_
  refine x_if_eq (tgt := 8) d_M_truth_1 rfl (fun c1 => ?_) (fun c1 => ?_)
  · replace h := ite_t c1 h
    refine x_iconst d_M_truth_8 ic_0 ?_
    obtain rfl := Option.some.inj h
    exact x_ret (r := some (.int (0 : Int32))) d_M_truth_9 ⟨_, rfl, rfl⟩
  · replace h := ite_f c1 h
    refine x_iconst d_M_truth_4 ic_1 ?_
    refine x_goto (tgt := 9) d_M_truth_5 rfl ?_
    obtain rfl := Option.some.inj h
    exact x_ret (r := some (.int (1 : Int32))) d_M_truth_9 ⟨_, rfl, rfl⟩
/-! NinetyPlayersModel.readPart -/
def j_M_readPart_76 (F G : Nat) (S : St) : Option (St) :=
  if (S.1 78 2) = 0 then lt (sI S 78 40 ((S.1 78 40) + (1 : Int32))) fun S20 => some S20 else some S
def j_M_readPart_52 (F G : Nat) (S : St) (s1 : Int32) (s2 : Int32) : Option (St) :=
  gd (inB s1 4) (lt (sI S 88 s1.toNatClampNeg s2) fun S12 => if (S12.1 78 2) = 0 then gd (inB (S12.1 78 40) 4) (if (S12.1 88 (S12.1 78 40).toNatClampNeg) ≤ 0 then j_M_readPart_76 F G  S12  else bd (fM_token F G S12 ) fun S18 => j_M_readPart_76 F G  S18 ) else j_M_readPart_76 F G  S12 )
def fM_readPart (F G : Nat) (S : St) : Option (St) :=
  bd (fM_newName F G S (0 : Int32) (S.1 78 40)) fun S2 => if (S2.1 78 2) ≤ 0 then bd (fM_isWord F G S2 (1953853029 : Int64)) fun v5 => if v5 = 0 then bd (fM_isWord F G S2 (1650553715 : Int64)) fun v8 => bd (fM_truth F G S2 v8) fun v10 => j_M_readPart_52 F G  S2 (S2.1 78 40) v10 else j_M_readPart_52 F G  S2 (S2.1 78 40) (2 : Int32) else j_M_readPart_52 F G  S2 (S2.1 78 40) (0 : Int32)
set_option maxRecDepth 100000 in
set_option maxHeartbeats 4000000 in
theorem c_M_readPart {X : Nat × (Nat → Int32)} {D F G : Nat} (hD : 3 ≤ D) {S : St} {res : St} (h : fM_readPart F G S  = some res) : Ek X (D) mM_readPart 0 [(0, .ref 78)] [] S none res := by
  obtain ⟨D, rfl⟩ : ∃ E, D = E + 1 := ⟨D - 1, by omega⟩
  unfold fM_readPart at h
  have J76 : ∀ (S : St) (res : St), j_M_readPart_76 F G S  = some res → Ek X (D + 1) mM_readPart 76 [(0, .ref 78)] [] S none res := by
    intro S  res h
    unfold j_M_readPart_76 at h
    refine x_aload_n d_M_readPart_76 rfl 0 rfl ?_
    refine y_getI d_M_readPart_77 fl_11_185 rfl kd_78 ?_
    refine x_if_ne (tgt := 93) d_M_readPart_80 rfl (fun c19 => ?_) (fun c19 => ?_)
    · replace h := ite_f c19 h
      obtain rfl := Option.some.inj h
      exact x_ret (r := none) d_M_readPart_93 rfl
    · replace h := ite_t c19 h
      refine x_aload_n d_M_readPart_83 rfl 0 rfl ?_
      refine x_dup d_M_readPart_84 rfl ?_
      refine y_getI d_M_readPart_85 fl_11_258 rfl kd_78 ?_
      refine x_iconst d_M_readPart_88 ic_1 ?_
      refine x_iadd d_M_readPart_89 ?_
      obtain ⟨S20, e21, h⟩ := lt_inv h
      refine y_putI e21 d_M_readPart_90 fl_11_258 rfl rfl kd_78 rfl rfl ?_
      obtain rfl := Option.some.inj h
      exact x_ret (r := none) d_M_readPart_93 rfl
  have J52 : ∀ (S : St) (s1 : Int32) (s2 : Int32) (res : St), j_M_readPart_52 F G S s1 s2 = some res → Ek X (D + 1) mM_readPart 52 [(0, .ref 78)] [.int s2, .int s1, .ref 88] S none res := by
    intro S s1 s2 res h
    unfold j_M_readPart_52 at h
    obtain ⟨g11, h⟩ := gd_inv h
    obtain ⟨S12, e13, h⟩ := lt_inv h
    refine y_iast e13 d_M_readPart_52 kd_88 g11 ?_
    refine x_aload_n d_M_readPart_53 rfl 0 rfl ?_
    refine y_getI d_M_readPart_54 fl_11_185 rfl kd_78 ?_
    refine x_if_ne (tgt := 76) d_M_readPart_57 rfl (fun c14 => ?_) (fun c14 => ?_)
    · replace h := ite_f c14 h
      exact J76 S12  _ h
    · replace h := ite_t c14 h
      refine x_aload_n d_M_readPart_60 rfl 0 rfl ?_
      refine y_getR d_M_readPart_61 fl_11_42 rfl kd_78 rr_78_27 ?_
      refine x_aload_n d_M_readPart_64 rfl 0 rfl ?_
      refine y_getI d_M_readPart_65 fl_11_258 rfl kd_78 ?_
      obtain ⟨g15, h⟩ := gd_inv h
      refine y_iald d_M_readPart_68 kd_88 g15 ?_
      refine x_if_le (tgt := 76) d_M_readPart_69 rfl (fun c16 => ?_) (fun c16 => ?_)
      · replace h := ite_t c16 h
        exact J76 S12  _ h
      · replace h := ite_f c16 h
        refine x_aload_n d_M_readPart_72 rfl 0 rfl ?_
        obtain ⟨S18, q17, h⟩ := bd_inv h
        refine y_V0v (S1 := S18) d_M_readPart_73 ml_11_241 kd_78 rfl (Nat.le_of_ble_eq_true rfl) (Nat.le_of_ble_eq_true rfl) (c_M_token (by omega) q17) ?_
        exact J76 S18  _ h
  refine x_aload_n d_M_readPart_0 rfl 0 rfl ?_
  refine x_iconst d_M_readPart_1 ic_0 ?_
  refine x_aload_n d_M_readPart_2 rfl 0 rfl ?_
  refine y_getI d_M_readPart_3 fl_11_258 rfl kd_78 ?_
  obtain ⟨S2, q1, h⟩ := bd_inv h
  refine y_V2v (S1 := S2) d_M_readPart_6 ml_11_347 kd_78 rfl (Nat.le_of_ble_eq_true rfl) (Nat.le_of_ble_eq_true rfl) (c_M_newName (by omega) q1) ?_
  refine x_aload_n d_M_readPart_9 rfl 0 rfl ?_
  refine y_getR d_M_readPart_10 fl_11_42 rfl kd_78 rr_78_27 ?_
  refine x_aload_n d_M_readPart_13 rfl 0 rfl ?_
  refine y_getI d_M_readPart_14 fl_11_258 rfl kd_78 ?_
  refine x_aload_n d_M_readPart_17 rfl 0 rfl ?_
  refine y_getI d_M_readPart_18 fl_11_185 rfl kd_78 ?_
  refine x_if_le (tgt := 28) d_M_readPart_21 rfl (fun c3 => ?_) (fun c3 => ?_)
  · replace h := ite_t c3 h
    refine x_aload_n d_M_readPart_28 rfl 0 rfl ?_
    refine x_ldc2 d_M_readPart_29 kc_11_192 ?_
    obtain ⟨v5, q4, h⟩ := bd_inv h
    refine y_V1i (v := v5) (S1 := S2) d_M_readPart_32 ml_11_234 kd_78 rfl (Nat.le_of_ble_eq_true rfl) (Nat.le_of_ble_eq_true rfl) (c_M_isWord (by omega) q4) ?_
    refine x_if_eq (tgt := 42) d_M_readPart_35 rfl (fun c6 => ?_) (fun c6 => ?_)
    · replace h := ite_t c6 h
      refine x_aload_n d_M_readPart_42 rfl 0 rfl ?_
      refine x_ldc2 d_M_readPart_43 kc_11_194 ?_
      obtain ⟨v8, q7, h⟩ := bd_inv h
      refine y_V1i (v := v8) (S1 := S2) d_M_readPart_46 ml_11_234 kd_78 rfl (Nat.le_of_ble_eq_true rfl) (Nat.le_of_ble_eq_true rfl) (c_M_isWord (by omega) q7) ?_
      obtain ⟨v10, q9, h⟩ := bd_inv h
      refine y_S1i (v := v10) (S1 := S2) d_M_readPart_49 ml_11_318 (Nat.le_of_ble_eq_true rfl) (Nat.le_of_ble_eq_true rfl) (c_M_truth (by omega) q9) ?_
      exact J52 S2 (S2.1 78 40) v10 _ h
    · replace h := ite_f c6 h
      refine x_iconst d_M_readPart_38 ic_2 ?_
      refine x_goto (tgt := 52) d_M_readPart_39 rfl ?_
      exact J52 S2 (S2.1 78 40) (2 : Int32) _ h
  · replace h := ite_f c3 h
    refine x_iconst d_M_readPart_24 ic_0 ?_
    refine x_goto (tgt := 52) d_M_readPart_25 rfl ?_
    exact J52 S2 (S2.1 78 40) (0 : Int32) _ h
/-! NinetyPlayersModel.oldPart -/
def j_M_oldPart_41 (F G : Nat) (S : St) : Option (Int32 × St) :=
  bd (fM_find F G S (0 : Int32) (S.1 78 40)) fun v13 => if (S.1 78 2) = 0 then bd (fM_token F G S ) fun S16 => some (v13, S16) else some (v13, S)
def fM_oldPart (F G : Nat) (S : St) : Option (Int32 × St) :=
  if (S.1 78 2) ≤ 0 then bd (fM_isName F G S) fun v3 => if v3 = 0 then bd (fM_wrong F G S (2 : Int32)) fun S11 => j_M_oldPart_41 F G  S11  else bd (fM_find F G S (0 : Int32) (S.1 78 40)) fun v6 => if 0 ≤ v6 then j_M_oldPart_41 F G  S  else bd (fM_wrong F G S (5 : Int32)) fun S9 => j_M_oldPart_41 F G  S9  else some ((0 : Int32), S)
set_option maxRecDepth 100000 in
set_option maxHeartbeats 4000000 in
theorem c_M_oldPart {X : Nat × (Nat → Int32)} {D F G : Nat} (hD : 2 ≤ D) {S : St} {res : Int32 × St} (h : fM_oldPart F G S  = some res) : Ek X (D) mM_oldPart 0 [(0, .ref 78)] [] S (some (.int res.1)) res.2 := by
  obtain ⟨D, rfl⟩ : ∃ E, D = E + 1 := ⟨D - 1, by omega⟩
  unfold fM_oldPart at h
  have J41 : ∀ (S : St) (res : Int32 × St), j_M_oldPart_41 F G S  = some res → Ek X (D + 1) mM_oldPart 41 [(0, .ref 78)] [] S (some (.int res.1)) res.2 := by
    intro S  res h
    unfold j_M_oldPart_41 at h
    refine x_aload_n d_M_oldPart_41 rfl 0 rfl ?_
    refine x_iconst d_M_oldPart_42 ic_0 ?_
    refine x_aload_n d_M_oldPart_43 rfl 0 rfl ?_
    refine y_getI d_M_oldPart_44 fl_11_258 rfl kd_78 ?_
    obtain ⟨v13, q12, h⟩ := bd_inv h
    refine y_V2i (v := v13) (S1 := S) d_M_oldPart_47 ml_11_255 kd_78 rfl (Nat.le_of_ble_eq_true rfl) (Nat.le_of_ble_eq_true rfl) (c_M_find (by omega) q12) ?_
    refine x_istore_n (L1 := [(0, .ref 78), (1, .int v13)]) d_M_oldPart_50 rfl (Nat.le_of_ble_eq_true rfl) rfl rfl ?_
    refine x_aload_n d_M_oldPart_51 rfl 0 rfl ?_
    refine y_getI d_M_oldPart_52 fl_11_185 rfl kd_78 ?_
    refine x_if_ne (tgt := 62) d_M_oldPart_55 rfl (fun c14 => ?_) (fun c14 => ?_)
    · replace h := ite_f c14 h
      refine x_iload_n d_M_oldPart_62 rfl 1 rfl ?_
      obtain rfl := Option.some.inj h
      exact x_ret (r := some (.int v13)) d_M_oldPart_63 ⟨_, rfl, rfl⟩
    · replace h := ite_t c14 h
      refine x_aload_n d_M_oldPart_58 rfl 0 rfl ?_
      obtain ⟨S16, q15, h⟩ := bd_inv h
      refine y_V0v (S1 := S16) d_M_oldPart_59 ml_11_241 kd_78 rfl (Nat.le_of_ble_eq_true rfl) (Nat.le_of_ble_eq_true rfl) (c_M_token (by omega) q15) ?_
      refine x_iload_n d_M_oldPart_62 rfl 1 rfl ?_
      obtain rfl := Option.some.inj h
      exact x_ret (r := some (.int v13)) d_M_oldPart_63 ⟨_, rfl, rfl⟩
  refine x_aload_n d_M_oldPart_0 rfl 0 rfl ?_
  refine y_getI d_M_oldPart_1 fl_11_185 rfl kd_78 ?_
  refine x_if_le (tgt := 9) d_M_oldPart_4 rfl (fun c1 => ?_) (fun c1 => ?_)
  · replace h := ite_t c1 h
    refine x_aload_n d_M_oldPart_9 rfl 0 rfl ?_
    obtain ⟨v3, q2, h⟩ := bd_inv h
    refine y_V0i (v := v3) (S1 := S) d_M_oldPart_10 ml_11_252 kd_78 rfl (Nat.le_of_ble_eq_true rfl) (Nat.le_of_ble_eq_true rfl) (c_M_isName (by omega) q2) ?_
    refine x_if_ne (tgt := 24) d_M_oldPart_13 rfl (fun c4 => ?_) (fun c4 => ?_)
    · replace h := ite_f c4 h
      refine x_aload_n d_M_oldPart_24 rfl 0 rfl ?_
      refine x_iconst d_M_oldPart_25 ic_0 ?_
      refine x_aload_n d_M_oldPart_26 rfl 0 rfl ?_
      refine y_getI d_M_oldPart_27 fl_11_258 rfl kd_78 ?_
      obtain ⟨v6, q5, h⟩ := bd_inv h
      refine y_V2i (v := v6) (S1 := S) d_M_oldPart_30 ml_11_255 kd_78 rfl (Nat.le_of_ble_eq_true rfl) (Nat.le_of_ble_eq_true rfl) (c_M_find (by omega) q5) ?_
      refine x_if_ge (tgt := 41) d_M_oldPart_33 rfl (fun c7 => ?_) (fun c7 => ?_)
      · replace h := ite_t c7 h
        exact J41 S  _ h
      · replace h := ite_f c7 h
        refine x_aload_n d_M_oldPart_36 rfl 0 rfl ?_
        refine x_iconst d_M_oldPart_37 ic_5 ?_
        obtain ⟨S9, q8, h⟩ := bd_inv h
        refine y_V1v (S1 := S9) d_M_oldPart_38 ml_11_238 kd_78 rfl (Nat.le_of_ble_eq_true rfl) (Nat.le_of_ble_eq_true rfl) (c_M_wrong (by omega) q8) ?_
        exact J41 S9  _ h
    · replace h := ite_t c4 h
      refine x_aload_n d_M_oldPart_16 rfl 0 rfl ?_
      refine x_iconst d_M_oldPart_17 ic_2 ?_
      obtain ⟨S11, q10, h⟩ := bd_inv h
      refine y_V1v (S1 := S11) d_M_oldPart_18 ml_11_238 kd_78 rfl (Nat.le_of_ble_eq_true rfl) (Nat.le_of_ble_eq_true rfl) (c_M_wrong (by omega) q10) ?_
      refine x_goto (tgt := 41) d_M_oldPart_21 rfl ?_
      exact J41 S11  _ h
  · replace h := ite_f c1 h
    refine x_iconst d_M_oldPart_7 ic_0 ?_
    obtain rfl := Option.some.inj h
    exact x_ret (r := some (.int (0 : Int32))) d_M_oldPart_8 ⟨_, rfl, rfl⟩
/-! NinetyPlayersModel.readNote -/
def j_M_readNote_119 (F G : Nat) (S : St) (s1 : Int32) (s2 : Int32) : Option (St) :=
  gd (inB s1 10) (lt (sI S 93 s1.toNatClampNeg s2) fun S39 => if (S39.1 78 2) = 0 then lt (sI S39 78 41 ((S39.1 78 41) + (1 : Int32))) fun S42 => some S42 else some S39)
def j_M_readNote_118 (F G : Nat) (S : St) (s1 : Int32) : Option (St) :=
  j_M_readNote_119 F G  S s1 (5 : Int32)
def fM_readNote (F G : Nat) (S : St) : Option (St) :=
  bd (fM_newName F G S (4 : Int32) (S.1 78 41)) fun S2 => lt (S2.1 78 41) fun v3 => bd (fM_want F G S2 (28518 : Int64)) fun S6 => bd2 (fM_oldPart F G S6) fun v8 S9 => gd (inB v3 10) (lt (sI S9 89 v3.toNatClampNeg v8) fun S11 => bd2 (fM_told F G S11 (24948 : Int64) (0 : Int32) ((S11.1 78 39) - (1 : Int32))) fun v14 S15 => gd (inB v3 10) (lt (sI S15 90 v3.toNatClampNeg v14) fun S17 => bd2 (fM_told F G S17 (7038329 : Int64) (0 : Int32) (87 : Int32)) fun v20 S21 => gd (inB v3 10) (lt (sI S21 91 v3.toNatClampNeg v20) fun S23 => bd2 (fM_told F G S23 (1819242087 : Int64) (1 : Int32) (12 : Int32)) fun v26 S27 => gd (inB v3 10) (lt (sI S27 92 v3.toNatClampNeg v26) fun S29 => if (S29.1 78 2) = 0 then bd (fM_isWord F G S29 (1819243876 : Int64)) fun v33 => if v33 = 0 then j_M_readNote_118 F G  S29 v3 else bd2 (fM_told F G S29 (1819243876 : Int64) (1 : Int32) (9 : Int32)) fun v36 S37 => j_M_readNote_119 F G  S37 v3 v36 else j_M_readNote_118 F G  S29 v3))))
set_option maxRecDepth 100000 in
set_option maxHeartbeats 4000000 in
theorem c_M_readNote {X : Nat × (Nat → Int32)} {D F G : Nat} (hD : 4 ≤ D) {S : St} {res : St} (h : fM_readNote F G S  = some res) : Ek X (D) mM_readNote 0 [(0, .ref 78)] [] S none res := by
  obtain ⟨D, rfl⟩ : ∃ E, D = E + 1 := ⟨D - 1, by omega⟩
  unfold fM_readNote at h
  have J119 : ∀ (S : St) (s1 : Int32) (s2 : Int32) (res : St), j_M_readNote_119 F G S s1 s2 = some res → Ek X (D + 1) mM_readNote 119 [(0, .ref 78)] [.int s2, .int s1, .ref 93] S none res := by
    intro S s1 s2 res h
    unfold j_M_readNote_119 at h
    obtain ⟨g38, h⟩ := gd_inv h
    obtain ⟨S39, e40, h⟩ := lt_inv h
    refine y_iast e40 d_M_readNote_119 kd_93 g38 ?_
    refine x_aload_n d_M_readNote_120 rfl 0 rfl ?_
    refine y_getI d_M_readNote_121 fl_11_185 rfl kd_78 ?_
    refine x_if_ne (tgt := 137) d_M_readNote_124 rfl (fun c41 => ?_) (fun c41 => ?_)
    · replace h := ite_f c41 h
      obtain rfl := Option.some.inj h
      exact x_ret (r := none) d_M_readNote_137 rfl
    · replace h := ite_t c41 h
      refine x_aload_n d_M_readNote_127 rfl 0 rfl ?_
      refine x_dup d_M_readNote_128 rfl ?_
      refine y_getI d_M_readNote_129 fl_11_350 rfl kd_78 ?_
      refine x_iconst d_M_readNote_132 ic_1 ?_
      refine x_iadd d_M_readNote_133 ?_
      obtain ⟨S42, e43, h⟩ := lt_inv h
      refine y_putI e43 d_M_readNote_134 fl_11_350 rfl rfl kd_78 rfl rfl ?_
      obtain rfl := Option.some.inj h
      exact x_ret (r := none) d_M_readNote_137 rfl
  have J118 : ∀ (S : St) (s1 : Int32) (res : St), j_M_readNote_118 F G S s1 = some res → Ek X (D + 1) mM_readNote 118 [(0, .ref 78)] [.int s1, .ref 93] S none res := by
    intro S s1 res h
    unfold j_M_readNote_118 at h
    refine x_iconst d_M_readNote_118 ic_5 ?_
    exact J119 S s1 (5 : Int32) _ h
  refine x_aload_n d_M_readNote_0 rfl 0 rfl ?_
  refine x_iconst d_M_readNote_1 ic_4 ?_
  refine x_aload_n d_M_readNote_2 rfl 0 rfl ?_
  refine y_getI d_M_readNote_3 fl_11_350 rfl kd_78 ?_
  obtain ⟨S2, q1, h⟩ := bd_inv h
  refine y_V2v (S1 := S2) d_M_readNote_6 ml_11_347 kd_78 rfl (Nat.le_of_ble_eq_true rfl) (Nat.le_of_ble_eq_true rfl) (c_M_newName (by omega) q1) ?_
  refine x_aload_n d_M_readNote_9 rfl 0 rfl ?_
  refine y_getI d_M_readNote_10 fl_11_350 rfl kd_78 ?_
  obtain ⟨v3, e4, h⟩ := lt_inv h
  refine y_istore_n (L1 := [(0, .ref 78), (1, .int v3)]) e4 d_M_readNote_13 rfl (Nat.le_of_ble_eq_true rfl) rfl rfl ?_
  refine x_aload_n d_M_readNote_14 rfl 0 rfl ?_
  refine x_ldc2 d_M_readNote_15 kc_11_198 ?_
  obtain ⟨S6, q5, h⟩ := bd_inv h
  refine y_V1v (S1 := S6) d_M_readNote_18 ml_11_244 kd_78 rfl (Nat.le_of_ble_eq_true rfl) (Nat.le_of_ble_eq_true rfl) (c_M_want (by omega) q5) ?_
  refine x_aload_n d_M_readNote_21 rfl 0 rfl ?_
  refine y_getR d_M_readNote_22 fl_11_45 rfl kd_78 rr_78_28 ?_
  refine x_iload_n d_M_readNote_25 rfl 1 rfl ?_
  refine x_aload_n d_M_readNote_26 rfl 0 rfl ?_
  obtain ⟨v8, S9, q7, h⟩ := bd2_inv h
  refine y_V0i (v := v8) (S1 := S9) d_M_readNote_27 ml_11_353 kd_78 rfl (Nat.le_of_ble_eq_true rfl) (Nat.le_of_ble_eq_true rfl) (c_M_oldPart (by omega) q7) ?_
  obtain ⟨g10, h⟩ := gd_inv h
  obtain ⟨S11, e12, h⟩ := lt_inv h
  refine y_iast e12 d_M_readNote_30 kd_89 g10 ?_
  refine x_aload_n d_M_readNote_31 rfl 0 rfl ?_
  refine y_getR d_M_readNote_32 fl_11_48 rfl kd_78 rr_78_29 ?_
  refine x_iload_n d_M_readNote_35 rfl 1 rfl ?_
  refine x_aload_n d_M_readNote_36 rfl 0 rfl ?_
  refine x_ldc2 d_M_readNote_37 kc_11_200 ?_
  refine x_iconst d_M_readNote_40 ic_0 ?_
  refine x_aload_n d_M_readNote_41 rfl 0 rfl ?_
  refine y_getI d_M_readNote_42 fl_11_356 rfl kd_78 ?_
  refine x_iconst d_M_readNote_45 ic_1 ?_
  refine x_isub d_M_readNote_46 ?_
  obtain ⟨v14, S15, q13, h⟩ := bd2_inv h
  refine y_V3i (v := v14) (S1 := S15) d_M_readNote_47 ml_11_359 kd_78 rfl (Nat.le_of_ble_eq_true rfl) (Nat.le_of_ble_eq_true rfl) (c_M_told (by omega) q13) ?_
  obtain ⟨g16, h⟩ := gd_inv h
  obtain ⟨S17, e18, h⟩ := lt_inv h
  refine y_iast e18 d_M_readNote_50 kd_90 g16 ?_
  refine x_aload_n d_M_readNote_51 rfl 0 rfl ?_
  refine y_getR d_M_readNote_52 fl_11_51 rfl kd_78 rr_78_30 ?_
  refine x_iload_n d_M_readNote_55 rfl 1 rfl ?_
  refine x_aload_n d_M_readNote_56 rfl 0 rfl ?_
  refine x_ldc2 d_M_readNote_57 kc_11_202 ?_
  refine x_iconst d_M_readNote_60 ic_0 ?_
  refine x_bipush d_M_readNote_61 bp_87 ?_
  obtain ⟨v20, S21, q19, h⟩ := bd2_inv h
  refine y_V3i (v := v20) (S1 := S21) d_M_readNote_63 ml_11_359 kd_78 rfl (Nat.le_of_ble_eq_true rfl) (Nat.le_of_ble_eq_true rfl) (c_M_told (by omega) q19) ?_
  obtain ⟨g22, h⟩ := gd_inv h
  obtain ⟨S23, e24, h⟩ := lt_inv h
  refine y_iast e24 d_M_readNote_66 kd_91 g22 ?_
  refine x_aload_n d_M_readNote_67 rfl 0 rfl ?_
  refine y_getR d_M_readNote_68 fl_11_54 rfl kd_78 rr_78_31 ?_
  refine x_iload_n d_M_readNote_71 rfl 1 rfl ?_
  refine x_aload_n d_M_readNote_72 rfl 0 rfl ?_
  refine x_ldc2 d_M_readNote_73 kc_11_204 ?_
  refine x_iconst d_M_readNote_76 ic_1 ?_
  refine x_bipush d_M_readNote_77 bp_12 ?_
  obtain ⟨v26, S27, q25, h⟩ := bd2_inv h
  refine y_V3i (v := v26) (S1 := S27) d_M_readNote_79 ml_11_359 kd_78 rfl (Nat.le_of_ble_eq_true rfl) (Nat.le_of_ble_eq_true rfl) (c_M_told (by omega) q25) ?_
  obtain ⟨g28, h⟩ := gd_inv h
  obtain ⟨S29, e30, h⟩ := lt_inv h
  refine y_iast e30 d_M_readNote_82 kd_92 g28 ?_
  refine x_aload_n d_M_readNote_83 rfl 0 rfl ?_
  refine y_getR d_M_readNote_84 fl_11_57 rfl kd_78 rr_78_32 ?_
  refine x_iload_n d_M_readNote_87 rfl 1 rfl ?_
  refine x_aload_n d_M_readNote_88 rfl 0 rfl ?_
  refine y_getI d_M_readNote_89 fl_11_185 rfl kd_78 ?_
  refine x_if_ne (tgt := 118) d_M_readNote_92 rfl (fun c31 => ?_) (fun c31 => ?_)
  · replace h := ite_f c31 h
    refine y_pick (L1 := [(0, .ref 78)]) [0] rfl ?_
    exact J118 S29 v3 _ h
  · replace h := ite_t c31 h
    refine x_aload_n d_M_readNote_95 rfl 0 rfl ?_
    refine x_ldc2 d_M_readNote_96 kc_11_206 ?_
    obtain ⟨v33, q32, h⟩ := bd_inv h
    refine y_V1i (v := v33) (S1 := S29) d_M_readNote_99 ml_11_234 kd_78 rfl (Nat.le_of_ble_eq_true rfl) (Nat.le_of_ble_eq_true rfl) (c_M_isWord (by omega) q32) ?_
    refine x_if_eq (tgt := 118) d_M_readNote_102 rfl (fun c34 => ?_) (fun c34 => ?_)
    · replace h := ite_t c34 h
      refine y_pick (L1 := [(0, .ref 78)]) [0] rfl ?_
      exact J118 S29 v3 _ h
    · replace h := ite_f c34 h
      refine x_aload_n d_M_readNote_105 rfl 0 rfl ?_
      refine x_ldc2 d_M_readNote_106 kc_11_206 ?_
      refine x_iconst d_M_readNote_109 ic_1 ?_
      refine x_bipush d_M_readNote_110 bp_9 ?_
      obtain ⟨v36, S37, q35, h⟩ := bd2_inv h
      refine y_V3i (v := v36) (S1 := S37) d_M_readNote_112 ml_11_359 kd_78 rfl (Nat.le_of_ble_eq_true rfl) (Nat.le_of_ble_eq_true rfl) (c_M_told (by omega) q35) ?_
      refine x_goto (tgt := 119) d_M_readNote_115 rfl ?_
      refine y_pick (L1 := [(0, .ref 78)]) [0] rfl ?_
      exact J119 S37 v3 v36 _ h
/-! NinetyPlayersModel.tight -/
def fM_tight (F G : Nat) (S : St) (p1 : Int32) : Option (Int32) :=
  if p1 = 21 then some (3 : Int32) else if p1 = 38 then some (2 : Int32) else if p1 = 43 then some (5 : Int32) else if p1 = 45 then some (5 : Int32) else if p1 = 60 then some (4 : Int32) else if p1 = 61 then some (4 : Int32) else if p1 = 62 then some (4 : Int32) else if p1 = 124 then some (1 : Int32) else some (6 : Int32)
set_option maxRecDepth 100000 in
set_option maxHeartbeats 4000000 in
theorem c_M_tight {X : Nat × (Nat → Int32)} {D F G : Nat} (hD : 0 ≤ D) {S : St} {p1 : Int32} {res : Int32} (h : fM_tight F G S p1 = some res) : Ek X (D) mM_tight 0 [(0, .int p1)] [] S (some (.int res)) S := by
  unfold fM_tight at h
  refine x_iload_n d_M_tight_0 rfl 0 rfl ?_
  by_cases c1 : p1 = 21
  · replace h := ite_t c1 h
    refine x_look (tgt := 80) d_M_tight_1 (by decide +kernel) (by rw [c1] <;> rfl) rfl ?_
    refine x_iconst d_M_tight_80 ic_3 ?_
    obtain rfl := Option.some.inj h
    exact x_ret (r := some (.int (3 : Int32))) d_M_tight_81 ⟨_, rfl, rfl⟩
  replace h := ite_f c1 h
  by_cases c2 : p1 = 38
  · replace h := ite_t c2 h
    refine x_look (tgt := 78) d_M_tight_1 (by decide +kernel) (by rw [c2] <;> rfl) rfl ?_
    refine x_iconst d_M_tight_78 ic_2 ?_
    obtain rfl := Option.some.inj h
    exact x_ret (r := some (.int (2 : Int32))) d_M_tight_79 ⟨_, rfl, rfl⟩
  replace h := ite_f c2 h
  by_cases c3 : p1 = 43
  · replace h := ite_t c3 h
    refine x_look (tgt := 84) d_M_tight_1 (by decide +kernel) (by rw [c3] <;> rfl) rfl ?_
    refine x_iconst d_M_tight_84 ic_5 ?_
    obtain rfl := Option.some.inj h
    exact x_ret (r := some (.int (5 : Int32))) d_M_tight_85 ⟨_, rfl, rfl⟩
  replace h := ite_f c3 h
  by_cases c4 : p1 = 45
  · replace h := ite_t c4 h
    refine x_look (tgt := 84) d_M_tight_1 (by decide +kernel) (by rw [c4] <;> rfl) rfl ?_
    refine x_iconst d_M_tight_84 ic_5 ?_
    obtain rfl := Option.some.inj h
    exact x_ret (r := some (.int (5 : Int32))) d_M_tight_85 ⟨_, rfl, rfl⟩
  replace h := ite_f c4 h
  by_cases c5 : p1 = 60
  · replace h := ite_t c5 h
    refine x_look (tgt := 82) d_M_tight_1 (by decide +kernel) (by rw [c5] <;> rfl) rfl ?_
    refine x_iconst d_M_tight_82 ic_4 ?_
    obtain rfl := Option.some.inj h
    exact x_ret (r := some (.int (4 : Int32))) d_M_tight_83 ⟨_, rfl, rfl⟩
  replace h := ite_f c5 h
  by_cases c6 : p1 = 61
  · replace h := ite_t c6 h
    refine x_look (tgt := 82) d_M_tight_1 (by decide +kernel) (by rw [c6] <;> rfl) rfl ?_
    refine x_iconst d_M_tight_82 ic_4 ?_
    obtain rfl := Option.some.inj h
    exact x_ret (r := some (.int (4 : Int32))) d_M_tight_83 ⟨_, rfl, rfl⟩
  replace h := ite_f c6 h
  by_cases c7 : p1 = 62
  · replace h := ite_t c7 h
    refine x_look (tgt := 82) d_M_tight_1 (by decide +kernel) (by rw [c7] <;> rfl) rfl ?_
    refine x_iconst d_M_tight_82 ic_4 ?_
    obtain rfl := Option.some.inj h
    exact x_ret (r := some (.int (4 : Int32))) d_M_tight_83 ⟨_, rfl, rfl⟩
  replace h := ite_f c7 h
  by_cases c8 : p1 = 124
  · replace h := ite_t c8 h
    refine x_look (tgt := 76) d_M_tight_1 (by decide +kernel) (by rw [c8] <;> rfl) rfl ?_
    refine x_iconst d_M_tight_76 ic_1 ?_
    obtain rfl := Option.some.inj h
    exact x_ret (r := some (.int (1 : Int32))) d_M_tight_77 ⟨_, rfl, rfl⟩
  replace h := ite_f c8 h
  refine x_look (off := 85) (tgt := 86) d_M_tight_1 (by decide +kernel) (by show Op.lookupswitch.offset [(21, 79), (38, 77), (43, 83), (45, 83), (60, 81), (61, 81), (62, 81), (124, 75)] 85 _ = _; rw [lv_osw (a := 21) c1 (by decide), lv_osw (a := 38) c2 (by decide), lv_osw (a := 43) c3 (by decide), lv_osw (a := 45) c4 (by decide), lv_osw (a := 60) c5 (by decide), lv_osw (a := 61) c6 (by decide), lv_osw (a := 62) c7 (by decide), lv_osw (a := 124) c8 (by decide)]; rfl) rfl ?_
  refine x_bipush d_M_tight_86 bp_6 ?_
  obtain rfl := Option.some.inj h
  exact x_ret (r := some (.int (6 : Int32))) d_M_tight_88 ⟨_, rfl, rfl⟩
/-! NinetyPlayersModel.mayNot -/
def fM_mayNot (F G : Nat) (S : St) : Option (Int32) :=
  if (S.1 78 19) = 0 then some (1 : Int32) else gd (inB ((S.1 78 19) - (1 : Int32)) 160) (if (S.1 85 ((S.1 78 19) - (1 : Int32)).toNatClampNeg) = (20 : Int32) then some (1 : Int32) else gd (inB ((S.1 78 19) - (1 : Int32)) 160) (bd (fM_tight F G S (S.1 85 ((S.1 78 19) - (1 : Int32)).toNatClampNeg)) fun v6 => if (4 : Int32) ≤ v6 then some (0 : Int32) else some (1 : Int32)))
set_option maxRecDepth 100000 in
set_option maxHeartbeats 4000000 in
theorem c_M_mayNot {X : Nat × (Nat → Int32)} {D F G : Nat} (hD : 1 ≤ D) {S : St} {res : Int32} (h : fM_mayNot F G S  = some res) : Ek X (D) mM_mayNot 0 [(0, .ref 78)] [] S (some (.int res)) S := by
  obtain ⟨D, rfl⟩ : ∃ E, D = E + 1 := ⟨D - 1, by omega⟩
  unfold fM_mayNot at h
  refine x_aload_n d_M_mayNot_0 rfl 0 rfl ?_
  refine y_getI d_M_mayNot_1 fl_11_264 rfl kd_78 ?_
  refine x_if_eq (tgt := 41) d_M_mayNot_4 rfl (fun c1 => ?_) (fun c1 => ?_)
  · replace h := ite_t c1 h
    refine x_iconst d_M_mayNot_41 ic_1 ?_
    refine x_goto (tgt := 46) d_M_mayNot_42 rfl ?_
    obtain rfl := Option.some.inj h
    exact x_ret (r := some (.int (1 : Int32))) d_M_mayNot_46 ⟨_, rfl, rfl⟩
  · replace h := ite_f c1 h
    refine x_aload_n d_M_mayNot_7 rfl 0 rfl ?_
    refine y_getR d_M_mayNot_8 fl_11_33 rfl kd_78 rr_78_15 ?_
    refine x_aload_n d_M_mayNot_11 rfl 0 rfl ?_
    refine y_getI d_M_mayNot_12 fl_11_264 rfl kd_78 ?_
    refine x_iconst d_M_mayNot_15 ic_1 ?_
    refine x_isub d_M_mayNot_16 ?_
    obtain ⟨g2, h⟩ := gd_inv h
    refine y_iald d_M_mayNot_17 kd_85 g2 ?_
    refine x_bipush d_M_mayNot_18 bp_20 ?_
    refine x_icmp_eq (tgt := 41) d_M_mayNot_20 rfl (fun c3 => ?_) (fun c3 => ?_)
    · replace h := ite_t c3 h
      refine x_iconst d_M_mayNot_41 ic_1 ?_
      refine x_goto (tgt := 46) d_M_mayNot_42 rfl ?_
      obtain rfl := Option.some.inj h
      exact x_ret (r := some (.int (1 : Int32))) d_M_mayNot_46 ⟨_, rfl, rfl⟩
    · replace h := ite_f c3 h
      refine x_aload_n d_M_mayNot_23 rfl 0 rfl ?_
      refine y_getR d_M_mayNot_24 fl_11_33 rfl kd_78 rr_78_15 ?_
      refine x_aload_n d_M_mayNot_27 rfl 0 rfl ?_
      refine y_getI d_M_mayNot_28 fl_11_264 rfl kd_78 ?_
      refine x_iconst d_M_mayNot_31 ic_1 ?_
      refine x_isub d_M_mayNot_32 ?_
      obtain ⟨g4, h⟩ := gd_inv h
      refine y_iald d_M_mayNot_33 kd_85 g4 ?_
      obtain ⟨v6, q5, h⟩ := bd_inv h
      refine y_S1i (v := v6) (S1 := S) d_M_mayNot_34 ml_11_267 (Nat.le_of_ble_eq_true rfl) (Nat.le_of_ble_eq_true rfl) (c_M_tight (by omega) q5) ?_
      refine x_iconst d_M_mayNot_37 ic_4 ?_
      refine x_icmp_ge (tgt := 45) d_M_mayNot_38 rfl (fun c7 => ?_) (fun c7 => ?_)
      · replace h := ite_t c7 h
        refine x_iconst d_M_mayNot_45 ic_0 ?_
        obtain rfl := Option.some.inj h
        exact x_ret (r := some (.int (0 : Int32))) d_M_mayNot_46 ⟨_, rfl, rfl⟩
      · replace h := ite_f c7 h
        refine x_iconst d_M_mayNot_41 ic_1 ?_
        refine x_goto (tgt := 46) d_M_mayNot_42 rfl ?_
        obtain rfl := Option.some.inj h
        exact x_ret (r := some (.int (1 : Int32))) d_M_mayNot_46 ⟨_, rfl, rfl⟩
/-! NinetyPlayersModel.openUp -/
def fM_openUp (F G : Nat) (S : St) (p1 : Int32) : Option (St) :=
  gd (inB (S.1 78 19) 160) (lt (sI S 85 (S.1 78 19).toNatClampNeg p1) fun S2 => lt (sI S2 78 19 ((S2.1 78 19) + (1 : Int32))) fun S4 => lt (sI S4 78 23 ((S4.1 78 23) + (1 : Int32))) fun S6 => if (S6.1 78 2) = 0 then bd (fM_token F G S6 ) fun S10 => some S10 else some S6)
set_option maxRecDepth 100000 in
set_option maxHeartbeats 4000000 in
theorem c_M_openUp {X : Nat × (Nat → Int32)} {D F G : Nat} (hD : 2 ≤ D) {S : St} {p1 : Int32} {res : St} (h : fM_openUp F G S p1 = some res) : Ek X (D) mM_openUp 0 [(0, .ref 78), (1, .int p1)] [] S none res := by
  obtain ⟨D, rfl⟩ : ∃ E, D = E + 1 := ⟨D - 1, by omega⟩
  unfold fM_openUp at h
  refine x_aload_n d_M_openUp_0 rfl 0 rfl ?_
  refine y_getR d_M_openUp_1 fl_11_33 rfl kd_78 rr_78_15 ?_
  refine x_aload_n d_M_openUp_4 rfl 0 rfl ?_
  refine y_getI d_M_openUp_5 fl_11_264 rfl kd_78 ?_
  refine x_iload_n d_M_openUp_8 rfl 1 rfl ?_
  obtain ⟨g1, h⟩ := gd_inv h
  obtain ⟨S2, e3, h⟩ := lt_inv h
  refine y_iast e3 d_M_openUp_9 kd_85 g1 ?_
  refine x_aload_n d_M_openUp_10 rfl 0 rfl ?_
  refine x_dup d_M_openUp_11 rfl ?_
  refine y_getI d_M_openUp_12 fl_11_264 rfl kd_78 ?_
  refine x_iconst d_M_openUp_15 ic_1 ?_
  refine x_iadd d_M_openUp_16 ?_
  obtain ⟨S4, e5, h⟩ := lt_inv h
  refine y_putI e5 d_M_openUp_17 fl_11_264 rfl rfl kd_78 rfl rfl ?_
  refine x_aload_n d_M_openUp_20 rfl 0 rfl ?_
  refine x_dup d_M_openUp_21 rfl ?_
  refine y_getI d_M_openUp_22 fl_11_274 rfl kd_78 ?_
  refine x_iconst d_M_openUp_25 ic_1 ?_
  refine x_iadd d_M_openUp_26 ?_
  obtain ⟨S6, e7, h⟩ := lt_inv h
  refine y_putI e7 d_M_openUp_27 fl_11_274 rfl rfl kd_78 rfl rfl ?_
  refine x_aload_n d_M_openUp_30 rfl 0 rfl ?_
  refine y_getI d_M_openUp_31 fl_11_185 rfl kd_78 ?_
  refine x_if_ne (tgt := 41) d_M_openUp_34 rfl (fun c8 => ?_) (fun c8 => ?_)
  · replace h := ite_f c8 h
    obtain rfl := Option.some.inj h
    exact x_ret (r := none) d_M_openUp_41 rfl
  · replace h := ite_t c8 h
    refine x_aload_n d_M_openUp_37 rfl 0 rfl ?_
    obtain ⟨S10, q9, h⟩ := bd_inv h
    refine y_V0v (S1 := S10) d_M_openUp_38 ml_11_241 kd_78 rfl (Nat.le_of_ble_eq_true rfl) (Nat.le_of_ble_eq_true rfl) (c_M_token (by omega) q9) ?_
    obtain rfl := Option.some.inj h
    exact x_ret (r := none) d_M_openUp_41 rfl
/-! NinetyPlayersModel.isFull -/
def fM_isFull (F G : Nat) (S : St) : Option (Int32) :=
  if (S.1 78 20) = (60 : Int32) then some (1 : Int32) else if (S.1 78 22) = (30 : Int32) then some (1 : Int32) else some (0 : Int32)
set_option maxRecDepth 100000 in
set_option maxHeartbeats 4000000 in
theorem c_M_isFull {X : Nat × (Nat → Int32)} {D F G : Nat} (hD : 0 ≤ D) {S : St} {res : Int32} (h : fM_isFull F G S  = some res) : Ek X (D) mM_isFull 0 [(0, .ref 78)] [] S (some (.int res)) S := by
  unfold fM_isFull at h
  refine x_aload_n d_M_isFull_0 rfl 0 rfl ?_
  refine y_getI d_M_isFull_1 fl_11_277 rfl kd_78 ?_
  refine x_bipush d_M_isFull_4 bp_60 ?_
  refine x_icmp_eq (tgt := 18) d_M_isFull_6 rfl (fun c1 => ?_) (fun c1 => ?_)
  · replace h := ite_t c1 h
    refine x_iconst d_M_isFull_18 ic_1 ?_
    refine x_goto (tgt := 23) d_M_isFull_19 rfl ?_
    obtain rfl := Option.some.inj h
    exact x_ret (r := some (.int (1 : Int32))) d_M_isFull_23 ⟨_, rfl, rfl⟩
  · replace h := ite_f c1 h
    refine x_aload_n d_M_isFull_9 rfl 0 rfl ?_
    refine y_getI d_M_isFull_10 fl_11_280 rfl kd_78 ?_
    refine x_bipush d_M_isFull_13 bp_30 ?_
    refine x_icmp_ne (tgt := 22) d_M_isFull_15 rfl (fun c2 => ?_) (fun c2 => ?_)
    · replace h := ite_f c2 h
      refine x_iconst d_M_isFull_22 ic_0 ?_
      obtain rfl := Option.some.inj h
      exact x_ret (r := some (.int (0 : Int32))) d_M_isFull_23 ⟨_, rfl, rfl⟩
    · replace h := ite_t c2 h
      refine x_iconst d_M_isFull_18 ic_1 ?_
      refine x_goto (tgt := 23) d_M_isFull_19 rfl ?_
      obtain rfl := Option.some.inj h
      exact x_ret (r := some (.int (1 : Int32))) d_M_isFull_23 ⟨_, rfl, rfl⟩
/-! NinetyPlayersModel.countUnit -/
def fM_countUnit (F G : Nat) (S : St) : Option (St) :=
  lt (sI S 78 20 ((S.1 78 20) + (1 : Int32))) fun S1 => lt (sI S1 78 22 ((S1.1 78 22) + (1 : Int32))) fun S3 => some S3
set_option maxRecDepth 100000 in
set_option maxHeartbeats 4000000 in
theorem c_M_countUnit {X : Nat × (Nat → Int32)} {D F G : Nat} (hD : 0 ≤ D) {S : St} {res : St} (h : fM_countUnit F G S  = some res) : Ek X (D) mM_countUnit 0 [(0, .ref 78)] [] S none res := by
  unfold fM_countUnit at h
  refine x_aload_n d_M_countUnit_0 rfl 0 rfl ?_
  refine x_dup d_M_countUnit_1 rfl ?_
  refine y_getI d_M_countUnit_2 fl_11_277 rfl kd_78 ?_
  refine x_iconst d_M_countUnit_5 ic_1 ?_
  refine x_iadd d_M_countUnit_6 ?_
  obtain ⟨S1, e2, h⟩ := lt_inv h
  refine y_putI e2 d_M_countUnit_7 fl_11_277 rfl rfl kd_78 rfl rfl ?_
  refine x_aload_n d_M_countUnit_10 rfl 0 rfl ?_
  refine x_dup d_M_countUnit_11 rfl ?_
  refine y_getI d_M_countUnit_12 fl_11_280 rfl kd_78 ?_
  refine x_iconst d_M_countUnit_15 ic_1 ?_
  refine x_iadd d_M_countUnit_16 ?_
  obtain ⟨S3, e4, h⟩ := lt_inv h
  refine y_putI e4 d_M_countUnit_17 fl_11_280 rfl rfl kd_78 rfl rfl ?_
  obtain rfl := Option.some.inj h
  exact x_ret (r := none) d_M_countUnit_20 rfl
/-! NinetyPlayersModel.asked -/
def fM_asked (F G : Nat) (S : St) : Option (Int32) :=
  if (S.1 78 6) = (1 : Int32) then if (lg_cmp (S.2.1 78 9) (1919904869 : Int64)) = 0 then some (0 : Int32) else if (lg_cmp (S.2.1 78 9) (7038329 : Int64)) = 0 then some (1 : Int32) else if (lg_cmp (S.2.1 78 9) (1819242087 : Int64)) = 0 then some (2 : Int32) else if (lg_cmp (S.2.1 78 9) (1819243876 : Int64)) = 0 then some (3 : Int32) else if (lg_cmp (S.2.1 78 9) (28270047624193380 : Int64)) = 0 then some (4 : Int32) else if (lg_cmp (S.2.1 78 9) (1650811252 : Int64)) = 0 then some (5 : Int32) else some (-1 : Int32) else some (-1 : Int32)
set_option maxRecDepth 100000 in
set_option maxHeartbeats 4000000 in
theorem c_M_asked {X : Nat × (Nat → Int32)} {D F G : Nat} (hD : 0 ≤ D) {S : St} {res : Int32} (h : fM_asked F G S  = some res) : Ek X (D) mM_asked 0 [(0, .ref 78)] [] S (some (.int res)) S := by
  unfold fM_asked at h
  refine x_aload_n d_M_asked_0 rfl 0 rfl ?_
  refine y_getI d_M_asked_1 fl_11_172 rfl kd_78 ?_
  refine x_iconst d_M_asked_4 ic_1 ?_
  refine x_icmp_eq (tgt := 10) d_M_asked_5 rfl (fun c1 => ?_) (fun c1 => ?_)
  · replace h := ite_t c1 h
    refine x_aload_n d_M_asked_10 rfl 0 rfl ?_
    refine y_getL d_M_asked_11 fl_11_165 rfl kd_78 ?_
    refine x_ldc2 d_M_asked_14 kc_11_218 ?_
    refine x_lcmp d_M_asked_17 ?_
    refine x_if_ne (tgt := 23) d_M_asked_18 rfl (fun c2 => ?_) (fun c2 => ?_)
    · replace h := ite_f c2 h
      refine x_aload_n d_M_asked_23 rfl 0 rfl ?_
      refine y_getL d_M_asked_24 fl_11_165 rfl kd_78 ?_
      refine x_ldc2 d_M_asked_27 kc_11_202 ?_
      refine x_lcmp d_M_asked_30 ?_
      refine x_if_ne (tgt := 36) d_M_asked_31 rfl (fun c3 => ?_) (fun c3 => ?_)
      · replace h := ite_f c3 h
        refine x_aload_n d_M_asked_36 rfl 0 rfl ?_
        refine y_getL d_M_asked_37 fl_11_165 rfl kd_78 ?_
        refine x_ldc2 d_M_asked_40 kc_11_204 ?_
        refine x_lcmp d_M_asked_43 ?_
        refine x_if_ne (tgt := 49) d_M_asked_44 rfl (fun c4 => ?_) (fun c4 => ?_)
        · replace h := ite_f c4 h
          refine x_aload_n d_M_asked_49 rfl 0 rfl ?_
          refine y_getL d_M_asked_50 fl_11_165 rfl kd_78 ?_
          refine x_ldc2 d_M_asked_53 kc_11_206 ?_
          refine x_lcmp d_M_asked_56 ?_
          refine x_if_ne (tgt := 62) d_M_asked_57 rfl (fun c5 => ?_) (fun c5 => ?_)
          · replace h := ite_f c5 h
            refine x_aload_n d_M_asked_62 rfl 0 rfl ?_
            refine y_getL d_M_asked_63 fl_11_165 rfl kd_78 ?_
            refine x_ldc2 d_M_asked_66 kc_11_220 ?_
            refine x_lcmp d_M_asked_69 ?_
            refine x_if_ne (tgt := 75) d_M_asked_70 rfl (fun c6 => ?_) (fun c6 => ?_)
            · replace h := ite_f c6 h
              refine x_aload_n d_M_asked_75 rfl 0 rfl ?_
              refine y_getL d_M_asked_76 fl_11_165 rfl kd_78 ?_
              refine x_ldc2 d_M_asked_79 kc_11_222 ?_
              refine x_lcmp d_M_asked_82 ?_
              refine x_if_ne (tgt := 90) d_M_asked_83 rfl (fun c7 => ?_) (fun c7 => ?_)
              · replace h := ite_f c7 h
                refine x_iconst d_M_asked_90 ic_m1 ?_
                obtain rfl := Option.some.inj h
                exact x_ret (r := some (.int (-1 : Int32))) d_M_asked_91 ⟨_, rfl, rfl⟩
              · replace h := ite_t c7 h
                refine x_iconst d_M_asked_86 ic_5 ?_
                refine x_goto (tgt := 91) d_M_asked_87 rfl ?_
                obtain rfl := Option.some.inj h
                exact x_ret (r := some (.int (5 : Int32))) d_M_asked_91 ⟨_, rfl, rfl⟩
            · replace h := ite_t c6 h
              refine x_iconst d_M_asked_73 ic_4 ?_
              obtain rfl := Option.some.inj h
              exact x_ret (r := some (.int (4 : Int32))) d_M_asked_74 ⟨_, rfl, rfl⟩
          · replace h := ite_t c5 h
            refine x_iconst d_M_asked_60 ic_3 ?_
            obtain rfl := Option.some.inj h
            exact x_ret (r := some (.int (3 : Int32))) d_M_asked_61 ⟨_, rfl, rfl⟩
        · replace h := ite_t c4 h
          refine x_iconst d_M_asked_47 ic_2 ?_
          obtain rfl := Option.some.inj h
          exact x_ret (r := some (.int (2 : Int32))) d_M_asked_48 ⟨_, rfl, rfl⟩
      · replace h := ite_t c3 h
        refine x_iconst d_M_asked_34 ic_1 ?_
        obtain rfl := Option.some.inj h
        exact x_ret (r := some (.int (1 : Int32))) d_M_asked_35 ⟨_, rfl, rfl⟩
    · replace h := ite_t c2 h
      refine x_iconst d_M_asked_21 ic_0 ?_
      obtain rfl := Option.some.inj h
      exact x_ret (r := some (.int (0 : Int32))) d_M_asked_22 ⟨_, rfl, rfl⟩
  · replace h := ite_f c1 h
    refine x_iconst d_M_asked_8 ic_m1 ?_
    obtain rfl := Option.some.inj h
    exact x_ret (r := some (.int (-1 : Int32))) d_M_asked_9 ⟨_, rfl, rfl⟩
/-! NinetyPlayersModel.add -/
def fM_add (F G : Nat) (S : St) (p1 : Int32) (p2 : Int32) : Option (St) :=
  gd (inB (S.1 78 17) 320) (lt (sI S 81 (S.1 78 17).toNatClampNeg p1) fun S2 => gd (inB (S2.1 78 17) 320) (lt (sI S2 82 (S2.1 78 17).toNatClampNeg p2) fun S5 => lt (sI S5 78 17 ((S5.1 78 17) + (1 : Int32))) fun S7 => some S7))
set_option maxRecDepth 100000 in
set_option maxHeartbeats 4000000 in
theorem c_M_add {X : Nat × (Nat → Int32)} {D F G : Nat} (hD : 0 ≤ D) {S : St} {p1 : Int32} {p2 : Int32} {res : St} (h : fM_add F G S p1 p2 = some res) : Ek X (D) mM_add 0 [(0, .ref 78), (1, .int p1), (2, .int p2)] [] S none res := by
  unfold fM_add at h
  refine x_aload_n d_M_add_0 rfl 0 rfl ?_
  refine y_getR d_M_add_1 fl_11_21 rfl kd_78 rr_78_11 ?_
  refine x_aload_n d_M_add_4 rfl 0 rfl ?_
  refine y_getI d_M_add_5 fl_11_261 rfl kd_78 ?_
  refine x_iload_n d_M_add_8 rfl 1 rfl ?_
  obtain ⟨g1, h⟩ := gd_inv h
  obtain ⟨S2, e3, h⟩ := lt_inv h
  refine y_iast e3 d_M_add_9 kd_81 g1 ?_
  refine x_aload_n d_M_add_10 rfl 0 rfl ?_
  refine y_getR d_M_add_11 fl_11_24 rfl kd_78 rr_78_12 ?_
  refine x_aload_n d_M_add_14 rfl 0 rfl ?_
  refine y_getI d_M_add_15 fl_11_261 rfl kd_78 ?_
  refine x_iload_n d_M_add_18 rfl 2 rfl ?_
  obtain ⟨g4, h⟩ := gd_inv h
  obtain ⟨S5, e6, h⟩ := lt_inv h
  refine y_iast e6 d_M_add_19 kd_82 g4 ?_
  refine x_aload_n d_M_add_20 rfl 0 rfl ?_
  refine x_dup d_M_add_21 rfl ?_
  refine y_getI d_M_add_22 fl_11_261 rfl kd_78 ?_
  refine x_iconst d_M_add_25 ic_1 ?_
  refine x_iadd d_M_add_26 ?_
  obtain ⟨S7, e8, h⟩ := lt_inv h
  refine y_putI e8 d_M_add_27 fl_11_261 rfl rfl kd_78 rfl rfl ?_
  obtain rfl := Option.some.inj h
  exact x_ret (r := none) d_M_add_30 rfl
/-! NinetyPlayersModel.unit -/
def j_M_unit_83 (F G : Nat) (k101 : St → Option (St)) (rec : Int32 → St → Option (St)) (S : St) (y1 : Int32) : Option (St) :=
  bd (fM_countUnit F G S ) fun S24 => bd (fM_openUp F G S24 (20 : Int32)) fun S26 => rec y1 S26
def j_M_unit_78 (F G : Nat) (k101 : St → Option (St)) (rec : Int32 → St → Option (St)) (S : St) (y1 : Int32) : Option (St) :=
  bd (fM_wrong F G S (2 : Int32)) fun S22 => j_M_unit_83 F G k101 rec  S22 y1
def j_M_unit_53 (F G : Nat) (k101 : St → Option (St)) (rec : Int32 → St → Option (St)) (S : St) (y1 : Int32) : Option (St) :=
  if (S.1 78 6) = (40 : Int32) then bd (fM_isFull F G S) fun v18 => if v18 = 0 then if (S.1 78 23) ≤ (6 : Int32) then j_M_unit_83 F G k101 rec  S y1 else j_M_unit_78 F G k101 rec  S y1 else j_M_unit_78 F G k101 rec  S y1 else rec (0 : Int32) S
def b_M_unit_2 (F G : Nat) (k101 : St → Option (St)) (rec : Int32 → St → Option (St)) (w1 : Int32) (S : St) : Option (St) :=
  if w1 = 0 then k101 S else if (S.1 78 2) = 0 then bd (fM_isWord F G S (7237492 : Int64)) fun v4 => if v4 = 0 then j_M_unit_53 F G k101 rec  S w1 else bd (fM_mayNot F G S) fun v7 => if v7 = 0 then j_M_unit_53 F G k101 rec  S w1 else if (S.1 78 23) ≤ (6 : Int32) then bd (fM_openUp F G S (21 : Int32)) fun S11 => rec w1 S11 else bd (fM_wrong F G S (2 : Int32)) fun S13 => bd (fM_openUp F G S13 (21 : Int32)) fun S15 => rec w1 S15 else k101 S
def j_M_unit_160 (F G : Nat) (S : St) (y2 : Int32) (s1 : Int32) : Option (St) :=
  if 0 ≤ y2 then bd (fM_add F G S s1 y2) fun S44 => bd (fM_token F G S44 ) fun S46 => some S46 else bd (fM_add F G S s1 (S.1 78 8)) fun S48 => bd (fM_token F G S48 ) fun S50 => some S50
def j_M_unit_138 (F G : Nat) (S : St) (y2 : Int32) : Option (St) :=
  if (S.1 78 2) ≤ 0 then bd (fM_countUnit F G S ) fun S40 => if 0 ≤ y2 then j_M_unit_160 F G  S40 y2 (1 : Int32) else j_M_unit_160 F G  S40 y2 (0 : Int32) else some S
def j_M_unit_133 (F G : Nat) (S : St) (y2 : Int32) : Option (St) :=
  bd (fM_wrong F G S (2 : Int32)) fun S37 => j_M_unit_138 F G  S37 y2
def j_M_unit_126 (F G : Nat) (S : St) (y2 : Int32) : Option (St) :=
  bd (fM_isFull F G S) fun v34 => if v34 = 0 then j_M_unit_138 F G  S y2 else j_M_unit_133 F G  S y2
def j_M_unit_101 (F G : Nat) (S : St) : Option (St) :=
  if (S.1 78 2) ≤ 0 then bd (fM_asked F G S) fun v30 => if (S.1 78 6) = (2 : Int32) then j_M_unit_126 F G  S v30 else if v30 < 0 then j_M_unit_133 F G  S v30 else j_M_unit_126 F G  S v30 else some S
def fM_unit (F G : Nat) (S : St) : Option (St) :=
  fx2 (b_M_unit_2 F G  (fun S27 => j_M_unit_101 F G  S27 )) F (1 : Int32) S
set_option maxRecDepth 100000 in
set_option maxHeartbeats 4000000 in
theorem T_M_unit_2 {X : Nat × (Nat → Int32)} {D F G : Nat} (hD : 3 ≤ D + 1) {k101 : St → Option (St)} (hk101 : ∀ (S1 : St) (res : St), k101 S1 = some res → Ek X (D + 1) mM_unit 101 [(0, .ref 78)] [] S1 none res) : ∀ (f : Nat) (w1 : Int32) (S : St) (res : St), fx2 (b_M_unit_2 F G k101 ) f w1 S = some res → Ek X (D + 1) mM_unit 2 [(0, .ref 78), (1, .int w1)] [] S none res := by
  refine fx2_ind ?_
  intro rec ih w1 S res h
  unfold b_M_unit_2 at h
  have J83 : ∀ (S : St) (y1 : Int32) (res : St), j_M_unit_83 F G k101 rec S y1 = some res → Ek X (D + 1) mM_unit 83 [(0, .ref 78), (1, .int y1)] [] S none res := by
    intro S y1 res h
    unfold j_M_unit_83 at h
    refine x_aload_n d_M_unit_83 rfl 0 rfl ?_
    obtain ⟨S24, q23, h⟩ := bd_inv h
    refine y_V0v (S1 := S24) d_M_unit_84 ml_11_292 kd_78 rfl (Nat.le_of_ble_eq_true rfl) (Nat.le_of_ble_eq_true rfl) (c_M_countUnit (by omega) q23) ?_
    refine x_aload_n d_M_unit_87 rfl 0 rfl ?_
    refine x_bipush d_M_unit_88 bp_20 ?_
    obtain ⟨S26, q25, h⟩ := bd_inv h
    refine y_V1v (S1 := S26) d_M_unit_90 ml_11_286 kd_78 rfl (Nat.le_of_ble_eq_true rfl) (Nat.le_of_ble_eq_true rfl) (c_M_openUp (by omega) q25) ?_
    refine x_goto (tgt := 2) d_M_unit_93 rfl ?_
    exact ih y1 S26 _ h
  have J78 : ∀ (S : St) (y1 : Int32) (res : St), j_M_unit_78 F G k101 rec S y1 = some res → Ek X (D + 1) mM_unit 78 [(0, .ref 78), (1, .int y1)] [] S none res := by
    intro S y1 res h
    unfold j_M_unit_78 at h
    refine x_aload_n d_M_unit_78 rfl 0 rfl ?_
    refine x_iconst d_M_unit_79 ic_2 ?_
    obtain ⟨S22, q21, h⟩ := bd_inv h
    refine y_V1v (S1 := S22) d_M_unit_80 ml_11_238 kd_78 rfl (Nat.le_of_ble_eq_true rfl) (Nat.le_of_ble_eq_true rfl) (c_M_wrong (by omega) q21) ?_
    exact J83 S22 y1 _ h
  have J53 : ∀ (S : St) (y1 : Int32) (res : St), j_M_unit_53 F G k101 rec S y1 = some res → Ek X (D + 1) mM_unit 53 [(0, .ref 78), (1, .int y1)] [] S none res := by
    intro S y1 res h
    unfold j_M_unit_53 at h
    refine x_aload_n d_M_unit_53 rfl 0 rfl ?_
    refine y_getI d_M_unit_54 fl_11_172 rfl kd_78 ?_
    refine x_bipush d_M_unit_57 bp_40 ?_
    refine x_icmp_ne (tgt := 96) d_M_unit_59 rfl (fun c16 => ?_) (fun c16 => ?_)
    · replace h := ite_f c16 h
      refine x_iconst d_M_unit_96 ic_0 ?_
      refine x_istore_n (L1 := [(0, .ref 78), (1, .int (0 : Int32))]) d_M_unit_97 rfl (Nat.le_of_ble_eq_true rfl) rfl rfl ?_
      refine x_goto (tgt := 2) d_M_unit_98 rfl ?_
      exact ih (0 : Int32) S _ h
    · replace h := ite_t c16 h
      refine x_aload_n d_M_unit_62 rfl 0 rfl ?_
      obtain ⟨v18, q17, h⟩ := bd_inv h
      refine y_V0i (v := v18) (S1 := S) d_M_unit_63 ml_11_289 kd_78 rfl (Nat.le_of_ble_eq_true rfl) (Nat.le_of_ble_eq_true rfl) (c_M_isFull (by omega) q17) ?_
      refine x_if_ne (tgt := 78) d_M_unit_66 rfl (fun c19 => ?_) (fun c19 => ?_)
      · replace h := ite_f c19 h
        exact J78 S y1 _ h
      · replace h := ite_t c19 h
        refine x_aload_n d_M_unit_69 rfl 0 rfl ?_
        refine y_getI d_M_unit_70 fl_11_274 rfl kd_78 ?_
        refine x_bipush d_M_unit_73 bp_6 ?_
        refine x_icmp_le (tgt := 83) d_M_unit_75 rfl (fun c20 => ?_) (fun c20 => ?_)
        · replace h := ite_t c20 h
          exact J83 S y1 _ h
        · replace h := ite_f c20 h
          exact J78 S y1 _ h
  refine x_iload_n d_M_unit_2 rfl 1 rfl ?_
  refine x_if_eq (tgt := 101) d_M_unit_3 rfl (fun c1 => ?_) (fun c1 => ?_)
  · replace h := ite_t c1 h
    refine y_pick (L1 := [(0, .ref 78)]) [0] rfl ?_
    exact hk101 S _ h
  · replace h := ite_f c1 h
    refine x_aload_n d_M_unit_6 rfl 0 rfl ?_
    refine y_getI d_M_unit_7 fl_11_185 rfl kd_78 ?_
    refine x_if_ne (tgt := 101) d_M_unit_10 rfl (fun c2 => ?_) (fun c2 => ?_)
    · replace h := ite_f c2 h
      refine y_pick (L1 := [(0, .ref 78)]) [0] rfl ?_
      exact hk101 S _ h
    · replace h := ite_t c2 h
      refine x_aload_n d_M_unit_13 rfl 0 rfl ?_
      refine x_ldc2 d_M_unit_14 kc_11_228 ?_
      obtain ⟨v4, q3, h⟩ := bd_inv h
      refine y_V1i (v := v4) (S1 := S) d_M_unit_17 ml_11_234 kd_78 rfl (Nat.le_of_ble_eq_true rfl) (Nat.le_of_ble_eq_true rfl) (c_M_isWord (by omega) q3) ?_
      refine x_if_eq (tgt := 53) d_M_unit_20 rfl (fun c5 => ?_) (fun c5 => ?_)
      · replace h := ite_t c5 h
        exact J53 S w1 _ h
      · replace h := ite_f c5 h
        refine x_aload_n d_M_unit_23 rfl 0 rfl ?_
        obtain ⟨v7, q6, h⟩ := bd_inv h
        refine y_V0i (v := v7) (S1 := S) d_M_unit_24 ml_11_283 kd_78 rfl (Nat.le_of_ble_eq_true rfl) (Nat.le_of_ble_eq_true rfl) (c_M_mayNot (by omega) q6) ?_
        refine x_if_eq (tgt := 53) d_M_unit_27 rfl (fun c8 => ?_) (fun c8 => ?_)
        · replace h := ite_t c8 h
          exact J53 S w1 _ h
        · replace h := ite_f c8 h
          refine x_aload_n d_M_unit_30 rfl 0 rfl ?_
          refine y_getI d_M_unit_31 fl_11_274 rfl kd_78 ?_
          refine x_bipush d_M_unit_34 bp_6 ?_
          refine x_icmp_le (tgt := 44) d_M_unit_36 rfl (fun c9 => ?_) (fun c9 => ?_)
          · replace h := ite_t c9 h
            refine x_aload_n d_M_unit_44 rfl 0 rfl ?_
            refine x_bipush d_M_unit_45 bp_21 ?_
            obtain ⟨S11, q10, h⟩ := bd_inv h
            refine y_V1v (S1 := S11) d_M_unit_47 ml_11_286 kd_78 rfl (Nat.le_of_ble_eq_true rfl) (Nat.le_of_ble_eq_true rfl) (c_M_openUp (by omega) q10) ?_
            refine x_goto (tgt := 2) d_M_unit_50 rfl ?_
            exact ih w1 S11 _ h
          · replace h := ite_f c9 h
            refine x_aload_n d_M_unit_39 rfl 0 rfl ?_
            refine x_iconst d_M_unit_40 ic_2 ?_
            obtain ⟨S13, q12, h⟩ := bd_inv h
            refine y_V1v (S1 := S13) d_M_unit_41 ml_11_238 kd_78 rfl (Nat.le_of_ble_eq_true rfl) (Nat.le_of_ble_eq_true rfl) (c_M_wrong (by omega) q12) ?_
            refine x_aload_n d_M_unit_44 rfl 0 rfl ?_
            refine x_bipush d_M_unit_45 bp_21 ?_
            obtain ⟨S15, q14, h⟩ := bd_inv h
            refine y_V1v (S1 := S15) d_M_unit_47 ml_11_286 kd_78 rfl (Nat.le_of_ble_eq_true rfl) (Nat.le_of_ble_eq_true rfl) (c_M_openUp (by omega) q14) ?_
            refine x_goto (tgt := 2) d_M_unit_50 rfl ?_
            exact ih w1 S15 _ h
set_option maxRecDepth 100000 in
set_option maxHeartbeats 4000000 in
theorem c_M_unit {X : Nat × (Nat → Int32)} {D F G : Nat} (hD : 3 ≤ D) {S : St} {res : St} (h : fM_unit F G S  = some res) : Ek X (D) mM_unit 0 [(0, .ref 78)] [] S none res := by
  obtain ⟨D, rfl⟩ : ∃ E, D = E + 1 := ⟨D - 1, by omega⟩
  unfold fM_unit at h
  have J160 : ∀ (S : St) (y2 : Int32) (s1 : Int32) (res : St), j_M_unit_160 F G S y2 s1 = some res → Ek X (D + 1) mM_unit 160 [(0, .ref 78), (2, .int y2)] [.int s1, .ref 78] S none res := by
    intro S y2 s1 res h
    unfold j_M_unit_160 at h
    refine x_iload_n d_M_unit_160 rfl 1 rfl ?_
    refine x_if_ge (tgt := 171) d_M_unit_161 rfl (fun c42 => ?_) (fun c42 => ?_)
    · replace h := ite_t c42 h
      refine x_iload_n d_M_unit_171 rfl 1 rfl ?_
      obtain ⟨S44, q43, h⟩ := bd_inv h
      refine y_V2v (S1 := S44) d_M_unit_172 ml_11_270 kd_78 rfl (Nat.le_of_ble_eq_true rfl) (Nat.le_of_ble_eq_true rfl) (c_M_add (by omega) q43) ?_
      refine x_aload_n d_M_unit_175 rfl 0 rfl ?_
      obtain ⟨S46, q45, h⟩ := bd_inv h
      refine y_V0v (S1 := S46) d_M_unit_176 ml_11_241 kd_78 rfl (Nat.le_of_ble_eq_true rfl) (Nat.le_of_ble_eq_true rfl) (c_M_token (by omega) q45) ?_
      obtain rfl := Option.some.inj h
      exact x_ret (r := none) d_M_unit_179 rfl
    · replace h := ite_f c42 h
      refine x_aload_n d_M_unit_164 rfl 0 rfl ?_
      refine y_getI d_M_unit_165 fl_11_169 rfl kd_78 ?_
      refine x_goto (tgt := 172) d_M_unit_168 rfl ?_
      obtain ⟨S48, q47, h⟩ := bd_inv h
      refine y_V2v (S1 := S48) d_M_unit_172 ml_11_270 kd_78 rfl (Nat.le_of_ble_eq_true rfl) (Nat.le_of_ble_eq_true rfl) (c_M_add (by omega) q47) ?_
      refine x_aload_n d_M_unit_175 rfl 0 rfl ?_
      obtain ⟨S50, q49, h⟩ := bd_inv h
      refine y_V0v (S1 := S50) d_M_unit_176 ml_11_241 kd_78 rfl (Nat.le_of_ble_eq_true rfl) (Nat.le_of_ble_eq_true rfl) (c_M_token (by omega) q49) ?_
      obtain rfl := Option.some.inj h
      exact x_ret (r := none) d_M_unit_179 rfl
  have J138 : ∀ (S : St) (y2 : Int32) (res : St), j_M_unit_138 F G S y2 = some res → Ek X (D + 1) mM_unit 138 [(0, .ref 78), (2, .int y2)] [] S none res := by
    intro S y2 res h
    unfold j_M_unit_138 at h
    refine x_aload_n d_M_unit_138 rfl 0 rfl ?_
    refine y_getI d_M_unit_139 fl_11_185 rfl kd_78 ?_
    refine x_if_le (tgt := 146) d_M_unit_142 rfl (fun c38 => ?_) (fun c38 => ?_)
    · replace h := ite_t c38 h
      refine x_aload_n d_M_unit_146 rfl 0 rfl ?_
      obtain ⟨S40, q39, h⟩ := bd_inv h
      refine y_V0v (S1 := S40) d_M_unit_147 ml_11_292 kd_78 rfl (Nat.le_of_ble_eq_true rfl) (Nat.le_of_ble_eq_true rfl) (c_M_countUnit (by omega) q39) ?_
      refine x_aload_n d_M_unit_150 rfl 0 rfl ?_
      refine x_iload_n d_M_unit_151 rfl 1 rfl ?_
      refine x_if_ge (tgt := 159) d_M_unit_152 rfl (fun c41 => ?_) (fun c41 => ?_)
      · replace h := ite_t c41 h
        refine x_iconst d_M_unit_159 ic_1 ?_
        exact J160 S40 y2 (1 : Int32) _ h
      · replace h := ite_f c41 h
        refine x_iconst d_M_unit_155 ic_0 ?_
        refine x_goto (tgt := 160) d_M_unit_156 rfl ?_
        exact J160 S40 y2 (0 : Int32) _ h
    · replace h := ite_f c38 h
      obtain rfl := Option.some.inj h
      exact x_ret (r := none) d_M_unit_145 rfl
  have J133 : ∀ (S : St) (y2 : Int32) (res : St), j_M_unit_133 F G S y2 = some res → Ek X (D + 1) mM_unit 133 [(0, .ref 78), (2, .int y2)] [] S none res := by
    intro S y2 res h
    unfold j_M_unit_133 at h
    refine x_aload_n d_M_unit_133 rfl 0 rfl ?_
    refine x_iconst d_M_unit_134 ic_2 ?_
    obtain ⟨S37, q36, h⟩ := bd_inv h
    refine y_V1v (S1 := S37) d_M_unit_135 ml_11_238 kd_78 rfl (Nat.le_of_ble_eq_true rfl) (Nat.le_of_ble_eq_true rfl) (c_M_wrong (by omega) q36) ?_
    exact J138 S37 y2 _ h
  have J126 : ∀ (S : St) (y2 : Int32) (res : St), j_M_unit_126 F G S y2 = some res → Ek X (D + 1) mM_unit 126 [(0, .ref 78), (2, .int y2)] [] S none res := by
    intro S y2 res h
    unfold j_M_unit_126 at h
    refine x_aload_n d_M_unit_126 rfl 0 rfl ?_
    obtain ⟨v34, q33, h⟩ := bd_inv h
    refine y_V0i (v := v34) (S1 := S) d_M_unit_127 ml_11_289 kd_78 rfl (Nat.le_of_ble_eq_true rfl) (Nat.le_of_ble_eq_true rfl) (c_M_isFull (by omega) q33) ?_
    refine x_if_eq (tgt := 138) d_M_unit_130 rfl (fun c35 => ?_) (fun c35 => ?_)
    · replace h := ite_t c35 h
      exact J138 S y2 _ h
    · replace h := ite_f c35 h
      exact J133 S y2 _ h
  have J101 : ∀ (S : St) (res : St), j_M_unit_101 F G S  = some res → Ek X (D + 1) mM_unit 101 [(0, .ref 78)] [] S none res := by
    intro S  res h
    unfold j_M_unit_101 at h
    refine x_aload_n d_M_unit_101 rfl 0 rfl ?_
    refine y_getI d_M_unit_102 fl_11_185 rfl kd_78 ?_
    refine x_if_le (tgt := 109) d_M_unit_105 rfl (fun c28 => ?_) (fun c28 => ?_)
    · replace h := ite_t c28 h
      refine x_aload_n d_M_unit_109 rfl 0 rfl ?_
      obtain ⟨v30, q29, h⟩ := bd_inv h
      refine y_V0i (v := v30) (S1 := S) d_M_unit_110 ml_11_295 kd_78 rfl (Nat.le_of_ble_eq_true rfl) (Nat.le_of_ble_eq_true rfl) (c_M_asked (by omega) q29) ?_
      refine x_istore_n (L1 := [(0, .ref 78), (2, .int v30)]) d_M_unit_113 rfl (Nat.le_of_ble_eq_true rfl) rfl rfl ?_
      refine x_aload_n d_M_unit_114 rfl 0 rfl ?_
      refine y_getI d_M_unit_115 fl_11_172 rfl kd_78 ?_
      refine x_iconst d_M_unit_118 ic_2 ?_
      refine x_icmp_eq (tgt := 126) d_M_unit_119 rfl (fun c31 => ?_) (fun c31 => ?_)
      · replace h := ite_t c31 h
        exact J126 S v30 _ h
      · replace h := ite_f c31 h
        refine x_iload_n d_M_unit_122 rfl 1 rfl ?_
        refine x_if_lt (tgt := 133) d_M_unit_123 rfl (fun c32 => ?_) (fun c32 => ?_)
        · replace h := ite_t c32 h
          exact J133 S v30 _ h
        · replace h := ite_f c32 h
          exact J126 S v30 _ h
    · replace h := ite_f c28 h
      obtain rfl := Option.some.inj h
      exact x_ret (r := none) d_M_unit_108 rfl
  refine x_iconst d_M_unit_0 ic_1 ?_
  refine x_istore_n (L1 := [(0, .ref 78), (1, .int (1 : Int32))]) d_M_unit_1 rfl (Nat.le_of_ble_eq_true rfl) rfl rfl ?_
  refine T_M_unit_2 (by omega)  ?_ F (1 : Int32) S _ h
  · intro S27 res h
    exact J101 S27  _ h
