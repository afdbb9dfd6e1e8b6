/-! NinetyPlayers$Reader.line -/
def j_59_22 (F G : Nat) (S : St) (s0 : Int32) : Option (St) :=
  bd (fR_mayBegin F G S s0) fun v3 => if v3 = 0 then bd (fR_refuse F G S (2 : Int32)) fun S69 => some S69 else lt (sI S 2 4 ((S.1 2 4) ||| ((1 : Int32) <<< (s0 &&& 31)))) fun S5 => bd (fT_step F G S5 ) fun S8 => if s0 = 0 then gd (isSc S8.2.2.2) (bd2 (fR_number F G S8 (1 : Int32) (12 : Int32)) fun v12 S13 => lt (sI S13 S8.2.2.2 0 v12) fun S14 => bd (fR_takeSign F G S14 (59 : Int32)) fun S17 => some S17) else if s0 = 1 then bd (fR_partLine F G S8 ) fun S20 => bd (fR_takeSign F G S20 (59 : Int32)) fun S22 => some S22 else if s0 = 2 then bd (fR_noteLine F G S8 ) fun S25 => bd (fR_takeSign F G S25 (59 : Int32)) fun S27 => some S27 else if s0 = 3 then bd (fR_parse F G G 0 (0 : Int32) S8) fun S30 => bd (fR_takeSign F G S30 (59 : Int32)) fun S32 => some S32 else if s0 = 4 then gd (isSc S8.2.2.2) (bd2 (fR_number F G S8 (0 : Int32) (87 : Int32)) fun v36 S37 => lt (sI S37 S8.2.2.2 1 v36) fun S38 => bd (fR_takeSign F G S38 (59 : Int32)) fun S41 => some S41) else if s0 = 5 then gd (isSc S8.2.2.2) (bd2 (fR_number F G S8 (1 : Int32) (5 : Int32)) fun v45 S46 => lt (sI S46 S8.2.2.2 2 v45) fun S47 => bd (fR_takeSign F G S47 (59 : Int32)) fun S50 => some S50) else if s0 = 6 then gd (isSc S8.2.2.2) (bd2 (fR_number F G S8 (0 : Int32) (87 : Int32)) fun v54 S55 => lt (sI S55 S8.2.2.2 3 v54) fun S56 => bd (fR_takeSign F G S56 (59 : Int32)) fun S59 => some S59) else gd (isSc S8.2.2.2) (bd2 (fR_number F G S8 (0 : Int32) (9 : Int32)) fun v62 S63 => lt (sI S63 S8.2.2.2 4 v62) fun S64 => bd (fR_takeSign F G S64 (59 : Int32)) fun S67 => some S67)
def fR_line (F G : Nat) (S : St) : Option (St) :=
  if (S.1 16 4) = (1 : Int32) then j_59_22 F G  S (S.1 16 5) else j_59_22 F G  S (-1 : Int32)
set_option maxRecDepth 100000 in
set_option maxHeartbeats 4000000 in
theorem c_59 {X : Nat × (Nat → Int32)} {D F G : Nat} (hD : 10 + G ≤ D) {S : St} {res : St} (h : fR_line F G S  = some res) : Ek X (D) m59 0 [(0, .ref 2)] [] S none res := by
  obtain ⟨D, rfl⟩ : ∃ E, D = E + 1 := ⟨D - 1, by omega⟩
  unfold fR_line at h
  have J22 : ∀ (S : St) (s0 : Int32) (res : St), j_59_22 F G S s0 = some res → Ek X (D + 1) m59 22 [(0, .ref 2)] [.int s0] S none res := by
    intro S s0 res h
    unfold j_59_22 at h
    refine x_istore_n (L1 := [(0, .ref 2), (1, .int s0)]) d_59_22 rfl (Nat.le_of_ble_eq_true rfl) rfl rfl ?_
    refine x_aload_n d_59_23 rfl 0 rfl ?_
    refine x_iload_n d_59_24 rfl 1 rfl ?_
    obtain ⟨v3, q2, h⟩ := bd_inv h
    refine y_V1i (v := v3) (S1 := S) d_59_25 ml_1_53 kd_2 rfl (Nat.le_of_ble_eq_true rfl) (Nat.le_of_ble_eq_true rfl) (c_60 (by omega) q2) ?_
    refine x_if_ne (tgt := 37) d_59_28 rfl (fun c4 => ?_) (fun c4 => ?_)
    · replace h := ite_f c4 h
      refine x_aload_n d_59_37 rfl 0 rfl ?_
      refine x_dup d_59_38 rfl ?_
      refine y_getI d_59_39 fl_1_34 rfl kd_2 ?_
      refine x_iconst d_59_42 ic_1 ?_
      refine x_iload_n d_59_43 rfl 1 rfl ?_
      refine x_ishl d_59_44 ?_
      refine x_ior d_59_45 ?_
      obtain ⟨S5, e6, h⟩ := lt_inv h
      refine y_putI e6 d_59_46 fl_1_34 rfl rfl kd_2 rfl rfl ?_
      refine x_aload_n d_59_49 rfl 0 rfl ?_
      refine y_getR d_59_50 fl_1_27 rfl kd_2 rr_2_2 ?_
      obtain ⟨S8, q7, h⟩ := bd_inv h
      refine y_V0v (S1 := S8) d_59_53 ml_1_60 kd_16 rfl (Nat.le_of_ble_eq_true rfl) (Nat.le_of_ble_eq_true rfl) (c_24 (by omega) q7) ?_
      refine x_iload_n d_59_56 rfl 1 rfl ?_
      by_cases c9 : s0 = 0
      · replace h := ite_t c9 h
        refine x_tabC (tgt := 100) 0 d_59_57 (by rw [c9]; rfl) (by decide) rfl rfl ?_
        refine x_aload_n d_59_100 rfl 0 rfl ?_
        refine y_getR d_59_101 fl_1_18 rfl kd_2 rr_draft ?_
        obtain ⟨g10, h⟩ := gd_inv h
        refine x_aload_n d_59_104 rfl 0 rfl ?_
        refine x_iconst d_59_105 ic_1 ?_
        refine x_bipush d_59_106 bp_12 ?_
        obtain ⟨v12, S13, q11, h⟩ := bd2_inv h
        refine y_V2i (v := v12) (S1 := S13) d_59_108 ml_1_63 kd_2 rfl (Nat.le_of_ble_eq_true rfl) (Nat.le_of_ble_eq_true rfl) (c_62 (by omega) q11) ?_
        obtain ⟨S14, e15, h⟩ := lt_inv h
        refine y_putI e15 d_59_111 fl_1_67 rfl rfl (ksSc g10) rfl rfl ?_
        refine x_goto (tgt := 203) d_59_114 rfl ?_
        refine x_aload_n d_59_203 rfl 0 rfl ?_
        refine x_bipush d_59_204 bp_59 ?_
        obtain ⟨S17, q16, h⟩ := bd_inv h
        refine y_V1v (S1 := S17) d_59_206 ml_1_91 kd_2 rfl (Nat.le_of_ble_eq_true rfl) (Nat.le_of_ble_eq_true rfl) (c_81 (by omega) q16) ?_
        obtain rfl := Option.some.inj h
        exact x_ret (r := none) d_59_209 rfl
      replace h := ite_f c9 h
      by_cases c18 : s0 = 1
      · replace h := ite_t c18 h
        refine x_tabC (tgt := 117) 1 d_59_57 (by rw [c18]; rfl) (by decide) rfl rfl ?_
        refine x_aload_n d_59_117 rfl 0 rfl ?_
        obtain ⟨S20, q19, h⟩ := bd_inv h
        refine y_V0v (S1 := S20) d_59_118 ml_1_70 kd_2 rfl (Nat.le_of_ble_eq_true rfl) (Nat.le_of_ble_eq_true rfl) (c_63 (by omega) q19) ?_
        refine x_goto (tgt := 203) d_59_121 rfl ?_
        refine x_aload_n d_59_203 rfl 0 rfl ?_
        refine x_bipush d_59_204 bp_59 ?_
        obtain ⟨S22, q21, h⟩ := bd_inv h
        refine y_V1v (S1 := S22) d_59_206 ml_1_91 kd_2 rfl (Nat.le_of_ble_eq_true rfl) (Nat.le_of_ble_eq_true rfl) (c_81 (by omega) q21) ?_
        obtain rfl := Option.some.inj h
        exact x_ret (r := none) d_59_209 rfl
      replace h := ite_f c18 h
      by_cases c23 : s0 = 2
      · replace h := ite_t c23 h
        refine x_tabC (tgt := 124) 2 d_59_57 (by rw [c23]; rfl) (by decide) rfl rfl ?_
        refine x_aload_n d_59_124 rfl 0 rfl ?_
        obtain ⟨S25, q24, h⟩ := bd_inv h
        refine y_V0v (S1 := S25) d_59_125 ml_1_73 kd_2 rfl (Nat.le_of_ble_eq_true rfl) (Nat.le_of_ble_eq_true rfl) (c_68 (by omega) q24) ?_
        refine x_goto (tgt := 203) d_59_128 rfl ?_
        refine x_aload_n d_59_203 rfl 0 rfl ?_
        refine x_bipush d_59_204 bp_59 ?_
        obtain ⟨S27, q26, h⟩ := bd_inv h
        refine y_V1v (S1 := S27) d_59_206 ml_1_91 kd_2 rfl (Nat.le_of_ble_eq_true rfl) (Nat.le_of_ble_eq_true rfl) (c_81 (by omega) q26) ?_
        obtain rfl := Option.some.inj h
        exact x_ret (r := none) d_59_209 rfl
      replace h := ite_f c23 h
      by_cases c28 : s0 = 3
      · replace h := ite_t c28 h
        refine x_tabC (tgt := 131) 3 d_59_57 (by rw [c28]; rfl) (by decide) rfl rfl ?_
        refine x_aload_n d_59_131 rfl 0 rfl ?_
        refine x_iconst d_59_132 ic_0 ?_
        obtain ⟨S30, q29, h⟩ := bd_inv h
        refine y_V1v (S1 := S30) d_59_133 ml_1_76 kd_2 rfl (Nat.le_of_ble_eq_true rfl) (Nat.le_of_ble_eq_true rfl) (c_73 (by omega) q29) ?_
        refine x_goto (tgt := 203) d_59_136 rfl ?_
        refine x_aload_n d_59_203 rfl 0 rfl ?_
        refine x_bipush d_59_204 bp_59 ?_
        obtain ⟨S32, q31, h⟩ := bd_inv h
        refine y_V1v (S1 := S32) d_59_206 ml_1_91 kd_2 rfl (Nat.le_of_ble_eq_true rfl) (Nat.le_of_ble_eq_true rfl) (c_81 (by omega) q31) ?_
        obtain rfl := Option.some.inj h
        exact x_ret (r := none) d_59_209 rfl
      replace h := ite_f c28 h
      by_cases c33 : s0 = 4
      · replace h := ite_t c33 h
        refine x_tabC (tgt := 139) 4 d_59_57 (by rw [c33]; rfl) (by decide) rfl rfl ?_
        refine x_aload_n d_59_139 rfl 0 rfl ?_
        refine y_getR d_59_140 fl_1_18 rfl kd_2 rr_draft ?_
        obtain ⟨g34, h⟩ := gd_inv h
        refine x_aload_n d_59_143 rfl 0 rfl ?_
        refine x_iconst d_59_144 ic_0 ?_
        refine x_bipush d_59_145 bp_87 ?_
        obtain ⟨v36, S37, q35, h⟩ := bd2_inv h
        refine y_V2i (v := v36) (S1 := S37) d_59_147 ml_1_63 kd_2 rfl (Nat.le_of_ble_eq_true rfl) (Nat.le_of_ble_eq_true rfl) (c_62 (by omega) q35) ?_
        obtain ⟨S38, e39, h⟩ := lt_inv h
        refine y_putI e39 d_59_150 fl_1_79 rfl rfl (ksSc g34) rfl rfl ?_
        refine x_goto (tgt := 203) d_59_153 rfl ?_
        refine x_aload_n d_59_203 rfl 0 rfl ?_
        refine x_bipush d_59_204 bp_59 ?_
        obtain ⟨S41, q40, h⟩ := bd_inv h
        refine y_V1v (S1 := S41) d_59_206 ml_1_91 kd_2 rfl (Nat.le_of_ble_eq_true rfl) (Nat.le_of_ble_eq_true rfl) (c_81 (by omega) q40) ?_
        obtain rfl := Option.some.inj h
        exact x_ret (r := none) d_59_209 rfl
      replace h := ite_f c33 h
      by_cases c42 : s0 = 5
      · replace h := ite_t c42 h
        refine x_tabC (tgt := 156) 5 d_59_57 (by rw [c42]; rfl) (by decide) rfl rfl ?_
        refine x_aload_n d_59_156 rfl 0 rfl ?_
        refine y_getR d_59_157 fl_1_18 rfl kd_2 rr_draft ?_
        obtain ⟨g43, h⟩ := gd_inv h
        refine x_aload_n d_59_160 rfl 0 rfl ?_
        refine x_iconst d_59_161 ic_1 ?_
        refine x_iconst d_59_162 ic_5 ?_
        obtain ⟨v45, S46, q44, h⟩ := bd2_inv h
        refine y_V2i (v := v45) (S1 := S46) d_59_163 ml_1_63 kd_2 rfl (Nat.le_of_ble_eq_true rfl) (Nat.le_of_ble_eq_true rfl) (c_62 (by omega) q44) ?_
        obtain ⟨S47, e48, h⟩ := lt_inv h
        refine y_putI e48 d_59_166 fl_1_82 rfl rfl (ksSc g43) rfl rfl ?_
        refine x_goto (tgt := 203) d_59_169 rfl ?_
        refine x_aload_n d_59_203 rfl 0 rfl ?_
        refine x_bipush d_59_204 bp_59 ?_
        obtain ⟨S50, q49, h⟩ := bd_inv h
        refine y_V1v (S1 := S50) d_59_206 ml_1_91 kd_2 rfl (Nat.le_of_ble_eq_true rfl) (Nat.le_of_ble_eq_true rfl) (c_81 (by omega) q49) ?_
        obtain rfl := Option.some.inj h
        exact x_ret (r := none) d_59_209 rfl
      replace h := ite_f c42 h
      by_cases c51 : s0 = 6
      · replace h := ite_t c51 h
        refine x_tabC (tgt := 172) 6 d_59_57 (by rw [c51]; rfl) (by decide) rfl rfl ?_
        refine x_aload_n d_59_172 rfl 0 rfl ?_
        refine y_getR d_59_173 fl_1_18 rfl kd_2 rr_draft ?_
        obtain ⟨g52, h⟩ := gd_inv h
        refine x_aload_n d_59_176 rfl 0 rfl ?_
        refine x_iconst d_59_177 ic_0 ?_
        refine x_bipush d_59_178 bp_87 ?_
        obtain ⟨v54, S55, q53, h⟩ := bd2_inv h
        refine y_V2i (v := v54) (S1 := S55) d_59_180 ml_1_63 kd_2 rfl (Nat.le_of_ble_eq_true rfl) (Nat.le_of_ble_eq_true rfl) (c_62 (by omega) q53) ?_
        obtain ⟨S56, e57, h⟩ := lt_inv h
        refine y_putI e57 d_59_183 fl_1_85 rfl rfl (ksSc g52) rfl rfl ?_
        refine x_goto (tgt := 203) d_59_186 rfl ?_
        refine x_aload_n d_59_203 rfl 0 rfl ?_
        refine x_bipush d_59_204 bp_59 ?_
        obtain ⟨S59, q58, h⟩ := bd_inv h
        refine y_V1v (S1 := S59) d_59_206 ml_1_91 kd_2 rfl (Nat.le_of_ble_eq_true rfl) (Nat.le_of_ble_eq_true rfl) (c_81 (by omega) q58) ?_
        obtain rfl := Option.some.inj h
        exact x_ret (r := none) d_59_209 rfl
      replace h := ite_f c51 h
      refine x_tabD (tgt := 189) d_59_57 (by have := lv_neT c9 (show (0 : Int32).toInt = 0 from rfl); have := lv_neT c18 (show (1 : Int32).toInt = 1 from rfl); have := lv_neT c23 (show (2 : Int32).toInt = 2 from rfl); have := lv_neT c28 (show (3 : Int32).toInt = 3 from rfl); have := lv_neT c33 (show (4 : Int32).toInt = 4 from rfl); have := lv_neT c42 (show (5 : Int32).toInt = 5 from rfl); have := lv_neT c51 (show (6 : Int32).toInt = 6 from rfl); omega) rfl ?_
      refine x_aload_n d_59_189 rfl 0 rfl ?_
      refine y_getR d_59_190 fl_1_18 rfl kd_2 rr_draft ?_
      obtain ⟨g60, h⟩ := gd_inv h
      refine x_aload_n d_59_193 rfl 0 rfl ?_
      refine x_iconst d_59_194 ic_0 ?_
      refine x_bipush d_59_195 bp_9 ?_
      obtain ⟨v62, S63, q61, h⟩ := bd2_inv h
      refine y_V2i (v := v62) (S1 := S63) d_59_197 ml_1_63 kd_2 rfl (Nat.le_of_ble_eq_true rfl) (Nat.le_of_ble_eq_true rfl) (c_62 (by omega) q61) ?_
      obtain ⟨S64, e65, h⟩ := lt_inv h
      refine y_putI e65 d_59_200 fl_1_88 rfl rfl (ksSc g60) rfl rfl ?_
      refine x_aload_n d_59_203 rfl 0 rfl ?_
      refine x_bipush d_59_204 bp_59 ?_
      obtain ⟨S67, q66, h⟩ := bd_inv h
      refine y_V1v (S1 := S67) d_59_206 ml_1_91 kd_2 rfl (Nat.le_of_ble_eq_true rfl) (Nat.le_of_ble_eq_true rfl) (c_81 (by omega) q66) ?_
      obtain rfl := Option.some.inj h
      exact x_ret (r := none) d_59_209 rfl
    · replace h := ite_t c4 h
      refine x_aload_n d_59_31 rfl 0 rfl ?_
      refine x_iconst d_59_32 ic_2 ?_
      obtain ⟨S69, q68, h⟩ := bd_inv h
      refine y_V1v (S1 := S69) d_59_33 ml_1_57 kd_2 rfl (Nat.le_of_ble_eq_true rfl) (Nat.le_of_ble_eq_true rfl) (c_61 (by omega) q68) ?_
      obtain rfl := Option.some.inj h
      exact x_ret (r := none) d_59_36 rfl
  refine x_aload_n d_59_0 rfl 0 rfl ?_
  refine y_getR d_59_1 fl_1_27 rfl kd_2 rr_2_2 ?_
  refine y_getI d_59_4 fl_1_44 rfl kd_16 ?_
  refine x_iconst d_59_7 ic_1 ?_
  refine x_icmp_ne (tgt := 21) d_59_8 rfl (fun c1 => ?_) (fun c1 => ?_)
  · replace h := ite_f c1 h
    refine x_iconst d_59_21 ic_m1 ?_
    exact J22 S (-1 : Int32) _ h
  · replace h := ite_t c1 h
    refine x_aload_n d_59_11 rfl 0 rfl ?_
    refine y_getR d_59_12 fl_1_27 rfl kd_2 rr_2_2 ?_
    refine y_getI d_59_15 fl_1_50 rfl kd_16 ?_
    refine x_goto (tgt := 22) d_59_18 rfl ?_
    exact J22 S (S.1 16 5) _ h
/-! NinetyPlayers$Reader.reads -/
def b_20_32 (F G : Nat) (rec : Int32 → St → Option (Int32 × St)) (w2 : Int32) (S : St) : Option (Int32 × St) :=
  if (1600 : Int32) ≤ w2 then if (S.1 2 0) = 0 then some ((1 : Int32), S) else some ((0 : Int32), S) else if (S.1 2 0) = 0 then if (S.1 16 4) = 0 then if (S.1 2 0) = 0 then some ((1 : Int32), S) else some ((0 : Int32), S) else bd (fR_line F G S ) fun S19 => lt (w2 + 1) fun v20 => rec v20 S19 else if (S.1 2 0) = 0 then some ((1 : Int32), S) else some ((0 : Int32), S)
def fR_reads (F G : Nat) (S : St) (p1 : Int32) : Option (Int32 × St) :=
  lt (sI S 2 0 (0 : Int32)) fun S1 => lt (sI S1 2 1 (-1 : Int32)) fun S3 => lt (sI S3 2 4 (0 : Int32)) fun S5 => gd (isSc S5.2.2.2) (bd (fS_forget F G S5 S5.2.2.2) fun S9 => bd (fT_begin F G S9 p1) fun S11 => fx2 (b_20_32 F G ) F (0 : Int32) S11)
set_option maxRecDepth 100000 in
set_option maxHeartbeats 4000000 in
theorem T_20_32 {X : Nat × (Nat → Int32)} {D F G : Nat} (hD : 11 + G ≤ D + 1) : ∀ (f : Nat) (w2 : Int32) (S : St) (res : Int32 × St), fx2 (b_20_32 F G ) f w2 S = some res → Ek X (D + 1) m20 32 [(0, .ref 2), (2, .int w2)] [] S (some (.int res.1)) res.2 := by
  refine fx2_ind ?_
  intro rec ih w2 S res h
  unfold b_20_32 at h
  refine x_iload_n d_20_32 rfl 1 rfl ?_
  refine x_sipush d_20_33 sp_1600 ?_
  refine x_icmp_ge (tgt := 66) d_20_36 rfl (fun c12 => ?_) (fun c12 => ?_)
  · replace h := ite_t c12 h
    refine x_aload_n d_20_66 rfl 0 rfl ?_
    refine y_getI d_20_67 fl_1_31 rfl kd_2 ?_
    refine x_if_ne (tgt := 77) d_20_70 rfl (fun c13 => ?_) (fun c13 => ?_)
    · replace h := ite_f c13 h
      refine x_iconst d_20_77 ic_0 ?_
      obtain rfl := Option.some.inj h
      exact x_ret (r := some (.int (0 : Int32))) d_20_78 ⟨_, rfl, rfl⟩
    · replace h := ite_t c13 h
      refine x_iconst d_20_73 ic_1 ?_
      refine x_goto (tgt := 78) d_20_74 rfl ?_
      obtain rfl := Option.some.inj h
      exact x_ret (r := some (.int (1 : Int32))) d_20_78 ⟨_, rfl, rfl⟩
  · replace h := ite_f c12 h
    refine x_aload_n d_20_39 rfl 0 rfl ?_
    refine y_getI d_20_40 fl_1_31 rfl kd_2 ?_
    refine x_if_ne (tgt := 66) d_20_43 rfl (fun c14 => ?_) (fun c14 => ?_)
    · replace h := ite_f c14 h
      refine x_aload_n d_20_66 rfl 0 rfl ?_
      refine y_getI d_20_67 fl_1_31 rfl kd_2 ?_
      refine x_if_ne (tgt := 77) d_20_70 rfl (fun c15 => ?_) (fun c15 => ?_)
      · replace h := ite_f c15 h
        refine x_iconst d_20_77 ic_0 ?_
        obtain rfl := Option.some.inj h
        exact x_ret (r := some (.int (0 : Int32))) d_20_78 ⟨_, rfl, rfl⟩
      · replace h := ite_t c15 h
        refine x_iconst d_20_73 ic_1 ?_
        refine x_goto (tgt := 78) d_20_74 rfl ?_
        obtain rfl := Option.some.inj h
        exact x_ret (r := some (.int (1 : Int32))) d_20_78 ⟨_, rfl, rfl⟩
    · replace h := ite_t c14 h
      refine x_aload_n d_20_46 rfl 0 rfl ?_
      refine y_getR d_20_47 fl_1_27 rfl kd_2 rr_2_2 ?_
      refine y_getI d_20_50 fl_1_44 rfl kd_16 ?_
      refine x_if_eq (tgt := 66) d_20_53 rfl (fun c16 => ?_) (fun c16 => ?_)
      · replace h := ite_t c16 h
        refine x_aload_n d_20_66 rfl 0 rfl ?_
        refine y_getI d_20_67 fl_1_31 rfl kd_2 ?_
        refine x_if_ne (tgt := 77) d_20_70 rfl (fun c17 => ?_) (fun c17 => ?_)
        · replace h := ite_f c17 h
          refine x_iconst d_20_77 ic_0 ?_
          obtain rfl := Option.some.inj h
          exact x_ret (r := some (.int (0 : Int32))) d_20_78 ⟨_, rfl, rfl⟩
        · replace h := ite_t c17 h
          refine x_iconst d_20_73 ic_1 ?_
          refine x_goto (tgt := 78) d_20_74 rfl ?_
          obtain rfl := Option.some.inj h
          exact x_ret (r := some (.int (1 : Int32))) d_20_78 ⟨_, rfl, rfl⟩
      · replace h := ite_f c16 h
        refine x_aload_n d_20_56 rfl 0 rfl ?_
        obtain ⟨S19, q18, h⟩ := bd_inv h
        refine y_V0v (S1 := S19) d_20_57 ml_1_47 kd_2 rfl (Nat.le_of_ble_eq_true rfl) (Nat.le_of_ble_eq_true rfl) (c_59 (by omega) q18) ?_
        obtain ⟨v20, e21, h⟩ := lt_inv h
        refine y_iinc (L1 := [(0, .ref 2), (2, .int v20)]) e21 ic_1 d_20_60 1 rfl (Nat.le_of_ble_eq_true rfl) rfl rfl ?_
        refine x_goto (tgt := 32) d_20_63 rfl ?_
        exact ih v20 S19 _ h
set_option maxRecDepth 100000 in
set_option maxHeartbeats 4000000 in
theorem c_20 {X : Nat × (Nat → Int32)} {D F G : Nat} (hD : 11 + G ≤ D) {S : St} {p1 : Int32} {res : Int32 × St} (h : fR_reads F G S p1 = some res) : Ek X (D) m20 0 [(0, .ref 2), (1, .int p1)] [] S (some (.int res.1)) res.2 := by
  obtain ⟨D, rfl⟩ : ∃ E, D = E + 1 := ⟨D - 1, by omega⟩
  unfold fR_reads at h
  refine x_aload_n d_20_0 rfl 0 rfl ?_
  refine x_iconst d_20_1 ic_0 ?_
  obtain ⟨S1, e2, h⟩ := lt_inv h
  refine y_putI e2 d_20_2 fl_1_31 rfl rfl kd_2 rfl rfl ?_
  refine x_aload_n d_20_5 rfl 0 rfl ?_
  refine x_iconst d_20_6 ic_m1 ?_
  obtain ⟨S3, e4, h⟩ := lt_inv h
  refine y_putI e4 d_20_7 fl_1_9 rfl rfl kd_2 rfl rfl ?_
  refine x_aload_n d_20_10 rfl 0 rfl ?_
  refine x_iconst d_20_11 ic_0 ?_
  obtain ⟨S5, e6, h⟩ := lt_inv h
  refine y_putI e6 d_20_12 fl_1_34 rfl rfl kd_2 rfl rfl ?_
  refine x_aload_n d_20_15 rfl 0 rfl ?_
  refine y_getR d_20_16 fl_1_18 rfl kd_2 rr_draft ?_
  obtain ⟨g7, h⟩ := gd_inv h
  obtain ⟨S9, q8, h⟩ := bd_inv h
  refine y_V0v (S1 := S9) d_20_19 ml_1_37 (ksSc g7) rfl (Nat.le_of_ble_eq_true rfl) (Nat.le_of_ble_eq_true rfl) (c_6 (by omega) q8) ?_
  refine x_aload_n d_20_22 rfl 0 rfl ?_
  refine y_getR d_20_23 fl_1_27 rfl kd_2 rr_2_2 ?_
  refine x_iload_n d_20_26 rfl 1 rfl ?_
  obtain ⟨S11, q10, h⟩ := bd_inv h
  refine y_V1v (S1 := S11) d_20_27 ml_1_40 kd_16 rfl (Nat.le_of_ble_eq_true rfl) (Nat.le_of_ble_eq_true rfl) (c_21 (by omega) q10) ?_
  refine x_iconst d_20_30 ic_0 ?_
  refine x_istore_n (L1 := [(0, .ref 2), (1, .int p1), (2, .int (0 : Int32))]) d_20_31 rfl (Nat.le_of_ble_eq_true rfl) rfl rfl ?_
  refine y_pick (L1 := [(0, .ref 2), (2, .int (0 : Int32))]) [0, 2] rfl ?_
  refine T_20_32 (by omega)   F (0 : Int32) S11 _ h
/-! NinetyPlayers$Reader.exchange -/
def fR_exchange (F G : Nat) (S : St) (o2 : Nat) : Option (Nat × St) :=
  gd (isSc o2) (gd (isSc S.2.2.2) (lt (sD S o2) fun S2 => some (S.2.2.2, S2)))
set_option maxRecDepth 100000 in
set_option maxHeartbeats 4000000 in
theorem c_82 {X : Nat × (Nat → Int32)} {D F G : Nat} (hD : 0 ≤ D) {S : St} {o2 : Nat} {res : Nat × St} (h : fR_exchange F G S o2 = some res) : Ek X (D) m82 0 [(0, .ref 2), (1, .ref o2)] [] S (some (.ref res.1)) res.2 := by
  unfold fR_exchange at h
  obtain ⟨gg0, h⟩ := gd_inv h
  refine x_aload_n d_82_0 rfl 0 rfl ?_
  refine y_getR d_82_1 fl_1_18 rfl kd_2 rr_draft ?_
  obtain ⟨g1, h⟩ := gd_inv h
  refine x_astore_n (L1 := [(0, .ref 2), (1, .ref o2), (2, .ref S.2.2.2)]) d_82_4 rfl (Nat.le_of_ble_eq_true rfl) rfl rfl ?_
  refine x_aload_n d_82_5 rfl 0 rfl ?_
  refine x_aload_n d_82_6 rfl 1 rfl ?_
  obtain ⟨S2, e3, h⟩ := lt_inv h
  refine y_putD e3 d_82_7 fl_1_18 ?_
  refine x_aload_n d_82_10 rfl 2 rfl ?_
  obtain rfl := Option.some.inj h
  exact x_ret (r := some (.ref S.2.2.2)) d_82_11 ⟨_, rfl⟩
/-! NinetyPlayers$Acts.forget -/
def fC_forget (F G : Nat) (S : St) : Option (St) :=
  lt (sI S 51 0 (0 : Int32)) fun S1 => lt (sI S1 51 1 (0 : Int32)) fun S3 => some S3
set_option maxRecDepth 100000 in
set_option maxHeartbeats 4000000 in
theorem c_83 {X : Nat × (Nat → Int32)} {D F G : Nat} (hD : 0 ≤ D) {S : St} {res : St} (h : fC_forget F G S  = some res) : Ek X (D) m83 0 [(0, .ref 51)] [] S none res := by
  unfold fC_forget at h
  refine x_aload_n d_83_0 rfl 0 rfl ?_
  refine x_iconst d_83_1 ic_0 ?_
  obtain ⟨S1, e2, h⟩ := lt_inv h
  refine y_putI e2 d_83_2 fl_6_24 rfl rfl kd_51 rfl rfl ?_
  refine x_aload_n d_83_5 rfl 0 rfl ?_
  refine x_iconst d_83_6 ic_0 ?_
  obtain ⟨S3, e4, h⟩ := lt_inv h
  refine y_putI e4 d_83_7 fl_6_28 rfl rfl kd_51 rfl rfl ?_
  obtain rfl := Option.some.inj h
  exact x_ret (r := none) d_83_10 rfl
/-! NinetyPlayers$Witness.forget -/
def fI_forget (F G : Nat) (S : St) : Option (St) :=
  lt (sI S 69 0 (0 : Int32)) fun S1 => some S1
set_option maxRecDepth 100000 in
set_option maxHeartbeats 4000000 in
theorem c_84 {X : Nat × (Nat → Int32)} {D F G : Nat} (hD : 0 ≤ D) {S : St} {res : St} (h : fI_forget F G S  = some res) : Ek X (D) m84 0 [(0, .ref 69)] [] S none res := by
  unfold fI_forget at h
  refine x_aload_n d_84_0 rfl 0 rfl ?_
  refine x_iconst d_84_1 ic_0 ?_
  obtain ⟨S1, e2, h⟩ := lt_inv h
  refine y_putI e2 d_84_2 fl_10_34 rfl rfl kd_69 rfl rfl ?_
  obtain rfl := Option.some.inj h
  exact x_ret (r := none) d_84_5 rfl
/-! NinetyPlayers.score -/
def b_19_70 (F G : Nat) (rec : Int32 → St → Option (Int32 × St)) (w2 : Int32) (S : St) : Option (Int32 × St) :=
  if (Int32.ofNat 3) ≤ w2 then gd (isSc S.2.2.1) (some (S.1 S.2.2.1 6, S)) else gd (inB w2 3) (lt (sI S (36 + 5 * w2.toNatClampNeg) 0 (0 : Int32)) fun S26 => lt (w2 + 1) fun v28 => rec v28 S26)
def fN_score (F G : Nat) (S : St) : Option (Int32 × St) :=
  bd2 (fR_reads F G S (S.1 0 1)) fun v2 S3 => lt (sI S3 0 1 (0 : Int32)) fun S4 => if v2 = 0 then some ((-1 : Int32), S4) else gd (isSc S4.2.2.1) (bd2 (fR_exchange F G S4 S4.2.2.1) fun v9 S10 => gd (isSc v9) (lt (sT S10 v9) fun S12 => gd (isSc S12.2.2.1) (bd (fL_follow F G S12 30 S12.2.2.1) fun S16 => bd (fC_forget F G S16 ) fun S18 => bd (fI_forget F G S18 ) fun S20 => lt (sI S20 0 13 (0 : Int32)) fun S21 => fx2 (b_19_70 F G ) F (0 : Int32) S21)))
set_option maxRecDepth 100000 in
set_option maxHeartbeats 4000000 in
theorem T_19_70 {X : Nat × (Nat → Int32)} {D F G : Nat} (hD : 12 + G ≤ D + 1) : ∀ (f : Nat) (w2 : Int32) (S : St) (res : Int32 × St), fx2 (b_19_70 F G ) f w2 S = some res → Ek X (D + 1) m19 70 [(0, .ref 0), (2, .int w2)] [] S (some (.int res.1)) res.2 := by
  refine fx2_ind ?_
  intro rec ih w2 S res h
  unfold b_19_70 at h
  refine x_iload_n d_19_70 rfl 1 rfl ?_
  refine x_aload_n d_19_71 rfl 0 rfl ?_
  refine y_getR d_19_72 fl_0_36 rfl kd_0 rr_0_5 ?_
  refine x_alen5 d_19_75 kd_35 ?_
  refine x_icmp_ge (tgt := 95) d_19_76 rfl (fun c23 => ?_) (fun c23 => ?_)
  · replace h := ite_t c23 h
    refine x_aload_n d_19_95 rfl 0 rfl ?_
    refine y_getR d_19_96 fl_0_25 rfl kd_0 rr_told ?_
    obtain ⟨g24, h⟩ := gd_inv h
    refine y_getI d_19_99 fl_0_117 rfl (ksSc g24) ?_
    obtain rfl := Option.some.inj h
    exact x_ret (r := some (.int (S.1 S.2.2.1 6))) d_19_102 ⟨_, rfl, rfl⟩
  · replace h := ite_f c23 h
    refine x_aload_n d_19_79 rfl 0 rfl ?_
    refine y_getR d_19_80 fl_0_36 rfl kd_0 rr_0_5 ?_
    refine x_iload_n d_19_83 rfl 1 rfl ?_
    obtain ⟨g25, h⟩ := gd_inv h
    refine y_aald d_19_84 g25 ?_
    refine x_iconst d_19_85 ic_0 ?_
    obtain ⟨S26, e27, h⟩ := lt_inv h
    refine y_putI e27 d_19_86 fl_0_113 rfl rfl (ksLa (isLa_box (inB_lt g25))) rfl rfl ?_
    obtain ⟨v28, e29, h⟩ := lt_inv h
    refine y_iinc (L1 := [(0, .ref 0), (2, .int v28)]) e29 ic_1 d_19_89 1 rfl (Nat.le_of_ble_eq_true rfl) rfl rfl ?_
    refine x_goto (tgt := 70) d_19_92 rfl ?_
    exact ih v28 S26 _ h
set_option maxRecDepth 100000 in
set_option maxHeartbeats 4000000 in
theorem c_19 {X : Nat × (Nat → Int32)} {D F G : Nat} (hD : 12 + G ≤ D) {S : St} {res : Int32 × St} (h : fN_score F G S  = some res) : Ek X (D) m19 0 [(0, .ref 0)] [] S (some (.int res.1)) res.2 := by
  obtain ⟨D, rfl⟩ : ∃ E, D = E + 1 := ⟨D - 1, by omega⟩
  unfold fN_score at h
  refine x_aload_n d_19_0 rfl 0 rfl ?_
  refine y_getR d_19_1 fl_0_18 rfl kd_0 rr_0_2 ?_
  refine x_aload_n d_19_4 rfl 0 rfl ?_
  refine y_getI d_19_5 fl_0_90 rfl kd_0 ?_
  obtain ⟨v2, S3, q1, h⟩ := bd2_inv h
  refine y_V1i (v := v2) (S1 := S3) d_19_8 ml_0_98 kd_2 rfl (Nat.le_of_ble_eq_true rfl) (Nat.le_of_ble_eq_true rfl) (c_20 (by omega) q1) ?_
  refine x_istore_n (L1 := [(0, .ref 0), (1, .int v2)]) d_19_11 rfl (Nat.le_of_ble_eq_true rfl) rfl rfl ?_
  refine x_aload_n d_19_12 rfl 0 rfl ?_
  refine x_iconst d_19_13 ic_0 ?_
  obtain ⟨S4, e5, h⟩ := lt_inv h
  refine y_putI e5 d_19_14 fl_0_90 rfl rfl kd_0 rfl rfl ?_
  refine x_iload_n d_19_17 rfl 1 rfl ?_
  refine x_if_ne (tgt := 23) d_19_18 rfl (fun c6 => ?_) (fun c6 => ?_)
  · replace h := ite_f c6 h
    refine x_aload_n d_19_23 rfl 0 rfl ?_
    refine x_aload_n d_19_24 rfl 0 rfl ?_
    refine y_getR d_19_25 fl_0_18 rfl kd_0 rr_0_2 ?_
    refine x_aload_n d_19_28 rfl 0 rfl ?_
    refine y_getR d_19_29 fl_0_25 rfl kd_0 rr_told ?_
    obtain ⟨g7, h⟩ := gd_inv h
    obtain ⟨v9, S10, q8, h⟩ := bd2_inv h
    refine y_V1r (v := v9) (S1 := S10) d_19_32 ml_0_102 kd_2 rfl (Nat.le_of_ble_eq_true rfl) (Nat.le_of_ble_eq_true rfl) (c_82 (by omega) q8) ?_
    obtain ⟨g11, h⟩ := gd_inv h
    obtain ⟨S12, e13, h⟩ := lt_inv h
    refine y_putT e13 d_19_35 fl_0_25 ?_
    refine x_aload_n d_19_38 rfl 0 rfl ?_
    refine y_getR d_19_39 fl_0_32 rfl kd_0 rr_0_4 ?_
    refine x_aload_n d_19_42 rfl 0 rfl ?_
    refine y_getR d_19_43 fl_0_25 rfl kd_0 rr_told ?_
    obtain ⟨g14, h⟩ := gd_inv h
    obtain ⟨S16, q15, h⟩ := bd_inv h
    refine y_V1v (S1 := S16) d_19_46 ml_0_86 kd_30 rfl (Nat.le_of_ble_eq_true rfl) (Nat.le_of_ble_eq_true rfl) (c_15 (by omega) q15) ?_
    refine x_aload_n d_19_49 rfl 0 rfl ?_
    refine y_getR d_19_50 fl_0_43 rfl kd_0 rr_0_6 ?_
    obtain ⟨S18, q17, h⟩ := bd_inv h
    refine y_V0v (S1 := S18) d_19_53 ml_0_106 kd_51 rfl (Nat.le_of_ble_eq_true rfl) (Nat.le_of_ble_eq_true rfl) (c_83 (by omega) q17) ?_
    refine x_aload_n d_19_56 rfl 0 rfl ?_
    refine y_getR d_19_57 fl_0_79 rfl kd_0 rr_0_11 ?_
    obtain ⟨S20, q19, h⟩ := bd_inv h
    refine y_V0v (S1 := S20) d_19_60 ml_0_109 kd_69 rfl (Nat.le_of_ble_eq_true rfl) (Nat.le_of_ble_eq_true rfl) (c_84 (by omega) q19) ?_
    refine x_aload_n d_19_63 rfl 0 rfl ?_
    refine x_iconst d_19_64 ic_0 ?_
    obtain ⟨S21, e22, h⟩ := lt_inv h
    refine y_putI e22 d_19_65 fl_0_110 rfl rfl kd_0 rfl rfl ?_
    refine x_iconst d_19_68 ic_0 ?_
    refine x_istore_n (L1 := [(0, .ref 0), (1, .int v2), (2, .int (0 : Int32))]) d_19_69 rfl (Nat.le_of_ble_eq_true rfl) rfl rfl ?_
    refine y_pick (L1 := [(0, .ref 0), (2, .int (0 : Int32))]) [0, 2] rfl ?_
    refine T_19_70 (by omega)   F (0 : Int32) S21 _ h
  · replace h := ite_t c6 h
    refine x_iconst d_19_21 ic_m1 ?_
    obtain rfl := Option.some.inj h
    exact x_ret (r := some (.int (-1 : Int32))) d_19_22 ⟨_, rfl, rfl⟩
/-! NinetyPlayers.fault -/
def fN_fault (F G : Nat) (S : St) (p1 : Int32) : Option (Int32) :=
  if p1 = 0 then some (S.1 2 0) else if p1 = 1 then some (S.1 2 1) else some (-1 : Int32)
set_option maxRecDepth 100000 in
set_option maxHeartbeats 4000000 in
theorem c_85 {X : Nat × (Nat → Int32)} {D F G : Nat} (hD : 0 ≤ D) {S : St} {p1 : Int32} {res : Int32} (h : fN_fault F G S p1 = some res) : Ek X (D) m85 0 [(0, .ref 0), (1, .int p1)] [] S (some (.int res)) S := by
  unfold fN_fault at h
  refine x_iload_n d_85_0 rfl 1 rfl ?_
  by_cases c1 : p1 = 0
  · replace h := ite_t c1 h
    refine x_look (tgt := 28) d_85_1 (by decide +kernel) (by rw [c1] <;> rfl) rfl ?_
    refine x_aload_n d_85_28 rfl 0 rfl ?_
    refine y_getR d_85_29 fl_0_18 rfl kd_0 rr_0_2 ?_
    refine y_getI d_85_32 fl_0_120 rfl kd_2 ?_
    obtain rfl := Option.some.inj h
    exact x_ret (r := some (.int (S.1 2 0))) d_85_35 ⟨_, rfl, rfl⟩
  replace h := ite_f c1 h
  by_cases c2 : p1 = 1
  · replace h := ite_t c2 h
    refine x_look (tgt := 36) d_85_1 (by decide +kernel) (by rw [c2] <;> rfl) rfl ?_
    refine x_aload_n d_85_36 rfl 0 rfl ?_
    refine y_getR d_85_37 fl_0_18 rfl kd_0 rr_0_2 ?_
    refine y_getI d_85_40 fl_0_123 rfl kd_2 ?_
    obtain rfl := Option.some.inj h
    exact x_ret (r := some (.int (S.1 2 1))) d_85_43 ⟨_, rfl, rfl⟩
  replace h := ite_f c2 h
  refine x_look (off := 43) (tgt := 44) d_85_1 (by decide +kernel) (by show Op.lookupswitch.offset [(0, 27), (1, 35)] 43 _ = _; rw [lv_osw (a := 0) c1 (by decide), lv_osw (a := 1) c2 (by decide)]; rfl) rfl ?_
  refine x_iconst d_85_44 ic_m1 ?_
  obtain rfl := Option.some.inj h
  exact x_ret (r := some (.int (-1 : Int32))) d_85_45 ⟨_, rfl, rfl⟩
/-! NinetyPlayers.isNote -/
def fN_isNote (F G : Nat) (S : St) (p1 : Int32) : Option (Int32) :=
  if p1 < 0 then some (0 : Int32) else gd (isSc S.2.2.1) (if (S.1 S.2.2.1 6) ≤ p1 then some (0 : Int32) else some (1 : Int32))
set_option maxRecDepth 100000 in
set_option maxHeartbeats 4000000 in
theorem c_87 {X : Nat × (Nat → Int32)} {D F G : Nat} (hD : 0 ≤ D) {S : St} {p1 : Int32} {res : Int32} (h : fN_isNote F G S p1 = some res) : Ek X (D) m87 0 [(0, .ref 0), (1, .int p1)] [] S (some (.int res)) S := by
  unfold fN_isNote at h
  refine x_iload_n d_87_0 rfl 1 rfl ?_
  refine x_if_lt (tgt := 19) d_87_1 rfl (fun c1 => ?_) (fun c1 => ?_)
  · replace h := ite_t c1 h
    refine x_iconst d_87_19 ic_0 ?_
    obtain rfl := Option.some.inj h
    exact x_ret (r := some (.int (0 : Int32))) d_87_20 ⟨_, rfl, rfl⟩
  · replace h := ite_f c1 h
    refine x_iload_n d_87_4 rfl 1 rfl ?_
    refine x_aload_n d_87_5 rfl 0 rfl ?_
    refine y_getR d_87_6 fl_0_25 rfl kd_0 rr_told ?_
    obtain ⟨g2, h⟩ := gd_inv h
    refine y_getI d_87_9 fl_0_117 rfl (ksSc g2) ?_
    refine x_icmp_ge (tgt := 19) d_87_12 rfl (fun c3 => ?_) (fun c3 => ?_)
    · replace h := ite_t c3 h
      refine x_iconst d_87_19 ic_0 ?_
      obtain rfl := Option.some.inj h
      exact x_ret (r := some (.int (0 : Int32))) d_87_20 ⟨_, rfl, rfl⟩
    · replace h := ite_f c3 h
      refine x_iconst d_87_15 ic_1 ?_
      refine x_goto (tgt := 20) d_87_16 rfl ?_
      obtain rfl := Option.some.inj h
      exact x_ret (r := some (.int (1 : Int32))) d_87_20 ⟨_, rfl, rfl⟩
/-! NinetyPlayers$Score.roleOf -/
def j_89_22 (F G : Nat) (o : Nat) (S : St) (s0 : Int32) : Option (Int32) :=
  if s0 < 0 then some (0 : Int32) else if (S.1 o 5) ≤ s0 then some (0 : Int32) else gd (inB s0 4) (some (S.1 (o + 2) s0.toNatClampNeg))
def j_89_21 (F G : Nat) (o : Nat) (S : St) : Option (Int32) :=
  j_89_22 F G o  S (-1 : Int32)
def fS_roleOf (F G : Nat) (S : St) (o : Nat) (p1 : Int32) : Option (Int32) :=
  gd (isSc o) (if p1 < 0 then j_89_21 F G o  S  else if (S.1 o 6) ≤ p1 then j_89_21 F G o  S  else gd (inB p1 10) (j_89_22 F G o  S (S.1 (o + 4) p1.toNatClampNeg)))
set_option maxRecDepth 100000 in
set_option maxHeartbeats 4000000 in
theorem c_89 {X : Nat × (Nat → Int32)} {D F G : Nat} (hD : 0 ≤ D) {S : St} {o : Nat} {p1 : Int32} {res : Int32} (h : fS_roleOf F G S o p1 = some res) : Ek X (D) m89 0 [(0, .ref o), (1, .int p1)] [] S (some (.int res)) S := by
  unfold fS_roleOf at h
  obtain ⟨gg0, h⟩ := gd_inv h
  have J22 : ∀ (s0 : Int32) (res : Int32), j_89_22 F G o S s0 = some res → Ek X (D) m89 22 [(0, .ref o)] [.int s0] S (some (.int res)) S := by
    intro s0 res h
    unfold j_89_22 at h
    refine x_istore_n (L1 := [(0, .ref o), (2, .int s0)]) d_89_22 rfl (Nat.le_of_ble_eq_true rfl) rfl rfl ?_
    refine x_iload_n d_89_23 rfl 1 rfl ?_
    refine x_if_lt (tgt := 44) d_89_24 rfl (fun c4 => ?_) (fun c4 => ?_)
    · replace h := ite_t c4 h
      refine x_iconst d_89_44 ic_0 ?_
      obtain rfl := Option.some.inj h
      exact x_ret (r := some (.int (0 : Int32))) d_89_45 ⟨_, rfl, rfl⟩
    · replace h := ite_f c4 h
      refine x_iload_n d_89_27 rfl 1 rfl ?_
      refine x_aload_n d_89_28 rfl 0 rfl ?_
      refine y_getI d_89_29 fl_2_63 rfl (ksSc gg0) ?_
      refine x_icmp_ge (tgt := 44) d_89_32 rfl (fun c5 => ?_) (fun c5 => ?_)
      · replace h := ite_t c5 h
        refine x_iconst d_89_44 ic_0 ?_
        obtain rfl := Option.some.inj h
        exact x_ret (r := some (.int (0 : Int32))) d_89_45 ⟨_, rfl, rfl⟩
      · replace h := ite_f c5 h
        refine x_aload_n d_89_35 rfl 0 rfl ?_
        refine y_getR d_89_36 fl_2_15 rfl (ksSc gg0) (rrSc_8 gg0) ?_
        refine x_iload_n d_89_39 rfl 1 rfl ?_
        obtain ⟨g6, h⟩ := gd_inv h
        refine y_iald d_89_40 (ksSc_2 gg0) g6 ?_
        refine x_goto (tgt := 45) d_89_41 rfl ?_
        obtain rfl := Option.some.inj h
        exact x_ret (r := some (.int (S.1 (o + 2) s0.toNatClampNeg))) d_89_45 ⟨_, rfl, rfl⟩
  have J21 : ∀ (res : Int32), j_89_21 F G o S  = some res → Ek X (D) m89 21 [(0, .ref o)] [] S (some (.int res)) S := by
    intro  res h
    unfold j_89_21 at h
    refine x_iconst d_89_21 ic_m1 ?_
    exact J22 (-1 : Int32) _ h
  refine x_iload_n d_89_0 rfl 1 rfl ?_
  refine x_if_lt (tgt := 21) d_89_1 rfl (fun c1 => ?_) (fun c1 => ?_)
  · replace h := ite_t c1 h
    refine y_pick (L1 := [(0, .ref o)]) [0] rfl ?_
    exact J21  _ h
  · replace h := ite_f c1 h
    refine x_iload_n d_89_4 rfl 1 rfl ?_
    refine x_aload_n d_89_5 rfl 0 rfl ?_
    refine y_getI d_89_6 fl_2_66 rfl (ksSc gg0) ?_
    refine x_icmp_ge (tgt := 21) d_89_9 rfl (fun c2 => ?_) (fun c2 => ?_)
    · replace h := ite_t c2 h
      refine y_pick (L1 := [(0, .ref o)]) [0] rfl ?_
      exact J21  _ h
    · replace h := ite_f c2 h
      refine x_aload_n d_89_12 rfl 0 rfl ?_
      refine y_getR d_89_13 fl_2_22 rfl (ksSc gg0) (rrSc_10 gg0) ?_
      refine x_iload_n d_89_16 rfl 1 rfl ?_
      obtain ⟨g3, h⟩ := gd_inv h
      refine y_iald d_89_17 (ksSc_4 gg0) g3 ?_
      refine x_goto (tgt := 22) d_89_18 rfl ?_
      refine y_pick (L1 := [(0, .ref o)]) [0] rfl ?_
      exact J22 (S.1 (o + 4) p1.toNatClampNeg) _ h
/-! NinetyPlayers.doublesOf -/
def j_90_41 (F G : Nat) (S : St) (z1 : Int32) (rec : Int32 → Int32 → Option (Int32)) (_ : St) (y2 : Int32) (y3 : Int32) (s0 : Int32) : Option (Int32) :=
  if y3 = z1 then lt (y3 + 1) fun v7 => rec y2 v7 else if s0 = 0 then lt (y3 + 1) fun v10 => rec y2 v10 else gd (inB y3 10) (gd (inB z1 10) (if (((S.1 32 y3.toNatClampNeg) - (S.1 32 z1.toNatClampNeg)) - ((S.1 32 y3.toNatClampNeg) - (S.1 32 z1.toNatClampNeg)) / (12 : Int32) * (12 : Int32)) = 0 then lt (y2 ||| ((1 : Int32) <<< (y3 &&& 31))) fun v17 => lt (y3 + 1) fun v19 => rec v17 v19 else lt (y3 + 1) fun v15 => rec y2 v15))
def b_90_4 (F G : Nat) (S : St) (z1 : Int32) (rec : Int32 → Int32 → Option (Int32)) (w2 : Int32) (w3 : Int32) : Option (Int32) :=
  gd (isSc S.2.2.1) (if (S.1 S.2.2.1 6) ≤ w3 then some w2 else gd (inB w3 10) (gd (inB z1 10) (if (S.1 (S.2.2.1 + 5) w3.toNatClampNeg) = (S.1 (S.2.2.1 + 5) z1.toNatClampNeg) then j_90_41 F G S z1 rec  S w2 w3 (1 : Int32) else j_90_41 F G S z1 rec  S w2 w3 (0 : Int32))))
def fN_doublesOf (F G : Nat) (S : St) (p1 : Int32) : Option (Int32) :=
  fx2 (b_90_4 F G S p1) F (0 : Int32) (0 : Int32)
set_option maxRecDepth 100000 in
set_option maxHeartbeats 4000000 in
theorem T_90_4 {X : Nat × (Nat → Int32)} {D F G : Nat} (hD : 0 ≤ D) {S : St} {z1 : Int32} : ∀ (f : Nat) (w2 : Int32) (w3 : Int32) (res : Int32), fx2 (b_90_4 F G S z1 ) f w2 w3 = some res → Ek X (D) m90 4 [(0, .ref 0), (1, .int z1), (2, .int w2), (3, .int w3)] [] S (some (.int res)) S := by
  refine fx2_ind ?_
  intro rec ih w2 w3 res h
  unfold b_90_4 at h
  have J41 : ∀ (y2 : Int32) (y3 : Int32) (s0 : Int32) (res : Int32), j_90_41 F G S z1 rec S y2 y3 s0 = some res → Ek X (D) m90 41 [(0, .ref 0), (1, .int z1), (2, .int y2), (3, .int y3)] [.int s0] S (some (.int res)) S := by
    intro y2 y3 s0 res h
    unfold j_90_41 at h
    refine x_istore (L1 := [(0, .ref 0), (1, .int z1), (2, .int y2), (3, .int y3), (4, .int s0)]) d_90_41 (Nat.le_of_ble_eq_true rfl) rfl rfl ?_
    refine x_iload_n d_90_43 rfl 3 rfl ?_
    refine x_iload_n d_90_44 rfl 1 rfl ?_
    refine x_icmp_eq (tgt := 84) d_90_45 rfl (fun c6 => ?_) (fun c6 => ?_)
    · replace h := ite_t c6 h
      obtain ⟨v7, e8, h⟩ := lt_inv h
      refine y_iinc (L1 := [(0, .ref 0), (1, .int z1), (2, .int y2), (3, .int v7), (4, .int s0)]) e8 ic_1 d_90_84 3 rfl (Nat.le_of_ble_eq_true rfl) rfl rfl ?_
      refine x_goto (tgt := 4) d_90_87 rfl ?_
      refine y_pick (L1 := [(0, .ref 0), (1, .int z1), (2, .int y2), (3, .int v7)]) [0, 1, 2, 3] rfl ?_
      exact ih y2 v7 _ h
    · replace h := ite_f c6 h
      refine x_iload d_90_48 4 rfl ?_
      refine x_if_eq (tgt := 84) d_90_50 rfl (fun c9 => ?_) (fun c9 => ?_)
      · replace h := ite_t c9 h
        obtain ⟨v10, e11, h⟩ := lt_inv h
        refine y_iinc (L1 := [(0, .ref 0), (1, .int z1), (2, .int y2), (3, .int v10), (4, .int s0)]) e11 ic_1 d_90_84 3 rfl (Nat.le_of_ble_eq_true rfl) rfl rfl ?_
        refine x_goto (tgt := 4) d_90_87 rfl ?_
        refine y_pick (L1 := [(0, .ref 0), (1, .int z1), (2, .int y2), (3, .int v10)]) [0, 1, 2, 3] rfl ?_
        exact ih y2 v10 _ h
      · replace h := ite_f c9 h
        refine x_aload_n d_90_53 rfl 0 rfl ?_
        refine y_getR d_90_54 fl_0_32 rfl kd_0 rr_0_4 ?_
        refine y_getR d_90_57 fl_0_135 rfl kd_30 rr_30_3 ?_
        refine x_iload_n d_90_60 rfl 3 rfl ?_
        obtain ⟨g12, h⟩ := gd_inv h
        refine y_iald d_90_61 kd_32 g12 ?_
        refine x_aload_n d_90_62 rfl 0 rfl ?_
        refine y_getR d_90_63 fl_0_32 rfl kd_0 rr_0_4 ?_
        refine y_getR d_90_66 fl_0_135 rfl kd_30 rr_30_3 ?_
        refine x_iload_n d_90_69 rfl 1 rfl ?_
        obtain ⟨g13, h⟩ := gd_inv h
        refine y_iald d_90_70 kd_32 g13 ?_
        refine x_isub d_90_71 ?_
        refine x_bipush d_90_72 bp_12 ?_
        refine x_irem d_90_74 (by decide) ?_
        refine x_if_ne (tgt := 84) d_90_75 rfl (fun c14 => ?_) (fun c14 => ?_)
        · replace h := ite_f c14 h
          obtain ⟨v15, e16, h⟩ := lt_inv h
          refine y_iinc (L1 := [(0, .ref 0), (1, .int z1), (2, .int y2), (3, .int v15), (4, .int s0)]) e16 ic_1 d_90_84 3 rfl (Nat.le_of_ble_eq_true rfl) rfl rfl ?_
          refine x_goto (tgt := 4) d_90_87 rfl ?_
          refine y_pick (L1 := [(0, .ref 0), (1, .int z1), (2, .int y2), (3, .int v15)]) [0, 1, 2, 3] rfl ?_
          exact ih y2 v15 _ h
        · replace h := ite_t c14 h
          refine x_iload_n d_90_78 rfl 2 rfl ?_
          refine x_iconst d_90_79 ic_1 ?_
          refine x_iload_n d_90_80 rfl 3 rfl ?_
          refine x_ishl d_90_81 ?_
          refine x_ior d_90_82 ?_
          obtain ⟨v17, e18, h⟩ := lt_inv h
          refine y_istore_n (L1 := [(0, .ref 0), (1, .int z1), (2, .int v17), (3, .int y3), (4, .int s0)]) e18 d_90_83 rfl (Nat.le_of_ble_eq_true rfl) rfl rfl ?_
          obtain ⟨v19, e20, h⟩ := lt_inv h
          refine y_iinc (L1 := [(0, .ref 0), (1, .int z1), (2, .int v17), (3, .int v19), (4, .int s0)]) e20 ic_1 d_90_84 3 rfl (Nat.le_of_ble_eq_true rfl) rfl rfl ?_
          refine x_goto (tgt := 4) d_90_87 rfl ?_
          refine y_pick (L1 := [(0, .ref 0), (1, .int z1), (2, .int v17), (3, .int v19)]) [0, 1, 2, 3] rfl ?_
          exact ih v17 v19 _ h
  refine x_iload_n d_90_4 rfl 3 rfl ?_
  refine x_aload_n d_90_5 rfl 0 rfl ?_
  refine y_getR d_90_6 fl_0_25 rfl kd_0 rr_told ?_
  obtain ⟨g1, h⟩ := gd_inv h
  refine y_getI d_90_9 fl_0_117 rfl (ksSc g1) ?_
  refine x_icmp_ge (tgt := 90) d_90_12 rfl (fun c2 => ?_) (fun c2 => ?_)
  · replace h := ite_t c2 h
    refine x_iload_n d_90_90 rfl 2 rfl ?_
    obtain rfl := Option.some.inj h
    exact x_ret (r := some (.int w2)) d_90_91 ⟨_, rfl, rfl⟩
  · replace h := ite_f c2 h
    refine x_aload_n d_90_15 rfl 0 rfl ?_
    refine y_getR d_90_16 fl_0_25 rfl kd_0 rr_told ?_
    refine y_getR d_90_19 fl_0_132 rfl (ksSc g1) (rrSc_11 g1) ?_
    refine x_iload_n d_90_22 rfl 3 rfl ?_
    obtain ⟨g3, h⟩ := gd_inv h
    refine y_iald d_90_23 (ksSc_5 g1) g3 ?_
    refine x_aload_n d_90_24 rfl 0 rfl ?_
    refine y_getR d_90_25 fl_0_25 rfl kd_0 rr_told ?_
    refine y_getR d_90_28 fl_0_132 rfl (ksSc g1) (rrSc_11 g1) ?_
    refine x_iload_n d_90_31 rfl 1 rfl ?_
    obtain ⟨g4, h⟩ := gd_inv h
    refine y_iald d_90_32 (ksSc_5 g1) g4 ?_
    refine x_icmp_ne (tgt := 40) d_90_33 rfl (fun c5 => ?_) (fun c5 => ?_)
    · replace h := ite_f c5 h
      refine x_iconst d_90_40 ic_0 ?_
      exact J41 w2 w3 (0 : Int32) _ h
    · replace h := ite_t c5 h
      refine x_iconst d_90_36 ic_1 ?_
      refine x_goto (tgt := 41) d_90_37 rfl ?_
      exact J41 w2 w3 (1 : Int32) _ h
set_option maxRecDepth 100000 in
set_option maxHeartbeats 4000000 in
theorem c_90 {X : Nat × (Nat → Int32)} {D F G : Nat} (hD : 0 ≤ D) {S : St} {p1 : Int32} {res : Int32} (h : fN_doublesOf F G S p1 = some res) : Ek X (D) m90 0 [(0, .ref 0), (1, .int p1)] [] S (some (.int res)) S := by
  unfold fN_doublesOf at h
  refine x_iconst d_90_0 ic_0 ?_
  refine x_istore_n (L1 := [(0, .ref 0), (1, .int p1), (2, .int (0 : Int32))]) d_90_1 rfl (Nat.le_of_ble_eq_true rfl) rfl rfl ?_
  refine x_iconst d_90_2 ic_0 ?_
  refine x_istore_n (L1 := [(0, .ref 0), (1, .int p1), (2, .int (0 : Int32)), (3, .int (0 : Int32))]) d_90_3 rfl (Nat.le_of_ble_eq_true rfl) rfl rfl ?_
  refine T_90_4 (by omega)   F (0 : Int32) (0 : Int32) _ h
/-! java/lang/Integer.bitCount -/
def fJ_bitCount (F G : Nat) (S : St) (p1 : Int32) : Option (Int32) :=
  lt (p1 - (((p1.toUInt32 >>> ((1 : Int32).toUInt32 &&& Int32.toUInt32 31)).toInt32) &&& (1431655765 : Int32))) fun v1 => lt ((v1 &&& (858993459 : Int32)) + (((v1.toUInt32 >>> ((2 : Int32).toUInt32 &&& Int32.toUInt32 31)).toInt32) &&& (858993459 : Int32))) fun v3 => lt ((v3 + ((v3.toUInt32 >>> ((4 : Int32).toUInt32 &&& Int32.toUInt32 31)).toInt32)) &&& (252645135 : Int32)) fun v5 => lt (v5 + ((v5.toUInt32 >>> ((8 : Int32).toUInt32 &&& Int32.toUInt32 31)).toInt32)) fun v7 => lt (v7 + ((v7.toUInt32 >>> ((16 : Int32).toUInt32 &&& Int32.toUInt32 31)).toInt32)) fun v9 => some (v9 &&& (63 : Int32))
set_option maxRecDepth 100000 in
set_option maxHeartbeats 4000000 in
theorem c_91 {X : Nat × (Nat → Int32)} {D F G : Nat} (hD : 0 ≤ D) {S : St} {p1 : Int32} {res : Int32} (h : fJ_bitCount F G S p1 = some res) : Ek X (D) m91 0 [(0, .int p1)] [] S (some (.int res)) S := by
  unfold fJ_bitCount at h
  refine x_iload_n d_91_0 rfl 0 rfl ?_
  refine x_iload_n d_91_1 rfl 0 rfl ?_
  refine x_iconst d_91_2 ic_1 ?_
  refine x_iushr d_91_3 ?_
  refine x_ldcw d_91_4 kc_15_265 ?_
  refine x_iand d_91_7 ?_
  refine x_isub d_91_8 ?_
  obtain ⟨v1, e2, h⟩ := lt_inv h
  refine y_istore_n (L1 := [(0, .int v1)]) e2 d_91_9 rfl (Nat.le_of_ble_eq_true rfl) rfl rfl ?_
  refine x_iload_n d_91_10 rfl 0 rfl ?_
  refine x_ldcw d_91_11 kc_15_266 ?_
  refine x_iand d_91_14 ?_
  refine x_iload_n d_91_15 rfl 0 rfl ?_
  refine x_iconst d_91_16 ic_2 ?_
  refine x_iushr d_91_17 ?_
  refine x_ldcw d_91_18 kc_15_266 ?_
  refine x_iand d_91_21 ?_
  refine x_iadd d_91_22 ?_
  obtain ⟨v3, e4, h⟩ := lt_inv h
  refine y_istore_n (L1 := [(0, .int v3)]) e4 d_91_23 rfl (Nat.le_of_ble_eq_true rfl) rfl rfl ?_
  refine x_iload_n d_91_24 rfl 0 rfl ?_
  refine x_iload_n d_91_25 rfl 0 rfl ?_
  refine x_iconst d_91_26 ic_4 ?_
  refine x_iushr d_91_27 ?_
  refine x_iadd d_91_28 ?_
  refine x_ldcw d_91_29 kc_15_267 ?_
  refine x_iand d_91_32 ?_
  obtain ⟨v5, e6, h⟩ := lt_inv h
  refine y_istore_n (L1 := [(0, .int v5)]) e6 d_91_33 rfl (Nat.le_of_ble_eq_true rfl) rfl rfl ?_
  refine x_iload_n d_91_34 rfl 0 rfl ?_
  refine x_iload_n d_91_35 rfl 0 rfl ?_
  refine x_bipush d_91_36 bp_8 ?_
  refine x_iushr d_91_38 ?_
  refine x_iadd d_91_39 ?_
  obtain ⟨v7, e8, h⟩ := lt_inv h
  refine y_istore_n (L1 := [(0, .int v7)]) e8 d_91_40 rfl (Nat.le_of_ble_eq_true rfl) rfl rfl ?_
  refine x_iload_n d_91_41 rfl 0 rfl ?_
  refine x_iload_n d_91_42 rfl 0 rfl ?_
  refine x_bipush d_91_43 bp_16 ?_
  refine x_iushr d_91_45 ?_
  refine x_iadd d_91_46 ?_
  obtain ⟨v9, e10, h⟩ := lt_inv h
  refine y_istore_n (L1 := [(0, .int v9)]) e10 d_91_47 rfl (Nat.le_of_ble_eq_true rfl) rfl rfl ?_
  refine x_iload_n d_91_48 rfl 0 rfl ?_
  refine x_bipush d_91_49 bp_63 ?_
  refine x_iand d_91_51 ?_
  obtain rfl := Option.some.inj h
  exact x_ret (r := some (.int (v9 &&& (63 : Int32)))) d_91_52 ⟨_, rfl, rfl⟩
/-! NinetyPlayers$Formula.isTold -/
def fF_isTold (F G : Nat) (S : St) (o : Nat) : Option (Int32) :=
  gd (isFo o) (if (S.1 o 1) ≤ 0 then some (0 : Int32) else some (1 : Int32))
set_option maxRecDepth 100000 in
set_option maxHeartbeats 4000000 in
theorem c_92 {X : Nat × (Nat → Int32)} {D F G : Nat} (hD : 0 ≤ D) {S : St} {o : Nat} {res : Int32} (h : fF_isTold F G S o = some res) : Ek X (D) m92 0 [(0, .ref o)] [] S (some (.int res)) S := by
  unfold fF_isTold at h
  obtain ⟨gg0, h⟩ := gd_inv h
  refine x_aload_n d_92_0 rfl 0 rfl ?_
  refine y_getI d_92_1 fl_3_25 rfl (ksFo gg0) ?_
  refine x_if_le (tgt := 11) d_92_4 rfl (fun c1 => ?_) (fun c1 => ?_)
  · replace h := ite_t c1 h
    refine x_iconst d_92_11 ic_0 ?_
    obtain rfl := Option.some.inj h
    exact x_ret (r := some (.int (0 : Int32))) d_92_12 ⟨_, rfl, rfl⟩
  · replace h := ite_f c1 h
    refine x_iconst d_92_7 ic_1 ?_
    refine x_goto (tgt := 12) d_92_8 rfl ?_
    obtain rfl := Option.some.inj h
    exact x_ret (r := some (.int (1 : Int32))) d_92_12 ⟨_, rfl, rfl⟩
/-! NinetyPlayers$Formula.push -/
def fF_push (F G : Nat) (S : St) (o : Nat) (p1 : Int32) : Option (St) :=
  gd (isFo o) (if (Int32.ofNat 31) ≤ (S.1 o 5) then some S else gd (inB (S.1 o 5) 31) (lt (sI S (o + 2) (S.1 o 5).toNatClampNeg p1) fun S3 => lt (sI S3 o 5 ((S3.1 o 5) + (1 : Int32))) fun S5 => some S5))
set_option maxRecDepth 100000 in
set_option maxHeartbeats 4000000 in
theorem c_95 {X : Nat × (Nat → Int32)} {D F G : Nat} (hD : 0 ≤ D) {S : St} {o : Nat} {p1 : Int32} {res : St} (h : fF_push F G S o p1 = some res) : Ek X (D) m95 0 [(0, .ref o), (1, .int p1)] [] S none res := by
  unfold fF_push at h
  obtain ⟨gg0, h⟩ := gd_inv h
  refine x_aload_n d_95_0 rfl 0 rfl ?_
  refine y_getI d_95_1 fl_3_28 rfl (ksFo gg0) ?_
  refine x_aload_n d_95_4 rfl 0 rfl ?_
  refine y_getR d_95_5 fl_3_13 rfl (ksFo gg0) (rrFo_3 gg0) ?_
  refine x_alen1 d_95_8 (ksFo_2 gg0) ?_
  refine x_icmp_ge (tgt := 32) d_95_9 rfl (fun c1 => ?_) (fun c1 => ?_)
  · replace h := ite_t c1 h
    obtain rfl := Option.some.inj h
    exact x_ret (r := none) d_95_32 rfl
  · replace h := ite_f c1 h
    refine x_aload_n d_95_12 rfl 0 rfl ?_
    refine y_getR d_95_13 fl_3_13 rfl (ksFo gg0) (rrFo_3 gg0) ?_
    refine x_aload_n d_95_16 rfl 0 rfl ?_
    refine y_getI d_95_17 fl_3_28 rfl (ksFo gg0) ?_
    refine x_iload_n d_95_20 rfl 1 rfl ?_
    obtain ⟨g2, h⟩ := gd_inv h
    obtain ⟨S3, e4, h⟩ := lt_inv h
    refine y_iast e4 d_95_21 (ksFo_2 gg0) g2 ?_
    refine x_aload_n d_95_22 rfl 0 rfl ?_
    refine x_dup d_95_23 rfl ?_
    refine y_getI d_95_24 fl_3_28 rfl (ksFo gg0) ?_
    refine x_iconst d_95_27 ic_1 ?_
    refine x_iadd d_95_28 ?_
    obtain ⟨S5, e6, h⟩ := lt_inv h
    refine y_putI e6 d_95_29 fl_3_28 rfl rfl (ksFo gg0) rfl rfl ?_
    obtain rfl := Option.some.inj h
    exact x_ret (r := none) d_95_32 rfl
/-! NinetyPlayers$Formula.joined -/
def fF_joined (F G : Nat) (S : St) (p1 : Int32) (p2 : Int32) (p3 : Int32) : Option (Int32) :=
  if p1 = 12 then if p2 = 0 then if p3 = 0 then some (0 : Int32) else some (1 : Int32) else some (1 : Int32) else if p1 = 13 then if p2 = 0 then some (0 : Int32) else if p3 = 0 then some (0 : Int32) else some (1 : Int32) else if p1 = 37 then if p3 = 0 then some (0 : Int32) else gd (nz p3) (some (p2 - p2 / p3 * p3)) else if p1 = 42 then some (p2 * p3) else if p1 = 43 then some (p2 + p3) else if p1 = 45 then some (p2 - p3) else if p1 = 47 then if p3 = 0 then some (0 : Int32) else gd (nz p3) (some (p2 / p3)) else if p1 = 60 then if p3 ≤ p2 then some (0 : Int32) else some (1 : Int32) else if p1 = 61 then if p2 = p3 then some (1 : Int32) else some (0 : Int32) else if p1 = 62 then if p2 ≤ p3 then some (0 : Int32) else some (1 : Int32) else some (0 : Int32)
set_option maxRecDepth 100000 in
set_option maxHeartbeats 4000000 in
theorem c_96 {X : Nat × (Nat → Int32)} {D F G : Nat} (hD : 0 ≤ D) {S : St} {p1 : Int32} {p2 : Int32} {p3 : Int32} {res : Int32} (h : fF_joined F G S p1 p2 p3 = some res) : Ek X (D) m96 0 [(0, .int p1), (1, .int p2), (2, .int p3)] [] S (some (.int res)) S := by
  unfold fF_joined at h
  refine x_iload_n d_96_0 rfl 0 rfl ?_
  by_cases c1 : p1 = 12
  · replace h := ite_t c1 h
    refine x_look (tgt := 175) d_96_1 (by decide +kernel) (by rw [c1] <;> rfl) rfl ?_
    refine x_iload_n d_96_175 rfl 1 rfl ?_
    refine x_if_ne (tgt := 183) d_96_176 rfl (fun c2 => ?_) (fun c2 => ?_)
    · replace h := ite_f c2 h
      refine x_iconst d_96_183 ic_1 ?_
      refine x_goto (tgt := 188) d_96_184 rfl ?_
      obtain rfl := Option.some.inj h
      exact x_ret (r := some (.int (1 : Int32))) d_96_188 ⟨_, rfl, rfl⟩
    · replace h := ite_t c2 h
      refine x_iload_n d_96_179 rfl 2 rfl ?_
      refine x_if_eq (tgt := 187) d_96_180 rfl (fun c3 => ?_) (fun c3 => ?_)
      · replace h := ite_t c3 h
        refine x_iconst d_96_187 ic_0 ?_
        obtain rfl := Option.some.inj h
        exact x_ret (r := some (.int (0 : Int32))) d_96_188 ⟨_, rfl, rfl⟩
      · replace h := ite_f c3 h
        refine x_iconst d_96_183 ic_1 ?_
        refine x_goto (tgt := 188) d_96_184 rfl ?_
        obtain rfl := Option.some.inj h
        exact x_ret (r := some (.int (1 : Int32))) d_96_188 ⟨_, rfl, rfl⟩
  replace h := ite_f c1 h
  by_cases c4 : p1 = 13
  · replace h := ite_t c4 h
    refine x_look (tgt := 161) d_96_1 (by decide +kernel) (by rw [c4] <;> rfl) rfl ?_
    refine x_iload_n d_96_161 rfl 1 rfl ?_
    refine x_if_eq (tgt := 173) d_96_162 rfl (fun c5 => ?_) (fun c5 => ?_)
    · replace h := ite_t c5 h
      refine x_iconst d_96_173 ic_0 ?_
      obtain rfl := Option.some.inj h
      exact x_ret (r := some (.int (0 : Int32))) d_96_174 ⟨_, rfl, rfl⟩
    · replace h := ite_f c5 h
      refine x_iload_n d_96_165 rfl 2 rfl ?_
      refine x_if_eq (tgt := 173) d_96_166 rfl (fun c6 => ?_) (fun c6 => ?_)
      · replace h := ite_t c6 h
        refine x_iconst d_96_173 ic_0 ?_
        obtain rfl := Option.some.inj h
        exact x_ret (r := some (.int (0 : Int32))) d_96_174 ⟨_, rfl, rfl⟩
      · replace h := ite_f c6 h
        refine x_iconst d_96_169 ic_1 ?_
        refine x_goto (tgt := 174) d_96_170 rfl ?_
        obtain rfl := Option.some.inj h
        exact x_ret (r := some (.int (1 : Int32))) d_96_174 ⟨_, rfl, rfl⟩
  replace h := ite_f c4 h
  by_cases c7 : p1 = 37
  · replace h := ite_t c7 h
    refine x_look (tgt := 116) d_96_1 (by decide +kernel) (by rw [c7] <;> rfl) rfl ?_
    refine x_iload_n d_96_116 rfl 2 rfl ?_
    refine x_if_ne (tgt := 124) d_96_117 rfl (fun c8 => ?_) (fun c8 => ?_)
    · replace h := ite_f c8 h
      refine x_iload_n d_96_124 rfl 1 rfl ?_
      refine x_iload_n d_96_125 rfl 2 rfl ?_
      obtain ⟨g9, h⟩ := gd_inv h
      refine x_irem d_96_126 (nz_ne g9) ?_
      obtain rfl := Option.some.inj h
      exact x_ret (r := some (.int (p2 - p2 / p3 * p3))) d_96_127 ⟨_, rfl, rfl⟩
    · replace h := ite_t c8 h
      refine x_iconst d_96_120 ic_0 ?_
      refine x_goto (tgt := 127) d_96_121 rfl ?_
      obtain rfl := Option.some.inj h
      exact x_ret (r := some (.int (0 : Int32))) d_96_127 ⟨_, rfl, rfl⟩
  replace h := ite_f c7 h
  by_cases c10 : p1 = 42
  · replace h := ite_t c10 h
    refine x_look (tgt := 100) d_96_1 (by decide +kernel) (by rw [c10] <;> rfl) rfl ?_
    refine x_iload_n d_96_100 rfl 1 rfl ?_
    refine x_iload_n d_96_101 rfl 2 rfl ?_
    refine x_imul d_96_102 ?_
    obtain rfl := Option.some.inj h
    exact x_ret (r := some (.int (p2 * p3))) d_96_103 ⟨_, rfl, rfl⟩
  replace h := ite_f c10 h
  by_cases c11 : p1 = 43
  · replace h := ite_t c11 h
    refine x_look (tgt := 92) d_96_1 (by decide +kernel) (by rw [c11] <;> rfl) rfl ?_
    refine x_iload_n d_96_92 rfl 1 rfl ?_
    refine x_iload_n d_96_93 rfl 2 rfl ?_
    refine x_iadd d_96_94 ?_
    obtain rfl := Option.some.inj h
    exact x_ret (r := some (.int (p2 + p3))) d_96_95 ⟨_, rfl, rfl⟩
  replace h := ite_f c11 h
  by_cases c12 : p1 = 45
  · replace h := ite_t c12 h
    refine x_look (tgt := 96) d_96_1 (by decide +kernel) (by rw [c12] <;> rfl) rfl ?_
    refine x_iload_n d_96_96 rfl 1 rfl ?_
    refine x_iload_n d_96_97 rfl 2 rfl ?_
    refine x_isub d_96_98 ?_
    obtain rfl := Option.some.inj h
    exact x_ret (r := some (.int (p2 - p3))) d_96_99 ⟨_, rfl, rfl⟩
  replace h := ite_f c12 h
  by_cases c13 : p1 = 47
  · replace h := ite_t c13 h
    refine x_look (tgt := 104) d_96_1 (by decide +kernel) (by rw [c13] <;> rfl) rfl ?_
    refine x_iload_n d_96_104 rfl 2 rfl ?_
    refine x_if_ne (tgt := 112) d_96_105 rfl (fun c14 => ?_) (fun c14 => ?_)
    · replace h := ite_f c14 h
      refine x_iload_n d_96_112 rfl 1 rfl ?_
      refine x_iload_n d_96_113 rfl 2 rfl ?_
      obtain ⟨g15, h⟩ := gd_inv h
      refine x_idiv d_96_114 (nz_ne g15) ?_
      obtain rfl := Option.some.inj h
      exact x_ret (r := some (.int (p2 / p3))) d_96_115 ⟨_, rfl, rfl⟩
    · replace h := ite_t c14 h
      refine x_iconst d_96_108 ic_0 ?_
      refine x_goto (tgt := 115) d_96_109 rfl ?_
      obtain rfl := Option.some.inj h
      exact x_ret (r := some (.int (0 : Int32))) d_96_115 ⟨_, rfl, rfl⟩
  replace h := ite_f c13 h
  by_cases c16 : p1 = 60
  · replace h := ite_t c16 h
    refine x_look (tgt := 128) d_96_1 (by decide +kernel) (by rw [c16] <;> rfl) rfl ?_
    refine x_iload_n d_96_128 rfl 1 rfl ?_
    refine x_iload_n d_96_129 rfl 2 rfl ?_
    refine x_icmp_ge (tgt := 137) d_96_130 rfl (fun c17 => ?_) (fun c17 => ?_)
    · replace h := ite_t c17 h
      refine x_iconst d_96_137 ic_0 ?_
      obtain rfl := Option.some.inj h
      exact x_ret (r := some (.int (0 : Int32))) d_96_138 ⟨_, rfl, rfl⟩
    · replace h := ite_f c17 h
      refine x_iconst d_96_133 ic_1 ?_
      refine x_goto (tgt := 138) d_96_134 rfl ?_
      obtain rfl := Option.some.inj h
      exact x_ret (r := some (.int (1 : Int32))) d_96_138 ⟨_, rfl, rfl⟩
  replace h := ite_f c16 h
  by_cases c18 : p1 = 61
  · replace h := ite_t c18 h
    refine x_look (tgt := 150) d_96_1 (by decide +kernel) (by rw [c18] <;> rfl) rfl ?_
    refine x_iload_n d_96_150 rfl 1 rfl ?_
    refine x_iload_n d_96_151 rfl 2 rfl ?_
    refine x_icmp_ne (tgt := 159) d_96_152 rfl (fun c19 => ?_) (fun c19 => ?_)
    · replace h := ite_f c19 h
      refine x_iconst d_96_159 ic_0 ?_
      obtain rfl := Option.some.inj h
      exact x_ret (r := some (.int (0 : Int32))) d_96_160 ⟨_, rfl, rfl⟩
    · replace h := ite_t c19 h
      refine x_iconst d_96_155 ic_1 ?_
      refine x_goto (tgt := 160) d_96_156 rfl ?_
      obtain rfl := Option.some.inj h
      exact x_ret (r := some (.int (1 : Int32))) d_96_160 ⟨_, rfl, rfl⟩
  replace h := ite_f c18 h
  by_cases c20 : p1 = 62
  · replace h := ite_t c20 h
    refine x_look (tgt := 139) d_96_1 (by decide +kernel) (by rw [c20] <;> rfl) rfl ?_
    refine x_iload_n d_96_139 rfl 1 rfl ?_
    refine x_iload_n d_96_140 rfl 2 rfl ?_
    refine x_icmp_le (tgt := 148) d_96_141 rfl (fun c21 => ?_) (fun c21 => ?_)
    · replace h := ite_t c21 h
      refine x_iconst d_96_148 ic_0 ?_
      obtain rfl := Option.some.inj h
      exact x_ret (r := some (.int (0 : Int32))) d_96_149 ⟨_, rfl, rfl⟩
    · replace h := ite_f c21 h
      refine x_iconst d_96_144 ic_1 ?_
      refine x_goto (tgt := 149) d_96_145 rfl ?_
      obtain rfl := Option.some.inj h
      exact x_ret (r := some (.int (1 : Int32))) d_96_149 ⟨_, rfl, rfl⟩
  replace h := ite_f c20 h
  refine x_look (off := 188) (tgt := 189) d_96_1 (by decide +kernel) (by show Op.lookupswitch.offset [(12, 174), (13, 160), (37, 115), (42, 99), (43, 91), (45, 95), (47, 103), (60, 127), (61, 149), (62, 138)] 188 _ = _; rw [lv_osw (a := 12) c1 (by decide), lv_osw (a := 13) c4 (by decide), lv_osw (a := 37) c7 (by decide), lv_osw (a := 42) c10 (by decide), lv_osw (a := 43) c11 (by decide), lv_osw (a := 45) c12 (by decide), lv_osw (a := 47) c13 (by decide), lv_osw (a := 60) c16 (by decide), lv_osw (a := 61) c18 (by decide), lv_osw (a := 62) c20 (by decide)]; rfl) rfl ?_
  refine x_iconst d_96_189 ic_0 ?_
  obtain rfl := Option.some.inj h
  exact x_ret (r := some (.int (0 : Int32))) d_96_190 ⟨_, rfl, rfl⟩
/-! NinetyPlayers$Formula.step -/
def j_94_89 (F G : Nat) (o : Nat) (S : St) (y2 : Int32) : Option (St) :=
  if (S.1 o 5) ≤ (1 : Int32) then some S else lt (sI S o 5 ((S.1 o 5) - (1 : Int32))) fun S22 => gd (inB ((S22.1 o 5) - (1 : Int32)) 31) (gd (inB (S22.1 o 5) 31) (bd (fF_joined F G S22 y2 (S22.1 (o + 2) ((S22.1 o 5) - (1 : Int32)).toNatClampNeg) (S22.1 (o + 2) (S22.1 o 5).toNatClampNeg)) fun v27 => gd (inB ((S22.1 o 5) - (1 : Int32)) 31) (lt (sI S22 (o + 2) ((S22.1 o 5) - (1 : Int32)).toNatClampNeg v27) fun S29 => some S29)))
def j_94_43 (F G : Nat) (o : Nat) (S : St) (y2 : Int32) : Option (St) :=
  if y2 = (14 : Int32) then if (S.1 o 5) ≤ 0 then j_94_89 F G o  S y2 else gd (inB ((S.1 o 5) - (1 : Int32)) 31) (if (S.1 (o + 2) ((S.1 o 5) - (1 : Int32)).toNatClampNeg) = 0 then gd (inB ((S.1 o 5) - (1 : Int32)) 31) (lt (sI S (o + 2) ((S.1 o 5) - (1 : Int32)).toNatClampNeg (1 : Int32)) fun S19 => some S19) else gd (inB ((S.1 o 5) - (1 : Int32)) 31) (lt (sI S (o + 2) ((S.1 o 5) - (1 : Int32)).toNatClampNeg (0 : Int32)) fun S16 => some S16)) else j_94_89 F G o  S y2
def fF_step (F G : Nat) (S : St) (o : Nat) (p1 : Int32) : Option (St) :=
  gd (isFo o) (lt (-p1) fun v1 => if p1 < 0 then if v1 < (15 : Int32) then j_94_43 F G o  S v1 else if (20 : Int32) < v1 then j_94_43 F G o  S v1 else gd (inB (v1 - (15 : Int32)) 6) (bd (fF_push F G S o (S.1 (o + 3) (v1 - (15 : Int32)).toNatClampNeg)) fun S8 => some S8) else bd (fF_push F G S o p1) fun S10 => some S10)
set_option maxRecDepth 100000 in
set_option maxHeartbeats 4000000 in
theorem c_94 {X : Nat × (Nat → Int32)} {D F G : Nat} (hD : 1 ≤ D) {S : St} {o : Nat} {p1 : Int32} {res : St} (h : fF_step F G S o p1 = some res) : Ek X (D) m94 0 [(0, .ref o), (1, .int p1)] [] S none res := by
  obtain ⟨D, rfl⟩ : ∃ E, D = E + 1 := ⟨D - 1, by omega⟩
  unfold fF_step at h
  obtain ⟨gg0, h⟩ := gd_inv h
  have J89 : ∀ (S : St) (y2 : Int32) (res : St), j_94_89 F G o S y2 = some res → Ek X (D + 1) m94 89 [(0, .ref o), (2, .int y2)] [] S none res := by
    intro S y2 res h
    unfold j_94_89 at h
    refine x_aload_n d_94_89 rfl 0 rfl ?_
    refine y_getI d_94_90 fl_3_28 rfl (ksFo gg0) ?_
    refine x_iconst d_94_93 ic_1 ?_
    refine x_icmp_le (tgt := 142) d_94_94 rfl (fun c21 => ?_) (fun c21 => ?_)
    · replace h := ite_t c21 h
      obtain rfl := Option.some.inj h
      exact x_ret (r := none) d_94_142 rfl
    · replace h := ite_f c21 h
      refine x_aload_n d_94_97 rfl 0 rfl ?_
      refine x_dup d_94_98 rfl ?_
      refine y_getI d_94_99 fl_3_28 rfl (ksFo gg0) ?_
      refine x_iconst d_94_102 ic_1 ?_
      refine x_isub d_94_103 ?_
      obtain ⟨S22, e23, h⟩ := lt_inv h
      refine y_putI e23 d_94_104 fl_3_28 rfl rfl (ksFo gg0) rfl rfl ?_
      refine x_aload_n d_94_107 rfl 0 rfl ?_
      refine y_getR d_94_108 fl_3_13 rfl (ksFo gg0) (rrFo_3 gg0) ?_
      refine x_aload_n d_94_111 rfl 0 rfl ?_
      refine y_getI d_94_112 fl_3_28 rfl (ksFo gg0) ?_
      refine x_iconst d_94_115 ic_1 ?_
      refine x_isub d_94_116 ?_
      refine x_iload_n d_94_117 rfl 1 rfl ?_
      refine x_aload_n d_94_118 rfl 0 rfl ?_
      refine y_getR d_94_119 fl_3_13 rfl (ksFo gg0) (rrFo_3 gg0) ?_
      refine x_aload_n d_94_122 rfl 0 rfl ?_
      refine y_getI d_94_123 fl_3_28 rfl (ksFo gg0) ?_
      refine x_iconst d_94_126 ic_1 ?_
      refine x_isub d_94_127 ?_
      obtain ⟨g24, h⟩ := gd_inv h
      refine y_iald d_94_128 (ksFo_2 gg0) g24 ?_
      refine x_aload_n d_94_129 rfl 0 rfl ?_
      refine y_getR d_94_130 fl_3_13 rfl (ksFo gg0) (rrFo_3 gg0) ?_
      refine x_aload_n d_94_133 rfl 0 rfl ?_
      refine y_getI d_94_134 fl_3_28 rfl (ksFo gg0) ?_
      obtain ⟨g25, h⟩ := gd_inv h
      refine y_iald d_94_137 (ksFo_2 gg0) g25 ?_
      obtain ⟨v27, q26, h⟩ := bd_inv h
      refine y_S3i (v := v27) (S1 := S22) d_94_138 ml_3_38 (Nat.le_of_ble_eq_true rfl) (Nat.le_of_ble_eq_true rfl) (c_96 (by omega) q26) ?_
      obtain ⟨g28, h⟩ := gd_inv h
      obtain ⟨S29, e30, h⟩ := lt_inv h
      refine y_iast e30 d_94_141 (ksFo_2 gg0) g28 ?_
      obtain rfl := Option.some.inj h
      exact x_ret (r := none) d_94_142 rfl
  have J43 : ∀ (S : St) (y2 : Int32) (res : St), j_94_43 F G o S y2 = some res → Ek X (D + 1) m94 43 [(0, .ref o), (2, .int y2)] [] S none res := by
    intro S y2 res h
    unfold j_94_43 at h
    refine x_iload_n d_94_43 rfl 1 rfl ?_
    refine x_bipush d_94_44 bp_14 ?_
    refine x_icmp_ne (tgt := 89) d_94_46 rfl (fun c11 => ?_) (fun c11 => ?_)
    · replace h := ite_f c11 h
      exact J89 S y2 _ h
    · replace h := ite_t c11 h
      refine x_aload_n d_94_49 rfl 0 rfl ?_
      refine y_getI d_94_50 fl_3_28 rfl (ksFo gg0) ?_
      refine x_if_le (tgt := 89) d_94_53 rfl (fun c12 => ?_) (fun c12 => ?_)
      · replace h := ite_t c12 h
        exact J89 S y2 _ h
      · replace h := ite_f c12 h
        refine x_aload_n d_94_56 rfl 0 rfl ?_
        refine y_getR d_94_57 fl_3_13 rfl (ksFo gg0) (rrFo_3 gg0) ?_
        refine x_aload_n d_94_60 rfl 0 rfl ?_
        refine y_getI d_94_61 fl_3_28 rfl (ksFo gg0) ?_
        refine x_iconst d_94_64 ic_1 ?_
        refine x_isub d_94_65 ?_
        refine x_aload_n d_94_66 rfl 0 rfl ?_
        refine y_getR d_94_67 fl_3_13 rfl (ksFo gg0) (rrFo_3 gg0) ?_
        refine x_aload_n d_94_70 rfl 0 rfl ?_
        refine y_getI d_94_71 fl_3_28 rfl (ksFo gg0) ?_
        refine x_iconst d_94_74 ic_1 ?_
        refine x_isub d_94_75 ?_
        obtain ⟨g13, h⟩ := gd_inv h
        refine y_iald d_94_76 (ksFo_2 gg0) g13 ?_
        refine x_if_ne (tgt := 84) d_94_77 rfl (fun c14 => ?_) (fun c14 => ?_)
        · replace h := ite_f c14 h
          refine x_iconst d_94_84 ic_0 ?_
          obtain ⟨g15, h⟩ := gd_inv h
          obtain ⟨S16, e17, h⟩ := lt_inv h
          refine y_iast e17 d_94_85 (ksFo_2 gg0) g15 ?_
          refine x_goto (tgt := 142) d_94_86 rfl ?_
          obtain rfl := Option.some.inj h
          exact x_ret (r := none) d_94_142 rfl
        · replace h := ite_t c14 h
          refine x_iconst d_94_80 ic_1 ?_
          refine x_goto (tgt := 85) d_94_81 rfl ?_
          obtain ⟨g18, h⟩ := gd_inv h
          obtain ⟨S19, e20, h⟩ := lt_inv h
          refine y_iast e20 d_94_85 (ksFo_2 gg0) g18 ?_
          refine x_goto (tgt := 142) d_94_86 rfl ?_
          obtain rfl := Option.some.inj h
          exact x_ret (r := none) d_94_142 rfl
  refine x_iload_n d_94_0 rfl 1 rfl ?_
  refine x_ineg d_94_1 ?_
  obtain ⟨v1, e2, h⟩ := lt_inv h
  refine y_istore_n (L1 := [(0, .ref o), (1, .int p1), (2, .int v1)]) e2 d_94_2 rfl (Nat.le_of_ble_eq_true rfl) rfl rfl ?_
  refine x_iload_n d_94_3 rfl 1 rfl ?_
  refine x_if_lt (tgt := 15) d_94_4 rfl (fun c3 => ?_) (fun c3 => ?_)
  · replace h := ite_t c3 h
    refine x_iload_n d_94_15 rfl 2 rfl ?_
    refine x_bipush d_94_16 bp_15 ?_
    refine x_icmp_lt (tgt := 43) d_94_18 rfl (fun c4 => ?_) (fun c4 => ?_)
    · replace h := ite_t c4 h
      refine y_pick (L1 := [(0, .ref o), (2, .int v1)]) [0, 2] rfl ?_
      exact J43 S v1 _ h
    · replace h := ite_f c4 h
      refine x_iload_n d_94_21 rfl 2 rfl ?_
      refine x_bipush d_94_22 bp_20 ?_
      refine x_icmp_gt (tgt := 43) d_94_24 rfl (fun c5 => ?_) (fun c5 => ?_)
      · replace h := ite_t c5 h
        refine y_pick (L1 := [(0, .ref o), (2, .int v1)]) [0, 2] rfl ?_
        exact J43 S v1 _ h
      · replace h := ite_f c5 h
        refine x_aload_n d_94_27 rfl 0 rfl ?_
        refine x_aload_n d_94_28 rfl 0 rfl ?_
        refine y_getR d_94_29 fl_3_18 rfl (ksFo gg0) (rrFo_4 gg0) ?_
        refine x_iload_n d_94_32 rfl 2 rfl ?_
        refine x_bipush d_94_33 bp_15 ?_
        refine x_isub d_94_35 ?_
        obtain ⟨g6, h⟩ := gd_inv h
        refine y_iald d_94_36 (ksFo_3 gg0) g6 ?_
        obtain ⟨S8, q7, h⟩ := bd_inv h
        refine y_V1v (S1 := S8) d_94_37 ml_3_35 (ksFo gg0) rfl (Nat.le_of_ble_eq_true rfl) (Nat.le_of_ble_eq_true rfl) (c_95 (by omega) q7) ?_
        refine x_goto (tgt := 142) d_94_40 rfl ?_
        obtain rfl := Option.some.inj h
        exact x_ret (r := none) d_94_142 rfl
  · replace h := ite_f c3 h
    refine x_aload_n d_94_7 rfl 0 rfl ?_
    refine x_iload_n d_94_8 rfl 1 rfl ?_
    obtain ⟨S10, q9, h⟩ := bd_inv h
    refine y_V1v (S1 := S10) d_94_9 ml_3_35 (ksFo gg0) rfl (Nat.le_of_ble_eq_true rfl) (Nat.le_of_ble_eq_true rfl) (c_95 (by omega) q9) ?_
    refine x_goto (tgt := 142) d_94_12 rfl ?_
    obtain rfl := Option.some.inj h
    exact x_ret (r := none) d_94_142 rfl
/-! NinetyPlayers$Formula.valueOf -/
def b_93_53 (F G : Nat) (z0 : Nat) (rec : Int32 → St → Option (Int32 × St)) (w7 : Int32) (S : St) : Option (Int32 × St) :=
  if (S.1 z0 1) ≤ w7 then if (S.1 z0 5) ≤ 0 then some ((0 : Int32), S) else gd (inB (0 : Int32) 31) (some (S.1 (z0 + 2) (0 : Int32).toNatClampNeg, S)) else gd (inB w7 270) (bd (fF_step F G S z0 (S.1 (z0 + 1) w7.toNatClampNeg)) fun S26 => lt (w7 + 1) fun v27 => rec v27 S26)
def fF_valueOf (F G : Nat) (S : St) (o : Nat) (p1 : Int32) (p2 : Int32) (p3 : Int32) (p4 : Int32) (p5 : Int32) (p6 : Int32) : Option (Int32 × St) :=
  gd (isFo o) (gd (inB (0 : Int32) 6) (lt (sI S (o + 3) (0 : Int32).toNatClampNeg p1) fun S2 => gd (inB (1 : Int32) 6) (lt (sI S2 (o + 3) (1 : Int32).toNatClampNeg p2) fun S5 => gd (inB (2 : Int32) 6) (lt (sI S5 (o + 3) (2 : Int32).toNatClampNeg p3) fun S8 => gd (inB (3 : Int32) 6) (lt (sI S8 (o + 3) (3 : Int32).toNatClampNeg p4) fun S11 => gd (inB (4 : Int32) 6) (lt (sI S11 (o + 3) (4 : Int32).toNatClampNeg p5) fun S14 => gd (inB (5 : Int32) 6) (lt (sI S14 (o + 3) (5 : Int32).toNatClampNeg p6) fun S17 => lt (sI S17 o 5 (0 : Int32)) fun S19 => fx2 (b_93_53 F G o) F (0 : Int32) S19)))))))
set_option maxRecDepth 100000 in
set_option maxHeartbeats 4000000 in
theorem T_93_53 {X : Nat × (Nat → Int32)} {D F G : Nat} (hD : 2 ≤ D + 1) {z0 : Nat} (hz0 : isFo z0 = true) : ∀ (f : Nat) (w7 : Int32) (S : St) (res : Int32 × St), fx2 (b_93_53 F G z0 ) f w7 S = some res → Ek X (D + 1) m93 53 [(0, .ref z0), (7, .int w7)] [] S (some (.int res.1)) res.2 := by
  refine fx2_ind ?_
  intro rec ih w7 S res h
  unfold b_93_53 at h
  refine x_iload d_93_53 1 rfl ?_
  refine x_aload_n d_93_55 rfl 0 rfl ?_
  refine y_getI d_93_56 fl_3_25 rfl (ksFo hz0) ?_
  refine x_icmp_ge (tgt := 79) d_93_59 rfl (fun c21 => ?_) (fun c21 => ?_)
  · replace h := ite_t c21 h
    refine x_aload_n d_93_79 rfl 0 rfl ?_
    refine y_getI d_93_80 fl_3_28 rfl (ksFo hz0) ?_
    refine x_if_le (tgt := 95) d_93_83 rfl (fun c22 => ?_) (fun c22 => ?_)
    · replace h := ite_t c22 h
      refine x_iconst d_93_95 ic_0 ?_
      obtain rfl := Option.some.inj h
      exact x_ret (r := some (.int (0 : Int32))) d_93_96 ⟨_, rfl, rfl⟩
    · replace h := ite_f c22 h
      refine x_aload_n d_93_86 rfl 0 rfl ?_
      refine y_getR d_93_87 fl_3_13 rfl (ksFo hz0) (rrFo_3 hz0) ?_
      refine x_iconst d_93_90 ic_0 ?_
      obtain ⟨g23, h⟩ := gd_inv h
      refine y_iald d_93_91 (ksFo_2 hz0) g23 ?_
      refine x_goto (tgt := 96) d_93_92 rfl ?_
      obtain rfl := Option.some.inj h
      exact x_ret (r := some (.int (S.1 (z0 + 2) (0 : Int32).toNatClampNeg))) d_93_96 ⟨_, rfl, rfl⟩
  · replace h := ite_f c21 h
    refine x_aload_n d_93_62 rfl 0 rfl ?_
    refine x_aload_n d_93_63 rfl 0 rfl ?_
    refine y_getR d_93_64 fl_3_9 rfl (ksFo hz0) (rrFo_2 hz0) ?_
    refine x_iload d_93_67 1 rfl ?_
    obtain ⟨g24, h⟩ := gd_inv h
    refine y_iald d_93_69 (ksFo_1 hz0) g24 ?_
    obtain ⟨S26, q25, h⟩ := bd_inv h
    refine y_V1v (S1 := S26) d_93_70 ml_3_31 (ksFo hz0) rfl (Nat.le_of_ble_eq_true rfl) (Nat.le_of_ble_eq_true rfl) (c_94 (by omega) q25) ?_
    obtain ⟨v27, e28, h⟩ := lt_inv h
    refine y_iinc (L1 := [(0, .ref z0), (7, .int v27)]) e28 ic_1 d_93_73 1 rfl (Nat.le_of_ble_eq_true rfl) rfl rfl ?_
    refine x_goto (tgt := 53) d_93_76 rfl ?_
    exact ih v27 S26 _ h
set_option maxRecDepth 100000 in
set_option maxHeartbeats 4000000 in
theorem c_93 {X : Nat × (Nat → Int32)} {D F G : Nat} (hD : 2 ≤ D) {S : St} {o : Nat} {p1 : Int32} {p2 : Int32} {p3 : Int32} {p4 : Int32} {p5 : Int32} {p6 : Int32} {res : Int32 × St} (h : fF_valueOf F G S o p1 p2 p3 p4 p5 p6 = some res) : Ek X (D) m93 0 [(0, .ref o), (1, .int p1), (2, .int p2), (3, .int p3), (4, .int p4), (5, .int p5), (6, .int p6)] [] S (some (.int res.1)) res.2 := by
  obtain ⟨D, rfl⟩ : ∃ E, D = E + 1 := ⟨D - 1, by omega⟩
  unfold fF_valueOf at h
  obtain ⟨gg0, h⟩ := gd_inv h
  refine x_aload_n d_93_0 rfl 0 rfl ?_
  refine y_getR d_93_1 fl_3_18 rfl (ksFo gg0) (rrFo_4 gg0) ?_
  refine x_iconst d_93_4 ic_0 ?_
  refine x_iload_n d_93_5 rfl 1 rfl ?_
  obtain ⟨g1, h⟩ := gd_inv h
  obtain ⟨S2, e3, h⟩ := lt_inv h
  refine y_iast e3 d_93_6 (ksFo_3 gg0) g1 ?_
  refine x_aload_n d_93_7 rfl 0 rfl ?_
  refine y_getR d_93_8 fl_3_18 rfl (ksFo gg0) (rrFo_4 gg0) ?_
  refine x_iconst d_93_11 ic_1 ?_
  refine x_iload_n d_93_12 rfl 2 rfl ?_
  obtain ⟨g4, h⟩ := gd_inv h
  obtain ⟨S5, e6, h⟩ := lt_inv h
  refine y_iast e6 d_93_13 (ksFo_3 gg0) g4 ?_
  refine x_aload_n d_93_14 rfl 0 rfl ?_
  refine y_getR d_93_15 fl_3_18 rfl (ksFo gg0) (rrFo_4 gg0) ?_
  refine x_iconst d_93_18 ic_2 ?_
  refine x_iload_n d_93_19 rfl 3 rfl ?_
  obtain ⟨g7, h⟩ := gd_inv h
  obtain ⟨S8, e9, h⟩ := lt_inv h
  refine y_iast e9 d_93_20 (ksFo_3 gg0) g7 ?_
  refine x_aload_n d_93_21 rfl 0 rfl ?_
  refine y_getR d_93_22 fl_3_18 rfl (ksFo gg0) (rrFo_4 gg0) ?_
  refine x_iconst d_93_25 ic_3 ?_
  refine x_iload d_93_26 4 rfl ?_
  obtain ⟨g10, h⟩ := gd_inv h
  obtain ⟨S11, e12, h⟩ := lt_inv h
  refine y_iast e12 d_93_28 (ksFo_3 gg0) g10 ?_
  refine x_aload_n d_93_29 rfl 0 rfl ?_
  refine y_getR d_93_30 fl_3_18 rfl (ksFo gg0) (rrFo_4 gg0) ?_
  refine x_iconst d_93_33 ic_4 ?_
  refine x_iload d_93_34 5 rfl ?_
  obtain ⟨g13, h⟩ := gd_inv h
  obtain ⟨S14, e15, h⟩ := lt_inv h
  refine y_iast e15 d_93_36 (ksFo_3 gg0) g13 ?_
  refine x_aload_n d_93_37 rfl 0 rfl ?_
  refine y_getR d_93_38 fl_3_18 rfl (ksFo gg0) (rrFo_4 gg0) ?_
  refine x_iconst d_93_41 ic_5 ?_
  refine x_iload d_93_42 6 rfl ?_
  obtain ⟨g16, h⟩ := gd_inv h
  obtain ⟨S17, e18, h⟩ := lt_inv h
  refine y_iast e18 d_93_44 (ksFo_3 gg0) g16 ?_
  refine x_aload_n d_93_45 rfl 0 rfl ?_
  refine x_iconst d_93_46 ic_0 ?_
  obtain ⟨S19, e20, h⟩ := lt_inv h
  refine y_putI e20 d_93_47 fl_3_28 rfl rfl (ksFo gg0) rfl rfl ?_
  refine x_iconst d_93_50 ic_0 ?_
  refine x_istore (L1 := [(0, .ref o), (1, .int p1), (2, .int p2), (3, .int p3), (4, .int p4), (5, .int p5), (6, .int p6), (7, .int (0 : Int32))]) d_93_51 (Nat.le_of_ble_eq_true rfl) rfl rfl ?_
  refine y_pick (L1 := [(0, .ref o), (7, .int (0 : Int32))]) [0, 7] rfl ?_
  refine T_93_53 (by omega) gg0  F (0 : Int32) S19 _ h
/-! NinetyPlayers.missedOf -/
def j_88_95 (F G : Nat) (S : St) (y5 : Int32) : Option (Int32 × St) :=
  some (if (0 : Int32) < (if y5 < (999 : Int32) then y5 else (999 : Int32)) then (if y5 < (999 : Int32) then y5 else (999 : Int32)) else (0 : Int32), S)
def fN_missedOf (F G : Nat) (S : St) (p1 : Int32) : Option (Int32 × St) :=
  gd (isSc S.2.2.1) (bd (fS_roleOf F G S S.2.2.1 p1) fun v3 => gd (inB p1 10) (lt (S.1 34 p1.toNatClampNeg) fun v5 => bd (fN_doublesOf F G S p1) fun v8 => bd (fJ_bitCount F G S v8) fun v10 => lt ((v5 + (v3 * (5 : Int32))) - v10) fun v11 => bd (fF_isTold F G S (S.2.2.1 + 9)) fun v14 => if v14 = 0 then j_88_95 F G  S v11 else gd (inB p1 10) (gd (inB p1 10) (gd (inB p1 10) (bd2 (fF_valueOf F G S (S.2.2.1 + 9) v3 (S.1 32 p1.toNatClampNeg) (S.1 33 p1.toNatClampNeg) v5 v10 (S.1 (S.2.2.1 + 5) p1.toNatClampNeg)) fun v20 S21 => j_88_95 F G  S21 v20)))))
set_option maxRecDepth 100000 in
set_option maxHeartbeats 4000000 in
theorem c_88 {X : Nat × (Nat → Int32)} {D F G : Nat} (hD : 3 ≤ D) {S : St} {p1 : Int32} {res : Int32 × St} (h : fN_missedOf F G S p1 = some res) : Ek X (D) m88 0 [(0, .ref 0), (1, .int p1)] [] S (some (.int res.1)) res.2 := by
  obtain ⟨D, rfl⟩ : ∃ E, D = E + 1 := ⟨D - 1, by omega⟩
  unfold fN_missedOf at h
  have J95 : ∀ (S : St) (y5 : Int32) (res : Int32 × St), j_88_95 F G S y5 = some res → Ek X (D + 1) m88 95 [(5, .int y5)] [] S (some (.int res.1)) res.2 := by
    intro S y5 res h
    unfold j_88_95 at h
    refine x_iconst d_88_95 ic_0 ?_
    refine x_sipush d_88_96 sp_999 ?_
    refine x_iload d_88_99 0 rfl ?_
    refine y_mmin d_88_101 ml_0_225 (Nat.le_of_ble_eq_true rfl) ?_
    refine y_mmax d_88_104 ml_0_230 (Nat.le_of_ble_eq_true rfl) ?_
    obtain rfl := Option.some.inj h
    exact x_ret (r := some (.int (if (0 : Int32) < (if y5 < (999 : Int32) then y5 else (999 : Int32)) then (if y5 < (999 : Int32) then y5 else (999 : Int32)) else (0 : Int32)))) d_88_107 ⟨_, rfl, rfl⟩
  refine x_aload_n d_88_0 rfl 0 rfl ?_
  refine y_getR d_88_1 fl_0_25 rfl kd_0 rr_told ?_
  obtain ⟨g1, h⟩ := gd_inv h
  refine x_iload_n d_88_4 rfl 1 rfl ?_
  obtain ⟨v3, q2, h⟩ := bd_inv h
  refine y_V1i (v := v3) (S1 := S) d_88_5 ml_0_203 (ksSc g1) rfl (Nat.le_of_ble_eq_true rfl) (Nat.le_of_ble_eq_true rfl) (c_89 (by omega) q2) ?_
  refine x_istore_n (L1 := [(0, .ref 0), (1, .int p1), (2, .int v3)]) d_88_8 rfl (Nat.le_of_ble_eq_true rfl) rfl rfl ?_
  refine x_aload_n d_88_9 rfl 0 rfl ?_
  refine y_getR d_88_10 fl_0_32 rfl kd_0 rr_0_4 ?_
  refine y_getR d_88_13 fl_0_141 rfl kd_30 rr_30_5 ?_
  refine x_iload_n d_88_16 rfl 1 rfl ?_
  obtain ⟨g4, h⟩ := gd_inv h
  refine y_iald d_88_17 kd_34 g4 ?_
  obtain ⟨v5, e6, h⟩ := lt_inv h
  refine y_istore_n (L1 := [(0, .ref 0), (1, .int p1), (2, .int v3), (3, .int v5)]) e6 d_88_18 rfl (Nat.le_of_ble_eq_true rfl) rfl rfl ?_
  refine x_aload_n d_88_19 rfl 0 rfl ?_
  refine x_iload_n d_88_20 rfl 1 rfl ?_
  obtain ⟨v8, q7, h⟩ := bd_inv h
  refine y_V1i (v := v8) (S1 := S) d_88_21 ml_0_151 kd_0 rfl (Nat.le_of_ble_eq_true rfl) (Nat.le_of_ble_eq_true rfl) (c_90 (by omega) q7) ?_
  obtain ⟨v10, q9, h⟩ := bd_inv h
  refine y_S1i (v := v10) (S1 := S) d_88_24 ml_0_206 (Nat.le_of_ble_eq_true rfl) (Nat.le_of_ble_eq_true rfl) (c_91 (by omega) q9) ?_
  refine x_istore (L1 := [(0, .ref 0), (1, .int p1), (2, .int v3), (3, .int v5), (4, .int v10)]) d_88_27 (Nat.le_of_ble_eq_true rfl) rfl rfl ?_
  refine x_iload_n d_88_29 rfl 3 rfl ?_
  refine x_iload_n d_88_30 rfl 2 rfl ?_
  refine x_iconst d_88_31 ic_5 ?_
  refine x_imul d_88_32 ?_
  refine x_iadd d_88_33 ?_
  refine x_iload d_88_34 4 rfl ?_
  refine x_isub d_88_36 ?_
  obtain ⟨v11, e12, h⟩ := lt_inv h
  refine y_istore (L1 := [(0, .ref 0), (1, .int p1), (2, .int v3), (3, .int v5), (4, .int v10), (5, .int v11)]) e12 d_88_37 (Nat.le_of_ble_eq_true rfl) rfl rfl ?_
  refine x_aload_n d_88_39 rfl 0 rfl ?_
  refine y_getR d_88_40 fl_0_25 rfl kd_0 rr_told ?_
  refine y_getR d_88_43 fl_0_211 rfl (ksSc g1) (rrSc_15 g1) ?_
  obtain ⟨v14, q13, h⟩ := bd_inv h
  refine y_V0i (v := v14) (S1 := S) d_88_46 ml_0_215 (ksFo (isFo_of g1)) rfl (Nat.le_of_ble_eq_true rfl) (Nat.le_of_ble_eq_true rfl) (c_92 (by omega) q13) ?_
  refine x_if_eq (tgt := 95) d_88_49 rfl (fun c15 => ?_) (fun c15 => ?_)
  · replace h := ite_t c15 h
    refine y_pick (L1 := [(5, .int v11)]) [5] rfl ?_
    exact J95 S v11 _ h
  · replace h := ite_f c15 h
    refine x_aload_n d_88_52 rfl 0 rfl ?_
    refine y_getR d_88_53 fl_0_25 rfl kd_0 rr_told ?_
    refine y_getR d_88_56 fl_0_211 rfl (ksSc g1) (rrSc_15 g1) ?_
    refine x_iload_n d_88_59 rfl 2 rfl ?_
    refine x_aload_n d_88_60 rfl 0 rfl ?_
    refine y_getR d_88_61 fl_0_32 rfl kd_0 rr_0_4 ?_
    refine y_getR d_88_64 fl_0_135 rfl kd_30 rr_30_3 ?_
    refine x_iload_n d_88_67 rfl 1 rfl ?_
    obtain ⟨g16, h⟩ := gd_inv h
    refine y_iald d_88_68 kd_32 g16 ?_
    refine x_aload_n d_88_69 rfl 0 rfl ?_
    refine y_getR d_88_70 fl_0_32 rfl kd_0 rr_0_4 ?_
    refine y_getR d_88_73 fl_0_138 rfl kd_30 rr_30_4 ?_
    refine x_iload_n d_88_76 rfl 1 rfl ?_
    obtain ⟨g17, h⟩ := gd_inv h
    refine y_iald d_88_77 kd_33 g17 ?_
    refine x_iload_n d_88_78 rfl 3 rfl ?_
    refine x_iload d_88_79 4 rfl ?_
    refine x_aload_n d_88_81 rfl 0 rfl ?_
    refine y_getR d_88_82 fl_0_25 rfl kd_0 rr_told ?_
    refine y_getR d_88_85 fl_0_132 rfl (ksSc g1) (rrSc_11 g1) ?_
    refine x_iload_n d_88_88 rfl 1 rfl ?_
    obtain ⟨g18, h⟩ := gd_inv h
    refine y_iald d_88_89 (ksSc_5 g1) g18 ?_
    obtain ⟨v20, S21, q19, h⟩ := bd2_inv h
    refine y_V6i (v := v20) (S1 := S21) d_88_90 ml_0_221 (ksFo (isFo_of g1)) rfl (Nat.le_of_ble_eq_true rfl) (Nat.le_of_ble_eq_true rfl) (c_93 (by omega) q19) ?_
    refine x_istore (L1 := [(0, .ref 0), (1, .int p1), (2, .int v3), (3, .int v5), (4, .int v10), (5, .int v20)]) d_88_93 (Nat.le_of_ble_eq_true rfl) rfl rfl ?_
    refine y_pick (L1 := [(5, .int v20)]) [5] rfl ?_
    exact J95 S21 v20 _ h
/-! NinetyPlayers.note -/
def fN_note (F G : Nat) (S : St) (p1 : Int32) (p2 : Int32) : Option (Int32 × St) :=
  bd (fN_isNote F G S p1) fun v2 => if v2 = 0 then some ((-1 : Int32), S) else if p2 = 0 then gd (isSc S.2.2.1) (gd (inB p1 10) (some (S.1 (S.2.2.1 + 4) p1.toNatClampNeg, S))) else if p2 = 1 then gd (isSc S.2.2.1) (gd (inB p1 10) (some (S.1 (S.2.2.1 + 5) p1.toNatClampNeg, S))) else if p2 = 2 then gd (inB p1 10) (some (S.1 32 p1.toNatClampNeg, S)) else if p2 = 3 then gd (inB p1 10) (some (S.1 33 p1.toNatClampNeg, S)) else if p2 = 4 then gd (inB p1 10) (some (S.1 34 p1.toNatClampNeg, S)) else if p2 = 5 then gd (inB p1 10) (some (S.1 31 p1.toNatClampNeg, S)) else if p2 = 6 then bd2 (fN_missedOf F G S p1) fun v20 S21 => some (v20, S21) else if p2 = 7 then bd (fN_doublesOf F G S p1) fun v24 => some (v24, S) else some ((-1 : Int32), S)
set_option maxRecDepth 100000 in
set_option maxHeartbeats 4000000 in
theorem c_86 {X : Nat × (Nat → Int32)} {D F G : Nat} (hD : 4 ≤ D) {S : St} {p1 : Int32} {p2 : Int32} {res : Int32 × St} (h : fN_note F G S p1 p2 = some res) : Ek X (D) m86 0 [(0, .ref 0), (1, .int p1), (2, .int p2)] [] S (some (.int res.1)) res.2 := by
  obtain ⟨D, rfl⟩ : ∃ E, D = E + 1 := ⟨D - 1, by omega⟩
  unfold fN_note at h
  refine x_aload_n d_86_0 rfl 0 rfl ?_
  refine x_iload_n d_86_1 rfl 1 rfl ?_
  obtain ⟨v2, q1, h⟩ := bd_inv h
  refine y_V1i (v := v2) (S1 := S) d_86_2 ml_0_126 kd_0 rfl (Nat.le_of_ble_eq_true rfl) (Nat.le_of_ble_eq_true rfl) (c_87 (by omega) q1) ?_
  refine x_if_ne (tgt := 10) d_86_5 rfl (fun c3 => ?_) (fun c3 => ?_)
  · replace h := ite_f c3 h
    refine x_iload_n d_86_10 rfl 2 rfl ?_
    by_cases c4 : p2 = 0
    · replace h := ite_t c4 h
      refine x_tabC (tgt := 56) 0 d_86_11 (by rw [c4]; rfl) (by decide) rfl rfl ?_
      refine x_aload_n d_86_56 rfl 0 rfl ?_
      refine y_getR d_86_57 fl_0_25 rfl kd_0 rr_told ?_
      obtain ⟨g5, h⟩ := gd_inv h
      refine y_getR d_86_60 fl_0_129 rfl (ksSc g5) (rrSc_10 g5) ?_
      refine x_iload_n d_86_63 rfl 1 rfl ?_
      obtain ⟨g6, h⟩ := gd_inv h
      refine y_iald d_86_64 (ksSc_4 g5) g6 ?_
      obtain rfl := Option.some.inj h
      exact x_ret (r := some (.int (S.1 (S.2.2.1 + 4) p1.toNatClampNeg))) d_86_65 ⟨_, rfl, rfl⟩
    replace h := ite_f c4 h
    by_cases c7 : p2 = 1
    · replace h := ite_t c7 h
      refine x_tabC (tgt := 66) 1 d_86_11 (by rw [c7]; rfl) (by decide) rfl rfl ?_
      refine x_aload_n d_86_66 rfl 0 rfl ?_
      refine y_getR d_86_67 fl_0_25 rfl kd_0 rr_told ?_
      obtain ⟨g8, h⟩ := gd_inv h
      refine y_getR d_86_70 fl_0_132 rfl (ksSc g8) (rrSc_11 g8) ?_
      refine x_iload_n d_86_73 rfl 1 rfl ?_
      obtain ⟨g9, h⟩ := gd_inv h
      refine y_iald d_86_74 (ksSc_5 g8) g9 ?_
      obtain rfl := Option.some.inj h
      exact x_ret (r := some (.int (S.1 (S.2.2.1 + 5) p1.toNatClampNeg))) d_86_75 ⟨_, rfl, rfl⟩
    replace h := ite_f c7 h
    by_cases c10 : p2 = 2
    · replace h := ite_t c10 h
      refine x_tabC (tgt := 76) 2 d_86_11 (by rw [c10]; rfl) (by decide) rfl rfl ?_
      refine x_aload_n d_86_76 rfl 0 rfl ?_
      refine y_getR d_86_77 fl_0_32 rfl kd_0 rr_0_4 ?_
      refine y_getR d_86_80 fl_0_135 rfl kd_30 rr_30_3 ?_
      refine x_iload_n d_86_83 rfl 1 rfl ?_
      obtain ⟨g11, h⟩ := gd_inv h
      refine y_iald d_86_84 kd_32 g11 ?_
      obtain rfl := Option.some.inj h
      exact x_ret (r := some (.int (S.1 32 p1.toNatClampNeg))) d_86_85 ⟨_, rfl, rfl⟩
    replace h := ite_f c10 h
    by_cases c12 : p2 = 3
    · replace h := ite_t c12 h
      refine x_tabC (tgt := 86) 3 d_86_11 (by rw [c12]; rfl) (by decide) rfl rfl ?_
      refine x_aload_n d_86_86 rfl 0 rfl ?_
      refine y_getR d_86_87 fl_0_32 rfl kd_0 rr_0_4 ?_
      refine y_getR d_86_90 fl_0_138 rfl kd_30 rr_30_4 ?_
      refine x_iload_n d_86_93 rfl 1 rfl ?_
      obtain ⟨g13, h⟩ := gd_inv h
      refine y_iald d_86_94 kd_33 g13 ?_
      obtain rfl := Option.some.inj h
      exact x_ret (r := some (.int (S.1 33 p1.toNatClampNeg))) d_86_95 ⟨_, rfl, rfl⟩
    replace h := ite_f c12 h
    by_cases c14 : p2 = 4
    · replace h := ite_t c14 h
      refine x_tabC (tgt := 96) 4 d_86_11 (by rw [c14]; rfl) (by decide) rfl rfl ?_
      refine x_aload_n d_86_96 rfl 0 rfl ?_
      refine y_getR d_86_97 fl_0_32 rfl kd_0 rr_0_4 ?_
      refine y_getR d_86_100 fl_0_141 rfl kd_30 rr_30_5 ?_
      refine x_iload_n d_86_103 rfl 1 rfl ?_
      obtain ⟨g15, h⟩ := gd_inv h
      refine y_iald d_86_104 kd_34 g15 ?_
      obtain rfl := Option.some.inj h
      exact x_ret (r := some (.int (S.1 34 p1.toNatClampNeg))) d_86_105 ⟨_, rfl, rfl⟩
    replace h := ite_f c14 h
    by_cases c16 : p2 = 5
    · replace h := ite_t c16 h
      refine x_tabC (tgt := 106) 5 d_86_11 (by rw [c16]; rfl) (by decide) rfl rfl ?_
      refine x_aload_n d_86_106 rfl 0 rfl ?_
      refine y_getR d_86_107 fl_0_32 rfl kd_0 rr_0_4 ?_
      refine y_getR d_86_110 fl_0_144 rfl kd_30 rr_30_2 ?_
      refine x_iload_n d_86_113 rfl 1 rfl ?_
      obtain ⟨g17, h⟩ := gd_inv h
      refine y_iald d_86_114 kd_31 g17 ?_
      obtain rfl := Option.some.inj h
      exact x_ret (r := some (.int (S.1 31 p1.toNatClampNeg))) d_86_115 ⟨_, rfl, rfl⟩
    replace h := ite_f c16 h
    by_cases c18 : p2 = 6
    · replace h := ite_t c18 h
      refine x_tabC (tgt := 116) 6 d_86_11 (by rw [c18]; rfl) (by decide) rfl rfl ?_
      refine x_aload_n d_86_116 rfl 0 rfl ?_
      refine x_iload_n d_86_117 rfl 1 rfl ?_
      obtain ⟨v20, S21, q19, h⟩ := bd2_inv h
      refine y_V1i (v := v20) (S1 := S21) d_86_118 ml_0_147 kd_0 rfl (Nat.le_of_ble_eq_true rfl) (Nat.le_of_ble_eq_true rfl) (c_88 (by omega) q19) ?_
      obtain rfl := Option.some.inj h
      exact x_ret (r := some (.int v20)) d_86_121 ⟨_, rfl, rfl⟩
    replace h := ite_f c18 h
    by_cases c22 : p2 = 7
    · replace h := ite_t c22 h
      refine x_tabC (tgt := 122) 7 d_86_11 (by rw [c22]; rfl) (by decide) rfl rfl ?_
      refine x_aload_n d_86_122 rfl 0 rfl ?_
      refine x_iload_n d_86_123 rfl 1 rfl ?_
      obtain ⟨v24, q23, h⟩ := bd_inv h
      refine y_V1i (v := v24) (S1 := S) d_86_124 ml_0_151 kd_0 rfl (Nat.le_of_ble_eq_true rfl) (Nat.le_of_ble_eq_true rfl) (c_90 (by omega) q23) ?_
      obtain rfl := Option.some.inj h
      exact x_ret (r := some (.int v24)) d_86_127 ⟨_, rfl, rfl⟩
    replace h := ite_f c22 h
    refine x_tabD (tgt := 128) d_86_11 (by have := lv_neT c4 (show (0 : Int32).toInt = 0 from rfl); have := lv_neT c7 (show (1 : Int32).toInt = 1 from rfl); have := lv_neT c10 (show (2 : Int32).toInt = 2 from rfl); have := lv_neT c12 (show (3 : Int32).toInt = 3 from rfl); have := lv_neT c14 (show (4 : Int32).toInt = 4 from rfl); have := lv_neT c16 (show (5 : Int32).toInt = 5 from rfl); have := lv_neT c18 (show (6 : Int32).toInt = 6 from rfl); have := lv_neT c22 (show (7 : Int32).toInt = 7 from rfl); omega) rfl ?_
    refine x_iconst d_86_128 ic_m1 ?_
    obtain rfl := Option.some.inj h
    exact x_ret (r := some (.int (-1 : Int32))) d_86_129 ⟨_, rfl, rfl⟩
  · replace h := ite_t c3 h
    refine x_iconst d_86_8 ic_m1 ?_
    obtain rfl := Option.some.inj h
    exact x_ret (r := some (.int (-1 : Int32))) d_86_9 ⟨_, rfl, rfl⟩
/-! NinetyPlayers$Score.notesOf -/
def b_98_4 (F G : Nat) (S : St) (z0 : Nat) (z1 : Int32) (rec : Int32 → Int32 → Option (Int32)) (w2 : Int32) (w3 : Int32) : Option (Int32) :=
  if (S.1 z0 6) ≤ w3 then some w2 else gd (inB w3 10) (if (S.1 (z0 + 4) w3.toNatClampNeg) = z1 then lt (w2 ||| ((1 : Int32) <<< (w3 &&& 31))) fun v6 => lt (w3 + 1) fun v8 => rec v6 v8 else lt (w3 + 1) fun v4 => rec w2 v4)
def fS_notesOf (F G : Nat) (S : St) (o : Nat) (p1 : Int32) : Option (Int32) :=
  gd (isSc o) (fx2 (b_98_4 F G S o p1) F (0 : Int32) (0 : Int32))
set_option maxRecDepth 100000 in
set_option maxHeartbeats 4000000 in
theorem T_98_4 {X : Nat × (Nat → Int32)} {D F G : Nat} (hD : 0 ≤ D) {S : St} {z0 : Nat} {z1 : Int32} (hz0 : isSc z0 = true) : ∀ (f : Nat) (w2 : Int32) (w3 : Int32) (res : Int32), fx2 (b_98_4 F G S z0 z1 ) f w2 w3 = some res → Ek X (D) m98 4 [(0, .ref z0), (1, .int z1), (2, .int w2), (3, .int w3)] [] S (some (.int res)) S := by
  refine fx2_ind ?_
  intro rec ih w2 w3 res h
  unfold b_98_4 at h
  refine x_iload_n d_98_4 rfl 3 rfl ?_
  refine x_aload_n d_98_5 rfl 0 rfl ?_
  refine y_getI d_98_6 fl_2_66 rfl (ksSc hz0) ?_
  refine x_icmp_ge (tgt := 34) d_98_9 rfl (fun c1 => ?_) (fun c1 => ?_)
  · replace h := ite_t c1 h
    refine x_iload_n d_98_34 rfl 2 rfl ?_
    obtain rfl := Option.some.inj h
    exact x_ret (r := some (.int w2)) d_98_35 ⟨_, rfl, rfl⟩
  · replace h := ite_f c1 h
    refine x_aload_n d_98_12 rfl 0 rfl ?_
    refine y_getR d_98_13 fl_2_22 rfl (ksSc hz0) (rrSc_10 hz0) ?_
    refine x_iload_n d_98_16 rfl 3 rfl ?_
    obtain ⟨g2, h⟩ := gd_inv h
    refine y_iald d_98_17 (ksSc_4 hz0) g2 ?_
    refine x_iload_n d_98_18 rfl 1 rfl ?_
    refine x_icmp_ne (tgt := 28) d_98_19 rfl (fun c3 => ?_) (fun c3 => ?_)
    · replace h := ite_f c3 h
      obtain ⟨v4, e5, h⟩ := lt_inv h
      refine y_iinc (L1 := [(0, .ref z0), (1, .int z1), (2, .int w2), (3, .int v4)]) e5 ic_1 d_98_28 3 rfl (Nat.le_of_ble_eq_true rfl) rfl rfl ?_
      refine x_goto (tgt := 4) d_98_31 rfl ?_
      exact ih w2 v4 _ h
    · replace h := ite_t c3 h
      refine x_iload_n d_98_22 rfl 2 rfl ?_
      refine x_iconst d_98_23 ic_1 ?_
      refine x_iload_n d_98_24 rfl 3 rfl ?_
      refine x_ishl d_98_25 ?_
      refine x_ior d_98_26 ?_
      obtain ⟨v6, e7, h⟩ := lt_inv h
      refine y_istore_n (L1 := [(0, .ref z0), (1, .int z1), (2, .int v6), (3, .int w3)]) e7 d_98_27 rfl (Nat.le_of_ble_eq_true rfl) rfl rfl ?_
      obtain ⟨v8, e9, h⟩ := lt_inv h
      refine y_iinc (L1 := [(0, .ref z0), (1, .int z1), (2, .int v6), (3, .int v8)]) e9 ic_1 d_98_28 3 rfl (Nat.le_of_ble_eq_true rfl) rfl rfl ?_
      refine x_goto (tgt := 4) d_98_31 rfl ?_
      exact ih v6 v8 _ h
set_option maxRecDepth 100000 in
set_option maxHeartbeats 4000000 in
theorem c_98 {X : Nat × (Nat → Int32)} {D F G : Nat} (hD : 0 ≤ D) {S : St} {o : Nat} {p1 : Int32} {res : Int32} (h : fS_notesOf F G S o p1 = some res) : Ek X (D) m98 0 [(0, .ref o), (1, .int p1)] [] S (some (.int res)) S := by
  unfold fS_notesOf at h
  obtain ⟨gg0, h⟩ := gd_inv h
  refine x_iconst d_98_0 ic_0 ?_
  refine x_istore_n (L1 := [(0, .ref o), (1, .int p1), (2, .int (0 : Int32))]) d_98_1 rfl (Nat.le_of_ble_eq_true rfl) rfl rfl ?_
  refine x_iconst d_98_2 ic_0 ?_
  refine x_istore_n (L1 := [(0, .ref o), (1, .int p1), (2, .int (0 : Int32)), (3, .int (0 : Int32))]) d_98_3 rfl (Nat.le_of_ble_eq_true rfl) rfl rfl ?_
  refine T_98_4 (by omega) gg0  F (0 : Int32) (0 : Int32) _ h
/-! NinetyPlayers$Laying.setOf -/
def b_100_4 (F G : Nat) (S : St) (z0 : Nat) (z1 : Int32) (rec : Int32 → Int32 → Option (Int32)) (w2 : Int32) (w3 : Int32) : Option (Int32) :=
  if (10 : Int32) ≤ w3 then some w2 else gd (inB w3 10) (if (S.1 (z0 + 1) w3.toNatClampNeg) = z1 then lt (w2 ||| ((1 : Int32) <<< (w3 &&& 31))) fun v6 => lt (w3 + 1) fun v8 => rec v6 v8 else lt (w3 + 1) fun v4 => rec w2 v4)
def fL_setOf (F G : Nat) (S : St) (o : Nat) (p1 : Int32) : Option (Int32) :=
  gd (isLa o) (fx2 (b_100_4 F G S o p1) F (0 : Int32) (0 : Int32))
set_option maxRecDepth 100000 in
set_option maxHeartbeats 4000000 in
theorem T_100_4 {X : Nat × (Nat → Int32)} {D F G : Nat} (hD : 0 ≤ D) {S : St} {z0 : Nat} {z1 : Int32} (hz0 : isLa z0 = true) : ∀ (f : Nat) (w2 : Int32) (w3 : Int32) (res : Int32), fx2 (b_100_4 F G S z0 z1 ) f w2 w3 = some res → Ek X (D) m100 4 [(0, .ref z0), (1, .int z1), (2, .int w2), (3, .int w3)] [] S (some (.int res)) S := by
  refine fx2_ind ?_
  intro rec ih w2 w3 res h
  unfold b_100_4 at h
  refine x_iload_n d_100_4 rfl 3 rfl ?_
  refine x_bipush d_100_5 bp_10 ?_
  refine x_icmp_ge (tgt := 32) d_100_7 rfl (fun c1 => ?_) (fun c1 => ?_)
  · replace h := ite_t c1 h
    refine x_iload_n d_100_32 rfl 2 rfl ?_
    obtain rfl := Option.some.inj h
    exact x_ret (r := some (.int w2)) d_100_33 ⟨_, rfl, rfl⟩
  · replace h := ite_f c1 h
    refine x_aload_n d_100_10 rfl 0 rfl ?_
    refine y_getR d_100_11 fl_5_9 rfl (ksLa hz0) (rrLa_2 hz0) ?_
    refine x_iload_n d_100_14 rfl 3 rfl ?_
    obtain ⟨g2, h⟩ := gd_inv h
    refine y_iald d_100_15 (ksLa_1 hz0) g2 ?_
    refine x_iload_n d_100_16 rfl 1 rfl ?_
    refine x_icmp_ne (tgt := 26) d_100_17 rfl (fun c3 => ?_) (fun c3 => ?_)
    · replace h := ite_f c3 h
      obtain ⟨v4, e5, h⟩ := lt_inv h
      refine y_iinc (L1 := [(0, .ref z0), (1, .int z1), (2, .int w2), (3, .int v4)]) e5 ic_1 d_100_26 3 rfl (Nat.le_of_ble_eq_true rfl) rfl rfl ?_
      refine x_goto (tgt := 4) d_100_29 rfl ?_
      exact ih w2 v4 _ h
    · replace h := ite_t c3 h
      refine x_iload_n d_100_20 rfl 2 rfl ?_
      refine x_iconst d_100_21 ic_1 ?_
      refine x_iload_n d_100_22 rfl 3 rfl ?_
      refine x_ishl d_100_23 ?_
      refine x_ior d_100_24 ?_
      obtain ⟨v6, e7, h⟩ := lt_inv h
      refine y_istore_n (L1 := [(0, .ref z0), (1, .int z1), (2, .int v6), (3, .int w3)]) e7 d_100_25 rfl (Nat.le_of_ble_eq_true rfl) rfl rfl ?_
      obtain ⟨v8, e9, h⟩ := lt_inv h
      refine y_iinc (L1 := [(0, .ref z0), (1, .int z1), (2, .int v6), (3, .int v8)]) e9 ic_1 d_100_26 3 rfl (Nat.le_of_ble_eq_true rfl) rfl rfl ?_
      refine x_goto (tgt := 4) d_100_29 rfl ?_
      exact ih v6 v8 _ h
set_option maxRecDepth 100000 in
set_option maxHeartbeats 4000000 in
theorem c_100 {X : Nat × (Nat → Int32)} {D F G : Nat} (hD : 0 ≤ D) {S : St} {o : Nat} {p1 : Int32} {res : Int32} (h : fL_setOf F G S o p1 = some res) : Ek X (D) m100 0 [(0, .ref o), (1, .int p1)] [] S (some (.int res)) S := by
  unfold fL_setOf at h
  obtain ⟨gg0, h⟩ := gd_inv h
  refine x_iconst d_100_0 ic_0 ?_
  refine x_istore_n (L1 := [(0, .ref o), (1, .int p1), (2, .int (0 : Int32))]) d_100_1 rfl (Nat.le_of_ble_eq_true rfl) rfl rfl ?_
  refine x_iconst d_100_2 ic_0 ?_
  refine x_istore_n (L1 := [(0, .ref o), (1, .int p1), (2, .int (0 : Int32)), (3, .int (0 : Int32))]) d_100_3 rfl (Nat.le_of_ble_eq_true rfl) rfl rfl ?_
  refine T_100_4 (by omega) gg0  F (0 : Int32) (0 : Int32) _ h
/-! NinetyPlayers.givenSet -/
def fN_givenSet (F G : Nat) (S : St) : Option (Int32) :=
  bd (fL_setOf F G S 30 (1 : Int32)) fun v2 => bd (fL_setOf F G S 30 (2 : Int32)) fun v4 => some (v2 ||| v4)
set_option maxRecDepth 100000 in
set_option maxHeartbeats 4000000 in
theorem c_99 {X : Nat × (Nat → Int32)} {D F G : Nat} (hD : 1 ≤ D) {S : St} {res : Int32} (h : fN_givenSet F G S  = some res) : Ek X (D) m99 0 [(0, .ref 0)] [] S (some (.int res)) S := by
  obtain ⟨D, rfl⟩ : ∃ E, D = E + 1 := ⟨D - 1, by omega⟩
  unfold fN_givenSet at h
  refine x_aload_n d_99_0 rfl 0 rfl ?_
  refine y_getR d_99_1 fl_0_32 rfl kd_0 rr_0_4 ?_
  refine x_iconst d_99_4 ic_1 ?_
  obtain ⟨v2, q1, h⟩ := bd_inv h
  refine y_V1i (v := v2) (S1 := S) d_99_5 ml_0_200 kd_30 rfl (Nat.le_of_ble_eq_true rfl) (Nat.le_of_ble_eq_true rfl) (c_100 (by omega) q1) ?_
  refine x_aload_n d_99_8 rfl 0 rfl ?_
  refine y_getR d_99_9 fl_0_32 rfl kd_0 rr_0_4 ?_
  refine x_iconst d_99_12 ic_2 ?_
  obtain ⟨v4, q3, h⟩ := bd_inv h
  refine y_V1i (v := v4) (S1 := S) d_99_13 ml_0_200 kd_30 rfl (Nat.le_of_ble_eq_true rfl) (Nat.le_of_ble_eq_true rfl) (c_100 (by omega) q3) ?_
  refine x_ior d_99_16 ?_
  obtain rfl := Option.some.inj h
  exact x_ret (r := some (.int (v2 ||| v4))) d_99_17 ⟨_, rfl, rfl⟩
/-! NinetyPlayers.part -/
def fN_part (F G : Nat) (S : St) (p1 : Int32) (p2 : Int32) : Option (Int32) :=
  if p1 < 0 then some (-1 : Int32) else gd (isSc S.2.2.1) (if p1 < (S.1 S.2.2.1 5) then if p2 = 0 then gd (inB p1 4) (some (S.1 (S.2.2.1 + 2) p1.toNatClampNeg)) else if p2 = 1 then bd (fS_notesOf F G S S.2.2.1 p1) fun v8 => some v8 else if p2 = 2 then bd (fS_notesOf F G S S.2.2.1 p1) fun v11 => bd (fN_givenSet F G S) fun v13 => some (v11 &&& v13) else some (-1 : Int32) else some (-1 : Int32))
set_option maxRecDepth 100000 in
set_option maxHeartbeats 4000000 in
theorem c_97 {X : Nat × (Nat → Int32)} {D F G : Nat} (hD : 2 ≤ D) {S : St} {p1 : Int32} {p2 : Int32} {res : Int32} (h : fN_part F G S p1 p2 = some res) : Ek X (D) m97 0 [(0, .ref 0), (1, .int p1), (2, .int p2)] [] S (some (.int res)) S := by
  obtain ⟨D, rfl⟩ : ∃ E, D = E + 1 := ⟨D - 1, by omega⟩
  unfold fN_part at h
  refine x_iload_n d_97_0 rfl 1 rfl ?_
  refine x_if_lt (tgt := 15) d_97_1 rfl (fun c1 => ?_) (fun c1 => ?_)
  · replace h := ite_t c1 h
    refine x_iconst d_97_15 ic_m1 ?_
    obtain rfl := Option.some.inj h
    exact x_ret (r := some (.int (-1 : Int32))) d_97_16 ⟨_, rfl, rfl⟩
  · replace h := ite_f c1 h
    refine x_iload_n d_97_4 rfl 1 rfl ?_
    refine x_aload_n d_97_5 rfl 0 rfl ?_
    refine y_getR d_97_6 fl_0_25 rfl kd_0 rr_told ?_
    obtain ⟨g2, h⟩ := gd_inv h
    refine y_getI d_97_9 fl_0_154 rfl (ksSc g2) ?_
    refine x_icmp_lt (tgt := 17) d_97_12 rfl (fun c3 => ?_) (fun c3 => ?_)
    · replace h := ite_t c3 h
      refine x_iload_n d_97_17 rfl 2 rfl ?_
      by_cases c4 : p2 = 0
      · replace h := ite_t c4 h
        refine x_tabC (tgt := 44) 0 d_97_18 (by rw [c4]; rfl) (by decide) rfl rfl ?_
        refine x_aload_n d_97_44 rfl 0 rfl ?_
        refine y_getR d_97_45 fl_0_25 rfl kd_0 rr_told ?_
        refine y_getR d_97_48 fl_0_157 rfl (ksSc g2) (rrSc_8 g2) ?_
        refine x_iload_n d_97_51 rfl 1 rfl ?_
        obtain ⟨g5, h⟩ := gd_inv h
        refine y_iald d_97_52 (ksSc_2 g2) g5 ?_
        obtain rfl := Option.some.inj h
        exact x_ret (r := some (.int (S.1 (S.2.2.1 + 2) p1.toNatClampNeg))) d_97_53 ⟨_, rfl, rfl⟩
      replace h := ite_f c4 h
      by_cases c6 : p2 = 1
      · replace h := ite_t c6 h
        refine x_tabC (tgt := 54) 1 d_97_18 (by rw [c6]; rfl) (by decide) rfl rfl ?_
        refine x_aload_n d_97_54 rfl 0 rfl ?_
        refine y_getR d_97_55 fl_0_25 rfl kd_0 rr_told ?_
        refine x_iload_n d_97_58 rfl 1 rfl ?_
        obtain ⟨v8, q7, h⟩ := bd_inv h
        refine y_V1i (v := v8) (S1 := S) d_97_59 ml_0_160 (ksSc g2) rfl (Nat.le_of_ble_eq_true rfl) (Nat.le_of_ble_eq_true rfl) (c_98 (by omega) q7) ?_
        obtain rfl := Option.some.inj h
        exact x_ret (r := some (.int v8)) d_97_62 ⟨_, rfl, rfl⟩
      replace h := ite_f c6 h
      by_cases c9 : p2 = 2
      · replace h := ite_t c9 h
        refine x_tabC (tgt := 63) 2 d_97_18 (by rw [c9]; rfl) (by decide) rfl rfl ?_
        refine x_aload_n d_97_63 rfl 0 rfl ?_
        refine y_getR d_97_64 fl_0_25 rfl kd_0 rr_told ?_
        refine x_iload_n d_97_67 rfl 1 rfl ?_
        obtain ⟨v11, q10, h⟩ := bd_inv h
        refine y_V1i (v := v11) (S1 := S) d_97_68 ml_0_160 (ksSc g2) rfl (Nat.le_of_ble_eq_true rfl) (Nat.le_of_ble_eq_true rfl) (c_98 (by omega) q10) ?_
        refine x_aload_n d_97_71 rfl 0 rfl ?_
        obtain ⟨v13, q12, h⟩ := bd_inv h
        refine y_V0i (v := v13) (S1 := S) d_97_72 ml_0_163 kd_0 rfl (Nat.le_of_ble_eq_true rfl) (Nat.le_of_ble_eq_true rfl) (c_99 (by omega) q12) ?_
        refine x_iand d_97_75 ?_
        obtain rfl := Option.some.inj h
        exact x_ret (r := some (.int (v11 &&& v13))) d_97_76 ⟨_, rfl, rfl⟩
      replace h := ite_f c9 h
      refine x_tabD (tgt := 77) d_97_18 (by have := lv_neT c4 (show (0 : Int32).toInt = 0 from rfl); have := lv_neT c6 (show (1 : Int32).toInt = 1 from rfl); have := lv_neT c9 (show (2 : Int32).toInt = 2 from rfl); omega) rfl ?_
      refine x_iconst d_97_77 ic_m1 ?_
      obtain rfl := Option.some.inj h
      exact x_ret (r := some (.int (-1 : Int32))) d_97_78 ⟨_, rfl, rfl⟩
    · replace h := ite_f c3 h
      refine x_iconst d_97_15 ic_m1 ?_
      obtain rfl := Option.some.inj h
      exact x_ret (r := some (.int (-1 : Int32))) d_97_16 ⟨_, rfl, rfl⟩
/-! NinetyPlayers.isBeat -/
def fN_isBeat (F G : Nat) (S : St) (p1 : Int32) : Option (Int32) :=
  if p1 < 0 then some (0 : Int32) else gd (isSc S.2.2.1) (if (S.1 S.2.2.1 0) ≤ p1 then some (0 : Int32) else some (1 : Int32))
set_option maxRecDepth 100000 in
set_option maxHeartbeats 4000000 in
theorem c_102 {X : Nat × (Nat → Int32)} {D F G : Nat} (hD : 0 ≤ D) {S : St} {p1 : Int32} {res : Int32} (h : fN_isBeat F G S p1 = some res) : Ek X (D) m102 0 [(0, .ref 0), (1, .int p1)] [] S (some (.int res)) S := by
  unfold fN_isBeat at h
  refine x_iload_n d_102_0 rfl 1 rfl ?_
  refine x_if_lt (tgt := 19) d_102_1 rfl (fun c1 => ?_) (fun c1 => ?_)
  · replace h := ite_t c1 h
    refine x_iconst d_102_19 ic_0 ?_
    obtain rfl := Option.some.inj h
    exact x_ret (r := some (.int (0 : Int32))) d_102_20 ⟨_, rfl, rfl⟩
  · replace h := ite_f c1 h
    refine x_iload_n d_102_4 rfl 1 rfl ?_
    refine x_aload_n d_102_5 rfl 0 rfl ?_
    refine y_getR d_102_6 fl_0_25 rfl kd_0 rr_told ?_
    obtain ⟨g2, h⟩ := gd_inv h
    refine y_getI d_102_9 fl_0_193 rfl (ksSc g2) ?_
    refine x_icmp_ge (tgt := 19) d_102_12 rfl (fun c3 => ?_) (fun c3 => ?_)
    · replace h := ite_t c3 h
      refine x_iconst d_102_19 ic_0 ?_
      obtain rfl := Option.some.inj h
      exact x_ret (r := some (.int (0 : Int32))) d_102_20 ⟨_, rfl, rfl⟩
    · replace h := ite_f c3 h
      refine x_iconst d_102_15 ic_1 ?_
      refine x_goto (tgt := 20) d_102_16 rfl ?_
      obtain rfl := Option.some.inj h
      exact x_ret (r := some (.int (1 : Int32))) d_102_20 ⟨_, rfl, rfl⟩
/-! NinetyPlayers.isHand -/
def fN_isHand (F G : Nat) (S : St) (p1 : Int32) : Option (Int32) :=
  if p1 = (1 : Int32) then some (1 : Int32) else if p1 = (2 : Int32) then some (1 : Int32) else some (0 : Int32)
set_option maxRecDepth 100000 in
set_option maxHeartbeats 4000000 in
theorem c_103 {X : Nat × (Nat → Int32)} {D F G : Nat} (hD : 0 ≤ D) {S : St} {p1 : Int32} {res : Int32} (h : fN_isHand F G S p1 = some res) : Ek X (D) m103 0 [(0, .int p1)] [] S (some (.int res)) S := by
  unfold fN_isHand at h
  refine x_iload_n d_103_0 rfl 0 rfl ?_
  refine x_iconst d_103_1 ic_1 ?_
  refine x_icmp_eq (tgt := 10) d_103_2 rfl (fun c1 => ?_) (fun c1 => ?_)
  · replace h := ite_t c1 h
    refine x_iconst d_103_10 ic_1 ?_
    refine x_goto (tgt := 15) d_103_11 rfl ?_
    obtain rfl := Option.some.inj h
    exact x_ret (r := some (.int (1 : Int32))) d_103_15 ⟨_, rfl, rfl⟩
  · replace h := ite_f c1 h
    refine x_iload_n d_103_5 rfl 0 rfl ?_
    refine x_iconst d_103_6 ic_2 ?_
    refine x_icmp_ne (tgt := 14) d_103_7 rfl (fun c2 => ?_) (fun c2 => ?_)
    · replace h := ite_f c2 h
      refine x_iconst d_103_14 ic_0 ?_
      obtain rfl := Option.some.inj h
      exact x_ret (r := some (.int (0 : Int32))) d_103_15 ⟨_, rfl, rfl⟩
    · replace h := ite_t c2 h
      refine x_iconst d_103_10 ic_1 ?_
      refine x_goto (tgt := 15) d_103_11 rfl ?_
      obtain rfl := Option.some.inj h
      exact x_ret (r := some (.int (1 : Int32))) d_103_15 ⟨_, rfl, rfl⟩
/-! NinetyPlayers$Keyboard.hasPedal -/
def fK_hasPedal (F G : Nat) (S : St) (p1 : Int32) : Option (Int32) :=
  if (((S.1 56 7) >>> (p1 &&& 31)) &&& (1 : Int32)) = 0 then some (0 : Int32) else some (1 : Int32)
set_option maxRecDepth 100000 in
set_option maxHeartbeats 4000000 in
theorem c_106 {X : Nat × (Nat → Int32)} {D F G : Nat} (hD : 0 ≤ D) {S : St} {p1 : Int32} {res : Int32} (h : fK_hasPedal F G S p1 = some res) : Ek X (D) m106 0 [(0, .ref 56), (1, .int p1)] [] S (some (.int res)) S := by
  unfold fK_hasPedal at h
  refine x_aload_n d_106_0 rfl 0 rfl ?_
  refine y_getI d_106_1 fl_7_62 rfl kd_56 ?_
  refine x_iload_n d_106_4 rfl 1 rfl ?_
  refine x_ishr d_106_5 ?_
  refine x_iconst d_106_6 ic_1 ?_
  refine x_iand d_106_7 ?_
  refine x_if_eq (tgt := 15) d_106_8 rfl (fun c1 => ?_) (fun c1 => ?_)
  · replace h := ite_t c1 h
    refine x_iconst d_106_15 ic_0 ?_
    obtain rfl := Option.some.inj h
    exact x_ret (r := some (.int (0 : Int32))) d_106_16 ⟨_, rfl, rfl⟩
  · replace h := ite_f c1 h
    refine x_iconst d_106_11 ic_1 ?_
    refine x_goto (tgt := 16) d_106_12 rfl ?_
    obtain rfl := Option.some.inj h
    exact x_ret (r := some (.int (1 : Int32))) d_106_16 ⟨_, rfl, rfl⟩
/-! NinetyPlayers$Keyboard.timelySince -/
def b_107_5 (F G : Nat) (S : St) (z1 : Int32) (z2 : Int32) (rec : Int32 → Int32 → Option (Int32)) (w3 : Int32) (w4 : Int32) : Option (Int32) :=
  if (S.1 56 1) ≤ w4 then some w3 else gd (inB w4 10) (lt (S.1 58 w4.toNatClampNeg) fun v3 => if v3 < z1 then lt (w4 + 1) fun v6 => rec w3 v6 else if z2 < v3 then lt (w4 + 1) fun v9 => rec w3 v9 else gd (inB w4 10) (if (v3 + (S.1 59 w4.toNatClampNeg)) ≤ z2 then lt (w4 + 1) fun v13 => rec w3 v13 else lt (w3 ||| ((1 : Int32) <<< (w4 &&& 31))) fun v15 => lt (w4 + 1) fun v17 => rec v15 v17))
def fK_timelySince (F G : Nat) (S : St) (p1 : Int32) (p2 : Int32) : Option (Int32) :=
  fx2 (b_107_5 F G S p1 p2) F (0 : Int32) (0 : Int32)
set_option maxRecDepth 100000 in
set_option maxHeartbeats 4000000 in
theorem T_107_5 {X : Nat × (Nat → Int32)} {D F G : Nat} (hD : 0 ≤ D) {S : St} {z1 : Int32} {z2 : Int32} : ∀ (f : Nat) (w3 : Int32) (w4 : Int32) (res : Int32), fx2 (b_107_5 F G S z1 z2 ) f w3 w4 = some res → Ek X (D) m107 5 [(0, .ref 56), (1, .int z1), (2, .int z2), (3, .int w3), (4, .int w4)] [] S (some (.int res)) S := by
  refine fx2_ind ?_
  intro rec ih w3 w4 res h
  unfold b_107_5 at h
  refine x_iload d_107_5 4 rfl ?_
  refine x_aload_n d_107_7 rfl 0 rfl ?_
  refine y_getI d_107_8 fl_7_34 rfl kd_56 ?_
  refine x_icmp_ge (tgt := 62) d_107_11 rfl (fun c1 => ?_) (fun c1 => ?_)
  · replace h := ite_t c1 h
    refine x_iload_n d_107_62 rfl 3 rfl ?_
    obtain rfl := Option.some.inj h
    exact x_ret (r := some (.int w3)) d_107_63 ⟨_, rfl, rfl⟩
  · replace h := ite_f c1 h
    refine x_aload_n d_107_14 rfl 0 rfl ?_
    refine y_getR d_107_15 fl_7_15 rfl kd_56 rr_56_9 ?_
    refine x_iload d_107_18 4 rfl ?_
    obtain ⟨g2, h⟩ := gd_inv h
    refine y_iald d_107_20 kd_58 g2 ?_
    obtain ⟨v3, e4, h⟩ := lt_inv h
    refine y_istore (L1 := [(0, .ref 56), (1, .int z1), (2, .int z2), (3, .int w3), (4, .int w4), (5, .int v3)]) e4 d_107_21 (Nat.le_of_ble_eq_true rfl) rfl rfl ?_
    refine x_iload d_107_23 5 rfl ?_
    refine x_iload_n d_107_25 rfl 1 rfl ?_
    refine x_icmp_lt (tgt := 56) d_107_26 rfl (fun c5 => ?_) (fun c5 => ?_)
    · replace h := ite_t c5 h
      obtain ⟨v6, e7, h⟩ := lt_inv h
      refine y_iinc (L1 := [(0, .ref 56), (1, .int z1), (2, .int z2), (3, .int w3), (4, .int v6), (5, .int v3)]) e7 ic_1 d_107_56 4 rfl (Nat.le_of_ble_eq_true rfl) rfl rfl ?_
      refine x_goto (tgt := 5) d_107_59 rfl ?_
      refine y_pick (L1 := [(0, .ref 56), (1, .int z1), (2, .int z2), (3, .int w3), (4, .int v6)]) [0, 1, 2, 3, 4] rfl ?_
      exact ih w3 v6 _ h
    · replace h := ite_f c5 h
      refine x_iload d_107_29 5 rfl ?_
      refine x_iload_n d_107_31 rfl 2 rfl ?_
      refine x_icmp_gt (tgt := 56) d_107_32 rfl (fun c8 => ?_) (fun c8 => ?_)
      · replace h := ite_t c8 h
        obtain ⟨v9, e10, h⟩ := lt_inv h
        refine y_iinc (L1 := [(0, .ref 56), (1, .int z1), (2, .int z2), (3, .int w3), (4, .int v9), (5, .int v3)]) e10 ic_1 d_107_56 4 rfl (Nat.le_of_ble_eq_true rfl) rfl rfl ?_
        refine x_goto (tgt := 5) d_107_59 rfl ?_
        refine y_pick (L1 := [(0, .ref 56), (1, .int z1), (2, .int z2), (3, .int w3), (4, .int v9)]) [0, 1, 2, 3, 4] rfl ?_
        exact ih w3 v9 _ h
      · replace h := ite_f c8 h
        refine x_iload_n d_107_35 rfl 2 rfl ?_
        refine x_iload d_107_36 5 rfl ?_
        refine x_aload_n d_107_38 rfl 0 rfl ?_
        refine y_getR d_107_39 fl_7_18 rfl kd_56 rr_56_10 ?_
        refine x_iload d_107_42 4 rfl ?_
        obtain ⟨g11, h⟩ := gd_inv h
        refine y_iald d_107_44 kd_59 g11 ?_
        refine x_iadd d_107_45 ?_
        refine x_icmp_ge (tgt := 56) d_107_46 rfl (fun c12 => ?_) (fun c12 => ?_)
        · replace h := ite_t c12 h
          obtain ⟨v13, e14, h⟩ := lt_inv h
          refine y_iinc (L1 := [(0, .ref 56), (1, .int z1), (2, .int z2), (3, .int w3), (4, .int v13), (5, .int v3)]) e14 ic_1 d_107_56 4 rfl (Nat.le_of_ble_eq_true rfl) rfl rfl ?_
          refine x_goto (tgt := 5) d_107_59 rfl ?_
          refine y_pick (L1 := [(0, .ref 56), (1, .int z1), (2, .int z2), (3, .int w3), (4, .int v13)]) [0, 1, 2, 3, 4] rfl ?_
          exact ih w3 v13 _ h
        · replace h := ite_f c12 h
          refine x_iload_n d_107_49 rfl 3 rfl ?_
          refine x_iconst d_107_50 ic_1 ?_
          refine x_iload d_107_51 4 rfl ?_
          refine x_ishl d_107_53 ?_
          refine x_ior d_107_54 ?_
          obtain ⟨v15, e16, h⟩ := lt_inv h
          refine y_istore_n (L1 := [(0, .ref 56), (1, .int z1), (2, .int z2), (3, .int v15), (4, .int w4), (5, .int v3)]) e16 d_107_55 rfl (Nat.le_of_ble_eq_true rfl) rfl rfl ?_
          obtain ⟨v17, e18, h⟩ := lt_inv h
          refine y_iinc (L1 := [(0, .ref 56), (1, .int z1), (2, .int z2), (3, .int v15), (4, .int v17), (5, .int v3)]) e18 ic_1 d_107_56 4 rfl (Nat.le_of_ble_eq_true rfl) rfl rfl ?_
          refine x_goto (tgt := 5) d_107_59 rfl ?_
          refine y_pick (L1 := [(0, .ref 56), (1, .int z1), (2, .int z2), (3, .int v15), (4, .int v17)]) [0, 1, 2, 3, 4] rfl ?_
          exact ih v15 v17 _ h
set_option maxRecDepth 100000 in
set_option maxHeartbeats 4000000 in
theorem c_107 {X : Nat × (Nat → Int32)} {D F G : Nat} (hD : 0 ≤ D) {S : St} {p1 : Int32} {p2 : Int32} {res : Int32} (h : fK_timelySince F G S p1 p2 = some res) : Ek X (D) m107 0 [(0, .ref 56), (1, .int p1), (2, .int p2)] [] S (some (.int res)) S := by
  unfold fK_timelySince at h
  refine x_iconst d_107_0 ic_0 ?_
  refine x_istore_n (L1 := [(0, .ref 56), (1, .int p1), (2, .int p2), (3, .int (0 : Int32))]) d_107_1 rfl (Nat.le_of_ble_eq_true rfl) rfl rfl ?_
  refine x_iconst d_107_2 ic_0 ?_
  refine x_istore (L1 := [(0, .ref 56), (1, .int p1), (2, .int p2), (3, .int (0 : Int32)), (4, .int (0 : Int32))]) d_107_3 (Nat.le_of_ble_eq_true rfl) rfl rfl ?_
  refine T_107_5 (by omega)   F (0 : Int32) (0 : Int32) _ h
/-! NinetyPlayers$Keyboard.lay -/
def b_105_68 (F G : Nat) (z1 : Nat) (z2 : Nat) (k118 : St → Option (St)) (rec : Int32 → St → Option (St)) (w3 : Int32) (S : St) : Option (St) :=
  if (S.1 56 1) ≤ w3 then k118 S else gd (inB w3 10) (gd (inB w3 10) (lt (sI S 57 w3.toNatClampNeg (S.1 (z2 + 2) w3.toNatClampNeg)) fun S24 => gd (inB w3 10) (gd (inB w3 10) (lt (sI S24 58 w3.toNatClampNeg (S24.1 (z1 + 5) w3.toNatClampNeg)) fun S28 => gd (inB w3 10) (gd (inB w3 10) (lt (sI S28 59 w3.toNatClampNeg (S28.1 (z2 + 3) w3.toNatClampNeg)) fun S32 => lt (w3 + 1) fun v34 => rec v34 S32))))))
def j_105_147 (F G : Nat) (rec : Int32 → Int32 → St → Option (St)) (S : St) (y4 : Int32) (s0 : Int32) : Option (St) :=
  bd (fK_timelySince F G S s0 y4) fun v42 => gd (inB y4 12) (lt (sI S 60 y4.toNatClampNeg v42) fun S44 => lt (y4 + 1) fun v46 => rec s0 v46 S44)
def b_105_123 (F G : Nat) (rec : Int32 → Int32 → St → Option (St)) (w3 : Int32) (w4 : Int32) (S : St) : Option (St) :=
  if (S.1 56 0) ≤ w4 then some S else bd (fK_hasPedal F G S w4) fun v39 => if v39 = 0 then j_105_147 F G rec  S w4 w3 else j_105_147 F G rec  S w4 w4
def fK_lay (F G : Nat) (S : St) (o2 : Nat) (o3 : Nat) : Option (St) :=
  gd (isSc o2) (gd (isLa o3) (lt (sI S 56 0 (S.1 o2 0)) fun S1 => lt (sI S1 56 1 (S1.1 o2 6)) fun S3 => lt (sI S3 56 2 (S3.1 o2 1)) fun S5 => lt (sI S5 56 3 (S5.1 o2 2)) fun S7 => lt (sI S7 56 4 (S7.1 o2 3)) fun S9 => bd (fL_setOf F G S9 o3 (1 : Int32)) fun v12 => lt (sI S9 56 5 v12) fun S13 => bd (fL_setOf F G S13 o3 (2 : Int32)) fun v16 => lt (sI S13 56 6 v16) fun S17 => lt (sI S17 56 7 (S17.1 o3 1)) fun S19 => fx2 (b_105_68 F G o2 o3 (fun S36 => fx3 (b_105_123 F G ) F (0 : Int32) (0 : Int32) S36)) F (0 : Int32) S19))
set_option maxRecDepth 100000 in
set_option maxHeartbeats 4000000 in
theorem T_105_68 {X : Nat × (Nat → Int32)} {D F G : Nat} (hD : 1 ≤ D + 1) {z1 : Nat} {z2 : Nat} (hz1 : isSc z1 = true) (hz2 : isLa z2 = true) {k118 : St → Option (St)} (hk118 : ∀ (S1 : St) (res : St), k118 S1 = some res → Ek X (D + 1) m105 118 [(0, .ref 56)] [] S1 none res) : ∀ (f : Nat) (w3 : Int32) (S : St) (res : St), fx2 (b_105_68 F G z1 z2 k118 ) f w3 S = some res → Ek X (D + 1) m105 68 [(0, .ref 56), (1, .ref z1), (2, .ref z2), (3, .int w3)] [] S none res := by
  refine fx2_ind ?_
  intro rec ih w3 S res h
  unfold b_105_68 at h
  refine x_iload_n d_105_68 rfl 3 rfl ?_
  refine x_aload_n d_105_69 rfl 0 rfl ?_
  refine y_getI d_105_70 fl_7_34 rfl kd_56 ?_
  refine x_icmp_ge (tgt := 118) d_105_73 rfl (fun c21 => ?_) (fun c21 => ?_)
  · replace h := ite_t c21 h
    refine y_pick (L1 := [(0, .ref 56)]) [0] rfl ?_
    exact hk118 S _ h
  · replace h := ite_f c21 h
    refine x_aload_n d_105_76 rfl 0 rfl ?_
    refine y_getR d_105_77 fl_7_9 rfl kd_56 rr_56_8 ?_
    refine x_iload_n d_105_80 rfl 3 rfl ?_
    refine x_aload_n d_105_81 rfl 2 rfl ?_
    refine y_getR d_105_82 fl_7_63 rfl (ksLa hz2) (rrLa_3 hz2) ?_
    refine x_iload_n d_105_85 rfl 3 rfl ?_
    obtain ⟨g22, h⟩ := gd_inv h
    refine y_iald d_105_86 (ksLa_2 hz2) g22 ?_
    obtain ⟨g23, h⟩ := gd_inv h
    obtain ⟨S24, e25, h⟩ := lt_inv h
    refine y_iast e25 d_105_87 kd_57 g23 ?_
    refine x_aload_n d_105_88 rfl 0 rfl ?_
    refine y_getR d_105_89 fl_7_15 rfl kd_56 rr_56_9 ?_
    refine x_iload_n d_105_92 rfl 3 rfl ?_
    refine x_aload_n d_105_93 rfl 1 rfl ?_
    refine y_getR d_105_94 fl_7_64 rfl (ksSc hz1) (rrSc_11 hz1) ?_
    refine x_iload_n d_105_97 rfl 3 rfl ?_
    obtain ⟨g26, h⟩ := gd_inv h
    refine y_iald d_105_98 (ksSc_5 hz1) g26 ?_
    obtain ⟨g27, h⟩ := gd_inv h
    obtain ⟨S28, e29, h⟩ := lt_inv h
    refine y_iast e29 d_105_99 kd_58 g27 ?_
    refine x_aload_n d_105_100 rfl 0 rfl ?_
    refine y_getR d_105_101 fl_7_18 rfl kd_56 rr_56_10 ?_
    refine x_iload_n d_105_104 rfl 3 rfl ?_
    refine x_aload_n d_105_105 rfl 2 rfl ?_
    refine y_getR d_105_106 fl_7_65 rfl (ksLa hz2) (rrLa_4 hz2) ?_
    refine x_iload_n d_105_109 rfl 3 rfl ?_
    obtain ⟨g30, h⟩ := gd_inv h
    refine y_iald d_105_110 (ksLa_3 hz2) g30 ?_
    obtain ⟨g31, h⟩ := gd_inv h
    obtain ⟨S32, e33, h⟩ := lt_inv h
    refine y_iast e33 d_105_111 kd_59 g31 ?_
    obtain ⟨v34, e35, h⟩ := lt_inv h
    refine y_iinc (L1 := [(0, .ref 56), (1, .ref z1), (2, .ref z2), (3, .int v34)]) e35 ic_1 d_105_112 3 rfl (Nat.le_of_ble_eq_true rfl) rfl rfl ?_
    refine x_goto (tgt := 68) d_105_115 rfl ?_
    exact ih v34 S32 _ h
set_option maxRecDepth 100000 in
set_option maxHeartbeats 4000000 in
theorem T_105_123 {X : Nat × (Nat → Int32)} {D F G : Nat} (hD : 1 ≤ D + 1) : ∀ (f : Nat) (w3 : Int32) (w4 : Int32) (S : St) (res : St), fx3 (b_105_123 F G ) f w3 w4 S = some res → Ek X (D + 1) m105 123 [(0, .ref 56), (3, .int w3), (4, .int w4)] [] S none res := by
  refine fx3_ind ?_
  intro rec ih w3 w4 S res h
  unfold b_105_123 at h
  have J147 : ∀ (S : St) (y4 : Int32) (s0 : Int32) (res : St), j_105_147 F G rec S y4 s0 = some res → Ek X (D + 1) m105 147 [(0, .ref 56), (4, .int y4)] [.int s0] S none res := by
    intro S y4 s0 res h
    unfold j_105_147 at h
    refine x_istore_n (L1 := [(0, .ref 56), (3, .int s0), (4, .int y4)]) d_105_147 rfl (Nat.le_of_ble_eq_true rfl) rfl rfl ?_
    refine x_aload_n d_105_148 rfl 0 rfl ?_
    refine y_getR d_105_149 fl_7_21 rfl kd_56 rr_56_11 ?_
    refine x_iload d_105_152 2 rfl ?_
    refine x_aload_n d_105_154 rfl 0 rfl ?_
    refine x_iload_n d_105_155 rfl 1 rfl ?_
    refine x_iload d_105_156 2 rfl ?_
    obtain ⟨v42, q41, h⟩ := bd_inv h
    refine y_V2i (v := v42) (S1 := S) d_105_158 ml_7_70 kd_56 rfl (Nat.le_of_ble_eq_true rfl) (Nat.le_of_ble_eq_true rfl) (c_107 (by omega) q41) ?_
    obtain ⟨g43, h⟩ := gd_inv h
    obtain ⟨S44, e45, h⟩ := lt_inv h
    refine y_iast e45 d_105_161 kd_60 g43 ?_
    obtain ⟨v46, e47, h⟩ := lt_inv h
    refine y_iinc (L1 := [(0, .ref 56), (3, .int s0), (4, .int v46)]) e47 ic_1 d_105_162 2 rfl (Nat.le_of_ble_eq_true rfl) rfl rfl ?_
    refine x_goto (tgt := 123) d_105_165 rfl ?_
    exact ih s0 v46 S44 _ h
  refine x_iload d_105_123 2 rfl ?_
  refine x_aload_n d_105_125 rfl 0 rfl ?_
  refine y_getI d_105_126 fl_7_30 rfl kd_56 ?_
  refine x_icmp_ge (tgt := 168) d_105_129 rfl (fun c37 => ?_) (fun c37 => ?_)
  · replace h := ite_t c37 h
    obtain rfl := Option.some.inj h
    exact x_ret (r := none) d_105_168 rfl
  · replace h := ite_f c37 h
    refine x_aload_n d_105_132 rfl 0 rfl ?_
    refine x_iload d_105_133 2 rfl ?_
    obtain ⟨v39, q38, h⟩ := bd_inv h
    refine y_V1i (v := v39) (S1 := S) d_105_135 ml_7_66 kd_56 rfl (Nat.le_of_ble_eq_true rfl) (Nat.le_of_ble_eq_true rfl) (c_106 (by omega) q38) ?_
    refine x_if_eq (tgt := 146) d_105_138 rfl (fun c40 => ?_) (fun c40 => ?_)
    · replace h := ite_t c40 h
      refine x_iload_n d_105_146 rfl 1 rfl ?_
      refine y_pick (L1 := [(0, .ref 56), (4, .int w4)]) [0, 2] rfl ?_
      exact J147 S w4 w3 _ h
    · replace h := ite_f c40 h
      refine x_iload d_105_141 2 rfl ?_
      refine x_goto (tgt := 147) d_105_143 rfl ?_
      refine y_pick (L1 := [(0, .ref 56), (4, .int w4)]) [0, 2] rfl ?_
      exact J147 S w4 w4 _ h
set_option maxRecDepth 100000 in
set_option maxHeartbeats 4000000 in
theorem c_105 {X : Nat × (Nat → Int32)} {D F G : Nat} (hD : 1 ≤ D) {S : St} {o2 : Nat} {o3 : Nat} {res : St} (h : fK_lay F G S o2 o3 = some res) : Ek X (D) m105 0 [(0, .ref 56), (1, .ref o2), (2, .ref o3)] [] S none res := by
  obtain ⟨D, rfl⟩ : ∃ E, D = E + 1 := ⟨D - 1, by omega⟩
  unfold fK_lay at h
  obtain ⟨gg0, h⟩ := gd_inv h
  obtain ⟨gg1, h⟩ := gd_inv h
  refine x_aload_n d_105_0 rfl 0 rfl ?_
  refine x_aload_n d_105_1 rfl 1 rfl ?_
  refine y_getI d_105_2 fl_7_24 rfl (ksSc gg0) ?_
  obtain ⟨S1, e2, h⟩ := lt_inv h
  refine y_putI e2 d_105_5 fl_7_30 rfl rfl kd_56 rfl rfl ?_
  refine x_aload_n d_105_8 rfl 0 rfl ?_
  refine x_aload_n d_105_9 rfl 1 rfl ?_
  refine y_getI d_105_10 fl_7_31 rfl (ksSc gg0) ?_
  obtain ⟨S3, e4, h⟩ := lt_inv h
  refine y_putI e4 d_105_13 fl_7_34 rfl rfl kd_56 rfl rfl ?_
  refine x_aload_n d_105_16 rfl 0 rfl ?_
  refine x_aload_n d_105_17 rfl 1 rfl ?_
  refine y_getI d_105_18 fl_7_35 rfl (ksSc gg0) ?_
  obtain ⟨S5, e6, h⟩ := lt_inv h
  refine y_putI e6 d_105_21 fl_7_38 rfl rfl kd_56 rfl rfl ?_
  refine x_aload_n d_105_24 rfl 0 rfl ?_
  refine x_aload_n d_105_25 rfl 1 rfl ?_
  refine y_getI d_105_26 fl_7_39 rfl (ksSc gg0) ?_
  obtain ⟨S7, e8, h⟩ := lt_inv h
  refine y_putI e8 d_105_29 fl_7_42 rfl rfl kd_56 rfl rfl ?_
  refine x_aload_n d_105_32 rfl 0 rfl ?_
  refine x_aload_n d_105_33 rfl 1 rfl ?_
  refine y_getI d_105_34 fl_7_43 rfl (ksSc gg0) ?_
  obtain ⟨S9, e10, h⟩ := lt_inv h
  refine y_putI e10 d_105_37 fl_7_46 rfl rfl kd_56 rfl rfl ?_
  refine x_aload_n d_105_40 rfl 0 rfl ?_
  refine x_aload_n d_105_41 rfl 2 rfl ?_
  refine x_iconst d_105_42 ic_1 ?_
  obtain ⟨v12, q11, h⟩ := bd_inv h
  refine y_V1i (v := v12) (S1 := S9) d_105_43 ml_7_47 (ksLa gg1) rfl (Nat.le_of_ble_eq_true rfl) (Nat.le_of_ble_eq_true rfl) (c_100 (by omega) q11) ?_
  obtain ⟨S13, e14, h⟩ := lt_inv h
  refine y_putI e14 d_105_46 fl_7_53 rfl rfl kd_56 rfl rfl ?_
  refine x_aload_n d_105_49 rfl 0 rfl ?_
  refine x_aload_n d_105_50 rfl 2 rfl ?_
  refine x_iconst d_105_51 ic_2 ?_
  obtain ⟨v16, q15, h⟩ := bd_inv h
  refine y_V1i (v := v16) (S1 := S13) d_105_52 ml_7_47 (ksLa gg1) rfl (Nat.le_of_ble_eq_true rfl) (Nat.le_of_ble_eq_true rfl) (c_100 (by omega) q15) ?_
  obtain ⟨S17, e18, h⟩ := lt_inv h
  refine y_putI e18 d_105_55 fl_7_56 rfl rfl kd_56 rfl rfl ?_
  refine x_aload_n d_105_58 rfl 0 rfl ?_
  refine x_aload_n d_105_59 rfl 2 rfl ?_
  refine y_getI d_105_60 fl_7_59 rfl (ksLa gg1) ?_
  obtain ⟨S19, e20, h⟩ := lt_inv h
  refine y_putI e20 d_105_63 fl_7_62 rfl rfl kd_56 rfl rfl ?_
  refine x_iconst d_105_66 ic_0 ?_
  refine x_istore_n (L1 := [(0, .ref 56), (1, .ref o2), (2, .ref o3), (3, .int (0 : Int32))]) d_105_67 rfl (Nat.le_of_ble_eq_true rfl) rfl rfl ?_
  refine T_105_68 (by omega) gg0 gg1 ?_ F (0 : Int32) S19 _ h
  · intro S36 res h
    refine x_iconst d_105_118 ic_0 ?_
    refine x_istore_n (L1 := [(0, .ref 56), (3, .int (0 : Int32))]) d_105_119 rfl (Nat.le_of_ble_eq_true rfl) rfl rfl ?_
    refine x_iconst d_105_120 ic_0 ?_
    refine x_istore (L1 := [(0, .ref 56), (3, .int (0 : Int32)), (4, .int (0 : Int32))]) d_105_121 (Nat.le_of_ble_eq_true rfl) rfl rfl ?_
    refine T_105_123 (by omega)   F (0 : Int32) (0 : Int32) S36 _ h
/-! NinetyPlayers.lookAtKeys -/
def fN_lookAtKeys (F G : Nat) (S : St) : Option (St) :=
  gd (isSc S.2.2.1) (bd (fK_lay F G S S.2.2.1 30) fun S3 => some S3)
set_option maxRecDepth 100000 in
set_option maxHeartbeats 4000000 in
theorem c_104 {X : Nat × (Nat → Int32)} {D F G : Nat} (hD : 2 ≤ D) {S : St} {res : St} (h : fN_lookAtKeys F G S  = some res) : Ek X (D) m104 0 [(0, .ref 0)] [] S none res := by
  obtain ⟨D, rfl⟩ : ∃ E, D = E + 1 := ⟨D - 1, by omega⟩
  unfold fN_lookAtKeys at h
  refine x_aload_n d_104_0 rfl 0 rfl ?_
  refine y_getR d_104_1 fl_0_50 rfl kd_0 rr_0_7 ?_
  refine x_aload_n d_104_4 rfl 0 rfl ?_
  refine y_getR d_104_5 fl_0_25 rfl kd_0 rr_told ?_
  obtain ⟨g1, h⟩ := gd_inv h
  refine x_aload_n d_104_8 rfl 0 rfl ?_
  refine y_getR d_104_9 fl_0_32 rfl kd_0 rr_0_4 ?_
  obtain ⟨S3, q2, h⟩ := bd_inv h
  refine y_V2v (S1 := S3) d_104_12 ml_0_196 kd_56 rfl (Nat.le_of_ble_eq_true rfl) (Nat.le_of_ble_eq_true rfl) (c_105 (by omega) q2) ?_
  obtain rfl := Option.some.inj h
  exact x_ret (r := none) d_104_15 rfl
/-! NinetyPlayers$Keyboard.setOf -/
def fK_setOf (F G : Nat) (S : St) (p1 : Int32) : Option (Int32) :=
  if p1 = (1 : Int32) then some (S.1 56 5) else some (S.1 56 6)
set_option maxRecDepth 100000 in
set_option maxHeartbeats 4000000 in
theorem c_109 {X : Nat × (Nat → Int32)} {D F G : Nat} (hD : 0 ≤ D) {S : St} {p1 : Int32} {res : Int32} (h : fK_setOf F G S p1 = some res) : Ek X (D) m109 0 [(0, .ref 56), (1, .int p1)] [] S (some (.int res)) S := by
  unfold fK_setOf at h
  refine x_iload_n d_109_0 rfl 1 rfl ?_
  refine x_iconst d_109_1 ic_1 ?_
  refine x_icmp_ne (tgt := 12) d_109_2 rfl (fun c1 => ?_) (fun c1 => ?_)
  · replace h := ite_f c1 h
    refine x_aload_n d_109_12 rfl 0 rfl ?_
    refine y_getI d_109_13 fl_7_56 rfl kd_56 ?_
    obtain rfl := Option.some.inj h
    exact x_ret (r := some (.int (S.1 56 6))) d_109_16 ⟨_, rfl, rfl⟩
  · replace h := ite_t c1 h
    refine x_aload_n d_109_5 rfl 0 rfl ?_
    refine y_getI d_109_6 fl_7_53 rfl kd_56 ?_
    refine x_goto (tgt := 16) d_109_9 rfl ?_
    obtain rfl := Option.some.inj h
    exact x_ret (r := some (.int (S.1 56 5))) d_109_16 ⟨_, rfl, rfl⟩
/-! NinetyPlayers$Keyboard.timelyAt -/
def fK_timelyAt (F G : Nat) (S : St) (p1 : Int32) : Option (Int32) :=
  if p1 < 0 then some (0 : Int32) else if (S.1 56 0) ≤ p1 then some (0 : Int32) else if (12 : Int32) ≤ p1 then some (0 : Int32) else gd (inB p1 12) (some (S.1 60 p1.toNatClampNeg))
set_option maxRecDepth 100000 in
set_option maxHeartbeats 4000000 in
theorem c_110 {X : Nat × (Nat → Int32)} {D F G : Nat} (hD : 0 ≤ D) {S : St} {p1 : Int32} {res : Int32} (h : fK_timelyAt F G S p1 = some res) : Ek X (D) m110 0 [(0, .ref 56), (1, .int p1)] [] S (some (.int res)) S := by
  unfold fK_timelyAt at h
  refine x_iload_n d_110_0 rfl 1 rfl ?_
  refine x_if_lt (tgt := 27) d_110_1 rfl (fun c1 => ?_) (fun c1 => ?_)
  · replace h := ite_t c1 h
    refine x_iconst d_110_27 ic_0 ?_
    obtain rfl := Option.some.inj h
    exact x_ret (r := some (.int (0 : Int32))) d_110_28 ⟨_, rfl, rfl⟩
  · replace h := ite_f c1 h
    refine x_iload_n d_110_4 rfl 1 rfl ?_
    refine x_aload_n d_110_5 rfl 0 rfl ?_
    refine y_getI d_110_6 fl_7_30 rfl kd_56 ?_
    refine x_icmp_ge (tgt := 27) d_110_9 rfl (fun c2 => ?_) (fun c2 => ?_)
    · replace h := ite_t c2 h
      refine x_iconst d_110_27 ic_0 ?_
      obtain rfl := Option.some.inj h
      exact x_ret (r := some (.int (0 : Int32))) d_110_28 ⟨_, rfl, rfl⟩
    · replace h := ite_f c2 h
      refine x_iload_n d_110_12 rfl 1 rfl ?_
      refine x_bipush d_110_13 bp_12 ?_
      refine x_icmp_ge (tgt := 27) d_110_15 rfl (fun c3 => ?_) (fun c3 => ?_)
      · replace h := ite_t c3 h
        refine x_iconst d_110_27 ic_0 ?_
        obtain rfl := Option.some.inj h
        exact x_ret (r := some (.int (0 : Int32))) d_110_28 ⟨_, rfl, rfl⟩
      · replace h := ite_f c3 h
        refine x_aload_n d_110_18 rfl 0 rfl ?_
        refine y_getR d_110_19 fl_7_21 rfl kd_56 rr_56_11 ?_
        refine x_iload_n d_110_22 rfl 1 rfl ?_
        obtain ⟨g4, h⟩ := gd_inv h
        refine y_iald d_110_23 kd_60 g4 ?_
        refine x_goto (tgt := 28) d_110_24 rfl ?_
        obtain rfl := Option.some.inj h
        exact x_ret (r := some (.int (S.1 60 p1.toNatClampNeg))) d_110_28 ⟨_, rfl, rfl⟩
/-! NinetyPlayers$Keyboard.heldBy -/
def fK_heldBy (F G : Nat) (S : St) (p1 : Int32) (p2 : Int32) : Option (Int32) :=
  bd (fK_setOf F G S p1) fun v2 => bd (fK_timelyAt F G S p2) fun v4 => some (v2 &&& v4)
set_option maxRecDepth 100000 in
set_option maxHeartbeats 4000000 in
theorem c_108 {X : Nat × (Nat → Int32)} {D F G : Nat} (hD : 1 ≤ D) {S : St} {p1 : Int32} {p2 : Int32} {res : Int32} (h : fK_heldBy F G S p1 p2 = some res) : Ek X (D) m108 0 [(0, .ref 56), (1, .int p1), (2, .int p2)] [] S (some (.int res)) S := by
  obtain ⟨D, rfl⟩ : ∃ E, D = E + 1 := ⟨D - 1, by omega⟩
  unfold fK_heldBy at h
  refine x_aload_n d_108_0 rfl 0 rfl ?_
  refine x_iload_n d_108_1 rfl 1 rfl ?_
  obtain ⟨v2, q1, h⟩ := bd_inv h
  refine y_V1i (v := v2) (S1 := S) d_108_2 ml_7_74 kd_56 rfl (Nat.le_of_ble_eq_true rfl) (Nat.le_of_ble_eq_true rfl) (c_109 (by omega) q1) ?_
  refine x_aload_n d_108_5 rfl 0 rfl ?_
  refine x_iload_n d_108_6 rfl 2 rfl ?_
  obtain ⟨v4, q3, h⟩ := bd_inv h
  refine y_V1i (v := v4) (S1 := S) d_108_7 ml_7_75 kd_56 rfl (Nat.le_of_ble_eq_true rfl) (Nat.le_of_ble_eq_true rfl) (c_110 (by omega) q3) ?_
  refine x_iand d_108_10 ?_
  obtain rfl := Option.some.inj h
  exact x_ret (r := some (.int (v2 &&& v4))) d_108_11 ⟨_, rfl, rfl⟩
/-! NinetyPlayers.held -/
def fN_held (F G : Nat) (S : St) (p1 : Int32) (p2 : Int32) : Option (Int32 × St) :=
  bd (fN_isBeat F G S p1) fun v2 => if v2 = 0 then some ((-1 : Int32), S) else bd (fN_isHand F G S p2) fun v5 => if v5 = 0 then some ((-1 : Int32), S) else bd (fN_lookAtKeys F G S ) fun S8 => bd (fK_heldBy F G S8 p2 p1) fun v10 => some (v10, S8)
set_option maxRecDepth 100000 in
set_option maxHeartbeats 4000000 in
theorem c_101 {X : Nat × (Nat → Int32)} {D F G : Nat} (hD : 3 ≤ D) {S : St} {p1 : Int32} {p2 : Int32} {res : Int32 × St} (h : fN_held F G S p1 p2 = some res) : Ek X (D) m101 0 [(0, .ref 0), (1, .int p1), (2, .int p2)] [] S (some (.int res.1)) res.2 := by
  obtain ⟨D, rfl⟩ : ∃ E, D = E + 1 := ⟨D - 1, by omega⟩
  unfold fN_held at h
  refine x_aload_n d_101_0 rfl 0 rfl ?_
  refine x_iload_n d_101_1 rfl 1 rfl ?_
  obtain ⟨v2, q1, h⟩ := bd_inv h
  refine y_V1i (v := v2) (S1 := S) d_101_2 ml_0_167 kd_0 rfl (Nat.le_of_ble_eq_true rfl) (Nat.le_of_ble_eq_true rfl) (c_102 (by omega) q1) ?_
  refine x_if_eq (tgt := 15) d_101_5 rfl (fun c3 => ?_) (fun c3 => ?_)
  · replace h := ite_t c3 h
    refine x_iconst d_101_15 ic_m1 ?_
    obtain rfl := Option.some.inj h
    exact x_ret (r := some (.int (-1 : Int32))) d_101_16 ⟨_, rfl, rfl⟩
  · replace h := ite_f c3 h
    refine x_iload_n d_101_8 rfl 2 rfl ?_
    obtain ⟨v5, q4, h⟩ := bd_inv h
    refine y_S1i (v := v5) (S1 := S) d_101_9 ml_0_170 (Nat.le_of_ble_eq_true rfl) (Nat.le_of_ble_eq_true rfl) (c_103 (by omega) q4) ?_
    refine x_if_ne (tgt := 17) d_101_12 rfl (fun c6 => ?_) (fun c6 => ?_)
    · replace h := ite_f c6 h
      refine x_aload_n d_101_17 rfl 0 rfl ?_
      obtain ⟨S8, q7, h⟩ := bd_inv h
      refine y_V0v (S1 := S8) d_101_18 ml_0_173 kd_0 rfl (Nat.le_of_ble_eq_true rfl) (Nat.le_of_ble_eq_true rfl) (c_104 (by omega) q7) ?_
      refine x_aload_n d_101_21 rfl 0 rfl ?_
      refine y_getR d_101_22 fl_0_50 rfl kd_0 rr_0_7 ?_
      refine x_iload_n d_101_25 rfl 2 rfl ?_
      refine x_iload_n d_101_26 rfl 1 rfl ?_
      obtain ⟨v10, q9, h⟩ := bd_inv h
      refine y_V2i (v := v10) (S1 := S8) d_101_27 ml_0_176 kd_56 rfl (Nat.le_of_ble_eq_true rfl) (Nat.le_of_ble_eq_true rfl) (c_108 (by omega) q9) ?_
      obtain rfl := Option.some.inj h
      exact x_ret (r := some (.int v10)) d_101_30 ⟨_, rfl, rfl⟩
    · replace h := ite_t c6 h
      refine x_iconst d_101_15 ic_m1 ?_
      obtain rfl := Option.some.inj h
      exact x_ret (r := some (.int (-1 : Int32))) d_101_16 ⟨_, rfl, rfl⟩
/-! NinetyPlayers$Keyboard.soundingAt -/
def b_112_4 (F G : Nat) (S : St) (z1 : Int32) (rec : Int32 → Int32 → Option (Int32)) (w2 : Int32) (w3 : Int32) : Option (Int32) :=
  if z1 < w3 then some (w2 &&& ((S.1 56 5) ||| (S.1 56 6))) else if (S.1 56 0) ≤ w3 then some (w2 &&& ((S.1 56 5) ||| (S.1 56 6))) else bd (fK_timelyAt F G S w3) fun v4 => bd (fK_hasPedal F G S w3) fun v6 => if v6 = 0 then lt (v4 ||| (0 : Int32)) fun v8 => lt (w3 + 1) fun v10 => rec v8 v10 else lt (v4 ||| w2) fun v12 => lt (w3 + 1) fun v14 => rec v12 v14
def fK_soundingAt (F G : Nat) (S : St) (p1 : Int32) : Option (Int32) :=
  fx2 (b_112_4 F G S p1) F (0 : Int32) (0 : Int32)
set_option maxRecDepth 100000 in
set_option maxHeartbeats 4000000 in
theorem T_112_4 {X : Nat × (Nat → Int32)} {D F G : Nat} (hD : 1 ≤ D + 1) {S : St} {z1 : Int32} : ∀ (f : Nat) (w2 : Int32) (w3 : Int32) (res : Int32), fx2 (b_112_4 F G S z1 ) f w2 w3 = some res → Ek X (D + 1) m112 4 [(0, .ref 56), (1, .int z1), (2, .int w2), (3, .int w3)] [] S (some (.int res)) S := by
  refine fx2_ind ?_
  intro rec ih w2 w3 res h
  unfold b_112_4 at h
  refine x_iload_n d_112_4 rfl 3 rfl ?_
  refine x_iload_n d_112_5 rfl 1 rfl ?_
  refine x_icmp_gt (tgt := 43) d_112_6 rfl (fun c1 => ?_) (fun c1 => ?_)
  · replace h := ite_t c1 h
    refine x_iload_n d_112_43 rfl 2 rfl ?_
    refine x_aload_n d_112_44 rfl 0 rfl ?_
    refine y_getI d_112_45 fl_7_53 rfl kd_56 ?_
    refine x_aload_n d_112_48 rfl 0 rfl ?_
    refine y_getI d_112_49 fl_7_56 rfl kd_56 ?_
    refine x_ior d_112_52 ?_
    refine x_iand d_112_53 ?_
    obtain rfl := Option.some.inj h
    exact x_ret (r := some (.int (w2 &&& ((S.1 56 5) ||| (S.1 56 6))))) d_112_54 ⟨_, rfl, rfl⟩
  · replace h := ite_f c1 h
    refine x_iload_n d_112_9 rfl 3 rfl ?_
    refine x_aload_n d_112_10 rfl 0 rfl ?_
    refine y_getI d_112_11 fl_7_30 rfl kd_56 ?_
    refine x_icmp_ge (tgt := 43) d_112_14 rfl (fun c2 => ?_) (fun c2 => ?_)
    · replace h := ite_t c2 h
      refine x_iload_n d_112_43 rfl 2 rfl ?_
      refine x_aload_n d_112_44 rfl 0 rfl ?_
      refine y_getI d_112_45 fl_7_53 rfl kd_56 ?_
      refine x_aload_n d_112_48 rfl 0 rfl ?_
      refine y_getI d_112_49 fl_7_56 rfl kd_56 ?_
      refine x_ior d_112_52 ?_
      refine x_iand d_112_53 ?_
      obtain rfl := Option.some.inj h
      exact x_ret (r := some (.int (w2 &&& ((S.1 56 5) ||| (S.1 56 6))))) d_112_54 ⟨_, rfl, rfl⟩
    · replace h := ite_f c2 h
      refine x_aload_n d_112_17 rfl 0 rfl ?_
      refine x_iload_n d_112_18 rfl 3 rfl ?_
      obtain ⟨v4, q3, h⟩ := bd_inv h
      refine y_V1i (v := v4) (S1 := S) d_112_19 ml_7_75 kd_56 rfl (Nat.le_of_ble_eq_true rfl) (Nat.le_of_ble_eq_true rfl) (c_110 (by omega) q3) ?_
      refine x_aload_n d_112_22 rfl 0 rfl ?_
      refine x_iload_n d_112_23 rfl 3 rfl ?_
      obtain ⟨v6, q5, h⟩ := bd_inv h
      refine y_V1i (v := v6) (S1 := S) d_112_24 ml_7_66 kd_56 rfl (Nat.le_of_ble_eq_true rfl) (Nat.le_of_ble_eq_true rfl) (c_106 (by omega) q5) ?_
      refine x_if_eq (tgt := 34) d_112_27 rfl (fun c7 => ?_) (fun c7 => ?_)
      · replace h := ite_t c7 h
        refine x_iconst d_112_34 ic_0 ?_
        refine x_ior d_112_35 ?_
        obtain ⟨v8, e9, h⟩ := lt_inv h
        refine y_istore_n (L1 := [(0, .ref 56), (1, .int z1), (2, .int v8), (3, .int w3)]) e9 d_112_36 rfl (Nat.le_of_ble_eq_true rfl) rfl rfl ?_
        obtain ⟨v10, e11, h⟩ := lt_inv h
        refine y_iinc (L1 := [(0, .ref 56), (1, .int z1), (2, .int v8), (3, .int v10)]) e11 ic_1 d_112_37 3 rfl (Nat.le_of_ble_eq_true rfl) rfl rfl ?_
        refine x_goto (tgt := 4) d_112_40 rfl ?_
        exact ih v8 v10 _ h
      · replace h := ite_f c7 h
        refine x_iload_n d_112_30 rfl 2 rfl ?_
        refine x_goto (tgt := 35) d_112_31 rfl ?_
        refine x_ior d_112_35 ?_
        obtain ⟨v12, e13, h⟩ := lt_inv h
        refine y_istore_n (L1 := [(0, .ref 56), (1, .int z1), (2, .int v12), (3, .int w3)]) e13 d_112_36 rfl (Nat.le_of_ble_eq_true rfl) rfl rfl ?_
        obtain ⟨v14, e15, h⟩ := lt_inv h
        refine y_iinc (L1 := [(0, .ref 56), (1, .int z1), (2, .int v12), (3, .int v14)]) e15 ic_1 d_112_37 3 rfl (Nat.le_of_ble_eq_true rfl) rfl rfl ?_
        refine x_goto (tgt := 4) d_112_40 rfl ?_
        exact ih v12 v14 _ h
set_option maxRecDepth 100000 in
set_option maxHeartbeats 4000000 in
theorem c_112 {X : Nat × (Nat → Int32)} {D F G : Nat} (hD : 1 ≤ D) {S : St} {p1 : Int32} {res : Int32} (h : fK_soundingAt F G S p1 = some res) : Ek X (D) m112 0 [(0, .ref 56), (1, .int p1)] [] S (some (.int res)) S := by
  obtain ⟨D, rfl⟩ : ∃ E, D = E + 1 := ⟨D - 1, by omega⟩
  unfold fK_soundingAt at h
  refine x_iconst d_112_0 ic_0 ?_
  refine x_istore_n (L1 := [(0, .ref 56), (1, .int p1), (2, .int (0 : Int32))]) d_112_1 rfl (Nat.le_of_ble_eq_true rfl) rfl rfl ?_
  refine x_iconst d_112_2 ic_0 ?_
  refine x_istore_n (L1 := [(0, .ref 56), (1, .int p1), (2, .int (0 : Int32)), (3, .int (0 : Int32))]) d_112_3 rfl (Nat.le_of_ble_eq_true rfl) rfl rfl ?_
  refine T_112_4 (by omega)   F (0 : Int32) (0 : Int32) _ h
/-! NinetyPlayers.sounds -/
def fN_sounds (F G : Nat) (S : St) (p1 : Int32) : Option (Int32 × St) :=
  bd (fN_isBeat F G S p1) fun v2 => if v2 = 0 then some ((-1 : Int32), S) else bd (fN_lookAtKeys F G S ) fun S5 => bd (fK_soundingAt F G S5 p1) fun v7 => some (v7, S5)
set_option maxRecDepth 100000 in
set_option maxHeartbeats 4000000 in
theorem c_111 {X : Nat × (Nat → Int32)} {D F G : Nat} (hD : 3 ≤ D) {S : St} {p1 : Int32} {res : Int32 × St} (h : fN_sounds F G S p1 = some res) : Ek X (D) m111 0 [(0, .ref 0), (1, .int p1)] [] S (some (.int res.1)) res.2 := by
  obtain ⟨D, rfl⟩ : ∃ E, D = E + 1 := ⟨D - 1, by omega⟩
  unfold fN_sounds at h
  refine x_aload_n d_111_0 rfl 0 rfl ?_
  refine x_iload_n d_111_1 rfl 1 rfl ?_
  obtain ⟨v2, q1, h⟩ := bd_inv h
  refine y_V1i (v := v2) (S1 := S) d_111_2 ml_0_167 kd_0 rfl (Nat.le_of_ble_eq_true rfl) (Nat.le_of_ble_eq_true rfl) (c_102 (by omega) q1) ?_
  refine x_if_ne (tgt := 10) d_111_5 rfl (fun c3 => ?_) (fun c3 => ?_)
  · replace h := ite_f c3 h
    refine x_aload_n d_111_10 rfl 0 rfl ?_
    obtain ⟨S5, q4, h⟩ := bd_inv h
    refine y_V0v (S1 := S5) d_111_11 ml_0_173 kd_0 rfl (Nat.le_of_ble_eq_true rfl) (Nat.le_of_ble_eq_true rfl) (c_104 (by omega) q4) ?_
    refine x_aload_n d_111_14 rfl 0 rfl ?_
    refine y_getR d_111_15 fl_0_50 rfl kd_0 rr_0_7 ?_
    refine x_iload_n d_111_18 rfl 1 rfl ?_
    obtain ⟨v7, q6, h⟩ := bd_inv h
    refine y_V1i (v := v7) (S1 := S5) d_111_19 ml_0_180 kd_56 rfl (Nat.le_of_ble_eq_true rfl) (Nat.le_of_ble_eq_true rfl) (c_112 (by omega) q6) ?_
    obtain rfl := Option.some.inj h
    exact x_ret (r := some (.int v7)) d_111_22 ⟨_, rfl, rfl⟩
  · replace h := ite_t c3 h
    refine x_iconst d_111_8 ic_m1 ?_
    obtain rfl := Option.some.inj h
    exact x_ret (r := some (.int (-1 : Int32))) d_111_9 ⟨_, rfl, rfl⟩
/-! NinetyPlayers$Keyboard.lowest -/
def b_117_5 (F G : Nat) (S : St) (z1 : Int32) (rec : Int32 → Int32 → Option (Int32)) (w2 : Int32) (w3 : Int32) : Option (Int32) :=
  if (S.1 56 1) ≤ w3 then some w2 else if ((z1 >>> (w3 &&& 31)) &&& (1 : Int32)) = 0 then lt (w3 + 1) fun v3 => rec w2 v3 else gd (inB w3 10) (if w2 ≤ (S.1 57 w3.toNatClampNeg) then lt (w3 + 1) fun v7 => rec w2 v7 else gd (inB w3 10) (lt (S.1 57 w3.toNatClampNeg) fun v10 => lt (w3 + 1) fun v12 => rec v10 v12))
def fK_lowest (F G : Nat) (S : St) (p1 : Int32) : Option (Int32) :=
  fx2 (b_117_5 F G S p1) F (87 : Int32) (0 : Int32)
set_option maxRecDepth 100000 in
set_option maxHeartbeats 4000000 in
theorem T_117_5 {X : Nat × (Nat → Int32)} {D F G : Nat} (hD : 0 ≤ D) {S : St} {z1 : Int32} : ∀ (f : Nat) (w2 : Int32) (w3 : Int32) (res : Int32), fx2 (b_117_5 F G S z1 ) f w2 w3 = some res → Ek X (D) m117 5 [(0, .ref 56), (1, .int z1), (2, .int w2), (3, .int w3)] [] S (some (.int res)) S := by
  refine fx2_ind ?_
  intro rec ih w2 w3 res h
  unfold b_117_5 at h
  refine x_iload_n d_117_5 rfl 3 rfl ?_
  refine x_aload_n d_117_6 rfl 0 rfl ?_
  refine y_getI d_117_7 fl_7_34 rfl kd_56 ?_
  refine x_icmp_ge (tgt := 44) d_117_10 rfl (fun c1 => ?_) (fun c1 => ?_)
  · replace h := ite_t c1 h
    refine x_iload_n d_117_44 rfl 2 rfl ?_
    obtain rfl := Option.some.inj h
    exact x_ret (r := some (.int w2)) d_117_45 ⟨_, rfl, rfl⟩
  · replace h := ite_f c1 h
    refine x_iload_n d_117_13 rfl 1 rfl ?_
    refine x_iload_n d_117_14 rfl 3 rfl ?_
    refine x_ishr d_117_15 ?_
    refine x_iconst d_117_16 ic_1 ?_
    refine x_iand d_117_17 ?_
    refine x_if_eq (tgt := 38) d_117_18 rfl (fun c2 => ?_) (fun c2 => ?_)
    · replace h := ite_t c2 h
      obtain ⟨v3, e4, h⟩ := lt_inv h
      refine y_iinc (L1 := [(0, .ref 56), (1, .int z1), (2, .int w2), (3, .int v3)]) e4 ic_1 d_117_38 3 rfl (Nat.le_of_ble_eq_true rfl) rfl rfl ?_
      refine x_goto (tgt := 5) d_117_41 rfl ?_
      exact ih w2 v3 _ h
    · replace h := ite_f c2 h
      refine x_aload_n d_117_21 rfl 0 rfl ?_
      refine y_getR d_117_22 fl_7_9 rfl kd_56 rr_56_8 ?_
      refine x_iload_n d_117_25 rfl 3 rfl ?_
      obtain ⟨g5, h⟩ := gd_inv h
      refine y_iald d_117_26 kd_57 g5 ?_
      refine x_iload_n d_117_27 rfl 2 rfl ?_
      refine x_icmp_ge (tgt := 38) d_117_28 rfl (fun c6 => ?_) (fun c6 => ?_)
      · replace h := ite_t c6 h
        obtain ⟨v7, e8, h⟩ := lt_inv h
        refine y_iinc (L1 := [(0, .ref 56), (1, .int z1), (2, .int w2), (3, .int v7)]) e8 ic_1 d_117_38 3 rfl (Nat.le_of_ble_eq_true rfl) rfl rfl ?_
        refine x_goto (tgt := 5) d_117_41 rfl ?_
        exact ih w2 v7 _ h
      · replace h := ite_f c6 h
        refine x_aload_n d_117_31 rfl 0 rfl ?_
        refine y_getR d_117_32 fl_7_9 rfl kd_56 rr_56_8 ?_
        refine x_iload_n d_117_35 rfl 3 rfl ?_
        obtain ⟨g9, h⟩ := gd_inv h
        refine y_iald d_117_36 kd_57 g9 ?_
        obtain ⟨v10, e11, h⟩ := lt_inv h
        refine y_istore_n (L1 := [(0, .ref 56), (1, .int z1), (2, .int v10), (3, .int w3)]) e11 d_117_37 rfl (Nat.le_of_ble_eq_true rfl) rfl rfl ?_
        obtain ⟨v12, e13, h⟩ := lt_inv h
        refine y_iinc (L1 := [(0, .ref 56), (1, .int z1), (2, .int v10), (3, .int v12)]) e13 ic_1 d_117_38 3 rfl (Nat.le_of_ble_eq_true rfl) rfl rfl ?_
        refine x_goto (tgt := 5) d_117_41 rfl ?_
        exact ih v10 v12 _ h
set_option maxRecDepth 100000 in
set_option maxHeartbeats 4000000 in
theorem c_117 {X : Nat × (Nat → Int32)} {D F G : Nat} (hD : 0 ≤ D) {S : St} {p1 : Int32} {res : Int32} (h : fK_lowest F G S p1 = some res) : Ek X (D) m117 0 [(0, .ref 56), (1, .int p1)] [] S (some (.int res)) S := by
  unfold fK_lowest at h
  refine x_bipush d_117_0 bp_87 ?_
  refine x_istore_n (L1 := [(0, .ref 56), (1, .int p1), (2, .int (87 : Int32))]) d_117_2 rfl (Nat.le_of_ble_eq_true rfl) rfl rfl ?_
  refine x_iconst d_117_3 ic_0 ?_
  refine x_istore_n (L1 := [(0, .ref 56), (1, .int p1), (2, .int (87 : Int32)), (3, .int (0 : Int32))]) d_117_4 rfl (Nat.le_of_ble_eq_true rfl) rfl rfl ?_
  refine T_117_5 (by omega)   F (87 : Int32) (0 : Int32) _ h
/-! NinetyPlayers$Keyboard.highest -/
def b_118_4 (F G : Nat) (S : St) (z1 : Int32) (rec : Int32 → Int32 → Option (Int32)) (w2 : Int32) (w3 : Int32) : Option (Int32) :=
  if (S.1 56 1) ≤ w3 then some w2 else if ((z1 >>> (w3 &&& 31)) &&& (1 : Int32)) = 0 then lt (w3 + 1) fun v3 => rec w2 v3 else gd (inB w3 10) (if (S.1 57 w3.toNatClampNeg) ≤ w2 then lt (w3 + 1) fun v7 => rec w2 v7 else gd (inB w3 10) (lt (S.1 57 w3.toNatClampNeg) fun v10 => lt (w3 + 1) fun v12 => rec v10 v12))
def fK_highest (F G : Nat) (S : St) (p1 : Int32) : Option (Int32) :=
  fx2 (b_118_4 F G S p1) F (0 : Int32) (0 : Int32)
set_option maxRecDepth 100000 in
set_option maxHeartbeats 4000000 in
theorem T_118_4 {X : Nat × (Nat → Int32)} {D F G : Nat} (hD : 0 ≤ D) {S : St} {z1 : Int32} : ∀ (f : Nat) (w2 : Int32) (w3 : Int32) (res : Int32), fx2 (b_118_4 F G S z1 ) f w2 w3 = some res → Ek X (D) m118 4 [(0, .ref 56), (1, .int z1), (2, .int w2), (3, .int w3)] [] S (some (.int res)) S := by
  refine fx2_ind ?_
  intro rec ih w2 w3 res h
  unfold b_118_4 at h
  refine x_iload_n d_118_4 rfl 3 rfl ?_
  refine x_aload_n d_118_5 rfl 0 rfl ?_
  refine y_getI d_118_6 fl_7_34 rfl kd_56 ?_
  refine x_icmp_ge (tgt := 43) d_118_9 rfl (fun c1 => ?_) (fun c1 => ?_)
  · replace h := ite_t c1 h
    refine x_iload_n d_118_43 rfl 2 rfl ?_
    obtain rfl := Option.some.inj h
    exact x_ret (r := some (.int w2)) d_118_44 ⟨_, rfl, rfl⟩
  · replace h := ite_f c1 h
    refine x_iload_n d_118_12 rfl 1 rfl ?_
    refine x_iload_n d_118_13 rfl 3 rfl ?_
    refine x_ishr d_118_14 ?_
    refine x_iconst d_118_15 ic_1 ?_
    refine x_iand d_118_16 ?_
    refine x_if_eq (tgt := 37) d_118_17 rfl (fun c2 => ?_) (fun c2 => ?_)
    · replace h := ite_t c2 h
      obtain ⟨v3, e4, h⟩ := lt_inv h
      refine y_iinc (L1 := [(0, .ref 56), (1, .int z1), (2, .int w2), (3, .int v3)]) e4 ic_1 d_118_37 3 rfl (Nat.le_of_ble_eq_true rfl) rfl rfl ?_
      refine x_goto (tgt := 4) d_118_40 rfl ?_
      exact ih w2 v3 _ h
    · replace h := ite_f c2 h
      refine x_aload_n d_118_20 rfl 0 rfl ?_
      refine y_getR d_118_21 fl_7_9 rfl kd_56 rr_56_8 ?_
      refine x_iload_n d_118_24 rfl 3 rfl ?_
      obtain ⟨g5, h⟩ := gd_inv h
      refine y_iald d_118_25 kd_57 g5 ?_
      refine x_iload_n d_118_26 rfl 2 rfl ?_
      refine x_icmp_le (tgt := 37) d_118_27 rfl (fun c6 => ?_) (fun c6 => ?_)
      · replace h := ite_t c6 h
        obtain ⟨v7, e8, h⟩ := lt_inv h
        refine y_iinc (L1 := [(0, .ref 56), (1, .int z1), (2, .int w2), (3, .int v7)]) e8 ic_1 d_118_37 3 rfl (Nat.le_of_ble_eq_true rfl) rfl rfl ?_
        refine x_goto (tgt := 4) d_118_40 rfl ?_
        exact ih w2 v7 _ h
      · replace h := ite_f c6 h
        refine x_aload_n d_118_30 rfl 0 rfl ?_
        refine y_getR d_118_31 fl_7_9 rfl kd_56 rr_56_8 ?_
        refine x_iload_n d_118_34 rfl 3 rfl ?_
        obtain ⟨g9, h⟩ := gd_inv h
        refine y_iald d_118_35 kd_57 g9 ?_
        obtain ⟨v10, e11, h⟩ := lt_inv h
        refine y_istore_n (L1 := [(0, .ref 56), (1, .int z1), (2, .int v10), (3, .int w3)]) e11 d_118_36 rfl (Nat.le_of_ble_eq_true rfl) rfl rfl ?_
        obtain ⟨v12, e13, h⟩ := lt_inv h
        refine y_iinc (L1 := [(0, .ref 56), (1, .int z1), (2, .int v10), (3, .int v12)]) e13 ic_1 d_118_37 3 rfl (Nat.le_of_ble_eq_true rfl) rfl rfl ?_
        refine x_goto (tgt := 4) d_118_40 rfl ?_
        exact ih v10 v12 _ h
set_option maxRecDepth 100000 in
set_option maxHeartbeats 4000000 in
theorem c_118 {X : Nat × (Nat → Int32)} {D F G : Nat} (hD : 0 ≤ D) {S : St} {p1 : Int32} {res : Int32} (h : fK_highest F G S p1 = some res) : Ek X (D) m118 0 [(0, .ref 56), (1, .int p1)] [] S (some (.int res)) S := by
  unfold fK_highest at h
  refine x_iconst d_118_0 ic_0 ?_
  refine x_istore_n (L1 := [(0, .ref 56), (1, .int p1), (2, .int (0 : Int32))]) d_118_1 rfl (Nat.le_of_ble_eq_true rfl) rfl rfl ?_
  refine x_iconst d_118_2 ic_0 ?_
  refine x_istore_n (L1 := [(0, .ref 56), (1, .int p1), (2, .int (0 : Int32)), (3, .int (0 : Int32))]) d_118_3 rfl (Nat.le_of_ble_eq_true rfl) rfl rfl ?_
  refine T_118_4 (by omega)   F (0 : Int32) (0 : Int32) _ h
/-! NinetyPlayers$Keyboard.clashesOfHand -/
def j_116_80 (F G : Nat) (S : St) (y4 : Int32) (s0 : Int32) : Option (Int32) :=
  if s0 = 0 then some y4 else some (y4 ||| (16 : Int32))
def j_116_79 (F G : Nat) (S : St) (y4 : Int32) : Option (Int32) :=
  j_116_80 F G  S y4 (0 : Int32)
def j_116_51 (F G : Nat) (S : St) (y1 : Int32) (y3 : Int32) (s0 : Int32) (s1 : Int32) : Option (Int32) :=
  lt (s0 ||| s1) fun v10 => if y1 = 0 then j_116_79 F G  S v10 else bd (fK_lowest F G S y1) fun v14 => if (if 0 ≤ (y3 - v14) then (y3 - v14) else 0 - (y3 - v14)) ≤ (S.1 56 4) then j_116_79 F G  S v10 else j_116_80 F G  S v10 (1 : Int32)
def j_116_28 (F G : Nat) (S : St) (y1 : Int32) (y2 : Int32) (y3 : Int32) (s0 : Int32) : Option (Int32) :=
  bd (fK_highest F G S y2) fun v8 => if (v8 - y3) ≤ (S.1 56 2) then j_116_51 F G  S y1 y3 s0 (0 : Int32) else j_116_51 F G  S y1 y3 s0 (2 : Int32)
def fK_clashesOfHand (F G : Nat) (S : St) (p1 : Int32) (p2 : Int32) : Option (Int32) :=
  if p2 = 0 then some (0 : Int32) else bd (fK_lowest F G S p2) fun v3 => bd (fJ_bitCount F G S p2) fun v5 => if v5 ≤ (S.1 56 3) then j_116_28 F G  S p1 p2 v3 (0 : Int32) else j_116_28 F G  S p1 p2 v3 (1 : Int32)
set_option maxRecDepth 100000 in
set_option maxHeartbeats 4000000 in
theorem c_116 {X : Nat × (Nat → Int32)} {D F G : Nat} (hD : 1 ≤ D) {S : St} {p1 : Int32} {p2 : Int32} {res : Int32} (h : fK_clashesOfHand F G S p1 p2 = some res) : Ek X (D) m116 0 [(0, .ref 56), (1, .int p1), (2, .int p2)] [] S (some (.int res)) S := by
  obtain ⟨D, rfl⟩ : ∃ E, D = E + 1 := ⟨D - 1, by omega⟩
  unfold fK_clashesOfHand at h
  have J80 : ∀ (y4 : Int32) (s0 : Int32) (res : Int32), j_116_80 F G S y4 s0 = some res → Ek X (D + 1) m116 80 [(4, .int y4)] [.int s0] S (some (.int res)) S := by
    intro y4 s0 res h
    unfold j_116_80 at h
    refine x_istore (L1 := [(4, .int y4), (5, .int s0)]) d_116_80 (Nat.le_of_ble_eq_true rfl) rfl rfl ?_
    refine x_iload d_116_82 1 rfl ?_
    refine x_if_eq (tgt := 95) d_116_84 rfl (fun c16 => ?_) (fun c16 => ?_)
    · replace h := ite_t c16 h
      refine x_iload d_116_95 0 rfl ?_
      obtain rfl := Option.some.inj h
      exact x_ret (r := some (.int y4)) d_116_97 ⟨_, rfl, rfl⟩
    · replace h := ite_f c16 h
      refine x_iload d_116_87 0 rfl ?_
      refine x_bipush d_116_89 bp_16 ?_
      refine x_ior d_116_91 ?_
      refine x_goto (tgt := 97) d_116_92 rfl ?_
      obtain rfl := Option.some.inj h
      exact x_ret (r := some (.int (y4 ||| (16 : Int32)))) d_116_97 ⟨_, rfl, rfl⟩
  have J79 : ∀ (y4 : Int32) (res : Int32), j_116_79 F G S y4 = some res → Ek X (D + 1) m116 79 [(4, .int y4)] [] S (some (.int res)) S := by
    intro y4 res h
    unfold j_116_79 at h
    refine x_iconst d_116_79 ic_0 ?_
    exact J80 y4 (0 : Int32) _ h
  have J51 : ∀ (y1 : Int32) (y3 : Int32) (s0 : Int32) (s1 : Int32) (res : Int32), j_116_51 F G S y1 y3 s0 s1 = some res → Ek X (D + 1) m116 51 [(0, .ref 56), (1, .int y1), (3, .int y3)] [.int s1, .int s0] S (some (.int res)) S := by
    intro y1 y3 s0 s1 res h
    unfold j_116_51 at h
    refine x_ior d_116_51 ?_
    obtain ⟨v10, e11, h⟩ := lt_inv h
    refine y_istore (L1 := [(0, .ref 56), (1, .int y1), (3, .int y3), (4, .int v10)]) e11 d_116_52 (Nat.le_of_ble_eq_true rfl) rfl rfl ?_
    refine x_iload_n d_116_54 rfl 1 rfl ?_
    refine x_if_eq (tgt := 79) d_116_55 rfl (fun c12 => ?_) (fun c12 => ?_)
    · replace h := ite_t c12 h
      refine y_pick (L1 := [(4, .int v10)]) [3] rfl ?_
      exact J79 v10 _ h
    · replace h := ite_f c12 h
      refine x_iload_n d_116_58 rfl 2 rfl ?_
      refine x_aload_n d_116_59 rfl 0 rfl ?_
      refine x_iload_n d_116_60 rfl 1 rfl ?_
      obtain ⟨v14, q13, h⟩ := bd_inv h
      refine y_V1i (v := v14) (S1 := S) d_116_61 ml_7_81 kd_56 rfl (Nat.le_of_ble_eq_true rfl) (Nat.le_of_ble_eq_true rfl) (c_117 (by omega) q13) ?_
      refine x_isub d_116_64 ?_
      refine y_mabs d_116_65 ml_7_84 (Nat.le_of_ble_eq_true rfl) ?_
      refine x_aload_n d_116_68 rfl 0 rfl ?_
      refine y_getI d_116_69 fl_7_46 rfl kd_56 ?_
      refine x_icmp_le (tgt := 79) d_116_72 rfl (fun c15 => ?_) (fun c15 => ?_)
      · replace h := ite_t c15 h
        refine y_pick (L1 := [(4, .int v10)]) [3] rfl ?_
        exact J79 v10 _ h
      · replace h := ite_f c15 h
        refine x_iconst d_116_75 ic_1 ?_
        refine x_goto (tgt := 80) d_116_76 rfl ?_
        refine y_pick (L1 := [(4, .int v10)]) [3] rfl ?_
        exact J80 v10 (1 : Int32) _ h
  have J28 : ∀ (y1 : Int32) (y2 : Int32) (y3 : Int32) (s0 : Int32) (res : Int32), j_116_28 F G S y1 y2 y3 s0 = some res → Ek X (D + 1) m116 28 [(0, .ref 56), (1, .int y1), (2, .int y2), (3, .int y3)] [.int s0] S (some (.int res)) S := by
    intro y1 y2 y3 s0 res h
    unfold j_116_28 at h
    refine x_istore (L1 := [(0, .ref 56), (1, .int y1), (2, .int y2), (3, .int y3), (4, .int s0)]) d_116_28 (Nat.le_of_ble_eq_true rfl) rfl rfl ?_
    refine x_iload d_116_30 4 rfl ?_
    refine x_aload_n d_116_32 rfl 0 rfl ?_
    refine x_iload_n d_116_33 rfl 2 rfl ?_
    obtain ⟨v8, q7, h⟩ := bd_inv h
    refine y_V1i (v := v8) (S1 := S) d_116_34 ml_7_78 kd_56 rfl (Nat.le_of_ble_eq_true rfl) (Nat.le_of_ble_eq_true rfl) (c_118 (by omega) q7) ?_
    refine x_iload_n d_116_37 rfl 3 rfl ?_
    refine x_isub d_116_38 ?_
    refine x_aload_n d_116_39 rfl 0 rfl ?_
    refine y_getI d_116_40 fl_7_38 rfl kd_56 ?_
    refine x_icmp_le (tgt := 50) d_116_43 rfl (fun c9 => ?_) (fun c9 => ?_)
    · replace h := ite_t c9 h
      refine x_iconst d_116_50 ic_0 ?_
      refine y_pick (L1 := [(0, .ref 56), (1, .int y1), (3, .int y3)]) [0, 1, 3] rfl ?_
      exact J51 y1 y3 s0 (0 : Int32) _ h
    · replace h := ite_f c9 h
      refine x_iconst d_116_46 ic_2 ?_
      refine x_goto (tgt := 51) d_116_47 rfl ?_
      refine y_pick (L1 := [(0, .ref 56), (1, .int y1), (3, .int y3)]) [0, 1, 3] rfl ?_
      exact J51 y1 y3 s0 (2 : Int32) _ h
  refine x_iload_n d_116_0 rfl 2 rfl ?_
  refine x_if_ne (tgt := 6) d_116_1 rfl (fun c1 => ?_) (fun c1 => ?_)
  · replace h := ite_f c1 h
    refine x_aload_n d_116_6 rfl 0 rfl ?_
    refine x_iload_n d_116_7 rfl 2 rfl ?_
    obtain ⟨v3, q2, h⟩ := bd_inv h
    refine y_V1i (v := v3) (S1 := S) d_116_8 ml_7_81 kd_56 rfl (Nat.le_of_ble_eq_true rfl) (Nat.le_of_ble_eq_true rfl) (c_117 (by omega) q2) ?_
    refine x_istore_n (L1 := [(0, .ref 56), (1, .int p1), (2, .int p2), (3, .int v3)]) d_116_11 rfl (Nat.le_of_ble_eq_true rfl) rfl rfl ?_
    refine x_iload_n d_116_12 rfl 2 rfl ?_
    obtain ⟨v5, q4, h⟩ := bd_inv h
    refine y_S1i (v := v5) (S1 := S) d_116_13 ml_7_89 (Nat.le_of_ble_eq_true rfl) (Nat.le_of_ble_eq_true rfl) (c_91 (by omega) q4) ?_
    refine x_aload_n d_116_16 rfl 0 rfl ?_
    refine y_getI d_116_17 fl_7_42 rfl kd_56 ?_
    refine x_icmp_le (tgt := 27) d_116_20 rfl (fun c6 => ?_) (fun c6 => ?_)
    · replace h := ite_t c6 h
      refine x_iconst d_116_27 ic_0 ?_
      exact J28 p1 p2 v3 (0 : Int32) _ h
    · replace h := ite_f c6 h
      refine x_iconst d_116_23 ic_1 ?_
      refine x_goto (tgt := 28) d_116_24 rfl ?_
      exact J28 p1 p2 v3 (1 : Int32) _ h
  · replace h := ite_t c1 h
    refine x_iconst d_116_4 ic_0 ?_
    obtain rfl := Option.some.inj h
    exact x_ret (r := some (.int (0 : Int32))) d_116_5 ⟨_, rfl, rfl⟩
/-! NinetyPlayers$Keyboard.hasKeyTwice -/
def b_120_27 (F G : Nat) (S : St) (z1 : Int32) (z2 : Int32) (z3 : Int32) (k70 : Option (Int32)) (rec : Int32 → Option (Int32)) (w4 : Int32) : Option (Int32) :=
  if z3 = 0 then k70  else if z2 ≤ w4 then k70  else if ((z1 >>> (w4 &&& 31)) &&& (1 : Int32)) = 0 then lt (w4 + 1) fun v6 => rec v6 else gd (inB z2 10) (gd (inB w4 10) (if (S.1 57 z2.toNatClampNeg) = (S.1 57 w4.toNatClampNeg) then some (1 : Int32) else lt (w4 + 1) fun v11 => rec v11))
def b_120_2 (F G : Nat) (S : St) (z1 : Int32) (rec : Int32 → Option (Int32)) (w2 : Int32) : Option (Int32) :=
  if (S.1 56 1) ≤ w2 then some (0 : Int32) else if ((z1 >>> (w2 &&& 31)) &&& (1 : Int32)) = 0 then fx1 (b_120_27 F G S z1 w2 (0 : Int32) (lt (w2 + 1) fun v13 => rec v13)) F (0 : Int32) else fx1 (b_120_27 F G S z1 w2 (1 : Int32) (lt (w2 + 1) fun v15 => rec v15)) F (0 : Int32)
def fK_hasKeyTwice (F G : Nat) (S : St) (p1 : Int32) : Option (Int32) :=
  fx1 (b_120_2 F G S p1) F (1 : Int32)
set_option maxRecDepth 100000 in
set_option maxHeartbeats 4000000 in
theorem T_120_27 {X : Nat × (Nat → Int32)} {D F G : Nat} (hD : 0 ≤ D) {S : St} {z1 : Int32} {z2 : Int32} {z3 : Int32} {k70 : Option (Int32)} (hk70 : ∀ (res : Int32), k70 = some res → Ek X (D) m120 70 [(0, .ref 56), (1, .int z1), (2, .int z2)] [] S (some (.int res)) S) : ∀ (f : Nat) (w4 : Int32) (res : Int32), fx1 (b_120_27 F G S z1 z2 z3 k70 ) f w4 = some res → Ek X (D) m120 27 [(0, .ref 56), (1, .int z1), (2, .int z2), (3, .int z3), (4, .int w4)] [] S (some (.int res)) S := by
  refine fx1_ind ?_
  intro rec ih w4 res h
  unfold b_120_27 at h
  refine x_iload_n d_120_27 rfl 3 rfl ?_
  refine x_if_eq (tgt := 70) d_120_28 rfl (fun c3 => ?_) (fun c3 => ?_)
  · replace h := ite_t c3 h
    refine y_pick (L1 := [(0, .ref 56), (1, .int z1), (2, .int z2)]) [0, 1, 2] rfl ?_
    exact hk70  _ h
  · replace h := ite_f c3 h
    refine x_iload d_120_31 4 rfl ?_
    refine x_iload_n d_120_33 rfl 2 rfl ?_
    refine x_icmp_ge (tgt := 70) d_120_34 rfl (fun c4 => ?_) (fun c4 => ?_)
    · replace h := ite_t c4 h
      refine y_pick (L1 := [(0, .ref 56), (1, .int z1), (2, .int z2)]) [0, 1, 2] rfl ?_
      exact hk70  _ h
    · replace h := ite_f c4 h
      refine x_iload_n d_120_37 rfl 1 rfl ?_
      refine x_iload d_120_38 4 rfl ?_
      refine x_ishr d_120_40 ?_
      refine x_iconst d_120_41 ic_1 ?_
      refine x_iand d_120_42 ?_
      refine x_if_eq (tgt := 64) d_120_43 rfl (fun c5 => ?_) (fun c5 => ?_)
      · replace h := ite_t c5 h
        obtain ⟨v6, e7, h⟩ := lt_inv h
        refine y_iinc (L1 := [(0, .ref 56), (1, .int z1), (2, .int z2), (3, .int z3), (4, .int v6)]) e7 ic_1 d_120_64 4 rfl (Nat.le_of_ble_eq_true rfl) rfl rfl ?_
        refine x_goto (tgt := 27) d_120_67 rfl ?_
        exact ih v6 _ h
      · replace h := ite_f c5 h
        refine x_aload_n d_120_46 rfl 0 rfl ?_
        refine y_getR d_120_47 fl_7_9 rfl kd_56 rr_56_8 ?_
        refine x_iload_n d_120_50 rfl 2 rfl ?_
        obtain ⟨g8, h⟩ := gd_inv h
        refine y_iald d_120_51 kd_57 g8 ?_
        refine x_aload_n d_120_52 rfl 0 rfl ?_
        refine y_getR d_120_53 fl_7_9 rfl kd_56 rr_56_8 ?_
        refine x_iload d_120_56 4 rfl ?_
        obtain ⟨g9, h⟩ := gd_inv h
        refine y_iald d_120_58 kd_57 g9 ?_
        refine x_icmp_ne (tgt := 64) d_120_59 rfl (fun c10 => ?_) (fun c10 => ?_)
        · replace h := ite_f c10 h
          obtain ⟨v11, e12, h⟩ := lt_inv h
          refine y_iinc (L1 := [(0, .ref 56), (1, .int z1), (2, .int z2), (3, .int z3), (4, .int v11)]) e12 ic_1 d_120_64 4 rfl (Nat.le_of_ble_eq_true rfl) rfl rfl ?_
          refine x_goto (tgt := 27) d_120_67 rfl ?_
          exact ih v11 _ h
        · replace h := ite_t c10 h
          refine x_iconst d_120_62 ic_1 ?_
          obtain rfl := Option.some.inj h
          exact x_ret (r := some (.int (1 : Int32))) d_120_63 ⟨_, rfl, rfl⟩
set_option maxRecDepth 100000 in
set_option maxHeartbeats 4000000 in
theorem T_120_2 {X : Nat × (Nat → Int32)} {D F G : Nat} (hD : 0 ≤ D) {S : St} {z1 : Int32} : ∀ (f : Nat) (w2 : Int32) (res : Int32), fx1 (b_120_2 F G S z1 ) f w2 = some res → Ek X (D) m120 2 [(0, .ref 56), (1, .int z1), (2, .int w2)] [] S (some (.int res)) S := by
  refine fx1_ind ?_
  intro rec ih w2 res h
  unfold b_120_2 at h
  refine x_iload_n d_120_2 rfl 2 rfl ?_
  refine x_aload_n d_120_3 rfl 0 rfl ?_
  refine y_getI d_120_4 fl_7_34 rfl kd_56 ?_
  refine x_icmp_ge (tgt := 76) d_120_7 rfl (fun c1 => ?_) (fun c1 => ?_)
  · replace h := ite_t c1 h
    refine x_iconst d_120_76 ic_0 ?_
    obtain rfl := Option.some.inj h
    exact x_ret (r := some (.int (0 : Int32))) d_120_77 ⟨_, rfl, rfl⟩
  · replace h := ite_f c1 h
    refine x_iload_n d_120_10 rfl 1 rfl ?_
    refine x_iload_n d_120_11 rfl 2 rfl ?_
    refine x_ishr d_120_12 ?_
    refine x_iconst d_120_13 ic_1 ?_
    refine x_iand d_120_14 ?_
    refine x_if_eq (tgt := 22) d_120_15 rfl (fun c2 => ?_) (fun c2 => ?_)
    · replace h := ite_t c2 h
      refine x_iconst d_120_22 ic_0 ?_
      refine x_istore_n (L1 := [(0, .ref 56), (1, .int z1), (2, .int w2), (3, .int (0 : Int32))]) d_120_23 rfl (Nat.le_of_ble_eq_true rfl) rfl rfl ?_
      refine x_iconst d_120_24 ic_0 ?_
      refine x_istore (L1 := [(0, .ref 56), (1, .int z1), (2, .int w2), (3, .int (0 : Int32)), (4, .int (0 : Int32))]) d_120_25 (Nat.le_of_ble_eq_true rfl) rfl rfl ?_
      refine T_120_27 (by omega)  ?_ F (0 : Int32) _ h
      · intro  res h
        obtain ⟨v13, e14, h⟩ := lt_inv h
        refine y_iinc (L1 := [(0, .ref 56), (1, .int z1), (2, .int v13)]) e14 ic_1 d_120_70 2 rfl (Nat.le_of_ble_eq_true rfl) rfl rfl ?_
        refine x_goto (tgt := 2) d_120_73 rfl ?_
        exact ih v13 _ h
    · replace h := ite_f c2 h
      refine x_iconst d_120_18 ic_1 ?_
      refine x_goto (tgt := 23) d_120_19 rfl ?_
      refine x_istore_n (L1 := [(0, .ref 56), (1, .int z1), (2, .int w2), (3, .int (1 : Int32))]) d_120_23 rfl (Nat.le_of_ble_eq_true rfl) rfl rfl ?_
      refine x_iconst d_120_24 ic_0 ?_
      refine x_istore (L1 := [(0, .ref 56), (1, .int z1), (2, .int w2), (3, .int (1 : Int32)), (4, .int (0 : Int32))]) d_120_25 (Nat.le_of_ble_eq_true rfl) rfl rfl ?_
      refine T_120_27 (by omega)  ?_ F (0 : Int32) _ h
      · intro  res h
        obtain ⟨v15, e16, h⟩ := lt_inv h
        refine y_iinc (L1 := [(0, .ref 56), (1, .int z1), (2, .int v15)]) e16 ic_1 d_120_70 2 rfl (Nat.le_of_ble_eq_true rfl) rfl rfl ?_
        refine x_goto (tgt := 2) d_120_73 rfl ?_
        exact ih v15 _ h
set_option maxRecDepth 100000 in
set_option maxHeartbeats 4000000 in
theorem c_120 {X : Nat × (Nat → Int32)} {D F G : Nat} (hD : 0 ≤ D) {S : St} {p1 : Int32} {res : Int32} (h : fK_hasKeyTwice F G S p1 = some res) : Ek X (D) m120 0 [(0, .ref 56), (1, .int p1)] [] S (some (.int res)) S := by
  unfold fK_hasKeyTwice at h
  refine x_iconst d_120_0 ic_1 ?_
  refine x_istore_n (L1 := [(0, .ref 56), (1, .int p1), (2, .int (1 : Int32))]) d_120_1 rfl (Nat.le_of_ble_eq_true rfl) rfl rfl ?_
  refine T_120_2 (by omega)   F (1 : Int32) _ h
