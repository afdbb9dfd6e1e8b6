/-! NinetyPlayersModel.readNote -/
def j_230_119 (F G : Nat) (S : St) (s1 : Int32) (s2 : Int32) : Option (St) :=
  gd (inB s1 10) (lt (sI S 93 s1.toNatClampNeg s2) fun S39 => if (S39.1 78 2) = 0 then lt (sI S39 78 41 ((S39.1 78 41) + (1 : Int32))) fun S42 => some S42 else some S39)
def j_230_118 (F G : Nat) (S : St) (s1 : Int32) : Option (St) :=
  j_230_119 F G  S s1 (5 : Int32)
def fM_readNote (F G : Nat) (S : St) : Option (St) :=
  bd (fM_newName F G S (4 : Int32) (S.1 78 41)) fun S2 => lt (S2.1 78 41) fun v3 => bd (fM_want F G S2 (28518 : Int64)) fun S6 => bd2 (fM_oldPart F G S6) fun v8 S9 => gd (inB v3 10) (lt (sI S9 89 v3.toNatClampNeg v8) fun S11 => bd2 (fM_told F G S11 (24948 : Int64) (0 : Int32) ((S11.1 78 39) - (1 : Int32))) fun v14 S15 => gd (inB v3 10) (lt (sI S15 90 v3.toNatClampNeg v14) fun S17 => bd2 (fM_told F G S17 (7038329 : Int64) (0 : Int32) (87 : Int32)) fun v20 S21 => gd (inB v3 10) (lt (sI S21 91 v3.toNatClampNeg v20) fun S23 => bd2 (fM_told F G S23 (1819242087 : Int64) (1 : Int32) (12 : Int32)) fun v26 S27 => gd (inB v3 10) (lt (sI S27 92 v3.toNatClampNeg v26) fun S29 => if (S29.1 78 2) = 0 then bd (fM_isWord F G S29 (1819243876 : Int64)) fun v33 => if v33 = 0 then j_230_118 F G  S29 v3 else bd2 (fM_told F G S29 (1819243876 : Int64) (1 : Int32) (9 : Int32)) fun v36 S37 => j_230_119 F G  S37 v3 v36 else j_230_118 F G  S29 v3))))
set_option maxRecDepth 100000 in
set_option maxHeartbeats 4000000 in
theorem c_230 {X : Nat × (Nat → Int32)} {D F G : Nat} (hD : 4 ≤ D) {S : St} {res : St} (h : fM_readNote F G S  = some res) : Ek X (D) m230 0 [(0, .ref 78)] [] S none res := by
  obtain ⟨D, rfl⟩ : ∃ E, D = E + 1 := ⟨D - 1, by omega⟩
  unfold fM_readNote at h
  have J119 : ∀ (S : St) (s1 : Int32) (s2 : Int32) (res : St), j_230_119 F G S s1 s2 = some res → Ek X (D + 1) m230 119 [(0, .ref 78)] [.int s2, .int s1, .ref 93] S none res := by
    intro S s1 s2 res h
    unfold j_230_119 at h
    obtain ⟨g38, h⟩ := gd_inv h
    obtain ⟨S39, e40, h⟩ := lt_inv h
    refine y_iast e40 d_230_119 kd_93 g38 ?_
    refine x_aload_n d_230_120 rfl 0 rfl ?_
    refine y_getI d_230_121 fl_11_185 rfl kd_78 ?_
    refine x_if_ne (tgt := 137) d_230_124 rfl (fun c41 => ?_) (fun c41 => ?_)
    · replace h := ite_f c41 h
      obtain rfl := Option.some.inj h
      exact x_ret (r := none) d_230_137 rfl
    · replace h := ite_t c41 h
      refine x_aload_n d_230_127 rfl 0 rfl ?_
      refine x_dup d_230_128 rfl ?_
      refine y_getI d_230_129 fl_11_350 rfl kd_78 ?_
      refine x_iconst d_230_132 ic_1 ?_
      refine x_iadd d_230_133 ?_
      obtain ⟨S42, e43, h⟩ := lt_inv h
      refine y_putI e43 d_230_134 fl_11_350 rfl rfl kd_78 rfl rfl ?_
      obtain rfl := Option.some.inj h
      exact x_ret (r := none) d_230_137 rfl
  have J118 : ∀ (S : St) (s1 : Int32) (res : St), j_230_118 F G S s1 = some res → Ek X (D + 1) m230 118 [(0, .ref 78)] [.int s1, .ref 93] S none res := by
    intro S s1 res h
    unfold j_230_118 at h
    refine x_iconst d_230_118 ic_5 ?_
    exact J119 S s1 (5 : Int32) _ h
  refine x_aload_n d_230_0 rfl 0 rfl ?_
  refine x_iconst d_230_1 ic_4 ?_
  refine x_aload_n d_230_2 rfl 0 rfl ?_
  refine y_getI d_230_3 fl_11_350 rfl kd_78 ?_
  obtain ⟨S2, q1, h⟩ := bd_inv h
  refine y_V2v (S1 := S2) d_230_6 ml_11_347 kd_78 rfl (Nat.le_of_ble_eq_true rfl) (Nat.le_of_ble_eq_true rfl) (c_225 (by omega) q1) ?_
  refine x_aload_n d_230_9 rfl 0 rfl ?_
  refine y_getI d_230_10 fl_11_350 rfl kd_78 ?_
  obtain ⟨v3, e4, h⟩ := lt_inv h
  refine y_istore_n (L1 := [(0, .ref 78), (1, .int v3)]) e4 d_230_13 rfl (Nat.le_of_ble_eq_true rfl) rfl rfl ?_
  refine x_aload_n d_230_14 rfl 0 rfl ?_
  refine x_ldc2 d_230_15 kc_11_198 ?_
  obtain ⟨S6, q5, h⟩ := bd_inv h
  refine y_V1v (S1 := S6) d_230_18 ml_11_244 kd_78 rfl (Nat.le_of_ble_eq_true rfl) (Nat.le_of_ble_eq_true rfl) (c_221 (by omega) q5) ?_
  refine x_aload_n d_230_21 rfl 0 rfl ?_
  refine y_getR d_230_22 fl_11_45 rfl kd_78 rr_78_28 ?_
  refine x_iload_n d_230_25 rfl 1 rfl ?_
  refine x_aload_n d_230_26 rfl 0 rfl ?_
  obtain ⟨v8, S9, q7, h⟩ := bd2_inv h
  refine y_V0i (v := v8) (S1 := S9) d_230_27 ml_11_353 kd_78 rfl (Nat.le_of_ble_eq_true rfl) (Nat.le_of_ble_eq_true rfl) (c_231 (by omega) q7) ?_
  obtain ⟨g10, h⟩ := gd_inv h
  obtain ⟨S11, e12, h⟩ := lt_inv h
  refine y_iast e12 d_230_30 kd_89 g10 ?_
  refine x_aload_n d_230_31 rfl 0 rfl ?_
  refine y_getR d_230_32 fl_11_48 rfl kd_78 rr_78_29 ?_
  refine x_iload_n d_230_35 rfl 1 rfl ?_
  refine x_aload_n d_230_36 rfl 0 rfl ?_
  refine x_ldc2 d_230_37 kc_11_200 ?_
  refine x_iconst d_230_40 ic_0 ?_
  refine x_aload_n d_230_41 rfl 0 rfl ?_
  refine y_getI d_230_42 fl_11_356 rfl kd_78 ?_
  refine x_iconst d_230_45 ic_1 ?_
  refine x_isub d_230_46 ?_
  obtain ⟨v14, S15, q13, h⟩ := bd2_inv h
  refine y_V3i (v := v14) (S1 := S15) d_230_47 ml_11_359 kd_78 rfl (Nat.le_of_ble_eq_true rfl) (Nat.le_of_ble_eq_true rfl) (c_220 (by omega) q13) ?_
  obtain ⟨g16, h⟩ := gd_inv h
  obtain ⟨S17, e18, h⟩ := lt_inv h
  refine y_iast e18 d_230_50 kd_90 g16 ?_
  refine x_aload_n d_230_51 rfl 0 rfl ?_
  refine y_getR d_230_52 fl_11_51 rfl kd_78 rr_78_30 ?_
  refine x_iload_n d_230_55 rfl 1 rfl ?_
  refine x_aload_n d_230_56 rfl 0 rfl ?_
  refine x_ldc2 d_230_57 kc_11_202 ?_
  refine x_iconst d_230_60 ic_0 ?_
  refine x_bipush d_230_61 bp_87 ?_
  obtain ⟨v20, S21, q19, h⟩ := bd2_inv h
  refine y_V3i (v := v20) (S1 := S21) d_230_63 ml_11_359 kd_78 rfl (Nat.le_of_ble_eq_true rfl) (Nat.le_of_ble_eq_true rfl) (c_220 (by omega) q19) ?_
  obtain ⟨g22, h⟩ := gd_inv h
  obtain ⟨S23, e24, h⟩ := lt_inv h
  refine y_iast e24 d_230_66 kd_91 g22 ?_
  refine x_aload_n d_230_67 rfl 0 rfl ?_
  refine y_getR d_230_68 fl_11_54 rfl kd_78 rr_78_31 ?_
  refine x_iload_n d_230_71 rfl 1 rfl ?_
  refine x_aload_n d_230_72 rfl 0 rfl ?_
  refine x_ldc2 d_230_73 kc_11_204 ?_
  refine x_iconst d_230_76 ic_1 ?_
  refine x_bipush d_230_77 bp_12 ?_
  obtain ⟨v26, S27, q25, h⟩ := bd2_inv h
  refine y_V3i (v := v26) (S1 := S27) d_230_79 ml_11_359 kd_78 rfl (Nat.le_of_ble_eq_true rfl) (Nat.le_of_ble_eq_true rfl) (c_220 (by omega) q25) ?_
  obtain ⟨g28, h⟩ := gd_inv h
  obtain ⟨S29, e30, h⟩ := lt_inv h
  refine y_iast e30 d_230_82 kd_92 g28 ?_
  refine x_aload_n d_230_83 rfl 0 rfl ?_
  refine y_getR d_230_84 fl_11_57 rfl kd_78 rr_78_32 ?_
  refine x_iload_n d_230_87 rfl 1 rfl ?_
  refine x_aload_n d_230_88 rfl 0 rfl ?_
  refine y_getI d_230_89 fl_11_185 rfl kd_78 ?_
  refine x_if_ne (tgt := 118) d_230_92 rfl (fun c31 => ?_) (fun c31 => ?_)
  · replace h := ite_f c31 h
    refine y_pick (L1 := [(0, .ref 78)]) [0] rfl ?_
    exact J118 S29 v3 _ h
  · replace h := ite_t c31 h
    refine x_aload_n d_230_95 rfl 0 rfl ?_
    refine x_ldc2 d_230_96 kc_11_206 ?_
    obtain ⟨v33, q32, h⟩ := bd_inv h
    refine y_V1i (v := v33) (S1 := S29) d_230_99 ml_11_234 kd_78 rfl (Nat.le_of_ble_eq_true rfl) (Nat.le_of_ble_eq_true rfl) (c_219 (by omega) q32) ?_
    refine x_if_eq (tgt := 118) d_230_102 rfl (fun c34 => ?_) (fun c34 => ?_)
    · replace h := ite_t c34 h
      refine y_pick (L1 := [(0, .ref 78)]) [0] rfl ?_
      exact J118 S29 v3 _ h
    · replace h := ite_f c34 h
      refine x_aload_n d_230_105 rfl 0 rfl ?_
      refine x_ldc2 d_230_106 kc_11_206 ?_
      refine x_iconst d_230_109 ic_1 ?_
      refine x_bipush d_230_110 bp_9 ?_
      obtain ⟨v36, S37, q35, h⟩ := bd2_inv h
      refine y_V3i (v := v36) (S1 := S37) d_230_112 ml_11_359 kd_78 rfl (Nat.le_of_ble_eq_true rfl) (Nat.le_of_ble_eq_true rfl) (c_220 (by omega) q35) ?_
      refine x_goto (tgt := 119) d_230_115 rfl ?_
      refine y_pick (L1 := [(0, .ref 78)]) [0] rfl ?_
      exact J119 S37 v3 v36 _ h
/-! NinetyPlayersModel.tight -/
def fM_tight (F G : Nat) (S : St) (p1 : Int32) : Option (Int32) :=
  if p1 = 21 then some (3 : Int32) else if p1 = 38 then some (2 : Int32) else if p1 = 43 then some (5 : Int32) else if p1 = 45 then some (5 : Int32) else if p1 = 60 then some (4 : Int32) else if p1 = 61 then some (4 : Int32) else if p1 = 62 then some (4 : Int32) else if p1 = 124 then some (1 : Int32) else some (6 : Int32)
set_option maxRecDepth 100000 in
set_option maxHeartbeats 4000000 in
theorem c_235 {X : Nat × (Nat → Int32)} {D F G : Nat} (hD : 0 ≤ D) {S : St} {p1 : Int32} {res : Int32} (h : fM_tight F G S p1 = some res) : Ek X (D) m235 0 [(0, .int p1)] [] S (some (.int res)) S := by
  unfold fM_tight at h
  refine x_iload_n d_235_0 rfl 0 rfl ?_
  by_cases c1 : p1 = 21
  · replace h := ite_t c1 h
    refine x_look (tgt := 80) d_235_1 (by decide +kernel) (by rw [c1] <;> rfl) rfl ?_
    refine x_iconst d_235_80 ic_3 ?_
    obtain rfl := Option.some.inj h
    exact x_ret (r := some (.int (3 : Int32))) d_235_81 ⟨_, rfl, rfl⟩
  replace h := ite_f c1 h
  by_cases c2 : p1 = 38
  · replace h := ite_t c2 h
    refine x_look (tgt := 78) d_235_1 (by decide +kernel) (by rw [c2] <;> rfl) rfl ?_
    refine x_iconst d_235_78 ic_2 ?_
    obtain rfl := Option.some.inj h
    exact x_ret (r := some (.int (2 : Int32))) d_235_79 ⟨_, rfl, rfl⟩
  replace h := ite_f c2 h
  by_cases c3 : p1 = 43
  · replace h := ite_t c3 h
    refine x_look (tgt := 84) d_235_1 (by decide +kernel) (by rw [c3] <;> rfl) rfl ?_
    refine x_iconst d_235_84 ic_5 ?_
    obtain rfl := Option.some.inj h
    exact x_ret (r := some (.int (5 : Int32))) d_235_85 ⟨_, rfl, rfl⟩
  replace h := ite_f c3 h
  by_cases c4 : p1 = 45
  · replace h := ite_t c4 h
    refine x_look (tgt := 84) d_235_1 (by decide +kernel) (by rw [c4] <;> rfl) rfl ?_
    refine x_iconst d_235_84 ic_5 ?_
    obtain rfl := Option.some.inj h
    exact x_ret (r := some (.int (5 : Int32))) d_235_85 ⟨_, rfl, rfl⟩
  replace h := ite_f c4 h
  by_cases c5 : p1 = 60
  · replace h := ite_t c5 h
    refine x_look (tgt := 82) d_235_1 (by decide +kernel) (by rw [c5] <;> rfl) rfl ?_
    refine x_iconst d_235_82 ic_4 ?_
    obtain rfl := Option.some.inj h
    exact x_ret (r := some (.int (4 : Int32))) d_235_83 ⟨_, rfl, rfl⟩
  replace h := ite_f c5 h
  by_cases c6 : p1 = 61
  · replace h := ite_t c6 h
    refine x_look (tgt := 82) d_235_1 (by decide +kernel) (by rw [c6] <;> rfl) rfl ?_
    refine x_iconst d_235_82 ic_4 ?_
    obtain rfl := Option.some.inj h
    exact x_ret (r := some (.int (4 : Int32))) d_235_83 ⟨_, rfl, rfl⟩
  replace h := ite_f c6 h
  by_cases c7 : p1 = 62
  · replace h := ite_t c7 h
    refine x_look (tgt := 82) d_235_1 (by decide +kernel) (by rw [c7] <;> rfl) rfl ?_
    refine x_iconst d_235_82 ic_4 ?_
    obtain rfl := Option.some.inj h
    exact x_ret (r := some (.int (4 : Int32))) d_235_83 ⟨_, rfl, rfl⟩
  replace h := ite_f c7 h
  by_cases c8 : p1 = 124
  · replace h := ite_t c8 h
    refine x_look (tgt := 76) d_235_1 (by decide +kernel) (by rw [c8] <;> rfl) rfl ?_
    refine x_iconst d_235_76 ic_1 ?_
    obtain rfl := Option.some.inj h
    exact x_ret (r := some (.int (1 : Int32))) d_235_77 ⟨_, rfl, rfl⟩
  replace h := ite_f c8 h
  refine x_look (off := 85) (tgt := 86) d_235_1 (by decide +kernel) (by show Op.lookupswitch.offset [(21, 79), (38, 77), (43, 83), (45, 83), (60, 81), (61, 81), (62, 81), (124, 75)] 85 _ = _; rw [lv_osw (a := 21) c1 (by decide), lv_osw (a := 38) c2 (by decide), lv_osw (a := 43) c3 (by decide), lv_osw (a := 45) c4 (by decide), lv_osw (a := 60) c5 (by decide), lv_osw (a := 61) c6 (by decide), lv_osw (a := 62) c7 (by decide), lv_osw (a := 124) c8 (by decide)]; rfl) rfl ?_
  refine x_bipush d_235_86 bp_6 ?_
  obtain rfl := Option.some.inj h
  exact x_ret (r := some (.int (6 : Int32))) d_235_88 ⟨_, rfl, rfl⟩
/-! NinetyPlayersModel.mayNot -/
def fM_mayNot (F G : Nat) (S : St) : Option (Int32) :=
  if (S.1 78 19) = 0 then some (1 : Int32) else gd (inB ((S.1 78 19) - (1 : Int32)) 160) (if (S.1 85 ((S.1 78 19) - (1 : Int32)).toNatClampNeg) = (20 : Int32) then some (1 : Int32) else gd (inB ((S.1 78 19) - (1 : Int32)) 160) (bd (fM_tight F G S (S.1 85 ((S.1 78 19) - (1 : Int32)).toNatClampNeg)) fun v6 => if (4 : Int32) ≤ v6 then some (0 : Int32) else some (1 : Int32)))
set_option maxRecDepth 100000 in
set_option maxHeartbeats 4000000 in
theorem c_234 {X : Nat × (Nat → Int32)} {D F G : Nat} (hD : 1 ≤ D) {S : St} {res : Int32} (h : fM_mayNot F G S  = some res) : Ek X (D) m234 0 [(0, .ref 78)] [] S (some (.int res)) S := by
  obtain ⟨D, rfl⟩ : ∃ E, D = E + 1 := ⟨D - 1, by omega⟩
  unfold fM_mayNot at h
  refine x_aload_n d_234_0 rfl 0 rfl ?_
  refine y_getI d_234_1 fl_11_264 rfl kd_78 ?_
  refine x_if_eq (tgt := 41) d_234_4 rfl (fun c1 => ?_) (fun c1 => ?_)
  · replace h := ite_t c1 h
    refine x_iconst d_234_41 ic_1 ?_
    refine x_goto (tgt := 46) d_234_42 rfl ?_
    obtain rfl := Option.some.inj h
    exact x_ret (r := some (.int (1 : Int32))) d_234_46 ⟨_, rfl, rfl⟩
  · replace h := ite_f c1 h
    refine x_aload_n d_234_7 rfl 0 rfl ?_
    refine y_getR d_234_8 fl_11_33 rfl kd_78 rr_78_15 ?_
    refine x_aload_n d_234_11 rfl 0 rfl ?_
    refine y_getI d_234_12 fl_11_264 rfl kd_78 ?_
    refine x_iconst d_234_15 ic_1 ?_
    refine x_isub d_234_16 ?_
    obtain ⟨g2, h⟩ := gd_inv h
    refine y_iald d_234_17 kd_85 g2 ?_
    refine x_bipush d_234_18 bp_20 ?_
    refine x_icmp_eq (tgt := 41) d_234_20 rfl (fun c3 => ?_) (fun c3 => ?_)
    · replace h := ite_t c3 h
      refine x_iconst d_234_41 ic_1 ?_
      refine x_goto (tgt := 46) d_234_42 rfl ?_
      obtain rfl := Option.some.inj h
      exact x_ret (r := some (.int (1 : Int32))) d_234_46 ⟨_, rfl, rfl⟩
    · replace h := ite_f c3 h
      refine x_aload_n d_234_23 rfl 0 rfl ?_
      refine y_getR d_234_24 fl_11_33 rfl kd_78 rr_78_15 ?_
      refine x_aload_n d_234_27 rfl 0 rfl ?_
      refine y_getI d_234_28 fl_11_264 rfl kd_78 ?_
      refine x_iconst d_234_31 ic_1 ?_
      refine x_isub d_234_32 ?_
      obtain ⟨g4, h⟩ := gd_inv h
      refine y_iald d_234_33 kd_85 g4 ?_
      obtain ⟨v6, q5, h⟩ := bd_inv h
      refine y_S1i (v := v6) (S1 := S) d_234_34 ml_11_267 (Nat.le_of_ble_eq_true rfl) (Nat.le_of_ble_eq_true rfl) (c_235 (by omega) q5) ?_
      refine x_iconst d_234_37 ic_4 ?_
      refine x_icmp_ge (tgt := 45) d_234_38 rfl (fun c7 => ?_) (fun c7 => ?_)
      · replace h := ite_t c7 h
        refine x_iconst d_234_45 ic_0 ?_
        obtain rfl := Option.some.inj h
        exact x_ret (r := some (.int (0 : Int32))) d_234_46 ⟨_, rfl, rfl⟩
      · replace h := ite_f c7 h
        refine x_iconst d_234_41 ic_1 ?_
        refine x_goto (tgt := 46) d_234_42 rfl ?_
        obtain rfl := Option.some.inj h
        exact x_ret (r := some (.int (1 : Int32))) d_234_46 ⟨_, rfl, rfl⟩
/-! NinetyPlayersModel.openUp -/
def fM_openUp (F G : Nat) (S : St) (p1 : Int32) : Option (St) :=
  gd (inB (S.1 78 19) 160) (lt (sI S 85 (S.1 78 19).toNatClampNeg p1) fun S2 => lt (sI S2 78 19 ((S2.1 78 19) + (1 : Int32))) fun S4 => lt (sI S4 78 23 ((S4.1 78 23) + (1 : Int32))) fun S6 => if (S6.1 78 2) = 0 then bd (fM_token F G S6 ) fun S10 => some S10 else some S6)
set_option maxRecDepth 100000 in
set_option maxHeartbeats 4000000 in
theorem c_236 {X : Nat × (Nat → Int32)} {D F G : Nat} (hD : 2 ≤ D) {S : St} {p1 : Int32} {res : St} (h : fM_openUp F G S p1 = some res) : Ek X (D) m236 0 [(0, .ref 78), (1, .int p1)] [] S none res := by
  obtain ⟨D, rfl⟩ : ∃ E, D = E + 1 := ⟨D - 1, by omega⟩
  unfold fM_openUp at h
  refine x_aload_n d_236_0 rfl 0 rfl ?_
  refine y_getR d_236_1 fl_11_33 rfl kd_78 rr_78_15 ?_
  refine x_aload_n d_236_4 rfl 0 rfl ?_
  refine y_getI d_236_5 fl_11_264 rfl kd_78 ?_
  refine x_iload_n d_236_8 rfl 1 rfl ?_
  obtain ⟨g1, h⟩ := gd_inv h
  obtain ⟨S2, e3, h⟩ := lt_inv h
  refine y_iast e3 d_236_9 kd_85 g1 ?_
  refine x_aload_n d_236_10 rfl 0 rfl ?_
  refine x_dup d_236_11 rfl ?_
  refine y_getI d_236_12 fl_11_264 rfl kd_78 ?_
  refine x_iconst d_236_15 ic_1 ?_
  refine x_iadd d_236_16 ?_
  obtain ⟨S4, e5, h⟩ := lt_inv h
  refine y_putI e5 d_236_17 fl_11_264 rfl rfl kd_78 rfl rfl ?_
  refine x_aload_n d_236_20 rfl 0 rfl ?_
  refine x_dup d_236_21 rfl ?_
  refine y_getI d_236_22 fl_11_274 rfl kd_78 ?_
  refine x_iconst d_236_25 ic_1 ?_
  refine x_iadd d_236_26 ?_
  obtain ⟨S6, e7, h⟩ := lt_inv h
  refine y_putI e7 d_236_27 fl_11_274 rfl rfl kd_78 rfl rfl ?_
  refine x_aload_n d_236_30 rfl 0 rfl ?_
  refine y_getI d_236_31 fl_11_185 rfl kd_78 ?_
  refine x_if_ne (tgt := 41) d_236_34 rfl (fun c8 => ?_) (fun c8 => ?_)
  · replace h := ite_f c8 h
    obtain rfl := Option.some.inj h
    exact x_ret (r := none) d_236_41 rfl
  · replace h := ite_t c8 h
    refine x_aload_n d_236_37 rfl 0 rfl ?_
    obtain ⟨S10, q9, h⟩ := bd_inv h
    refine y_V0v (S1 := S10) d_236_38 ml_11_241 kd_78 rfl (Nat.le_of_ble_eq_true rfl) (Nat.le_of_ble_eq_true rfl) (c_213 (by omega) q9) ?_
    obtain rfl := Option.some.inj h
    exact x_ret (r := none) d_236_41 rfl
/-! NinetyPlayersModel.isFull -/
def fM_isFull (F G : Nat) (S : St) : Option (Int32) :=
  if (S.1 78 20) = (60 : Int32) then some (1 : Int32) else if (S.1 78 22) = (30 : Int32) then some (1 : Int32) else some (0 : Int32)
set_option maxRecDepth 100000 in
set_option maxHeartbeats 4000000 in
theorem c_237 {X : Nat × (Nat → Int32)} {D F G : Nat} (hD : 0 ≤ D) {S : St} {res : Int32} (h : fM_isFull F G S  = some res) : Ek X (D) m237 0 [(0, .ref 78)] [] S (some (.int res)) S := by
  unfold fM_isFull at h
  refine x_aload_n d_237_0 rfl 0 rfl ?_
  refine y_getI d_237_1 fl_11_277 rfl kd_78 ?_
  refine x_bipush d_237_4 bp_60 ?_
  refine x_icmp_eq (tgt := 18) d_237_6 rfl (fun c1 => ?_) (fun c1 => ?_)
  · replace h := ite_t c1 h
    refine x_iconst d_237_18 ic_1 ?_
    refine x_goto (tgt := 23) d_237_19 rfl ?_
    obtain rfl := Option.some.inj h
    exact x_ret (r := some (.int (1 : Int32))) d_237_23 ⟨_, rfl, rfl⟩
  · replace h := ite_f c1 h
    refine x_aload_n d_237_9 rfl 0 rfl ?_
    refine y_getI d_237_10 fl_11_280 rfl kd_78 ?_
    refine x_bipush d_237_13 bp_30 ?_
    refine x_icmp_ne (tgt := 22) d_237_15 rfl (fun c2 => ?_) (fun c2 => ?_)
    · replace h := ite_f c2 h
      refine x_iconst d_237_22 ic_0 ?_
      obtain rfl := Option.some.inj h
      exact x_ret (r := some (.int (0 : Int32))) d_237_23 ⟨_, rfl, rfl⟩
    · replace h := ite_t c2 h
      refine x_iconst d_237_18 ic_1 ?_
      refine x_goto (tgt := 23) d_237_19 rfl ?_
      obtain rfl := Option.some.inj h
      exact x_ret (r := some (.int (1 : Int32))) d_237_23 ⟨_, rfl, rfl⟩
/-! NinetyPlayersModel.countUnit -/
def fM_countUnit (F G : Nat) (S : St) : Option (St) :=
  lt (sI S 78 20 ((S.1 78 20) + (1 : Int32))) fun S1 => lt (sI S1 78 22 ((S1.1 78 22) + (1 : Int32))) fun S3 => some S3
set_option maxRecDepth 100000 in
set_option maxHeartbeats 4000000 in
theorem c_238 {X : Nat × (Nat → Int32)} {D F G : Nat} (hD : 0 ≤ D) {S : St} {res : St} (h : fM_countUnit F G S  = some res) : Ek X (D) m238 0 [(0, .ref 78)] [] S none res := by
  unfold fM_countUnit at h
  refine x_aload_n d_238_0 rfl 0 rfl ?_
  refine x_dup d_238_1 rfl ?_
  refine y_getI d_238_2 fl_11_277 rfl kd_78 ?_
  refine x_iconst d_238_5 ic_1 ?_
  refine x_iadd d_238_6 ?_
  obtain ⟨S1, e2, h⟩ := lt_inv h
  refine y_putI e2 d_238_7 fl_11_277 rfl rfl kd_78 rfl rfl ?_
  refine x_aload_n d_238_10 rfl 0 rfl ?_
  refine x_dup d_238_11 rfl ?_
  refine y_getI d_238_12 fl_11_280 rfl kd_78 ?_
  refine x_iconst d_238_15 ic_1 ?_
  refine x_iadd d_238_16 ?_
  obtain ⟨S3, e4, h⟩ := lt_inv h
  refine y_putI e4 d_238_17 fl_11_280 rfl rfl kd_78 rfl rfl ?_
  obtain rfl := Option.some.inj h
  exact x_ret (r := none) d_238_20 rfl
/-! NinetyPlayersModel.asked -/
def fM_asked (F G : Nat) (S : St) : Option (Int32) :=
  if (S.1 78 6) = (1 : Int32) then if (lg_cmp (S.2.1 78 9) (1919904869 : Int64)) = 0 then some (0 : Int32) else if (lg_cmp (S.2.1 78 9) (7038329 : Int64)) = 0 then some (1 : Int32) else if (lg_cmp (S.2.1 78 9) (1819242087 : Int64)) = 0 then some (2 : Int32) else if (lg_cmp (S.2.1 78 9) (1819243876 : Int64)) = 0 then some (3 : Int32) else if (lg_cmp (S.2.1 78 9) (28270047624193380 : Int64)) = 0 then some (4 : Int32) else if (lg_cmp (S.2.1 78 9) (1650811252 : Int64)) = 0 then some (5 : Int32) else some (-1 : Int32) else some (-1 : Int32)
set_option maxRecDepth 100000 in
set_option maxHeartbeats 4000000 in
theorem c_239 {X : Nat × (Nat → Int32)} {D F G : Nat} (hD : 0 ≤ D) {S : St} {res : Int32} (h : fM_asked F G S  = some res) : Ek X (D) m239 0 [(0, .ref 78)] [] S (some (.int res)) S := by
  unfold fM_asked at h
  refine x_aload_n d_239_0 rfl 0 rfl ?_
  refine y_getI d_239_1 fl_11_172 rfl kd_78 ?_
  refine x_iconst d_239_4 ic_1 ?_
  refine x_icmp_eq (tgt := 10) d_239_5 rfl (fun c1 => ?_) (fun c1 => ?_)
  · replace h := ite_t c1 h
    refine x_aload_n d_239_10 rfl 0 rfl ?_
    refine y_getL d_239_11 fl_11_165 rfl kd_78 ?_
    refine x_ldc2 d_239_14 kc_11_218 ?_
    refine x_lcmp d_239_17 ?_
    refine x_if_ne (tgt := 23) d_239_18 rfl (fun c2 => ?_) (fun c2 => ?_)
    · replace h := ite_f c2 h
      refine x_aload_n d_239_23 rfl 0 rfl ?_
      refine y_getL d_239_24 fl_11_165 rfl kd_78 ?_
      refine x_ldc2 d_239_27 kc_11_202 ?_
      refine x_lcmp d_239_30 ?_
      refine x_if_ne (tgt := 36) d_239_31 rfl (fun c3 => ?_) (fun c3 => ?_)
      · replace h := ite_f c3 h
        refine x_aload_n d_239_36 rfl 0 rfl ?_
        refine y_getL d_239_37 fl_11_165 rfl kd_78 ?_
        refine x_ldc2 d_239_40 kc_11_204 ?_
        refine x_lcmp d_239_43 ?_
        refine x_if_ne (tgt := 49) d_239_44 rfl (fun c4 => ?_) (fun c4 => ?_)
        · replace h := ite_f c4 h
          refine x_aload_n d_239_49 rfl 0 rfl ?_
          refine y_getL d_239_50 fl_11_165 rfl kd_78 ?_
          refine x_ldc2 d_239_53 kc_11_206 ?_
          refine x_lcmp d_239_56 ?_
          refine x_if_ne (tgt := 62) d_239_57 rfl (fun c5 => ?_) (fun c5 => ?_)
          · replace h := ite_f c5 h
            refine x_aload_n d_239_62 rfl 0 rfl ?_
            refine y_getL d_239_63 fl_11_165 rfl kd_78 ?_
            refine x_ldc2 d_239_66 kc_11_220 ?_
            refine x_lcmp d_239_69 ?_
            refine x_if_ne (tgt := 75) d_239_70 rfl (fun c6 => ?_) (fun c6 => ?_)
            · replace h := ite_f c6 h
              refine x_aload_n d_239_75 rfl 0 rfl ?_
              refine y_getL d_239_76 fl_11_165 rfl kd_78 ?_
              refine x_ldc2 d_239_79 kc_11_222 ?_
              refine x_lcmp d_239_82 ?_
              refine x_if_ne (tgt := 90) d_239_83 rfl (fun c7 => ?_) (fun c7 => ?_)
              · replace h := ite_f c7 h
                refine x_iconst d_239_90 ic_m1 ?_
                obtain rfl := Option.some.inj h
                exact x_ret (r := some (.int (-1 : Int32))) d_239_91 ⟨_, rfl, rfl⟩
              · replace h := ite_t c7 h
                refine x_iconst d_239_86 ic_5 ?_
                refine x_goto (tgt := 91) d_239_87 rfl ?_
                obtain rfl := Option.some.inj h
                exact x_ret (r := some (.int (5 : Int32))) d_239_91 ⟨_, rfl, rfl⟩
            · replace h := ite_t c6 h
              refine x_iconst d_239_73 ic_4 ?_
              obtain rfl := Option.some.inj h
              exact x_ret (r := some (.int (4 : Int32))) d_239_74 ⟨_, rfl, rfl⟩
          · replace h := ite_t c5 h
            refine x_iconst d_239_60 ic_3 ?_
            obtain rfl := Option.some.inj h
            exact x_ret (r := some (.int (3 : Int32))) d_239_61 ⟨_, rfl, rfl⟩
        · replace h := ite_t c4 h
          refine x_iconst d_239_47 ic_2 ?_
          obtain rfl := Option.some.inj h
          exact x_ret (r := some (.int (2 : Int32))) d_239_48 ⟨_, rfl, rfl⟩
      · replace h := ite_t c3 h
        refine x_iconst d_239_34 ic_1 ?_
        obtain rfl := Option.some.inj h
        exact x_ret (r := some (.int (1 : Int32))) d_239_35 ⟨_, rfl, rfl⟩
    · replace h := ite_t c2 h
      refine x_iconst d_239_21 ic_0 ?_
      obtain rfl := Option.some.inj h
      exact x_ret (r := some (.int (0 : Int32))) d_239_22 ⟨_, rfl, rfl⟩
  · replace h := ite_f c1 h
    refine x_iconst d_239_8 ic_m1 ?_
    obtain rfl := Option.some.inj h
    exact x_ret (r := some (.int (-1 : Int32))) d_239_9 ⟨_, rfl, rfl⟩
/-! NinetyPlayersModel.add -/
def fM_add (F G : Nat) (S : St) (p1 : Int32) (p2 : Int32) : Option (St) :=
  gd (inB (S.1 78 17) 320) (lt (sI S 81 (S.1 78 17).toNatClampNeg p1) fun S2 => gd (inB (S2.1 78 17) 320) (lt (sI S2 82 (S2.1 78 17).toNatClampNeg p2) fun S5 => lt (sI S5 78 17 ((S5.1 78 17) + (1 : Int32))) fun S7 => some S7))
set_option maxRecDepth 100000 in
set_option maxHeartbeats 4000000 in
theorem c_240 {X : Nat × (Nat → Int32)} {D F G : Nat} (hD : 0 ≤ D) {S : St} {p1 : Int32} {p2 : Int32} {res : St} (h : fM_add F G S p1 p2 = some res) : Ek X (D) m240 0 [(0, .ref 78), (1, .int p1), (2, .int p2)] [] S none res := by
  unfold fM_add at h
  refine x_aload_n d_240_0 rfl 0 rfl ?_
  refine y_getR d_240_1 fl_11_21 rfl kd_78 rr_78_11 ?_
  refine x_aload_n d_240_4 rfl 0 rfl ?_
  refine y_getI d_240_5 fl_11_261 rfl kd_78 ?_
  refine x_iload_n d_240_8 rfl 1 rfl ?_
  obtain ⟨g1, h⟩ := gd_inv h
  obtain ⟨S2, e3, h⟩ := lt_inv h
  refine y_iast e3 d_240_9 kd_81 g1 ?_
  refine x_aload_n d_240_10 rfl 0 rfl ?_
  refine y_getR d_240_11 fl_11_24 rfl kd_78 rr_78_12 ?_
  refine x_aload_n d_240_14 rfl 0 rfl ?_
  refine y_getI d_240_15 fl_11_261 rfl kd_78 ?_
  refine x_iload_n d_240_18 rfl 2 rfl ?_
  obtain ⟨g4, h⟩ := gd_inv h
  obtain ⟨S5, e6, h⟩ := lt_inv h
  refine y_iast e6 d_240_19 kd_82 g4 ?_
  refine x_aload_n d_240_20 rfl 0 rfl ?_
  refine x_dup d_240_21 rfl ?_
  refine y_getI d_240_22 fl_11_261 rfl kd_78 ?_
  refine x_iconst d_240_25 ic_1 ?_
  refine x_iadd d_240_26 ?_
  obtain ⟨S7, e8, h⟩ := lt_inv h
  refine y_putI e8 d_240_27 fl_11_261 rfl rfl kd_78 rfl rfl ?_
  obtain rfl := Option.some.inj h
  exact x_ret (r := none) d_240_30 rfl
/-! NinetyPlayersModel.unit -/
def j_233_83 (F G : Nat) (k101 : St → Option (St)) (rec : Int32 → St → Option (St)) (S : St) (y1 : Int32) : Option (St) :=
  bd (fM_countUnit F G S ) fun S24 => bd (fM_openUp F G S24 (20 : Int32)) fun S26 => rec y1 S26
def j_233_78 (F G : Nat) (k101 : St → Option (St)) (rec : Int32 → St → Option (St)) (S : St) (y1 : Int32) : Option (St) :=
  bd (fM_wrong F G S (2 : Int32)) fun S22 => j_233_83 F G k101 rec  S22 y1
def j_233_53 (F G : Nat) (k101 : St → Option (St)) (rec : Int32 → St → Option (St)) (S : St) (y1 : Int32) : Option (St) :=
  if (S.1 78 6) = (40 : Int32) then bd (fM_isFull F G S) fun v18 => if v18 = 0 then if (S.1 78 23) ≤ (6 : Int32) then j_233_83 F G k101 rec  S y1 else j_233_78 F G k101 rec  S y1 else j_233_78 F G k101 rec  S y1 else rec (0 : Int32) S
def b_233_2 (F G : Nat) (k101 : St → Option (St)) (rec : Int32 → St → Option (St)) (w1 : Int32) (S : St) : Option (St) :=
  if w1 = 0 then k101 S else if (S.1 78 2) = 0 then bd (fM_isWord F G S (7237492 : Int64)) fun v4 => if v4 = 0 then j_233_53 F G k101 rec  S w1 else bd (fM_mayNot F G S) fun v7 => if v7 = 0 then j_233_53 F G k101 rec  S w1 else if (S.1 78 23) ≤ (6 : Int32) then bd (fM_openUp F G S (21 : Int32)) fun S11 => rec w1 S11 else bd (fM_wrong F G S (2 : Int32)) fun S13 => bd (fM_openUp F G S13 (21 : Int32)) fun S15 => rec w1 S15 else k101 S
def j_233_160 (F G : Nat) (S : St) (y2 : Int32) (s1 : Int32) : Option (St) :=
  if 0 ≤ y2 then bd (fM_add F G S s1 y2) fun S44 => bd (fM_token F G S44 ) fun S46 => some S46 else bd (fM_add F G S s1 (S.1 78 8)) fun S48 => bd (fM_token F G S48 ) fun S50 => some S50
def j_233_138 (F G : Nat) (S : St) (y2 : Int32) : Option (St) :=
  if (S.1 78 2) ≤ 0 then bd (fM_countUnit F G S ) fun S40 => if 0 ≤ y2 then j_233_160 F G  S40 y2 (1 : Int32) else j_233_160 F G  S40 y2 (0 : Int32) else some S
def j_233_133 (F G : Nat) (S : St) (y2 : Int32) : Option (St) :=
  bd (fM_wrong F G S (2 : Int32)) fun S37 => j_233_138 F G  S37 y2
def j_233_126 (F G : Nat) (S : St) (y2 : Int32) : Option (St) :=
  bd (fM_isFull F G S) fun v34 => if v34 = 0 then j_233_138 F G  S y2 else j_233_133 F G  S y2
def j_233_101 (F G : Nat) (S : St) : Option (St) :=
  if (S.1 78 2) ≤ 0 then bd (fM_asked F G S) fun v30 => if (S.1 78 6) = (2 : Int32) then j_233_126 F G  S v30 else if v30 < 0 then j_233_133 F G  S v30 else j_233_126 F G  S v30 else some S
def fM_unit (F G : Nat) (S : St) : Option (St) :=
  fx2 (b_233_2 F G  (fun S27 => j_233_101 F G  S27 )) F (1 : Int32) S
set_option maxRecDepth 100000 in
set_option maxHeartbeats 4000000 in
theorem T_233_2 {X : Nat × (Nat → Int32)} {D F G : Nat} (hD : 3 ≤ D + 1) {k101 : St → Option (St)} (hk101 : ∀ (S1 : St) (res : St), k101 S1 = some res → Ek X (D + 1) m233 101 [(0, .ref 78)] [] S1 none res) : ∀ (f : Nat) (w1 : Int32) (S : St) (res : St), fx2 (b_233_2 F G k101 ) f w1 S = some res → Ek X (D + 1) m233 2 [(0, .ref 78), (1, .int w1)] [] S none res := by
  refine fx2_ind ?_
  intro rec ih w1 S res h
  unfold b_233_2 at h
  have J83 : ∀ (S : St) (y1 : Int32) (res : St), j_233_83 F G k101 rec S y1 = some res → Ek X (D + 1) m233 83 [(0, .ref 78), (1, .int y1)] [] S none res := by
    intro S y1 res h
    unfold j_233_83 at h
    refine x_aload_n d_233_83 rfl 0 rfl ?_
    obtain ⟨S24, q23, h⟩ := bd_inv h
    refine y_V0v (S1 := S24) d_233_84 ml_11_292 kd_78 rfl (Nat.le_of_ble_eq_true rfl) (Nat.le_of_ble_eq_true rfl) (c_238 (by omega) q23) ?_
    refine x_aload_n d_233_87 rfl 0 rfl ?_
    refine x_bipush d_233_88 bp_20 ?_
    obtain ⟨S26, q25, h⟩ := bd_inv h
    refine y_V1v (S1 := S26) d_233_90 ml_11_286 kd_78 rfl (Nat.le_of_ble_eq_true rfl) (Nat.le_of_ble_eq_true rfl) (c_236 (by omega) q25) ?_
    refine x_goto (tgt := 2) d_233_93 rfl ?_
    exact ih y1 S26 _ h
  have J78 : ∀ (S : St) (y1 : Int32) (res : St), j_233_78 F G k101 rec S y1 = some res → Ek X (D + 1) m233 78 [(0, .ref 78), (1, .int y1)] [] S none res := by
    intro S y1 res h
    unfold j_233_78 at h
    refine x_aload_n d_233_78 rfl 0 rfl ?_
    refine x_iconst d_233_79 ic_2 ?_
    obtain ⟨S22, q21, h⟩ := bd_inv h
    refine y_V1v (S1 := S22) d_233_80 ml_11_238 kd_78 rfl (Nat.le_of_ble_eq_true rfl) (Nat.le_of_ble_eq_true rfl) (c_222 (by omega) q21) ?_
    exact J83 S22 y1 _ h
  have J53 : ∀ (S : St) (y1 : Int32) (res : St), j_233_53 F G k101 rec S y1 = some res → Ek X (D + 1) m233 53 [(0, .ref 78), (1, .int y1)] [] S none res := by
    intro S y1 res h
    unfold j_233_53 at h
    refine x_aload_n d_233_53 rfl 0 rfl ?_
    refine y_getI d_233_54 fl_11_172 rfl kd_78 ?_
    refine x_bipush d_233_57 bp_40 ?_
    refine x_icmp_ne (tgt := 96) d_233_59 rfl (fun c16 => ?_) (fun c16 => ?_)
    · replace h := ite_f c16 h
      refine x_iconst d_233_96 ic_0 ?_
      refine x_istore_n (L1 := [(0, .ref 78), (1, .int (0 : Int32))]) d_233_97 rfl (Nat.le_of_ble_eq_true rfl) rfl rfl ?_
      refine x_goto (tgt := 2) d_233_98 rfl ?_
      exact ih (0 : Int32) S _ h
    · replace h := ite_t c16 h
      refine x_aload_n d_233_62 rfl 0 rfl ?_
      obtain ⟨v18, q17, h⟩ := bd_inv h
      refine y_V0i (v := v18) (S1 := S) d_233_63 ml_11_289 kd_78 rfl (Nat.le_of_ble_eq_true rfl) (Nat.le_of_ble_eq_true rfl) (c_237 (by omega) q17) ?_
      refine x_if_ne (tgt := 78) d_233_66 rfl (fun c19 => ?_) (fun c19 => ?_)
      · replace h := ite_f c19 h
        exact J78 S y1 _ h
      · replace h := ite_t c19 h
        refine x_aload_n d_233_69 rfl 0 rfl ?_
        refine y_getI d_233_70 fl_11_274 rfl kd_78 ?_
        refine x_bipush d_233_73 bp_6 ?_
        refine x_icmp_le (tgt := 83) d_233_75 rfl (fun c20 => ?_) (fun c20 => ?_)
        · replace h := ite_t c20 h
          exact J83 S y1 _ h
        · replace h := ite_f c20 h
          exact J78 S y1 _ h
  refine x_iload_n d_233_2 rfl 1 rfl ?_
  refine x_if_eq (tgt := 101) d_233_3 rfl (fun c1 => ?_) (fun c1 => ?_)
  · replace h := ite_t c1 h
    refine y_pick (L1 := [(0, .ref 78)]) [0] rfl ?_
    exact hk101 S _ h
  · replace h := ite_f c1 h
    refine x_aload_n d_233_6 rfl 0 rfl ?_
    refine y_getI d_233_7 fl_11_185 rfl kd_78 ?_
    refine x_if_ne (tgt := 101) d_233_10 rfl (fun c2 => ?_) (fun c2 => ?_)
    · replace h := ite_f c2 h
      refine y_pick (L1 := [(0, .ref 78)]) [0] rfl ?_
      exact hk101 S _ h
    · replace h := ite_t c2 h
      refine x_aload_n d_233_13 rfl 0 rfl ?_
      refine x_ldc2 d_233_14 kc_11_228 ?_
      obtain ⟨v4, q3, h⟩ := bd_inv h
      refine y_V1i (v := v4) (S1 := S) d_233_17 ml_11_234 kd_78 rfl (Nat.le_of_ble_eq_true rfl) (Nat.le_of_ble_eq_true rfl) (c_219 (by omega) q3) ?_
      refine x_if_eq (tgt := 53) d_233_20 rfl (fun c5 => ?_) (fun c5 => ?_)
      · replace h := ite_t c5 h
        exact J53 S w1 _ h
      · replace h := ite_f c5 h
        refine x_aload_n d_233_23 rfl 0 rfl ?_
        obtain ⟨v7, q6, h⟩ := bd_inv h
        refine y_V0i (v := v7) (S1 := S) d_233_24 ml_11_283 kd_78 rfl (Nat.le_of_ble_eq_true rfl) (Nat.le_of_ble_eq_true rfl) (c_234 (by omega) q6) ?_
        refine x_if_eq (tgt := 53) d_233_27 rfl (fun c8 => ?_) (fun c8 => ?_)
        · replace h := ite_t c8 h
          exact J53 S w1 _ h
        · replace h := ite_f c8 h
          refine x_aload_n d_233_30 rfl 0 rfl ?_
          refine y_getI d_233_31 fl_11_274 rfl kd_78 ?_
          refine x_bipush d_233_34 bp_6 ?_
          refine x_icmp_le (tgt := 44) d_233_36 rfl (fun c9 => ?_) (fun c9 => ?_)
          · replace h := ite_t c9 h
            refine x_aload_n d_233_44 rfl 0 rfl ?_
            refine x_bipush d_233_45 bp_21 ?_
            obtain ⟨S11, q10, h⟩ := bd_inv h
            refine y_V1v (S1 := S11) d_233_47 ml_11_286 kd_78 rfl (Nat.le_of_ble_eq_true rfl) (Nat.le_of_ble_eq_true rfl) (c_236 (by omega) q10) ?_
            refine x_goto (tgt := 2) d_233_50 rfl ?_
            exact ih w1 S11 _ h
          · replace h := ite_f c9 h
            refine x_aload_n d_233_39 rfl 0 rfl ?_
            refine x_iconst d_233_40 ic_2 ?_
            obtain ⟨S13, q12, h⟩ := bd_inv h
            refine y_V1v (S1 := S13) d_233_41 ml_11_238 kd_78 rfl (Nat.le_of_ble_eq_true rfl) (Nat.le_of_ble_eq_true rfl) (c_222 (by omega) q12) ?_
            refine x_aload_n d_233_44 rfl 0 rfl ?_
            refine x_bipush d_233_45 bp_21 ?_
            obtain ⟨S15, q14, h⟩ := bd_inv h
            refine y_V1v (S1 := S15) d_233_47 ml_11_286 kd_78 rfl (Nat.le_of_ble_eq_true rfl) (Nat.le_of_ble_eq_true rfl) (c_236 (by omega) q14) ?_
            refine x_goto (tgt := 2) d_233_50 rfl ?_
            exact ih w1 S15 _ h
set_option maxRecDepth 100000 in
set_option maxHeartbeats 4000000 in
theorem c_233 {X : Nat × (Nat → Int32)} {D F G : Nat} (hD : 3 ≤ D) {S : St} {res : St} (h : fM_unit F G S  = some res) : Ek X (D) m233 0 [(0, .ref 78)] [] S none res := by
  obtain ⟨D, rfl⟩ : ∃ E, D = E + 1 := ⟨D - 1, by omega⟩
  unfold fM_unit at h
  have J160 : ∀ (S : St) (y2 : Int32) (s1 : Int32) (res : St), j_233_160 F G S y2 s1 = some res → Ek X (D + 1) m233 160 [(0, .ref 78), (2, .int y2)] [.int s1, .ref 78] S none res := by
    intro S y2 s1 res h
    unfold j_233_160 at h
    refine x_iload_n d_233_160 rfl 1 rfl ?_
    refine x_if_ge (tgt := 171) d_233_161 rfl (fun c42 => ?_) (fun c42 => ?_)
    · replace h := ite_t c42 h
      refine x_iload_n d_233_171 rfl 1 rfl ?_
      obtain ⟨S44, q43, h⟩ := bd_inv h
      refine y_V2v (S1 := S44) d_233_172 ml_11_270 kd_78 rfl (Nat.le_of_ble_eq_true rfl) (Nat.le_of_ble_eq_true rfl) (c_240 (by omega) q43) ?_
      refine x_aload_n d_233_175 rfl 0 rfl ?_
      obtain ⟨S46, q45, h⟩ := bd_inv h
      refine y_V0v (S1 := S46) d_233_176 ml_11_241 kd_78 rfl (Nat.le_of_ble_eq_true rfl) (Nat.le_of_ble_eq_true rfl) (c_213 (by omega) q45) ?_
      obtain rfl := Option.some.inj h
      exact x_ret (r := none) d_233_179 rfl
    · replace h := ite_f c42 h
      refine x_aload_n d_233_164 rfl 0 rfl ?_
      refine y_getI d_233_165 fl_11_169 rfl kd_78 ?_
      refine x_goto (tgt := 172) d_233_168 rfl ?_
      obtain ⟨S48, q47, h⟩ := bd_inv h
      refine y_V2v (S1 := S48) d_233_172 ml_11_270 kd_78 rfl (Nat.le_of_ble_eq_true rfl) (Nat.le_of_ble_eq_true rfl) (c_240 (by omega) q47) ?_
      refine x_aload_n d_233_175 rfl 0 rfl ?_
      obtain ⟨S50, q49, h⟩ := bd_inv h
      refine y_V0v (S1 := S50) d_233_176 ml_11_241 kd_78 rfl (Nat.le_of_ble_eq_true rfl) (Nat.le_of_ble_eq_true rfl) (c_213 (by omega) q49) ?_
      obtain rfl := Option.some.inj h
      exact x_ret (r := none) d_233_179 rfl
  have J138 : ∀ (S : St) (y2 : Int32) (res : St), j_233_138 F G S y2 = some res → Ek X (D + 1) m233 138 [(0, .ref 78), (2, .int y2)] [] S none res := by
    intro S y2 res h
    unfold j_233_138 at h
    refine x_aload_n d_233_138 rfl 0 rfl ?_
    refine y_getI d_233_139 fl_11_185 rfl kd_78 ?_
    refine x_if_le (tgt := 146) d_233_142 rfl (fun c38 => ?_) (fun c38 => ?_)
    · replace h := ite_t c38 h
      refine x_aload_n d_233_146 rfl 0 rfl ?_
      obtain ⟨S40, q39, h⟩ := bd_inv h
      refine y_V0v (S1 := S40) d_233_147 ml_11_292 kd_78 rfl (Nat.le_of_ble_eq_true rfl) (Nat.le_of_ble_eq_true rfl) (c_238 (by omega) q39) ?_
      refine x_aload_n d_233_150 rfl 0 rfl ?_
      refine x_iload_n d_233_151 rfl 1 rfl ?_
      refine x_if_ge (tgt := 159) d_233_152 rfl (fun c41 => ?_) (fun c41 => ?_)
      · replace h := ite_t c41 h
        refine x_iconst d_233_159 ic_1 ?_
        exact J160 S40 y2 (1 : Int32) _ h
      · replace h := ite_f c41 h
        refine x_iconst d_233_155 ic_0 ?_
        refine x_goto (tgt := 160) d_233_156 rfl ?_
        exact J160 S40 y2 (0 : Int32) _ h
    · replace h := ite_f c38 h
      obtain rfl := Option.some.inj h
      exact x_ret (r := none) d_233_145 rfl
  have J133 : ∀ (S : St) (y2 : Int32) (res : St), j_233_133 F G S y2 = some res → Ek X (D + 1) m233 133 [(0, .ref 78), (2, .int y2)] [] S none res := by
    intro S y2 res h
    unfold j_233_133 at h
    refine x_aload_n d_233_133 rfl 0 rfl ?_
    refine x_iconst d_233_134 ic_2 ?_
    obtain ⟨S37, q36, h⟩ := bd_inv h
    refine y_V1v (S1 := S37) d_233_135 ml_11_238 kd_78 rfl (Nat.le_of_ble_eq_true rfl) (Nat.le_of_ble_eq_true rfl) (c_222 (by omega) q36) ?_
    exact J138 S37 y2 _ h
  have J126 : ∀ (S : St) (y2 : Int32) (res : St), j_233_126 F G S y2 = some res → Ek X (D + 1) m233 126 [(0, .ref 78), (2, .int y2)] [] S none res := by
    intro S y2 res h
    unfold j_233_126 at h
    refine x_aload_n d_233_126 rfl 0 rfl ?_
    obtain ⟨v34, q33, h⟩ := bd_inv h
    refine y_V0i (v := v34) (S1 := S) d_233_127 ml_11_289 kd_78 rfl (Nat.le_of_ble_eq_true rfl) (Nat.le_of_ble_eq_true rfl) (c_237 (by omega) q33) ?_
    refine x_if_eq (tgt := 138) d_233_130 rfl (fun c35 => ?_) (fun c35 => ?_)
    · replace h := ite_t c35 h
      exact J138 S y2 _ h
    · replace h := ite_f c35 h
      exact J133 S y2 _ h
  have J101 : ∀ (S : St) (res : St), j_233_101 F G S  = some res → Ek X (D + 1) m233 101 [(0, .ref 78)] [] S none res := by
    intro S  res h
    unfold j_233_101 at h
    refine x_aload_n d_233_101 rfl 0 rfl ?_
    refine y_getI d_233_102 fl_11_185 rfl kd_78 ?_
    refine x_if_le (tgt := 109) d_233_105 rfl (fun c28 => ?_) (fun c28 => ?_)
    · replace h := ite_t c28 h
      refine x_aload_n d_233_109 rfl 0 rfl ?_
      obtain ⟨v30, q29, h⟩ := bd_inv h
      refine y_V0i (v := v30) (S1 := S) d_233_110 ml_11_295 kd_78 rfl (Nat.le_of_ble_eq_true rfl) (Nat.le_of_ble_eq_true rfl) (c_239 (by omega) q29) ?_
      refine x_istore_n (L1 := [(0, .ref 78), (2, .int v30)]) d_233_113 rfl (Nat.le_of_ble_eq_true rfl) rfl rfl ?_
      refine x_aload_n d_233_114 rfl 0 rfl ?_
      refine y_getI d_233_115 fl_11_172 rfl kd_78 ?_
      refine x_iconst d_233_118 ic_2 ?_
      refine x_icmp_eq (tgt := 126) d_233_119 rfl (fun c31 => ?_) (fun c31 => ?_)
      · replace h := ite_t c31 h
        exact J126 S v30 _ h
      · replace h := ite_f c31 h
        refine x_iload_n d_233_122 rfl 1 rfl ?_
        refine x_if_lt (tgt := 133) d_233_123 rfl (fun c32 => ?_) (fun c32 => ?_)
        · replace h := ite_t c32 h
          exact J133 S v30 _ h
        · replace h := ite_f c32 h
          exact J126 S v30 _ h
    · replace h := ite_f c28 h
      obtain rfl := Option.some.inj h
      exact x_ret (r := none) d_233_108 rfl
  refine x_iconst d_233_0 ic_1 ?_
  refine x_istore_n (L1 := [(0, .ref 78), (1, .int (1 : Int32))]) d_233_1 rfl (Nat.le_of_ble_eq_true rfl) rfl rfl ?_
  refine T_233_2 (by omega)  ?_ F (1 : Int32) S _ h
  · intro S27 res h
    exact J101 S27  _ h
/-! NinetyPlayersModel.sign -/
def fM_sign (F G : Nat) (S : St) : Option (Int32) :=
  bd (fM_isWord F G S (6385252 : Int64)) fun v2 => if v2 = 0 then bd (fM_isWord F G S (28530 : Int64)) fun v5 => if v5 = 0 then if (S.1 78 6) = (60 : Int32) then some (S.1 78 6) else if (S.1 78 6) = (62 : Int32) then some (S.1 78 6) else if (S.1 78 6) = (61 : Int32) then some (S.1 78 6) else if (S.1 78 6) = (43 : Int32) then some (S.1 78 6) else if (S.1 78 6) = (45 : Int32) then some (S.1 78 6) else if (S.1 78 6) = (42 : Int32) then some (S.1 78 6) else if (S.1 78 6) = (47 : Int32) then some (S.1 78 6) else if (S.1 78 6) = (37 : Int32) then some (S.1 78 6) else some (0 : Int32) else some (124 : Int32) else some (38 : Int32)
set_option maxRecDepth 100000 in
set_option maxHeartbeats 4000000 in
theorem c_241 {X : Nat × (Nat → Int32)} {D F G : Nat} (hD : 1 ≤ D) {S : St} {res : Int32} (h : fM_sign F G S  = some res) : Ek X (D) m241 0 [(0, .ref 78)] [] S (some (.int res)) S := by
  obtain ⟨D, rfl⟩ : ∃ E, D = E + 1 := ⟨D - 1, by omega⟩
  unfold fM_sign at h
  refine x_aload_n d_241_0 rfl 0 rfl ?_
  refine x_ldc2 d_241_1 kc_11_224 ?_
  obtain ⟨v2, q1, h⟩ := bd_inv h
  refine y_V1i (v := v2) (S1 := S) d_241_4 ml_11_234 kd_78 rfl (Nat.le_of_ble_eq_true rfl) (Nat.le_of_ble_eq_true rfl) (c_219 (by omega) q1) ?_
  refine x_if_eq (tgt := 13) d_241_7 rfl (fun c3 => ?_) (fun c3 => ?_)
  · replace h := ite_t c3 h
    refine x_aload_n d_241_13 rfl 0 rfl ?_
    refine x_ldc2 d_241_14 kc_11_226 ?_
    obtain ⟨v5, q4, h⟩ := bd_inv h
    refine y_V1i (v := v5) (S1 := S) d_241_17 ml_11_234 kd_78 rfl (Nat.le_of_ble_eq_true rfl) (Nat.le_of_ble_eq_true rfl) (c_219 (by omega) q4) ?_
    refine x_if_eq (tgt := 26) d_241_20 rfl (fun c6 => ?_) (fun c6 => ?_)
    · replace h := ite_t c6 h
      refine x_aload_n d_241_26 rfl 0 rfl ?_
      refine y_getI d_241_27 fl_11_172 rfl kd_78 ?_
      refine x_bipush d_241_30 bp_60 ?_
      refine x_icmp_eq (tgt := 98) d_241_32 rfl (fun c7 => ?_) (fun c7 => ?_)
      · replace h := ite_t c7 h
        refine x_aload_n d_241_98 rfl 0 rfl ?_
        refine y_getI d_241_99 fl_11_172 rfl kd_78 ?_
        refine x_goto (tgt := 106) d_241_102 rfl ?_
        obtain rfl := Option.some.inj h
        exact x_ret (r := some (.int (S.1 78 6))) d_241_106 ⟨_, rfl, rfl⟩
      · replace h := ite_f c7 h
        refine x_aload_n d_241_35 rfl 0 rfl ?_
        refine y_getI d_241_36 fl_11_172 rfl kd_78 ?_
        refine x_bipush d_241_39 bp_62 ?_
        refine x_icmp_eq (tgt := 98) d_241_41 rfl (fun c8 => ?_) (fun c8 => ?_)
        · replace h := ite_t c8 h
          refine x_aload_n d_241_98 rfl 0 rfl ?_
          refine y_getI d_241_99 fl_11_172 rfl kd_78 ?_
          refine x_goto (tgt := 106) d_241_102 rfl ?_
          obtain rfl := Option.some.inj h
          exact x_ret (r := some (.int (S.1 78 6))) d_241_106 ⟨_, rfl, rfl⟩
        · replace h := ite_f c8 h
          refine x_aload_n d_241_44 rfl 0 rfl ?_
          refine y_getI d_241_45 fl_11_172 rfl kd_78 ?_
          refine x_bipush d_241_48 bp_61 ?_
          refine x_icmp_eq (tgt := 98) d_241_50 rfl (fun c9 => ?_) (fun c9 => ?_)
          · replace h := ite_t c9 h
            refine x_aload_n d_241_98 rfl 0 rfl ?_
            refine y_getI d_241_99 fl_11_172 rfl kd_78 ?_
            refine x_goto (tgt := 106) d_241_102 rfl ?_
            obtain rfl := Option.some.inj h
            exact x_ret (r := some (.int (S.1 78 6))) d_241_106 ⟨_, rfl, rfl⟩
          · replace h := ite_f c9 h
            refine x_aload_n d_241_53 rfl 0 rfl ?_
            refine y_getI d_241_54 fl_11_172 rfl kd_78 ?_
            refine x_bipush d_241_57 bp_43 ?_
            refine x_icmp_eq (tgt := 98) d_241_59 rfl (fun c10 => ?_) (fun c10 => ?_)
            · replace h := ite_t c10 h
              refine x_aload_n d_241_98 rfl 0 rfl ?_
              refine y_getI d_241_99 fl_11_172 rfl kd_78 ?_
              refine x_goto (tgt := 106) d_241_102 rfl ?_
              obtain rfl := Option.some.inj h
              exact x_ret (r := some (.int (S.1 78 6))) d_241_106 ⟨_, rfl, rfl⟩
            · replace h := ite_f c10 h
              refine x_aload_n d_241_62 rfl 0 rfl ?_
              refine y_getI d_241_63 fl_11_172 rfl kd_78 ?_
              refine x_bipush d_241_66 bp_45 ?_
              refine x_icmp_eq (tgt := 98) d_241_68 rfl (fun c11 => ?_) (fun c11 => ?_)
              · replace h := ite_t c11 h
                refine x_aload_n d_241_98 rfl 0 rfl ?_
                refine y_getI d_241_99 fl_11_172 rfl kd_78 ?_
                refine x_goto (tgt := 106) d_241_102 rfl ?_
                obtain rfl := Option.some.inj h
                exact x_ret (r := some (.int (S.1 78 6))) d_241_106 ⟨_, rfl, rfl⟩
              · replace h := ite_f c11 h
                refine x_aload_n d_241_71 rfl 0 rfl ?_
                refine y_getI d_241_72 fl_11_172 rfl kd_78 ?_
                refine x_bipush d_241_75 bp_42 ?_
                refine x_icmp_eq (tgt := 98) d_241_77 rfl (fun c12 => ?_) (fun c12 => ?_)
                · replace h := ite_t c12 h
                  refine x_aload_n d_241_98 rfl 0 rfl ?_
                  refine y_getI d_241_99 fl_11_172 rfl kd_78 ?_
                  refine x_goto (tgt := 106) d_241_102 rfl ?_
                  obtain rfl := Option.some.inj h
                  exact x_ret (r := some (.int (S.1 78 6))) d_241_106 ⟨_, rfl, rfl⟩
                · replace h := ite_f c12 h
                  refine x_aload_n d_241_80 rfl 0 rfl ?_
                  refine y_getI d_241_81 fl_11_172 rfl kd_78 ?_
                  refine x_bipush d_241_84 bp_47 ?_
                  refine x_icmp_eq (tgt := 98) d_241_86 rfl (fun c13 => ?_) (fun c13 => ?_)
                  · replace h := ite_t c13 h
                    refine x_aload_n d_241_98 rfl 0 rfl ?_
                    refine y_getI d_241_99 fl_11_172 rfl kd_78 ?_
                    refine x_goto (tgt := 106) d_241_102 rfl ?_
                    obtain rfl := Option.some.inj h
                    exact x_ret (r := some (.int (S.1 78 6))) d_241_106 ⟨_, rfl, rfl⟩
                  · replace h := ite_f c13 h
                    refine x_aload_n d_241_89 rfl 0 rfl ?_
                    refine y_getI d_241_90 fl_11_172 rfl kd_78 ?_
                    refine x_bipush d_241_93 bp_37 ?_
                    refine x_icmp_ne (tgt := 105) d_241_95 rfl (fun c14 => ?_) (fun c14 => ?_)
                    · replace h := ite_f c14 h
                      refine x_iconst d_241_105 ic_0 ?_
                      obtain rfl := Option.some.inj h
                      exact x_ret (r := some (.int (0 : Int32))) d_241_106 ⟨_, rfl, rfl⟩
                    · replace h := ite_t c14 h
                      refine x_aload_n d_241_98 rfl 0 rfl ?_
                      refine y_getI d_241_99 fl_11_172 rfl kd_78 ?_
                      refine x_goto (tgt := 106) d_241_102 rfl ?_
                      obtain rfl := Option.some.inj h
                      exact x_ret (r := some (.int (S.1 78 6))) d_241_106 ⟨_, rfl, rfl⟩
    · replace h := ite_f c6 h
      refine x_bipush d_241_23 bp_124 ?_
      obtain rfl := Option.some.inj h
      exact x_ret (r := some (.int (124 : Int32))) d_241_25 ⟨_, rfl, rfl⟩
  · replace h := ite_f c3 h
    refine x_bipush d_241_10 bp_38 ?_
    obtain rfl := Option.some.inj h
    exact x_ret (r := some (.int (38 : Int32))) d_241_12 ⟨_, rfl, rfl⟩
/-! NinetyPlayersModel.hasBracket -/
def b_242_4 (F G : Nat) (S : St) (rec : Int32 → Int32 → Option (Int32)) (w1 : Int32) (w2 : Int32) : Option (Int32) :=
  if (S.1 78 19) ≤ w2 then gd (isB w1) (some w1) else if w1 = 0 then gd (inB w2 160) (if (S.1 85 w2.toNatClampNeg) = (20 : Int32) then lt (w2 + 1) fun v10 => rec (1 : Int32) v10 else lt (w2 + 1) fun v8 => rec (0 : Int32) v8) else lt (w2 + 1) fun v4 => rec (1 : Int32) v4
def fM_hasBracket (F G : Nat) (S : St) : Option (Int32) :=
  fx2 (b_242_4 F G S) F (0 : Int32) (0 : Int32)
set_option maxRecDepth 100000 in
set_option maxHeartbeats 4000000 in
theorem T_242_4 {X : Nat × (Nat → Int32)} {D F G : Nat} (hD : 0 ≤ D) {S : St} : ∀ (f : Nat) (w1 : Int32) (w2 : Int32) (res : Int32), fx2 (b_242_4 F G S ) f w1 w2 = some res → Ek X (D) m242 4 [(0, .ref 78), (1, .int w1), (2, .int w2)] [] S (some (.int res)) S := by
  refine fx2_ind ?_
  intro rec ih w1 w2 res h
  unfold b_242_4 at h
  refine x_iload_n d_242_4 rfl 2 rfl ?_
  refine x_aload_n d_242_5 rfl 0 rfl ?_
  refine y_getI d_242_6 fl_11_264 rfl kd_78 ?_
  refine x_icmp_ge (tgt := 39) d_242_9 rfl (fun c1 => ?_) (fun c1 => ?_)
  · replace h := ite_t c1 h
    refine x_iload_n d_242_39 rfl 1 rfl ?_
    obtain ⟨g2, h⟩ := gd_inv h
    obtain rfl := Option.some.inj h
    exact x_ret (r := some (.int w1)) d_242_40 ⟨_, rfl, isB_nar g2⟩
  · replace h := ite_f c1 h
    refine x_iload_n d_242_12 rfl 1 rfl ?_
    refine x_if_ne (tgt := 27) d_242_13 rfl (fun c3 => ?_) (fun c3 => ?_)
    · replace h := ite_f c3 h
      refine x_iconst d_242_27 ic_1 ?_
      refine x_goto (tgt := 32) d_242_28 rfl ?_
      refine x_istore_n (L1 := [(0, .ref 78), (1, .int (1 : Int32)), (2, .int w2)]) d_242_32 rfl (Nat.le_of_ble_eq_true rfl) rfl rfl ?_
      obtain ⟨v4, e5, h⟩ := lt_inv h
      refine y_iinc (L1 := [(0, .ref 78), (1, .int (1 : Int32)), (2, .int v4)]) e5 ic_1 d_242_33 2 rfl (Nat.le_of_ble_eq_true rfl) rfl rfl ?_
      refine x_goto (tgt := 4) d_242_36 rfl ?_
      exact ih (1 : Int32) v4 _ h
    · replace h := ite_t c3 h
      refine x_aload_n d_242_16 rfl 0 rfl ?_
      refine y_getR d_242_17 fl_11_33 rfl kd_78 rr_78_15 ?_
      refine x_iload_n d_242_20 rfl 2 rfl ?_
      obtain ⟨g6, h⟩ := gd_inv h
      refine y_iald d_242_21 kd_85 g6 ?_
      refine x_bipush d_242_22 bp_20 ?_
      refine x_icmp_ne (tgt := 31) d_242_24 rfl (fun c7 => ?_) (fun c7 => ?_)
      · replace h := ite_f c7 h
        refine x_iconst d_242_31 ic_0 ?_
        refine x_istore_n (L1 := [(0, .ref 78), (1, .int (0 : Int32)), (2, .int w2)]) d_242_32 rfl (Nat.le_of_ble_eq_true rfl) rfl rfl ?_
        obtain ⟨v8, e9, h⟩ := lt_inv h
        refine y_iinc (L1 := [(0, .ref 78), (1, .int (0 : Int32)), (2, .int v8)]) e9 ic_1 d_242_33 2 rfl (Nat.le_of_ble_eq_true rfl) rfl rfl ?_
        refine x_goto (tgt := 4) d_242_36 rfl ?_
        exact ih (0 : Int32) v8 _ h
      · replace h := ite_t c7 h
        refine x_iconst d_242_27 ic_1 ?_
        refine x_goto (tgt := 32) d_242_28 rfl ?_
        refine x_istore_n (L1 := [(0, .ref 78), (1, .int (1 : Int32)), (2, .int w2)]) d_242_32 rfl (Nat.le_of_ble_eq_true rfl) rfl rfl ?_
        obtain ⟨v10, e11, h⟩ := lt_inv h
        refine y_iinc (L1 := [(0, .ref 78), (1, .int (1 : Int32)), (2, .int v10)]) e11 ic_1 d_242_33 2 rfl (Nat.le_of_ble_eq_true rfl) rfl rfl ?_
        refine x_goto (tgt := 4) d_242_36 rfl ?_
        exact ih (1 : Int32) v10 _ h
set_option maxRecDepth 100000 in
set_option maxHeartbeats 4000000 in
theorem c_242 {X : Nat × (Nat → Int32)} {D F G : Nat} (hD : 0 ≤ D) {S : St} {res : Int32} (h : fM_hasBracket F G S  = some res) : Ek X (D) m242 0 [(0, .ref 78)] [] S (some (.int res)) S := by
  unfold fM_hasBracket at h
  refine x_iconst d_242_0 ic_0 ?_
  refine x_istore_n (L1 := [(0, .ref 78), (1, .int (0 : Int32))]) d_242_1 rfl (Nat.le_of_ble_eq_true rfl) rfl rfl ?_
  refine x_iconst d_242_2 ic_0 ?_
  refine x_istore_n (L1 := [(0, .ref 78), (1, .int (0 : Int32)), (2, .int (0 : Int32))]) d_242_3 rfl (Nat.le_of_ble_eq_true rfl) rfl rfl ?_
  refine T_242_4 (by omega)   F (0 : Int32) (0 : Int32) _ h
/-! NinetyPlayersModel.close -/
def b_243_0 (F G : Nat) (z1 : Int32) (rec : St → Option (St)) (S : St) : Option (St) :=
  if (S.1 78 19) ≤ 0 then some S else gd (inB ((S.1 78 19) - (1 : Int32)) 160) (if (S.1 85 ((S.1 78 19) - (1 : Int32)).toNatClampNeg) = (20 : Int32) then some S else gd (inB ((S.1 78 19) - (1 : Int32)) 160) (bd (fM_tight F G S (S.1 85 ((S.1 78 19) - (1 : Int32)).toNatClampNeg)) fun v6 => if v6 < z1 then some S else lt (sI S 78 19 ((S.1 78 19) - (1 : Int32))) fun S8 => gd (inB (S8.1 78 19) 160) (if (S8.1 85 (S8.1 78 19).toNatClampNeg) = (21 : Int32) then bd (fM_add F G S8 (2 : Int32) (0 : Int32)) fun S16 => lt (sI S16 78 23 ((S16.1 78 23) - (1 : Int32))) fun S17 => rec S17 else gd (inB (S8.1 78 19) 160) (bd (fM_add F G S8 (3 : Int32) (S8.1 85 (S8.1 78 19).toNatClampNeg)) fun S14 => rec S14))))
def fM_close (F G : Nat) (S : St) (p1 : Int32) : Option (St) :=
  fx1 (b_243_0 F G p1) F S
set_option maxRecDepth 100000 in
set_option maxHeartbeats 4000000 in
theorem T_243_0 {X : Nat × (Nat → Int32)} {D F G : Nat} (hD : 1 ≤ D + 1) {z1 : Int32} : ∀ (f : Nat) (S : St) (res : St), fx1 (b_243_0 F G z1 ) f S = some res → Ek X (D + 1) m243 0 [(0, .ref 78), (1, .int z1)] [] S none res := by
  refine fx1_ind ?_
  intro rec ih S res h
  unfold b_243_0 at h
  refine x_aload_n d_243_0 rfl 0 rfl ?_
  refine y_getI d_243_1 fl_11_264 rfl kd_78 ?_
  refine x_if_le (tgt := 101) d_243_4 rfl (fun c1 => ?_) (fun c1 => ?_)
  · replace h := ite_t c1 h
    obtain rfl := Option.some.inj h
    exact x_ret (r := none) d_243_101 rfl
  · replace h := ite_f c1 h
    refine x_aload_n d_243_7 rfl 0 rfl ?_
    refine y_getR d_243_8 fl_11_33 rfl kd_78 rr_78_15 ?_
    refine x_aload_n d_243_11 rfl 0 rfl ?_
    refine y_getI d_243_12 fl_11_264 rfl kd_78 ?_
    refine x_iconst d_243_15 ic_1 ?_
    refine x_isub d_243_16 ?_
    obtain ⟨g2, h⟩ := gd_inv h
    refine y_iald d_243_17 kd_85 g2 ?_
    refine x_bipush d_243_18 bp_20 ?_
    refine x_icmp_eq (tgt := 101) d_243_20 rfl (fun c3 => ?_) (fun c3 => ?_)
    · replace h := ite_t c3 h
      obtain rfl := Option.some.inj h
      exact x_ret (r := none) d_243_101 rfl
    · replace h := ite_f c3 h
      refine x_aload_n d_243_23 rfl 0 rfl ?_
      refine y_getR d_243_24 fl_11_33 rfl kd_78 rr_78_15 ?_
      refine x_aload_n d_243_27 rfl 0 rfl ?_
      refine y_getI d_243_28 fl_11_264 rfl kd_78 ?_
      refine x_iconst d_243_31 ic_1 ?_
      refine x_isub d_243_32 ?_
      obtain ⟨g4, h⟩ := gd_inv h
      refine y_iald d_243_33 kd_85 g4 ?_
      obtain ⟨v6, q5, h⟩ := bd_inv h
      refine y_S1i (v := v6) (S1 := S) d_243_34 ml_11_267 (Nat.le_of_ble_eq_true rfl) (Nat.le_of_ble_eq_true rfl) (c_235 (by omega) q5) ?_
      refine x_iload_n d_243_37 rfl 1 rfl ?_
      refine x_icmp_lt (tgt := 101) d_243_38 rfl (fun c7 => ?_) (fun c7 => ?_)
      · replace h := ite_t c7 h
        obtain rfl := Option.some.inj h
        exact x_ret (r := none) d_243_101 rfl
      · replace h := ite_f c7 h
        refine x_aload_n d_243_41 rfl 0 rfl ?_
        refine x_dup d_243_42 rfl ?_
        refine y_getI d_243_43 fl_11_264 rfl kd_78 ?_
        refine x_iconst d_243_46 ic_1 ?_
        refine x_isub d_243_47 ?_
        obtain ⟨S8, e9, h⟩ := lt_inv h
        refine y_putI e9 d_243_48 fl_11_264 rfl rfl kd_78 rfl rfl ?_
        refine x_aload_n d_243_51 rfl 0 rfl ?_
        refine y_getR d_243_52 fl_11_33 rfl kd_78 rr_78_15 ?_
        refine x_aload_n d_243_55 rfl 0 rfl ?_
        refine y_getI d_243_56 fl_11_264 rfl kd_78 ?_
        obtain ⟨g10, h⟩ := gd_inv h
        refine y_iald d_243_59 kd_85 g10 ?_
        refine x_bipush d_243_60 bp_21 ?_
        refine x_icmp_ne (tgt := 84) d_243_62 rfl (fun c11 => ?_) (fun c11 => ?_)
        · replace h := ite_f c11 h
          refine x_aload_n d_243_84 rfl 0 rfl ?_
          refine x_iconst d_243_85 ic_3 ?_
          refine x_aload_n d_243_86 rfl 0 rfl ?_
          refine y_getR d_243_87 fl_11_33 rfl kd_78 rr_78_15 ?_
          refine x_aload_n d_243_90 rfl 0 rfl ?_
          refine y_getI d_243_91 fl_11_264 rfl kd_78 ?_
          obtain ⟨g12, h⟩ := gd_inv h
          refine y_iald d_243_94 kd_85 g12 ?_
          obtain ⟨S14, q13, h⟩ := bd_inv h
          refine y_V2v (S1 := S14) d_243_95 ml_11_270 kd_78 rfl (Nat.le_of_ble_eq_true rfl) (Nat.le_of_ble_eq_true rfl) (c_240 (by omega) q13) ?_
          refine x_goto (tgt := 0) d_243_98 rfl ?_
          exact ih S14 _ h
        · replace h := ite_t c11 h
          refine x_aload_n d_243_65 rfl 0 rfl ?_
          refine x_iconst d_243_66 ic_2 ?_
          refine x_iconst d_243_67 ic_0 ?_
          obtain ⟨S16, q15, h⟩ := bd_inv h
          refine y_V2v (S1 := S16) d_243_68 ml_11_270 kd_78 rfl (Nat.le_of_ble_eq_true rfl) (Nat.le_of_ble_eq_true rfl) (c_240 (by omega) q15) ?_
          refine x_aload_n d_243_71 rfl 0 rfl ?_
          refine x_dup d_243_72 rfl ?_
          refine y_getI d_243_73 fl_11_274 rfl kd_78 ?_
          refine x_iconst d_243_76 ic_1 ?_
          refine x_isub d_243_77 ?_
          obtain ⟨S17, e18, h⟩ := lt_inv h
          refine y_putI e18 d_243_78 fl_11_274 rfl rfl kd_78 rfl rfl ?_
          refine x_goto (tgt := 0) d_243_81 rfl ?_
          exact ih S17 _ h
set_option maxRecDepth 100000 in
set_option maxHeartbeats 4000000 in
theorem c_243 {X : Nat × (Nat → Int32)} {D F G : Nat} (hD : 1 ≤ D) {S : St} {p1 : Int32} {res : St} (h : fM_close F G S p1 = some res) : Ek X (D) m243 0 [(0, .ref 78), (1, .int p1)] [] S none res := by
  obtain ⟨D, rfl⟩ : ∃ E, D = E + 1 := ⟨D - 1, by omega⟩
  unfold fM_close at h
  refine T_243_0 (by omega)   F S _ h
/-! NinetyPlayersModel.hasRelation -/
def b_244_7 (F G : Nat) (S : St) (k41 : Int32 → Option (Int32)) (rec : Int32 → Option (Int32)) (w1 : Int32) : Option (Int32) :=
  if w1 < 0 then k41 w1 else gd (inB w1 160) (if (S.1 85 w1.toNatClampNeg) = (20 : Int32) then k41 w1 else gd (inB w1 160) (bd (fM_tight F G S (S.1 85 w1.toNatClampNeg)) fun v8 => if v8 ≤ (4 : Int32) then k41 w1 else lt (w1 + (-1)) fun v10 => rec v10))
def j_244_41 (F G : Nat) (S : St) (y1 : Int32) : Option (Int32) :=
  if y1 < 0 then some (0 : Int32) else gd (inB y1 160) (if (S.1 85 y1.toNatClampNeg) = (20 : Int32) then some (0 : Int32) else gd (inB y1 160) (bd (fM_tight F G S (S.1 85 y1.toNatClampNeg)) fun v18 => if v18 = (4 : Int32) then some (1 : Int32) else some (0 : Int32)))
def fM_hasRelation (F G : Nat) (S : St) : Option (Int32) :=
  lt ((S.1 78 19) - (1 : Int32)) fun v1 => fx1 (b_244_7 F G S (fun v12 => j_244_41 F G  S v12)) F v1
set_option maxRecDepth 100000 in
set_option maxHeartbeats 4000000 in
theorem T_244_7 {X : Nat × (Nat → Int32)} {D F G : Nat} (hD : 1 ≤ D + 1) {S : St} {k41 : Int32 → Option (Int32)} (hk41 : ∀ (u1 : Int32) (res : Int32), k41 u1 = some res → Ek X (D + 1) m244 41 [(0, .ref 78), (1, .int u1)] [] S (some (.int res)) S) : ∀ (f : Nat) (w1 : Int32) (res : Int32), fx1 (b_244_7 F G S k41 ) f w1 = some res → Ek X (D + 1) m244 7 [(0, .ref 78), (1, .int w1)] [] S (some (.int res)) S := by
  refine fx1_ind ?_
  intro rec ih w1 res h
  unfold b_244_7 at h
  refine x_iload_n d_244_7 rfl 1 rfl ?_
  refine x_if_lt (tgt := 41) d_244_8 rfl (fun c3 => ?_) (fun c3 => ?_)
  · replace h := ite_t c3 h
    exact hk41 w1 _ h
  · replace h := ite_f c3 h
    refine x_aload_n d_244_11 rfl 0 rfl ?_
    refine y_getR d_244_12 fl_11_33 rfl kd_78 rr_78_15 ?_
    refine x_iload_n d_244_15 rfl 1 rfl ?_
    obtain ⟨g4, h⟩ := gd_inv h
    refine y_iald d_244_16 kd_85 g4 ?_
    refine x_bipush d_244_17 bp_20 ?_
    refine x_icmp_eq (tgt := 41) d_244_19 rfl (fun c5 => ?_) (fun c5 => ?_)
    · replace h := ite_t c5 h
      exact hk41 w1 _ h
    · replace h := ite_f c5 h
      refine x_aload_n d_244_22 rfl 0 rfl ?_
      refine y_getR d_244_23 fl_11_33 rfl kd_78 rr_78_15 ?_
      refine x_iload_n d_244_26 rfl 1 rfl ?_
      obtain ⟨g6, h⟩ := gd_inv h
      refine y_iald d_244_27 kd_85 g6 ?_
      obtain ⟨v8, q7, h⟩ := bd_inv h
      refine y_S1i (v := v8) (S1 := S) d_244_28 ml_11_267 (Nat.le_of_ble_eq_true rfl) (Nat.le_of_ble_eq_true rfl) (c_235 (by omega) q7) ?_
      refine x_iconst d_244_31 ic_4 ?_
      refine x_icmp_le (tgt := 41) d_244_32 rfl (fun c9 => ?_) (fun c9 => ?_)
      · replace h := ite_t c9 h
        exact hk41 w1 _ h
      · replace h := ite_f c9 h
        obtain ⟨v10, e11, h⟩ := lt_inv h
        refine y_iinc (L1 := [(0, .ref 78), (1, .int v10)]) e11 ic_m1 d_244_35 1 rfl (Nat.le_of_ble_eq_true rfl) rfl rfl ?_
        refine x_goto (tgt := 7) d_244_38 rfl ?_
        exact ih v10 _ h
set_option maxRecDepth 100000 in
set_option maxHeartbeats 4000000 in
theorem c_244 {X : Nat × (Nat → Int32)} {D F G : Nat} (hD : 1 ≤ D) {S : St} {res : Int32} (h : fM_hasRelation F G S  = some res) : Ek X (D) m244 0 [(0, .ref 78)] [] S (some (.int res)) S := by
  obtain ⟨D, rfl⟩ : ∃ E, D = E + 1 := ⟨D - 1, by omega⟩
  unfold fM_hasRelation at h
  have J41 : ∀ (y1 : Int32) (res : Int32), j_244_41 F G S y1 = some res → Ek X (D + 1) m244 41 [(0, .ref 78), (1, .int y1)] [] S (some (.int res)) S := by
    intro y1 res h
    unfold j_244_41 at h
    refine x_iload_n d_244_41 rfl 1 rfl ?_
    refine x_if_lt (tgt := 73) d_244_42 rfl (fun c13 => ?_) (fun c13 => ?_)
    · replace h := ite_t c13 h
      refine x_iconst d_244_73 ic_0 ?_
      obtain rfl := Option.some.inj h
      exact x_ret (r := some (.int (0 : Int32))) d_244_74 ⟨_, rfl, rfl⟩
    · replace h := ite_f c13 h
      refine x_aload_n d_244_45 rfl 0 rfl ?_
      refine y_getR d_244_46 fl_11_33 rfl kd_78 rr_78_15 ?_
      refine x_iload_n d_244_49 rfl 1 rfl ?_
      obtain ⟨g14, h⟩ := gd_inv h
      refine y_iald d_244_50 kd_85 g14 ?_
      refine x_bipush d_244_51 bp_20 ?_
      refine x_icmp_eq (tgt := 73) d_244_53 rfl (fun c15 => ?_) (fun c15 => ?_)
      · replace h := ite_t c15 h
        refine x_iconst d_244_73 ic_0 ?_
        obtain rfl := Option.some.inj h
        exact x_ret (r := some (.int (0 : Int32))) d_244_74 ⟨_, rfl, rfl⟩
      · replace h := ite_f c15 h
        refine x_aload_n d_244_56 rfl 0 rfl ?_
        refine y_getR d_244_57 fl_11_33 rfl kd_78 rr_78_15 ?_
        refine x_iload_n d_244_60 rfl 1 rfl ?_
        obtain ⟨g16, h⟩ := gd_inv h
        refine y_iald d_244_61 kd_85 g16 ?_
        obtain ⟨v18, q17, h⟩ := bd_inv h
        refine y_S1i (v := v18) (S1 := S) d_244_62 ml_11_267 (Nat.le_of_ble_eq_true rfl) (Nat.le_of_ble_eq_true rfl) (c_235 (by omega) q17) ?_
        refine x_iconst d_244_65 ic_4 ?_
        refine x_icmp_ne (tgt := 73) d_244_66 rfl (fun c19 => ?_) (fun c19 => ?_)
        · replace h := ite_f c19 h
          refine x_iconst d_244_73 ic_0 ?_
          obtain rfl := Option.some.inj h
          exact x_ret (r := some (.int (0 : Int32))) d_244_74 ⟨_, rfl, rfl⟩
        · replace h := ite_t c19 h
          refine x_iconst d_244_69 ic_1 ?_
          refine x_goto (tgt := 74) d_244_70 rfl ?_
          obtain rfl := Option.some.inj h
          exact x_ret (r := some (.int (1 : Int32))) d_244_74 ⟨_, rfl, rfl⟩
  refine x_aload_n d_244_0 rfl 0 rfl ?_
  refine y_getI d_244_1 fl_11_264 rfl kd_78 ?_
  refine x_iconst d_244_4 ic_1 ?_
  refine x_isub d_244_5 ?_
  obtain ⟨v1, e2, h⟩ := lt_inv h
  refine y_istore_n (L1 := [(0, .ref 78), (1, .int v1)]) e2 d_244_6 rfl (Nat.le_of_ble_eq_true rfl) rfl rfl ?_
  refine T_244_7 (by omega)  ?_ F v1 _ h
  · intro v12 res h
    exact J41 v12 _ h
/-! NinetyPlayersModel.formula -/
def j_232_118 (F G : Nat) (k162 : St → Option (St)) (rec : Int32 → St → Option (St)) (S : St) (y1 : Int32) (y2 : Int32) : Option (St) :=
  bd (fM_tight F G S y2) fun v39 => bd (fM_close F G S v39) fun S41 => gd (inB (S41.1 78 19) 160) (lt (sI S41 85 (S41.1 78 19).toNatClampNeg y2) fun S43 => lt (sI S43 78 19 ((S43.1 78 19) + (1 : Int32))) fun S45 => bd (fM_token F G S45 ) fun S48 => bd (fM_unit F G S48 ) fun S50 => rec y1 S50)
def j_232_99 (F G : Nat) (k162 : St → Option (St)) (rec : Int32 → St → Option (St)) (S : St) (y1 : Int32) (y2 : Int32) : Option (St) :=
  if y2 = 0 then rec (0 : Int32) S else bd (fM_tight F G S y2) fun v33 => if v33 = (4 : Int32) then bd (fM_hasRelation F G S) fun v36 => if v36 = 0 then j_232_118 F G k162 rec  S y1 y2 else rec (0 : Int32) S else j_232_118 F G k162 rec  S y1 y2
def b_232_35 (F G : Nat) (k162 : St → Option (St)) (rec : Int32 → St → Option (St)) (w1 : Int32) (S : St) : Option (St) :=
  if w1 = 0 then k162 S else if (S.1 78 2) = 0 then bd (fM_sign F G S) fun v18 => if (S.1 78 6) = (41 : Int32) then bd (fM_hasBracket F G S) fun v21 => if v21 = 0 then j_232_99 F G k162 rec  S w1 v18 else bd (fM_close F G S (0 : Int32)) fun S24 => lt (sI S24 78 19 ((S24.1 78 19) - (1 : Int32))) fun S25 => lt (sI S25 78 23 ((S25.1 78 23) - (1 : Int32))) fun S27 => bd (fM_token F G S27 ) fun S30 => rec w1 S30 else j_232_99 F G k162 rec  S w1 v18 else k162 S
def j_232_181 (F G : Nat) (S : St) : Option (St) :=
  if (S.1 78 2) = 0 then bd (fM_close F G S (0 : Int32)) fun S60 => some S60 else some S
def j_232_162 (F G : Nat) (S : St) : Option (St) :=
  if (S.1 78 2) = 0 then bd (fM_hasBracket F G S) fun v54 => if v54 = 0 then j_232_181 F G  S  else bd (fM_wrong F G S (2 : Int32)) fun S57 => j_232_181 F G  S57  else j_232_181 F G  S 
def fM_formula (F G : Nat) (S : St) : Option (St) :=
  bd (fM_token F G S ) fun S2 => lt (sI S2 78 24 (1 : Int32)) fun S3 => lt (sI S3 78 17 (0 : Int32)) fun S5 => lt (sI S5 78 19 (0 : Int32)) fun S7 => lt (sI S7 78 23 (0 : Int32)) fun S9 => lt (sI S9 78 22 (0 : Int32)) fun S11 => bd (fM_unit F G S11 ) fun S14 => fx2 (b_232_35 F G  (fun S51 => j_232_162 F G  S51 )) F (1 : Int32) S14
set_option maxRecDepth 100000 in
set_option maxHeartbeats 4000000 in
theorem T_232_35 {X : Nat × (Nat → Int32)} {D F G : Nat} (hD : 4 ≤ D + 1) {k162 : St → Option (St)} (hk162 : ∀ (S1 : St) (res : St), k162 S1 = some res → Ek X (D + 1) m232 162 [(0, .ref 78)] [] S1 none res) : ∀ (f : Nat) (w1 : Int32) (S : St) (res : St), fx2 (b_232_35 F G k162 ) f w1 S = some res → Ek X (D + 1) m232 35 [(0, .ref 78), (1, .int w1)] [] S none res := by
  refine fx2_ind ?_
  intro rec ih w1 S res h
  unfold b_232_35 at h
  have J118 : ∀ (S : St) (y1 : Int32) (y2 : Int32) (res : St), j_232_118 F G k162 rec S y1 y2 = some res → Ek X (D + 1) m232 118 [(0, .ref 78), (1, .int y1), (2, .int y2)] [] S none res := by
    intro S y1 y2 res h
    unfold j_232_118 at h
    refine x_aload_n d_232_118 rfl 0 rfl ?_
    refine x_iload_n d_232_119 rfl 2 rfl ?_
    obtain ⟨v39, q38, h⟩ := bd_inv h
    refine y_S1i (v := v39) (S1 := S) d_232_120 ml_11_267 (Nat.le_of_ble_eq_true rfl) (Nat.le_of_ble_eq_true rfl) (c_235 (by omega) q38) ?_
    obtain ⟨S41, q40, h⟩ := bd_inv h
    refine y_V1v (S1 := S41) d_232_123 ml_11_312 kd_78 rfl (Nat.le_of_ble_eq_true rfl) (Nat.le_of_ble_eq_true rfl) (c_243 (by omega) q40) ?_
    refine x_aload_n d_232_126 rfl 0 rfl ?_
    refine y_getR d_232_127 fl_11_33 rfl kd_78 rr_78_15 ?_
    refine x_aload_n d_232_130 rfl 0 rfl ?_
    refine y_getI d_232_131 fl_11_264 rfl kd_78 ?_
    refine x_iload_n d_232_134 rfl 2 rfl ?_
    obtain ⟨g42, h⟩ := gd_inv h
    obtain ⟨S43, e44, h⟩ := lt_inv h
    refine y_iast e44 d_232_135 kd_85 g42 ?_
    refine x_aload_n d_232_136 rfl 0 rfl ?_
    refine x_dup d_232_137 rfl ?_
    refine y_getI d_232_138 fl_11_264 rfl kd_78 ?_
    refine x_iconst d_232_141 ic_1 ?_
    refine x_iadd d_232_142 ?_
    obtain ⟨S45, e46, h⟩ := lt_inv h
    refine y_putI e46 d_232_143 fl_11_264 rfl rfl kd_78 rfl rfl ?_
    refine x_aload_n d_232_146 rfl 0 rfl ?_
    obtain ⟨S48, q47, h⟩ := bd_inv h
    refine y_V0v (S1 := S48) d_232_147 ml_11_241 kd_78 rfl (Nat.le_of_ble_eq_true rfl) (Nat.le_of_ble_eq_true rfl) (c_213 (by omega) q47) ?_
    refine x_aload_n d_232_150 rfl 0 rfl ?_
    obtain ⟨S50, q49, h⟩ := bd_inv h
    refine y_V0v (S1 := S50) d_232_151 ml_11_303 kd_78 rfl (Nat.le_of_ble_eq_true rfl) (Nat.le_of_ble_eq_true rfl) (c_233 (by omega) q49) ?_
    refine x_goto (tgt := 159) d_232_154 rfl ?_
    refine x_goto (tgt := 35) d_232_159 rfl ?_
    refine y_pick (L1 := [(0, .ref 78), (1, .int y1)]) [0, 1] rfl ?_
    exact ih y1 S50 _ h
  have J99 : ∀ (S : St) (y1 : Int32) (y2 : Int32) (res : St), j_232_99 F G k162 rec S y1 y2 = some res → Ek X (D + 1) m232 99 [(0, .ref 78), (1, .int y1), (2, .int y2)] [] S none res := by
    intro S y1 y2 res h
    unfold j_232_99 at h
    refine x_iload_n d_232_99 rfl 2 rfl ?_
    refine x_if_eq (tgt := 157) d_232_100 rfl (fun c31 => ?_) (fun c31 => ?_)
    · replace h := ite_t c31 h
      refine x_iconst d_232_157 ic_0 ?_
      refine x_istore_n (L1 := [(0, .ref 78), (1, .int (0 : Int32)), (2, .int y2)]) d_232_158 rfl (Nat.le_of_ble_eq_true rfl) rfl rfl ?_
      refine x_goto (tgt := 35) d_232_159 rfl ?_
      refine y_pick (L1 := [(0, .ref 78), (1, .int (0 : Int32))]) [0, 1] rfl ?_
      exact ih (0 : Int32) S _ h
    · replace h := ite_f c31 h
      refine x_iload_n d_232_103 rfl 2 rfl ?_
      obtain ⟨v33, q32, h⟩ := bd_inv h
      refine y_S1i (v := v33) (S1 := S) d_232_104 ml_11_267 (Nat.le_of_ble_eq_true rfl) (Nat.le_of_ble_eq_true rfl) (c_235 (by omega) q32) ?_
      refine x_iconst d_232_107 ic_4 ?_
      refine x_icmp_ne (tgt := 118) d_232_108 rfl (fun c34 => ?_) (fun c34 => ?_)
      · replace h := ite_f c34 h
        exact J118 S y1 y2 _ h
      · replace h := ite_t c34 h
        refine x_aload_n d_232_111 rfl 0 rfl ?_
        obtain ⟨v36, q35, h⟩ := bd_inv h
        refine y_V0i (v := v36) (S1 := S) d_232_112 ml_11_315 kd_78 rfl (Nat.le_of_ble_eq_true rfl) (Nat.le_of_ble_eq_true rfl) (c_244 (by omega) q35) ?_
        refine x_if_ne (tgt := 157) d_232_115 rfl (fun c37 => ?_) (fun c37 => ?_)
        · replace h := ite_f c37 h
          refine x_iconst d_232_157 ic_0 ?_
          refine x_istore_n (L1 := [(0, .ref 78), (1, .int (0 : Int32)), (2, .int y2)]) d_232_158 rfl (Nat.le_of_ble_eq_true rfl) rfl rfl ?_
          refine x_goto (tgt := 35) d_232_159 rfl ?_
          refine y_pick (L1 := [(0, .ref 78), (1, .int (0 : Int32))]) [0, 1] rfl ?_
          exact ih (0 : Int32) S _ h
        · replace h := ite_t c37 h
          exact J118 S y1 y2 _ h
  refine x_iload_n d_232_35 rfl 1 rfl ?_
  refine x_if_eq (tgt := 162) d_232_36 rfl (fun c15 => ?_) (fun c15 => ?_)
  · replace h := ite_t c15 h
    refine y_pick (L1 := [(0, .ref 78)]) [0] rfl ?_
    exact hk162 S _ h
  · replace h := ite_f c15 h
    refine x_aload_n d_232_39 rfl 0 rfl ?_
    refine y_getI d_232_40 fl_11_185 rfl kd_78 ?_
    refine x_if_ne (tgt := 162) d_232_43 rfl (fun c16 => ?_) (fun c16 => ?_)
    · replace h := ite_f c16 h
      refine y_pick (L1 := [(0, .ref 78)]) [0] rfl ?_
      exact hk162 S _ h
    · replace h := ite_t c16 h
      refine x_aload_n d_232_46 rfl 0 rfl ?_
      obtain ⟨v18, q17, h⟩ := bd_inv h
      refine y_V0i (v := v18) (S1 := S) d_232_47 ml_11_306 kd_78 rfl (Nat.le_of_ble_eq_true rfl) (Nat.le_of_ble_eq_true rfl) (c_241 (by omega) q17) ?_
      refine x_istore_n (L1 := [(0, .ref 78), (1, .int w1), (2, .int v18)]) d_232_50 rfl (Nat.le_of_ble_eq_true rfl) rfl rfl ?_
      refine x_aload_n d_232_51 rfl 0 rfl ?_
      refine y_getI d_232_52 fl_11_172 rfl kd_78 ?_
      refine x_bipush d_232_55 bp_41 ?_
      refine x_icmp_ne (tgt := 99) d_232_57 rfl (fun c19 => ?_) (fun c19 => ?_)
      · replace h := ite_f c19 h
        exact J99 S w1 v18 _ h
      · replace h := ite_t c19 h
        refine x_aload_n d_232_60 rfl 0 rfl ?_
        obtain ⟨v21, q20, h⟩ := bd_inv h
        refine y_V0i (v := v21) (S1 := S) d_232_61 ml_11_309 kd_78 rfl (Nat.le_of_ble_eq_true rfl) (Nat.le_of_ble_eq_true rfl) (c_242 (by omega) q20) ?_
        refine x_if_eq (tgt := 99) d_232_64 rfl (fun c22 => ?_) (fun c22 => ?_)
        · replace h := ite_t c22 h
          exact J99 S w1 v18 _ h
        · replace h := ite_f c22 h
          refine x_aload_n d_232_67 rfl 0 rfl ?_
          refine x_iconst d_232_68 ic_0 ?_
          obtain ⟨S24, q23, h⟩ := bd_inv h
          refine y_V1v (S1 := S24) d_232_69 ml_11_312 kd_78 rfl (Nat.le_of_ble_eq_true rfl) (Nat.le_of_ble_eq_true rfl) (c_243 (by omega) q23) ?_
          refine x_aload_n d_232_72 rfl 0 rfl ?_
          refine x_dup d_232_73 rfl ?_
          refine y_getI d_232_74 fl_11_264 rfl kd_78 ?_
          refine x_iconst d_232_77 ic_1 ?_
          refine x_isub d_232_78 ?_
          obtain ⟨S25, e26, h⟩ := lt_inv h
          refine y_putI e26 d_232_79 fl_11_264 rfl rfl kd_78 rfl rfl ?_
          refine x_aload_n d_232_82 rfl 0 rfl ?_
          refine x_dup d_232_83 rfl ?_
          refine y_getI d_232_84 fl_11_274 rfl kd_78 ?_
          refine x_iconst d_232_87 ic_1 ?_
          refine x_isub d_232_88 ?_
          obtain ⟨S27, e28, h⟩ := lt_inv h
          refine y_putI e28 d_232_89 fl_11_274 rfl rfl kd_78 rfl rfl ?_
          refine x_aload_n d_232_92 rfl 0 rfl ?_
          obtain ⟨S30, q29, h⟩ := bd_inv h
          refine y_V0v (S1 := S30) d_232_93 ml_11_241 kd_78 rfl (Nat.le_of_ble_eq_true rfl) (Nat.le_of_ble_eq_true rfl) (c_213 (by omega) q29) ?_
          refine x_goto (tgt := 159) d_232_96 rfl ?_
          refine x_goto (tgt := 35) d_232_159 rfl ?_
          refine y_pick (L1 := [(0, .ref 78), (1, .int w1)]) [0, 1] rfl ?_
          exact ih w1 S30 _ h
set_option maxRecDepth 100000 in
set_option maxHeartbeats 4000000 in
theorem c_232 {X : Nat × (Nat → Int32)} {D F G : Nat} (hD : 4 ≤ D) {S : St} {res : St} (h : fM_formula F G S  = some res) : Ek X (D) m232 0 [(0, .ref 78)] [] S none res := by
  obtain ⟨D, rfl⟩ : ∃ E, D = E + 1 := ⟨D - 1, by omega⟩
  unfold fM_formula at h
  have J181 : ∀ (S : St) (res : St), j_232_181 F G S  = some res → Ek X (D + 1) m232 181 [(0, .ref 78)] [] S none res := by
    intro S  res h
    unfold j_232_181 at h
    refine x_aload_n d_232_181 rfl 0 rfl ?_
    refine y_getI d_232_182 fl_11_185 rfl kd_78 ?_
    refine x_if_ne (tgt := 193) d_232_185 rfl (fun c58 => ?_) (fun c58 => ?_)
    · replace h := ite_f c58 h
      obtain rfl := Option.some.inj h
      exact x_ret (r := none) d_232_193 rfl
    · replace h := ite_t c58 h
      refine x_aload_n d_232_188 rfl 0 rfl ?_
      refine x_iconst d_232_189 ic_0 ?_
      obtain ⟨S60, q59, h⟩ := bd_inv h
      refine y_V1v (S1 := S60) d_232_190 ml_11_312 kd_78 rfl (Nat.le_of_ble_eq_true rfl) (Nat.le_of_ble_eq_true rfl) (c_243 (by omega) q59) ?_
      obtain rfl := Option.some.inj h
      exact x_ret (r := none) d_232_193 rfl
  have J162 : ∀ (S : St) (res : St), j_232_162 F G S  = some res → Ek X (D + 1) m232 162 [(0, .ref 78)] [] S none res := by
    intro S  res h
    unfold j_232_162 at h
    refine x_aload_n d_232_162 rfl 0 rfl ?_
    refine y_getI d_232_163 fl_11_185 rfl kd_78 ?_
    refine x_if_ne (tgt := 181) d_232_166 rfl (fun c52 => ?_) (fun c52 => ?_)
    · replace h := ite_f c52 h
      exact J181 S  _ h
    · replace h := ite_t c52 h
      refine x_aload_n d_232_169 rfl 0 rfl ?_
      obtain ⟨v54, q53, h⟩ := bd_inv h
      refine y_V0i (v := v54) (S1 := S) d_232_170 ml_11_309 kd_78 rfl (Nat.le_of_ble_eq_true rfl) (Nat.le_of_ble_eq_true rfl) (c_242 (by omega) q53) ?_
      refine x_if_eq (tgt := 181) d_232_173 rfl (fun c55 => ?_) (fun c55 => ?_)
      · replace h := ite_t c55 h
        exact J181 S  _ h
      · replace h := ite_f c55 h
        refine x_aload_n d_232_176 rfl 0 rfl ?_
        refine x_iconst d_232_177 ic_2 ?_
        obtain ⟨S57, q56, h⟩ := bd_inv h
        refine y_V1v (S1 := S57) d_232_178 ml_11_238 kd_78 rfl (Nat.le_of_ble_eq_true rfl) (Nat.le_of_ble_eq_true rfl) (c_222 (by omega) q56) ?_
        exact J181 S57  _ h
  refine x_aload_n d_232_0 rfl 0 rfl ?_
  obtain ⟨S2, q1, h⟩ := bd_inv h
  refine y_V0v (S1 := S2) d_232_1 ml_11_241 kd_78 rfl (Nat.le_of_ble_eq_true rfl) (Nat.le_of_ble_eq_true rfl) (c_213 (by omega) q1) ?_
  refine x_aload_n d_232_4 rfl 0 rfl ?_
  refine x_iconst d_232_5 ic_1 ?_
  obtain ⟨S3, e4, h⟩ := lt_inv h
  refine y_putI e4 d_232_6 fl_11_299 rfl rfl kd_78 rfl rfl ?_
  refine x_aload_n d_232_9 rfl 0 rfl ?_
  refine x_iconst d_232_10 ic_0 ?_
  obtain ⟨S5, e6, h⟩ := lt_inv h
  refine y_putI e6 d_232_11 fl_11_261 rfl rfl kd_78 rfl rfl ?_
  refine x_aload_n d_232_14 rfl 0 rfl ?_
  refine x_iconst d_232_15 ic_0 ?_
  obtain ⟨S7, e8, h⟩ := lt_inv h
  refine y_putI e8 d_232_16 fl_11_264 rfl rfl kd_78 rfl rfl ?_
  refine x_aload_n d_232_19 rfl 0 rfl ?_
  refine x_iconst d_232_20 ic_0 ?_
  obtain ⟨S9, e10, h⟩ := lt_inv h
  refine y_putI e10 d_232_21 fl_11_274 rfl rfl kd_78 rfl rfl ?_
  refine x_aload_n d_232_24 rfl 0 rfl ?_
  refine x_iconst d_232_25 ic_0 ?_
  obtain ⟨S11, e12, h⟩ := lt_inv h
  refine y_putI e12 d_232_26 fl_11_280 rfl rfl kd_78 rfl rfl ?_
  refine x_aload_n d_232_29 rfl 0 rfl ?_
  obtain ⟨S14, q13, h⟩ := bd_inv h
  refine y_V0v (S1 := S14) d_232_30 ml_11_303 kd_78 rfl (Nat.le_of_ble_eq_true rfl) (Nat.le_of_ble_eq_true rfl) (c_233 (by omega) q13) ?_
  refine x_iconst d_232_33 ic_1 ?_
  refine x_istore_n (L1 := [(0, .ref 78), (1, .int (1 : Int32))]) d_232_34 rfl (Nat.le_of_ble_eq_true rfl) rfl rfl ?_
  refine T_232_35 (by omega)  ?_ F (1 : Int32) S14 _ h
  · intro S51 res h
    exact J162 S51  _ h
/-! NinetyPlayersModel.readLine -/
def j_218_295 (F G : Nat) (S : St) : Option (St) :=
  if (S.1 78 2) = 0 then bd (fM_token F G S ) fun S82 => some S82 else some S
def j_218_269 (F G : Nat) (S : St) : Option (St) :=
  lt (sI S 78 53 (1 : Int32)) fun S74 => if (S74.1 78 2) = 0 then if (S74.1 78 6) = (59 : Int32) then j_218_295 F G  S74  else bd (fM_wrong F G S74 (2 : Int32)) fun S79 => j_218_295 F G  S79  else j_218_295 F G  S74 
def j_218_264 (F G : Nat) (S : St) : Option (St) :=
  bd (fM_wrong F G S (2 : Int32)) fun S73 => j_218_269 F G  S73 
def j_218_225 (F G : Nat) (S : St) : Option (St) :=
  bd (fM_isWord F G S (6644082 : Int64)) fun v62 => if v62 = 0 then j_218_264 F G  S  else if (S.1 78 57) = 0 then lt (sI S 78 57 (1 : Int32)) fun S65 => bd2 (fM_told F G S65 (6644082 : Int64) (0 : Int32) (9 : Int32)) fun v68 S69 => lt (sI S69 78 45 v68) fun S70 => j_218_269 F G  S70  else j_218_264 F G  S 
def j_218_186 (F G : Nat) (S : St) : Option (St) :=
  bd (fM_isWord F G S (1818583408 : Int64)) fun v51 => if v51 = 0 then j_218_225 F G  S  else if (S.1 78 56) = 0 then lt (sI S 78 56 (1 : Int32)) fun S54 => bd2 (fM_told F G S54 (1818583408 : Int64) (0 : Int32) (87 : Int32)) fun v57 S58 => lt (sI S58 78 44 v57) fun S59 => j_218_269 F G  S59  else j_218_225 F G  S 
def j_218_148 (F G : Nat) (S : St) : Option (St) :=
  bd (fM_isWord F G S (28826370526507635 : Int64)) fun v40 => if v40 = 0 then j_218_186 F G  S  else if (S.1 78 55) = 0 then lt (sI S 78 55 (1 : Int32)) fun S43 => bd2 (fM_told F G S43 (28826370526507635 : Int64) (1 : Int32) (5 : Int32)) fun v46 S47 => lt (sI S47 78 43 v46) fun S48 => j_218_269 F G  S48  else j_218_186 F G  S 
def j_218_109 (F G : Nat) (S : St) : Option (St) :=
  bd (fM_isWord F G S (1936744814 : Int64)) fun v29 => if v29 = 0 then j_218_148 F G  S  else if (S.1 78 54) = 0 then lt (sI S 78 54 (1 : Int32)) fun S32 => bd2 (fM_told F G S32 (1936744814 : Int64) (0 : Int32) (87 : Int32)) fun v35 S36 => lt (sI S36 78 42 v35) fun S37 => j_218_269 F G  S37  else j_218_148 F G  S 
def j_218_85 (F G : Nat) (S : St) : Option (St) :=
  bd (fM_isWord F G S (120299675936100 : Int64)) fun v23 => if v23 = 0 then j_218_109 F G  S  else if (S.1 78 24) = 0 then bd (fM_formula F G S ) fun S27 => j_218_269 F G  S27  else j_218_109 F G  S 
def j_218_59 (F G : Nat) (S : St) : Option (St) :=
  bd (fM_isWord F G S (1852798053 : Int64)) fun v17 => if v17 = 0 then j_218_85 F G  S  else if (10 : Int32) ≤ (S.1 78 41) then j_218_85 F G  S  else bd (fM_readNote F G S ) fun S21 => j_218_269 F G  S21 
def j_218_34 (F G : Nat) (S : St) : Option (St) :=
  bd (fM_isWord F G S (1885434484 : Int64)) fun v11 => if v11 = 0 then j_218_59 F G  S  else if (4 : Int32) ≤ (S.1 78 40) then j_218_59 F G  S  else bd (fM_readPart F G S ) fun S15 => j_218_269 F G  S15 
def fM_readLine (F G : Nat) (S : St) : Option (St) :=
  bd (fM_isWord F G S (422607680627 : Int64)) fun v2 => if v2 = 0 then j_218_34 F G  S  else if (S.1 78 53) = 0 then bd2 (fM_told F G S (422607680627 : Int64) (1 : Int32) (12 : Int32)) fun v6 S7 => lt (sI S7 78 39 v6) fun S8 => j_218_269 F G  S8  else j_218_34 F G  S 
set_option maxRecDepth 100000 in
set_option maxHeartbeats 4000000 in
theorem c_218 {X : Nat × (Nat → Int32)} {D F G : Nat} (hD : 5 ≤ D) {S : St} {res : St} (h : fM_readLine F G S  = some res) : Ek X (D) m218 0 [(0, .ref 78)] [] S none res := by
  obtain ⟨D, rfl⟩ : ∃ E, D = E + 1 := ⟨D - 1, by omega⟩
  unfold fM_readLine at h
  have J295 : ∀ (S : St) (res : St), j_218_295 F G S  = some res → Ek X (D + 1) m218 295 [(0, .ref 78)] [] S none res := by
    intro S  res h
    unfold j_218_295 at h
    refine x_aload_n d_218_295 rfl 0 rfl ?_
    refine y_getI d_218_296 fl_11_185 rfl kd_78 ?_
    refine x_if_ne (tgt := 306) d_218_299 rfl (fun c80 => ?_) (fun c80 => ?_)
    · replace h := ite_f c80 h
      obtain rfl := Option.some.inj h
      exact x_ret (r := none) d_218_306 rfl
    · replace h := ite_t c80 h
      refine x_aload_n d_218_302 rfl 0 rfl ?_
      obtain ⟨S82, q81, h⟩ := bd_inv h
      refine y_V0v (S1 := S82) d_218_303 ml_11_241 kd_78 rfl (Nat.le_of_ble_eq_true rfl) (Nat.le_of_ble_eq_true rfl) (c_213 (by omega) q81) ?_
      obtain rfl := Option.some.inj h
      exact x_ret (r := none) d_218_306 rfl
  have J269 : ∀ (S : St) (res : St), j_218_269 F G S  = some res → Ek X (D + 1) m218 269 [(0, .ref 78)] [] S none res := by
    intro S  res h
    unfold j_218_269 at h
    refine x_aload_n d_218_269 rfl 0 rfl ?_
    refine x_iconst d_218_270 ic_1 ?_
    obtain ⟨S74, e75, h⟩ := lt_inv h
    refine y_putI e75 d_218_271 fl_11_363 rfl rfl kd_78 rfl rfl ?_
    refine x_aload_n d_218_274 rfl 0 rfl ?_
    refine y_getI d_218_275 fl_11_185 rfl kd_78 ?_
    refine x_if_ne (tgt := 295) d_218_278 rfl (fun c76 => ?_) (fun c76 => ?_)
    · replace h := ite_f c76 h
      exact J295 S74  _ h
    · replace h := ite_t c76 h
      refine x_aload_n d_218_281 rfl 0 rfl ?_
      refine y_getI d_218_282 fl_11_172 rfl kd_78 ?_
      refine x_bipush d_218_285 bp_59 ?_
      refine x_icmp_eq (tgt := 295) d_218_287 rfl (fun c77 => ?_) (fun c77 => ?_)
      · replace h := ite_t c77 h
        exact J295 S74  _ h
      · replace h := ite_f c77 h
        refine x_aload_n d_218_290 rfl 0 rfl ?_
        refine x_iconst d_218_291 ic_2 ?_
        obtain ⟨S79, q78, h⟩ := bd_inv h
        refine y_V1v (S1 := S79) d_218_292 ml_11_238 kd_78 rfl (Nat.le_of_ble_eq_true rfl) (Nat.le_of_ble_eq_true rfl) (c_222 (by omega) q78) ?_
        exact J295 S79  _ h
  have J264 : ∀ (S : St) (res : St), j_218_264 F G S  = some res → Ek X (D + 1) m218 264 [(0, .ref 78)] [] S none res := by
    intro S  res h
    unfold j_218_264 at h
    refine x_aload_n d_218_264 rfl 0 rfl ?_
    refine x_iconst d_218_265 ic_2 ?_
    obtain ⟨S73, q72, h⟩ := bd_inv h
    refine y_V1v (S1 := S73) d_218_266 ml_11_238 kd_78 rfl (Nat.le_of_ble_eq_true rfl) (Nat.le_of_ble_eq_true rfl) (c_222 (by omega) q72) ?_
    exact J269 S73  _ h
  have J225 : ∀ (S : St) (res : St), j_218_225 F G S  = some res → Ek X (D + 1) m218 225 [(0, .ref 78)] [] S none res := by
    intro S  res h
    unfold j_218_225 at h
    refine x_aload_n d_218_225 rfl 0 rfl ?_
    refine x_ldc2 d_218_226 kc_11_216 ?_
    obtain ⟨v62, q61, h⟩ := bd_inv h
    refine y_V1i (v := v62) (S1 := S) d_218_229 ml_11_234 kd_78 rfl (Nat.le_of_ble_eq_true rfl) (Nat.le_of_ble_eq_true rfl) (c_219 (by omega) q61) ?_
    refine x_if_eq (tgt := 264) d_218_232 rfl (fun c63 => ?_) (fun c63 => ?_)
    · replace h := ite_t c63 h
      exact J264 S  _ h
    · replace h := ite_f c63 h
      refine x_aload_n d_218_235 rfl 0 rfl ?_
      refine y_getI d_218_236 fl_11_393 rfl kd_78 ?_
      refine x_if_ne (tgt := 264) d_218_239 rfl (fun c64 => ?_) (fun c64 => ?_)
      · replace h := ite_f c64 h
        exact J264 S  _ h
      · replace h := ite_t c64 h
        refine x_aload_n d_218_242 rfl 0 rfl ?_
        refine x_iconst d_218_243 ic_1 ?_
        obtain ⟨S65, e66, h⟩ := lt_inv h
        refine y_putI e66 d_218_244 fl_11_393 rfl rfl kd_78 rfl rfl ?_
        refine x_aload_n d_218_247 rfl 0 rfl ?_
        refine x_aload_n d_218_248 rfl 0 rfl ?_
        refine x_ldc2 d_218_249 kc_11_216 ?_
        refine x_iconst d_218_252 ic_0 ?_
        refine x_bipush d_218_253 bp_9 ?_
        obtain ⟨v68, S69, q67, h⟩ := bd2_inv h
        refine y_V3i (v := v68) (S1 := S69) d_218_255 ml_11_359 kd_78 rfl (Nat.le_of_ble_eq_true rfl) (Nat.le_of_ble_eq_true rfl) (c_220 (by omega) q67) ?_
        obtain ⟨S70, e71, h⟩ := lt_inv h
        refine y_putI e71 d_218_258 fl_11_396 rfl rfl kd_78 rfl rfl ?_
        refine x_goto (tgt := 269) d_218_261 rfl ?_
        exact J269 S70  _ h
  have J186 : ∀ (S : St) (res : St), j_218_186 F G S  = some res → Ek X (D + 1) m218 186 [(0, .ref 78)] [] S none res := by
    intro S  res h
    unfold j_218_186 at h
    refine x_aload_n d_218_186 rfl 0 rfl ?_
    refine x_ldc2 d_218_187 kc_11_214 ?_
    obtain ⟨v51, q50, h⟩ := bd_inv h
    refine y_V1i (v := v51) (S1 := S) d_218_190 ml_11_234 kd_78 rfl (Nat.le_of_ble_eq_true rfl) (Nat.le_of_ble_eq_true rfl) (c_219 (by omega) q50) ?_
    refine x_if_eq (tgt := 225) d_218_193 rfl (fun c52 => ?_) (fun c52 => ?_)
    · replace h := ite_t c52 h
      exact J225 S  _ h
    · replace h := ite_f c52 h
      refine x_aload_n d_218_196 rfl 0 rfl ?_
      refine y_getI d_218_197 fl_11_387 rfl kd_78 ?_
      refine x_if_ne (tgt := 225) d_218_200 rfl (fun c53 => ?_) (fun c53 => ?_)
      · replace h := ite_f c53 h
        exact J225 S  _ h
      · replace h := ite_t c53 h
        refine x_aload_n d_218_203 rfl 0 rfl ?_
        refine x_iconst d_218_204 ic_1 ?_
        obtain ⟨S54, e55, h⟩ := lt_inv h
        refine y_putI e55 d_218_205 fl_11_387 rfl rfl kd_78 rfl rfl ?_
        refine x_aload_n d_218_208 rfl 0 rfl ?_
        refine x_aload_n d_218_209 rfl 0 rfl ?_
        refine x_ldc2 d_218_210 kc_11_214 ?_
        refine x_iconst d_218_213 ic_0 ?_
        refine x_bipush d_218_214 bp_87 ?_
        obtain ⟨v57, S58, q56, h⟩ := bd2_inv h
        refine y_V3i (v := v57) (S1 := S58) d_218_216 ml_11_359 kd_78 rfl (Nat.le_of_ble_eq_true rfl) (Nat.le_of_ble_eq_true rfl) (c_220 (by omega) q56) ?_
        obtain ⟨S59, e60, h⟩ := lt_inv h
        refine y_putI e60 d_218_219 fl_11_390 rfl rfl kd_78 rfl rfl ?_
        refine x_goto (tgt := 269) d_218_222 rfl ?_
        exact J269 S59  _ h
  have J148 : ∀ (S : St) (res : St), j_218_148 F G S  = some res → Ek X (D + 1) m218 148 [(0, .ref 78)] [] S none res := by
    intro S  res h
    unfold j_218_148 at h
    refine x_aload_n d_218_148 rfl 0 rfl ?_
    refine x_ldc2 d_218_149 kc_11_212 ?_
    obtain ⟨v40, q39, h⟩ := bd_inv h
    refine y_V1i (v := v40) (S1 := S) d_218_152 ml_11_234 kd_78 rfl (Nat.le_of_ble_eq_true rfl) (Nat.le_of_ble_eq_true rfl) (c_219 (by omega) q39) ?_
    refine x_if_eq (tgt := 186) d_218_155 rfl (fun c41 => ?_) (fun c41 => ?_)
    · replace h := ite_t c41 h
      exact J186 S  _ h
    · replace h := ite_f c41 h
      refine x_aload_n d_218_158 rfl 0 rfl ?_
      refine y_getI d_218_159 fl_11_381 rfl kd_78 ?_
      refine x_if_ne (tgt := 186) d_218_162 rfl (fun c42 => ?_) (fun c42 => ?_)
      · replace h := ite_f c42 h
        exact J186 S  _ h
      · replace h := ite_t c42 h
        refine x_aload_n d_218_165 rfl 0 rfl ?_
        refine x_iconst d_218_166 ic_1 ?_
        obtain ⟨S43, e44, h⟩ := lt_inv h
        refine y_putI e44 d_218_167 fl_11_381 rfl rfl kd_78 rfl rfl ?_
        refine x_aload_n d_218_170 rfl 0 rfl ?_
        refine x_aload_n d_218_171 rfl 0 rfl ?_
        refine x_ldc2 d_218_172 kc_11_212 ?_
        refine x_iconst d_218_175 ic_1 ?_
        refine x_iconst d_218_176 ic_5 ?_
        obtain ⟨v46, S47, q45, h⟩ := bd2_inv h
        refine y_V3i (v := v46) (S1 := S47) d_218_177 ml_11_359 kd_78 rfl (Nat.le_of_ble_eq_true rfl) (Nat.le_of_ble_eq_true rfl) (c_220 (by omega) q45) ?_
        obtain ⟨S48, e49, h⟩ := lt_inv h
        refine y_putI e49 d_218_180 fl_11_384 rfl rfl kd_78 rfl rfl ?_
        refine x_goto (tgt := 269) d_218_183 rfl ?_
        exact J269 S48  _ h
  have J109 : ∀ (S : St) (res : St), j_218_109 F G S  = some res → Ek X (D + 1) m218 109 [(0, .ref 78)] [] S none res := by
    intro S  res h
    unfold j_218_109 at h
    refine x_aload_n d_218_109 rfl 0 rfl ?_
    refine x_ldc2 d_218_110 kc_11_210 ?_
    obtain ⟨v29, q28, h⟩ := bd_inv h
    refine y_V1i (v := v29) (S1 := S) d_218_113 ml_11_234 kd_78 rfl (Nat.le_of_ble_eq_true rfl) (Nat.le_of_ble_eq_true rfl) (c_219 (by omega) q28) ?_
    refine x_if_eq (tgt := 148) d_218_116 rfl (fun c30 => ?_) (fun c30 => ?_)
    · replace h := ite_t c30 h
      exact J148 S  _ h
    · replace h := ite_f c30 h
      refine x_aload_n d_218_119 rfl 0 rfl ?_
      refine y_getI d_218_120 fl_11_375 rfl kd_78 ?_
      refine x_if_ne (tgt := 148) d_218_123 rfl (fun c31 => ?_) (fun c31 => ?_)
      · replace h := ite_f c31 h
        exact J148 S  _ h
      · replace h := ite_t c31 h
        refine x_aload_n d_218_126 rfl 0 rfl ?_
        refine x_iconst d_218_127 ic_1 ?_
        obtain ⟨S32, e33, h⟩ := lt_inv h
        refine y_putI e33 d_218_128 fl_11_375 rfl rfl kd_78 rfl rfl ?_
        refine x_aload_n d_218_131 rfl 0 rfl ?_
        refine x_aload_n d_218_132 rfl 0 rfl ?_
        refine x_ldc2 d_218_133 kc_11_210 ?_
        refine x_iconst d_218_136 ic_0 ?_
        refine x_bipush d_218_137 bp_87 ?_
        obtain ⟨v35, S36, q34, h⟩ := bd2_inv h
        refine y_V3i (v := v35) (S1 := S36) d_218_139 ml_11_359 kd_78 rfl (Nat.le_of_ble_eq_true rfl) (Nat.le_of_ble_eq_true rfl) (c_220 (by omega) q34) ?_
        obtain ⟨S37, e38, h⟩ := lt_inv h
        refine y_putI e38 d_218_142 fl_11_378 rfl rfl kd_78 rfl rfl ?_
        refine x_goto (tgt := 269) d_218_145 rfl ?_
        exact J269 S37  _ h
  have J85 : ∀ (S : St) (res : St), j_218_85 F G S  = some res → Ek X (D + 1) m218 85 [(0, .ref 78)] [] S none res := by
    intro S  res h
    unfold j_218_85 at h
    refine x_aload_n d_218_85 rfl 0 rfl ?_
    refine x_ldc2 d_218_86 kc_11_208 ?_
    obtain ⟨v23, q22, h⟩ := bd_inv h
    refine y_V1i (v := v23) (S1 := S) d_218_89 ml_11_234 kd_78 rfl (Nat.le_of_ble_eq_true rfl) (Nat.le_of_ble_eq_true rfl) (c_219 (by omega) q22) ?_
    refine x_if_eq (tgt := 109) d_218_92 rfl (fun c24 => ?_) (fun c24 => ?_)
    · replace h := ite_t c24 h
      exact J109 S  _ h
    · replace h := ite_f c24 h
      refine x_aload_n d_218_95 rfl 0 rfl ?_
      refine y_getI d_218_96 fl_11_299 rfl kd_78 ?_
      refine x_if_ne (tgt := 109) d_218_99 rfl (fun c25 => ?_) (fun c25 => ?_)
      · replace h := ite_f c25 h
        exact J109 S  _ h
      · replace h := ite_t c25 h
        refine x_aload_n d_218_102 rfl 0 rfl ?_
        obtain ⟨S27, q26, h⟩ := bd_inv h
        refine y_V0v (S1 := S27) d_218_103 ml_11_372 kd_78 rfl (Nat.le_of_ble_eq_true rfl) (Nat.le_of_ble_eq_true rfl) (c_232 (by omega) q26) ?_
        refine x_goto (tgt := 269) d_218_106 rfl ?_
        exact J269 S27  _ h
  have J59 : ∀ (S : St) (res : St), j_218_59 F G S  = some res → Ek X (D + 1) m218 59 [(0, .ref 78)] [] S none res := by
    intro S  res h
    unfold j_218_59 at h
    refine x_aload_n d_218_59 rfl 0 rfl ?_
    refine x_ldc2 d_218_60 kc_11_196 ?_
    obtain ⟨v17, q16, h⟩ := bd_inv h
    refine y_V1i (v := v17) (S1 := S) d_218_63 ml_11_234 kd_78 rfl (Nat.le_of_ble_eq_true rfl) (Nat.le_of_ble_eq_true rfl) (c_219 (by omega) q16) ?_
    refine x_if_eq (tgt := 85) d_218_66 rfl (fun c18 => ?_) (fun c18 => ?_)
    · replace h := ite_t c18 h
      exact J85 S  _ h
    · replace h := ite_f c18 h
      refine x_aload_n d_218_69 rfl 0 rfl ?_
      refine y_getI d_218_70 fl_11_350 rfl kd_78 ?_
      refine x_bipush d_218_73 bp_10 ?_
      refine x_icmp_ge (tgt := 85) d_218_75 rfl (fun c19 => ?_) (fun c19 => ?_)
      · replace h := ite_t c19 h
        exact J85 S  _ h
      · replace h := ite_f c19 h
        refine x_aload_n d_218_78 rfl 0 rfl ?_
        obtain ⟨S21, q20, h⟩ := bd_inv h
        refine y_V0v (S1 := S21) d_218_79 ml_11_369 kd_78 rfl (Nat.le_of_ble_eq_true rfl) (Nat.le_of_ble_eq_true rfl) (c_230 (by omega) q20) ?_
        refine x_goto (tgt := 269) d_218_82 rfl ?_
        exact J269 S21  _ h
  have J34 : ∀ (S : St) (res : St), j_218_34 F G S  = some res → Ek X (D + 1) m218 34 [(0, .ref 78)] [] S none res := by
    intro S  res h
    unfold j_218_34 at h
    refine x_aload_n d_218_34 rfl 0 rfl ?_
    refine x_ldc2 d_218_35 kc_11_190 ?_
    obtain ⟨v11, q10, h⟩ := bd_inv h
    refine y_V1i (v := v11) (S1 := S) d_218_38 ml_11_234 kd_78 rfl (Nat.le_of_ble_eq_true rfl) (Nat.le_of_ble_eq_true rfl) (c_219 (by omega) q10) ?_
    refine x_if_eq (tgt := 59) d_218_41 rfl (fun c12 => ?_) (fun c12 => ?_)
    · replace h := ite_t c12 h
      exact J59 S  _ h
    · replace h := ite_f c12 h
      refine x_aload_n d_218_44 rfl 0 rfl ?_
      refine y_getI d_218_45 fl_11_258 rfl kd_78 ?_
      refine x_iconst d_218_48 ic_4 ?_
      refine x_icmp_ge (tgt := 59) d_218_49 rfl (fun c13 => ?_) (fun c13 => ?_)
      · replace h := ite_t c13 h
        exact J59 S  _ h
      · replace h := ite_f c13 h
        refine x_aload_n d_218_52 rfl 0 rfl ?_
        obtain ⟨S15, q14, h⟩ := bd_inv h
        refine y_V0v (S1 := S15) d_218_53 ml_11_366 kd_78 rfl (Nat.le_of_ble_eq_true rfl) (Nat.le_of_ble_eq_true rfl) (c_224 (by omega) q14) ?_
        refine x_goto (tgt := 269) d_218_56 rfl ?_
        exact J269 S15  _ h
  refine x_aload_n d_218_0 rfl 0 rfl ?_
  refine x_ldc2 d_218_1 kc_11_188 ?_
  obtain ⟨v2, q1, h⟩ := bd_inv h
  refine y_V1i (v := v2) (S1 := S) d_218_4 ml_11_234 kd_78 rfl (Nat.le_of_ble_eq_true rfl) (Nat.le_of_ble_eq_true rfl) (c_219 (by omega) q1) ?_
  refine x_if_eq (tgt := 34) d_218_7 rfl (fun c3 => ?_) (fun c3 => ?_)
  · replace h := ite_t c3 h
    exact J34 S  _ h
  · replace h := ite_f c3 h
    refine x_aload_n d_218_10 rfl 0 rfl ?_
    refine y_getI d_218_11 fl_11_363 rfl kd_78 ?_
    refine x_if_ne (tgt := 34) d_218_14 rfl (fun c4 => ?_) (fun c4 => ?_)
    · replace h := ite_f c4 h
      exact J34 S  _ h
    · replace h := ite_t c4 h
      refine x_aload_n d_218_17 rfl 0 rfl ?_
      refine x_aload_n d_218_18 rfl 0 rfl ?_
      refine x_ldc2 d_218_19 kc_11_188 ?_
      refine x_iconst d_218_22 ic_1 ?_
      refine x_bipush d_218_23 bp_12 ?_
      obtain ⟨v6, S7, q5, h⟩ := bd2_inv h
      refine y_V3i (v := v6) (S1 := S7) d_218_25 ml_11_359 kd_78 rfl (Nat.le_of_ble_eq_true rfl) (Nat.le_of_ble_eq_true rfl) (c_220 (by omega) q5) ?_
      obtain ⟨S8, e9, h⟩ := lt_inv h
      refine y_putI e9 d_218_28 fl_11_356 rfl rfl kd_78 rfl rfl ?_
      refine x_goto (tgt := 269) d_218_31 rfl ?_
      exact J269 S8  _ h
/-! NinetyPlayersModel.readAll -/
def b_212_105 (F G : Nat) (rec : St → Option (St)) (S : St) : Option (St) :=
  if (S.1 78 2) = 0 then if (S.1 78 6) = 0 then some S else bd (fM_readLine F G S ) fun S44 => rec S44 else some S
def fM_readAll (F G : Nat) (S : St) : Option (St) :=
  lt (sI S 78 5 (S.1 78 1)) fun S1 => lt (sI S1 78 1 (0 : Int32)) fun S3 => lt (sI S3 78 4 (0 : Int32)) fun S5 => lt (sI S5 78 2 (0 : Int32)) fun S7 => lt (sI S7 78 3 (-1 : Int32)) fun S9 => lt (sI S9 78 39 (12 : Int32)) fun S11 => lt (sI S11 78 40 (0 : Int32)) fun S13 => lt (sI S13 78 41 (0 : Int32)) fun S15 => lt (sI S15 78 42 (12 : Int32)) fun S17 => lt (sI S17 78 43 (5 : Int32)) fun S19 => lt (sI S19 78 44 (20 : Int32)) fun S21 => lt (sI S21 78 45 (2 : Int32)) fun S23 => lt (sI S23 78 53 (0 : Int32)) fun S25 => lt (sI S25 78 54 (0 : Int32)) fun S27 => lt (sI S27 78 55 (0 : Int32)) fun S29 => lt (sI S29 78 56 (0 : Int32)) fun S31 => lt (sI S31 78 57 (0 : Int32)) fun S33 => lt (sI S33 78 24 (0 : Int32)) fun S35 => lt (sI S35 78 20 (0 : Int32)) fun S37 => bd (fM_token F G S37 ) fun S40 => fx1 (b_212_105 F G ) F S40
set_option maxRecDepth 100000 in
set_option maxHeartbeats 4000000 in
theorem T_212_105 {X : Nat × (Nat → Int32)} {D F G : Nat} (hD : 6 ≤ D + 1) : ∀ (f : Nat) (S : St) (res : St), fx1 (b_212_105 F G ) f S = some res → Ek X (D + 1) m212 105 [(0, .ref 78)] [] S none res := by
  refine fx1_ind ?_
  intro rec ih S res h
  unfold b_212_105 at h
  refine x_aload_n d_212_105 rfl 0 rfl ?_
  refine y_getI d_212_106 fl_11_185 rfl kd_78 ?_
  refine x_if_ne (tgt := 126) d_212_109 rfl (fun c41 => ?_) (fun c41 => ?_)
  · replace h := ite_f c41 h
    obtain rfl := Option.some.inj h
    exact x_ret (r := none) d_212_126 rfl
  · replace h := ite_t c41 h
    refine x_aload_n d_212_112 rfl 0 rfl ?_
    refine y_getI d_212_113 fl_11_172 rfl kd_78 ?_
    refine x_if_eq (tgt := 126) d_212_116 rfl (fun c42 => ?_) (fun c42 => ?_)
    · replace h := ite_t c42 h
      obtain rfl := Option.some.inj h
      exact x_ret (r := none) d_212_126 rfl
    · replace h := ite_f c42 h
      refine x_aload_n d_212_119 rfl 0 rfl ?_
      obtain ⟨S44, q43, h⟩ := bd_inv h
      refine y_V0v (S1 := S44) d_212_120 ml_11_399 kd_78 rfl (Nat.le_of_ble_eq_true rfl) (Nat.le_of_ble_eq_true rfl) (c_218 (by omega) q43) ?_
      refine x_goto (tgt := 105) d_212_123 rfl ?_
      exact ih S44 _ h
set_option maxRecDepth 100000 in
set_option maxHeartbeats 4000000 in
theorem c_212 {X : Nat × (Nat → Int32)} {D F G : Nat} (hD : 6 ≤ D) {S : St} {res : St} (h : fM_readAll F G S  = some res) : Ek X (D) m212 0 [(0, .ref 78)] [] S none res := by
  obtain ⟨D, rfl⟩ : ∃ E, D = E + 1 := ⟨D - 1, by omega⟩
  unfold fM_readAll at h
  refine x_aload_n d_212_0 rfl 0 rfl ?_
  refine x_aload_n d_212_1 rfl 0 rfl ?_
  refine y_getI d_212_2 fl_11_145 rfl kd_78 ?_
  obtain ⟨S1, e2, h⟩ := lt_inv h
  refine y_putI e2 d_212_5 fl_11_155 rfl rfl kd_78 rfl rfl ?_
  refine x_aload_n d_212_8 rfl 0 rfl ?_
  refine x_iconst d_212_9 ic_0 ?_
  obtain ⟨S3, e4, h⟩ := lt_inv h
  refine y_putI e4 d_212_10 fl_11_145 rfl rfl kd_78 rfl rfl ?_
  refine x_aload_n d_212_13 rfl 0 rfl ?_
  refine x_iconst d_212_14 ic_0 ?_
  obtain ⟨S5, e6, h⟩ := lt_inv h
  refine y_putI e6 d_212_15 fl_11_152 rfl rfl kd_78 rfl rfl ?_
  refine x_aload_n d_212_18 rfl 0 rfl ?_
  refine x_iconst d_212_19 ic_0 ?_
  obtain ⟨S7, e8, h⟩ := lt_inv h
  refine y_putI e8 d_212_20 fl_11_185 rfl rfl kd_78 rfl rfl ?_
  refine x_aload_n d_212_23 rfl 0 rfl ?_
  refine x_iconst d_212_24 ic_m1 ?_
  obtain ⟨S9, e10, h⟩ := lt_inv h
  refine y_putI e10 d_212_25 fl_11_13 rfl rfl kd_78 rfl rfl ?_
  refine x_aload_n d_212_28 rfl 0 rfl ?_
  refine x_bipush d_212_29 bp_12 ?_
  obtain ⟨S11, e12, h⟩ := lt_inv h
  refine y_putI e12 d_212_31 fl_11_356 rfl rfl kd_78 rfl rfl ?_
  refine x_aload_n d_212_34 rfl 0 rfl ?_
  refine x_iconst d_212_35 ic_0 ?_
  obtain ⟨S13, e14, h⟩ := lt_inv h
  refine y_putI e14 d_212_36 fl_11_258 rfl rfl kd_78 rfl rfl ?_
  refine x_aload_n d_212_39 rfl 0 rfl ?_
  refine x_iconst d_212_40 ic_0 ?_
  obtain ⟨S15, e16, h⟩ := lt_inv h
  refine y_putI e16 d_212_41 fl_11_350 rfl rfl kd_78 rfl rfl ?_
  refine x_aload_n d_212_44 rfl 0 rfl ?_
  refine x_bipush d_212_45 bp_12 ?_
  obtain ⟨S17, e18, h⟩ := lt_inv h
  refine y_putI e18 d_212_47 fl_11_378 rfl rfl kd_78 rfl rfl ?_
  refine x_aload_n d_212_50 rfl 0 rfl ?_
  refine x_iconst d_212_51 ic_5 ?_
  obtain ⟨S19, e20, h⟩ := lt_inv h
  refine y_putI e20 d_212_52 fl_11_384 rfl rfl kd_78 rfl rfl ?_
  refine x_aload_n d_212_55 rfl 0 rfl ?_
  refine x_bipush d_212_56 bp_20 ?_
  obtain ⟨S21, e22, h⟩ := lt_inv h
  refine y_putI e22 d_212_58 fl_11_390 rfl rfl kd_78 rfl rfl ?_
  refine x_aload_n d_212_61 rfl 0 rfl ?_
  refine x_iconst d_212_62 ic_2 ?_
  obtain ⟨S23, e24, h⟩ := lt_inv h
  refine y_putI e24 d_212_63 fl_11_396 rfl rfl kd_78 rfl rfl ?_
  refine x_aload_n d_212_66 rfl 0 rfl ?_
  refine x_iconst d_212_67 ic_0 ?_
  obtain ⟨S25, e26, h⟩ := lt_inv h
  refine y_putI e26 d_212_68 fl_11_363 rfl rfl kd_78 rfl rfl ?_
  refine x_aload_n d_212_71 rfl 0 rfl ?_
  refine x_iconst d_212_72 ic_0 ?_
  obtain ⟨S27, e28, h⟩ := lt_inv h
  refine y_putI e28 d_212_73 fl_11_375 rfl rfl kd_78 rfl rfl ?_
  refine x_aload_n d_212_76 rfl 0 rfl ?_
  refine x_iconst d_212_77 ic_0 ?_
  obtain ⟨S29, e30, h⟩ := lt_inv h
  refine y_putI e30 d_212_78 fl_11_381 rfl rfl kd_78 rfl rfl ?_
  refine x_aload_n d_212_81 rfl 0 rfl ?_
  refine x_iconst d_212_82 ic_0 ?_
  obtain ⟨S31, e32, h⟩ := lt_inv h
  refine y_putI e32 d_212_83 fl_11_387 rfl rfl kd_78 rfl rfl ?_
  refine x_aload_n d_212_86 rfl 0 rfl ?_
  refine x_iconst d_212_87 ic_0 ?_
  obtain ⟨S33, e34, h⟩ := lt_inv h
  refine y_putI e34 d_212_88 fl_11_393 rfl rfl kd_78 rfl rfl ?_
  refine x_aload_n d_212_91 rfl 0 rfl ?_
  refine x_iconst d_212_92 ic_0 ?_
  obtain ⟨S35, e36, h⟩ := lt_inv h
  refine y_putI e36 d_212_93 fl_11_299 rfl rfl kd_78 rfl rfl ?_
  refine x_aload_n d_212_96 rfl 0 rfl ?_
  refine x_iconst d_212_97 ic_0 ?_
  obtain ⟨S37, e38, h⟩ := lt_inv h
  refine y_putI e38 d_212_98 fl_11_277 rfl rfl kd_78 rfl rfl ?_
  refine x_aload_n d_212_101 rfl 0 rfl ?_
  obtain ⟨S40, q39, h⟩ := bd_inv h
  refine y_V0v (S1 := S40) d_212_102 ml_11_241 kd_78 rfl (Nat.le_of_ble_eq_true rfl) (Nat.le_of_ble_eq_true rfl) (c_213 (by omega) q39) ?_
  refine T_212_105 (by omega)   F S40 _ h
/-! NinetyPlayersModel.begin -/
def b_245_2 (F G : Nat) (k21 : St → Option (St)) (rec : Int32 → St → Option (St)) (w1 : Int32) (S : St) : Option (St) :=
  if (41 : Int32) ≤ w1 then k21 S else gd (inB w1 41) (lt (sI S 101 w1.toNatClampNeg (0 : Int32)) fun S3 => lt (w1 + 1) fun v5 => rec v5 S3)
def b_245_23 (F G : Nat) (rec : Int32 → St → Option (St)) (w1 : Int32) (S : St) : Option (St) :=
  if (S.1 78 48) ≤ w1 then some S else gd (inB w1 10) (gd (inB ((10 : Int32) + w1) 41) (lt (sI S 101 ((10 : Int32) + w1).toNatClampNeg (S.1 97 w1.toNatClampNeg)) fun S11 => gd (inB w1 10) (gd (inB ((20 : Int32) + w1) 41) (lt (sI S11 101 ((20 : Int32) + w1).toNatClampNeg (S11.1 98 w1.toNatClampNeg)) fun S15 => gd (inB w1 10) (gd (inB ((30 : Int32) + w1) 41) (lt (sI S15 101 ((30 : Int32) + w1).toNatClampNeg (S15.1 99 w1.toNatClampNeg)) fun S19 => lt (w1 + 1) fun v21 => rec v21 S19))))))
def fM_begin (F G : Nat) (S : St) : Option (St) :=
  fx2 (b_245_2 F G  (fun S7 => fx2 (b_245_23 F G ) F (0 : Int32) S7)) F (0 : Int32) S
set_option maxRecDepth 100000 in
set_option maxHeartbeats 4000000 in
theorem T_245_2 {X : Nat × (Nat → Int32)} {D F G : Nat} (hD : 0 ≤ D) {k21 : St → Option (St)} (hk21 : ∀ (S1 : St) (res : St), k21 S1 = some res → Ek X (D) m245 21 [(0, .ref 78)] [] S1 none res) : ∀ (f : Nat) (w1 : Int32) (S : St) (res : St), fx2 (b_245_2 F G k21 ) f w1 S = some res → Ek X (D) m245 2 [(0, .ref 78), (1, .int w1)] [] S none res := by
  refine fx2_ind ?_
  intro rec ih w1 S res h
  unfold b_245_2 at h
  refine x_iload_n d_245_2 rfl 1 rfl ?_
  refine x_bipush d_245_3 bp_41 ?_
  refine x_icmp_ge (tgt := 21) d_245_5 rfl (fun c1 => ?_) (fun c1 => ?_)
  · replace h := ite_t c1 h
    refine y_pick (L1 := [(0, .ref 78)]) [0] rfl ?_
    exact hk21 S _ h
  · replace h := ite_f c1 h
    refine x_aload_n d_245_8 rfl 0 rfl ?_
    refine y_getR d_245_9 fl_11_96 rfl kd_78 rr_78_59 ?_
    refine x_iload_n d_245_12 rfl 1 rfl ?_
    refine x_iconst d_245_13 ic_0 ?_
    obtain ⟨g2, h⟩ := gd_inv h
    obtain ⟨S3, e4, h⟩ := lt_inv h
    refine y_iast e4 d_245_14 kd_101 g2 ?_
    obtain ⟨v5, e6, h⟩ := lt_inv h
    refine y_iinc (L1 := [(0, .ref 78), (1, .int v5)]) e6 ic_1 d_245_15 1 rfl (Nat.le_of_ble_eq_true rfl) rfl rfl ?_
    refine x_goto (tgt := 2) d_245_18 rfl ?_
    exact ih v5 S3 _ h
set_option maxRecDepth 100000 in
set_option maxHeartbeats 4000000 in
theorem T_245_23 {X : Nat × (Nat → Int32)} {D F G : Nat} (hD : 0 ≤ D) : ∀ (f : Nat) (w1 : Int32) (S : St) (res : St), fx2 (b_245_23 F G ) f w1 S = some res → Ek X (D) m245 23 [(0, .ref 78), (1, .int w1)] [] S none res := by
  refine fx2_ind ?_
  intro rec ih w1 S res h
  unfold b_245_23 at h
  refine x_iload_n d_245_23 rfl 1 rfl ?_
  refine x_aload_n d_245_24 rfl 0 rfl ?_
  refine y_getI d_245_25 fl_11_322 rfl kd_78 ?_
  refine x_icmp_ge (tgt := 82) d_245_28 rfl (fun c8 => ?_) (fun c8 => ?_)
  · replace h := ite_t c8 h
    obtain rfl := Option.some.inj h
    exact x_ret (r := none) d_245_82 rfl
  · replace h := ite_f c8 h
    refine x_aload_n d_245_31 rfl 0 rfl ?_
    refine y_getR d_245_32 fl_11_96 rfl kd_78 rr_78_59 ?_
    refine x_bipush d_245_35 bp_10 ?_
    refine x_iload_n d_245_37 rfl 1 rfl ?_
    refine x_iadd d_245_38 ?_
    refine x_aload_n d_245_39 rfl 0 rfl ?_
    refine y_getR d_245_40 fl_11_69 rfl kd_78 rr_78_36 ?_
    refine x_iload_n d_245_43 rfl 1 rfl ?_
    obtain ⟨g9, h⟩ := gd_inv h
    refine y_iald d_245_44 kd_97 g9 ?_
    obtain ⟨g10, h⟩ := gd_inv h
    obtain ⟨S11, e12, h⟩ := lt_inv h
    refine y_iast e12 d_245_45 kd_101 g10 ?_
    refine x_aload_n d_245_46 rfl 0 rfl ?_
    refine y_getR d_245_47 fl_11_96 rfl kd_78 rr_78_59 ?_
    refine x_bipush d_245_50 bp_20 ?_
    refine x_iload_n d_245_52 rfl 1 rfl ?_
    refine x_iadd d_245_53 ?_
    refine x_aload_n d_245_54 rfl 0 rfl ?_
    refine y_getR d_245_55 fl_11_72 rfl kd_78 rr_78_37 ?_
    refine x_iload_n d_245_58 rfl 1 rfl ?_
    obtain ⟨g13, h⟩ := gd_inv h
    refine y_iald d_245_59 kd_98 g13 ?_
    obtain ⟨g14, h⟩ := gd_inv h
    obtain ⟨S15, e16, h⟩ := lt_inv h
    refine y_iast e16 d_245_60 kd_101 g14 ?_
    refine x_aload_n d_245_61 rfl 0 rfl ?_
    refine y_getR d_245_62 fl_11_96 rfl kd_78 rr_78_59 ?_
    refine x_bipush d_245_65 bp_30 ?_
    refine x_iload_n d_245_67 rfl 1 rfl ?_
    refine x_iadd d_245_68 ?_
    refine x_aload_n d_245_69 rfl 0 rfl ?_
    refine y_getR d_245_70 fl_11_75 rfl kd_78 rr_78_38 ?_
    refine x_iload_n d_245_73 rfl 1 rfl ?_
    obtain ⟨g17, h⟩ := gd_inv h
    refine y_iald d_245_74 kd_99 g17 ?_
    obtain ⟨g18, h⟩ := gd_inv h
    obtain ⟨S19, e20, h⟩ := lt_inv h
    refine y_iast e20 d_245_75 kd_101 g18 ?_
    obtain ⟨v21, e22, h⟩ := lt_inv h
    refine y_iinc (L1 := [(0, .ref 78), (1, .int v21)]) e22 ic_1 d_245_76 1 rfl (Nat.le_of_ble_eq_true rfl) rfl rfl ?_
    refine x_goto (tgt := 23) d_245_79 rfl ?_
    exact ih v21 S19 _ h
set_option maxRecDepth 100000 in
set_option maxHeartbeats 4000000 in
theorem c_245 {X : Nat × (Nat → Int32)} {D F G : Nat} (hD : 0 ≤ D) {S : St} {res : St} (h : fM_begin F G S  = some res) : Ek X (D) m245 0 [(0, .ref 78)] [] S none res := by
  unfold fM_begin at h
  refine x_iconst d_245_0 ic_0 ?_
  refine x_istore_n (L1 := [(0, .ref 78), (1, .int (0 : Int32))]) d_245_1 rfl (Nat.le_of_ble_eq_true rfl) rfl rfl ?_
  refine T_245_2 (by omega)  ?_ F (0 : Int32) S _ h
  · intro S7 res h
    refine x_iconst d_245_21 ic_0 ?_
    refine x_istore_n (L1 := [(0, .ref 78), (1, .int (0 : Int32))]) d_245_22 rfl (Nat.le_of_ble_eq_true rfl) rfl rfl ?_
    refine T_245_23 (by omega)   F (0 : Int32) S7 _ h
/-! NinetyPlayersModel.keepAir -/
def b_246_2 (F G : Nat) (rec : Int32 → St → Option (St)) (w1 : Int32) (S : St) : Option (St) :=
  if (41 : Int32) ≤ w1 then some S else gd (inB w1 41) (gd (inB w1 41) (lt (sI S 100 w1.toNatClampNeg (S.1 101 w1.toNatClampNeg)) fun S4 => lt (w1 + 1) fun v6 => rec v6 S4))
def fM_keepAir (F G : Nat) (S : St) : Option (St) :=
  fx2 (b_246_2 F G ) F (0 : Int32) S
set_option maxRecDepth 100000 in
set_option maxHeartbeats 4000000 in
theorem T_246_2 {X : Nat × (Nat → Int32)} {D F G : Nat} (hD : 0 ≤ D) : ∀ (f : Nat) (w1 : Int32) (S : St) (res : St), fx2 (b_246_2 F G ) f w1 S = some res → Ek X (D) m246 2 [(0, .ref 78), (1, .int w1)] [] S none res := by
  refine fx2_ind ?_
  intro rec ih w1 S res h
  unfold b_246_2 at h
  refine x_iload_n d_246_2 rfl 1 rfl ?_
  refine x_bipush d_246_3 bp_41 ?_
  refine x_icmp_ge (tgt := 26) d_246_5 rfl (fun c1 => ?_) (fun c1 => ?_)
  · replace h := ite_t c1 h
    obtain rfl := Option.some.inj h
    exact x_ret (r := none) d_246_26 rfl
  · replace h := ite_f c1 h
    refine x_aload_n d_246_8 rfl 0 rfl ?_
    refine y_getR d_246_9 fl_11_93 rfl kd_78 rr_78_58 ?_
    refine x_iload_n d_246_12 rfl 1 rfl ?_
    refine x_aload_n d_246_13 rfl 0 rfl ?_
    refine y_getR d_246_14 fl_11_96 rfl kd_78 rr_78_59 ?_
    refine x_iload_n d_246_17 rfl 1 rfl ?_
    obtain ⟨g2, h⟩ := gd_inv h
    refine y_iald d_246_18 kd_101 g2 ?_
    obtain ⟨g3, h⟩ := gd_inv h
    obtain ⟨S4, e5, h⟩ := lt_inv h
    refine y_iast e5 d_246_19 kd_100 g3 ?_
    obtain ⟨v6, e7, h⟩ := lt_inv h
    refine y_iinc (L1 := [(0, .ref 78), (1, .int v6)]) e7 ic_1 d_246_20 1 rfl (Nat.le_of_ble_eq_true rfl) rfl rfl ?_
    refine x_goto (tgt := 2) d_246_23 rfl ?_
    exact ih v6 S4 _ h
set_option maxRecDepth 100000 in
set_option maxHeartbeats 4000000 in
theorem c_246 {X : Nat × (Nat → Int32)} {D F G : Nat} (hD : 0 ≤ D) {S : St} {res : St} (h : fM_keepAir F G S  = some res) : Ek X (D) m246 0 [(0, .ref 78)] [] S none res := by
  unfold fM_keepAir at h
  refine x_iconst d_246_0 ic_0 ?_
  refine x_istore_n (L1 := [(0, .ref 78), (1, .int (0 : Int32))]) d_246_1 rfl (Nat.le_of_ble_eq_true rfl) rfl rfl ?_
  refine T_246_2 (by omega)   F (0 : Int32) S _ h
/-! NinetyPlayersModel.score -/
def b_211_106 (F G : Nat) (k144 : St → Option (Int32 × St)) (rec : Int32 → St → Option (Int32 × St)) (w1 : Int32) (S : St) : Option (Int32 × St) :=
  if (S.1 78 18) ≤ w1 then k144 S else gd (inB w1 320) (gd (inB w1 320) (lt (sI S 83 w1.toNatClampNeg (S.1 81 w1.toNatClampNeg)) fun S29 => gd (inB w1 320) (gd (inB w1 320) (lt (sI S29 84 w1.toNatClampNeg (S29.1 82 w1.toNatClampNeg)) fun S33 => lt (w1 + 1) fun v35 => rec v35 S33))))
def b_211_146 (F G : Nat) (k172 : St → Option (Int32 × St)) (rec : Int32 → St → Option (Int32 × St)) (w1 : Int32) (S : St) : Option (Int32 × St) :=
  if (S.1 78 47) ≤ w1 then k172 S else gd (inB w1 4) (gd (inB w1 4) (lt (sI S 94 w1.toNatClampNeg (S.1 88 w1.toNatClampNeg)) fun S41 => lt (w1 + 1) fun v43 => rec v43 S41))
def b_211_174 (F G : Nat) (k248 : St → Option (Int32 × St)) (rec : Int32 → St → Option (Int32 × St)) (w1 : Int32) (S : St) : Option (Int32 × St) :=
  if (S.1 78 48) ≤ w1 then k248 S else gd (inB w1 10) (gd (inB w1 10) (lt (sI S 95 w1.toNatClampNeg (S.1 89 w1.toNatClampNeg)) fun S49 => gd (inB w1 10) (gd (inB w1 10) (lt (sI S49 96 w1.toNatClampNeg (S49.1 90 w1.toNatClampNeg)) fun S53 => gd (inB w1 10) (gd (inB w1 10) (lt (sI S53 97 w1.toNatClampNeg (S53.1 91 w1.toNatClampNeg)) fun S57 => gd (inB w1 10) (gd (inB w1 10) (lt (sI S57 98 w1.toNatClampNeg (S57.1 92 w1.toNatClampNeg)) fun S61 => gd (inB w1 10) (gd (inB w1 10) (lt (sI S61 99 w1.toNatClampNeg (S61.1 93 w1.toNatClampNeg)) fun S65 => lt (w1 + 1) fun v67 => rec v67 S65))))))))))
def b_211_278 (F G : Nat) (rec : Int32 → St → Option (Int32 × St)) (w1 : Int32) (S : St) : Option (Int32 × St) :=
  if (3 : Int32) ≤ w1 then some (S.1 78 48, S) else gd (inB w1 3) (lt (sI S 115 w1.toNatClampNeg (vp_nar .boolean (0 : Int32))) fun S84 => lt (w1 + 1) fun v86 => rec v86 S84)
def fM_score (F G : Nat) (S : St) : Option (Int32 × St) :=
  bd (fM_readAll F G S ) fun S2 => if (S2.1 78 2) ≤ 0 then lt (sI S2 78 46 (S2.1 78 39)) fun S4 => lt (sI S4 78 47 (S4.1 78 40)) fun S6 => lt (sI S6 78 48 (S6.1 78 41)) fun S8 => lt (sI S8 78 49 (S8.1 78 42)) fun S10 => lt (sI S10 78 50 (S10.1 78 43)) fun S12 => lt (sI S12 78 51 (S12.1 78 44)) fun S14 => lt (sI S14 78 52 (S14.1 78 45)) fun S16 => lt (sI S16 78 21 (S16.1 78 20)) fun S18 => gd (isB (S18.1 78 24)) (lt (sI S18 78 25 (S18.1 78 24)) fun S21 => if (S21.1 78 24) = 0 then lt (sI S21 78 18 (0 : Int32)) fun S24 => fx2 (b_211_106 F G  (fun S37 => fx2 (b_211_146 F G  (fun S45 => fx2 (b_211_174 F G  (fun S69 => bd (fM_begin F G S69 ) fun S71 => bd (fM_keepAir F G S71 ) fun S73 => lt (sI S73 78 63 (0 : Int32)) fun S74 => lt (sI S74 78 64 (0 : Int32)) fun S76 => lt (sI S76 78 74 (0 : Int32)) fun S78 => lt (sI S78 78 68 (0 : Int32)) fun S80 => fx2 (b_211_278 F G ) F (0 : Int32) S80)) F (0 : Int32) S45)) F (0 : Int32) S37)) F (0 : Int32) S24 else lt (sI S21 78 18 (S21.1 78 17)) fun S88 => fx2 (b_211_106 F G  (fun S90 => fx2 (b_211_146 F G  (fun S91 => fx2 (b_211_174 F G  (fun S92 => bd (fM_begin F G S92 ) fun S94 => bd (fM_keepAir F G S94 ) fun S96 => lt (sI S96 78 63 (0 : Int32)) fun S97 => lt (sI S97 78 64 (0 : Int32)) fun S99 => lt (sI S99 78 74 (0 : Int32)) fun S101 => lt (sI S101 78 68 (0 : Int32)) fun S103 => fx2 (b_211_278 F G ) F (0 : Int32) S103)) F (0 : Int32) S91)) F (0 : Int32) S90)) F (0 : Int32) S88) else some ((-1 : Int32), S2)
set_option maxRecDepth 100000 in
set_option maxHeartbeats 4000000 in
theorem T_211_106 {X : Nat × (Nat → Int32)} {D F G : Nat} (hD : 7 ≤ D + 1) {k144 : St → Option (Int32 × St)} (hk144 : ∀ (S1 : St) (res : Int32 × St), k144 S1 = some res → Ek X (D + 1) m211 144 [(0, .ref 78)] [] S1 (some (.int res.1)) res.2) : ∀ (f : Nat) (w1 : Int32) (S : St) (res : Int32 × St), fx2 (b_211_106 F G k144 ) f w1 S = some res → Ek X (D + 1) m211 106 [(0, .ref 78), (1, .int w1)] [] S (some (.int res.1)) res.2 := by
  refine fx2_ind ?_
  intro rec ih w1 S res h
  unfold b_211_106 at h
  refine x_iload_n d_211_106 rfl 1 rfl ?_
  refine x_aload_n d_211_107 rfl 0 rfl ?_
  refine y_getI d_211_108 fl_11_340 rfl kd_78 ?_
  refine x_icmp_ge (tgt := 144) d_211_111 rfl (fun c26 => ?_) (fun c26 => ?_)
  · replace h := ite_t c26 h
    refine y_pick (L1 := [(0, .ref 78)]) [0] rfl ?_
    exact hk144 S _ h
  · replace h := ite_f c26 h
    refine x_aload_n d_211_114 rfl 0 rfl ?_
    refine y_getR d_211_115 fl_11_27 rfl kd_78 rr_78_13 ?_
    refine x_iload_n d_211_118 rfl 1 rfl ?_
    refine x_aload_n d_211_119 rfl 0 rfl ?_
    refine y_getR d_211_120 fl_11_21 rfl kd_78 rr_78_11 ?_
    refine x_iload_n d_211_123 rfl 1 rfl ?_
    obtain ⟨g27, h⟩ := gd_inv h
    refine y_iald d_211_124 kd_81 g27 ?_
    obtain ⟨g28, h⟩ := gd_inv h
    obtain ⟨S29, e30, h⟩ := lt_inv h
    refine y_iast e30 d_211_125 kd_83 g28 ?_
    refine x_aload_n d_211_126 rfl 0 rfl ?_
    refine y_getR d_211_127 fl_11_30 rfl kd_78 rr_78_14 ?_
    refine x_iload_n d_211_130 rfl 1 rfl ?_
    refine x_aload_n d_211_131 rfl 0 rfl ?_
    refine y_getR d_211_132 fl_11_24 rfl kd_78 rr_78_12 ?_
    refine x_iload_n d_211_135 rfl 1 rfl ?_
    obtain ⟨g31, h⟩ := gd_inv h
    refine y_iald d_211_136 kd_82 g31 ?_
    obtain ⟨g32, h⟩ := gd_inv h
    obtain ⟨S33, e34, h⟩ := lt_inv h
    refine y_iast e34 d_211_137 kd_84 g32 ?_
    obtain ⟨v35, e36, h⟩ := lt_inv h
    refine y_iinc (L1 := [(0, .ref 78), (1, .int v35)]) e36 ic_1 d_211_138 1 rfl (Nat.le_of_ble_eq_true rfl) rfl rfl ?_
    refine x_goto (tgt := 106) d_211_141 rfl ?_
    exact ih v35 S33 _ h
set_option maxRecDepth 100000 in
set_option maxHeartbeats 4000000 in
theorem T_211_146 {X : Nat × (Nat → Int32)} {D F G : Nat} (hD : 7 ≤ D + 1) {k172 : St → Option (Int32 × St)} (hk172 : ∀ (S1 : St) (res : Int32 × St), k172 S1 = some res → Ek X (D + 1) m211 172 [(0, .ref 78)] [] S1 (some (.int res.1)) res.2) : ∀ (f : Nat) (w1 : Int32) (S : St) (res : Int32 × St), fx2 (b_211_146 F G k172 ) f w1 S = some res → Ek X (D + 1) m211 146 [(0, .ref 78), (1, .int w1)] [] S (some (.int res.1)) res.2 := by
  refine fx2_ind ?_
  intro rec ih w1 S res h
  unfold b_211_146 at h
  refine x_iload_n d_211_146 rfl 1 rfl ?_
  refine x_aload_n d_211_147 rfl 0 rfl ?_
  refine y_getI d_211_148 fl_11_405 rfl kd_78 ?_
  refine x_icmp_ge (tgt := 172) d_211_151 rfl (fun c38 => ?_) (fun c38 => ?_)
  · replace h := ite_t c38 h
    refine y_pick (L1 := [(0, .ref 78)]) [0] rfl ?_
    exact hk172 S _ h
  · replace h := ite_f c38 h
    refine x_aload_n d_211_154 rfl 0 rfl ?_
    refine y_getR d_211_155 fl_11_60 rfl kd_78 rr_78_33 ?_
    refine x_iload_n d_211_158 rfl 1 rfl ?_
    refine x_aload_n d_211_159 rfl 0 rfl ?_
    refine y_getR d_211_160 fl_11_42 rfl kd_78 rr_78_27 ?_
    refine x_iload_n d_211_163 rfl 1 rfl ?_
    obtain ⟨g39, h⟩ := gd_inv h
    refine y_iald d_211_164 kd_88 g39 ?_
    obtain ⟨g40, h⟩ := gd_inv h
    obtain ⟨S41, e42, h⟩ := lt_inv h
    refine y_iast e42 d_211_165 kd_94 g40 ?_
    obtain ⟨v43, e44, h⟩ := lt_inv h
    refine y_iinc (L1 := [(0, .ref 78), (1, .int v43)]) e44 ic_1 d_211_166 1 rfl (Nat.le_of_ble_eq_true rfl) rfl rfl ?_
    refine x_goto (tgt := 146) d_211_169 rfl ?_
    exact ih v43 S41 _ h
set_option maxRecDepth 100000 in
set_option maxHeartbeats 4000000 in
theorem T_211_174 {X : Nat × (Nat → Int32)} {D F G : Nat} (hD : 7 ≤ D + 1) {k248 : St → Option (Int32 × St)} (hk248 : ∀ (S1 : St) (res : Int32 × St), k248 S1 = some res → Ek X (D + 1) m211 248 [(0, .ref 78)] [] S1 (some (.int res.1)) res.2) : ∀ (f : Nat) (w1 : Int32) (S : St) (res : Int32 × St), fx2 (b_211_174 F G k248 ) f w1 S = some res → Ek X (D + 1) m211 174 [(0, .ref 78), (1, .int w1)] [] S (some (.int res.1)) res.2 := by
  refine fx2_ind ?_
  intro rec ih w1 S res h
  unfold b_211_174 at h
  refine x_iload_n d_211_174 rfl 1 rfl ?_
  refine x_aload_n d_211_175 rfl 0 rfl ?_
  refine y_getI d_211_176 fl_11_322 rfl kd_78 ?_
  refine x_icmp_ge (tgt := 248) d_211_179 rfl (fun c46 => ?_) (fun c46 => ?_)
  · replace h := ite_t c46 h
    refine y_pick (L1 := [(0, .ref 78)]) [0] rfl ?_
    exact hk248 S _ h
  · replace h := ite_f c46 h
    refine x_aload_n d_211_182 rfl 0 rfl ?_
    refine y_getR d_211_183 fl_11_63 rfl kd_78 rr_78_34 ?_
    refine x_iload_n d_211_186 rfl 1 rfl ?_
    refine x_aload_n d_211_187 rfl 0 rfl ?_
    refine y_getR d_211_188 fl_11_45 rfl kd_78 rr_78_28 ?_
    refine x_iload_n d_211_191 rfl 1 rfl ?_
    obtain ⟨g47, h⟩ := gd_inv h
    refine y_iald d_211_192 kd_89 g47 ?_
    obtain ⟨g48, h⟩ := gd_inv h
    obtain ⟨S49, e50, h⟩ := lt_inv h
    refine y_iast e50 d_211_193 kd_95 g48 ?_
    refine x_aload_n d_211_194 rfl 0 rfl ?_
    refine y_getR d_211_195 fl_11_66 rfl kd_78 rr_78_35 ?_
    refine x_iload_n d_211_198 rfl 1 rfl ?_
    refine x_aload_n d_211_199 rfl 0 rfl ?_
    refine y_getR d_211_200 fl_11_48 rfl kd_78 rr_78_29 ?_
    refine x_iload_n d_211_203 rfl 1 rfl ?_
    obtain ⟨g51, h⟩ := gd_inv h
    refine y_iald d_211_204 kd_90 g51 ?_
    obtain ⟨g52, h⟩ := gd_inv h
    obtain ⟨S53, e54, h⟩ := lt_inv h
    refine y_iast e54 d_211_205 kd_96 g52 ?_
    refine x_aload_n d_211_206 rfl 0 rfl ?_
    refine y_getR d_211_207 fl_11_69 rfl kd_78 rr_78_36 ?_
    refine x_iload_n d_211_210 rfl 1 rfl ?_
    refine x_aload_n d_211_211 rfl 0 rfl ?_
    refine y_getR d_211_212 fl_11_51 rfl kd_78 rr_78_30 ?_
    refine x_iload_n d_211_215 rfl 1 rfl ?_
    obtain ⟨g55, h⟩ := gd_inv h
    refine y_iald d_211_216 kd_91 g55 ?_
    obtain ⟨g56, h⟩ := gd_inv h
    obtain ⟨S57, e58, h⟩ := lt_inv h
    refine y_iast e58 d_211_217 kd_97 g56 ?_
    refine x_aload_n d_211_218 rfl 0 rfl ?_
    refine y_getR d_211_219 fl_11_72 rfl kd_78 rr_78_37 ?_
    refine x_iload_n d_211_222 rfl 1 rfl ?_
    refine x_aload_n d_211_223 rfl 0 rfl ?_
    refine y_getR d_211_224 fl_11_54 rfl kd_78 rr_78_31 ?_
    refine x_iload_n d_211_227 rfl 1 rfl ?_
    obtain ⟨g59, h⟩ := gd_inv h
    refine y_iald d_211_228 kd_92 g59 ?_
    obtain ⟨g60, h⟩ := gd_inv h
    obtain ⟨S61, e62, h⟩ := lt_inv h
    refine y_iast e62 d_211_229 kd_98 g60 ?_
    refine x_aload_n d_211_230 rfl 0 rfl ?_
    refine y_getR d_211_231 fl_11_75 rfl kd_78 rr_78_38 ?_
    refine x_iload_n d_211_234 rfl 1 rfl ?_
    refine x_aload_n d_211_235 rfl 0 rfl ?_
    refine y_getR d_211_236 fl_11_57 rfl kd_78 rr_78_32 ?_
    refine x_iload_n d_211_239 rfl 1 rfl ?_
    obtain ⟨g63, h⟩ := gd_inv h
    refine y_iald d_211_240 kd_93 g63 ?_
    obtain ⟨g64, h⟩ := gd_inv h
    obtain ⟨S65, e66, h⟩ := lt_inv h
    refine y_iast e66 d_211_241 kd_99 g64 ?_
    obtain ⟨v67, e68, h⟩ := lt_inv h
    refine y_iinc (L1 := [(0, .ref 78), (1, .int v67)]) e68 ic_1 d_211_242 1 rfl (Nat.le_of_ble_eq_true rfl) rfl rfl ?_
    refine x_goto (tgt := 174) d_211_245 rfl ?_
    exact ih v67 S65 _ h
set_option maxRecDepth 100000 in
set_option maxHeartbeats 4000000 in
theorem T_211_278 {X : Nat × (Nat → Int32)} {D F G : Nat} (hD : 7 ≤ D + 1) : ∀ (f : Nat) (w1 : Int32) (S : St) (res : Int32 × St), fx2 (b_211_278 F G ) f w1 S = some res → Ek X (D + 1) m211 278 [(0, .ref 78), (1, .int w1)] [] S (some (.int res.1)) res.2 := by
  refine fx2_ind ?_
  intro rec ih w1 S res h
  unfold b_211_278 at h
  refine x_iload_n d_211_278 rfl 1 rfl ?_
  refine x_iconst d_211_279 ic_3 ?_
  refine x_icmp_ge (tgt := 296) d_211_280 rfl (fun c82 => ?_) (fun c82 => ?_)
  · replace h := ite_t c82 h
    refine x_aload_n d_211_296 rfl 0 rfl ?_
    refine y_getI d_211_297 fl_11_322 rfl kd_78 ?_
    obtain rfl := Option.some.inj h
    exact x_ret (r := some (.int (S.1 78 48))) d_211_300 ⟨_, rfl, rfl⟩
  · replace h := ite_f c82 h
    refine x_aload_n d_211_283 rfl 0 rfl ?_
    refine y_getR d_211_284 fl_11_139 rfl kd_78 rr_78_78 ?_
    refine x_iload_n d_211_287 rfl 1 rfl ?_
    refine x_iconst d_211_288 ic_0 ?_
    obtain ⟨g83, h⟩ := gd_inv h
    obtain ⟨S84, e85, h⟩ := lt_inv h
    refine y_zast e85 d_211_289 kd_115 g83 ?_
    obtain ⟨v86, e87, h⟩ := lt_inv h
    refine y_iinc (L1 := [(0, .ref 78), (1, .int v86)]) e87 ic_1 d_211_290 1 rfl (Nat.le_of_ble_eq_true rfl) rfl rfl ?_
    refine x_goto (tgt := 278) d_211_293 rfl ?_
    exact ih v86 S84 _ h
set_option maxRecDepth 100000 in
set_option maxHeartbeats 4000000 in
theorem c_211 {X : Nat × (Nat → Int32)} {D F G : Nat} (hD : 7 ≤ D) {S : St} {res : Int32 × St} (h : fM_score F G S  = some res) : Ek X (D) m211 0 [(0, .ref 78)] [] S (some (.int res.1)) res.2 := by
  obtain ⟨D, rfl⟩ : ∃ E, D = E + 1 := ⟨D - 1, by omega⟩
  unfold fM_score at h
  refine x_aload_n d_211_0 rfl 0 rfl ?_
  obtain ⟨S2, q1, h⟩ := bd_inv h
  refine y_V0v (S1 := S2) d_211_1 ml_11_402 kd_78 rfl (Nat.le_of_ble_eq_true rfl) (Nat.le_of_ble_eq_true rfl) (c_212 (by omega) q1) ?_
  refine x_aload_n d_211_4 rfl 0 rfl ?_
  refine y_getI d_211_5 fl_11_185 rfl kd_78 ?_
  refine x_if_le (tgt := 13) d_211_8 rfl (fun c3 => ?_) (fun c3 => ?_)
  · replace h := ite_t c3 h
    refine x_aload_n d_211_13 rfl 0 rfl ?_
    refine x_aload_n d_211_14 rfl 0 rfl ?_
    refine y_getI d_211_15 fl_11_356 rfl kd_78 ?_
    obtain ⟨S4, e5, h⟩ := lt_inv h
    refine y_putI e5 d_211_18 fl_11_78 rfl rfl kd_78 rfl rfl ?_
    refine x_aload_n d_211_21 rfl 0 rfl ?_
    refine x_aload_n d_211_22 rfl 0 rfl ?_
    refine y_getI d_211_23 fl_11_258 rfl kd_78 ?_
    obtain ⟨S6, e7, h⟩ := lt_inv h
    refine y_putI e7 d_211_26 fl_11_405 rfl rfl kd_78 rfl rfl ?_
    refine x_aload_n d_211_29 rfl 0 rfl ?_
    refine x_aload_n d_211_30 rfl 0 rfl ?_
    refine y_getI d_211_31 fl_11_350 rfl kd_78 ?_
    obtain ⟨S8, e9, h⟩ := lt_inv h
    refine y_putI e9 d_211_34 fl_11_322 rfl rfl kd_78 rfl rfl ?_
    refine x_aload_n d_211_37 rfl 0 rfl ?_
    refine x_aload_n d_211_38 rfl 0 rfl ?_
    refine y_getI d_211_39 fl_11_378 rfl kd_78 ?_
    obtain ⟨S10, e11, h⟩ := lt_inv h
    refine y_putI e11 d_211_42 fl_11_81 rfl rfl kd_78 rfl rfl ?_
    refine x_aload_n d_211_45 rfl 0 rfl ?_
    refine x_aload_n d_211_46 rfl 0 rfl ?_
    refine y_getI d_211_47 fl_11_384 rfl kd_78 ?_
    obtain ⟨S12, e13, h⟩ := lt_inv h
    refine y_putI e13 d_211_50 fl_11_84 rfl rfl kd_78 rfl rfl ?_
    refine x_aload_n d_211_53 rfl 0 rfl ?_
    refine x_aload_n d_211_54 rfl 0 rfl ?_
    refine y_getI d_211_55 fl_11_390 rfl kd_78 ?_
    obtain ⟨S14, e15, h⟩ := lt_inv h
    refine y_putI e15 d_211_58 fl_11_87 rfl rfl kd_78 rfl rfl ?_
    refine x_aload_n d_211_61 rfl 0 rfl ?_
    refine x_aload_n d_211_62 rfl 0 rfl ?_
    refine y_getI d_211_63 fl_11_396 rfl kd_78 ?_
    obtain ⟨S16, e17, h⟩ := lt_inv h
    refine y_putI e17 d_211_66 fl_11_90 rfl rfl kd_78 rfl rfl ?_
    refine x_aload_n d_211_69 rfl 0 rfl ?_
    refine x_aload_n d_211_70 rfl 0 rfl ?_
    refine y_getI d_211_71 fl_11_277 rfl kd_78 ?_
    obtain ⟨S18, e19, h⟩ := lt_inv h
    refine y_putI e19 d_211_74 fl_11_408 rfl rfl kd_78 rfl rfl ?_
    refine x_aload_n d_211_77 rfl 0 rfl ?_
    refine x_aload_n d_211_78 rfl 0 rfl ?_
    refine y_getI d_211_79 fl_11_299 rfl kd_78 ?_
    obtain ⟨g20, h⟩ := gd_inv h
    obtain ⟨S21, e22, h⟩ := lt_inv h
    refine y_putI e22 d_211_82 fl_11_334 rfl rfl kd_78 (isB_nar g20) (isB_fit g20) ?_
    refine x_aload_n d_211_85 rfl 0 rfl ?_
    refine x_aload_n d_211_86 rfl 0 rfl ?_
    refine y_getI d_211_87 fl_11_299 rfl kd_78 ?_
    refine x_if_eq (tgt := 100) d_211_90 rfl (fun c23 => ?_) (fun c23 => ?_)
    · replace h := ite_t c23 h
      refine x_iconst d_211_100 ic_0 ?_
      obtain ⟨S24, e25, h⟩ := lt_inv h
      refine y_putI e25 d_211_101 fl_11_340 rfl rfl kd_78 rfl rfl ?_
      refine x_iconst d_211_104 ic_0 ?_
      refine x_istore_n (L1 := [(0, .ref 78), (1, .int (0 : Int32))]) d_211_105 rfl (Nat.le_of_ble_eq_true rfl) rfl rfl ?_
      refine T_211_106 (by omega)  ?_ F (0 : Int32) S24 _ h
      · intro S37 res h
        refine x_iconst d_211_144 ic_0 ?_
        refine x_istore_n (L1 := [(0, .ref 78), (1, .int (0 : Int32))]) d_211_145 rfl (Nat.le_of_ble_eq_true rfl) rfl rfl ?_
        refine T_211_146 (by omega)  ?_ F (0 : Int32) S37 _ h
        · intro S45 res h
          refine x_iconst d_211_172 ic_0 ?_
          refine x_istore_n (L1 := [(0, .ref 78), (1, .int (0 : Int32))]) d_211_173 rfl (Nat.le_of_ble_eq_true rfl) rfl rfl ?_
          refine T_211_174 (by omega)  ?_ F (0 : Int32) S45 _ h
          · intro S69 res h
            refine x_aload_n d_211_248 rfl 0 rfl ?_
            obtain ⟨S71, q70, h⟩ := bd_inv h
            refine y_V0v (S1 := S71) d_211_249 ml_11_411 kd_78 rfl (Nat.le_of_ble_eq_true rfl) (Nat.le_of_ble_eq_true rfl) (c_245 (by omega) q70) ?_
            refine x_aload_n d_211_252 rfl 0 rfl ?_
            obtain ⟨S73, q72, h⟩ := bd_inv h
            refine y_V0v (S1 := S73) d_211_253 ml_11_414 kd_78 rfl (Nat.le_of_ble_eq_true rfl) (Nat.le_of_ble_eq_true rfl) (c_246 (by omega) q72) ?_
            refine x_aload_n d_211_256 rfl 0 rfl ?_
            refine x_iconst d_211_257 ic_0 ?_
            obtain ⟨S74, e75, h⟩ := lt_inv h
            refine y_putI e75 d_211_258 fl_11_417 rfl rfl kd_78 rfl rfl ?_
            refine x_aload_n d_211_261 rfl 0 rfl ?_
            refine x_iconst d_211_262 ic_0 ?_
            obtain ⟨S76, e77, h⟩ := lt_inv h
            refine y_putI e77 d_211_263 fl_11_420 rfl rfl kd_78 rfl rfl ?_
            refine x_aload_n d_211_266 rfl 0 rfl ?_
            refine x_iconst d_211_267 ic_0 ?_
            obtain ⟨S78, e79, h⟩ := lt_inv h
            refine y_putI e79 d_211_268 fl_11_423 rfl rfl kd_78 rfl rfl ?_
            refine x_aload_n d_211_271 rfl 0 rfl ?_
            refine x_iconst d_211_272 ic_0 ?_
            obtain ⟨S80, e81, h⟩ := lt_inv h
            refine y_putI e81 d_211_273 fl_11_426 rfl rfl kd_78 rfl rfl ?_
            refine x_iconst d_211_276 ic_0 ?_
            refine x_istore_n (L1 := [(0, .ref 78), (1, .int (0 : Int32))]) d_211_277 rfl (Nat.le_of_ble_eq_true rfl) rfl rfl ?_
            refine T_211_278 (by omega)   F (0 : Int32) S80 _ h
    · replace h := ite_f c23 h
      refine x_aload_n d_211_93 rfl 0 rfl ?_
      refine y_getI d_211_94 fl_11_261 rfl kd_78 ?_
      refine x_goto (tgt := 101) d_211_97 rfl ?_
      obtain ⟨S88, e89, h⟩ := lt_inv h
      refine y_putI e89 d_211_101 fl_11_340 rfl rfl kd_78 rfl rfl ?_
      refine x_iconst d_211_104 ic_0 ?_
      refine x_istore_n (L1 := [(0, .ref 78), (1, .int (0 : Int32))]) d_211_105 rfl (Nat.le_of_ble_eq_true rfl) rfl rfl ?_
      refine T_211_106 (by omega)  ?_ F (0 : Int32) S88 _ h
      · intro S90 res h
        refine x_iconst d_211_144 ic_0 ?_
        refine x_istore_n (L1 := [(0, .ref 78), (1, .int (0 : Int32))]) d_211_145 rfl (Nat.le_of_ble_eq_true rfl) rfl rfl ?_
        refine T_211_146 (by omega)  ?_ F (0 : Int32) S90 _ h
        · intro S91 res h
          refine x_iconst d_211_172 ic_0 ?_
          refine x_istore_n (L1 := [(0, .ref 78), (1, .int (0 : Int32))]) d_211_173 rfl (Nat.le_of_ble_eq_true rfl) rfl rfl ?_
          refine T_211_174 (by omega)  ?_ F (0 : Int32) S91 _ h
          · intro S92 res h
            refine x_aload_n d_211_248 rfl 0 rfl ?_
            obtain ⟨S94, q93, h⟩ := bd_inv h
            refine y_V0v (S1 := S94) d_211_249 ml_11_411 kd_78 rfl (Nat.le_of_ble_eq_true rfl) (Nat.le_of_ble_eq_true rfl) (c_245 (by omega) q93) ?_
            refine x_aload_n d_211_252 rfl 0 rfl ?_
            obtain ⟨S96, q95, h⟩ := bd_inv h
            refine y_V0v (S1 := S96) d_211_253 ml_11_414 kd_78 rfl (Nat.le_of_ble_eq_true rfl) (Nat.le_of_ble_eq_true rfl) (c_246 (by omega) q95) ?_
            refine x_aload_n d_211_256 rfl 0 rfl ?_
            refine x_iconst d_211_257 ic_0 ?_
            obtain ⟨S97, e98, h⟩ := lt_inv h
            refine y_putI e98 d_211_258 fl_11_417 rfl rfl kd_78 rfl rfl ?_
            refine x_aload_n d_211_261 rfl 0 rfl ?_
            refine x_iconst d_211_262 ic_0 ?_
            obtain ⟨S99, e100, h⟩ := lt_inv h
            refine y_putI e100 d_211_263 fl_11_420 rfl rfl kd_78 rfl rfl ?_
            refine x_aload_n d_211_266 rfl 0 rfl ?_
            refine x_iconst d_211_267 ic_0 ?_
            obtain ⟨S101, e102, h⟩ := lt_inv h
            refine y_putI e102 d_211_268 fl_11_423 rfl rfl kd_78 rfl rfl ?_
            refine x_aload_n d_211_271 rfl 0 rfl ?_
            refine x_iconst d_211_272 ic_0 ?_
            obtain ⟨S103, e104, h⟩ := lt_inv h
            refine y_putI e104 d_211_273 fl_11_426 rfl rfl kd_78 rfl rfl ?_
            refine x_iconst d_211_276 ic_0 ?_
            refine x_istore_n (L1 := [(0, .ref 78), (1, .int (0 : Int32))]) d_211_277 rfl (Nat.le_of_ble_eq_true rfl) rfl rfl ?_
            refine T_211_278 (by omega)   F (0 : Int32) S103 _ h
  · replace h := ite_f c3 h
    refine x_iconst d_211_11 ic_m1 ?_
    obtain rfl := Option.some.inj h
    exact x_ret (r := some (.int (-1 : Int32))) d_211_12 ⟨_, rfl, rfl⟩
/-! NinetyPlayersModel.fault -/
def fM_fault (F G : Nat) (S : St) (p1 : Int32) : Option (Int32) :=
  if p1 = 0 then some (S.1 78 2) else if p1 = (1 : Int32) then some (S.1 78 3) else some (-1 : Int32)
set_option maxRecDepth 100000 in
set_option maxHeartbeats 4000000 in
theorem c_247 {X : Nat × (Nat → Int32)} {D F G : Nat} (hD : 0 ≤ D) {S : St} {p1 : Int32} {res : Int32} (h : fM_fault F G S p1 = some res) : Ek X (D) m247 0 [(0, .ref 78), (1, .int p1)] [] S (some (.int res)) S := by
  unfold fM_fault at h
  refine x_iload_n d_247_0 rfl 1 rfl ?_
  refine x_if_ne (tgt := 11) d_247_1 rfl (fun c1 => ?_) (fun c1 => ?_)
  · replace h := ite_f c1 h
    refine x_iload_n d_247_11 rfl 1 rfl ?_
    refine x_iconst d_247_12 ic_1 ?_
    refine x_icmp_ne (tgt := 23) d_247_13 rfl (fun c2 => ?_) (fun c2 => ?_)
    · replace h := ite_f c2 h
      refine x_iconst d_247_23 ic_m1 ?_
      obtain rfl := Option.some.inj h
      exact x_ret (r := some (.int (-1 : Int32))) d_247_24 ⟨_, rfl, rfl⟩
    · replace h := ite_t c2 h
      refine x_aload_n d_247_16 rfl 0 rfl ?_
      refine y_getI d_247_17 fl_11_13 rfl kd_78 ?_
      refine x_goto (tgt := 24) d_247_20 rfl ?_
      obtain rfl := Option.some.inj h
      exact x_ret (r := some (.int (S.1 78 3))) d_247_24 ⟨_, rfl, rfl⟩
  · replace h := ite_t c1 h
    refine x_aload_n d_247_4 rfl 0 rfl ?_
    refine y_getI d_247_5 fl_11_185 rfl kd_78 ?_
    refine x_goto (tgt := 24) d_247_8 rfl ?_
    obtain rfl := Option.some.inj h
    exact x_ret (r := some (.int (S.1 78 2))) d_247_24 ⟨_, rfl, rfl⟩
/-! NinetyPlayersModel.isIn -/
def fM_isIn (F G : Nat) (S : St) (p1 : Int32) (p2 : Int32) (p3 : Int32) : Option (Int32) :=
  if p1 < p2 then some (0 : Int32) else if p3 < p1 then some (0 : Int32) else some (1 : Int32)
set_option maxRecDepth 100000 in
set_option maxHeartbeats 4000000 in
theorem c_250 {X : Nat × (Nat → Int32)} {D F G : Nat} (hD : 0 ≤ D) {S : St} {p1 : Int32} {p2 : Int32} {p3 : Int32} {res : Int32} (h : fM_isIn F G S p1 p2 p3 = some res) : Ek X (D) m250 0 [(0, .int p1), (1, .int p2), (2, .int p3)] [] S (some (.int res)) S := by
  unfold fM_isIn at h
  refine x_iload_n d_250_0 rfl 0 rfl ?_
  refine x_iload_n d_250_1 rfl 1 rfl ?_
  refine x_icmp_lt (tgt := 14) d_250_2 rfl (fun c1 => ?_) (fun c1 => ?_)
  · replace h := ite_t c1 h
    refine x_iconst d_250_14 ic_0 ?_
    obtain rfl := Option.some.inj h
    exact x_ret (r := some (.int (0 : Int32))) d_250_15 ⟨_, rfl, rfl⟩
  · replace h := ite_f c1 h
    refine x_iload_n d_250_5 rfl 0 rfl ?_
    refine x_iload_n d_250_6 rfl 2 rfl ?_
    refine x_icmp_gt (tgt := 14) d_250_7 rfl (fun c2 => ?_) (fun c2 => ?_)
    · replace h := ite_t c2 h
      refine x_iconst d_250_14 ic_0 ?_
      obtain rfl := Option.some.inj h
      exact x_ret (r := some (.int (0 : Int32))) d_250_15 ⟨_, rfl, rfl⟩
    · replace h := ite_f c2 h
      refine x_iconst d_250_10 ic_1 ?_
      refine x_goto (tgt := 15) d_250_11 rfl ?_
      obtain rfl := Option.some.inj h
      exact x_ret (r := some (.int (1 : Int32))) d_250_15 ⟨_, rfl, rfl⟩
/-! NinetyPlayersModel.isNote -/
def fM_isNote (F G : Nat) (S : St) (p1 : Int32) : Option (Int32) :=
  bd (fM_isIn F G S p1 (0 : Int32) ((S.1 78 48) - (1 : Int32))) fun v2 => gd (isB v2) (some v2)
set_option maxRecDepth 100000 in
set_option maxHeartbeats 4000000 in
theorem c_249 {X : Nat × (Nat → Int32)} {D F G : Nat} (hD : 1 ≤ D) {S : St} {p1 : Int32} {res : Int32} (h : fM_isNote F G S p1 = some res) : Ek X (D) m249 0 [(0, .ref 78), (1, .int p1)] [] S (some (.int res)) S := by
  obtain ⟨D, rfl⟩ : ∃ E, D = E + 1 := ⟨D - 1, by omega⟩
  unfold fM_isNote at h
  refine x_iload_n d_249_0 rfl 1 rfl ?_
  refine x_iconst d_249_1 ic_0 ?_
  refine x_aload_n d_249_2 rfl 0 rfl ?_
  refine y_getI d_249_3 fl_11_322 rfl kd_78 ?_
  refine x_iconst d_249_6 ic_1 ?_
  refine x_isub d_249_7 ?_
  obtain ⟨v2, q1, h⟩ := bd_inv h
  refine y_S3i (v := v2) (S1 := S) d_249_8 ml_11_429 (Nat.le_of_ble_eq_true rfl) (Nat.le_of_ble_eq_true rfl) (c_250 (by omega) q1) ?_
  obtain ⟨g3, h⟩ := gd_inv h
  obtain rfl := Option.some.inj h
  exact x_ret (r := some (.int v2)) d_249_11 ⟨_, rfl, isB_nar g3⟩
/-! NinetyPlayersModel.layHold -/
def b_252_2 (F G : Nat) (k21 : St → Option (St)) (rec : Int32 → St → Option (St)) (w1 : Int32) (S : St) : Option (St) :=
  if (12 : Int32) ≤ w1 then k21 S else gd (inB w1 12) (lt (sI S 102 w1.toNatClampNeg (0 : Int32)) fun S3 => lt (w1 + 1) fun v5 => rec v5 S3)
def j_252_101 (F G : Nat) (z1 : Int32) (k124 : St → Option (St)) (rec : Int32 → Int32 → St → Option (St)) (S : St) (y3 : Int32) (s0 : Int32) : Option (St) :=
  if s0 = 0 then lt (y3 + 1) fun v22 => rec s0 v22 S else gd (inB y3 12) (gd (inB y3 12) (lt (sI S 102 y3.toNatClampNeg ((S.1 102 y3.toNatClampNeg) ||| ((1 : Int32) <<< (z1 &&& 31)))) fun S26 => lt (y3 + 1) fun v28 => rec s0 v28 S26))
def j_252_100 (F G : Nat) (z1 : Int32) (k124 : St → Option (St)) (rec : Int32 → Int32 → St → Option (St)) (S : St) (y3 : Int32) : Option (St) :=
  j_252_101 F G z1 k124 rec  S y3 (0 : Int32)
def j_252_96 (F G : Nat) (z1 : Int32) (k124 : St → Option (St)) (rec : Int32 → Int32 → St → Option (St)) (S : St) (y3 : Int32) : Option (St) :=
  j_252_101 F G z1 k124 rec  S y3 (1 : Int32)
def b_252_40 (F G : Nat) (z1 : Int32) (k124 : St → Option (St)) (rec : Int32 → Int32 → St → Option (St)) (w2 : Int32) (w3 : Int32) (S : St) : Option (St) :=
  if (S.1 78 46) ≤ w3 then k124 S else if w2 = 0 then k124 S else gd (inB z1 10) (gd (inB ((20 : Int32) + z1) 41) (if ((S.1 96 z1.toNatClampNeg) + (S.1 101 ((20 : Int32) + z1).toNatClampNeg)) ≤ w3 then j_252_100 F G z1 k124 rec  S w3 else gd (inB z1 10) (if w3 = (S.1 96 z1.toNatClampNeg) then j_252_96 F G z1 k124 rec  S w3 else gd (inB (40 : Int32) 41) (if (((S.1 101 (40 : Int32).toNatClampNeg) >>> (w3 &&& 31)) &&& (1 : Int32)) = 0 then j_252_96 F G z1 k124 rec  S w3 else j_252_100 F G z1 k124 rec  S w3))))
def b_252_23 (F G : Nat) (rec : Int32 → St → Option (St)) (w1 : Int32) (S : St) : Option (St) :=
  if (S.1 78 48) ≤ w1 then some S else gd (inB w1 10) (lt (S.1 96 w1.toNatClampNeg) fun v10 => fx3 (b_252_40 F G w1 (fun S30 => lt (w1 + 1) fun v31 => rec v31 S30)) F (1 : Int32) v10 S)
def fM_layHold (F G : Nat) (S : St) : Option (St) :=
  fx2 (b_252_2 F G  (fun S7 => fx2 (b_252_23 F G ) F (0 : Int32) S7)) F (0 : Int32) S
set_option maxRecDepth 100000 in
set_option maxHeartbeats 4000000 in
theorem T_252_2 {X : Nat × (Nat → Int32)} {D F G : Nat} (hD : 0 ≤ D) {k21 : St → Option (St)} (hk21 : ∀ (S1 : St) (res : St), k21 S1 = some res → Ek X (D) m252 21 [(0, .ref 78)] [] S1 none res) : ∀ (f : Nat) (w1 : Int32) (S : St) (res : St), fx2 (b_252_2 F G k21 ) f w1 S = some res → Ek X (D) m252 2 [(0, .ref 78), (1, .int w1)] [] S none res := by
  refine fx2_ind ?_
  intro rec ih w1 S res h
  unfold b_252_2 at h
  refine x_iload_n d_252_2 rfl 1 rfl ?_
  refine x_bipush d_252_3 bp_12 ?_
  refine x_icmp_ge (tgt := 21) d_252_5 rfl (fun c1 => ?_) (fun c1 => ?_)
  · replace h := ite_t c1 h
    refine y_pick (L1 := [(0, .ref 78)]) [0] rfl ?_
    exact hk21 S _ h
  · replace h := ite_f c1 h
    refine x_aload_n d_252_8 rfl 0 rfl ?_
    refine y_getR d_252_9 fl_11_99 rfl kd_78 rr_78_60 ?_
    refine x_iload_n d_252_12 rfl 1 rfl ?_
    refine x_iconst d_252_13 ic_0 ?_
    obtain ⟨g2, h⟩ := gd_inv h
    obtain ⟨S3, e4, h⟩ := lt_inv h
    refine y_iast e4 d_252_14 kd_102 g2 ?_
    obtain ⟨v5, e6, h⟩ := lt_inv h
    refine y_iinc (L1 := [(0, .ref 78), (1, .int v5)]) e6 ic_1 d_252_15 1 rfl (Nat.le_of_ble_eq_true rfl) rfl rfl ?_
    refine x_goto (tgt := 2) d_252_18 rfl ?_
    exact ih v5 S3 _ h
set_option maxRecDepth 100000 in
set_option maxHeartbeats 4000000 in
theorem T_252_40 {X : Nat × (Nat → Int32)} {D F G : Nat} (hD : 0 ≤ D) {z1 : Int32} {k124 : St → Option (St)} (hk124 : ∀ (S1 : St) (res : St), k124 S1 = some res → Ek X (D) m252 124 [(0, .ref 78), (1, .int z1)] [] S1 none res) : ∀ (f : Nat) (w2 : Int32) (w3 : Int32) (S : St) (res : St), fx3 (b_252_40 F G z1 k124 ) f w2 w3 S = some res → Ek X (D) m252 40 [(0, .ref 78), (1, .int z1), (2, .int w2), (3, .int w3)] [] S none res := by
  refine fx3_ind ?_
  intro rec ih w2 w3 S res h
  unfold b_252_40 at h
  have J101 : ∀ (S : St) (y3 : Int32) (s0 : Int32) (res : St), j_252_101 F G z1 k124 rec S y3 s0 = some res → Ek X (D) m252 101 [(0, .ref 78), (1, .int z1), (3, .int y3)] [.int s0] S none res := by
    intro S y3 s0 res h
    unfold j_252_101 at h
    refine x_istore_n (L1 := [(0, .ref 78), (1, .int z1), (2, .int s0), (3, .int y3)]) d_252_101 rfl (Nat.le_of_ble_eq_true rfl) rfl rfl ?_
    refine x_iload_n d_252_102 rfl 2 rfl ?_
    refine x_if_eq (tgt := 118) d_252_103 rfl (fun c21 => ?_) (fun c21 => ?_)
    · replace h := ite_t c21 h
      obtain ⟨v22, e23, h⟩ := lt_inv h
      refine y_iinc (L1 := [(0, .ref 78), (1, .int z1), (2, .int s0), (3, .int v22)]) e23 ic_1 d_252_118 3 rfl (Nat.le_of_ble_eq_true rfl) rfl rfl ?_
      refine x_goto (tgt := 40) d_252_121 rfl ?_
      exact ih s0 v22 S _ h
    · replace h := ite_f c21 h
      refine x_aload_n d_252_106 rfl 0 rfl ?_
      refine y_getR d_252_107 fl_11_99 rfl kd_78 rr_78_60 ?_
      refine x_iload_n d_252_110 rfl 3 rfl ?_
      refine x_dup2 d_252_111 rfl rfl ?_
      obtain ⟨g24, h⟩ := gd_inv h
      refine y_iald d_252_112 kd_102 g24 ?_
      refine x_iconst d_252_113 ic_1 ?_
      refine x_iload_n d_252_114 rfl 1 rfl ?_
      refine x_ishl d_252_115 ?_
      refine x_ior d_252_116 ?_
      obtain ⟨g25, h⟩ := gd_inv h
      obtain ⟨S26, e27, h⟩ := lt_inv h
      refine y_iast e27 d_252_117 kd_102 g25 ?_
      obtain ⟨v28, e29, h⟩ := lt_inv h
      refine y_iinc (L1 := [(0, .ref 78), (1, .int z1), (2, .int s0), (3, .int v28)]) e29 ic_1 d_252_118 3 rfl (Nat.le_of_ble_eq_true rfl) rfl rfl ?_
      refine x_goto (tgt := 40) d_252_121 rfl ?_
      exact ih s0 v28 S26 _ h
  have J100 : ∀ (S : St) (y3 : Int32) (res : St), j_252_100 F G z1 k124 rec S y3 = some res → Ek X (D) m252 100 [(0, .ref 78), (1, .int z1), (3, .int y3)] [] S none res := by
    intro S y3 res h
    unfold j_252_100 at h
    refine x_iconst d_252_100 ic_0 ?_
    exact J101 S y3 (0 : Int32) _ h
  have J96 : ∀ (S : St) (y3 : Int32) (res : St), j_252_96 F G z1 k124 rec S y3 = some res → Ek X (D) m252 96 [(0, .ref 78), (1, .int z1), (3, .int y3)] [] S none res := by
    intro S y3 res h
    unfold j_252_96 at h
    refine x_iconst d_252_96 ic_1 ?_
    refine x_goto (tgt := 101) d_252_97 rfl ?_
    exact J101 S y3 (1 : Int32) _ h
  refine x_iload_n d_252_40 rfl 3 rfl ?_
  refine x_aload_n d_252_41 rfl 0 rfl ?_
  refine y_getI d_252_42 fl_11_78 rfl kd_78 ?_
  refine x_icmp_ge (tgt := 124) d_252_45 rfl (fun c12 => ?_) (fun c12 => ?_)
  · replace h := ite_t c12 h
    refine y_pick (L1 := [(0, .ref 78), (1, .int z1)]) [0, 1] rfl ?_
    exact hk124 S _ h
  · replace h := ite_f c12 h
    refine x_iload_n d_252_48 rfl 2 rfl ?_
    refine x_if_eq (tgt := 124) d_252_49 rfl (fun c13 => ?_) (fun c13 => ?_)
    · replace h := ite_t c13 h
      refine y_pick (L1 := [(0, .ref 78), (1, .int z1)]) [0, 1] rfl ?_
      exact hk124 S _ h
    · replace h := ite_f c13 h
      refine x_iload_n d_252_52 rfl 3 rfl ?_
      refine x_aload_n d_252_53 rfl 0 rfl ?_
      refine y_getR d_252_54 fl_11_66 rfl kd_78 rr_78_35 ?_
      refine x_iload_n d_252_57 rfl 1 rfl ?_
      obtain ⟨g14, h⟩ := gd_inv h
      refine y_iald d_252_58 kd_96 g14 ?_
      refine x_aload_n d_252_59 rfl 0 rfl ?_
      refine y_getR d_252_60 fl_11_96 rfl kd_78 rr_78_59 ?_
      refine x_bipush d_252_63 bp_20 ?_
      refine x_iload_n d_252_65 rfl 1 rfl ?_
      refine x_iadd d_252_66 ?_
      obtain ⟨g15, h⟩ := gd_inv h
      refine y_iald d_252_67 kd_101 g15 ?_
      refine x_iadd d_252_68 ?_
      refine x_icmp_ge (tgt := 100) d_252_69 rfl (fun c16 => ?_) (fun c16 => ?_)
      · replace h := ite_t c16 h
        refine y_pick (L1 := [(0, .ref 78), (1, .int z1), (3, .int w3)]) [0, 1, 3] rfl ?_
        exact J100 S w3 _ h
      · replace h := ite_f c16 h
        refine x_iload_n d_252_72 rfl 3 rfl ?_
        refine x_aload_n d_252_73 rfl 0 rfl ?_
        refine y_getR d_252_74 fl_11_66 rfl kd_78 rr_78_35 ?_
        refine x_iload_n d_252_77 rfl 1 rfl ?_
        obtain ⟨g17, h⟩ := gd_inv h
        refine y_iald d_252_78 kd_96 g17 ?_
        refine x_icmp_eq (tgt := 96) d_252_79 rfl (fun c18 => ?_) (fun c18 => ?_)
        · replace h := ite_t c18 h
          refine y_pick (L1 := [(0, .ref 78), (1, .int z1), (3, .int w3)]) [0, 1, 3] rfl ?_
          exact J96 S w3 _ h
        · replace h := ite_f c18 h
          refine x_aload_n d_252_82 rfl 0 rfl ?_
          refine y_getR d_252_83 fl_11_96 rfl kd_78 rr_78_59 ?_
          refine x_bipush d_252_86 bp_40 ?_
          obtain ⟨g19, h⟩ := gd_inv h
          refine y_iald d_252_88 kd_101 g19 ?_
          refine x_iload_n d_252_89 rfl 3 rfl ?_
          refine x_ishr d_252_90 ?_
          refine x_iconst d_252_91 ic_1 ?_
          refine x_iand d_252_92 ?_
          refine x_if_ne (tgt := 100) d_252_93 rfl (fun c20 => ?_) (fun c20 => ?_)
          · replace h := ite_f c20 h
            refine y_pick (L1 := [(0, .ref 78), (1, .int z1), (3, .int w3)]) [0, 1, 3] rfl ?_
            exact J100 S w3 _ h
          · replace h := ite_t c20 h
            refine y_pick (L1 := [(0, .ref 78), (1, .int z1), (3, .int w3)]) [0, 1, 3] rfl ?_
            exact J96 S w3 _ h
set_option maxRecDepth 100000 in
set_option maxHeartbeats 4000000 in
theorem T_252_23 {X : Nat × (Nat → Int32)} {D F G : Nat} (hD : 0 ≤ D) : ∀ (f : Nat) (w1 : Int32) (S : St) (res : St), fx2 (b_252_23 F G ) f w1 S = some res → Ek X (D) m252 23 [(0, .ref 78), (1, .int w1)] [] S none res := by
  refine fx2_ind ?_
  intro rec ih w1 S res h
  unfold b_252_23 at h
  refine x_iload_n d_252_23 rfl 1 rfl ?_
  refine x_aload_n d_252_24 rfl 0 rfl ?_
  refine y_getI d_252_25 fl_11_322 rfl kd_78 ?_
  refine x_icmp_ge (tgt := 130) d_252_28 rfl (fun c8 => ?_) (fun c8 => ?_)
  · replace h := ite_t c8 h
    obtain rfl := Option.some.inj h
    exact x_ret (r := none) d_252_130 rfl
  · replace h := ite_f c8 h
    refine x_iconst d_252_31 ic_1 ?_
    refine x_istore_n (L1 := [(0, .ref 78), (1, .int w1), (2, .int (1 : Int32))]) d_252_32 rfl (Nat.le_of_ble_eq_true rfl) rfl rfl ?_
    refine x_aload_n d_252_33 rfl 0 rfl ?_
    refine y_getR d_252_34 fl_11_66 rfl kd_78 rr_78_35 ?_
    refine x_iload_n d_252_37 rfl 1 rfl ?_
    obtain ⟨g9, h⟩ := gd_inv h
    refine y_iald d_252_38 kd_96 g9 ?_
    obtain ⟨v10, e11, h⟩ := lt_inv h
    refine y_istore_n (L1 := [(0, .ref 78), (1, .int w1), (2, .int (1 : Int32)), (3, .int v10)]) e11 d_252_39 rfl (Nat.le_of_ble_eq_true rfl) rfl rfl ?_
    refine T_252_40 (by omega)  ?_ F (1 : Int32) v10 S _ h
    · intro S30 res h
      obtain ⟨v31, e32, h⟩ := lt_inv h
      refine y_iinc (L1 := [(0, .ref 78), (1, .int v31)]) e32 ic_1 d_252_124 1 rfl (Nat.le_of_ble_eq_true rfl) rfl rfl ?_
      refine x_goto (tgt := 23) d_252_127 rfl ?_
      exact ih v31 S30 _ h
set_option maxRecDepth 100000 in
set_option maxHeartbeats 4000000 in
theorem c_252 {X : Nat × (Nat → Int32)} {D F G : Nat} (hD : 0 ≤ D) {S : St} {res : St} (h : fM_layHold F G S  = some res) : Ek X (D) m252 0 [(0, .ref 78)] [] S none res := by
  unfold fM_layHold at h
  refine x_iconst d_252_0 ic_0 ?_
  refine x_istore_n (L1 := [(0, .ref 78), (1, .int (0 : Int32))]) d_252_1 rfl (Nat.le_of_ble_eq_true rfl) rfl rfl ?_
  refine T_252_2 (by omega)  ?_ F (0 : Int32) S _ h
  · intro S7 res h
    refine x_iconst d_252_21 ic_0 ?_
    refine x_istore_n (L1 := [(0, .ref 78), (1, .int (0 : Int32))]) d_252_22 rfl (Nat.le_of_ble_eq_true rfl) rfl rfl ?_
    refine T_252_23 (by omega)   F (0 : Int32) S7 _ h
/-! NinetyPlayersModel.fill -/
def b_251_2 (F G : Nat) (k26 : St → Option (St)) (rec : Int32 → St → Option (St)) (w1 : Int32) (S : St) : Option (St) :=
  if (41 : Int32) ≤ w1 then k26 S else gd (inB w1 41) (gd (inB w1 41) (lt (sI S 101 w1.toNatClampNeg (S.1 100 w1.toNatClampNeg)) fun S4 => lt (w1 + 1) fun v6 => rec v6 S4))
def fM_fill (F G : Nat) (S : St) : Option (St) :=
  fx2 (b_251_2 F G  (fun S8 => bd (fM_layHold F G S8 ) fun S10 => some S10)) F (0 : Int32) S
set_option maxRecDepth 100000 in
set_option maxHeartbeats 4000000 in
theorem T_251_2 {X : Nat × (Nat → Int32)} {D F G : Nat} (hD : 1 ≤ D + 1) {k26 : St → Option (St)} (hk26 : ∀ (S1 : St) (res : St), k26 S1 = some res → Ek X (D + 1) m251 26 [(0, .ref 78)] [] S1 none res) : ∀ (f : Nat) (w1 : Int32) (S : St) (res : St), fx2 (b_251_2 F G k26 ) f w1 S = some res → Ek X (D + 1) m251 2 [(0, .ref 78), (1, .int w1)] [] S none res := by
  refine fx2_ind ?_
  intro rec ih w1 S res h
  unfold b_251_2 at h
  refine x_iload_n d_251_2 rfl 1 rfl ?_
  refine x_bipush d_251_3 bp_41 ?_
  refine x_icmp_ge (tgt := 26) d_251_5 rfl (fun c1 => ?_) (fun c1 => ?_)
  · replace h := ite_t c1 h
    refine y_pick (L1 := [(0, .ref 78)]) [0] rfl ?_
    exact hk26 S _ h
  · replace h := ite_f c1 h
    refine x_aload_n d_251_8 rfl 0 rfl ?_
    refine y_getR d_251_9 fl_11_96 rfl kd_78 rr_78_59 ?_
    refine x_iload_n d_251_12 rfl 1 rfl ?_
    refine x_aload_n d_251_13 rfl 0 rfl ?_
    refine y_getR d_251_14 fl_11_93 rfl kd_78 rr_78_58 ?_
    refine x_iload_n d_251_17 rfl 1 rfl ?_
    obtain ⟨g2, h⟩ := gd_inv h
    refine y_iald d_251_18 kd_100 g2 ?_
    obtain ⟨g3, h⟩ := gd_inv h
    obtain ⟨S4, e5, h⟩ := lt_inv h
    refine y_iast e5 d_251_19 kd_101 g3 ?_
    obtain ⟨v6, e7, h⟩ := lt_inv h
    refine y_iinc (L1 := [(0, .ref 78), (1, .int v6)]) e7 ic_1 d_251_20 1 rfl (Nat.le_of_ble_eq_true rfl) rfl rfl ?_
    refine x_goto (tgt := 2) d_251_23 rfl ?_
    exact ih v6 S4 _ h
set_option maxRecDepth 100000 in
set_option maxHeartbeats 4000000 in
theorem c_251 {X : Nat × (Nat → Int32)} {D F G : Nat} (hD : 1 ≤ D) {S : St} {res : St} (h : fM_fill F G S  = some res) : Ek X (D) m251 0 [(0, .ref 78)] [] S none res := by
  obtain ⟨D, rfl⟩ : ∃ E, D = E + 1 := ⟨D - 1, by omega⟩
  unfold fM_fill at h
  refine x_iconst d_251_0 ic_0 ?_
  refine x_istore_n (L1 := [(0, .ref 78), (1, .int (0 : Int32))]) d_251_1 rfl (Nat.le_of_ble_eq_true rfl) rfl rfl ?_
  refine T_251_2 (by omega)  ?_ F (0 : Int32) S _ h
  · intro S8 res h
    refine x_aload_n d_251_26 rfl 0 rfl ?_
    obtain ⟨S10, q9, h⟩ := bd_inv h
    refine y_V0v (S1 := S10) d_251_27 ml_11_433 kd_78 rfl (Nat.le_of_ble_eq_true rfl) (Nat.le_of_ble_eq_true rfl) (c_252 (by omega) q9) ?_
    obtain rfl := Option.some.inj h
    exact x_ret (r := none) d_251_30 rfl
/-! NinetyPlayersModel.plain -/
def fM_plain (F G : Nat) (S : St) (p1 : Int32) : Option (Int32) :=
  if 0 ≤ p1 then some p1 else some (-p1)
set_option maxRecDepth 100000 in
set_option maxHeartbeats 4000000 in
theorem c_255 {X : Nat × (Nat → Int32)} {D F G : Nat} (hD : 0 ≤ D) {S : St} {p1 : Int32} {res : Int32} (h : fM_plain F G S p1 = some res) : Ek X (D) m255 0 [(0, .int p1)] [] S (some (.int res)) S := by
  unfold fM_plain at h
  refine x_iload_n d_255_0 rfl 0 rfl ?_
  refine x_if_ge (tgt := 9) d_255_1 rfl (fun c1 => ?_) (fun c1 => ?_)
  · replace h := ite_t c1 h
    refine x_iload_n d_255_9 rfl 0 rfl ?_
    obtain rfl := Option.some.inj h
    exact x_ret (r := some (.int p1)) d_255_10 ⟨_, rfl, rfl⟩
  · replace h := ite_f c1 h
    refine x_iload_n d_255_4 rfl 0 rfl ?_
    refine x_ineg d_255_5 ?_
    refine x_goto (tgt := 10) d_255_6 rfl ?_
    obtain rfl := Option.some.inj h
    exact x_ret (r := some (.int (-p1))) d_255_10 ⟨_, rfl, rfl⟩
/-! NinetyPlayersModel.doubles -/
def j_254_66 (F G : Nat) (S : St) (z1 : Int32) (rec : Int32 → Int32 → Option (Int32)) (_ : St) (y3 : Int32) (s0 : Int32) (s1 : Int32) : Option (Int32) :=
  bd (fM_truth F G S s1) fun v12 => lt (s0 ||| (v12 <<< (y3 &&& 31))) fun v13 => lt (y3 + 1) fun v15 => rec v13 v15
def j_254_65 (F G : Nat) (S : St) (z1 : Int32) (rec : Int32 → Int32 → Option (Int32)) (_ : St) (y3 : Int32) (s0 : Int32) : Option (Int32) :=
  j_254_66 F G S z1 rec  S y3 s0 (0 : Int32)
def b_254_4 (F G : Nat) (S : St) (z1 : Int32) (rec : Int32 → Int32 → Option (Int32)) (w2 : Int32) (w3 : Int32) : Option (Int32) :=
  if (S.1 78 48) ≤ w3 then some w2 else if w3 = z1 then j_254_65 F G S z1 rec  S w3 w2 else gd (inB w3 10) (gd (inB z1 10) (if (S.1 96 w3.toNatClampNeg) = (S.1 96 z1.toNatClampNeg) then gd (inB ((10 : Int32) + w3) 41) (gd (inB ((10 : Int32) + z1) 41) (bd (fM_plain F G S ((S.1 101 ((10 : Int32) + w3).toNatClampNeg) - (S.1 101 ((10 : Int32) + z1).toNatClampNeg))) fun v9 => if (v9 - v9 / (12 : Int32) * (12 : Int32)) = 0 then j_254_66 F G S z1 rec  S w3 w2 (1 : Int32) else j_254_65 F G S z1 rec  S w3 w2)) else j_254_65 F G S z1 rec  S w3 w2))
def fM_doubles (F G : Nat) (S : St) (p1 : Int32) : Option (Int32) :=
  fx2 (b_254_4 F G S p1) F (0 : Int32) (0 : Int32)
set_option maxRecDepth 100000 in
set_option maxHeartbeats 4000000 in
theorem T_254_4 {X : Nat × (Nat → Int32)} {D F G : Nat} (hD : 1 ≤ D + 1) {S : St} {z1 : Int32} : ∀ (f : Nat) (w2 : Int32) (w3 : Int32) (res : Int32), fx2 (b_254_4 F G S z1 ) f w2 w3 = some res → Ek X (D + 1) m254 4 [(0, .ref 78), (1, .int z1), (2, .int w2), (3, .int w3)] [] S (some (.int res)) S := by
  refine fx2_ind ?_
  intro rec ih w2 w3 res h
  unfold b_254_4 at h
  have J66 : ∀ (y3 : Int32) (s0 : Int32) (s1 : Int32) (res : Int32), j_254_66 F G S z1 rec S y3 s0 s1 = some res → Ek X (D + 1) m254 66 [(0, .ref 78), (1, .int z1), (3, .int y3)] [.int s1, .int s0] S (some (.int res)) S := by
    intro y3 s0 s1 res h
    unfold j_254_66 at h
    obtain ⟨v12, q11, h⟩ := bd_inv h
    refine y_S1i (v := v12) (S1 := S) d_254_66 ml_11_318 (Nat.le_of_ble_eq_true rfl) (Nat.le_of_ble_eq_true rfl) (c_229 (by omega) q11) ?_
    refine x_iload_n d_254_69 rfl 2 rfl ?_
    refine x_ishl d_254_70 ?_
    refine x_ior d_254_71 ?_
    obtain ⟨v13, e14, h⟩ := lt_inv h
    refine y_istore_n (L1 := [(0, .ref 78), (1, .int z1), (2, .int v13), (3, .int y3)]) e14 d_254_72 rfl (Nat.le_of_ble_eq_true rfl) rfl rfl ?_
    obtain ⟨v15, e16, h⟩ := lt_inv h
    refine y_iinc (L1 := [(0, .ref 78), (1, .int z1), (2, .int v13), (3, .int v15)]) e16 ic_1 d_254_73 3 rfl (Nat.le_of_ble_eq_true rfl) rfl rfl ?_
    refine x_goto (tgt := 4) d_254_76 rfl ?_
    exact ih v13 v15 _ h
  have J65 : ∀ (y3 : Int32) (s0 : Int32) (res : Int32), j_254_65 F G S z1 rec S y3 s0 = some res → Ek X (D + 1) m254 65 [(0, .ref 78), (1, .int z1), (3, .int y3)] [.int s0] S (some (.int res)) S := by
    intro y3 s0 res h
    unfold j_254_65 at h
    refine x_iconst d_254_65 ic_0 ?_
    exact J66 y3 s0 (0 : Int32) _ h
  refine x_iload_n d_254_4 rfl 3 rfl ?_
  refine x_aload_n d_254_5 rfl 0 rfl ?_
  refine y_getI d_254_6 fl_11_322 rfl kd_78 ?_
  refine x_icmp_ge (tgt := 79) d_254_9 rfl (fun c1 => ?_) (fun c1 => ?_)
  · replace h := ite_t c1 h
    refine x_iload_n d_254_79 rfl 2 rfl ?_
    obtain rfl := Option.some.inj h
    exact x_ret (r := some (.int w2)) d_254_80 ⟨_, rfl, rfl⟩
  · replace h := ite_f c1 h
    refine x_iload_n d_254_12 rfl 2 rfl ?_
    refine x_iload_n d_254_13 rfl 3 rfl ?_
    refine x_iload_n d_254_14 rfl 1 rfl ?_
    refine x_icmp_eq (tgt := 65) d_254_15 rfl (fun c2 => ?_) (fun c2 => ?_)
    · replace h := ite_t c2 h
      refine y_pick (L1 := [(0, .ref 78), (1, .int z1), (3, .int w3)]) [0, 1, 3] rfl ?_
      exact J65 w3 w2 _ h
    · replace h := ite_f c2 h
      refine x_aload_n d_254_18 rfl 0 rfl ?_
      refine y_getR d_254_19 fl_11_66 rfl kd_78 rr_78_35 ?_
      refine x_iload_n d_254_22 rfl 3 rfl ?_
      obtain ⟨g3, h⟩ := gd_inv h
      refine y_iald d_254_23 kd_96 g3 ?_
      refine x_aload_n d_254_24 rfl 0 rfl ?_
      refine y_getR d_254_25 fl_11_66 rfl kd_78 rr_78_35 ?_
      refine x_iload_n d_254_28 rfl 1 rfl ?_
      obtain ⟨g4, h⟩ := gd_inv h
      refine y_iald d_254_29 kd_96 g4 ?_
      refine x_icmp_ne (tgt := 65) d_254_30 rfl (fun c5 => ?_) (fun c5 => ?_)
      · replace h := ite_f c5 h
        refine y_pick (L1 := [(0, .ref 78), (1, .int z1), (3, .int w3)]) [0, 1, 3] rfl ?_
        exact J65 w3 w2 _ h
      · replace h := ite_t c5 h
        refine x_aload_n d_254_33 rfl 0 rfl ?_
        refine y_getR d_254_34 fl_11_96 rfl kd_78 rr_78_59 ?_
        refine x_bipush d_254_37 bp_10 ?_
        refine x_iload_n d_254_39 rfl 3 rfl ?_
        refine x_iadd d_254_40 ?_
        obtain ⟨g6, h⟩ := gd_inv h
        refine y_iald d_254_41 kd_101 g6 ?_
        refine x_aload_n d_254_42 rfl 0 rfl ?_
        refine y_getR d_254_43 fl_11_96 rfl kd_78 rr_78_59 ?_
        refine x_bipush d_254_46 bp_10 ?_
        refine x_iload_n d_254_48 rfl 1 rfl ?_
        refine x_iadd d_254_49 ?_
        obtain ⟨g7, h⟩ := gd_inv h
        refine y_iald d_254_50 kd_101 g7 ?_
        refine x_isub d_254_51 ?_
        obtain ⟨v9, q8, h⟩ := bd_inv h
        refine y_S1i (v := v9) (S1 := S) d_254_52 ml_11_325 (Nat.le_of_ble_eq_true rfl) (Nat.le_of_ble_eq_true rfl) (c_255 (by omega) q8) ?_
        refine x_bipush d_254_55 bp_12 ?_
        refine x_irem d_254_57 (by decide) ?_
        refine x_if_ne (tgt := 65) d_254_58 rfl (fun c10 => ?_) (fun c10 => ?_)
        · replace h := ite_f c10 h
          refine y_pick (L1 := [(0, .ref 78), (1, .int z1), (3, .int w3)]) [0, 1, 3] rfl ?_
          exact J65 w3 w2 _ h
        · replace h := ite_t c10 h
          refine x_iconst d_254_61 ic_1 ?_
          refine x_goto (tgt := 66) d_254_62 rfl ?_
          refine y_pick (L1 := [(0, .ref 78), (1, .int z1), (3, .int w3)]) [0, 1, 3] rfl ?_
          exact J66 w3 w2 (1 : Int32) _ h
set_option maxRecDepth 100000 in
set_option maxHeartbeats 4000000 in
theorem c_254 {X : Nat × (Nat → Int32)} {D F G : Nat} (hD : 1 ≤ D) {S : St} {p1 : Int32} {res : Int32} (h : fM_doubles F G S p1 = some res) : Ek X (D) m254 0 [(0, .ref 78), (1, .int p1)] [] S (some (.int res)) S := by
  obtain ⟨D, rfl⟩ : ∃ E, D = E + 1 := ⟨D - 1, by omega⟩
  unfold fM_doubles at h
  refine x_iconst d_254_0 ic_0 ?_
  refine x_istore_n (L1 := [(0, .ref 78), (1, .int p1), (2, .int (0 : Int32))]) d_254_1 rfl (Nat.le_of_ble_eq_true rfl) rfl rfl ?_
  refine x_iconst d_254_2 ic_0 ?_
  refine x_istore_n (L1 := [(0, .ref 78), (1, .int p1), (2, .int (0 : Int32)), (3, .int (0 : Int32))]) d_254_3 rfl (Nat.le_of_ble_eq_true rfl) rfl rfl ?_
  refine T_254_4 (by omega)   F (0 : Int32) (0 : Int32) _ h
