/-! NinetyPlayersModel.truth -/
def fM_truth (F G : Nat) (S : St) (p1 : Int32) : Option (Int32) :=
  if p1 = 0 then some (0 : Int32) else some (1 : Int32)
set_option maxRecDepth 100000 in
set_option maxHeartbeats 4000000 in
theorem c_M_truth {X : Nat × (Nat → Int32)} {D F G : Nat} (hD : 0 ≤ D) {S : St} {p1 : Int32} {res : Int32} (h : fM_truth F G S p1 = some res) : Ek X (D) mM_truth 0 [(0, .int p1)] [] S (some (.int res)) S := by
  unfold fM_truth at h
  refine x_iload_n d_M_truth_0 rfl 0 rfl ?_
  refine x_if_eq (tgt := 8) d_M_truth_1 rfl (fun c1 => ?_) (fun c1 => ?_)
  · replace h := ite_t c1 h
    refine x_iconst d_M_truth_8 ic_0 ?_
    obtain rfl := Option.some.inj h
    exact x_ret (r := some (.int (0 : Int32))) d_M_truth_9 ⟨_, rfl, rfl⟩
  · replace h := ite_f c1 h
    refine x_iconst d_M_truth_4 ic_1 ?_
    refine x_goto (tgt := 9) d_M_truth_5 rfl ?_
    obtain rfl := Option.some.inj h
    exact x_ret (r := some (.int (1 : Int32))) d_M_truth_9 ⟨_, rfl, rfl⟩
/-! NinetyPlayersModel.readPart -/
def j_M_readPart_76 (F G : Nat) (S : St) : Option (St) :=
  if (S.1 78 2) = 0 then lt (sI S 78 40 ((S.1 78 40) + (1 : Int32))) fun S20 => some S20 else some S
def j_M_readPart_52 (F G : Nat) (S : St) (s1 : Int32) (s2 : Int32) : Option (St) :=
  gd (inB s1 4) (lt (sI S 88 s1.toNatClampNeg s2) fun S12 => if (S12.1 78 2) = 0 then gd (inB (S12.1 78 40) 4) (if (S12.1 88 (S12.1 78 40).toNatClampNeg) ≤ 0 then j_M_readPart_76 F G  S12  else bd (fM_token F G S12 ) fun S18 => j_M_readPart_76 F G  S18 ) else j_M_readPart_76 F G  S12 )
def fM_readPart (F G : Nat) (S : St) : Option (St) :=
  bd (fM_newName F G S (0 : Int32) (S.1 78 40)) fun S2 => if (S2.1 78 2) ≤ 0 then bd (fM_isWord F G S2 (1953853029 : Int64)) fun v5 => if v5 = 0 then bd (fM_isWord F G S2 (1650553715 : Int64)) fun v8 => bd (fM_truth F G S2 v8) fun v10 => j_M_readPart_52 F G  S2 (S2.1 78 40) v10 else j_M_readPart_52 F G  S2 (S2.1 78 40) (2 : Int32) else j_M_readPart_52 F G  S2 (S2.1 78 40) (0 : Int32)
set_option maxRecDepth 100000 in
set_option maxHeartbeats 4000000 in
theorem c_M_readPart {X : Nat × (Nat → Int32)} {D F G : Nat} (hD : 3 ≤ D) {S : St} {res : St} (h : fM_readPart F G S  = some res) : Ek X (D) mM_readPart 0 [(0, .ref 78)] [] S none res := by
  obtain ⟨D, rfl⟩ : ∃ E, D = E + 1 := ⟨D - 1, by omega⟩
  unfold fM_readPart at h
  have J76 : ∀ (S : St) (res : St), j_M_readPart_76 F G S  = some res → Ek X (D + 1) mM_readPart 76 [(0, .ref 78)] [] S none res := by
    intro S  res h
    unfold j_M_readPart_76 at h
    refine x_aload_n d_M_readPart_76 rfl 0 rfl ?_
    refine y_getI d_M_readPart_77 fl_11_185 rfl kd_78 ?_
    refine x_if_ne (tgt := 93) d_M_readPart_80 rfl (fun c19 => ?_) (fun c19 => ?_)
    · replace h := ite_f c19 h
      obtain rfl := Option.some.inj h
      exact x_ret (r := none) d_M_readPart_93 rfl
    · replace h := ite_t c19 h
      refine x_aload_n d_M_readPart_83 rfl 0 rfl ?_
      refine x_dup d_M_readPart_84 rfl ?_
      refine y_getI d_M_readPart_85 fl_11_258 rfl kd_78 ?_
      refine x_iconst d_M_readPart_88 ic_1 ?_
      refine x_iadd d_M_readPart_89 ?_
      obtain ⟨S20, e21, h⟩ := lt_inv h
      refine y_putI e21 d_M_readPart_90 fl_11_258 rfl rfl kd_78 rfl rfl ?_
      obtain rfl := Option.some.inj h
      exact x_ret (r := none) d_M_readPart_93 rfl
  have J52 : ∀ (S : St) (s1 : Int32) (s2 : Int32) (res : St), j_M_readPart_52 F G S s1 s2 = some res → Ek X (D + 1) mM_readPart 52 [(0, .ref 78)] [.int s2, .int s1, .ref 88] S none res := by
    intro S s1 s2 res h
    unfold j_M_readPart_52 at h
    obtain ⟨g11, h⟩ := gd_inv h
    obtain ⟨S12, e13, h⟩ := lt_inv h
    refine y_iast e13 d_M_readPart_52 kd_88 g11 ?_
    refine x_aload_n d_M_readPart_53 rfl 0 rfl ?_
    refine y_getI d_M_readPart_54 fl_11_185 rfl kd_78 ?_
    refine x_if_ne (tgt := 76) d_M_readPart_57 rfl (fun c14 => ?_) (fun c14 => ?_)
    · replace h := ite_f c14 h
      exact J76 S12  _ h
    · replace h := ite_t c14 h
      refine x_aload_n d_M_readPart_60 rfl 0 rfl ?_
      refine y_getR d_M_readPart_61 fl_11_42 rfl kd_78 rr_78_27 ?_
      refine x_aload_n d_M_readPart_64 rfl 0 rfl ?_
      refine y_getI d_M_readPart_65 fl_11_258 rfl kd_78 ?_
      obtain ⟨g15, h⟩ := gd_inv h
      refine y_iald d_M_readPart_68 kd_88 g15 ?_
      refine x_if_le (tgt := 76) d_M_readPart_69 rfl (fun c16 => ?_) (fun c16 => ?_)
      · replace h := ite_t c16 h
        exact J76 S12  _ h
      · replace h := ite_f c16 h
        refine x_aload_n d_M_readPart_72 rfl 0 rfl ?_
        obtain ⟨S18, q17, h⟩ := bd_inv h
        refine y_V0v (S1 := S18) d_M_readPart_73 ml_11_241 kd_78 rfl (Nat.le_of_ble_eq_true rfl) (Nat.le_of_ble_eq_true rfl) (c_M_token (by omega) q17) ?_
        exact J76 S18  _ h
  refine x_aload_n d_M_readPart_0 rfl 0 rfl ?_
  refine x_iconst d_M_readPart_1 ic_0 ?_
  refine x_aload_n d_M_readPart_2 rfl 0 rfl ?_
  refine y_getI d_M_readPart_3 fl_11_258 rfl kd_78 ?_
  obtain ⟨S2, q1, h⟩ := bd_inv h
  refine y_V2v (S1 := S2) d_M_readPart_6 ml_11_347 kd_78 rfl (Nat.le_of_ble_eq_true rfl) (Nat.le_of_ble_eq_true rfl) (c_M_newName (by omega) q1) ?_
  refine x_aload_n d_M_readPart_9 rfl 0 rfl ?_
  refine y_getR d_M_readPart_10 fl_11_42 rfl kd_78 rr_78_27 ?_
  refine x_aload_n d_M_readPart_13 rfl 0 rfl ?_
  refine y_getI d_M_readPart_14 fl_11_258 rfl kd_78 ?_
  refine x_aload_n d_M_readPart_17 rfl 0 rfl ?_
  refine y_getI d_M_readPart_18 fl_11_185 rfl kd_78 ?_
  refine x_if_le (tgt := 28) d_M_readPart_21 rfl (fun c3 => ?_) (fun c3 => ?_)
  · replace h := ite_t c3 h
    refine x_aload_n d_M_readPart_28 rfl 0 rfl ?_
    refine x_ldc2 d_M_readPart_29 kc_11_192 ?_
    obtain ⟨v5, q4, h⟩ := bd_inv h
    refine y_V1i (v := v5) (S1 := S2) d_M_readPart_32 ml_11_234 kd_78 rfl (Nat.le_of_ble_eq_true rfl) (Nat.le_of_ble_eq_true rfl) (c_M_isWord (by omega) q4) ?_
    refine x_if_eq (tgt := 42) d_M_readPart_35 rfl (fun c6 => ?_) (fun c6 => ?_)
    · replace h := ite_t c6 h
      refine x_aload_n d_M_readPart_42 rfl 0 rfl ?_
      refine x_ldc2 d_M_readPart_43 kc_11_194 ?_
      obtain ⟨v8, q7, h⟩ := bd_inv h
      refine y_V1i (v := v8) (S1 := S2) d_M_readPart_46 ml_11_234 kd_78 rfl (Nat.le_of_ble_eq_true rfl) (Nat.le_of_ble_eq_true rfl) (c_M_isWord (by omega) q7) ?_
      obtain ⟨v10, q9, h⟩ := bd_inv h
      refine y_S1i (v := v10) (S1 := S2) d_M_readPart_49 ml_11_318 (Nat.le_of_ble_eq_true rfl) (Nat.le_of_ble_eq_true rfl) (c_M_truth (by omega) q9) ?_
      exact J52 S2 (S2.1 78 40) v10 _ h
    · replace h := ite_f c6 h
      refine x_iconst d_M_readPart_38 ic_2 ?_
      refine x_goto (tgt := 52) d_M_readPart_39 rfl ?_
      exact J52 S2 (S2.1 78 40) (2 : Int32) _ h
  · replace h := ite_f c3 h
    refine x_iconst d_M_readPart_24 ic_0 ?_
    refine x_goto (tgt := 52) d_M_readPart_25 rfl ?_
    exact J52 S2 (S2.1 78 40) (0 : Int32) _ h
/-! NinetyPlayersModel.oldPart -/
def j_M_oldPart_41 (F G : Nat) (S : St) : Option (Int32 × St) :=
  bd (fM_find F G S (0 : Int32) (S.1 78 40)) fun v13 => if (S.1 78 2) = 0 then bd (fM_token F G S ) fun S16 => some (v13, S16) else some (v13, S)
def fM_oldPart (F G : Nat) (S : St) : Option (Int32 × St) :=
  if (S.1 78 2) ≤ 0 then bd (fM_isName F G S) fun v3 => if v3 = 0 then bd (fM_wrong F G S (2 : Int32)) fun S11 => j_M_oldPart_41 F G  S11  else bd (fM_find F G S (0 : Int32) (S.1 78 40)) fun v6 => if 0 ≤ v6 then j_M_oldPart_41 F G  S  else bd (fM_wrong F G S (5 : Int32)) fun S9 => j_M_oldPart_41 F G  S9  else some ((0 : Int32), S)
set_option maxRecDepth 100000 in
set_option maxHeartbeats 4000000 in
theorem c_M_oldPart {X : Nat × (Nat → Int32)} {D F G : Nat} (hD : 2 ≤ D) {S : St} {res : Int32 × St} (h : fM_oldPart F G S  = some res) : Ek X (D) mM_oldPart 0 [(0, .ref 78)] [] S (some (.int res.1)) res.2 := by
  obtain ⟨D, rfl⟩ : ∃ E, D = E + 1 := ⟨D - 1, by omega⟩
  unfold fM_oldPart at h
  have J41 : ∀ (S : St) (res : Int32 × St), j_M_oldPart_41 F G S  = some res → Ek X (D + 1) mM_oldPart 41 [(0, .ref 78)] [] S (some (.int res.1)) res.2 := by
    intro S  res h
    unfold j_M_oldPart_41 at h
    refine x_aload_n d_M_oldPart_41 rfl 0 rfl ?_
    refine x_iconst d_M_oldPart_42 ic_0 ?_
    refine x_aload_n d_M_oldPart_43 rfl 0 rfl ?_
    refine y_getI d_M_oldPart_44 fl_11_258 rfl kd_78 ?_
    obtain ⟨v13, q12, h⟩ := bd_inv h
    refine y_V2i (v := v13) (S1 := S) d_M_oldPart_47 ml_11_255 kd_78 rfl (Nat.le_of_ble_eq_true rfl) (Nat.le_of_ble_eq_true rfl) (c_M_find (by omega) q12) ?_
    refine x_istore_n (L1 := [(0, .ref 78), (1, .int v13)]) d_M_oldPart_50 rfl (Nat.le_of_ble_eq_true rfl) rfl rfl ?_
    refine x_aload_n d_M_oldPart_51 rfl 0 rfl ?_
    refine y_getI d_M_oldPart_52 fl_11_185 rfl kd_78 ?_
    refine x_if_ne (tgt := 62) d_M_oldPart_55 rfl (fun c14 => ?_) (fun c14 => ?_)
    · replace h := ite_f c14 h
      refine x_iload_n d_M_oldPart_62 rfl 1 rfl ?_
      obtain rfl := Option.some.inj h
      exact x_ret (r := some (.int v13)) d_M_oldPart_63 ⟨_, rfl, rfl⟩
    · replace h := ite_t c14 h
      refine x_aload_n d_M_oldPart_58 rfl 0 rfl ?_
      obtain ⟨S16, q15, h⟩ := bd_inv h
      refine y_V0v (S1 := S16) d_M_oldPart_59 ml_11_241 kd_78 rfl (Nat.le_of_ble_eq_true rfl) (Nat.le_of_ble_eq_true rfl) (c_M_token (by omega) q15) ?_
      refine x_iload_n d_M_oldPart_62 rfl 1 rfl ?_
      obtain rfl := Option.some.inj h
      exact x_ret (r := some (.int v13)) d_M_oldPart_63 ⟨_, rfl, rfl⟩
  refine x_aload_n d_M_oldPart_0 rfl 0 rfl ?_
  refine y_getI d_M_oldPart_1 fl_11_185 rfl kd_78 ?_
  refine x_if_le (tgt := 9) d_M_oldPart_4 rfl (fun c1 => ?_) (fun c1 => ?_)
  · replace h := ite_t c1 h
    refine x_aload_n d_M_oldPart_9 rfl 0 rfl ?_
    obtain ⟨v3, q2, h⟩ := bd_inv h
    refine y_V0i (v := v3) (S1 := S) d_M_oldPart_10 ml_11_252 kd_78 rfl (Nat.le_of_ble_eq_true rfl) (Nat.le_of_ble_eq_true rfl) (c_M_isName (by omega) q2) ?_
    refine x_if_ne (tgt := 24) d_M_oldPart_13 rfl (fun c4 => ?_) (fun c4 => ?_)
    · replace h := ite_f c4 h
      refine x_aload_n d_M_oldPart_24 rfl 0 rfl ?_
      refine x_iconst d_M_oldPart_25 ic_0 ?_
      refine x_aload_n d_M_oldPart_26 rfl 0 rfl ?_
      refine y_getI d_M_oldPart_27 fl_11_258 rfl kd_78 ?_
      obtain ⟨v6, q5, h⟩ := bd_inv h
      refine y_V2i (v := v6) (S1 := S) d_M_oldPart_30 ml_11_255 kd_78 rfl (Nat.le_of_ble_eq_true rfl) (Nat.le_of_ble_eq_true rfl) (c_M_find (by omega) q5) ?_
      refine x_if_ge (tgt := 41) d_M_oldPart_33 rfl (fun c7 => ?_) (fun c7 => ?_)
      · replace h := ite_t c7 h
        exact J41 S  _ h
      · replace h := ite_f c7 h
        refine x_aload_n d_M_oldPart_36 rfl 0 rfl ?_
        refine x_iconst d_M_oldPart_37 ic_5 ?_
        obtain ⟨S9, q8, h⟩ := bd_inv h
        refine y_V1v (S1 := S9) d_M_oldPart_38 ml_11_238 kd_78 rfl (Nat.le_of_ble_eq_true rfl) (Nat.le_of_ble_eq_true rfl) (c_M_wrong (by omega) q8) ?_
        exact J41 S9  _ h
    · replace h := ite_t c4 h
      refine x_aload_n d_M_oldPart_16 rfl 0 rfl ?_
      refine x_iconst d_M_oldPart_17 ic_2 ?_
      obtain ⟨S11, q10, h⟩ := bd_inv h
      refine y_V1v (S1 := S11) d_M_oldPart_18 ml_11_238 kd_78 rfl (Nat.le_of_ble_eq_true rfl) (Nat.le_of_ble_eq_true rfl) (c_M_wrong (by omega) q10) ?_
      refine x_goto (tgt := 41) d_M_oldPart_21 rfl ?_
      exact J41 S11  _ h
  · replace h := ite_f c1 h
    refine x_iconst d_M_oldPart_7 ic_0 ?_
    obtain rfl := Option.some.inj h
    exact x_ret (r := some (.int (0 : Int32))) d_M_oldPart_8 ⟨_, rfl, rfl⟩
/-! NinetyPlayersModel.readNote -/
def j_M_readNote_119 (F G : Nat) (S : St) (s1 : Int32) (s2 : Int32) : Option (St) :=
  gd (inB s1 10) (lt (sI S 93 s1.toNatClampNeg s2) fun S39 => if (S39.1 78 2) = 0 then lt (sI S39 78 41 ((S39.1 78 41) + (1 : Int32))) fun S42 => some S42 else some S39)
def j_M_readNote_118 (F G : Nat) (S : St) (s1 : Int32) : Option (St) :=
  j_M_readNote_119 F G  S s1 (5 : Int32)
def fM_readNote (F G : Nat) (S : St) : Option (St) :=
  bd (fM_newName F G S (4 : Int32) (S.1 78 41)) fun S2 => lt (S2.1 78 41) fun v3 => bd (fM_want F G S2 (28518 : Int64)) fun S6 => bd2 (fM_oldPart F G S6) fun v8 S9 => gd (inB v3 10) (lt (sI S9 89 v3.toNatClampNeg v8) fun S11 => bd2 (fM_told F G S11 (24948 : Int64) (0 : Int32) ((S11.1 78 39) - (1 : Int32))) fun v14 S15 => gd (inB v3 10) (lt (sI S15 90 v3.toNatClampNeg v14) fun S17 => bd2 (fM_told F G S17 (7038329 : Int64) (0 : Int32) (87 : Int32)) fun v20 S21 => gd (inB v3 10) (lt (sI S21 91 v3.toNatClampNeg v20) fun S23 => bd2 (fM_told F G S23 (1819242087 : Int64) (1 : Int32) (12 : Int32)) fun v26 S27 => gd (inB v3 10) (lt (sI S27 92 v3.toNatClampNeg v26) fun S29 => if (S29.1 78 2) = 0 then bd (fM_isWord F G S29 (1819243876 : Int64)) fun v33 => if v33 = 0 then j_M_readNote_118 F G  S29 v3 else bd2 (fM_told F G S29 (1819243876 : Int64) (1 : Int32) (9 : Int32)) fun v36 S37 => j_M_readNote_119 F G  S37 v3 v36 else j_M_readNote_118 F G  S29 v3))))
set_option maxRecDepth 100000 in
set_option maxHeartbeats 4000000 in
theorem c_M_readNote {X : Nat × (Nat → Int32)} {D F G : Nat} (hD : 4 ≤ D) {S : St} {res : St} (h : fM_readNote F G S  = some res) : Ek X (D) mM_readNote 0 [(0, .ref 78)] [] S none res := by
  obtain ⟨D, rfl⟩ : ∃ E, D = E + 1 := ⟨D - 1, by omega⟩
  unfold fM_readNote at h
  have J119 : ∀ (S : St) (s1 : Int32) (s2 : Int32) (res : St), j_M_readNote_119 F G S s1 s2 = some res → Ek X (D + 1) mM_readNote 119 [(0, .ref 78)] [.int s2, .int s1, .ref 93] S none res := by
    intro S s1 s2 res h
    unfold j_M_readNote_119 at h
    obtain ⟨g38, h⟩ := gd_inv h
    obtain ⟨S39, e40, h⟩ := lt_inv h
    refine y_iast e40 d_M_readNote_119 kd_93 g38 ?_
    refine x_aload_n d_M_readNote_120 rfl 0 rfl ?_
    refine y_getI d_M_readNote_121 fl_11_185 rfl kd_78 ?_
    refine x_if_ne (tgt := 137) d_M_readNote_124 rfl (fun c41 => ?_) (fun c41 => ?_)
    · replace h := ite_f c41 h
      obtain rfl := Option.some.inj h
      exact x_ret (r := none) d_M_readNote_137 rfl
    · replace h := ite_t c41 h
      refine x_aload_n d_M_readNote_127 rfl 0 rfl ?_
      refine x_dup d_M_readNote_128 rfl ?_
      refine y_getI d_M_readNote_129 fl_11_350 rfl kd_78 ?_
      refine x_iconst d_M_readNote_132 ic_1 ?_
      refine x_iadd d_M_readNote_133 ?_
      obtain ⟨S42, e43, h⟩ := lt_inv h
      refine y_putI e43 d_M_readNote_134 fl_11_350 rfl rfl kd_78 rfl rfl ?_
      obtain rfl := Option.some.inj h
      exact x_ret (r := none) d_M_readNote_137 rfl
  have J118 : ∀ (S : St) (s1 : Int32) (res : St), j_M_readNote_118 F G S s1 = some res → Ek X (D + 1) mM_readNote 118 [(0, .ref 78)] [.int s1, .ref 93] S none res := by
    intro S s1 res h
    unfold j_M_readNote_118 at h
    refine x_iconst d_M_readNote_118 ic_5 ?_
    exact J119 S s1 (5 : Int32) _ h
  refine x_aload_n d_M_readNote_0 rfl 0 rfl ?_
  refine x_iconst d_M_readNote_1 ic_4 ?_
  refine x_aload_n d_M_readNote_2 rfl 0 rfl ?_
  refine y_getI d_M_readNote_3 fl_11_350 rfl kd_78 ?_
  obtain ⟨S2, q1, h⟩ := bd_inv h
  refine y_V2v (S1 := S2) d_M_readNote_6 ml_11_347 kd_78 rfl (Nat.le_of_ble_eq_true rfl) (Nat.le_of_ble_eq_true rfl) (c_M_newName (by omega) q1) ?_
  refine x_aload_n d_M_readNote_9 rfl 0 rfl ?_
  refine y_getI d_M_readNote_10 fl_11_350 rfl kd_78 ?_
  obtain ⟨v3, e4, h⟩ := lt_inv h
  refine y_istore_n (L1 := [(0, .ref 78), (1, .int v3)]) e4 d_M_readNote_13 rfl (Nat.le_of_ble_eq_true rfl) rfl rfl ?_
  refine x_aload_n d_M_readNote_14 rfl 0 rfl ?_
  refine x_ldc2 d_M_readNote_15 kc_11_198 ?_
  obtain ⟨S6, q5, h⟩ := bd_inv h
  refine y_V1v (S1 := S6) d_M_readNote_18 ml_11_244 kd_78 rfl (Nat.le_of_ble_eq_true rfl) (Nat.le_of_ble_eq_true rfl) (c_M_want (by omega) q5) ?_
  refine x_aload_n d_M_readNote_21 rfl 0 rfl ?_
  refine y_getR d_M_readNote_22 fl_11_45 rfl kd_78 rr_78_28 ?_
  refine x_iload_n d_M_readNote_25 rfl 1 rfl ?_
  refine x_aload_n d_M_readNote_26 rfl 0 rfl ?_
  obtain ⟨v8, S9, q7, h⟩ := bd2_inv h
  refine y_V0i (v := v8) (S1 := S9) d_M_readNote_27 ml_11_353 kd_78 rfl (Nat.le_of_ble_eq_true rfl) (Nat.le_of_ble_eq_true rfl) (c_M_oldPart (by omega) q7) ?_
  obtain ⟨g10, h⟩ := gd_inv h
  obtain ⟨S11, e12, h⟩ := lt_inv h
  refine y_iast e12 d_M_readNote_30 kd_89 g10 ?_
  refine x_aload_n d_M_readNote_31 rfl 0 rfl ?_
  refine y_getR d_M_readNote_32 fl_11_48 rfl kd_78 rr_78_29 ?_
  refine x_iload_n d_M_readNote_35 rfl 1 rfl ?_
  refine x_aload_n d_M_readNote_36 rfl 0 rfl ?_
  refine x_ldc2 d_M_readNote_37 kc_11_200 ?_
  refine x_iconst d_M_readNote_40 ic_0 ?_
  refine x_aload_n d_M_readNote_41 rfl 0 rfl ?_
  refine y_getI d_M_readNote_42 fl_11_356 rfl kd_78 ?_
  refine x_iconst d_M_readNote_45 ic_1 ?_
  refine x_isub d_M_readNote_46 ?_
  obtain ⟨v14, S15, q13, h⟩ := bd2_inv h
  refine y_V3i (v := v14) (S1 := S15) d_M_readNote_47 ml_11_359 kd_78 rfl (Nat.le_of_ble_eq_true rfl) (Nat.le_of_ble_eq_true rfl) (c_M_told (by omega) q13) ?_
  obtain ⟨g16, h⟩ := gd_inv h
  obtain ⟨S17, e18, h⟩ := lt_inv h
  refine y_iast e18 d_M_readNote_50 kd_90 g16 ?_
  refine x_aload_n d_M_readNote_51 rfl 0 rfl ?_
  refine y_getR d_M_readNote_52 fl_11_51 rfl kd_78 rr_78_30 ?_
  refine x_iload_n d_M_readNote_55 rfl 1 rfl ?_
  refine x_aload_n d_M_readNote_56 rfl 0 rfl ?_
  refine x_ldc2 d_M_readNote_57 kc_11_202 ?_
  refine x_iconst d_M_readNote_60 ic_0 ?_
  refine x_bipush d_M_readNote_61 bp_87 ?_
  obtain ⟨v20, S21, q19, h⟩ := bd2_inv h
  refine y_V3i (v := v20) (S1 := S21) d_M_readNote_63 ml_11_359 kd_78 rfl (Nat.le_of_ble_eq_true rfl) (Nat.le_of_ble_eq_true rfl) (c_M_told (by omega) q19) ?_
  obtain ⟨g22, h⟩ := gd_inv h
  obtain ⟨S23, e24, h⟩ := lt_inv h
  refine y_iast e24 d_M_readNote_66 kd_91 g22 ?_
  refine x_aload_n d_M_readNote_67 rfl 0 rfl ?_
  refine y_getR d_M_readNote_68 fl_11_54 rfl kd_78 rr_78_31 ?_
  refine x_iload_n d_M_readNote_71 rfl 1 rfl ?_
  refine x_aload_n d_M_readNote_72 rfl 0 rfl ?_
  refine x_ldc2 d_M_readNote_73 kc_11_204 ?_
  refine x_iconst d_M_readNote_76 ic_1 ?_
  refine x_bipush d_M_readNote_77 bp_12 ?_
  obtain ⟨v26, S27, q25, h⟩ := bd2_inv h
  refine y_V3i (v := v26) (S1 := S27) d_M_readNote_79 ml_11_359 kd_78 rfl (Nat.le_of_ble_eq_true rfl) (Nat.le_of_ble_eq_true rfl) (c_M_told (by omega) q25) ?_
  obtain ⟨g28, h⟩ := gd_inv h
  obtain ⟨S29, e30, h⟩ := lt_inv h
  refine y_iast e30 d_M_readNote_82 kd_92 g28 ?_
  refine x_aload_n d_M_readNote_83 rfl 0 rfl ?_
  refine y_getR d_M_readNote_84 fl_11_57 rfl kd_78 rr_78_32 ?_
  refine x_iload_n d_M_readNote_87 rfl 1 rfl ?_
  refine x_aload_n d_M_readNote_88 rfl 0 rfl ?_
  refine y_getI d_M_readNote_89 fl_11_185 rfl kd_78 ?_
  refine x_if_ne (tgt := 118) d_M_readNote_92 rfl (fun c31 => ?_) (fun c31 => ?_)
  · replace h := ite_f c31 h
    refine y_pick (L1 := [(0, .ref 78)]) [0] rfl ?_
    exact J118 S29 v3 _ h
  · replace h := ite_t c31 h
    refine x_aload_n d_M_readNote_95 rfl 0 rfl ?_
    refine x_ldc2 d_M_readNote_96 kc_11_206 ?_
    obtain ⟨v33, q32, h⟩ := bd_inv h
    refine y_V1i (v := v33) (S1 := S29) d_M_readNote_99 ml_11_234 kd_78 rfl (Nat.le_of_ble_eq_true rfl) (Nat.le_of_ble_eq_true rfl) (c_M_isWord (by omega) q32) ?_
    refine x_if_eq (tgt := 118) d_M_readNote_102 rfl (fun c34 => ?_) (fun c34 => ?_)
    · replace h := ite_t c34 h
      refine y_pick (L1 := [(0, .ref 78)]) [0] rfl ?_
      exact J118 S29 v3 _ h
    · replace h := ite_f c34 h
      refine x_aload_n d_M_readNote_105 rfl 0 rfl ?_
      refine x_ldc2 d_M_readNote_106 kc_11_206 ?_
      refine x_iconst d_M_readNote_109 ic_1 ?_
      refine x_bipush d_M_readNote_110 bp_9 ?_
      obtain ⟨v36, S37, q35, h⟩ := bd2_inv h
      refine y_V3i (v := v36) (S1 := S37) d_M_readNote_112 ml_11_359 kd_78 rfl (Nat.le_of_ble_eq_true rfl) (Nat.le_of_ble_eq_true rfl) (c_M_told (by omega) q35) ?_
      refine x_goto (tgt := 119) d_M_readNote_115 rfl ?_
      refine y_pick (L1 := [(0, .ref 78)]) [0] rfl ?_
      exact J119 S37 v3 v36 _ h
/-! NinetyPlayersModel.tight -/
def fM_tight (F G : Nat) (S : St) (p1 : Int32) : Option (Int32) :=
  if p1 = 21 then some (3 : Int32) else if p1 = 38 then some (2 : Int32) else if p1 = 43 then some (5 : Int32) else if p1 = 45 then some (5 : Int32) else if p1 = 60 then some (4 : Int32) else if p1 = 61 then some (4 : Int32) else if p1 = 62 then some (4 : Int32) else if p1 = 124 then some (1 : Int32) else some (6 : Int32)
set_option maxRecDepth 100000 in
set_option maxHeartbeats 4000000 in
theorem c_M_tight {X : Nat × (Nat → Int32)} {D F G : Nat} (hD : 0 ≤ D) {S : St} {p1 : Int32} {res : Int32} (h : fM_tight F G S p1 = some res) : Ek X (D) mM_tight 0 [(0, .int p1)] [] S (some (.int res)) S := by
  unfold fM_tight at h
  refine x_iload_n d_M_tight_0 rfl 0 rfl ?_
  by_cases c1 : p1 = 21
  · replace h := ite_t c1 h
    refine x_look (tgt := 80) d_M_tight_1 (by decide +kernel) (by rw [c1] <;> rfl) rfl ?_
    refine x_iconst d_M_tight_80 ic_3 ?_
    obtain rfl := Option.some.inj h
    exact x_ret (r := some (.int (3 : Int32))) d_M_tight_81 ⟨_, rfl, rfl⟩
  replace h := ite_f c1 h
  by_cases c2 : p1 = 38
  · replace h := ite_t c2 h
    refine x_look (tgt := 78) d_M_tight_1 (by decide +kernel) (by rw [c2] <;> rfl) rfl ?_
    refine x_iconst d_M_tight_78 ic_2 ?_
    obtain rfl := Option.some.inj h
    exact x_ret (r := some (.int (2 : Int32))) d_M_tight_79 ⟨_, rfl, rfl⟩
  replace h := ite_f c2 h
  by_cases c3 : p1 = 43
  · replace h := ite_t c3 h
    refine x_look (tgt := 84) d_M_tight_1 (by decide +kernel) (by rw [c3] <;> rfl) rfl ?_
    refine x_iconst d_M_tight_84 ic_5 ?_
    obtain rfl := Option.some.inj h
    exact x_ret (r := some (.int (5 : Int32))) d_M_tight_85 ⟨_, rfl, rfl⟩
  replace h := ite_f c3 h
  by_cases c4 : p1 = 45
  · replace h := ite_t c4 h
    refine x_look (tgt := 84) d_M_tight_1 (by decide +kernel) (by rw [c4] <;> rfl) rfl ?_
    refine x_iconst d_M_tight_84 ic_5 ?_
    obtain rfl := Option.some.inj h
    exact x_ret (r := some (.int (5 : Int32))) d_M_tight_85 ⟨_, rfl, rfl⟩
  replace h := ite_f c4 h
  by_cases c5 : p1 = 60
  · replace h := ite_t c5 h
    refine x_look (tgt := 82) d_M_tight_1 (by decide +kernel) (by rw [c5] <;> rfl) rfl ?_
    refine x_iconst d_M_tight_82 ic_4 ?_
    obtain rfl := Option.some.inj h
    exact x_ret (r := some (.int (4 : Int32))) d_M_tight_83 ⟨_, rfl, rfl⟩
  replace h := ite_f c5 h
  by_cases c6 : p1 = 61
  · replace h := ite_t c6 h
    refine x_look (tgt := 82) d_M_tight_1 (by decide +kernel) (by rw [c6] <;> rfl) rfl ?_
    refine x_iconst d_M_tight_82 ic_4 ?_
    obtain rfl := Option.some.inj h
    exact x_ret (r := some (.int (4 : Int32))) d_M_tight_83 ⟨_, rfl, rfl⟩
  replace h := ite_f c6 h
  by_cases c7 : p1 = 62
  · replace h := ite_t c7 h
    refine x_look (tgt := 82) d_M_tight_1 (by decide +kernel) (by rw [c7] <;> rfl) rfl ?_
    refine x_iconst d_M_tight_82 ic_4 ?_
    obtain rfl := Option.some.inj h
    exact x_ret (r := some (.int (4 : Int32))) d_M_tight_83 ⟨_, rfl, rfl⟩
  replace h := ite_f c7 h
  by_cases c8 : p1 = 124
  · replace h := ite_t c8 h
    refine x_look (tgt := 76) d_M_tight_1 (by decide +kernel) (by rw [c8] <;> rfl) rfl ?_
    refine x_iconst d_M_tight_76 ic_1 ?_
    obtain rfl := Option.some.inj h
    exact x_ret (r := some (.int (1 : Int32))) d_M_tight_77 ⟨_, rfl, rfl⟩
  replace h := ite_f c8 h
  refine x_look (off := 85) (tgt := 86) d_M_tight_1 (by decide +kernel) (by show Op.lookupswitch.offset [(21, 79), (38, 77), (43, 83), (45, 83), (60, 81), (61, 81), (62, 81), (124, 75)] 85 _ = _; rw [lv_osw (a := 21) c1 (by decide), lv_osw (a := 38) c2 (by decide), lv_osw (a := 43) c3 (by decide), lv_osw (a := 45) c4 (by decide), lv_osw (a := 60) c5 (by decide), lv_osw (a := 61) c6 (by decide), lv_osw (a := 62) c7 (by decide), lv_osw (a := 124) c8 (by decide)]; rfl) rfl ?_
  refine x_bipush d_M_tight_86 bp_6 ?_
  obtain rfl := Option.some.inj h
  exact x_ret (r := some (.int (6 : Int32))) d_M_tight_88 ⟨_, rfl, rfl⟩
/-! NinetyPlayersModel.mayNot -/
def fM_mayNot (F G : Nat) (S : St) : Option (Int32) :=
  if (S.1 78 19) = 0 then some (1 : Int32) else gd (inB ((S.1 78 19) - (1 : Int32)) 160) (if (S.1 85 ((S.1 78 19) - (1 : Int32)).toNatClampNeg) = (20 : Int32) then some (1 : Int32) else gd (inB ((S.1 78 19) - (1 : Int32)) 160) (bd (fM_tight F G S (S.1 85 ((S.1 78 19) - (1 : Int32)).toNatClampNeg)) fun v6 => if (4 : Int32) ≤ v6 then some (0 : Int32) else some (1 : Int32)))
set_option maxRecDepth 100000 in
set_option maxHeartbeats 4000000 in
theorem c_M_mayNot {X : Nat × (Nat → Int32)} {D F G : Nat} (hD : 1 ≤ D) {S : St} {res : Int32} (h : fM_mayNot F G S  = some res) : Ek X (D) mM_mayNot 0 [(0, .ref 78)] [] S (some (.int res)) S := by
  obtain ⟨D, rfl⟩ : ∃ E, D = E + 1 := ⟨D - 1, by omega⟩
  unfold fM_mayNot at h
  refine x_aload_n d_M_mayNot_0 rfl 0 rfl ?_
  refine y_getI d_M_mayNot_1 fl_11_264 rfl kd_78 ?_
  refine x_if_eq (tgt := 41) d_M_mayNot_4 rfl (fun c1 => ?_) (fun c1 => ?_)
  · replace h := ite_t c1 h
    refine x_iconst d_M_mayNot_41 ic_1 ?_
    refine x_goto (tgt := 46) d_M_mayNot_42 rfl ?_
    obtain rfl := Option.some.inj h
    exact x_ret (r := some (.int (1 : Int32))) d_M_mayNot_46 ⟨_, rfl, rfl⟩
  · replace h := ite_f c1 h
    refine x_aload_n d_M_mayNot_7 rfl 0 rfl ?_
    refine y_getR d_M_mayNot_8 fl_11_33 rfl kd_78 rr_78_15 ?_
    refine x_aload_n d_M_mayNot_11 rfl 0 rfl ?_
    refine y_getI d_M_mayNot_12 fl_11_264 rfl kd_78 ?_
    refine x_iconst d_M_mayNot_15 ic_1 ?_
    refine x_isub d_M_mayNot_16 ?_
    obtain ⟨g2, h⟩ := gd_inv h
    refine y_iald d_M_mayNot_17 kd_85 g2 ?_
    refine x_bipush d_M_mayNot_18 bp_20 ?_
    refine x_icmp_eq (tgt := 41) d_M_mayNot_20 rfl (fun c3 => ?_) (fun c3 => ?_)
    · replace h := ite_t c3 h
      refine x_iconst d_M_mayNot_41 ic_1 ?_
      refine x_goto (tgt := 46) d_M_mayNot_42 rfl ?_
      obtain rfl := Option.some.inj h
      exact x_ret (r := some (.int (1 : Int32))) d_M_mayNot_46 ⟨_, rfl, rfl⟩
    · replace h := ite_f c3 h
      refine x_aload_n d_M_mayNot_23 rfl 0 rfl ?_
      refine y_getR d_M_mayNot_24 fl_11_33 rfl kd_78 rr_78_15 ?_
      refine x_aload_n d_M_mayNot_27 rfl 0 rfl ?_
      refine y_getI d_M_mayNot_28 fl_11_264 rfl kd_78 ?_
      refine x_iconst d_M_mayNot_31 ic_1 ?_
      refine x_isub d_M_mayNot_32 ?_
      obtain ⟨g4, h⟩ := gd_inv h
      refine y_iald d_M_mayNot_33 kd_85 g4 ?_
      obtain ⟨v6, q5, h⟩ := bd_inv h
      refine y_S1i (v := v6) (S1 := S) d_M_mayNot_34 ml_11_267 (Nat.le_of_ble_eq_true rfl) (Nat.le_of_ble_eq_true rfl) (c_M_tight (by omega) q5) ?_
      refine x_iconst d_M_mayNot_37 ic_4 ?_
      refine x_icmp_ge (tgt := 45) d_M_mayNot_38 rfl (fun c7 => ?_) (fun c7 => ?_)
      · replace h := ite_t c7 h
        refine x_iconst d_M_mayNot_45 ic_0 ?_
        obtain rfl := Option.some.inj h
        exact x_ret (r := some (.int (0 : Int32))) d_M_mayNot_46 ⟨_, rfl, rfl⟩
      · replace h := ite_f c7 h
        refine x_iconst d_M_mayNot_41 ic_1 ?_
        refine x_goto (tgt := 46) d_M_mayNot_42 rfl ?_
        obtain rfl := Option.some.inj h
        exact x_ret (r := some (.int (1 : Int32))) d_M_mayNot_46 ⟨_, rfl, rfl⟩
/-! NinetyPlayersModel.openUp -/
def fM_openUp (F G : Nat) (S : St) (p1 : Int32) : Option (St) :=
  gd (inB (S.1 78 19) 160) (lt (sI S 85 (S.1 78 19).toNatClampNeg p1) fun S2 => lt (sI S2 78 19 ((S2.1 78 19) + (1 : Int32))) fun S4 => lt (sI S4 78 23 ((S4.1 78 23) + (1 : Int32))) fun S6 => if (S6.1 78 2) = 0 then bd (fM_token F G S6 ) fun S10 => some S10 else some S6)
set_option maxRecDepth 100000 in
set_option maxHeartbeats 4000000 in
theorem c_M_openUp {X : Nat × (Nat → Int32)} {D F G : Nat} (hD : 2 ≤ D) {S : St} {p1 : Int32} {res : St} (h : fM_openUp F G S p1 = some res) : Ek X (D) mM_openUp 0 [(0, .ref 78), (1, .int p1)] [] S none res := by
  obtain ⟨D, rfl⟩ : ∃ E, D = E + 1 := ⟨D - 1, by omega⟩
  unfold fM_openUp at h
  refine x_aload_n d_M_openUp_0 rfl 0 rfl ?_
  refine y_getR d_M_openUp_1 fl_11_33 rfl kd_78 rr_78_15 ?_
  refine x_aload_n d_M_openUp_4 rfl 0 rfl ?_
  refine y_getI d_M_openUp_5 fl_11_264 rfl kd_78 ?_
  refine x_iload_n d_M_openUp_8 rfl 1 rfl ?_
  obtain ⟨g1, h⟩ := gd_inv h
  obtain ⟨S2, e3, h⟩ := lt_inv h
  refine y_iast e3 d_M_openUp_9 kd_85 g1 ?_
  refine x_aload_n d_M_openUp_10 rfl 0 rfl ?_
  refine x_dup d_M_openUp_11 rfl ?_
  refine y_getI d_M_openUp_12 fl_11_264 rfl kd_78 ?_
  refine x_iconst d_M_openUp_15 ic_1 ?_
  refine x_iadd d_M_openUp_16 ?_
  obtain ⟨S4, e5, h⟩ := lt_inv h
  refine y_putI e5 d_M_openUp_17 fl_11_264 rfl rfl kd_78 rfl rfl ?_
  refine x_aload_n d_M_openUp_20 rfl 0 rfl ?_
  refine x_dup d_M_openUp_21 rfl ?_
  refine y_getI d_M_openUp_22 fl_11_274 rfl kd_78 ?_
  refine x_iconst d_M_openUp_25 ic_1 ?_
  refine x_iadd d_M_openUp_26 ?_
  obtain ⟨S6, e7, h⟩ := lt_inv h
  refine y_putI e7 d_M_openUp_27 fl_11_274 rfl rfl kd_78 rfl rfl ?_
  refine x_aload_n d_M_openUp_30 rfl 0 rfl ?_
  refine y_getI d_M_openUp_31 fl_11_185 rfl kd_78 ?_
  refine x_if_ne (tgt := 41) d_M_openUp_34 rfl (fun c8 => ?_) (fun c8 => ?_)
  · replace h := ite_f c8 h
    obtain rfl := Option.some.inj h
    exact x_ret (r := none) d_M_openUp_41 rfl
  · replace h := ite_t c8 h
    refine x_aload_n d_M_openUp_37 rfl 0 rfl ?_
    obtain ⟨S10, q9, h⟩ := bd_inv h
    refine y_V0v (S1 := S10) d_M_openUp_38 ml_11_241 kd_78 rfl (Nat.le_of_ble_eq_true rfl) (Nat.le_of_ble_eq_true rfl) (c_M_token (by omega) q9) ?_
    obtain rfl := Option.some.inj h
    exact x_ret (r := none) d_M_openUp_41 rfl
/-! NinetyPlayersModel.isFull -/
def fM_isFull (F G : Nat) (S : St) : Option (Int32) :=
  if (S.1 78 20) = (60 : Int32) then some (1 : Int32) else if (S.1 78 22) = (30 : Int32) then some (1 : Int32) else some (0 : Int32)
set_option maxRecDepth 100000 in
set_option maxHeartbeats 4000000 in
theorem c_M_isFull {X : Nat × (Nat → Int32)} {D F G : Nat} (hD : 0 ≤ D) {S : St} {res : Int32} (h : fM_isFull F G S  = some res) : Ek X (D) mM_isFull 0 [(0, .ref 78)] [] S (some (.int res)) S := by
  unfold fM_isFull at h
  refine x_aload_n d_M_isFull_0 rfl 0 rfl ?_
  refine y_getI d_M_isFull_1 fl_11_277 rfl kd_78 ?_
  refine x_bipush d_M_isFull_4 bp_60 ?_
  refine x_icmp_eq (tgt := 18) d_M_isFull_6 rfl (fun c1 => ?_) (fun c1 => ?_)
  · replace h := ite_t c1 h
    refine x_iconst d_M_isFull_18 ic_1 ?_
    refine x_goto (tgt := 23) d_M_isFull_19 rfl ?_
    obtain rfl := Option.some.inj h
    exact x_ret (r := some (.int (1 : Int32))) d_M_isFull_23 ⟨_, rfl, rfl⟩
  · replace h := ite_f c1 h
    refine x_aload_n d_M_isFull_9 rfl 0 rfl ?_
    refine y_getI d_M_isFull_10 fl_11_280 rfl kd_78 ?_
    refine x_bipush d_M_isFull_13 bp_30 ?_
    refine x_icmp_ne (tgt := 22) d_M_isFull_15 rfl (fun c2 => ?_) (fun c2 => ?_)
    · replace h := ite_f c2 h
      refine x_iconst d_M_isFull_22 ic_0 ?_
      obtain rfl := Option.some.inj h
      exact x_ret (r := some (.int (0 : Int32))) d_M_isFull_23 ⟨_, rfl, rfl⟩
    · replace h := ite_t c2 h
      refine x_iconst d_M_isFull_18 ic_1 ?_
      refine x_goto (tgt := 23) d_M_isFull_19 rfl ?_
      obtain rfl := Option.some.inj h
      exact x_ret (r := some (.int (1 : Int32))) d_M_isFull_23 ⟨_, rfl, rfl⟩
/-! NinetyPlayersModel.countUnit -/
def fM_countUnit (F G : Nat) (S : St) : Option (St) :=
  lt (sI S 78 20 ((S.1 78 20) + (1 : Int32))) fun S1 => lt (sI S1 78 22 ((S1.1 78 22) + (1 : Int32))) fun S3 => some S3
set_option maxRecDepth 100000 in
set_option maxHeartbeats 4000000 in
theorem c_M_countUnit {X : Nat × (Nat → Int32)} {D F G : Nat} (hD : 0 ≤ D) {S : St} {res : St} (h : fM_countUnit F G S  = some res) : Ek X (D) mM_countUnit 0 [(0, .ref 78)] [] S none res := by
  unfold fM_countUnit at h
  refine x_aload_n d_M_countUnit_0 rfl 0 rfl ?_
  refine x_dup d_M_countUnit_1 rfl ?_
  refine y_getI d_M_countUnit_2 fl_11_277 rfl kd_78 ?_
  refine x_iconst d_M_countUnit_5 ic_1 ?_
  refine x_iadd d_M_countUnit_6 ?_
  obtain ⟨S1, e2, h⟩ := lt_inv h
  refine y_putI e2 d_M_countUnit_7 fl_11_277 rfl rfl kd_78 rfl rfl ?_
  refine x_aload_n d_M_countUnit_10 rfl 0 rfl ?_
  refine x_dup d_M_countUnit_11 rfl ?_
  refine y_getI d_M_countUnit_12 fl_11_280 rfl kd_78 ?_
  refine x_iconst d_M_countUnit_15 ic_1 ?_
  refine x_iadd d_M_countUnit_16 ?_
  obtain ⟨S3, e4, h⟩ := lt_inv h
  refine y_putI e4 d_M_countUnit_17 fl_11_280 rfl rfl kd_78 rfl rfl ?_
  obtain rfl := Option.some.inj h
  exact x_ret (r := none) d_M_countUnit_20 rfl
/-! NinetyPlayersModel.asked -/
def fM_asked (F G : Nat) (S : St) : Option (Int32) :=
  if (S.1 78 6) = (1 : Int32) then if (lg_cmp (S.2.1 78 9) (1919904869 : Int64)) = 0 then some (0 : Int32) else if (lg_cmp (S.2.1 78 9) (7038329 : Int64)) = 0 then some (1 : Int32) else if (lg_cmp (S.2.1 78 9) (1819242087 : Int64)) = 0 then some (2 : Int32) else if (lg_cmp (S.2.1 78 9) (1819243876 : Int64)) = 0 then some (3 : Int32) else if (lg_cmp (S.2.1 78 9) (28270047624193380 : Int64)) = 0 then some (4 : Int32) else if (lg_cmp (S.2.1 78 9) (1650811252 : Int64)) = 0 then some (5 : Int32) else some (-1 : Int32) else some (-1 : Int32)
set_option maxRecDepth 100000 in
set_option maxHeartbeats 4000000 in
theorem c_M_asked {X : Nat × (Nat → Int32)} {D F G : Nat} (hD : 0 ≤ D) {S : St} {res : Int32} (h : fM_asked F G S  = some res) : Ek X (D) mM_asked 0 [(0, .ref 78)] [] S (some (.int res)) S := by
  unfold fM_asked at h
  refine x_aload_n d_M_asked_0 rfl 0 rfl ?_
  refine y_getI d_M_asked_1 fl_11_172 rfl kd_78 ?_
  refine x_iconst d_M_asked_4 ic_1 ?_
  refine x_icmp_eq (tgt := 10) d_M_asked_5 rfl (fun c1 => ?_) (fun c1 => ?_)
  · replace h := ite_t c1 h
    refine x_aload_n d_M_asked_10 rfl 0 rfl ?_
    refine y_getL d_M_asked_11 fl_11_165 rfl kd_78 ?_
    refine x_ldc2 d_M_asked_14 kc_11_218 ?_
    refine x_lcmp d_M_asked_17 ?_
    refine x_if_ne (tgt := 23) d_M_asked_18 rfl (fun c2 => ?_) (fun c2 => ?_)
    · replace h := ite_f c2 h
      refine x_aload_n d_M_asked_23 rfl 0 rfl ?_
      refine y_getL d_M_asked_24 fl_11_165 rfl kd_78 ?_
      refine x_ldc2 d_M_asked_27 kc_11_202 ?_
      refine x_lcmp d_M_asked_30 ?_
      refine x_if_ne (tgt := 36) d_M_asked_31 rfl (fun c3 => ?_) (fun c3 => ?_)
      · replace h := ite_f c3 h
        refine x_aload_n d_M_asked_36 rfl 0 rfl ?_
        refine y_getL d_M_asked_37 fl_11_165 rfl kd_78 ?_
        refine x_ldc2 d_M_asked_40 kc_11_204 ?_
        refine x_lcmp d_M_asked_43 ?_
        refine x_if_ne (tgt := 49) d_M_asked_44 rfl (fun c4 => ?_) (fun c4 => ?_)
        · replace h := ite_f c4 h
          refine x_aload_n d_M_asked_49 rfl 0 rfl ?_
          refine y_getL d_M_asked_50 fl_11_165 rfl kd_78 ?_
          refine x_ldc2 d_M_asked_53 kc_11_206 ?_
          refine x_lcmp d_M_asked_56 ?_
          refine x_if_ne (tgt := 62) d_M_asked_57 rfl (fun c5 => ?_) (fun c5 => ?_)
          · replace h := ite_f c5 h
            refine x_aload_n d_M_asked_62 rfl 0 rfl ?_
            refine y_getL d_M_asked_63 fl_11_165 rfl kd_78 ?_
            refine x_ldc2 d_M_asked_66 kc_11_220 ?_
            refine x_lcmp d_M_asked_69 ?_
            refine x_if_ne (tgt := 75) d_M_asked_70 rfl (fun c6 => ?_) (fun c6 => ?_)
            · replace h := ite_f c6 h
              refine x_aload_n d_M_asked_75 rfl 0 rfl ?_
              refine y_getL d_M_asked_76 fl_11_165 rfl kd_78 ?_
              refine x_ldc2 d_M_asked_79 kc_11_222 ?_
              refine x_lcmp d_M_asked_82 ?_
              refine x_if_ne (tgt := 90) d_M_asked_83 rfl (fun c7 => ?_) (fun c7 => ?_)
              · replace h := ite_f c7 h
                refine x_iconst d_M_asked_90 ic_m1 ?_
                obtain rfl := Option.some.inj h
                exact x_ret (r := some (.int (-1 : Int32))) d_M_asked_91 ⟨_, rfl, rfl⟩
              · replace h := ite_t c7 h
                refine x_iconst d_M_asked_86 ic_5 ?_
                refine x_goto (tgt := 91) d_M_asked_87 rfl ?_
                obtain rfl := Option.some.inj h
                exact x_ret (r := some (.int (5 : Int32))) d_M_asked_91 ⟨_, rfl, rfl⟩
            · replace h := ite_t c6 h
              refine x_iconst d_M_asked_73 ic_4 ?_
              obtain rfl := Option.some.inj h
              exact x_ret (r := some (.int (4 : Int32))) d_M_asked_74 ⟨_, rfl, rfl⟩
          · replace h := ite_t c5 h
            refine x_iconst d_M_asked_60 ic_3 ?_
            obtain rfl := Option.some.inj h
            exact x_ret (r := some (.int (3 : Int32))) d_M_asked_61 ⟨_, rfl, rfl⟩
        · replace h := ite_t c4 h
          refine x_iconst d_M_asked_47 ic_2 ?_
          obtain rfl := Option.some.inj h
          exact x_ret (r := some (.int (2 : Int32))) d_M_asked_48 ⟨_, rfl, rfl⟩
      · replace h := ite_t c3 h
        refine x_iconst d_M_asked_34 ic_1 ?_
        obtain rfl := Option.some.inj h
        exact x_ret (r := some (.int (1 : Int32))) d_M_asked_35 ⟨_, rfl, rfl⟩
    · replace h := ite_t c2 h
      refine x_iconst d_M_asked_21 ic_0 ?_
      obtain rfl := Option.some.inj h
      exact x_ret (r := some (.int (0 : Int32))) d_M_asked_22 ⟨_, rfl, rfl⟩
  · replace h := ite_f c1 h
    refine x_iconst d_M_asked_8 ic_m1 ?_
    obtain rfl := Option.some.inj h
    exact x_ret (r := some (.int (-1 : Int32))) d_M_asked_9 ⟨_, rfl, rfl⟩
/-! NinetyPlayersModel.add -/
def fM_add (F G : Nat) (S : St) (p1 : Int32) (p2 : Int32) : Option (St) :=
  gd (inB (S.1 78 17) 320) (lt (sI S 81 (S.1 78 17).toNatClampNeg p1) fun S2 => gd (inB (S2.1 78 17) 320) (lt (sI S2 82 (S2.1 78 17).toNatClampNeg p2) fun S5 => lt (sI S5 78 17 ((S5.1 78 17) + (1 : Int32))) fun S7 => some S7))
set_option maxRecDepth 100000 in
set_option maxHeartbeats 4000000 in
theorem c_M_add {X : Nat × (Nat → Int32)} {D F G : Nat} (hD : 0 ≤ D) {S : St} {p1 : Int32} {p2 : Int32} {res : St} (h : fM_add F G S p1 p2 = some res) : Ek X (D) mM_add 0 [(0, .ref 78), (1, .int p1), (2, .int p2)] [] S none res := by
  unfold fM_add at h
  refine x_aload_n d_M_add_0 rfl 0 rfl ?_
  refine y_getR d_M_add_1 fl_11_21 rfl kd_78 rr_78_11 ?_
  refine x_aload_n d_M_add_4 rfl 0 rfl ?_
  refine y_getI d_M_add_5 fl_11_261 rfl kd_78 ?_
  refine x_iload_n d_M_add_8 rfl 1 rfl ?_
  obtain ⟨g1, h⟩ := gd_inv h
  obtain ⟨S2, e3, h⟩ := lt_inv h
  refine y_iast e3 d_M_add_9 kd_81 g1 ?_
  refine x_aload_n d_M_add_10 rfl 0 rfl ?_
  refine y_getR d_M_add_11 fl_11_24 rfl kd_78 rr_78_12 ?_
  refine x_aload_n d_M_add_14 rfl 0 rfl ?_
  refine y_getI d_M_add_15 fl_11_261 rfl kd_78 ?_
  refine x_iload_n d_M_add_18 rfl 2 rfl ?_
  obtain ⟨g4, h⟩ := gd_inv h
  obtain ⟨S5, e6, h⟩ := lt_inv h
  refine y_iast e6 d_M_add_19 kd_82 g4 ?_
  refine x_aload_n d_M_add_20 rfl 0 rfl ?_
  refine x_dup d_M_add_21 rfl ?_
  refine y_getI d_M_add_22 fl_11_261 rfl kd_78 ?_
  refine x_iconst d_M_add_25 ic_1 ?_
  refine x_iadd d_M_add_26 ?_
  obtain ⟨S7, e8, h⟩ := lt_inv h
  refine y_putI e8 d_M_add_27 fl_11_261 rfl rfl kd_78 rfl rfl ?_
  obtain rfl := Option.some.inj h
  exact x_ret (r := none) d_M_add_30 rfl
/-! NinetyPlayersModel.unit -/
def j_M_unit_83 (F G : Nat) (k101 : St → Option (St)) (rec : Int32 → St → Option (St)) (S : St) (y1 : Int32) : Option (St) :=
  bd (fM_countUnit F G S ) fun S24 => bd (fM_openUp F G S24 (20 : Int32)) fun S26 => rec y1 S26
def j_M_unit_78 (F G : Nat) (k101 : St → Option (St)) (rec : Int32 → St → Option (St)) (S : St) (y1 : Int32) : Option (St) :=
  bd (fM_wrong F G S (2 : Int32)) fun S22 => j_M_unit_83 F G k101 rec  S22 y1
def j_M_unit_53 (F G : Nat) (k101 : St → Option (St)) (rec : Int32 → St → Option (St)) (S : St) (y1 : Int32) : Option (St) :=
  if (S.1 78 6) = (40 : Int32) then bd (fM_isFull F G S) fun v18 => if v18 = 0 then if (S.1 78 23) ≤ (6 : Int32) then j_M_unit_83 F G k101 rec  S y1 else j_M_unit_78 F G k101 rec  S y1 else j_M_unit_78 F G k101 rec  S y1 else rec (0 : Int32) S
def b_M_unit_2 (F G : Nat) (k101 : St → Option (St)) (rec : Int32 → St → Option (St)) (w1 : Int32) (S : St) : Option (St) :=
  if w1 = 0 then k101 S else if (S.1 78 2) = 0 then bd (fM_isWord F G S (7237492 : Int64)) fun v4 => if v4 = 0 then j_M_unit_53 F G k101 rec  S w1 else bd (fM_mayNot F G S) fun v7 => if v7 = 0 then j_M_unit_53 F G k101 rec  S w1 else if (S.1 78 23) ≤ (6 : Int32) then bd (fM_openUp F G S (21 : Int32)) fun S11 => rec w1 S11 else bd (fM_wrong F G S (2 : Int32)) fun S13 => bd (fM_openUp F G S13 (21 : Int32)) fun S15 => rec w1 S15 else k101 S
def j_M_unit_160 (F G : Nat) (S : St) (y2 : Int32) (s1 : Int32) : Option (St) :=
  if 0 ≤ y2 then bd (fM_add F G S s1 y2) fun S44 => bd (fM_token F G S44 ) fun S46 => some S46 else bd (fM_add F G S s1 (S.1 78 8)) fun S48 => bd (fM_token F G S48 ) fun S50 => some S50
def j_M_unit_138 (F G : Nat) (S : St) (y2 : Int32) : Option (St) :=
  if (S.1 78 2) ≤ 0 then bd (fM_countUnit F G S ) fun S40 => if 0 ≤ y2 then j_M_unit_160 F G  S40 y2 (1 : Int32) else j_M_unit_160 F G  S40 y2 (0 : Int32) else some S
def j_M_unit_133 (F G : Nat) (S : St) (y2 : Int32) : Option (St) :=
  bd (fM_wrong F G S (2 : Int32)) fun S37 => j_M_unit_138 F G  S37 y2
def j_M_unit_126 (F G : Nat) (S : St) (y2 : Int32) : Option (St) :=
  bd (fM_isFull F G S) fun v34 => if v34 = 0 then j_M_unit_138 F G  S y2 else j_M_unit_133 F G  S y2
def j_M_unit_101 (F G : Nat) (S : St) : Option (St) :=
  if (S.1 78 2) ≤ 0 then bd (fM_asked F G S) fun v30 => if (S.1 78 6) = (2 : Int32) then j_M_unit_126 F G  S v30 else if v30 < 0 then j_M_unit_133 F G  S v30 else j_M_unit_126 F G  S v30 else some S
def fM_unit (F G : Nat) (S : St) : Option (St) :=
  fx2 (b_M_unit_2 F G  (fun S27 => j_M_unit_101 F G  S27 )) F (1 : Int32) S
set_option maxRecDepth 100000 in
set_option maxHeartbeats 4000000 in
theorem T_M_unit_2 {X : Nat × (Nat → Int32)} {D F G : Nat} (hD : 3 ≤ D + 1) {k101 : St → Option (St)} (hk101 : ∀ (S1 : St) (res : St), k101 S1 = some res → Ek X (D + 1) mM_unit 101 [(0, .ref 78)] [] S1 none res) : ∀ (f : Nat) (w1 : Int32) (S : St) (res : St), fx2 (b_M_unit_2 F G k101 ) f w1 S = some res → Ek X (D + 1) mM_unit 2 [(0, .ref 78), (1, .int w1)] [] S none res := by
  refine fx2_ind ?_
  intro rec ih w1 S res h
  unfold b_M_unit_2 at h
  have J83 : ∀ (S : St) (y1 : Int32) (res : St), j_M_unit_83 F G k101 rec S y1 = some res → Ek X (D + 1) mM_unit 83 [(0, .ref 78), (1, .int y1)] [] S none res := by
    intro S y1 res h
    unfold j_M_unit_83 at h
    refine x_aload_n d_M_unit_83 rfl 0 rfl ?_
    obtain ⟨S24, q23, h⟩ := bd_inv h
    refine y_V0v (S1 := S24) d_M_unit_84 ml_11_292 kd_78 rfl (Nat.le_of_ble_eq_true rfl) (Nat.le_of_ble_eq_true rfl) (c_M_countUnit (by omega) q23) ?_
    refine x_aload_n d_M_unit_87 rfl 0 rfl ?_
    refine x_bipush d_M_unit_88 bp_20 ?_
    obtain ⟨S26, q25, h⟩ := bd_inv h
    refine y_V1v (S1 := S26) d_M_unit_90 ml_11_286 kd_78 rfl (Nat.le_of_ble_eq_true rfl) (Nat.le_of_ble_eq_true rfl) (c_M_openUp (by omega) q25) ?_
    refine x_goto (tgt := 2) d_M_unit_93 rfl ?_
    exact ih y1 S26 _ h
  have J78 : ∀ (S : St) (y1 : Int32) (res : St), j_M_unit_78 F G k101 rec S y1 = some res → Ek X (D + 1) mM_unit 78 [(0, .ref 78), (1, .int y1)] [] S none res := by
    intro S y1 res h
    unfold j_M_unit_78 at h
    refine x_aload_n d_M_unit_78 rfl 0 rfl ?_
    refine x_iconst d_M_unit_79 ic_2 ?_
    obtain ⟨S22, q21, h⟩ := bd_inv h
    refine y_V1v (S1 := S22) d_M_unit_80 ml_11_238 kd_78 rfl (Nat.le_of_ble_eq_true rfl) (Nat.le_of_ble_eq_true rfl) (c_M_wrong (by omega) q21) ?_
    exact J83 S22 y1 _ h
  have J53 : ∀ (S : St) (y1 : Int32) (res : St), j_M_unit_53 F G k101 rec S y1 = some res → Ek X (D + 1) mM_unit 53 [(0, .ref 78), (1, .int y1)] [] S none res := by
    intro S y1 res h
    unfold j_M_unit_53 at h
    refine x_aload_n d_M_unit_53 rfl 0 rfl ?_
    refine y_getI d_M_unit_54 fl_11_172 rfl kd_78 ?_
    refine x_bipush d_M_unit_57 bp_40 ?_
    refine x_icmp_ne (tgt := 96) d_M_unit_59 rfl (fun c16 => ?_) (fun c16 => ?_)
    · replace h := ite_f c16 h
      refine x_iconst d_M_unit_96 ic_0 ?_
      refine x_istore_n (L1 := [(0, .ref 78), (1, .int (0 : Int32))]) d_M_unit_97 rfl (Nat.le_of_ble_eq_true rfl) rfl rfl ?_
      refine x_goto (tgt := 2) d_M_unit_98 rfl ?_
      exact ih (0 : Int32) S _ h
    · replace h := ite_t c16 h
      refine x_aload_n d_M_unit_62 rfl 0 rfl ?_
      obtain ⟨v18, q17, h⟩ := bd_inv h
      refine y_V0i (v := v18) (S1 := S) d_M_unit_63 ml_11_289 kd_78 rfl (Nat.le_of_ble_eq_true rfl) (Nat.le_of_ble_eq_true rfl) (c_M_isFull (by omega) q17) ?_
      refine x_if_ne (tgt := 78) d_M_unit_66 rfl (fun c19 => ?_) (fun c19 => ?_)
      · replace h := ite_f c19 h
        exact J78 S y1 _ h
      · replace h := ite_t c19 h
        refine x_aload_n d_M_unit_69 rfl 0 rfl ?_
        refine y_getI d_M_unit_70 fl_11_274 rfl kd_78 ?_
        refine x_bipush d_M_unit_73 bp_6 ?_
        refine x_icmp_le (tgt := 83) d_M_unit_75 rfl (fun c20 => ?_) (fun c20 => ?_)
        · replace h := ite_t c20 h
          exact J83 S y1 _ h
        · replace h := ite_f c20 h
          exact J78 S y1 _ h
  refine x_iload_n d_M_unit_2 rfl 1 rfl ?_
  refine x_if_eq (tgt := 101) d_M_unit_3 rfl (fun c1 => ?_) (fun c1 => ?_)
  · replace h := ite_t c1 h
    refine y_pick (L1 := [(0, .ref 78)]) [0] rfl ?_
    exact hk101 S _ h
  · replace h := ite_f c1 h
    refine x_aload_n d_M_unit_6 rfl 0 rfl ?_
    refine y_getI d_M_unit_7 fl_11_185 rfl kd_78 ?_
    refine x_if_ne (tgt := 101) d_M_unit_10 rfl (fun c2 => ?_) (fun c2 => ?_)
    · replace h := ite_f c2 h
      refine y_pick (L1 := [(0, .ref 78)]) [0] rfl ?_
      exact hk101 S _ h
    · replace h := ite_t c2 h
      refine x_aload_n d_M_unit_13 rfl 0 rfl ?_
      refine x_ldc2 d_M_unit_14 kc_11_228 ?_
      obtain ⟨v4, q3, h⟩ := bd_inv h
      refine y_V1i (v := v4) (S1 := S) d_M_unit_17 ml_11_234 kd_78 rfl (Nat.le_of_ble_eq_true rfl) (Nat.le_of_ble_eq_true rfl) (c_M_isWord (by omega) q3) ?_
      refine x_if_eq (tgt := 53) d_M_unit_20 rfl (fun c5 => ?_) (fun c5 => ?_)
      · replace h := ite_t c5 h
        exact J53 S w1 _ h
      · replace h := ite_f c5 h
        refine x_aload_n d_M_unit_23 rfl 0 rfl ?_
        obtain ⟨v7, q6, h⟩ := bd_inv h
        refine y_V0i (v := v7) (S1 := S) d_M_unit_24 ml_11_283 kd_78 rfl (Nat.le_of_ble_eq_true rfl) (Nat.le_of_ble_eq_true rfl) (c_M_mayNot (by omega) q6) ?_
        refine x_if_eq (tgt := 53) d_M_unit_27 rfl (fun c8 => ?_) (fun c8 => ?_)
        · replace h := ite_t c8 h
          exact J53 S w1 _ h
        · replace h := ite_f c8 h
          refine x_aload_n d_M_unit_30 rfl 0 rfl ?_
          refine y_getI d_M_unit_31 fl_11_274 rfl kd_78 ?_
          refine x_bipush d_M_unit_34 bp_6 ?_
          refine x_icmp_le (tgt := 44) d_M_unit_36 rfl (fun c9 => ?_) (fun c9 => ?_)
          · replace h := ite_t c9 h
            refine x_aload_n d_M_unit_44 rfl 0 rfl ?_
            refine x_bipush d_M_unit_45 bp_21 ?_
            obtain ⟨S11, q10, h⟩ := bd_inv h
            refine y_V1v (S1 := S11) d_M_unit_47 ml_11_286 kd_78 rfl (Nat.le_of_ble_eq_true rfl) (Nat.le_of_ble_eq_true rfl) (c_M_openUp (by omega) q10) ?_
            refine x_goto (tgt := 2) d_M_unit_50 rfl ?_
            exact ih w1 S11 _ h
          · replace h := ite_f c9 h
            refine x_aload_n d_M_unit_39 rfl 0 rfl ?_
            refine x_iconst d_M_unit_40 ic_2 ?_
            obtain ⟨S13, q12, h⟩ := bd_inv h
            refine y_V1v (S1 := S13) d_M_unit_41 ml_11_238 kd_78 rfl (Nat.le_of_ble_eq_true rfl) (Nat.le_of_ble_eq_true rfl) (c_M_wrong (by omega) q12) ?_
            refine x_aload_n d_M_unit_44 rfl 0 rfl ?_
            refine x_bipush d_M_unit_45 bp_21 ?_
            obtain ⟨S15, q14, h⟩ := bd_inv h
            refine y_V1v (S1 := S15) d_M_unit_47 ml_11_286 kd_78 rfl (Nat.le_of_ble_eq_true rfl) (Nat.le_of_ble_eq_true rfl) (c_M_openUp (by omega) q14) ?_
            refine x_goto (tgt := 2) d_M_unit_50 rfl ?_
            exact ih w1 S15 _ h
set_option maxRecDepth 100000 in
set_option maxHeartbeats 4000000 in
theorem c_M_unit {X : Nat × (Nat → Int32)} {D F G : Nat} (hD : 3 ≤ D) {S : St} {res : St} (h : fM_unit F G S  = some res) : Ek X (D) mM_unit 0 [(0, .ref 78)] [] S none res := by
  obtain ⟨D, rfl⟩ : ∃ E, D = E + 1 := ⟨D - 1, by omega⟩
  unfold fM_unit at h
  have J160 : ∀ (S : St) (y2 : Int32) (s1 : Int32) (res : St), j_M_unit_160 F G S y2 s1 = some res → Ek X (D + 1) mM_unit 160 [(0, .ref 78), (2, .int y2)] [.int s1, .ref 78] S none res := by
    intro S y2 s1 res h
    unfold j_M_unit_160 at h
    refine x_iload_n d_M_unit_160 rfl 1 rfl ?_
    refine x_if_ge (tgt := 171) d_M_unit_161 rfl (fun c42 => ?_) (fun c42 => ?_)
    · replace h := ite_t c42 h
      refine x_iload_n d_M_unit_171 rfl 1 rfl ?_
      obtain ⟨S44, q43, h⟩ := bd_inv h
      refine y_V2v (S1 := S44) d_M_unit_172 ml_11_270 kd_78 rfl (Nat.le_of_ble_eq_true rfl) (Nat.le_of_ble_eq_true rfl) (c_M_add (by omega) q43) ?_
      refine x_aload_n d_M_unit_175 rfl 0 rfl ?_
      obtain ⟨S46, q45, h⟩ := bd_inv h
      refine y_V0v (S1 := S46) d_M_unit_176 ml_11_241 kd_78 rfl (Nat.le_of_ble_eq_true rfl) (Nat.le_of_ble_eq_true rfl) (c_M_token (by omega) q45) ?_
      obtain rfl := Option.some.inj h
      exact x_ret (r := none) d_M_unit_179 rfl
    · replace h := ite_f c42 h
      refine x_aload_n d_M_unit_164 rfl 0 rfl ?_
      refine y_getI d_M_unit_165 fl_11_169 rfl kd_78 ?_
      refine x_goto (tgt := 172) d_M_unit_168 rfl ?_
      obtain ⟨S48, q47, h⟩ := bd_inv h
      refine y_V2v (S1 := S48) d_M_unit_172 ml_11_270 kd_78 rfl (Nat.le_of_ble_eq_true rfl) (Nat.le_of_ble_eq_true rfl) (c_M_add (by omega) q47) ?_
      refine x_aload_n d_M_unit_175 rfl 0 rfl ?_
      obtain ⟨S50, q49, h⟩ := bd_inv h
      refine y_V0v (S1 := S50) d_M_unit_176 ml_11_241 kd_78 rfl (Nat.le_of_ble_eq_true rfl) (Nat.le_of_ble_eq_true rfl) (c_M_token (by omega) q49) ?_
      obtain rfl := Option.some.inj h
      exact x_ret (r := none) d_M_unit_179 rfl
  have J138 : ∀ (S : St) (y2 : Int32) (res : St), j_M_unit_138 F G S y2 = some res → Ek X (D + 1) mM_unit 138 [(0, .ref 78), (2, .int y2)] [] S none res := by
    intro S y2 res h
    unfold j_M_unit_138 at h
    refine x_aload_n d_M_unit_138 rfl 0 rfl ?_
    refine y_getI d_M_unit_139 fl_11_185 rfl kd_78 ?_
    refine x_if_le (tgt := 146) d_M_unit_142 rfl (fun c38 => ?_) (fun c38 => ?_)
    · replace h := ite_t c38 h
      refine x_aload_n d_M_unit_146 rfl 0 rfl ?_
      obtain ⟨S40, q39, h⟩ := bd_inv h
      refine y_V0v (S1 := S40) d_M_unit_147 ml_11_292 kd_78 rfl (Nat.le_of_ble_eq_true rfl) (Nat.le_of_ble_eq_true rfl) (c_M_countUnit (by omega) q39) ?_
      refine x_aload_n d_M_unit_150 rfl 0 rfl ?_
      refine x_iload_n d_M_unit_151 rfl 1 rfl ?_
      refine x_if_ge (tgt := 159) d_M_unit_152 rfl (fun c41 => ?_) (fun c41 => ?_)
      · replace h := ite_t c41 h
        refine x_iconst d_M_unit_159 ic_1 ?_
        exact J160 S40 y2 (1 : Int32) _ h
      · replace h := ite_f c41 h
        refine x_iconst d_M_unit_155 ic_0 ?_
        refine x_goto (tgt := 160) d_M_unit_156 rfl ?_
        exact J160 S40 y2 (0 : Int32) _ h
    · replace h := ite_f c38 h
      obtain rfl := Option.some.inj h
      exact x_ret (r := none) d_M_unit_145 rfl
  have J133 : ∀ (S : St) (y2 : Int32) (res : St), j_M_unit_133 F G S y2 = some res → Ek X (D + 1) mM_unit 133 [(0, .ref 78), (2, .int y2)] [] S none res := by
    intro S y2 res h
    unfold j_M_unit_133 at h
    refine x_aload_n d_M_unit_133 rfl 0 rfl ?_
    refine x_iconst d_M_unit_134 ic_2 ?_
    obtain ⟨S37, q36, h⟩ := bd_inv h
    refine y_V1v (S1 := S37) d_M_unit_135 ml_11_238 kd_78 rfl (Nat.le_of_ble_eq_true rfl) (Nat.le_of_ble_eq_true rfl) (c_M_wrong (by omega) q36) ?_
    exact J138 S37 y2 _ h
  have J126 : ∀ (S : St) (y2 : Int32) (res : St), j_M_unit_126 F G S y2 = some res → Ek X (D + 1) mM_unit 126 [(0, .ref 78), (2, .int y2)] [] S none res := by
    intro S y2 res h
    unfold j_M_unit_126 at h
    refine x_aload_n d_M_unit_126 rfl 0 rfl ?_
    obtain ⟨v34, q33, h⟩ := bd_inv h
    refine y_V0i (v := v34) (S1 := S) d_M_unit_127 ml_11_289 kd_78 rfl (Nat.le_of_ble_eq_true rfl) (Nat.le_of_ble_eq_true rfl) (c_M_isFull (by omega) q33) ?_
    refine x_if_eq (tgt := 138) d_M_unit_130 rfl (fun c35 => ?_) (fun c35 => ?_)
    · replace h := ite_t c35 h
      exact J138 S y2 _ h
    · replace h := ite_f c35 h
      exact J133 S y2 _ h
  have J101 : ∀ (S : St) (res : St), j_M_unit_101 F G S  = some res → Ek X (D + 1) mM_unit 101 [(0, .ref 78)] [] S none res := by
    intro S  res h
    unfold j_M_unit_101 at h
    refine x_aload_n d_M_unit_101 rfl 0 rfl ?_
    refine y_getI d_M_unit_102 fl_11_185 rfl kd_78 ?_
    refine x_if_le (tgt := 109) d_M_unit_105 rfl (fun c28 => ?_) (fun c28 => ?_)
    · replace h := ite_t c28 h
      refine x_aload_n d_M_unit_109 rfl 0 rfl ?_
      obtain ⟨v30, q29, h⟩ := bd_inv h
      refine y_V0i (v := v30) (S1 := S) d_M_unit_110 ml_11_295 kd_78 rfl (Nat.le_of_ble_eq_true rfl) (Nat.le_of_ble_eq_true rfl) (c_M_asked (by omega) q29) ?_
      refine x_istore_n (L1 := [(0, .ref 78), (2, .int v30)]) d_M_unit_113 rfl (Nat.le_of_ble_eq_true rfl) rfl rfl ?_
      refine x_aload_n d_M_unit_114 rfl 0 rfl ?_
      refine y_getI d_M_unit_115 fl_11_172 rfl kd_78 ?_
      refine x_iconst d_M_unit_118 ic_2 ?_
      refine x_icmp_eq (tgt := 126) d_M_unit_119 rfl (fun c31 => ?_) (fun c31 => ?_)
      · replace h := ite_t c31 h
        exact J126 S v30 _ h
      · replace h := ite_f c31 h
        refine x_iload_n d_M_unit_122 rfl 1 rfl ?_
        refine x_if_lt (tgt := 133) d_M_unit_123 rfl (fun c32 => ?_) (fun c32 => ?_)
        · replace h := ite_t c32 h
          exact J133 S v30 _ h
        · replace h := ite_f c32 h
          exact J126 S v30 _ h
    · replace h := ite_f c28 h
      obtain rfl := Option.some.inj h
      exact x_ret (r := none) d_M_unit_108 rfl
  refine x_iconst d_M_unit_0 ic_1 ?_
  refine x_istore_n (L1 := [(0, .ref 78), (1, .int (1 : Int32))]) d_M_unit_1 rfl (Nat.le_of_ble_eq_true rfl) rfl rfl ?_
  refine T_M_unit_2 (by omega)  ?_ F (1 : Int32) S _ h
  · intro S27 res h
    exact J101 S27  _ h
/-! NinetyPlayersModel.sign -/
def fM_sign (F G : Nat) (S : St) : Option (Int32) :=
  bd (fM_isWord F G S (6385252 : Int64)) fun v2 => if v2 = 0 then bd (fM_isWord F G S (28530 : Int64)) fun v5 => if v5 = 0 then if (S.1 78 6) = (60 : Int32) then some (S.1 78 6) else if (S.1 78 6) = (62 : Int32) then some (S.1 78 6) else if (S.1 78 6) = (61 : Int32) then some (S.1 78 6) else if (S.1 78 6) = (43 : Int32) then some (S.1 78 6) else if (S.1 78 6) = (45 : Int32) then some (S.1 78 6) else if (S.1 78 6) = (42 : Int32) then some (S.1 78 6) else if (S.1 78 6) = (47 : Int32) then some (S.1 78 6) else if (S.1 78 6) = (37 : Int32) then some (S.1 78 6) else some (0 : Int32) else some (124 : Int32) else some (38 : Int32)
set_option maxRecDepth 100000 in
set_option maxHeartbeats 4000000 in
theorem c_M_sign {X : Nat × (Nat → Int32)} {D F G : Nat} (hD : 1 ≤ D) {S : St} {res : Int32} (h : fM_sign F G S  = some res) : Ek X (D) mM_sign 0 [(0, .ref 78)] [] S (some (.int res)) S := by
  obtain ⟨D, rfl⟩ : ∃ E, D = E + 1 := ⟨D - 1, by omega⟩
  unfold fM_sign at h
  refine x_aload_n d_M_sign_0 rfl 0 rfl ?_
  refine x_ldc2 d_M_sign_1 kc_11_224 ?_
  obtain ⟨v2, q1, h⟩ := bd_inv h
  refine y_V1i (v := v2) (S1 := S) d_M_sign_4 ml_11_234 kd_78 rfl (Nat.le_of_ble_eq_true rfl) (Nat.le_of_ble_eq_true rfl) (c_M_isWord (by omega) q1) ?_
  refine x_if_eq (tgt := 13) d_M_sign_7 rfl (fun c3 => ?_) (fun c3 => ?_)
  · replace h := ite_t c3 h
    refine x_aload_n d_M_sign_13 rfl 0 rfl ?_
    refine x_ldc2 d_M_sign_14 kc_11_226 ?_
    obtain ⟨v5, q4, h⟩ := bd_inv h
    refine y_V1i (v := v5) (S1 := S) d_M_sign_17 ml_11_234 kd_78 rfl (Nat.le_of_ble_eq_true rfl) (Nat.le_of_ble_eq_true rfl) (c_M_isWord (by omega) q4) ?_
    refine x_if_eq (tgt := 26) d_M_sign_20 rfl (fun c6 => ?_) (fun c6 => ?_)
    · replace h := ite_t c6 h
      refine x_aload_n d_M_sign_26 rfl 0 rfl ?_
      refine y_getI d_M_sign_27 fl_11_172 rfl kd_78 ?_
      refine x_bipush d_M_sign_30 bp_60 ?_
      refine x_icmp_eq (tgt := 98) d_M_sign_32 rfl (fun c7 => ?_) (fun c7 => ?_)
      · replace h := ite_t c7 h
        refine x_aload_n d_M_sign_98 rfl 0 rfl ?_
        refine y_getI d_M_sign_99 fl_11_172 rfl kd_78 ?_
        refine x_goto (tgt := 106) d_M_sign_102 rfl ?_
        obtain rfl := Option.some.inj h
        exact x_ret (r := some (.int (S.1 78 6))) d_M_sign_106 ⟨_, rfl, rfl⟩
      · replace h := ite_f c7 h
        refine x_aload_n d_M_sign_35 rfl 0 rfl ?_
        refine y_getI d_M_sign_36 fl_11_172 rfl kd_78 ?_
        refine x_bipush d_M_sign_39 bp_62 ?_
        refine x_icmp_eq (tgt := 98) d_M_sign_41 rfl (fun c8 => ?_) (fun c8 => ?_)
        · replace h := ite_t c8 h
          refine x_aload_n d_M_sign_98 rfl 0 rfl ?_
          refine y_getI d_M_sign_99 fl_11_172 rfl kd_78 ?_
          refine x_goto (tgt := 106) d_M_sign_102 rfl ?_
          obtain rfl := Option.some.inj h
          exact x_ret (r := some (.int (S.1 78 6))) d_M_sign_106 ⟨_, rfl, rfl⟩
        · replace h := ite_f c8 h
          refine x_aload_n d_M_sign_44 rfl 0 rfl ?_
          refine y_getI d_M_sign_45 fl_11_172 rfl kd_78 ?_
          refine x_bipush d_M_sign_48 bp_61 ?_
          refine x_icmp_eq (tgt := 98) d_M_sign_50 rfl (fun c9 => ?_) (fun c9 => ?_)
          · replace h := ite_t c9 h
            refine x_aload_n d_M_sign_98 rfl 0 rfl ?_
            refine y_getI d_M_sign_99 fl_11_172 rfl kd_78 ?_
            refine x_goto (tgt := 106) d_M_sign_102 rfl ?_
            obtain rfl := Option.some.inj h
            exact x_ret (r := some (.int (S.1 78 6))) d_M_sign_106 ⟨_, rfl, rfl⟩
          · replace h := ite_f c9 h
            refine x_aload_n d_M_sign_53 rfl 0 rfl ?_
            refine y_getI d_M_sign_54 fl_11_172 rfl kd_78 ?_
            refine x_bipush d_M_sign_57 bp_43 ?_
            refine x_icmp_eq (tgt := 98) d_M_sign_59 rfl (fun c10 => ?_) (fun c10 => ?_)
            · replace h := ite_t c10 h
              refine x_aload_n d_M_sign_98 rfl 0 rfl ?_
              refine y_getI d_M_sign_99 fl_11_172 rfl kd_78 ?_
              refine x_goto (tgt := 106) d_M_sign_102 rfl ?_
              obtain rfl := Option.some.inj h
              exact x_ret (r := some (.int (S.1 78 6))) d_M_sign_106 ⟨_, rfl, rfl⟩
            · replace h := ite_f c10 h
              refine x_aload_n d_M_sign_62 rfl 0 rfl ?_
              refine y_getI d_M_sign_63 fl_11_172 rfl kd_78 ?_
              refine x_bipush d_M_sign_66 bp_45 ?_
              refine x_icmp_eq (tgt := 98) d_M_sign_68 rfl (fun c11 => ?_) (fun c11 => ?_)
              · replace h := ite_t c11 h
                refine x_aload_n d_M_sign_98 rfl 0 rfl ?_
                refine y_getI d_M_sign_99 fl_11_172 rfl kd_78 ?_
                refine x_goto (tgt := 106) d_M_sign_102 rfl ?_
                obtain rfl := Option.some.inj h
                exact x_ret (r := some (.int (S.1 78 6))) d_M_sign_106 ⟨_, rfl, rfl⟩
              · replace h := ite_f c11 h
                refine x_aload_n d_M_sign_71 rfl 0 rfl ?_
                refine y_getI d_M_sign_72 fl_11_172 rfl kd_78 ?_
                refine x_bipush d_M_sign_75 bp_42 ?_
                refine x_icmp_eq (tgt := 98) d_M_sign_77 rfl (fun c12 => ?_) (fun c12 => ?_)
                · replace h := ite_t c12 h
                  refine x_aload_n d_M_sign_98 rfl 0 rfl ?_
                  refine y_getI d_M_sign_99 fl_11_172 rfl kd_78 ?_
                  refine x_goto (tgt := 106) d_M_sign_102 rfl ?_
                  obtain rfl := Option.some.inj h
                  exact x_ret (r := some (.int (S.1 78 6))) d_M_sign_106 ⟨_, rfl, rfl⟩
                · replace h := ite_f c12 h
                  refine x_aload_n d_M_sign_80 rfl 0 rfl ?_
                  refine y_getI d_M_sign_81 fl_11_172 rfl kd_78 ?_
                  refine x_bipush d_M_sign_84 bp_47 ?_
                  refine x_icmp_eq (tgt := 98) d_M_sign_86 rfl (fun c13 => ?_) (fun c13 => ?_)
                  · replace h := ite_t c13 h
                    refine x_aload_n d_M_sign_98 rfl 0 rfl ?_
                    refine y_getI d_M_sign_99 fl_11_172 rfl kd_78 ?_
                    refine x_goto (tgt := 106) d_M_sign_102 rfl ?_
                    obtain rfl := Option.some.inj h
                    exact x_ret (r := some (.int (S.1 78 6))) d_M_sign_106 ⟨_, rfl, rfl⟩
                  · replace h := ite_f c13 h
                    refine x_aload_n d_M_sign_89 rfl 0 rfl ?_
                    refine y_getI d_M_sign_90 fl_11_172 rfl kd_78 ?_
                    refine x_bipush d_M_sign_93 bp_37 ?_
                    refine x_icmp_ne (tgt := 105) d_M_sign_95 rfl (fun c14 => ?_) (fun c14 => ?_)
                    · replace h := ite_f c14 h
                      refine x_iconst d_M_sign_105 ic_0 ?_
                      obtain rfl := Option.some.inj h
                      exact x_ret (r := some (.int (0 : Int32))) d_M_sign_106 ⟨_, rfl, rfl⟩
                    · replace h := ite_t c14 h
                      refine x_aload_n d_M_sign_98 rfl 0 rfl ?_
                      refine y_getI d_M_sign_99 fl_11_172 rfl kd_78 ?_
                      refine x_goto (tgt := 106) d_M_sign_102 rfl ?_
                      obtain rfl := Option.some.inj h
                      exact x_ret (r := some (.int (S.1 78 6))) d_M_sign_106 ⟨_, rfl, rfl⟩
    · replace h := ite_f c6 h
      refine x_bipush d_M_sign_23 bp_124 ?_
      obtain rfl := Option.some.inj h
      exact x_ret (r := some (.int (124 : Int32))) d_M_sign_25 ⟨_, rfl, rfl⟩
  · replace h := ite_f c3 h
    refine x_bipush d_M_sign_10 bp_38 ?_
    obtain rfl := Option.some.inj h
    exact x_ret (r := some (.int (38 : Int32))) d_M_sign_12 ⟨_, rfl, rfl⟩
/-! NinetyPlayersModel.hasBracket -/
def b_M_hasBracket_4 (F G : Nat) (S : St) (rec : Int32 → Int32 → Option (Int32)) (w1 : Int32) (w2 : Int32) : Option (Int32) :=
  if (S.1 78 19) ≤ w2 then gd (isB w1) (some w1) else if w1 = 0 then gd (inB w2 160) (if (S.1 85 w2.toNatClampNeg) = (20 : Int32) then lt (w2 + 1) fun v10 => rec (1 : Int32) v10 else lt (w2 + 1) fun v8 => rec (0 : Int32) v8) else lt (w2 + 1) fun v4 => rec (1 : Int32) v4
def fM_hasBracket (F G : Nat) (S : St) : Option (Int32) :=
  fx2 (b_M_hasBracket_4 F G S) F (0 : Int32) (0 : Int32)
set_option maxRecDepth 100000 in
set_option maxHeartbeats 4000000 in
theorem T_M_hasBracket_4 {X : Nat × (Nat → Int32)} {D F G : Nat} (hD : 0 ≤ D) {S : St} : ∀ (f : Nat) (w1 : Int32) (w2 : Int32) (res : Int32), fx2 (b_M_hasBracket_4 F G S ) f w1 w2 = some res → Ek X (D) mM_hasBracket 4 [(0, .ref 78), (1, .int w1), (2, .int w2)] [] S (some (.int res)) S := by
  refine fx2_ind ?_
  intro rec ih w1 w2 res h
  unfold b_M_hasBracket_4 at h
  refine x_iload_n d_M_hasBracket_4 rfl 2 rfl ?_
  refine x_aload_n d_M_hasBracket_5 rfl 0 rfl ?_
  refine y_getI d_M_hasBracket_6 fl_11_264 rfl kd_78 ?_
  refine x_icmp_ge (tgt := 39) d_M_hasBracket_9 rfl (fun c1 => ?_) (fun c1 => ?_)
  · replace h := ite_t c1 h
    refine x_iload_n d_M_hasBracket_39 rfl 1 rfl ?_
    obtain ⟨g2, h⟩ := gd_inv h
    obtain rfl := Option.some.inj h
    exact x_ret (r := some (.int w1)) d_M_hasBracket_40 ⟨_, rfl, isB_nar g2⟩
  · replace h := ite_f c1 h
    refine x_iload_n d_M_hasBracket_12 rfl 1 rfl ?_
    refine x_if_ne (tgt := 27) d_M_hasBracket_13 rfl (fun c3 => ?_) (fun c3 => ?_)
    · replace h := ite_f c3 h
      refine x_iconst d_M_hasBracket_27 ic_1 ?_
      refine x_goto (tgt := 32) d_M_hasBracket_28 rfl ?_
      refine x_istore_n (L1 := [(0, .ref 78), (1, .int (1 : Int32)), (2, .int w2)]) d_M_hasBracket_32 rfl (Nat.le_of_ble_eq_true rfl) rfl rfl ?_
      obtain ⟨v4, e5, h⟩ := lt_inv h
      refine y_iinc (L1 := [(0, .ref 78), (1, .int (1 : Int32)), (2, .int v4)]) e5 ic_1 d_M_hasBracket_33 2 rfl (Nat.le_of_ble_eq_true rfl) rfl rfl ?_
      refine x_goto (tgt := 4) d_M_hasBracket_36 rfl ?_
      exact ih (1 : Int32) v4 _ h
    · replace h := ite_t c3 h
      refine x_aload_n d_M_hasBracket_16 rfl 0 rfl ?_
      refine y_getR d_M_hasBracket_17 fl_11_33 rfl kd_78 rr_78_15 ?_
      refine x_iload_n d_M_hasBracket_20 rfl 2 rfl ?_
      obtain ⟨g6, h⟩ := gd_inv h
      refine y_iald d_M_hasBracket_21 kd_85 g6 ?_
      refine x_bipush d_M_hasBracket_22 bp_20 ?_
      refine x_icmp_ne (tgt := 31) d_M_hasBracket_24 rfl (fun c7 => ?_) (fun c7 => ?_)
      · replace h := ite_f c7 h
        refine x_iconst d_M_hasBracket_31 ic_0 ?_
        refine x_istore_n (L1 := [(0, .ref 78), (1, .int (0 : Int32)), (2, .int w2)]) d_M_hasBracket_32 rfl (Nat.le_of_ble_eq_true rfl) rfl rfl ?_
        obtain ⟨v8, e9, h⟩ := lt_inv h
        refine y_iinc (L1 := [(0, .ref 78), (1, .int (0 : Int32)), (2, .int v8)]) e9 ic_1 d_M_hasBracket_33 2 rfl (Nat.le_of_ble_eq_true rfl) rfl rfl ?_
        refine x_goto (tgt := 4) d_M_hasBracket_36 rfl ?_
        exact ih (0 : Int32) v8 _ h
      · replace h := ite_t c7 h
        refine x_iconst d_M_hasBracket_27 ic_1 ?_
        refine x_goto (tgt := 32) d_M_hasBracket_28 rfl ?_
        refine x_istore_n (L1 := [(0, .ref 78), (1, .int (1 : Int32)), (2, .int w2)]) d_M_hasBracket_32 rfl (Nat.le_of_ble_eq_true rfl) rfl rfl ?_
        obtain ⟨v10, e11, h⟩ := lt_inv h
        refine y_iinc (L1 := [(0, .ref 78), (1, .int (1 : Int32)), (2, .int v10)]) e11 ic_1 d_M_hasBracket_33 2 rfl (Nat.le_of_ble_eq_true rfl) rfl rfl ?_
        refine x_goto (tgt := 4) d_M_hasBracket_36 rfl ?_
        exact ih (1 : Int32) v10 _ h
set_option maxRecDepth 100000 in
set_option maxHeartbeats 4000000 in
theorem c_M_hasBracket {X : Nat × (Nat → Int32)} {D F G : Nat} (hD : 0 ≤ D) {S : St} {res : Int32} (h : fM_hasBracket F G S  = some res) : Ek X (D) mM_hasBracket 0 [(0, .ref 78)] [] S (some (.int res)) S := by
  unfold fM_hasBracket at h
  refine x_iconst d_M_hasBracket_0 ic_0 ?_
  refine x_istore_n (L1 := [(0, .ref 78), (1, .int (0 : Int32))]) d_M_hasBracket_1 rfl (Nat.le_of_ble_eq_true rfl) rfl rfl ?_
  refine x_iconst d_M_hasBracket_2 ic_0 ?_
  refine x_istore_n (L1 := [(0, .ref 78), (1, .int (0 : Int32)), (2, .int (0 : Int32))]) d_M_hasBracket_3 rfl (Nat.le_of_ble_eq_true rfl) rfl rfl ?_
  refine T_M_hasBracket_4 (by omega)   F (0 : Int32) (0 : Int32) _ h
/-! NinetyPlayersModel.close -/
def b_M_close_0 (F G : Nat) (z1 : Int32) (rec : St → Option (St)) (S : St) : Option (St) :=
  if (S.1 78 19) ≤ 0 then some S else gd (inB ((S.1 78 19) - (1 : Int32)) 160) (if (S.1 85 ((S.1 78 19) - (1 : Int32)).toNatClampNeg) = (20 : Int32) then some S else gd (inB ((S.1 78 19) - (1 : Int32)) 160) (bd (fM_tight F G S (S.1 85 ((S.1 78 19) - (1 : Int32)).toNatClampNeg)) fun v6 => if v6 < z1 then some S else lt (sI S 78 19 ((S.1 78 19) - (1 : Int32))) fun S8 => gd (inB (S8.1 78 19) 160) (if (S8.1 85 (S8.1 78 19).toNatClampNeg) = (21 : Int32) then bd (fM_add F G S8 (2 : Int32) (0 : Int32)) fun S16 => lt (sI S16 78 23 ((S16.1 78 23) - (1 : Int32))) fun S17 => rec S17 else gd (inB (S8.1 78 19) 160) (bd (fM_add F G S8 (3 : Int32) (S8.1 85 (S8.1 78 19).toNatClampNeg)) fun S14 => rec S14))))
def fM_close (F G : Nat) (S : St) (p1 : Int32) : Option (St) :=
  fx1 (b_M_close_0 F G p1) F S
set_option maxRecDepth 100000 in
set_option maxHeartbeats 4000000 in
theorem T_M_close_0 {X : Nat × (Nat → Int32)} {D F G : Nat} (hD : 1 ≤ D + 1) {z1 : Int32} : ∀ (f : Nat) (S : St) (res : St), fx1 (b_M_close_0 F G z1 ) f S = some res → Ek X (D + 1) mM_close 0 [(0, .ref 78), (1, .int z1)] [] S none res := by
  refine fx1_ind ?_
  intro rec ih S res h
  unfold b_M_close_0 at h
  refine x_aload_n d_M_close_0 rfl 0 rfl ?_
  refine y_getI d_M_close_1 fl_11_264 rfl kd_78 ?_
  refine x_if_le (tgt := 101) d_M_close_4 rfl (fun c1 => ?_) (fun c1 => ?_)
  · replace h := ite_t c1 h
    obtain rfl := Option.some.inj h
    exact x_ret (r := none) d_M_close_101 rfl
  · replace h := ite_f c1 h
    refine x_aload_n d_M_close_7 rfl 0 rfl ?_
    refine y_getR d_M_close_8 fl_11_33 rfl kd_78 rr_78_15 ?_
    refine x_aload_n d_M_close_11 rfl 0 rfl ?_
    refine y_getI d_M_close_12 fl_11_264 rfl kd_78 ?_
    refine x_iconst d_M_close_15 ic_1 ?_
    refine x_isub d_M_close_16 ?_
    obtain ⟨g2, h⟩ := gd_inv h
    refine y_iald d_M_close_17 kd_85 g2 ?_
    refine x_bipush d_M_close_18 bp_20 ?_
    refine x_icmp_eq (tgt := 101) d_M_close_20 rfl (fun c3 => ?_) (fun c3 => ?_)
    · replace h := ite_t c3 h
      obtain rfl := Option.some.inj h
      exact x_ret (r := none) d_M_close_101 rfl
    · replace h := ite_f c3 h
      refine x_aload_n d_M_close_23 rfl 0 rfl ?_
      refine y_getR d_M_close_24 fl_11_33 rfl kd_78 rr_78_15 ?_
      refine x_aload_n d_M_close_27 rfl 0 rfl ?_
      refine y_getI d_M_close_28 fl_11_264 rfl kd_78 ?_
      refine x_iconst d_M_close_31 ic_1 ?_
      refine x_isub d_M_close_32 ?_
      obtain ⟨g4, h⟩ := gd_inv h
      refine y_iald d_M_close_33 kd_85 g4 ?_
      obtain ⟨v6, q5, h⟩ := bd_inv h
      refine y_S1i (v := v6) (S1 := S) d_M_close_34 ml_11_267 (Nat.le_of_ble_eq_true rfl) (Nat.le_of_ble_eq_true rfl) (c_M_tight (by omega) q5) ?_
      refine x_iload_n d_M_close_37 rfl 1 rfl ?_
      refine x_icmp_lt (tgt := 101) d_M_close_38 rfl (fun c7 => ?_) (fun c7 => ?_)
      · replace h := ite_t c7 h
        obtain rfl := Option.some.inj h
        exact x_ret (r := none) d_M_close_101 rfl
      · replace h := ite_f c7 h
        refine x_aload_n d_M_close_41 rfl 0 rfl ?_
        refine x_dup d_M_close_42 rfl ?_
        refine y_getI d_M_close_43 fl_11_264 rfl kd_78 ?_
        refine x_iconst d_M_close_46 ic_1 ?_
        refine x_isub d_M_close_47 ?_
        obtain ⟨S8, e9, h⟩ := lt_inv h
        refine y_putI e9 d_M_close_48 fl_11_264 rfl rfl kd_78 rfl rfl ?_
        refine x_aload_n d_M_close_51 rfl 0 rfl ?_
        refine y_getR d_M_close_52 fl_11_33 rfl kd_78 rr_78_15 ?_
        refine x_aload_n d_M_close_55 rfl 0 rfl ?_
        refine y_getI d_M_close_56 fl_11_264 rfl kd_78 ?_
        obtain ⟨g10, h⟩ := gd_inv h
        refine y_iald d_M_close_59 kd_85 g10 ?_
        refine x_bipush d_M_close_60 bp_21 ?_
        refine x_icmp_ne (tgt := 84) d_M_close_62 rfl (fun c11 => ?_) (fun c11 => ?_)
        · replace h := ite_f c11 h
          refine x_aload_n d_M_close_84 rfl 0 rfl ?_
          refine x_iconst d_M_close_85 ic_3 ?_
          refine x_aload_n d_M_close_86 rfl 0 rfl ?_
          refine y_getR d_M_close_87 fl_11_33 rfl kd_78 rr_78_15 ?_
          refine x_aload_n d_M_close_90 rfl 0 rfl ?_
          refine y_getI d_M_close_91 fl_11_264 rfl kd_78 ?_
          obtain ⟨g12, h⟩ := gd_inv h
          refine y_iald d_M_close_94 kd_85 g12 ?_
          obtain ⟨S14, q13, h⟩ := bd_inv h
          refine y_V2v (S1 := S14) d_M_close_95 ml_11_270 kd_78 rfl (Nat.le_of_ble_eq_true rfl) (Nat.le_of_ble_eq_true rfl) (c_M_add (by omega) q13) ?_
          refine x_goto (tgt := 0) d_M_close_98 rfl ?_
          exact ih S14 _ h
        · replace h := ite_t c11 h
          refine x_aload_n d_M_close_65 rfl 0 rfl ?_
          refine x_iconst d_M_close_66 ic_2 ?_
          refine x_iconst d_M_close_67 ic_0 ?_
          obtain ⟨S16, q15, h⟩ := bd_inv h
          refine y_V2v (S1 := S16) d_M_close_68 ml_11_270 kd_78 rfl (Nat.le_of_ble_eq_true rfl) (Nat.le_of_ble_eq_true rfl) (c_M_add (by omega) q15) ?_
          refine x_aload_n d_M_close_71 rfl 0 rfl ?_
          refine x_dup d_M_close_72 rfl ?_
          refine y_getI d_M_close_73 fl_11_274 rfl kd_78 ?_
          refine x_iconst d_M_close_76 ic_1 ?_
          refine x_isub d_M_close_77 ?_
          obtain ⟨S17, e18, h⟩ := lt_inv h
          refine y_putI e18 d_M_close_78 fl_11_274 rfl rfl kd_78 rfl rfl ?_
          refine x_goto (tgt := 0) d_M_close_81 rfl ?_
          exact ih S17 _ h
set_option maxRecDepth 100000 in
set_option maxHeartbeats 4000000 in
theorem c_M_close {X : Nat × (Nat → Int32)} {D F G : Nat} (hD : 1 ≤ D) {S : St} {p1 : Int32} {res : St} (h : fM_close F G S p1 = some res) : Ek X (D) mM_close 0 [(0, .ref 78), (1, .int p1)] [] S none res := by
  obtain ⟨D, rfl⟩ : ∃ E, D = E + 1 := ⟨D - 1, by omega⟩
  unfold fM_close at h
  refine T_M_close_0 (by omega)   F S _ h
/-! NinetyPlayersModel.hasRelation -/
def b_M_hasRelation_7 (F G : Nat) (S : St) (k41 : Int32 → Option (Int32)) (rec : Int32 → Option (Int32)) (w1 : Int32) : Option (Int32) :=
  if w1 < 0 then k41 w1 else gd (inB w1 160) (if (S.1 85 w1.toNatClampNeg) = (20 : Int32) then k41 w1 else gd (inB w1 160) (bd (fM_tight F G S (S.1 85 w1.toNatClampNeg)) fun v8 => if v8 ≤ (4 : Int32) then k41 w1 else lt (w1 + (-1)) fun v10 => rec v10))
def j_M_hasRelation_41 (F G : Nat) (S : St) (y1 : Int32) : Option (Int32) :=
  if y1 < 0 then some (0 : Int32) else gd (inB y1 160) (if (S.1 85 y1.toNatClampNeg) = (20 : Int32) then some (0 : Int32) else gd (inB y1 160) (bd (fM_tight F G S (S.1 85 y1.toNatClampNeg)) fun v18 => if v18 = (4 : Int32) then some (1 : Int32) else some (0 : Int32)))
def fM_hasRelation (F G : Nat) (S : St) : Option (Int32) :=
  lt ((S.1 78 19) - (1 : Int32)) fun v1 => fx1 (b_M_hasRelation_7 F G S (fun v12 => j_M_hasRelation_41 F G  S v12)) F v1
set_option maxRecDepth 100000 in
set_option maxHeartbeats 4000000 in
theorem T_M_hasRelation_7 {X : Nat × (Nat → Int32)} {D F G : Nat} (hD : 1 ≤ D + 1) {S : St} {k41 : Int32 → Option (Int32)} (hk41 : ∀ (u1 : Int32) (res : Int32), k41 u1 = some res → Ek X (D + 1) mM_hasRelation 41 [(0, .ref 78), (1, .int u1)] [] S (some (.int res)) S) : ∀ (f : Nat) (w1 : Int32) (res : Int32), fx1 (b_M_hasRelation_7 F G S k41 ) f w1 = some res → Ek X (D + 1) mM_hasRelation 7 [(0, .ref 78), (1, .int w1)] [] S (some (.int res)) S := by
  refine fx1_ind ?_
  intro rec ih w1 res h
  unfold b_M_hasRelation_7 at h
  refine x_iload_n d_M_hasRelation_7 rfl 1 rfl ?_
  refine x_if_lt (tgt := 41) d_M_hasRelation_8 rfl (fun c3 => ?_) (fun c3 => ?_)
  · replace h := ite_t c3 h
    exact hk41 w1 _ h
  · replace h := ite_f c3 h
    refine x_aload_n d_M_hasRelation_11 rfl 0 rfl ?_
    refine y_getR d_M_hasRelation_12 fl_11_33 rfl kd_78 rr_78_15 ?_
    refine x_iload_n d_M_hasRelation_15 rfl 1 rfl ?_
    obtain ⟨g4, h⟩ := gd_inv h
    refine y_iald d_M_hasRelation_16 kd_85 g4 ?_
    refine x_bipush d_M_hasRelation_17 bp_20 ?_
    refine x_icmp_eq (tgt := 41) d_M_hasRelation_19 rfl (fun c5 => ?_) (fun c5 => ?_)
    · replace h := ite_t c5 h
      exact hk41 w1 _ h
    · replace h := ite_f c5 h
      refine x_aload_n d_M_hasRelation_22 rfl 0 rfl ?_
      refine y_getR d_M_hasRelation_23 fl_11_33 rfl kd_78 rr_78_15 ?_
      refine x_iload_n d_M_hasRelation_26 rfl 1 rfl ?_
      obtain ⟨g6, h⟩ := gd_inv h
      refine y_iald d_M_hasRelation_27 kd_85 g6 ?_
      obtain ⟨v8, q7, h⟩ := bd_inv h
      refine y_S1i (v := v8) (S1 := S) d_M_hasRelation_28 ml_11_267 (Nat.le_of_ble_eq_true rfl) (Nat.le_of_ble_eq_true rfl) (c_M_tight (by omega) q7) ?_
      refine x_iconst d_M_hasRelation_31 ic_4 ?_
      refine x_icmp_le (tgt := 41) d_M_hasRelation_32 rfl (fun c9 => ?_) (fun c9 => ?_)
      · replace h := ite_t c9 h
        exact hk41 w1 _ h
      · replace h := ite_f c9 h
        obtain ⟨v10, e11, h⟩ := lt_inv h
        refine y_iinc (L1 := [(0, .ref 78), (1, .int v10)]) e11 ic_m1 d_M_hasRelation_35 1 rfl (Nat.le_of_ble_eq_true rfl) rfl rfl ?_
        refine x_goto (tgt := 7) d_M_hasRelation_38 rfl ?_
        exact ih v10 _ h
set_option maxRecDepth 100000 in
set_option maxHeartbeats 4000000 in
theorem c_M_hasRelation {X : Nat × (Nat → Int32)} {D F G : Nat} (hD : 1 ≤ D) {S : St} {res : Int32} (h : fM_hasRelation F G S  = some res) : Ek X (D) mM_hasRelation 0 [(0, .ref 78)] [] S (some (.int res)) S := by
  obtain ⟨D, rfl⟩ : ∃ E, D = E + 1 := ⟨D - 1, by omega⟩
  unfold fM_hasRelation at h
  have J41 : ∀ (y1 : Int32) (res : Int32), j_M_hasRelation_41 F G S y1 = some res → Ek X (D + 1) mM_hasRelation 41 [(0, .ref 78), (1, .int y1)] [] S (some (.int res)) S := by
    intro y1 res h
    unfold j_M_hasRelation_41 at h
    refine x_iload_n d_M_hasRelation_41 rfl 1 rfl ?_
    refine x_if_lt (tgt := 73) d_M_hasRelation_42 rfl (fun c13 => ?_) (fun c13 => ?_)
    · replace h := ite_t c13 h
      refine x_iconst d_M_hasRelation_73 ic_0 ?_
      obtain rfl := Option.some.inj h
      exact x_ret (r := some (.int (0 : Int32))) d_M_hasRelation_74 ⟨_, rfl, rfl⟩
    · replace h := ite_f c13 h
      refine x_aload_n d_M_hasRelation_45 rfl 0 rfl ?_
      refine y_getR d_M_hasRelation_46 fl_11_33 rfl kd_78 rr_78_15 ?_
      refine x_iload_n d_M_hasRelation_49 rfl 1 rfl ?_
      obtain ⟨g14, h⟩ := gd_inv h
      refine y_iald d_M_hasRelation_50 kd_85 g14 ?_
      refine x_bipush d_M_hasRelation_51 bp_20 ?_
      refine x_icmp_eq (tgt := 73) d_M_hasRelation_53 rfl (fun c15 => ?_) (fun c15 => ?_)
      · replace h := ite_t c15 h
        refine x_iconst d_M_hasRelation_73 ic_0 ?_
        obtain rfl := Option.some.inj h
        exact x_ret (r := some (.int (0 : Int32))) d_M_hasRelation_74 ⟨_, rfl, rfl⟩
      · replace h := ite_f c15 h
        refine x_aload_n d_M_hasRelation_56 rfl 0 rfl ?_
        refine y_getR d_M_hasRelation_57 fl_11_33 rfl kd_78 rr_78_15 ?_
        refine x_iload_n d_M_hasRelation_60 rfl 1 rfl ?_
        obtain ⟨g16, h⟩ := gd_inv h
        refine y_iald d_M_hasRelation_61 kd_85 g16 ?_
        obtain ⟨v18, q17, h⟩ := bd_inv h
        refine y_S1i (v := v18) (S1 := S) d_M_hasRelation_62 ml_11_267 (Nat.le_of_ble_eq_true rfl) (Nat.le_of_ble_eq_true rfl) (c_M_tight (by omega) q17) ?_
        refine x_iconst d_M_hasRelation_65 ic_4 ?_
        refine x_icmp_ne (tgt := 73) d_M_hasRelation_66 rfl (fun c19 => ?_) (fun c19 => ?_)
        · replace h := ite_f c19 h
          refine x_iconst d_M_hasRelation_73 ic_0 ?_
          obtain rfl := Option.some.inj h
          exact x_ret (r := some (.int (0 : Int32))) d_M_hasRelation_74 ⟨_, rfl, rfl⟩
        · replace h := ite_t c19 h
          refine x_iconst d_M_hasRelation_69 ic_1 ?_
          refine x_goto (tgt := 74) d_M_hasRelation_70 rfl ?_
          obtain rfl := Option.some.inj h
          exact x_ret (r := some (.int (1 : Int32))) d_M_hasRelation_74 ⟨_, rfl, rfl⟩
  refine x_aload_n d_M_hasRelation_0 rfl 0 rfl ?_
  refine y_getI d_M_hasRelation_1 fl_11_264 rfl kd_78 ?_
  refine x_iconst d_M_hasRelation_4 ic_1 ?_
  refine x_isub d_M_hasRelation_5 ?_
  obtain ⟨v1, e2, h⟩ := lt_inv h
  refine y_istore_n (L1 := [(0, .ref 78), (1, .int v1)]) e2 d_M_hasRelation_6 rfl (Nat.le_of_ble_eq_true rfl) rfl rfl ?_
  refine T_M_hasRelation_7 (by omega)  ?_ F v1 _ h
  · intro v12 res h
    exact J41 v12 _ h
/-! NinetyPlayersModel.formula -/
def j_M_formula_118 (F G : Nat) (k162 : St → Option (St)) (rec : Int32 → St → Option (St)) (S : St) (y1 : Int32) (y2 : Int32) : Option (St) :=
  bd (fM_tight F G S y2) fun v39 => bd (fM_close F G S v39) fun S41 => gd (inB (S41.1 78 19) 160) (lt (sI S41 85 (S41.1 78 19).toNatClampNeg y2) fun S43 => lt (sI S43 78 19 ((S43.1 78 19) + (1 : Int32))) fun S45 => bd (fM_token F G S45 ) fun S48 => bd (fM_unit F G S48 ) fun S50 => rec y1 S50)
def j_M_formula_99 (F G : Nat) (k162 : St → Option (St)) (rec : Int32 → St → Option (St)) (S : St) (y1 : Int32) (y2 : Int32) : Option (St) :=
  if y2 = 0 then rec (0 : Int32) S else bd (fM_tight F G S y2) fun v33 => if v33 = (4 : Int32) then bd (fM_hasRelation F G S) fun v36 => if v36 = 0 then j_M_formula_118 F G k162 rec  S y1 y2 else rec (0 : Int32) S else j_M_formula_118 F G k162 rec  S y1 y2
def b_M_formula_35 (F G : Nat) (k162 : St → Option (St)) (rec : Int32 → St → Option (St)) (w1 : Int32) (S : St) : Option (St) :=
  if w1 = 0 then k162 S else if (S.1 78 2) = 0 then bd (fM_sign F G S) fun v18 => if (S.1 78 6) = (41 : Int32) then bd (fM_hasBracket F G S) fun v21 => if v21 = 0 then j_M_formula_99 F G k162 rec  S w1 v18 else bd (fM_close F G S (0 : Int32)) fun S24 => lt (sI S24 78 19 ((S24.1 78 19) - (1 : Int32))) fun S25 => lt (sI S25 78 23 ((S25.1 78 23) - (1 : Int32))) fun S27 => bd (fM_token F G S27 ) fun S30 => rec w1 S30 else j_M_formula_99 F G k162 rec  S w1 v18 else k162 S
def j_M_formula_181 (F G : Nat) (S : St) : Option (St) :=
  if (S.1 78 2) = 0 then bd (fM_close F G S (0 : Int32)) fun S60 => some S60 else some S
def j_M_formula_162 (F G : Nat) (S : St) : Option (St) :=
  if (S.1 78 2) = 0 then bd (fM_hasBracket F G S) fun v54 => if v54 = 0 then j_M_formula_181 F G  S  else bd (fM_wrong F G S (2 : Int32)) fun S57 => j_M_formula_181 F G  S57  else j_M_formula_181 F G  S 
def fM_formula (F G : Nat) (S : St) : Option (St) :=
  bd (fM_token F G S ) fun S2 => lt (sI S2 78 24 (1 : Int32)) fun S3 => lt (sI S3 78 17 (0 : Int32)) fun S5 => lt (sI S5 78 19 (0 : Int32)) fun S7 => lt (sI S7 78 23 (0 : Int32)) fun S9 => lt (sI S9 78 22 (0 : Int32)) fun S11 => bd (fM_unit F G S11 ) fun S14 => fx2 (b_M_formula_35 F G  (fun S51 => j_M_formula_162 F G  S51 )) F (1 : Int32) S14
set_option maxRecDepth 100000 in
set_option maxHeartbeats 4000000 in
theorem T_M_formula_35 {X : Nat × (Nat → Int32)} {D F G : Nat} (hD : 4 ≤ D + 1) {k162 : St → Option (St)} (hk162 : ∀ (S1 : St) (res : St), k162 S1 = some res → Ek X (D + 1) mM_formula 162 [(0, .ref 78)] [] S1 none res) : ∀ (f : Nat) (w1 : Int32) (S : St) (res : St), fx2 (b_M_formula_35 F G k162 ) f w1 S = some res → Ek X (D + 1) mM_formula 35 [(0, .ref 78), (1, .int w1)] [] S none res := by
  refine fx2_ind ?_
  intro rec ih w1 S res h
  unfold b_M_formula_35 at h
  have J118 : ∀ (S : St) (y1 : Int32) (y2 : Int32) (res : St), j_M_formula_118 F G k162 rec S y1 y2 = some res → Ek X (D + 1) mM_formula 118 [(0, .ref 78), (1, .int y1), (2, .int y2)] [] S none res := by
    intro S y1 y2 res h
    unfold j_M_formula_118 at h
    refine x_aload_n d_M_formula_118 rfl 0 rfl ?_
    refine x_iload_n d_M_formula_119 rfl 2 rfl ?_
    obtain ⟨v39, q38, h⟩ := bd_inv h
    refine y_S1i (v := v39) (S1 := S) d_M_formula_120 ml_11_267 (Nat.le_of_ble_eq_true rfl) (Nat.le_of_ble_eq_true rfl) (c_M_tight (by omega) q38) ?_
    obtain ⟨S41, q40, h⟩ := bd_inv h
    refine y_V1v (S1 := S41) d_M_formula_123 ml_11_312 kd_78 rfl (Nat.le_of_ble_eq_true rfl) (Nat.le_of_ble_eq_true rfl) (c_M_close (by omega) q40) ?_
    refine x_aload_n d_M_formula_126 rfl 0 rfl ?_
    refine y_getR d_M_formula_127 fl_11_33 rfl kd_78 rr_78_15 ?_
    refine x_aload_n d_M_formula_130 rfl 0 rfl ?_
    refine y_getI d_M_formula_131 fl_11_264 rfl kd_78 ?_
    refine x_iload_n d_M_formula_134 rfl 2 rfl ?_
    obtain ⟨g42, h⟩ := gd_inv h
    obtain ⟨S43, e44, h⟩ := lt_inv h
    refine y_iast e44 d_M_formula_135 kd_85 g42 ?_
    refine x_aload_n d_M_formula_136 rfl 0 rfl ?_
    refine x_dup d_M_formula_137 rfl ?_
    refine y_getI d_M_formula_138 fl_11_264 rfl kd_78 ?_
    refine x_iconst d_M_formula_141 ic_1 ?_
    refine x_iadd d_M_formula_142 ?_
    obtain ⟨S45, e46, h⟩ := lt_inv h
    refine y_putI e46 d_M_formula_143 fl_11_264 rfl rfl kd_78 rfl rfl ?_
    refine x_aload_n d_M_formula_146 rfl 0 rfl ?_
    obtain ⟨S48, q47, h⟩ := bd_inv h
    refine y_V0v (S1 := S48) d_M_formula_147 ml_11_241 kd_78 rfl (Nat.le_of_ble_eq_true rfl) (Nat.le_of_ble_eq_true rfl) (c_M_token (by omega) q47) ?_
    refine x_aload_n d_M_formula_150 rfl 0 rfl ?_
    obtain ⟨S50, q49, h⟩ := bd_inv h
    refine y_V0v (S1 := S50) d_M_formula_151 ml_11_303 kd_78 rfl (Nat.le_of_ble_eq_true rfl) (Nat.le_of_ble_eq_true rfl) (c_M_unit (by omega) q49) ?_
    refine x_goto (tgt := 159) d_M_formula_154 rfl ?_
    refine x_goto (tgt := 35) d_M_formula_159 rfl ?_
    refine y_pick (L1 := [(0, .ref 78), (1, .int y1)]) [0, 1] rfl ?_
    exact ih y1 S50 _ h
  have J99 : ∀ (S : St) (y1 : Int32) (y2 : Int32) (res : St), j_M_formula_99 F G k162 rec S y1 y2 = some res → Ek X (D + 1) mM_formula 99 [(0, .ref 78), (1, .int y1), (2, .int y2)] [] S none res := by
    intro S y1 y2 res h
    unfold j_M_formula_99 at h
    refine x_iload_n d_M_formula_99 rfl 2 rfl ?_
    refine x_if_eq (tgt := 157) d_M_formula_100 rfl (fun c31 => ?_) (fun c31 => ?_)
    · replace h := ite_t c31 h
      refine x_iconst d_M_formula_157 ic_0 ?_
      refine x_istore_n (L1 := [(0, .ref 78), (1, .int (0 : Int32)), (2, .int y2)]) d_M_formula_158 rfl (Nat.le_of_ble_eq_true rfl) rfl rfl ?_
      refine x_goto (tgt := 35) d_M_formula_159 rfl ?_
      refine y_pick (L1 := [(0, .ref 78), (1, .int (0 : Int32))]) [0, 1] rfl ?_
      exact ih (0 : Int32) S _ h
    · replace h := ite_f c31 h
      refine x_iload_n d_M_formula_103 rfl 2 rfl ?_
      obtain ⟨v33, q32, h⟩ := bd_inv h
      refine y_S1i (v := v33) (S1 := S) d_M_formula_104 ml_11_267 (Nat.le_of_ble_eq_true rfl) (Nat.le_of_ble_eq_true rfl) (c_M_tight (by omega) q32) ?_
      refine x_iconst d_M_formula_107 ic_4 ?_
      refine x_icmp_ne (tgt := 118) d_M_formula_108 rfl (fun c34 => ?_) (fun c34 => ?_)
      · replace h := ite_f c34 h
        exact J118 S y1 y2 _ h
      · replace h := ite_t c34 h
        refine x_aload_n d_M_formula_111 rfl 0 rfl ?_
        obtain ⟨v36, q35, h⟩ := bd_inv h
        refine y_V0i (v := v36) (S1 := S) d_M_formula_112 ml_11_315 kd_78 rfl (Nat.le_of_ble_eq_true rfl) (Nat.le_of_ble_eq_true rfl) (c_M_hasRelation (by omega) q35) ?_
        refine x_if_ne (tgt := 157) d_M_formula_115 rfl (fun c37 => ?_) (fun c37 => ?_)
        · replace h := ite_f c37 h
          refine x_iconst d_M_formula_157 ic_0 ?_
          refine x_istore_n (L1 := [(0, .ref 78), (1, .int (0 : Int32)), (2, .int y2)]) d_M_formula_158 rfl (Nat.le_of_ble_eq_true rfl) rfl rfl ?_
          refine x_goto (tgt := 35) d_M_formula_159 rfl ?_
          refine y_pick (L1 := [(0, .ref 78), (1, .int (0 : Int32))]) [0, 1] rfl ?_
          exact ih (0 : Int32) S _ h
        · replace h := ite_t c37 h
          exact J118 S y1 y2 _ h
  refine x_iload_n d_M_formula_35 rfl 1 rfl ?_
  refine x_if_eq (tgt := 162) d_M_formula_36 rfl (fun c15 => ?_) (fun c15 => ?_)
  · replace h := ite_t c15 h
    refine y_pick (L1 := [(0, .ref 78)]) [0] rfl ?_
    exact hk162 S _ h
  · replace h := ite_f c15 h
    refine x_aload_n d_M_formula_39 rfl 0 rfl ?_
    refine y_getI d_M_formula_40 fl_11_185 rfl kd_78 ?_
    refine x_if_ne (tgt := 162) d_M_formula_43 rfl (fun c16 => ?_) (fun c16 => ?_)
    · replace h := ite_f c16 h
      refine y_pick (L1 := [(0, .ref 78)]) [0] rfl ?_
      exact hk162 S _ h
    · replace h := ite_t c16 h
      refine x_aload_n d_M_formula_46 rfl 0 rfl ?_
      obtain ⟨v18, q17, h⟩ := bd_inv h
      refine y_V0i (v := v18) (S1 := S) d_M_formula_47 ml_11_306 kd_78 rfl (Nat.le_of_ble_eq_true rfl) (Nat.le_of_ble_eq_true rfl) (c_M_sign (by omega) q17) ?_
      refine x_istore_n (L1 := [(0, .ref 78), (1, .int w1), (2, .int v18)]) d_M_formula_50 rfl (Nat.le_of_ble_eq_true rfl) rfl rfl ?_
      refine x_aload_n d_M_formula_51 rfl 0 rfl ?_
      refine y_getI d_M_formula_52 fl_11_172 rfl kd_78 ?_
      refine x_bipush d_M_formula_55 bp_41 ?_
      refine x_icmp_ne (tgt := 99) d_M_formula_57 rfl (fun c19 => ?_) (fun c19 => ?_)
      · replace h := ite_f c19 h
        exact J99 S w1 v18 _ h
      · replace h := ite_t c19 h
        refine x_aload_n d_M_formula_60 rfl 0 rfl ?_
        obtain ⟨v21, q20, h⟩ := bd_inv h
        refine y_V0i (v := v21) (S1 := S) d_M_formula_61 ml_11_309 kd_78 rfl (Nat.le_of_ble_eq_true rfl) (Nat.le_of_ble_eq_true rfl) (c_M_hasBracket (by omega) q20) ?_
        refine x_if_eq (tgt := 99) d_M_formula_64 rfl (fun c22 => ?_) (fun c22 => ?_)
        · replace h := ite_t c22 h
          exact J99 S w1 v18 _ h
        · replace h := ite_f c22 h
          refine x_aload_n d_M_formula_67 rfl 0 rfl ?_
          refine x_iconst d_M_formula_68 ic_0 ?_
          obtain ⟨S24, q23, h⟩ := bd_inv h
          refine y_V1v (S1 := S24) d_M_formula_69 ml_11_312 kd_78 rfl (Nat.le_of_ble_eq_true rfl) (Nat.le_of_ble_eq_true rfl) (c_M_close (by omega) q23) ?_
          refine x_aload_n d_M_formula_72 rfl 0 rfl ?_
          refine x_dup d_M_formula_73 rfl ?_
          refine y_getI d_M_formula_74 fl_11_264 rfl kd_78 ?_
          refine x_iconst d_M_formula_77 ic_1 ?_
          refine x_isub d_M_formula_78 ?_
          obtain ⟨S25, e26, h⟩ := lt_inv h
          refine y_putI e26 d_M_formula_79 fl_11_264 rfl rfl kd_78 rfl rfl ?_
          refine x_aload_n d_M_formula_82 rfl 0 rfl ?_
          refine x_dup d_M_formula_83 rfl ?_
          refine y_getI d_M_formula_84 fl_11_274 rfl kd_78 ?_
          refine x_iconst d_M_formula_87 ic_1 ?_
          refine x_isub d_M_formula_88 ?_
          obtain ⟨S27, e28, h⟩ := lt_inv h
          refine y_putI e28 d_M_formula_89 fl_11_274 rfl rfl kd_78 rfl rfl ?_
          refine x_aload_n d_M_formula_92 rfl 0 rfl ?_
          obtain ⟨S30, q29, h⟩ := bd_inv h
          refine y_V0v (S1 := S30) d_M_formula_93 ml_11_241 kd_78 rfl (Nat.le_of_ble_eq_true rfl) (Nat.le_of_ble_eq_true rfl) (c_M_token (by omega) q29) ?_
          refine x_goto (tgt := 159) d_M_formula_96 rfl ?_
          refine x_goto (tgt := 35) d_M_formula_159 rfl ?_
          refine y_pick (L1 := [(0, .ref 78), (1, .int w1)]) [0, 1] rfl ?_
          exact ih w1 S30 _ h
set_option maxRecDepth 100000 in
set_option maxHeartbeats 4000000 in
theorem c_M_formula {X : Nat × (Nat → Int32)} {D F G : Nat} (hD : 4 ≤ D) {S : St} {res : St} (h : fM_formula F G S  = some res) : Ek X (D) mM_formula 0 [(0, .ref 78)] [] S none res := by
  obtain ⟨D, rfl⟩ : ∃ E, D = E + 1 := ⟨D - 1, by omega⟩
  unfold fM_formula at h
  have J181 : ∀ (S : St) (res : St), j_M_formula_181 F G S  = some res → Ek X (D + 1) mM_formula 181 [(0, .ref 78)] [] S none res := by
    intro S  res h
    unfold j_M_formula_181 at h
    refine x_aload_n d_M_formula_181 rfl 0 rfl ?_
    refine y_getI d_M_formula_182 fl_11_185 rfl kd_78 ?_
    refine x_if_ne (tgt := 193) d_M_formula_185 rfl (fun c58 => ?_) (fun c58 => ?_)
    · replace h := ite_f c58 h
      obtain rfl := Option.some.inj h
      exact x_ret (r := none) d_M_formula_193 rfl
    · replace h := ite_t c58 h
      refine x_aload_n d_M_formula_188 rfl 0 rfl ?_
      refine x_iconst d_M_formula_189 ic_0 ?_
      obtain ⟨S60, q59, h⟩ := bd_inv h
      refine y_V1v (S1 := S60) d_M_formula_190 ml_11_312 kd_78 rfl (Nat.le_of_ble_eq_true rfl) (Nat.le_of_ble_eq_true rfl) (c_M_close (by omega) q59) ?_
      obtain rfl := Option.some.inj h
      exact x_ret (r := none) d_M_formula_193 rfl
  have J162 : ∀ (S : St) (res : St), j_M_formula_162 F G S  = some res → Ek X (D + 1) mM_formula 162 [(0, .ref 78)] [] S none res := by
    intro S  res h
    unfold j_M_formula_162 at h
    refine x_aload_n d_M_formula_162 rfl 0 rfl ?_
    refine y_getI d_M_formula_163 fl_11_185 rfl kd_78 ?_
    refine x_if_ne (tgt := 181) d_M_formula_166 rfl (fun c52 => ?_) (fun c52 => ?_)
    · replace h := ite_f c52 h
      exact J181 S  _ h
    · replace h := ite_t c52 h
      refine x_aload_n d_M_formula_169 rfl 0 rfl ?_
      obtain ⟨v54, q53, h⟩ := bd_inv h
      refine y_V0i (v := v54) (S1 := S) d_M_formula_170 ml_11_309 kd_78 rfl (Nat.le_of_ble_eq_true rfl) (Nat.le_of_ble_eq_true rfl) (c_M_hasBracket (by omega) q53) ?_
      refine x_if_eq (tgt := 181) d_M_formula_173 rfl (fun c55 => ?_) (fun c55 => ?_)
      · replace h := ite_t c55 h
        exact J181 S  _ h
      · replace h := ite_f c55 h
        refine x_aload_n d_M_formula_176 rfl 0 rfl ?_
        refine x_iconst d_M_formula_177 ic_2 ?_
        obtain ⟨S57, q56, h⟩ := bd_inv h
        refine y_V1v (S1 := S57) d_M_formula_178 ml_11_238 kd_78 rfl (Nat.le_of_ble_eq_true rfl) (Nat.le_of_ble_eq_true rfl) (c_M_wrong (by omega) q56) ?_
        exact J181 S57  _ h
  refine x_aload_n d_M_formula_0 rfl 0 rfl ?_
  obtain ⟨S2, q1, h⟩ := bd_inv h
  refine y_V0v (S1 := S2) d_M_formula_1 ml_11_241 kd_78 rfl (Nat.le_of_ble_eq_true rfl) (Nat.le_of_ble_eq_true rfl) (c_M_token (by omega) q1) ?_
  refine x_aload_n d_M_formula_4 rfl 0 rfl ?_
  refine x_iconst d_M_formula_5 ic_1 ?_
  obtain ⟨S3, e4, h⟩ := lt_inv h
  refine y_putI e4 d_M_formula_6 fl_11_299 rfl rfl kd_78 rfl rfl ?_
  refine x_aload_n d_M_formula_9 rfl 0 rfl ?_
  refine x_iconst d_M_formula_10 ic_0 ?_
  obtain ⟨S5, e6, h⟩ := lt_inv h
  refine y_putI e6 d_M_formula_11 fl_11_261 rfl rfl kd_78 rfl rfl ?_
  refine x_aload_n d_M_formula_14 rfl 0 rfl ?_
  refine x_iconst d_M_formula_15 ic_0 ?_
  obtain ⟨S7, e8, h⟩ := lt_inv h
  refine y_putI e8 d_M_formula_16 fl_11_264 rfl rfl kd_78 rfl rfl ?_
  refine x_aload_n d_M_formula_19 rfl 0 rfl ?_
  refine x_iconst d_M_formula_20 ic_0 ?_
  obtain ⟨S9, e10, h⟩ := lt_inv h
  refine y_putI e10 d_M_formula_21 fl_11_274 rfl rfl kd_78 rfl rfl ?_
  refine x_aload_n d_M_formula_24 rfl 0 rfl ?_
  refine x_iconst d_M_formula_25 ic_0 ?_
  obtain ⟨S11, e12, h⟩ := lt_inv h
  refine y_putI e12 d_M_formula_26 fl_11_280 rfl rfl kd_78 rfl rfl ?_
  refine x_aload_n d_M_formula_29 rfl 0 rfl ?_
  obtain ⟨S14, q13, h⟩ := bd_inv h
  refine y_V0v (S1 := S14) d_M_formula_30 ml_11_303 kd_78 rfl (Nat.le_of_ble_eq_true rfl) (Nat.le_of_ble_eq_true rfl) (c_M_unit (by omega) q13) ?_
  refine x_iconst d_M_formula_33 ic_1 ?_
  refine x_istore_n (L1 := [(0, .ref 78), (1, .int (1 : Int32))]) d_M_formula_34 rfl (Nat.le_of_ble_eq_true rfl) rfl rfl ?_
  refine T_M_formula_35 (by omega)  ?_ F (1 : Int32) S14 _ h
  · intro S51 res h
    exact J162 S51  _ h
/-! NinetyPlayersModel.readLine -/
def j_M_readLine_295 (F G : Nat) (S : St) : Option (St) :=
  if (S.1 78 2) = 0 then bd (fM_token F G S ) fun S82 => some S82 else some S
def j_M_readLine_269 (F G : Nat) (S : St) : Option (St) :=
  lt (sI S 78 53 (1 : Int32)) fun S74 => if (S74.1 78 2) = 0 then if (S74.1 78 6) = (59 : Int32) then j_M_readLine_295 F G  S74  else bd (fM_wrong F G S74 (2 : Int32)) fun S79 => j_M_readLine_295 F G  S79  else j_M_readLine_295 F G  S74 
def j_M_readLine_264 (F G : Nat) (S : St) : Option (St) :=
  bd (fM_wrong F G S (2 : Int32)) fun S73 => j_M_readLine_269 F G  S73 
def j_M_readLine_225 (F G : Nat) (S : St) : Option (St) :=
  bd (fM_isWord F G S (6644082 : Int64)) fun v62 => if v62 = 0 then j_M_readLine_264 F G  S  else if (S.1 78 57) = 0 then lt (sI S 78 57 (1 : Int32)) fun S65 => bd2 (fM_told F G S65 (6644082 : Int64) (0 : Int32) (9 : Int32)) fun v68 S69 => lt (sI S69 78 45 v68) fun S70 => j_M_readLine_269 F G  S70  else j_M_readLine_264 F G  S 
def j_M_readLine_186 (F G : Nat) (S : St) : Option (St) :=
  bd (fM_isWord F G S (1818583408 : Int64)) fun v51 => if v51 = 0 then j_M_readLine_225 F G  S  else if (S.1 78 56) = 0 then lt (sI S 78 56 (1 : Int32)) fun S54 => bd2 (fM_told F G S54 (1818583408 : Int64) (0 : Int32) (87 : Int32)) fun v57 S58 => lt (sI S58 78 44 v57) fun S59 => j_M_readLine_269 F G  S59  else j_M_readLine_225 F G  S 
def j_M_readLine_148 (F G : Nat) (S : St) : Option (St) :=
  bd (fM_isWord F G S (28826370526507635 : Int64)) fun v40 => if v40 = 0 then j_M_readLine_186 F G  S  else if (S.1 78 55) = 0 then lt (sI S 78 55 (1 : Int32)) fun S43 => bd2 (fM_told F G S43 (28826370526507635 : Int64) (1 : Int32) (5 : Int32)) fun v46 S47 => lt (sI S47 78 43 v46) fun S48 => j_M_readLine_269 F G  S48  else j_M_readLine_186 F G  S 
def j_M_readLine_109 (F G : Nat) (S : St) : Option (St) :=
  bd (fM_isWord F G S (1936744814 : Int64)) fun v29 => if v29 = 0 then j_M_readLine_148 F G  S  else if (S.1 78 54) = 0 then lt (sI S 78 54 (1 : Int32)) fun S32 => bd2 (fM_told F G S32 (1936744814 : Int64) (0 : Int32) (87 : Int32)) fun v35 S36 => lt (sI S36 78 42 v35) fun S37 => j_M_readLine_269 F G  S37  else j_M_readLine_148 F G  S 
def j_M_readLine_85 (F G : Nat) (S : St) : Option (St) :=
  bd (fM_isWord F G S (120299675936100 : Int64)) fun v23 => if v23 = 0 then j_M_readLine_109 F G  S  else if (S.1 78 24) = 0 then bd (fM_formula F G S ) fun S27 => j_M_readLine_269 F G  S27  else j_M_readLine_109 F G  S 
def j_M_readLine_59 (F G : Nat) (S : St) : Option (St) :=
  bd (fM_isWord F G S (1852798053 : Int64)) fun v17 => if v17 = 0 then j_M_readLine_85 F G  S  else if (10 : Int32) ≤ (S.1 78 41) then j_M_readLine_85 F G  S  else bd (fM_readNote F G S ) fun S21 => j_M_readLine_269 F G  S21 
def j_M_readLine_34 (F G : Nat) (S : St) : Option (St) :=
  bd (fM_isWord F G S (1885434484 : Int64)) fun v11 => if v11 = 0 then j_M_readLine_59 F G  S  else if (4 : Int32) ≤ (S.1 78 40) then j_M_readLine_59 F G  S  else bd (fM_readPart F G S ) fun S15 => j_M_readLine_269 F G  S15 
def fM_readLine (F G : Nat) (S : St) : Option (St) :=
  bd (fM_isWord F G S (422607680627 : Int64)) fun v2 => if v2 = 0 then j_M_readLine_34 F G  S  else if (S.1 78 53) = 0 then bd2 (fM_told F G S (422607680627 : Int64) (1 : Int32) (12 : Int32)) fun v6 S7 => lt (sI S7 78 39 v6) fun S8 => j_M_readLine_269 F G  S8  else j_M_readLine_34 F G  S 
set_option maxRecDepth 100000 in
set_option maxHeartbeats 4000000 in
theorem c_M_readLine {X : Nat × (Nat → Int32)} {D F G : Nat} (hD : 5 ≤ D) {S : St} {res : St} (h : fM_readLine F G S  = some res) : Ek X (D) mM_readLine 0 [(0, .ref 78)] [] S none res := by
  obtain ⟨D, rfl⟩ : ∃ E, D = E + 1 := ⟨D - 1, by omega⟩
  unfold fM_readLine at h
  have J295 : ∀ (S : St) (res : St), j_M_readLine_295 F G S  = some res → Ek X (D + 1) mM_readLine 295 [(0, .ref 78)] [] S none res := by
    intro S  res h
    unfold j_M_readLine_295 at h
    refine x_aload_n d_M_readLine_295 rfl 0 rfl ?_
    refine y_getI d_M_readLine_296 fl_11_185 rfl kd_78 ?_
    refine x_if_ne (tgt := 306) d_M_readLine_299 rfl (fun c80 => ?_) (fun c80 => ?_)
    · replace h := ite_f c80 h
      obtain rfl := Option.some.inj h
      exact x_ret (r := none) d_M_readLine_306 rfl
    · replace h := ite_t c80 h
      refine x_aload_n d_M_readLine_302 rfl 0 rfl ?_
      obtain ⟨S82, q81, h⟩ := bd_inv h
      refine y_V0v (S1 := S82) d_M_readLine_303 ml_11_241 kd_78 rfl (Nat.le_of_ble_eq_true rfl) (Nat.le_of_ble_eq_true rfl) (c_M_token (by omega) q81) ?_
      obtain rfl := Option.some.inj h
      exact x_ret (r := none) d_M_readLine_306 rfl
  have J269 : ∀ (S : St) (res : St), j_M_readLine_269 F G S  = some res → Ek X (D + 1) mM_readLine 269 [(0, .ref 78)] [] S none res := by
    intro S  res h
    unfold j_M_readLine_269 at h
    refine x_aload_n d_M_readLine_269 rfl 0 rfl ?_
    refine x_iconst d_M_readLine_270 ic_1 ?_
    obtain ⟨S74, e75, h⟩ := lt_inv h
    refine y_putI e75 d_M_readLine_271 fl_11_363 rfl rfl kd_78 rfl rfl ?_
    refine x_aload_n d_M_readLine_274 rfl 0 rfl ?_
    refine y_getI d_M_readLine_275 fl_11_185 rfl kd_78 ?_
    refine x_if_ne (tgt := 295) d_M_readLine_278 rfl (fun c76 => ?_) (fun c76 => ?_)
    · replace h := ite_f c76 h
      exact J295 S74  _ h
    · replace h := ite_t c76 h
      refine x_aload_n d_M_readLine_281 rfl 0 rfl ?_
      refine y_getI d_M_readLine_282 fl_11_172 rfl kd_78 ?_
      refine x_bipush d_M_readLine_285 bp_59 ?_
      refine x_icmp_eq (tgt := 295) d_M_readLine_287 rfl (fun c77 => ?_) (fun c77 => ?_)
      · replace h := ite_t c77 h
        exact J295 S74  _ h
      · replace h := ite_f c77 h
        refine x_aload_n d_M_readLine_290 rfl 0 rfl ?_
        refine x_iconst d_M_readLine_291 ic_2 ?_
        obtain ⟨S79, q78, h⟩ := bd_inv h
        refine y_V1v (S1 := S79) d_M_readLine_292 ml_11_238 kd_78 rfl (Nat.le_of_ble_eq_true rfl) (Nat.le_of_ble_eq_true rfl) (c_M_wrong (by omega) q78) ?_
        exact J295 S79  _ h
  have J264 : ∀ (S : St) (res : St), j_M_readLine_264 F G S  = some res → Ek X (D + 1) mM_readLine 264 [(0, .ref 78)] [] S none res := by
    intro S  res h
    unfold j_M_readLine_264 at h
    refine x_aload_n d_M_readLine_264 rfl 0 rfl ?_
    refine x_iconst d_M_readLine_265 ic_2 ?_
    obtain ⟨S73, q72, h⟩ := bd_inv h
    refine y_V1v (S1 := S73) d_M_readLine_266 ml_11_238 kd_78 rfl (Nat.le_of_ble_eq_true rfl) (Nat.le_of_ble_eq_true rfl) (c_M_wrong (by omega) q72) ?_
    exact J269 S73  _ h
  have J225 : ∀ (S : St) (res : St), j_M_readLine_225 F G S  = some res → Ek X (D + 1) mM_readLine 225 [(0, .ref 78)] [] S none res := by
    intro S  res h
    unfold j_M_readLine_225 at h
    refine x_aload_n d_M_readLine_225 rfl 0 rfl ?_
    refine x_ldc2 d_M_readLine_226 kc_11_216 ?_
    obtain ⟨v62, q61, h⟩ := bd_inv h
    refine y_V1i (v := v62) (S1 := S) d_M_readLine_229 ml_11_234 kd_78 rfl (Nat.le_of_ble_eq_true rfl) (Nat.le_of_ble_eq_true rfl) (c_M_isWord (by omega) q61) ?_
    refine x_if_eq (tgt := 264) d_M_readLine_232 rfl (fun c63 => ?_) (fun c63 => ?_)
    · replace h := ite_t c63 h
      exact J264 S  _ h
    · replace h := ite_f c63 h
      refine x_aload_n d_M_readLine_235 rfl 0 rfl ?_
      refine y_getI d_M_readLine_236 fl_11_393 rfl kd_78 ?_
      refine x_if_ne (tgt := 264) d_M_readLine_239 rfl (fun c64 => ?_) (fun c64 => ?_)
      · replace h := ite_f c64 h
        exact J264 S  _ h
      · replace h := ite_t c64 h
        refine x_aload_n d_M_readLine_242 rfl 0 rfl ?_
        refine x_iconst d_M_readLine_243 ic_1 ?_
        obtain ⟨S65, e66, h⟩ := lt_inv h
        refine y_putI e66 d_M_readLine_244 fl_11_393 rfl rfl kd_78 rfl rfl ?_
        refine x_aload_n d_M_readLine_247 rfl 0 rfl ?_
        refine x_aload_n d_M_readLine_248 rfl 0 rfl ?_
        refine x_ldc2 d_M_readLine_249 kc_11_216 ?_
        refine x_iconst d_M_readLine_252 ic_0 ?_
        refine x_bipush d_M_readLine_253 bp_9 ?_
        obtain ⟨v68, S69, q67, h⟩ := bd2_inv h
        refine y_V3i (v := v68) (S1 := S69) d_M_readLine_255 ml_11_359 kd_78 rfl (Nat.le_of_ble_eq_true rfl) (Nat.le_of_ble_eq_true rfl) (c_M_told (by omega) q67) ?_
        obtain ⟨S70, e71, h⟩ := lt_inv h
        refine y_putI e71 d_M_readLine_258 fl_11_396 rfl rfl kd_78 rfl rfl ?_
        refine x_goto (tgt := 269) d_M_readLine_261 rfl ?_
        exact J269 S70  _ h
  have J186 : ∀ (S : St) (res : St), j_M_readLine_186 F G S  = some res → Ek X (D + 1) mM_readLine 186 [(0, .ref 78)] [] S none res := by
    intro S  res h
    unfold j_M_readLine_186 at h
    refine x_aload_n d_M_readLine_186 rfl 0 rfl ?_
    refine x_ldc2 d_M_readLine_187 kc_11_214 ?_
    obtain ⟨v51, q50, h⟩ := bd_inv h
    refine y_V1i (v := v51) (S1 := S) d_M_readLine_190 ml_11_234 kd_78 rfl (Nat.le_of_ble_eq_true rfl) (Nat.le_of_ble_eq_true rfl) (c_M_isWord (by omega) q50) ?_
    refine x_if_eq (tgt := 225) d_M_readLine_193 rfl (fun c52 => ?_) (fun c52 => ?_)
    · replace h := ite_t c52 h
      exact J225 S  _ h
    · replace h := ite_f c52 h
      refine x_aload_n d_M_readLine_196 rfl 0 rfl ?_
      refine y_getI d_M_readLine_197 fl_11_387 rfl kd_78 ?_
      refine x_if_ne (tgt := 225) d_M_readLine_200 rfl (fun c53 => ?_) (fun c53 => ?_)
      · replace h := ite_f c53 h
        exact J225 S  _ h
      · replace h := ite_t c53 h
        refine x_aload_n d_M_readLine_203 rfl 0 rfl ?_
        refine x_iconst d_M_readLine_204 ic_1 ?_
        obtain ⟨S54, e55, h⟩ := lt_inv h
        refine y_putI e55 d_M_readLine_205 fl_11_387 rfl rfl kd_78 rfl rfl ?_
        refine x_aload_n d_M_readLine_208 rfl 0 rfl ?_
        refine x_aload_n d_M_readLine_209 rfl 0 rfl ?_
        refine x_ldc2 d_M_readLine_210 kc_11_214 ?_
        refine x_iconst d_M_readLine_213 ic_0 ?_
        refine x_bipush d_M_readLine_214 bp_87 ?_
        obtain ⟨v57, S58, q56, h⟩ := bd2_inv h
        refine y_V3i (v := v57) (S1 := S58) d_M_readLine_216 ml_11_359 kd_78 rfl (Nat.le_of_ble_eq_true rfl) (Nat.le_of_ble_eq_true rfl) (c_M_told (by omega) q56) ?_
        obtain ⟨S59, e60, h⟩ := lt_inv h
        refine y_putI e60 d_M_readLine_219 fl_11_390 rfl rfl kd_78 rfl rfl ?_
        refine x_goto (tgt := 269) d_M_readLine_222 rfl ?_
        exact J269 S59  _ h
  have J148 : ∀ (S : St) (res : St), j_M_readLine_148 F G S  = some res → Ek X (D + 1) mM_readLine 148 [(0, .ref 78)] [] S none res := by
    intro S  res h
    unfold j_M_readLine_148 at h
    refine x_aload_n d_M_readLine_148 rfl 0 rfl ?_
    refine x_ldc2 d_M_readLine_149 kc_11_212 ?_
    obtain ⟨v40, q39, h⟩ := bd_inv h
    refine y_V1i (v := v40) (S1 := S) d_M_readLine_152 ml_11_234 kd_78 rfl (Nat.le_of_ble_eq_true rfl) (Nat.le_of_ble_eq_true rfl) (c_M_isWord (by omega) q39) ?_
    refine x_if_eq (tgt := 186) d_M_readLine_155 rfl (fun c41 => ?_) (fun c41 => ?_)
    · replace h := ite_t c41 h
      exact J186 S  _ h
    · replace h := ite_f c41 h
      refine x_aload_n d_M_readLine_158 rfl 0 rfl ?_
      refine y_getI d_M_readLine_159 fl_11_381 rfl kd_78 ?_
      refine x_if_ne (tgt := 186) d_M_readLine_162 rfl (fun c42 => ?_) (fun c42 => ?_)
      · replace h := ite_f c42 h
        exact J186 S  _ h
      · replace h := ite_t c42 h
        refine x_aload_n d_M_readLine_165 rfl 0 rfl ?_
        refine x_iconst d_M_readLine_166 ic_1 ?_
        obtain ⟨S43, e44, h⟩ := lt_inv h
        refine y_putI e44 d_M_readLine_167 fl_11_381 rfl rfl kd_78 rfl rfl ?_
        refine x_aload_n d_M_readLine_170 rfl 0 rfl ?_
        refine x_aload_n d_M_readLine_171 rfl 0 rfl ?_
        refine x_ldc2 d_M_readLine_172 kc_11_212 ?_
        refine x_iconst d_M_readLine_175 ic_1 ?_
        refine x_iconst d_M_readLine_176 ic_5 ?_
        obtain ⟨v46, S47, q45, h⟩ := bd2_inv h
        refine y_V3i (v := v46) (S1 := S47) d_M_readLine_177 ml_11_359 kd_78 rfl (Nat.le_of_ble_eq_true rfl) (Nat.le_of_ble_eq_true rfl) (c_M_told (by omega) q45) ?_
        obtain ⟨S48, e49, h⟩ := lt_inv h
        refine y_putI e49 d_M_readLine_180 fl_11_384 rfl rfl kd_78 rfl rfl ?_
        refine x_goto (tgt := 269) d_M_readLine_183 rfl ?_
        exact J269 S48  _ h
  have J109 : ∀ (S : St) (res : St), j_M_readLine_109 F G S  = some res → Ek X (D + 1) mM_readLine 109 [(0, .ref 78)] [] S none res := by
    intro S  res h
    unfold j_M_readLine_109 at h
    refine x_aload_n d_M_readLine_109 rfl 0 rfl ?_
    refine x_ldc2 d_M_readLine_110 kc_11_210 ?_
    obtain ⟨v29, q28, h⟩ := bd_inv h
    refine y_V1i (v := v29) (S1 := S) d_M_readLine_113 ml_11_234 kd_78 rfl (Nat.le_of_ble_eq_true rfl) (Nat.le_of_ble_eq_true rfl) (c_M_isWord (by omega) q28) ?_
    refine x_if_eq (tgt := 148) d_M_readLine_116 rfl (fun c30 => ?_) (fun c30 => ?_)
    · replace h := ite_t c30 h
      exact J148 S  _ h
    · replace h := ite_f c30 h
      refine x_aload_n d_M_readLine_119 rfl 0 rfl ?_
      refine y_getI d_M_readLine_120 fl_11_375 rfl kd_78 ?_
      refine x_if_ne (tgt := 148) d_M_readLine_123 rfl (fun c31 => ?_) (fun c31 => ?_)
      · replace h := ite_f c31 h
        exact J148 S  _ h
      · replace h := ite_t c31 h
        refine x_aload_n d_M_readLine_126 rfl 0 rfl ?_
        refine x_iconst d_M_readLine_127 ic_1 ?_
        obtain ⟨S32, e33, h⟩ := lt_inv h
        refine y_putI e33 d_M_readLine_128 fl_11_375 rfl rfl kd_78 rfl rfl ?_
        refine x_aload_n d_M_readLine_131 rfl 0 rfl ?_
        refine x_aload_n d_M_readLine_132 rfl 0 rfl ?_
        refine x_ldc2 d_M_readLine_133 kc_11_210 ?_
        refine x_iconst d_M_readLine_136 ic_0 ?_
        refine x_bipush d_M_readLine_137 bp_87 ?_
        obtain ⟨v35, S36, q34, h⟩ := bd2_inv h
        refine y_V3i (v := v35) (S1 := S36) d_M_readLine_139 ml_11_359 kd_78 rfl (Nat.le_of_ble_eq_true rfl) (Nat.le_of_ble_eq_true rfl) (c_M_told (by omega) q34) ?_
        obtain ⟨S37, e38, h⟩ := lt_inv h
        refine y_putI e38 d_M_readLine_142 fl_11_378 rfl rfl kd_78 rfl rfl ?_
        refine x_goto (tgt := 269) d_M_readLine_145 rfl ?_
        exact J269 S37  _ h
  have J85 : ∀ (S : St) (res : St), j_M_readLine_85 F G S  = some res → Ek X (D + 1) mM_readLine 85 [(0, .ref 78)] [] S none res := by
    intro S  res h
    unfold j_M_readLine_85 at h
    refine x_aload_n d_M_readLine_85 rfl 0 rfl ?_
    refine x_ldc2 d_M_readLine_86 kc_11_208 ?_
    obtain ⟨v23, q22, h⟩ := bd_inv h
    refine y_V1i (v := v23) (S1 := S) d_M_readLine_89 ml_11_234 kd_78 rfl (Nat.le_of_ble_eq_true rfl) (Nat.le_of_ble_eq_true rfl) (c_M_isWord (by omega) q22) ?_
    refine x_if_eq (tgt := 109) d_M_readLine_92 rfl (fun c24 => ?_) (fun c24 => ?_)
    · replace h := ite_t c24 h
      exact J109 S  _ h
    · replace h := ite_f c24 h
      refine x_aload_n d_M_readLine_95 rfl 0 rfl ?_
      refine y_getI d_M_readLine_96 fl_11_299 rfl kd_78 ?_
      refine x_if_ne (tgt := 109) d_M_readLine_99 rfl (fun c25 => ?_) (fun c25 => ?_)
      · replace h := ite_f c25 h
        exact J109 S  _ h
      · replace h := ite_t c25 h
        refine x_aload_n d_M_readLine_102 rfl 0 rfl ?_
        obtain ⟨S27, q26, h⟩ := bd_inv h
        refine y_V0v (S1 := S27) d_M_readLine_103 ml_11_372 kd_78 rfl (Nat.le_of_ble_eq_true rfl) (Nat.le_of_ble_eq_true rfl) (c_M_formula (by omega) q26) ?_
        refine x_goto (tgt := 269) d_M_readLine_106 rfl ?_
        exact J269 S27  _ h
  have J59 : ∀ (S : St) (res : St), j_M_readLine_59 F G S  = some res → Ek X (D + 1) mM_readLine 59 [(0, .ref 78)] [] S none res := by
    intro S  res h
    unfold j_M_readLine_59 at h
    refine x_aload_n d_M_readLine_59 rfl 0 rfl ?_
    refine x_ldc2 d_M_readLine_60 kc_11_196 ?_
    obtain ⟨v17, q16, h⟩ := bd_inv h
    refine y_V1i (v := v17) (S1 := S) d_M_readLine_63 ml_11_234 kd_78 rfl (Nat.le_of_ble_eq_true rfl) (Nat.le_of_ble_eq_true rfl) (c_M_isWord (by omega) q16) ?_
    refine x_if_eq (tgt := 85) d_M_readLine_66 rfl (fun c18 => ?_) (fun c18 => ?_)
    · replace h := ite_t c18 h
      exact J85 S  _ h
    · replace h := ite_f c18 h
      refine x_aload_n d_M_readLine_69 rfl 0 rfl ?_
      refine y_getI d_M_readLine_70 fl_11_350 rfl kd_78 ?_
      refine x_bipush d_M_readLine_73 bp_10 ?_
      refine x_icmp_ge (tgt := 85) d_M_readLine_75 rfl (fun c19 => ?_) (fun c19 => ?_)
      · replace h := ite_t c19 h
        exact J85 S  _ h
      · replace h := ite_f c19 h
        refine x_aload_n d_M_readLine_78 rfl 0 rfl ?_
        obtain ⟨S21, q20, h⟩ := bd_inv h
        refine y_V0v (S1 := S21) d_M_readLine_79 ml_11_369 kd_78 rfl (Nat.le_of_ble_eq_true rfl) (Nat.le_of_ble_eq_true rfl) (c_M_readNote (by omega) q20) ?_
        refine x_goto (tgt := 269) d_M_readLine_82 rfl ?_
        exact J269 S21  _ h
  have J34 : ∀ (S : St) (res : St), j_M_readLine_34 F G S  = some res → Ek X (D + 1) mM_readLine 34 [(0, .ref 78)] [] S none res := by
    intro S  res h
    unfold j_M_readLine_34 at h
    refine x_aload_n d_M_readLine_34 rfl 0 rfl ?_
    refine x_ldc2 d_M_readLine_35 kc_11_190 ?_
    obtain ⟨v11, q10, h⟩ := bd_inv h
    refine y_V1i (v := v11) (S1 := S) d_M_readLine_38 ml_11_234 kd_78 rfl (Nat.le_of_ble_eq_true rfl) (Nat.le_of_ble_eq_true rfl) (c_M_isWord (by omega) q10) ?_
    refine x_if_eq (tgt := 59) d_M_readLine_41 rfl (fun c12 => ?_) (fun c12 => ?_)
    · replace h := ite_t c12 h
      exact J59 S  _ h
    · replace h := ite_f c12 h
      refine x_aload_n d_M_readLine_44 rfl 0 rfl ?_
      refine y_getI d_M_readLine_45 fl_11_258 rfl kd_78 ?_
      refine x_iconst d_M_readLine_48 ic_4 ?_
      refine x_icmp_ge (tgt := 59) d_M_readLine_49 rfl (fun c13 => ?_) (fun c13 => ?_)
      · replace h := ite_t c13 h
        exact J59 S  _ h
      · replace h := ite_f c13 h
        refine x_aload_n d_M_readLine_52 rfl 0 rfl ?_
        obtain ⟨S15, q14, h⟩ := bd_inv h
        refine y_V0v (S1 := S15) d_M_readLine_53 ml_11_366 kd_78 rfl (Nat.le_of_ble_eq_true rfl) (Nat.le_of_ble_eq_true rfl) (c_M_readPart (by omega) q14) ?_
        refine x_goto (tgt := 269) d_M_readLine_56 rfl ?_
        exact J269 S15  _ h
  refine x_aload_n d_M_readLine_0 rfl 0 rfl ?_
  refine x_ldc2 d_M_readLine_1 kc_11_188 ?_
  obtain ⟨v2, q1, h⟩ := bd_inv h
  refine y_V1i (v := v2) (S1 := S) d_M_readLine_4 ml_11_234 kd_78 rfl (Nat.le_of_ble_eq_true rfl) (Nat.le_of_ble_eq_true rfl) (c_M_isWord (by omega) q1) ?_
  refine x_if_eq (tgt := 34) d_M_readLine_7 rfl (fun c3 => ?_) (fun c3 => ?_)
  · replace h := ite_t c3 h
    exact J34 S  _ h
  · replace h := ite_f c3 h
    refine x_aload_n d_M_readLine_10 rfl 0 rfl ?_
    refine y_getI d_M_readLine_11 fl_11_363 rfl kd_78 ?_
    refine x_if_ne (tgt := 34) d_M_readLine_14 rfl (fun c4 => ?_) (fun c4 => ?_)
    · replace h := ite_f c4 h
      exact J34 S  _ h
    · replace h := ite_t c4 h
      refine x_aload_n d_M_readLine_17 rfl 0 rfl ?_
      refine x_aload_n d_M_readLine_18 rfl 0 rfl ?_
      refine x_ldc2 d_M_readLine_19 kc_11_188 ?_
      refine x_iconst d_M_readLine_22 ic_1 ?_
      refine x_bipush d_M_readLine_23 bp_12 ?_
      obtain ⟨v6, S7, q5, h⟩ := bd2_inv h
      refine y_V3i (v := v6) (S1 := S7) d_M_readLine_25 ml_11_359 kd_78 rfl (Nat.le_of_ble_eq_true rfl) (Nat.le_of_ble_eq_true rfl) (c_M_told (by omega) q5) ?_
      obtain ⟨S8, e9, h⟩ := lt_inv h
      refine y_putI e9 d_M_readLine_28 fl_11_356 rfl rfl kd_78 rfl rfl ?_
      refine x_goto (tgt := 269) d_M_readLine_31 rfl ?_
      exact J269 S8  _ h
/-! NinetyPlayersModel.readAll -/
def b_M_readAll_105 (F G : Nat) (rec : St → Option (St)) (S : St) : Option (St) :=
  if (S.1 78 2) = 0 then if (S.1 78 6) = 0 then some S else bd (fM_readLine F G S ) fun S44 => rec S44 else some S
def fM_readAll (F G : Nat) (S : St) : Option (St) :=
  lt (sI S 78 5 (S.1 78 1)) fun S1 => lt (sI S1 78 1 (0 : Int32)) fun S3 => lt (sI S3 78 4 (0 : Int32)) fun S5 => lt (sI S5 78 2 (0 : Int32)) fun S7 => lt (sI S7 78 3 (-1 : Int32)) fun S9 => lt (sI S9 78 39 (12 : Int32)) fun S11 => lt (sI S11 78 40 (0 : Int32)) fun S13 => lt (sI S13 78 41 (0 : Int32)) fun S15 => lt (sI S15 78 42 (12 : Int32)) fun S17 => lt (sI S17 78 43 (5 : Int32)) fun S19 => lt (sI S19 78 44 (20 : Int32)) fun S21 => lt (sI S21 78 45 (2 : Int32)) fun S23 => lt (sI S23 78 53 (0 : Int32)) fun S25 => lt (sI S25 78 54 (0 : Int32)) fun S27 => lt (sI S27 78 55 (0 : Int32)) fun S29 => lt (sI S29 78 56 (0 : Int32)) fun S31 => lt (sI S31 78 57 (0 : Int32)) fun S33 => lt (sI S33 78 24 (0 : Int32)) fun S35 => lt (sI S35 78 20 (0 : Int32)) fun S37 => bd (fM_token F G S37 ) fun S40 => fx1 (b_M_readAll_105 F G ) F S40
set_option maxRecDepth 100000 in
set_option maxHeartbeats 4000000 in
theorem T_M_readAll_105 {X : Nat × (Nat → Int32)} {D F G : Nat} (hD : 6 ≤ D + 1) : ∀ (f : Nat) (S : St) (res : St), fx1 (b_M_readAll_105 F G ) f S = some res → Ek X (D + 1) mM_readAll 105 [(0, .ref 78)] [] S none res := by
  refine fx1_ind ?_
  intro rec ih S res h
  unfold b_M_readAll_105 at h
  refine x_aload_n d_M_readAll_105 rfl 0 rfl ?_
  refine y_getI d_M_readAll_106 fl_11_185 rfl kd_78 ?_
  refine x_if_ne (tgt := 126) d_M_readAll_109 rfl (fun c41 => ?_) (fun c41 => ?_)
  · replace h := ite_f c41 h
    obtain rfl := Option.some.inj h
    exact x_ret (r := none) d_M_readAll_126 rfl
  · replace h := ite_t c41 h
    refine x_aload_n d_M_readAll_112 rfl 0 rfl ?_
    refine y_getI d_M_readAll_113 fl_11_172 rfl kd_78 ?_
    refine x_if_eq (tgt := 126) d_M_readAll_116 rfl (fun c42 => ?_) (fun c42 => ?_)
    · replace h := ite_t c42 h
      obtain rfl := Option.some.inj h
      exact x_ret (r := none) d_M_readAll_126 rfl
    · replace h := ite_f c42 h
      refine x_aload_n d_M_readAll_119 rfl 0 rfl ?_
      obtain ⟨S44, q43, h⟩ := bd_inv h
      refine y_V0v (S1 := S44) d_M_readAll_120 ml_11_399 kd_78 rfl (Nat.le_of_ble_eq_true rfl) (Nat.le_of_ble_eq_true rfl) (c_M_readLine (by omega) q43) ?_
      refine x_goto (tgt := 105) d_M_readAll_123 rfl ?_
      exact ih S44 _ h
set_option maxRecDepth 100000 in
set_option maxHeartbeats 4000000 in
theorem c_M_readAll {X : Nat × (Nat → Int32)} {D F G : Nat} (hD : 6 ≤ D) {S : St} {res : St} (h : fM_readAll F G S  = some res) : Ek X (D) mM_readAll 0 [(0, .ref 78)] [] S none res := by
  obtain ⟨D, rfl⟩ : ∃ E, D = E + 1 := ⟨D - 1, by omega⟩
  unfold fM_readAll at h
  refine x_aload_n d_M_readAll_0 rfl 0 rfl ?_
  refine x_aload_n d_M_readAll_1 rfl 0 rfl ?_
  refine y_getI d_M_readAll_2 fl_11_145 rfl kd_78 ?_
  obtain ⟨S1, e2, h⟩ := lt_inv h
  refine y_putI e2 d_M_readAll_5 fl_11_155 rfl rfl kd_78 rfl rfl ?_
  refine x_aload_n d_M_readAll_8 rfl 0 rfl ?_
  refine x_iconst d_M_readAll_9 ic_0 ?_
  obtain ⟨S3, e4, h⟩ := lt_inv h
  refine y_putI e4 d_M_readAll_10 fl_11_145 rfl rfl kd_78 rfl rfl ?_
  refine x_aload_n d_M_readAll_13 rfl 0 rfl ?_
  refine x_iconst d_M_readAll_14 ic_0 ?_
  obtain ⟨S5, e6, h⟩ := lt_inv h
  refine y_putI e6 d_M_readAll_15 fl_11_152 rfl rfl kd_78 rfl rfl ?_
  refine x_aload_n d_M_readAll_18 rfl 0 rfl ?_
  refine x_iconst d_M_readAll_19 ic_0 ?_
  obtain ⟨S7, e8, h⟩ := lt_inv h
  refine y_putI e8 d_M_readAll_20 fl_11_185 rfl rfl kd_78 rfl rfl ?_
  refine x_aload_n d_M_readAll_23 rfl 0 rfl ?_
  refine x_iconst d_M_readAll_24 ic_m1 ?_
  obtain ⟨S9, e10, h⟩ := lt_inv h
  refine y_putI e10 d_M_readAll_25 fl_11_13 rfl rfl kd_78 rfl rfl ?_
  refine x_aload_n d_M_readAll_28 rfl 0 rfl ?_
  refine x_bipush d_M_readAll_29 bp_12 ?_
  obtain ⟨S11, e12, h⟩ := lt_inv h
  refine y_putI e12 d_M_readAll_31 fl_11_356 rfl rfl kd_78 rfl rfl ?_
  refine x_aload_n d_M_readAll_34 rfl 0 rfl ?_
  refine x_iconst d_M_readAll_35 ic_0 ?_
  obtain ⟨S13, e14, h⟩ := lt_inv h
  refine y_putI e14 d_M_readAll_36 fl_11_258 rfl rfl kd_78 rfl rfl ?_
  refine x_aload_n d_M_readAll_39 rfl 0 rfl ?_
  refine x_iconst d_M_readAll_40 ic_0 ?_
  obtain ⟨S15, e16, h⟩ := lt_inv h
  refine y_putI e16 d_M_readAll_41 fl_11_350 rfl rfl kd_78 rfl rfl ?_
  refine x_aload_n d_M_readAll_44 rfl 0 rfl ?_
  refine x_bipush d_M_readAll_45 bp_12 ?_
  obtain ⟨S17, e18, h⟩ := lt_inv h
  refine y_putI e18 d_M_readAll_47 fl_11_378 rfl rfl kd_78 rfl rfl ?_
  refine x_aload_n d_M_readAll_50 rfl 0 rfl ?_
  refine x_iconst d_M_readAll_51 ic_5 ?_
  obtain ⟨S19, e20, h⟩ := lt_inv h
  refine y_putI e20 d_M_readAll_52 fl_11_384 rfl rfl kd_78 rfl rfl ?_
  refine x_aload_n d_M_readAll_55 rfl 0 rfl ?_
  refine x_bipush d_M_readAll_56 bp_20 ?_
  obtain ⟨S21, e22, h⟩ := lt_inv h
  refine y_putI e22 d_M_readAll_58 fl_11_390 rfl rfl kd_78 rfl rfl ?_
  refine x_aload_n d_M_readAll_61 rfl 0 rfl ?_
  refine x_iconst d_M_readAll_62 ic_2 ?_
  obtain ⟨S23, e24, h⟩ := lt_inv h
  refine y_putI e24 d_M_readAll_63 fl_11_396 rfl rfl kd_78 rfl rfl ?_
  refine x_aload_n d_M_readAll_66 rfl 0 rfl ?_
  refine x_iconst d_M_readAll_67 ic_0 ?_
  obtain ⟨S25, e26, h⟩ := lt_inv h
  refine y_putI e26 d_M_readAll_68 fl_11_363 rfl rfl kd_78 rfl rfl ?_
  refine x_aload_n d_M_readAll_71 rfl 0 rfl ?_
  refine x_iconst d_M_readAll_72 ic_0 ?_
  obtain ⟨S27, e28, h⟩ := lt_inv h
  refine y_putI e28 d_M_readAll_73 fl_11_375 rfl rfl kd_78 rfl rfl ?_
  refine x_aload_n d_M_readAll_76 rfl 0 rfl ?_
  refine x_iconst d_M_readAll_77 ic_0 ?_
  obtain ⟨S29, e30, h⟩ := lt_inv h
  refine y_putI e30 d_M_readAll_78 fl_11_381 rfl rfl kd_78 rfl rfl ?_
  refine x_aload_n d_M_readAll_81 rfl 0 rfl ?_
  refine x_iconst d_M_readAll_82 ic_0 ?_
  obtain ⟨S31, e32, h⟩ := lt_inv h
  refine y_putI e32 d_M_readAll_83 fl_11_387 rfl rfl kd_78 rfl rfl ?_
  refine x_aload_n d_M_readAll_86 rfl 0 rfl ?_
  refine x_iconst d_M_readAll_87 ic_0 ?_
  obtain ⟨S33, e34, h⟩ := lt_inv h
  refine y_putI e34 d_M_readAll_88 fl_11_393 rfl rfl kd_78 rfl rfl ?_
  refine x_aload_n d_M_readAll_91 rfl 0 rfl ?_
  refine x_iconst d_M_readAll_92 ic_0 ?_
  obtain ⟨S35, e36, h⟩ := lt_inv h
  refine y_putI e36 d_M_readAll_93 fl_11_299 rfl rfl kd_78 rfl rfl ?_
  refine x_aload_n d_M_readAll_96 rfl 0 rfl ?_
  refine x_iconst d_M_readAll_97 ic_0 ?_
  obtain ⟨S37, e38, h⟩ := lt_inv h
  refine y_putI e38 d_M_readAll_98 fl_11_277 rfl rfl kd_78 rfl rfl ?_
  refine x_aload_n d_M_readAll_101 rfl 0 rfl ?_
  obtain ⟨S40, q39, h⟩ := bd_inv h
  refine y_V0v (S1 := S40) d_M_readAll_102 ml_11_241 kd_78 rfl (Nat.le_of_ble_eq_true rfl) (Nat.le_of_ble_eq_true rfl) (c_M_token (by omega) q39) ?_
  refine T_M_readAll_105 (by omega)   F S40 _ h
/-! NinetyPlayersModel.begin -/
def b_M_begin_2 (F G : Nat) (k21 : St → Option (St)) (rec : Int32 → St → Option (St)) (w1 : Int32) (S : St) : Option (St) :=
  if (41 : Int32) ≤ w1 then k21 S else gd (inB w1 41) (lt (sI S 101 w1.toNatClampNeg (0 : Int32)) fun S3 => lt (w1 + 1) fun v5 => rec v5 S3)
def b_M_begin_23 (F G : Nat) (rec : Int32 → St → Option (St)) (w1 : Int32) (S : St) : Option (St) :=
  if (S.1 78 48) ≤ w1 then some S else gd (inB w1 10) (gd (inB ((10 : Int32) + w1) 41) (lt (sI S 101 ((10 : Int32) + w1).toNatClampNeg (S.1 97 w1.toNatClampNeg)) fun S11 => gd (inB w1 10) (gd (inB ((20 : Int32) + w1) 41) (lt (sI S11 101 ((20 : Int32) + w1).toNatClampNeg (S11.1 98 w1.toNatClampNeg)) fun S15 => gd (inB w1 10) (gd (inB ((30 : Int32) + w1) 41) (lt (sI S15 101 ((30 : Int32) + w1).toNatClampNeg (S15.1 99 w1.toNatClampNeg)) fun S19 => lt (w1 + 1) fun v21 => rec v21 S19))))))
def fM_begin (F G : Nat) (S : St) : Option (St) :=
  fx2 (b_M_begin_2 F G  (fun S7 => fx2 (b_M_begin_23 F G ) F (0 : Int32) S7)) F (0 : Int32) S
set_option maxRecDepth 100000 in
set_option maxHeartbeats 4000000 in
theorem T_M_begin_2 {X : Nat × (Nat → Int32)} {D F G : Nat} (hD : 0 ≤ D) {k21 : St → Option (St)} (hk21 : ∀ (S1 : St) (res : St), k21 S1 = some res → Ek X (D) mM_begin 21 [(0, .ref 78)] [] S1 none res) : ∀ (f : Nat) (w1 : Int32) (S : St) (res : St), fx2 (b_M_begin_2 F G k21 ) f w1 S = some res → Ek X (D) mM_begin 2 [(0, .ref 78), (1, .int w1)] [] S none res := by
  refine fx2_ind ?_
  intro rec ih w1 S res h
  unfold b_M_begin_2 at h
  refine x_iload_n d_M_begin_2 rfl 1 rfl ?_
  refine x_bipush d_M_begin_3 bp_41 ?_
  refine x_icmp_ge (tgt := 21) d_M_begin_5 rfl (fun c1 => ?_) (fun c1 => ?_)
  · replace h := ite_t c1 h
    refine y_pick (L1 := [(0, .ref 78)]) [0] rfl ?_
    exact hk21 S _ h
  · replace h := ite_f c1 h
    refine x_aload_n d_M_begin_8 rfl 0 rfl ?_
    refine y_getR d_M_begin_9 fl_11_96 rfl kd_78 rr_78_59 ?_
    refine x_iload_n d_M_begin_12 rfl 1 rfl ?_
    refine x_iconst d_M_begin_13 ic_0 ?_
    obtain ⟨g2, h⟩ := gd_inv h
    obtain ⟨S3, e4, h⟩ := lt_inv h
    refine y_iast e4 d_M_begin_14 kd_101 g2 ?_
    obtain ⟨v5, e6, h⟩ := lt_inv h
    refine y_iinc (L1 := [(0, .ref 78), (1, .int v5)]) e6 ic_1 d_M_begin_15 1 rfl (Nat.le_of_ble_eq_true rfl) rfl rfl ?_
    refine x_goto (tgt := 2) d_M_begin_18 rfl ?_
    exact ih v5 S3 _ h
set_option maxRecDepth 100000 in
set_option maxHeartbeats 4000000 in
theorem T_M_begin_23 {X : Nat × (Nat → Int32)} {D F G : Nat} (hD : 0 ≤ D) : ∀ (f : Nat) (w1 : Int32) (S : St) (res : St), fx2 (b_M_begin_23 F G ) f w1 S = some res → Ek X (D) mM_begin 23 [(0, .ref 78), (1, .int w1)] [] S none res := by
  refine fx2_ind ?_
  intro rec ih w1 S res h
  unfold b_M_begin_23 at h
  refine x_iload_n d_M_begin_23 rfl 1 rfl ?_
  refine x_aload_n d_M_begin_24 rfl 0 rfl ?_
  refine y_getI d_M_begin_25 fl_11_322 rfl kd_78 ?_
  refine x_icmp_ge (tgt := 82) d_M_begin_28 rfl (fun c8 => ?_) (fun c8 => ?_)
  · replace h := ite_t c8 h
    obtain rfl := Option.some.inj h
    exact x_ret (r := none) d_M_begin_82 rfl
  · replace h := ite_f c8 h
    refine x_aload_n d_M_begin_31 rfl 0 rfl ?_
    refine y_getR d_M_begin_32 fl_11_96 rfl kd_78 rr_78_59 ?_
    refine x_bipush d_M_begin_35 bp_10 ?_
    refine x_iload_n d_M_begin_37 rfl 1 rfl ?_
    refine x_iadd d_M_begin_38 ?_
    refine x_aload_n d_M_begin_39 rfl 0 rfl ?_
    refine y_getR d_M_begin_40 fl_11_69 rfl kd_78 rr_78_36 ?_
    refine x_iload_n d_M_begin_43 rfl 1 rfl ?_
    obtain ⟨g9, h⟩ := gd_inv h
    refine y_iald d_M_begin_44 kd_97 g9 ?_
    obtain ⟨g10, h⟩ := gd_inv h
    obtain ⟨S11, e12, h⟩ := lt_inv h
    refine y_iast e12 d_M_begin_45 kd_101 g10 ?_
    refine x_aload_n d_M_begin_46 rfl 0 rfl ?_
    refine y_getR d_M_begin_47 fl_11_96 rfl kd_78 rr_78_59 ?_
    refine x_bipush d_M_begin_50 bp_20 ?_
    refine x_iload_n d_M_begin_52 rfl 1 rfl ?_
    refine x_iadd d_M_begin_53 ?_
    refine x_aload_n d_M_begin_54 rfl 0 rfl ?_
    refine y_getR d_M_begin_55 fl_11_72 rfl kd_78 rr_78_37 ?_
    refine x_iload_n d_M_begin_58 rfl 1 rfl ?_
    obtain ⟨g13, h⟩ := gd_inv h
    refine y_iald d_M_begin_59 kd_98 g13 ?_
    obtain ⟨g14, h⟩ := gd_inv h
    obtain ⟨S15, e16, h⟩ := lt_inv h
    refine y_iast e16 d_M_begin_60 kd_101 g14 ?_
    refine x_aload_n d_M_begin_61 rfl 0 rfl ?_
    refine y_getR d_M_begin_62 fl_11_96 rfl kd_78 rr_78_59 ?_
    refine x_bipush d_M_begin_65 bp_30 ?_
    refine x_iload_n d_M_begin_67 rfl 1 rfl ?_
    refine x_iadd d_M_begin_68 ?_
    refine x_aload_n d_M_begin_69 rfl 0 rfl ?_
    refine y_getR d_M_begin_70 fl_11_75 rfl kd_78 rr_78_38 ?_
    refine x_iload_n d_M_begin_73 rfl 1 rfl ?_
    obtain ⟨g17, h⟩ := gd_inv h
    refine y_iald d_M_begin_74 kd_99 g17 ?_
    obtain ⟨g18, h⟩ := gd_inv h
    obtain ⟨S19, e20, h⟩ := lt_inv h
    refine y_iast e20 d_M_begin_75 kd_101 g18 ?_
    obtain ⟨v21, e22, h⟩ := lt_inv h
    refine y_iinc (L1 := [(0, .ref 78), (1, .int v21)]) e22 ic_1 d_M_begin_76 1 rfl (Nat.le_of_ble_eq_true rfl) rfl rfl ?_
    refine x_goto (tgt := 23) d_M_begin_79 rfl ?_
    exact ih v21 S19 _ h
set_option maxRecDepth 100000 in
set_option maxHeartbeats 4000000 in
theorem c_M_begin {X : Nat × (Nat → Int32)} {D F G : Nat} (hD : 0 ≤ D) {S : St} {res : St} (h : fM_begin F G S  = some res) : Ek X (D) mM_begin 0 [(0, .ref 78)] [] S none res := by
  unfold fM_begin at h
  refine x_iconst d_M_begin_0 ic_0 ?_
  refine x_istore_n (L1 := [(0, .ref 78), (1, .int (0 : Int32))]) d_M_begin_1 rfl (Nat.le_of_ble_eq_true rfl) rfl rfl ?_
  refine T_M_begin_2 (by omega)  ?_ F (0 : Int32) S _ h
  · intro S7 res h
    refine x_iconst d_M_begin_21 ic_0 ?_
    refine x_istore_n (L1 := [(0, .ref 78), (1, .int (0 : Int32))]) d_M_begin_22 rfl (Nat.le_of_ble_eq_true rfl) rfl rfl ?_
    refine T_M_begin_23 (by omega)   F (0 : Int32) S7 _ h
/-! NinetyPlayersModel.keepAir -/
def b_M_keepAir_2 (F G : Nat) (rec : Int32 → St → Option (St)) (w1 : Int32) (S : St) : Option (St) :=
  if (41 : Int32) ≤ w1 then some S else gd (inB w1 41) (gd (inB w1 41) (lt (sI S 100 w1.toNatClampNeg (S.1 101 w1.toNatClampNeg)) fun S4 => lt (w1 + 1) fun v6 => rec v6 S4))
def fM_keepAir (F G : Nat) (S : St) : Option (St) :=
  fx2 (b_M_keepAir_2 F G ) F (0 : Int32) S
set_option maxRecDepth 100000 in
set_option maxHeartbeats 4000000 in
theorem T_M_keepAir_2 {X : Nat × (Nat → Int32)} {D F G : Nat} (hD : 0 ≤ D) : ∀ (f : Nat) (w1 : Int32) (S : St) (res : St), fx2 (b_M_keepAir_2 F G ) f w1 S = some res → Ek X (D) mM_keepAir 2 [(0, .ref 78), (1, .int w1)] [] S none res := by
  refine fx2_ind ?_
  intro rec ih w1 S res h
  unfold b_M_keepAir_2 at h
  refine x_iload_n d_M_keepAir_2 rfl 1 rfl ?_
  refine x_bipush d_M_keepAir_3 bp_41 ?_
  refine x_icmp_ge (tgt := 26) d_M_keepAir_5 rfl (fun c1 => ?_) (fun c1 => ?_)
  · replace h := ite_t c1 h
    obtain rfl := Option.some.inj h
    exact x_ret (r := none) d_M_keepAir_26 rfl
  · replace h := ite_f c1 h
    refine x_aload_n d_M_keepAir_8 rfl 0 rfl ?_
    refine y_getR d_M_keepAir_9 fl_11_93 rfl kd_78 rr_78_58 ?_
    refine x_iload_n d_M_keepAir_12 rfl 1 rfl ?_
    refine x_aload_n d_M_keepAir_13 rfl 0 rfl ?_
    refine y_getR d_M_keepAir_14 fl_11_96 rfl kd_78 rr_78_59 ?_
    refine x_iload_n d_M_keepAir_17 rfl 1 rfl ?_
    obtain ⟨g2, h⟩ := gd_inv h
    refine y_iald d_M_keepAir_18 kd_101 g2 ?_
    obtain ⟨g3, h⟩ := gd_inv h
    obtain ⟨S4, e5, h⟩ := lt_inv h
    refine y_iast e5 d_M_keepAir_19 kd_100 g3 ?_
    obtain ⟨v6, e7, h⟩ := lt_inv h
    refine y_iinc (L1 := [(0, .ref 78), (1, .int v6)]) e7 ic_1 d_M_keepAir_20 1 rfl (Nat.le_of_ble_eq_true rfl) rfl rfl ?_
    refine x_goto (tgt := 2) d_M_keepAir_23 rfl ?_
    exact ih v6 S4 _ h
set_option maxRecDepth 100000 in
set_option maxHeartbeats 4000000 in
theorem c_M_keepAir {X : Nat × (Nat → Int32)} {D F G : Nat} (hD : 0 ≤ D) {S : St} {res : St} (h : fM_keepAir F G S  = some res) : Ek X (D) mM_keepAir 0 [(0, .ref 78)] [] S none res := by
  unfold fM_keepAir at h
  refine x_iconst d_M_keepAir_0 ic_0 ?_
  refine x_istore_n (L1 := [(0, .ref 78), (1, .int (0 : Int32))]) d_M_keepAir_1 rfl (Nat.le_of_ble_eq_true rfl) rfl rfl ?_
  refine T_M_keepAir_2 (by omega)   F (0 : Int32) S _ h
/-! NinetyPlayersModel.score -/
def b_M_score_106 (F G : Nat) (k144 : St → Option (Int32 × St)) (rec : Int32 → St → Option (Int32 × St)) (w1 : Int32) (S : St) : Option (Int32 × St) :=
  if (S.1 78 18) ≤ w1 then k144 S else gd (inB w1 320) (gd (inB w1 320) (lt (sI S 83 w1.toNatClampNeg (S.1 81 w1.toNatClampNeg)) fun S29 => gd (inB w1 320) (gd (inB w1 320) (lt (sI S29 84 w1.toNatClampNeg (S29.1 82 w1.toNatClampNeg)) fun S33 => lt (w1 + 1) fun v35 => rec v35 S33))))
def b_M_score_146 (F G : Nat) (k172 : St → Option (Int32 × St)) (rec : Int32 → St → Option (Int32 × St)) (w1 : Int32) (S : St) : Option (Int32 × St) :=
  if (S.1 78 47) ≤ w1 then k172 S else gd (inB w1 4) (gd (inB w1 4) (lt (sI S 94 w1.toNatClampNeg (S.1 88 w1.toNatClampNeg)) fun S41 => lt (w1 + 1) fun v43 => rec v43 S41))
def b_M_score_174 (F G : Nat) (k248 : St → Option (Int32 × St)) (rec : Int32 → St → Option (Int32 × St)) (w1 : Int32) (S : St) : Option (Int32 × St) :=
  if (S.1 78 48) ≤ w1 then k248 S else gd (inB w1 10) (gd (inB w1 10) (lt (sI S 95 w1.toNatClampNeg (S.1 89 w1.toNatClampNeg)) fun S49 => gd (inB w1 10) (gd (inB w1 10) (lt (sI S49 96 w1.toNatClampNeg (S49.1 90 w1.toNatClampNeg)) fun S53 => gd (inB w1 10) (gd (inB w1 10) (lt (sI S53 97 w1.toNatClampNeg (S53.1 91 w1.toNatClampNeg)) fun S57 => gd (inB w1 10) (gd (inB w1 10) (lt (sI S57 98 w1.toNatClampNeg (S57.1 92 w1.toNatClampNeg)) fun S61 => gd (inB w1 10) (gd (inB w1 10) (lt (sI S61 99 w1.toNatClampNeg (S61.1 93 w1.toNatClampNeg)) fun S65 => lt (w1 + 1) fun v67 => rec v67 S65))))))))))
def b_M_score_278 (F G : Nat) (rec : Int32 → St → Option (Int32 × St)) (w1 : Int32) (S : St) : Option (Int32 × St) :=
  if (3 : Int32) ≤ w1 then some (S.1 78 48, S) else gd (inB w1 3) (lt (sI S 115 w1.toNatClampNeg (vp_nar .boolean (0 : Int32))) fun S84 => lt (w1 + 1) fun v86 => rec v86 S84)
def fM_score (F G : Nat) (S : St) : Option (Int32 × St) :=
  bd (fM_readAll F G S ) fun S2 => if (S2.1 78 2) ≤ 0 then lt (sI S2 78 46 (S2.1 78 39)) fun S4 => lt (sI S4 78 47 (S4.1 78 40)) fun S6 => lt (sI S6 78 48 (S6.1 78 41)) fun S8 => lt (sI S8 78 49 (S8.1 78 42)) fun S10 => lt (sI S10 78 50 (S10.1 78 43)) fun S12 => lt (sI S12 78 51 (S12.1 78 44)) fun S14 => lt (sI S14 78 52 (S14.1 78 45)) fun S16 => lt (sI S16 78 21 (S16.1 78 20)) fun S18 => gd (isB (S18.1 78 24)) (lt (sI S18 78 25 (S18.1 78 24)) fun S21 => if (S21.1 78 24) = 0 then lt (sI S21 78 18 (0 : Int32)) fun S24 => fx2 (b_M_score_106 F G  (fun S37 => fx2 (b_M_score_146 F G  (fun S45 => fx2 (b_M_score_174 F G  (fun S69 => bd (fM_begin F G S69 ) fun S71 => bd (fM_keepAir F G S71 ) fun S73 => lt (sI S73 78 63 (0 : Int32)) fun S74 => lt (sI S74 78 64 (0 : Int32)) fun S76 => lt (sI S76 78 74 (0 : Int32)) fun S78 => lt (sI S78 78 68 (0 : Int32)) fun S80 => fx2 (b_M_score_278 F G ) F (0 : Int32) S80)) F (0 : Int32) S45)) F (0 : Int32) S37)) F (0 : Int32) S24 else lt (sI S21 78 18 (S21.1 78 17)) fun S88 => fx2 (b_M_score_106 F G  (fun S90 => fx2 (b_M_score_146 F G  (fun S91 => fx2 (b_M_score_174 F G  (fun S92 => bd (fM_begin F G S92 ) fun S94 => bd (fM_keepAir F G S94 ) fun S96 => lt (sI S96 78 63 (0 : Int32)) fun S97 => lt (sI S97 78 64 (0 : Int32)) fun S99 => lt (sI S99 78 74 (0 : Int32)) fun S101 => lt (sI S101 78 68 (0 : Int32)) fun S103 => fx2 (b_M_score_278 F G ) F (0 : Int32) S103)) F (0 : Int32) S91)) F (0 : Int32) S90)) F (0 : Int32) S88) else some ((-1 : Int32), S2)
set_option maxRecDepth 100000 in
set_option maxHeartbeats 4000000 in
theorem T_M_score_106 {X : Nat × (Nat → Int32)} {D F G : Nat} (hD : 7 ≤ D + 1) {k144 : St → Option (Int32 × St)} (hk144 : ∀ (S1 : St) (res : Int32 × St), k144 S1 = some res → Ek X (D + 1) mM_score 144 [(0, .ref 78)] [] S1 (some (.int res.1)) res.2) : ∀ (f : Nat) (w1 : Int32) (S : St) (res : Int32 × St), fx2 (b_M_score_106 F G k144 ) f w1 S = some res → Ek X (D + 1) mM_score 106 [(0, .ref 78), (1, .int w1)] [] S (some (.int res.1)) res.2 := by
  refine fx2_ind ?_
  intro rec ih w1 S res h
  unfold b_M_score_106 at h
  refine x_iload_n d_M_score_106 rfl 1 rfl ?_
  refine x_aload_n d_M_score_107 rfl 0 rfl ?_
  refine y_getI d_M_score_108 fl_11_340 rfl kd_78 ?_
  refine x_icmp_ge (tgt := 144) d_M_score_111 rfl (fun c26 => ?_) (fun c26 => ?_)
  · replace h := ite_t c26 h
    refine y_pick (L1 := [(0, .ref 78)]) [0] rfl ?_
    exact hk144 S _ h
  · replace h := ite_f c26 h
    refine x_aload_n d_M_score_114 rfl 0 rfl ?_
    refine y_getR d_M_score_115 fl_11_27 rfl kd_78 rr_78_13 ?_
    refine x_iload_n d_M_score_118 rfl 1 rfl ?_
    refine x_aload_n d_M_score_119 rfl 0 rfl ?_
    refine y_getR d_M_score_120 fl_11_21 rfl kd_78 rr_78_11 ?_
    refine x_iload_n d_M_score_123 rfl 1 rfl ?_
    obtain ⟨g27, h⟩ := gd_inv h
    refine y_iald d_M_score_124 kd_81 g27 ?_
    obtain ⟨g28, h⟩ := gd_inv h
    obtain ⟨S29, e30, h⟩ := lt_inv h
    refine y_iast e30 d_M_score_125 kd_83 g28 ?_
    refine x_aload_n d_M_score_126 rfl 0 rfl ?_
    refine y_getR d_M_score_127 fl_11_30 rfl kd_78 rr_78_14 ?_
    refine x_iload_n d_M_score_130 rfl 1 rfl ?_
    refine x_aload_n d_M_score_131 rfl 0 rfl ?_
    refine y_getR d_M_score_132 fl_11_24 rfl kd_78 rr_78_12 ?_
    refine x_iload_n d_M_score_135 rfl 1 rfl ?_
    obtain ⟨g31, h⟩ := gd_inv h
    refine y_iald d_M_score_136 kd_82 g31 ?_
    obtain ⟨g32, h⟩ := gd_inv h
    obtain ⟨S33, e34, h⟩ := lt_inv h
    refine y_iast e34 d_M_score_137 kd_84 g32 ?_
    obtain ⟨v35, e36, h⟩ := lt_inv h
    refine y_iinc (L1 := [(0, .ref 78), (1, .int v35)]) e36 ic_1 d_M_score_138 1 rfl (Nat.le_of_ble_eq_true rfl) rfl rfl ?_
    refine x_goto (tgt := 106) d_M_score_141 rfl ?_
    exact ih v35 S33 _ h
set_option maxRecDepth 100000 in
set_option maxHeartbeats 4000000 in
theorem T_M_score_146 {X : Nat × (Nat → Int32)} {D F G : Nat} (hD : 7 ≤ D + 1) {k172 : St → Option (Int32 × St)} (hk172 : ∀ (S1 : St) (res : Int32 × St), k172 S1 = some res → Ek X (D + 1) mM_score 172 [(0, .ref 78)] [] S1 (some (.int res.1)) res.2) : ∀ (f : Nat) (w1 : Int32) (S : St) (res : Int32 × St), fx2 (b_M_score_146 F G k172 ) f w1 S = some res → Ek X (D + 1) mM_score 146 [(0, .ref 78), (1, .int w1)] [] S (some (.int res.1)) res.2 := by
  refine fx2_ind ?_
  intro rec ih w1 S res h
  unfold b_M_score_146 at h
  refine x_iload_n d_M_score_146 rfl 1 rfl ?_
  refine x_aload_n d_M_score_147 rfl 0 rfl ?_
  refine y_getI d_M_score_148 fl_11_405 rfl kd_78 ?_
  refine x_icmp_ge (tgt := 172) d_M_score_151 rfl (fun c38 => ?_) (fun c38 => ?_)
  · replace h := ite_t c38 h
    refine y_pick (L1 := [(0, .ref 78)]) [0] rfl ?_
    exact hk172 S _ h
  · replace h := ite_f c38 h
    refine x_aload_n d_M_score_154 rfl 0 rfl ?_
    refine y_getR d_M_score_155 fl_11_60 rfl kd_78 rr_78_33 ?_
    refine x_iload_n d_M_score_158 rfl 1 rfl ?_
    refine x_aload_n d_M_score_159 rfl 0 rfl ?_
    refine y_getR d_M_score_160 fl_11_42 rfl kd_78 rr_78_27 ?_
    refine x_iload_n d_M_score_163 rfl 1 rfl ?_
    obtain ⟨g39, h⟩ := gd_inv h
    refine y_iald d_M_score_164 kd_88 g39 ?_
    obtain ⟨g40, h⟩ := gd_inv h
    obtain ⟨S41, e42, h⟩ := lt_inv h
    refine y_iast e42 d_M_score_165 kd_94 g40 ?_
    obtain ⟨v43, e44, h⟩ := lt_inv h
    refine y_iinc (L1 := [(0, .ref 78), (1, .int v43)]) e44 ic_1 d_M_score_166 1 rfl (Nat.le_of_ble_eq_true rfl) rfl rfl ?_
    refine x_goto (tgt := 146) d_M_score_169 rfl ?_
    exact ih v43 S41 _ h
set_option maxRecDepth 100000 in
set_option maxHeartbeats 4000000 in
theorem T_M_score_174 {X : Nat × (Nat → Int32)} {D F G : Nat} (hD : 7 ≤ D + 1) {k248 : St → Option (Int32 × St)} (hk248 : ∀ (S1 : St) (res : Int32 × St), k248 S1 = some res → Ek X (D + 1) mM_score 248 [(0, .ref 78)] [] S1 (some (.int res.1)) res.2) : ∀ (f : Nat) (w1 : Int32) (S : St) (res : Int32 × St), fx2 (b_M_score_174 F G k248 ) f w1 S = some res → Ek X (D + 1) mM_score 174 [(0, .ref 78), (1, .int w1)] [] S (some (.int res.1)) res.2 := by
  refine fx2_ind ?_
  intro rec ih w1 S res h
  unfold b_M_score_174 at h
  refine x_iload_n d_M_score_174 rfl 1 rfl ?_
  refine x_aload_n d_M_score_175 rfl 0 rfl ?_
  refine y_getI d_M_score_176 fl_11_322 rfl kd_78 ?_
  refine x_icmp_ge (tgt := 248) d_M_score_179 rfl (fun c46 => ?_) (fun c46 => ?_)
  · replace h := ite_t c46 h
    refine y_pick (L1 := [(0, .ref 78)]) [0] rfl ?_
    exact hk248 S _ h
  · replace h := ite_f c46 h
    refine x_aload_n d_M_score_182 rfl 0 rfl ?_
    refine y_getR d_M_score_183 fl_11_63 rfl kd_78 rr_78_34 ?_
    refine x_iload_n d_M_score_186 rfl 1 rfl ?_
    refine x_aload_n d_M_score_187 rfl 0 rfl ?_
    refine y_getR d_M_score_188 fl_11_45 rfl kd_78 rr_78_28 ?_
    refine x_iload_n d_M_score_191 rfl 1 rfl ?_
    obtain ⟨g47, h⟩ := gd_inv h
    refine y_iald d_M_score_192 kd_89 g47 ?_
    obtain ⟨g48, h⟩ := gd_inv h
    obtain ⟨S49, e50, h⟩ := lt_inv h
    refine y_iast e50 d_M_score_193 kd_95 g48 ?_
    refine x_aload_n d_M_score_194 rfl 0 rfl ?_
    refine y_getR d_M_score_195 fl_11_66 rfl kd_78 rr_78_35 ?_
    refine x_iload_n d_M_score_198 rfl 1 rfl ?_
    refine x_aload_n d_M_score_199 rfl 0 rfl ?_
    refine y_getR d_M_score_200 fl_11_48 rfl kd_78 rr_78_29 ?_
    refine x_iload_n d_M_score_203 rfl 1 rfl ?_
    obtain ⟨g51, h⟩ := gd_inv h
    refine y_iald d_M_score_204 kd_90 g51 ?_
    obtain ⟨g52, h⟩ := gd_inv h
    obtain ⟨S53, e54, h⟩ := lt_inv h
    refine y_iast e54 d_M_score_205 kd_96 g52 ?_
    refine x_aload_n d_M_score_206 rfl 0 rfl ?_
    refine y_getR d_M_score_207 fl_11_69 rfl kd_78 rr_78_36 ?_
    refine x_iload_n d_M_score_210 rfl 1 rfl ?_
    refine x_aload_n d_M_score_211 rfl 0 rfl ?_
    refine y_getR d_M_score_212 fl_11_51 rfl kd_78 rr_78_30 ?_
    refine x_iload_n d_M_score_215 rfl 1 rfl ?_
    obtain ⟨g55, h⟩ := gd_inv h
    refine y_iald d_M_score_216 kd_91 g55 ?_
    obtain ⟨g56, h⟩ := gd_inv h
    obtain ⟨S57, e58, h⟩ := lt_inv h
    refine y_iast e58 d_M_score_217 kd_97 g56 ?_
    refine x_aload_n d_M_score_218 rfl 0 rfl ?_
    refine y_getR d_M_score_219 fl_11_72 rfl kd_78 rr_78_37 ?_
    refine x_iload_n d_M_score_222 rfl 1 rfl ?_
    refine x_aload_n d_M_score_223 rfl 0 rfl ?_
    refine y_getR d_M_score_224 fl_11_54 rfl kd_78 rr_78_31 ?_
    refine x_iload_n d_M_score_227 rfl 1 rfl ?_
    obtain ⟨g59, h⟩ := gd_inv h
    refine y_iald d_M_score_228 kd_92 g59 ?_
    obtain ⟨g60, h⟩ := gd_inv h
    obtain ⟨S61, e62, h⟩ := lt_inv h
    refine y_iast e62 d_M_score_229 kd_98 g60 ?_
    refine x_aload_n d_M_score_230 rfl 0 rfl ?_
    refine y_getR d_M_score_231 fl_11_75 rfl kd_78 rr_78_38 ?_
    refine x_iload_n d_M_score_234 rfl 1 rfl ?_
    refine x_aload_n d_M_score_235 rfl 0 rfl ?_
    refine y_getR d_M_score_236 fl_11_57 rfl kd_78 rr_78_32 ?_
    refine x_iload_n d_M_score_239 rfl 1 rfl ?_
    obtain ⟨g63, h⟩ := gd_inv h
    refine y_iald d_M_score_240 kd_93 g63 ?_
    obtain ⟨g64, h⟩ := gd_inv h
    obtain ⟨S65, e66, h⟩ := lt_inv h
    refine y_iast e66 d_M_score_241 kd_99 g64 ?_
    obtain ⟨v67, e68, h⟩ := lt_inv h
    refine y_iinc (L1 := [(0, .ref 78), (1, .int v67)]) e68 ic_1 d_M_score_242 1 rfl (Nat.le_of_ble_eq_true rfl) rfl rfl ?_
    refine x_goto (tgt := 174) d_M_score_245 rfl ?_
    exact ih v67 S65 _ h
set_option maxRecDepth 100000 in
set_option maxHeartbeats 4000000 in
theorem T_M_score_278 {X : Nat × (Nat → Int32)} {D F G : Nat} (hD : 7 ≤ D + 1) : ∀ (f : Nat) (w1 : Int32) (S : St) (res : Int32 × St), fx2 (b_M_score_278 F G ) f w1 S = some res → Ek X (D + 1) mM_score 278 [(0, .ref 78), (1, .int w1)] [] S (some (.int res.1)) res.2 := by
  refine fx2_ind ?_
  intro rec ih w1 S res h
  unfold b_M_score_278 at h
  refine x_iload_n d_M_score_278 rfl 1 rfl ?_
  refine x_iconst d_M_score_279 ic_3 ?_
  refine x_icmp_ge (tgt := 296) d_M_score_280 rfl (fun c82 => ?_) (fun c82 => ?_)
  · replace h := ite_t c82 h
    refine x_aload_n d_M_score_296 rfl 0 rfl ?_
    refine y_getI d_M_score_297 fl_11_322 rfl kd_78 ?_
    obtain rfl := Option.some.inj h
    exact x_ret (r := some (.int (S.1 78 48))) d_M_score_300 ⟨_, rfl, rfl⟩
  · replace h := ite_f c82 h
    refine x_aload_n d_M_score_283 rfl 0 rfl ?_
    refine y_getR d_M_score_284 fl_11_139 rfl kd_78 rr_78_78 ?_
    refine x_iload_n d_M_score_287 rfl 1 rfl ?_
    refine x_iconst d_M_score_288 ic_0 ?_
    obtain ⟨g83, h⟩ := gd_inv h
    obtain ⟨S84, e85, h⟩ := lt_inv h
    refine y_zast e85 d_M_score_289 kd_115 g83 ?_
    obtain ⟨v86, e87, h⟩ := lt_inv h
    refine y_iinc (L1 := [(0, .ref 78), (1, .int v86)]) e87 ic_1 d_M_score_290 1 rfl (Nat.le_of_ble_eq_true rfl) rfl rfl ?_
    refine x_goto (tgt := 278) d_M_score_293 rfl ?_
    exact ih v86 S84 _ h
set_option maxRecDepth 100000 in
set_option maxHeartbeats 4000000 in
theorem c_M_score {X : Nat × (Nat → Int32)} {D F G : Nat} (hD : 7 ≤ D) {S : St} {res : Int32 × St} (h : fM_score F G S  = some res) : Ek X (D) mM_score 0 [(0, .ref 78)] [] S (some (.int res.1)) res.2 := by
  obtain ⟨D, rfl⟩ : ∃ E, D = E + 1 := ⟨D - 1, by omega⟩
  unfold fM_score at h
  refine x_aload_n d_M_score_0 rfl 0 rfl ?_
  obtain ⟨S2, q1, h⟩ := bd_inv h
  refine y_V0v (S1 := S2) d_M_score_1 ml_11_402 kd_78 rfl (Nat.le_of_ble_eq_true rfl) (Nat.le_of_ble_eq_true rfl) (c_M_readAll (by omega) q1) ?_
  refine x_aload_n d_M_score_4 rfl 0 rfl ?_
  refine y_getI d_M_score_5 fl_11_185 rfl kd_78 ?_
  refine x_if_le (tgt := 13) d_M_score_8 rfl (fun c3 => ?_) (fun c3 => ?_)
  · replace h := ite_t c3 h
    refine x_aload_n d_M_score_13 rfl 0 rfl ?_
    refine x_aload_n d_M_score_14 rfl 0 rfl ?_
    refine y_getI d_M_score_15 fl_11_356 rfl kd_78 ?_
    obtain ⟨S4, e5, h⟩ := lt_inv h
    refine y_putI e5 d_M_score_18 fl_11_78 rfl rfl kd_78 rfl rfl ?_
    refine x_aload_n d_M_score_21 rfl 0 rfl ?_
    refine x_aload_n d_M_score_22 rfl 0 rfl ?_
    refine y_getI d_M_score_23 fl_11_258 rfl kd_78 ?_
    obtain ⟨S6, e7, h⟩ := lt_inv h
    refine y_putI e7 d_M_score_26 fl_11_405 rfl rfl kd_78 rfl rfl ?_
    refine x_aload_n d_M_score_29 rfl 0 rfl ?_
    refine x_aload_n d_M_score_30 rfl 0 rfl ?_
    refine y_getI d_M_score_31 fl_11_350 rfl kd_78 ?_
    obtain ⟨S8, e9, h⟩ := lt_inv h
    refine y_putI e9 d_M_score_34 fl_11_322 rfl rfl kd_78 rfl rfl ?_
    refine x_aload_n d_M_score_37 rfl 0 rfl ?_
    refine x_aload_n d_M_score_38 rfl 0 rfl ?_
    refine y_getI d_M_score_39 fl_11_378 rfl kd_78 ?_
    obtain ⟨S10, e11, h⟩ := lt_inv h
    refine y_putI e11 d_M_score_42 fl_11_81 rfl rfl kd_78 rfl rfl ?_
    refine x_aload_n d_M_score_45 rfl 0 rfl ?_
    refine x_aload_n d_M_score_46 rfl 0 rfl ?_
    refine y_getI d_M_score_47 fl_11_384 rfl kd_78 ?_
    obtain ⟨S12, e13, h⟩ := lt_inv h
    refine y_putI e13 d_M_score_50 fl_11_84 rfl rfl kd_78 rfl rfl ?_
    refine x_aload_n d_M_score_53 rfl 0 rfl ?_
    refine x_aload_n d_M_score_54 rfl 0 rfl ?_
    refine y_getI d_M_score_55 fl_11_390 rfl kd_78 ?_
    obtain ⟨S14, e15, h⟩ := lt_inv h
    refine y_putI e15 d_M_score_58 fl_11_87 rfl rfl kd_78 rfl rfl ?_
    refine x_aload_n d_M_score_61 rfl 0 rfl ?_
    refine x_aload_n d_M_score_62 rfl 0 rfl ?_
    refine y_getI d_M_score_63 fl_11_396 rfl kd_78 ?_
    obtain ⟨S16, e17, h⟩ := lt_inv h
    refine y_putI e17 d_M_score_66 fl_11_90 rfl rfl kd_78 rfl rfl ?_
    refine x_aload_n d_M_score_69 rfl 0 rfl ?_
    refine x_aload_n d_M_score_70 rfl 0 rfl ?_
    refine y_getI d_M_score_71 fl_11_277 rfl kd_78 ?_
    obtain ⟨S18, e19, h⟩ := lt_inv h
    refine y_putI e19 d_M_score_74 fl_11_408 rfl rfl kd_78 rfl rfl ?_
    refine x_aload_n d_M_score_77 rfl 0 rfl ?_
    refine x_aload_n d_M_score_78 rfl 0 rfl ?_
    refine y_getI d_M_score_79 fl_11_299 rfl kd_78 ?_
    obtain ⟨g20, h⟩ := gd_inv h
    obtain ⟨S21, e22, h⟩ := lt_inv h
    refine y_putI e22 d_M_score_82 fl_11_334 rfl rfl kd_78 (isB_nar g20) (isB_fit g20) ?_
    refine x_aload_n d_M_score_85 rfl 0 rfl ?_
    refine x_aload_n d_M_score_86 rfl 0 rfl ?_
    refine y_getI d_M_score_87 fl_11_299 rfl kd_78 ?_
    refine x_if_eq (tgt := 100) d_M_score_90 rfl (fun c23 => ?_) (fun c23 => ?_)
    · replace h := ite_t c23 h
      refine x_iconst d_M_score_100 ic_0 ?_
      obtain ⟨S24, e25, h⟩ := lt_inv h
      refine y_putI e25 d_M_score_101 fl_11_340 rfl rfl kd_78 rfl rfl ?_
      refine x_iconst d_M_score_104 ic_0 ?_
      refine x_istore_n (L1 := [(0, .ref 78), (1, .int (0 : Int32))]) d_M_score_105 rfl (Nat.le_of_ble_eq_true rfl) rfl rfl ?_
      refine T_M_score_106 (by omega)  ?_ F (0 : Int32) S24 _ h
      · intro S37 res h
        refine x_iconst d_M_score_144 ic_0 ?_
        refine x_istore_n (L1 := [(0, .ref 78), (1, .int (0 : Int32))]) d_M_score_145 rfl (Nat.le_of_ble_eq_true rfl) rfl rfl ?_
        refine T_M_score_146 (by omega)  ?_ F (0 : Int32) S37 _ h
        · intro S45 res h
          refine x_iconst d_M_score_172 ic_0 ?_
          refine x_istore_n (L1 := [(0, .ref 78), (1, .int (0 : Int32))]) d_M_score_173 rfl (Nat.le_of_ble_eq_true rfl) rfl rfl ?_
          refine T_M_score_174 (by omega)  ?_ F (0 : Int32) S45 _ h
          · intro S69 res h
            refine x_aload_n d_M_score_248 rfl 0 rfl ?_
            obtain ⟨S71, q70, h⟩ := bd_inv h
            refine y_V0v (S1 := S71) d_M_score_249 ml_11_411 kd_78 rfl (Nat.le_of_ble_eq_true rfl) (Nat.le_of_ble_eq_true rfl) (c_M_begin (by omega) q70) ?_
            refine x_aload_n d_M_score_252 rfl 0 rfl ?_
            obtain ⟨S73, q72, h⟩ := bd_inv h
            refine y_V0v (S1 := S73) d_M_score_253 ml_11_414 kd_78 rfl (Nat.le_of_ble_eq_true rfl) (Nat.le_of_ble_eq_true rfl) (c_M_keepAir (by omega) q72) ?_
            refine x_aload_n d_M_score_256 rfl 0 rfl ?_
            refine x_iconst d_M_score_257 ic_0 ?_
            obtain ⟨S74, e75, h⟩ := lt_inv h
            refine y_putI e75 d_M_score_258 fl_11_417 rfl rfl kd_78 rfl rfl ?_
            refine x_aload_n d_M_score_261 rfl 0 rfl ?_
            refine x_iconst d_M_score_262 ic_0 ?_
            obtain ⟨S76, e77, h⟩ := lt_inv h
            refine y_putI e77 d_M_score_263 fl_11_420 rfl rfl kd_78 rfl rfl ?_
            refine x_aload_n d_M_score_266 rfl 0 rfl ?_
            refine x_iconst d_M_score_267 ic_0 ?_
            obtain ⟨S78, e79, h⟩ := lt_inv h
            refine y_putI e79 d_M_score_268 fl_11_423 rfl rfl kd_78 rfl rfl ?_
            refine x_aload_n d_M_score_271 rfl 0 rfl ?_
            refine x_iconst d_M_score_272 ic_0 ?_
            obtain ⟨S80, e81, h⟩ := lt_inv h
            refine y_putI e81 d_M_score_273 fl_11_426 rfl rfl kd_78 rfl rfl ?_
            refine x_iconst d_M_score_276 ic_0 ?_
            refine x_istore_n (L1 := [(0, .ref 78), (1, .int (0 : Int32))]) d_M_score_277 rfl (Nat.le_of_ble_eq_true rfl) rfl rfl ?_
            refine T_M_score_278 (by omega)   F (0 : Int32) S80 _ h
    · replace h := ite_f c23 h
      refine x_aload_n d_M_score_93 rfl 0 rfl ?_
      refine y_getI d_M_score_94 fl_11_261 rfl kd_78 ?_
      refine x_goto (tgt := 101) d_M_score_97 rfl ?_
      obtain ⟨S88, e89, h⟩ := lt_inv h
      refine y_putI e89 d_M_score_101 fl_11_340 rfl rfl kd_78 rfl rfl ?_
      refine x_iconst d_M_score_104 ic_0 ?_
      refine x_istore_n (L1 := [(0, .ref 78), (1, .int (0 : Int32))]) d_M_score_105 rfl (Nat.le_of_ble_eq_true rfl) rfl rfl ?_
      refine T_M_score_106 (by omega)  ?_ F (0 : Int32) S88 _ h
      · intro S90 res h
        refine x_iconst d_M_score_144 ic_0 ?_
        refine x_istore_n (L1 := [(0, .ref 78), (1, .int (0 : Int32))]) d_M_score_145 rfl (Nat.le_of_ble_eq_true rfl) rfl rfl ?_
        refine T_M_score_146 (by omega)  ?_ F (0 : Int32) S90 _ h
        · intro S91 res h
          refine x_iconst d_M_score_172 ic_0 ?_
          refine x_istore_n (L1 := [(0, .ref 78), (1, .int (0 : Int32))]) d_M_score_173 rfl (Nat.le_of_ble_eq_true rfl) rfl rfl ?_
          refine T_M_score_174 (by omega)  ?_ F (0 : Int32) S91 _ h
          · intro S92 res h
            refine x_aload_n d_M_score_248 rfl 0 rfl ?_
            obtain ⟨S94, q93, h⟩ := bd_inv h
            refine y_V0v (S1 := S94) d_M_score_249 ml_11_411 kd_78 rfl (Nat.le_of_ble_eq_true rfl) (Nat.le_of_ble_eq_true rfl) (c_M_begin (by omega) q93) ?_
            refine x_aload_n d_M_score_252 rfl 0 rfl ?_
            obtain ⟨S96, q95, h⟩ := bd_inv h
            refine y_V0v (S1 := S96) d_M_score_253 ml_11_414 kd_78 rfl (Nat.le_of_ble_eq_true rfl) (Nat.le_of_ble_eq_true rfl) (c_M_keepAir (by omega) q95) ?_
            refine x_aload_n d_M_score_256 rfl 0 rfl ?_
            refine x_iconst d_M_score_257 ic_0 ?_
            obtain ⟨S97, e98, h⟩ := lt_inv h
            refine y_putI e98 d_M_score_258 fl_11_417 rfl rfl kd_78 rfl rfl ?_
            refine x_aload_n d_M_score_261 rfl 0 rfl ?_
            refine x_iconst d_M_score_262 ic_0 ?_
            obtain ⟨S99, e100, h⟩ := lt_inv h
            refine y_putI e100 d_M_score_263 fl_11_420 rfl rfl kd_78 rfl rfl ?_
            refine x_aload_n d_M_score_266 rfl 0 rfl ?_
            refine x_iconst d_M_score_267 ic_0 ?_
            obtain ⟨S101, e102, h⟩ := lt_inv h
            refine y_putI e102 d_M_score_268 fl_11_423 rfl rfl kd_78 rfl rfl ?_
            refine x_aload_n d_M_score_271 rfl 0 rfl ?_
            refine x_iconst d_M_score_272 ic_0 ?_
            obtain ⟨S103, e104, h⟩ := lt_inv h
            refine y_putI e104 d_M_score_273 fl_11_426 rfl rfl kd_78 rfl rfl ?_
            refine x_iconst d_M_score_276 ic_0 ?_
            refine x_istore_n (L1 := [(0, .ref 78), (1, .int (0 : Int32))]) d_M_score_277 rfl (Nat.le_of_ble_eq_true rfl) rfl rfl ?_
            refine T_M_score_278 (by omega)   F (0 : Int32) S103 _ h
  · replace h := ite_f c3 h
    refine x_iconst d_M_score_11 ic_m1 ?_
    obtain rfl := Option.some.inj h
    exact x_ret (r := some (.int (-1 : Int32))) d_M_score_12 ⟨_, rfl, rfl⟩
/-! NinetyPlayers.fault -/
def fN_fault (F G : Nat) (S : St) (p1 : Int32) : Option (Int32) :=
  if p1 = 0 then some (S.1 1 0) else if p1 = 1 then some (S.1 1 1) else some (-1 : Int32)
set_option maxRecDepth 100000 in
set_option maxHeartbeats 4000000 in
theorem c_N_fault {X : Nat × (Nat → Int32)} {D F G : Nat} (hD : 0 ≤ D) {S : St} {p1 : Int32} {res : Int32} (h : fN_fault F G S p1 = some res) : Ek X (D) mN_fault 0 [(0, .ref 0), (1, .int p1)] [] S (some (.int res)) S := by
  unfold fN_fault at h
  refine x_iload_n d_N_fault_0 rfl 1 rfl ?_
  by_cases c1 : p1 = 0
  · replace h := ite_t c1 h
    refine x_look (tgt := 28) d_N_fault_1 (by decide +kernel) (by rw [c1] <;> rfl) rfl ?_
    refine x_aload_n d_N_fault_28 rfl 0 rfl ?_
    refine y_getR d_N_fault_29 fl_0_10 rfl kd_0 rr_0_0 ?_
    refine y_getI d_N_fault_32 fl_0_104 rfl kd_1 ?_
    obtain rfl := Option.some.inj h
    exact x_ret (r := some (.int (S.1 1 0))) d_N_fault_35 ⟨_, rfl, rfl⟩
  replace h := ite_f c1 h
  by_cases c2 : p1 = 1
  · replace h := ite_t c2 h
    refine x_look (tgt := 36) d_N_fault_1 (by decide +kernel) (by rw [c2] <;> rfl) rfl ?_
    refine x_aload_n d_N_fault_36 rfl 0 rfl ?_
    refine y_getR d_N_fault_37 fl_0_10 rfl kd_0 rr_0_0 ?_
    refine y_getI d_N_fault_40 fl_0_125 rfl kd_1 ?_
    obtain rfl := Option.some.inj h
    exact x_ret (r := some (.int (S.1 1 1))) d_N_fault_43 ⟨_, rfl, rfl⟩
  replace h := ite_f c2 h
  refine x_look (off := 43) (tgt := 44) d_N_fault_1 (by decide +kernel) (by show Op.lookupswitch.offset [(0, 27), (1, 35)] 43 _ = _; rw [lv_osw (a := 0) c1 (by decide), lv_osw (a := 1) c2 (by decide)]; rfl) rfl ?_
  refine x_iconst d_N_fault_44 ic_m1 ?_
  obtain rfl := Option.some.inj h
  exact x_ret (r := some (.int (-1 : Int32))) d_N_fault_45 ⟨_, rfl, rfl⟩
/-! NinetyPlayersModel.fault -/
def fM_fault (F G : Nat) (S : St) (p1 : Int32) : Option (Int32) :=
  if p1 = 0 then some (S.1 78 2) else if p1 = (1 : Int32) then some (S.1 78 3) else some (-1 : Int32)
set_option maxRecDepth 100000 in
set_option maxHeartbeats 4000000 in
theorem c_M_fault {X : Nat × (Nat → Int32)} {D F G : Nat} (hD : 0 ≤ D) {S : St} {p1 : Int32} {res : Int32} (h : fM_fault F G S p1 = some res) : Ek X (D) mM_fault 0 [(0, .ref 78), (1, .int p1)] [] S (some (.int res)) S := by
  unfold fM_fault at h
  refine x_iload_n d_M_fault_0 rfl 1 rfl ?_
  refine x_if_ne (tgt := 11) d_M_fault_1 rfl (fun c1 => ?_) (fun c1 => ?_)
  · replace h := ite_f c1 h
    refine x_iload_n d_M_fault_11 rfl 1 rfl ?_
    refine x_iconst d_M_fault_12 ic_1 ?_
    refine x_icmp_ne (tgt := 23) d_M_fault_13 rfl (fun c2 => ?_) (fun c2 => ?_)
    · replace h := ite_f c2 h
      refine x_iconst d_M_fault_23 ic_m1 ?_
      obtain rfl := Option.some.inj h
      exact x_ret (r := some (.int (-1 : Int32))) d_M_fault_24 ⟨_, rfl, rfl⟩
    · replace h := ite_t c2 h
      refine x_aload_n d_M_fault_16 rfl 0 rfl ?_
      refine y_getI d_M_fault_17 fl_11_13 rfl kd_78 ?_
      refine x_goto (tgt := 24) d_M_fault_20 rfl ?_
      obtain rfl := Option.some.inj h
      exact x_ret (r := some (.int (S.1 78 3))) d_M_fault_24 ⟨_, rfl, rfl⟩
  · replace h := ite_t c1 h
    refine x_aload_n d_M_fault_4 rfl 0 rfl ?_
    refine y_getI d_M_fault_5 fl_11_185 rfl kd_78 ?_
    refine x_goto (tgt := 24) d_M_fault_8 rfl ?_
    obtain rfl := Option.some.inj h
    exact x_ret (r := some (.int (S.1 78 2))) d_M_fault_24 ⟨_, rfl, rfl⟩
