/-! NinetyPlayersModel.easier -/
def fM_easier (F G : Nat) (S : St) (p1 : Int32) : Option (Int32 × St) :=
  bd (fM_isNote F G S p1) fun v2 => if v2 = 0 then some ((-1 : Int32), S) else gd (inB p1 41) (if (S.1 100 p1.toNatClampNeg) = 0 then some ((-1 : Int32), S) else bd2 (fM_clashes F G S) fun v7 S8 => bd (fM_members F G S8 v7) fun v10 => gd (inB p1 41) (lt (sI S8 101 p1.toNatClampNeg (0 : Int32)) fun S12 => bd (fM_clashBeats F G S12 (S12.1 78 49)) fun v15 => bd (fM_members F G S12 v15) fun v17 => some (v10 - v17, S12)))
set_option maxRecDepth 100000 in
set_option maxHeartbeats 4000000 in
theorem c_315 {X : Nat × (Nat → Int32)} {D F G : Nat} (hD : 5 ≤ D) {S : St} {p1 : Int32} {res : Int32 × St} (h : fM_easier F G S p1 = some res) : Ek X (D) m315 0 [(0, .ref 78), (1, .int p1)] [] S (some (.int res.1)) res.2 := by
  obtain ⟨D, rfl⟩ : ∃ E, D = E + 1 := ⟨D - 1, by omega⟩
  unfold fM_easier at h
  refine x_aload_n d_315_0 rfl 0 rfl ?_
  refine x_iload_n d_315_1 rfl 1 rfl ?_
  obtain ⟨v2, q1, h⟩ := bd_inv h
  refine y_V1i (v := v2) (S1 := S) d_315_2 ml_11_461 kd_78 rfl (Nat.le_of_ble_eq_true rfl) (Nat.le_of_ble_eq_true rfl) (c_249 (by omega) q1) ?_
  refine x_if_eq (tgt := 17) d_315_5 rfl (fun c3 => ?_) (fun c3 => ?_)
  · replace h := ite_t c3 h
    refine x_iconst d_315_17 ic_m1 ?_
    obtain rfl := Option.some.inj h
    exact x_ret (r := some (.int (-1 : Int32))) d_315_18 ⟨_, rfl, rfl⟩
  · replace h := ite_f c3 h
    refine x_aload_n d_315_8 rfl 0 rfl ?_
    refine y_getR d_315_9 fl_11_93 rfl kd_78 rr_78_58 ?_
    refine x_iload_n d_315_12 rfl 1 rfl ?_
    obtain ⟨g4, h⟩ := gd_inv h
    refine y_iald d_315_13 kd_100 g4 ?_
    refine x_if_ne (tgt := 19) d_315_14 rfl (fun c5 => ?_) (fun c5 => ?_)
    · replace h := ite_f c5 h
      refine x_aload_n d_315_19 rfl 0 rfl ?_
      obtain ⟨v7, S8, q6, h⟩ := bd2_inv h
      refine y_V0i (v := v7) (S1 := S8) d_315_20 ml_11_488 kd_78 rfl (Nat.le_of_ble_eq_true rfl) (Nat.le_of_ble_eq_true rfl) (c_273 (by omega) q6) ?_
      obtain ⟨v10, q9, h⟩ := bd_inv h
      refine y_S1i (v := v10) (S1 := S8) d_315_23 ml_11_331 (Nat.le_of_ble_eq_true rfl) (Nat.le_of_ble_eq_true rfl) (c_256 (by omega) q9) ?_
      refine x_istore_n (L1 := [(0, .ref 78), (1, .int p1), (2, .int v10)]) d_315_26 rfl (Nat.le_of_ble_eq_true rfl) rfl rfl ?_
      refine x_aload_n d_315_27 rfl 0 rfl ?_
      refine y_getR d_315_28 fl_11_96 rfl kd_78 rr_78_59 ?_
      refine x_iload_n d_315_31 rfl 1 rfl ?_
      refine x_iconst d_315_32 ic_0 ?_
      obtain ⟨g11, h⟩ := gd_inv h
      obtain ⟨S12, e13, h⟩ := lt_inv h
      refine y_iast e13 d_315_33 kd_101 g11 ?_
      refine x_iload_n d_315_34 rfl 2 rfl ?_
      refine x_aload_n d_315_35 rfl 0 rfl ?_
      refine x_aload_n d_315_36 rfl 0 rfl ?_
      refine y_getI d_315_37 fl_11_81 rfl kd_78 ?_
      obtain ⟨v15, q14, h⟩ := bd_inv h
      refine y_V1i (v := v15) (S1 := S12) d_315_40 ml_11_482 kd_78 rfl (Nat.le_of_ble_eq_true rfl) (Nat.le_of_ble_eq_true rfl) (c_274 (by omega) q14) ?_
      obtain ⟨v17, q16, h⟩ := bd_inv h
      refine y_S1i (v := v17) (S1 := S12) d_315_43 ml_11_331 (Nat.le_of_ble_eq_true rfl) (Nat.le_of_ble_eq_true rfl) (c_256 (by omega) q16) ?_
      refine x_isub d_315_46 ?_
      obtain rfl := Option.some.inj h
      exact x_ret (r := some (.int (v10 - v17))) d_315_47 ⟨_, rfl, rfl⟩
    · replace h := ite_t c5 h
      refine x_iconst d_315_17 ic_m1 ?_
      obtain rfl := Option.some.inj h
      exact x_ret (r := some (.int (-1 : Int32))) d_315_18 ⟨_, rfl, rfl⟩
/-! NinetyPlayersModel.thickest -/
def b_316_20 (F G : Nat) (S : St) (z1 : Int32) (rec : Int32 → Int32 → Option (Int32 × St)) (w2 : Int32) (w3 : Int32) : Option (Int32 × St) :=
  if (S.1 78 46) ≤ w3 then some (w2, S) else gd (inB w3 12) (bd (fM_members F G S ((S.1 102 w3.toNatClampNeg) &&& z1)) fun v12 => gd (inB w2 12) (bd (fM_members F G S ((S.1 102 w2.toNatClampNeg) &&& z1)) fun v15 => if v12 ≤ v15 then lt (w3 + 1) fun v17 => rec w2 v17 else lt (w3 + 1) fun v19 => rec w3 v19))
def fM_thickest (F G : Nat) (S : St) : Option (Int32 × St) :=
  bd (fM_fill F G S ) fun S2 => bd (fM_given F G S2 (1 : Int32)) fun v4 => bd (fM_given F G S2 (2 : Int32)) fun v6 => lt (v4 ||| v6) fun v7 => fx2 (b_316_20 F G S2 v7) F (0 : Int32) (1 : Int32)
set_option maxRecDepth 100000 in
set_option maxHeartbeats 4000000 in
theorem T_316_20 {X : Nat × (Nat → Int32)} {D F G : Nat} (hD : 2 ≤ D + 1) {S : St} {z1 : Int32} : ∀ (f : Nat) (w2 : Int32) (w3 : Int32) (res : Int32 × St), fx2 (b_316_20 F G S z1 ) f w2 w3 = some res → Ek X (D + 1) m316 20 [(0, .ref 78), (1, .int z1), (2, .int w2), (3, .int w3)] [] S (some (.int res.1)) res.2 := by
  refine fx2_ind ?_
  intro rec ih w2 w3 res h
  unfold b_316_20 at h
  refine x_iload_n d_316_20 rfl 3 rfl ?_
  refine x_aload_n d_316_21 rfl 0 rfl ?_
  refine y_getI d_316_22 fl_11_78 rfl kd_78 ?_
  refine x_icmp_ge (tgt := 65) d_316_25 rfl (fun c9 => ?_) (fun c9 => ?_)
  · replace h := ite_t c9 h
    refine x_iload_n d_316_65 rfl 2 rfl ?_
    obtain rfl := Option.some.inj h
    exact x_ret (r := some (.int w2)) d_316_66 ⟨_, rfl, rfl⟩
  · replace h := ite_f c9 h
    refine x_aload_n d_316_28 rfl 0 rfl ?_
    refine y_getR d_316_29 fl_11_99 rfl kd_78 rr_78_60 ?_
    refine x_iload_n d_316_32 rfl 3 rfl ?_
    obtain ⟨g10, h⟩ := gd_inv h
    refine y_iald d_316_33 kd_102 g10 ?_
    refine x_iload_n d_316_34 rfl 1 rfl ?_
    refine x_iand d_316_35 ?_
    obtain ⟨v12, q11, h⟩ := bd_inv h
    refine y_S1i (v := v12) (S1 := S) d_316_36 ml_11_331 (Nat.le_of_ble_eq_true rfl) (Nat.le_of_ble_eq_true rfl) (c_256 (by omega) q11) ?_
    refine x_aload_n d_316_39 rfl 0 rfl ?_
    refine y_getR d_316_40 fl_11_99 rfl kd_78 rr_78_60 ?_
    refine x_iload_n d_316_43 rfl 2 rfl ?_
    obtain ⟨g13, h⟩ := gd_inv h
    refine y_iald d_316_44 kd_102 g13 ?_
    refine x_iload_n d_316_45 rfl 1 rfl ?_
    refine x_iand d_316_46 ?_
    obtain ⟨v15, q14, h⟩ := bd_inv h
    refine y_S1i (v := v15) (S1 := S) d_316_47 ml_11_331 (Nat.le_of_ble_eq_true rfl) (Nat.le_of_ble_eq_true rfl) (c_256 (by omega) q14) ?_
    refine x_icmp_le (tgt := 57) d_316_50 rfl (fun c16 => ?_) (fun c16 => ?_)
    · replace h := ite_t c16 h
      refine x_iload_n d_316_57 rfl 2 rfl ?_
      refine x_istore_n (L1 := [(0, .ref 78), (1, .int z1), (2, .int w2), (3, .int w3)]) d_316_58 rfl (Nat.le_of_ble_eq_true rfl) rfl rfl ?_
      obtain ⟨v17, e18, h⟩ := lt_inv h
      refine y_iinc (L1 := [(0, .ref 78), (1, .int z1), (2, .int w2), (3, .int v17)]) e18 ic_1 d_316_59 3 rfl (Nat.le_of_ble_eq_true rfl) rfl rfl ?_
      refine x_goto (tgt := 20) d_316_62 rfl ?_
      exact ih w2 v17 _ h
    · replace h := ite_f c16 h
      refine x_iload_n d_316_53 rfl 3 rfl ?_
      refine x_goto (tgt := 58) d_316_54 rfl ?_
      refine x_istore_n (L1 := [(0, .ref 78), (1, .int z1), (2, .int w3), (3, .int w3)]) d_316_58 rfl (Nat.le_of_ble_eq_true rfl) rfl rfl ?_
      obtain ⟨v19, e20, h⟩ := lt_inv h
      refine y_iinc (L1 := [(0, .ref 78), (1, .int z1), (2, .int w3), (3, .int v19)]) e20 ic_1 d_316_59 3 rfl (Nat.le_of_ble_eq_true rfl) rfl rfl ?_
      refine x_goto (tgt := 20) d_316_62 rfl ?_
      exact ih w3 v19 _ h
set_option maxRecDepth 100000 in
set_option maxHeartbeats 4000000 in
theorem c_316 {X : Nat × (Nat → Int32)} {D F G : Nat} (hD : 2 ≤ D) {S : St} {res : Int32 × St} (h : fM_thickest F G S  = some res) : Ek X (D) m316 0 [(0, .ref 78)] [] S (some (.int res.1)) res.2 := by
  obtain ⟨D, rfl⟩ : ∃ E, D = E + 1 := ⟨D - 1, by omega⟩
  unfold fM_thickest at h
  refine x_aload_n d_316_0 rfl 0 rfl ?_
  obtain ⟨S2, q1, h⟩ := bd_inv h
  refine y_V0v (S1 := S2) d_316_1 ml_11_464 kd_78 rfl (Nat.le_of_ble_eq_true rfl) (Nat.le_of_ble_eq_true rfl) (c_251 (by omega) q1) ?_
  refine x_aload_n d_316_4 rfl 0 rfl ?_
  refine x_iconst d_316_5 ic_1 ?_
  obtain ⟨v4, q3, h⟩ := bd_inv h
  refine y_V1i (v := v4) (S1 := S2) d_316_6 ml_11_454 kd_78 rfl (Nat.le_of_ble_eq_true rfl) (Nat.le_of_ble_eq_true rfl) (c_261 (by omega) q3) ?_
  refine x_aload_n d_316_9 rfl 0 rfl ?_
  refine x_iconst d_316_10 ic_2 ?_
  obtain ⟨v6, q5, h⟩ := bd_inv h
  refine y_V1i (v := v6) (S1 := S2) d_316_11 ml_11_454 kd_78 rfl (Nat.le_of_ble_eq_true rfl) (Nat.le_of_ble_eq_true rfl) (c_261 (by omega) q5) ?_
  refine x_ior d_316_14 ?_
  obtain ⟨v7, e8, h⟩ := lt_inv h
  refine y_istore_n (L1 := [(0, .ref 78), (1, .int v7)]) e8 d_316_15 rfl (Nat.le_of_ble_eq_true rfl) rfl rfl ?_
  refine x_iconst d_316_16 ic_0 ?_
  refine x_istore_n (L1 := [(0, .ref 78), (1, .int v7), (2, .int (0 : Int32))]) d_316_17 rfl (Nat.le_of_ble_eq_true rfl) rfl rfl ?_
  refine x_iconst d_316_18 ic_1 ?_
  refine x_istore_n (L1 := [(0, .ref 78), (1, .int v7), (2, .int (0 : Int32)), (3, .int (1 : Int32))]) d_316_19 rfl (Nat.le_of_ble_eq_true rfl) rfl rfl ?_
  refine T_316_20 (by omega)   F (0 : Int32) (1 : Int32) _ h
/-! NinetyPlayersModel.law -/
def fM_law (F G : Nat) (S : St) (p1 : Int32) : Option (Int32 × St) :=
  bd (fM_isIn F G S p1 (0 : Int32) (87 : Int32)) fun v2 => if v2 = 0 then some ((-1 : Int32), S) else bd (fM_fill F G S ) fun S5 => bd (fM_clashBeats F G S5 p1) fun v7 => bd (fM_members F G S5 v7) fun v9 => some (v9, S5)
set_option maxRecDepth 100000 in
set_option maxHeartbeats 4000000 in
theorem c_317 {X : Nat × (Nat → Int32)} {D F G : Nat} (hD : 4 ≤ D) {S : St} {p1 : Int32} {res : Int32 × St} (h : fM_law F G S p1 = some res) : Ek X (D) m317 0 [(0, .ref 78), (1, .int p1)] [] S (some (.int res.1)) res.2 := by
  obtain ⟨D, rfl⟩ : ∃ E, D = E + 1 := ⟨D - 1, by omega⟩
  unfold fM_law at h
  refine x_iload_n d_317_0 rfl 1 rfl ?_
  refine x_iconst d_317_1 ic_0 ?_
  refine x_bipush d_317_2 bp_87 ?_
  obtain ⟨v2, q1, h⟩ := bd_inv h
  refine y_S3i (v := v2) (S1 := S) d_317_4 ml_11_429 (Nat.le_of_ble_eq_true rfl) (Nat.le_of_ble_eq_true rfl) (c_250 (by omega) q1) ?_
  refine x_if_ne (tgt := 12) d_317_7 rfl (fun c3 => ?_) (fun c3 => ?_)
  · replace h := ite_f c3 h
    refine x_aload_n d_317_12 rfl 0 rfl ?_
    obtain ⟨S5, q4, h⟩ := bd_inv h
    refine y_V0v (S1 := S5) d_317_13 ml_11_464 kd_78 rfl (Nat.le_of_ble_eq_true rfl) (Nat.le_of_ble_eq_true rfl) (c_251 (by omega) q4) ?_
    refine x_aload_n d_317_16 rfl 0 rfl ?_
    refine x_iload_n d_317_17 rfl 1 rfl ?_
    obtain ⟨v7, q6, h⟩ := bd_inv h
    refine y_V1i (v := v7) (S1 := S5) d_317_18 ml_11_482 kd_78 rfl (Nat.le_of_ble_eq_true rfl) (Nat.le_of_ble_eq_true rfl) (c_274 (by omega) q6) ?_
    obtain ⟨v9, q8, h⟩ := bd_inv h
    refine y_S1i (v := v9) (S1 := S5) d_317_21 ml_11_331 (Nat.le_of_ble_eq_true rfl) (Nat.le_of_ble_eq_true rfl) (c_256 (by omega) q8) ?_
    obtain rfl := Option.some.inj h
    exact x_ret (r := some (.int v9)) d_317_24 ⟨_, rfl, rfl⟩
  · replace h := ite_t c3 h
    refine x_iconst d_317_10 ic_m1 ?_
    obtain rfl := Option.some.inj h
    exact x_ret (r := some (.int (-1 : Int32))) d_317_11 ⟨_, rfl, rfl⟩
/-! NinetyPlayersModel.dearest -/
def b_318_12 (F G : Nat) (S : St) (rec : Int32 → Int32 → Option (Int32 × St)) (w1 : Int32) (w2 : Int32) : Option (Int32 × St) :=
  if (S.1 78 48) ≤ w2 then some (w1, S) else gd (inB w2 41) (if (S.1 100 w2.toNatClampNeg) = 0 then if w1 < 0 then lt (w2 + 1) fun v11 => rec w2 v11 else gd (inB w2 10) (gd (inB w1 10) (if (S.1 107 w2.toNatClampNeg) ≤ (S.1 107 w1.toNatClampNeg) then lt (w2 + 1) fun v16 => rec w1 v16 else lt (w2 + 1) fun v18 => rec w2 v18)) else lt (w2 + 1) fun v8 => rec w1 v8)
def fM_dearest (F G : Nat) (S : St) : Option (Int32 × St) :=
  bd (fM_fill F G S ) fun S2 => bd (fM_layMissed F G S2 ) fun S4 => fx2 (b_318_12 F G S4) F (-1 : Int32) (0 : Int32)
set_option maxRecDepth 100000 in
set_option maxHeartbeats 4000000 in
theorem T_318_12 {X : Nat × (Nat → Int32)} {D F G : Nat} (hD : 4 ≤ D + 1) {S : St} : ∀ (f : Nat) (w1 : Int32) (w2 : Int32) (res : Int32 × St), fx2 (b_318_12 F G S ) f w1 w2 = some res → Ek X (D + 1) m318 12 [(0, .ref 78), (1, .int w1), (2, .int w2)] [] S (some (.int res.1)) res.2 := by
  refine fx2_ind ?_
  intro rec ih w1 w2 res h
  unfold b_318_12 at h
  refine x_iload_n d_318_12 rfl 2 rfl ?_
  refine x_aload_n d_318_13 rfl 0 rfl ?_
  refine y_getI d_318_14 fl_11_322 rfl kd_78 ?_
  refine x_icmp_ge (tgt := 56) d_318_17 rfl (fun c5 => ?_) (fun c5 => ?_)
  · replace h := ite_t c5 h
    refine x_iload_n d_318_56 rfl 1 rfl ?_
    obtain rfl := Option.some.inj h
    exact x_ret (r := some (.int w1)) d_318_57 ⟨_, rfl, rfl⟩
  · replace h := ite_f c5 h
    refine x_aload_n d_318_20 rfl 0 rfl ?_
    refine y_getR d_318_21 fl_11_93 rfl kd_78 rr_78_58 ?_
    refine x_iload_n d_318_24 rfl 2 rfl ?_
    obtain ⟨g6, h⟩ := gd_inv h
    refine y_iald d_318_25 kd_100 g6 ?_
    refine x_if_ne (tgt := 50) d_318_26 rfl (fun c7 => ?_) (fun c7 => ?_)
    · replace h := ite_f c7 h
      obtain ⟨v8, e9, h⟩ := lt_inv h
      refine y_iinc (L1 := [(0, .ref 78), (1, .int w1), (2, .int v8)]) e9 ic_1 d_318_50 2 rfl (Nat.le_of_ble_eq_true rfl) rfl rfl ?_
      refine x_goto (tgt := 12) d_318_53 rfl ?_
      exact ih w1 v8 _ h
    · replace h := ite_t c7 h
      refine x_iload_n d_318_29 rfl 1 rfl ?_
      refine x_if_lt (tgt := 48) d_318_30 rfl (fun c10 => ?_) (fun c10 => ?_)
      · replace h := ite_t c10 h
        refine x_iload_n d_318_48 rfl 2 rfl ?_
        refine x_istore_n (L1 := [(0, .ref 78), (1, .int w2), (2, .int w2)]) d_318_49 rfl (Nat.le_of_ble_eq_true rfl) rfl rfl ?_
        obtain ⟨v11, e12, h⟩ := lt_inv h
        refine y_iinc (L1 := [(0, .ref 78), (1, .int w2), (2, .int v11)]) e12 ic_1 d_318_50 2 rfl (Nat.le_of_ble_eq_true rfl) rfl rfl ?_
        refine x_goto (tgt := 12) d_318_53 rfl ?_
        exact ih w2 v11 _ h
      · replace h := ite_f c10 h
        refine x_aload_n d_318_33 rfl 0 rfl ?_
        refine y_getR d_318_34 fl_11_114 rfl kd_78 rr_78_67 ?_
        refine x_iload_n d_318_37 rfl 2 rfl ?_
        obtain ⟨g13, h⟩ := gd_inv h
        refine y_iald d_318_38 kd_107 g13 ?_
        refine x_aload_n d_318_39 rfl 0 rfl ?_
        refine y_getR d_318_40 fl_11_114 rfl kd_78 rr_78_67 ?_
        refine x_iload_n d_318_43 rfl 1 rfl ?_
        obtain ⟨g14, h⟩ := gd_inv h
        refine y_iald d_318_44 kd_107 g14 ?_
        refine x_icmp_le (tgt := 50) d_318_45 rfl (fun c15 => ?_) (fun c15 => ?_)
        · replace h := ite_t c15 h
          obtain ⟨v16, e17, h⟩ := lt_inv h
          refine y_iinc (L1 := [(0, .ref 78), (1, .int w1), (2, .int v16)]) e17 ic_1 d_318_50 2 rfl (Nat.le_of_ble_eq_true rfl) rfl rfl ?_
          refine x_goto (tgt := 12) d_318_53 rfl ?_
          exact ih w1 v16 _ h
        · replace h := ite_f c15 h
          refine x_iload_n d_318_48 rfl 2 rfl ?_
          refine x_istore_n (L1 := [(0, .ref 78), (1, .int w2), (2, .int w2)]) d_318_49 rfl (Nat.le_of_ble_eq_true rfl) rfl rfl ?_
          obtain ⟨v18, e19, h⟩ := lt_inv h
          refine y_iinc (L1 := [(0, .ref 78), (1, .int w2), (2, .int v18)]) e19 ic_1 d_318_50 2 rfl (Nat.le_of_ble_eq_true rfl) rfl rfl ?_
          refine x_goto (tgt := 12) d_318_53 rfl ?_
          exact ih w2 v18 _ h
set_option maxRecDepth 100000 in
set_option maxHeartbeats 4000000 in
theorem c_318 {X : Nat × (Nat → Int32)} {D F G : Nat} (hD : 4 ≤ D) {S : St} {res : Int32 × St} (h : fM_dearest F G S  = some res) : Ek X (D) m318 0 [(0, .ref 78)] [] S (some (.int res.1)) res.2 := by
  obtain ⟨D, rfl⟩ : ∃ E, D = E + 1 := ⟨D - 1, by omega⟩
  unfold fM_dearest at h
  refine x_aload_n d_318_0 rfl 0 rfl ?_
  obtain ⟨S2, q1, h⟩ := bd_inv h
  refine y_V0v (S1 := S2) d_318_1 ml_11_464 kd_78 rfl (Nat.le_of_ble_eq_true rfl) (Nat.le_of_ble_eq_true rfl) (c_251 (by omega) q1) ?_
  refine x_aload_n d_318_4 rfl 0 rfl ?_
  obtain ⟨S4, q3, h⟩ := bd_inv h
  refine y_V0v (S1 := S4) d_318_5 ml_11_497 kd_78 rfl (Nat.le_of_ble_eq_true rfl) (Nat.le_of_ble_eq_true rfl) (c_286 (by omega) q3) ?_
  refine x_iconst d_318_8 ic_m1 ?_
  refine x_istore_n (L1 := [(0, .ref 78), (1, .int (-1 : Int32))]) d_318_9 rfl (Nat.le_of_ble_eq_true rfl) rfl rfl ?_
  refine x_iconst d_318_10 ic_0 ?_
  refine x_istore_n (L1 := [(0, .ref 78), (1, .int (-1 : Int32)), (2, .int (0 : Int32))]) d_318_11 rfl (Nat.le_of_ble_eq_true rfl) rfl rfl ?_
  refine T_318_12 (by omega)   F (-1 : Int32) (0 : Int32) _ h
/-! NinetyPlayersModel.lies -/
def fM_lies (F G : Nat) (S : St) (p1 : Int32) : Option (Int32) :=
  bd (fM_isIn F G S p1 (0 : Int32) ((S.1 78 68) - (1 : Int32))) fun v2 => if v2 = 0 then some (-1 : Int32) else gd (inB p1 10) (some (S.1 105 p1.toNatClampNeg))
set_option maxRecDepth 100000 in
set_option maxHeartbeats 4000000 in
theorem c_319 {X : Nat × (Nat → Int32)} {D F G : Nat} (hD : 1 ≤ D) {S : St} {p1 : Int32} {res : Int32} (h : fM_lies F G S p1 = some res) : Ek X (D) m319 0 [(0, .ref 78), (1, .int p1)] [] S (some (.int res)) S := by
  obtain ⟨D, rfl⟩ : ∃ E, D = E + 1 := ⟨D - 1, by omega⟩
  unfold fM_lies at h
  refine x_iload_n d_319_0 rfl 1 rfl ?_
  refine x_iconst d_319_1 ic_0 ?_
  refine x_aload_n d_319_2 rfl 0 rfl ?_
  refine y_getI d_319_3 fl_11_426 rfl kd_78 ?_
  refine x_iconst d_319_6 ic_1 ?_
  refine x_isub d_319_7 ?_
  obtain ⟨v2, q1, h⟩ := bd_inv h
  refine y_S3i (v := v2) (S1 := S) d_319_8 ml_11_429 (Nat.le_of_ble_eq_true rfl) (Nat.le_of_ble_eq_true rfl) (c_250 (by omega) q1) ?_
  refine x_if_eq (tgt := 23) d_319_11 rfl (fun c3 => ?_) (fun c3 => ?_)
  · replace h := ite_t c3 h
    refine x_iconst d_319_23 ic_m1 ?_
    obtain rfl := Option.some.inj h
    exact x_ret (r := some (.int (-1 : Int32))) d_319_24 ⟨_, rfl, rfl⟩
  · replace h := ite_f c3 h
    refine x_aload_n d_319_14 rfl 0 rfl ?_
    refine y_getR d_319_15 fl_11_108 rfl kd_78 rr_78_65 ?_
    refine x_iload_n d_319_18 rfl 1 rfl ?_
    obtain ⟨g4, h⟩ := gd_inv h
    refine y_iald d_319_19 kd_105 g4 ?_
    refine x_goto (tgt := 24) d_319_20 rfl ?_
    obtain rfl := Option.some.inj h
    exact x_ret (r := some (.int (S.1 105 p1.toNatClampNeg))) d_319_24 ⟨_, rfl, rfl⟩
/-! NinetyPlayersModel.heard -/
def fM_heard (F G : Nat) (S : St) (p1 : Int32) (p2 : Int32) (p3 : Int32) : Option (Int32 × St) :=
  bd (fM_isBeat F G S p1) fun v2 => if v2 = 0 then some ((-1 : Int32), S) else bd (fM_isIn F G S p2 (0 : Int32) (87 : Int32)) fun v5 => if v5 = 0 then some ((-1 : Int32), S) else if (S.1 78 74) = (30 : Int32) then some ((-1 : Int32), S) else gd (inB (S.1 78 74) 30) (lt (sI S 108 (S.1 78 74).toNatClampNeg p1) fun S9 => gd (inB (S9.1 78 74) 30) (lt (sI S9 109 (S9.1 78 74).toNatClampNeg p2) fun S12 => gd (inB (S12.1 78 74) 30) (lt (sI S12 112 (S12.1 78 74).toNatClampNeg (vp_nar .boolean p3)) fun S15 => gd (inB (S15.1 78 74) 30) (lt (sI S15 110 (S15.1 78 74).toNatClampNeg (S15.1 78 75)) fun S18 => gd (inB (S18.1 78 74) 30) (lt (sI S18 111 (S18.1 78 74).toNatClampNeg (-1 : Int32)) fun S21 => lt (sI S21 78 74 ((S21.1 78 74) + (1 : Int32))) fun S23 => some ((S23.1 78 74) - (1 : Int32), S23))))))
set_option maxRecDepth 100000 in
set_option maxHeartbeats 4000000 in
theorem c_320 {X : Nat × (Nat → Int32)} {D F G : Nat} (hD : 2 ≤ D) {S : St} {p1 : Int32} {p2 : Int32} {p3 : Int32} {res : Int32 × St} (h : fM_heard F G S p1 p2 p3 = some res) : Ek X (D) m320 0 [(0, .ref 78), (1, .int p1), (2, .int p2), (3, .int p3)] [] S (some (.int res.1)) res.2 := by
  obtain ⟨D, rfl⟩ : ∃ E, D = E + 1 := ⟨D - 1, by omega⟩
  unfold fM_heard at h
  refine x_aload_n d_320_0 rfl 0 rfl ?_
  refine x_iload_n d_320_1 rfl 1 rfl ?_
  obtain ⟨v2, q1, h⟩ := bd_inv h
  refine y_V1i (v := v2) (S1 := S) d_320_2 ml_11_473 kd_78 rfl (Nat.le_of_ble_eq_true rfl) (Nat.le_of_ble_eq_true rfl) (c_263 (by omega) q1) ?_
  refine x_if_eq (tgt := 27) d_320_5 rfl (fun c3 => ?_) (fun c3 => ?_)
  · replace h := ite_t c3 h
    refine x_iconst d_320_27 ic_m1 ?_
    obtain rfl := Option.some.inj h
    exact x_ret (r := some (.int (-1 : Int32))) d_320_28 ⟨_, rfl, rfl⟩
  · replace h := ite_f c3 h
    refine x_iload_n d_320_8 rfl 2 rfl ?_
    refine x_iconst d_320_9 ic_0 ?_
    refine x_bipush d_320_10 bp_87 ?_
    obtain ⟨v5, q4, h⟩ := bd_inv h
    refine y_S3i (v := v5) (S1 := S) d_320_12 ml_11_429 (Nat.le_of_ble_eq_true rfl) (Nat.le_of_ble_eq_true rfl) (c_250 (by omega) q4) ?_
    refine x_if_eq (tgt := 27) d_320_15 rfl (fun c6 => ?_) (fun c6 => ?_)
    · replace h := ite_t c6 h
      refine x_iconst d_320_27 ic_m1 ?_
      obtain rfl := Option.some.inj h
      exact x_ret (r := some (.int (-1 : Int32))) d_320_28 ⟨_, rfl, rfl⟩
    · replace h := ite_f c6 h
      refine x_aload_n d_320_18 rfl 0 rfl ?_
      refine y_getI d_320_19 fl_11_423 rfl kd_78 ?_
      refine x_bipush d_320_22 bp_30 ?_
      refine x_icmp_ne (tgt := 29) d_320_24 rfl (fun c7 => ?_) (fun c7 => ?_)
      · replace h := ite_f c7 h
        refine x_aload_n d_320_29 rfl 0 rfl ?_
        refine y_getR d_320_30 fl_11_117 rfl kd_78 rr_78_69 ?_
        refine x_aload_n d_320_33 rfl 0 rfl ?_
        refine y_getI d_320_34 fl_11_423 rfl kd_78 ?_
        refine x_iload_n d_320_37 rfl 1 rfl ?_
        obtain ⟨g8, h⟩ := gd_inv h
        obtain ⟨S9, e10, h⟩ := lt_inv h
        refine y_iast e10 d_320_38 kd_108 g8 ?_
        refine x_aload_n d_320_39 rfl 0 rfl ?_
        refine y_getR d_320_40 fl_11_120 rfl kd_78 rr_78_70 ?_
        refine x_aload_n d_320_43 rfl 0 rfl ?_
        refine y_getI d_320_44 fl_11_423 rfl kd_78 ?_
        refine x_iload_n d_320_47 rfl 2 rfl ?_
        obtain ⟨g11, h⟩ := gd_inv h
        obtain ⟨S12, e13, h⟩ := lt_inv h
        refine y_iast e13 d_320_48 kd_109 g11 ?_
        refine x_aload_n d_320_49 rfl 0 rfl ?_
        refine y_getR d_320_50 fl_11_129 rfl kd_78 rr_78_73 ?_
        refine x_aload_n d_320_53 rfl 0 rfl ?_
        refine y_getI d_320_54 fl_11_423 rfl kd_78 ?_
        refine x_iload_n d_320_57 rfl 3 rfl ?_
        obtain ⟨g14, h⟩ := gd_inv h
        obtain ⟨S15, e16, h⟩ := lt_inv h
        refine y_zast e16 d_320_58 kd_112 g14 ?_
        refine x_aload_n d_320_59 rfl 0 rfl ?_
        refine y_getR d_320_60 fl_11_123 rfl kd_78 rr_78_71 ?_
        refine x_aload_n d_320_63 rfl 0 rfl ?_
        refine y_getI d_320_64 fl_11_423 rfl kd_78 ?_
        refine x_aload_n d_320_67 rfl 0 rfl ?_
        refine y_getI d_320_68 fl_11_539 rfl kd_78 ?_
        obtain ⟨g17, h⟩ := gd_inv h
        obtain ⟨S18, e19, h⟩ := lt_inv h
        refine y_iast e19 d_320_71 kd_110 g17 ?_
        refine x_aload_n d_320_72 rfl 0 rfl ?_
        refine y_getR d_320_73 fl_11_126 rfl kd_78 rr_78_72 ?_
        refine x_aload_n d_320_76 rfl 0 rfl ?_
        refine y_getI d_320_77 fl_11_423 rfl kd_78 ?_
        refine x_iconst d_320_80 ic_m1 ?_
        obtain ⟨g20, h⟩ := gd_inv h
        obtain ⟨S21, e22, h⟩ := lt_inv h
        refine y_iast e22 d_320_81 kd_111 g20 ?_
        refine x_aload_n d_320_82 rfl 0 rfl ?_
        refine x_dup d_320_83 rfl ?_
        refine y_getI d_320_84 fl_11_423 rfl kd_78 ?_
        refine x_iconst d_320_87 ic_1 ?_
        refine x_iadd d_320_88 ?_
        obtain ⟨S23, e24, h⟩ := lt_inv h
        refine y_putI e24 d_320_89 fl_11_423 rfl rfl kd_78 rfl rfl ?_
        refine x_aload_n d_320_92 rfl 0 rfl ?_
        refine y_getI d_320_93 fl_11_423 rfl kd_78 ?_
        refine x_iconst d_320_96 ic_1 ?_
        refine x_isub d_320_97 ?_
        obtain rfl := Option.some.inj h
        exact x_ret (r := some (.int ((S23.1 78 74) - (1 : Int32)))) d_320_98 ⟨_, rfl, rfl⟩
      · replace h := ite_t c7 h
        refine x_iconst d_320_27 ic_m1 ?_
        obtain rfl := Option.some.inj h
        exact x_ret (r := some (.int (-1 : Int32))) d_320_28 ⟨_, rfl, rfl⟩
/-! NinetyPlayersModel.untell -/
def fM_untell (F G : Nat) (S : St) (p1 : Int32) : Option (Int32 × St) :=
  bd (fM_isIn F G S p1 (0 : Int32) ((S.1 78 74) - (1 : Int32))) fun v2 => if v2 = 0 then some ((0 : Int32), S) else gd (inB p1 30) (if (S.1 111 p1.toNatClampNeg) < 0 then gd (inB p1 30) (lt (sI S 111 p1.toNatClampNeg (S.1 78 75)) fun S7 => some ((1 : Int32), S7)) else some ((0 : Int32), S))
set_option maxRecDepth 100000 in
set_option maxHeartbeats 4000000 in
theorem c_321 {X : Nat × (Nat → Int32)} {D F G : Nat} (hD : 1 ≤ D) {S : St} {p1 : Int32} {res : Int32 × St} (h : fM_untell F G S p1 = some res) : Ek X (D) m321 0 [(0, .ref 78), (1, .int p1)] [] S (some (.int res.1)) res.2 := by
  obtain ⟨D, rfl⟩ : ∃ E, D = E + 1 := ⟨D - 1, by omega⟩
  unfold fM_untell at h
  refine x_iload_n d_321_0 rfl 1 rfl ?_
  refine x_iconst d_321_1 ic_0 ?_
  refine x_aload_n d_321_2 rfl 0 rfl ?_
  refine y_getI d_321_3 fl_11_423 rfl kd_78 ?_
  refine x_iconst d_321_6 ic_1 ?_
  refine x_isub d_321_7 ?_
  obtain ⟨v2, q1, h⟩ := bd_inv h
  refine y_S3i (v := v2) (S1 := S) d_321_8 ml_11_429 (Nat.le_of_ble_eq_true rfl) (Nat.le_of_ble_eq_true rfl) (c_250 (by omega) q1) ?_
  refine x_if_eq (tgt := 23) d_321_11 rfl (fun c3 => ?_) (fun c3 => ?_)
  · replace h := ite_t c3 h
    refine x_iconst d_321_23 ic_0 ?_
    obtain rfl := Option.some.inj h
    exact x_ret (r := some (.int (0 : Int32))) d_321_24 ⟨_, rfl, rfl⟩
  · replace h := ite_f c3 h
    refine x_aload_n d_321_14 rfl 0 rfl ?_
    refine y_getR d_321_15 fl_11_126 rfl kd_78 rr_78_72 ?_
    refine x_iload_n d_321_18 rfl 1 rfl ?_
    obtain ⟨g4, h⟩ := gd_inv h
    refine y_iald d_321_19 kd_111 g4 ?_
    refine x_if_lt (tgt := 25) d_321_20 rfl (fun c5 => ?_) (fun c5 => ?_)
    · replace h := ite_t c5 h
      refine x_aload_n d_321_25 rfl 0 rfl ?_
      refine y_getR d_321_26 fl_11_126 rfl kd_78 rr_78_72 ?_
      refine x_iload_n d_321_29 rfl 1 rfl ?_
      refine x_aload_n d_321_30 rfl 0 rfl ?_
      refine y_getI d_321_31 fl_11_539 rfl kd_78 ?_
      obtain ⟨g6, h⟩ := gd_inv h
      obtain ⟨S7, e8, h⟩ := lt_inv h
      refine y_iast e8 d_321_34 kd_111 g6 ?_
      refine x_iconst d_321_35 ic_1 ?_
      obtain rfl := Option.some.inj h
      exact x_ret (r := some (.int (1 : Int32))) d_321_36 ⟨_, rfl, rfl⟩
    · replace h := ite_f c5 h
      refine x_iconst d_321_23 ic_0 ?_
      obtain rfl := Option.some.inj h
      exact x_ret (r := some (.int (0 : Int32))) d_321_24 ⟨_, rfl, rfl⟩
/-! NinetyPlayersModel.later -/
def fM_later (F G : Nat) (S : St) (p1 : Int32) : Option (Int32 × St) :=
  if p1 < 0 then some ((-1 : Int32), S) else if (1000 : Int32) < p1 then some ((-1 : Int32), S) else if ((S.1 78 75) + p1) ≤ (100000 : Int32) then lt (sI S 78 75 ((S.1 78 75) + p1)) fun S4 => some (S4.1 78 75, S4) else some ((-1 : Int32), S)
set_option maxRecDepth 100000 in
set_option maxHeartbeats 4000000 in
theorem c_322 {X : Nat × (Nat → Int32)} {D F G : Nat} (hD : 0 ≤ D) {S : St} {p1 : Int32} {res : Int32 × St} (h : fM_later F G S p1 = some res) : Ek X (D) m322 0 [(0, .ref 78), (1, .int p1)] [] S (some (.int res.1)) res.2 := by
  unfold fM_later at h
  refine x_iload_n d_322_0 rfl 1 rfl ?_
  refine x_if_lt (tgt := 23) d_322_1 rfl (fun c1 => ?_) (fun c1 => ?_)
  · replace h := ite_t c1 h
    refine x_iconst d_322_23 ic_m1 ?_
    obtain rfl := Option.some.inj h
    exact x_ret (r := some (.int (-1 : Int32))) d_322_24 ⟨_, rfl, rfl⟩
  · replace h := ite_f c1 h
    refine x_iload_n d_322_4 rfl 1 rfl ?_
    refine x_sipush d_322_5 sp_1000 ?_
    refine x_icmp_gt (tgt := 23) d_322_8 rfl (fun c2 => ?_) (fun c2 => ?_)
    · replace h := ite_t c2 h
      refine x_iconst d_322_23 ic_m1 ?_
      obtain rfl := Option.some.inj h
      exact x_ret (r := some (.int (-1 : Int32))) d_322_24 ⟨_, rfl, rfl⟩
    · replace h := ite_f c2 h
      refine x_aload_n d_322_11 rfl 0 rfl ?_
      refine y_getI d_322_12 fl_11_539 rfl kd_78 ?_
      refine x_iload_n d_322_15 rfl 1 rfl ?_
      refine x_iadd d_322_16 ?_
      refine x_ldcw d_322_17 kc_11_542 ?_
      refine x_icmp_le (tgt := 25) d_322_20 rfl (fun c3 => ?_) (fun c3 => ?_)
      · replace h := ite_t c3 h
        refine x_aload_n d_322_25 rfl 0 rfl ?_
        refine x_dup d_322_26 rfl ?_
        refine y_getI d_322_27 fl_11_539 rfl kd_78 ?_
        refine x_iload_n d_322_30 rfl 1 rfl ?_
        refine x_iadd d_322_31 ?_
        obtain ⟨S4, e5, h⟩ := lt_inv h
        refine y_putI e5 d_322_32 fl_11_539 rfl rfl kd_78 rfl rfl ?_
        refine x_aload_n d_322_35 rfl 0 rfl ?_
        refine y_getI d_322_36 fl_11_539 rfl kd_78 ?_
        obtain rfl := Option.some.inj h
        exact x_ret (r := some (.int (S4.1 78 75))) d_322_39 ⟨_, rfl, rfl⟩
      · replace h := ite_f c3 h
        refine x_iconst d_322_23 ic_m1 ?_
        obtain rfl := Option.some.inj h
        exact x_ret (r := some (.int (-1 : Int32))) d_322_24 ⟨_, rfl, rfl⟩
/-! NinetyPlayersModel.sayersOf -/
def j_325_70 (F G : Nat) (S : St) (z1 : Int32) (rec : Int32 → Int32 → Option (Int32)) (_ : St) (y3 : Int32) (s0 : Int32) (s1 : Int32) : Option (Int32) :=
  bd (fM_truth F G S s1) fun v13 => lt (s0 ||| (v13 <<< (y3 &&& 31))) fun v14 => lt (y3 + 1) fun v16 => rec v14 v16
def j_325_69 (F G : Nat) (S : St) (z1 : Int32) (rec : Int32 → Int32 → Option (Int32)) (_ : St) (y3 : Int32) (s0 : Int32) : Option (Int32) :=
  j_325_70 F G S z1 rec  S y3 s0 (0 : Int32)
def b_325_4 (F G : Nat) (S : St) (z1 : Int32) (rec : Int32 → Int32 → Option (Int32)) (w2 : Int32) (w3 : Int32) : Option (Int32) :=
  if (S.1 78 48) ≤ w3 then some w2 else gd (inB w3 10) (gd (inB z1 30) (if (S.1 97 w3.toNatClampNeg) = (S.1 109 z1.toNatClampNeg) then gd (inB w3 10) (gd (inB z1 30) (if (S.1 108 z1.toNatClampNeg) < (S.1 96 w3.toNatClampNeg) then j_325_69 F G S z1 rec  S w3 w2 else gd (inB z1 30) (gd (inB w3 10) (gd (inB w3 10) (if ((S.1 96 w3.toNatClampNeg) + (S.1 98 w3.toNatClampNeg)) ≤ (S.1 108 z1.toNatClampNeg) then j_325_69 F G S z1 rec  S w3 w2 else j_325_70 F G S z1 rec  S w3 w2 (1 : Int32)))))) else j_325_69 F G S z1 rec  S w3 w2))
def fM_sayersOf (F G : Nat) (S : St) (p1 : Int32) : Option (Int32) :=
  fx2 (b_325_4 F G S p1) F (0 : Int32) (0 : Int32)
set_option maxRecDepth 100000 in
set_option maxHeartbeats 4000000 in
theorem T_325_4 {X : Nat × (Nat → Int32)} {D F G : Nat} (hD : 1 ≤ D + 1) {S : St} {z1 : Int32} : ∀ (f : Nat) (w2 : Int32) (w3 : Int32) (res : Int32), fx2 (b_325_4 F G S z1 ) f w2 w3 = some res → Ek X (D + 1) m325 4 [(0, .ref 78), (1, .int z1), (2, .int w2), (3, .int w3)] [] S (some (.int res)) S := by
  refine fx2_ind ?_
  intro rec ih w2 w3 res h
  unfold b_325_4 at h
  have J70 : ∀ (y3 : Int32) (s0 : Int32) (s1 : Int32) (res : Int32), j_325_70 F G S z1 rec S y3 s0 s1 = some res → Ek X (D + 1) m325 70 [(0, .ref 78), (1, .int z1), (3, .int y3)] [.int s1, .int s0] S (some (.int res)) S := by
    intro y3 s0 s1 res h
    unfold j_325_70 at h
    obtain ⟨v13, q12, h⟩ := bd_inv h
    refine y_S1i (v := v13) (S1 := S) d_325_70 ml_11_318 (Nat.le_of_ble_eq_true rfl) (Nat.le_of_ble_eq_true rfl) (c_229 (by omega) q12) ?_
    refine x_iload_n d_325_73 rfl 2 rfl ?_
    refine x_ishl d_325_74 ?_
    refine x_ior d_325_75 ?_
    obtain ⟨v14, e15, h⟩ := lt_inv h
    refine y_istore_n (L1 := [(0, .ref 78), (1, .int z1), (2, .int v14), (3, .int y3)]) e15 d_325_76 rfl (Nat.le_of_ble_eq_true rfl) rfl rfl ?_
    obtain ⟨v16, e17, h⟩ := lt_inv h
    refine y_iinc (L1 := [(0, .ref 78), (1, .int z1), (2, .int v14), (3, .int v16)]) e17 ic_1 d_325_77 3 rfl (Nat.le_of_ble_eq_true rfl) rfl rfl ?_
    refine x_goto (tgt := 4) d_325_80 rfl ?_
    exact ih v14 v16 _ h
  have J69 : ∀ (y3 : Int32) (s0 : Int32) (res : Int32), j_325_69 F G S z1 rec S y3 s0 = some res → Ek X (D + 1) m325 69 [(0, .ref 78), (1, .int z1), (3, .int y3)] [.int s0] S (some (.int res)) S := by
    intro y3 s0 res h
    unfold j_325_69 at h
    refine x_iconst d_325_69 ic_0 ?_
    exact J70 y3 s0 (0 : Int32) _ h
  refine x_iload_n d_325_4 rfl 3 rfl ?_
  refine x_aload_n d_325_5 rfl 0 rfl ?_
  refine y_getI d_325_6 fl_11_322 rfl kd_78 ?_
  refine x_icmp_ge (tgt := 83) d_325_9 rfl (fun c1 => ?_) (fun c1 => ?_)
  · replace h := ite_t c1 h
    refine x_iload_n d_325_83 rfl 2 rfl ?_
    obtain rfl := Option.some.inj h
    exact x_ret (r := some (.int w2)) d_325_84 ⟨_, rfl, rfl⟩
  · replace h := ite_f c1 h
    refine x_iload_n d_325_12 rfl 2 rfl ?_
    refine x_aload_n d_325_13 rfl 0 rfl ?_
    refine y_getR d_325_14 fl_11_69 rfl kd_78 rr_78_36 ?_
    refine x_iload_n d_325_17 rfl 3 rfl ?_
    obtain ⟨g2, h⟩ := gd_inv h
    refine y_iald d_325_18 kd_97 g2 ?_
    refine x_aload_n d_325_19 rfl 0 rfl ?_
    refine y_getR d_325_20 fl_11_120 rfl kd_78 rr_78_70 ?_
    refine x_iload_n d_325_23 rfl 1 rfl ?_
    obtain ⟨g3, h⟩ := gd_inv h
    refine y_iald d_325_24 kd_109 g3 ?_
    refine x_icmp_ne (tgt := 69) d_325_25 rfl (fun c4 => ?_) (fun c4 => ?_)
    · replace h := ite_f c4 h
      refine y_pick (L1 := [(0, .ref 78), (1, .int z1), (3, .int w3)]) [0, 1, 3] rfl ?_
      exact J69 w3 w2 _ h
    · replace h := ite_t c4 h
      refine x_aload_n d_325_28 rfl 0 rfl ?_
      refine y_getR d_325_29 fl_11_66 rfl kd_78 rr_78_35 ?_
      refine x_iload_n d_325_32 rfl 3 rfl ?_
      obtain ⟨g5, h⟩ := gd_inv h
      refine y_iald d_325_33 kd_96 g5 ?_
      refine x_aload_n d_325_34 rfl 0 rfl ?_
      refine y_getR d_325_35 fl_11_117 rfl kd_78 rr_78_69 ?_
      refine x_iload_n d_325_38 rfl 1 rfl ?_
      obtain ⟨g6, h⟩ := gd_inv h
      refine y_iald d_325_39 kd_108 g6 ?_
      refine x_icmp_gt (tgt := 69) d_325_40 rfl (fun c7 => ?_) (fun c7 => ?_)
      · replace h := ite_t c7 h
        refine y_pick (L1 := [(0, .ref 78), (1, .int z1), (3, .int w3)]) [0, 1, 3] rfl ?_
        exact J69 w3 w2 _ h
      · replace h := ite_f c7 h
        refine x_aload_n d_325_43 rfl 0 rfl ?_
        refine y_getR d_325_44 fl_11_117 rfl kd_78 rr_78_69 ?_
        refine x_iload_n d_325_47 rfl 1 rfl ?_
        obtain ⟨g8, h⟩ := gd_inv h
        refine y_iald d_325_48 kd_108 g8 ?_
        refine x_aload_n d_325_49 rfl 0 rfl ?_
        refine y_getR d_325_50 fl_11_66 rfl kd_78 rr_78_35 ?_
        refine x_iload_n d_325_53 rfl 3 rfl ?_
        obtain ⟨g9, h⟩ := gd_inv h
        refine y_iald d_325_54 kd_96 g9 ?_
        refine x_aload_n d_325_55 rfl 0 rfl ?_
        refine y_getR d_325_56 fl_11_72 rfl kd_78 rr_78_37 ?_
        refine x_iload_n d_325_59 rfl 3 rfl ?_
        obtain ⟨g10, h⟩ := gd_inv h
        refine y_iald d_325_60 kd_98 g10 ?_
        refine x_iadd d_325_61 ?_
        refine x_icmp_ge (tgt := 69) d_325_62 rfl (fun c11 => ?_) (fun c11 => ?_)
        · replace h := ite_t c11 h
          refine y_pick (L1 := [(0, .ref 78), (1, .int z1), (3, .int w3)]) [0, 1, 3] rfl ?_
          exact J69 w3 w2 _ h
        · replace h := ite_f c11 h
          refine x_iconst d_325_65 ic_1 ?_
          refine x_goto (tgt := 70) d_325_66 rfl ?_
          refine y_pick (L1 := [(0, .ref 78), (1, .int z1), (3, .int w3)]) [0, 1, 3] rfl ?_
          exact J70 w3 w2 (1 : Int32) _ h
set_option maxRecDepth 100000 in
set_option maxHeartbeats 4000000 in
theorem c_325 {X : Nat × (Nat → Int32)} {D F G : Nat} (hD : 1 ≤ D) {S : St} {p1 : Int32} {res : Int32} (h : fM_sayersOf F G S p1 = some res) : Ek X (D) m325 0 [(0, .ref 78), (1, .int p1)] [] S (some (.int res)) S := by
  obtain ⟨D, rfl⟩ : ∃ E, D = E + 1 := ⟨D - 1, by omega⟩
  unfold fM_sayersOf at h
  refine x_iconst d_325_0 ic_0 ?_
  refine x_istore_n (L1 := [(0, .ref 78), (1, .int p1), (2, .int (0 : Int32))]) d_325_1 rfl (Nat.le_of_ble_eq_true rfl) rfl rfl ?_
  refine x_iconst d_325_2 ic_0 ?_
  refine x_istore_n (L1 := [(0, .ref 78), (1, .int p1), (2, .int (0 : Int32)), (3, .int (0 : Int32))]) d_325_3 rfl (Nat.le_of_ble_eq_true rfl) rfl rfl ?_
  refine T_325_4 (by omega)   F (0 : Int32) (0 : Int32) _ h
/-! NinetyPlayersModel.counts -/
def fM_counts (F G : Nat) (S : St) (p1 : Int32) (p2 : Int32) : Option (Int32) :=
  gd (inB p1 30) (if p2 < (S.1 110 p1.toNatClampNeg) then some (0 : Int32) else gd (inB p1 30) (if (S.1 111 p1.toNatClampNeg) < 0 then some (1 : Int32) else gd (inB p1 30) (if (S.1 111 p1.toNatClampNeg) ≤ p2 then some (0 : Int32) else some (1 : Int32))))
set_option maxRecDepth 100000 in
set_option maxHeartbeats 4000000 in
theorem c_326 {X : Nat × (Nat → Int32)} {D F G : Nat} (hD : 0 ≤ D) {S : St} {p1 : Int32} {p2 : Int32} {res : Int32} (h : fM_counts F G S p1 p2 = some res) : Ek X (D) m326 0 [(0, .ref 78), (1, .int p1), (2, .int p2)] [] S (some (.int res)) S := by
  unfold fM_counts at h
  refine x_aload_n d_326_0 rfl 0 rfl ?_
  refine y_getR d_326_1 fl_11_123 rfl kd_78 rr_78_71 ?_
  refine x_iload_n d_326_4 rfl 1 rfl ?_
  obtain ⟨g1, h⟩ := gd_inv h
  refine y_iald d_326_5 kd_110 g1 ?_
  refine x_iload_n d_326_6 rfl 2 rfl ?_
  refine x_icmp_gt (tgt := 33) d_326_7 rfl (fun c2 => ?_) (fun c2 => ?_)
  · replace h := ite_t c2 h
    refine x_iconst d_326_33 ic_0 ?_
    obtain rfl := Option.some.inj h
    exact x_ret (r := some (.int (0 : Int32))) d_326_34 ⟨_, rfl, rfl⟩
  · replace h := ite_f c2 h
    refine x_aload_n d_326_10 rfl 0 rfl ?_
    refine y_getR d_326_11 fl_11_126 rfl kd_78 rr_78_72 ?_
    refine x_iload_n d_326_14 rfl 1 rfl ?_
    obtain ⟨g3, h⟩ := gd_inv h
    refine y_iald d_326_15 kd_111 g3 ?_
    refine x_if_lt (tgt := 29) d_326_16 rfl (fun c4 => ?_) (fun c4 => ?_)
    · replace h := ite_t c4 h
      refine x_iconst d_326_29 ic_1 ?_
      refine x_goto (tgt := 34) d_326_30 rfl ?_
      obtain rfl := Option.some.inj h
      exact x_ret (r := some (.int (1 : Int32))) d_326_34 ⟨_, rfl, rfl⟩
    · replace h := ite_f c4 h
      refine x_aload_n d_326_19 rfl 0 rfl ?_
      refine y_getR d_326_20 fl_11_126 rfl kd_78 rr_78_72 ?_
      refine x_iload_n d_326_23 rfl 1 rfl ?_
      obtain ⟨g5, h⟩ := gd_inv h
      refine y_iald d_326_24 kd_111 g5 ?_
      refine x_iload_n d_326_25 rfl 2 rfl ?_
      refine x_icmp_le (tgt := 33) d_326_26 rfl (fun c6 => ?_) (fun c6 => ?_)
      · replace h := ite_t c6 h
        refine x_iconst d_326_33 ic_0 ?_
        obtain rfl := Option.some.inj h
        exact x_ret (r := some (.int (0 : Int32))) d_326_34 ⟨_, rfl, rfl⟩
      · replace h := ite_f c6 h
        refine x_iconst d_326_29 ic_1 ?_
        refine x_goto (tgt := 34) d_326_30 rfl ?_
        obtain rfl := Option.some.inj h
        exact x_ret (r := some (.int (1 : Int32))) d_326_34 ⟨_, rfl, rfl⟩
/-! NinetyPlayersModel.laySets -/
def b_324_4 (F G : Nat) (z1 : Int32) (z2 : Int32) (k29 : St → Option (Int32 × St)) (rec : Int32 → St → Option (Int32 × St)) (w3 : Int32) (S : St) : Option (Int32 × St) :=
  if (S.1 78 74) ≤ w3 then k29 S else bd (fM_sayersOf F G S w3) fun v3 => gd (inB w3 30) (lt (sI S 113 w3.toNatClampNeg v3) fun S5 => lt (w3 + 1) fun v7 => rec v7 S5)
def b_324_31 (F G : Nat) (z1 : Int32) (z2 : Int32) (k50 : St → Option (Int32 × St)) (rec : Int32 → St → Option (Int32 × St)) (w3 : Int32) (S : St) : Option (Int32 × St) :=
  if (10 : Int32) ≤ w3 then k50 S else gd (inB w3 10) (lt (sI S 114 w3.toNatClampNeg (0 : Int32)) fun S12 => lt (w3 + 1) fun v14 => rec v14 S12)
def j_324_109 (F G : Nat) (S : St) (z1 : Int32) (z2 : Int32) (z3 : Int32) (k132 : Int32 → Option (Int32 × St)) (rec : Int32 → Int32 → Option (Int32 × St)) (_ : St) (y5 : Int32) (s0 : Int32) : Option (Int32 × St) :=
  gd (inB y5 30) (if s0 = (S.1 112 y5.toNatClampNeg) then lt (y5 + 1) fun v31 => rec (1 : Int32) v31 else lt (y5 + 1) fun v29 => rec (0 : Int32) v29)
def b_324_68 (F G : Nat) (S : St) (z1 : Int32) (z2 : Int32) (z3 : Int32) (k132 : Int32 → Option (Int32 × St)) (rec : Int32 → Int32 → Option (Int32 × St)) (w4 : Int32) (w5 : Int32) : Option (Int32 × St) :=
  if (S.1 78 74) ≤ w5 then k132 w4 else if w4 = 0 then k132 w4 else bd (fM_counts F G S w5 z1) fun v21 => if v21 = 0 then lt (w5 + 1) fun v23 => rec (1 : Int32) v23 else gd (inB w5 30) (if (z3 &&& (S.1 113 w5.toNatClampNeg)) = 0 then j_324_109 F G S z1 z2 z3 k132 rec  S w5 (0 : Int32) else j_324_109 F G S z1 z2 z3 k132 rec  S w5 (1 : Int32))
def b_324_146 (F G : Nat) (z1 : Int32) (z2 : Int32) (z3 : Int32) (k177 : St → Option (Int32 × St)) (rec : Int32 → St → Option (Int32 × St)) (w5 : Int32) (S : St) : Option (Int32 × St) :=
  if (S.1 78 48) ≤ w5 then k177 S else gd (inB w5 10) (gd (inB w5 10) (lt (sI S 114 w5.toNatClampNeg ((S.1 114 w5.toNatClampNeg) + ((z3 >>> (w5 &&& 31)) &&& (1 : Int32)))) fun S40 => lt (w5 + 1) fun v42 => rec v42 S40))
def j_324_132 (F G : Nat) (z1 : Int32) (rec : Int32 → Int32 → St → Option (Int32 × St)) (S : St) (y2 : Int32) (y3 : Int32) (y4 : Int32) : Option (Int32 × St) :=
  if y4 = 0 then lt (y3 + 1) fun v47 => rec y2 v47 S else lt (y2 + 1) fun v35 => fx2 (b_324_146 F G z1 v35 y3 (fun S44 => lt (y3 + 1) fun v45 => rec v35 v45 S44)) F (0 : Int32) S
def b_324_52 (F G : Nat) (z1 : Int32) (rec : Int32 → Int32 → St → Option (Int32 × St)) (w2 : Int32) (w3 : Int32) (S : St) : Option (Int32 × St) :=
  if ((1 : Int32) <<< ((S.1 78 48) &&& 31)) ≤ w3 then some (w2, S) else fx2 (b_324_68 F G S z1 w2 w3 (fun v33 => j_324_132 F G z1 rec  S w2 w3 v33)) F (1 : Int32) (0 : Int32)
def fM_laySets (F G : Nat) (S : St) (p1 : Int32) : Option (Int32 × St) :=
  fx2 (b_324_4 F G p1 (0 : Int32) (fun S9 => fx2 (b_324_31 F G p1 (0 : Int32) (fun S16 => fx3 (b_324_52 F G p1) F (0 : Int32) (0 : Int32) S16)) F (0 : Int32) S9)) F (0 : Int32) S
set_option maxRecDepth 100000 in
set_option maxHeartbeats 4000000 in
theorem T_324_4 {X : Nat × (Nat → Int32)} {D F G : Nat} (hD : 2 ≤ D + 1) {z1 : Int32} {z2 : Int32} {k29 : St → Option (Int32 × St)} (hk29 : ∀ (S1 : St) (res : Int32 × St), k29 S1 = some res → Ek X (D + 1) m324 29 [(0, .ref 78), (1, .int z1), (2, .int z2)] [] S1 (some (.int res.1)) res.2) : ∀ (f : Nat) (w3 : Int32) (S : St) (res : Int32 × St), fx2 (b_324_4 F G z1 z2 k29 ) f w3 S = some res → Ek X (D + 1) m324 4 [(0, .ref 78), (1, .int z1), (2, .int z2), (3, .int w3)] [] S (some (.int res.1)) res.2 := by
  refine fx2_ind ?_
  intro rec ih w3 S res h
  unfold b_324_4 at h
  refine x_iload_n d_324_4 rfl 3 rfl ?_
  refine x_aload_n d_324_5 rfl 0 rfl ?_
  refine y_getI d_324_6 fl_11_423 rfl kd_78 ?_
  refine x_icmp_ge (tgt := 29) d_324_9 rfl (fun c1 => ?_) (fun c1 => ?_)
  · replace h := ite_t c1 h
    refine y_pick (L1 := [(0, .ref 78), (1, .int z1), (2, .int z2)]) [0, 1, 2] rfl ?_
    exact hk29 S _ h
  · replace h := ite_f c1 h
    refine x_aload_n d_324_12 rfl 0 rfl ?_
    refine y_getR d_324_13 fl_11_133 rfl kd_78 rr_78_76 ?_
    refine x_iload_n d_324_16 rfl 3 rfl ?_
    refine x_aload_n d_324_17 rfl 0 rfl ?_
    refine x_iload_n d_324_18 rfl 3 rfl ?_
    obtain ⟨v3, q2, h⟩ := bd_inv h
    refine y_V1i (v := v3) (S1 := S) d_324_19 ml_11_543 kd_78 rfl (Nat.le_of_ble_eq_true rfl) (Nat.le_of_ble_eq_true rfl) (c_325 (by omega) q2) ?_
    obtain ⟨g4, h⟩ := gd_inv h
    obtain ⟨S5, e6, h⟩ := lt_inv h
    refine y_iast e6 d_324_22 kd_113 g4 ?_
    obtain ⟨v7, e8, h⟩ := lt_inv h
    refine y_iinc (L1 := [(0, .ref 78), (1, .int z1), (2, .int z2), (3, .int v7)]) e8 ic_1 d_324_23 3 rfl (Nat.le_of_ble_eq_true rfl) rfl rfl ?_
    refine x_goto (tgt := 4) d_324_26 rfl ?_
    exact ih v7 S5 _ h
set_option maxRecDepth 100000 in
set_option maxHeartbeats 4000000 in
theorem T_324_31 {X : Nat × (Nat → Int32)} {D F G : Nat} (hD : 2 ≤ D + 1) {z1 : Int32} {z2 : Int32} {k50 : St → Option (Int32 × St)} (hk50 : ∀ (S1 : St) (res : Int32 × St), k50 S1 = some res → Ek X (D + 1) m324 50 [(0, .ref 78), (1, .int z1), (2, .int z2)] [] S1 (some (.int res.1)) res.2) : ∀ (f : Nat) (w3 : Int32) (S : St) (res : Int32 × St), fx2 (b_324_31 F G z1 z2 k50 ) f w3 S = some res → Ek X (D + 1) m324 31 [(0, .ref 78), (1, .int z1), (2, .int z2), (3, .int w3)] [] S (some (.int res.1)) res.2 := by
  refine fx2_ind ?_
  intro rec ih w3 S res h
  unfold b_324_31 at h
  refine x_iload_n d_324_31 rfl 3 rfl ?_
  refine x_bipush d_324_32 bp_10 ?_
  refine x_icmp_ge (tgt := 50) d_324_34 rfl (fun c10 => ?_) (fun c10 => ?_)
  · replace h := ite_t c10 h
    refine y_pick (L1 := [(0, .ref 78), (1, .int z1), (2, .int z2)]) [0, 1, 2] rfl ?_
    exact hk50 S _ h
  · replace h := ite_f c10 h
    refine x_aload_n d_324_37 rfl 0 rfl ?_
    refine y_getR d_324_38 fl_11_136 rfl kd_78 rr_78_77 ?_
    refine x_iload_n d_324_41 rfl 3 rfl ?_
    refine x_iconst d_324_42 ic_0 ?_
    obtain ⟨g11, h⟩ := gd_inv h
    obtain ⟨S12, e13, h⟩ := lt_inv h
    refine y_iast e13 d_324_43 kd_114 g11 ?_
    obtain ⟨v14, e15, h⟩ := lt_inv h
    refine y_iinc (L1 := [(0, .ref 78), (1, .int z1), (2, .int z2), (3, .int v14)]) e15 ic_1 d_324_44 3 rfl (Nat.le_of_ble_eq_true rfl) rfl rfl ?_
    refine x_goto (tgt := 31) d_324_47 rfl ?_
    exact ih v14 S12 _ h
set_option maxRecDepth 100000 in
set_option maxHeartbeats 4000000 in
theorem T_324_68 {X : Nat × (Nat → Int32)} {D F G : Nat} (hD : 2 ≤ D + 1) {S : St} {z1 : Int32} {z2 : Int32} {z3 : Int32} {k132 : Int32 → Option (Int32 × St)} (hk132 : ∀ (u4 : Int32) (res : Int32 × St), k132 u4 = some res → Ek X (D + 1) m324 132 [(0, .ref 78), (1, .int z1), (2, .int z2), (3, .int z3), (4, .int u4)] [] S (some (.int res.1)) res.2) : ∀ (f : Nat) (w4 : Int32) (w5 : Int32) (res : Int32 × St), fx2 (b_324_68 F G S z1 z2 z3 k132 ) f w4 w5 = some res → Ek X (D + 1) m324 68 [(0, .ref 78), (1, .int z1), (2, .int z2), (3, .int z3), (4, .int w4), (5, .int w5)] [] S (some (.int res.1)) res.2 := by
  refine fx2_ind ?_
  intro rec ih w4 w5 res h
  unfold b_324_68 at h
  have J109 : ∀ (y5 : Int32) (s0 : Int32) (res : Int32 × St), j_324_109 F G S z1 z2 z3 k132 rec S y5 s0 = some res → Ek X (D + 1) m324 109 [(0, .ref 78), (1, .int z1), (2, .int z2), (3, .int z3), (5, .int y5)] [.int s0] S (some (.int res.1)) res.2 := by
    intro y5 s0 res h
    unfold j_324_109 at h
    refine x_aload_n d_324_109 rfl 0 rfl ?_
    refine y_getR d_324_110 fl_11_129 rfl kd_78 rr_78_73 ?_
    refine x_iload d_324_113 4 rfl ?_
    obtain ⟨g27, h⟩ := gd_inv h
    refine y_zald d_324_115 kd_112 g27 ?_
    refine x_icmp_ne (tgt := 123) d_324_116 rfl (fun c28 => ?_) (fun c28 => ?_)
    · replace h := ite_f c28 h
      refine x_iconst d_324_123 ic_0 ?_
      refine x_istore (L1 := [(0, .ref 78), (1, .int z1), (2, .int z2), (3, .int z3), (4, .int (0 : Int32)), (5, .int y5)]) d_324_124 (Nat.le_of_ble_eq_true rfl) rfl rfl ?_
      obtain ⟨v29, e30, h⟩ := lt_inv h
      refine y_iinc (L1 := [(0, .ref 78), (1, .int z1), (2, .int z2), (3, .int z3), (4, .int (0 : Int32)), (5, .int v29)]) e30 ic_1 d_324_126 5 rfl (Nat.le_of_ble_eq_true rfl) rfl rfl ?_
      refine x_goto (tgt := 68) d_324_129 rfl ?_
      exact ih (0 : Int32) v29 _ h
    · replace h := ite_t c28 h
      refine x_iconst d_324_119 ic_1 ?_
      refine x_goto (tgt := 124) d_324_120 rfl ?_
      refine x_istore (L1 := [(0, .ref 78), (1, .int z1), (2, .int z2), (3, .int z3), (4, .int (1 : Int32)), (5, .int y5)]) d_324_124 (Nat.le_of_ble_eq_true rfl) rfl rfl ?_
      obtain ⟨v31, e32, h⟩ := lt_inv h
      refine y_iinc (L1 := [(0, .ref 78), (1, .int z1), (2, .int z2), (3, .int z3), (4, .int (1 : Int32)), (5, .int v31)]) e32 ic_1 d_324_126 5 rfl (Nat.le_of_ble_eq_true rfl) rfl rfl ?_
      refine x_goto (tgt := 68) d_324_129 rfl ?_
      exact ih (1 : Int32) v31 _ h
  refine x_iload d_324_68 5 rfl ?_
  refine x_aload_n d_324_70 rfl 0 rfl ?_
  refine y_getI d_324_71 fl_11_423 rfl kd_78 ?_
  refine x_icmp_ge (tgt := 132) d_324_74 rfl (fun c18 => ?_) (fun c18 => ?_)
  · replace h := ite_t c18 h
    refine y_pick (L1 := [(0, .ref 78), (1, .int z1), (2, .int z2), (3, .int z3), (4, .int w4)]) [0, 1, 2, 3, 4] rfl ?_
    exact hk132 w4 _ h
  · replace h := ite_f c18 h
    refine x_iload d_324_77 4 rfl ?_
    refine x_if_eq (tgt := 132) d_324_79 rfl (fun c19 => ?_) (fun c19 => ?_)
    · replace h := ite_t c19 h
      refine y_pick (L1 := [(0, .ref 78), (1, .int z1), (2, .int z2), (3, .int z3), (4, .int w4)]) [0, 1, 2, 3, 4] rfl ?_
      exact hk132 w4 _ h
    · replace h := ite_f c19 h
      refine x_aload_n d_324_82 rfl 0 rfl ?_
      refine x_iload d_324_83 5 rfl ?_
      refine x_iload_n d_324_85 rfl 1 rfl ?_
      obtain ⟨v21, q20, h⟩ := bd_inv h
      refine y_V2i (v := v21) (S1 := S) d_324_86 ml_11_546 kd_78 rfl (Nat.le_of_ble_eq_true rfl) (Nat.le_of_ble_eq_true rfl) (c_326 (by omega) q20) ?_
      refine x_if_eq (tgt := 119) d_324_89 rfl (fun c22 => ?_) (fun c22 => ?_)
      · replace h := ite_t c22 h
        refine x_iconst d_324_119 ic_1 ?_
        refine x_goto (tgt := 124) d_324_120 rfl ?_
        refine x_istore (L1 := [(0, .ref 78), (1, .int z1), (2, .int z2), (3, .int z3), (4, .int (1 : Int32)), (5, .int w5)]) d_324_124 (Nat.le_of_ble_eq_true rfl) rfl rfl ?_
        obtain ⟨v23, e24, h⟩ := lt_inv h
        refine y_iinc (L1 := [(0, .ref 78), (1, .int z1), (2, .int z2), (3, .int z3), (4, .int (1 : Int32)), (5, .int v23)]) e24 ic_1 d_324_126 5 rfl (Nat.le_of_ble_eq_true rfl) rfl rfl ?_
        refine x_goto (tgt := 68) d_324_129 rfl ?_
        exact ih (1 : Int32) v23 _ h
      · replace h := ite_f c22 h
        refine x_iload_n d_324_92 rfl 3 rfl ?_
        refine x_aload_n d_324_93 rfl 0 rfl ?_
        refine y_getR d_324_94 fl_11_133 rfl kd_78 rr_78_76 ?_
        refine x_iload d_324_97 5 rfl ?_
        obtain ⟨g25, h⟩ := gd_inv h
        refine y_iald d_324_99 kd_113 g25 ?_
        refine x_iand d_324_100 ?_
        refine x_if_eq (tgt := 108) d_324_101 rfl (fun c26 => ?_) (fun c26 => ?_)
        · replace h := ite_t c26 h
          refine x_iconst d_324_108 ic_0 ?_
          refine y_pick (L1 := [(0, .ref 78), (1, .int z1), (2, .int z2), (3, .int z3), (5, .int w5)]) [0, 1, 2, 3, 5] rfl ?_
          exact J109 w5 (0 : Int32) _ h
        · replace h := ite_f c26 h
          refine x_iconst d_324_104 ic_1 ?_
          refine x_goto (tgt := 109) d_324_105 rfl ?_
          refine y_pick (L1 := [(0, .ref 78), (1, .int z1), (2, .int z2), (3, .int z3), (5, .int w5)]) [0, 1, 2, 3, 5] rfl ?_
          exact J109 w5 (1 : Int32) _ h
set_option maxRecDepth 100000 in
set_option maxHeartbeats 4000000 in
theorem T_324_146 {X : Nat × (Nat → Int32)} {D F G : Nat} (hD : 2 ≤ D + 1) {z1 : Int32} {z2 : Int32} {z3 : Int32} {k177 : St → Option (Int32 × St)} (hk177 : ∀ (S1 : St) (res : Int32 × St), k177 S1 = some res → Ek X (D + 1) m324 177 [(0, .ref 78), (1, .int z1), (2, .int z2), (3, .int z3)] [] S1 (some (.int res.1)) res.2) : ∀ (f : Nat) (w5 : Int32) (S : St) (res : Int32 × St), fx2 (b_324_146 F G z1 z2 z3 k177 ) f w5 S = some res → Ek X (D + 1) m324 146 [(0, .ref 78), (1, .int z1), (2, .int z2), (3, .int z3), (5, .int w5)] [] S (some (.int res.1)) res.2 := by
  refine fx2_ind ?_
  intro rec ih w5 S res h
  unfold b_324_146 at h
  refine x_iload d_324_146 4 rfl ?_
  refine x_aload_n d_324_148 rfl 0 rfl ?_
  refine y_getI d_324_149 fl_11_322 rfl kd_78 ?_
  refine x_icmp_ge (tgt := 177) d_324_152 rfl (fun c37 => ?_) (fun c37 => ?_)
  · replace h := ite_t c37 h
    refine y_pick (L1 := [(0, .ref 78), (1, .int z1), (2, .int z2), (3, .int z3)]) [0, 1, 2, 3] rfl ?_
    exact hk177 S _ h
  · replace h := ite_f c37 h
    refine x_aload_n d_324_155 rfl 0 rfl ?_
    refine y_getR d_324_156 fl_11_136 rfl kd_78 rr_78_77 ?_
    refine x_iload d_324_159 4 rfl ?_
    refine x_dup2 d_324_161 rfl rfl ?_
    obtain ⟨g38, h⟩ := gd_inv h
    refine y_iald d_324_162 kd_114 g38 ?_
    refine x_iload_n d_324_163 rfl 3 rfl ?_
    refine x_iload d_324_164 4 rfl ?_
    refine x_ishr d_324_166 ?_
    refine x_iconst d_324_167 ic_1 ?_
    refine x_iand d_324_168 ?_
    refine x_iadd d_324_169 ?_
    obtain ⟨g39, h⟩ := gd_inv h
    obtain ⟨S40, e41, h⟩ := lt_inv h
    refine y_iast e41 d_324_170 kd_114 g39 ?_
    obtain ⟨v42, e43, h⟩ := lt_inv h
    refine y_iinc (L1 := [(0, .ref 78), (1, .int z1), (2, .int z2), (3, .int z3), (5, .int v42)]) e43 ic_1 d_324_171 4 rfl (Nat.le_of_ble_eq_true rfl) rfl rfl ?_
    refine x_goto (tgt := 146) d_324_174 rfl ?_
    exact ih v42 S40 _ h
set_option maxRecDepth 100000 in
set_option maxHeartbeats 4000000 in
theorem T_324_52 {X : Nat × (Nat → Int32)} {D F G : Nat} (hD : 2 ≤ D + 1) {z1 : Int32} : ∀ (f : Nat) (w2 : Int32) (w3 : Int32) (S : St) (res : Int32 × St), fx3 (b_324_52 F G z1 ) f w2 w3 S = some res → Ek X (D + 1) m324 52 [(0, .ref 78), (1, .int z1), (2, .int w2), (3, .int w3)] [] S (some (.int res.1)) res.2 := by
  refine fx3_ind ?_
  intro rec ih w2 w3 S res h
  unfold b_324_52 at h
  have J132 : ∀ (S : St) (y2 : Int32) (y3 : Int32) (y4 : Int32) (res : Int32 × St), j_324_132 F G z1 rec S y2 y3 y4 = some res → Ek X (D + 1) m324 132 [(0, .ref 78), (1, .int z1), (2, .int y2), (3, .int y3), (4, .int y4)] [] S (some (.int res.1)) res.2 := by
    intro S y2 y3 y4 res h
    unfold j_324_132 at h
    refine x_iload d_324_132 4 rfl ?_
    refine x_if_ne (tgt := 140) d_324_134 rfl (fun c34 => ?_) (fun c34 => ?_)
    · replace h := ite_f c34 h
      obtain ⟨v35, e36, h⟩ := lt_inv h
      refine y_iinc (L1 := [(0, .ref 78), (1, .int z1), (2, .int v35), (3, .int y3), (4, .int y4)]) e36 ic_1 d_324_140 2 rfl (Nat.le_of_ble_eq_true rfl) rfl rfl ?_
      refine x_iconst d_324_143 ic_0 ?_
      refine x_istore (L1 := [(0, .ref 78), (1, .int z1), (2, .int v35), (3, .int y3), (4, .int y4), (5, .int (0 : Int32))]) d_324_144 (Nat.le_of_ble_eq_true rfl) rfl rfl ?_
      refine y_pick (L1 := [(0, .ref 78), (1, .int z1), (2, .int v35), (3, .int y3), (5, .int (0 : Int32))]) [0, 1, 2, 3, 5] rfl ?_
      refine T_324_146 (by omega)  ?_ F (0 : Int32) S _ h
      · intro S44 res h
        obtain ⟨v45, e46, h⟩ := lt_inv h
        refine y_iinc (L1 := [(0, .ref 78), (1, .int z1), (2, .int v35), (3, .int v45)]) e46 ic_1 d_324_177 3 rfl (Nat.le_of_ble_eq_true rfl) rfl rfl ?_
        refine x_goto (tgt := 52) d_324_180 rfl ?_
        exact ih v35 v45 S44 _ h
    · replace h := ite_t c34 h
      refine x_goto (tgt := 177) d_324_137 rfl ?_
      obtain ⟨v47, e48, h⟩ := lt_inv h
      refine y_iinc (L1 := [(0, .ref 78), (1, .int z1), (2, .int y2), (3, .int v47), (4, .int y4)]) e48 ic_1 d_324_177 3 rfl (Nat.le_of_ble_eq_true rfl) rfl rfl ?_
      refine x_goto (tgt := 52) d_324_180 rfl ?_
      refine y_pick (L1 := [(0, .ref 78), (1, .int z1), (2, .int y2), (3, .int v47)]) [0, 1, 2, 3] rfl ?_
      exact ih y2 v47 S _ h
  refine x_iload_n d_324_52 rfl 3 rfl ?_
  refine x_iconst d_324_53 ic_1 ?_
  refine x_aload_n d_324_54 rfl 0 rfl ?_
  refine y_getI d_324_55 fl_11_322 rfl kd_78 ?_
  refine x_ishl d_324_58 ?_
  refine x_icmp_ge (tgt := 183) d_324_59 rfl (fun c17 => ?_) (fun c17 => ?_)
  · replace h := ite_t c17 h
    refine x_iload_n d_324_183 rfl 2 rfl ?_
    obtain rfl := Option.some.inj h
    exact x_ret (r := some (.int w2)) d_324_184 ⟨_, rfl, rfl⟩
  · replace h := ite_f c17 h
    refine x_iconst d_324_62 ic_1 ?_
    refine x_istore (L1 := [(0, .ref 78), (1, .int z1), (2, .int w2), (3, .int w3), (4, .int (1 : Int32))]) d_324_63 (Nat.le_of_ble_eq_true rfl) rfl rfl ?_
    refine x_iconst d_324_65 ic_0 ?_
    refine x_istore (L1 := [(0, .ref 78), (1, .int z1), (2, .int w2), (3, .int w3), (4, .int (1 : Int32)), (5, .int (0 : Int32))]) d_324_66 (Nat.le_of_ble_eq_true rfl) rfl rfl ?_
    refine T_324_68 (by omega)  ?_ F (1 : Int32) (0 : Int32) _ h
    · intro v33 res h
      exact J132 S w2 w3 v33 _ h
set_option maxRecDepth 100000 in
set_option maxHeartbeats 4000000 in
theorem c_324 {X : Nat × (Nat → Int32)} {D F G : Nat} (hD : 2 ≤ D) {S : St} {p1 : Int32} {res : Int32 × St} (h : fM_laySets F G S p1 = some res) : Ek X (D) m324 0 [(0, .ref 78), (1, .int p1)] [] S (some (.int res.1)) res.2 := by
  obtain ⟨D, rfl⟩ : ∃ E, D = E + 1 := ⟨D - 1, by omega⟩
  unfold fM_laySets at h
  refine x_iconst d_324_0 ic_0 ?_
  refine x_istore_n (L1 := [(0, .ref 78), (1, .int p1), (2, .int (0 : Int32))]) d_324_1 rfl (Nat.le_of_ble_eq_true rfl) rfl rfl ?_
  refine x_iconst d_324_2 ic_0 ?_
  refine x_istore_n (L1 := [(0, .ref 78), (1, .int p1), (2, .int (0 : Int32)), (3, .int (0 : Int32))]) d_324_3 rfl (Nat.le_of_ble_eq_true rfl) rfl rfl ?_
  refine T_324_4 (by omega)  ?_ F (0 : Int32) S _ h
  · intro S9 res h
    refine x_iconst d_324_29 ic_0 ?_
    refine x_istore_n (L1 := [(0, .ref 78), (1, .int p1), (2, .int (0 : Int32)), (3, .int (0 : Int32))]) d_324_30 rfl (Nat.le_of_ble_eq_true rfl) rfl rfl ?_
    refine T_324_31 (by omega)  ?_ F (0 : Int32) S9 _ h
    · intro S16 res h
      refine x_iconst d_324_50 ic_0 ?_
      refine x_istore_n (L1 := [(0, .ref 78), (1, .int p1), (2, .int (0 : Int32)), (3, .int (0 : Int32))]) d_324_51 rfl (Nat.le_of_ble_eq_true rfl) rfl rfl ?_
      refine T_324_52 (by omega)   F (0 : Int32) (0 : Int32) S16 _ h
/-! NinetyPlayersModel.sets -/
def fM_sets (F G : Nat) (S : St) (p1 : Int32) : Option (Int32 × St) :=
  bd2 (fM_laySets F G S p1) fun v2 S3 => some (v2, S3)
set_option maxRecDepth 100000 in
set_option maxHeartbeats 4000000 in
theorem c_323 {X : Nat × (Nat → Int32)} {D F G : Nat} (hD : 3 ≤ D) {S : St} {p1 : Int32} {res : Int32 × St} (h : fM_sets F G S p1 = some res) : Ek X (D) m323 0 [(0, .ref 78), (1, .int p1)] [] S (some (.int res.1)) res.2 := by
  obtain ⟨D, rfl⟩ : ∃ E, D = E + 1 := ⟨D - 1, by omega⟩
  unfold fM_sets at h
  refine x_aload_n d_323_0 rfl 0 rfl ?_
  refine x_iload_n d_323_1 rfl 1 rfl ?_
  obtain ⟨v2, S3, q1, h⟩ := bd2_inv h
  refine y_V1i (v := v2) (S1 := S3) d_323_2 ml_11_550 kd_78 rfl (Nat.le_of_ble_eq_true rfl) (Nat.le_of_ble_eq_true rfl) (c_324 (by omega) q1) ?_
  obtain rfl := Option.some.inj h
  exact x_ret (r := some (.int v2)) d_323_5 ⟨_, rfl, rfl⟩
/-! NinetyPlayersModel.sure -/
def fM_sure (F G : Nat) (S : St) (p1 : Int32) (p2 : Int32) : Option (Int32 × St) :=
  bd (fM_isNote F G S p1) fun v2 => if v2 = 0 then some ((-1 : Int32), S) else bd2 (fM_laySets F G S p2) fun v5 S6 => if v5 = 0 then some ((-1 : Int32), S6) else gd (inB p1 10) (if (S6.1 114 p1.toNatClampNeg) = v5 then some ((1 : Int32), S6) else gd (inB p1 10) (if (S6.1 114 p1.toNatClampNeg) = 0 then some ((0 : Int32), S6) else some ((-2 : Int32), S6)))
set_option maxRecDepth 100000 in
set_option maxHeartbeats 4000000 in
theorem c_327 {X : Nat × (Nat → Int32)} {D F G : Nat} (hD : 3 ≤ D) {S : St} {p1 : Int32} {p2 : Int32} {res : Int32 × St} (h : fM_sure F G S p1 p2 = some res) : Ek X (D) m327 0 [(0, .ref 78), (1, .int p1), (2, .int p2)] [] S (some (.int res.1)) res.2 := by
  obtain ⟨D, rfl⟩ : ∃ E, D = E + 1 := ⟨D - 1, by omega⟩
  unfold fM_sure at h
  refine x_aload_n d_327_0 rfl 0 rfl ?_
  refine x_iload_n d_327_1 rfl 1 rfl ?_
  obtain ⟨v2, q1, h⟩ := bd_inv h
  refine y_V1i (v := v2) (S1 := S) d_327_2 ml_11_461 kd_78 rfl (Nat.le_of_ble_eq_true rfl) (Nat.le_of_ble_eq_true rfl) (c_249 (by omega) q1) ?_
  refine x_if_ne (tgt := 10) d_327_5 rfl (fun c3 => ?_) (fun c3 => ?_)
  · replace h := ite_f c3 h
    refine x_aload_n d_327_10 rfl 0 rfl ?_
    refine x_iload_n d_327_11 rfl 2 rfl ?_
    obtain ⟨v5, S6, q4, h⟩ := bd2_inv h
    refine y_V1i (v := v5) (S1 := S6) d_327_12 ml_11_550 kd_78 rfl (Nat.le_of_ble_eq_true rfl) (Nat.le_of_ble_eq_true rfl) (c_324 (by omega) q4) ?_
    refine x_istore_n (L1 := [(0, .ref 78), (1, .int p1), (2, .int p2), (3, .int v5)]) d_327_15 rfl (Nat.le_of_ble_eq_true rfl) rfl rfl ?_
    refine x_iload_n d_327_16 rfl 3 rfl ?_
    refine x_if_ne (tgt := 24) d_327_17 rfl (fun c7 => ?_) (fun c7 => ?_)
    · replace h := ite_f c7 h
      refine x_aload_n d_327_24 rfl 0 rfl ?_
      refine y_getR d_327_25 fl_11_136 rfl kd_78 rr_78_77 ?_
      refine x_iload_n d_327_28 rfl 1 rfl ?_
      obtain ⟨g8, h⟩ := gd_inv h
      refine y_iald d_327_29 kd_114 g8 ?_
      refine x_iload_n d_327_30 rfl 3 rfl ?_
      refine x_icmp_ne (tgt := 38) d_327_31 rfl (fun c9 => ?_) (fun c9 => ?_)
      · replace h := ite_f c9 h
        refine x_aload_n d_327_38 rfl 0 rfl ?_
        refine y_getR d_327_39 fl_11_136 rfl kd_78 rr_78_77 ?_
        refine x_iload_n d_327_42 rfl 1 rfl ?_
        obtain ⟨g10, h⟩ := gd_inv h
        refine y_iald d_327_43 kd_114 g10 ?_
        refine x_if_ne (tgt := 51) d_327_44 rfl (fun c11 => ?_) (fun c11 => ?_)
        · replace h := ite_f c11 h
          refine x_bipush d_327_51 bp_m2 ?_
          obtain rfl := Option.some.inj h
          exact x_ret (r := some (.int (-2 : Int32))) d_327_53 ⟨_, rfl, rfl⟩
        · replace h := ite_t c11 h
          refine x_iconst d_327_47 ic_0 ?_
          refine x_goto (tgt := 53) d_327_48 rfl ?_
          obtain rfl := Option.some.inj h
          exact x_ret (r := some (.int (0 : Int32))) d_327_53 ⟨_, rfl, rfl⟩
      · replace h := ite_t c9 h
        refine x_iconst d_327_34 ic_1 ?_
        refine x_goto (tgt := 53) d_327_35 rfl ?_
        obtain rfl := Option.some.inj h
        exact x_ret (r := some (.int (1 : Int32))) d_327_53 ⟨_, rfl, rfl⟩
    · replace h := ite_t c7 h
      refine x_iconst d_327_20 ic_m1 ?_
      refine x_goto (tgt := 53) d_327_21 rfl ?_
      obtain rfl := Option.some.inj h
      exact x_ret (r := some (.int (-1 : Int32))) d_327_53 ⟨_, rfl, rfl⟩
  · replace h := ite_t c3 h
    refine x_iconst d_327_8 ic_m1 ?_
    obtain rfl := Option.some.inj h
    exact x_ret (r := some (.int (-1 : Int32))) d_327_9 ⟨_, rfl, rfl⟩
/-! NinetyPlayersModel.ask -/
def b_328_36 (F G : Nat) (S : St) (z1 : Int32) (z3 : Int32) (k101 : Int32 → Option (Int32 × St)) (rec : Int32 → Int32 → Option (Int32 × St)) (w4 : Int32) (w5 : Int32) : Option (Int32 × St) :=
  if (S.1 78 48) ≤ w5 then k101 w4 else gd (inB w5 10) (gd (inB w5 10) (bd (fM_greater F G S (S.1 114 w5.toNatClampNeg) (z3 - (S.1 114 w5.toNatClampNeg))) fun v13 => gd (inB w4 10) (gd (inB w4 10) (bd (fM_greater F G S (S.1 114 w4.toNatClampNeg) (z3 - (S.1 114 w4.toNatClampNeg))) fun v17 => if v17 ≤ v13 then lt (w5 + 1) fun v19 => rec w4 v19 else lt (w5 + 1) fun v21 => rec w5 v21))))
def fM_ask (F G : Nat) (S : St) (p1 : Int32) (p2 : Int32) : Option (Int32 × St) :=
  bd (fM_isIn F G S p1 (0 : Int32) (1 : Int32)) fun v2 => if v2 = 0 then some ((-1 : Int32), S) else if (S.1 78 48) = 0 then some ((-1 : Int32), S) else bd2 (fM_laySets F G S p2) fun v6 S7 => if v6 = 0 then some ((-1 : Int32), S7) else fx2 (b_328_36 F G S7 p1 v6 (fun v23 => if p1 = 0 then some (v23, S7) else gd (inB v23 10) (gd (inB v23 10) (bd (fM_greater F G S7 (S7.1 114 v23.toNatClampNeg) (v6 - (S7.1 114 v23.toNatClampNeg))) fun v28 => some (v28, S7))))) F (0 : Int32) (1 : Int32)
set_option maxRecDepth 100000 in
set_option maxHeartbeats 4000000 in
theorem T_328_36 {X : Nat × (Nat → Int32)} {D F G : Nat} (hD : 3 ≤ D + 1) {S : St} {z1 : Int32} {z3 : Int32} {k101 : Int32 → Option (Int32 × St)} (hk101 : ∀ (u4 : Int32) (res : Int32 × St), k101 u4 = some res → Ek X (D + 1) m328 101 [(0, .ref 78), (1, .int z1), (3, .int z3), (4, .int u4)] [] S (some (.int res.1)) res.2) : ∀ (f : Nat) (w4 : Int32) (w5 : Int32) (res : Int32 × St), fx2 (b_328_36 F G S z1 z3 k101 ) f w4 w5 = some res → Ek X (D + 1) m328 36 [(0, .ref 78), (1, .int z1), (3, .int z3), (4, .int w4), (5, .int w5)] [] S (some (.int res.1)) res.2 := by
  refine fx2_ind ?_
  intro rec ih w4 w5 res h
  unfold b_328_36 at h
  refine x_iload d_328_36 4 rfl ?_
  refine x_aload_n d_328_38 rfl 0 rfl ?_
  refine y_getI d_328_39 fl_11_322 rfl kd_78 ?_
  refine x_icmp_ge (tgt := 101) d_328_42 rfl (fun c9 => ?_) (fun c9 => ?_)
  · replace h := ite_t c9 h
    refine y_pick (L1 := [(0, .ref 78), (1, .int z1), (3, .int z3), (4, .int w4)]) [0, 1, 2, 3] rfl ?_
    exact hk101 w4 _ h
  · replace h := ite_f c9 h
    refine x_aload_n d_328_45 rfl 0 rfl ?_
    refine y_getR d_328_46 fl_11_136 rfl kd_78 rr_78_77 ?_
    refine x_iload d_328_49 4 rfl ?_
    obtain ⟨g10, h⟩ := gd_inv h
    refine y_iald d_328_51 kd_114 g10 ?_
    refine x_iload_n d_328_52 rfl 2 rfl ?_
    refine x_aload_n d_328_53 rfl 0 rfl ?_
    refine y_getR d_328_54 fl_11_136 rfl kd_78 rr_78_77 ?_
    refine x_iload d_328_57 4 rfl ?_
    obtain ⟨g11, h⟩ := gd_inv h
    refine y_iald d_328_59 kd_114 g11 ?_
    refine x_isub d_328_60 ?_
    obtain ⟨v13, q12, h⟩ := bd_inv h
    refine y_S2i (v := v13) (S1 := S) d_328_61 ml_11_527 (Nat.le_of_ble_eq_true rfl) (Nat.le_of_ble_eq_true rfl) (c_305 (by omega) q12) ?_
    refine x_aload_n d_328_64 rfl 0 rfl ?_
    refine y_getR d_328_65 fl_11_136 rfl kd_78 rr_78_77 ?_
    refine x_iload d_328_68 3 rfl ?_
    obtain ⟨g14, h⟩ := gd_inv h
    refine y_iald d_328_70 kd_114 g14 ?_
    refine x_iload_n d_328_71 rfl 2 rfl ?_
    refine x_aload_n d_328_72 rfl 0 rfl ?_
    refine y_getR d_328_73 fl_11_136 rfl kd_78 rr_78_77 ?_
    refine x_iload d_328_76 3 rfl ?_
    obtain ⟨g15, h⟩ := gd_inv h
    refine y_iald d_328_78 kd_114 g15 ?_
    refine x_isub d_328_79 ?_
    obtain ⟨v17, q16, h⟩ := bd_inv h
    refine y_S2i (v := v17) (S1 := S) d_328_80 ml_11_527 (Nat.le_of_ble_eq_true rfl) (Nat.le_of_ble_eq_true rfl) (c_305 (by omega) q16) ?_
    refine x_icmp_ge (tgt := 91) d_328_83 rfl (fun c18 => ?_) (fun c18 => ?_)
    · replace h := ite_t c18 h
      refine x_iload d_328_91 3 rfl ?_
      refine x_istore (L1 := [(0, .ref 78), (1, .int z1), (3, .int z3), (4, .int w4), (5, .int w5)]) d_328_93 (Nat.le_of_ble_eq_true rfl) rfl rfl ?_
      obtain ⟨v19, e20, h⟩ := lt_inv h
      refine y_iinc (L1 := [(0, .ref 78), (1, .int z1), (3, .int z3), (4, .int w4), (5, .int v19)]) e20 ic_1 d_328_95 4 rfl (Nat.le_of_ble_eq_true rfl) rfl rfl ?_
      refine x_goto (tgt := 36) d_328_98 rfl ?_
      exact ih w4 v19 _ h
    · replace h := ite_f c18 h
      refine x_iload d_328_86 4 rfl ?_
      refine x_goto (tgt := 93) d_328_88 rfl ?_
      refine x_istore (L1 := [(0, .ref 78), (1, .int z1), (3, .int z3), (4, .int w5), (5, .int w5)]) d_328_93 (Nat.le_of_ble_eq_true rfl) rfl rfl ?_
      obtain ⟨v21, e22, h⟩ := lt_inv h
      refine y_iinc (L1 := [(0, .ref 78), (1, .int z1), (3, .int z3), (4, .int w5), (5, .int v21)]) e22 ic_1 d_328_95 4 rfl (Nat.le_of_ble_eq_true rfl) rfl rfl ?_
      refine x_goto (tgt := 36) d_328_98 rfl ?_
      exact ih w5 v21 _ h
set_option maxRecDepth 100000 in
set_option maxHeartbeats 4000000 in
theorem c_328 {X : Nat × (Nat → Int32)} {D F G : Nat} (hD : 3 ≤ D) {S : St} {p1 : Int32} {p2 : Int32} {res : Int32 × St} (h : fM_ask F G S p1 p2 = some res) : Ek X (D) m328 0 [(0, .ref 78), (1, .int p1), (2, .int p2)] [] S (some (.int res.1)) res.2 := by
  obtain ⟨D, rfl⟩ : ∃ E, D = E + 1 := ⟨D - 1, by omega⟩
  unfold fM_ask at h
  refine x_iload_n d_328_0 rfl 1 rfl ?_
  refine x_iconst d_328_1 ic_0 ?_
  refine x_iconst d_328_2 ic_1 ?_
  obtain ⟨v2, q1, h⟩ := bd_inv h
  refine y_S3i (v := v2) (S1 := S) d_328_3 ml_11_429 (Nat.le_of_ble_eq_true rfl) (Nat.le_of_ble_eq_true rfl) (c_250 (by omega) q1) ?_
  refine x_if_eq (tgt := 16) d_328_6 rfl (fun c3 => ?_) (fun c3 => ?_)
  · replace h := ite_t c3 h
    refine x_iconst d_328_16 ic_m1 ?_
    obtain rfl := Option.some.inj h
    exact x_ret (r := some (.int (-1 : Int32))) d_328_17 ⟨_, rfl, rfl⟩
  · replace h := ite_f c3 h
    refine x_aload_n d_328_9 rfl 0 rfl ?_
    refine y_getI d_328_10 fl_11_322 rfl kd_78 ?_
    refine x_if_ne (tgt := 18) d_328_13 rfl (fun c4 => ?_) (fun c4 => ?_)
    · replace h := ite_f c4 h
      refine x_aload_n d_328_18 rfl 0 rfl ?_
      refine x_iload_n d_328_19 rfl 2 rfl ?_
      obtain ⟨v6, S7, q5, h⟩ := bd2_inv h
      refine y_V1i (v := v6) (S1 := S7) d_328_20 ml_11_550 kd_78 rfl (Nat.le_of_ble_eq_true rfl) (Nat.le_of_ble_eq_true rfl) (c_324 (by omega) q5) ?_
      refine x_istore_n (L1 := [(0, .ref 78), (1, .int p1), (2, .int p2), (3, .int v6)]) d_328_23 rfl (Nat.le_of_ble_eq_true rfl) rfl rfl ?_
      refine x_iload_n d_328_24 rfl 3 rfl ?_
      refine x_if_ne (tgt := 30) d_328_25 rfl (fun c8 => ?_) (fun c8 => ?_)
      · replace h := ite_f c8 h
        refine x_iconst d_328_30 ic_0 ?_
        refine x_istore (L1 := [(0, .ref 78), (1, .int p1), (2, .int p2), (3, .int v6), (4, .int (0 : Int32))]) d_328_31 (Nat.le_of_ble_eq_true rfl) rfl rfl ?_
        refine x_iconst d_328_33 ic_1 ?_
        refine x_istore (L1 := [(0, .ref 78), (1, .int p1), (2, .int p2), (3, .int v6), (4, .int (0 : Int32)), (5, .int (1 : Int32))]) d_328_34 (Nat.le_of_ble_eq_true rfl) rfl rfl ?_
        refine y_pick (L1 := [(0, .ref 78), (1, .int p1), (3, .int v6), (4, .int (0 : Int32)), (5, .int (1 : Int32))]) [0, 1, 3, 4, 5] rfl ?_
        refine T_328_36 (by omega)  ?_ F (0 : Int32) (1 : Int32) _ h
        · intro v23 res h
          refine x_iload_n d_328_101 rfl 1 rfl ?_
          refine x_if_ne (tgt := 110) d_328_102 rfl (fun c24 => ?_) (fun c24 => ?_)
          · replace h := ite_f c24 h
            refine x_aload_n d_328_110 rfl 0 rfl ?_
            refine y_getR d_328_111 fl_11_136 rfl kd_78 rr_78_77 ?_
            refine x_iload d_328_114 3 rfl ?_
            obtain ⟨g25, h⟩ := gd_inv h
            refine y_iald d_328_116 kd_114 g25 ?_
            refine x_iload_n d_328_117 rfl 2 rfl ?_
            refine x_aload_n d_328_118 rfl 0 rfl ?_
            refine y_getR d_328_119 fl_11_136 rfl kd_78 rr_78_77 ?_
            refine x_iload d_328_122 3 rfl ?_
            obtain ⟨g26, h⟩ := gd_inv h
            refine y_iald d_328_124 kd_114 g26 ?_
            refine x_isub d_328_125 ?_
            obtain ⟨v28, q27, h⟩ := bd_inv h
            refine y_S2i (v := v28) (S1 := S7) d_328_126 ml_11_527 (Nat.le_of_ble_eq_true rfl) (Nat.le_of_ble_eq_true rfl) (c_305 (by omega) q27) ?_
            obtain rfl := Option.some.inj h
            exact x_ret (r := some (.int v28)) d_328_129 ⟨_, rfl, rfl⟩
          · replace h := ite_t c24 h
            refine x_iload d_328_105 3 rfl ?_
            refine x_goto (tgt := 129) d_328_107 rfl ?_
            obtain rfl := Option.some.inj h
            exact x_ret (r := some (.int v23)) d_328_129 ⟨_, rfl, rfl⟩
      · replace h := ite_t c8 h
        refine x_iconst d_328_28 ic_m1 ?_
        obtain rfl := Option.some.inj h
        exact x_ret (r := some (.int (-1 : Int32))) d_328_29 ⟨_, rfl, rfl⟩
    · replace h := ite_t c4 h
      refine x_iconst d_328_16 ic_m1 ?_
      obtain rfl := Option.some.inj h
      exact x_ret (r := some (.int (-1 : Int32))) d_328_17 ⟨_, rfl, rfl⟩
/-! NinetyPlayersModel.isBox -/
def fM_isBox (F G : Nat) (S : St) (p1 : Int32) : Option (Int32) :=
  if p1 < 0 then some (0 : Int32) else if (3 : Int32) ≤ p1 then some (0 : Int32) else some (1 : Int32)
set_option maxRecDepth 100000 in
set_option maxHeartbeats 4000000 in
theorem c_330 {X : Nat × (Nat → Int32)} {D F G : Nat} (hD : 0 ≤ D) {S : St} {p1 : Int32} {res : Int32} (h : fM_isBox F G S p1 = some res) : Ek X (D) m330 0 [(0, .int p1)] [] S (some (.int res)) S := by
  unfold fM_isBox at h
  refine x_iload_n d_330_0 rfl 0 rfl ?_
  refine x_if_lt (tgt := 13) d_330_1 rfl (fun c1 => ?_) (fun c1 => ?_)
  · replace h := ite_t c1 h
    refine x_iconst d_330_13 ic_0 ?_
    obtain rfl := Option.some.inj h
    exact x_ret (r := some (.int (0 : Int32))) d_330_14 ⟨_, rfl, rfl⟩
  · replace h := ite_f c1 h
    refine x_iload_n d_330_4 rfl 0 rfl ?_
    refine x_iconst d_330_5 ic_3 ?_
    refine x_icmp_ge (tgt := 13) d_330_6 rfl (fun c2 => ?_) (fun c2 => ?_)
    · replace h := ite_t c2 h
      refine x_iconst d_330_13 ic_0 ?_
      obtain rfl := Option.some.inj h
      exact x_ret (r := some (.int (0 : Int32))) d_330_14 ⟨_, rfl, rfl⟩
    · replace h := ite_f c2 h
      refine x_iconst d_330_9 ic_1 ?_
      refine x_goto (tgt := 14) d_330_10 rfl ?_
      obtain rfl := Option.some.inj h
      exact x_ret (r := some (.int (1 : Int32))) d_330_14 ⟨_, rfl, rfl⟩
/-! NinetyPlayersModel.played -/
def b_331_4 (F G : Nat) (S : St) (rec : Int32 → Int32 → Option (Int32)) (w1 : Int32) (w2 : Int32) : Option (Int32) :=
  if (S.1 78 48) ≤ w2 then some w1 else gd (inB w2 41) (if (S.1 100 w2.toNatClampNeg) ≤ 0 then bd (fM_truth F G S (0 : Int32)) fun v5 => lt (w1 + v5) fun v6 => lt (w2 + 1) fun v8 => rec v6 v8 else bd (fM_truth F G S (1 : Int32)) fun v11 => lt (w1 + v11) fun v12 => lt (w2 + 1) fun v14 => rec v12 v14)
def fM_played (F G : Nat) (S : St) : Option (Int32) :=
  fx2 (b_331_4 F G S) F (0 : Int32) (0 : Int32)
set_option maxRecDepth 100000 in
set_option maxHeartbeats 4000000 in
theorem T_331_4 {X : Nat × (Nat → Int32)} {D F G : Nat} (hD : 1 ≤ D + 1) {S : St} : ∀ (f : Nat) (w1 : Int32) (w2 : Int32) (res : Int32), fx2 (b_331_4 F G S ) f w1 w2 = some res → Ek X (D + 1) m331 4 [(0, .ref 78), (1, .int w1), (2, .int w2)] [] S (some (.int res)) S := by
  refine fx2_ind ?_
  intro rec ih w1 w2 res h
  unfold b_331_4 at h
  refine x_iload_n d_331_4 rfl 2 rfl ?_
  refine x_aload_n d_331_5 rfl 0 rfl ?_
  refine y_getI d_331_6 fl_11_322 rfl kd_78 ?_
  refine x_icmp_ge (tgt := 38) d_331_9 rfl (fun c1 => ?_) (fun c1 => ?_)
  · replace h := ite_t c1 h
    refine x_iload_n d_331_38 rfl 1 rfl ?_
    obtain rfl := Option.some.inj h
    exact x_ret (r := some (.int w1)) d_331_39 ⟨_, rfl, rfl⟩
  · replace h := ite_f c1 h
    refine x_iload_n d_331_12 rfl 1 rfl ?_
    refine x_aload_n d_331_13 rfl 0 rfl ?_
    refine y_getR d_331_14 fl_11_93 rfl kd_78 rr_78_58 ?_
    refine x_iload_n d_331_17 rfl 2 rfl ?_
    obtain ⟨g2, h⟩ := gd_inv h
    refine y_iald d_331_18 kd_100 g2 ?_
    refine x_if_le (tgt := 26) d_331_19 rfl (fun c3 => ?_) (fun c3 => ?_)
    · replace h := ite_t c3 h
      refine x_iconst d_331_26 ic_0 ?_
      obtain ⟨v5, q4, h⟩ := bd_inv h
      refine y_S1i (v := v5) (S1 := S) d_331_27 ml_11_318 (Nat.le_of_ble_eq_true rfl) (Nat.le_of_ble_eq_true rfl) (c_229 (by omega) q4) ?_
      refine x_iadd d_331_30 ?_
      obtain ⟨v6, e7, h⟩ := lt_inv h
      refine y_istore_n (L1 := [(0, .ref 78), (1, .int v6), (2, .int w2)]) e7 d_331_31 rfl (Nat.le_of_ble_eq_true rfl) rfl rfl ?_
      obtain ⟨v8, e9, h⟩ := lt_inv h
      refine y_iinc (L1 := [(0, .ref 78), (1, .int v6), (2, .int v8)]) e9 ic_1 d_331_32 2 rfl (Nat.le_of_ble_eq_true rfl) rfl rfl ?_
      refine x_goto (tgt := 4) d_331_35 rfl ?_
      exact ih v6 v8 _ h
    · replace h := ite_f c3 h
      refine x_iconst d_331_22 ic_1 ?_
      refine x_goto (tgt := 27) d_331_23 rfl ?_
      obtain ⟨v11, q10, h⟩ := bd_inv h
      refine y_S1i (v := v11) (S1 := S) d_331_27 ml_11_318 (Nat.le_of_ble_eq_true rfl) (Nat.le_of_ble_eq_true rfl) (c_229 (by omega) q10) ?_
      refine x_iadd d_331_30 ?_
      obtain ⟨v12, e13, h⟩ := lt_inv h
      refine y_istore_n (L1 := [(0, .ref 78), (1, .int v12), (2, .int w2)]) e13 d_331_31 rfl (Nat.le_of_ble_eq_true rfl) rfl rfl ?_
      obtain ⟨v14, e15, h⟩ := lt_inv h
      refine y_iinc (L1 := [(0, .ref 78), (1, .int v12), (2, .int v14)]) e15 ic_1 d_331_32 2 rfl (Nat.le_of_ble_eq_true rfl) rfl rfl ?_
      refine x_goto (tgt := 4) d_331_35 rfl ?_
      exact ih v12 v14 _ h
set_option maxRecDepth 100000 in
set_option maxHeartbeats 4000000 in
theorem c_331 {X : Nat × (Nat → Int32)} {D F G : Nat} (hD : 1 ≤ D) {S : St} {res : Int32} (h : fM_played F G S  = some res) : Ek X (D) m331 0 [(0, .ref 78)] [] S (some (.int res)) S := by
  obtain ⟨D, rfl⟩ : ∃ E, D = E + 1 := ⟨D - 1, by omega⟩
  unfold fM_played at h
  refine x_iconst d_331_0 ic_0 ?_
  refine x_istore_n (L1 := [(0, .ref 78), (1, .int (0 : Int32))]) d_331_1 rfl (Nat.le_of_ble_eq_true rfl) rfl rfl ?_
  refine x_iconst d_331_2 ic_0 ?_
  refine x_istore_n (L1 := [(0, .ref 78), (1, .int (0 : Int32)), (2, .int (0 : Int32))]) d_331_3 rfl (Nat.le_of_ble_eq_true rfl) rfl rfl ?_
  refine T_331_4 (by omega)   F (0 : Int32) (0 : Int32) _ h
/-! NinetyPlayersModel.image -/
def b_329_18 (F G : Nat) (z1 : Int32) (k47 : St → Option (Int32 × St)) (rec : Int32 → St → Option (Int32 × St)) (w2 : Int32) (S : St) : Option (Int32 × St) :=
  if (41 : Int32) ≤ w2 then k47 S else gd (inB w2 41) (gd (inB (((41 : Int32) * z1) + w2) 123) (lt (sI S 116 (((41 : Int32) * z1) + w2).toNatClampNeg (S.1 100 w2.toNatClampNeg)) fun S10 => lt (w2 + 1) fun v12 => rec v12 S10))
def fM_image (F G : Nat) (S : St) (p1 : Int32) : Option (Int32 × St) :=
  bd (fM_isBox F G S p1) fun v2 => if v2 = 0 then some ((-1 : Int32), S) else gd (inB p1 3) (lt (sI S 115 p1.toNatClampNeg (vp_nar .boolean (1 : Int32))) fun S5 => fx2 (b_329_18 F G p1 (fun S14 => bd (fM_played F G S14) fun v16 => some (v16, S14))) F (0 : Int32) S5)
set_option maxRecDepth 100000 in
set_option maxHeartbeats 4000000 in
theorem T_329_18 {X : Nat × (Nat → Int32)} {D F G : Nat} (hD : 2 ≤ D + 1) {z1 : Int32} {k47 : St → Option (Int32 × St)} (hk47 : ∀ (S1 : St) (res : Int32 × St), k47 S1 = some res → Ek X (D + 1) m329 47 [(0, .ref 78)] [] S1 (some (.int res.1)) res.2) : ∀ (f : Nat) (w2 : Int32) (S : St) (res : Int32 × St), fx2 (b_329_18 F G z1 k47 ) f w2 S = some res → Ek X (D + 1) m329 18 [(0, .ref 78), (1, .int z1), (2, .int w2)] [] S (some (.int res.1)) res.2 := by
  refine fx2_ind ?_
  intro rec ih w2 S res h
  unfold b_329_18 at h
  refine x_iload_n d_329_18 rfl 2 rfl ?_
  refine x_bipush d_329_19 bp_41 ?_
  refine x_icmp_ge (tgt := 47) d_329_21 rfl (fun c7 => ?_) (fun c7 => ?_)
  · replace h := ite_t c7 h
    refine y_pick (L1 := [(0, .ref 78)]) [0] rfl ?_
    exact hk47 S _ h
  · replace h := ite_f c7 h
    refine x_aload_n d_329_24 rfl 0 rfl ?_
    refine y_getR d_329_25 fl_11_142 rfl kd_78 rr_78_79 ?_
    refine x_bipush d_329_28 bp_41 ?_
    refine x_iload_n d_329_30 rfl 1 rfl ?_
    refine x_imul d_329_31 ?_
    refine x_iload_n d_329_32 rfl 2 rfl ?_
    refine x_iadd d_329_33 ?_
    refine x_aload_n d_329_34 rfl 0 rfl ?_
    refine y_getR d_329_35 fl_11_93 rfl kd_78 rr_78_58 ?_
    refine x_iload_n d_329_38 rfl 2 rfl ?_
    obtain ⟨g8, h⟩ := gd_inv h
    refine y_iald d_329_39 kd_100 g8 ?_
    obtain ⟨g9, h⟩ := gd_inv h
    obtain ⟨S10, e11, h⟩ := lt_inv h
    refine y_iast e11 d_329_40 kd_116 g9 ?_
    obtain ⟨v12, e13, h⟩ := lt_inv h
    refine y_iinc (L1 := [(0, .ref 78), (1, .int z1), (2, .int v12)]) e13 ic_1 d_329_41 2 rfl (Nat.le_of_ble_eq_true rfl) rfl rfl ?_
    refine x_goto (tgt := 18) d_329_44 rfl ?_
    exact ih v12 S10 _ h
set_option maxRecDepth 100000 in
set_option maxHeartbeats 4000000 in
theorem c_329 {X : Nat × (Nat → Int32)} {D F G : Nat} (hD : 2 ≤ D) {S : St} {p1 : Int32} {res : Int32 × St} (h : fM_image F G S p1 = some res) : Ek X (D) m329 0 [(0, .ref 78), (1, .int p1)] [] S (some (.int res.1)) res.2 := by
  obtain ⟨D, rfl⟩ : ∃ E, D = E + 1 := ⟨D - 1, by omega⟩
  unfold fM_image at h
  refine x_iload_n d_329_0 rfl 1 rfl ?_
  obtain ⟨v2, q1, h⟩ := bd_inv h
  refine y_S1i (v := v2) (S1 := S) d_329_1 ml_11_553 (Nat.le_of_ble_eq_true rfl) (Nat.le_of_ble_eq_true rfl) (c_330 (by omega) q1) ?_
  refine x_if_ne (tgt := 9) d_329_4 rfl (fun c3 => ?_) (fun c3 => ?_)
  · replace h := ite_f c3 h
    refine x_aload_n d_329_9 rfl 0 rfl ?_
    refine y_getR d_329_10 fl_11_139 rfl kd_78 rr_78_78 ?_
    refine x_iload_n d_329_13 rfl 1 rfl ?_
    refine x_iconst d_329_14 ic_1 ?_
    obtain ⟨g4, h⟩ := gd_inv h
    obtain ⟨S5, e6, h⟩ := lt_inv h
    refine y_zast e6 d_329_15 kd_115 g4 ?_
    refine x_iconst d_329_16 ic_0 ?_
    refine x_istore_n (L1 := [(0, .ref 78), (1, .int p1), (2, .int (0 : Int32))]) d_329_17 rfl (Nat.le_of_ble_eq_true rfl) rfl rfl ?_
    refine T_329_18 (by omega)  ?_ F (0 : Int32) S5 _ h
    · intro S14 res h
      refine x_aload_n d_329_47 rfl 0 rfl ?_
      obtain ⟨v16, q15, h⟩ := bd_inv h
      refine y_V0i (v := v16) (S1 := S14) d_329_48 ml_11_556 kd_78 rfl (Nat.le_of_ble_eq_true rfl) (Nat.le_of_ble_eq_true rfl) (c_331 (by omega) q15) ?_
      obtain rfl := Option.some.inj h
      exact x_ret (r := some (.int v16)) d_329_51 ⟨_, rfl, rfl⟩
  · replace h := ite_t c3 h
    refine x_iconst d_329_7 ic_m1 ?_
    obtain rfl := Option.some.inj h
    exact x_ret (r := some (.int (-1 : Int32))) d_329_8 ⟨_, rfl, rfl⟩
/-! NinetyPlayersModel.back -/
def b_332_20 (F G : Nat) (z1 : Int32) (k49 : St → Option (Int32 × St)) (rec : Int32 → St → Option (Int32 × St)) (w2 : Int32) (S : St) : Option (Int32 × St) :=
  if (41 : Int32) ≤ w2 then k49 S else gd (inB (((41 : Int32) * z1) + w2) 123) (gd (inB w2 41) (lt (sI S 100 w2.toNatClampNeg (S.1 116 (((41 : Int32) * z1) + w2).toNatClampNeg)) fun S9 => lt (w2 + 1) fun v11 => rec v11 S9))
def fM_back (F G : Nat) (S : St) (p1 : Int32) : Option (Int32 × St) :=
  bd (fM_isBox F G S p1) fun v2 => if v2 = 0 then some ((-1 : Int32), S) else gd (inB p1 3) (if (S.1 115 p1.toNatClampNeg) = 0 then some ((-1 : Int32), S) else fx2 (b_332_20 F G p1 (fun S13 => lt (sI S13 78 63 (0 : Int32)) fun S14 => lt (sI S14 78 64 (0 : Int32)) fun S16 => bd (fM_played F G S16) fun v19 => some (v19, S16))) F (0 : Int32) S)
set_option maxRecDepth 100000 in
set_option maxHeartbeats 4000000 in
theorem T_332_20 {X : Nat × (Nat → Int32)} {D F G : Nat} (hD : 2 ≤ D + 1) {z1 : Int32} {k49 : St → Option (Int32 × St)} (hk49 : ∀ (S1 : St) (res : Int32 × St), k49 S1 = some res → Ek X (D + 1) m332 49 [(0, .ref 78)] [] S1 (some (.int res.1)) res.2) : ∀ (f : Nat) (w2 : Int32) (S : St) (res : Int32 × St), fx2 (b_332_20 F G z1 k49 ) f w2 S = some res → Ek X (D + 1) m332 20 [(0, .ref 78), (1, .int z1), (2, .int w2)] [] S (some (.int res.1)) res.2 := by
  refine fx2_ind ?_
  intro rec ih w2 S res h
  unfold b_332_20 at h
  refine x_iload_n d_332_20 rfl 2 rfl ?_
  refine x_bipush d_332_21 bp_41 ?_
  refine x_icmp_ge (tgt := 49) d_332_23 rfl (fun c6 => ?_) (fun c6 => ?_)
  · replace h := ite_t c6 h
    refine y_pick (L1 := [(0, .ref 78)]) [0] rfl ?_
    exact hk49 S _ h
  · replace h := ite_f c6 h
    refine x_aload_n d_332_26 rfl 0 rfl ?_
    refine y_getR d_332_27 fl_11_93 rfl kd_78 rr_78_58 ?_
    refine x_iload_n d_332_30 rfl 2 rfl ?_
    refine x_aload_n d_332_31 rfl 0 rfl ?_
    refine y_getR d_332_32 fl_11_142 rfl kd_78 rr_78_79 ?_
    refine x_bipush d_332_35 bp_41 ?_
    refine x_iload_n d_332_37 rfl 1 rfl ?_
    refine x_imul d_332_38 ?_
    refine x_iload_n d_332_39 rfl 2 rfl ?_
    refine x_iadd d_332_40 ?_
    obtain ⟨g7, h⟩ := gd_inv h
    refine y_iald d_332_41 kd_116 g7 ?_
    obtain ⟨g8, h⟩ := gd_inv h
    obtain ⟨S9, e10, h⟩ := lt_inv h
    refine y_iast e10 d_332_42 kd_100 g8 ?_
    obtain ⟨v11, e12, h⟩ := lt_inv h
    refine y_iinc (L1 := [(0, .ref 78), (1, .int z1), (2, .int v11)]) e12 ic_1 d_332_43 2 rfl (Nat.le_of_ble_eq_true rfl) rfl rfl ?_
    refine x_goto (tgt := 20) d_332_46 rfl ?_
    exact ih v11 S9 _ h
set_option maxRecDepth 100000 in
set_option maxHeartbeats 4000000 in
theorem c_332 {X : Nat × (Nat → Int32)} {D F G : Nat} (hD : 2 ≤ D) {S : St} {p1 : Int32} {res : Int32 × St} (h : fM_back F G S p1 = some res) : Ek X (D) m332 0 [(0, .ref 78), (1, .int p1)] [] S (some (.int res.1)) res.2 := by
  obtain ⟨D, rfl⟩ : ∃ E, D = E + 1 := ⟨D - 1, by omega⟩
  unfold fM_back at h
  refine x_iload_n d_332_0 rfl 1 rfl ?_
  obtain ⟨v2, q1, h⟩ := bd_inv h
  refine y_S1i (v := v2) (S1 := S) d_332_1 ml_11_553 (Nat.le_of_ble_eq_true rfl) (Nat.le_of_ble_eq_true rfl) (c_330 (by omega) q1) ?_
  refine x_if_eq (tgt := 16) d_332_4 rfl (fun c3 => ?_) (fun c3 => ?_)
  · replace h := ite_t c3 h
    refine x_iconst d_332_16 ic_m1 ?_
    obtain rfl := Option.some.inj h
    exact x_ret (r := some (.int (-1 : Int32))) d_332_17 ⟨_, rfl, rfl⟩
  · replace h := ite_f c3 h
    refine x_aload_n d_332_7 rfl 0 rfl ?_
    refine y_getR d_332_8 fl_11_139 rfl kd_78 rr_78_78 ?_
    refine x_iload_n d_332_11 rfl 1 rfl ?_
    obtain ⟨g4, h⟩ := gd_inv h
    refine y_zald d_332_12 kd_115 g4 ?_
    refine x_if_ne (tgt := 18) d_332_13 rfl (fun c5 => ?_) (fun c5 => ?_)
    · replace h := ite_f c5 h
      refine x_iconst d_332_18 ic_0 ?_
      refine x_istore_n (L1 := [(0, .ref 78), (1, .int p1), (2, .int (0 : Int32))]) d_332_19 rfl (Nat.le_of_ble_eq_true rfl) rfl rfl ?_
      refine T_332_20 (by omega)  ?_ F (0 : Int32) S _ h
      · intro S13 res h
        refine x_aload_n d_332_49 rfl 0 rfl ?_
        refine x_iconst d_332_50 ic_0 ?_
        obtain ⟨S14, e15, h⟩ := lt_inv h
        refine y_putI e15 d_332_51 fl_11_417 rfl rfl kd_78 rfl rfl ?_
        refine x_aload_n d_332_54 rfl 0 rfl ?_
        refine x_iconst d_332_55 ic_0 ?_
        obtain ⟨S16, e17, h⟩ := lt_inv h
        refine y_putI e17 d_332_56 fl_11_420 rfl rfl kd_78 rfl rfl ?_
        refine x_aload_n d_332_59 rfl 0 rfl ?_
        obtain ⟨v19, q18, h⟩ := bd_inv h
        refine y_V0i (v := v19) (S1 := S16) d_332_60 ml_11_556 kd_78 rfl (Nat.le_of_ble_eq_true rfl) (Nat.le_of_ble_eq_true rfl) (c_331 (by omega) q18) ?_
        obtain rfl := Option.some.inj h
        exact x_ret (r := some (.int v19)) d_332_63 ⟨_, rfl, rfl⟩
    · replace h := ite_t c5 h
      refine x_iconst d_332_16 ic_m1 ?_
      obtain rfl := Option.some.inj h
      exact x_ret (r := some (.int (-1 : Int32))) d_332_17 ⟨_, rfl, rfl⟩
/-! NinetyPlayersModel.differ -/
def b_333_22 (F G : Nat) (S : St) (z1 : Int32) (rec : Int32 → Int32 → Option (Int32)) (w2 : Int32) (w3 : Int32) : Option (Int32) :=
  if (40 : Int32) ≤ w3 then some w2 else gd (inB (((41 : Int32) * z1) + w3) 123) (gd (inB w3 41) (if (S.1 116 (((41 : Int32) * z1) + w3).toNatClampNeg) = (S.1 100 w3.toNatClampNeg) then lt (w3 + 1) fun v10 => rec w2 v10 else lt (w2 ||| ((1 : Int32) <<< ((w3 - w3 / (10 : Int32) * (10 : Int32)) &&& 31))) fun v12 => lt (w3 + 1) fun v14 => rec v12 v14))
def fM_differ (F G : Nat) (S : St) (p1 : Int32) : Option (Int32) :=
  bd (fM_isBox F G S p1) fun v2 => if v2 = 0 then some (-1 : Int32) else gd (inB p1 3) (if (S.1 115 p1.toNatClampNeg) = 0 then some (-1 : Int32) else fx2 (b_333_22 F G S p1) F (0 : Int32) (0 : Int32))
set_option maxRecDepth 100000 in
set_option maxHeartbeats 4000000 in
theorem T_333_22 {X : Nat × (Nat → Int32)} {D F G : Nat} (hD : 1 ≤ D + 1) {S : St} {z1 : Int32} : ∀ (f : Nat) (w2 : Int32) (w3 : Int32) (res : Int32), fx2 (b_333_22 F G S z1 ) f w2 w3 = some res → Ek X (D + 1) m333 22 [(0, .ref 78), (1, .int z1), (2, .int w2), (3, .int w3)] [] S (some (.int res)) S := by
  refine fx2_ind ?_
  intro rec ih w2 w3 res h
  unfold b_333_22 at h
  refine x_iload_n d_333_22 rfl 3 rfl ?_
  refine x_bipush d_333_23 bp_40 ?_
  refine x_icmp_ge (tgt := 63) d_333_25 rfl (fun c6 => ?_) (fun c6 => ?_)
  · replace h := ite_t c6 h
    refine x_iload_n d_333_63 rfl 2 rfl ?_
    obtain rfl := Option.some.inj h
    exact x_ret (r := some (.int w2)) d_333_64 ⟨_, rfl, rfl⟩
  · replace h := ite_f c6 h
    refine x_aload_n d_333_28 rfl 0 rfl ?_
    refine y_getR d_333_29 fl_11_142 rfl kd_78 rr_78_79 ?_
    refine x_bipush d_333_32 bp_41 ?_
    refine x_iload_n d_333_34 rfl 1 rfl ?_
    refine x_imul d_333_35 ?_
    refine x_iload_n d_333_36 rfl 3 rfl ?_
    refine x_iadd d_333_37 ?_
    obtain ⟨g7, h⟩ := gd_inv h
    refine y_iald d_333_38 kd_116 g7 ?_
    refine x_aload_n d_333_39 rfl 0 rfl ?_
    refine y_getR d_333_40 fl_11_93 rfl kd_78 rr_78_58 ?_
    refine x_iload_n d_333_43 rfl 3 rfl ?_
    obtain ⟨g8, h⟩ := gd_inv h
    refine y_iald d_333_44 kd_100 g8 ?_
    refine x_icmp_eq (tgt := 57) d_333_45 rfl (fun c9 => ?_) (fun c9 => ?_)
    · replace h := ite_t c9 h
      obtain ⟨v10, e11, h⟩ := lt_inv h
      refine y_iinc (L1 := [(0, .ref 78), (1, .int z1), (2, .int w2), (3, .int v10)]) e11 ic_1 d_333_57 3 rfl (Nat.le_of_ble_eq_true rfl) rfl rfl ?_
      refine x_goto (tgt := 22) d_333_60 rfl ?_
      exact ih w2 v10 _ h
    · replace h := ite_f c9 h
      refine x_iload_n d_333_48 rfl 2 rfl ?_
      refine x_iconst d_333_49 ic_1 ?_
      refine x_iload_n d_333_50 rfl 3 rfl ?_
      refine x_bipush d_333_51 bp_10 ?_
      refine x_irem d_333_53 (by decide) ?_
      refine x_ishl d_333_54 ?_
      refine x_ior d_333_55 ?_
      obtain ⟨v12, e13, h⟩ := lt_inv h
      refine y_istore_n (L1 := [(0, .ref 78), (1, .int z1), (2, .int v12), (3, .int w3)]) e13 d_333_56 rfl (Nat.le_of_ble_eq_true rfl) rfl rfl ?_
      obtain ⟨v14, e15, h⟩ := lt_inv h
      refine y_iinc (L1 := [(0, .ref 78), (1, .int z1), (2, .int v12), (3, .int v14)]) e15 ic_1 d_333_57 3 rfl (Nat.le_of_ble_eq_true rfl) rfl rfl ?_
      refine x_goto (tgt := 22) d_333_60 rfl ?_
      exact ih v12 v14 _ h
set_option maxRecDepth 100000 in
set_option maxHeartbeats 4000000 in
theorem c_333 {X : Nat × (Nat → Int32)} {D F G : Nat} (hD : 1 ≤ D) {S : St} {p1 : Int32} {res : Int32} (h : fM_differ F G S p1 = some res) : Ek X (D) m333 0 [(0, .ref 78), (1, .int p1)] [] S (some (.int res)) S := by
  obtain ⟨D, rfl⟩ : ∃ E, D = E + 1 := ⟨D - 1, by omega⟩
  unfold fM_differ at h
  refine x_iload_n d_333_0 rfl 1 rfl ?_
  obtain ⟨v2, q1, h⟩ := bd_inv h
  refine y_S1i (v := v2) (S1 := S) d_333_1 ml_11_553 (Nat.le_of_ble_eq_true rfl) (Nat.le_of_ble_eq_true rfl) (c_330 (by omega) q1) ?_
  refine x_if_eq (tgt := 16) d_333_4 rfl (fun c3 => ?_) (fun c3 => ?_)
  · replace h := ite_t c3 h
    refine x_iconst d_333_16 ic_m1 ?_
    obtain rfl := Option.some.inj h
    exact x_ret (r := some (.int (-1 : Int32))) d_333_17 ⟨_, rfl, rfl⟩
  · replace h := ite_f c3 h
    refine x_aload_n d_333_7 rfl 0 rfl ?_
    refine y_getR d_333_8 fl_11_139 rfl kd_78 rr_78_78 ?_
    refine x_iload_n d_333_11 rfl 1 rfl ?_
    obtain ⟨g4, h⟩ := gd_inv h
    refine y_zald d_333_12 kd_115 g4 ?_
    refine x_if_ne (tgt := 18) d_333_13 rfl (fun c5 => ?_) (fun c5 => ?_)
    · replace h := ite_f c5 h
      refine x_iconst d_333_18 ic_0 ?_
      refine x_istore_n (L1 := [(0, .ref 78), (1, .int p1), (2, .int (0 : Int32))]) d_333_19 rfl (Nat.le_of_ble_eq_true rfl) rfl rfl ?_
      refine x_iconst d_333_20 ic_0 ?_
      refine x_istore_n (L1 := [(0, .ref 78), (1, .int p1), (2, .int (0 : Int32)), (3, .int (0 : Int32))]) d_333_21 rfl (Nat.le_of_ble_eq_true rfl) rfl rfl ?_
      refine T_333_22 (by omega)   F (0 : Int32) (0 : Int32) _ h
    · replace h := ite_t c5 h
      refine x_iconst d_333_16 ic_m1 ?_
      obtain rfl := Option.some.inj h
      exact x_ret (r := some (.int (-1 : Int32))) d_333_17 ⟨_, rfl, rfl⟩
/-! NinetyPlayersModel.about -/
def fM_about (F G : Nat) (S : St) (p1 : Int32) : Option (Int32) :=
  if p1 = 0 then some (S.1 78 48) else if p1 = 1 then some (S.1 78 47) else if p1 = 2 then some (S.1 78 46) else if p1 = 3 then some (S.1 78 49) else if p1 = 4 then some (S.1 78 50) else if p1 = 5 then some (S.1 78 51) else if p1 = 6 then some (S.1 78 52) else if p1 = 7 then gd (inB (40 : Int32) 41) (some (S.1 100 (40 : Int32).toNatClampNeg)) else if p1 = 8 then some (S.1 78 63) else if p1 = 9 then some (S.1 78 64) else if p1 = 10 then some (S.1 78 74) else if p1 = 11 then some (S.1 78 75) else if p1 = 12 then some (S.1 78 1) else if p1 = 13 then some (S.1 78 21) else if p1 = 14 then some (S.1 78 68) else if p1 = 15 then bd (fM_played F G S) fun v19 => some v19 else some (-1 : Int32)
set_option maxRecDepth 100000 in
set_option maxHeartbeats 4000000 in
theorem c_334 {X : Nat × (Nat → Int32)} {D F G : Nat} (hD : 2 ≤ D) {S : St} {p1 : Int32} {res : Int32} (h : fM_about F G S p1 = some res) : Ek X (D) m334 0 [(0, .ref 78), (1, .int p1)] [] S (some (.int res)) S := by
  obtain ⟨D, rfl⟩ : ∃ E, D = E + 1 := ⟨D - 1, by omega⟩
  unfold fM_about at h
  refine x_iload_n d_334_0 rfl 1 rfl ?_
  by_cases c1 : p1 = 0
  · replace h := ite_t c1 h
    refine x_tabC (tgt := 80) 0 d_334_1 (by rw [c1]; rfl) (by decide) rfl rfl ?_
    refine x_aload_n d_334_80 rfl 0 rfl ?_
    refine y_getI d_334_81 fl_11_322 rfl kd_78 ?_
    obtain rfl := Option.some.inj h
    exact x_ret (r := some (.int (S.1 78 48))) d_334_84 ⟨_, rfl, rfl⟩
  replace h := ite_f c1 h
  by_cases c2 : p1 = 1
  · replace h := ite_t c2 h
    refine x_tabC (tgt := 85) 1 d_334_1 (by rw [c2]; rfl) (by decide) rfl rfl ?_
    refine x_aload_n d_334_85 rfl 0 rfl ?_
    refine y_getI d_334_86 fl_11_405 rfl kd_78 ?_
    obtain rfl := Option.some.inj h
    exact x_ret (r := some (.int (S.1 78 47))) d_334_89 ⟨_, rfl, rfl⟩
  replace h := ite_f c2 h
  by_cases c3 : p1 = 2
  · replace h := ite_t c3 h
    refine x_tabC (tgt := 90) 2 d_334_1 (by rw [c3]; rfl) (by decide) rfl rfl ?_
    refine x_aload_n d_334_90 rfl 0 rfl ?_
    refine y_getI d_334_91 fl_11_78 rfl kd_78 ?_
    obtain rfl := Option.some.inj h
    exact x_ret (r := some (.int (S.1 78 46))) d_334_94 ⟨_, rfl, rfl⟩
  replace h := ite_f c3 h
  by_cases c4 : p1 = 3
  · replace h := ite_t c4 h
    refine x_tabC (tgt := 95) 3 d_334_1 (by rw [c4]; rfl) (by decide) rfl rfl ?_
    refine x_aload_n d_334_95 rfl 0 rfl ?_
    refine y_getI d_334_96 fl_11_81 rfl kd_78 ?_
    obtain rfl := Option.some.inj h
    exact x_ret (r := some (.int (S.1 78 49))) d_334_99 ⟨_, rfl, rfl⟩
  replace h := ite_f c4 h
  by_cases c5 : p1 = 4
  · replace h := ite_t c5 h
    refine x_tabC (tgt := 100) 4 d_334_1 (by rw [c5]; rfl) (by decide) rfl rfl ?_
    refine x_aload_n d_334_100 rfl 0 rfl ?_
    refine y_getI d_334_101 fl_11_84 rfl kd_78 ?_
    obtain rfl := Option.some.inj h
    exact x_ret (r := some (.int (S.1 78 50))) d_334_104 ⟨_, rfl, rfl⟩
  replace h := ite_f c5 h
  by_cases c6 : p1 = 5
  · replace h := ite_t c6 h
    refine x_tabC (tgt := 105) 5 d_334_1 (by rw [c6]; rfl) (by decide) rfl rfl ?_
    refine x_aload_n d_334_105 rfl 0 rfl ?_
    refine y_getI d_334_106 fl_11_87 rfl kd_78 ?_
    obtain rfl := Option.some.inj h
    exact x_ret (r := some (.int (S.1 78 51))) d_334_109 ⟨_, rfl, rfl⟩
  replace h := ite_f c6 h
  by_cases c7 : p1 = 6
  · replace h := ite_t c7 h
    refine x_tabC (tgt := 110) 6 d_334_1 (by rw [c7]; rfl) (by decide) rfl rfl ?_
    refine x_aload_n d_334_110 rfl 0 rfl ?_
    refine y_getI d_334_111 fl_11_90 rfl kd_78 ?_
    obtain rfl := Option.some.inj h
    exact x_ret (r := some (.int (S.1 78 52))) d_334_114 ⟨_, rfl, rfl⟩
  replace h := ite_f c7 h
  by_cases c8 : p1 = 7
  · replace h := ite_t c8 h
    refine x_tabC (tgt := 115) 7 d_334_1 (by rw [c8]; rfl) (by decide) rfl rfl ?_
    refine x_aload_n d_334_115 rfl 0 rfl ?_
    refine y_getR d_334_116 fl_11_93 rfl kd_78 rr_78_58 ?_
    refine x_bipush d_334_119 bp_40 ?_
    obtain ⟨g9, h⟩ := gd_inv h
    refine y_iald d_334_121 kd_100 g9 ?_
    obtain rfl := Option.some.inj h
    exact x_ret (r := some (.int (S.1 100 (40 : Int32).toNatClampNeg))) d_334_122 ⟨_, rfl, rfl⟩
  replace h := ite_f c8 h
  by_cases c10 : p1 = 8
  · replace h := ite_t c10 h
    refine x_tabC (tgt := 123) 8 d_334_1 (by rw [c10]; rfl) (by decide) rfl rfl ?_
    refine x_aload_n d_334_123 rfl 0 rfl ?_
    refine y_getI d_334_124 fl_11_417 rfl kd_78 ?_
    obtain rfl := Option.some.inj h
    exact x_ret (r := some (.int (S.1 78 63))) d_334_127 ⟨_, rfl, rfl⟩
  replace h := ite_f c10 h
  by_cases c11 : p1 = 9
  · replace h := ite_t c11 h
    refine x_tabC (tgt := 128) 9 d_334_1 (by rw [c11]; rfl) (by decide) rfl rfl ?_
    refine x_aload_n d_334_128 rfl 0 rfl ?_
    refine y_getI d_334_129 fl_11_420 rfl kd_78 ?_
    obtain rfl := Option.some.inj h
    exact x_ret (r := some (.int (S.1 78 64))) d_334_132 ⟨_, rfl, rfl⟩
  replace h := ite_f c11 h
  by_cases c12 : p1 = 10
  · replace h := ite_t c12 h
    refine x_tabC (tgt := 133) 10 d_334_1 (by rw [c12]; rfl) (by decide) rfl rfl ?_
    refine x_aload_n d_334_133 rfl 0 rfl ?_
    refine y_getI d_334_134 fl_11_423 rfl kd_78 ?_
    obtain rfl := Option.some.inj h
    exact x_ret (r := some (.int (S.1 78 74))) d_334_137 ⟨_, rfl, rfl⟩
  replace h := ite_f c12 h
  by_cases c13 : p1 = 11
  · replace h := ite_t c13 h
    refine x_tabC (tgt := 138) 11 d_334_1 (by rw [c13]; rfl) (by decide) rfl rfl ?_
    refine x_aload_n d_334_138 rfl 0 rfl ?_
    refine y_getI d_334_139 fl_11_539 rfl kd_78 ?_
    obtain rfl := Option.some.inj h
    exact x_ret (r := some (.int (S.1 78 75))) d_334_142 ⟨_, rfl, rfl⟩
  replace h := ite_f c13 h
  by_cases c14 : p1 = 12
  · replace h := ite_t c14 h
    refine x_tabC (tgt := 143) 12 d_334_1 (by rw [c14]; rfl) (by decide) rfl rfl ?_
    refine x_aload_n d_334_143 rfl 0 rfl ?_
    refine y_getI d_334_144 fl_11_145 rfl kd_78 ?_
    obtain rfl := Option.some.inj h
    exact x_ret (r := some (.int (S.1 78 1))) d_334_147 ⟨_, rfl, rfl⟩
  replace h := ite_f c14 h
  by_cases c15 : p1 = 13
  · replace h := ite_t c15 h
    refine x_tabC (tgt := 148) 13 d_334_1 (by rw [c15]; rfl) (by decide) rfl rfl ?_
    refine x_aload_n d_334_148 rfl 0 rfl ?_
    refine y_getI d_334_149 fl_11_408 rfl kd_78 ?_
    obtain rfl := Option.some.inj h
    exact x_ret (r := some (.int (S.1 78 21))) d_334_152 ⟨_, rfl, rfl⟩
  replace h := ite_f c15 h
  by_cases c16 : p1 = 14
  · replace h := ite_t c16 h
    refine x_tabC (tgt := 153) 14 d_334_1 (by rw [c16]; rfl) (by decide) rfl rfl ?_
    refine x_aload_n d_334_153 rfl 0 rfl ?_
    refine y_getI d_334_154 fl_11_426 rfl kd_78 ?_
    obtain rfl := Option.some.inj h
    exact x_ret (r := some (.int (S.1 78 68))) d_334_157 ⟨_, rfl, rfl⟩
  replace h := ite_f c16 h
  by_cases c17 : p1 = 15
  · replace h := ite_t c17 h
    refine x_tabC (tgt := 158) 15 d_334_1 (by rw [c17]; rfl) (by decide) rfl rfl ?_
    refine x_aload_n d_334_158 rfl 0 rfl ?_
    obtain ⟨v19, q18, h⟩ := bd_inv h
    refine y_V0i (v := v19) (S1 := S) d_334_159 ml_11_556 kd_78 rfl (Nat.le_of_ble_eq_true rfl) (Nat.le_of_ble_eq_true rfl) (c_331 (by omega) q18) ?_
    obtain rfl := Option.some.inj h
    exact x_ret (r := some (.int v19)) d_334_162 ⟨_, rfl, rfl⟩
  replace h := ite_f c17 h
  refine x_tabD (tgt := 163) d_334_1 (by have := lv_neT c1 (show (0 : Int32).toInt = 0 from rfl); have := lv_neT c2 (show (1 : Int32).toInt = 1 from rfl); have := lv_neT c3 (show (2 : Int32).toInt = 2 from rfl); have := lv_neT c4 (show (3 : Int32).toInt = 3 from rfl); have := lv_neT c5 (show (4 : Int32).toInt = 4 from rfl); have := lv_neT c6 (show (5 : Int32).toInt = 5 from rfl); have := lv_neT c7 (show (6 : Int32).toInt = 6 from rfl); have := lv_neT c8 (show (7 : Int32).toInt = 7 from rfl); have := lv_neT c10 (show (8 : Int32).toInt = 8 from rfl); have := lv_neT c11 (show (9 : Int32).toInt = 9 from rfl); have := lv_neT c12 (show (10 : Int32).toInt = 10 from rfl); have := lv_neT c13 (show (11 : Int32).toInt = 11 from rfl); have := lv_neT c14 (show (12 : Int32).toInt = 12 from rfl); have := lv_neT c15 (show (13 : Int32).toInt = 13 from rfl); have := lv_neT c16 (show (14 : Int32).toInt = 14 from rfl); have := lv_neT c17 (show (15 : Int32).toInt = 15 from rfl); omega) rfl ?_
  refine x_iconst d_334_163 ic_m1 ?_
  obtain rfl := Option.some.inj h
  exact x_ret (r := some (.int (-1 : Int32))) d_334_164 ⟨_, rfl, rfl⟩
