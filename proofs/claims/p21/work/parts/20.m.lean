/-! NinetyPlayers$Tape.putFourBytes -/
def b_T_putFourBytes_3 (F G : Nat) (z1 : Int32) (rec : Int32 → St → Option (St)) (w2 : Int32) (S : St) : Option (St) :=
  if w2 < 0 then some S else if (1600 : Int32) ≤ (S.1 2 0) then some S else gd (inB (S.1 2 0) 1600) (lt (sI S 3 (S.1 2 0).toNatClampNeg (vp_nar .byte ((z1 >>> (w2 &&& 31)).toInt8.toInt32))) fun S4 => lt (sI S4 2 0 ((S4.1 2 0) + (1 : Int32))) fun S6 => lt (w2 + (-8)) fun v8 => rec v8 S6)
def fT_putFourBytes (F G : Nat) (S : St) (p1 : Int32) : Option (St) :=
  fx2 (b_T_putFourBytes_3 F G p1) F (24 : Int32) S
set_option maxRecDepth 100000 in
set_option maxHeartbeats 4000000 in
theorem T_T_putFourBytes_3 {X : Nat × (Nat → Int32)} {D F G : Nat} (hD : 0 ≤ D) {z1 : Int32} : ∀ (f : Nat) (w2 : Int32) (S : St) (res : St), fx2 (b_T_putFourBytes_3 F G z1 ) f w2 S = some res → Ek X (D) mT_putFourBytes 3 [(0, .ref 2), (1, .int z1), (2, .int w2)] [] S none res := by
  refine fx2_ind ?_
  intro rec ih w2 S res h
  unfold b_T_putFourBytes_3 at h
  refine x_iload_n d_T_putFourBytes_3 rfl 2 rfl ?_
  refine x_if_lt (tgt := 46) d_T_putFourBytes_4 rfl (fun c1 => ?_) (fun c1 => ?_)
  · replace h := ite_t c1 h
    obtain rfl := Option.some.inj h
    exact x_ret (r := none) d_T_putFourBytes_46 rfl
  · replace h := ite_f c1 h
    refine x_aload_n d_T_putFourBytes_7 rfl 0 rfl ?_
    refine y_getI d_T_putFourBytes_8 fl_4_15 rfl kd_2 ?_
    refine x_sipush d_T_putFourBytes_11 sp_1600 ?_
    refine x_icmp_ge (tgt := 46) d_T_putFourBytes_14 rfl (fun c2 => ?_) (fun c2 => ?_)
    · replace h := ite_t c2 h
      obtain rfl := Option.some.inj h
      exact x_ret (r := none) d_T_putFourBytes_46 rfl
    · replace h := ite_f c2 h
      refine x_aload_n d_T_putFourBytes_17 rfl 0 rfl ?_
      refine y_getR d_T_putFourBytes_18 fl_4_9 rfl kd_2 rr_2_1 ?_
      refine x_aload_n d_T_putFourBytes_21 rfl 0 rfl ?_
      refine y_getI d_T_putFourBytes_22 fl_4_15 rfl kd_2 ?_
      refine x_iload_n d_T_putFourBytes_25 rfl 1 rfl ?_
      refine x_iload_n d_T_putFourBytes_26 rfl 2 rfl ?_
      refine x_ishr d_T_putFourBytes_27 ?_
      refine x_i2b d_T_putFourBytes_28 ?_
      obtain ⟨g3, h⟩ := gd_inv h
      obtain ⟨S4, e5, h⟩ := lt_inv h
      refine y_bast e5 d_T_putFourBytes_29 kd_3 g3 ?_
      refine x_aload_n d_T_putFourBytes_30 rfl 0 rfl ?_
      refine x_dup d_T_putFourBytes_31 rfl ?_
      refine y_getI d_T_putFourBytes_32 fl_4_15 rfl kd_2 ?_
      refine x_iconst d_T_putFourBytes_35 ic_1 ?_
      refine x_iadd d_T_putFourBytes_36 ?_
      obtain ⟨S6, e7, h⟩ := lt_inv h
      refine y_putI e7 d_T_putFourBytes_37 fl_4_15 rfl rfl kd_2 rfl rfl ?_
      obtain ⟨v8, e9, h⟩ := lt_inv h
      refine y_iinc (L1 := [(0, .ref 2), (1, .int z1), (2, .int v8)]) e9 ic_m8 d_T_putFourBytes_40 2 rfl (Nat.le_of_ble_eq_true rfl) rfl rfl ?_
      refine x_goto (tgt := 3) d_T_putFourBytes_43 rfl ?_
      exact ih v8 S6 _ h
set_option maxRecDepth 100000 in
set_option maxHeartbeats 4000000 in
theorem c_T_putFourBytes {X : Nat × (Nat → Int32)} {D F G : Nat} (hD : 0 ≤ D) {S : St} {p1 : Int32} {res : St} (h : fT_putFourBytes F G S p1 = some res) : Ek X (D) mT_putFourBytes 0 [(0, .ref 2), (1, .int p1)] [] S none res := by
  unfold fT_putFourBytes at h
  refine x_bipush d_T_putFourBytes_0 bp_24 ?_
  refine x_istore_n (L1 := [(0, .ref 2), (1, .int p1), (2, .int (24 : Int32))]) d_T_putFourBytes_2 rfl (Nat.le_of_ble_eq_true rfl) rfl rfl ?_
  refine T_T_putFourBytes_3 (by omega)   F (24 : Int32) S _ h
/-! NinetyPlayers.feed -/
def fN_feed (F G : Nat) (S : St) (p1 : Int32) (p2 : Int32) (p3 : Int32) (p4 : Int32) (p5 : Int32) : Option (Int32 × St) :=
  if ((S.1 2 0) + (20 : Int32)) ≤ (1600 : Int32) then bd (fT_putFourBytes F G S p1) fun S3 => bd (fT_putFourBytes F G S3 p2) fun S5 => bd (fT_putFourBytes F G S5 p3) fun S7 => bd (fT_putFourBytes F G S7 p4) fun S9 => bd (fT_putFourBytes F G S9 p5) fun S11 => some (S11.1 2 0, S11) else some ((-1 : Int32), S)
set_option maxRecDepth 100000 in
set_option maxHeartbeats 4000000 in
theorem c_N_feed {X : Nat × (Nat → Int32)} {D F G : Nat} (hD : 1 ≤ D) {S : St} {p1 : Int32} {p2 : Int32} {p3 : Int32} {p4 : Int32} {p5 : Int32} {res : Int32 × St} (h : fN_feed F G S p1 p2 p3 p4 p5 = some res) : Ek X (D) mN_feed 0 [(0, .ref 0), (1, .int p1), (2, .int p2), (3, .int p3), (4, .int p4), (5, .int p5)] [] S (some (.int res.1)) res.2 := by
  obtain ⟨D, rfl⟩ : ∃ E, D = E + 1 := ⟨D - 1, by omega⟩
  unfold fN_feed at h
  refine x_aload_n d_N_feed_0 rfl 0 rfl ?_
  refine y_getR d_N_feed_1 fl_0_20 rfl kd_0 rr_0_1 ?_
  refine y_getI d_N_feed_4 fl_0_84 rfl kd_2 ?_
  refine x_bipush d_N_feed_7 bp_20 ?_
  refine x_iadd d_N_feed_9 ?_
  refine x_sipush d_N_feed_10 sp_1600 ?_
  refine x_icmp_le (tgt := 18) d_N_feed_13 rfl (fun c1 => ?_) (fun c1 => ?_)
  · replace h := ite_t c1 h
    refine x_aload_n d_N_feed_18 rfl 0 rfl ?_
    refine y_getR d_N_feed_19 fl_0_20 rfl kd_0 rr_0_1 ?_
    refine x_iload_n d_N_feed_22 rfl 1 rfl ?_
    obtain ⟨S3, q2, h⟩ := bd_inv h
    refine y_V1v (S1 := S3) d_N_feed_23 ml_0_90 kd_2 rfl (Nat.le_of_ble_eq_true rfl) (Nat.le_of_ble_eq_true rfl) (c_T_putFourBytes (by omega) q2) ?_
    refine x_aload_n d_N_feed_26 rfl 0 rfl ?_
    refine y_getR d_N_feed_27 fl_0_20 rfl kd_0 rr_0_1 ?_
    refine x_iload_n d_N_feed_30 rfl 2 rfl ?_
    obtain ⟨S5, q4, h⟩ := bd_inv h
    refine y_V1v (S1 := S5) d_N_feed_31 ml_0_90 kd_2 rfl (Nat.le_of_ble_eq_true rfl) (Nat.le_of_ble_eq_true rfl) (c_T_putFourBytes (by omega) q4) ?_
    refine x_aload_n d_N_feed_34 rfl 0 rfl ?_
    refine y_getR d_N_feed_35 fl_0_20 rfl kd_0 rr_0_1 ?_
    refine x_iload_n d_N_feed_38 rfl 3 rfl ?_
    obtain ⟨S7, q6, h⟩ := bd_inv h
    refine y_V1v (S1 := S7) d_N_feed_39 ml_0_90 kd_2 rfl (Nat.le_of_ble_eq_true rfl) (Nat.le_of_ble_eq_true rfl) (c_T_putFourBytes (by omega) q6) ?_
    refine x_aload_n d_N_feed_42 rfl 0 rfl ?_
    refine y_getR d_N_feed_43 fl_0_20 rfl kd_0 rr_0_1 ?_
    refine x_iload d_N_feed_46 4 rfl ?_
    obtain ⟨S9, q8, h⟩ := bd_inv h
    refine y_V1v (S1 := S9) d_N_feed_48 ml_0_90 kd_2 rfl (Nat.le_of_ble_eq_true rfl) (Nat.le_of_ble_eq_true rfl) (c_T_putFourBytes (by omega) q8) ?_
    refine x_aload_n d_N_feed_51 rfl 0 rfl ?_
    refine y_getR d_N_feed_52 fl_0_20 rfl kd_0 rr_0_1 ?_
    refine x_iload d_N_feed_55 5 rfl ?_
    obtain ⟨S11, q10, h⟩ := bd_inv h
    refine y_V1v (S1 := S11) d_N_feed_57 ml_0_90 kd_2 rfl (Nat.le_of_ble_eq_true rfl) (Nat.le_of_ble_eq_true rfl) (c_T_putFourBytes (by omega) q10) ?_
    refine x_aload_n d_N_feed_60 rfl 0 rfl ?_
    refine y_getR d_N_feed_61 fl_0_20 rfl kd_0 rr_0_1 ?_
    refine y_getI d_N_feed_64 fl_0_84 rfl kd_2 ?_
    obtain rfl := Option.some.inj h
    exact x_ret (r := some (.int (S11.1 2 0))) d_N_feed_67 ⟨_, rfl, rfl⟩
  · replace h := ite_f c1 h
    refine x_iconst d_N_feed_16 ic_m1 ?_
    obtain rfl := Option.some.inj h
    exact x_ret (r := some (.int (-1 : Int32))) d_N_feed_17 ⟨_, rfl, rfl⟩
/-! NinetyPlayersModel.four -/
def b_M_four_3 (F G : Nat) (z1 : Int32) (rec : Int32 → St → Option (St)) (w2 : Int32) (S : St) : Option (St) :=
  if w2 < 0 then some S else gd (inB (S.1 78 1) 1600) (lt (sI S 79 (S.1 78 1).toNatClampNeg ((z1 >>> (w2 &&& 31)) &&& (255 : Int32))) fun S3 => lt (sI S3 78 1 ((S3.1 78 1) + (1 : Int32))) fun S5 => lt (w2 + (-8)) fun v7 => rec v7 S5)
def fM_four (F G : Nat) (S : St) (p1 : Int32) : Option (St) :=
  fx2 (b_M_four_3 F G p1) F (24 : Int32) S
set_option maxRecDepth 100000 in
set_option maxHeartbeats 4000000 in
theorem T_M_four_3 {X : Nat × (Nat → Int32)} {D F G : Nat} (hD : 0 ≤ D) {z1 : Int32} : ∀ (f : Nat) (w2 : Int32) (S : St) (res : St), fx2 (b_M_four_3 F G z1 ) f w2 S = some res → Ek X (D) mM_four 3 [(0, .ref 78), (1, .int z1), (2, .int w2)] [] S none res := by
  refine fx2_ind ?_
  intro rec ih w2 S res h
  unfold b_M_four_3 at h
  refine x_iload_n d_M_four_3 rfl 2 rfl ?_
  refine x_if_lt (tgt := 39) d_M_four_4 rfl (fun c1 => ?_) (fun c1 => ?_)
  · replace h := ite_t c1 h
    obtain rfl := Option.some.inj h
    exact x_ret (r := none) d_M_four_39 rfl
  · replace h := ite_f c1 h
    refine x_aload_n d_M_four_7 rfl 0 rfl ?_
    refine y_getR d_M_four_8 fl_11_7 rfl kd_78 rr_78_0 ?_
    refine x_aload_n d_M_four_11 rfl 0 rfl ?_
    refine y_getI d_M_four_12 fl_11_145 rfl kd_78 ?_
    refine x_iload_n d_M_four_15 rfl 1 rfl ?_
    refine x_iload_n d_M_four_16 rfl 2 rfl ?_
    refine x_ishr d_M_four_17 ?_
    refine x_sipush d_M_four_18 sp_255 ?_
    refine x_iand d_M_four_21 ?_
    obtain ⟨g2, h⟩ := gd_inv h
    obtain ⟨S3, e4, h⟩ := lt_inv h
    refine y_iast e4 d_M_four_22 kd_79 g2 ?_
    refine x_aload_n d_M_four_23 rfl 0 rfl ?_
    refine x_dup d_M_four_24 rfl ?_
    refine y_getI d_M_four_25 fl_11_145 rfl kd_78 ?_
    refine x_iconst d_M_four_28 ic_1 ?_
    refine x_iadd d_M_four_29 ?_
    obtain ⟨S5, e6, h⟩ := lt_inv h
    refine y_putI e6 d_M_four_30 fl_11_145 rfl rfl kd_78 rfl rfl ?_
    obtain ⟨v7, e8, h⟩ := lt_inv h
    refine y_iinc (L1 := [(0, .ref 78), (1, .int z1), (2, .int v7)]) e8 ic_m8 d_M_four_33 2 rfl (Nat.le_of_ble_eq_true rfl) rfl rfl ?_
    refine x_goto (tgt := 3) d_M_four_36 rfl ?_
    exact ih v7 S5 _ h
set_option maxRecDepth 100000 in
set_option maxHeartbeats 4000000 in
theorem c_M_four {X : Nat × (Nat → Int32)} {D F G : Nat} (hD : 0 ≤ D) {S : St} {p1 : Int32} {res : St} (h : fM_four F G S p1 = some res) : Ek X (D) mM_four 0 [(0, .ref 78), (1, .int p1)] [] S none res := by
  unfold fM_four at h
  refine x_bipush d_M_four_0 bp_24 ?_
  refine x_istore_n (L1 := [(0, .ref 78), (1, .int p1), (2, .int (24 : Int32))]) d_M_four_2 rfl (Nat.le_of_ble_eq_true rfl) rfl rfl ?_
  refine T_M_four_3 (by omega)   F (24 : Int32) S _ h
/-! NinetyPlayersModel.feed -/
def fM_feed (F G : Nat) (S : St) (p1 : Int32) (p2 : Int32) (p3 : Int32) (p4 : Int32) (p5 : Int32) : Option (Int32 × St) :=
  if ((S.1 78 1) + (20 : Int32)) ≤ (1600 : Int32) then bd (fM_four F G S p1) fun S3 => bd (fM_four F G S3 p2) fun S5 => bd (fM_four F G S5 p3) fun S7 => bd (fM_four F G S7 p4) fun S9 => bd (fM_four F G S9 p5) fun S11 => some (S11.1 78 1, S11) else some ((-1 : Int32), S)
set_option maxRecDepth 100000 in
set_option maxHeartbeats 4000000 in
theorem c_M_feed {X : Nat × (Nat → Int32)} {D F G : Nat} (hD : 1 ≤ D) {S : St} {p1 : Int32} {p2 : Int32} {p3 : Int32} {p4 : Int32} {p5 : Int32} {res : Int32 × St} (h : fM_feed F G S p1 p2 p3 p4 p5 = some res) : Ek X (D) mM_feed 0 [(0, .ref 78), (1, .int p1), (2, .int p2), (3, .int p3), (4, .int p4), (5, .int p5)] [] S (some (.int res.1)) res.2 := by
  obtain ⟨D, rfl⟩ : ∃ E, D = E + 1 := ⟨D - 1, by omega⟩
  unfold fM_feed at h
  refine x_aload_n d_M_feed_0 rfl 0 rfl ?_
  refine y_getI d_M_feed_1 fl_11_145 rfl kd_78 ?_
  refine x_bipush d_M_feed_4 bp_20 ?_
  refine x_iadd d_M_feed_6 ?_
  refine x_sipush d_M_feed_7 sp_1600 ?_
  refine x_icmp_le (tgt := 15) d_M_feed_10 rfl (fun c1 => ?_) (fun c1 => ?_)
  · replace h := ite_t c1 h
    refine x_aload_n d_M_feed_15 rfl 0 rfl ?_
    refine x_iload_n d_M_feed_16 rfl 1 rfl ?_
    obtain ⟨S3, q2, h⟩ := bd_inv h
    refine y_V1v (S1 := S3) d_M_feed_17 ml_11_148 kd_78 rfl (Nat.le_of_ble_eq_true rfl) (Nat.le_of_ble_eq_true rfl) (c_M_four (by omega) q2) ?_
    refine x_aload_n d_M_feed_20 rfl 0 rfl ?_
    refine x_iload_n d_M_feed_21 rfl 2 rfl ?_
    obtain ⟨S5, q4, h⟩ := bd_inv h
    refine y_V1v (S1 := S5) d_M_feed_22 ml_11_148 kd_78 rfl (Nat.le_of_ble_eq_true rfl) (Nat.le_of_ble_eq_true rfl) (c_M_four (by omega) q4) ?_
    refine x_aload_n d_M_feed_25 rfl 0 rfl ?_
    refine x_iload_n d_M_feed_26 rfl 3 rfl ?_
    obtain ⟨S7, q6, h⟩ := bd_inv h
    refine y_V1v (S1 := S7) d_M_feed_27 ml_11_148 kd_78 rfl (Nat.le_of_ble_eq_true rfl) (Nat.le_of_ble_eq_true rfl) (c_M_four (by omega) q6) ?_
    refine x_aload_n d_M_feed_30 rfl 0 rfl ?_
    refine x_iload d_M_feed_31 4 rfl ?_
    obtain ⟨S9, q8, h⟩ := bd_inv h
    refine y_V1v (S1 := S9) d_M_feed_33 ml_11_148 kd_78 rfl (Nat.le_of_ble_eq_true rfl) (Nat.le_of_ble_eq_true rfl) (c_M_four (by omega) q8) ?_
    refine x_aload_n d_M_feed_36 rfl 0 rfl ?_
    refine x_iload d_M_feed_37 5 rfl ?_
    obtain ⟨S11, q10, h⟩ := bd_inv h
    refine y_V1v (S1 := S11) d_M_feed_39 ml_11_148 kd_78 rfl (Nat.le_of_ble_eq_true rfl) (Nat.le_of_ble_eq_true rfl) (c_M_four (by omega) q10) ?_
    refine x_aload_n d_M_feed_42 rfl 0 rfl ?_
    refine y_getI d_M_feed_43 fl_11_145 rfl kd_78 ?_
    obtain rfl := Option.some.inj h
    exact x_ret (r := some (.int (S11.1 78 1))) d_M_feed_46 ⟨_, rfl, rfl⟩
  · replace h := ite_f c1 h
    refine x_iconst d_M_feed_13 ic_m1 ?_
    obtain rfl := Option.some.inj h
    exact x_ret (r := some (.int (-1 : Int32))) d_M_feed_14 ⟨_, rfl, rfl⟩
/-! NinetyPlayers.end -/
def fN_end (F G : Nat) (S : St) (p1 : Int32) : Option (Int32 × St) :=
  if p1 < 0 then some ((-1 : Int32), S) else if p1 ≤ (S.1 2 0) then lt (sI S 2 0 p1) fun S3 => some (p1, S3) else some ((-1 : Int32), S)
set_option maxRecDepth 100000 in
set_option maxHeartbeats 4000000 in
theorem c_N_end {X : Nat × (Nat → Int32)} {D F G : Nat} (hD : 0 ≤ D) {S : St} {p1 : Int32} {res : Int32 × St} (h : fN_end F G S p1 = some res) : Ek X (D) mN_end 0 [(0, .ref 0), (1, .int p1)] [] S (some (.int res.1)) res.2 := by
  unfold fN_end at h
  refine x_iload_n d_N_end_0 rfl 1 rfl ?_
  refine x_if_lt (tgt := 15) d_N_end_1 rfl (fun c1 => ?_) (fun c1 => ?_)
  · replace h := ite_t c1 h
    refine x_iconst d_N_end_15 ic_m1 ?_
    obtain rfl := Option.some.inj h
    exact x_ret (r := some (.int (-1 : Int32))) d_N_end_16 ⟨_, rfl, rfl⟩
  · replace h := ite_f c1 h
    refine x_iload_n d_N_end_4 rfl 1 rfl ?_
    refine x_aload_n d_N_end_5 rfl 0 rfl ?_
    refine y_getR d_N_end_6 fl_0_20 rfl kd_0 rr_0_1 ?_
    refine y_getI d_N_end_9 fl_0_84 rfl kd_2 ?_
    refine x_icmp_le (tgt := 17) d_N_end_12 rfl (fun c2 => ?_) (fun c2 => ?_)
    · replace h := ite_t c2 h
      refine x_aload_n d_N_end_17 rfl 0 rfl ?_
      refine y_getR d_N_end_18 fl_0_20 rfl kd_0 rr_0_1 ?_
      refine x_iload_n d_N_end_21 rfl 1 rfl ?_
      obtain ⟨S3, e4, h⟩ := lt_inv h
      refine y_putI e4 d_N_end_22 fl_0_84 rfl rfl kd_2 rfl rfl ?_
      refine x_iload_n d_N_end_25 rfl 1 rfl ?_
      obtain rfl := Option.some.inj h
      exact x_ret (r := some (.int p1)) d_N_end_26 ⟨_, rfl, rfl⟩
    · replace h := ite_f c2 h
      refine x_iconst d_N_end_15 ic_m1 ?_
      obtain rfl := Option.some.inj h
      exact x_ret (r := some (.int (-1 : Int32))) d_N_end_16 ⟨_, rfl, rfl⟩
/-! NinetyPlayersModel.end -/
def fM_end (F G : Nat) (S : St) (p1 : Int32) : Option (Int32 × St) :=
  if p1 < 0 then some ((-1 : Int32), S) else if p1 ≤ (S.1 78 1) then lt (sI S 78 1 p1) fun S3 => some (p1, S3) else some ((-1 : Int32), S)
set_option maxRecDepth 100000 in
set_option maxHeartbeats 4000000 in
theorem c_M_end {X : Nat × (Nat → Int32)} {D F G : Nat} (hD : 0 ≤ D) {S : St} {p1 : Int32} {res : Int32 × St} (h : fM_end F G S p1 = some res) : Ek X (D) mM_end 0 [(0, .ref 78), (1, .int p1)] [] S (some (.int res.1)) res.2 := by
  unfold fM_end at h
  refine x_iload_n d_M_end_0 rfl 1 rfl ?_
  refine x_if_lt (tgt := 12) d_M_end_1 rfl (fun c1 => ?_) (fun c1 => ?_)
  · replace h := ite_t c1 h
    refine x_iconst d_M_end_12 ic_m1 ?_
    obtain rfl := Option.some.inj h
    exact x_ret (r := some (.int (-1 : Int32))) d_M_end_13 ⟨_, rfl, rfl⟩
  · replace h := ite_f c1 h
    refine x_iload_n d_M_end_4 rfl 1 rfl ?_
    refine x_aload_n d_M_end_5 rfl 0 rfl ?_
    refine y_getI d_M_end_6 fl_11_145 rfl kd_78 ?_
    refine x_icmp_le (tgt := 14) d_M_end_9 rfl (fun c2 => ?_) (fun c2 => ?_)
    · replace h := ite_t c2 h
      refine x_aload_n d_M_end_14 rfl 0 rfl ?_
      refine x_iload_n d_M_end_15 rfl 1 rfl ?_
      obtain ⟨S3, e4, h⟩ := lt_inv h
      refine y_putI e4 d_M_end_16 fl_11_145 rfl rfl kd_78 rfl rfl ?_
      refine x_iload_n d_M_end_19 rfl 1 rfl ?_
      obtain rfl := Option.some.inj h
      exact x_ret (r := some (.int p1)) d_M_end_20 ⟨_, rfl, rfl⟩
    · replace h := ite_f c2 h
      refine x_iconst d_M_end_12 ic_m1 ?_
      obtain rfl := Option.some.inj h
      exact x_ret (r := some (.int (-1 : Int32))) d_M_end_13 ⟨_, rfl, rfl⟩
/-! NinetyPlayers$Formula.forget -/
def fF_forget (F G : Nat) (S : St) (o : Nat) : Option (St) :=
  gd (isFo o) (lt (sI S o 0 (0 : Int32)) fun S1 => lt (sI S1 o 1 (0 : Int32)) fun S3 => some S3)
set_option maxRecDepth 100000 in
set_option maxHeartbeats 4000000 in
theorem c_F_forget {X : Nat × (Nat → Int32)} {D F G : Nat} (hD : 0 ≤ D) {S : St} {o : Nat} {res : St} (h : fF_forget F G S o = some res) : Ek X (D) mF_forget 0 [(0, .ref o)] [] S none res := by
  unfold fF_forget at h
  obtain ⟨gg0, h⟩ := gd_inv h
  refine x_aload_n d_F_forget_0 rfl 0 rfl ?_
  refine x_iconst d_F_forget_1 ic_0 ?_
  obtain ⟨S1, e2, h⟩ := lt_inv h
  refine y_putI e2 d_F_forget_2 fl_3_21 rfl rfl (ksFo gg0) rfl rfl ?_
  refine x_aload_n d_F_forget_5 rfl 0 rfl ?_
  refine x_iconst d_F_forget_6 ic_0 ?_
  obtain ⟨S3, e4, h⟩ := lt_inv h
  refine y_putI e4 d_F_forget_7 fl_3_25 rfl rfl (ksFo gg0) rfl rfl ?_
  obtain rfl := Option.some.inj h
  exact x_ret (r := none) d_F_forget_10 rfl
/-! NinetyPlayers$Score.forget -/
def fS_forget (F G : Nat) (S : St) (o : Nat) : Option (St) :=
  gd (isSc o) (lt (sI S o 0 (12 : Int32)) fun S1 => lt (sI S1 o 1 (12 : Int32)) fun S3 => lt (sI S3 o 2 (5 : Int32)) fun S5 => lt (sI S5 o 3 (20 : Int32)) fun S7 => lt (sI S7 o 4 (2 : Int32)) fun S9 => lt (sI S9 o 5 (0 : Int32)) fun S11 => lt (sI S11 o 6 (0 : Int32)) fun S13 => bd (fF_forget F G S13 (o + 9)) fun S16 => some S16)
set_option maxRecDepth 100000 in
set_option maxHeartbeats 4000000 in
theorem c_S_forget {X : Nat × (Nat → Int32)} {D F G : Nat} (hD : 1 ≤ D) {S : St} {o : Nat} {res : St} (h : fS_forget F G S o = some res) : Ek X (D) mS_forget 0 [(0, .ref o)] [] S none res := by
  obtain ⟨D, rfl⟩ : ∃ E, D = E + 1 := ⟨D - 1, by omega⟩
  unfold fS_forget at h
  obtain ⟨gg0, h⟩ := gd_inv h
  refine x_aload_n d_S_forget_0 rfl 0 rfl ?_
  refine x_bipush d_S_forget_1 bp_12 ?_
  obtain ⟨S1, e2, h⟩ := lt_inv h
  refine y_putI e2 d_S_forget_3 fl_2_47 rfl rfl (ksSc gg0) rfl rfl ?_
  refine x_aload_n d_S_forget_6 rfl 0 rfl ?_
  refine x_bipush d_S_forget_7 bp_12 ?_
  obtain ⟨S3, e4, h⟩ := lt_inv h
  refine y_putI e4 d_S_forget_9 fl_2_51 rfl rfl (ksSc gg0) rfl rfl ?_
  refine x_aload_n d_S_forget_12 rfl 0 rfl ?_
  refine x_iconst d_S_forget_13 ic_5 ?_
  obtain ⟨S5, e6, h⟩ := lt_inv h
  refine y_putI e6 d_S_forget_14 fl_2_54 rfl rfl (ksSc gg0) rfl rfl ?_
  refine x_aload_n d_S_forget_17 rfl 0 rfl ?_
  refine x_bipush d_S_forget_18 bp_20 ?_
  obtain ⟨S7, e8, h⟩ := lt_inv h
  refine y_putI e8 d_S_forget_20 fl_2_57 rfl rfl (ksSc gg0) rfl rfl ?_
  refine x_aload_n d_S_forget_23 rfl 0 rfl ?_
  refine x_iconst d_S_forget_24 ic_2 ?_
  obtain ⟨S9, e10, h⟩ := lt_inv h
  refine y_putI e10 d_S_forget_25 fl_2_60 rfl rfl (ksSc gg0) rfl rfl ?_
  refine x_aload_n d_S_forget_28 rfl 0 rfl ?_
  refine x_iconst d_S_forget_29 ic_0 ?_
  obtain ⟨S11, e12, h⟩ := lt_inv h
  refine y_putI e12 d_S_forget_30 fl_2_63 rfl rfl (ksSc gg0) rfl rfl ?_
  refine x_aload_n d_S_forget_33 rfl 0 rfl ?_
  refine x_iconst d_S_forget_34 ic_0 ?_
  obtain ⟨S13, e14, h⟩ := lt_inv h
  refine y_putI e14 d_S_forget_35 fl_2_66 rfl rfl (ksSc gg0) rfl rfl ?_
  refine x_aload_n d_S_forget_38 rfl 0 rfl ?_
  refine y_getR d_S_forget_39 fl_2_40 rfl (ksSc gg0) (rrSc_15 gg0) ?_
  obtain ⟨S16, q15, h⟩ := bd_inv h
  refine y_V0v (S1 := S16) d_S_forget_42 ml_2_69 (ksFo (isFo_of gg0)) rfl (Nat.le_of_ble_eq_true rfl) (Nat.le_of_ble_eq_true rfl) (c_F_forget (by omega) q15) ?_
  obtain rfl := Option.some.inj h
  exact x_ret (r := none) d_S_forget_45 rfl
/-! NinetyPlayers$Tape.at -/
def fT_at (F G : Nat) (S : St) (p1 : Int32) : Option (Int32) :=
  if p1 < 0 then some (-1 : Int32) else if (S.1 2 0) ≤ p1 then some (-1 : Int32) else if (1600 : Int32) ≤ p1 then some (-1 : Int32) else gd (inB p1 1600) (some ((S.1 3 p1.toNatClampNeg) &&& (255 : Int32)))
set_option maxRecDepth 100000 in
set_option maxHeartbeats 4000000 in
theorem c_T_at {X : Nat × (Nat → Int32)} {D F G : Nat} (hD : 0 ≤ D) {S : St} {p1 : Int32} {res : Int32} (h : fT_at F G S p1 = some res) : Ek X (D) mT_at 0 [(0, .ref 2), (1, .int p1)] [] S (some (.int res)) S := by
  unfold fT_at at h
  refine x_iload_n d_T_at_0 rfl 1 rfl ?_
  refine x_if_lt (tgt := 32) d_T_at_1 rfl (fun c1 => ?_) (fun c1 => ?_)
  · replace h := ite_t c1 h
    refine x_iconst d_T_at_32 ic_m1 ?_
    obtain rfl := Option.some.inj h
    exact x_ret (r := some (.int (-1 : Int32))) d_T_at_33 ⟨_, rfl, rfl⟩
  · replace h := ite_f c1 h
    refine x_iload_n d_T_at_4 rfl 1 rfl ?_
    refine x_aload_n d_T_at_5 rfl 0 rfl ?_
    refine y_getI d_T_at_6 fl_4_15 rfl kd_2 ?_
    refine x_icmp_ge (tgt := 32) d_T_at_9 rfl (fun c2 => ?_) (fun c2 => ?_)
    · replace h := ite_t c2 h
      refine x_iconst d_T_at_32 ic_m1 ?_
      obtain rfl := Option.some.inj h
      exact x_ret (r := some (.int (-1 : Int32))) d_T_at_33 ⟨_, rfl, rfl⟩
    · replace h := ite_f c2 h
      refine x_iload_n d_T_at_12 rfl 1 rfl ?_
      refine x_sipush d_T_at_13 sp_1600 ?_
      refine x_icmp_ge (tgt := 32) d_T_at_16 rfl (fun c3 => ?_) (fun c3 => ?_)
      · replace h := ite_t c3 h
        refine x_iconst d_T_at_32 ic_m1 ?_
        obtain rfl := Option.some.inj h
        exact x_ret (r := some (.int (-1 : Int32))) d_T_at_33 ⟨_, rfl, rfl⟩
      · replace h := ite_f c3 h
        refine x_aload_n d_T_at_19 rfl 0 rfl ?_
        refine y_getR d_T_at_20 fl_4_9 rfl kd_2 rr_2_1 ?_
        refine x_iload_n d_T_at_23 rfl 1 rfl ?_
        obtain ⟨g4, h⟩ := gd_inv h
        refine y_bald d_T_at_24 kd_3 g4 ?_
        refine x_sipush d_T_at_25 sp_255 ?_
        refine x_iand d_T_at_28 ?_
        refine x_goto (tgt := 33) d_T_at_29 rfl ?_
        obtain rfl := Option.some.inj h
        exact x_ret (r := some (.int ((S.1 3 p1.toNatClampNeg) &&& (255 : Int32)))) d_T_at_33 ⟨_, rfl, rfl⟩
/-! NinetyPlayers$Tape.isBlank -/
def fT_isBlank (F G : Nat) (S : St) (p1 : Int32) : Option (Int32) :=
  if p1 = (32 : Int32) then some (1 : Int32) else if p1 = (10 : Int32) then some (1 : Int32) else some (0 : Int32)
set_option maxRecDepth 100000 in
set_option maxHeartbeats 4000000 in
theorem c_T_isBlank {X : Nat × (Nat → Int32)} {D F G : Nat} (hD : 0 ≤ D) {S : St} {p1 : Int32} {res : Int32} (h : fT_isBlank F G S p1 = some res) : Ek X (D) mT_isBlank 0 [(0, .int p1)] [] S (some (.int res)) S := by
  unfold fT_isBlank at h
  refine x_iload_n d_T_isBlank_0 rfl 0 rfl ?_
  refine x_bipush d_T_isBlank_1 bp_32 ?_
  refine x_icmp_eq (tgt := 12) d_T_isBlank_3 rfl (fun c1 => ?_) (fun c1 => ?_)
  · replace h := ite_t c1 h
    refine x_iconst d_T_isBlank_12 ic_1 ?_
    refine x_goto (tgt := 17) d_T_isBlank_13 rfl ?_
    obtain rfl := Option.some.inj h
    exact x_ret (r := some (.int (1 : Int32))) d_T_isBlank_17 ⟨_, rfl, rfl⟩
  · replace h := ite_f c1 h
    refine x_iload_n d_T_isBlank_6 rfl 0 rfl ?_
    refine x_bipush d_T_isBlank_7 bp_10 ?_
    refine x_icmp_ne (tgt := 16) d_T_isBlank_9 rfl (fun c2 => ?_) (fun c2 => ?_)
    · replace h := ite_f c2 h
      refine x_iconst d_T_isBlank_16 ic_0 ?_
      obtain rfl := Option.some.inj h
      exact x_ret (r := some (.int (0 : Int32))) d_T_isBlank_17 ⟨_, rfl, rfl⟩
    · replace h := ite_t c2 h
      refine x_iconst d_T_isBlank_12 ic_1 ?_
      refine x_goto (tgt := 17) d_T_isBlank_13 rfl ?_
      obtain rfl := Option.some.inj h
      exact x_ret (r := some (.int (1 : Int32))) d_T_isBlank_17 ⟨_, rfl, rfl⟩
/-! NinetyPlayers$Tape.isLetter -/
def fT_isLetter (F G : Nat) (S : St) (p1 : Int32) : Option (Int32) :=
  if p1 < (97 : Int32) then some (0 : Int32) else if (122 : Int32) < p1 then some (0 : Int32) else some (1 : Int32)
set_option maxRecDepth 100000 in
set_option maxHeartbeats 4000000 in
theorem c_T_isLetter {X : Nat × (Nat → Int32)} {D F G : Nat} (hD : 0 ≤ D) {S : St} {p1 : Int32} {res : Int32} (h : fT_isLetter F G S p1 = some res) : Ek X (D) mT_isLetter 0 [(0, .int p1)] [] S (some (.int res)) S := by
  unfold fT_isLetter at h
  refine x_iload_n d_T_isLetter_0 rfl 0 rfl ?_
  refine x_bipush d_T_isLetter_1 bp_97 ?_
  refine x_icmp_lt (tgt := 16) d_T_isLetter_3 rfl (fun c1 => ?_) (fun c1 => ?_)
  · replace h := ite_t c1 h
    refine x_iconst d_T_isLetter_16 ic_0 ?_
    obtain rfl := Option.some.inj h
    exact x_ret (r := some (.int (0 : Int32))) d_T_isLetter_17 ⟨_, rfl, rfl⟩
  · replace h := ite_f c1 h
    refine x_iload_n d_T_isLetter_6 rfl 0 rfl ?_
    refine x_bipush d_T_isLetter_7 bp_122 ?_
    refine x_icmp_gt (tgt := 16) d_T_isLetter_9 rfl (fun c2 => ?_) (fun c2 => ?_)
    · replace h := ite_t c2 h
      refine x_iconst d_T_isLetter_16 ic_0 ?_
      obtain rfl := Option.some.inj h
      exact x_ret (r := some (.int (0 : Int32))) d_T_isLetter_17 ⟨_, rfl, rfl⟩
    · replace h := ite_f c2 h
      refine x_iconst d_T_isLetter_12 ic_1 ?_
      refine x_goto (tgt := 17) d_T_isLetter_13 rfl ?_
      obtain rfl := Option.some.inj h
      exact x_ret (r := some (.int (1 : Int32))) d_T_isLetter_17 ⟨_, rfl, rfl⟩
/-! java/lang/String.coder -/
def fJ_coder (F G : Nat) (S : St) (o : Nat) : Option (Int32) :=
  gd (decide (o < 2)) (if (1 : Int32) = 0 then gd (decide (narrow .byte (.int (1 : Int32)) = .int (1 : Int32))) (some (1 : Int32)) else gd (decide (narrow .byte (.int (0 : Int32)) = .int (0 : Int32))) (some (0 : Int32)))
set_option maxRecDepth 100000 in
set_option maxHeartbeats 4000000 in
theorem c_J_coder {X : Nat × (Nat → Int32)} {D F G : Nat} (hD : 0 ≤ D) {S : St} {o : Nat} {res : Int32} (h : fJ_coder F G S o = some res) : Ek X (D) mJ_coder 0 [(0, .ref (1000 + 2 * o))] [] S (some (.int res)) S := by
  unfold fJ_coder at h
  obtain ⟨gg0, h⟩ := gd_inv h
  refine x_gsCS d_J_coder_0 fl_16_38 ?_
  refine x_if_eq (tgt := 13) d_J_coder_3 rfl (fun c1 => ?_) (fun c1 => ?_)
  · replace h := ite_t c1 h
    refine x_iconst d_J_coder_13 ic_1 ?_
    obtain ⟨g2, h⟩ := gd_inv h
    obtain rfl := Option.some.inj h
    exact x_ret (r := some (.int (1 : Int32))) d_J_coder_14 ⟨_, rfl, of_decide_eq_true g2⟩
  · replace h := ite_f c1 h
    refine x_aload_n d_J_coder_6 rfl 0 rfl ?_
    refine x_getSC d_J_coder_7 (of_decide_eq_true gg0) fl_16_15 ?_
    refine x_goto (tgt := 14) d_J_coder_10 rfl ?_
    obtain ⟨g3, h⟩ := gd_inv h
    obtain rfl := Option.some.inj h
    exact x_ret (r := some (.int (0 : Int32))) d_J_coder_14 ⟨_, rfl, of_decide_eq_true g3⟩
/-! java/lang/String.length -/
def fJ_length (F G : Nat) (S : St) (o : Nat) : Option (Int32) :=
  gd (decide (o < 2)) (bd (fJ_coder F G S o) fun v2 => some ((Int32.ofNat (lenS.getD o 0)) >>> (v2 &&& 31)))
set_option maxRecDepth 100000 in
set_option maxHeartbeats 4000000 in
theorem c_J_length {X : Nat × (Nat → Int32)} {D F G : Nat} (hD : 1 ≤ D) {S : St} {o : Nat} {res : Int32} (h : fJ_length F G S o = some res) : Ek X (D) mJ_length 0 [(0, .ref (1000 + 2 * o))] [] S (some (.int res)) S := by
  obtain ⟨D, rfl⟩ : ∃ E, D = E + 1 := ⟨D - 1, by omega⟩
  unfold fJ_length at h
  obtain ⟨gg0, h⟩ := gd_inv h
  refine x_aload_n d_J_length_0 rfl 0 rfl ?_
  refine x_getSV d_J_length_1 (of_decide_eq_true gg0) fl_16_9 ?_
  refine x_alenS d_J_length_4 (of_decide_eq_true gg0) ?_
  refine x_aload_n d_J_length_5 rfl 0 rfl ?_
  obtain ⟨v2, q1, h⟩ := bd_inv h
  refine y_T0i (i := o) (v := v2) (S1 := S) d_J_length_6 ml_16_335 gg0 rfl (Nat.le_of_ble_eq_true rfl) (Nat.le_of_ble_eq_true rfl) (c_J_coder (by omega) q1) ?_
  refine x_ishr d_J_length_9 ?_
  obtain rfl := Option.some.inj h
  exact x_ret (r := some (.int ((Int32.ofNat (lenS.getD o 0)) >>> (v2 &&& 31)))) d_J_length_10 ⟨_, rfl, rfl⟩
/-! java/lang/String.isLatin1 -/
def fJ_isLatin1 (F G : Nat) (S : St) (o : Nat) : Option (Int32) :=
  gd (decide (o < 2)) (if (1 : Int32) = 0 then some (0 : Int32) else if (0 : Int32) = 0 then some (1 : Int32) else some (0 : Int32))
set_option maxRecDepth 100000 in
set_option maxHeartbeats 4000000 in
theorem c_J_isLatin1 {X : Nat × (Nat → Int32)} {D F G : Nat} (hD : 0 ≤ D) {S : St} {o : Nat} {res : Int32} (h : fJ_isLatin1 F G S o = some res) : Ek X (D) mJ_isLatin1 0 [(0, .ref (1000 + 2 * o))] [] S (some (.int res)) S := by
  unfold fJ_isLatin1 at h
  obtain ⟨gg0, h⟩ := gd_inv h
  refine x_gsCS d_J_isLatin1_0 fl_16_38 ?_
  refine x_if_eq (tgt := 17) d_J_isLatin1_3 rfl (fun c1 => ?_) (fun c1 => ?_)
  · replace h := ite_t c1 h
    refine x_iconst d_J_isLatin1_17 ic_0 ?_
    obtain rfl := Option.some.inj h
    exact x_ret (r := some (.int (0 : Int32))) d_J_isLatin1_18 ⟨_, rfl, rfl⟩
  · replace h := ite_f c1 h
    refine x_aload_n d_J_isLatin1_6 rfl 0 rfl ?_
    refine x_getSC d_J_isLatin1_7 (of_decide_eq_true gg0) fl_16_15 ?_
    refine x_if_ne (tgt := 17) d_J_isLatin1_10 rfl (fun c2 => ?_) (fun c2 => ?_)
    · replace h := ite_f c2 h
      refine x_iconst d_J_isLatin1_17 ic_0 ?_
      obtain rfl := Option.some.inj h
      exact x_ret (r := some (.int (0 : Int32))) d_J_isLatin1_18 ⟨_, rfl, rfl⟩
    · replace h := ite_t c2 h
      refine x_iconst d_J_isLatin1_13 ic_1 ?_
      refine x_goto (tgt := 18) d_J_isLatin1_14 rfl ?_
      obtain rfl := Option.some.inj h
      exact x_ret (r := some (.int (1 : Int32))) d_J_isLatin1_18 ⟨_, rfl, rfl⟩
/-! jdk/internal/util/Preconditions.checkIndex -/
def fJ_checkIndex3 (F G : Nat) (S : St) (p1 : Int32) (p2 : Int32) : Option (Int32) :=
  if p1 < 0 then none else if p1 < p2 then some p1 else none
set_option maxRecDepth 100000 in
set_option maxHeartbeats 4000000 in
theorem c_J_checkIndex3 {X : Nat × (Nat → Int32)} {D F G : Nat} (hD : 0 ≤ D) {S : St} {p1 : Int32} {p2 : Int32} {res : Int32} (h : fJ_checkIndex3 F G S p1 p2 = some res) : Ek X (D) mJ_checkIndex3 0 [(0, .int p1), (1, .int p2), (2, .retAddr 0)] [] S (some (.int res)) S := by
  unfold fJ_checkIndex3 at h
  refine x_iload_n d_J_checkIndex3_0 rfl 0 rfl ?_
  refine x_if_lt (tgt := 9) d_J_checkIndex3_1 rfl (fun c1 => ?_) (fun c1 => ?_)
  · replace h := ite_t c1 h
    cases h
  · replace h := ite_f c1 h
    refine x_iload_n d_J_checkIndex3_4 rfl 0 rfl ?_
    refine x_iload_n d_J_checkIndex3_5 rfl 1 rfl ?_
    refine x_icmp_lt (tgt := 16) d_J_checkIndex3_6 rfl (fun c2 => ?_) (fun c2 => ?_)
    · replace h := ite_t c2 h
      refine x_iload_n d_J_checkIndex3_16 rfl 0 rfl ?_
      obtain rfl := Option.some.inj h
      exact x_ret (r := some (.int p1)) d_J_checkIndex3_17 ⟨_, rfl, rfl⟩
    · replace h := ite_f c2 h
      cases h
/-! java/lang/String.checkIndex -/
def fJ_checkIndex (F G : Nat) (S : St) (p1 : Int32) (p2 : Int32) : Option (Unit) :=
  bd (fJ_checkIndex3 F G S p1 p2) fun v2 => some ()
set_option maxRecDepth 100000 in
set_option maxHeartbeats 4000000 in
theorem c_J_checkIndex {X : Nat × (Nat → Int32)} {D F G : Nat} (hD : 1 ≤ D) {S : St} {p1 : Int32} {p2 : Int32} {res : Unit} (h : fJ_checkIndex F G S p1 p2 = some res) : Ek X (D) mJ_checkIndex 0 [(0, .int p1), (1, .int p2)] [] S none S := by
  obtain ⟨D, rfl⟩ : ∃ E, D = E + 1 := ⟨D - 1, by omega⟩
  unfold fJ_checkIndex at h
  refine x_iload_n d_J_checkIndex_0 rfl 0 rfl ?_
  refine x_iload_n d_J_checkIndex_1 rfl 1 rfl ?_
  refine x_gsFM d_J_checkIndex_2 fl_16_1053 ?_
  obtain ⟨v2, q1, h⟩ := bd_inv h
  refine y_S3i (v := v2) (S1 := S) d_J_checkIndex_5 ml_16_1059 (Nat.le_of_ble_eq_true rfl) (Nat.le_of_ble_eq_true rfl) (c_J_checkIndex3 (by omega) q1) ?_
  refine x_pop d_J_checkIndex_8 rfl ?_
  exact x_ret (r := none) d_J_checkIndex_9 rfl
/-! java/lang/StringLatin1.charAt -/
def fJ_charAt2 (F G : Nat) (S : St) (p1 : Nat) (p2 : Int32) : Option (Int32) :=
  gd (decide (p1 < 2)) (bd (fJ_checkIndex F G S p2 (Int32.ofNat (lenS.getD p1 0))) fun v2 => gd (inB p2 (lenS.getD p1 0)) (gd (decide (narrow .char (.int (((((bytS.getD p1 []).getD (p2).toNatClampNeg 0) &&& (255 : Int32)).toUInt32 % 65536).toInt32)) = .int (((((bytS.getD p1 []).getD (p2).toNatClampNeg 0) &&& (255 : Int32)).toUInt32 % 65536).toInt32))) (some (((((bytS.getD p1 []).getD (p2).toNatClampNeg 0) &&& (255 : Int32)).toUInt32 % 65536).toInt32))))
set_option maxRecDepth 100000 in
set_option maxHeartbeats 4000000 in
theorem c_J_charAt2 {X : Nat × (Nat → Int32)} {D F G : Nat} (hD : 2 ≤ D) {S : St} {p1 : Nat} {p2 : Int32} {res : Int32} (h : fJ_charAt2 F G S p1 p2 = some res) : Ek X (D) mJ_charAt2 0 [(0, .ref (1001 + 2 * p1)), (1, .int p2)] [] S (some (.int res)) S := by
  obtain ⟨D, rfl⟩ : ∃ E, D = E + 1 := ⟨D - 1, by omega⟩
  unfold fJ_charAt2 at h
  obtain ⟨gg0, h⟩ := gd_inv h
  refine x_iload_n d_J_charAt2_0 rfl 1 rfl ?_
  refine x_aload_n d_J_charAt2_1 rfl 0 rfl ?_
  refine x_alenS d_J_charAt2_2 (of_decide_eq_true gg0) ?_
  obtain ⟨v2, q1, h⟩ := bd_inv h
  refine y_S2v (S1 := S) d_J_charAt2_3 ml_17_9 (Nat.le_of_ble_eq_true rfl) (Nat.le_of_ble_eq_true rfl) (c_J_checkIndex (by omega) q1) ?_
  refine x_aload_n d_J_charAt2_6 rfl 0 rfl ?_
  refine x_iload_n d_J_charAt2_7 rfl 1 rfl ?_
  obtain ⟨g3, h⟩ := gd_inv h
  refine x_baldS d_J_charAt2_8 (of_decide_eq_true gg0) (inB_in g3) ?_
  refine x_sipush d_J_charAt2_9 sp_255 ?_
  refine x_iand d_J_charAt2_12 ?_
  refine x_i2c d_J_charAt2_13 ?_
  obtain ⟨g4, h⟩ := gd_inv h
  obtain rfl := Option.some.inj h
  exact x_ret (r := some (.int (((((bytS.getD p1 []).getD (p2).toNatClampNeg 0) &&& (255 : Int32)).toUInt32 % 65536).toInt32))) d_J_charAt2_14 ⟨_, rfl, of_decide_eq_true g4⟩
/-! java/lang/String.charAt -/
def fJ_charAt (F G : Nat) (S : St) (o : Nat) (p1 : Int32) : Option (Int32) :=
  gd (decide (o < 2)) (bd (fJ_isLatin1 F G S o) fun v2 => if v2 = 0 then none else bd (fJ_charAt2 F G S o p1) fun v5 => gd (decide (narrow .char (.int v5) = .int v5)) (some v5))
set_option maxRecDepth 100000 in
set_option maxHeartbeats 4000000 in
theorem c_J_charAt {X : Nat × (Nat → Int32)} {D F G : Nat} (hD : 3 ≤ D) {S : St} {o : Nat} {p1 : Int32} {res : Int32} (h : fJ_charAt F G S o p1 = some res) : Ek X (D) mJ_charAt 0 [(0, .ref (1000 + 2 * o)), (1, .int p1)] [] S (some (.int res)) S := by
  obtain ⟨D, rfl⟩ : ∃ E, D = E + 1 := ⟨D - 1, by omega⟩
  unfold fJ_charAt at h
  obtain ⟨gg0, h⟩ := gd_inv h
  refine x_aload_n d_J_charAt_0 rfl 0 rfl ?_
  obtain ⟨v2, q1, h⟩ := bd_inv h
  refine y_T0i (i := o) (v := v2) (S1 := S) d_J_charAt_1 ml_16_492 gg0 rfl (Nat.le_of_ble_eq_true rfl) (Nat.le_of_ble_eq_true rfl) (c_J_isLatin1 (by omega) q1) ?_
  refine x_if_eq (tgt := 16) d_J_charAt_4 rfl (fun c3 => ?_) (fun c3 => ?_)
  · replace h := ite_t c3 h
    refine x_aload_n d_J_charAt_16 rfl 0 rfl ?_
    refine x_getSV d_J_charAt_17 (of_decide_eq_true gg0) fl_16_9 ?_
    refine x_iload_n d_J_charAt_20 rfl 1 rfl ?_
    cases h
  · replace h := ite_f c3 h
    refine x_aload_n d_J_charAt_7 rfl 0 rfl ?_
    refine x_getSV d_J_charAt_8 (of_decide_eq_true gg0) fl_16_9 ?_
    refine x_iload_n d_J_charAt_11 rfl 1 rfl ?_
    obtain ⟨v5, q4, h⟩ := bd_inv h
    refine y_S2i (v := v5) (S1 := S) d_J_charAt_12 ml_16_495 (Nat.le_of_ble_eq_true rfl) (Nat.le_of_ble_eq_true rfl) (c_J_charAt2 (by omega) q4) ?_
    obtain ⟨g6, h⟩ := gd_inv h
    obtain rfl := Option.some.inj h
    exact x_ret (r := some (.int v5)) d_J_charAt_15 ⟨_, rfl, of_decide_eq_true g6⟩
/-! NinetyPlayers$Word.numberOf -/
def j_W_numberOf_86 (F G : Nat) (S : St) (z1 : Int32) (z2 : Int32) (z3 : Int32) (z4 : Int32) (k116 : Int32 → Option (Int32)) (rec : Int32 → Int32 → Option (Int32)) (_ : St) (y6 : Int32) (s0 : Int32) : Option (Int32) :=
  bd (fJ_charAt F G S 0 (z4 + y6)) fun v17 => if v17 = s0 then lt (y6 + 1) fun v21 => rec (1 : Int32) v21 else lt (y6 + 1) fun v19 => rec (0 : Int32) v19
def j_W_numberOf_84 (F G : Nat) (S : St) (z1 : Int32) (z2 : Int32) (z3 : Int32) (z4 : Int32) (k116 : Int32 → Option (Int32)) (rec : Int32 → Int32 → Option (Int32)) (_ : St) (y6 : Int32) : Option (Int32) :=
  j_W_numberOf_86 F G S z1 z2 z3 z4 k116 rec  S y6 (32 : Int32)
def b_W_numberOf_28 (F G : Nat) (S : St) (z1 : Int32) (z2 : Int32) (z3 : Int32) (z4 : Int32) (k116 : Int32 → Option (Int32)) (rec : Int32 → Int32 → Option (Int32)) (w5 : Int32) (w6 : Int32) : Option (Int32) :=
  if w5 = 0 then k116 w5 else if (8 : Int32) ≤ w6 then k116 w5 else bd (fJ_length F G S 0) fun v8 => if v8 ≤ (z4 + w6) then k116 w5 else lt (z1 + w6) fun v10 => if v10 < 0 then j_W_numberOf_84 F G S z1 z2 z3 z4 k116 rec  S w6 else if z2 ≤ v10 then j_W_numberOf_84 F G S z1 z2 z3 z4 k116 rec  S w6 else if (Int32.ofNat 1600) ≤ v10 then j_W_numberOf_84 F G S z1 z2 z3 z4 k116 rec  S w6 else gd (inB v10 1600) (j_W_numberOf_86 F G S z1 z2 z3 z4 k116 rec  S w6 (S.1 3 v10.toNatClampNeg))
def j_W_numberOf_116 (F G : Nat) (S : St) (z1 : Int32) (z2 : Int32) (rec : Int32 → Option (Int32)) (_ : St) (y3 : Int32) (y5 : Int32) : Option (Int32) :=
  if y5 = 0 then lt (y3 + 1) fun v25 => rec v25 else some y3
def b_W_numberOf_2 (F G : Nat) (S : St) (z1 : Int32) (z2 : Int32) (rec : Int32 → Option (Int32)) (w3 : Int32) : Option (Int32) :=
  if (20 : Int32) < w3 then some (-1 : Int32) else if (8 : Int32) < (z2 - z1) then some (-1 : Int32) else lt (w3 * (8 : Int32)) fun v3 => fx2 (b_W_numberOf_28 F G S z1 z2 w3 v3 (fun v23 => j_W_numberOf_116 F G S z1 z2 rec  S w3 v23)) F (1 : Int32) (0 : Int32)
def fW_numberOf (F G : Nat) (S : St) (p1 : Int32) (p2 : Int32) : Option (Int32) :=
  fx1 (b_W_numberOf_2 F G S p1 p2) F (0 : Int32)
set_option maxRecDepth 100000 in
set_option maxHeartbeats 4000000 in
theorem T_W_numberOf_28 {X : Nat × (Nat → Int32)} {D F G : Nat} (hD : 4 ≤ D + 1) {S : St} {z1 : Int32} {z2 : Int32} {z3 : Int32} {z4 : Int32} {k116 : Int32 → Option (Int32)} (hk116 : ∀ (u5 : Int32) (res : Int32), k116 u5 = some res → Ek X (D + 1) mW_numberOf 116 [(0, .ref 3), (1, .int z1), (2, .int z2), (3, .int z3), (5, .int u5)] [] S (some (.int res)) S) : ∀ (f : Nat) (w5 : Int32) (w6 : Int32) (res : Int32), fx2 (b_W_numberOf_28 F G S z1 z2 z3 z4 k116 ) f w5 w6 = some res → Ek X (D + 1) mW_numberOf 28 [(0, .ref 3), (1, .int z1), (2, .int z2), (3, .int z3), (4, .int z4), (5, .int w5), (6, .int w6)] [] S (some (.int res)) S := by
  refine fx2_ind ?_
  intro rec ih w5 w6 res h
  unfold b_W_numberOf_28 at h
  have J86 : ∀ (y6 : Int32) (s0 : Int32) (res : Int32), j_W_numberOf_86 F G S z1 z2 z3 z4 k116 rec S y6 s0 = some res → Ek X (D + 1) mW_numberOf 86 [(0, .ref 3), (1, .int z1), (2, .int z2), (3, .int z3), (4, .int z4), (6, .int y6)] [.int s0] S (some (.int res)) S := by
    intro y6 s0 res h
    unfold j_W_numberOf_86 at h
    refine x_istore (L1 := [(0, .ref 3), (1, .int z1), (2, .int z2), (3, .int z3), (4, .int z4), (6, .int y6), (8, .int s0)]) d_W_numberOf_86 (Nat.le_of_ble_eq_true rfl) rfl rfl ?_
    refine x_ldcW d_W_numberOf_88 rfl ?_
    refine x_iload d_W_numberOf_90 4 rfl ?_
    refine x_iload d_W_numberOf_92 5 rfl ?_
    refine x_iadd d_W_numberOf_94 ?_
    obtain ⟨v17, q16, h⟩ := bd_inv h
    refine y_T1i (i := 0) (v := v17) (S1 := S) d_W_numberOf_95 ml_12_19 (by decide) rfl (Nat.le_of_ble_eq_true rfl) (Nat.le_of_ble_eq_true rfl) (c_J_charAt (by omega) q16) ?_
    refine x_iload d_W_numberOf_98 6 rfl ?_
    refine x_icmp_ne (tgt := 107) d_W_numberOf_100 rfl (fun c18 => ?_) (fun c18 => ?_)
    · replace h := ite_f c18 h
      refine x_iconst d_W_numberOf_107 ic_0 ?_
      refine x_istore (L1 := [(0, .ref 3), (1, .int z1), (2, .int z2), (3, .int z3), (4, .int z4), (5, .int (0 : Int32)), (6, .int y6), (8, .int s0)]) d_W_numberOf_108 (Nat.le_of_ble_eq_true rfl) rfl rfl ?_
      obtain ⟨v19, e20, h⟩ := lt_inv h
      refine y_iinc (L1 := [(0, .ref 3), (1, .int z1), (2, .int z2), (3, .int z3), (4, .int z4), (5, .int (0 : Int32)), (6, .int v19), (8, .int s0)]) e20 ic_1 d_W_numberOf_110 6 rfl (Nat.le_of_ble_eq_true rfl) rfl rfl ?_
      refine x_goto (tgt := 28) d_W_numberOf_113 rfl ?_
      refine y_pick (L1 := [(0, .ref 3), (1, .int z1), (2, .int z2), (3, .int z3), (4, .int z4), (5, .int (0 : Int32)), (6, .int v19)]) [0, 1, 2, 3, 4, 5, 6] rfl ?_
      exact ih (0 : Int32) v19 _ h
    · replace h := ite_t c18 h
      refine x_iconst d_W_numberOf_103 ic_1 ?_
      refine x_goto (tgt := 108) d_W_numberOf_104 rfl ?_
      refine x_istore (L1 := [(0, .ref 3), (1, .int z1), (2, .int z2), (3, .int z3), (4, .int z4), (5, .int (1 : Int32)), (6, .int y6), (8, .int s0)]) d_W_numberOf_108 (Nat.le_of_ble_eq_true rfl) rfl rfl ?_
      obtain ⟨v21, e22, h⟩ := lt_inv h
      refine y_iinc (L1 := [(0, .ref 3), (1, .int z1), (2, .int z2), (3, .int z3), (4, .int z4), (5, .int (1 : Int32)), (6, .int v21), (8, .int s0)]) e22 ic_1 d_W_numberOf_110 6 rfl (Nat.le_of_ble_eq_true rfl) rfl rfl ?_
      refine x_goto (tgt := 28) d_W_numberOf_113 rfl ?_
      refine y_pick (L1 := [(0, .ref 3), (1, .int z1), (2, .int z2), (3, .int z3), (4, .int z4), (5, .int (1 : Int32)), (6, .int v21)]) [0, 1, 2, 3, 4, 5, 6] rfl ?_
      exact ih (1 : Int32) v21 _ h
  have J84 : ∀ (y6 : Int32) (res : Int32), j_W_numberOf_84 F G S z1 z2 z3 z4 k116 rec S y6 = some res → Ek X (D + 1) mW_numberOf 84 [(0, .ref 3), (1, .int z1), (2, .int z2), (3, .int z3), (4, .int z4), (6, .int y6)] [] S (some (.int res)) S := by
    intro y6 res h
    unfold j_W_numberOf_84 at h
    refine x_bipush d_W_numberOf_84 bp_32 ?_
    exact J86 y6 (32 : Int32) _ h
  refine x_iload d_W_numberOf_28 5 rfl ?_
  refine x_if_eq (tgt := 116) d_W_numberOf_30 rfl (fun c5 => ?_) (fun c5 => ?_)
  · replace h := ite_t c5 h
    refine y_pick (L1 := [(0, .ref 3), (1, .int z1), (2, .int z2), (3, .int z3), (5, .int w5)]) [0, 1, 2, 3, 5] rfl ?_
    exact hk116 w5 _ h
  · replace h := ite_f c5 h
    refine x_iload d_W_numberOf_33 6 rfl ?_
    refine x_bipush d_W_numberOf_35 bp_8 ?_
    refine x_icmp_ge (tgt := 116) d_W_numberOf_37 rfl (fun c6 => ?_) (fun c6 => ?_)
    · replace h := ite_t c6 h
      refine y_pick (L1 := [(0, .ref 3), (1, .int z1), (2, .int z2), (3, .int z3), (5, .int w5)]) [0, 1, 2, 3, 5] rfl ?_
      exact hk116 w5 _ h
    · replace h := ite_f c6 h
      refine x_iload d_W_numberOf_40 4 rfl ?_
      refine x_iload d_W_numberOf_42 6 rfl ?_
      refine x_iadd d_W_numberOf_44 ?_
      refine x_ldcW d_W_numberOf_45 rfl ?_
      obtain ⟨v8, q7, h⟩ := bd_inv h
      refine y_T0i (i := 0) (v := v8) (S1 := S) d_W_numberOf_47 ml_12_13 (by decide) rfl (Nat.le_of_ble_eq_true rfl) (Nat.le_of_ble_eq_true rfl) (c_J_length (by omega) q7) ?_
      refine x_icmp_ge (tgt := 116) d_W_numberOf_50 rfl (fun c9 => ?_) (fun c9 => ?_)
      · replace h := ite_t c9 h
        refine y_pick (L1 := [(0, .ref 3), (1, .int z1), (2, .int z2), (3, .int z3), (5, .int w5)]) [0, 1, 2, 3, 5] rfl ?_
        exact hk116 w5 _ h
      · replace h := ite_f c9 h
        refine x_iload_n d_W_numberOf_53 rfl 1 rfl ?_
        refine x_iload d_W_numberOf_54 6 rfl ?_
        refine x_iadd d_W_numberOf_56 ?_
        obtain ⟨v10, e11, h⟩ := lt_inv h
        refine y_istore (L1 := [(0, .ref 3), (1, .int z1), (2, .int z2), (3, .int z3), (4, .int z4), (5, .int w5), (6, .int w6), (7, .int v10)]) e11 d_W_numberOf_57 (Nat.le_of_ble_eq_true rfl) rfl rfl ?_
        refine x_iload d_W_numberOf_59 7 rfl ?_
        refine x_if_lt (tgt := 84) d_W_numberOf_61 rfl (fun c12 => ?_) (fun c12 => ?_)
        · replace h := ite_t c12 h
          refine y_pick (L1 := [(0, .ref 3), (1, .int z1), (2, .int z2), (3, .int z3), (4, .int z4), (6, .int w6)]) [0, 1, 2, 3, 4, 6] rfl ?_
          exact J84 w6 _ h
        · replace h := ite_f c12 h
          refine x_iload d_W_numberOf_64 7 rfl ?_
          refine x_iload_n d_W_numberOf_66 rfl 2 rfl ?_
          refine x_icmp_ge (tgt := 84) d_W_numberOf_67 rfl (fun c13 => ?_) (fun c13 => ?_)
          · replace h := ite_t c13 h
            refine y_pick (L1 := [(0, .ref 3), (1, .int z1), (2, .int z2), (3, .int z3), (4, .int z4), (6, .int w6)]) [0, 1, 2, 3, 4, 6] rfl ?_
            exact J84 w6 _ h
          · replace h := ite_f c13 h
            refine x_iload d_W_numberOf_70 7 rfl ?_
            refine x_aload_n d_W_numberOf_72 rfl 0 rfl ?_
            refine x_alen3 d_W_numberOf_73 kd_3 ?_
            refine x_icmp_ge (tgt := 84) d_W_numberOf_74 rfl (fun c14 => ?_) (fun c14 => ?_)
            · replace h := ite_t c14 h
              refine y_pick (L1 := [(0, .ref 3), (1, .int z1), (2, .int z2), (3, .int z3), (4, .int z4), (6, .int w6)]) [0, 1, 2, 3, 4, 6] rfl ?_
              exact J84 w6 _ h
            · replace h := ite_f c14 h
              refine x_aload_n d_W_numberOf_77 rfl 0 rfl ?_
              refine x_iload d_W_numberOf_78 7 rfl ?_
              obtain ⟨g15, h⟩ := gd_inv h
              refine y_bald d_W_numberOf_80 kd_3 g15 ?_
              refine x_goto (tgt := 86) d_W_numberOf_81 rfl ?_
              refine y_pick (L1 := [(0, .ref 3), (1, .int z1), (2, .int z2), (3, .int z3), (4, .int z4), (6, .int w6)]) [0, 1, 2, 3, 4, 6] rfl ?_
              exact J86 w6 (S.1 3 v10.toNatClampNeg) _ h
set_option maxRecDepth 100000 in
set_option maxHeartbeats 4000000 in
theorem T_W_numberOf_2 {X : Nat × (Nat → Int32)} {D F G : Nat} (hD : 4 ≤ D + 1) {S : St} {z1 : Int32} {z2 : Int32} : ∀ (f : Nat) (w3 : Int32) (res : Int32), fx1 (b_W_numberOf_2 F G S z1 z2 ) f w3 = some res → Ek X (D + 1) mW_numberOf 2 [(0, .ref 3), (1, .int z1), (2, .int z2), (3, .int w3)] [] S (some (.int res)) S := by
  refine fx1_ind ?_
  intro rec ih w3 res h
  unfold b_W_numberOf_2 at h
  have J116 : ∀ (y3 : Int32) (y5 : Int32) (res : Int32), j_W_numberOf_116 F G S z1 z2 rec S y3 y5 = some res → Ek X (D + 1) mW_numberOf 116 [(0, .ref 3), (1, .int z1), (2, .int z2), (3, .int y3), (5, .int y5)] [] S (some (.int res)) S := by
    intro y3 y5 res h
    unfold j_W_numberOf_116 at h
    refine x_iload d_W_numberOf_116 4 rfl ?_
    refine x_if_eq (tgt := 123) d_W_numberOf_118 rfl (fun c24 => ?_) (fun c24 => ?_)
    · replace h := ite_t c24 h
      obtain ⟨v25, e26, h⟩ := lt_inv h
      refine y_iinc (L1 := [(0, .ref 3), (1, .int z1), (2, .int z2), (3, .int v25), (5, .int y5)]) e26 ic_1 d_W_numberOf_123 3 rfl (Nat.le_of_ble_eq_true rfl) rfl rfl ?_
      refine x_goto (tgt := 2) d_W_numberOf_126 rfl ?_
      refine y_pick (L1 := [(0, .ref 3), (1, .int z1), (2, .int z2), (3, .int v25)]) [0, 1, 2, 3] rfl ?_
      exact ih v25 _ h
    · replace h := ite_f c24 h
      refine x_iload_n d_W_numberOf_121 rfl 3 rfl ?_
      obtain rfl := Option.some.inj h
      exact x_ret (r := some (.int y3)) d_W_numberOf_122 ⟨_, rfl, rfl⟩
  refine x_iload_n d_W_numberOf_2 rfl 3 rfl ?_
  refine x_bipush d_W_numberOf_3 bp_20 ?_
  refine x_icmp_gt (tgt := 129) d_W_numberOf_5 rfl (fun c1 => ?_) (fun c1 => ?_)
  · replace h := ite_t c1 h
    refine x_iconst d_W_numberOf_129 ic_m1 ?_
    obtain rfl := Option.some.inj h
    exact x_ret (r := some (.int (-1 : Int32))) d_W_numberOf_130 ⟨_, rfl, rfl⟩
  · replace h := ite_f c1 h
    refine x_iload_n d_W_numberOf_8 rfl 2 rfl ?_
    refine x_iload_n d_W_numberOf_9 rfl 1 rfl ?_
    refine x_isub d_W_numberOf_10 ?_
    refine x_bipush d_W_numberOf_11 bp_8 ?_
    refine x_icmp_gt (tgt := 129) d_W_numberOf_13 rfl (fun c2 => ?_) (fun c2 => ?_)
    · replace h := ite_t c2 h
      refine x_iconst d_W_numberOf_129 ic_m1 ?_
      obtain rfl := Option.some.inj h
      exact x_ret (r := some (.int (-1 : Int32))) d_W_numberOf_130 ⟨_, rfl, rfl⟩
    · replace h := ite_f c2 h
      refine x_iload_n d_W_numberOf_16 rfl 3 rfl ?_
      refine x_bipush d_W_numberOf_17 bp_8 ?_
      refine x_imul d_W_numberOf_19 ?_
      obtain ⟨v3, e4, h⟩ := lt_inv h
      refine y_istore (L1 := [(0, .ref 3), (1, .int z1), (2, .int z2), (3, .int w3), (4, .int v3)]) e4 d_W_numberOf_20 (Nat.le_of_ble_eq_true rfl) rfl rfl ?_
      refine x_iconst d_W_numberOf_22 ic_1 ?_
      refine x_istore (L1 := [(0, .ref 3), (1, .int z1), (2, .int z2), (3, .int w3), (4, .int v3), (5, .int (1 : Int32))]) d_W_numberOf_23 (Nat.le_of_ble_eq_true rfl) rfl rfl ?_
      refine x_iconst d_W_numberOf_25 ic_0 ?_
      refine x_istore (L1 := [(0, .ref 3), (1, .int z1), (2, .int z2), (3, .int w3), (4, .int v3), (5, .int (1 : Int32)), (6, .int (0 : Int32))]) d_W_numberOf_26 (Nat.le_of_ble_eq_true rfl) rfl rfl ?_
      refine T_W_numberOf_28 (by omega)  ?_ F (1 : Int32) (0 : Int32) _ h
      · intro v23 res h
        exact J116 w3 v23 _ h
set_option maxRecDepth 100000 in
set_option maxHeartbeats 4000000 in
theorem c_W_numberOf {X : Nat × (Nat → Int32)} {D F G : Nat} (hD : 4 ≤ D) {S : St} {p1 : Int32} {p2 : Int32} {res : Int32} (h : fW_numberOf F G S p1 p2 = some res) : Ek X (D) mW_numberOf 0 [(0, .ref 3), (1, .int p1), (2, .int p2)] [] S (some (.int res)) S := by
  obtain ⟨D, rfl⟩ : ∃ E, D = E + 1 := ⟨D - 1, by omega⟩
  unfold fW_numberOf at h
  refine x_iconst d_W_numberOf_0 ic_0 ?_
  refine x_istore_n (L1 := [(0, .ref 3), (1, .int p1), (2, .int p2), (3, .int (0 : Int32))]) d_W_numberOf_1 rfl (Nat.le_of_ble_eq_true rfl) rfl rfl ?_
  refine T_W_numberOf_2 (by omega)   F (0 : Int32) _ h
/-! NinetyPlayers$Tape.takeWord -/
def b_T_takeWord_5 (F G : Nat) (k68 : St → Option (St)) (rec : St → Option (St)) (S : St) : Option (St) :=
  if (S.1 2 0) ≤ (S.1 2 2) then k68 S else bd (fT_at F G S (S.1 2 2)) fun v5 => bd (fT_isLetter F G S v5) fun v7 => if v7 = 0 then k68 S else bd (fT_at F G S (S.1 2 2)) fun v10 => lt (sL S 2 6 (((S.2.1 2 6) <<< ((5 : Int32).toInt64 &&& 63)) ||| (((v10 - (97 : Int32)) + (1 : Int32)).toInt64))) fun S11 => lt (sI S11 2 2 ((S11.1 2 2) + (1 : Int32))) fun S13 => rec S13
def j_T_takeWord_101 (F G : Nat) (S : St) (s1 : Int32) : Option (St) :=
  lt (sI S 2 4 s1) fun S21 => if ((S21.1 2 2) - (S21.1 2 3)) ≤ (8 : Int32) then some S21 else lt (sI S21 2 4 (5 : Int32)) fun S24 => some S24
def j_T_takeWord_68 (F G : Nat) (S : St) : Option (St) :=
  bd (fW_numberOf F G S (S.1 2 3) (S.1 2 2)) fun v17 => lt (sI S 2 5 v17) fun S18 => if (S18.1 2 5) = (-1 : Int32) then j_T_takeWord_101 F G  S18 (2 : Int32) else j_T_takeWord_101 F G  S18 (1 : Int32)
def fT_takeWord (F G : Nat) (S : St) : Option (St) :=
  lt (sL S 2 6 (0 : Int64)) fun S1 => fx1 (b_T_takeWord_5 F G  (fun S15 => j_T_takeWord_68 F G  S15 )) F S1
set_option maxRecDepth 100000 in
set_option maxHeartbeats 4000000 in
theorem T_T_takeWord_5 {X : Nat × (Nat → Int32)} {D F G : Nat} (hD : 5 ≤ D + 1) {k68 : St → Option (St)} (hk68 : ∀ (S1 : St) (res : St), k68 S1 = some res → Ek X (D + 1) mT_takeWord 68 [(0, .ref 2)] [] S1 none res) : ∀ (f : Nat) (S : St) (res : St), fx1 (b_T_takeWord_5 F G k68 ) f S = some res → Ek X (D + 1) mT_takeWord 5 [(0, .ref 2)] [] S none res := by
  refine fx1_ind ?_
  intro rec ih S res h
  unfold b_T_takeWord_5 at h
  refine x_aload_n d_T_takeWord_5 rfl 0 rfl ?_
  refine y_getI d_T_takeWord_6 fl_4_19 rfl kd_2 ?_
  refine x_aload_n d_T_takeWord_9 rfl 0 rfl ?_
  refine y_getI d_T_takeWord_10 fl_4_15 rfl kd_2 ?_
  refine x_icmp_ge (tgt := 68) d_T_takeWord_13 rfl (fun c3 => ?_) (fun c3 => ?_)
  · replace h := ite_t c3 h
    exact hk68 S _ h
  · replace h := ite_f c3 h
    refine x_aload_n d_T_takeWord_16 rfl 0 rfl ?_
    refine x_aload_n d_T_takeWord_17 rfl 0 rfl ?_
    refine y_getI d_T_takeWord_18 fl_4_19 rfl kd_2 ?_
    obtain ⟨v5, q4, h⟩ := bd_inv h
    refine y_V1i (v := v5) (S1 := S) d_T_takeWord_21 ml_4_25 kd_2 rfl (Nat.le_of_ble_eq_true rfl) (Nat.le_of_ble_eq_true rfl) (c_T_at (by omega) q4) ?_
    obtain ⟨v7, q6, h⟩ := bd_inv h
    refine y_S1i (v := v7) (S1 := S) d_T_takeWord_24 ml_4_39 (Nat.le_of_ble_eq_true rfl) (Nat.le_of_ble_eq_true rfl) (c_T_isLetter (by omega) q6) ?_
    refine x_if_eq (tgt := 68) d_T_takeWord_27 rfl (fun c8 => ?_) (fun c8 => ?_)
    · replace h := ite_t c8 h
      exact hk68 S _ h
    · replace h := ite_f c8 h
      refine x_aload_n d_T_takeWord_30 rfl 0 rfl ?_
      refine x_aload_n d_T_takeWord_31 rfl 0 rfl ?_
      refine y_getL d_T_takeWord_32 fl_4_61 rfl kd_2 ?_
      refine x_iconst d_T_takeWord_35 ic_5 ?_
      refine x_lshl d_T_takeWord_36 ?_
      refine x_aload_n d_T_takeWord_37 rfl 0 rfl ?_
      refine x_aload_n d_T_takeWord_38 rfl 0 rfl ?_
      refine y_getI d_T_takeWord_39 fl_4_19 rfl kd_2 ?_
      obtain ⟨v10, q9, h⟩ := bd_inv h
      refine y_V1i (v := v10) (S1 := S) d_T_takeWord_42 ml_4_25 kd_2 rfl (Nat.le_of_ble_eq_true rfl) (Nat.le_of_ble_eq_true rfl) (c_T_at (by omega) q9) ?_
      refine x_bipush d_T_takeWord_45 bp_97 ?_
      refine x_isub d_T_takeWord_47 ?_
      refine x_iconst d_T_takeWord_48 ic_1 ?_
      refine x_iadd d_T_takeWord_49 ?_
      refine x_i2l d_T_takeWord_50 ?_
      refine x_lor d_T_takeWord_51 ?_
      obtain ⟨S11, e12, h⟩ := lt_inv h
      refine y_putL e12 d_T_takeWord_52 fl_4_61 rfl rfl kd_2 ?_
      refine x_aload_n d_T_takeWord_55 rfl 0 rfl ?_
      refine x_dup d_T_takeWord_56 rfl ?_
      refine y_getI d_T_takeWord_57 fl_4_19 rfl kd_2 ?_
      refine x_iconst d_T_takeWord_60 ic_1 ?_
      refine x_iadd d_T_takeWord_61 ?_
      obtain ⟨S13, e14, h⟩ := lt_inv h
      refine y_putI e14 d_T_takeWord_62 fl_4_19 rfl rfl kd_2 rfl rfl ?_
      refine x_goto (tgt := 5) d_T_takeWord_65 rfl ?_
      exact ih S13 _ h
set_option maxRecDepth 100000 in
set_option maxHeartbeats 4000000 in
theorem c_T_takeWord {X : Nat × (Nat → Int32)} {D F G : Nat} (hD : 5 ≤ D) {S : St} {res : St} (h : fT_takeWord F G S  = some res) : Ek X (D) mT_takeWord 0 [(0, .ref 2)] [] S none res := by
  obtain ⟨D, rfl⟩ : ∃ E, D = E + 1 := ⟨D - 1, by omega⟩
  unfold fT_takeWord at h
  have J101 : ∀ (S : St) (s1 : Int32) (res : St), j_T_takeWord_101 F G S s1 = some res → Ek X (D + 1) mT_takeWord 101 [(0, .ref 2)] [.int s1, .ref 2] S none res := by
    intro S s1 res h
    unfold j_T_takeWord_101 at h
    obtain ⟨S21, e22, h⟩ := lt_inv h
    refine y_putI e22 d_T_takeWord_101 fl_4_36 rfl rfl kd_2 rfl rfl ?_
    refine x_aload_n d_T_takeWord_104 rfl 0 rfl ?_
    refine y_getI d_T_takeWord_105 fl_4_19 rfl kd_2 ?_
    refine x_aload_n d_T_takeWord_108 rfl 0 rfl ?_
    refine y_getI d_T_takeWord_109 fl_4_33 rfl kd_2 ?_
    refine x_isub d_T_takeWord_112 ?_
    refine x_bipush d_T_takeWord_113 bp_8 ?_
    refine x_icmp_le (tgt := 123) d_T_takeWord_115 rfl (fun c23 => ?_) (fun c23 => ?_)
    · replace h := ite_t c23 h
      obtain rfl := Option.some.inj h
      exact x_ret (r := none) d_T_takeWord_123 rfl
    · replace h := ite_f c23 h
      refine x_aload_n d_T_takeWord_118 rfl 0 rfl ?_
      refine x_iconst d_T_takeWord_119 ic_5 ?_
      obtain ⟨S24, e25, h⟩ := lt_inv h
      refine y_putI e25 d_T_takeWord_120 fl_4_36 rfl rfl kd_2 rfl rfl ?_
      obtain rfl := Option.some.inj h
      exact x_ret (r := none) d_T_takeWord_123 rfl
  have J68 : ∀ (S : St) (res : St), j_T_takeWord_68 F G S  = some res → Ek X (D + 1) mT_takeWord 68 [(0, .ref 2)] [] S none res := by
    intro S  res h
    unfold j_T_takeWord_68 at h
    refine x_aload_n d_T_takeWord_68 rfl 0 rfl ?_
    refine x_aload_n d_T_takeWord_69 rfl 0 rfl ?_
    refine y_getR d_T_takeWord_70 fl_4_9 rfl kd_2 rr_2_1 ?_
    refine x_aload_n d_T_takeWord_73 rfl 0 rfl ?_
    refine y_getI d_T_takeWord_74 fl_4_33 rfl kd_2 ?_
    refine x_aload_n d_T_takeWord_77 rfl 0 rfl ?_
    refine y_getI d_T_takeWord_78 fl_4_19 rfl kd_2 ?_
    obtain ⟨v17, q16, h⟩ := bd_inv h
    refine y_S3i (v := v17) (S1 := S) d_T_takeWord_81 ml_4_65 (Nat.le_of_ble_eq_true rfl) (Nat.le_of_ble_eq_true rfl) (c_W_numberOf (by omega) q16) ?_
    obtain ⟨S18, e19, h⟩ := lt_inv h
    refine y_putI e19 d_T_takeWord_84 fl_4_58 rfl rfl kd_2 rfl rfl ?_
    refine x_aload_n d_T_takeWord_87 rfl 0 rfl ?_
    refine x_aload_n d_T_takeWord_88 rfl 0 rfl ?_
    refine y_getI d_T_takeWord_89 fl_4_58 rfl kd_2 ?_
    refine x_iconst d_T_takeWord_92 ic_m1 ?_
    refine x_icmp_ne (tgt := 100) d_T_takeWord_93 rfl (fun c20 => ?_) (fun c20 => ?_)
    · replace h := ite_f c20 h
      refine x_iconst d_T_takeWord_100 ic_1 ?_
      exact J101 S18 (1 : Int32) _ h
    · replace h := ite_t c20 h
      refine x_iconst d_T_takeWord_96 ic_2 ?_
      refine x_goto (tgt := 101) d_T_takeWord_97 rfl ?_
      exact J101 S18 (2 : Int32) _ h
  refine x_aload_n d_T_takeWord_0 rfl 0 rfl ?_
  refine x_lconst (v := 0) d_T_takeWord_1 rfl ?_
  obtain ⟨S1, e2, h⟩ := lt_inv h
  refine y_putL e2 d_T_takeWord_2 fl_4_61 rfl rfl kd_2 ?_
  refine T_T_takeWord_5 (by omega)  ?_ F S1 _ h
  · intro S15 res h
    exact J68 S15  _ h
/-! NinetyPlayers$Tape.isDigit -/
def fT_isDigit (F G : Nat) (S : St) (p1 : Int32) : Option (Int32) :=
  if p1 < (48 : Int32) then some (0 : Int32) else if (57 : Int32) < p1 then some (0 : Int32) else some (1 : Int32)
set_option maxRecDepth 100000 in
set_option maxHeartbeats 4000000 in
theorem c_T_isDigit {X : Nat × (Nat → Int32)} {D F G : Nat} (hD : 0 ≤ D) {S : St} {p1 : Int32} {res : Int32} (h : fT_isDigit F G S p1 = some res) : Ek X (D) mT_isDigit 0 [(0, .int p1)] [] S (some (.int res)) S := by
  unfold fT_isDigit at h
  refine x_iload_n d_T_isDigit_0 rfl 0 rfl ?_
  refine x_bipush d_T_isDigit_1 bp_48 ?_
  refine x_icmp_lt (tgt := 16) d_T_isDigit_3 rfl (fun c1 => ?_) (fun c1 => ?_)
  · replace h := ite_t c1 h
    refine x_iconst d_T_isDigit_16 ic_0 ?_
    obtain rfl := Option.some.inj h
    exact x_ret (r := some (.int (0 : Int32))) d_T_isDigit_17 ⟨_, rfl, rfl⟩
  · replace h := ite_f c1 h
    refine x_iload_n d_T_isDigit_6 rfl 0 rfl ?_
    refine x_bipush d_T_isDigit_7 bp_57 ?_
    refine x_icmp_gt (tgt := 16) d_T_isDigit_9 rfl (fun c2 => ?_) (fun c2 => ?_)
    · replace h := ite_t c2 h
      refine x_iconst d_T_isDigit_16 ic_0 ?_
      obtain rfl := Option.some.inj h
      exact x_ret (r := some (.int (0 : Int32))) d_T_isDigit_17 ⟨_, rfl, rfl⟩
    · replace h := ite_f c2 h
      refine x_iconst d_T_isDigit_12 ic_1 ?_
      refine x_goto (tgt := 17) d_T_isDigit_13 rfl ?_
      obtain rfl := Option.some.inj h
      exact x_ret (r := some (.int (1 : Int32))) d_T_isDigit_17 ⟨_, rfl, rfl⟩
/-! NinetyPlayers$Tape.takeNumber -/
def b_T_takeNumber_5 (F G : Nat) (k66 : St → Option (St)) (rec : St → Option (St)) (S : St) : Option (St) :=
  if (S.1 2 0) ≤ (S.1 2 2) then k66 S else bd (fT_at F G S (S.1 2 2)) fun v5 => bd (fT_isDigit F G S v5) fun v7 => if v7 = 0 then k66 S else bd (fT_at F G S (S.1 2 2)) fun v10 => lt (sI S 2 5 ((((S.1 2 5) * (10 : Int32)) + v10) - (48 : Int32))) fun S11 => lt (sI S11 2 2 ((S11.1 2 2) + (1 : Int32))) fun S13 => rec S13
def j_T_takeNumber_66 (F G : Nat) (S : St) : Option (St) :=
  if (4 : Int32) < ((S.1 2 2) - (S.1 2 3)) then lt (sI S 2 4 (5 : Int32)) fun S17 => some S17 else bd (fT_at F G S (S.1 2 2)) fun v20 => bd (fT_isLetter F G S v20) fun v22 => if v22 = 0 then lt (sI S 2 4 (3 : Int32)) fun S24 => some S24 else lt (sI S 2 4 (5 : Int32)) fun S26 => some S26
def fT_takeNumber (F G : Nat) (S : St) : Option (St) :=
  lt (sI S 2 5 (0 : Int32)) fun S1 => fx1 (b_T_takeNumber_5 F G  (fun S15 => j_T_takeNumber_66 F G  S15 )) F S1
set_option maxRecDepth 100000 in
set_option maxHeartbeats 4000000 in
theorem T_T_takeNumber_5 {X : Nat × (Nat → Int32)} {D F G : Nat} (hD : 1 ≤ D + 1) {k66 : St → Option (St)} (hk66 : ∀ (S1 : St) (res : St), k66 S1 = some res → Ek X (D + 1) mT_takeNumber 66 [(0, .ref 2)] [] S1 none res) : ∀ (f : Nat) (S : St) (res : St), fx1 (b_T_takeNumber_5 F G k66 ) f S = some res → Ek X (D + 1) mT_takeNumber 5 [(0, .ref 2)] [] S none res := by
  refine fx1_ind ?_
  intro rec ih S res h
  unfold b_T_takeNumber_5 at h
  refine x_aload_n d_T_takeNumber_5 rfl 0 rfl ?_
  refine y_getI d_T_takeNumber_6 fl_4_19 rfl kd_2 ?_
  refine x_aload_n d_T_takeNumber_9 rfl 0 rfl ?_
  refine y_getI d_T_takeNumber_10 fl_4_15 rfl kd_2 ?_
  refine x_icmp_ge (tgt := 66) d_T_takeNumber_13 rfl (fun c3 => ?_) (fun c3 => ?_)
  · replace h := ite_t c3 h
    exact hk66 S _ h
  · replace h := ite_f c3 h
    refine x_aload_n d_T_takeNumber_16 rfl 0 rfl ?_
    refine x_aload_n d_T_takeNumber_17 rfl 0 rfl ?_
    refine y_getI d_T_takeNumber_18 fl_4_19 rfl kd_2 ?_
    obtain ⟨v5, q4, h⟩ := bd_inv h
    refine y_V1i (v := v5) (S1 := S) d_T_takeNumber_21 ml_4_25 kd_2 rfl (Nat.le_of_ble_eq_true rfl) (Nat.le_of_ble_eq_true rfl) (c_T_at (by omega) q4) ?_
    obtain ⟨v7, q6, h⟩ := bd_inv h
    refine y_S1i (v := v7) (S1 := S) d_T_takeNumber_24 ml_4_45 (Nat.le_of_ble_eq_true rfl) (Nat.le_of_ble_eq_true rfl) (c_T_isDigit (by omega) q6) ?_
    refine x_if_eq (tgt := 66) d_T_takeNumber_27 rfl (fun c8 => ?_) (fun c8 => ?_)
    · replace h := ite_t c8 h
      exact hk66 S _ h
    · replace h := ite_f c8 h
      refine x_aload_n d_T_takeNumber_30 rfl 0 rfl ?_
      refine x_aload_n d_T_takeNumber_31 rfl 0 rfl ?_
      refine y_getI d_T_takeNumber_32 fl_4_58 rfl kd_2 ?_
      refine x_bipush d_T_takeNumber_35 bp_10 ?_
      refine x_imul d_T_takeNumber_37 ?_
      refine x_aload_n d_T_takeNumber_38 rfl 0 rfl ?_
      refine x_aload_n d_T_takeNumber_39 rfl 0 rfl ?_
      refine y_getI d_T_takeNumber_40 fl_4_19 rfl kd_2 ?_
      obtain ⟨v10, q9, h⟩ := bd_inv h
      refine y_V1i (v := v10) (S1 := S) d_T_takeNumber_43 ml_4_25 kd_2 rfl (Nat.le_of_ble_eq_true rfl) (Nat.le_of_ble_eq_true rfl) (c_T_at (by omega) q9) ?_
      refine x_iadd d_T_takeNumber_46 ?_
      refine x_bipush d_T_takeNumber_47 bp_48 ?_
      refine x_isub d_T_takeNumber_49 ?_
      obtain ⟨S11, e12, h⟩ := lt_inv h
      refine y_putI e12 d_T_takeNumber_50 fl_4_58 rfl rfl kd_2 rfl rfl ?_
      refine x_aload_n d_T_takeNumber_53 rfl 0 rfl ?_
      refine x_dup d_T_takeNumber_54 rfl ?_
      refine y_getI d_T_takeNumber_55 fl_4_19 rfl kd_2 ?_
      refine x_iconst d_T_takeNumber_58 ic_1 ?_
      refine x_iadd d_T_takeNumber_59 ?_
      obtain ⟨S13, e14, h⟩ := lt_inv h
      refine y_putI e14 d_T_takeNumber_60 fl_4_19 rfl rfl kd_2 rfl rfl ?_
      refine x_goto (tgt := 5) d_T_takeNumber_63 rfl ?_
      exact ih S13 _ h
set_option maxRecDepth 100000 in
set_option maxHeartbeats 4000000 in
theorem c_T_takeNumber {X : Nat × (Nat → Int32)} {D F G : Nat} (hD : 1 ≤ D) {S : St} {res : St} (h : fT_takeNumber F G S  = some res) : Ek X (D) mT_takeNumber 0 [(0, .ref 2)] [] S none res := by
  obtain ⟨D, rfl⟩ : ∃ E, D = E + 1 := ⟨D - 1, by omega⟩
  unfold fT_takeNumber at h
  have J66 : ∀ (S : St) (res : St), j_T_takeNumber_66 F G S  = some res → Ek X (D + 1) mT_takeNumber 66 [(0, .ref 2)] [] S none res := by
    intro S  res h
    unfold j_T_takeNumber_66 at h
    refine x_aload_n d_T_takeNumber_66 rfl 0 rfl ?_
    refine x_aload_n d_T_takeNumber_67 rfl 0 rfl ?_
    refine y_getI d_T_takeNumber_68 fl_4_19 rfl kd_2 ?_
    refine x_aload_n d_T_takeNumber_71 rfl 0 rfl ?_
    refine y_getI d_T_takeNumber_72 fl_4_33 rfl kd_2 ?_
    refine x_isub d_T_takeNumber_75 ?_
    refine x_iconst d_T_takeNumber_76 ic_4 ?_
    refine x_icmp_gt (tgt := 94) d_T_takeNumber_77 rfl (fun c16 => ?_) (fun c16 => ?_)
    · replace h := ite_t c16 h
      refine x_iconst d_T_takeNumber_94 ic_5 ?_
      refine x_goto (tgt := 99) d_T_takeNumber_95 rfl ?_
      obtain ⟨S17, e18, h⟩ := lt_inv h
      refine y_putI e18 d_T_takeNumber_99 fl_4_36 rfl rfl kd_2 rfl rfl ?_
      obtain rfl := Option.some.inj h
      exact x_ret (r := none) d_T_takeNumber_102 rfl
    · replace h := ite_f c16 h
      refine x_aload_n d_T_takeNumber_80 rfl 0 rfl ?_
      refine x_aload_n d_T_takeNumber_81 rfl 0 rfl ?_
      refine y_getI d_T_takeNumber_82 fl_4_19 rfl kd_2 ?_
      obtain ⟨v20, q19, h⟩ := bd_inv h
      refine y_V1i (v := v20) (S1 := S) d_T_takeNumber_85 ml_4_25 kd_2 rfl (Nat.le_of_ble_eq_true rfl) (Nat.le_of_ble_eq_true rfl) (c_T_at (by omega) q19) ?_
      obtain ⟨v22, q21, h⟩ := bd_inv h
      refine y_S1i (v := v22) (S1 := S) d_T_takeNumber_88 ml_4_39 (Nat.le_of_ble_eq_true rfl) (Nat.le_of_ble_eq_true rfl) (c_T_isLetter (by omega) q21) ?_
      refine x_if_eq (tgt := 98) d_T_takeNumber_91 rfl (fun c23 => ?_) (fun c23 => ?_)
      · replace h := ite_t c23 h
        refine x_iconst d_T_takeNumber_98 ic_3 ?_
        obtain ⟨S24, e25, h⟩ := lt_inv h
        refine y_putI e25 d_T_takeNumber_99 fl_4_36 rfl rfl kd_2 rfl rfl ?_
        obtain rfl := Option.some.inj h
        exact x_ret (r := none) d_T_takeNumber_102 rfl
      · replace h := ite_f c23 h
        refine x_iconst d_T_takeNumber_94 ic_5 ?_
        refine x_goto (tgt := 99) d_T_takeNumber_95 rfl ?_
        obtain ⟨S26, e27, h⟩ := lt_inv h
        refine y_putI e27 d_T_takeNumber_99 fl_4_36 rfl rfl kd_2 rfl rfl ?_
        obtain rfl := Option.some.inj h
        exact x_ret (r := none) d_T_takeNumber_102 rfl
  refine x_aload_n d_T_takeNumber_0 rfl 0 rfl ?_
  refine x_iconst d_T_takeNumber_1 ic_0 ?_
  obtain ⟨S1, e2, h⟩ := lt_inv h
  refine y_putI e2 d_T_takeNumber_2 fl_4_58 rfl rfl kd_2 rfl rfl ?_
  refine T_T_takeNumber_5 (by omega)  ?_ F S1 _ h
  · intro S15 res h
    exact J66 S15  _ h
/-! java/lang/StringLatin1.canEncode -/
def fJ_canEncode (F G : Nat) (S : St) (p1 : Int32) : Option (Int32) :=
  if p1 < 0 then some (0 : Int32) else if (255 : Int32) < p1 then some (0 : Int32) else some (1 : Int32)
set_option maxRecDepth 100000 in
set_option maxHeartbeats 4000000 in
theorem c_J_canEncode {X : Nat × (Nat → Int32)} {D F G : Nat} (hD : 0 ≤ D) {S : St} {p1 : Int32} {res : Int32} (h : fJ_canEncode F G S p1 = some res) : Ek X (D) mJ_canEncode 0 [(0, .int p1)] [] S (some (.int res)) S := by
  unfold fJ_canEncode at h
  refine x_iload_n d_J_canEncode_0 rfl 0 rfl ?_
  refine x_if_lt (tgt := 15) d_J_canEncode_1 rfl (fun c1 => ?_) (fun c1 => ?_)
  · replace h := ite_t c1 h
    refine x_iconst d_J_canEncode_15 ic_0 ?_
    obtain rfl := Option.some.inj h
    exact x_ret (r := some (.int (0 : Int32))) d_J_canEncode_16 ⟨_, rfl, rfl⟩
  · replace h := ite_f c1 h
    refine x_iload_n d_J_canEncode_4 rfl 0 rfl ?_
    refine x_sipush d_J_canEncode_5 sp_255 ?_
    refine x_icmp_gt (tgt := 15) d_J_canEncode_8 rfl (fun c2 => ?_) (fun c2 => ?_)
    · replace h := ite_t c2 h
      refine x_iconst d_J_canEncode_15 ic_0 ?_
      obtain rfl := Option.some.inj h
      exact x_ret (r := some (.int (0 : Int32))) d_J_canEncode_16 ⟨_, rfl, rfl⟩
    · replace h := ite_f c2 h
      refine x_iconst d_J_canEncode_11 ic_1 ?_
      refine x_goto (tgt := 16) d_J_canEncode_12 rfl ?_
      obtain rfl := Option.some.inj h
      exact x_ret (r := some (.int (1 : Int32))) d_J_canEncode_16 ⟨_, rfl, rfl⟩
/-! java/lang/StringLatin1.indexOfChar -/
def b_J_indexOfChar_7 (F G : Nat) (S : St) (z0 : Nat) (z3 : Int32) (z4 : Int32) (rec : Int32 → Option (Int32)) (w5 : Int32) : Option (Int32) :=
  if z3 ≤ w5 then some (-1 : Int32) else gd (inB w5 (lenS.getD z0 0)) (if ((bytS.getD z0 []).getD (w5).toNatClampNeg 0) = z4 then some w5 else lt (w5 + 1) fun v6 => rec v6)
def fJ_indexOfChar (F G : Nat) (S : St) (p1 : Nat) (p2 : Int32) (p3 : Int32) (p4 : Int32) : Option (Int32) :=
  gd (decide (p1 < 2)) (lt p2.toInt8.toInt32 fun v1 => fx1 (b_J_indexOfChar_7 F G S p1 p4 v1) F p3)
set_option maxRecDepth 100000 in
set_option maxHeartbeats 4000000 in
theorem T_J_indexOfChar_7 {X : Nat × (Nat → Int32)} {D F G : Nat} (hD : 0 ≤ D) {S : St} {z0 : Nat} {z3 : Int32} {z4 : Int32} (hz0 : decide (z0 < 2) = true) : ∀ (f : Nat) (w5 : Int32) (res : Int32), fx1 (b_J_indexOfChar_7 F G S z0 z3 z4 ) f w5 = some res → Ek X (D) mJ_indexOfChar 7 [(0, .ref (1001 + 2 * z0)), (3, .int z3), (4, .int z4), (5, .int w5)] [] S (some (.int res)) S := by
  refine fx1_ind ?_
  intro rec ih w5 res h
  unfold b_J_indexOfChar_7 at h
  refine x_iload d_J_indexOfChar_7 3 rfl ?_
  refine x_iload_n d_J_indexOfChar_9 rfl 1 rfl ?_
  refine x_icmp_ge (tgt := 31) d_J_indexOfChar_10 rfl (fun c3 => ?_) (fun c3 => ?_)
  · replace h := ite_t c3 h
    refine x_iconst d_J_indexOfChar_31 ic_m1 ?_
    obtain rfl := Option.some.inj h
    exact x_ret (r := some (.int (-1 : Int32))) d_J_indexOfChar_32 ⟨_, rfl, rfl⟩
  · replace h := ite_f c3 h
    refine x_aload_n d_J_indexOfChar_13 rfl 0 rfl ?_
    refine x_iload d_J_indexOfChar_14 3 rfl ?_
    obtain ⟨g4, h⟩ := gd_inv h
    refine x_baldS d_J_indexOfChar_16 (of_decide_eq_true hz0) (inB_in g4) ?_
    refine x_iload d_J_indexOfChar_17 2 rfl ?_
    refine x_icmp_ne (tgt := 25) d_J_indexOfChar_19 rfl (fun c5 => ?_) (fun c5 => ?_)
    · replace h := ite_f c5 h
      obtain ⟨v6, e7, h⟩ := lt_inv h
      refine y_iinc (L1 := [(0, .ref (1001 + 2 * z0)), (3, .int z3), (4, .int z4), (5, .int v6)]) e7 ic_1 d_J_indexOfChar_25 3 rfl (Nat.le_of_ble_eq_true rfl) rfl rfl ?_
      refine x_goto (tgt := 7) d_J_indexOfChar_28 rfl ?_
      exact ih v6 _ h
    · replace h := ite_t c5 h
      refine x_iload d_J_indexOfChar_22 3 rfl ?_
      obtain rfl := Option.some.inj h
      exact x_ret (r := some (.int w5)) d_J_indexOfChar_24 ⟨_, rfl, rfl⟩
set_option maxRecDepth 100000 in
set_option maxHeartbeats 4000000 in
theorem c_J_indexOfChar {X : Nat × (Nat → Int32)} {D F G : Nat} (hD : 0 ≤ D) {S : St} {p1 : Nat} {p2 : Int32} {p3 : Int32} {p4 : Int32} {res : Int32} (h : fJ_indexOfChar F G S p1 p2 p3 p4 = some res) : Ek X (D) mJ_indexOfChar 0 [(0, .ref (1001 + 2 * p1)), (1, .int p2), (2, .int p3), (3, .int p4)] [] S (some (.int res)) S := by
  unfold fJ_indexOfChar at h
  obtain ⟨gg0, h⟩ := gd_inv h
  refine x_iload_n d_J_indexOfChar_0 rfl 1 rfl ?_
  refine x_i2b d_J_indexOfChar_1 ?_
  obtain ⟨v1, e2, h⟩ := lt_inv h
  refine y_istore (L1 := [(0, .ref (1001 + 2 * p1)), (1, .int p2), (2, .int p3), (3, .int p4), (4, .int v1)]) e2 d_J_indexOfChar_2 (Nat.le_of_ble_eq_true rfl) rfl rfl ?_
  refine x_iload_n d_J_indexOfChar_4 rfl 2 rfl ?_
  refine x_istore (L1 := [(0, .ref (1001 + 2 * p1)), (1, .int p2), (2, .int p3), (3, .int p4), (4, .int v1), (5, .int p3)]) d_J_indexOfChar_5 (Nat.le_of_ble_eq_true rfl) rfl rfl ?_
  refine y_pick (L1 := [(0, .ref (1001 + 2 * p1)), (3, .int p4), (4, .int v1), (5, .int p3)]) [0, 3, 4, 5] rfl ?_
  refine T_J_indexOfChar_7 (by omega) gg0  F p3 _ h
/-! java/lang/StringLatin1.indexOf -/
def fJ_indexOf3 (F G : Nat) (S : St) (p1 : Nat) (p2 : Int32) (p3 : Int32) (p4 : Int32) : Option (Int32) :=
  gd (decide (p1 < 2)) (bd (fJ_canEncode F G S p2) fun v2 => if v2 = 0 then some (-1 : Int32) else lt (if p3 < (0 : Int32) then (0 : Int32) else p3) fun v4 => lt (if (Int32.ofNat (lenS.getD p1 0)) < p4 then (Int32.ofNat (lenS.getD p1 0)) else p4) fun v6 => if v4 < v6 then bd (fJ_indexOfChar F G S p1 p2 v4 v6) fun v10 => some v10 else some (-1 : Int32))
set_option maxRecDepth 100000 in
set_option maxHeartbeats 4000000 in
theorem c_J_indexOf3 {X : Nat × (Nat → Int32)} {D F G : Nat} (hD : 1 ≤ D) {S : St} {p1 : Nat} {p2 : Int32} {p3 : Int32} {p4 : Int32} {res : Int32} (h : fJ_indexOf3 F G S p1 p2 p3 p4 = some res) : Ek X (D) mJ_indexOf3 0 [(0, .ref (1001 + 2 * p1)), (1, .int p2), (2, .int p3), (3, .int p4)] [] S (some (.int res)) S := by
  obtain ⟨D, rfl⟩ : ∃ E, D = E + 1 := ⟨D - 1, by omega⟩
  unfold fJ_indexOf3 at h
  obtain ⟨gg0, h⟩ := gd_inv h
  refine x_iload_n d_J_indexOf3_0 rfl 1 rfl ?_
  obtain ⟨v2, q1, h⟩ := bd_inv h
  refine y_S1i (v := v2) (S1 := S) d_J_indexOf3_1 ml_17_88 (Nat.le_of_ble_eq_true rfl) (Nat.le_of_ble_eq_true rfl) (c_J_canEncode (by omega) q1) ?_
  refine x_if_ne (tgt := 9) d_J_indexOf3_4 rfl (fun c3 => ?_) (fun c3 => ?_)
  · replace h := ite_f c3 h
    refine x_iload_n d_J_indexOf3_9 rfl 2 rfl ?_
    refine x_iconst d_J_indexOf3_10 ic_0 ?_
    refine y_mmax d_J_indexOf3_11 ml_17_92 (Nat.le_of_ble_eq_true rfl) ?_
    obtain ⟨v4, e5, h⟩ := lt_inv h
    refine y_istore_n (L1 := [(0, .ref (1001 + 2 * p1)), (1, .int p2), (2, .int v4), (3, .int p4)]) e5 d_J_indexOf3_14 rfl (Nat.le_of_ble_eq_true rfl) rfl rfl ?_
    refine x_iload_n d_J_indexOf3_15 rfl 3 rfl ?_
    refine x_aload_n d_J_indexOf3_16 rfl 0 rfl ?_
    refine x_alenS d_J_indexOf3_17 (of_decide_eq_true gg0) ?_
    refine y_mmin d_J_indexOf3_18 ml_17_38 (Nat.le_of_ble_eq_true rfl) ?_
    obtain ⟨v6, e7, h⟩ := lt_inv h
    refine y_istore_n (L1 := [(0, .ref (1001 + 2 * p1)), (1, .int p2), (2, .int v4), (3, .int v6)]) e7 d_J_indexOf3_21 rfl (Nat.le_of_ble_eq_true rfl) rfl rfl ?_
    refine x_iload_n d_J_indexOf3_22 rfl 2 rfl ?_
    refine x_iload_n d_J_indexOf3_23 rfl 3 rfl ?_
    refine x_icmp_lt (tgt := 29) d_J_indexOf3_24 rfl (fun c8 => ?_) (fun c8 => ?_)
    · replace h := ite_t c8 h
      refine x_aload_n d_J_indexOf3_29 rfl 0 rfl ?_
      refine x_iload_n d_J_indexOf3_30 rfl 1 rfl ?_
      refine x_iload_n d_J_indexOf3_31 rfl 2 rfl ?_
      refine x_iload_n d_J_indexOf3_32 rfl 3 rfl ?_
      obtain ⟨v10, q9, h⟩ := bd_inv h
      refine y_S4i (v := v10) (S1 := S) d_J_indexOf3_33 ml_17_95 (Nat.le_of_ble_eq_true rfl) (Nat.le_of_ble_eq_true rfl) (c_J_indexOfChar (by omega) q9) ?_
      obtain rfl := Option.some.inj h
      exact x_ret (r := some (.int v10)) d_J_indexOf3_36 ⟨_, rfl, rfl⟩
    · replace h := ite_f c8 h
      refine x_iconst d_J_indexOf3_27 ic_m1 ?_
      obtain rfl := Option.some.inj h
      exact x_ret (r := some (.int (-1 : Int32))) d_J_indexOf3_28 ⟨_, rfl, rfl⟩
  · replace h := ite_t c3 h
    refine x_iconst d_J_indexOf3_7 ic_m1 ?_
    obtain rfl := Option.some.inj h
    exact x_ret (r := some (.int (-1 : Int32))) d_J_indexOf3_8 ⟨_, rfl, rfl⟩
/-! java/lang/String.indexOf -/
def fJ_indexOf2 (F G : Nat) (S : St) (o : Nat) (p1 : Int32) (p2 : Int32) : Option (Int32) :=
  gd (decide (o < 2)) (bd (fJ_isLatin1 F G S o) fun v2 => if v2 = 0 then bd (fJ_length F G S o) fun v5 => none else bd (fJ_length F G S o) fun v7 => bd (fJ_indexOf3 F G S o p1 p2 v7) fun v9 => some v9)
set_option maxRecDepth 100000 in
set_option maxHeartbeats 4000000 in
theorem c_J_indexOf2 {X : Nat × (Nat → Int32)} {D F G : Nat} (hD : 2 ≤ D) {S : St} {o : Nat} {p1 : Int32} {p2 : Int32} {res : Int32} (h : fJ_indexOf2 F G S o p1 p2 = some res) : Ek X (D) mJ_indexOf2 0 [(0, .ref (1000 + 2 * o)), (1, .int p1), (2, .int p2)] [] S (some (.int res)) S := by
  obtain ⟨D, rfl⟩ : ∃ E, D = E + 1 := ⟨D - 1, by omega⟩
  unfold fJ_indexOf2 at h
  obtain ⟨gg0, h⟩ := gd_inv h
  refine x_aload_n d_J_indexOf2_0 rfl 0 rfl ?_
  obtain ⟨v2, q1, h⟩ := bd_inv h
  refine y_T0i (i := o) (v := v2) (S1 := S) d_J_indexOf2_1 ml_16_492 gg0 rfl (Nat.le_of_ble_eq_true rfl) (Nat.le_of_ble_eq_true rfl) (c_J_isLatin1 (by omega) q1) ?_
  refine x_if_eq (tgt := 23) d_J_indexOf2_4 rfl (fun c3 => ?_) (fun c3 => ?_)
  · replace h := ite_t c3 h
    refine x_aload_n d_J_indexOf2_23 rfl 0 rfl ?_
    refine x_getSV d_J_indexOf2_24 (of_decide_eq_true gg0) fl_16_9 ?_
    refine x_iload_n d_J_indexOf2_27 rfl 1 rfl ?_
    refine x_iload_n d_J_indexOf2_28 rfl 2 rfl ?_
    refine x_aload_n d_J_indexOf2_29 rfl 0 rfl ?_
    obtain ⟨v5, q4, h⟩ := bd_inv h
    refine y_T0i (i := o) (v := v5) (S1 := S) d_J_indexOf2_30 ml_16_505 gg0 rfl (Nat.le_of_ble_eq_true rfl) (Nat.le_of_ble_eq_true rfl) (c_J_length (by omega) q4) ?_
    cases h
  · replace h := ite_f c3 h
    refine x_aload_n d_J_indexOf2_7 rfl 0 rfl ?_
    refine x_getSV d_J_indexOf2_8 (of_decide_eq_true gg0) fl_16_9 ?_
    refine x_iload_n d_J_indexOf2_11 rfl 1 rfl ?_
    refine x_iload_n d_J_indexOf2_12 rfl 2 rfl ?_
    refine x_aload_n d_J_indexOf2_13 rfl 0 rfl ?_
    obtain ⟨v7, q6, h⟩ := bd_inv h
    refine y_T0i (i := o) (v := v7) (S1 := S) d_J_indexOf2_14 ml_16_505 gg0 rfl (Nat.le_of_ble_eq_true rfl) (Nat.le_of_ble_eq_true rfl) (c_J_length (by omega) q6) ?_
    obtain ⟨v9, q8, h⟩ := bd_inv h
    refine y_S4i (v := v9) (S1 := S) d_J_indexOf2_17 ml_16_637 (Nat.le_of_ble_eq_true rfl) (Nat.le_of_ble_eq_true rfl) (c_J_indexOf3 (by omega) q8) ?_
    refine x_goto (tgt := 36) d_J_indexOf2_20 rfl ?_
    obtain rfl := Option.some.inj h
    exact x_ret (r := some (.int v9)) d_J_indexOf2_36 ⟨_, rfl, rfl⟩
/-! java/lang/String.indexOf -/
def fJ_indexOf (F G : Nat) (S : St) (o : Nat) (p1 : Int32) : Option (Int32) :=
  gd (decide (o < 2)) (bd (fJ_indexOf2 F G S o p1 (0 : Int32)) fun v2 => some v2)
set_option maxRecDepth 100000 in
set_option maxHeartbeats 4000000 in
theorem c_J_indexOf {X : Nat × (Nat → Int32)} {D F G : Nat} (hD : 3 ≤ D) {S : St} {o : Nat} {p1 : Int32} {res : Int32} (h : fJ_indexOf F G S o p1 = some res) : Ek X (D) mJ_indexOf 0 [(0, .ref (1000 + 2 * o)), (1, .int p1)] [] S (some (.int res)) S := by
  obtain ⟨D, rfl⟩ : ∃ E, D = E + 1 := ⟨D - 1, by omega⟩
  unfold fJ_indexOf at h
  obtain ⟨gg0, h⟩ := gd_inv h
  refine x_aload_n d_J_indexOf_0 rfl 0 rfl ?_
  refine x_iload_n d_J_indexOf_1 rfl 1 rfl ?_
  refine x_iconst d_J_indexOf_2 ic_0 ?_
  obtain ⟨v2, q1, h⟩ := bd_inv h
  refine y_T2i (i := o) (v := v2) (S1 := S) d_J_indexOf_3 ml_16_633 gg0 rfl (Nat.le_of_ble_eq_true rfl) (Nat.le_of_ble_eq_true rfl) (c_J_indexOf2 (by omega) q1) ?_
  obtain rfl := Option.some.inj h
  exact x_ret (r := some (.int v2)) d_J_indexOf_6 ⟨_, rfl, rfl⟩
/-! NinetyPlayers$Tape.step -/
def b_T_step_0 (F G : Nat) (k38 : St → Option (St)) (rec : St → Option (St)) (S : St) : Option (St) :=
  if (S.1 2 0) ≤ (S.1 2 2) then k38 S else bd (fT_at F G S (S.1 2 2)) fun v3 => bd (fT_isBlank F G S v3) fun v5 => if v5 = 0 then k38 S else lt (sI S 2 2 ((S.1 2 2) + (1 : Int32))) fun S7 => rec S7
def j_T_step_112 (F G : Nat) (S : St) (y1 : Int32) (s1 : Int32) : Option (St) :=
  lt (sI S 2 4 s1) fun S30 => lt (sI S30 2 5 y1) fun S32 => lt (sI S32 2 2 ((S32.1 2 2) + (1 : Int32))) fun S34 => some S34
def j_T_step_38 (F G : Nat) (S : St) : Option (St) :=
  lt (sI S 2 3 (S.1 2 2)) fun S10 => bd (fT_at F G S10 (S10.1 2 2)) fun v13 => if v13 = (-1 : Int32) then lt (sI S10 2 4 (0 : Int32)) fun S28 => some S28 else bd (fT_isLetter F G S10 v13) fun v16 => if v16 = 0 then bd (fT_isDigit F G S10 v13) fun v19 => if v19 = 0 then bd (fJ_indexOf F G S10 1 ((v13.toUInt32 % 65536).toInt32)) fun v22 => if v22 < 0 then j_T_step_112 F G  S10 v13 (5 : Int32) else j_T_step_112 F G  S10 v13 (4 : Int32) else bd (fT_takeNumber F G S10 ) fun S25 => some S25 else bd (fT_takeWord F G S10 ) fun S27 => some S27
def fT_step (F G : Nat) (S : St) : Option (St) :=
  fx1 (b_T_step_0 F G  (fun S9 => j_T_step_38 F G  S9 )) F S
set_option maxRecDepth 100000 in
set_option maxHeartbeats 4000000 in
theorem T_T_step_0 {X : Nat × (Nat → Int32)} {D F G : Nat} (hD : 6 ≤ D + 1) {k38 : St → Option (St)} (hk38 : ∀ (S1 : St) (res : St), k38 S1 = some res → Ek X (D + 1) mT_step 38 [(0, .ref 2)] [] S1 none res) : ∀ (f : Nat) (S : St) (res : St), fx1 (b_T_step_0 F G k38 ) f S = some res → Ek X (D + 1) mT_step 0 [(0, .ref 2)] [] S none res := by
  refine fx1_ind ?_
  intro rec ih S res h
  unfold b_T_step_0 at h
  refine x_aload_n d_T_step_0 rfl 0 rfl ?_
  refine y_getI d_T_step_1 fl_4_19 rfl kd_2 ?_
  refine x_aload_n d_T_step_4 rfl 0 rfl ?_
  refine y_getI d_T_step_5 fl_4_15 rfl kd_2 ?_
  refine x_icmp_ge (tgt := 38) d_T_step_8 rfl (fun c1 => ?_) (fun c1 => ?_)
  · replace h := ite_t c1 h
    exact hk38 S _ h
  · replace h := ite_f c1 h
    refine x_aload_n d_T_step_11 rfl 0 rfl ?_
    refine x_aload_n d_T_step_12 rfl 0 rfl ?_
    refine y_getI d_T_step_13 fl_4_19 rfl kd_2 ?_
    obtain ⟨v3, q2, h⟩ := bd_inv h
    refine y_V1i (v := v3) (S1 := S) d_T_step_16 ml_4_25 kd_2 rfl (Nat.le_of_ble_eq_true rfl) (Nat.le_of_ble_eq_true rfl) (c_T_at (by omega) q2) ?_
    obtain ⟨v5, q4, h⟩ := bd_inv h
    refine y_S1i (v := v5) (S1 := S) d_T_step_19 ml_4_29 (Nat.le_of_ble_eq_true rfl) (Nat.le_of_ble_eq_true rfl) (c_T_isBlank (by omega) q4) ?_
    refine x_if_eq (tgt := 38) d_T_step_22 rfl (fun c6 => ?_) (fun c6 => ?_)
    · replace h := ite_t c6 h
      exact hk38 S _ h
    · replace h := ite_f c6 h
      refine x_aload_n d_T_step_25 rfl 0 rfl ?_
      refine x_dup d_T_step_26 rfl ?_
      refine y_getI d_T_step_27 fl_4_19 rfl kd_2 ?_
      refine x_iconst d_T_step_30 ic_1 ?_
      refine x_iadd d_T_step_31 ?_
      obtain ⟨S7, e8, h⟩ := lt_inv h
      refine y_putI e8 d_T_step_32 fl_4_19 rfl rfl kd_2 rfl rfl ?_
      refine x_goto (tgt := 0) d_T_step_35 rfl ?_
      exact ih S7 _ h
set_option maxRecDepth 100000 in
set_option maxHeartbeats 4000000 in
theorem c_T_step {X : Nat × (Nat → Int32)} {D F G : Nat} (hD : 6 ≤ D) {S : St} {res : St} (h : fT_step F G S  = some res) : Ek X (D) mT_step 0 [(0, .ref 2)] [] S none res := by
  obtain ⟨D, rfl⟩ : ∃ E, D = E + 1 := ⟨D - 1, by omega⟩
  unfold fT_step at h
  have J112 : ∀ (S : St) (y1 : Int32) (s1 : Int32) (res : St), j_T_step_112 F G S y1 s1 = some res → Ek X (D + 1) mT_step 112 [(0, .ref 2), (1, .int y1)] [.int s1, .ref 2] S none res := by
    intro S y1 s1 res h
    unfold j_T_step_112 at h
    obtain ⟨S30, e31, h⟩ := lt_inv h
    refine y_putI e31 d_T_step_112 fl_4_36 rfl rfl kd_2 rfl rfl ?_
    refine x_aload_n d_T_step_115 rfl 0 rfl ?_
    refine x_iload_n d_T_step_116 rfl 1 rfl ?_
    obtain ⟨S32, e33, h⟩ := lt_inv h
    refine y_putI e33 d_T_step_117 fl_4_58 rfl rfl kd_2 rfl rfl ?_
    refine x_aload_n d_T_step_120 rfl 0 rfl ?_
    refine x_dup d_T_step_121 rfl ?_
    refine y_getI d_T_step_122 fl_4_19 rfl kd_2 ?_
    refine x_iconst d_T_step_125 ic_1 ?_
    refine x_iadd d_T_step_126 ?_
    obtain ⟨S34, e35, h⟩ := lt_inv h
    refine y_putI e35 d_T_step_127 fl_4_19 rfl rfl kd_2 rfl rfl ?_
    obtain rfl := Option.some.inj h
    exact x_ret (r := none) d_T_step_130 rfl
  have J38 : ∀ (S : St) (res : St), j_T_step_38 F G S  = some res → Ek X (D + 1) mT_step 38 [(0, .ref 2)] [] S none res := by
    intro S  res h
    unfold j_T_step_38 at h
    refine x_aload_n d_T_step_38 rfl 0 rfl ?_
    refine x_aload_n d_T_step_39 rfl 0 rfl ?_
    refine y_getI d_T_step_40 fl_4_19 rfl kd_2 ?_
    obtain ⟨S10, e11, h⟩ := lt_inv h
    refine y_putI e11 d_T_step_43 fl_4_33 rfl rfl kd_2 rfl rfl ?_
    refine x_aload_n d_T_step_46 rfl 0 rfl ?_
    refine x_aload_n d_T_step_47 rfl 0 rfl ?_
    refine y_getI d_T_step_48 fl_4_19 rfl kd_2 ?_
    obtain ⟨v13, q12, h⟩ := bd_inv h
    refine y_V1i (v := v13) (S1 := S10) d_T_step_51 ml_4_25 kd_2 rfl (Nat.le_of_ble_eq_true rfl) (Nat.le_of_ble_eq_true rfl) (c_T_at (by omega) q12) ?_
    refine x_istore_n (L1 := [(0, .ref 2), (1, .int v13)]) d_T_step_54 rfl (Nat.le_of_ble_eq_true rfl) rfl rfl ?_
    refine x_iload_n d_T_step_55 rfl 1 rfl ?_
    refine x_iconst d_T_step_56 ic_m1 ?_
    refine x_icmp_ne (tgt := 68) d_T_step_57 rfl (fun c14 => ?_) (fun c14 => ?_)
    · replace h := ite_f c14 h
      refine x_iload_n d_T_step_68 rfl 1 rfl ?_
      obtain ⟨v16, q15, h⟩ := bd_inv h
      refine y_S1i (v := v16) (S1 := S10) d_T_step_69 ml_4_39 (Nat.le_of_ble_eq_true rfl) (Nat.le_of_ble_eq_true rfl) (c_T_isLetter (by omega) q15) ?_
      refine x_if_eq (tgt := 82) d_T_step_72 rfl (fun c17 => ?_) (fun c17 => ?_)
      · replace h := ite_t c17 h
        refine x_iload_n d_T_step_82 rfl 1 rfl ?_
        obtain ⟨v19, q18, h⟩ := bd_inv h
        refine y_S1i (v := v19) (S1 := S10) d_T_step_83 ml_4_45 (Nat.le_of_ble_eq_true rfl) (Nat.le_of_ble_eq_true rfl) (c_T_isDigit (by omega) q18) ?_
        refine x_if_eq (tgt := 96) d_T_step_86 rfl (fun c20 => ?_) (fun c20 => ?_)
        · replace h := ite_t c20 h
          refine x_aload_n d_T_step_96 rfl 0 rfl ?_
          refine x_ldcT d_T_step_97 rfl ?_
          refine x_iload_n d_T_step_99 rfl 1 rfl ?_
          refine x_i2c d_T_step_100 ?_
          obtain ⟨v22, q21, h⟩ := bd_inv h
          refine y_T1i (i := 1) (v := v22) (S1 := S10) d_T_step_101 ml_4_53 (by decide) rfl (Nat.le_of_ble_eq_true rfl) (Nat.le_of_ble_eq_true rfl) (c_J_indexOf (by omega) q21) ?_
          refine x_if_lt (tgt := 111) d_T_step_104 rfl (fun c23 => ?_) (fun c23 => ?_)
          · replace h := ite_t c23 h
            refine x_iconst d_T_step_111 ic_5 ?_
            exact J112 S10 v13 (5 : Int32) _ h
          · replace h := ite_f c23 h
            refine x_iconst d_T_step_107 ic_4 ?_
            refine x_goto (tgt := 112) d_T_step_108 rfl ?_
            exact J112 S10 v13 (4 : Int32) _ h
        · replace h := ite_f c20 h
          refine x_aload_n d_T_step_89 rfl 0 rfl ?_
          obtain ⟨S25, q24, h⟩ := bd_inv h
          refine y_V0v (S1 := S25) d_T_step_90 ml_4_48 kd_2 rfl (Nat.le_of_ble_eq_true rfl) (Nat.le_of_ble_eq_true rfl) (c_T_takeNumber (by omega) q24) ?_
          refine x_goto (tgt := 130) d_T_step_93 rfl ?_
          obtain rfl := Option.some.inj h
          exact x_ret (r := none) d_T_step_130 rfl
      · replace h := ite_f c17 h
        refine x_aload_n d_T_step_75 rfl 0 rfl ?_
        obtain ⟨S27, q26, h⟩ := bd_inv h
        refine y_V0v (S1 := S27) d_T_step_76 ml_4_42 kd_2 rfl (Nat.le_of_ble_eq_true rfl) (Nat.le_of_ble_eq_true rfl) (c_T_takeWord (by omega) q26) ?_
        refine x_goto (tgt := 130) d_T_step_79 rfl ?_
        obtain rfl := Option.some.inj h
        exact x_ret (r := none) d_T_step_130 rfl
    · replace h := ite_t c14 h
      refine x_aload_n d_T_step_60 rfl 0 rfl ?_
      refine x_iconst d_T_step_61 ic_0 ?_
      obtain ⟨S28, e29, h⟩ := lt_inv h
      refine y_putI e29 d_T_step_62 fl_4_36 rfl rfl kd_2 rfl rfl ?_
      refine x_goto (tgt := 130) d_T_step_65 rfl ?_
      obtain rfl := Option.some.inj h
      exact x_ret (r := none) d_T_step_130 rfl
  refine T_T_step_0 (by omega)  ?_ F S _ h
  · intro S9 res h
    exact J38 S9  _ h
/-! NinetyPlayers$Tape.begin -/
def fT_begin (F G : Nat) (S : St) : Option (St) :=
  lt (sI S 2 2 (0 : Int32)) fun S1 => bd (fT_step F G S1 ) fun S4 => some S4
set_option maxRecDepth 100000 in
set_option maxHeartbeats 4000000 in
theorem c_T_begin {X : Nat × (Nat → Int32)} {D F G : Nat} (hD : 7 ≤ D) {S : St} {res : St} (h : fT_begin F G S  = some res) : Ek X (D) mT_begin 0 [(0, .ref 2)] [] S none res := by
  obtain ⟨D, rfl⟩ : ∃ E, D = E + 1 := ⟨D - 1, by omega⟩
  unfold fT_begin at h
  refine x_aload_n d_T_begin_0 rfl 0 rfl ?_
  refine x_iconst d_T_begin_1 ic_0 ?_
  obtain ⟨S1, e2, h⟩ := lt_inv h
  refine y_putI e2 d_T_begin_2 fl_4_19 rfl rfl kd_2 rfl rfl ?_
  refine x_aload_n d_T_begin_5 rfl 0 rfl ?_
  obtain ⟨S4, q3, h⟩ := bd_inv h
  refine y_V0v (S1 := S4) d_T_begin_6 ml_4_22 kd_2 rfl (Nat.le_of_ble_eq_true rfl) (Nat.le_of_ble_eq_true rfl) (c_T_step (by omega) q3) ?_
  obtain rfl := Option.some.inj h
  exact x_ret (r := none) d_T_begin_9 rfl
/-! NinetyPlayers$Reader.begin -/
def fR_begin (F G : Nat) (S : St) : Option (St) :=
  lt (sI S 1 0 (0 : Int32)) fun S1 => lt (sI S1 1 1 (-1 : Int32)) fun S3 => lt (sI S3 1 4 (0 : Int32)) fun S5 => gd (isSc S5.2.2.2) (bd (fS_forget F G S5 S5.2.2.2) fun S9 => bd (fT_begin F G S9 ) fun S11 => some S11)
set_option maxRecDepth 100000 in
set_option maxHeartbeats 4000000 in
theorem c_R_begin {X : Nat × (Nat → Int32)} {D F G : Nat} (hD : 8 ≤ D) {S : St} {res : St} (h : fR_begin F G S  = some res) : Ek X (D) mR_begin 0 [(0, .ref 1)] [] S none res := by
  obtain ⟨D, rfl⟩ : ∃ E, D = E + 1 := ⟨D - 1, by omega⟩
  unfold fR_begin at h
  refine x_aload_n d_R_begin_0 rfl 0 rfl ?_
  refine x_iconst d_R_begin_1 ic_0 ?_
  obtain ⟨S1, e2, h⟩ := lt_inv h
  refine y_putI e2 d_R_begin_2 fl_1_29 rfl rfl kd_1 rfl rfl ?_
  refine x_aload_n d_R_begin_5 rfl 0 rfl ?_
  refine x_iconst d_R_begin_6 ic_m1 ?_
  obtain ⟨S3, e4, h⟩ := lt_inv h
  refine y_putI e4 d_R_begin_7 fl_1_9 rfl rfl kd_1 rfl rfl ?_
  refine x_aload_n d_R_begin_10 rfl 0 rfl ?_
  refine x_iconst d_R_begin_11 ic_0 ?_
  obtain ⟨S5, e6, h⟩ := lt_inv h
  refine y_putI e6 d_R_begin_12 fl_1_32 rfl rfl kd_1 rfl rfl ?_
  refine x_aload_n d_R_begin_15 rfl 0 rfl ?_
  refine y_getR d_R_begin_16 fl_1_25 rfl kd_1 rr_draft ?_
  obtain ⟨g7, h⟩ := gd_inv h
  obtain ⟨S9, q8, h⟩ := bd_inv h
  refine y_V0v (S1 := S9) d_R_begin_19 ml_1_35 (ksSc g7) rfl (Nat.le_of_ble_eq_true rfl) (Nat.le_of_ble_eq_true rfl) (c_S_forget (by omega) q8) ?_
  refine x_aload_n d_R_begin_22 rfl 0 rfl ?_
  refine y_getR d_R_begin_23 fl_1_18 rfl kd_1 rr_1_2 ?_
  obtain ⟨S11, q10, h⟩ := bd_inv h
  refine y_V0v (S1 := S11) d_R_begin_26 ml_1_38 kd_2 rfl (Nat.le_of_ble_eq_true rfl) (Nat.le_of_ble_eq_true rfl) (c_T_begin (by omega) q10) ?_
  obtain rfl := Option.some.inj h
  exact x_ret (r := none) d_R_begin_29 rfl
/-! NinetyPlayers$Reader.goesOn -/
def fR_goesOn (F G : Nat) (S : St) : Option (Int32) :=
  if (S.1 1 0) = 0 then if (S.1 2 4) = 0 then some (0 : Int32) else some (1 : Int32) else some (0 : Int32)
set_option maxRecDepth 100000 in
set_option maxHeartbeats 4000000 in
theorem c_R_goesOn {X : Nat × (Nat → Int32)} {D F G : Nat} (hD : 0 ≤ D) {S : St} {res : Int32} (h : fR_goesOn F G S  = some res) : Ek X (D) mR_goesOn 0 [(0, .ref 1)] [] S (some (.int res)) S := by
  unfold fR_goesOn at h
  refine x_aload_n d_R_goesOn_0 rfl 0 rfl ?_
  refine y_getI d_R_goesOn_1 fl_1_29 rfl kd_1 ?_
  refine x_if_ne (tgt := 21) d_R_goesOn_4 rfl (fun c1 => ?_) (fun c1 => ?_)
  · replace h := ite_f c1 h
    refine x_iconst d_R_goesOn_21 ic_0 ?_
    obtain rfl := Option.some.inj h
    exact x_ret (r := some (.int (0 : Int32))) d_R_goesOn_22 ⟨_, rfl, rfl⟩
  · replace h := ite_t c1 h
    refine x_aload_n d_R_goesOn_7 rfl 0 rfl ?_
    refine y_getR d_R_goesOn_8 fl_1_18 rfl kd_1 rr_1_2 ?_
    refine y_getI d_R_goesOn_11 fl_1_41 rfl kd_2 ?_
    refine x_if_eq (tgt := 21) d_R_goesOn_14 rfl (fun c2 => ?_) (fun c2 => ?_)
    · replace h := ite_t c2 h
      refine x_iconst d_R_goesOn_21 ic_0 ?_
      obtain rfl := Option.some.inj h
      exact x_ret (r := some (.int (0 : Int32))) d_R_goesOn_22 ⟨_, rfl, rfl⟩
    · replace h := ite_f c2 h
      refine x_iconst d_R_goesOn_17 ic_1 ?_
      refine x_goto (tgt := 22) d_R_goesOn_18 rfl ?_
      obtain rfl := Option.some.inj h
      exact x_ret (r := some (.int (1 : Int32))) d_R_goesOn_22 ⟨_, rfl, rfl⟩
/-! NinetyPlayers$Reader.mayBegin -/
def fR_mayBegin (F G : Nat) (S : St) (p1 : Int32) : Option (Int32) :=
  if p1 = 0 then if (S.1 1 4) = 0 then some (1 : Int32) else some (0 : Int32) else if p1 = 1 then gd (isSc S.2.2.2) (if (4 : Int32) ≤ (S.1 S.2.2.2 5) then some (0 : Int32) else some (1 : Int32)) else if p1 = 2 then gd (isSc S.2.2.2) (if (10 : Int32) ≤ (S.1 S.2.2.2 6) then some (0 : Int32) else some (1 : Int32)) else if p1 < (3 : Int32) then some (0 : Int32) else if (7 : Int32) < p1 then some (0 : Int32) else if (((S.1 1 4) >>> (p1 &&& 31)) &&& (1 : Int32)) = 0 then some (1 : Int32) else some (0 : Int32)
set_option maxRecDepth 100000 in
set_option maxHeartbeats 4000000 in
theorem c_R_mayBegin {X : Nat × (Nat → Int32)} {D F G : Nat} (hD : 0 ≤ D) {S : St} {p1 : Int32} {res : Int32} (h : fR_mayBegin F G S p1 = some res) : Ek X (D) mR_mayBegin 0 [(0, .ref 1), (1, .int p1)] [] S (some (.int res)) S := by
  unfold fR_mayBegin at h
  refine x_iload_n d_R_mayBegin_0 rfl 1 rfl ?_
  by_cases c1 : p1 = 0
  · replace h := ite_t c1 h
    refine x_tabC (tgt := 28) 0 d_R_mayBegin_1 (by rw [c1]; rfl) (by decide) rfl rfl ?_
    refine x_aload_n d_R_mayBegin_28 rfl 0 rfl ?_
    refine y_getI d_R_mayBegin_29 fl_1_32 rfl kd_1 ?_
    refine x_if_ne (tgt := 39) d_R_mayBegin_32 rfl (fun c2 => ?_) (fun c2 => ?_)
    · replace h := ite_f c2 h
      refine x_iconst d_R_mayBegin_39 ic_0 ?_
      obtain rfl := Option.some.inj h
      exact x_ret (r := some (.int (0 : Int32))) d_R_mayBegin_40 ⟨_, rfl, rfl⟩
    · replace h := ite_t c2 h
      refine x_iconst d_R_mayBegin_35 ic_1 ?_
      refine x_goto (tgt := 40) d_R_mayBegin_36 rfl ?_
      obtain rfl := Option.some.inj h
      exact x_ret (r := some (.int (1 : Int32))) d_R_mayBegin_40 ⟨_, rfl, rfl⟩
  replace h := ite_f c1 h
  by_cases c3 : p1 = 1
  · replace h := ite_t c3 h
    refine x_tabC (tgt := 41) 1 d_R_mayBegin_1 (by rw [c3]; rfl) (by decide) rfl rfl ?_
    refine x_aload_n d_R_mayBegin_41 rfl 0 rfl ?_
    refine y_getR d_R_mayBegin_42 fl_1_25 rfl kd_1 rr_draft ?_
    obtain ⟨g4, h⟩ := gd_inv h
    refine y_getI d_R_mayBegin_45 fl_1_90 rfl (ksSc g4) ?_
    refine x_iconst d_R_mayBegin_48 ic_4 ?_
    refine x_icmp_ge (tgt := 56) d_R_mayBegin_49 rfl (fun c5 => ?_) (fun c5 => ?_)
    · replace h := ite_t c5 h
      refine x_iconst d_R_mayBegin_56 ic_0 ?_
      obtain rfl := Option.some.inj h
      exact x_ret (r := some (.int (0 : Int32))) d_R_mayBegin_57 ⟨_, rfl, rfl⟩
    · replace h := ite_f c5 h
      refine x_iconst d_R_mayBegin_52 ic_1 ?_
      refine x_goto (tgt := 57) d_R_mayBegin_53 rfl ?_
      obtain rfl := Option.some.inj h
      exact x_ret (r := some (.int (1 : Int32))) d_R_mayBegin_57 ⟨_, rfl, rfl⟩
  replace h := ite_f c3 h
  by_cases c6 : p1 = 2
  · replace h := ite_t c6 h
    refine x_tabC (tgt := 58) 2 d_R_mayBegin_1 (by rw [c6]; rfl) (by decide) rfl rfl ?_
    refine x_aload_n d_R_mayBegin_58 rfl 0 rfl ?_
    refine y_getR d_R_mayBegin_59 fl_1_25 rfl kd_1 rr_draft ?_
    obtain ⟨g7, h⟩ := gd_inv h
    refine y_getI d_R_mayBegin_62 fl_1_93 rfl (ksSc g7) ?_
    refine x_bipush d_R_mayBegin_65 bp_10 ?_
    refine x_icmp_ge (tgt := 74) d_R_mayBegin_67 rfl (fun c8 => ?_) (fun c8 => ?_)
    · replace h := ite_t c8 h
      refine x_iconst d_R_mayBegin_74 ic_0 ?_
      obtain rfl := Option.some.inj h
      exact x_ret (r := some (.int (0 : Int32))) d_R_mayBegin_75 ⟨_, rfl, rfl⟩
    · replace h := ite_f c8 h
      refine x_iconst d_R_mayBegin_70 ic_1 ?_
      refine x_goto (tgt := 75) d_R_mayBegin_71 rfl ?_
      obtain rfl := Option.some.inj h
      exact x_ret (r := some (.int (1 : Int32))) d_R_mayBegin_75 ⟨_, rfl, rfl⟩
  replace h := ite_f c6 h
  refine x_tabD (tgt := 76) d_R_mayBegin_1 (by have := lv_neT c1 (show (0 : Int32).toInt = 0 from rfl); have := lv_neT c3 (show (1 : Int32).toInt = 1 from rfl); have := lv_neT c6 (show (2 : Int32).toInt = 2 from rfl); omega) rfl ?_
  refine x_iload_n d_R_mayBegin_76 rfl 1 rfl ?_
  refine x_iconst d_R_mayBegin_77 ic_3 ?_
  refine x_icmp_lt (tgt := 102) d_R_mayBegin_78 rfl (fun c9 => ?_) (fun c9 => ?_)
  · replace h := ite_t c9 h
    refine x_iconst d_R_mayBegin_102 ic_0 ?_
    obtain rfl := Option.some.inj h
    exact x_ret (r := some (.int (0 : Int32))) d_R_mayBegin_103 ⟨_, rfl, rfl⟩
  · replace h := ite_f c9 h
    refine x_iload_n d_R_mayBegin_81 rfl 1 rfl ?_
    refine x_bipush d_R_mayBegin_82 bp_7 ?_
    refine x_icmp_gt (tgt := 102) d_R_mayBegin_84 rfl (fun c10 => ?_) (fun c10 => ?_)
    · replace h := ite_t c10 h
      refine x_iconst d_R_mayBegin_102 ic_0 ?_
      obtain rfl := Option.some.inj h
      exact x_ret (r := some (.int (0 : Int32))) d_R_mayBegin_103 ⟨_, rfl, rfl⟩
    · replace h := ite_f c10 h
      refine x_aload_n d_R_mayBegin_87 rfl 0 rfl ?_
      refine y_getI d_R_mayBegin_88 fl_1_32 rfl kd_1 ?_
      refine x_iload_n d_R_mayBegin_91 rfl 1 rfl ?_
      refine x_ishr d_R_mayBegin_92 ?_
      refine x_iconst d_R_mayBegin_93 ic_1 ?_
      refine x_iand d_R_mayBegin_94 ?_
      refine x_if_ne (tgt := 102) d_R_mayBegin_95 rfl (fun c11 => ?_) (fun c11 => ?_)
      · replace h := ite_f c11 h
        refine x_iconst d_R_mayBegin_102 ic_0 ?_
        obtain rfl := Option.some.inj h
        exact x_ret (r := some (.int (0 : Int32))) d_R_mayBegin_103 ⟨_, rfl, rfl⟩
      · replace h := ite_t c11 h
        refine x_iconst d_R_mayBegin_98 ic_1 ?_
        refine x_goto (tgt := 103) d_R_mayBegin_99 rfl ?_
        obtain rfl := Option.some.inj h
        exact x_ret (r := some (.int (1 : Int32))) d_R_mayBegin_103 ⟨_, rfl, rfl⟩
/-! NinetyPlayers$Reader.refuse -/
def j_R_refuse_24 (F G : Nat) (S : St) (s1 : Int32) : Option (St) :=
  lt (sI S 1 0 s1) fun S3 => lt (sI S3 1 1 (S3.1 2 3)) fun S5 => some S5
def fR_refuse (F G : Nat) (S : St) (p1 : Int32) : Option (St) :=
  if (S.1 1 0) = 0 then if (S.1 2 4) = (5 : Int32) then j_R_refuse_24 F G  S (1 : Int32) else j_R_refuse_24 F G  S p1 else some S
set_option maxRecDepth 100000 in
set_option maxHeartbeats 4000000 in
theorem c_R_refuse {X : Nat × (Nat → Int32)} {D F G : Nat} (hD : 0 ≤ D) {S : St} {p1 : Int32} {res : St} (h : fR_refuse F G S p1 = some res) : Ek X (D) mR_refuse 0 [(0, .ref 1), (1, .int p1)] [] S none res := by
  unfold fR_refuse at h
  have J24 : ∀ (S : St) (s1 : Int32) (res : St), j_R_refuse_24 F G S s1 = some res → Ek X (D) mR_refuse 24 [(0, .ref 1)] [.int s1, .ref 1] S none res := by
    intro S s1 res h
    unfold j_R_refuse_24 at h
    obtain ⟨S3, e4, h⟩ := lt_inv h
    refine y_putI e4 d_R_refuse_24 fl_1_29 rfl rfl kd_1 rfl rfl ?_
    refine x_aload_n d_R_refuse_27 rfl 0 rfl ?_
    refine x_aload_n d_R_refuse_28 rfl 0 rfl ?_
    refine y_getR d_R_refuse_29 fl_1_18 rfl kd_1 rr_1_2 ?_
    refine y_getI d_R_refuse_32 fl_1_136 rfl kd_2 ?_
    obtain ⟨S5, e6, h⟩ := lt_inv h
    refine y_putI e6 d_R_refuse_35 fl_1_9 rfl rfl kd_1 rfl rfl ?_
    obtain rfl := Option.some.inj h
    exact x_ret (r := none) d_R_refuse_38 rfl
  refine x_aload_n d_R_refuse_0 rfl 0 rfl ?_
  refine y_getI d_R_refuse_1 fl_1_29 rfl kd_1 ?_
  refine x_if_ne (tgt := 38) d_R_refuse_4 rfl (fun c1 => ?_) (fun c1 => ?_)
  · replace h := ite_f c1 h
    obtain rfl := Option.some.inj h
    exact x_ret (r := none) d_R_refuse_38 rfl
  · replace h := ite_t c1 h
    refine x_aload_n d_R_refuse_7 rfl 0 rfl ?_
    refine x_aload_n d_R_refuse_8 rfl 0 rfl ?_
    refine y_getR d_R_refuse_9 fl_1_18 rfl kd_1 rr_1_2 ?_
    refine y_getI d_R_refuse_12 fl_1_41 rfl kd_2 ?_
    refine x_iconst d_R_refuse_15 ic_5 ?_
    refine x_icmp_ne (tgt := 23) d_R_refuse_16 rfl (fun c2 => ?_) (fun c2 => ?_)
    · replace h := ite_f c2 h
      refine x_iload_n d_R_refuse_23 rfl 1 rfl ?_
      refine y_pick (L1 := [(0, .ref 1)]) [0] rfl ?_
      exact J24 S p1 _ h
    · replace h := ite_t c2 h
      refine x_iconst d_R_refuse_19 ic_1 ?_
      refine x_goto (tgt := 24) d_R_refuse_20 rfl ?_
      refine y_pick (L1 := [(0, .ref 1)]) [0] rfl ?_
      exact J24 S (1 : Int32) _ h
/-! NinetyPlayers$Reader.number -/
def j_R_number_53 (F G : Nat) (S : St) (y3 : Int32) : Option (Int32 × St) :=
  if (S.1 1 0) = 0 then bd (fT_step F G S ) fun S14 => some (y3, S14) else some (y3, S)
def j_R_number_48 (F G : Nat) (S : St) (y3 : Int32) : Option (Int32 × St) :=
  bd (fR_refuse F G S (4 : Int32)) fun S11 => j_R_number_53 F G  S11 y3
def j_R_number_23 (F G : Nat) (S : St) (y1 : Int32) (y2 : Int32) : Option (Int32 × St) :=
  lt (S.1 2 5) fun v5 => if (S.1 1 0) = 0 then if v5 < y1 then j_R_number_48 F G  S v5 else if v5 ≤ y2 then j_R_number_53 F G  S v5 else j_R_number_48 F G  S v5 else j_R_number_53 F G  S v5
def fR_number (F G : Nat) (S : St) (p1 : Int32) (p2 : Int32) : Option (Int32 × St) :=
  if (S.1 1 0) = 0 then if (S.1 2 4) = (3 : Int32) then j_R_number_23 F G  S p1 p2 else bd (fR_refuse F G S (2 : Int32)) fun S4 => j_R_number_23 F G  S4 p1 p2 else j_R_number_23 F G  S p1 p2
set_option maxRecDepth 100000 in
set_option maxHeartbeats 4000000 in
theorem c_R_number {X : Nat × (Nat → Int32)} {D F G : Nat} (hD : 7 ≤ D) {S : St} {p1 : Int32} {p2 : Int32} {res : Int32 × St} (h : fR_number F G S p1 p2 = some res) : Ek X (D) mR_number 0 [(0, .ref 1), (1, .int p1), (2, .int p2)] [] S (some (.int res.1)) res.2 := by
  obtain ⟨D, rfl⟩ : ∃ E, D = E + 1 := ⟨D - 1, by omega⟩
  unfold fR_number at h
  have J53 : ∀ (S : St) (y3 : Int32) (res : Int32 × St), j_R_number_53 F G S y3 = some res → Ek X (D + 1) mR_number 53 [(0, .ref 1), (3, .int y3)] [] S (some (.int res.1)) res.2 := by
    intro S y3 res h
    unfold j_R_number_53 at h
    refine x_aload_n d_R_number_53 rfl 0 rfl ?_
    refine y_getI d_R_number_54 fl_1_29 rfl kd_1 ?_
    refine x_if_ne (tgt := 67) d_R_number_57 rfl (fun c12 => ?_) (fun c12 => ?_)
    · replace h := ite_f c12 h
      refine x_iload_n d_R_number_67 rfl 1 rfl ?_
      obtain rfl := Option.some.inj h
      exact x_ret (r := some (.int y3)) d_R_number_68 ⟨_, rfl, rfl⟩
    · replace h := ite_t c12 h
      refine x_aload_n d_R_number_60 rfl 0 rfl ?_
      refine y_getR d_R_number_61 fl_1_18 rfl kd_1 rr_1_2 ?_
      obtain ⟨S14, q13, h⟩ := bd_inv h
      refine y_V0v (S1 := S14) d_R_number_64 ml_1_55 kd_2 rfl (Nat.le_of_ble_eq_true rfl) (Nat.le_of_ble_eq_true rfl) (c_T_step (by omega) q13) ?_
      refine x_iload_n d_R_number_67 rfl 1 rfl ?_
      obtain rfl := Option.some.inj h
      exact x_ret (r := some (.int y3)) d_R_number_68 ⟨_, rfl, rfl⟩
  have J48 : ∀ (S : St) (y3 : Int32) (res : Int32 × St), j_R_number_48 F G S y3 = some res → Ek X (D + 1) mR_number 48 [(0, .ref 1), (3, .int y3)] [] S (some (.int res.1)) res.2 := by
    intro S y3 res h
    unfold j_R_number_48 at h
    refine x_aload_n d_R_number_48 rfl 0 rfl ?_
    refine x_iconst d_R_number_49 ic_4 ?_
    obtain ⟨S11, q10, h⟩ := bd_inv h
    refine y_V1v (S1 := S11) d_R_number_50 ml_1_51 kd_1 rfl (Nat.le_of_ble_eq_true rfl) (Nat.le_of_ble_eq_true rfl) (c_R_refuse (by omega) q10) ?_
    exact J53 S11 y3 _ h
  have J23 : ∀ (S : St) (y1 : Int32) (y2 : Int32) (res : Int32 × St), j_R_number_23 F G S y1 y2 = some res → Ek X (D + 1) mR_number 23 [(0, .ref 1), (1, .int y1), (2, .int y2)] [] S (some (.int res.1)) res.2 := by
    intro S y1 y2 res h
    unfold j_R_number_23 at h
    refine x_aload_n d_R_number_23 rfl 0 rfl ?_
    refine y_getR d_R_number_24 fl_1_18 rfl kd_1 rr_1_2 ?_
    refine y_getI d_R_number_27 fl_1_44 rfl kd_2 ?_
    obtain ⟨v5, e6, h⟩ := lt_inv h
    refine y_istore_n (L1 := [(0, .ref 1), (1, .int y1), (2, .int y2), (3, .int v5)]) e6 d_R_number_30 rfl (Nat.le_of_ble_eq_true rfl) rfl rfl ?_
    refine x_aload_n d_R_number_31 rfl 0 rfl ?_
    refine y_getI d_R_number_32 fl_1_29 rfl kd_1 ?_
    refine x_if_ne (tgt := 53) d_R_number_35 rfl (fun c7 => ?_) (fun c7 => ?_)
    · replace h := ite_f c7 h
      refine y_pick (L1 := [(0, .ref 1), (3, .int v5)]) [0, 3] rfl ?_
      exact J53 S v5 _ h
    · replace h := ite_t c7 h
      refine x_iload_n d_R_number_38 rfl 3 rfl ?_
      refine x_iload_n d_R_number_39 rfl 1 rfl ?_
      refine x_icmp_lt (tgt := 48) d_R_number_40 rfl (fun c8 => ?_) (fun c8 => ?_)
      · replace h := ite_t c8 h
        refine y_pick (L1 := [(0, .ref 1), (3, .int v5)]) [0, 3] rfl ?_
        exact J48 S v5 _ h
      · replace h := ite_f c8 h
        refine x_iload_n d_R_number_43 rfl 3 rfl ?_
        refine x_iload_n d_R_number_44 rfl 2 rfl ?_
        refine x_icmp_le (tgt := 53) d_R_number_45 rfl (fun c9 => ?_) (fun c9 => ?_)
        · replace h := ite_t c9 h
          refine y_pick (L1 := [(0, .ref 1), (3, .int v5)]) [0, 3] rfl ?_
          exact J53 S v5 _ h
        · replace h := ite_f c9 h
          refine y_pick (L1 := [(0, .ref 1), (3, .int v5)]) [0, 3] rfl ?_
          exact J48 S v5 _ h
  refine x_aload_n d_R_number_0 rfl 0 rfl ?_
  refine y_getI d_R_number_1 fl_1_29 rfl kd_1 ?_
  refine x_if_ne (tgt := 23) d_R_number_4 rfl (fun c1 => ?_) (fun c1 => ?_)
  · replace h := ite_f c1 h
    exact J23 S p1 p2 _ h
  · replace h := ite_t c1 h
    refine x_aload_n d_R_number_7 rfl 0 rfl ?_
    refine y_getR d_R_number_8 fl_1_18 rfl kd_1 rr_1_2 ?_
    refine y_getI d_R_number_11 fl_1_41 rfl kd_2 ?_
    refine x_iconst d_R_number_14 ic_3 ?_
    refine x_icmp_eq (tgt := 23) d_R_number_15 rfl (fun c2 => ?_) (fun c2 => ?_)
    · replace h := ite_t c2 h
      exact J23 S p1 p2 _ h
    · replace h := ite_f c2 h
      refine x_aload_n d_R_number_18 rfl 0 rfl ?_
      refine x_iconst d_R_number_19 ic_2 ?_
      obtain ⟨S4, q3, h⟩ := bd_inv h
      refine y_V1v (S1 := S4) d_R_number_20 ml_1_51 kd_1 rfl (Nat.le_of_ble_eq_true rfl) (Nat.le_of_ble_eq_true rfl) (c_R_refuse (by omega) q3) ?_
      exact J23 S4 p1 p2 _ h
/-! NinetyPlayers$Score.partNamed -/
def b_S_partNamed_2 (F G : Nat) (S : St) (z0 : Nat) (z1 : Int64) (rec : Int32 → Option (Int32)) (w3 : Int32) : Option (Int32) :=
  if (S.1 z0 5) ≤ w3 then some (-1 : Int32) else gd (inB w3 4) (if (lg_cmp (S.2.1 (z0 + 1) w3.toNatClampNeg) z1) = 0 then some w3 else lt (w3 + 1) fun v4 => rec v4)
def fS_partNamed (F G : Nat) (S : St) (o : Nat) (p1 : Int64) : Option (Int32) :=
  gd (isSc o) (fx1 (b_S_partNamed_2 F G S o p1) F (0 : Int32))
set_option maxRecDepth 100000 in
set_option maxHeartbeats 4000000 in
theorem T_S_partNamed_2 {X : Nat × (Nat → Int32)} {D F G : Nat} (hD : 0 ≤ D) {S : St} {z0 : Nat} {z1 : Int64} (hz0 : isSc z0 = true) : ∀ (f : Nat) (w3 : Int32) (res : Int32), fx1 (b_S_partNamed_2 F G S z0 z1 ) f w3 = some res → Ek X (D) mS_partNamed 2 [(0, .ref z0), (1, .long z1), (3, .int w3)] [] S (some (.int res)) S := by
  refine fx1_ind ?_
  intro rec ih w3 res h
  unfold b_S_partNamed_2 at h
  refine x_iload_n d_S_partNamed_2 rfl 2 rfl ?_
  refine x_aload_n d_S_partNamed_3 rfl 0 rfl ?_
  refine y_getI d_S_partNamed_4 fl_2_63 rfl (ksSc hz0) ?_
  refine x_icmp_ge (tgt := 29) d_S_partNamed_7 rfl (fun c1 => ?_) (fun c1 => ?_)
  · replace h := ite_t c1 h
    refine x_iconst d_S_partNamed_29 ic_m1 ?_
    obtain rfl := Option.some.inj h
    exact x_ret (r := some (.int (-1 : Int32))) d_S_partNamed_30 ⟨_, rfl, rfl⟩
  · replace h := ite_f c1 h
    refine x_aload_n d_S_partNamed_10 rfl 0 rfl ?_
    refine y_getR d_S_partNamed_11 fl_2_9 rfl (ksSc hz0) (rrSc_7 hz0) ?_
    refine x_iload_n d_S_partNamed_14 rfl 2 rfl ?_
    obtain ⟨g2, h⟩ := gd_inv h
    refine y_lald d_S_partNamed_15 (ksSc_1 hz0) g2 ?_
    refine x_lload_n d_S_partNamed_16 rfl 1 rfl ?_
    refine x_lcmp d_S_partNamed_17 ?_
    refine x_if_ne (tgt := 23) d_S_partNamed_18 rfl (fun c3 => ?_) (fun c3 => ?_)
    · replace h := ite_f c3 h
      obtain ⟨v4, e5, h⟩ := lt_inv h
      refine y_iinc (L1 := [(0, .ref z0), (1, .long z1), (3, .int v4)]) e5 ic_1 d_S_partNamed_23 2 rfl (Nat.le_of_ble_eq_true rfl) rfl rfl ?_
      refine x_goto (tgt := 2) d_S_partNamed_26 rfl ?_
      exact ih v4 _ h
    · replace h := ite_t c3 h
      refine x_iload_n d_S_partNamed_21 rfl 2 rfl ?_
      obtain rfl := Option.some.inj h
      exact x_ret (r := some (.int w3)) d_S_partNamed_22 ⟨_, rfl, rfl⟩
set_option maxRecDepth 100000 in
set_option maxHeartbeats 4000000 in
theorem c_S_partNamed {X : Nat × (Nat → Int32)} {D F G : Nat} (hD : 0 ≤ D) {S : St} {o : Nat} {p1 : Int64} {res : Int32} (h : fS_partNamed F G S o p1 = some res) : Ek X (D) mS_partNamed 0 [(0, .ref o), (1, .long p1)] [] S (some (.int res)) S := by
  unfold fS_partNamed at h
  obtain ⟨gg0, h⟩ := gd_inv h
  refine x_iconst d_S_partNamed_0 ic_0 ?_
  refine x_istore_n (L1 := [(0, .ref o), (1, .long p1), (3, .int (0 : Int32))]) d_S_partNamed_1 rfl (Nat.le_of_ble_eq_true rfl) rfl rfl ?_
  refine T_S_partNamed_2 (by omega) gg0  F (0 : Int32) _ h
/-! NinetyPlayers$Reader.newName -/
def j_R_newName_35 (F G : Nat) (S : St) : Option (Int64 × St) :=
  lt (S.2.1 2 6) fun v7 => if (S.1 1 0) = 0 then bd (fT_step F G S ) fun S11 => some (v7, S11) else some (v7, S)
def j_R_newName_32 (F G : Nat) (S : St) (s1 : Int32) : Option (Int64 × St) :=
  bd (fR_refuse F G S s1) fun S6 => j_R_newName_35 F G  S6 
def j_R_newName_22 (F G : Nat) (S : St) (y1 : Int32) : Option (Int64 × St) :=
  if y1 = 0 then j_R_newName_32 F G  S (2 : Int32) else j_R_newName_32 F G  S (3 : Int32)
def fR_newName (F G : Nat) (S : St) (p1 : Int32) : Option (Int64 × St) :=
  if (S.1 1 0) = 0 then if (S.1 2 4) = (2 : Int32) then if p1 = 0 then j_R_newName_35 F G  S  else j_R_newName_22 F G  S p1 else j_R_newName_22 F G  S p1 else j_R_newName_35 F G  S 
set_option maxRecDepth 100000 in
set_option maxHeartbeats 4000000 in
theorem c_R_newName {X : Nat × (Nat → Int32)} {D F G : Nat} (hD : 7 ≤ D) {S : St} {p1 : Int32} {res : Int64 × St} (h : fR_newName F G S p1 = some res) : Ek X (D) mR_newName 0 [(0, .ref 1), (1, .int p1)] [] S (some (.long res.1)) res.2 := by
  obtain ⟨D, rfl⟩ : ∃ E, D = E + 1 := ⟨D - 1, by omega⟩
  unfold fR_newName at h
  have J35 : ∀ (S : St) (res : Int64 × St), j_R_newName_35 F G S  = some res → Ek X (D + 1) mR_newName 35 [(0, .ref 1)] [] S (some (.long res.1)) res.2 := by
    intro S  res h
    unfold j_R_newName_35 at h
    refine x_aload_n d_R_newName_35 rfl 0 rfl ?_
    refine y_getR d_R_newName_36 fl_1_18 rfl kd_1 rr_1_2 ?_
    refine y_getL d_R_newName_39 fl_1_98 rfl kd_2 ?_
    obtain ⟨v7, e8, h⟩ := lt_inv h
    refine y_lstore_n (L1 := [(0, .ref 1), (2, .long v7)]) e8 d_R_newName_42 rfl (Nat.le_of_ble_eq_true rfl) rfl rfl ?_
    refine x_aload_n d_R_newName_43 rfl 0 rfl ?_
    refine y_getI d_R_newName_44 fl_1_29 rfl kd_1 ?_
    refine x_if_ne (tgt := 57) d_R_newName_47 rfl (fun c9 => ?_) (fun c9 => ?_)
    · replace h := ite_f c9 h
      refine x_lload_n d_R_newName_57 rfl 1 rfl ?_
      obtain rfl := Option.some.inj h
      exact x_ret (r := some (.long v7)) d_R_newName_58 ⟨_, rfl⟩
    · replace h := ite_t c9 h
      refine x_aload_n d_R_newName_50 rfl 0 rfl ?_
      refine y_getR d_R_newName_51 fl_1_18 rfl kd_1 rr_1_2 ?_
      obtain ⟨S11, q10, h⟩ := bd_inv h
      refine y_V0v (S1 := S11) d_R_newName_54 ml_1_55 kd_2 rfl (Nat.le_of_ble_eq_true rfl) (Nat.le_of_ble_eq_true rfl) (c_T_step (by omega) q10) ?_
      refine x_lload_n d_R_newName_57 rfl 1 rfl ?_
      obtain rfl := Option.some.inj h
      exact x_ret (r := some (.long v7)) d_R_newName_58 ⟨_, rfl⟩
  have J32 : ∀ (S : St) (s1 : Int32) (res : Int64 × St), j_R_newName_32 F G S s1 = some res → Ek X (D + 1) mR_newName 32 [(0, .ref 1)] [.int s1, .ref 1] S (some (.long res.1)) res.2 := by
    intro S s1 res h
    unfold j_R_newName_32 at h
    obtain ⟨S6, q5, h⟩ := bd_inv h
    refine y_V1v (S1 := S6) d_R_newName_32 ml_1_51 kd_1 rfl (Nat.le_of_ble_eq_true rfl) (Nat.le_of_ble_eq_true rfl) (c_R_refuse (by omega) q5) ?_
    exact J35 S6  _ h
  have J22 : ∀ (S : St) (y1 : Int32) (res : Int64 × St), j_R_newName_22 F G S y1 = some res → Ek X (D + 1) mR_newName 22 [(0, .ref 1), (1, .int y1)] [] S (some (.long res.1)) res.2 := by
    intro S y1 res h
    unfold j_R_newName_22 at h
    refine x_aload_n d_R_newName_22 rfl 0 rfl ?_
    refine x_iload_n d_R_newName_23 rfl 1 rfl ?_
    refine x_if_eq (tgt := 31) d_R_newName_24 rfl (fun c4 => ?_) (fun c4 => ?_)
    · replace h := ite_t c4 h
      refine x_iconst d_R_newName_31 ic_2 ?_
      refine y_pick (L1 := [(0, .ref 1)]) [0] rfl ?_
      exact J32 S (2 : Int32) _ h
    · replace h := ite_f c4 h
      refine x_iconst d_R_newName_27 ic_3 ?_
      refine x_goto (tgt := 32) d_R_newName_28 rfl ?_
      refine y_pick (L1 := [(0, .ref 1)]) [0] rfl ?_
      exact J32 S (3 : Int32) _ h
  refine x_aload_n d_R_newName_0 rfl 0 rfl ?_
  refine y_getI d_R_newName_1 fl_1_29 rfl kd_1 ?_
  refine x_if_ne (tgt := 35) d_R_newName_4 rfl (fun c1 => ?_) (fun c1 => ?_)
  · replace h := ite_f c1 h
    refine y_pick (L1 := [(0, .ref 1)]) [0] rfl ?_
    exact J35 S  _ h
  · replace h := ite_t c1 h
    refine x_aload_n d_R_newName_7 rfl 0 rfl ?_
    refine y_getR d_R_newName_8 fl_1_18 rfl kd_1 rr_1_2 ?_
    refine y_getI d_R_newName_11 fl_1_41 rfl kd_2 ?_
    refine x_iconst d_R_newName_14 ic_2 ?_
    refine x_icmp_ne (tgt := 22) d_R_newName_15 rfl (fun c2 => ?_) (fun c2 => ?_)
    · replace h := ite_f c2 h
      exact J22 S p1 _ h
    · replace h := ite_t c2 h
      refine x_iload_n d_R_newName_18 rfl 1 rfl ?_
      refine x_if_eq (tgt := 35) d_R_newName_19 rfl (fun c3 => ?_) (fun c3 => ?_)
      · replace h := ite_t c3 h
        refine y_pick (L1 := [(0, .ref 1)]) [0] rfl ?_
        exact J35 S  _ h
      · replace h := ite_f c3 h
        exact J22 S p1 _ h
/-! NinetyPlayers$Reader.isWord -/
def fR_isWord (F G : Nat) (S : St) (p1 : Int32) : Option (Int32) :=
  if (S.1 1 0) = 0 then if (S.1 2 4) = (1 : Int32) then if (S.1 2 5) = p1 then some (1 : Int32) else some (0 : Int32) else some (0 : Int32) else some (0 : Int32)
set_option maxRecDepth 100000 in
set_option maxHeartbeats 4000000 in
theorem c_R_isWord {X : Nat × (Nat → Int32)} {D F G : Nat} (hD : 0 ≤ D) {S : St} {p1 : Int32} {res : Int32} (h : fR_isWord F G S p1 = some res) : Ek X (D) mR_isWord 0 [(0, .ref 1), (1, .int p1)] [] S (some (.int res)) S := by
  unfold fR_isWord at h
  refine x_aload_n d_R_isWord_0 rfl 0 rfl ?_
  refine y_getI d_R_isWord_1 fl_1_29 rfl kd_1 ?_
  refine x_if_ne (tgt := 33) d_R_isWord_4 rfl (fun c1 => ?_) (fun c1 => ?_)
  · replace h := ite_f c1 h
    refine x_iconst d_R_isWord_33 ic_0 ?_
    obtain rfl := Option.some.inj h
    exact x_ret (r := some (.int (0 : Int32))) d_R_isWord_34 ⟨_, rfl, rfl⟩
  · replace h := ite_t c1 h
    refine x_aload_n d_R_isWord_7 rfl 0 rfl ?_
    refine y_getR d_R_isWord_8 fl_1_18 rfl kd_1 rr_1_2 ?_
    refine y_getI d_R_isWord_11 fl_1_41 rfl kd_2 ?_
    refine x_iconst d_R_isWord_14 ic_1 ?_
    refine x_icmp_ne (tgt := 33) d_R_isWord_15 rfl (fun c2 => ?_) (fun c2 => ?_)
    · replace h := ite_f c2 h
      refine x_iconst d_R_isWord_33 ic_0 ?_
      obtain rfl := Option.some.inj h
      exact x_ret (r := some (.int (0 : Int32))) d_R_isWord_34 ⟨_, rfl, rfl⟩
    · replace h := ite_t c2 h
      refine x_aload_n d_R_isWord_18 rfl 0 rfl ?_
      refine y_getR d_R_isWord_19 fl_1_18 rfl kd_1 rr_1_2 ?_
      refine y_getI d_R_isWord_22 fl_1_44 rfl kd_2 ?_
      refine x_iload_n d_R_isWord_25 rfl 1 rfl ?_
      refine x_icmp_ne (tgt := 33) d_R_isWord_26 rfl (fun c3 => ?_) (fun c3 => ?_)
      · replace h := ite_f c3 h
        refine x_iconst d_R_isWord_33 ic_0 ?_
        obtain rfl := Option.some.inj h
        exact x_ret (r := some (.int (0 : Int32))) d_R_isWord_34 ⟨_, rfl, rfl⟩
      · replace h := ite_t c3 h
        refine x_iconst d_R_isWord_29 ic_1 ?_
        refine x_goto (tgt := 34) d_R_isWord_30 rfl ?_
        obtain rfl := Option.some.inj h
        exact x_ret (r := some (.int (1 : Int32))) d_R_isWord_34 ⟨_, rfl, rfl⟩
/-! NinetyPlayers$Score.addPart -/
def fS_addPart (F G : Nat) (S : St) (o : Nat) (p1 : Int64) (p2 : Int32) : Option (St) :=
  gd (isSc o) (if (4 : Int32) ≤ (S.1 o 5) then some S else gd (inB (S.1 o 5) 4) (lt (sL S (o + 1) (S.1 o 5).toNatClampNeg p1) fun S3 => gd (inB (S3.1 o 5) 4) (lt (sI S3 (o + 2) (S3.1 o 5).toNatClampNeg p2) fun S6 => lt (sI S6 o 5 ((S6.1 o 5) + (1 : Int32))) fun S8 => some S8)))
set_option maxRecDepth 100000 in
set_option maxHeartbeats 4000000 in
theorem c_S_addPart {X : Nat × (Nat → Int32)} {D F G : Nat} (hD : 0 ≤ D) {S : St} {o : Nat} {p1 : Int64} {p2 : Int32} {res : St} (h : fS_addPart F G S o p1 p2 = some res) : Ek X (D) mS_addPart 0 [(0, .ref o), (1, .long p1), (3, .int p2)] [] S none res := by
  unfold fS_addPart at h
  obtain ⟨gg0, h⟩ := gd_inv h
  refine x_aload_n d_S_addPart_0 rfl 0 rfl ?_
  refine y_getI d_S_addPart_1 fl_2_63 rfl (ksSc gg0) ?_
  refine x_iconst d_S_addPart_4 ic_4 ?_
  refine x_icmp_ge (tgt := 38) d_S_addPart_5 rfl (fun c1 => ?_) (fun c1 => ?_)
  · replace h := ite_t c1 h
    obtain rfl := Option.some.inj h
    exact x_ret (r := none) d_S_addPart_38 rfl
  · replace h := ite_f c1 h
    refine x_aload_n d_S_addPart_8 rfl 0 rfl ?_
    refine y_getR d_S_addPart_9 fl_2_9 rfl (ksSc gg0) (rrSc_7 gg0) ?_
    refine x_aload_n d_S_addPart_12 rfl 0 rfl ?_
    refine y_getI d_S_addPart_13 fl_2_63 rfl (ksSc gg0) ?_
    refine x_lload_n d_S_addPart_16 rfl 1 rfl ?_
    obtain ⟨g2, h⟩ := gd_inv h
    obtain ⟨S3, e4, h⟩ := lt_inv h
    refine y_last e4 d_S_addPart_17 (ksSc_1 gg0) g2 ?_
    refine x_aload_n d_S_addPart_18 rfl 0 rfl ?_
    refine y_getR d_S_addPart_19 fl_2_15 rfl (ksSc gg0) (rrSc_8 gg0) ?_
    refine x_aload_n d_S_addPart_22 rfl 0 rfl ?_
    refine y_getI d_S_addPart_23 fl_2_63 rfl (ksSc gg0) ?_
    refine x_iload_n d_S_addPart_26 rfl 2 rfl ?_
    obtain ⟨g5, h⟩ := gd_inv h
    obtain ⟨S6, e7, h⟩ := lt_inv h
    refine y_iast e7 d_S_addPart_27 (ksSc_2 gg0) g5 ?_
    refine x_aload_n d_S_addPart_28 rfl 0 rfl ?_
    refine x_dup d_S_addPart_29 rfl ?_
    refine y_getI d_S_addPart_30 fl_2_63 rfl (ksSc gg0) ?_
    refine x_iconst d_S_addPart_33 ic_1 ?_
    refine x_iadd d_S_addPart_34 ?_
    obtain ⟨S8, e9, h⟩ := lt_inv h
    refine y_putI e9 d_S_addPart_35 fl_2_63 rfl rfl (ksSc gg0) rfl rfl ?_
    obtain rfl := Option.some.inj h
    exact x_ret (r := none) d_S_addPart_38 rfl
/-! NinetyPlayers$Reader.partLine -/
def j_R_partLine_80 (F G : Nat) (S : St) (y1 : Int64) (y3 : Int32) : Option (St) :=
  if (S.1 1 0) = 0 then gd (isSc S.2.2.2) (bd (fS_addPart F G S S.2.2.2 y1 y3) fun S22 => some S22) else some S
def j_R_partLine_35 (F G : Nat) (S : St) (s1 : Int32) : Option (St) :=
  bd2 (fR_newName F G S s1) fun v7 S8 => bd (fR_isWord F G S8 (8 : Int32)) fun v10 => if v10 = 0 then bd (fR_isWord F G S8 (9 : Int32)) fun v13 => if v13 = 0 then j_R_partLine_80 F G  S8 v7 (0 : Int32) else bd (fT_step F G S8 ) fun S16 => j_R_partLine_80 F G  S16 v7 (1 : Int32) else bd (fT_step F G S8 ) fun S18 => j_R_partLine_80 F G  S18 v7 (2 : Int32)
def j_R_partLine_34 (F G : Nat) (S : St) : Option (St) :=
  j_R_partLine_35 F G  S (0 : Int32)
def fR_partLine (F G : Nat) (S : St) : Option (St) :=
  if (S.1 2 4) = (2 : Int32) then gd (isSc S.2.2.2) (bd (fS_partNamed F G S S.2.2.2 (S.2.1 2 6)) fun v4 => if v4 = (-1 : Int32) then j_R_partLine_34 F G  S  else j_R_partLine_35 F G  S (1 : Int32)) else j_R_partLine_34 F G  S 
set_option maxRecDepth 100000 in
set_option maxHeartbeats 4000000 in
theorem c_R_partLine {X : Nat × (Nat → Int32)} {D F G : Nat} (hD : 8 ≤ D) {S : St} {res : St} (h : fR_partLine F G S  = some res) : Ek X (D) mR_partLine 0 [(0, .ref 1)] [] S none res := by
  obtain ⟨D, rfl⟩ : ∃ E, D = E + 1 := ⟨D - 1, by omega⟩
  unfold fR_partLine at h
  have J80 : ∀ (S : St) (y1 : Int64) (y3 : Int32) (res : St), j_R_partLine_80 F G S y1 y3 = some res → Ek X (D + 1) mR_partLine 80 [(0, .ref 1), (1, .long y1), (3, .int y3)] [] S none res := by
    intro S y1 y3 res h
    unfold j_R_partLine_80 at h
    refine x_aload_n d_R_partLine_80 rfl 0 rfl ?_
    refine y_getI d_R_partLine_81 fl_1_29 rfl kd_1 ?_
    refine x_if_ne (tgt := 96) d_R_partLine_84 rfl (fun c19 => ?_) (fun c19 => ?_)
    · replace h := ite_f c19 h
      obtain rfl := Option.some.inj h
      exact x_ret (r := none) d_R_partLine_96 rfl
    · replace h := ite_t c19 h
      refine x_aload_n d_R_partLine_87 rfl 0 rfl ?_
      refine y_getR d_R_partLine_88 fl_1_25 rfl kd_1 rr_draft ?_
      obtain ⟨g20, h⟩ := gd_inv h
      refine x_lload_n d_R_partLine_91 rfl 1 rfl ?_
      refine x_iload_n d_R_partLine_92 rfl 2 rfl ?_
      obtain ⟨S22, q21, h⟩ := bd_inv h
      refine y_V2v (S1 := S22) d_R_partLine_93 ml_1_113 (ksSc g20) rfl (Nat.le_of_ble_eq_true rfl) (Nat.le_of_ble_eq_true rfl) (c_S_addPart (by omega) q21) ?_
      obtain rfl := Option.some.inj h
      exact x_ret (r := none) d_R_partLine_96 rfl
  have J35 : ∀ (S : St) (s1 : Int32) (res : St), j_R_partLine_35 F G S s1 = some res → Ek X (D + 1) mR_partLine 35 [(0, .ref 1)] [.int s1, .ref 1] S none res := by
    intro S s1 res h
    unfold j_R_partLine_35 at h
    obtain ⟨v7, S8, q6, h⟩ := bd2_inv h
    refine y_V1l (v := v7) (S1 := S8) d_R_partLine_35 ml_1_106 kd_1 rfl (Nat.le_of_ble_eq_true rfl) (Nat.le_of_ble_eq_true rfl) (c_R_newName (by omega) q6) ?_
    refine x_lstore_n (L1 := [(0, .ref 1), (1, .long v7)]) d_R_partLine_38 rfl (Nat.le_of_ble_eq_true rfl) rfl rfl ?_
    refine x_iconst d_R_partLine_39 ic_0 ?_
    refine x_istore_n (L1 := [(0, .ref 1), (1, .long v7), (3, .int (0 : Int32))]) d_R_partLine_40 rfl (Nat.le_of_ble_eq_true rfl) rfl rfl ?_
    refine x_aload_n d_R_partLine_41 rfl 0 rfl ?_
    refine x_bipush d_R_partLine_42 bp_8 ?_
    obtain ⟨v10, q9, h⟩ := bd_inv h
    refine y_V1i (v := v10) (S1 := S8) d_R_partLine_44 ml_1_110 kd_1 rfl (Nat.le_of_ble_eq_true rfl) (Nat.le_of_ble_eq_true rfl) (c_R_isWord (by omega) q9) ?_
    refine x_if_eq (tgt := 62) d_R_partLine_47 rfl (fun c11 => ?_) (fun c11 => ?_)
    · replace h := ite_t c11 h
      refine x_aload_n d_R_partLine_62 rfl 0 rfl ?_
      refine x_bipush d_R_partLine_63 bp_9 ?_
      obtain ⟨v13, q12, h⟩ := bd_inv h
      refine y_V1i (v := v13) (S1 := S8) d_R_partLine_65 ml_1_110 kd_1 rfl (Nat.le_of_ble_eq_true rfl) (Nat.le_of_ble_eq_true rfl) (c_R_isWord (by omega) q12) ?_
      refine x_if_eq (tgt := 80) d_R_partLine_68 rfl (fun c14 => ?_) (fun c14 => ?_)
      · replace h := ite_t c14 h
        exact J80 S8 v7 (0 : Int32) _ h
      · replace h := ite_f c14 h
        refine x_iconst d_R_partLine_71 ic_1 ?_
        refine x_istore_n (L1 := [(0, .ref 1), (1, .long v7), (3, .int (1 : Int32))]) d_R_partLine_72 rfl (Nat.le_of_ble_eq_true rfl) rfl rfl ?_
        refine x_aload_n d_R_partLine_73 rfl 0 rfl ?_
        refine y_getR d_R_partLine_74 fl_1_18 rfl kd_1 rr_1_2 ?_
        obtain ⟨S16, q15, h⟩ := bd_inv h
        refine y_V0v (S1 := S16) d_R_partLine_77 ml_1_55 kd_2 rfl (Nat.le_of_ble_eq_true rfl) (Nat.le_of_ble_eq_true rfl) (c_T_step (by omega) q15) ?_
        exact J80 S16 v7 (1 : Int32) _ h
    · replace h := ite_f c11 h
      refine x_iconst d_R_partLine_50 ic_2 ?_
      refine x_istore_n (L1 := [(0, .ref 1), (1, .long v7), (3, .int (2 : Int32))]) d_R_partLine_51 rfl (Nat.le_of_ble_eq_true rfl) rfl rfl ?_
      refine x_aload_n d_R_partLine_52 rfl 0 rfl ?_
      refine y_getR d_R_partLine_53 fl_1_18 rfl kd_1 rr_1_2 ?_
      obtain ⟨S18, q17, h⟩ := bd_inv h
      refine y_V0v (S1 := S18) d_R_partLine_56 ml_1_55 kd_2 rfl (Nat.le_of_ble_eq_true rfl) (Nat.le_of_ble_eq_true rfl) (c_T_step (by omega) q17) ?_
      refine x_goto (tgt := 80) d_R_partLine_59 rfl ?_
      exact J80 S18 v7 (2 : Int32) _ h
  have J34 : ∀ (S : St) (res : St), j_R_partLine_34 F G S  = some res → Ek X (D + 1) mR_partLine 34 [(0, .ref 1)] [.ref 1] S none res := by
    intro S  res h
    unfold j_R_partLine_34 at h
    refine x_iconst d_R_partLine_34 ic_0 ?_
    exact J35 S (0 : Int32) _ h
  refine x_aload_n d_R_partLine_0 rfl 0 rfl ?_
  refine x_aload_n d_R_partLine_1 rfl 0 rfl ?_
  refine y_getR d_R_partLine_2 fl_1_18 rfl kd_1 rr_1_2 ?_
  refine y_getI d_R_partLine_5 fl_1_41 rfl kd_2 ?_
  refine x_iconst d_R_partLine_8 ic_2 ?_
  refine x_icmp_ne (tgt := 34) d_R_partLine_9 rfl (fun c1 => ?_) (fun c1 => ?_)
  · replace h := ite_f c1 h
    exact J34 S  _ h
  · replace h := ite_t c1 h
    refine x_aload_n d_R_partLine_12 rfl 0 rfl ?_
    refine y_getR d_R_partLine_13 fl_1_25 rfl kd_1 rr_draft ?_
    obtain ⟨g2, h⟩ := gd_inv h
    refine x_aload_n d_R_partLine_16 rfl 0 rfl ?_
    refine y_getR d_R_partLine_17 fl_1_18 rfl kd_1 rr_1_2 ?_
    refine y_getL d_R_partLine_20 fl_1_98 rfl kd_2 ?_
    obtain ⟨v4, q3, h⟩ := bd_inv h
    refine y_V1i (v := v4) (S1 := S) d_R_partLine_23 ml_1_102 (ksSc g2) rfl (Nat.le_of_ble_eq_true rfl) (Nat.le_of_ble_eq_true rfl) (c_S_partNamed (by omega) q3) ?_
    refine x_iconst d_R_partLine_26 ic_m1 ?_
    refine x_icmp_eq (tgt := 34) d_R_partLine_27 rfl (fun c5 => ?_) (fun c5 => ?_)
    · replace h := ite_t c5 h
      exact J34 S  _ h
    · replace h := ite_f c5 h
      refine x_iconst d_R_partLine_30 ic_1 ?_
      refine x_goto (tgt := 35) d_R_partLine_31 rfl ?_
      exact J35 S (1 : Int32) _ h
/-! NinetyPlayers$Score.hasNoteNamed -/
def b_S_hasNoteNamed_2 (F G : Nat) (S : St) (z0 : Nat) (z1 : Int64) (rec : Int32 → Option (Int32)) (w3 : Int32) : Option (Int32) :=
  if (S.1 z0 6) ≤ w3 then some (0 : Int32) else gd (inB w3 10) (if (lg_cmp (S.2.1 (z0 + 3) w3.toNatClampNeg) z1) = 0 then some (1 : Int32) else lt (w3 + 1) fun v4 => rec v4)
def fS_hasNoteNamed (F G : Nat) (S : St) (o : Nat) (p1 : Int64) : Option (Int32) :=
  gd (isSc o) (fx1 (b_S_hasNoteNamed_2 F G S o p1) F (0 : Int32))
set_option maxRecDepth 100000 in
set_option maxHeartbeats 4000000 in
theorem T_S_hasNoteNamed_2 {X : Nat × (Nat → Int32)} {D F G : Nat} (hD : 0 ≤ D) {S : St} {z0 : Nat} {z1 : Int64} (hz0 : isSc z0 = true) : ∀ (f : Nat) (w3 : Int32) (res : Int32), fx1 (b_S_hasNoteNamed_2 F G S z0 z1 ) f w3 = some res → Ek X (D) mS_hasNoteNamed 2 [(0, .ref z0), (1, .long z1), (3, .int w3)] [] S (some (.int res)) S := by
  refine fx1_ind ?_
  intro rec ih w3 res h
  unfold b_S_hasNoteNamed_2 at h
  refine x_iload_n d_S_hasNoteNamed_2 rfl 2 rfl ?_
  refine x_aload_n d_S_hasNoteNamed_3 rfl 0 rfl ?_
  refine y_getI d_S_hasNoteNamed_4 fl_2_66 rfl (ksSc hz0) ?_
  refine x_icmp_ge (tgt := 29) d_S_hasNoteNamed_7 rfl (fun c1 => ?_) (fun c1 => ?_)
  · replace h := ite_t c1 h
    refine x_iconst d_S_hasNoteNamed_29 ic_0 ?_
    obtain rfl := Option.some.inj h
    exact x_ret (r := some (.int (0 : Int32))) d_S_hasNoteNamed_30 ⟨_, rfl, rfl⟩
  · replace h := ite_f c1 h
    refine x_aload_n d_S_hasNoteNamed_10 rfl 0 rfl ?_
    refine y_getR d_S_hasNoteNamed_11 fl_2_19 rfl (ksSc hz0) (rrSc_9 hz0) ?_
    refine x_iload_n d_S_hasNoteNamed_14 rfl 2 rfl ?_
    obtain ⟨g2, h⟩ := gd_inv h
    refine y_lald d_S_hasNoteNamed_15 (ksSc_3 hz0) g2 ?_
    refine x_lload_n d_S_hasNoteNamed_16 rfl 1 rfl ?_
    refine x_lcmp d_S_hasNoteNamed_17 ?_
    refine x_if_ne (tgt := 23) d_S_hasNoteNamed_18 rfl (fun c3 => ?_) (fun c3 => ?_)
    · replace h := ite_f c3 h
      obtain ⟨v4, e5, h⟩ := lt_inv h
      refine y_iinc (L1 := [(0, .ref z0), (1, .long z1), (3, .int v4)]) e5 ic_1 d_S_hasNoteNamed_23 2 rfl (Nat.le_of_ble_eq_true rfl) rfl rfl ?_
      refine x_goto (tgt := 2) d_S_hasNoteNamed_26 rfl ?_
      exact ih v4 _ h
    · replace h := ite_t c3 h
      refine x_iconst d_S_hasNoteNamed_21 ic_1 ?_
      obtain rfl := Option.some.inj h
      exact x_ret (r := some (.int (1 : Int32))) d_S_hasNoteNamed_22 ⟨_, rfl, rfl⟩
set_option maxRecDepth 100000 in
set_option maxHeartbeats 4000000 in
theorem c_S_hasNoteNamed {X : Nat × (Nat → Int32)} {D F G : Nat} (hD : 0 ≤ D) {S : St} {o : Nat} {p1 : Int64} {res : Int32} (h : fS_hasNoteNamed F G S o p1 = some res) : Ek X (D) mS_hasNoteNamed 0 [(0, .ref o), (1, .long p1)] [] S (some (.int res)) S := by
  unfold fS_hasNoteNamed at h
  obtain ⟨gg0, h⟩ := gd_inv h
  refine x_iconst d_S_hasNoteNamed_0 ic_0 ?_
  refine x_istore_n (L1 := [(0, .ref o), (1, .long p1), (3, .int (0 : Int32))]) d_S_hasNoteNamed_1 rfl (Nat.le_of_ble_eq_true rfl) rfl rfl ?_
  refine T_S_hasNoteNamed_2 (by omega) gg0  F (0 : Int32) _ h
/-! NinetyPlayers$Reader.takeWord -/
def fR_takeWord (F G : Nat) (S : St) (p1 : Int32) : Option (St) :=
  bd (fR_isWord F G S p1) fun v2 => if v2 = 0 then bd (fR_refuse F G S (2 : Int32)) fun S5 => some S5 else bd (fT_step F G S ) fun S7 => some S7
set_option maxRecDepth 100000 in
set_option maxHeartbeats 4000000 in
theorem c_R_takeWord {X : Nat × (Nat → Int32)} {D F G : Nat} (hD : 7 ≤ D) {S : St} {p1 : Int32} {res : St} (h : fR_takeWord F G S p1 = some res) : Ek X (D) mR_takeWord 0 [(0, .ref 1), (1, .int p1)] [] S none res := by
  obtain ⟨D, rfl⟩ : ∃ E, D = E + 1 := ⟨D - 1, by omega⟩
  unfold fR_takeWord at h
  refine x_aload_n d_R_takeWord_0 rfl 0 rfl ?_
  refine x_iload_n d_R_takeWord_1 rfl 1 rfl ?_
  obtain ⟨v2, q1, h⟩ := bd_inv h
  refine y_V1i (v := v2) (S1 := S) d_R_takeWord_2 ml_1_110 kd_1 rfl (Nat.le_of_ble_eq_true rfl) (Nat.le_of_ble_eq_true rfl) (c_R_isWord (by omega) q1) ?_
  refine x_if_eq (tgt := 18) d_R_takeWord_5 rfl (fun c3 => ?_) (fun c3 => ?_)
  · replace h := ite_t c3 h
    refine x_aload_n d_R_takeWord_18 rfl 0 rfl ?_
    refine x_iconst d_R_takeWord_19 ic_2 ?_
    obtain ⟨S5, q4, h⟩ := bd_inv h
    refine y_V1v (S1 := S5) d_R_takeWord_20 ml_1_51 kd_1 rfl (Nat.le_of_ble_eq_true rfl) (Nat.le_of_ble_eq_true rfl) (c_R_refuse (by omega) q4) ?_
    obtain rfl := Option.some.inj h
    exact x_ret (r := none) d_R_takeWord_23 rfl
  · replace h := ite_f c3 h
    refine x_aload_n d_R_takeWord_8 rfl 0 rfl ?_
    refine y_getR d_R_takeWord_9 fl_1_18 rfl kd_1 rr_1_2 ?_
    obtain ⟨S7, q6, h⟩ := bd_inv h
    refine y_V0v (S1 := S7) d_R_takeWord_12 ml_1_55 kd_2 rfl (Nat.le_of_ble_eq_true rfl) (Nat.le_of_ble_eq_true rfl) (c_T_step (by omega) q6) ?_
    refine x_goto (tgt := 23) d_R_takeWord_15 rfl ?_
    obtain rfl := Option.some.inj h
    exact x_ret (r := none) d_R_takeWord_23 rfl
/-! NinetyPlayers$Reader.knownPart -/
def j_R_knownPart_62 (F G : Nat) (S : St) (y1 : Int32) : Option (Int32 × St) :=
  if (S.1 1 0) = 0 then bd (fT_step F G S ) fun S12 => some (y1, S12) else some (y1, S)
def j_R_knownPart_59 (F G : Nat) (S : St) (y1 : Int32) (s1 : Int32) : Option (Int32 × St) :=
  bd (fR_refuse F G S s1) fun S9 => j_R_knownPart_62 F G  S9 y1
def j_R_knownPart_29 (F G : Nat) (S : St) (s0 : Int32) : Option (Int32 × St) :=
  if (S.1 1 0) = 0 then if s0 = (-1 : Int32) then if (S.1 2 4) = (2 : Int32) then j_R_knownPart_59 F G  S s0 (5 : Int32) else j_R_knownPart_59 F G  S s0 (2 : Int32) else j_R_knownPart_62 F G  S s0 else j_R_knownPart_62 F G  S s0
def fR_knownPart (F G : Nat) (S : St) : Option (Int32 × St) :=
  if (S.1 2 4) = (2 : Int32) then gd (isSc S.2.2.2) (bd (fS_partNamed F G S S.2.2.2 (S.2.1 2 6)) fun v4 => j_R_knownPart_29 F G  S v4) else j_R_knownPart_29 F G  S (-1 : Int32)
set_option maxRecDepth 100000 in
set_option maxHeartbeats 4000000 in
theorem c_R_knownPart {X : Nat × (Nat → Int32)} {D F G : Nat} (hD : 7 ≤ D) {S : St} {res : Int32 × St} (h : fR_knownPart F G S  = some res) : Ek X (D) mR_knownPart 0 [(0, .ref 1)] [] S (some (.int res.1)) res.2 := by
  obtain ⟨D, rfl⟩ : ∃ E, D = E + 1 := ⟨D - 1, by omega⟩
  unfold fR_knownPart at h
  have J62 : ∀ (S : St) (y1 : Int32) (res : Int32 × St), j_R_knownPart_62 F G S y1 = some res → Ek X (D + 1) mR_knownPart 62 [(0, .ref 1), (1, .int y1)] [] S (some (.int res.1)) res.2 := by
    intro S y1 res h
    unfold j_R_knownPart_62 at h
    refine x_aload_n d_R_knownPart_62 rfl 0 rfl ?_
    refine y_getI d_R_knownPart_63 fl_1_29 rfl kd_1 ?_
    refine x_if_ne (tgt := 76) d_R_knownPart_66 rfl (fun c10 => ?_) (fun c10 => ?_)
    · replace h := ite_f c10 h
      refine x_iload_n d_R_knownPart_76 rfl 1 rfl ?_
      obtain rfl := Option.some.inj h
      exact x_ret (r := some (.int y1)) d_R_knownPart_77 ⟨_, rfl, rfl⟩
    · replace h := ite_t c10 h
      refine x_aload_n d_R_knownPart_69 rfl 0 rfl ?_
      refine y_getR d_R_knownPart_70 fl_1_18 rfl kd_1 rr_1_2 ?_
      obtain ⟨S12, q11, h⟩ := bd_inv h
      refine y_V0v (S1 := S12) d_R_knownPart_73 ml_1_55 kd_2 rfl (Nat.le_of_ble_eq_true rfl) (Nat.le_of_ble_eq_true rfl) (c_T_step (by omega) q11) ?_
      refine x_iload_n d_R_knownPart_76 rfl 1 rfl ?_
      obtain rfl := Option.some.inj h
      exact x_ret (r := some (.int y1)) d_R_knownPart_77 ⟨_, rfl, rfl⟩
  have J59 : ∀ (S : St) (y1 : Int32) (s1 : Int32) (res : Int32 × St), j_R_knownPart_59 F G S y1 s1 = some res → Ek X (D + 1) mR_knownPart 59 [(0, .ref 1), (1, .int y1)] [.int s1, .ref 1] S (some (.int res.1)) res.2 := by
    intro S y1 s1 res h
    unfold j_R_knownPart_59 at h
    obtain ⟨S9, q8, h⟩ := bd_inv h
    refine y_V1v (S1 := S9) d_R_knownPart_59 ml_1_51 kd_1 rfl (Nat.le_of_ble_eq_true rfl) (Nat.le_of_ble_eq_true rfl) (c_R_refuse (by omega) q8) ?_
    exact J62 S9 y1 _ h
  have J29 : ∀ (S : St) (s0 : Int32) (res : Int32 × St), j_R_knownPart_29 F G S s0 = some res → Ek X (D + 1) mR_knownPart 29 [(0, .ref 1)] [.int s0] S (some (.int res.1)) res.2 := by
    intro S s0 res h
    unfold j_R_knownPart_29 at h
    refine x_istore_n (L1 := [(0, .ref 1), (1, .int s0)]) d_R_knownPart_29 rfl (Nat.le_of_ble_eq_true rfl) rfl rfl ?_
    refine x_aload_n d_R_knownPart_30 rfl 0 rfl ?_
    refine y_getI d_R_knownPart_31 fl_1_29 rfl kd_1 ?_
    refine x_if_ne (tgt := 62) d_R_knownPart_34 rfl (fun c5 => ?_) (fun c5 => ?_)
    · replace h := ite_f c5 h
      exact J62 S s0 _ h
    · replace h := ite_t c5 h
      refine x_iload_n d_R_knownPart_37 rfl 1 rfl ?_
      refine x_iconst d_R_knownPart_38 ic_m1 ?_
      refine x_icmp_ne (tgt := 62) d_R_knownPart_39 rfl (fun c6 => ?_) (fun c6 => ?_)
      · replace h := ite_f c6 h
        exact J62 S s0 _ h
      · replace h := ite_t c6 h
        refine x_aload_n d_R_knownPart_42 rfl 0 rfl ?_
        refine x_aload_n d_R_knownPart_43 rfl 0 rfl ?_
        refine y_getR d_R_knownPart_44 fl_1_18 rfl kd_1 rr_1_2 ?_
        refine y_getI d_R_knownPart_47 fl_1_41 rfl kd_2 ?_
        refine x_iconst d_R_knownPart_50 ic_2 ?_
        refine x_icmp_ne (tgt := 58) d_R_knownPart_51 rfl (fun c7 => ?_) (fun c7 => ?_)
        · replace h := ite_f c7 h
          refine x_iconst d_R_knownPart_58 ic_2 ?_
          exact J59 S s0 (2 : Int32) _ h
        · replace h := ite_t c7 h
          refine x_iconst d_R_knownPart_54 ic_5 ?_
          refine x_goto (tgt := 59) d_R_knownPart_55 rfl ?_
          exact J59 S s0 (5 : Int32) _ h
  refine x_aload_n d_R_knownPart_0 rfl 0 rfl ?_
  refine y_getR d_R_knownPart_1 fl_1_18 rfl kd_1 rr_1_2 ?_
  refine y_getI d_R_knownPart_4 fl_1_41 rfl kd_2 ?_
  refine x_iconst d_R_knownPart_7 ic_2 ?_
  refine x_icmp_ne (tgt := 28) d_R_knownPart_8 rfl (fun c1 => ?_) (fun c1 => ?_)
  · replace h := ite_f c1 h
    refine x_iconst d_R_knownPart_28 ic_m1 ?_
    exact J29 S (-1 : Int32) _ h
  · replace h := ite_t c1 h
    refine x_aload_n d_R_knownPart_11 rfl 0 rfl ?_
    refine y_getR d_R_knownPart_12 fl_1_25 rfl kd_1 rr_draft ?_
    obtain ⟨g2, h⟩ := gd_inv h
    refine x_aload_n d_R_knownPart_15 rfl 0 rfl ?_
    refine y_getR d_R_knownPart_16 fl_1_18 rfl kd_1 rr_1_2 ?_
    refine y_getL d_R_knownPart_19 fl_1_98 rfl kd_2 ?_
    obtain ⟨v4, q3, h⟩ := bd_inv h
    refine y_V1i (v := v4) (S1 := S) d_R_knownPart_22 ml_1_102 (ksSc g2) rfl (Nat.le_of_ble_eq_true rfl) (Nat.le_of_ble_eq_true rfl) (c_S_partNamed (by omega) q3) ?_
    refine x_goto (tgt := 29) d_R_knownPart_25 rfl ?_
    exact J29 S v4 _ h
/-! NinetyPlayers$Score.addNote -/
def fS_addNote (F G : Nat) (S : St) (o : Nat) (p1 : Int64) (p2 : Int32) (p3 : Int32) (p4 : Int32) (p5 : Int32) (p6 : Int32) : Option (St) :=
  gd (isSc o) (if (10 : Int32) ≤ (S.1 o 6) then some S else gd (inB (S.1 o 6) 10) (lt (sL S (o + 3) (S.1 o 6).toNatClampNeg p1) fun S3 => gd (inB (S3.1 o 6) 10) (lt (sI S3 (o + 4) (S3.1 o 6).toNatClampNeg p2) fun S6 => gd (inB (S6.1 o 6) 10) (lt (sI S6 (o + 5) (S6.1 o 6).toNatClampNeg p3) fun S9 => gd (inB (S9.1 o 6) 10) (lt (sI S9 (o + 6) (S9.1 o 6).toNatClampNeg p4) fun S12 => gd (inB (S12.1 o 6) 10) (lt (sI S12 (o + 7) (S12.1 o 6).toNatClampNeg p5) fun S15 => gd (inB (S15.1 o 6) 10) (lt (sI S15 (o + 8) (S15.1 o 6).toNatClampNeg p6) fun S18 => lt (sI S18 o 6 ((S18.1 o 6) + (1 : Int32))) fun S20 => some S20)))))))
set_option maxRecDepth 100000 in
set_option maxHeartbeats 4000000 in
theorem c_S_addNote {X : Nat × (Nat → Int32)} {D F G : Nat} (hD : 0 ≤ D) {S : St} {o : Nat} {p1 : Int64} {p2 : Int32} {p3 : Int32} {p4 : Int32} {p5 : Int32} {p6 : Int32} {res : St} (h : fS_addNote F G S o p1 p2 p3 p4 p5 p6 = some res) : Ek X (D) mS_addNote 0 [(0, .ref o), (1, .long p1), (3, .int p2), (4, .int p3), (5, .int p4), (6, .int p5), (7, .int p6)] [] S none res := by
  unfold fS_addNote at h
  obtain ⟨gg0, h⟩ := gd_inv h
  refine x_aload_n d_S_addNote_0 rfl 0 rfl ?_
  refine y_getI d_S_addNote_1 fl_2_66 rfl (ksSc gg0) ?_
  refine x_bipush d_S_addNote_4 bp_10 ?_
  refine x_icmp_ge (tgt := 83) d_S_addNote_6 rfl (fun c1 => ?_) (fun c1 => ?_)
  · replace h := ite_t c1 h
    obtain rfl := Option.some.inj h
    exact x_ret (r := none) d_S_addNote_83 rfl
  · replace h := ite_f c1 h
    refine x_aload_n d_S_addNote_9 rfl 0 rfl ?_
    refine y_getR d_S_addNote_10 fl_2_19 rfl (ksSc gg0) (rrSc_9 gg0) ?_
    refine x_aload_n d_S_addNote_13 rfl 0 rfl ?_
    refine y_getI d_S_addNote_14 fl_2_66 rfl (ksSc gg0) ?_
    refine x_lload_n d_S_addNote_17 rfl 1 rfl ?_
    obtain ⟨g2, h⟩ := gd_inv h
    obtain ⟨S3, e4, h⟩ := lt_inv h
    refine y_last e4 d_S_addNote_18 (ksSc_3 gg0) g2 ?_
    refine x_aload_n d_S_addNote_19 rfl 0 rfl ?_
    refine y_getR d_S_addNote_20 fl_2_22 rfl (ksSc gg0) (rrSc_10 gg0) ?_
    refine x_aload_n d_S_addNote_23 rfl 0 rfl ?_
    refine y_getI d_S_addNote_24 fl_2_66 rfl (ksSc gg0) ?_
    refine x_iload_n d_S_addNote_27 rfl 2 rfl ?_
    obtain ⟨g5, h⟩ := gd_inv h
    obtain ⟨S6, e7, h⟩ := lt_inv h
    refine y_iast e7 d_S_addNote_28 (ksSc_4 gg0) g5 ?_
    refine x_aload_n d_S_addNote_29 rfl 0 rfl ?_
    refine y_getR d_S_addNote_30 fl_2_25 rfl (ksSc gg0) (rrSc_11 gg0) ?_
    refine x_aload_n d_S_addNote_33 rfl 0 rfl ?_
    refine y_getI d_S_addNote_34 fl_2_66 rfl (ksSc gg0) ?_
    refine x_iload d_S_addNote_37 3 rfl ?_
    obtain ⟨g8, h⟩ := gd_inv h
    obtain ⟨S9, e10, h⟩ := lt_inv h
    refine y_iast e10 d_S_addNote_39 (ksSc_5 gg0) g8 ?_
    refine x_aload_n d_S_addNote_40 rfl 0 rfl ?_
    refine y_getR d_S_addNote_41 fl_2_28 rfl (ksSc gg0) (rrSc_12 gg0) ?_
    refine x_aload_n d_S_addNote_44 rfl 0 rfl ?_
    refine y_getI d_S_addNote_45 fl_2_66 rfl (ksSc gg0) ?_
    refine x_iload d_S_addNote_48 4 rfl ?_
    obtain ⟨g11, h⟩ := gd_inv h
    obtain ⟨S12, e13, h⟩ := lt_inv h
    refine y_iast e13 d_S_addNote_50 (ksSc_6 gg0) g11 ?_
    refine x_aload_n d_S_addNote_51 rfl 0 rfl ?_
    refine y_getR d_S_addNote_52 fl_2_31 rfl (ksSc gg0) (rrSc_13 gg0) ?_
    refine x_aload_n d_S_addNote_55 rfl 0 rfl ?_
    refine y_getI d_S_addNote_56 fl_2_66 rfl (ksSc gg0) ?_
    refine x_iload d_S_addNote_59 5 rfl ?_
    obtain ⟨g14, h⟩ := gd_inv h
    obtain ⟨S15, e16, h⟩ := lt_inv h
    refine y_iast e16 d_S_addNote_61 (ksSc_7 gg0) g14 ?_
    refine x_aload_n d_S_addNote_62 rfl 0 rfl ?_
    refine y_getR d_S_addNote_63 fl_2_34 rfl (ksSc gg0) (rrSc_14 gg0) ?_
    refine x_aload_n d_S_addNote_66 rfl 0 rfl ?_
    refine y_getI d_S_addNote_67 fl_2_66 rfl (ksSc gg0) ?_
    refine x_iload d_S_addNote_70 6 rfl ?_
    obtain ⟨g17, h⟩ := gd_inv h
    obtain ⟨S18, e19, h⟩ := lt_inv h
    refine y_iast e19 d_S_addNote_72 (ksSc_8 gg0) g17 ?_
    refine x_aload_n d_S_addNote_73 rfl 0 rfl ?_
    refine x_dup d_S_addNote_74 rfl ?_
    refine y_getI d_S_addNote_75 fl_2_66 rfl (ksSc gg0) ?_
    refine x_iconst d_S_addNote_78 ic_1 ?_
    refine x_iadd d_S_addNote_79 ?_
    obtain ⟨S20, e21, h⟩ := lt_inv h
    refine y_putI e21 d_S_addNote_80 fl_2_66 rfl rfl (ksSc gg0) rfl rfl ?_
    obtain rfl := Option.some.inj h
    exact x_ret (r := none) d_S_addNote_83 rfl
/-! NinetyPlayers$Reader.noteLine -/
def j_R_noteLine_129 (F G : Nat) (S : St) (y1 : Int64) (y3 : Int32) (y4 : Int32) (y5 : Int32) (y6 : Int32) (y7 : Int32) : Option (St) :=
  if (S.1 1 0) = 0 then gd (isSc S.2.2.2) (bd (fS_addNote F G S S.2.2.2 y1 y3 y4 y5 y6 y7) fun S41 => some S41) else some S
def j_R_noteLine_34 (F G : Nat) (S : St) (s1 : Int32) : Option (St) :=
  bd2 (fR_newName F G S s1) fun v7 S8 => bd (fR_takeWord F G S8 (10 : Int32)) fun S10 => bd2 (fR_knownPart F G S10) fun v12 S13 => bd (fR_takeWord F G S13 (11 : Int32)) fun S15 => gd (isSc S15.2.2.2) (bd2 (fR_number F G S15 (0 : Int32) ((S15.1 S15.2.2.2 0) - (1 : Int32))) fun v18 S19 => bd (fR_takeWord F G S19 (16 : Int32)) fun S21 => bd2 (fR_number F G S21 (0 : Int32) (87 : Int32)) fun v23 S24 => bd (fR_takeWord F G S24 (17 : Int32)) fun S26 => bd2 (fR_number F G S26 (1 : Int32) (12 : Int32)) fun v28 S29 => bd (fR_isWord F G S29 (18 : Int32)) fun v31 => if v31 = 0 then j_R_noteLine_129 F G  S29 v7 v12 v18 v23 v28 (5 : Int32) else bd (fT_step F G S29 ) fun S34 => bd2 (fR_number F G S34 (1 : Int32) (9 : Int32)) fun v36 S37 => j_R_noteLine_129 F G  S37 v7 v12 v18 v23 v28 v36)
def j_R_noteLine_33 (F G : Nat) (S : St) : Option (St) :=
  j_R_noteLine_34 F G  S (0 : Int32)
def fR_noteLine (F G : Nat) (S : St) : Option (St) :=
  if (S.1 2 4) = (2 : Int32) then gd (isSc S.2.2.2) (bd (fS_hasNoteNamed F G S S.2.2.2 (S.2.1 2 6)) fun v4 => if v4 = 0 then j_R_noteLine_33 F G  S  else j_R_noteLine_34 F G  S (1 : Int32)) else j_R_noteLine_33 F G  S 
set_option maxRecDepth 100000 in
set_option maxHeartbeats 4000000 in
theorem c_R_noteLine {X : Nat × (Nat → Int32)} {D F G : Nat} (hD : 8 ≤ D) {S : St} {res : St} (h : fR_noteLine F G S  = some res) : Ek X (D) mR_noteLine 0 [(0, .ref 1)] [] S none res := by
  obtain ⟨D, rfl⟩ : ∃ E, D = E + 1 := ⟨D - 1, by omega⟩
  unfold fR_noteLine at h
  have J129 : ∀ (S : St) (y1 : Int64) (y3 : Int32) (y4 : Int32) (y5 : Int32) (y6 : Int32) (y7 : Int32) (res : St), j_R_noteLine_129 F G S y1 y3 y4 y5 y6 y7 = some res → Ek X (D + 1) mR_noteLine 129 [(0, .ref 1), (1, .long y1), (3, .int y3), (4, .int y4), (5, .int y5), (6, .int y6), (7, .int y7)] [] S none res := by
    intro S y1 y3 y4 y5 y6 y7 res h
    unfold j_R_noteLine_129 at h
    refine x_aload_n d_R_noteLine_129 rfl 0 rfl ?_
    refine y_getI d_R_noteLine_130 fl_1_29 rfl kd_1 ?_
    refine x_if_ne (tgt := 153) d_R_noteLine_133 rfl (fun c38 => ?_) (fun c38 => ?_)
    · replace h := ite_f c38 h
      obtain rfl := Option.some.inj h
      exact x_ret (r := none) d_R_noteLine_153 rfl
    · replace h := ite_t c38 h
      refine x_aload_n d_R_noteLine_136 rfl 0 rfl ?_
      refine y_getR d_R_noteLine_137 fl_1_25 rfl kd_1 rr_draft ?_
      obtain ⟨g39, h⟩ := gd_inv h
      refine x_lload_n d_R_noteLine_140 rfl 1 rfl ?_
      refine x_iload_n d_R_noteLine_141 rfl 2 rfl ?_
      refine x_iload d_R_noteLine_142 3 rfl ?_
      refine x_iload d_R_noteLine_144 4 rfl ?_
      refine x_iload d_R_noteLine_146 5 rfl ?_
      refine x_iload d_R_noteLine_148 6 rfl ?_
      obtain ⟨S41, q40, h⟩ := bd_inv h
      refine y_V6v (S1 := S41) d_R_noteLine_150 ml_1_128 (ksSc g39) rfl (Nat.le_of_ble_eq_true rfl) (Nat.le_of_ble_eq_true rfl) (c_S_addNote (by omega) q40) ?_
      obtain rfl := Option.some.inj h
      exact x_ret (r := none) d_R_noteLine_153 rfl
  have J34 : ∀ (S : St) (s1 : Int32) (res : St), j_R_noteLine_34 F G S s1 = some res → Ek X (D + 1) mR_noteLine 34 [(0, .ref 1)] [.int s1, .ref 1] S none res := by
    intro S s1 res h
    unfold j_R_noteLine_34 at h
    obtain ⟨v7, S8, q6, h⟩ := bd2_inv h
    refine y_V1l (v := v7) (S1 := S8) d_R_noteLine_34 ml_1_106 kd_1 rfl (Nat.le_of_ble_eq_true rfl) (Nat.le_of_ble_eq_true rfl) (c_R_newName (by omega) q6) ?_
    refine x_lstore_n (L1 := [(0, .ref 1), (1, .long v7)]) d_R_noteLine_37 rfl (Nat.le_of_ble_eq_true rfl) rfl rfl ?_
    refine x_aload_n d_R_noteLine_38 rfl 0 rfl ?_
    refine x_bipush d_R_noteLine_39 bp_10 ?_
    obtain ⟨S10, q9, h⟩ := bd_inv h
    refine y_V1v (S1 := S10) d_R_noteLine_41 ml_1_121 kd_1 rfl (Nat.le_of_ble_eq_true rfl) (Nat.le_of_ble_eq_true rfl) (c_R_takeWord (by omega) q9) ?_
    refine x_aload_n d_R_noteLine_44 rfl 0 rfl ?_
    obtain ⟨v12, S13, q11, h⟩ := bd2_inv h
    refine y_V0i (v := v12) (S1 := S13) d_R_noteLine_45 ml_1_124 kd_1 rfl (Nat.le_of_ble_eq_true rfl) (Nat.le_of_ble_eq_true rfl) (c_R_knownPart (by omega) q11) ?_
    refine x_istore_n (L1 := [(0, .ref 1), (1, .long v7), (3, .int v12)]) d_R_noteLine_48 rfl (Nat.le_of_ble_eq_true rfl) rfl rfl ?_
    refine x_aload_n d_R_noteLine_49 rfl 0 rfl ?_
    refine x_bipush d_R_noteLine_50 bp_11 ?_
    obtain ⟨S15, q14, h⟩ := bd_inv h
    refine y_V1v (S1 := S15) d_R_noteLine_52 ml_1_121 kd_1 rfl (Nat.le_of_ble_eq_true rfl) (Nat.le_of_ble_eq_true rfl) (c_R_takeWord (by omega) q14) ?_
    refine x_aload_n d_R_noteLine_55 rfl 0 rfl ?_
    refine x_iconst d_R_noteLine_56 ic_0 ?_
    refine x_aload_n d_R_noteLine_57 rfl 0 rfl ?_
    refine y_getR d_R_noteLine_58 fl_1_25 rfl kd_1 rr_draft ?_
    obtain ⟨g16, h⟩ := gd_inv h
    refine y_getI d_R_noteLine_61 fl_1_62 rfl (ksSc g16) ?_
    refine x_iconst d_R_noteLine_64 ic_1 ?_
    refine x_isub d_R_noteLine_65 ?_
    obtain ⟨v18, S19, q17, h⟩ := bd2_inv h
    refine y_V2i (v := v18) (S1 := S19) d_R_noteLine_66 ml_1_58 kd_1 rfl (Nat.le_of_ble_eq_true rfl) (Nat.le_of_ble_eq_true rfl) (c_R_number (by omega) q17) ?_
    refine x_istore (L1 := [(0, .ref 1), (1, .long v7), (3, .int v12), (4, .int v18)]) d_R_noteLine_69 (Nat.le_of_ble_eq_true rfl) rfl rfl ?_
    refine x_aload_n d_R_noteLine_71 rfl 0 rfl ?_
    refine x_bipush d_R_noteLine_72 bp_16 ?_
    obtain ⟨S21, q20, h⟩ := bd_inv h
    refine y_V1v (S1 := S21) d_R_noteLine_74 ml_1_121 kd_1 rfl (Nat.le_of_ble_eq_true rfl) (Nat.le_of_ble_eq_true rfl) (c_R_takeWord (by omega) q20) ?_
    refine x_aload_n d_R_noteLine_77 rfl 0 rfl ?_
    refine x_iconst d_R_noteLine_78 ic_0 ?_
    refine x_bipush d_R_noteLine_79 bp_87 ?_
    obtain ⟨v23, S24, q22, h⟩ := bd2_inv h
    refine y_V2i (v := v23) (S1 := S24) d_R_noteLine_81 ml_1_58 kd_1 rfl (Nat.le_of_ble_eq_true rfl) (Nat.le_of_ble_eq_true rfl) (c_R_number (by omega) q22) ?_
    refine x_istore (L1 := [(0, .ref 1), (1, .long v7), (3, .int v12), (4, .int v18), (5, .int v23)]) d_R_noteLine_84 (Nat.le_of_ble_eq_true rfl) rfl rfl ?_
    refine x_aload_n d_R_noteLine_86 rfl 0 rfl ?_
    refine x_bipush d_R_noteLine_87 bp_17 ?_
    obtain ⟨S26, q25, h⟩ := bd_inv h
    refine y_V1v (S1 := S26) d_R_noteLine_89 ml_1_121 kd_1 rfl (Nat.le_of_ble_eq_true rfl) (Nat.le_of_ble_eq_true rfl) (c_R_takeWord (by omega) q25) ?_
    refine x_aload_n d_R_noteLine_92 rfl 0 rfl ?_
    refine x_iconst d_R_noteLine_93 ic_1 ?_
    refine x_bipush d_R_noteLine_94 bp_12 ?_
    obtain ⟨v28, S29, q27, h⟩ := bd2_inv h
    refine y_V2i (v := v28) (S1 := S29) d_R_noteLine_96 ml_1_58 kd_1 rfl (Nat.le_of_ble_eq_true rfl) (Nat.le_of_ble_eq_true rfl) (c_R_number (by omega) q27) ?_
    refine x_istore (L1 := [(0, .ref 1), (1, .long v7), (3, .int v12), (4, .int v18), (5, .int v23), (6, .int v28)]) d_R_noteLine_99 (Nat.le_of_ble_eq_true rfl) rfl rfl ?_
    refine x_iconst d_R_noteLine_101 ic_5 ?_
    refine x_istore (L1 := [(0, .ref 1), (1, .long v7), (3, .int v12), (4, .int v18), (5, .int v23), (6, .int v28), (7, .int (5 : Int32))]) d_R_noteLine_102 (Nat.le_of_ble_eq_true rfl) rfl rfl ?_
    refine x_aload_n d_R_noteLine_104 rfl 0 rfl ?_
    refine x_bipush d_R_noteLine_105 bp_18 ?_
    obtain ⟨v31, q30, h⟩ := bd_inv h
    refine y_V1i (v := v31) (S1 := S29) d_R_noteLine_107 ml_1_110 kd_1 rfl (Nat.le_of_ble_eq_true rfl) (Nat.le_of_ble_eq_true rfl) (c_R_isWord (by omega) q30) ?_
    refine x_if_eq (tgt := 129) d_R_noteLine_110 rfl (fun c32 => ?_) (fun c32 => ?_)
    · replace h := ite_t c32 h
      exact J129 S29 v7 v12 v18 v23 v28 (5 : Int32) _ h
    · replace h := ite_f c32 h
      refine x_aload_n d_R_noteLine_113 rfl 0 rfl ?_
      refine y_getR d_R_noteLine_114 fl_1_18 rfl kd_1 rr_1_2 ?_
      obtain ⟨S34, q33, h⟩ := bd_inv h
      refine y_V0v (S1 := S34) d_R_noteLine_117 ml_1_55 kd_2 rfl (Nat.le_of_ble_eq_true rfl) (Nat.le_of_ble_eq_true rfl) (c_T_step (by omega) q33) ?_
      refine x_aload_n d_R_noteLine_120 rfl 0 rfl ?_
      refine x_iconst d_R_noteLine_121 ic_1 ?_
      refine x_bipush d_R_noteLine_122 bp_9 ?_
      obtain ⟨v36, S37, q35, h⟩ := bd2_inv h
      refine y_V2i (v := v36) (S1 := S37) d_R_noteLine_124 ml_1_58 kd_1 rfl (Nat.le_of_ble_eq_true rfl) (Nat.le_of_ble_eq_true rfl) (c_R_number (by omega) q35) ?_
      refine x_istore (L1 := [(0, .ref 1), (1, .long v7), (3, .int v12), (4, .int v18), (5, .int v23), (6, .int v28), (7, .int v36)]) d_R_noteLine_127 (Nat.le_of_ble_eq_true rfl) rfl rfl ?_
      exact J129 S37 v7 v12 v18 v23 v28 v36 _ h
  have J33 : ∀ (S : St) (res : St), j_R_noteLine_33 F G S  = some res → Ek X (D + 1) mR_noteLine 33 [(0, .ref 1)] [.ref 1] S none res := by
    intro S  res h
    unfold j_R_noteLine_33 at h
    refine x_iconst d_R_noteLine_33 ic_0 ?_
    exact J34 S (0 : Int32) _ h
  refine x_aload_n d_R_noteLine_0 rfl 0 rfl ?_
  refine x_aload_n d_R_noteLine_1 rfl 0 rfl ?_
  refine y_getR d_R_noteLine_2 fl_1_18 rfl kd_1 rr_1_2 ?_
  refine y_getI d_R_noteLine_5 fl_1_41 rfl kd_2 ?_
  refine x_iconst d_R_noteLine_8 ic_2 ?_
  refine x_icmp_ne (tgt := 33) d_R_noteLine_9 rfl (fun c1 => ?_) (fun c1 => ?_)
  · replace h := ite_f c1 h
    exact J33 S  _ h
  · replace h := ite_t c1 h
    refine x_aload_n d_R_noteLine_12 rfl 0 rfl ?_
    refine y_getR d_R_noteLine_13 fl_1_25 rfl kd_1 rr_draft ?_
    obtain ⟨g2, h⟩ := gd_inv h
    refine x_aload_n d_R_noteLine_16 rfl 0 rfl ?_
    refine y_getR d_R_noteLine_17 fl_1_18 rfl kd_1 rr_1_2 ?_
    refine y_getL d_R_noteLine_20 fl_1_98 rfl kd_2 ?_
    obtain ⟨v4, q3, h⟩ := bd_inv h
    refine y_V1i (v := v4) (S1 := S) d_R_noteLine_23 ml_1_117 (ksSc g2) rfl (Nat.le_of_ble_eq_true rfl) (Nat.le_of_ble_eq_true rfl) (c_S_hasNoteNamed (by omega) q3) ?_
    refine x_if_eq (tgt := 33) d_R_noteLine_26 rfl (fun c5 => ?_) (fun c5 => ?_)
    · replace h := ite_t c5 h
      exact J33 S  _ h
    · replace h := ite_f c5 h
      refine x_iconst d_R_noteLine_29 ic_1 ?_
      refine x_goto (tgt := 34) d_R_noteLine_30 rfl ?_
      exact J34 S (1 : Int32) _ h
/-! NinetyPlayers$Formula.put -/
def fF_put (F G : Nat) (S : St) (o : Nat) (p1 : Int32) : Option (St) :=
  gd (isFo o) (if (270 : Int32) ≤ (S.1 o 1) then some S else gd (inB (S.1 o 1) 270) (lt (sI S (o + 1) (S.1 o 1).toNatClampNeg p1) fun S3 => lt (sI S3 o 1 ((S3.1 o 1) + (1 : Int32))) fun S5 => some S5))
set_option maxRecDepth 100000 in
set_option maxHeartbeats 4000000 in
theorem c_F_put {X : Nat × (Nat → Int32)} {D F G : Nat} (hD : 0 ≤ D) {S : St} {o : Nat} {p1 : Int32} {res : St} (h : fF_put F G S o p1 = some res) : Ek X (D) mF_put 0 [(0, .ref o), (1, .int p1)] [] S none res := by
  unfold fF_put at h
  obtain ⟨gg0, h⟩ := gd_inv h
  refine x_aload_n d_F_put_0 rfl 0 rfl ?_
  refine y_getI d_F_put_1 fl_3_25 rfl (ksFo gg0) ?_
  refine x_sipush d_F_put_4 sp_270 ?_
  refine x_icmp_ge (tgt := 30) d_F_put_7 rfl (fun c1 => ?_) (fun c1 => ?_)
  · replace h := ite_t c1 h
    obtain rfl := Option.some.inj h
    exact x_ret (r := none) d_F_put_30 rfl
  · replace h := ite_f c1 h
    refine x_aload_n d_F_put_10 rfl 0 rfl ?_
    refine y_getR d_F_put_11 fl_3_9 rfl (ksFo gg0) (rrFo_2 gg0) ?_
    refine x_aload_n d_F_put_14 rfl 0 rfl ?_
    refine y_getI d_F_put_15 fl_3_25 rfl (ksFo gg0) ?_
    refine x_iload_n d_F_put_18 rfl 1 rfl ?_
    obtain ⟨g2, h⟩ := gd_inv h
    obtain ⟨S3, e4, h⟩ := lt_inv h
    refine y_iast e4 d_F_put_19 (ksFo_1 gg0) g2 ?_
    refine x_aload_n d_F_put_20 rfl 0 rfl ?_
    refine x_dup d_F_put_21 rfl ?_
    refine y_getI d_F_put_22 fl_3_25 rfl (ksFo gg0) ?_
    refine x_iconst d_F_put_25 ic_1 ?_
    refine x_iadd d_F_put_26 ?_
    obtain ⟨S5, e6, h⟩ := lt_inv h
    refine y_putI e6 d_F_put_27 fl_3_25 rfl rfl (ksFo gg0) rfl rfl ?_
    obtain rfl := Option.some.inj h
    exact x_ret (r := none) d_F_put_30 rfl
/-! NinetyPlayers$Reader.isSign -/
def fR_isSign (F G : Nat) (S : St) (p1 : Int32) : Option (Int32) :=
  if (S.1 1 0) = 0 then if (S.1 2 4) = (4 : Int32) then if (S.1 2 5) = p1 then some (1 : Int32) else some (0 : Int32) else some (0 : Int32) else some (0 : Int32)
set_option maxRecDepth 100000 in
set_option maxHeartbeats 4000000 in
theorem c_R_isSign {X : Nat × (Nat → Int32)} {D F G : Nat} (hD : 0 ≤ D) {S : St} {p1 : Int32} {res : Int32} (h : fR_isSign F G S p1 = some res) : Ek X (D) mR_isSign 0 [(0, .ref 1), (1, .int p1)] [] S (some (.int res)) S := by
  unfold fR_isSign at h
  refine x_aload_n d_R_isSign_0 rfl 0 rfl ?_
  refine y_getI d_R_isSign_1 fl_1_29 rfl kd_1 ?_
  refine x_if_ne (tgt := 33) d_R_isSign_4 rfl (fun c1 => ?_) (fun c1 => ?_)
  · replace h := ite_f c1 h
    refine x_iconst d_R_isSign_33 ic_0 ?_
    obtain rfl := Option.some.inj h
    exact x_ret (r := some (.int (0 : Int32))) d_R_isSign_34 ⟨_, rfl, rfl⟩
  · replace h := ite_t c1 h
    refine x_aload_n d_R_isSign_7 rfl 0 rfl ?_
    refine y_getR d_R_isSign_8 fl_1_18 rfl kd_1 rr_1_2 ?_
    refine y_getI d_R_isSign_11 fl_1_41 rfl kd_2 ?_
    refine x_iconst d_R_isSign_14 ic_4 ?_
    refine x_icmp_ne (tgt := 33) d_R_isSign_15 rfl (fun c2 => ?_) (fun c2 => ?_)
    · replace h := ite_f c2 h
      refine x_iconst d_R_isSign_33 ic_0 ?_
      obtain rfl := Option.some.inj h
      exact x_ret (r := some (.int (0 : Int32))) d_R_isSign_34 ⟨_, rfl, rfl⟩
    · replace h := ite_t c2 h
      refine x_aload_n d_R_isSign_18 rfl 0 rfl ?_
      refine y_getR d_R_isSign_19 fl_1_18 rfl kd_1 rr_1_2 ?_
      refine y_getI d_R_isSign_22 fl_1_44 rfl kd_2 ?_
      refine x_iload_n d_R_isSign_25 rfl 1 rfl ?_
      refine x_icmp_ne (tgt := 33) d_R_isSign_26 rfl (fun c3 => ?_) (fun c3 => ?_)
      · replace h := ite_f c3 h
        refine x_iconst d_R_isSign_33 ic_0 ?_
        obtain rfl := Option.some.inj h
        exact x_ret (r := some (.int (0 : Int32))) d_R_isSign_34 ⟨_, rfl, rfl⟩
      · replace h := ite_t c3 h
        refine x_iconst d_R_isSign_29 ic_1 ?_
        refine x_goto (tgt := 34) d_R_isSign_30 rfl ?_
        obtain rfl := Option.some.inj h
        exact x_ret (r := some (.int (1 : Int32))) d_R_isSign_34 ⟨_, rfl, rfl⟩
/-! NinetyPlayers$Reader.takeSign -/
def fR_takeSign (F G : Nat) (S : St) (p1 : Int32) : Option (St) :=
  bd (fR_isSign F G S p1) fun v2 => if v2 = 0 then bd (fR_refuse F G S (2 : Int32)) fun S5 => some S5 else bd (fT_step F G S ) fun S7 => some S7
set_option maxRecDepth 100000 in
set_option maxHeartbeats 4000000 in
theorem c_R_takeSign {X : Nat × (Nat → Int32)} {D F G : Nat} (hD : 7 ≤ D) {S : St} {p1 : Int32} {res : St} (h : fR_takeSign F G S p1 = some res) : Ek X (D) mR_takeSign 0 [(0, .ref 1), (1, .int p1)] [] S none res := by
  obtain ⟨D, rfl⟩ : ∃ E, D = E + 1 := ⟨D - 1, by omega⟩
  unfold fR_takeSign at h
  refine x_aload_n d_R_takeSign_0 rfl 0 rfl ?_
  refine x_iload_n d_R_takeSign_1 rfl 1 rfl ?_
  obtain ⟨v2, q1, h⟩ := bd_inv h
  refine y_V1i (v := v2) (S1 := S) d_R_takeSign_2 ml_1_132 kd_1 rfl (Nat.le_of_ble_eq_true rfl) (Nat.le_of_ble_eq_true rfl) (c_R_isSign (by omega) q1) ?_
  refine x_if_eq (tgt := 18) d_R_takeSign_5 rfl (fun c3 => ?_) (fun c3 => ?_)
  · replace h := ite_t c3 h
    refine x_aload_n d_R_takeSign_18 rfl 0 rfl ?_
    refine x_iconst d_R_takeSign_19 ic_2 ?_
    obtain ⟨S5, q4, h⟩ := bd_inv h
    refine y_V1v (S1 := S5) d_R_takeSign_20 ml_1_51 kd_1 rfl (Nat.le_of_ble_eq_true rfl) (Nat.le_of_ble_eq_true rfl) (c_R_refuse (by omega) q4) ?_
    obtain rfl := Option.some.inj h
    exact x_ret (r := none) d_R_takeSign_23 rfl
  · replace h := ite_f c3 h
    refine x_aload_n d_R_takeSign_8 rfl 0 rfl ?_
    refine y_getR d_R_takeSign_9 fl_1_18 rfl kd_1 rr_1_2 ?_
    obtain ⟨S7, q6, h⟩ := bd_inv h
    refine y_V0v (S1 := S7) d_R_takeSign_12 ml_1_55 kd_2 rfl (Nat.le_of_ble_eq_true rfl) (Nat.le_of_ble_eq_true rfl) (c_T_step (by omega) q6) ?_
    refine x_goto (tgt := 23) d_R_takeSign_15 rfl ?_
    obtain rfl := Option.some.inj h
    exact x_ret (r := none) d_R_takeSign_23 rfl
