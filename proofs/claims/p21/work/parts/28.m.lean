/-! NinetyPlayers$Keyboard.fullestBeat -/
def b_K_fullestBeat_7 (F G : Nat) (S : St) (z1 : Int32) (rec : Int32 → Int32 → Int32 → Option (Int32)) (w2 : Int32) (w3 : Int32) (w4 : Int32) : Option (Int32) :=
  if (S.1 57 0) ≤ w4 then some w2 else bd (fK_timelyAt F G S w4) fun v3 => bd (fJ_bitCount F G S (z1 &&& v3)) fun v5 => if v5 ≤ w3 then lt (w4 + 1) fun v7 => rec w2 w3 v7 else lt (w4 + 1) fun v9 => rec w4 v5 v9
def fK_fullestBeat (F G : Nat) (S : St) (p1 : Int32) : Option (Int32) :=
  fx3 (b_K_fullestBeat_7 F G S p1) F (0 : Int32) (0 : Int32) (0 : Int32)
set_option maxRecDepth 100000 in
set_option maxHeartbeats 4000000 in
theorem T_K_fullestBeat_7 {X : Nat × (Nat → Int32)} {D F G : Nat} (hD : 1 ≤ D + 1) {S : St} {z1 : Int32} : ∀ (f : Nat) (w2 : Int32) (w3 : Int32) (w4 : Int32) (res : Int32), fx3 (b_K_fullestBeat_7 F G S z1 ) f w2 w3 w4 = some res → Ek X (D + 1) mK_fullestBeat 7 [(0, .ref 57), (1, .int z1), (2, .int w2), (3, .int w3), (4, .int w4)] [] S (some (.int res)) S := by
  refine fx3_ind ?_
  intro rec ih w2 w3 w4 res h
  unfold b_K_fullestBeat_7 at h
  refine x_iload d_K_fullestBeat_7 4 rfl ?_
  refine x_aload_n d_K_fullestBeat_9 rfl 0 rfl ?_
  refine y_getI d_K_fullestBeat_10 fl_7_30 rfl kd_57 ?_
  refine x_icmp_ge (tgt := 47) d_K_fullestBeat_13 rfl (fun c1 => ?_) (fun c1 => ?_)
  · replace h := ite_t c1 h
    refine x_iload_n d_K_fullestBeat_47 rfl 2 rfl ?_
    obtain rfl := Option.some.inj h
    exact x_ret (r := some (.int w2)) d_K_fullestBeat_48 ⟨_, rfl, rfl⟩
  · replace h := ite_f c1 h
    refine x_iload_n d_K_fullestBeat_16 rfl 1 rfl ?_
    refine x_aload_n d_K_fullestBeat_17 rfl 0 rfl ?_
    refine x_iload d_K_fullestBeat_18 4 rfl ?_
    obtain ⟨v3, q2, h⟩ := bd_inv h
    refine y_V1i (v := v3) (S1 := S) d_K_fullestBeat_20 ml_7_75 kd_57 rfl (Nat.le_of_ble_eq_true rfl) (Nat.le_of_ble_eq_true rfl) (c_K_timelyAt (by omega) q2) ?_
    refine x_iand d_K_fullestBeat_23 ?_
    obtain ⟨v5, q4, h⟩ := bd_inv h
    refine y_S1i (v := v5) (S1 := S) d_K_fullestBeat_24 ml_7_89 (Nat.le_of_ble_eq_true rfl) (Nat.le_of_ble_eq_true rfl) (c_J_bitCount (by omega) q4) ?_
    refine x_istore (L1 := [(0, .ref 57), (1, .int z1), (2, .int w2), (3, .int w3), (4, .int w4), (5, .int v5)]) d_K_fullestBeat_27 (Nat.le_of_ble_eq_true rfl) rfl rfl ?_
    refine x_iload d_K_fullestBeat_29 5 rfl ?_
    refine x_iload_n d_K_fullestBeat_31 rfl 3 rfl ?_
    refine x_icmp_le (tgt := 41) d_K_fullestBeat_32 rfl (fun c6 => ?_) (fun c6 => ?_)
    · replace h := ite_t c6 h
      obtain ⟨v7, e8, h⟩ := lt_inv h
      refine y_iinc (L1 := [(0, .ref 57), (1, .int z1), (2, .int w2), (3, .int w3), (4, .int v7), (5, .int v5)]) e8 ic_1 d_K_fullestBeat_41 4 rfl (Nat.le_of_ble_eq_true rfl) rfl rfl ?_
      refine x_goto (tgt := 7) d_K_fullestBeat_44 rfl ?_
      refine y_pick (L1 := [(0, .ref 57), (1, .int z1), (2, .int w2), (3, .int w3), (4, .int v7)]) [0, 1, 2, 3, 4] rfl ?_
      exact ih w2 w3 v7 _ h
    · replace h := ite_f c6 h
      refine x_iload d_K_fullestBeat_35 5 rfl ?_
      refine x_istore_n (L1 := [(0, .ref 57), (1, .int z1), (2, .int w2), (3, .int v5), (4, .int w4), (5, .int v5)]) d_K_fullestBeat_37 rfl (Nat.le_of_ble_eq_true rfl) rfl rfl ?_
      refine x_iload d_K_fullestBeat_38 4 rfl ?_
      refine x_istore_n (L1 := [(0, .ref 57), (1, .int z1), (2, .int w4), (3, .int v5), (4, .int w4), (5, .int v5)]) d_K_fullestBeat_40 rfl (Nat.le_of_ble_eq_true rfl) rfl rfl ?_
      obtain ⟨v9, e10, h⟩ := lt_inv h
      refine y_iinc (L1 := [(0, .ref 57), (1, .int z1), (2, .int w4), (3, .int v5), (4, .int v9), (5, .int v5)]) e10 ic_1 d_K_fullestBeat_41 4 rfl (Nat.le_of_ble_eq_true rfl) rfl rfl ?_
      refine x_goto (tgt := 7) d_K_fullestBeat_44 rfl ?_
      refine y_pick (L1 := [(0, .ref 57), (1, .int z1), (2, .int w4), (3, .int v5), (4, .int v9)]) [0, 1, 2, 3, 4] rfl ?_
      exact ih w4 v5 v9 _ h
set_option maxRecDepth 100000 in
set_option maxHeartbeats 4000000 in
theorem c_K_fullestBeat {X : Nat × (Nat → Int32)} {D F G : Nat} (hD : 1 ≤ D) {S : St} {p1 : Int32} {res : Int32} (h : fK_fullestBeat F G S p1 = some res) : Ek X (D) mK_fullestBeat 0 [(0, .ref 57), (1, .int p1)] [] S (some (.int res)) S := by
  obtain ⟨D, rfl⟩ : ∃ E, D = E + 1 := ⟨D - 1, by omega⟩
  unfold fK_fullestBeat at h
  refine x_iconst d_K_fullestBeat_0 ic_0 ?_
  refine x_istore_n (L1 := [(0, .ref 57), (1, .int p1), (2, .int (0 : Int32))]) d_K_fullestBeat_1 rfl (Nat.le_of_ble_eq_true rfl) rfl rfl ?_
  refine x_iconst d_K_fullestBeat_2 ic_0 ?_
  refine x_istore_n (L1 := [(0, .ref 57), (1, .int p1), (2, .int (0 : Int32)), (3, .int (0 : Int32))]) d_K_fullestBeat_3 rfl (Nat.le_of_ble_eq_true rfl) rfl rfl ?_
  refine x_iconst d_K_fullestBeat_4 ic_0 ?_
  refine x_istore (L1 := [(0, .ref 57), (1, .int p1), (2, .int (0 : Int32)), (3, .int (0 : Int32)), (4, .int (0 : Int32))]) d_K_fullestBeat_5 (Nat.le_of_ble_eq_true rfl) rfl rfl ?_
  refine T_K_fullestBeat_7 (by omega)   F (0 : Int32) (0 : Int32) (0 : Int32) _ h
/-! NinetyPlayers.thickest -/
def fN_thickest (F G : Nat) (S : St) : Option (Int32 × St) :=
  bd (fN_lookAtKeys F G S ) fun S2 => bd (fK_fullestBeat F G S2 ((S2.1 57 5) ||| (S2.1 57 6))) fun v4 => some (v4, S2)
set_option maxRecDepth 100000 in
set_option maxHeartbeats 4000000 in
theorem c_N_thickest {X : Nat × (Nat → Int32)} {D F G : Nat} (hD : 3 ≤ D) {S : St} {res : Int32 × St} (h : fN_thickest F G S  = some res) : Ek X (D) mN_thickest 0 [(0, .ref 0)] [] S (some (.int res.1)) res.2 := by
  obtain ⟨D, rfl⟩ : ∃ E, D = E + 1 := ⟨D - 1, by omega⟩
  unfold fN_thickest at h
  refine x_aload_n d_N_thickest_0 rfl 0 rfl ?_
  obtain ⟨S2, q1, h⟩ := bd_inv h
  refine y_V0v (S1 := S2) d_N_thickest_1 ml_0_176 kd_0 rfl (Nat.le_of_ble_eq_true rfl) (Nat.le_of_ble_eq_true rfl) (c_N_lookAtKeys (by omega) q1) ?_
  refine x_aload_n d_N_thickest_4 rfl 0 rfl ?_
  refine y_getR d_N_thickest_5 fl_0_57 rfl kd_0 rr_0_7 ?_
  refine x_aload_n d_N_thickest_8 rfl 0 rfl ?_
  refine y_getR d_N_thickest_9 fl_0_57 rfl kd_0 rr_0_7 ?_
  refine y_getI d_N_thickest_12 fl_0_188 rfl kd_57 ?_
  refine x_aload_n d_N_thickest_15 rfl 0 rfl ?_
  refine y_getR d_N_thickest_16 fl_0_57 rfl kd_0 rr_0_7 ?_
  refine y_getI d_N_thickest_19 fl_0_191 rfl kd_57 ?_
  refine x_ior d_N_thickest_22 ?_
  obtain ⟨v4, q3, h⟩ := bd_inv h
  refine y_V1i (v := v4) (S1 := S2) d_N_thickest_23 ml_0_317 kd_57 rfl (Nat.le_of_ble_eq_true rfl) (Nat.le_of_ble_eq_true rfl) (c_K_fullestBeat (by omega) q3) ?_
  obtain rfl := Option.some.inj h
  exact x_ret (r := some (.int v4)) d_N_thickest_26 ⟨_, rfl, rfl⟩
/-! NinetyPlayersModel.thickest -/
def b_M_thickest_20 (F G : Nat) (S : St) (z1 : Int32) (rec : Int32 → Int32 → Option (Int32 × St)) (w2 : Int32) (w3 : Int32) : Option (Int32 × St) :=
  if (S.1 78 46) ≤ w3 then some (w2, S) else gd (inB w3 12) (bd (fM_members F G S ((S.1 102 w3.toNatClampNeg) &&& z1)) fun v12 => gd (inB w2 12) (bd (fM_members F G S ((S.1 102 w2.toNatClampNeg) &&& z1)) fun v15 => if v12 ≤ v15 then lt (w3 + 1) fun v17 => rec w2 v17 else lt (w3 + 1) fun v19 => rec w3 v19))
def fM_thickest (F G : Nat) (S : St) : Option (Int32 × St) :=
  bd (fM_fill F G S ) fun S2 => bd (fM_given F G S2 (1 : Int32)) fun v4 => bd (fM_given F G S2 (2 : Int32)) fun v6 => lt (v4 ||| v6) fun v7 => fx2 (b_M_thickest_20 F G S2 v7) F (0 : Int32) (1 : Int32)
set_option maxRecDepth 100000 in
set_option maxHeartbeats 4000000 in
theorem T_M_thickest_20 {X : Nat × (Nat → Int32)} {D F G : Nat} (hD : 2 ≤ D + 1) {S : St} {z1 : Int32} : ∀ (f : Nat) (w2 : Int32) (w3 : Int32) (res : Int32 × St), fx2 (b_M_thickest_20 F G S z1 ) f w2 w3 = some res → Ek X (D + 1) mM_thickest 20 [(0, .ref 78), (1, .int z1), (2, .int w2), (3, .int w3)] [] S (some (.int res.1)) res.2 := by
  refine fx2_ind ?_
  intro rec ih w2 w3 res h
  unfold b_M_thickest_20 at h
  refine x_iload_n d_M_thickest_20 rfl 3 rfl ?_
  refine x_aload_n d_M_thickest_21 rfl 0 rfl ?_
  refine y_getI d_M_thickest_22 fl_11_78 rfl kd_78 ?_
  refine x_icmp_ge (tgt := 65) d_M_thickest_25 rfl (fun c9 => ?_) (fun c9 => ?_)
  · replace h := ite_t c9 h
    refine x_iload_n d_M_thickest_65 rfl 2 rfl ?_
    obtain rfl := Option.some.inj h
    exact x_ret (r := some (.int w2)) d_M_thickest_66 ⟨_, rfl, rfl⟩
  · replace h := ite_f c9 h
    refine x_aload_n d_M_thickest_28 rfl 0 rfl ?_
    refine y_getR d_M_thickest_29 fl_11_99 rfl kd_78 rr_78_60 ?_
    refine x_iload_n d_M_thickest_32 rfl 3 rfl ?_
    obtain ⟨g10, h⟩ := gd_inv h
    refine y_iald d_M_thickest_33 kd_102 g10 ?_
    refine x_iload_n d_M_thickest_34 rfl 1 rfl ?_
    refine x_iand d_M_thickest_35 ?_
    obtain ⟨v12, q11, h⟩ := bd_inv h
    refine y_S1i (v := v12) (S1 := S) d_M_thickest_36 ml_11_331 (Nat.le_of_ble_eq_true rfl) (Nat.le_of_ble_eq_true rfl) (c_M_members (by omega) q11) ?_
    refine x_aload_n d_M_thickest_39 rfl 0 rfl ?_
    refine y_getR d_M_thickest_40 fl_11_99 rfl kd_78 rr_78_60 ?_
    refine x_iload_n d_M_thickest_43 rfl 2 rfl ?_
    obtain ⟨g13, h⟩ := gd_inv h
    refine y_iald d_M_thickest_44 kd_102 g13 ?_
    refine x_iload_n d_M_thickest_45 rfl 1 rfl ?_
    refine x_iand d_M_thickest_46 ?_
    obtain ⟨v15, q14, h⟩ := bd_inv h
    refine y_S1i (v := v15) (S1 := S) d_M_thickest_47 ml_11_331 (Nat.le_of_ble_eq_true rfl) (Nat.le_of_ble_eq_true rfl) (c_M_members (by omega) q14) ?_
    refine x_icmp_le (tgt := 57) d_M_thickest_50 rfl (fun c16 => ?_) (fun c16 => ?_)
    · replace h := ite_t c16 h
      refine x_iload_n d_M_thickest_57 rfl 2 rfl ?_
      refine x_istore_n (L1 := [(0, .ref 78), (1, .int z1), (2, .int w2), (3, .int w3)]) d_M_thickest_58 rfl (Nat.le_of_ble_eq_true rfl) rfl rfl ?_
      obtain ⟨v17, e18, h⟩ := lt_inv h
      refine y_iinc (L1 := [(0, .ref 78), (1, .int z1), (2, .int w2), (3, .int v17)]) e18 ic_1 d_M_thickest_59 3 rfl (Nat.le_of_ble_eq_true rfl) rfl rfl ?_
      refine x_goto (tgt := 20) d_M_thickest_62 rfl ?_
      exact ih w2 v17 _ h
    · replace h := ite_f c16 h
      refine x_iload_n d_M_thickest_53 rfl 3 rfl ?_
      refine x_goto (tgt := 58) d_M_thickest_54 rfl ?_
      refine x_istore_n (L1 := [(0, .ref 78), (1, .int z1), (2, .int w3), (3, .int w3)]) d_M_thickest_58 rfl (Nat.le_of_ble_eq_true rfl) rfl rfl ?_
      obtain ⟨v19, e20, h⟩ := lt_inv h
      refine y_iinc (L1 := [(0, .ref 78), (1, .int z1), (2, .int w3), (3, .int v19)]) e20 ic_1 d_M_thickest_59 3 rfl (Nat.le_of_ble_eq_true rfl) rfl rfl ?_
      refine x_goto (tgt := 20) d_M_thickest_62 rfl ?_
      exact ih w3 v19 _ h
set_option maxRecDepth 100000 in
set_option maxHeartbeats 4000000 in
theorem c_M_thickest {X : Nat × (Nat → Int32)} {D F G : Nat} (hD : 2 ≤ D) {S : St} {res : Int32 × St} (h : fM_thickest F G S  = some res) : Ek X (D) mM_thickest 0 [(0, .ref 78)] [] S (some (.int res.1)) res.2 := by
  obtain ⟨D, rfl⟩ : ∃ E, D = E + 1 := ⟨D - 1, by omega⟩
  unfold fM_thickest at h
  refine x_aload_n d_M_thickest_0 rfl 0 rfl ?_
  obtain ⟨S2, q1, h⟩ := bd_inv h
  refine y_V0v (S1 := S2) d_M_thickest_1 ml_11_464 kd_78 rfl (Nat.le_of_ble_eq_true rfl) (Nat.le_of_ble_eq_true rfl) (c_M_fill (by omega) q1) ?_
  refine x_aload_n d_M_thickest_4 rfl 0 rfl ?_
  refine x_iconst d_M_thickest_5 ic_1 ?_
  obtain ⟨v4, q3, h⟩ := bd_inv h
  refine y_V1i (v := v4) (S1 := S2) d_M_thickest_6 ml_11_454 kd_78 rfl (Nat.le_of_ble_eq_true rfl) (Nat.le_of_ble_eq_true rfl) (c_M_given (by omega) q3) ?_
  refine x_aload_n d_M_thickest_9 rfl 0 rfl ?_
  refine x_iconst d_M_thickest_10 ic_2 ?_
  obtain ⟨v6, q5, h⟩ := bd_inv h
  refine y_V1i (v := v6) (S1 := S2) d_M_thickest_11 ml_11_454 kd_78 rfl (Nat.le_of_ble_eq_true rfl) (Nat.le_of_ble_eq_true rfl) (c_M_given (by omega) q5) ?_
  refine x_ior d_M_thickest_14 ?_
  obtain ⟨v7, e8, h⟩ := lt_inv h
  refine y_istore_n (L1 := [(0, .ref 78), (1, .int v7)]) e8 d_M_thickest_15 rfl (Nat.le_of_ble_eq_true rfl) rfl rfl ?_
  refine x_iconst d_M_thickest_16 ic_0 ?_
  refine x_istore_n (L1 := [(0, .ref 78), (1, .int v7), (2, .int (0 : Int32))]) d_M_thickest_17 rfl (Nat.le_of_ble_eq_true rfl) rfl rfl ?_
  refine x_iconst d_M_thickest_18 ic_1 ?_
  refine x_istore_n (L1 := [(0, .ref 78), (1, .int v7), (2, .int (0 : Int32)), (3, .int (1 : Int32))]) d_M_thickest_19 rfl (Nat.le_of_ble_eq_true rfl) rfl rfl ?_
  refine T_M_thickest_20 (by omega)   F (0 : Int32) (1 : Int32) _ h
/-! NinetyPlayers.busiest -/
def fN_busiest (F G : Nat) (S : St) (p1 : Int32) : Option (Int32 × St) :=
  bd (fN_isHand F G S p1) fun v2 => if v2 = 0 then some ((-1 : Int32), S) else bd (fN_lookAtKeys F G S ) fun S5 => bd (fK_setOf F G S5 p1) fun v7 => bd (fK_fullestBeat F G S5 v7) fun v9 => some (v9, S5)
set_option maxRecDepth 100000 in
set_option maxHeartbeats 4000000 in
theorem c_N_busiest {X : Nat × (Nat → Int32)} {D F G : Nat} (hD : 3 ≤ D) {S : St} {p1 : Int32} {res : Int32 × St} (h : fN_busiest F G S p1 = some res) : Ek X (D) mN_busiest 0 [(0, .ref 0), (1, .int p1)] [] S (some (.int res.1)) res.2 := by
  obtain ⟨D, rfl⟩ : ∃ E, D = E + 1 := ⟨D - 1, by omega⟩
  unfold fN_busiest at h
  refine x_iload_n d_N_busiest_0 rfl 1 rfl ?_
  obtain ⟨v2, q1, h⟩ := bd_inv h
  refine y_S1i (v := v2) (S1 := S) d_N_busiest_1 ml_0_173 (Nat.le_of_ble_eq_true rfl) (Nat.le_of_ble_eq_true rfl) (c_N_isHand (by omega) q1) ?_
  refine x_if_ne (tgt := 9) d_N_busiest_4 rfl (fun c3 => ?_) (fun c3 => ?_)
  · replace h := ite_f c3 h
    refine x_aload_n d_N_busiest_9 rfl 0 rfl ?_
    obtain ⟨S5, q4, h⟩ := bd_inv h
    refine y_V0v (S1 := S5) d_N_busiest_10 ml_0_176 kd_0 rfl (Nat.le_of_ble_eq_true rfl) (Nat.le_of_ble_eq_true rfl) (c_N_lookAtKeys (by omega) q4) ?_
    refine x_aload_n d_N_busiest_13 rfl 0 rfl ?_
    refine y_getR d_N_busiest_14 fl_0_57 rfl kd_0 rr_0_7 ?_
    refine x_aload_n d_N_busiest_17 rfl 0 rfl ?_
    refine y_getR d_N_busiest_18 fl_0_57 rfl kd_0 rr_0_7 ?_
    refine x_iload_n d_N_busiest_21 rfl 1 rfl ?_
    obtain ⟨v7, q6, h⟩ := bd_inv h
    refine y_V1i (v := v7) (S1 := S5) d_N_busiest_22 ml_0_320 kd_57 rfl (Nat.le_of_ble_eq_true rfl) (Nat.le_of_ble_eq_true rfl) (c_K_setOf (by omega) q6) ?_
    obtain ⟨v9, q8, h⟩ := bd_inv h
    refine y_V1i (v := v9) (S1 := S5) d_N_busiest_25 ml_0_317 kd_57 rfl (Nat.le_of_ble_eq_true rfl) (Nat.le_of_ble_eq_true rfl) (c_K_fullestBeat (by omega) q8) ?_
    obtain rfl := Option.some.inj h
    exact x_ret (r := some (.int v9)) d_N_busiest_28 ⟨_, rfl, rfl⟩
  · replace h := ite_t c3 h
    refine x_iconst d_N_busiest_7 ic_m1 ?_
    obtain rfl := Option.some.inj h
    exact x_ret (r := some (.int (-1 : Int32))) d_N_busiest_8 ⟨_, rfl, rfl⟩
/-! NinetyPlayersModel.busiest -/
def b_M_busiest_17 (F G : Nat) (S : St) (z1 : Int32) (rec : Int32 → Int32 → Option (Int32 × St)) (w2 : Int32) (w3 : Int32) : Option (Int32 × St) :=
  if (S.1 78 46) ≤ w3 then some (w2, S) else bd (fM_given F G S z1) fun v8 => gd (inB w3 12) (bd (fM_members F G S (v8 &&& (S.1 102 w3.toNatClampNeg))) fun v11 => bd (fM_given F G S z1) fun v13 => gd (inB w2 12) (bd (fM_members F G S (v13 &&& (S.1 102 w2.toNatClampNeg))) fun v16 => if v11 ≤ v16 then lt (w3 + 1) fun v18 => rec w2 v18 else lt (w3 + 1) fun v20 => rec w3 v20))
def fM_busiest (F G : Nat) (S : St) (p1 : Int32) : Option (Int32 × St) :=
  bd (fM_isHand F G S p1) fun v2 => if v2 = 0 then some ((-1 : Int32), S) else bd (fM_fill F G S ) fun S5 => fx2 (b_M_busiest_17 F G S5 p1) F (0 : Int32) (1 : Int32)
set_option maxRecDepth 100000 in
set_option maxHeartbeats 4000000 in
theorem T_M_busiest_17 {X : Nat × (Nat → Int32)} {D F G : Nat} (hD : 2 ≤ D + 1) {S : St} {z1 : Int32} : ∀ (f : Nat) (w2 : Int32) (w3 : Int32) (res : Int32 × St), fx2 (b_M_busiest_17 F G S z1 ) f w2 w3 = some res → Ek X (D + 1) mM_busiest 17 [(0, .ref 78), (1, .int z1), (2, .int w2), (3, .int w3)] [] S (some (.int res.1)) res.2 := by
  refine fx2_ind ?_
  intro rec ih w2 w3 res h
  unfold b_M_busiest_17 at h
  refine x_iload_n d_M_busiest_17 rfl 3 rfl ?_
  refine x_aload_n d_M_busiest_18 rfl 0 rfl ?_
  refine y_getI d_M_busiest_19 fl_11_78 rfl kd_78 ?_
  refine x_icmp_ge (tgt := 70) d_M_busiest_22 rfl (fun c6 => ?_) (fun c6 => ?_)
  · replace h := ite_t c6 h
    refine x_iload_n d_M_busiest_70 rfl 2 rfl ?_
    obtain rfl := Option.some.inj h
    exact x_ret (r := some (.int w2)) d_M_busiest_71 ⟨_, rfl, rfl⟩
  · replace h := ite_f c6 h
    refine x_aload_n d_M_busiest_25 rfl 0 rfl ?_
    refine x_iload_n d_M_busiest_26 rfl 1 rfl ?_
    obtain ⟨v8, q7, h⟩ := bd_inv h
    refine y_V1i (v := v8) (S1 := S) d_M_busiest_27 ml_11_454 kd_78 rfl (Nat.le_of_ble_eq_true rfl) (Nat.le_of_ble_eq_true rfl) (c_M_given (by omega) q7) ?_
    refine x_aload_n d_M_busiest_30 rfl 0 rfl ?_
    refine y_getR d_M_busiest_31 fl_11_99 rfl kd_78 rr_78_60 ?_
    refine x_iload_n d_M_busiest_34 rfl 3 rfl ?_
    obtain ⟨g9, h⟩ := gd_inv h
    refine y_iald d_M_busiest_35 kd_102 g9 ?_
    refine x_iand d_M_busiest_36 ?_
    obtain ⟨v11, q10, h⟩ := bd_inv h
    refine y_S1i (v := v11) (S1 := S) d_M_busiest_37 ml_11_331 (Nat.le_of_ble_eq_true rfl) (Nat.le_of_ble_eq_true rfl) (c_M_members (by omega) q10) ?_
    refine x_aload_n d_M_busiest_40 rfl 0 rfl ?_
    refine x_iload_n d_M_busiest_41 rfl 1 rfl ?_
    obtain ⟨v13, q12, h⟩ := bd_inv h
    refine y_V1i (v := v13) (S1 := S) d_M_busiest_42 ml_11_454 kd_78 rfl (Nat.le_of_ble_eq_true rfl) (Nat.le_of_ble_eq_true rfl) (c_M_given (by omega) q12) ?_
    refine x_aload_n d_M_busiest_45 rfl 0 rfl ?_
    refine y_getR d_M_busiest_46 fl_11_99 rfl kd_78 rr_78_60 ?_
    refine x_iload_n d_M_busiest_49 rfl 2 rfl ?_
    obtain ⟨g14, h⟩ := gd_inv h
    refine y_iald d_M_busiest_50 kd_102 g14 ?_
    refine x_iand d_M_busiest_51 ?_
    obtain ⟨v16, q15, h⟩ := bd_inv h
    refine y_S1i (v := v16) (S1 := S) d_M_busiest_52 ml_11_331 (Nat.le_of_ble_eq_true rfl) (Nat.le_of_ble_eq_true rfl) (c_M_members (by omega) q15) ?_
    refine x_icmp_le (tgt := 62) d_M_busiest_55 rfl (fun c17 => ?_) (fun c17 => ?_)
    · replace h := ite_t c17 h
      refine x_iload_n d_M_busiest_62 rfl 2 rfl ?_
      refine x_istore_n (L1 := [(0, .ref 78), (1, .int z1), (2, .int w2), (3, .int w3)]) d_M_busiest_63 rfl (Nat.le_of_ble_eq_true rfl) rfl rfl ?_
      obtain ⟨v18, e19, h⟩ := lt_inv h
      refine y_iinc (L1 := [(0, .ref 78), (1, .int z1), (2, .int w2), (3, .int v18)]) e19 ic_1 d_M_busiest_64 3 rfl (Nat.le_of_ble_eq_true rfl) rfl rfl ?_
      refine x_goto (tgt := 17) d_M_busiest_67 rfl ?_
      exact ih w2 v18 _ h
    · replace h := ite_f c17 h
      refine x_iload_n d_M_busiest_58 rfl 3 rfl ?_
      refine x_goto (tgt := 63) d_M_busiest_59 rfl ?_
      refine x_istore_n (L1 := [(0, .ref 78), (1, .int z1), (2, .int w3), (3, .int w3)]) d_M_busiest_63 rfl (Nat.le_of_ble_eq_true rfl) rfl rfl ?_
      obtain ⟨v20, e21, h⟩ := lt_inv h
      refine y_iinc (L1 := [(0, .ref 78), (1, .int z1), (2, .int w3), (3, .int v20)]) e21 ic_1 d_M_busiest_64 3 rfl (Nat.le_of_ble_eq_true rfl) rfl rfl ?_
      refine x_goto (tgt := 17) d_M_busiest_67 rfl ?_
      exact ih w3 v20 _ h
set_option maxRecDepth 100000 in
set_option maxHeartbeats 4000000 in
theorem c_M_busiest {X : Nat × (Nat → Int32)} {D F G : Nat} (hD : 2 ≤ D) {S : St} {p1 : Int32} {res : Int32 × St} (h : fM_busiest F G S p1 = some res) : Ek X (D) mM_busiest 0 [(0, .ref 78), (1, .int p1)] [] S (some (.int res.1)) res.2 := by
  obtain ⟨D, rfl⟩ : ∃ E, D = E + 1 := ⟨D - 1, by omega⟩
  unfold fM_busiest at h
  refine x_iload_n d_M_busiest_0 rfl 1 rfl ?_
  obtain ⟨v2, q1, h⟩ := bd_inv h
  refine y_S1i (v := v2) (S1 := S) d_M_busiest_1 ml_11_476 (Nat.le_of_ble_eq_true rfl) (Nat.le_of_ble_eq_true rfl) (c_M_isHand (by omega) q1) ?_
  refine x_if_ne (tgt := 9) d_M_busiest_4 rfl (fun c3 => ?_) (fun c3 => ?_)
  · replace h := ite_f c3 h
    refine x_aload_n d_M_busiest_9 rfl 0 rfl ?_
    obtain ⟨S5, q4, h⟩ := bd_inv h
    refine y_V0v (S1 := S5) d_M_busiest_10 ml_11_464 kd_78 rfl (Nat.le_of_ble_eq_true rfl) (Nat.le_of_ble_eq_true rfl) (c_M_fill (by omega) q4) ?_
    refine x_iconst d_M_busiest_13 ic_0 ?_
    refine x_istore_n (L1 := [(0, .ref 78), (1, .int p1), (2, .int (0 : Int32))]) d_M_busiest_14 rfl (Nat.le_of_ble_eq_true rfl) rfl rfl ?_
    refine x_iconst d_M_busiest_15 ic_1 ?_
    refine x_istore_n (L1 := [(0, .ref 78), (1, .int p1), (2, .int (0 : Int32)), (3, .int (1 : Int32))]) d_M_busiest_16 rfl (Nat.le_of_ble_eq_true rfl) rfl rfl ?_
    refine T_M_busiest_17 (by omega)   F (0 : Int32) (1 : Int32) _ h
  · replace h := ite_t c3 h
    refine x_iconst d_M_busiest_7 ic_m1 ?_
    obtain rfl := Option.some.inj h
    exact x_ret (r := some (.int (-1 : Int32))) d_M_busiest_8 ⟨_, rfl, rfl⟩
/-! NinetyPlayers.law -/
def fN_law (F G : Nat) (S : St) (p1 : Int32) : Option (Int32 × St) :=
  bd (fN_isKey F G S p1) fun v2 => if v2 = 0 then some ((-1 : Int32), S) else bd (fN_lookAtKeys F G S ) fun S5 => lt (sI S5 57 2 p1) fun S6 => bd (fK_clashingBeats F G S6 (S6.1 57 5) (S6.1 57 6)) fun v9 => bd (fJ_bitCount F G S6 v9) fun v11 => some (v11, S6)
set_option maxRecDepth 100000 in
set_option maxHeartbeats 4000000 in
theorem c_N_law {X : Nat × (Nat → Int32)} {D F G : Nat} (hD : 5 ≤ D) {S : St} {p1 : Int32} {res : Int32 × St} (h : fN_law F G S p1 = some res) : Ek X (D) mN_law 0 [(0, .ref 0), (1, .int p1)] [] S (some (.int res.1)) res.2 := by
  obtain ⟨D, rfl⟩ : ∃ E, D = E + 1 := ⟨D - 1, by omega⟩
  unfold fN_law at h
  refine x_iload_n d_N_law_0 rfl 1 rfl ?_
  obtain ⟨v2, q1, h⟩ := bd_inv h
  refine y_S1i (v := v2) (S1 := S) d_N_law_1 ml_0_244 (Nat.le_of_ble_eq_true rfl) (Nat.le_of_ble_eq_true rfl) (c_N_isKey (by omega) q1) ?_
  refine x_if_ne (tgt := 9) d_N_law_4 rfl (fun c3 => ?_) (fun c3 => ?_)
  · replace h := ite_f c3 h
    refine x_aload_n d_N_law_9 rfl 0 rfl ?_
    obtain ⟨S5, q4, h⟩ := bd_inv h
    refine y_V0v (S1 := S5) d_N_law_10 ml_0_176 kd_0 rfl (Nat.le_of_ble_eq_true rfl) (Nat.le_of_ble_eq_true rfl) (c_N_lookAtKeys (by omega) q4) ?_
    refine x_aload_n d_N_law_13 rfl 0 rfl ?_
    refine y_getR d_N_law_14 fl_0_57 rfl kd_0 rr_0_7 ?_
    refine x_iload_n d_N_law_17 rfl 1 rfl ?_
    obtain ⟨S6, e7, h⟩ := lt_inv h
    refine y_putI e7 d_N_law_18 fl_0_279 rfl rfl kd_57 rfl rfl ?_
    refine x_aload_n d_N_law_21 rfl 0 rfl ?_
    refine y_getR d_N_law_22 fl_0_57 rfl kd_0 rr_0_7 ?_
    refine x_aload_n d_N_law_25 rfl 0 rfl ?_
    refine y_getR d_N_law_26 fl_0_57 rfl kd_0 rr_0_7 ?_
    refine y_getI d_N_law_29 fl_0_188 rfl kd_57 ?_
    refine x_aload_n d_N_law_32 rfl 0 rfl ?_
    refine y_getR d_N_law_33 fl_0_57 rfl kd_0 rr_0_7 ?_
    refine y_getI d_N_law_36 fl_0_191 rfl kd_57 ?_
    obtain ⟨v9, q8, h⟩ := bd_inv h
    refine y_V2i (v := v9) (S1 := S6) d_N_law_39 ml_0_257 kd_57 rfl (Nat.le_of_ble_eq_true rfl) (Nat.le_of_ble_eq_true rfl) (c_K_clashingBeats (by omega) q8) ?_
    obtain ⟨v11, q10, h⟩ := bd_inv h
    refine y_S1i (v := v11) (S1 := S6) d_N_law_42 ml_0_211 (Nat.le_of_ble_eq_true rfl) (Nat.le_of_ble_eq_true rfl) (c_J_bitCount (by omega) q10) ?_
    obtain rfl := Option.some.inj h
    exact x_ret (r := some (.int v11)) d_N_law_45 ⟨_, rfl, rfl⟩
  · replace h := ite_t c3 h
    refine x_iconst d_N_law_7 ic_m1 ?_
    obtain rfl := Option.some.inj h
    exact x_ret (r := some (.int (-1 : Int32))) d_N_law_8 ⟨_, rfl, rfl⟩
/-! NinetyPlayersModel.law -/
def fM_law (F G : Nat) (S : St) (p1 : Int32) : Option (Int32 × St) :=
  bd (fM_isIn F G S p1 (0 : Int32) (87 : Int32)) fun v2 => if v2 = 0 then some ((-1 : Int32), S) else bd (fM_fill F G S ) fun S5 => bd (fM_clashBeats F G S5 p1) fun v7 => bd (fM_members F G S5 v7) fun v9 => some (v9, S5)
set_option maxRecDepth 100000 in
set_option maxHeartbeats 4000000 in
theorem c_M_law {X : Nat × (Nat → Int32)} {D F G : Nat} (hD : 4 ≤ D) {S : St} {p1 : Int32} {res : Int32 × St} (h : fM_law F G S p1 = some res) : Ek X (D) mM_law 0 [(0, .ref 78), (1, .int p1)] [] S (some (.int res.1)) res.2 := by
  obtain ⟨D, rfl⟩ : ∃ E, D = E + 1 := ⟨D - 1, by omega⟩
  unfold fM_law at h
  refine x_iload_n d_M_law_0 rfl 1 rfl ?_
  refine x_iconst d_M_law_1 ic_0 ?_
  refine x_bipush d_M_law_2 bp_87 ?_
  obtain ⟨v2, q1, h⟩ := bd_inv h
  refine y_S3i (v := v2) (S1 := S) d_M_law_4 ml_11_429 (Nat.le_of_ble_eq_true rfl) (Nat.le_of_ble_eq_true rfl) (c_M_isIn (by omega) q1) ?_
  refine x_if_ne (tgt := 12) d_M_law_7 rfl (fun c3 => ?_) (fun c3 => ?_)
  · replace h := ite_f c3 h
    refine x_aload_n d_M_law_12 rfl 0 rfl ?_
    obtain ⟨S5, q4, h⟩ := bd_inv h
    refine y_V0v (S1 := S5) d_M_law_13 ml_11_464 kd_78 rfl (Nat.le_of_ble_eq_true rfl) (Nat.le_of_ble_eq_true rfl) (c_M_fill (by omega) q4) ?_
    refine x_aload_n d_M_law_16 rfl 0 rfl ?_
    refine x_iload_n d_M_law_17 rfl 1 rfl ?_
    obtain ⟨v7, q6, h⟩ := bd_inv h
    refine y_V1i (v := v7) (S1 := S5) d_M_law_18 ml_11_482 kd_78 rfl (Nat.le_of_ble_eq_true rfl) (Nat.le_of_ble_eq_true rfl) (c_M_clashBeats (by omega) q6) ?_
    obtain ⟨v9, q8, h⟩ := bd_inv h
    refine y_S1i (v := v9) (S1 := S5) d_M_law_21 ml_11_331 (Nat.le_of_ble_eq_true rfl) (Nat.le_of_ble_eq_true rfl) (c_M_members (by omega) q8) ?_
    obtain rfl := Option.some.inj h
    exact x_ret (r := some (.int v9)) d_M_law_24 ⟨_, rfl, rfl⟩
  · replace h := ite_t c3 h
    refine x_iconst d_M_law_10 ic_m1 ?_
    obtain rfl := Option.some.inj h
    exact x_ret (r := some (.int (-1 : Int32))) d_M_law_11 ⟨_, rfl, rfl⟩
/-! NinetyPlayers.dearest -/
def j_N_dearest_38 (F G : Nat) (rec : Int32 → Int32 → Int32 → St → Option (Int32 × St)) (S : St) (y1 : Int32) (y2 : Int32) (y3 : Int32) (s0 : Int32) : Option (Int32 × St) :=
  if s0 ≤ y2 then lt (y3 + 1) fun v9 => rec y1 y2 v9 S else lt (y3 + 1) fun v11 => rec y3 s0 v11 S
def b_N_dearest_6 (F G : Nat) (rec : Int32 → Int32 → Int32 → St → Option (Int32 × St)) (w1 : Int32) (w2 : Int32) (w3 : Int32) (S : St) : Option (Int32 × St) :=
  gd (isSc S.2.2.1) (if (S.1 S.2.2.1 6) ≤ w3 then some (w1, S) else gd (inB w3 10) (if (S.1 31 w3.toNatClampNeg) = 0 then bd2 (fN_missedOf F G S w3) fun v6 S7 => j_N_dearest_38 F G rec  S7 w1 w2 w3 v6 else j_N_dearest_38 F G rec  S w1 w2 w3 (-1 : Int32)))
def fN_dearest (F G : Nat) (S : St) : Option (Int32 × St) :=
  fx4 (b_N_dearest_6 F G ) F (-1 : Int32) (-1 : Int32) (0 : Int32) S
set_option maxRecDepth 100000 in
set_option maxHeartbeats 4000000 in
theorem T_N_dearest_6 {X : Nat × (Nat → Int32)} {D F G : Nat} (hD : 4 ≤ D + 1) : ∀ (f : Nat) (w1 : Int32) (w2 : Int32) (w3 : Int32) (S : St) (res : Int32 × St), fx4 (b_N_dearest_6 F G ) f w1 w2 w3 S = some res → Ek X (D + 1) mN_dearest 6 [(0, .ref 0), (1, .int w1), (2, .int w2), (3, .int w3)] [] S (some (.int res.1)) res.2 := by
  refine fx4_ind ?_
  intro rec ih w1 w2 w3 S res h
  unfold b_N_dearest_6 at h
  have J38 : ∀ (S : St) (y1 : Int32) (y2 : Int32) (y3 : Int32) (s0 : Int32) (res : Int32 × St), j_N_dearest_38 F G rec S y1 y2 y3 s0 = some res → Ek X (D + 1) mN_dearest 38 [(0, .ref 0), (1, .int y1), (2, .int y2), (3, .int y3)] [.int s0] S (some (.int res.1)) res.2 := by
    intro S y1 y2 y3 s0 res h
    unfold j_N_dearest_38 at h
    refine x_istore (L1 := [(0, .ref 0), (1, .int y1), (2, .int y2), (3, .int y3), (4, .int s0)]) d_N_dearest_38 (Nat.le_of_ble_eq_true rfl) rfl rfl ?_
    refine x_iload d_N_dearest_40 4 rfl ?_
    refine x_iload_n d_N_dearest_42 rfl 2 rfl ?_
    refine x_icmp_le (tgt := 51) d_N_dearest_43 rfl (fun c8 => ?_) (fun c8 => ?_)
    · replace h := ite_t c8 h
      obtain ⟨v9, e10, h⟩ := lt_inv h
      refine y_iinc (L1 := [(0, .ref 0), (1, .int y1), (2, .int y2), (3, .int v9), (4, .int s0)]) e10 ic_1 d_N_dearest_51 3 rfl (Nat.le_of_ble_eq_true rfl) rfl rfl ?_
      refine x_goto (tgt := 6) d_N_dearest_54 rfl ?_
      refine y_pick (L1 := [(0, .ref 0), (1, .int y1), (2, .int y2), (3, .int v9)]) [0, 1, 2, 3] rfl ?_
      exact ih y1 y2 v9 S _ h
    · replace h := ite_f c8 h
      refine x_iload d_N_dearest_46 4 rfl ?_
      refine x_istore_n (L1 := [(0, .ref 0), (1, .int y1), (2, .int s0), (3, .int y3), (4, .int s0)]) d_N_dearest_48 rfl (Nat.le_of_ble_eq_true rfl) rfl rfl ?_
      refine x_iload_n d_N_dearest_49 rfl 3 rfl ?_
      refine x_istore_n (L1 := [(0, .ref 0), (1, .int y3), (2, .int s0), (3, .int y3), (4, .int s0)]) d_N_dearest_50 rfl (Nat.le_of_ble_eq_true rfl) rfl rfl ?_
      obtain ⟨v11, e12, h⟩ := lt_inv h
      refine y_iinc (L1 := [(0, .ref 0), (1, .int y3), (2, .int s0), (3, .int v11), (4, .int s0)]) e12 ic_1 d_N_dearest_51 3 rfl (Nat.le_of_ble_eq_true rfl) rfl rfl ?_
      refine x_goto (tgt := 6) d_N_dearest_54 rfl ?_
      refine y_pick (L1 := [(0, .ref 0), (1, .int y3), (2, .int s0), (3, .int v11)]) [0, 1, 2, 3] rfl ?_
      exact ih y3 s0 v11 S _ h
  refine x_iload_n d_N_dearest_6 rfl 3 rfl ?_
  refine x_aload_n d_N_dearest_7 rfl 0 rfl ?_
  refine y_getR d_N_dearest_8 fl_0_24 rfl kd_0 rr_told ?_
  obtain ⟨g1, h⟩ := gd_inv h
  refine y_getI d_N_dearest_11 fl_0_122 rfl (ksSc g1) ?_
  refine x_icmp_ge (tgt := 57) d_N_dearest_14 rfl (fun c2 => ?_) (fun c2 => ?_)
  · replace h := ite_t c2 h
    refine x_iload_n d_N_dearest_57 rfl 1 rfl ?_
    obtain rfl := Option.some.inj h
    exact x_ret (r := some (.int w1)) d_N_dearest_58 ⟨_, rfl, rfl⟩
  · replace h := ite_f c2 h
    refine x_aload_n d_N_dearest_17 rfl 0 rfl ?_
    refine y_getR d_N_dearest_18 fl_0_31 rfl kd_0 rr_0_3 ?_
    refine y_getR d_N_dearest_21 fl_0_147 rfl kd_30 rr_30_2 ?_
    refine x_iload_n d_N_dearest_24 rfl 3 rfl ?_
    obtain ⟨g3, h⟩ := gd_inv h
    refine y_iald d_N_dearest_25 kd_31 g3 ?_
    refine x_if_ne (tgt := 37) d_N_dearest_26 rfl (fun c4 => ?_) (fun c4 => ?_)
    · replace h := ite_f c4 h
      refine x_iconst d_N_dearest_37 ic_m1 ?_
      exact J38 S w1 w2 w3 (-1 : Int32) _ h
    · replace h := ite_t c4 h
      refine x_aload_n d_N_dearest_29 rfl 0 rfl ?_
      refine x_iload_n d_N_dearest_30 rfl 3 rfl ?_
      obtain ⟨v6, S7, q5, h⟩ := bd2_inv h
      refine y_V1i (v := v6) (S1 := S7) d_N_dearest_31 ml_0_150 kd_0 rfl (Nat.le_of_ble_eq_true rfl) (Nat.le_of_ble_eq_true rfl) (c_N_missedOf (by omega) q5) ?_
      refine x_goto (tgt := 38) d_N_dearest_34 rfl ?_
      exact J38 S7 w1 w2 w3 v6 _ h
set_option maxRecDepth 100000 in
set_option maxHeartbeats 4000000 in
theorem c_N_dearest {X : Nat × (Nat → Int32)} {D F G : Nat} (hD : 4 ≤ D) {S : St} {res : Int32 × St} (h : fN_dearest F G S  = some res) : Ek X (D) mN_dearest 0 [(0, .ref 0)] [] S (some (.int res.1)) res.2 := by
  obtain ⟨D, rfl⟩ : ∃ E, D = E + 1 := ⟨D - 1, by omega⟩
  unfold fN_dearest at h
  refine x_iconst d_N_dearest_0 ic_m1 ?_
  refine x_istore_n (L1 := [(0, .ref 0), (1, .int (-1 : Int32))]) d_N_dearest_1 rfl (Nat.le_of_ble_eq_true rfl) rfl rfl ?_
  refine x_iconst d_N_dearest_2 ic_m1 ?_
  refine x_istore_n (L1 := [(0, .ref 0), (1, .int (-1 : Int32)), (2, .int (-1 : Int32))]) d_N_dearest_3 rfl (Nat.le_of_ble_eq_true rfl) rfl rfl ?_
  refine x_iconst d_N_dearest_4 ic_0 ?_
  refine x_istore_n (L1 := [(0, .ref 0), (1, .int (-1 : Int32)), (2, .int (-1 : Int32)), (3, .int (0 : Int32))]) d_N_dearest_5 rfl (Nat.le_of_ble_eq_true rfl) rfl rfl ?_
  refine T_N_dearest_6 (by omega)   F (-1 : Int32) (-1 : Int32) (0 : Int32) S _ h
/-! NinetyPlayersModel.dearest -/
def b_M_dearest_12 (F G : Nat) (S : St) (rec : Int32 → Int32 → Option (Int32 × St)) (w1 : Int32) (w2 : Int32) : Option (Int32 × St) :=
  if (S.1 78 48) ≤ w2 then some (w1, S) else gd (inB w2 41) (if (S.1 100 w2.toNatClampNeg) = 0 then if w1 < 0 then lt (w2 + 1) fun v11 => rec w2 v11 else gd (inB w2 10) (gd (inB w1 10) (if (S.1 107 w2.toNatClampNeg) ≤ (S.1 107 w1.toNatClampNeg) then lt (w2 + 1) fun v16 => rec w1 v16 else lt (w2 + 1) fun v18 => rec w2 v18)) else lt (w2 + 1) fun v8 => rec w1 v8)
def fM_dearest (F G : Nat) (S : St) : Option (Int32 × St) :=
  bd (fM_fill F G S ) fun S2 => bd (fM_layMissed F G S2 ) fun S4 => fx2 (b_M_dearest_12 F G S4) F (-1 : Int32) (0 : Int32)
set_option maxRecDepth 100000 in
set_option maxHeartbeats 4000000 in
theorem T_M_dearest_12 {X : Nat × (Nat → Int32)} {D F G : Nat} (hD : 4 ≤ D + 1) {S : St} : ∀ (f : Nat) (w1 : Int32) (w2 : Int32) (res : Int32 × St), fx2 (b_M_dearest_12 F G S ) f w1 w2 = some res → Ek X (D + 1) mM_dearest 12 [(0, .ref 78), (1, .int w1), (2, .int w2)] [] S (some (.int res.1)) res.2 := by
  refine fx2_ind ?_
  intro rec ih w1 w2 res h
  unfold b_M_dearest_12 at h
  refine x_iload_n d_M_dearest_12 rfl 2 rfl ?_
  refine x_aload_n d_M_dearest_13 rfl 0 rfl ?_
  refine y_getI d_M_dearest_14 fl_11_322 rfl kd_78 ?_
  refine x_icmp_ge (tgt := 56) d_M_dearest_17 rfl (fun c5 => ?_) (fun c5 => ?_)
  · replace h := ite_t c5 h
    refine x_iload_n d_M_dearest_56 rfl 1 rfl ?_
    obtain rfl := Option.some.inj h
    exact x_ret (r := some (.int w1)) d_M_dearest_57 ⟨_, rfl, rfl⟩
  · replace h := ite_f c5 h
    refine x_aload_n d_M_dearest_20 rfl 0 rfl ?_
    refine y_getR d_M_dearest_21 fl_11_93 rfl kd_78 rr_78_58 ?_
    refine x_iload_n d_M_dearest_24 rfl 2 rfl ?_
    obtain ⟨g6, h⟩ := gd_inv h
    refine y_iald d_M_dearest_25 kd_100 g6 ?_
    refine x_if_ne (tgt := 50) d_M_dearest_26 rfl (fun c7 => ?_) (fun c7 => ?_)
    · replace h := ite_f c7 h
      obtain ⟨v8, e9, h⟩ := lt_inv h
      refine y_iinc (L1 := [(0, .ref 78), (1, .int w1), (2, .int v8)]) e9 ic_1 d_M_dearest_50 2 rfl (Nat.le_of_ble_eq_true rfl) rfl rfl ?_
      refine x_goto (tgt := 12) d_M_dearest_53 rfl ?_
      exact ih w1 v8 _ h
    · replace h := ite_t c7 h
      refine x_iload_n d_M_dearest_29 rfl 1 rfl ?_
      refine x_if_lt (tgt := 48) d_M_dearest_30 rfl (fun c10 => ?_) (fun c10 => ?_)
      · replace h := ite_t c10 h
        refine x_iload_n d_M_dearest_48 rfl 2 rfl ?_
        refine x_istore_n (L1 := [(0, .ref 78), (1, .int w2), (2, .int w2)]) d_M_dearest_49 rfl (Nat.le_of_ble_eq_true rfl) rfl rfl ?_
        obtain ⟨v11, e12, h⟩ := lt_inv h
        refine y_iinc (L1 := [(0, .ref 78), (1, .int w2), (2, .int v11)]) e12 ic_1 d_M_dearest_50 2 rfl (Nat.le_of_ble_eq_true rfl) rfl rfl ?_
        refine x_goto (tgt := 12) d_M_dearest_53 rfl ?_
        exact ih w2 v11 _ h
      · replace h := ite_f c10 h
        refine x_aload_n d_M_dearest_33 rfl 0 rfl ?_
        refine y_getR d_M_dearest_34 fl_11_114 rfl kd_78 rr_78_67 ?_
        refine x_iload_n d_M_dearest_37 rfl 2 rfl ?_
        obtain ⟨g13, h⟩ := gd_inv h
        refine y_iald d_M_dearest_38 kd_107 g13 ?_
        refine x_aload_n d_M_dearest_39 rfl 0 rfl ?_
        refine y_getR d_M_dearest_40 fl_11_114 rfl kd_78 rr_78_67 ?_
        refine x_iload_n d_M_dearest_43 rfl 1 rfl ?_
        obtain ⟨g14, h⟩ := gd_inv h
        refine y_iald d_M_dearest_44 kd_107 g14 ?_
        refine x_icmp_le (tgt := 50) d_M_dearest_45 rfl (fun c15 => ?_) (fun c15 => ?_)
        · replace h := ite_t c15 h
          obtain ⟨v16, e17, h⟩ := lt_inv h
          refine y_iinc (L1 := [(0, .ref 78), (1, .int w1), (2, .int v16)]) e17 ic_1 d_M_dearest_50 2 rfl (Nat.le_of_ble_eq_true rfl) rfl rfl ?_
          refine x_goto (tgt := 12) d_M_dearest_53 rfl ?_
          exact ih w1 v16 _ h
        · replace h := ite_f c15 h
          refine x_iload_n d_M_dearest_48 rfl 2 rfl ?_
          refine x_istore_n (L1 := [(0, .ref 78), (1, .int w2), (2, .int w2)]) d_M_dearest_49 rfl (Nat.le_of_ble_eq_true rfl) rfl rfl ?_
          obtain ⟨v18, e19, h⟩ := lt_inv h
          refine y_iinc (L1 := [(0, .ref 78), (1, .int w2), (2, .int v18)]) e19 ic_1 d_M_dearest_50 2 rfl (Nat.le_of_ble_eq_true rfl) rfl rfl ?_
          refine x_goto (tgt := 12) d_M_dearest_53 rfl ?_
          exact ih w2 v18 _ h
set_option maxRecDepth 100000 in
set_option maxHeartbeats 4000000 in
theorem c_M_dearest {X : Nat × (Nat → Int32)} {D F G : Nat} (hD : 4 ≤ D) {S : St} {res : Int32 × St} (h : fM_dearest F G S  = some res) : Ek X (D) mM_dearest 0 [(0, .ref 78)] [] S (some (.int res.1)) res.2 := by
  obtain ⟨D, rfl⟩ : ∃ E, D = E + 1 := ⟨D - 1, by omega⟩
  unfold fM_dearest at h
  refine x_aload_n d_M_dearest_0 rfl 0 rfl ?_
  obtain ⟨S2, q1, h⟩ := bd_inv h
  refine y_V0v (S1 := S2) d_M_dearest_1 ml_11_464 kd_78 rfl (Nat.le_of_ble_eq_true rfl) (Nat.le_of_ble_eq_true rfl) (c_M_fill (by omega) q1) ?_
  refine x_aload_n d_M_dearest_4 rfl 0 rfl ?_
  obtain ⟨S4, q3, h⟩ := bd_inv h
  refine y_V0v (S1 := S4) d_M_dearest_5 ml_11_497 kd_78 rfl (Nat.le_of_ble_eq_true rfl) (Nat.le_of_ble_eq_true rfl) (c_M_layMissed (by omega) q3) ?_
  refine x_iconst d_M_dearest_8 ic_m1 ?_
  refine x_istore_n (L1 := [(0, .ref 78), (1, .int (-1 : Int32))]) d_M_dearest_9 rfl (Nat.le_of_ble_eq_true rfl) rfl rfl ?_
  refine x_iconst d_M_dearest_10 ic_0 ?_
  refine x_istore_n (L1 := [(0, .ref 78), (1, .int (-1 : Int32)), (2, .int (0 : Int32))]) d_M_dearest_11 rfl (Nat.le_of_ble_eq_true rfl) rfl rfl ?_
  refine T_M_dearest_12 (by omega)   F (-1 : Int32) (0 : Int32) _ h
/-! NinetyPlayers.could -/
def b_N_could_17 (F G : Nat) (S : St) (z1 : Int32) (rec : Int32 → Int32 → Option (Int32 × St)) (w2 : Int32) (w3 : Int32) : Option (Int32 × St) :=
  gd (isSc S.2.2.1) (if (S.1 S.2.2.1 6) ≤ w3 then some (w2, S) else gd (inB w3 10) (if (S.1 31 w3.toNatClampNeg) = 0 then bd (fK_newClashesWith F G S w3 z1) fun v13 => if v13 = 0 then lt (w2 ||| ((1 : Int32) <<< (w3 &&& 31))) fun v17 => lt (w3 + 1) fun v19 => rec v17 v19 else lt (w3 + 1) fun v15 => rec w2 v15 else lt (w3 + 1) fun v10 => rec w2 v10))
def fN_could (F G : Nat) (S : St) (p1 : Int32) : Option (Int32 × St) :=
  bd (fN_isHand F G S p1) fun v2 => if v2 = 0 then some ((-1 : Int32), S) else bd (fN_lookAtKeys F G S ) fun S5 => fx2 (b_N_could_17 F G S5 p1) F (0 : Int32) (0 : Int32)
set_option maxRecDepth 100000 in
set_option maxHeartbeats 4000000 in
theorem T_N_could_17 {X : Nat × (Nat → Int32)} {D F G : Nat} (hD : 5 ≤ D + 1) {S : St} {z1 : Int32} : ∀ (f : Nat) (w2 : Int32) (w3 : Int32) (res : Int32 × St), fx2 (b_N_could_17 F G S z1 ) f w2 w3 = some res → Ek X (D + 1) mN_could 17 [(0, .ref 0), (1, .int z1), (2, .int w2), (3, .int w3)] [] S (some (.int res.1)) res.2 := by
  refine fx2_ind ?_
  intro rec ih w2 w3 res h
  unfold b_N_could_17 at h
  refine x_iload_n d_N_could_17 rfl 3 rfl ?_
  refine x_aload_n d_N_could_18 rfl 0 rfl ?_
  refine y_getR d_N_could_19 fl_0_24 rfl kd_0 rr_told ?_
  obtain ⟨g6, h⟩ := gd_inv h
  refine y_getI d_N_could_22 fl_0_122 rfl (ksSc g6) ?_
  refine x_icmp_ge (tgt := 64) d_N_could_25 rfl (fun c7 => ?_) (fun c7 => ?_)
  · replace h := ite_t c7 h
    refine x_iload_n d_N_could_64 rfl 2 rfl ?_
    obtain rfl := Option.some.inj h
    exact x_ret (r := some (.int w2)) d_N_could_65 ⟨_, rfl, rfl⟩
  · replace h := ite_f c7 h
    refine x_aload_n d_N_could_28 rfl 0 rfl ?_
    refine y_getR d_N_could_29 fl_0_31 rfl kd_0 rr_0_3 ?_
    refine y_getR d_N_could_32 fl_0_147 rfl kd_30 rr_30_2 ?_
    refine x_iload_n d_N_could_35 rfl 3 rfl ?_
    obtain ⟨g8, h⟩ := gd_inv h
    refine y_iald d_N_could_36 kd_31 g8 ?_
    refine x_if_ne (tgt := 58) d_N_could_37 rfl (fun c9 => ?_) (fun c9 => ?_)
    · replace h := ite_f c9 h
      obtain ⟨v10, e11, h⟩ := lt_inv h
      refine y_iinc (L1 := [(0, .ref 0), (1, .int z1), (2, .int w2), (3, .int v10)]) e11 ic_1 d_N_could_58 3 rfl (Nat.le_of_ble_eq_true rfl) rfl rfl ?_
      refine x_goto (tgt := 17) d_N_could_61 rfl ?_
      exact ih w2 v10 _ h
    · replace h := ite_t c9 h
      refine x_aload_n d_N_could_40 rfl 0 rfl ?_
      refine y_getR d_N_could_41 fl_0_57 rfl kd_0 rr_0_7 ?_
      refine x_iload_n d_N_could_44 rfl 3 rfl ?_
      refine x_iload_n d_N_could_45 rfl 1 rfl ?_
      obtain ⟨v13, q12, h⟩ := bd_inv h
      refine y_V2i (v := v13) (S1 := S) d_N_could_46 ml_0_289 kd_57 rfl (Nat.le_of_ble_eq_true rfl) (Nat.le_of_ble_eq_true rfl) (c_K_newClashesWith (by omega) q12) ?_
      refine x_if_ne (tgt := 58) d_N_could_49 rfl (fun c14 => ?_) (fun c14 => ?_)
      · replace h := ite_f c14 h
        obtain ⟨v15, e16, h⟩ := lt_inv h
        refine y_iinc (L1 := [(0, .ref 0), (1, .int z1), (2, .int w2), (3, .int v15)]) e16 ic_1 d_N_could_58 3 rfl (Nat.le_of_ble_eq_true rfl) rfl rfl ?_
        refine x_goto (tgt := 17) d_N_could_61 rfl ?_
        exact ih w2 v15 _ h
      · replace h := ite_t c14 h
        refine x_iload_n d_N_could_52 rfl 2 rfl ?_
        refine x_iconst d_N_could_53 ic_1 ?_
        refine x_iload_n d_N_could_54 rfl 3 rfl ?_
        refine x_ishl d_N_could_55 ?_
        refine x_ior d_N_could_56 ?_
        obtain ⟨v17, e18, h⟩ := lt_inv h
        refine y_istore_n (L1 := [(0, .ref 0), (1, .int z1), (2, .int v17), (3, .int w3)]) e18 d_N_could_57 rfl (Nat.le_of_ble_eq_true rfl) rfl rfl ?_
        obtain ⟨v19, e20, h⟩ := lt_inv h
        refine y_iinc (L1 := [(0, .ref 0), (1, .int z1), (2, .int v17), (3, .int v19)]) e20 ic_1 d_N_could_58 3 rfl (Nat.le_of_ble_eq_true rfl) rfl rfl ?_
        refine x_goto (tgt := 17) d_N_could_61 rfl ?_
        exact ih v17 v19 _ h
set_option maxRecDepth 100000 in
set_option maxHeartbeats 4000000 in
theorem c_N_could {X : Nat × (Nat → Int32)} {D F G : Nat} (hD : 5 ≤ D) {S : St} {p1 : Int32} {res : Int32 × St} (h : fN_could F G S p1 = some res) : Ek X (D) mN_could 0 [(0, .ref 0), (1, .int p1)] [] S (some (.int res.1)) res.2 := by
  obtain ⟨D, rfl⟩ : ∃ E, D = E + 1 := ⟨D - 1, by omega⟩
  unfold fN_could at h
  refine x_iload_n d_N_could_0 rfl 1 rfl ?_
  obtain ⟨v2, q1, h⟩ := bd_inv h
  refine y_S1i (v := v2) (S1 := S) d_N_could_1 ml_0_173 (Nat.le_of_ble_eq_true rfl) (Nat.le_of_ble_eq_true rfl) (c_N_isHand (by omega) q1) ?_
  refine x_if_ne (tgt := 9) d_N_could_4 rfl (fun c3 => ?_) (fun c3 => ?_)
  · replace h := ite_f c3 h
    refine x_aload_n d_N_could_9 rfl 0 rfl ?_
    obtain ⟨S5, q4, h⟩ := bd_inv h
    refine y_V0v (S1 := S5) d_N_could_10 ml_0_176 kd_0 rfl (Nat.le_of_ble_eq_true rfl) (Nat.le_of_ble_eq_true rfl) (c_N_lookAtKeys (by omega) q4) ?_
    refine x_iconst d_N_could_13 ic_0 ?_
    refine x_istore_n (L1 := [(0, .ref 0), (1, .int p1), (2, .int (0 : Int32))]) d_N_could_14 rfl (Nat.le_of_ble_eq_true rfl) rfl rfl ?_
    refine x_iconst d_N_could_15 ic_0 ?_
    refine x_istore_n (L1 := [(0, .ref 0), (1, .int p1), (2, .int (0 : Int32)), (3, .int (0 : Int32))]) d_N_could_16 rfl (Nat.le_of_ble_eq_true rfl) rfl rfl ?_
    refine T_N_could_17 (by omega)   F (0 : Int32) (0 : Int32) _ h
  · replace h := ite_t c3 h
    refine x_iconst d_N_could_7 ic_m1 ?_
    obtain rfl := Option.some.inj h
    exact x_ret (r := some (.int (-1 : Int32))) d_N_could_8 ⟨_, rfl, rfl⟩
/-! NinetyPlayersModel.could -/
def b_M_could_13 (F G : Nat) (z1 : Int32) (rec : Int32 → Int32 → St → Option (Int32 × St)) (w2 : Int32) (w3 : Int32) (S : St) : Option (Int32 × St) :=
  if (S.1 78 48) ≤ w3 then some (w2, S) else bd (fM_isOut F G S w3) fun v6 => if v6 = 0 then lt (w3 + 1) fun v8 => rec w2 v8 S else bd2 (fM_forbidden F G S w3 z1) fun v11 S12 => if v11 = 0 then lt (w2 ||| ((1 : Int32) <<< (w3 &&& 31))) fun v16 => lt (w3 + 1) fun v18 => rec v16 v18 S12 else lt (w3 + 1) fun v14 => rec w2 v14 S12
def fM_could (F G : Nat) (S : St) (p1 : Int32) : Option (Int32 × St) :=
  bd (fM_isHand F G S p1) fun v2 => if v2 = 0 then some ((-1 : Int32), S) else fx3 (b_M_could_13 F G p1) F (0 : Int32) (0 : Int32) S
set_option maxRecDepth 100000 in
set_option maxHeartbeats 4000000 in
theorem T_M_could_13 {X : Nat × (Nat → Int32)} {D F G : Nat} (hD : 4 ≤ D + 1) {z1 : Int32} : ∀ (f : Nat) (w2 : Int32) (w3 : Int32) (S : St) (res : Int32 × St), fx3 (b_M_could_13 F G z1 ) f w2 w3 S = some res → Ek X (D + 1) mM_could 13 [(0, .ref 78), (1, .int z1), (2, .int w2), (3, .int w3)] [] S (some (.int res.1)) res.2 := by
  refine fx3_ind ?_
  intro rec ih w2 w3 S res h
  unfold b_M_could_13 at h
  refine x_iload_n d_M_could_13 rfl 3 rfl ?_
  refine x_aload_n d_M_could_14 rfl 0 rfl ?_
  refine y_getI d_M_could_15 fl_11_322 rfl kd_78 ?_
  refine x_icmp_ge (tgt := 50) d_M_could_18 rfl (fun c4 => ?_) (fun c4 => ?_)
  · replace h := ite_t c4 h
    refine x_iload_n d_M_could_50 rfl 2 rfl ?_
    obtain rfl := Option.some.inj h
    exact x_ret (r := some (.int w2)) d_M_could_51 ⟨_, rfl, rfl⟩
  · replace h := ite_f c4 h
    refine x_aload_n d_M_could_21 rfl 0 rfl ?_
    refine x_iload_n d_M_could_22 rfl 3 rfl ?_
    obtain ⟨v6, q5, h⟩ := bd_inv h
    refine y_V1i (v := v6) (S1 := S) d_M_could_23 ml_11_515 kd_78 rfl (Nat.le_of_ble_eq_true rfl) (Nat.le_of_ble_eq_true rfl) (c_M_isOut (by omega) q5) ?_
    refine x_if_eq (tgt := 44) d_M_could_26 rfl (fun c7 => ?_) (fun c7 => ?_)
    · replace h := ite_t c7 h
      obtain ⟨v8, e9, h⟩ := lt_inv h
      refine y_iinc (L1 := [(0, .ref 78), (1, .int z1), (2, .int w2), (3, .int v8)]) e9 ic_1 d_M_could_44 3 rfl (Nat.le_of_ble_eq_true rfl) rfl rfl ?_
      refine x_goto (tgt := 13) d_M_could_47 rfl ?_
      exact ih w2 v8 S _ h
    · replace h := ite_f c7 h
      refine x_aload_n d_M_could_29 rfl 0 rfl ?_
      refine x_iload_n d_M_could_30 rfl 3 rfl ?_
      refine x_iload_n d_M_could_31 rfl 1 rfl ?_
      obtain ⟨v11, S12, q10, h⟩ := bd2_inv h
      refine y_V2i (v := v11) (S1 := S12) d_M_could_32 ml_11_518 kd_78 rfl (Nat.le_of_ble_eq_true rfl) (Nat.le_of_ble_eq_true rfl) (c_M_forbidden (by omega) q10) ?_
      refine x_if_ne (tgt := 44) d_M_could_35 rfl (fun c13 => ?_) (fun c13 => ?_)
      · replace h := ite_f c13 h
        obtain ⟨v14, e15, h⟩ := lt_inv h
        refine y_iinc (L1 := [(0, .ref 78), (1, .int z1), (2, .int w2), (3, .int v14)]) e15 ic_1 d_M_could_44 3 rfl (Nat.le_of_ble_eq_true rfl) rfl rfl ?_
        refine x_goto (tgt := 13) d_M_could_47 rfl ?_
        exact ih w2 v14 S12 _ h
      · replace h := ite_t c13 h
        refine x_iload_n d_M_could_38 rfl 2 rfl ?_
        refine x_iconst d_M_could_39 ic_1 ?_
        refine x_iload_n d_M_could_40 rfl 3 rfl ?_
        refine x_ishl d_M_could_41 ?_
        refine x_ior d_M_could_42 ?_
        obtain ⟨v16, e17, h⟩ := lt_inv h
        refine y_istore_n (L1 := [(0, .ref 78), (1, .int z1), (2, .int v16), (3, .int w3)]) e17 d_M_could_43 rfl (Nat.le_of_ble_eq_true rfl) rfl rfl ?_
        obtain ⟨v18, e19, h⟩ := lt_inv h
        refine y_iinc (L1 := [(0, .ref 78), (1, .int z1), (2, .int v16), (3, .int v18)]) e19 ic_1 d_M_could_44 3 rfl (Nat.le_of_ble_eq_true rfl) rfl rfl ?_
        refine x_goto (tgt := 13) d_M_could_47 rfl ?_
        exact ih v16 v18 S12 _ h
set_option maxRecDepth 100000 in
set_option maxHeartbeats 4000000 in
theorem c_M_could {X : Nat × (Nat → Int32)} {D F G : Nat} (hD : 4 ≤ D) {S : St} {p1 : Int32} {res : Int32 × St} (h : fM_could F G S p1 = some res) : Ek X (D) mM_could 0 [(0, .ref 78), (1, .int p1)] [] S (some (.int res.1)) res.2 := by
  obtain ⟨D, rfl⟩ : ∃ E, D = E + 1 := ⟨D - 1, by omega⟩
  unfold fM_could at h
  refine x_iload_n d_M_could_0 rfl 1 rfl ?_
  obtain ⟨v2, q1, h⟩ := bd_inv h
  refine y_S1i (v := v2) (S1 := S) d_M_could_1 ml_11_476 (Nat.le_of_ble_eq_true rfl) (Nat.le_of_ble_eq_true rfl) (c_M_isHand (by omega) q1) ?_
  refine x_if_ne (tgt := 9) d_M_could_4 rfl (fun c3 => ?_) (fun c3 => ?_)
  · replace h := ite_f c3 h
    refine x_iconst d_M_could_9 ic_0 ?_
    refine x_istore_n (L1 := [(0, .ref 78), (1, .int p1), (2, .int (0 : Int32))]) d_M_could_10 rfl (Nat.le_of_ble_eq_true rfl) rfl rfl ?_
    refine x_iconst d_M_could_11 ic_0 ?_
    refine x_istore_n (L1 := [(0, .ref 78), (1, .int p1), (2, .int (0 : Int32)), (3, .int (0 : Int32))]) d_M_could_12 rfl (Nat.le_of_ble_eq_true rfl) rfl rfl ?_
    refine T_M_could_13 (by omega)   F (0 : Int32) (0 : Int32) S _ h
  · replace h := ite_t c3 h
    refine x_iconst d_M_could_7 ic_m1 ?_
    obtain rfl := Option.some.inj h
    exact x_ret (r := some (.int (-1 : Int32))) d_M_could_8 ⟨_, rfl, rfl⟩
/-! NinetyPlayers.lies -/
def fN_lies (F G : Nat) (S : St) (p1 : Int32) : Option (Int32) :=
  if p1 < 0 then some (-1 : Int32) else if (S.1 0 12) ≤ p1 then some (-1 : Int32) else gd (inB p1 10) (some (S.1 77 p1.toNatClampNeg))
set_option maxRecDepth 100000 in
set_option maxHeartbeats 4000000 in
theorem c_N_lies {X : Nat × (Nat → Int32)} {D F G : Nat} (hD : 0 ≤ D) {S : St} {p1 : Int32} {res : Int32} (h : fN_lies F G S p1 = some res) : Ek X (D) mN_lies 0 [(0, .ref 0), (1, .int p1)] [] S (some (.int res)) S := by
  unfold fN_lies at h
  refine x_iload_n d_N_lies_0 rfl 1 rfl ?_
  refine x_if_lt (tgt := 21) d_N_lies_1 rfl (fun c1 => ?_) (fun c1 => ?_)
  · replace h := ite_t c1 h
    refine x_iconst d_N_lies_21 ic_m1 ?_
    obtain rfl := Option.some.inj h
    exact x_ret (r := some (.int (-1 : Int32))) d_N_lies_22 ⟨_, rfl, rfl⟩
  · replace h := ite_f c1 h
    refine x_iload_n d_N_lies_4 rfl 1 rfl ?_
    refine x_aload_n d_N_lies_5 rfl 0 rfl ?_
    refine y_getI d_N_lies_6 fl_0_115 rfl kd_0 ?_
    refine x_icmp_ge (tgt := 21) d_N_lies_9 rfl (fun c2 => ?_) (fun c2 => ?_)
    · replace h := ite_t c2 h
      refine x_iconst d_N_lies_21 ic_m1 ?_
      obtain rfl := Option.some.inj h
      exact x_ret (r := some (.int (-1 : Int32))) d_N_lies_22 ⟨_, rfl, rfl⟩
    · replace h := ite_f c2 h
      refine x_aload_n d_N_lies_12 rfl 0 rfl ?_
      refine y_getR d_N_lies_13 fl_0_77 rfl kd_0 rr_0_11 ?_
      refine x_iload_n d_N_lies_16 rfl 1 rfl ?_
      obtain ⟨g3, h⟩ := gd_inv h
      refine y_iald d_N_lies_17 kd_77 g3 ?_
      refine x_goto (tgt := 22) d_N_lies_18 rfl ?_
      obtain rfl := Option.some.inj h
      exact x_ret (r := some (.int (S.1 77 p1.toNatClampNeg))) d_N_lies_22 ⟨_, rfl, rfl⟩
/-! NinetyPlayersModel.lies -/
def fM_lies (F G : Nat) (S : St) (p1 : Int32) : Option (Int32) :=
  bd (fM_isIn F G S p1 (0 : Int32) ((S.1 78 68) - (1 : Int32))) fun v2 => if v2 = 0 then some (-1 : Int32) else gd (inB p1 10) (some (S.1 105 p1.toNatClampNeg))
set_option maxRecDepth 100000 in
set_option maxHeartbeats 4000000 in
theorem c_M_lies {X : Nat × (Nat → Int32)} {D F G : Nat} (hD : 1 ≤ D) {S : St} {p1 : Int32} {res : Int32} (h : fM_lies F G S p1 = some res) : Ek X (D) mM_lies 0 [(0, .ref 78), (1, .int p1)] [] S (some (.int res)) S := by
  obtain ⟨D, rfl⟩ : ∃ E, D = E + 1 := ⟨D - 1, by omega⟩
  unfold fM_lies at h
  refine x_iload_n d_M_lies_0 rfl 1 rfl ?_
  refine x_iconst d_M_lies_1 ic_0 ?_
  refine x_aload_n d_M_lies_2 rfl 0 rfl ?_
  refine y_getI d_M_lies_3 fl_11_426 rfl kd_78 ?_
  refine x_iconst d_M_lies_6 ic_1 ?_
  refine x_isub d_M_lies_7 ?_
  obtain ⟨v2, q1, h⟩ := bd_inv h
  refine y_S3i (v := v2) (S1 := S) d_M_lies_8 ml_11_429 (Nat.le_of_ble_eq_true rfl) (Nat.le_of_ble_eq_true rfl) (c_M_isIn (by omega) q1) ?_
  refine x_if_eq (tgt := 23) d_M_lies_11 rfl (fun c3 => ?_) (fun c3 => ?_)
  · replace h := ite_t c3 h
    refine x_iconst d_M_lies_23 ic_m1 ?_
    obtain rfl := Option.some.inj h
    exact x_ret (r := some (.int (-1 : Int32))) d_M_lies_24 ⟨_, rfl, rfl⟩
  · replace h := ite_f c3 h
    refine x_aload_n d_M_lies_14 rfl 0 rfl ?_
    refine y_getR d_M_lies_15 fl_11_108 rfl kd_78 rr_78_65 ?_
    refine x_iload_n d_M_lies_18 rfl 1 rfl ?_
    obtain ⟨g4, h⟩ := gd_inv h
    refine y_iald d_M_lies_19 kd_105 g4 ?_
    refine x_goto (tgt := 24) d_M_lies_20 rfl ?_
    obtain rfl := Option.some.inj h
    exact x_ret (r := some (.int (S.1 105 p1.toNatClampNeg))) d_M_lies_24 ⟨_, rfl, rfl⟩
/-! NinetyPlayers$Witness.tell -/
def fI_tell (F G : Nat) (S : St) (p1 : Int32) (p2 : Int32) (p3 : Int32) : Option (Int32 × St) :=
  if (S.1 69 0) < (30 : Int32) then gd (inB (S.1 69 0) 30) (lt (sI S 71 (S.1 69 0).toNatClampNeg p1) fun S3 => gd (inB (S3.1 69 0) 30) (lt (sI S3 72 (S3.1 69 0).toNatClampNeg p2) fun S6 => gd (inB (S6.1 69 0) 30) (lt (sI S6 73 (S6.1 69 0).toNatClampNeg (vp_nar .boolean p3)) fun S9 => gd (inB (S9.1 69 0) 30) (lt (sI S9 74 (S9.1 69 0).toNatClampNeg (S9.1 69 1)) fun S12 => gd (inB (S12.1 69 0) 30) (lt (sI S12 75 (S12.1 69 0).toNatClampNeg (-1 : Int32)) fun S15 => lt (sI S15 69 0 ((S15.1 69 0) + (1 : Int32))) fun S17 => some ((S17.1 69 0) - (1 : Int32), S17)))))) else some ((-1 : Int32), S)
set_option maxRecDepth 100000 in
set_option maxHeartbeats 4000000 in
theorem c_I_tell {X : Nat × (Nat → Int32)} {D F G : Nat} (hD : 0 ≤ D) {S : St} {p1 : Int32} {p2 : Int32} {p3 : Int32} {res : Int32 × St} (h : fI_tell F G S p1 p2 p3 = some res) : Ek X (D) mI_tell 0 [(0, .ref 69), (1, .int p1), (2, .int p2), (3, .int p3)] [] S (some (.int res.1)) res.2 := by
  unfold fI_tell at h
  refine x_aload_n d_I_tell_0 rfl 0 rfl ?_
  refine y_getI d_I_tell_1 fl_10_34 rfl kd_69 ?_
  refine x_bipush d_I_tell_4 bp_30 ?_
  refine x_icmp_lt (tgt := 11) d_I_tell_6 rfl (fun c1 => ?_) (fun c1 => ?_)
  · replace h := ite_t c1 h
    refine x_aload_n d_I_tell_11 rfl 0 rfl ?_
    refine y_getR d_I_tell_12 fl_10_15 rfl kd_69 rr_69_4 ?_
    refine x_aload_n d_I_tell_15 rfl 0 rfl ?_
    refine y_getI d_I_tell_16 fl_10_34 rfl kd_69 ?_
    refine x_iload_n d_I_tell_19 rfl 1 rfl ?_
    obtain ⟨g2, h⟩ := gd_inv h
    obtain ⟨S3, e4, h⟩ := lt_inv h
    refine y_iast e4 d_I_tell_20 kd_71 g2 ?_
    refine x_aload_n d_I_tell_21 rfl 0 rfl ?_
    refine y_getR d_I_tell_22 fl_10_18 rfl kd_69 rr_69_5 ?_
    refine x_aload_n d_I_tell_25 rfl 0 rfl ?_
    refine y_getI d_I_tell_26 fl_10_34 rfl kd_69 ?_
    refine x_iload_n d_I_tell_29 rfl 2 rfl ?_
    obtain ⟨g5, h⟩ := gd_inv h
    obtain ⟨S6, e7, h⟩ := lt_inv h
    refine y_iast e7 d_I_tell_30 kd_72 g5 ?_
    refine x_aload_n d_I_tell_31 rfl 0 rfl ?_
    refine y_getR d_I_tell_32 fl_10_21 rfl kd_69 rr_69_6 ?_
    refine x_aload_n d_I_tell_35 rfl 0 rfl ?_
    refine y_getI d_I_tell_36 fl_10_34 rfl kd_69 ?_
    refine x_iload_n d_I_tell_39 rfl 3 rfl ?_
    obtain ⟨g8, h⟩ := gd_inv h
    obtain ⟨S9, e10, h⟩ := lt_inv h
    refine y_zast e10 d_I_tell_40 kd_73 g8 ?_
    refine x_aload_n d_I_tell_41 rfl 0 rfl ?_
    refine y_getR d_I_tell_42 fl_10_25 rfl kd_69 rr_69_7 ?_
    refine x_aload_n d_I_tell_45 rfl 0 rfl ?_
    refine y_getI d_I_tell_46 fl_10_34 rfl kd_69 ?_
    refine x_aload_n d_I_tell_49 rfl 0 rfl ?_
    refine y_getI d_I_tell_50 fl_10_38 rfl kd_69 ?_
    obtain ⟨g11, h⟩ := gd_inv h
    obtain ⟨S12, e13, h⟩ := lt_inv h
    refine y_iast e13 d_I_tell_53 kd_74 g11 ?_
    refine x_aload_n d_I_tell_54 rfl 0 rfl ?_
    refine y_getR d_I_tell_55 fl_10_28 rfl kd_69 rr_69_8 ?_
    refine x_aload_n d_I_tell_58 rfl 0 rfl ?_
    refine y_getI d_I_tell_59 fl_10_34 rfl kd_69 ?_
    refine x_iconst d_I_tell_62 ic_m1 ?_
    obtain ⟨g14, h⟩ := gd_inv h
    obtain ⟨S15, e16, h⟩ := lt_inv h
    refine y_iast e16 d_I_tell_63 kd_75 g14 ?_
    refine x_aload_n d_I_tell_64 rfl 0 rfl ?_
    refine x_dup d_I_tell_65 rfl ?_
    refine y_getI d_I_tell_66 fl_10_34 rfl kd_69 ?_
    refine x_iconst d_I_tell_69 ic_1 ?_
    refine x_iadd d_I_tell_70 ?_
    obtain ⟨S17, e18, h⟩ := lt_inv h
    refine y_putI e18 d_I_tell_71 fl_10_34 rfl rfl kd_69 rfl rfl ?_
    refine x_aload_n d_I_tell_74 rfl 0 rfl ?_
    refine y_getI d_I_tell_75 fl_10_34 rfl kd_69 ?_
    refine x_iconst d_I_tell_78 ic_1 ?_
    refine x_isub d_I_tell_79 ?_
    obtain rfl := Option.some.inj h
    exact x_ret (r := some (.int ((S17.1 69 0) - (1 : Int32)))) d_I_tell_80 ⟨_, rfl, rfl⟩
  · replace h := ite_f c1 h
    refine x_iconst d_I_tell_9 ic_m1 ?_
    obtain rfl := Option.some.inj h
    exact x_ret (r := some (.int (-1 : Int32))) d_I_tell_10 ⟨_, rfl, rfl⟩
/-! NinetyPlayers.heard -/
def fN_heard (F G : Nat) (S : St) (p1 : Int32) (p2 : Int32) (p3 : Int32) : Option (Int32 × St) :=
  bd (fN_isBeat F G S p1) fun v2 => if v2 = 0 then some ((-1 : Int32), S) else bd (fN_isKey F G S p2) fun v5 => if v5 = 0 then some ((-1 : Int32), S) else bd2 (fI_tell F G S p1 p2 p3) fun v8 S9 => some (v8, S9)
set_option maxRecDepth 100000 in
set_option maxHeartbeats 4000000 in
theorem c_N_heard {X : Nat × (Nat → Int32)} {D F G : Nat} (hD : 1 ≤ D) {S : St} {p1 : Int32} {p2 : Int32} {p3 : Int32} {res : Int32 × St} (h : fN_heard F G S p1 p2 p3 = some res) : Ek X (D) mN_heard 0 [(0, .ref 0), (1, .int p1), (2, .int p2), (3, .int p3)] [] S (some (.int res.1)) res.2 := by
  obtain ⟨D, rfl⟩ : ∃ E, D = E + 1 := ⟨D - 1, by omega⟩
  unfold fN_heard at h
  refine x_aload_n d_N_heard_0 rfl 0 rfl ?_
  refine x_iload_n d_N_heard_1 rfl 1 rfl ?_
  obtain ⟨v2, q1, h⟩ := bd_inv h
  refine y_V1i (v := v2) (S1 := S) d_N_heard_2 ml_0_170 kd_0 rfl (Nat.le_of_ble_eq_true rfl) (Nat.le_of_ble_eq_true rfl) (c_N_isBeat (by omega) q1) ?_
  refine x_if_eq (tgt := 15) d_N_heard_5 rfl (fun c3 => ?_) (fun c3 => ?_)
  · replace h := ite_t c3 h
    refine x_iconst d_N_heard_15 ic_m1 ?_
    obtain rfl := Option.some.inj h
    exact x_ret (r := some (.int (-1 : Int32))) d_N_heard_16 ⟨_, rfl, rfl⟩
  · replace h := ite_f c3 h
    refine x_iload_n d_N_heard_8 rfl 2 rfl ?_
    obtain ⟨v5, q4, h⟩ := bd_inv h
    refine y_S1i (v := v5) (S1 := S) d_N_heard_9 ml_0_244 (Nat.le_of_ble_eq_true rfl) (Nat.le_of_ble_eq_true rfl) (c_N_isKey (by omega) q4) ?_
    refine x_if_ne (tgt := 17) d_N_heard_12 rfl (fun c6 => ?_) (fun c6 => ?_)
    · replace h := ite_f c6 h
      refine x_aload_n d_N_heard_17 rfl 0 rfl ?_
      refine y_getR d_N_heard_18 fl_0_73 rfl kd_0 rr_0_10 ?_
      refine x_iload_n d_N_heard_21 rfl 1 rfl ?_
      refine x_iload_n d_N_heard_22 rfl 2 rfl ?_
      refine x_iload_n d_N_heard_23 rfl 3 rfl ?_
      obtain ⟨v8, S9, q7, h⟩ := bd2_inv h
      refine y_V3i (v := v8) (S1 := S9) d_N_heard_24 ml_0_321 kd_69 rfl (Nat.le_of_ble_eq_true rfl) (Nat.le_of_ble_eq_true rfl) (c_I_tell (by omega) q7) ?_
      obtain rfl := Option.some.inj h
      exact x_ret (r := some (.int v8)) d_N_heard_27 ⟨_, rfl, rfl⟩
    · replace h := ite_t c6 h
      refine x_iconst d_N_heard_15 ic_m1 ?_
      obtain rfl := Option.some.inj h
      exact x_ret (r := some (.int (-1 : Int32))) d_N_heard_16 ⟨_, rfl, rfl⟩
/-! NinetyPlayersModel.heard -/
def fM_heard (F G : Nat) (S : St) (p1 : Int32) (p2 : Int32) (p3 : Int32) : Option (Int32 × St) :=
  bd (fM_isBeat F G S p1) fun v2 => if v2 = 0 then some ((-1 : Int32), S) else bd (fM_isIn F G S p2 (0 : Int32) (87 : Int32)) fun v5 => if v5 = 0 then some ((-1 : Int32), S) else if (S.1 78 74) = (30 : Int32) then some ((-1 : Int32), S) else gd (inB (S.1 78 74) 30) (lt (sI S 108 (S.1 78 74).toNatClampNeg p1) fun S9 => gd (inB (S9.1 78 74) 30) (lt (sI S9 109 (S9.1 78 74).toNatClampNeg p2) fun S12 => gd (inB (S12.1 78 74) 30) (lt (sI S12 112 (S12.1 78 74).toNatClampNeg (vp_nar .boolean p3)) fun S15 => gd (inB (S15.1 78 74) 30) (lt (sI S15 110 (S15.1 78 74).toNatClampNeg (S15.1 78 75)) fun S18 => gd (inB (S18.1 78 74) 30) (lt (sI S18 111 (S18.1 78 74).toNatClampNeg (-1 : Int32)) fun S21 => lt (sI S21 78 74 ((S21.1 78 74) + (1 : Int32))) fun S23 => some ((S23.1 78 74) - (1 : Int32), S23))))))
set_option maxRecDepth 100000 in
set_option maxHeartbeats 4000000 in
theorem c_M_heard {X : Nat × (Nat → Int32)} {D F G : Nat} (hD : 2 ≤ D) {S : St} {p1 : Int32} {p2 : Int32} {p3 : Int32} {res : Int32 × St} (h : fM_heard F G S p1 p2 p3 = some res) : Ek X (D) mM_heard 0 [(0, .ref 78), (1, .int p1), (2, .int p2), (3, .int p3)] [] S (some (.int res.1)) res.2 := by
  obtain ⟨D, rfl⟩ : ∃ E, D = E + 1 := ⟨D - 1, by omega⟩
  unfold fM_heard at h
  refine x_aload_n d_M_heard_0 rfl 0 rfl ?_
  refine x_iload_n d_M_heard_1 rfl 1 rfl ?_
  obtain ⟨v2, q1, h⟩ := bd_inv h
  refine y_V1i (v := v2) (S1 := S) d_M_heard_2 ml_11_473 kd_78 rfl (Nat.le_of_ble_eq_true rfl) (Nat.le_of_ble_eq_true rfl) (c_M_isBeat (by omega) q1) ?_
  refine x_if_eq (tgt := 27) d_M_heard_5 rfl (fun c3 => ?_) (fun c3 => ?_)
  · replace h := ite_t c3 h
    refine x_iconst d_M_heard_27 ic_m1 ?_
    obtain rfl := Option.some.inj h
    exact x_ret (r := some (.int (-1 : Int32))) d_M_heard_28 ⟨_, rfl, rfl⟩
  · replace h := ite_f c3 h
    refine x_iload_n d_M_heard_8 rfl 2 rfl ?_
    refine x_iconst d_M_heard_9 ic_0 ?_
    refine x_bipush d_M_heard_10 bp_87 ?_
    obtain ⟨v5, q4, h⟩ := bd_inv h
    refine y_S3i (v := v5) (S1 := S) d_M_heard_12 ml_11_429 (Nat.le_of_ble_eq_true rfl) (Nat.le_of_ble_eq_true rfl) (c_M_isIn (by omega) q4) ?_
    refine x_if_eq (tgt := 27) d_M_heard_15 rfl (fun c6 => ?_) (fun c6 => ?_)
    · replace h := ite_t c6 h
      refine x_iconst d_M_heard_27 ic_m1 ?_
      obtain rfl := Option.some.inj h
      exact x_ret (r := some (.int (-1 : Int32))) d_M_heard_28 ⟨_, rfl, rfl⟩
    · replace h := ite_f c6 h
      refine x_aload_n d_M_heard_18 rfl 0 rfl ?_
      refine y_getI d_M_heard_19 fl_11_423 rfl kd_78 ?_
      refine x_bipush d_M_heard_22 bp_30 ?_
      refine x_icmp_ne (tgt := 29) d_M_heard_24 rfl (fun c7 => ?_) (fun c7 => ?_)
      · replace h := ite_f c7 h
        refine x_aload_n d_M_heard_29 rfl 0 rfl ?_
        refine y_getR d_M_heard_30 fl_11_117 rfl kd_78 rr_78_69 ?_
        refine x_aload_n d_M_heard_33 rfl 0 rfl ?_
        refine y_getI d_M_heard_34 fl_11_423 rfl kd_78 ?_
        refine x_iload_n d_M_heard_37 rfl 1 rfl ?_
        obtain ⟨g8, h⟩ := gd_inv h
        obtain ⟨S9, e10, h⟩ := lt_inv h
        refine y_iast e10 d_M_heard_38 kd_108 g8 ?_
        refine x_aload_n d_M_heard_39 rfl 0 rfl ?_
        refine y_getR d_M_heard_40 fl_11_120 rfl kd_78 rr_78_70 ?_
        refine x_aload_n d_M_heard_43 rfl 0 rfl ?_
        refine y_getI d_M_heard_44 fl_11_423 rfl kd_78 ?_
        refine x_iload_n d_M_heard_47 rfl 2 rfl ?_
        obtain ⟨g11, h⟩ := gd_inv h
        obtain ⟨S12, e13, h⟩ := lt_inv h
        refine y_iast e13 d_M_heard_48 kd_109 g11 ?_
        refine x_aload_n d_M_heard_49 rfl 0 rfl ?_
        refine y_getR d_M_heard_50 fl_11_129 rfl kd_78 rr_78_73 ?_
        refine x_aload_n d_M_heard_53 rfl 0 rfl ?_
        refine y_getI d_M_heard_54 fl_11_423 rfl kd_78 ?_
        refine x_iload_n d_M_heard_57 rfl 3 rfl ?_
        obtain ⟨g14, h⟩ := gd_inv h
        obtain ⟨S15, e16, h⟩ := lt_inv h
        refine y_zast e16 d_M_heard_58 kd_112 g14 ?_
        refine x_aload_n d_M_heard_59 rfl 0 rfl ?_
        refine y_getR d_M_heard_60 fl_11_123 rfl kd_78 rr_78_71 ?_
        refine x_aload_n d_M_heard_63 rfl 0 rfl ?_
        refine y_getI d_M_heard_64 fl_11_423 rfl kd_78 ?_
        refine x_aload_n d_M_heard_67 rfl 0 rfl ?_
        refine y_getI d_M_heard_68 fl_11_539 rfl kd_78 ?_
        obtain ⟨g17, h⟩ := gd_inv h
        obtain ⟨S18, e19, h⟩ := lt_inv h
        refine y_iast e19 d_M_heard_71 kd_110 g17 ?_
        refine x_aload_n d_M_heard_72 rfl 0 rfl ?_
        refine y_getR d_M_heard_73 fl_11_126 rfl kd_78 rr_78_72 ?_
        refine x_aload_n d_M_heard_76 rfl 0 rfl ?_
        refine y_getI d_M_heard_77 fl_11_423 rfl kd_78 ?_
        refine x_iconst d_M_heard_80 ic_m1 ?_
        obtain ⟨g20, h⟩ := gd_inv h
        obtain ⟨S21, e22, h⟩ := lt_inv h
        refine y_iast e22 d_M_heard_81 kd_111 g20 ?_
        refine x_aload_n d_M_heard_82 rfl 0 rfl ?_
        refine x_dup d_M_heard_83 rfl ?_
        refine y_getI d_M_heard_84 fl_11_423 rfl kd_78 ?_
        refine x_iconst d_M_heard_87 ic_1 ?_
        refine x_iadd d_M_heard_88 ?_
        obtain ⟨S23, e24, h⟩ := lt_inv h
        refine y_putI e24 d_M_heard_89 fl_11_423 rfl rfl kd_78 rfl rfl ?_
        refine x_aload_n d_M_heard_92 rfl 0 rfl ?_
        refine y_getI d_M_heard_93 fl_11_423 rfl kd_78 ?_
        refine x_iconst d_M_heard_96 ic_1 ?_
        refine x_isub d_M_heard_97 ?_
        obtain rfl := Option.some.inj h
        exact x_ret (r := some (.int ((S23.1 78 74) - (1 : Int32)))) d_M_heard_98 ⟨_, rfl, rfl⟩
      · replace h := ite_t c7 h
        refine x_iconst d_M_heard_27 ic_m1 ?_
        obtain rfl := Option.some.inj h
        exact x_ret (r := some (.int (-1 : Int32))) d_M_heard_28 ⟨_, rfl, rfl⟩
/-! NinetyPlayers$Witness.takeFromNowOn -/
def fI_takeFromNowOn (F G : Nat) (S : St) (p1 : Int32) : Option (Int32 × St) :=
  if p1 < 0 then some ((0 : Int32), S) else if (S.1 69 0) ≤ p1 then some ((0 : Int32), S) else gd (inB p1 30) (if (S.1 75 p1.toNatClampNeg) = (-1 : Int32) then gd (inB p1 30) (lt (sI S 75 p1.toNatClampNeg (S.1 69 1)) fun S6 => some ((1 : Int32), S6)) else some ((0 : Int32), S))
set_option maxRecDepth 100000 in
set_option maxHeartbeats 4000000 in
theorem c_I_takeFromNowOn {X : Nat × (Nat → Int32)} {D F G : Nat} (hD : 0 ≤ D) {S : St} {p1 : Int32} {res : Int32 × St} (h : fI_takeFromNowOn F G S p1 = some res) : Ek X (D) mI_takeFromNowOn 0 [(0, .ref 69), (1, .int p1)] [] S (some (.int res.1)) res.2 := by
  unfold fI_takeFromNowOn at h
  refine x_iload_n d_I_takeFromNowOn_0 rfl 1 rfl ?_
  refine x_if_lt (tgt := 22) d_I_takeFromNowOn_1 rfl (fun c1 => ?_) (fun c1 => ?_)
  · replace h := ite_t c1 h
    refine x_iconst d_I_takeFromNowOn_22 ic_0 ?_
    obtain rfl := Option.some.inj h
    exact x_ret (r := some (.int (0 : Int32))) d_I_takeFromNowOn_23 ⟨_, rfl, rfl⟩
  · replace h := ite_f c1 h
    refine x_iload_n d_I_takeFromNowOn_4 rfl 1 rfl ?_
    refine x_aload_n d_I_takeFromNowOn_5 rfl 0 rfl ?_
    refine y_getI d_I_takeFromNowOn_6 fl_10_34 rfl kd_69 ?_
    refine x_icmp_ge (tgt := 22) d_I_takeFromNowOn_9 rfl (fun c2 => ?_) (fun c2 => ?_)
    · replace h := ite_t c2 h
      refine x_iconst d_I_takeFromNowOn_22 ic_0 ?_
      obtain rfl := Option.some.inj h
      exact x_ret (r := some (.int (0 : Int32))) d_I_takeFromNowOn_23 ⟨_, rfl, rfl⟩
    · replace h := ite_f c2 h
      refine x_aload_n d_I_takeFromNowOn_12 rfl 0 rfl ?_
      refine y_getR d_I_takeFromNowOn_13 fl_10_28 rfl kd_69 rr_69_8 ?_
      refine x_iload_n d_I_takeFromNowOn_16 rfl 1 rfl ?_
      obtain ⟨g3, h⟩ := gd_inv h
      refine y_iald d_I_takeFromNowOn_17 kd_75 g3 ?_
      refine x_iconst d_I_takeFromNowOn_18 ic_m1 ?_
      refine x_icmp_eq (tgt := 24) d_I_takeFromNowOn_19 rfl (fun c4 => ?_) (fun c4 => ?_)
      · replace h := ite_t c4 h
        refine x_aload_n d_I_takeFromNowOn_24 rfl 0 rfl ?_
        refine y_getR d_I_takeFromNowOn_25 fl_10_28 rfl kd_69 rr_69_8 ?_
        refine x_iload_n d_I_takeFromNowOn_28 rfl 1 rfl ?_
        refine x_aload_n d_I_takeFromNowOn_29 rfl 0 rfl ?_
        refine y_getI d_I_takeFromNowOn_30 fl_10_38 rfl kd_69 ?_
        obtain ⟨g5, h⟩ := gd_inv h
        obtain ⟨S6, e7, h⟩ := lt_inv h
        refine y_iast e7 d_I_takeFromNowOn_33 kd_75 g5 ?_
        refine x_iconst d_I_takeFromNowOn_34 ic_1 ?_
        obtain rfl := Option.some.inj h
        exact x_ret (r := some (.int (1 : Int32))) d_I_takeFromNowOn_35 ⟨_, rfl, rfl⟩
      · replace h := ite_f c4 h
        refine x_iconst d_I_takeFromNowOn_22 ic_0 ?_
        obtain rfl := Option.some.inj h
        exact x_ret (r := some (.int (0 : Int32))) d_I_takeFromNowOn_23 ⟨_, rfl, rfl⟩
/-! NinetyPlayers.untell -/
def fN_untell (F G : Nat) (S : St) (p1 : Int32) : Option (Int32 × St) :=
  bd2 (fI_takeFromNowOn F G S p1) fun v2 S3 => gd (isB v2) (some (v2, S3))
set_option maxRecDepth 100000 in
set_option maxHeartbeats 4000000 in
theorem c_N_untell {X : Nat × (Nat → Int32)} {D F G : Nat} (hD : 1 ≤ D) {S : St} {p1 : Int32} {res : Int32 × St} (h : fN_untell F G S p1 = some res) : Ek X (D) mN_untell 0 [(0, .ref 0), (1, .int p1)] [] S (some (.int res.1)) res.2 := by
  obtain ⟨D, rfl⟩ : ∃ E, D = E + 1 := ⟨D - 1, by omega⟩
  unfold fN_untell at h
  refine x_aload_n d_N_untell_0 rfl 0 rfl ?_
  refine y_getR d_N_untell_1 fl_0_73 rfl kd_0 rr_0_10 ?_
  refine x_iload_n d_N_untell_4 rfl 1 rfl ?_
  obtain ⟨v2, S3, q1, h⟩ := bd2_inv h
  refine y_V1i (v := v2) (S1 := S3) d_N_untell_5 ml_0_325 kd_69 rfl (Nat.le_of_ble_eq_true rfl) (Nat.le_of_ble_eq_true rfl) (c_I_takeFromNowOn (by omega) q1) ?_
  obtain ⟨g4, h⟩ := gd_inv h
  obtain rfl := Option.some.inj h
  exact x_ret (r := some (.int v2)) d_N_untell_8 ⟨_, rfl, isB_nar g4⟩
/-! NinetyPlayersModel.untell -/
def fM_untell (F G : Nat) (S : St) (p1 : Int32) : Option (Int32 × St) :=
  bd (fM_isIn F G S p1 (0 : Int32) ((S.1 78 74) - (1 : Int32))) fun v2 => if v2 = 0 then some ((0 : Int32), S) else gd (inB p1 30) (if (S.1 111 p1.toNatClampNeg) < 0 then gd (inB p1 30) (lt (sI S 111 p1.toNatClampNeg (S.1 78 75)) fun S7 => some ((1 : Int32), S7)) else some ((0 : Int32), S))
set_option maxRecDepth 100000 in
set_option maxHeartbeats 4000000 in
theorem c_M_untell {X : Nat × (Nat → Int32)} {D F G : Nat} (hD : 1 ≤ D) {S : St} {p1 : Int32} {res : Int32 × St} (h : fM_untell F G S p1 = some res) : Ek X (D) mM_untell 0 [(0, .ref 78), (1, .int p1)] [] S (some (.int res.1)) res.2 := by
  obtain ⟨D, rfl⟩ : ∃ E, D = E + 1 := ⟨D - 1, by omega⟩
  unfold fM_untell at h
  refine x_iload_n d_M_untell_0 rfl 1 rfl ?_
  refine x_iconst d_M_untell_1 ic_0 ?_
  refine x_aload_n d_M_untell_2 rfl 0 rfl ?_
  refine y_getI d_M_untell_3 fl_11_423 rfl kd_78 ?_
  refine x_iconst d_M_untell_6 ic_1 ?_
  refine x_isub d_M_untell_7 ?_
  obtain ⟨v2, q1, h⟩ := bd_inv h
  refine y_S3i (v := v2) (S1 := S) d_M_untell_8 ml_11_429 (Nat.le_of_ble_eq_true rfl) (Nat.le_of_ble_eq_true rfl) (c_M_isIn (by omega) q1) ?_
  refine x_if_eq (tgt := 23) d_M_untell_11 rfl (fun c3 => ?_) (fun c3 => ?_)
  · replace h := ite_t c3 h
    refine x_iconst d_M_untell_23 ic_0 ?_
    obtain rfl := Option.some.inj h
    exact x_ret (r := some (.int (0 : Int32))) d_M_untell_24 ⟨_, rfl, rfl⟩
  · replace h := ite_f c3 h
    refine x_aload_n d_M_untell_14 rfl 0 rfl ?_
    refine y_getR d_M_untell_15 fl_11_126 rfl kd_78 rr_78_72 ?_
    refine x_iload_n d_M_untell_18 rfl 1 rfl ?_
    obtain ⟨g4, h⟩ := gd_inv h
    refine y_iald d_M_untell_19 kd_111 g4 ?_
    refine x_if_lt (tgt := 25) d_M_untell_20 rfl (fun c5 => ?_) (fun c5 => ?_)
    · replace h := ite_t c5 h
      refine x_aload_n d_M_untell_25 rfl 0 rfl ?_
      refine y_getR d_M_untell_26 fl_11_126 rfl kd_78 rr_78_72 ?_
      refine x_iload_n d_M_untell_29 rfl 1 rfl ?_
      refine x_aload_n d_M_untell_30 rfl 0 rfl ?_
      refine y_getI d_M_untell_31 fl_11_539 rfl kd_78 ?_
      obtain ⟨g6, h⟩ := gd_inv h
      obtain ⟨S7, e8, h⟩ := lt_inv h
      refine y_iast e8 d_M_untell_34 kd_111 g6 ?_
      refine x_iconst d_M_untell_35 ic_1 ?_
      obtain rfl := Option.some.inj h
      exact x_ret (r := some (.int (1 : Int32))) d_M_untell_36 ⟨_, rfl, rfl⟩
    · replace h := ite_f c5 h
      refine x_iconst d_M_untell_23 ic_0 ?_
      obtain rfl := Option.some.inj h
      exact x_ret (r := some (.int (0 : Int32))) d_M_untell_24 ⟨_, rfl, rfl⟩
/-! NinetyPlayers$Witness.goOn -/
def fI_goOn (F G : Nat) (S : St) (p1 : Int32) : Option (Int32 × St) :=
  if p1 < 0 then some ((-1 : Int32), S) else if (1000 : Int32) < p1 then some ((-1 : Int32), S) else if ((S.1 69 1) + p1) ≤ (100000 : Int32) then lt (sI S 69 1 ((S.1 69 1) + p1)) fun S4 => some (S4.1 69 1, S4) else some ((-1 : Int32), S)
set_option maxRecDepth 100000 in
set_option maxHeartbeats 4000000 in
theorem c_I_goOn {X : Nat × (Nat → Int32)} {D F G : Nat} (hD : 0 ≤ D) {S : St} {p1 : Int32} {res : Int32 × St} (h : fI_goOn F G S p1 = some res) : Ek X (D) mI_goOn 0 [(0, .ref 69), (1, .int p1)] [] S (some (.int res.1)) res.2 := by
  unfold fI_goOn at h
  refine x_iload_n d_I_goOn_0 rfl 1 rfl ?_
  refine x_if_lt (tgt := 22) d_I_goOn_1 rfl (fun c1 => ?_) (fun c1 => ?_)
  · replace h := ite_t c1 h
    refine x_iconst d_I_goOn_22 ic_m1 ?_
    obtain rfl := Option.some.inj h
    exact x_ret (r := some (.int (-1 : Int32))) d_I_goOn_23 ⟨_, rfl, rfl⟩
  · replace h := ite_f c1 h
    refine x_iload_n d_I_goOn_4 rfl 1 rfl ?_
    refine x_sipush d_I_goOn_5 sp_1000 ?_
    refine x_icmp_gt (tgt := 22) d_I_goOn_8 rfl (fun c2 => ?_) (fun c2 => ?_)
    · replace h := ite_t c2 h
      refine x_iconst d_I_goOn_22 ic_m1 ?_
      obtain rfl := Option.some.inj h
      exact x_ret (r := some (.int (-1 : Int32))) d_I_goOn_23 ⟨_, rfl, rfl⟩
    · replace h := ite_f c2 h
      refine x_aload_n d_I_goOn_11 rfl 0 rfl ?_
      refine y_getI d_I_goOn_12 fl_10_38 rfl kd_69 ?_
      refine x_iload_n d_I_goOn_15 rfl 1 rfl ?_
      refine x_iadd d_I_goOn_16 ?_
      refine x_ldc d_I_goOn_17 kc_10_41 ?_
      refine x_icmp_le (tgt := 24) d_I_goOn_19 rfl (fun c3 => ?_) (fun c3 => ?_)
      · replace h := ite_t c3 h
        refine x_aload_n d_I_goOn_24 rfl 0 rfl ?_
        refine x_dup d_I_goOn_25 rfl ?_
        refine y_getI d_I_goOn_26 fl_10_38 rfl kd_69 ?_
        refine x_iload_n d_I_goOn_29 rfl 1 rfl ?_
        refine x_iadd d_I_goOn_30 ?_
        obtain ⟨S4, e5, h⟩ := lt_inv h
        refine y_putI e5 d_I_goOn_31 fl_10_38 rfl rfl kd_69 rfl rfl ?_
        refine x_aload_n d_I_goOn_34 rfl 0 rfl ?_
        refine y_getI d_I_goOn_35 fl_10_38 rfl kd_69 ?_
        obtain rfl := Option.some.inj h
        exact x_ret (r := some (.int (S4.1 69 1))) d_I_goOn_38 ⟨_, rfl, rfl⟩
      · replace h := ite_f c3 h
        refine x_iconst d_I_goOn_22 ic_m1 ?_
        obtain rfl := Option.some.inj h
        exact x_ret (r := some (.int (-1 : Int32))) d_I_goOn_23 ⟨_, rfl, rfl⟩
/-! NinetyPlayers.later -/
def fN_later (F G : Nat) (S : St) (p1 : Int32) : Option (Int32 × St) :=
  bd2 (fI_goOn F G S p1) fun v2 S3 => some (v2, S3)
set_option maxRecDepth 100000 in
set_option maxHeartbeats 4000000 in
theorem c_N_later {X : Nat × (Nat → Int32)} {D F G : Nat} (hD : 1 ≤ D) {S : St} {p1 : Int32} {res : Int32 × St} (h : fN_later F G S p1 = some res) : Ek X (D) mN_later 0 [(0, .ref 0), (1, .int p1)] [] S (some (.int res.1)) res.2 := by
  obtain ⟨D, rfl⟩ : ∃ E, D = E + 1 := ⟨D - 1, by omega⟩
  unfold fN_later at h
  refine x_aload_n d_N_later_0 rfl 0 rfl ?_
  refine y_getR d_N_later_1 fl_0_73 rfl kd_0 rr_0_10 ?_
  refine x_iload_n d_N_later_4 rfl 1 rfl ?_
  obtain ⟨v2, S3, q1, h⟩ := bd2_inv h
  refine y_V1i (v := v2) (S1 := S3) d_N_later_5 ml_0_328 kd_69 rfl (Nat.le_of_ble_eq_true rfl) (Nat.le_of_ble_eq_true rfl) (c_I_goOn (by omega) q1) ?_
  obtain rfl := Option.some.inj h
  exact x_ret (r := some (.int v2)) d_N_later_8 ⟨_, rfl, rfl⟩
/-! NinetyPlayersModel.later -/
def fM_later (F G : Nat) (S : St) (p1 : Int32) : Option (Int32 × St) :=
  if p1 < 0 then some ((-1 : Int32), S) else if (1000 : Int32) < p1 then some ((-1 : Int32), S) else if ((S.1 78 75) + p1) ≤ (100000 : Int32) then lt (sI S 78 75 ((S.1 78 75) + p1)) fun S4 => some (S4.1 78 75, S4) else some ((-1 : Int32), S)
set_option maxRecDepth 100000 in
set_option maxHeartbeats 4000000 in
theorem c_M_later {X : Nat × (Nat → Int32)} {D F G : Nat} (hD : 0 ≤ D) {S : St} {p1 : Int32} {res : Int32 × St} (h : fM_later F G S p1 = some res) : Ek X (D) mM_later 0 [(0, .ref 78), (1, .int p1)] [] S (some (.int res.1)) res.2 := by
  unfold fM_later at h
  refine x_iload_n d_M_later_0 rfl 1 rfl ?_
  refine x_if_lt (tgt := 23) d_M_later_1 rfl (fun c1 => ?_) (fun c1 => ?_)
  · replace h := ite_t c1 h
    refine x_iconst d_M_later_23 ic_m1 ?_
    obtain rfl := Option.some.inj h
    exact x_ret (r := some (.int (-1 : Int32))) d_M_later_24 ⟨_, rfl, rfl⟩
  · replace h := ite_f c1 h
    refine x_iload_n d_M_later_4 rfl 1 rfl ?_
    refine x_sipush d_M_later_5 sp_1000 ?_
    refine x_icmp_gt (tgt := 23) d_M_later_8 rfl (fun c2 => ?_) (fun c2 => ?_)
    · replace h := ite_t c2 h
      refine x_iconst d_M_later_23 ic_m1 ?_
      obtain rfl := Option.some.inj h
      exact x_ret (r := some (.int (-1 : Int32))) d_M_later_24 ⟨_, rfl, rfl⟩
    · replace h := ite_f c2 h
      refine x_aload_n d_M_later_11 rfl 0 rfl ?_
      refine y_getI d_M_later_12 fl_11_539 rfl kd_78 ?_
      refine x_iload_n d_M_later_15 rfl 1 rfl ?_
      refine x_iadd d_M_later_16 ?_
      refine x_ldcw d_M_later_17 kc_11_542 ?_
      refine x_icmp_le (tgt := 25) d_M_later_20 rfl (fun c3 => ?_) (fun c3 => ?_)
      · replace h := ite_t c3 h
        refine x_aload_n d_M_later_25 rfl 0 rfl ?_
        refine x_dup d_M_later_26 rfl ?_
        refine y_getI d_M_later_27 fl_11_539 rfl kd_78 ?_
        refine x_iload_n d_M_later_30 rfl 1 rfl ?_
        refine x_iadd d_M_later_31 ?_
        obtain ⟨S4, e5, h⟩ := lt_inv h
        refine y_putI e5 d_M_later_32 fl_11_539 rfl rfl kd_78 rfl rfl ?_
        refine x_aload_n d_M_later_35 rfl 0 rfl ?_
        refine y_getI d_M_later_36 fl_11_539 rfl kd_78 ?_
        obtain rfl := Option.some.inj h
        exact x_ret (r := some (.int (S4.1 78 75))) d_M_later_39 ⟨_, rfl, rfl⟩
      · replace h := ite_f c3 h
        refine x_iconst d_M_later_23 ic_m1 ?_
        obtain rfl := Option.some.inj h
        exact x_ret (r := some (.int (-1 : Int32))) d_M_later_24 ⟨_, rfl, rfl⟩
/-! NinetyPlayers$Witness.soundersOf -/
def b_I_soundersOf_5 (F G : Nat) (S : St) (z0 : Nat) (z1 : Int32) (z2 : Int32) (rec : Int32 → Int32 → Option (Int32)) (w3 : Int32) (w4 : Int32) : Option (Int32) :=
  if (S.1 z0 6) ≤ w4 then some w3 else gd (inB w4 10) (lt (S.1 (z0 + 5) w4.toNatClampNeg) fun v3 => gd (inB w4 10) (if (S.1 (z0 + 6) w4.toNatClampNeg) = z2 then if z1 < v3 then lt (w4 + 1) fun v10 => rec w3 v10 else gd (inB w4 10) (if (v3 + (S.1 (z0 + 7) w4.toNatClampNeg)) ≤ z1 then lt (w4 + 1) fun v14 => rec w3 v14 else lt (w3 ||| ((1 : Int32) <<< (w4 &&& 31))) fun v16 => lt (w4 + 1) fun v18 => rec v16 v18) else lt (w4 + 1) fun v7 => rec w3 v7))
def fI_soundersOf (F G : Nat) (S : St) (o2 : Nat) (p2 : Int32) (p3 : Int32) : Option (Int32) :=
  gd (isSc o2) (fx2 (b_I_soundersOf_5 F G S o2 p2 p3) F (0 : Int32) (0 : Int32))
set_option maxRecDepth 100000 in
set_option maxHeartbeats 4000000 in
theorem T_I_soundersOf_5 {X : Nat × (Nat → Int32)} {D F G : Nat} (hD : 0 ≤ D) {S : St} {z0 : Nat} {z1 : Int32} {z2 : Int32} (hz0 : isSc z0 = true) : ∀ (f : Nat) (w3 : Int32) (w4 : Int32) (res : Int32), fx2 (b_I_soundersOf_5 F G S z0 z1 z2 ) f w3 w4 = some res → Ek X (D) mI_soundersOf 5 [(0, .ref z0), (1, .int z1), (2, .int z2), (3, .int w3), (4, .int w4)] [] S (some (.int res)) S := by
  refine fx2_ind ?_
  intro rec ih w3 w4 res h
  unfold b_I_soundersOf_5 at h
  refine x_iload d_I_soundersOf_5 4 rfl ?_
  refine x_aload_n d_I_soundersOf_7 rfl 0 rfl ?_
  refine y_getI d_I_soundersOf_8 fl_10_49 rfl (ksSc hz0) ?_
  refine x_icmp_ge (tgt := 67) d_I_soundersOf_11 rfl (fun c1 => ?_) (fun c1 => ?_)
  · replace h := ite_t c1 h
    refine x_iload_n d_I_soundersOf_67 rfl 3 rfl ?_
    obtain rfl := Option.some.inj h
    exact x_ret (r := some (.int w3)) d_I_soundersOf_68 ⟨_, rfl, rfl⟩
  · replace h := ite_f c1 h
    refine x_aload_n d_I_soundersOf_14 rfl 0 rfl ?_
    refine y_getR d_I_soundersOf_15 fl_10_72 rfl (ksSc hz0) (rrSc_11 hz0) ?_
    refine x_iload d_I_soundersOf_18 4 rfl ?_
    obtain ⟨g2, h⟩ := gd_inv h
    refine y_iald d_I_soundersOf_20 (ksSc_5 hz0) g2 ?_
    obtain ⟨v3, e4, h⟩ := lt_inv h
    refine y_istore (L1 := [(0, .ref z0), (1, .int z1), (2, .int z2), (3, .int w3), (4, .int w4), (5, .int v3)]) e4 d_I_soundersOf_21 (Nat.le_of_ble_eq_true rfl) rfl rfl ?_
    refine x_aload_n d_I_soundersOf_23 rfl 0 rfl ?_
    refine y_getR d_I_soundersOf_24 fl_10_75 rfl (ksSc hz0) (rrSc_12 hz0) ?_
    refine x_iload d_I_soundersOf_27 4 rfl ?_
    obtain ⟨g5, h⟩ := gd_inv h
    refine y_iald d_I_soundersOf_29 (ksSc_6 hz0) g5 ?_
    refine x_iload_n d_I_soundersOf_30 rfl 2 rfl ?_
    refine x_icmp_ne (tgt := 61) d_I_soundersOf_31 rfl (fun c6 => ?_) (fun c6 => ?_)
    · replace h := ite_f c6 h
      obtain ⟨v7, e8, h⟩ := lt_inv h
      refine y_iinc (L1 := [(0, .ref z0), (1, .int z1), (2, .int z2), (3, .int w3), (4, .int v7), (5, .int v3)]) e8 ic_1 d_I_soundersOf_61 4 rfl (Nat.le_of_ble_eq_true rfl) rfl rfl ?_
      refine x_goto (tgt := 5) d_I_soundersOf_64 rfl ?_
      refine y_pick (L1 := [(0, .ref z0), (1, .int z1), (2, .int z2), (3, .int w3), (4, .int v7)]) [0, 1, 2, 3, 4] rfl ?_
      exact ih w3 v7 _ h
    · replace h := ite_t c6 h
      refine x_iload d_I_soundersOf_34 5 rfl ?_
      refine x_iload_n d_I_soundersOf_36 rfl 1 rfl ?_
      refine x_icmp_gt (tgt := 61) d_I_soundersOf_37 rfl (fun c9 => ?_) (fun c9 => ?_)
      · replace h := ite_t c9 h
        obtain ⟨v10, e11, h⟩ := lt_inv h
        refine y_iinc (L1 := [(0, .ref z0), (1, .int z1), (2, .int z2), (3, .int w3), (4, .int v10), (5, .int v3)]) e11 ic_1 d_I_soundersOf_61 4 rfl (Nat.le_of_ble_eq_true rfl) rfl rfl ?_
        refine x_goto (tgt := 5) d_I_soundersOf_64 rfl ?_
        refine y_pick (L1 := [(0, .ref z0), (1, .int z1), (2, .int z2), (3, .int w3), (4, .int v10)]) [0, 1, 2, 3, 4] rfl ?_
        exact ih w3 v10 _ h
      · replace h := ite_f c9 h
        refine x_iload_n d_I_soundersOf_40 rfl 1 rfl ?_
        refine x_iload d_I_soundersOf_41 5 rfl ?_
        refine x_aload_n d_I_soundersOf_43 rfl 0 rfl ?_
        refine y_getR d_I_soundersOf_44 fl_10_76 rfl (ksSc hz0) (rrSc_13 hz0) ?_
        refine x_iload d_I_soundersOf_47 4 rfl ?_
        obtain ⟨g12, h⟩ := gd_inv h
        refine y_iald d_I_soundersOf_49 (ksSc_7 hz0) g12 ?_
        refine x_iadd d_I_soundersOf_50 ?_
        refine x_icmp_ge (tgt := 61) d_I_soundersOf_51 rfl (fun c13 => ?_) (fun c13 => ?_)
        · replace h := ite_t c13 h
          obtain ⟨v14, e15, h⟩ := lt_inv h
          refine y_iinc (L1 := [(0, .ref z0), (1, .int z1), (2, .int z2), (3, .int w3), (4, .int v14), (5, .int v3)]) e15 ic_1 d_I_soundersOf_61 4 rfl (Nat.le_of_ble_eq_true rfl) rfl rfl ?_
          refine x_goto (tgt := 5) d_I_soundersOf_64 rfl ?_
          refine y_pick (L1 := [(0, .ref z0), (1, .int z1), (2, .int z2), (3, .int w3), (4, .int v14)]) [0, 1, 2, 3, 4] rfl ?_
          exact ih w3 v14 _ h
        · replace h := ite_f c13 h
          refine x_iload_n d_I_soundersOf_54 rfl 3 rfl ?_
          refine x_iconst d_I_soundersOf_55 ic_1 ?_
          refine x_iload d_I_soundersOf_56 4 rfl ?_
          refine x_ishl d_I_soundersOf_58 ?_
          refine x_ior d_I_soundersOf_59 ?_
          obtain ⟨v16, e17, h⟩ := lt_inv h
          refine y_istore_n (L1 := [(0, .ref z0), (1, .int z1), (2, .int z2), (3, .int v16), (4, .int w4), (5, .int v3)]) e17 d_I_soundersOf_60 rfl (Nat.le_of_ble_eq_true rfl) rfl rfl ?_
          obtain ⟨v18, e19, h⟩ := lt_inv h
          refine y_iinc (L1 := [(0, .ref z0), (1, .int z1), (2, .int z2), (3, .int v16), (4, .int v18), (5, .int v3)]) e19 ic_1 d_I_soundersOf_61 4 rfl (Nat.le_of_ble_eq_true rfl) rfl rfl ?_
          refine x_goto (tgt := 5) d_I_soundersOf_64 rfl ?_
          refine y_pick (L1 := [(0, .ref z0), (1, .int z1), (2, .int z2), (3, .int v16), (4, .int v18)]) [0, 1, 2, 3, 4] rfl ?_
          exact ih v16 v18 _ h
set_option maxRecDepth 100000 in
set_option maxHeartbeats 4000000 in
theorem c_I_soundersOf {X : Nat × (Nat → Int32)} {D F G : Nat} (hD : 0 ≤ D) {S : St} {o2 : Nat} {p2 : Int32} {p3 : Int32} {res : Int32} (h : fI_soundersOf F G S o2 p2 p3 = some res) : Ek X (D) mI_soundersOf 0 [(0, .ref o2), (1, .int p2), (2, .int p3)] [] S (some (.int res)) S := by
  unfold fI_soundersOf at h
  obtain ⟨gg0, h⟩ := gd_inv h
  refine x_iconst d_I_soundersOf_0 ic_0 ?_
  refine x_istore_n (L1 := [(0, .ref o2), (1, .int p2), (2, .int p3), (3, .int (0 : Int32))]) d_I_soundersOf_1 rfl (Nat.le_of_ble_eq_true rfl) rfl rfl ?_
  refine x_iconst d_I_soundersOf_2 ic_0 ?_
  refine x_istore (L1 := [(0, .ref o2), (1, .int p2), (2, .int p3), (3, .int (0 : Int32)), (4, .int (0 : Int32))]) d_I_soundersOf_3 (Nat.le_of_ble_eq_true rfl) rfl rfl ?_
  refine T_I_soundersOf_5 (by omega) gg0  F (0 : Int32) (0 : Int32) _ h
/-! NinetyPlayers$Witness.gather -/
def j_I_gather_45 (F G : Nat) (z1 : Nat) (z2 : Int32) (rec : Int32 → St → Option (St)) (S : St) (y3 : Int32) (s0 : Int32) : Option (St) :=
  gd (inB y3 30) (if z2 < (S.1 74 y3.toNatClampNeg) then lt (y3 + 1) fun v12 => rec v12 S else if s0 = 0 then gd (inB y3 30) (gd (inB y3 30) (bd (fI_soundersOf F G S z1 (S.1 71 y3.toNatClampNeg) (S.1 72 y3.toNatClampNeg)) fun v20 => gd (inB y3 30) (if (S.1 73 y3.toNatClampNeg) = 0 then lt (sI S 69 11 ((S.1 69 11) ||| v20)) fun S23 => lt (y3 + 1) fun v25 => rec v25 S23 else gd (inB (S.1 69 10) 30) (lt (sI S 76 (S.1 69 10).toNatClampNeg v20) fun S28 => lt (sI S28 69 10 ((S28.1 69 10) + (1 : Int32))) fun S30 => lt (y3 + 1) fun v32 => rec v32 S30)))) else lt (y3 + 1) fun v15 => rec v15 S)
def j_I_gather_44 (F G : Nat) (z1 : Nat) (z2 : Int32) (rec : Int32 → St → Option (St)) (S : St) (y3 : Int32) : Option (St) :=
  j_I_gather_45 F G z1 z2 rec  S y3 (0 : Int32)
def b_I_gather_12 (F G : Nat) (z1 : Nat) (z2 : Int32) (rec : Int32 → St → Option (St)) (w3 : Int32) (S : St) : Option (St) :=
  if (S.1 69 0) ≤ w3 then some S else gd (inB w3 30) (if (S.1 75 w3.toNatClampNeg) = (-1 : Int32) then j_I_gather_44 F G z1 z2 rec  S w3 else gd (inB w3 30) (if z2 < (S.1 75 w3.toNatClampNeg) then j_I_gather_44 F G z1 z2 rec  S w3 else j_I_gather_45 F G z1 z2 rec  S w3 (1 : Int32)))
def fI_gather (F G : Nat) (S : St) (o2 : Nat) (p2 : Int32) : Option (St) :=
  gd (isSc o2) (lt (sI S 69 10 (0 : Int32)) fun S1 => lt (sI S1 69 11 (0 : Int32)) fun S3 => fx2 (b_I_gather_12 F G o2 p2) F (0 : Int32) S3)
set_option maxRecDepth 100000 in
set_option maxHeartbeats 4000000 in
theorem T_I_gather_12 {X : Nat × (Nat → Int32)} {D F G : Nat} (hD : 1 ≤ D + 1) {z1 : Nat} {z2 : Int32} (hz1 : isSc z1 = true) : ∀ (f : Nat) (w3 : Int32) (S : St) (res : St), fx2 (b_I_gather_12 F G z1 z2 ) f w3 S = some res → Ek X (D + 1) mI_gather 12 [(0, .ref 69), (1, .ref z1), (2, .int z2), (3, .int w3)] [] S none res := by
  refine fx2_ind ?_
  intro rec ih w3 S res h
  unfold b_I_gather_12 at h
  have J45 : ∀ (S : St) (y3 : Int32) (s0 : Int32) (res : St), j_I_gather_45 F G z1 z2 rec S y3 s0 = some res → Ek X (D + 1) mI_gather 45 [(0, .ref 69), (1, .ref z1), (2, .int z2), (3, .int y3)] [.int s0] S none res := by
    intro S y3 s0 res h
    unfold j_I_gather_45 at h
    refine x_istore (L1 := [(0, .ref 69), (1, .ref z1), (2, .int z2), (3, .int y3), (4, .int s0)]) d_I_gather_45 (Nat.le_of_ble_eq_true rfl) rfl rfl ?_
    refine x_aload_n d_I_gather_47 rfl 0 rfl ?_
    refine y_getR d_I_gather_48 fl_10_25 rfl kd_69 rr_69_7 ?_
    refine x_iload_n d_I_gather_51 rfl 3 rfl ?_
    obtain ⟨g10, h⟩ := gd_inv h
    refine y_iald d_I_gather_52 kd_74 g10 ?_
    refine x_iload_n d_I_gather_53 rfl 2 rfl ?_
    refine x_icmp_gt (tgt := 124) d_I_gather_54 rfl (fun c11 => ?_) (fun c11 => ?_)
    · replace h := ite_t c11 h
      obtain ⟨v12, e13, h⟩ := lt_inv h
      refine y_iinc (L1 := [(0, .ref 69), (1, .ref z1), (2, .int z2), (3, .int v12), (4, .int s0)]) e13 ic_1 d_I_gather_124 3 rfl (Nat.le_of_ble_eq_true rfl) rfl rfl ?_
      refine x_goto (tgt := 12) d_I_gather_127 rfl ?_
      refine y_pick (L1 := [(0, .ref 69), (1, .ref z1), (2, .int z2), (3, .int v12)]) [0, 1, 2, 3] rfl ?_
      exact ih v12 S _ h
    · replace h := ite_f c11 h
      refine x_iload d_I_gather_57 4 rfl ?_
      refine x_if_ne (tgt := 124) d_I_gather_59 rfl (fun c14 => ?_) (fun c14 => ?_)
      · replace h := ite_f c14 h
        obtain ⟨v15, e16, h⟩ := lt_inv h
        refine y_iinc (L1 := [(0, .ref 69), (1, .ref z1), (2, .int z2), (3, .int v15), (4, .int s0)]) e16 ic_1 d_I_gather_124 3 rfl (Nat.le_of_ble_eq_true rfl) rfl rfl ?_
        refine x_goto (tgt := 12) d_I_gather_127 rfl ?_
        refine y_pick (L1 := [(0, .ref 69), (1, .ref z1), (2, .int z2), (3, .int v15)]) [0, 1, 2, 3] rfl ?_
        exact ih v15 S _ h
      · replace h := ite_t c14 h
        refine x_aload_n d_I_gather_62 rfl 1 rfl ?_
        refine x_aload_n d_I_gather_63 rfl 0 rfl ?_
        refine y_getR d_I_gather_64 fl_10_15 rfl kd_69 rr_69_4 ?_
        refine x_iload_n d_I_gather_67 rfl 3 rfl ?_
        obtain ⟨g17, h⟩ := gd_inv h
        refine y_iald d_I_gather_68 kd_71 g17 ?_
        refine x_aload_n d_I_gather_69 rfl 0 rfl ?_
        refine y_getR d_I_gather_70 fl_10_18 rfl kd_69 rr_69_5 ?_
        refine x_iload_n d_I_gather_73 rfl 3 rfl ?_
        obtain ⟨g18, h⟩ := gd_inv h
        refine y_iald d_I_gather_74 kd_72 g18 ?_
        obtain ⟨v20, q19, h⟩ := bd_inv h
        refine y_S3i (v := v20) (S1 := S) d_I_gather_75 ml_10_68 (Nat.le_of_ble_eq_true rfl) (Nat.le_of_ble_eq_true rfl) (c_I_soundersOf (by omega) q19) ?_
        refine x_istore (L1 := [(0, .ref 69), (1, .ref z1), (2, .int z2), (3, .int y3), (4, .int s0), (5, .int v20)]) d_I_gather_78 (Nat.le_of_ble_eq_true rfl) rfl rfl ?_
        refine x_aload_n d_I_gather_80 rfl 0 rfl ?_
        refine y_getR d_I_gather_81 fl_10_21 rfl kd_69 rr_69_6 ?_
        refine x_iload_n d_I_gather_84 rfl 3 rfl ?_
        obtain ⟨g21, h⟩ := gd_inv h
        refine y_zald d_I_gather_85 kd_73 g21 ?_
        refine x_if_eq (tgt := 113) d_I_gather_86 rfl (fun c22 => ?_) (fun c22 => ?_)
        · replace h := ite_t c22 h
          refine x_aload_n d_I_gather_113 rfl 0 rfl ?_
          refine x_dup d_I_gather_114 rfl ?_
          refine y_getI d_I_gather_115 fl_10_65 rfl kd_69 ?_
          refine x_iload d_I_gather_118 5 rfl ?_
          refine x_ior d_I_gather_120 ?_
          obtain ⟨S23, e24, h⟩ := lt_inv h
          refine y_putI e24 d_I_gather_121 fl_10_65 rfl rfl kd_69 rfl rfl ?_
          obtain ⟨v25, e26, h⟩ := lt_inv h
          refine y_iinc (L1 := [(0, .ref 69), (1, .ref z1), (2, .int z2), (3, .int v25), (4, .int s0), (5, .int v20)]) e26 ic_1 d_I_gather_124 3 rfl (Nat.le_of_ble_eq_true rfl) rfl rfl ?_
          refine x_goto (tgt := 12) d_I_gather_127 rfl ?_
          refine y_pick (L1 := [(0, .ref 69), (1, .ref z1), (2, .int z2), (3, .int v25)]) [0, 1, 2, 3] rfl ?_
          exact ih v25 S23 _ h
        · replace h := ite_f c22 h
          refine x_aload_n d_I_gather_89 rfl 0 rfl ?_
          refine y_getR d_I_gather_90 fl_10_31 rfl kd_69 rr_69_9 ?_
          refine x_aload_n d_I_gather_93 rfl 0 rfl ?_
          refine y_getI d_I_gather_94 fl_10_62 rfl kd_69 ?_
          refine x_iload d_I_gather_97 5 rfl ?_
          obtain ⟨g27, h⟩ := gd_inv h
          obtain ⟨S28, e29, h⟩ := lt_inv h
          refine y_iast e29 d_I_gather_99 kd_76 g27 ?_
          refine x_aload_n d_I_gather_100 rfl 0 rfl ?_
          refine x_dup d_I_gather_101 rfl ?_
          refine y_getI d_I_gather_102 fl_10_62 rfl kd_69 ?_
          refine x_iconst d_I_gather_105 ic_1 ?_
          refine x_iadd d_I_gather_106 ?_
          obtain ⟨S30, e31, h⟩ := lt_inv h
          refine y_putI e31 d_I_gather_107 fl_10_62 rfl rfl kd_69 rfl rfl ?_
          refine x_goto (tgt := 124) d_I_gather_110 rfl ?_
          obtain ⟨v32, e33, h⟩ := lt_inv h
          refine y_iinc (L1 := [(0, .ref 69), (1, .ref z1), (2, .int z2), (3, .int v32), (4, .int s0), (5, .int v20)]) e33 ic_1 d_I_gather_124 3 rfl (Nat.le_of_ble_eq_true rfl) rfl rfl ?_
          refine x_goto (tgt := 12) d_I_gather_127 rfl ?_
          refine y_pick (L1 := [(0, .ref 69), (1, .ref z1), (2, .int z2), (3, .int v32)]) [0, 1, 2, 3] rfl ?_
          exact ih v32 S30 _ h
  have J44 : ∀ (S : St) (y3 : Int32) (res : St), j_I_gather_44 F G z1 z2 rec S y3 = some res → Ek X (D + 1) mI_gather 44 [(0, .ref 69), (1, .ref z1), (2, .int z2), (3, .int y3)] [] S none res := by
    intro S y3 res h
    unfold j_I_gather_44 at h
    refine x_iconst d_I_gather_44 ic_0 ?_
    exact J45 S y3 (0 : Int32) _ h
  refine x_iload_n d_I_gather_12 rfl 3 rfl ?_
  refine x_aload_n d_I_gather_13 rfl 0 rfl ?_
  refine y_getI d_I_gather_14 fl_10_34 rfl kd_69 ?_
  refine x_icmp_ge (tgt := 130) d_I_gather_17 rfl (fun c5 => ?_) (fun c5 => ?_)
  · replace h := ite_t c5 h
    obtain rfl := Option.some.inj h
    exact x_ret (r := none) d_I_gather_130 rfl
  · replace h := ite_f c5 h
    refine x_aload_n d_I_gather_20 rfl 0 rfl ?_
    refine y_getR d_I_gather_21 fl_10_28 rfl kd_69 rr_69_8 ?_
    refine x_iload_n d_I_gather_24 rfl 3 rfl ?_
    obtain ⟨g6, h⟩ := gd_inv h
    refine y_iald d_I_gather_25 kd_75 g6 ?_
    refine x_iconst d_I_gather_26 ic_m1 ?_
    refine x_icmp_eq (tgt := 44) d_I_gather_27 rfl (fun c7 => ?_) (fun c7 => ?_)
    · replace h := ite_t c7 h
      exact J44 S w3 _ h
    · replace h := ite_f c7 h
      refine x_aload_n d_I_gather_30 rfl 0 rfl ?_
      refine y_getR d_I_gather_31 fl_10_28 rfl kd_69 rr_69_8 ?_
      refine x_iload_n d_I_gather_34 rfl 3 rfl ?_
      obtain ⟨g8, h⟩ := gd_inv h
      refine y_iald d_I_gather_35 kd_75 g8 ?_
      refine x_iload_n d_I_gather_36 rfl 2 rfl ?_
      refine x_icmp_gt (tgt := 44) d_I_gather_37 rfl (fun c9 => ?_) (fun c9 => ?_)
      · replace h := ite_t c9 h
        exact J44 S w3 _ h
      · replace h := ite_f c9 h
        refine x_iconst d_I_gather_40 ic_1 ?_
        refine x_goto (tgt := 45) d_I_gather_41 rfl ?_
        exact J45 S w3 (1 : Int32) _ h
set_option maxRecDepth 100000 in
set_option maxHeartbeats 4000000 in
theorem c_I_gather {X : Nat × (Nat → Int32)} {D F G : Nat} (hD : 1 ≤ D) {S : St} {o2 : Nat} {p2 : Int32} {res : St} (h : fI_gather F G S o2 p2 = some res) : Ek X (D) mI_gather 0 [(0, .ref 69), (1, .ref o2), (2, .int p2)] [] S none res := by
  obtain ⟨D, rfl⟩ : ∃ E, D = E + 1 := ⟨D - 1, by omega⟩
  unfold fI_gather at h
  obtain ⟨gg0, h⟩ := gd_inv h
  refine x_aload_n d_I_gather_0 rfl 0 rfl ?_
  refine x_iconst d_I_gather_1 ic_0 ?_
  obtain ⟨S1, e2, h⟩ := lt_inv h
  refine y_putI e2 d_I_gather_2 fl_10_62 rfl rfl kd_69 rfl rfl ?_
  refine x_aload_n d_I_gather_5 rfl 0 rfl ?_
  refine x_iconst d_I_gather_6 ic_0 ?_
  obtain ⟨S3, e4, h⟩ := lt_inv h
  refine y_putI e4 d_I_gather_7 fl_10_65 rfl rfl kd_69 rfl rfl ?_
  refine x_iconst d_I_gather_10 ic_0 ?_
  refine x_istore_n (L1 := [(0, .ref 69), (1, .ref o2), (2, .int p2), (3, .int (0 : Int32))]) d_I_gather_11 rfl (Nat.le_of_ble_eq_true rfl) rfl rfl ?_
  refine T_I_gather_12 (by omega) gg0  F (0 : Int32) S3 _ h
/-! NinetyPlayers$Witness.isSo -/
def b_I_isSo_13 (F G : Nat) (S : St) (z1 : Int32) (rec : Int32 → Option (Int32)) (w2 : Int32) : Option (Int32) :=
  if (S.1 69 10) ≤ w2 then some (1 : Int32) else gd (inB w2 30) (if (z1 &&& (S.1 76 w2.toNatClampNeg)) = 0 then some (0 : Int32) else lt (w2 + 1) fun v5 => rec v5)
def fI_isSo (F G : Nat) (S : St) (p1 : Int32) : Option (Int32) :=
  if (p1 &&& (S.1 69 11)) = 0 then fx1 (b_I_isSo_13 F G S p1) F (0 : Int32) else some (0 : Int32)
set_option maxRecDepth 100000 in
set_option maxHeartbeats 4000000 in
theorem T_I_isSo_13 {X : Nat × (Nat → Int32)} {D F G : Nat} (hD : 0 ≤ D) {S : St} {z1 : Int32} : ∀ (f : Nat) (w2 : Int32) (res : Int32), fx1 (b_I_isSo_13 F G S z1 ) f w2 = some res → Ek X (D) mI_isSo 13 [(0, .ref 69), (1, .int z1), (2, .int w2)] [] S (some (.int res)) S := by
  refine fx1_ind ?_
  intro rec ih w2 res h
  unfold b_I_isSo_13 at h
  refine x_iload_n d_I_isSo_13 rfl 2 rfl ?_
  refine x_aload_n d_I_isSo_14 rfl 0 rfl ?_
  refine y_getI d_I_isSo_15 fl_10_62 rfl kd_69 ?_
  refine x_icmp_ge (tgt := 40) d_I_isSo_18 rfl (fun c2 => ?_) (fun c2 => ?_)
  · replace h := ite_t c2 h
    refine x_iconst d_I_isSo_40 ic_1 ?_
    obtain rfl := Option.some.inj h
    exact x_ret (r := some (.int (1 : Int32))) d_I_isSo_41 ⟨_, rfl, rfl⟩
  · replace h := ite_f c2 h
    refine x_iload_n d_I_isSo_21 rfl 1 rfl ?_
    refine x_aload_n d_I_isSo_22 rfl 0 rfl ?_
    refine y_getR d_I_isSo_23 fl_10_31 rfl kd_69 rr_69_9 ?_
    refine x_iload_n d_I_isSo_26 rfl 2 rfl ?_
    obtain ⟨g3, h⟩ := gd_inv h
    refine y_iald d_I_isSo_27 kd_76 g3 ?_
    refine x_iand d_I_isSo_28 ?_
    refine x_if_ne (tgt := 34) d_I_isSo_29 rfl (fun c4 => ?_) (fun c4 => ?_)
    · replace h := ite_f c4 h
      obtain ⟨v5, e6, h⟩ := lt_inv h
      refine y_iinc (L1 := [(0, .ref 69), (1, .int z1), (2, .int v5)]) e6 ic_1 d_I_isSo_34 2 rfl (Nat.le_of_ble_eq_true rfl) rfl rfl ?_
      refine x_goto (tgt := 13) d_I_isSo_37 rfl ?_
      exact ih v5 _ h
    · replace h := ite_t c4 h
      refine x_iconst d_I_isSo_32 ic_0 ?_
      obtain rfl := Option.some.inj h
      exact x_ret (r := some (.int (0 : Int32))) d_I_isSo_33 ⟨_, rfl, rfl⟩
set_option maxRecDepth 100000 in
set_option maxHeartbeats 4000000 in
theorem c_I_isSo {X : Nat × (Nat → Int32)} {D F G : Nat} (hD : 0 ≤ D) {S : St} {p1 : Int32} {res : Int32} (h : fI_isSo F G S p1 = some res) : Ek X (D) mI_isSo 0 [(0, .ref 69), (1, .int p1)] [] S (some (.int res)) S := by
  unfold fI_isSo at h
  refine x_iload_n d_I_isSo_0 rfl 1 rfl ?_
  refine x_aload_n d_I_isSo_1 rfl 0 rfl ?_
  refine y_getI d_I_isSo_2 fl_10_65 rfl kd_69 ?_
  refine x_iand d_I_isSo_5 ?_
  refine x_if_eq (tgt := 11) d_I_isSo_6 rfl (fun c1 => ?_) (fun c1 => ?_)
  · replace h := ite_t c1 h
    refine x_iconst d_I_isSo_11 ic_0 ?_
    refine x_istore_n (L1 := [(0, .ref 69), (1, .int p1), (2, .int (0 : Int32))]) d_I_isSo_12 rfl (Nat.le_of_ble_eq_true rfl) rfl rfl ?_
    refine T_I_isSo_13 (by omega)   F (0 : Int32) _ h
  · replace h := ite_f c1 h
    refine x_iconst d_I_isSo_9 ic_0 ?_
    obtain rfl := Option.some.inj h
    exact x_ret (r := some (.int (0 : Int32))) d_I_isSo_10 ⟨_, rfl, rfl⟩
/-! NinetyPlayers$Witness.countIn -/
def b_I_countIn_12 (F G : Nat) (z1 : Int32) (rec : Int32 → St → Option (St)) (w2 : Int32) (S : St) : Option (St) :=
  if (10 : Int32) ≤ w2 then some S else gd (inB w2 10) (gd (inB w2 10) (lt (sI S 70 w2.toNatClampNeg ((S.1 70 w2.toNatClampNeg) + ((z1 >>> (w2 &&& 31)) &&& (1 : Int32)))) fun S6 => lt (w2 + 1) fun v8 => rec v8 S6))
def fI_countIn (F G : Nat) (S : St) (p1 : Int32) : Option (St) :=
  lt (sI S 69 2 ((S.1 69 2) + (1 : Int32))) fun S1 => fx2 (b_I_countIn_12 F G p1) F (0 : Int32) S1
set_option maxRecDepth 100000 in
set_option maxHeartbeats 4000000 in
theorem T_I_countIn_12 {X : Nat × (Nat → Int32)} {D F G : Nat} (hD : 0 ≤ D) {z1 : Int32} : ∀ (f : Nat) (w2 : Int32) (S : St) (res : St), fx2 (b_I_countIn_12 F G z1 ) f w2 S = some res → Ek X (D) mI_countIn 12 [(0, .ref 69), (1, .int z1), (2, .int w2)] [] S none res := by
  refine fx2_ind ?_
  intro rec ih w2 S res h
  unfold b_I_countIn_12 at h
  refine x_iload_n d_I_countIn_12 rfl 2 rfl ?_
  refine x_bipush d_I_countIn_13 bp_10 ?_
  refine x_icmp_ge (tgt := 38) d_I_countIn_15 rfl (fun c3 => ?_) (fun c3 => ?_)
  · replace h := ite_t c3 h
    obtain rfl := Option.some.inj h
    exact x_ret (r := none) d_I_countIn_38 rfl
  · replace h := ite_f c3 h
    refine x_aload_n d_I_countIn_18 rfl 0 rfl ?_
    refine y_getR d_I_countIn_19 fl_10_9 rfl kd_69 rr_69_3 ?_
    refine x_iload_n d_I_countIn_22 rfl 2 rfl ?_
    refine x_dup2 d_I_countIn_23 rfl rfl ?_
    obtain ⟨g4, h⟩ := gd_inv h
    refine y_iald d_I_countIn_24 kd_70 g4 ?_
    refine x_iload_n d_I_countIn_25 rfl 1 rfl ?_
    refine x_iload_n d_I_countIn_26 rfl 2 rfl ?_
    refine x_ishr d_I_countIn_27 ?_
    refine x_iconst d_I_countIn_28 ic_1 ?_
    refine x_iand d_I_countIn_29 ?_
    refine x_iadd d_I_countIn_30 ?_
    obtain ⟨g5, h⟩ := gd_inv h
    obtain ⟨S6, e7, h⟩ := lt_inv h
    refine y_iast e7 d_I_countIn_31 kd_70 g5 ?_
    obtain ⟨v8, e9, h⟩ := lt_inv h
    refine y_iinc (L1 := [(0, .ref 69), (1, .int z1), (2, .int v8)]) e9 ic_1 d_I_countIn_32 2 rfl (Nat.le_of_ble_eq_true rfl) rfl rfl ?_
    refine x_goto (tgt := 12) d_I_countIn_35 rfl ?_
    exact ih v8 S6 _ h
set_option maxRecDepth 100000 in
set_option maxHeartbeats 4000000 in
theorem c_I_countIn {X : Nat × (Nat → Int32)} {D F G : Nat} (hD : 0 ≤ D) {S : St} {p1 : Int32} {res : St} (h : fI_countIn F G S p1 = some res) : Ek X (D) mI_countIn 0 [(0, .ref 69), (1, .int p1)] [] S none res := by
  unfold fI_countIn at h
  refine x_aload_n d_I_countIn_0 rfl 0 rfl ?_
  refine x_dup d_I_countIn_1 rfl ?_
  refine y_getI d_I_countIn_2 fl_10_46 rfl kd_69 ?_
  refine x_iconst d_I_countIn_5 ic_1 ?_
  refine x_iadd d_I_countIn_6 ?_
  obtain ⟨S1, e2, h⟩ := lt_inv h
  refine y_putI e2 d_I_countIn_7 fl_10_46 rfl rfl kd_69 rfl rfl ?_
  refine x_iconst d_I_countIn_10 ic_0 ?_
  refine x_istore_n (L1 := [(0, .ref 69), (1, .int p1), (2, .int (0 : Int32))]) d_I_countIn_11 rfl (Nat.le_of_ble_eq_true rfl) rfl rfl ?_
  refine T_I_countIn_12 (by omega)   F (0 : Int32) S1 _ h
/-! NinetyPlayers$Witness.count -/
def b_I_count_13 (F G : Nat) (z1 : Nat) (k32 : St → Option (St)) (rec : Int32 → St → Option (St)) (w3 : Int32) (S : St) : Option (St) :=
  if (10 : Int32) ≤ w3 then k32 S else gd (inB w3 10) (lt (sI S 70 w3.toNatClampNeg (0 : Int32)) fun S7 => lt (w3 + 1) fun v9 => rec v9 S7)
def b_I_count_34 (F G : Nat) (z1 : Nat) (rec : Int32 → St → Option (St)) (w3 : Int32) (S : St) : Option (St) :=
  if ((1 : Int32) <<< ((S.1 z1 6) &&& 31)) ≤ w3 then some S else bd (fI_isSo F G S w3) fun v14 => if v14 = 0 then lt (w3 + 1) fun v16 => rec v16 S else bd (fI_countIn F G S w3) fun S19 => lt (w3 + 1) fun v20 => rec v20 S19
def fI_count (F G : Nat) (S : St) (o2 : Nat) (p2 : Int32) : Option (St) :=
  gd (isSc o2) (bd (fI_gather F G S o2 p2) fun S2 => lt (sI S2 69 2 (0 : Int32)) fun S3 => fx2 (b_I_count_13 F G o2 (fun S11 => fx2 (b_I_count_34 F G o2) F (0 : Int32) S11)) F (0 : Int32) S3)
set_option maxRecDepth 100000 in
set_option maxHeartbeats 4000000 in
theorem T_I_count_13 {X : Nat × (Nat → Int32)} {D F G : Nat} (hD : 2 ≤ D + 1) {z1 : Nat} (hz1 : isSc z1 = true) {k32 : St → Option (St)} (hk32 : ∀ (S1 : St) (res : St), k32 S1 = some res → Ek X (D + 1) mI_count 32 [(0, .ref 69), (1, .ref z1)] [] S1 none res) : ∀ (f : Nat) (w3 : Int32) (S : St) (res : St), fx2 (b_I_count_13 F G z1 k32 ) f w3 S = some res → Ek X (D + 1) mI_count 13 [(0, .ref 69), (1, .ref z1), (3, .int w3)] [] S none res := by
  refine fx2_ind ?_
  intro rec ih w3 S res h
  unfold b_I_count_13 at h
  refine x_iload_n d_I_count_13 rfl 2 rfl ?_
  refine x_bipush d_I_count_14 bp_10 ?_
  refine x_icmp_ge (tgt := 32) d_I_count_16 rfl (fun c5 => ?_) (fun c5 => ?_)
  · replace h := ite_t c5 h
    refine y_pick (L1 := [(0, .ref 69), (1, .ref z1)]) [0, 1] rfl ?_
    exact hk32 S _ h
  · replace h := ite_f c5 h
    refine x_aload_n d_I_count_19 rfl 0 rfl ?_
    refine y_getR d_I_count_20 fl_10_9 rfl kd_69 rr_69_3 ?_
    refine x_iload_n d_I_count_23 rfl 2 rfl ?_
    refine x_iconst d_I_count_24 ic_0 ?_
    obtain ⟨g6, h⟩ := gd_inv h
    obtain ⟨S7, e8, h⟩ := lt_inv h
    refine y_iast e8 d_I_count_25 kd_70 g6 ?_
    obtain ⟨v9, e10, h⟩ := lt_inv h
    refine y_iinc (L1 := [(0, .ref 69), (1, .ref z1), (3, .int v9)]) e10 ic_1 d_I_count_26 2 rfl (Nat.le_of_ble_eq_true rfl) rfl rfl ?_
    refine x_goto (tgt := 13) d_I_count_29 rfl ?_
    exact ih v9 S7 _ h
set_option maxRecDepth 100000 in
set_option maxHeartbeats 4000000 in
theorem T_I_count_34 {X : Nat × (Nat → Int32)} {D F G : Nat} (hD : 2 ≤ D + 1) {z1 : Nat} (hz1 : isSc z1 = true) : ∀ (f : Nat) (w3 : Int32) (S : St) (res : St), fx2 (b_I_count_34 F G z1 ) f w3 S = some res → Ek X (D + 1) mI_count 34 [(0, .ref 69), (1, .ref z1), (3, .int w3)] [] S none res := by
  refine fx2_ind ?_
  intro rec ih w3 S res h
  unfold b_I_count_34 at h
  refine x_iload_n d_I_count_34 rfl 2 rfl ?_
  refine x_iconst d_I_count_35 ic_1 ?_
  refine x_aload_n d_I_count_36 rfl 1 rfl ?_
  refine y_getI d_I_count_37 fl_10_49 rfl (ksSc hz1) ?_
  refine x_ishl d_I_count_40 ?_
  refine x_icmp_ge (tgt := 63) d_I_count_41 rfl (fun c12 => ?_) (fun c12 => ?_)
  · replace h := ite_t c12 h
    obtain rfl := Option.some.inj h
    exact x_ret (r := none) d_I_count_63 rfl
  · replace h := ite_f c12 h
    refine x_aload_n d_I_count_44 rfl 0 rfl ?_
    refine x_iload_n d_I_count_45 rfl 2 rfl ?_
    obtain ⟨v14, q13, h⟩ := bd_inv h
    refine y_V1i (v := v14) (S1 := S) d_I_count_46 ml_10_54 kd_69 rfl (Nat.le_of_ble_eq_true rfl) (Nat.le_of_ble_eq_true rfl) (c_I_isSo (by omega) q13) ?_
    refine x_if_eq (tgt := 57) d_I_count_49 rfl (fun c15 => ?_) (fun c15 => ?_)
    · replace h := ite_t c15 h
      obtain ⟨v16, e17, h⟩ := lt_inv h
      refine y_iinc (L1 := [(0, .ref 69), (1, .ref z1), (3, .int v16)]) e17 ic_1 d_I_count_57 2 rfl (Nat.le_of_ble_eq_true rfl) rfl rfl ?_
      refine x_goto (tgt := 34) d_I_count_60 rfl ?_
      exact ih v16 S _ h
    · replace h := ite_f c15 h
      refine x_aload_n d_I_count_52 rfl 0 rfl ?_
      refine x_iload_n d_I_count_53 rfl 2 rfl ?_
      obtain ⟨S19, q18, h⟩ := bd_inv h
      refine y_V1v (S1 := S19) d_I_count_54 ml_10_58 kd_69 rfl (Nat.le_of_ble_eq_true rfl) (Nat.le_of_ble_eq_true rfl) (c_I_countIn (by omega) q18) ?_
      obtain ⟨v20, e21, h⟩ := lt_inv h
      refine y_iinc (L1 := [(0, .ref 69), (1, .ref z1), (3, .int v20)]) e21 ic_1 d_I_count_57 2 rfl (Nat.le_of_ble_eq_true rfl) rfl rfl ?_
      refine x_goto (tgt := 34) d_I_count_60 rfl ?_
      exact ih v20 S19 _ h
set_option maxRecDepth 100000 in
set_option maxHeartbeats 4000000 in
theorem c_I_count {X : Nat × (Nat → Int32)} {D F G : Nat} (hD : 2 ≤ D) {S : St} {o2 : Nat} {p2 : Int32} {res : St} (h : fI_count F G S o2 p2 = some res) : Ek X (D) mI_count 0 [(0, .ref 69), (1, .ref o2), (2, .int p2)] [] S none res := by
  obtain ⟨D, rfl⟩ : ∃ E, D = E + 1 := ⟨D - 1, by omega⟩
  unfold fI_count at h
  obtain ⟨gg0, h⟩ := gd_inv h
  refine x_aload_n d_I_count_0 rfl 0 rfl ?_
  refine x_aload_n d_I_count_1 rfl 1 rfl ?_
  refine x_iload_n d_I_count_2 rfl 2 rfl ?_
  obtain ⟨S2, q1, h⟩ := bd_inv h
  refine y_V2v (S1 := S2) d_I_count_3 ml_10_42 kd_69 rfl (Nat.le_of_ble_eq_true rfl) (Nat.le_of_ble_eq_true rfl) (c_I_gather (by omega) q1) ?_
  refine x_aload_n d_I_count_6 rfl 0 rfl ?_
  refine x_iconst d_I_count_7 ic_0 ?_
  obtain ⟨S3, e4, h⟩ := lt_inv h
  refine y_putI e4 d_I_count_8 fl_10_46 rfl rfl kd_69 rfl rfl ?_
  refine x_iconst d_I_count_11 ic_0 ?_
  refine x_istore_n (L1 := [(0, .ref 69), (1, .ref o2), (2, .int p2), (3, .int (0 : Int32))]) d_I_count_12 rfl (Nat.le_of_ble_eq_true rfl) rfl rfl ?_
  refine y_pick (L1 := [(0, .ref 69), (1, .ref o2), (3, .int (0 : Int32))]) [0, 1, 3] rfl ?_
  refine T_I_count_13 (by omega) gg0 ?_ F (0 : Int32) S3 _ h
  · intro S11 res h
    refine x_iconst d_I_count_32 ic_0 ?_
    refine x_istore_n (L1 := [(0, .ref 69), (1, .ref o2), (3, .int (0 : Int32))]) d_I_count_33 rfl (Nat.le_of_ble_eq_true rfl) rfl rfl ?_
    refine T_I_count_34 (by omega) gg0  F (0 : Int32) S11 _ h
/-! NinetyPlayers.sets -/
def fN_sets (F G : Nat) (S : St) (p1 : Int32) : Option (Int32 × St) :=
  gd (isSc S.2.2.1) (bd (fI_count F G S S.2.2.1 p1) fun S3 => some (S3.1 69 2, S3))
set_option maxRecDepth 100000 in
set_option maxHeartbeats 4000000 in
theorem c_N_sets {X : Nat × (Nat → Int32)} {D F G : Nat} (hD : 3 ≤ D) {S : St} {p1 : Int32} {res : Int32 × St} (h : fN_sets F G S p1 = some res) : Ek X (D) mN_sets 0 [(0, .ref 0), (1, .int p1)] [] S (some (.int res.1)) res.2 := by
  obtain ⟨D, rfl⟩ : ∃ E, D = E + 1 := ⟨D - 1, by omega⟩
  unfold fN_sets at h
  refine x_aload_n d_N_sets_0 rfl 0 rfl ?_
  refine y_getR d_N_sets_1 fl_0_73 rfl kd_0 rr_0_10 ?_
  refine x_aload_n d_N_sets_4 rfl 0 rfl ?_
  refine y_getR d_N_sets_5 fl_0_24 rfl kd_0 rr_told ?_
  obtain ⟨g1, h⟩ := gd_inv h
  refine x_iload_n d_N_sets_8 rfl 1 rfl ?_
  obtain ⟨S3, q2, h⟩ := bd_inv h
  refine y_V2v (S1 := S3) d_N_sets_9 ml_0_331 kd_69 rfl (Nat.le_of_ble_eq_true rfl) (Nat.le_of_ble_eq_true rfl) (c_I_count (by omega) q2) ?_
  refine x_aload_n d_N_sets_12 rfl 0 rfl ?_
  refine y_getR d_N_sets_13 fl_0_73 rfl kd_0 rr_0_10 ?_
  refine y_getI d_N_sets_16 fl_0_335 rfl kd_69 ?_
  obtain rfl := Option.some.inj h
  exact x_ret (r := some (.int (S3.1 69 2))) d_N_sets_19 ⟨_, rfl, rfl⟩
/-! NinetyPlayersModel.sayersOf -/
def j_M_sayersOf_70 (F G : Nat) (S : St) (z1 : Int32) (rec : Int32 → Int32 → Option (Int32)) (_ : St) (y3 : Int32) (s0 : Int32) (s1 : Int32) : Option (Int32) :=
  bd (fM_truth F G S s1) fun v13 => lt (s0 ||| (v13 <<< (y3 &&& 31))) fun v14 => lt (y3 + 1) fun v16 => rec v14 v16
def j_M_sayersOf_69 (F G : Nat) (S : St) (z1 : Int32) (rec : Int32 → Int32 → Option (Int32)) (_ : St) (y3 : Int32) (s0 : Int32) : Option (Int32) :=
  j_M_sayersOf_70 F G S z1 rec  S y3 s0 (0 : Int32)
def b_M_sayersOf_4 (F G : Nat) (S : St) (z1 : Int32) (rec : Int32 → Int32 → Option (Int32)) (w2 : Int32) (w3 : Int32) : Option (Int32) :=
  if (S.1 78 48) ≤ w3 then some w2 else gd (inB w3 10) (gd (inB z1 30) (if (S.1 97 w3.toNatClampNeg) = (S.1 109 z1.toNatClampNeg) then gd (inB w3 10) (gd (inB z1 30) (if (S.1 108 z1.toNatClampNeg) < (S.1 96 w3.toNatClampNeg) then j_M_sayersOf_69 F G S z1 rec  S w3 w2 else gd (inB z1 30) (gd (inB w3 10) (gd (inB w3 10) (if ((S.1 96 w3.toNatClampNeg) + (S.1 98 w3.toNatClampNeg)) ≤ (S.1 108 z1.toNatClampNeg) then j_M_sayersOf_69 F G S z1 rec  S w3 w2 else j_M_sayersOf_70 F G S z1 rec  S w3 w2 (1 : Int32)))))) else j_M_sayersOf_69 F G S z1 rec  S w3 w2))
def fM_sayersOf (F G : Nat) (S : St) (p1 : Int32) : Option (Int32) :=
  fx2 (b_M_sayersOf_4 F G S p1) F (0 : Int32) (0 : Int32)
set_option maxRecDepth 100000 in
set_option maxHeartbeats 4000000 in
theorem T_M_sayersOf_4 {X : Nat × (Nat → Int32)} {D F G : Nat} (hD : 1 ≤ D + 1) {S : St} {z1 : Int32} : ∀ (f : Nat) (w2 : Int32) (w3 : Int32) (res : Int32), fx2 (b_M_sayersOf_4 F G S z1 ) f w2 w3 = some res → Ek X (D + 1) mM_sayersOf 4 [(0, .ref 78), (1, .int z1), (2, .int w2), (3, .int w3)] [] S (some (.int res)) S := by
  refine fx2_ind ?_
  intro rec ih w2 w3 res h
  unfold b_M_sayersOf_4 at h
  have J70 : ∀ (y3 : Int32) (s0 : Int32) (s1 : Int32) (res : Int32), j_M_sayersOf_70 F G S z1 rec S y3 s0 s1 = some res → Ek X (D + 1) mM_sayersOf 70 [(0, .ref 78), (1, .int z1), (3, .int y3)] [.int s1, .int s0] S (some (.int res)) S := by
    intro y3 s0 s1 res h
    unfold j_M_sayersOf_70 at h
    obtain ⟨v13, q12, h⟩ := bd_inv h
    refine y_S1i (v := v13) (S1 := S) d_M_sayersOf_70 ml_11_318 (Nat.le_of_ble_eq_true rfl) (Nat.le_of_ble_eq_true rfl) (c_M_truth (by omega) q12) ?_
    refine x_iload_n d_M_sayersOf_73 rfl 2 rfl ?_
    refine x_ishl d_M_sayersOf_74 ?_
    refine x_ior d_M_sayersOf_75 ?_
    obtain ⟨v14, e15, h⟩ := lt_inv h
    refine y_istore_n (L1 := [(0, .ref 78), (1, .int z1), (2, .int v14), (3, .int y3)]) e15 d_M_sayersOf_76 rfl (Nat.le_of_ble_eq_true rfl) rfl rfl ?_
    obtain ⟨v16, e17, h⟩ := lt_inv h
    refine y_iinc (L1 := [(0, .ref 78), (1, .int z1), (2, .int v14), (3, .int v16)]) e17 ic_1 d_M_sayersOf_77 3 rfl (Nat.le_of_ble_eq_true rfl) rfl rfl ?_
    refine x_goto (tgt := 4) d_M_sayersOf_80 rfl ?_
    exact ih v14 v16 _ h
  have J69 : ∀ (y3 : Int32) (s0 : Int32) (res : Int32), j_M_sayersOf_69 F G S z1 rec S y3 s0 = some res → Ek X (D + 1) mM_sayersOf 69 [(0, .ref 78), (1, .int z1), (3, .int y3)] [.int s0] S (some (.int res)) S := by
    intro y3 s0 res h
    unfold j_M_sayersOf_69 at h
    refine x_iconst d_M_sayersOf_69 ic_0 ?_
    exact J70 y3 s0 (0 : Int32) _ h
  refine x_iload_n d_M_sayersOf_4 rfl 3 rfl ?_
  refine x_aload_n d_M_sayersOf_5 rfl 0 rfl ?_
  refine y_getI d_M_sayersOf_6 fl_11_322 rfl kd_78 ?_
  refine x_icmp_ge (tgt := 83) d_M_sayersOf_9 rfl (fun c1 => ?_) (fun c1 => ?_)
  · replace h := ite_t c1 h
    refine x_iload_n d_M_sayersOf_83 rfl 2 rfl ?_
    obtain rfl := Option.some.inj h
    exact x_ret (r := some (.int w2)) d_M_sayersOf_84 ⟨_, rfl, rfl⟩
  · replace h := ite_f c1 h
    refine x_iload_n d_M_sayersOf_12 rfl 2 rfl ?_
    refine x_aload_n d_M_sayersOf_13 rfl 0 rfl ?_
    refine y_getR d_M_sayersOf_14 fl_11_69 rfl kd_78 rr_78_36 ?_
    refine x_iload_n d_M_sayersOf_17 rfl 3 rfl ?_
    obtain ⟨g2, h⟩ := gd_inv h
    refine y_iald d_M_sayersOf_18 kd_97 g2 ?_
    refine x_aload_n d_M_sayersOf_19 rfl 0 rfl ?_
    refine y_getR d_M_sayersOf_20 fl_11_120 rfl kd_78 rr_78_70 ?_
    refine x_iload_n d_M_sayersOf_23 rfl 1 rfl ?_
    obtain ⟨g3, h⟩ := gd_inv h
    refine y_iald d_M_sayersOf_24 kd_109 g3 ?_
    refine x_icmp_ne (tgt := 69) d_M_sayersOf_25 rfl (fun c4 => ?_) (fun c4 => ?_)
    · replace h := ite_f c4 h
      refine y_pick (L1 := [(0, .ref 78), (1, .int z1), (3, .int w3)]) [0, 1, 3] rfl ?_
      exact J69 w3 w2 _ h
    · replace h := ite_t c4 h
      refine x_aload_n d_M_sayersOf_28 rfl 0 rfl ?_
      refine y_getR d_M_sayersOf_29 fl_11_66 rfl kd_78 rr_78_35 ?_
      refine x_iload_n d_M_sayersOf_32 rfl 3 rfl ?_
      obtain ⟨g5, h⟩ := gd_inv h
      refine y_iald d_M_sayersOf_33 kd_96 g5 ?_
      refine x_aload_n d_M_sayersOf_34 rfl 0 rfl ?_
      refine y_getR d_M_sayersOf_35 fl_11_117 rfl kd_78 rr_78_69 ?_
      refine x_iload_n d_M_sayersOf_38 rfl 1 rfl ?_
      obtain ⟨g6, h⟩ := gd_inv h
      refine y_iald d_M_sayersOf_39 kd_108 g6 ?_
      refine x_icmp_gt (tgt := 69) d_M_sayersOf_40 rfl (fun c7 => ?_) (fun c7 => ?_)
      · replace h := ite_t c7 h
        refine y_pick (L1 := [(0, .ref 78), (1, .int z1), (3, .int w3)]) [0, 1, 3] rfl ?_
        exact J69 w3 w2 _ h
      · replace h := ite_f c7 h
        refine x_aload_n d_M_sayersOf_43 rfl 0 rfl ?_
        refine y_getR d_M_sayersOf_44 fl_11_117 rfl kd_78 rr_78_69 ?_
        refine x_iload_n d_M_sayersOf_47 rfl 1 rfl ?_
        obtain ⟨g8, h⟩ := gd_inv h
        refine y_iald d_M_sayersOf_48 kd_108 g8 ?_
        refine x_aload_n d_M_sayersOf_49 rfl 0 rfl ?_
        refine y_getR d_M_sayersOf_50 fl_11_66 rfl kd_78 rr_78_35 ?_
        refine x_iload_n d_M_sayersOf_53 rfl 3 rfl ?_
        obtain ⟨g9, h⟩ := gd_inv h
        refine y_iald d_M_sayersOf_54 kd_96 g9 ?_
        refine x_aload_n d_M_sayersOf_55 rfl 0 rfl ?_
        refine y_getR d_M_sayersOf_56 fl_11_72 rfl kd_78 rr_78_37 ?_
        refine x_iload_n d_M_sayersOf_59 rfl 3 rfl ?_
        obtain ⟨g10, h⟩ := gd_inv h
        refine y_iald d_M_sayersOf_60 kd_98 g10 ?_
        refine x_iadd d_M_sayersOf_61 ?_
        refine x_icmp_ge (tgt := 69) d_M_sayersOf_62 rfl (fun c11 => ?_) (fun c11 => ?_)
        · replace h := ite_t c11 h
          refine y_pick (L1 := [(0, .ref 78), (1, .int z1), (3, .int w3)]) [0, 1, 3] rfl ?_
          exact J69 w3 w2 _ h
        · replace h := ite_f c11 h
          refine x_iconst d_M_sayersOf_65 ic_1 ?_
          refine x_goto (tgt := 70) d_M_sayersOf_66 rfl ?_
          refine y_pick (L1 := [(0, .ref 78), (1, .int z1), (3, .int w3)]) [0, 1, 3] rfl ?_
          exact J70 w3 w2 (1 : Int32) _ h
set_option maxRecDepth 100000 in
set_option maxHeartbeats 4000000 in
theorem c_M_sayersOf {X : Nat × (Nat → Int32)} {D F G : Nat} (hD : 1 ≤ D) {S : St} {p1 : Int32} {res : Int32} (h : fM_sayersOf F G S p1 = some res) : Ek X (D) mM_sayersOf 0 [(0, .ref 78), (1, .int p1)] [] S (some (.int res)) S := by
  obtain ⟨D, rfl⟩ : ∃ E, D = E + 1 := ⟨D - 1, by omega⟩
  unfold fM_sayersOf at h
  refine x_iconst d_M_sayersOf_0 ic_0 ?_
  refine x_istore_n (L1 := [(0, .ref 78), (1, .int p1), (2, .int (0 : Int32))]) d_M_sayersOf_1 rfl (Nat.le_of_ble_eq_true rfl) rfl rfl ?_
  refine x_iconst d_M_sayersOf_2 ic_0 ?_
  refine x_istore_n (L1 := [(0, .ref 78), (1, .int p1), (2, .int (0 : Int32)), (3, .int (0 : Int32))]) d_M_sayersOf_3 rfl (Nat.le_of_ble_eq_true rfl) rfl rfl ?_
  refine T_M_sayersOf_4 (by omega)   F (0 : Int32) (0 : Int32) _ h
/-! NinetyPlayersModel.counts -/
def fM_counts (F G : Nat) (S : St) (p1 : Int32) (p2 : Int32) : Option (Int32) :=
  gd (inB p1 30) (if p2 < (S.1 110 p1.toNatClampNeg) then some (0 : Int32) else gd (inB p1 30) (if (S.1 111 p1.toNatClampNeg) < 0 then some (1 : Int32) else gd (inB p1 30) (if (S.1 111 p1.toNatClampNeg) ≤ p2 then some (0 : Int32) else some (1 : Int32))))
set_option maxRecDepth 100000 in
set_option maxHeartbeats 4000000 in
theorem c_M_counts {X : Nat × (Nat → Int32)} {D F G : Nat} (hD : 0 ≤ D) {S : St} {p1 : Int32} {p2 : Int32} {res : Int32} (h : fM_counts F G S p1 p2 = some res) : Ek X (D) mM_counts 0 [(0, .ref 78), (1, .int p1), (2, .int p2)] [] S (some (.int res)) S := by
  unfold fM_counts at h
  refine x_aload_n d_M_counts_0 rfl 0 rfl ?_
  refine y_getR d_M_counts_1 fl_11_123 rfl kd_78 rr_78_71 ?_
  refine x_iload_n d_M_counts_4 rfl 1 rfl ?_
  obtain ⟨g1, h⟩ := gd_inv h
  refine y_iald d_M_counts_5 kd_110 g1 ?_
  refine x_iload_n d_M_counts_6 rfl 2 rfl ?_
  refine x_icmp_gt (tgt := 33) d_M_counts_7 rfl (fun c2 => ?_) (fun c2 => ?_)
  · replace h := ite_t c2 h
    refine x_iconst d_M_counts_33 ic_0 ?_
    obtain rfl := Option.some.inj h
    exact x_ret (r := some (.int (0 : Int32))) d_M_counts_34 ⟨_, rfl, rfl⟩
  · replace h := ite_f c2 h
    refine x_aload_n d_M_counts_10 rfl 0 rfl ?_
    refine y_getR d_M_counts_11 fl_11_126 rfl kd_78 rr_78_72 ?_
    refine x_iload_n d_M_counts_14 rfl 1 rfl ?_
    obtain ⟨g3, h⟩ := gd_inv h
    refine y_iald d_M_counts_15 kd_111 g3 ?_
    refine x_if_lt (tgt := 29) d_M_counts_16 rfl (fun c4 => ?_) (fun c4 => ?_)
    · replace h := ite_t c4 h
      refine x_iconst d_M_counts_29 ic_1 ?_
      refine x_goto (tgt := 34) d_M_counts_30 rfl ?_
      obtain rfl := Option.some.inj h
      exact x_ret (r := some (.int (1 : Int32))) d_M_counts_34 ⟨_, rfl, rfl⟩
    · replace h := ite_f c4 h
      refine x_aload_n d_M_counts_19 rfl 0 rfl ?_
      refine y_getR d_M_counts_20 fl_11_126 rfl kd_78 rr_78_72 ?_
      refine x_iload_n d_M_counts_23 rfl 1 rfl ?_
      obtain ⟨g5, h⟩ := gd_inv h
      refine y_iald d_M_counts_24 kd_111 g5 ?_
      refine x_iload_n d_M_counts_25 rfl 2 rfl ?_
      refine x_icmp_le (tgt := 33) d_M_counts_26 rfl (fun c6 => ?_) (fun c6 => ?_)
      · replace h := ite_t c6 h
        refine x_iconst d_M_counts_33 ic_0 ?_
        obtain rfl := Option.some.inj h
        exact x_ret (r := some (.int (0 : Int32))) d_M_counts_34 ⟨_, rfl, rfl⟩
      · replace h := ite_f c6 h
        refine x_iconst d_M_counts_29 ic_1 ?_
        refine x_goto (tgt := 34) d_M_counts_30 rfl ?_
        obtain rfl := Option.some.inj h
        exact x_ret (r := some (.int (1 : Int32))) d_M_counts_34 ⟨_, rfl, rfl⟩
/-! NinetyPlayersModel.laySets -/
def b_M_laySets_4 (F G : Nat) (z1 : Int32) (z2 : Int32) (k29 : St → Option (Int32 × St)) (rec : Int32 → St → Option (Int32 × St)) (w3 : Int32) (S : St) : Option (Int32 × St) :=
  if (S.1 78 74) ≤ w3 then k29 S else bd (fM_sayersOf F G S w3) fun v3 => gd (inB w3 30) (lt (sI S 113 w3.toNatClampNeg v3) fun S5 => lt (w3 + 1) fun v7 => rec v7 S5)
def b_M_laySets_31 (F G : Nat) (z1 : Int32) (z2 : Int32) (k50 : St → Option (Int32 × St)) (rec : Int32 → St → Option (Int32 × St)) (w3 : Int32) (S : St) : Option (Int32 × St) :=
  if (10 : Int32) ≤ w3 then k50 S else gd (inB w3 10) (lt (sI S 114 w3.toNatClampNeg (0 : Int32)) fun S12 => lt (w3 + 1) fun v14 => rec v14 S12)
def j_M_laySets_109 (F G : Nat) (S : St) (z1 : Int32) (z2 : Int32) (z3 : Int32) (k132 : Int32 → Option (Int32 × St)) (rec : Int32 → Int32 → Option (Int32 × St)) (_ : St) (y5 : Int32) (s0 : Int32) : Option (Int32 × St) :=
  gd (inB y5 30) (if s0 = (S.1 112 y5.toNatClampNeg) then lt (y5 + 1) fun v31 => rec (1 : Int32) v31 else lt (y5 + 1) fun v29 => rec (0 : Int32) v29)
def b_M_laySets_68 (F G : Nat) (S : St) (z1 : Int32) (z2 : Int32) (z3 : Int32) (k132 : Int32 → Option (Int32 × St)) (rec : Int32 → Int32 → Option (Int32 × St)) (w4 : Int32) (w5 : Int32) : Option (Int32 × St) :=
  if (S.1 78 74) ≤ w5 then k132 w4 else if w4 = 0 then k132 w4 else bd (fM_counts F G S w5 z1) fun v21 => if v21 = 0 then lt (w5 + 1) fun v23 => rec (1 : Int32) v23 else gd (inB w5 30) (if (z3 &&& (S.1 113 w5.toNatClampNeg)) = 0 then j_M_laySets_109 F G S z1 z2 z3 k132 rec  S w5 (0 : Int32) else j_M_laySets_109 F G S z1 z2 z3 k132 rec  S w5 (1 : Int32))
def b_M_laySets_146 (F G : Nat) (z1 : Int32) (z2 : Int32) (z3 : Int32) (k177 : St → Option (Int32 × St)) (rec : Int32 → St → Option (Int32 × St)) (w5 : Int32) (S : St) : Option (Int32 × St) :=
  if (S.1 78 48) ≤ w5 then k177 S else gd (inB w5 10) (gd (inB w5 10) (lt (sI S 114 w5.toNatClampNeg ((S.1 114 w5.toNatClampNeg) + ((z3 >>> (w5 &&& 31)) &&& (1 : Int32)))) fun S40 => lt (w5 + 1) fun v42 => rec v42 S40))
def j_M_laySets_132 (F G : Nat) (z1 : Int32) (rec : Int32 → Int32 → St → Option (Int32 × St)) (S : St) (y2 : Int32) (y3 : Int32) (y4 : Int32) : Option (Int32 × St) :=
  if y4 = 0 then lt (y3 + 1) fun v47 => rec y2 v47 S else lt (y2 + 1) fun v35 => fx2 (b_M_laySets_146 F G z1 v35 y3 (fun S44 => lt (y3 + 1) fun v45 => rec v35 v45 S44)) F (0 : Int32) S
def b_M_laySets_52 (F G : Nat) (z1 : Int32) (rec : Int32 → Int32 → St → Option (Int32 × St)) (w2 : Int32) (w3 : Int32) (S : St) : Option (Int32 × St) :=
  if ((1 : Int32) <<< ((S.1 78 48) &&& 31)) ≤ w3 then some (w2, S) else fx2 (b_M_laySets_68 F G S z1 w2 w3 (fun v33 => j_M_laySets_132 F G z1 rec  S w2 w3 v33)) F (1 : Int32) (0 : Int32)
def fM_laySets (F G : Nat) (S : St) (p1 : Int32) : Option (Int32 × St) :=
  fx2 (b_M_laySets_4 F G p1 (0 : Int32) (fun S9 => fx2 (b_M_laySets_31 F G p1 (0 : Int32) (fun S16 => fx3 (b_M_laySets_52 F G p1) F (0 : Int32) (0 : Int32) S16)) F (0 : Int32) S9)) F (0 : Int32) S
set_option maxRecDepth 100000 in
set_option maxHeartbeats 4000000 in
theorem T_M_laySets_4 {X : Nat × (Nat → Int32)} {D F G : Nat} (hD : 2 ≤ D + 1) {z1 : Int32} {z2 : Int32} {k29 : St → Option (Int32 × St)} (hk29 : ∀ (S1 : St) (res : Int32 × St), k29 S1 = some res → Ek X (D + 1) mM_laySets 29 [(0, .ref 78), (1, .int z1), (2, .int z2)] [] S1 (some (.int res.1)) res.2) : ∀ (f : Nat) (w3 : Int32) (S : St) (res : Int32 × St), fx2 (b_M_laySets_4 F G z1 z2 k29 ) f w3 S = some res → Ek X (D + 1) mM_laySets 4 [(0, .ref 78), (1, .int z1), (2, .int z2), (3, .int w3)] [] S (some (.int res.1)) res.2 := by
  refine fx2_ind ?_
  intro rec ih w3 S res h
  unfold b_M_laySets_4 at h
  refine x_iload_n d_M_laySets_4 rfl 3 rfl ?_
  refine x_aload_n d_M_laySets_5 rfl 0 rfl ?_
  refine y_getI d_M_laySets_6 fl_11_423 rfl kd_78 ?_
  refine x_icmp_ge (tgt := 29) d_M_laySets_9 rfl (fun c1 => ?_) (fun c1 => ?_)
  · replace h := ite_t c1 h
    refine y_pick (L1 := [(0, .ref 78), (1, .int z1), (2, .int z2)]) [0, 1, 2] rfl ?_
    exact hk29 S _ h
  · replace h := ite_f c1 h
    refine x_aload_n d_M_laySets_12 rfl 0 rfl ?_
    refine y_getR d_M_laySets_13 fl_11_133 rfl kd_78 rr_78_76 ?_
    refine x_iload_n d_M_laySets_16 rfl 3 rfl ?_
    refine x_aload_n d_M_laySets_17 rfl 0 rfl ?_
    refine x_iload_n d_M_laySets_18 rfl 3 rfl ?_
    obtain ⟨v3, q2, h⟩ := bd_inv h
    refine y_V1i (v := v3) (S1 := S) d_M_laySets_19 ml_11_543 kd_78 rfl (Nat.le_of_ble_eq_true rfl) (Nat.le_of_ble_eq_true rfl) (c_M_sayersOf (by omega) q2) ?_
    obtain ⟨g4, h⟩ := gd_inv h
    obtain ⟨S5, e6, h⟩ := lt_inv h
    refine y_iast e6 d_M_laySets_22 kd_113 g4 ?_
    obtain ⟨v7, e8, h⟩ := lt_inv h
    refine y_iinc (L1 := [(0, .ref 78), (1, .int z1), (2, .int z2), (3, .int v7)]) e8 ic_1 d_M_laySets_23 3 rfl (Nat.le_of_ble_eq_true rfl) rfl rfl ?_
    refine x_goto (tgt := 4) d_M_laySets_26 rfl ?_
    exact ih v7 S5 _ h
set_option maxRecDepth 100000 in
set_option maxHeartbeats 4000000 in
theorem T_M_laySets_31 {X : Nat × (Nat → Int32)} {D F G : Nat} (hD : 2 ≤ D + 1) {z1 : Int32} {z2 : Int32} {k50 : St → Option (Int32 × St)} (hk50 : ∀ (S1 : St) (res : Int32 × St), k50 S1 = some res → Ek X (D + 1) mM_laySets 50 [(0, .ref 78), (1, .int z1), (2, .int z2)] [] S1 (some (.int res.1)) res.2) : ∀ (f : Nat) (w3 : Int32) (S : St) (res : Int32 × St), fx2 (b_M_laySets_31 F G z1 z2 k50 ) f w3 S = some res → Ek X (D + 1) mM_laySets 31 [(0, .ref 78), (1, .int z1), (2, .int z2), (3, .int w3)] [] S (some (.int res.1)) res.2 := by
  refine fx2_ind ?_
  intro rec ih w3 S res h
  unfold b_M_laySets_31 at h
  refine x_iload_n d_M_laySets_31 rfl 3 rfl ?_
  refine x_bipush d_M_laySets_32 bp_10 ?_
  refine x_icmp_ge (tgt := 50) d_M_laySets_34 rfl (fun c10 => ?_) (fun c10 => ?_)
  · replace h := ite_t c10 h
    refine y_pick (L1 := [(0, .ref 78), (1, .int z1), (2, .int z2)]) [0, 1, 2] rfl ?_
    exact hk50 S _ h
  · replace h := ite_f c10 h
    refine x_aload_n d_M_laySets_37 rfl 0 rfl ?_
    refine y_getR d_M_laySets_38 fl_11_136 rfl kd_78 rr_78_77 ?_
    refine x_iload_n d_M_laySets_41 rfl 3 rfl ?_
    refine x_iconst d_M_laySets_42 ic_0 ?_
    obtain ⟨g11, h⟩ := gd_inv h
    obtain ⟨S12, e13, h⟩ := lt_inv h
    refine y_iast e13 d_M_laySets_43 kd_114 g11 ?_
    obtain ⟨v14, e15, h⟩ := lt_inv h
    refine y_iinc (L1 := [(0, .ref 78), (1, .int z1), (2, .int z2), (3, .int v14)]) e15 ic_1 d_M_laySets_44 3 rfl (Nat.le_of_ble_eq_true rfl) rfl rfl ?_
    refine x_goto (tgt := 31) d_M_laySets_47 rfl ?_
    exact ih v14 S12 _ h
set_option maxRecDepth 100000 in
set_option maxHeartbeats 4000000 in
theorem T_M_laySets_68 {X : Nat × (Nat → Int32)} {D F G : Nat} (hD : 2 ≤ D + 1) {S : St} {z1 : Int32} {z2 : Int32} {z3 : Int32} {k132 : Int32 → Option (Int32 × St)} (hk132 : ∀ (u4 : Int32) (res : Int32 × St), k132 u4 = some res → Ek X (D + 1) mM_laySets 132 [(0, .ref 78), (1, .int z1), (2, .int z2), (3, .int z3), (4, .int u4)] [] S (some (.int res.1)) res.2) : ∀ (f : Nat) (w4 : Int32) (w5 : Int32) (res : Int32 × St), fx2 (b_M_laySets_68 F G S z1 z2 z3 k132 ) f w4 w5 = some res → Ek X (D + 1) mM_laySets 68 [(0, .ref 78), (1, .int z1), (2, .int z2), (3, .int z3), (4, .int w4), (5, .int w5)] [] S (some (.int res.1)) res.2 := by
  refine fx2_ind ?_
  intro rec ih w4 w5 res h
  unfold b_M_laySets_68 at h
  have J109 : ∀ (y5 : Int32) (s0 : Int32) (res : Int32 × St), j_M_laySets_109 F G S z1 z2 z3 k132 rec S y5 s0 = some res → Ek X (D + 1) mM_laySets 109 [(0, .ref 78), (1, .int z1), (2, .int z2), (3, .int z3), (5, .int y5)] [.int s0] S (some (.int res.1)) res.2 := by
    intro y5 s0 res h
    unfold j_M_laySets_109 at h
    refine x_aload_n d_M_laySets_109 rfl 0 rfl ?_
    refine y_getR d_M_laySets_110 fl_11_129 rfl kd_78 rr_78_73 ?_
    refine x_iload d_M_laySets_113 4 rfl ?_
    obtain ⟨g27, h⟩ := gd_inv h
    refine y_zald d_M_laySets_115 kd_112 g27 ?_
    refine x_icmp_ne (tgt := 123) d_M_laySets_116 rfl (fun c28 => ?_) (fun c28 => ?_)
    · replace h := ite_f c28 h
      refine x_iconst d_M_laySets_123 ic_0 ?_
      refine x_istore (L1 := [(0, .ref 78), (1, .int z1), (2, .int z2), (3, .int z3), (4, .int (0 : Int32)), (5, .int y5)]) d_M_laySets_124 (Nat.le_of_ble_eq_true rfl) rfl rfl ?_
      obtain ⟨v29, e30, h⟩ := lt_inv h
      refine y_iinc (L1 := [(0, .ref 78), (1, .int z1), (2, .int z2), (3, .int z3), (4, .int (0 : Int32)), (5, .int v29)]) e30 ic_1 d_M_laySets_126 5 rfl (Nat.le_of_ble_eq_true rfl) rfl rfl ?_
      refine x_goto (tgt := 68) d_M_laySets_129 rfl ?_
      exact ih (0 : Int32) v29 _ h
    · replace h := ite_t c28 h
      refine x_iconst d_M_laySets_119 ic_1 ?_
      refine x_goto (tgt := 124) d_M_laySets_120 rfl ?_
      refine x_istore (L1 := [(0, .ref 78), (1, .int z1), (2, .int z2), (3, .int z3), (4, .int (1 : Int32)), (5, .int y5)]) d_M_laySets_124 (Nat.le_of_ble_eq_true rfl) rfl rfl ?_
      obtain ⟨v31, e32, h⟩ := lt_inv h
      refine y_iinc (L1 := [(0, .ref 78), (1, .int z1), (2, .int z2), (3, .int z3), (4, .int (1 : Int32)), (5, .int v31)]) e32 ic_1 d_M_laySets_126 5 rfl (Nat.le_of_ble_eq_true rfl) rfl rfl ?_
      refine x_goto (tgt := 68) d_M_laySets_129 rfl ?_
      exact ih (1 : Int32) v31 _ h
  refine x_iload d_M_laySets_68 5 rfl ?_
  refine x_aload_n d_M_laySets_70 rfl 0 rfl ?_
  refine y_getI d_M_laySets_71 fl_11_423 rfl kd_78 ?_
  refine x_icmp_ge (tgt := 132) d_M_laySets_74 rfl (fun c18 => ?_) (fun c18 => ?_)
  · replace h := ite_t c18 h
    refine y_pick (L1 := [(0, .ref 78), (1, .int z1), (2, .int z2), (3, .int z3), (4, .int w4)]) [0, 1, 2, 3, 4] rfl ?_
    exact hk132 w4 _ h
  · replace h := ite_f c18 h
    refine x_iload d_M_laySets_77 4 rfl ?_
    refine x_if_eq (tgt := 132) d_M_laySets_79 rfl (fun c19 => ?_) (fun c19 => ?_)
    · replace h := ite_t c19 h
      refine y_pick (L1 := [(0, .ref 78), (1, .int z1), (2, .int z2), (3, .int z3), (4, .int w4)]) [0, 1, 2, 3, 4] rfl ?_
      exact hk132 w4 _ h
    · replace h := ite_f c19 h
      refine x_aload_n d_M_laySets_82 rfl 0 rfl ?_
      refine x_iload d_M_laySets_83 5 rfl ?_
      refine x_iload_n d_M_laySets_85 rfl 1 rfl ?_
      obtain ⟨v21, q20, h⟩ := bd_inv h
      refine y_V2i (v := v21) (S1 := S) d_M_laySets_86 ml_11_546 kd_78 rfl (Nat.le_of_ble_eq_true rfl) (Nat.le_of_ble_eq_true rfl) (c_M_counts (by omega) q20) ?_
      refine x_if_eq (tgt := 119) d_M_laySets_89 rfl (fun c22 => ?_) (fun c22 => ?_)
      · replace h := ite_t c22 h
        refine x_iconst d_M_laySets_119 ic_1 ?_
        refine x_goto (tgt := 124) d_M_laySets_120 rfl ?_
        refine x_istore (L1 := [(0, .ref 78), (1, .int z1), (2, .int z2), (3, .int z3), (4, .int (1 : Int32)), (5, .int w5)]) d_M_laySets_124 (Nat.le_of_ble_eq_true rfl) rfl rfl ?_
        obtain ⟨v23, e24, h⟩ := lt_inv h
        refine y_iinc (L1 := [(0, .ref 78), (1, .int z1), (2, .int z2), (3, .int z3), (4, .int (1 : Int32)), (5, .int v23)]) e24 ic_1 d_M_laySets_126 5 rfl (Nat.le_of_ble_eq_true rfl) rfl rfl ?_
        refine x_goto (tgt := 68) d_M_laySets_129 rfl ?_
        exact ih (1 : Int32) v23 _ h
      · replace h := ite_f c22 h
        refine x_iload_n d_M_laySets_92 rfl 3 rfl ?_
        refine x_aload_n d_M_laySets_93 rfl 0 rfl ?_
        refine y_getR d_M_laySets_94 fl_11_133 rfl kd_78 rr_78_76 ?_
        refine x_iload d_M_laySets_97 5 rfl ?_
        obtain ⟨g25, h⟩ := gd_inv h
        refine y_iald d_M_laySets_99 kd_113 g25 ?_
        refine x_iand d_M_laySets_100 ?_
        refine x_if_eq (tgt := 108) d_M_laySets_101 rfl (fun c26 => ?_) (fun c26 => ?_)
        · replace h := ite_t c26 h
          refine x_iconst d_M_laySets_108 ic_0 ?_
          refine y_pick (L1 := [(0, .ref 78), (1, .int z1), (2, .int z2), (3, .int z3), (5, .int w5)]) [0, 1, 2, 3, 5] rfl ?_
          exact J109 w5 (0 : Int32) _ h
        · replace h := ite_f c26 h
          refine x_iconst d_M_laySets_104 ic_1 ?_
          refine x_goto (tgt := 109) d_M_laySets_105 rfl ?_
          refine y_pick (L1 := [(0, .ref 78), (1, .int z1), (2, .int z2), (3, .int z3), (5, .int w5)]) [0, 1, 2, 3, 5] rfl ?_
          exact J109 w5 (1 : Int32) _ h
set_option maxRecDepth 100000 in
set_option maxHeartbeats 4000000 in
theorem T_M_laySets_146 {X : Nat × (Nat → Int32)} {D F G : Nat} (hD : 2 ≤ D + 1) {z1 : Int32} {z2 : Int32} {z3 : Int32} {k177 : St → Option (Int32 × St)} (hk177 : ∀ (S1 : St) (res : Int32 × St), k177 S1 = some res → Ek X (D + 1) mM_laySets 177 [(0, .ref 78), (1, .int z1), (2, .int z2), (3, .int z3)] [] S1 (some (.int res.1)) res.2) : ∀ (f : Nat) (w5 : Int32) (S : St) (res : Int32 × St), fx2 (b_M_laySets_146 F G z1 z2 z3 k177 ) f w5 S = some res → Ek X (D + 1) mM_laySets 146 [(0, .ref 78), (1, .int z1), (2, .int z2), (3, .int z3), (5, .int w5)] [] S (some (.int res.1)) res.2 := by
  refine fx2_ind ?_
  intro rec ih w5 S res h
  unfold b_M_laySets_146 at h
  refine x_iload d_M_laySets_146 4 rfl ?_
  refine x_aload_n d_M_laySets_148 rfl 0 rfl ?_
  refine y_getI d_M_laySets_149 fl_11_322 rfl kd_78 ?_
  refine x_icmp_ge (tgt := 177) d_M_laySets_152 rfl (fun c37 => ?_) (fun c37 => ?_)
  · replace h := ite_t c37 h
    refine y_pick (L1 := [(0, .ref 78), (1, .int z1), (2, .int z2), (3, .int z3)]) [0, 1, 2, 3] rfl ?_
    exact hk177 S _ h
  · replace h := ite_f c37 h
    refine x_aload_n d_M_laySets_155 rfl 0 rfl ?_
    refine y_getR d_M_laySets_156 fl_11_136 rfl kd_78 rr_78_77 ?_
    refine x_iload d_M_laySets_159 4 rfl ?_
    refine x_dup2 d_M_laySets_161 rfl rfl ?_
    obtain ⟨g38, h⟩ := gd_inv h
    refine y_iald d_M_laySets_162 kd_114 g38 ?_
    refine x_iload_n d_M_laySets_163 rfl 3 rfl ?_
    refine x_iload d_M_laySets_164 4 rfl ?_
    refine x_ishr d_M_laySets_166 ?_
    refine x_iconst d_M_laySets_167 ic_1 ?_
    refine x_iand d_M_laySets_168 ?_
    refine x_iadd d_M_laySets_169 ?_
    obtain ⟨g39, h⟩ := gd_inv h
    obtain ⟨S40, e41, h⟩ := lt_inv h
    refine y_iast e41 d_M_laySets_170 kd_114 g39 ?_
    obtain ⟨v42, e43, h⟩ := lt_inv h
    refine y_iinc (L1 := [(0, .ref 78), (1, .int z1), (2, .int z2), (3, .int z3), (5, .int v42)]) e43 ic_1 d_M_laySets_171 4 rfl (Nat.le_of_ble_eq_true rfl) rfl rfl ?_
    refine x_goto (tgt := 146) d_M_laySets_174 rfl ?_
    exact ih v42 S40 _ h
set_option maxRecDepth 100000 in
set_option maxHeartbeats 4000000 in
theorem T_M_laySets_52 {X : Nat × (Nat → Int32)} {D F G : Nat} (hD : 2 ≤ D + 1) {z1 : Int32} : ∀ (f : Nat) (w2 : Int32) (w3 : Int32) (S : St) (res : Int32 × St), fx3 (b_M_laySets_52 F G z1 ) f w2 w3 S = some res → Ek X (D + 1) mM_laySets 52 [(0, .ref 78), (1, .int z1), (2, .int w2), (3, .int w3)] [] S (some (.int res.1)) res.2 := by
  refine fx3_ind ?_
  intro rec ih w2 w3 S res h
  unfold b_M_laySets_52 at h
  have J132 : ∀ (S : St) (y2 : Int32) (y3 : Int32) (y4 : Int32) (res : Int32 × St), j_M_laySets_132 F G z1 rec S y2 y3 y4 = some res → Ek X (D + 1) mM_laySets 132 [(0, .ref 78), (1, .int z1), (2, .int y2), (3, .int y3), (4, .int y4)] [] S (some (.int res.1)) res.2 := by
    intro S y2 y3 y4 res h
    unfold j_M_laySets_132 at h
    refine x_iload d_M_laySets_132 4 rfl ?_
    refine x_if_ne (tgt := 140) d_M_laySets_134 rfl (fun c34 => ?_) (fun c34 => ?_)
    · replace h := ite_f c34 h
      obtain ⟨v35, e36, h⟩ := lt_inv h
      refine y_iinc (L1 := [(0, .ref 78), (1, .int z1), (2, .int v35), (3, .int y3), (4, .int y4)]) e36 ic_1 d_M_laySets_140 2 rfl (Nat.le_of_ble_eq_true rfl) rfl rfl ?_
      refine x_iconst d_M_laySets_143 ic_0 ?_
      refine x_istore (L1 := [(0, .ref 78), (1, .int z1), (2, .int v35), (3, .int y3), (4, .int y4), (5, .int (0 : Int32))]) d_M_laySets_144 (Nat.le_of_ble_eq_true rfl) rfl rfl ?_
      refine y_pick (L1 := [(0, .ref 78), (1, .int z1), (2, .int v35), (3, .int y3), (5, .int (0 : Int32))]) [0, 1, 2, 3, 5] rfl ?_
      refine T_M_laySets_146 (by omega)  ?_ F (0 : Int32) S _ h
      · intro S44 res h
        obtain ⟨v45, e46, h⟩ := lt_inv h
        refine y_iinc (L1 := [(0, .ref 78), (1, .int z1), (2, .int v35), (3, .int v45)]) e46 ic_1 d_M_laySets_177 3 rfl (Nat.le_of_ble_eq_true rfl) rfl rfl ?_
        refine x_goto (tgt := 52) d_M_laySets_180 rfl ?_
        exact ih v35 v45 S44 _ h
    · replace h := ite_t c34 h
      refine x_goto (tgt := 177) d_M_laySets_137 rfl ?_
      obtain ⟨v47, e48, h⟩ := lt_inv h
      refine y_iinc (L1 := [(0, .ref 78), (1, .int z1), (2, .int y2), (3, .int v47), (4, .int y4)]) e48 ic_1 d_M_laySets_177 3 rfl (Nat.le_of_ble_eq_true rfl) rfl rfl ?_
      refine x_goto (tgt := 52) d_M_laySets_180 rfl ?_
      refine y_pick (L1 := [(0, .ref 78), (1, .int z1), (2, .int y2), (3, .int v47)]) [0, 1, 2, 3] rfl ?_
      exact ih y2 v47 S _ h
  refine x_iload_n d_M_laySets_52 rfl 3 rfl ?_
  refine x_iconst d_M_laySets_53 ic_1 ?_
  refine x_aload_n d_M_laySets_54 rfl 0 rfl ?_
  refine y_getI d_M_laySets_55 fl_11_322 rfl kd_78 ?_
  refine x_ishl d_M_laySets_58 ?_
  refine x_icmp_ge (tgt := 183) d_M_laySets_59 rfl (fun c17 => ?_) (fun c17 => ?_)
  · replace h := ite_t c17 h
    refine x_iload_n d_M_laySets_183 rfl 2 rfl ?_
    obtain rfl := Option.some.inj h
    exact x_ret (r := some (.int w2)) d_M_laySets_184 ⟨_, rfl, rfl⟩
  · replace h := ite_f c17 h
    refine x_iconst d_M_laySets_62 ic_1 ?_
    refine x_istore (L1 := [(0, .ref 78), (1, .int z1), (2, .int w2), (3, .int w3), (4, .int (1 : Int32))]) d_M_laySets_63 (Nat.le_of_ble_eq_true rfl) rfl rfl ?_
    refine x_iconst d_M_laySets_65 ic_0 ?_
    refine x_istore (L1 := [(0, .ref 78), (1, .int z1), (2, .int w2), (3, .int w3), (4, .int (1 : Int32)), (5, .int (0 : Int32))]) d_M_laySets_66 (Nat.le_of_ble_eq_true rfl) rfl rfl ?_
    refine T_M_laySets_68 (by omega)  ?_ F (1 : Int32) (0 : Int32) _ h
    · intro v33 res h
      exact J132 S w2 w3 v33 _ h
set_option maxRecDepth 100000 in
set_option maxHeartbeats 4000000 in
theorem c_M_laySets {X : Nat × (Nat → Int32)} {D F G : Nat} (hD : 2 ≤ D) {S : St} {p1 : Int32} {res : Int32 × St} (h : fM_laySets F G S p1 = some res) : Ek X (D) mM_laySets 0 [(0, .ref 78), (1, .int p1)] [] S (some (.int res.1)) res.2 := by
  obtain ⟨D, rfl⟩ : ∃ E, D = E + 1 := ⟨D - 1, by omega⟩
  unfold fM_laySets at h
  refine x_iconst d_M_laySets_0 ic_0 ?_
  refine x_istore_n (L1 := [(0, .ref 78), (1, .int p1), (2, .int (0 : Int32))]) d_M_laySets_1 rfl (Nat.le_of_ble_eq_true rfl) rfl rfl ?_
  refine x_iconst d_M_laySets_2 ic_0 ?_
  refine x_istore_n (L1 := [(0, .ref 78), (1, .int p1), (2, .int (0 : Int32)), (3, .int (0 : Int32))]) d_M_laySets_3 rfl (Nat.le_of_ble_eq_true rfl) rfl rfl ?_
  refine T_M_laySets_4 (by omega)  ?_ F (0 : Int32) S _ h
  · intro S9 res h
    refine x_iconst d_M_laySets_29 ic_0 ?_
    refine x_istore_n (L1 := [(0, .ref 78), (1, .int p1), (2, .int (0 : Int32)), (3, .int (0 : Int32))]) d_M_laySets_30 rfl (Nat.le_of_ble_eq_true rfl) rfl rfl ?_
    refine T_M_laySets_31 (by omega)  ?_ F (0 : Int32) S9 _ h
    · intro S16 res h
      refine x_iconst d_M_laySets_50 ic_0 ?_
      refine x_istore_n (L1 := [(0, .ref 78), (1, .int p1), (2, .int (0 : Int32)), (3, .int (0 : Int32))]) d_M_laySets_51 rfl (Nat.le_of_ble_eq_true rfl) rfl rfl ?_
      refine T_M_laySets_52 (by omega)   F (0 : Int32) (0 : Int32) S16 _ h
/-! NinetyPlayersModel.sets -/
def fM_sets (F G : Nat) (S : St) (p1 : Int32) : Option (Int32 × St) :=
  bd2 (fM_laySets F G S p1) fun v2 S3 => some (v2, S3)
set_option maxRecDepth 100000 in
set_option maxHeartbeats 4000000 in
theorem c_M_sets {X : Nat × (Nat → Int32)} {D F G : Nat} (hD : 3 ≤ D) {S : St} {p1 : Int32} {res : Int32 × St} (h : fM_sets F G S p1 = some res) : Ek X (D) mM_sets 0 [(0, .ref 78), (1, .int p1)] [] S (some (.int res.1)) res.2 := by
  obtain ⟨D, rfl⟩ : ∃ E, D = E + 1 := ⟨D - 1, by omega⟩
  unfold fM_sets at h
  refine x_aload_n d_M_sets_0 rfl 0 rfl ?_
  refine x_iload_n d_M_sets_1 rfl 1 rfl ?_
  obtain ⟨v2, S3, q1, h⟩ := bd2_inv h
  refine y_V1i (v := v2) (S1 := S3) d_M_sets_2 ml_11_550 kd_78 rfl (Nat.le_of_ble_eq_true rfl) (Nat.le_of_ble_eq_true rfl) (c_M_laySets (by omega) q1) ?_
  obtain rfl := Option.some.inj h
  exact x_ret (r := some (.int v2)) d_M_sets_5 ⟨_, rfl, rfl⟩
/-! NinetyPlayers.sure -/
def fN_sure (F G : Nat) (S : St) (p1 : Int32) (p2 : Int32) : Option (Int32 × St) :=
  bd (fN_isNote F G S p1) fun v2 => if v2 = 0 then some ((-1 : Int32), S) else gd (isSc S.2.2.1) (bd (fI_count F G S S.2.2.1 p2) fun S6 => if (S6.1 69 2) = 0 then some ((-1 : Int32), S6) else gd (inB p1 10) (lt (S6.1 70 p1.toNatClampNeg) fun v9 => if v9 = (S6.1 69 2) then some ((1 : Int32), S6) else if v9 = 0 then some ((0 : Int32), S6) else some ((-2 : Int32), S6)))
set_option maxRecDepth 100000 in
set_option maxHeartbeats 4000000 in
theorem c_N_sure {X : Nat × (Nat → Int32)} {D F G : Nat} (hD : 3 ≤ D) {S : St} {p1 : Int32} {p2 : Int32} {res : Int32 × St} (h : fN_sure F G S p1 p2 = some res) : Ek X (D) mN_sure 0 [(0, .ref 0), (1, .int p1), (2, .int p2)] [] S (some (.int res.1)) res.2 := by
  obtain ⟨D, rfl⟩ : ∃ E, D = E + 1 := ⟨D - 1, by omega⟩
  unfold fN_sure at h
  refine x_aload_n d_N_sure_0 rfl 0 rfl ?_
  refine x_iload_n d_N_sure_1 rfl 1 rfl ?_
  obtain ⟨v2, q1, h⟩ := bd_inv h
  refine y_V1i (v := v2) (S1 := S) d_N_sure_2 ml_0_128 kd_0 rfl (Nat.le_of_ble_eq_true rfl) (Nat.le_of_ble_eq_true rfl) (c_N_isNote (by omega) q1) ?_
  refine x_if_ne (tgt := 10) d_N_sure_5 rfl (fun c3 => ?_) (fun c3 => ?_)
  · replace h := ite_f c3 h
    refine x_aload_n d_N_sure_10 rfl 0 rfl ?_
    refine y_getR d_N_sure_11 fl_0_73 rfl kd_0 rr_0_10 ?_
    refine x_aload_n d_N_sure_14 rfl 0 rfl ?_
    refine y_getR d_N_sure_15 fl_0_24 rfl kd_0 rr_told ?_
    obtain ⟨g4, h⟩ := gd_inv h
    refine x_iload_n d_N_sure_18 rfl 2 rfl ?_
    obtain ⟨S6, q5, h⟩ := bd_inv h
    refine y_V2v (S1 := S6) d_N_sure_19 ml_0_331 kd_69 rfl (Nat.le_of_ble_eq_true rfl) (Nat.le_of_ble_eq_true rfl) (c_I_count (by omega) q5) ?_
    refine x_aload_n d_N_sure_22 rfl 0 rfl ?_
    refine y_getR d_N_sure_23 fl_0_73 rfl kd_0 rr_0_10 ?_
    refine y_getI d_N_sure_26 fl_0_335 rfl kd_69 ?_
    refine x_if_ne (tgt := 34) d_N_sure_29 rfl (fun c7 => ?_) (fun c7 => ?_)
    · replace h := ite_f c7 h
      refine x_aload_n d_N_sure_34 rfl 0 rfl ?_
      refine y_getR d_N_sure_35 fl_0_73 rfl kd_0 rr_0_10 ?_
      refine y_getR d_N_sure_38 fl_0_338 rfl kd_69 rr_69_3 ?_
      refine x_iload_n d_N_sure_41 rfl 1 rfl ?_
      obtain ⟨g8, h⟩ := gd_inv h
      refine y_iald d_N_sure_42 kd_70 g8 ?_
      obtain ⟨v9, e10, h⟩ := lt_inv h
      refine y_istore_n (L1 := [(0, .ref 0), (1, .int p1), (2, .int p2), (3, .int v9)]) e10 d_N_sure_43 rfl (Nat.le_of_ble_eq_true rfl) rfl rfl ?_
      refine x_iload_n d_N_sure_44 rfl 3 rfl ?_
      refine x_aload_n d_N_sure_45 rfl 0 rfl ?_
      refine y_getR d_N_sure_46 fl_0_73 rfl kd_0 rr_0_10 ?_
      refine y_getI d_N_sure_49 fl_0_335 rfl kd_69 ?_
      refine x_icmp_ne (tgt := 57) d_N_sure_52 rfl (fun c11 => ?_) (fun c11 => ?_)
      · replace h := ite_f c11 h
        refine x_iload_n d_N_sure_57 rfl 3 rfl ?_
        refine x_if_ne (tgt := 65) d_N_sure_58 rfl (fun c12 => ?_) (fun c12 => ?_)
        · replace h := ite_f c12 h
          refine x_bipush d_N_sure_65 bp_m2 ?_
          obtain rfl := Option.some.inj h
          exact x_ret (r := some (.int (-2 : Int32))) d_N_sure_67 ⟨_, rfl, rfl⟩
        · replace h := ite_t c12 h
          refine x_iconst d_N_sure_61 ic_0 ?_
          refine x_goto (tgt := 67) d_N_sure_62 rfl ?_
          obtain rfl := Option.some.inj h
          exact x_ret (r := some (.int (0 : Int32))) d_N_sure_67 ⟨_, rfl, rfl⟩
      · replace h := ite_t c11 h
        refine x_iconst d_N_sure_55 ic_1 ?_
        obtain rfl := Option.some.inj h
        exact x_ret (r := some (.int (1 : Int32))) d_N_sure_56 ⟨_, rfl, rfl⟩
    · replace h := ite_t c7 h
      refine x_iconst d_N_sure_32 ic_m1 ?_
      obtain rfl := Option.some.inj h
      exact x_ret (r := some (.int (-1 : Int32))) d_N_sure_33 ⟨_, rfl, rfl⟩
  · replace h := ite_t c3 h
    refine x_iconst d_N_sure_8 ic_m1 ?_
    obtain rfl := Option.some.inj h
    exact x_ret (r := some (.int (-1 : Int32))) d_N_sure_9 ⟨_, rfl, rfl⟩
/-! NinetyPlayersModel.sure -/
def fM_sure (F G : Nat) (S : St) (p1 : Int32) (p2 : Int32) : Option (Int32 × St) :=
  bd (fM_isNote F G S p1) fun v2 => if v2 = 0 then some ((-1 : Int32), S) else bd2 (fM_laySets F G S p2) fun v5 S6 => if v5 = 0 then some ((-1 : Int32), S6) else gd (inB p1 10) (if (S6.1 114 p1.toNatClampNeg) = v5 then some ((1 : Int32), S6) else gd (inB p1 10) (if (S6.1 114 p1.toNatClampNeg) = 0 then some ((0 : Int32), S6) else some ((-2 : Int32), S6)))
set_option maxRecDepth 100000 in
set_option maxHeartbeats 4000000 in
theorem c_M_sure {X : Nat × (Nat → Int32)} {D F G : Nat} (hD : 3 ≤ D) {S : St} {p1 : Int32} {p2 : Int32} {res : Int32 × St} (h : fM_sure F G S p1 p2 = some res) : Ek X (D) mM_sure 0 [(0, .ref 78), (1, .int p1), (2, .int p2)] [] S (some (.int res.1)) res.2 := by
  obtain ⟨D, rfl⟩ : ∃ E, D = E + 1 := ⟨D - 1, by omega⟩
  unfold fM_sure at h
  refine x_aload_n d_M_sure_0 rfl 0 rfl ?_
  refine x_iload_n d_M_sure_1 rfl 1 rfl ?_
  obtain ⟨v2, q1, h⟩ := bd_inv h
  refine y_V1i (v := v2) (S1 := S) d_M_sure_2 ml_11_461 kd_78 rfl (Nat.le_of_ble_eq_true rfl) (Nat.le_of_ble_eq_true rfl) (c_M_isNote (by omega) q1) ?_
  refine x_if_ne (tgt := 10) d_M_sure_5 rfl (fun c3 => ?_) (fun c3 => ?_)
  · replace h := ite_f c3 h
    refine x_aload_n d_M_sure_10 rfl 0 rfl ?_
    refine x_iload_n d_M_sure_11 rfl 2 rfl ?_
    obtain ⟨v5, S6, q4, h⟩ := bd2_inv h
    refine y_V1i (v := v5) (S1 := S6) d_M_sure_12 ml_11_550 kd_78 rfl (Nat.le_of_ble_eq_true rfl) (Nat.le_of_ble_eq_true rfl) (c_M_laySets (by omega) q4) ?_
    refine x_istore_n (L1 := [(0, .ref 78), (1, .int p1), (2, .int p2), (3, .int v5)]) d_M_sure_15 rfl (Nat.le_of_ble_eq_true rfl) rfl rfl ?_
    refine x_iload_n d_M_sure_16 rfl 3 rfl ?_
    refine x_if_ne (tgt := 24) d_M_sure_17 rfl (fun c7 => ?_) (fun c7 => ?_)
    · replace h := ite_f c7 h
      refine x_aload_n d_M_sure_24 rfl 0 rfl ?_
      refine y_getR d_M_sure_25 fl_11_136 rfl kd_78 rr_78_77 ?_
      refine x_iload_n d_M_sure_28 rfl 1 rfl ?_
      obtain ⟨g8, h⟩ := gd_inv h
      refine y_iald d_M_sure_29 kd_114 g8 ?_
      refine x_iload_n d_M_sure_30 rfl 3 rfl ?_
      refine x_icmp_ne (tgt := 38) d_M_sure_31 rfl (fun c9 => ?_) (fun c9 => ?_)
      · replace h := ite_f c9 h
        refine x_aload_n d_M_sure_38 rfl 0 rfl ?_
        refine y_getR d_M_sure_39 fl_11_136 rfl kd_78 rr_78_77 ?_
        refine x_iload_n d_M_sure_42 rfl 1 rfl ?_
        obtain ⟨g10, h⟩ := gd_inv h
        refine y_iald d_M_sure_43 kd_114 g10 ?_
        refine x_if_ne (tgt := 51) d_M_sure_44 rfl (fun c11 => ?_) (fun c11 => ?_)
        · replace h := ite_f c11 h
          refine x_bipush d_M_sure_51 bp_m2 ?_
          obtain rfl := Option.some.inj h
          exact x_ret (r := some (.int (-2 : Int32))) d_M_sure_53 ⟨_, rfl, rfl⟩
        · replace h := ite_t c11 h
          refine x_iconst d_M_sure_47 ic_0 ?_
          refine x_goto (tgt := 53) d_M_sure_48 rfl ?_
          obtain rfl := Option.some.inj h
          exact x_ret (r := some (.int (0 : Int32))) d_M_sure_53 ⟨_, rfl, rfl⟩
      · replace h := ite_t c9 h
        refine x_iconst d_M_sure_34 ic_1 ?_
        refine x_goto (tgt := 53) d_M_sure_35 rfl ?_
        obtain rfl := Option.some.inj h
        exact x_ret (r := some (.int (1 : Int32))) d_M_sure_53 ⟨_, rfl, rfl⟩
    · replace h := ite_t c7 h
      refine x_iconst d_M_sure_20 ic_m1 ?_
      refine x_goto (tgt := 53) d_M_sure_21 rfl ?_
      obtain rfl := Option.some.inj h
      exact x_ret (r := some (.int (-1 : Int32))) d_M_sure_53 ⟨_, rfl, rfl⟩
  · replace h := ite_t c3 h
    refine x_iconst d_M_sure_8 ic_m1 ?_
    obtain rfl := Option.some.inj h
    exact x_ret (r := some (.int (-1 : Int32))) d_M_sure_9 ⟨_, rfl, rfl⟩
/-! NinetyPlayers.ask -/
def b_N_ask_39 (F G : Nat) (S : St) (z1 : Int32) (rec : Int32 → Int32 → Int32 → Option (Int32 × St)) (w3 : Int32) (w4 : Int32) (w5 : Int32) : Option (Int32 × St) :=
  gd (isSc S.2.2.1) (if (S.1 S.2.2.1 6) ≤ w5 then if z1 = 0 then some (w3, S) else if w3 = (-1 : Int32) then some (w3, S) else some (w4, S) else if (S.1 69 2) ≤ 0 then if z1 = 0 then some (w3, S) else if w3 = (-1 : Int32) then some (w3, S) else some (w4, S) else gd (inB w5 10) (gd (inB w5 10) (lt (if (S.1 70 w5.toNatClampNeg) < ((S.1 69 2) - (S.1 70 w5.toNatClampNeg)) then ((S.1 69 2) - (S.1 70 w5.toNatClampNeg)) else (S.1 70 w5.toNatClampNeg)) fun v17 => if w4 ≤ v17 then lt (w5 + 1) fun v20 => rec w3 w4 v20 else lt (w5 + 1) fun v22 => rec w5 v17 v22)))
def fN_ask (F G : Nat) (S : St) (p1 : Int32) (p2 : Int32) : Option (Int32 × St) :=
  if p1 < 0 then some ((-1 : Int32), S) else if p1 ≤ (1 : Int32) then gd (isSc S.2.2.1) (bd (fI_count F G S S.2.2.1 p2) fun S5 => lt ((S5.1 69 2) + (1 : Int32)) fun v6 => fx3 (b_N_ask_39 F G S5 p1) F (-1 : Int32) v6 (0 : Int32)) else some ((-1 : Int32), S)
set_option maxRecDepth 100000 in
set_option maxHeartbeats 4000000 in
theorem T_N_ask_39 {X : Nat × (Nat → Int32)} {D F G : Nat} (hD : 3 ≤ D + 1) {S : St} {z1 : Int32} : ∀ (f : Nat) (w3 : Int32) (w4 : Int32) (w5 : Int32) (res : Int32 × St), fx3 (b_N_ask_39 F G S z1 ) f w3 w4 w5 = some res → Ek X (D + 1) mN_ask 39 [(0, .ref 0), (1, .int z1), (3, .int w3), (4, .int w4), (5, .int w5)] [] S (some (.int res.1)) res.2 := by
  refine fx3_ind ?_
  intro rec ih w3 w4 w5 res h
  unfold b_N_ask_39 at h
  refine x_iload d_N_ask_39 4 rfl ?_
  refine x_aload_n d_N_ask_41 rfl 0 rfl ?_
  refine y_getR d_N_ask_42 fl_0_24 rfl kd_0 rr_told ?_
  obtain ⟨g8, h⟩ := gd_inv h
  refine y_getI d_N_ask_45 fl_0_122 rfl (ksSc g8) ?_
  refine x_icmp_ge (tgt := 114) d_N_ask_48 rfl (fun c9 => ?_) (fun c9 => ?_)
  · replace h := ite_t c9 h
    refine x_iload_n d_N_ask_114 rfl 1 rfl ?_
    refine x_if_eq (tgt := 123) d_N_ask_115 rfl (fun c10 => ?_) (fun c10 => ?_)
    · replace h := ite_t c10 h
      refine x_iload_n d_N_ask_123 rfl 2 rfl ?_
      refine x_goto (tgt := 129) d_N_ask_124 rfl ?_
      obtain rfl := Option.some.inj h
      exact x_ret (r := some (.int w3)) d_N_ask_129 ⟨_, rfl, rfl⟩
    · replace h := ite_f c10 h
      refine x_iload_n d_N_ask_118 rfl 2 rfl ?_
      refine x_iconst d_N_ask_119 ic_m1 ?_
      refine x_icmp_ne (tgt := 127) d_N_ask_120 rfl (fun c11 => ?_) (fun c11 => ?_)
      · replace h := ite_f c11 h
        refine x_iload d_N_ask_127 3 rfl ?_
        obtain rfl := Option.some.inj h
        exact x_ret (r := some (.int w4)) d_N_ask_129 ⟨_, rfl, rfl⟩
      · replace h := ite_t c11 h
        refine x_iload_n d_N_ask_123 rfl 2 rfl ?_
        refine x_goto (tgt := 129) d_N_ask_124 rfl ?_
        obtain rfl := Option.some.inj h
        exact x_ret (r := some (.int w3)) d_N_ask_129 ⟨_, rfl, rfl⟩
  · replace h := ite_f c9 h
    refine x_aload_n d_N_ask_51 rfl 0 rfl ?_
    refine y_getR d_N_ask_52 fl_0_73 rfl kd_0 rr_0_10 ?_
    refine y_getI d_N_ask_55 fl_0_335 rfl kd_69 ?_
    refine x_if_le (tgt := 114) d_N_ask_58 rfl (fun c12 => ?_) (fun c12 => ?_)
    · replace h := ite_t c12 h
      refine x_iload_n d_N_ask_114 rfl 1 rfl ?_
      refine x_if_eq (tgt := 123) d_N_ask_115 rfl (fun c13 => ?_) (fun c13 => ?_)
      · replace h := ite_t c13 h
        refine x_iload_n d_N_ask_123 rfl 2 rfl ?_
        refine x_goto (tgt := 129) d_N_ask_124 rfl ?_
        obtain rfl := Option.some.inj h
        exact x_ret (r := some (.int w3)) d_N_ask_129 ⟨_, rfl, rfl⟩
      · replace h := ite_f c13 h
        refine x_iload_n d_N_ask_118 rfl 2 rfl ?_
        refine x_iconst d_N_ask_119 ic_m1 ?_
        refine x_icmp_ne (tgt := 127) d_N_ask_120 rfl (fun c14 => ?_) (fun c14 => ?_)
        · replace h := ite_f c14 h
          refine x_iload d_N_ask_127 3 rfl ?_
          obtain rfl := Option.some.inj h
          exact x_ret (r := some (.int w4)) d_N_ask_129 ⟨_, rfl, rfl⟩
        · replace h := ite_t c14 h
          refine x_iload_n d_N_ask_123 rfl 2 rfl ?_
          refine x_goto (tgt := 129) d_N_ask_124 rfl ?_
          obtain rfl := Option.some.inj h
          exact x_ret (r := some (.int w3)) d_N_ask_129 ⟨_, rfl, rfl⟩
    · replace h := ite_f c12 h
      refine x_aload_n d_N_ask_61 rfl 0 rfl ?_
      refine y_getR d_N_ask_62 fl_0_73 rfl kd_0 rr_0_10 ?_
      refine y_getR d_N_ask_65 fl_0_338 rfl kd_69 rr_69_3 ?_
      refine x_iload d_N_ask_68 4 rfl ?_
      obtain ⟨g15, h⟩ := gd_inv h
      refine y_iald d_N_ask_70 kd_70 g15 ?_
      refine x_aload_n d_N_ask_71 rfl 0 rfl ?_
      refine y_getR d_N_ask_72 fl_0_73 rfl kd_0 rr_0_10 ?_
      refine y_getI d_N_ask_75 fl_0_335 rfl kd_69 ?_
      refine x_aload_n d_N_ask_78 rfl 0 rfl ?_
      refine y_getR d_N_ask_79 fl_0_73 rfl kd_0 rr_0_10 ?_
      refine y_getR d_N_ask_82 fl_0_338 rfl kd_69 rr_69_3 ?_
      refine x_iload d_N_ask_85 4 rfl ?_
      obtain ⟨g16, h⟩ := gd_inv h
      refine y_iald d_N_ask_87 kd_70 g16 ?_
      refine x_isub d_N_ask_88 ?_
      refine y_mmax d_N_ask_89 ml_0_234 (Nat.le_of_ble_eq_true rfl) ?_
      obtain ⟨v17, e18, h⟩ := lt_inv h
      refine y_istore (L1 := [(0, .ref 0), (1, .int z1), (3, .int w3), (4, .int w4), (5, .int w5), (6, .int v17)]) e18 d_N_ask_92 (Nat.le_of_ble_eq_true rfl) rfl rfl ?_
      refine x_iload d_N_ask_94 5 rfl ?_
      refine x_iload d_N_ask_96 3 rfl ?_
      refine x_icmp_ge (tgt := 108) d_N_ask_98 rfl (fun c19 => ?_) (fun c19 => ?_)
      · replace h := ite_t c19 h
        obtain ⟨v20, e21, h⟩ := lt_inv h
        refine y_iinc (L1 := [(0, .ref 0), (1, .int z1), (3, .int w3), (4, .int w4), (5, .int v20), (6, .int v17)]) e21 ic_1 d_N_ask_108 4 rfl (Nat.le_of_ble_eq_true rfl) rfl rfl ?_
        refine x_goto (tgt := 39) d_N_ask_111 rfl ?_
        refine y_pick (L1 := [(0, .ref 0), (1, .int z1), (3, .int w3), (4, .int w4), (5, .int v20)]) [0, 1, 2, 3, 4] rfl ?_
        exact ih w3 w4 v20 _ h
      · replace h := ite_f c19 h
        refine x_iload d_N_ask_101 5 rfl ?_
        refine x_istore (L1 := [(0, .ref 0), (1, .int z1), (3, .int w3), (4, .int v17), (5, .int w5), (6, .int v17)]) d_N_ask_103 (Nat.le_of_ble_eq_true rfl) rfl rfl ?_
        refine x_iload d_N_ask_105 4 rfl ?_
        refine x_istore_n (L1 := [(0, .ref 0), (1, .int z1), (3, .int w5), (4, .int v17), (5, .int w5), (6, .int v17)]) d_N_ask_107 rfl (Nat.le_of_ble_eq_true rfl) rfl rfl ?_
        obtain ⟨v22, e23, h⟩ := lt_inv h
        refine y_iinc (L1 := [(0, .ref 0), (1, .int z1), (3, .int w5), (4, .int v17), (5, .int v22), (6, .int v17)]) e23 ic_1 d_N_ask_108 4 rfl (Nat.le_of_ble_eq_true rfl) rfl rfl ?_
        refine x_goto (tgt := 39) d_N_ask_111 rfl ?_
        refine y_pick (L1 := [(0, .ref 0), (1, .int z1), (3, .int w5), (4, .int v17), (5, .int v22)]) [0, 1, 2, 3, 4] rfl ?_
        exact ih w5 v17 v22 _ h
set_option maxRecDepth 100000 in
set_option maxHeartbeats 4000000 in
theorem c_N_ask {X : Nat × (Nat → Int32)} {D F G : Nat} (hD : 3 ≤ D) {S : St} {p1 : Int32} {p2 : Int32} {res : Int32 × St} (h : fN_ask F G S p1 p2 = some res) : Ek X (D) mN_ask 0 [(0, .ref 0), (1, .int p1), (2, .int p2)] [] S (some (.int res.1)) res.2 := by
  obtain ⟨D, rfl⟩ : ∃ E, D = E + 1 := ⟨D - 1, by omega⟩
  unfold fN_ask at h
  refine x_iload_n d_N_ask_0 rfl 1 rfl ?_
  refine x_if_lt (tgt := 9) d_N_ask_1 rfl (fun c1 => ?_) (fun c1 => ?_)
  · replace h := ite_t c1 h
    refine x_iconst d_N_ask_9 ic_m1 ?_
    obtain rfl := Option.some.inj h
    exact x_ret (r := some (.int (-1 : Int32))) d_N_ask_10 ⟨_, rfl, rfl⟩
  · replace h := ite_f c1 h
    refine x_iload_n d_N_ask_4 rfl 1 rfl ?_
    refine x_iconst d_N_ask_5 ic_1 ?_
    refine x_icmp_le (tgt := 11) d_N_ask_6 rfl (fun c2 => ?_) (fun c2 => ?_)
    · replace h := ite_t c2 h
      refine x_aload_n d_N_ask_11 rfl 0 rfl ?_
      refine y_getR d_N_ask_12 fl_0_73 rfl kd_0 rr_0_10 ?_
      refine x_aload_n d_N_ask_15 rfl 0 rfl ?_
      refine y_getR d_N_ask_16 fl_0_24 rfl kd_0 rr_told ?_
      obtain ⟨g3, h⟩ := gd_inv h
      refine x_iload_n d_N_ask_19 rfl 2 rfl ?_
      obtain ⟨S5, q4, h⟩ := bd_inv h
      refine y_V2v (S1 := S5) d_N_ask_20 ml_0_331 kd_69 rfl (Nat.le_of_ble_eq_true rfl) (Nat.le_of_ble_eq_true rfl) (c_I_count (by omega) q4) ?_
      refine x_iconst d_N_ask_23 ic_m1 ?_
      refine x_istore_n (L1 := [(0, .ref 0), (1, .int p1), (2, .int p2), (3, .int (-1 : Int32))]) d_N_ask_24 rfl (Nat.le_of_ble_eq_true rfl) rfl rfl ?_
      refine x_aload_n d_N_ask_25 rfl 0 rfl ?_
      refine y_getR d_N_ask_26 fl_0_73 rfl kd_0 rr_0_10 ?_
      refine y_getI d_N_ask_29 fl_0_335 rfl kd_69 ?_
      refine x_iconst d_N_ask_32 ic_1 ?_
      refine x_iadd d_N_ask_33 ?_
      obtain ⟨v6, e7, h⟩ := lt_inv h
      refine y_istore (L1 := [(0, .ref 0), (1, .int p1), (2, .int p2), (3, .int (-1 : Int32)), (4, .int v6)]) e7 d_N_ask_34 (Nat.le_of_ble_eq_true rfl) rfl rfl ?_
      refine x_iconst d_N_ask_36 ic_0 ?_
      refine x_istore (L1 := [(0, .ref 0), (1, .int p1), (2, .int p2), (3, .int (-1 : Int32)), (4, .int v6), (5, .int (0 : Int32))]) d_N_ask_37 (Nat.le_of_ble_eq_true rfl) rfl rfl ?_
      refine y_pick (L1 := [(0, .ref 0), (1, .int p1), (3, .int (-1 : Int32)), (4, .int v6), (5, .int (0 : Int32))]) [0, 1, 3, 4, 5] rfl ?_
      refine T_N_ask_39 (by omega)   F (-1 : Int32) v6 (0 : Int32) _ h
    · replace h := ite_f c2 h
      refine x_iconst d_N_ask_9 ic_m1 ?_
      obtain rfl := Option.some.inj h
      exact x_ret (r := some (.int (-1 : Int32))) d_N_ask_10 ⟨_, rfl, rfl⟩
