/-! NinetyPlayersModel.part -/
def fM_part (F G : Nat) (S : St) (p1 : Int32) (p2 : Int32) : Option (Int32 × St) :=
  bd (fM_isIn F G S p1 (0 : Int32) ((S.1 78 47) - (1 : Int32))) fun v2 => if v2 = 0 then some ((-1 : Int32), S) else bd (fM_fill F G S ) fun S5 => if p2 = 0 then gd (inB p1 4) (some (S5.1 94 p1.toNatClampNeg, S5)) else if p2 = (1 : Int32) then bd (fM_notesOf F G S5 p1) fun v14 => some (v14, S5) else if p2 = (2 : Int32) then bd (fM_notesOf F G S5 p1) fun v10 => bd (fM_given F G S5 (0 : Int32)) fun v12 => some (v10 &&& (v12 ^^^ (-1 : Int32)), S5) else some ((-1 : Int32), S5)
set_option maxRecDepth 100000 in
set_option maxHeartbeats 4000000 in
theorem c_M_part {X : Nat × (Nat → Int32)} {D F G : Nat} (hD : 2 ≤ D) {S : St} {p1 : Int32} {p2 : Int32} {res : Int32 × St} (h : fM_part F G S p1 p2 = some res) : Ek X (D) mM_part 0 [(0, .ref 78), (1, .int p1), (2, .int p2)] [] S (some (.int res.1)) res.2 := by
  obtain ⟨D, rfl⟩ : ∃ E, D = E + 1 := ⟨D - 1, by omega⟩
  unfold fM_part at h
  refine x_iload_n d_M_part_0 rfl 1 rfl ?_
  refine x_iconst d_M_part_1 ic_0 ?_
  refine x_aload_n d_M_part_2 rfl 0 rfl ?_
  refine y_getI d_M_part_3 fl_11_405 rfl kd_78 ?_
  refine x_iconst d_M_part_6 ic_1 ?_
  refine x_isub d_M_part_7 ?_
  obtain ⟨v2, q1, h⟩ := bd_inv h
  refine y_S3i (v := v2) (S1 := S) d_M_part_8 ml_11_429 (Nat.le_of_ble_eq_true rfl) (Nat.le_of_ble_eq_true rfl) (c_M_isIn (by omega) q1) ?_
  refine x_if_ne (tgt := 16) d_M_part_11 rfl (fun c3 => ?_) (fun c3 => ?_)
  · replace h := ite_f c3 h
    refine x_aload_n d_M_part_16 rfl 0 rfl ?_
    obtain ⟨S5, q4, h⟩ := bd_inv h
    refine y_V0v (S1 := S5) d_M_part_17 ml_11_464 kd_78 rfl (Nat.le_of_ble_eq_true rfl) (Nat.le_of_ble_eq_true rfl) (c_M_fill (by omega) q4) ?_
    refine x_iload_n d_M_part_20 rfl 2 rfl ?_
    refine x_if_ne (tgt := 33) d_M_part_21 rfl (fun c6 => ?_) (fun c6 => ?_)
    · replace h := ite_f c6 h
      refine x_iload_n d_M_part_33 rfl 2 rfl ?_
      refine x_iconst d_M_part_34 ic_1 ?_
      refine x_icmp_ne (tgt := 46) d_M_part_35 rfl (fun c7 => ?_) (fun c7 => ?_)
      · replace h := ite_f c7 h
        refine x_iload_n d_M_part_46 rfl 2 rfl ?_
        refine x_iconst d_M_part_47 ic_2 ?_
        refine x_icmp_ne (tgt := 67) d_M_part_48 rfl (fun c8 => ?_) (fun c8 => ?_)
        · replace h := ite_f c8 h
          refine x_iconst d_M_part_67 ic_m1 ?_
          obtain rfl := Option.some.inj h
          exact x_ret (r := some (.int (-1 : Int32))) d_M_part_68 ⟨_, rfl, rfl⟩
        · replace h := ite_t c8 h
          refine x_aload_n d_M_part_51 rfl 0 rfl ?_
          refine x_iload_n d_M_part_52 rfl 1 rfl ?_
          obtain ⟨v10, q9, h⟩ := bd_inv h
          refine y_V1i (v := v10) (S1 := S5) d_M_part_53 ml_11_470 kd_78 rfl (Nat.le_of_ble_eq_true rfl) (Nat.le_of_ble_eq_true rfl) (c_M_notesOf (by omega) q9) ?_
          refine x_aload_n d_M_part_56 rfl 0 rfl ?_
          refine x_iconst d_M_part_57 ic_0 ?_
          obtain ⟨v12, q11, h⟩ := bd_inv h
          refine y_V1i (v := v12) (S1 := S5) d_M_part_58 ml_11_454 kd_78 rfl (Nat.le_of_ble_eq_true rfl) (Nat.le_of_ble_eq_true rfl) (c_M_given (by omega) q11) ?_
          refine x_iconst d_M_part_61 ic_m1 ?_
          refine x_ixor d_M_part_62 ?_
          refine x_iand d_M_part_63 ?_
          refine x_goto (tgt := 68) d_M_part_64 rfl ?_
          obtain rfl := Option.some.inj h
          exact x_ret (r := some (.int (v10 &&& (v12 ^^^ (-1 : Int32))))) d_M_part_68 ⟨_, rfl, rfl⟩
      · replace h := ite_t c7 h
        refine x_aload_n d_M_part_38 rfl 0 rfl ?_
        refine x_iload_n d_M_part_39 rfl 1 rfl ?_
        obtain ⟨v14, q13, h⟩ := bd_inv h
        refine y_V1i (v := v14) (S1 := S5) d_M_part_40 ml_11_470 kd_78 rfl (Nat.le_of_ble_eq_true rfl) (Nat.le_of_ble_eq_true rfl) (c_M_notesOf (by omega) q13) ?_
        refine x_goto (tgt := 68) d_M_part_43 rfl ?_
        obtain rfl := Option.some.inj h
        exact x_ret (r := some (.int v14)) d_M_part_68 ⟨_, rfl, rfl⟩
    · replace h := ite_t c6 h
      refine x_aload_n d_M_part_24 rfl 0 rfl ?_
      refine y_getR d_M_part_25 fl_11_60 rfl kd_78 rr_78_33 ?_
      refine x_iload_n d_M_part_28 rfl 1 rfl ?_
      obtain ⟨g15, h⟩ := gd_inv h
      refine y_iald d_M_part_29 kd_94 g15 ?_
      refine x_goto (tgt := 68) d_M_part_30 rfl ?_
      obtain rfl := Option.some.inj h
      exact x_ret (r := some (.int (S5.1 94 p1.toNatClampNeg))) d_M_part_68 ⟨_, rfl, rfl⟩
  · replace h := ite_t c3 h
    refine x_iconst d_M_part_14 ic_m1 ?_
    obtain rfl := Option.some.inj h
    exact x_ret (r := some (.int (-1 : Int32))) d_M_part_15 ⟨_, rfl, rfl⟩
/-! NinetyPlayers.isBeat -/
def fN_isBeat (F G : Nat) (S : St) (p1 : Int32) : Option (Int32) :=
  if p1 < 0 then some (0 : Int32) else gd (isSc S.2.2.1) (if (S.1 S.2.2.1 0) ≤ p1 then some (0 : Int32) else some (1 : Int32))
set_option maxRecDepth 100000 in
set_option maxHeartbeats 4000000 in
theorem c_N_isBeat {X : Nat × (Nat → Int32)} {D F G : Nat} (hD : 0 ≤ D) {S : St} {p1 : Int32} {res : Int32} (h : fN_isBeat F G S p1 = some res) : Ek X (D) mN_isBeat 0 [(0, .ref 0), (1, .int p1)] [] S (some (.int res)) S := by
  unfold fN_isBeat at h
  refine x_iload_n d_N_isBeat_0 rfl 1 rfl ?_
  refine x_if_lt (tgt := 19) d_N_isBeat_1 rfl (fun c1 => ?_) (fun c1 => ?_)
  · replace h := ite_t c1 h
    refine x_iconst d_N_isBeat_19 ic_0 ?_
    obtain rfl := Option.some.inj h
    exact x_ret (r := some (.int (0 : Int32))) d_N_isBeat_20 ⟨_, rfl, rfl⟩
  · replace h := ite_f c1 h
    refine x_iload_n d_N_isBeat_4 rfl 1 rfl ?_
    refine x_aload_n d_N_isBeat_5 rfl 0 rfl ?_
    refine y_getR d_N_isBeat_6 fl_0_24 rfl kd_0 rr_told ?_
    obtain ⟨g2, h⟩ := gd_inv h
    refine y_getI d_N_isBeat_9 fl_0_198 rfl (ksSc g2) ?_
    refine x_icmp_ge (tgt := 19) d_N_isBeat_12 rfl (fun c3 => ?_) (fun c3 => ?_)
    · replace h := ite_t c3 h
      refine x_iconst d_N_isBeat_19 ic_0 ?_
      obtain rfl := Option.some.inj h
      exact x_ret (r := some (.int (0 : Int32))) d_N_isBeat_20 ⟨_, rfl, rfl⟩
    · replace h := ite_f c3 h
      refine x_iconst d_N_isBeat_15 ic_1 ?_
      refine x_goto (tgt := 20) d_N_isBeat_16 rfl ?_
      obtain rfl := Option.some.inj h
      exact x_ret (r := some (.int (1 : Int32))) d_N_isBeat_20 ⟨_, rfl, rfl⟩
/-! NinetyPlayers.isHand -/
def fN_isHand (F G : Nat) (S : St) (p1 : Int32) : Option (Int32) :=
  if p1 = (1 : Int32) then some (1 : Int32) else if p1 = (2 : Int32) then some (1 : Int32) else some (0 : Int32)
set_option maxRecDepth 100000 in
set_option maxHeartbeats 4000000 in
theorem c_N_isHand {X : Nat × (Nat → Int32)} {D F G : Nat} (hD : 0 ≤ D) {S : St} {p1 : Int32} {res : Int32} (h : fN_isHand F G S p1 = some res) : Ek X (D) mN_isHand 0 [(0, .int p1)] [] S (some (.int res)) S := by
  unfold fN_isHand at h
  refine x_iload_n d_N_isHand_0 rfl 0 rfl ?_
  refine x_iconst d_N_isHand_1 ic_1 ?_
  refine x_icmp_eq (tgt := 10) d_N_isHand_2 rfl (fun c1 => ?_) (fun c1 => ?_)
  · replace h := ite_t c1 h
    refine x_iconst d_N_isHand_10 ic_1 ?_
    refine x_goto (tgt := 15) d_N_isHand_11 rfl ?_
    obtain rfl := Option.some.inj h
    exact x_ret (r := some (.int (1 : Int32))) d_N_isHand_15 ⟨_, rfl, rfl⟩
  · replace h := ite_f c1 h
    refine x_iload_n d_N_isHand_5 rfl 0 rfl ?_
    refine x_iconst d_N_isHand_6 ic_2 ?_
    refine x_icmp_ne (tgt := 14) d_N_isHand_7 rfl (fun c2 => ?_) (fun c2 => ?_)
    · replace h := ite_f c2 h
      refine x_iconst d_N_isHand_14 ic_0 ?_
      obtain rfl := Option.some.inj h
      exact x_ret (r := some (.int (0 : Int32))) d_N_isHand_15 ⟨_, rfl, rfl⟩
    · replace h := ite_t c2 h
      refine x_iconst d_N_isHand_10 ic_1 ?_
      refine x_goto (tgt := 15) d_N_isHand_11 rfl ?_
      obtain rfl := Option.some.inj h
      exact x_ret (r := some (.int (1 : Int32))) d_N_isHand_15 ⟨_, rfl, rfl⟩
/-! NinetyPlayers$Keyboard.hasPedal -/
def fK_hasPedal (F G : Nat) (S : St) (p1 : Int32) : Option (Int32) :=
  if (((S.1 57 7) >>> (p1 &&& 31)) &&& (1 : Int32)) = 0 then some (0 : Int32) else some (1 : Int32)
set_option maxRecDepth 100000 in
set_option maxHeartbeats 4000000 in
theorem c_K_hasPedal {X : Nat × (Nat → Int32)} {D F G : Nat} (hD : 0 ≤ D) {S : St} {p1 : Int32} {res : Int32} (h : fK_hasPedal F G S p1 = some res) : Ek X (D) mK_hasPedal 0 [(0, .ref 57), (1, .int p1)] [] S (some (.int res)) S := by
  unfold fK_hasPedal at h
  refine x_aload_n d_K_hasPedal_0 rfl 0 rfl ?_
  refine y_getI d_K_hasPedal_1 fl_7_62 rfl kd_57 ?_
  refine x_iload_n d_K_hasPedal_4 rfl 1 rfl ?_
  refine x_ishr d_K_hasPedal_5 ?_
  refine x_iconst d_K_hasPedal_6 ic_1 ?_
  refine x_iand d_K_hasPedal_7 ?_
  refine x_if_eq (tgt := 15) d_K_hasPedal_8 rfl (fun c1 => ?_) (fun c1 => ?_)
  · replace h := ite_t c1 h
    refine x_iconst d_K_hasPedal_15 ic_0 ?_
    obtain rfl := Option.some.inj h
    exact x_ret (r := some (.int (0 : Int32))) d_K_hasPedal_16 ⟨_, rfl, rfl⟩
  · replace h := ite_f c1 h
    refine x_iconst d_K_hasPedal_11 ic_1 ?_
    refine x_goto (tgt := 16) d_K_hasPedal_12 rfl ?_
    obtain rfl := Option.some.inj h
    exact x_ret (r := some (.int (1 : Int32))) d_K_hasPedal_16 ⟨_, rfl, rfl⟩
/-! NinetyPlayers$Keyboard.timelySince -/
def b_K_timelySince_5 (F G : Nat) (S : St) (z1 : Int32) (z2 : Int32) (rec : Int32 → Int32 → Option (Int32)) (w3 : Int32) (w4 : Int32) : Option (Int32) :=
  if (S.1 57 1) ≤ w4 then some w3 else gd (inB w4 10) (lt (S.1 59 w4.toNatClampNeg) fun v3 => if v3 < z1 then lt (w4 + 1) fun v6 => rec w3 v6 else if z2 < v3 then lt (w4 + 1) fun v9 => rec w3 v9 else gd (inB w4 10) (if (v3 + (S.1 60 w4.toNatClampNeg)) ≤ z2 then lt (w4 + 1) fun v13 => rec w3 v13 else lt (w3 ||| ((1 : Int32) <<< (w4 &&& 31))) fun v15 => lt (w4 + 1) fun v17 => rec v15 v17))
def fK_timelySince (F G : Nat) (S : St) (p1 : Int32) (p2 : Int32) : Option (Int32) :=
  fx2 (b_K_timelySince_5 F G S p1 p2) F (0 : Int32) (0 : Int32)
set_option maxRecDepth 100000 in
set_option maxHeartbeats 4000000 in
theorem T_K_timelySince_5 {X : Nat × (Nat → Int32)} {D F G : Nat} (hD : 0 ≤ D) {S : St} {z1 : Int32} {z2 : Int32} : ∀ (f : Nat) (w3 : Int32) (w4 : Int32) (res : Int32), fx2 (b_K_timelySince_5 F G S z1 z2 ) f w3 w4 = some res → Ek X (D) mK_timelySince 5 [(0, .ref 57), (1, .int z1), (2, .int z2), (3, .int w3), (4, .int w4)] [] S (some (.int res)) S := by
  refine fx2_ind ?_
  intro rec ih w3 w4 res h
  unfold b_K_timelySince_5 at h
  refine x_iload d_K_timelySince_5 4 rfl ?_
  refine x_aload_n d_K_timelySince_7 rfl 0 rfl ?_
  refine y_getI d_K_timelySince_8 fl_7_34 rfl kd_57 ?_
  refine x_icmp_ge (tgt := 62) d_K_timelySince_11 rfl (fun c1 => ?_) (fun c1 => ?_)
  · replace h := ite_t c1 h
    refine x_iload_n d_K_timelySince_62 rfl 3 rfl ?_
    obtain rfl := Option.some.inj h
    exact x_ret (r := some (.int w3)) d_K_timelySince_63 ⟨_, rfl, rfl⟩
  · replace h := ite_f c1 h
    refine x_aload_n d_K_timelySince_14 rfl 0 rfl ?_
    refine y_getR d_K_timelySince_15 fl_7_15 rfl kd_57 rr_57_9 ?_
    refine x_iload d_K_timelySince_18 4 rfl ?_
    obtain ⟨g2, h⟩ := gd_inv h
    refine y_iald d_K_timelySince_20 kd_59 g2 ?_
    obtain ⟨v3, e4, h⟩ := lt_inv h
    refine y_istore (L1 := [(0, .ref 57), (1, .int z1), (2, .int z2), (3, .int w3), (4, .int w4), (5, .int v3)]) e4 d_K_timelySince_21 (Nat.le_of_ble_eq_true rfl) rfl rfl ?_
    refine x_iload d_K_timelySince_23 5 rfl ?_
    refine x_iload_n d_K_timelySince_25 rfl 1 rfl ?_
    refine x_icmp_lt (tgt := 56) d_K_timelySince_26 rfl (fun c5 => ?_) (fun c5 => ?_)
    · replace h := ite_t c5 h
      obtain ⟨v6, e7, h⟩ := lt_inv h
      refine y_iinc (L1 := [(0, .ref 57), (1, .int z1), (2, .int z2), (3, .int w3), (4, .int v6), (5, .int v3)]) e7 ic_1 d_K_timelySince_56 4 rfl (Nat.le_of_ble_eq_true rfl) rfl rfl ?_
      refine x_goto (tgt := 5) d_K_timelySince_59 rfl ?_
      refine y_pick (L1 := [(0, .ref 57), (1, .int z1), (2, .int z2), (3, .int w3), (4, .int v6)]) [0, 1, 2, 3, 4] rfl ?_
      exact ih w3 v6 _ h
    · replace h := ite_f c5 h
      refine x_iload d_K_timelySince_29 5 rfl ?_
      refine x_iload_n d_K_timelySince_31 rfl 2 rfl ?_
      refine x_icmp_gt (tgt := 56) d_K_timelySince_32 rfl (fun c8 => ?_) (fun c8 => ?_)
      · replace h := ite_t c8 h
        obtain ⟨v9, e10, h⟩ := lt_inv h
        refine y_iinc (L1 := [(0, .ref 57), (1, .int z1), (2, .int z2), (3, .int w3), (4, .int v9), (5, .int v3)]) e10 ic_1 d_K_timelySince_56 4 rfl (Nat.le_of_ble_eq_true rfl) rfl rfl ?_
        refine x_goto (tgt := 5) d_K_timelySince_59 rfl ?_
        refine y_pick (L1 := [(0, .ref 57), (1, .int z1), (2, .int z2), (3, .int w3), (4, .int v9)]) [0, 1, 2, 3, 4] rfl ?_
        exact ih w3 v9 _ h
      · replace h := ite_f c8 h
        refine x_iload_n d_K_timelySince_35 rfl 2 rfl ?_
        refine x_iload d_K_timelySince_36 5 rfl ?_
        refine x_aload_n d_K_timelySince_38 rfl 0 rfl ?_
        refine y_getR d_K_timelySince_39 fl_7_18 rfl kd_57 rr_57_10 ?_
        refine x_iload d_K_timelySince_42 4 rfl ?_
        obtain ⟨g11, h⟩ := gd_inv h
        refine y_iald d_K_timelySince_44 kd_60 g11 ?_
        refine x_iadd d_K_timelySince_45 ?_
        refine x_icmp_ge (tgt := 56) d_K_timelySince_46 rfl (fun c12 => ?_) (fun c12 => ?_)
        · replace h := ite_t c12 h
          obtain ⟨v13, e14, h⟩ := lt_inv h
          refine y_iinc (L1 := [(0, .ref 57), (1, .int z1), (2, .int z2), (3, .int w3), (4, .int v13), (5, .int v3)]) e14 ic_1 d_K_timelySince_56 4 rfl (Nat.le_of_ble_eq_true rfl) rfl rfl ?_
          refine x_goto (tgt := 5) d_K_timelySince_59 rfl ?_
          refine y_pick (L1 := [(0, .ref 57), (1, .int z1), (2, .int z2), (3, .int w3), (4, .int v13)]) [0, 1, 2, 3, 4] rfl ?_
          exact ih w3 v13 _ h
        · replace h := ite_f c12 h
          refine x_iload_n d_K_timelySince_49 rfl 3 rfl ?_
          refine x_iconst d_K_timelySince_50 ic_1 ?_
          refine x_iload d_K_timelySince_51 4 rfl ?_
          refine x_ishl d_K_timelySince_53 ?_
          refine x_ior d_K_timelySince_54 ?_
          obtain ⟨v15, e16, h⟩ := lt_inv h
          refine y_istore_n (L1 := [(0, .ref 57), (1, .int z1), (2, .int z2), (3, .int v15), (4, .int w4), (5, .int v3)]) e16 d_K_timelySince_55 rfl (Nat.le_of_ble_eq_true rfl) rfl rfl ?_
          obtain ⟨v17, e18, h⟩ := lt_inv h
          refine y_iinc (L1 := [(0, .ref 57), (1, .int z1), (2, .int z2), (3, .int v15), (4, .int v17), (5, .int v3)]) e18 ic_1 d_K_timelySince_56 4 rfl (Nat.le_of_ble_eq_true rfl) rfl rfl ?_
          refine x_goto (tgt := 5) d_K_timelySince_59 rfl ?_
          refine y_pick (L1 := [(0, .ref 57), (1, .int z1), (2, .int z2), (3, .int v15), (4, .int v17)]) [0, 1, 2, 3, 4] rfl ?_
          exact ih v15 v17 _ h
set_option maxRecDepth 100000 in
set_option maxHeartbeats 4000000 in
theorem c_K_timelySince {X : Nat × (Nat → Int32)} {D F G : Nat} (hD : 0 ≤ D) {S : St} {p1 : Int32} {p2 : Int32} {res : Int32} (h : fK_timelySince F G S p1 p2 = some res) : Ek X (D) mK_timelySince 0 [(0, .ref 57), (1, .int p1), (2, .int p2)] [] S (some (.int res)) S := by
  unfold fK_timelySince at h
  refine x_iconst d_K_timelySince_0 ic_0 ?_
  refine x_istore_n (L1 := [(0, .ref 57), (1, .int p1), (2, .int p2), (3, .int (0 : Int32))]) d_K_timelySince_1 rfl (Nat.le_of_ble_eq_true rfl) rfl rfl ?_
  refine x_iconst d_K_timelySince_2 ic_0 ?_
  refine x_istore (L1 := [(0, .ref 57), (1, .int p1), (2, .int p2), (3, .int (0 : Int32)), (4, .int (0 : Int32))]) d_K_timelySince_3 (Nat.le_of_ble_eq_true rfl) rfl rfl ?_
  refine T_K_timelySince_5 (by omega)   F (0 : Int32) (0 : Int32) _ h
/-! NinetyPlayers$Keyboard.lay -/
def b_K_lay_68 (F G : Nat) (z1 : Nat) (z2 : Nat) (k118 : St → Option (St)) (rec : Int32 → St → Option (St)) (w3 : Int32) (S : St) : Option (St) :=
  if (S.1 57 1) ≤ w3 then k118 S else gd (inB w3 10) (gd (inB w3 10) (lt (sI S 58 w3.toNatClampNeg (S.1 (z2 + 2) w3.toNatClampNeg)) fun S24 => gd (inB w3 10) (gd (inB w3 10) (lt (sI S24 59 w3.toNatClampNeg (S24.1 (z1 + 5) w3.toNatClampNeg)) fun S28 => gd (inB w3 10) (gd (inB w3 10) (lt (sI S28 60 w3.toNatClampNeg (S28.1 (z2 + 3) w3.toNatClampNeg)) fun S32 => lt (w3 + 1) fun v34 => rec v34 S32))))))
def j_K_lay_147 (F G : Nat) (rec : Int32 → Int32 → St → Option (St)) (S : St) (y4 : Int32) (s0 : Int32) : Option (St) :=
  bd (fK_timelySince F G S s0 y4) fun v42 => gd (inB y4 12) (lt (sI S 61 y4.toNatClampNeg v42) fun S44 => lt (y4 + 1) fun v46 => rec s0 v46 S44)
def b_K_lay_123 (F G : Nat) (rec : Int32 → Int32 → St → Option (St)) (w3 : Int32) (w4 : Int32) (S : St) : Option (St) :=
  if (S.1 57 0) ≤ w4 then some S else bd (fK_hasPedal F G S w4) fun v39 => if v39 = 0 then j_K_lay_147 F G rec  S w4 w3 else j_K_lay_147 F G rec  S w4 w4
def fK_lay (F G : Nat) (S : St) (o2 : Nat) (o3 : Nat) : Option (St) :=
  gd (isSc o2) (gd (isLa o3) (lt (sI S 57 0 (S.1 o2 0)) fun S1 => lt (sI S1 57 1 (S1.1 o2 6)) fun S3 => lt (sI S3 57 2 (S3.1 o2 1)) fun S5 => lt (sI S5 57 3 (S5.1 o2 2)) fun S7 => lt (sI S7 57 4 (S7.1 o2 3)) fun S9 => bd (fL_setOf F G S9 o3 (1 : Int32)) fun v12 => lt (sI S9 57 5 v12) fun S13 => bd (fL_setOf F G S13 o3 (2 : Int32)) fun v16 => lt (sI S13 57 6 v16) fun S17 => lt (sI S17 57 7 (S17.1 o3 1)) fun S19 => fx2 (b_K_lay_68 F G o2 o3 (fun S36 => fx3 (b_K_lay_123 F G ) F (0 : Int32) (0 : Int32) S36)) F (0 : Int32) S19))
set_option maxRecDepth 100000 in
set_option maxHeartbeats 4000000 in
theorem T_K_lay_68 {X : Nat × (Nat → Int32)} {D F G : Nat} (hD : 1 ≤ D + 1) {z1 : Nat} {z2 : Nat} (hz1 : isSc z1 = true) (hz2 : isLa z2 = true) {k118 : St → Option (St)} (hk118 : ∀ (S1 : St) (res : St), k118 S1 = some res → Ek X (D + 1) mK_lay 118 [(0, .ref 57)] [] S1 none res) : ∀ (f : Nat) (w3 : Int32) (S : St) (res : St), fx2 (b_K_lay_68 F G z1 z2 k118 ) f w3 S = some res → Ek X (D + 1) mK_lay 68 [(0, .ref 57), (1, .ref z1), (2, .ref z2), (3, .int w3)] [] S none res := by
  refine fx2_ind ?_
  intro rec ih w3 S res h
  unfold b_K_lay_68 at h
  refine x_iload_n d_K_lay_68 rfl 3 rfl ?_
  refine x_aload_n d_K_lay_69 rfl 0 rfl ?_
  refine y_getI d_K_lay_70 fl_7_34 rfl kd_57 ?_
  refine x_icmp_ge (tgt := 118) d_K_lay_73 rfl (fun c21 => ?_) (fun c21 => ?_)
  · replace h := ite_t c21 h
    refine y_pick (L1 := [(0, .ref 57)]) [0] rfl ?_
    exact hk118 S _ h
  · replace h := ite_f c21 h
    refine x_aload_n d_K_lay_76 rfl 0 rfl ?_
    refine y_getR d_K_lay_77 fl_7_9 rfl kd_57 rr_57_8 ?_
    refine x_iload_n d_K_lay_80 rfl 3 rfl ?_
    refine x_aload_n d_K_lay_81 rfl 2 rfl ?_
    refine y_getR d_K_lay_82 fl_7_63 rfl (ksLa hz2) (rrLa_3 hz2) ?_
    refine x_iload_n d_K_lay_85 rfl 3 rfl ?_
    obtain ⟨g22, h⟩ := gd_inv h
    refine y_iald d_K_lay_86 (ksLa_2 hz2) g22 ?_
    obtain ⟨g23, h⟩ := gd_inv h
    obtain ⟨S24, e25, h⟩ := lt_inv h
    refine y_iast e25 d_K_lay_87 kd_58 g23 ?_
    refine x_aload_n d_K_lay_88 rfl 0 rfl ?_
    refine y_getR d_K_lay_89 fl_7_15 rfl kd_57 rr_57_9 ?_
    refine x_iload_n d_K_lay_92 rfl 3 rfl ?_
    refine x_aload_n d_K_lay_93 rfl 1 rfl ?_
    refine y_getR d_K_lay_94 fl_7_64 rfl (ksSc hz1) (rrSc_11 hz1) ?_
    refine x_iload_n d_K_lay_97 rfl 3 rfl ?_
    obtain ⟨g26, h⟩ := gd_inv h
    refine y_iald d_K_lay_98 (ksSc_5 hz1) g26 ?_
    obtain ⟨g27, h⟩ := gd_inv h
    obtain ⟨S28, e29, h⟩ := lt_inv h
    refine y_iast e29 d_K_lay_99 kd_59 g27 ?_
    refine x_aload_n d_K_lay_100 rfl 0 rfl ?_
    refine y_getR d_K_lay_101 fl_7_18 rfl kd_57 rr_57_10 ?_
    refine x_iload_n d_K_lay_104 rfl 3 rfl ?_
    refine x_aload_n d_K_lay_105 rfl 2 rfl ?_
    refine y_getR d_K_lay_106 fl_7_65 rfl (ksLa hz2) (rrLa_4 hz2) ?_
    refine x_iload_n d_K_lay_109 rfl 3 rfl ?_
    obtain ⟨g30, h⟩ := gd_inv h
    refine y_iald d_K_lay_110 (ksLa_3 hz2) g30 ?_
    obtain ⟨g31, h⟩ := gd_inv h
    obtain ⟨S32, e33, h⟩ := lt_inv h
    refine y_iast e33 d_K_lay_111 kd_60 g31 ?_
    obtain ⟨v34, e35, h⟩ := lt_inv h
    refine y_iinc (L1 := [(0, .ref 57), (1, .ref z1), (2, .ref z2), (3, .int v34)]) e35 ic_1 d_K_lay_112 3 rfl (Nat.le_of_ble_eq_true rfl) rfl rfl ?_
    refine x_goto (tgt := 68) d_K_lay_115 rfl ?_
    exact ih v34 S32 _ h
set_option maxRecDepth 100000 in
set_option maxHeartbeats 4000000 in
theorem T_K_lay_123 {X : Nat × (Nat → Int32)} {D F G : Nat} (hD : 1 ≤ D + 1) : ∀ (f : Nat) (w3 : Int32) (w4 : Int32) (S : St) (res : St), fx3 (b_K_lay_123 F G ) f w3 w4 S = some res → Ek X (D + 1) mK_lay 123 [(0, .ref 57), (3, .int w3), (4, .int w4)] [] S none res := by
  refine fx3_ind ?_
  intro rec ih w3 w4 S res h
  unfold b_K_lay_123 at h
  have J147 : ∀ (S : St) (y4 : Int32) (s0 : Int32) (res : St), j_K_lay_147 F G rec S y4 s0 = some res → Ek X (D + 1) mK_lay 147 [(0, .ref 57), (4, .int y4)] [.int s0] S none res := by
    intro S y4 s0 res h
    unfold j_K_lay_147 at h
    refine x_istore_n (L1 := [(0, .ref 57), (3, .int s0), (4, .int y4)]) d_K_lay_147 rfl (Nat.le_of_ble_eq_true rfl) rfl rfl ?_
    refine x_aload_n d_K_lay_148 rfl 0 rfl ?_
    refine y_getR d_K_lay_149 fl_7_21 rfl kd_57 rr_57_11 ?_
    refine x_iload d_K_lay_152 2 rfl ?_
    refine x_aload_n d_K_lay_154 rfl 0 rfl ?_
    refine x_iload_n d_K_lay_155 rfl 1 rfl ?_
    refine x_iload d_K_lay_156 2 rfl ?_
    obtain ⟨v42, q41, h⟩ := bd_inv h
    refine y_V2i (v := v42) (S1 := S) d_K_lay_158 ml_7_70 kd_57 rfl (Nat.le_of_ble_eq_true rfl) (Nat.le_of_ble_eq_true rfl) (c_K_timelySince (by omega) q41) ?_
    obtain ⟨g43, h⟩ := gd_inv h
    obtain ⟨S44, e45, h⟩ := lt_inv h
    refine y_iast e45 d_K_lay_161 kd_61 g43 ?_
    obtain ⟨v46, e47, h⟩ := lt_inv h
    refine y_iinc (L1 := [(0, .ref 57), (3, .int s0), (4, .int v46)]) e47 ic_1 d_K_lay_162 2 rfl (Nat.le_of_ble_eq_true rfl) rfl rfl ?_
    refine x_goto (tgt := 123) d_K_lay_165 rfl ?_
    exact ih s0 v46 S44 _ h
  refine x_iload d_K_lay_123 2 rfl ?_
  refine x_aload_n d_K_lay_125 rfl 0 rfl ?_
  refine y_getI d_K_lay_126 fl_7_30 rfl kd_57 ?_
  refine x_icmp_ge (tgt := 168) d_K_lay_129 rfl (fun c37 => ?_) (fun c37 => ?_)
  · replace h := ite_t c37 h
    obtain rfl := Option.some.inj h
    exact x_ret (r := none) d_K_lay_168 rfl
  · replace h := ite_f c37 h
    refine x_aload_n d_K_lay_132 rfl 0 rfl ?_
    refine x_iload d_K_lay_133 2 rfl ?_
    obtain ⟨v39, q38, h⟩ := bd_inv h
    refine y_V1i (v := v39) (S1 := S) d_K_lay_135 ml_7_66 kd_57 rfl (Nat.le_of_ble_eq_true rfl) (Nat.le_of_ble_eq_true rfl) (c_K_hasPedal (by omega) q38) ?_
    refine x_if_eq (tgt := 146) d_K_lay_138 rfl (fun c40 => ?_) (fun c40 => ?_)
    · replace h := ite_t c40 h
      refine x_iload_n d_K_lay_146 rfl 1 rfl ?_
      refine y_pick (L1 := [(0, .ref 57), (4, .int w4)]) [0, 2] rfl ?_
      exact J147 S w4 w3 _ h
    · replace h := ite_f c40 h
      refine x_iload d_K_lay_141 2 rfl ?_
      refine x_goto (tgt := 147) d_K_lay_143 rfl ?_
      refine y_pick (L1 := [(0, .ref 57), (4, .int w4)]) [0, 2] rfl ?_
      exact J147 S w4 w4 _ h
set_option maxRecDepth 100000 in
set_option maxHeartbeats 4000000 in
theorem c_K_lay {X : Nat × (Nat → Int32)} {D F G : Nat} (hD : 1 ≤ D) {S : St} {o2 : Nat} {o3 : Nat} {res : St} (h : fK_lay F G S o2 o3 = some res) : Ek X (D) mK_lay 0 [(0, .ref 57), (1, .ref o2), (2, .ref o3)] [] S none res := by
  obtain ⟨D, rfl⟩ : ∃ E, D = E + 1 := ⟨D - 1, by omega⟩
  unfold fK_lay at h
  obtain ⟨gg0, h⟩ := gd_inv h
  obtain ⟨gg1, h⟩ := gd_inv h
  refine x_aload_n d_K_lay_0 rfl 0 rfl ?_
  refine x_aload_n d_K_lay_1 rfl 1 rfl ?_
  refine y_getI d_K_lay_2 fl_7_24 rfl (ksSc gg0) ?_
  obtain ⟨S1, e2, h⟩ := lt_inv h
  refine y_putI e2 d_K_lay_5 fl_7_30 rfl rfl kd_57 rfl rfl ?_
  refine x_aload_n d_K_lay_8 rfl 0 rfl ?_
  refine x_aload_n d_K_lay_9 rfl 1 rfl ?_
  refine y_getI d_K_lay_10 fl_7_31 rfl (ksSc gg0) ?_
  obtain ⟨S3, e4, h⟩ := lt_inv h
  refine y_putI e4 d_K_lay_13 fl_7_34 rfl rfl kd_57 rfl rfl ?_
  refine x_aload_n d_K_lay_16 rfl 0 rfl ?_
  refine x_aload_n d_K_lay_17 rfl 1 rfl ?_
  refine y_getI d_K_lay_18 fl_7_35 rfl (ksSc gg0) ?_
  obtain ⟨S5, e6, h⟩ := lt_inv h
  refine y_putI e6 d_K_lay_21 fl_7_38 rfl rfl kd_57 rfl rfl ?_
  refine x_aload_n d_K_lay_24 rfl 0 rfl ?_
  refine x_aload_n d_K_lay_25 rfl 1 rfl ?_
  refine y_getI d_K_lay_26 fl_7_39 rfl (ksSc gg0) ?_
  obtain ⟨S7, e8, h⟩ := lt_inv h
  refine y_putI e8 d_K_lay_29 fl_7_42 rfl rfl kd_57 rfl rfl ?_
  refine x_aload_n d_K_lay_32 rfl 0 rfl ?_
  refine x_aload_n d_K_lay_33 rfl 1 rfl ?_
  refine y_getI d_K_lay_34 fl_7_43 rfl (ksSc gg0) ?_
  obtain ⟨S9, e10, h⟩ := lt_inv h
  refine y_putI e10 d_K_lay_37 fl_7_46 rfl rfl kd_57 rfl rfl ?_
  refine x_aload_n d_K_lay_40 rfl 0 rfl ?_
  refine x_aload_n d_K_lay_41 rfl 2 rfl ?_
  refine x_iconst d_K_lay_42 ic_1 ?_
  obtain ⟨v12, q11, h⟩ := bd_inv h
  refine y_V1i (v := v12) (S1 := S9) d_K_lay_43 ml_7_47 (ksLa gg1) rfl (Nat.le_of_ble_eq_true rfl) (Nat.le_of_ble_eq_true rfl) (c_L_setOf (by omega) q11) ?_
  obtain ⟨S13, e14, h⟩ := lt_inv h
  refine y_putI e14 d_K_lay_46 fl_7_53 rfl rfl kd_57 rfl rfl ?_
  refine x_aload_n d_K_lay_49 rfl 0 rfl ?_
  refine x_aload_n d_K_lay_50 rfl 2 rfl ?_
  refine x_iconst d_K_lay_51 ic_2 ?_
  obtain ⟨v16, q15, h⟩ := bd_inv h
  refine y_V1i (v := v16) (S1 := S13) d_K_lay_52 ml_7_47 (ksLa gg1) rfl (Nat.le_of_ble_eq_true rfl) (Nat.le_of_ble_eq_true rfl) (c_L_setOf (by omega) q15) ?_
  obtain ⟨S17, e18, h⟩ := lt_inv h
  refine y_putI e18 d_K_lay_55 fl_7_56 rfl rfl kd_57 rfl rfl ?_
  refine x_aload_n d_K_lay_58 rfl 0 rfl ?_
  refine x_aload_n d_K_lay_59 rfl 2 rfl ?_
  refine y_getI d_K_lay_60 fl_7_59 rfl (ksLa gg1) ?_
  obtain ⟨S19, e20, h⟩ := lt_inv h
  refine y_putI e20 d_K_lay_63 fl_7_62 rfl rfl kd_57 rfl rfl ?_
  refine x_iconst d_K_lay_66 ic_0 ?_
  refine x_istore_n (L1 := [(0, .ref 57), (1, .ref o2), (2, .ref o3), (3, .int (0 : Int32))]) d_K_lay_67 rfl (Nat.le_of_ble_eq_true rfl) rfl rfl ?_
  refine T_K_lay_68 (by omega) gg0 gg1 ?_ F (0 : Int32) S19 _ h
  · intro S36 res h
    refine x_iconst d_K_lay_118 ic_0 ?_
    refine x_istore_n (L1 := [(0, .ref 57), (3, .int (0 : Int32))]) d_K_lay_119 rfl (Nat.le_of_ble_eq_true rfl) rfl rfl ?_
    refine x_iconst d_K_lay_120 ic_0 ?_
    refine x_istore (L1 := [(0, .ref 57), (3, .int (0 : Int32)), (4, .int (0 : Int32))]) d_K_lay_121 (Nat.le_of_ble_eq_true rfl) rfl rfl ?_
    refine T_K_lay_123 (by omega)   F (0 : Int32) (0 : Int32) S36 _ h
/-! NinetyPlayers.lookAtKeys -/
def fN_lookAtKeys (F G : Nat) (S : St) : Option (St) :=
  gd (isSc S.2.2.1) (bd (fK_lay F G S S.2.2.1 30) fun S3 => some S3)
set_option maxRecDepth 100000 in
set_option maxHeartbeats 4000000 in
theorem c_N_lookAtKeys {X : Nat × (Nat → Int32)} {D F G : Nat} (hD : 2 ≤ D) {S : St} {res : St} (h : fN_lookAtKeys F G S  = some res) : Ek X (D) mN_lookAtKeys 0 [(0, .ref 0)] [] S none res := by
  obtain ⟨D, rfl⟩ : ∃ E, D = E + 1 := ⟨D - 1, by omega⟩
  unfold fN_lookAtKeys at h
  refine x_aload_n d_N_lookAtKeys_0 rfl 0 rfl ?_
  refine y_getR d_N_lookAtKeys_1 fl_0_57 rfl kd_0 rr_0_7 ?_
  refine x_aload_n d_N_lookAtKeys_4 rfl 0 rfl ?_
  refine y_getR d_N_lookAtKeys_5 fl_0_24 rfl kd_0 rr_told ?_
  obtain ⟨g1, h⟩ := gd_inv h
  refine x_aload_n d_N_lookAtKeys_8 rfl 0 rfl ?_
  refine y_getR d_N_lookAtKeys_9 fl_0_31 rfl kd_0 rr_0_3 ?_
  obtain ⟨S3, q2, h⟩ := bd_inv h
  refine y_V2v (S1 := S3) d_N_lookAtKeys_12 ml_0_201 kd_57 rfl (Nat.le_of_ble_eq_true rfl) (Nat.le_of_ble_eq_true rfl) (c_K_lay (by omega) q2) ?_
  obtain rfl := Option.some.inj h
  exact x_ret (r := none) d_N_lookAtKeys_15 rfl
/-! NinetyPlayers$Keyboard.setOf -/
def fK_setOf (F G : Nat) (S : St) (p1 : Int32) : Option (Int32) :=
  if p1 = (1 : Int32) then some (S.1 57 5) else some (S.1 57 6)
set_option maxRecDepth 100000 in
set_option maxHeartbeats 4000000 in
theorem c_K_setOf {X : Nat × (Nat → Int32)} {D F G : Nat} (hD : 0 ≤ D) {S : St} {p1 : Int32} {res : Int32} (h : fK_setOf F G S p1 = some res) : Ek X (D) mK_setOf 0 [(0, .ref 57), (1, .int p1)] [] S (some (.int res)) S := by
  unfold fK_setOf at h
  refine x_iload_n d_K_setOf_0 rfl 1 rfl ?_
  refine x_iconst d_K_setOf_1 ic_1 ?_
  refine x_icmp_ne (tgt := 12) d_K_setOf_2 rfl (fun c1 => ?_) (fun c1 => ?_)
  · replace h := ite_f c1 h
    refine x_aload_n d_K_setOf_12 rfl 0 rfl ?_
    refine y_getI d_K_setOf_13 fl_7_56 rfl kd_57 ?_
    obtain rfl := Option.some.inj h
    exact x_ret (r := some (.int (S.1 57 6))) d_K_setOf_16 ⟨_, rfl, rfl⟩
  · replace h := ite_t c1 h
    refine x_aload_n d_K_setOf_5 rfl 0 rfl ?_
    refine y_getI d_K_setOf_6 fl_7_53 rfl kd_57 ?_
    refine x_goto (tgt := 16) d_K_setOf_9 rfl ?_
    obtain rfl := Option.some.inj h
    exact x_ret (r := some (.int (S.1 57 5))) d_K_setOf_16 ⟨_, rfl, rfl⟩
/-! NinetyPlayers$Keyboard.timelyAt -/
def fK_timelyAt (F G : Nat) (S : St) (p1 : Int32) : Option (Int32) :=
  if p1 < 0 then some (0 : Int32) else if (S.1 57 0) ≤ p1 then some (0 : Int32) else if (12 : Int32) ≤ p1 then some (0 : Int32) else gd (inB p1 12) (some (S.1 61 p1.toNatClampNeg))
set_option maxRecDepth 100000 in
set_option maxHeartbeats 4000000 in
theorem c_K_timelyAt {X : Nat × (Nat → Int32)} {D F G : Nat} (hD : 0 ≤ D) {S : St} {p1 : Int32} {res : Int32} (h : fK_timelyAt F G S p1 = some res) : Ek X (D) mK_timelyAt 0 [(0, .ref 57), (1, .int p1)] [] S (some (.int res)) S := by
  unfold fK_timelyAt at h
  refine x_iload_n d_K_timelyAt_0 rfl 1 rfl ?_
  refine x_if_lt (tgt := 27) d_K_timelyAt_1 rfl (fun c1 => ?_) (fun c1 => ?_)
  · replace h := ite_t c1 h
    refine x_iconst d_K_timelyAt_27 ic_0 ?_
    obtain rfl := Option.some.inj h
    exact x_ret (r := some (.int (0 : Int32))) d_K_timelyAt_28 ⟨_, rfl, rfl⟩
  · replace h := ite_f c1 h
    refine x_iload_n d_K_timelyAt_4 rfl 1 rfl ?_
    refine x_aload_n d_K_timelyAt_5 rfl 0 rfl ?_
    refine y_getI d_K_timelyAt_6 fl_7_30 rfl kd_57 ?_
    refine x_icmp_ge (tgt := 27) d_K_timelyAt_9 rfl (fun c2 => ?_) (fun c2 => ?_)
    · replace h := ite_t c2 h
      refine x_iconst d_K_timelyAt_27 ic_0 ?_
      obtain rfl := Option.some.inj h
      exact x_ret (r := some (.int (0 : Int32))) d_K_timelyAt_28 ⟨_, rfl, rfl⟩
    · replace h := ite_f c2 h
      refine x_iload_n d_K_timelyAt_12 rfl 1 rfl ?_
      refine x_bipush d_K_timelyAt_13 bp_12 ?_
      refine x_icmp_ge (tgt := 27) d_K_timelyAt_15 rfl (fun c3 => ?_) (fun c3 => ?_)
      · replace h := ite_t c3 h
        refine x_iconst d_K_timelyAt_27 ic_0 ?_
        obtain rfl := Option.some.inj h
        exact x_ret (r := some (.int (0 : Int32))) d_K_timelyAt_28 ⟨_, rfl, rfl⟩
      · replace h := ite_f c3 h
        refine x_aload_n d_K_timelyAt_18 rfl 0 rfl ?_
        refine y_getR d_K_timelyAt_19 fl_7_21 rfl kd_57 rr_57_11 ?_
        refine x_iload_n d_K_timelyAt_22 rfl 1 rfl ?_
        obtain ⟨g4, h⟩ := gd_inv h
        refine y_iald d_K_timelyAt_23 kd_61 g4 ?_
        refine x_goto (tgt := 28) d_K_timelyAt_24 rfl ?_
        obtain rfl := Option.some.inj h
        exact x_ret (r := some (.int (S.1 61 p1.toNatClampNeg))) d_K_timelyAt_28 ⟨_, rfl, rfl⟩
/-! NinetyPlayers$Keyboard.heldBy -/
def fK_heldBy (F G : Nat) (S : St) (p1 : Int32) (p2 : Int32) : Option (Int32) :=
  bd (fK_setOf F G S p1) fun v2 => bd (fK_timelyAt F G S p2) fun v4 => some (v2 &&& v4)
set_option maxRecDepth 100000 in
set_option maxHeartbeats 4000000 in
theorem c_K_heldBy {X : Nat × (Nat → Int32)} {D F G : Nat} (hD : 1 ≤ D) {S : St} {p1 : Int32} {p2 : Int32} {res : Int32} (h : fK_heldBy F G S p1 p2 = some res) : Ek X (D) mK_heldBy 0 [(0, .ref 57), (1, .int p1), (2, .int p2)] [] S (some (.int res)) S := by
  obtain ⟨D, rfl⟩ : ∃ E, D = E + 1 := ⟨D - 1, by omega⟩
  unfold fK_heldBy at h
  refine x_aload_n d_K_heldBy_0 rfl 0 rfl ?_
  refine x_iload_n d_K_heldBy_1 rfl 1 rfl ?_
  obtain ⟨v2, q1, h⟩ := bd_inv h
  refine y_V1i (v := v2) (S1 := S) d_K_heldBy_2 ml_7_74 kd_57 rfl (Nat.le_of_ble_eq_true rfl) (Nat.le_of_ble_eq_true rfl) (c_K_setOf (by omega) q1) ?_
  refine x_aload_n d_K_heldBy_5 rfl 0 rfl ?_
  refine x_iload_n d_K_heldBy_6 rfl 2 rfl ?_
  obtain ⟨v4, q3, h⟩ := bd_inv h
  refine y_V1i (v := v4) (S1 := S) d_K_heldBy_7 ml_7_75 kd_57 rfl (Nat.le_of_ble_eq_true rfl) (Nat.le_of_ble_eq_true rfl) (c_K_timelyAt (by omega) q3) ?_
  refine x_iand d_K_heldBy_10 ?_
  obtain rfl := Option.some.inj h
  exact x_ret (r := some (.int (v2 &&& v4))) d_K_heldBy_11 ⟨_, rfl, rfl⟩
/-! NinetyPlayers.held -/
def fN_held (F G : Nat) (S : St) (p1 : Int32) (p2 : Int32) : Option (Int32 × St) :=
  bd (fN_isBeat F G S p1) fun v2 => if v2 = 0 then some ((-1 : Int32), S) else bd (fN_isHand F G S p2) fun v5 => if v5 = 0 then some ((-1 : Int32), S) else bd (fN_lookAtKeys F G S ) fun S8 => bd (fK_heldBy F G S8 p2 p1) fun v10 => some (v10, S8)
set_option maxRecDepth 100000 in
set_option maxHeartbeats 4000000 in
theorem c_N_held {X : Nat × (Nat → Int32)} {D F G : Nat} (hD : 3 ≤ D) {S : St} {p1 : Int32} {p2 : Int32} {res : Int32 × St} (h : fN_held F G S p1 p2 = some res) : Ek X (D) mN_held 0 [(0, .ref 0), (1, .int p1), (2, .int p2)] [] S (some (.int res.1)) res.2 := by
  obtain ⟨D, rfl⟩ : ∃ E, D = E + 1 := ⟨D - 1, by omega⟩
  unfold fN_held at h
  refine x_aload_n d_N_held_0 rfl 0 rfl ?_
  refine x_iload_n d_N_held_1 rfl 1 rfl ?_
  obtain ⟨v2, q1, h⟩ := bd_inv h
  refine y_V1i (v := v2) (S1 := S) d_N_held_2 ml_0_170 kd_0 rfl (Nat.le_of_ble_eq_true rfl) (Nat.le_of_ble_eq_true rfl) (c_N_isBeat (by omega) q1) ?_
  refine x_if_eq (tgt := 15) d_N_held_5 rfl (fun c3 => ?_) (fun c3 => ?_)
  · replace h := ite_t c3 h
    refine x_iconst d_N_held_15 ic_m1 ?_
    obtain rfl := Option.some.inj h
    exact x_ret (r := some (.int (-1 : Int32))) d_N_held_16 ⟨_, rfl, rfl⟩
  · replace h := ite_f c3 h
    refine x_iload_n d_N_held_8 rfl 2 rfl ?_
    obtain ⟨v5, q4, h⟩ := bd_inv h
    refine y_S1i (v := v5) (S1 := S) d_N_held_9 ml_0_173 (Nat.le_of_ble_eq_true rfl) (Nat.le_of_ble_eq_true rfl) (c_N_isHand (by omega) q4) ?_
    refine x_if_ne (tgt := 17) d_N_held_12 rfl (fun c6 => ?_) (fun c6 => ?_)
    · replace h := ite_f c6 h
      refine x_aload_n d_N_held_17 rfl 0 rfl ?_
      obtain ⟨S8, q7, h⟩ := bd_inv h
      refine y_V0v (S1 := S8) d_N_held_18 ml_0_176 kd_0 rfl (Nat.le_of_ble_eq_true rfl) (Nat.le_of_ble_eq_true rfl) (c_N_lookAtKeys (by omega) q7) ?_
      refine x_aload_n d_N_held_21 rfl 0 rfl ?_
      refine y_getR d_N_held_22 fl_0_57 rfl kd_0 rr_0_7 ?_
      refine x_iload_n d_N_held_25 rfl 2 rfl ?_
      refine x_iload_n d_N_held_26 rfl 1 rfl ?_
      obtain ⟨v10, q9, h⟩ := bd_inv h
      refine y_V2i (v := v10) (S1 := S8) d_N_held_27 ml_0_179 kd_57 rfl (Nat.le_of_ble_eq_true rfl) (Nat.le_of_ble_eq_true rfl) (c_K_heldBy (by omega) q9) ?_
      obtain rfl := Option.some.inj h
      exact x_ret (r := some (.int v10)) d_N_held_30 ⟨_, rfl, rfl⟩
    · replace h := ite_t c6 h
      refine x_iconst d_N_held_15 ic_m1 ?_
      obtain rfl := Option.some.inj h
      exact x_ret (r := some (.int (-1 : Int32))) d_N_held_16 ⟨_, rfl, rfl⟩
/-! NinetyPlayersModel.isBeat -/
def fM_isBeat (F G : Nat) (S : St) (p1 : Int32) : Option (Int32) :=
  bd (fM_isIn F G S p1 (0 : Int32) ((S.1 78 46) - (1 : Int32))) fun v2 => gd (isB v2) (some v2)
set_option maxRecDepth 100000 in
set_option maxHeartbeats 4000000 in
theorem c_M_isBeat {X : Nat × (Nat → Int32)} {D F G : Nat} (hD : 1 ≤ D) {S : St} {p1 : Int32} {res : Int32} (h : fM_isBeat F G S p1 = some res) : Ek X (D) mM_isBeat 0 [(0, .ref 78), (1, .int p1)] [] S (some (.int res)) S := by
  obtain ⟨D, rfl⟩ : ∃ E, D = E + 1 := ⟨D - 1, by omega⟩
  unfold fM_isBeat at h
  refine x_iload_n d_M_isBeat_0 rfl 1 rfl ?_
  refine x_iconst d_M_isBeat_1 ic_0 ?_
  refine x_aload_n d_M_isBeat_2 rfl 0 rfl ?_
  refine y_getI d_M_isBeat_3 fl_11_78 rfl kd_78 ?_
  refine x_iconst d_M_isBeat_6 ic_1 ?_
  refine x_isub d_M_isBeat_7 ?_
  obtain ⟨v2, q1, h⟩ := bd_inv h
  refine y_S3i (v := v2) (S1 := S) d_M_isBeat_8 ml_11_429 (Nat.le_of_ble_eq_true rfl) (Nat.le_of_ble_eq_true rfl) (c_M_isIn (by omega) q1) ?_
  obtain ⟨g3, h⟩ := gd_inv h
  obtain rfl := Option.some.inj h
  exact x_ret (r := some (.int v2)) d_M_isBeat_11 ⟨_, rfl, isB_nar g3⟩
/-! NinetyPlayersModel.isHand -/
def fM_isHand (F G : Nat) (S : St) (p1 : Int32) : Option (Int32) :=
  if p1 = (1 : Int32) then some (1 : Int32) else if p1 = (2 : Int32) then some (1 : Int32) else some (0 : Int32)
set_option maxRecDepth 100000 in
set_option maxHeartbeats 4000000 in
theorem c_M_isHand {X : Nat × (Nat → Int32)} {D F G : Nat} (hD : 0 ≤ D) {S : St} {p1 : Int32} {res : Int32} (h : fM_isHand F G S p1 = some res) : Ek X (D) mM_isHand 0 [(0, .int p1)] [] S (some (.int res)) S := by
  unfold fM_isHand at h
  refine x_iload_n d_M_isHand_0 rfl 0 rfl ?_
  refine x_iconst d_M_isHand_1 ic_1 ?_
  refine x_icmp_eq (tgt := 10) d_M_isHand_2 rfl (fun c1 => ?_) (fun c1 => ?_)
  · replace h := ite_t c1 h
    refine x_iconst d_M_isHand_10 ic_1 ?_
    refine x_goto (tgt := 15) d_M_isHand_11 rfl ?_
    obtain rfl := Option.some.inj h
    exact x_ret (r := some (.int (1 : Int32))) d_M_isHand_15 ⟨_, rfl, rfl⟩
  · replace h := ite_f c1 h
    refine x_iload_n d_M_isHand_5 rfl 0 rfl ?_
    refine x_iconst d_M_isHand_6 ic_2 ?_
    refine x_icmp_ne (tgt := 14) d_M_isHand_7 rfl (fun c2 => ?_) (fun c2 => ?_)
    · replace h := ite_f c2 h
      refine x_iconst d_M_isHand_14 ic_0 ?_
      obtain rfl := Option.some.inj h
      exact x_ret (r := some (.int (0 : Int32))) d_M_isHand_15 ⟨_, rfl, rfl⟩
    · replace h := ite_t c2 h
      refine x_iconst d_M_isHand_10 ic_1 ?_
      refine x_goto (tgt := 15) d_M_isHand_11 rfl ?_
      obtain rfl := Option.some.inj h
      exact x_ret (r := some (.int (1 : Int32))) d_M_isHand_15 ⟨_, rfl, rfl⟩
/-! NinetyPlayersModel.held -/
def fM_held (F G : Nat) (S : St) (p1 : Int32) (p2 : Int32) : Option (Int32 × St) :=
  bd (fM_fill F G S ) fun S2 => bd (fM_isBeat F G S2 p1) fun v4 => if v4 = 0 then some ((-1 : Int32), S2) else bd (fM_isHand F G S2 p2) fun v7 => if v7 = 0 then some ((-1 : Int32), S2) else bd (fM_given F G S2 p2) fun v10 => gd (inB p1 12) (some (v10 &&& (S2.1 102 p1.toNatClampNeg), S2))
set_option maxRecDepth 100000 in
set_option maxHeartbeats 4000000 in
theorem c_M_held {X : Nat × (Nat → Int32)} {D F G : Nat} (hD : 2 ≤ D) {S : St} {p1 : Int32} {p2 : Int32} {res : Int32 × St} (h : fM_held F G S p1 p2 = some res) : Ek X (D) mM_held 0 [(0, .ref 78), (1, .int p1), (2, .int p2)] [] S (some (.int res.1)) res.2 := by
  obtain ⟨D, rfl⟩ : ∃ E, D = E + 1 := ⟨D - 1, by omega⟩
  unfold fM_held at h
  refine x_aload_n d_M_held_0 rfl 0 rfl ?_
  obtain ⟨S2, q1, h⟩ := bd_inv h
  refine y_V0v (S1 := S2) d_M_held_1 ml_11_464 kd_78 rfl (Nat.le_of_ble_eq_true rfl) (Nat.le_of_ble_eq_true rfl) (c_M_fill (by omega) q1) ?_
  refine x_aload_n d_M_held_4 rfl 0 rfl ?_
  refine x_iload_n d_M_held_5 rfl 1 rfl ?_
  obtain ⟨v4, q3, h⟩ := bd_inv h
  refine y_V1i (v := v4) (S1 := S2) d_M_held_6 ml_11_473 kd_78 rfl (Nat.le_of_ble_eq_true rfl) (Nat.le_of_ble_eq_true rfl) (c_M_isBeat (by omega) q3) ?_
  refine x_if_eq (tgt := 34) d_M_held_9 rfl (fun c5 => ?_) (fun c5 => ?_)
  · replace h := ite_t c5 h
    refine x_iconst d_M_held_34 ic_m1 ?_
    obtain rfl := Option.some.inj h
    exact x_ret (r := some (.int (-1 : Int32))) d_M_held_35 ⟨_, rfl, rfl⟩
  · replace h := ite_f c5 h
    refine x_iload_n d_M_held_12 rfl 2 rfl ?_
    obtain ⟨v7, q6, h⟩ := bd_inv h
    refine y_S1i (v := v7) (S1 := S2) d_M_held_13 ml_11_476 (Nat.le_of_ble_eq_true rfl) (Nat.le_of_ble_eq_true rfl) (c_M_isHand (by omega) q6) ?_
    refine x_if_eq (tgt := 34) d_M_held_16 rfl (fun c8 => ?_) (fun c8 => ?_)
    · replace h := ite_t c8 h
      refine x_iconst d_M_held_34 ic_m1 ?_
      obtain rfl := Option.some.inj h
      exact x_ret (r := some (.int (-1 : Int32))) d_M_held_35 ⟨_, rfl, rfl⟩
    · replace h := ite_f c8 h
      refine x_aload_n d_M_held_19 rfl 0 rfl ?_
      refine x_iload_n d_M_held_20 rfl 2 rfl ?_
      obtain ⟨v10, q9, h⟩ := bd_inv h
      refine y_V1i (v := v10) (S1 := S2) d_M_held_21 ml_11_454 kd_78 rfl (Nat.le_of_ble_eq_true rfl) (Nat.le_of_ble_eq_true rfl) (c_M_given (by omega) q9) ?_
      refine x_aload_n d_M_held_24 rfl 0 rfl ?_
      refine y_getR d_M_held_25 fl_11_99 rfl kd_78 rr_78_60 ?_
      refine x_iload_n d_M_held_28 rfl 1 rfl ?_
      obtain ⟨g11, h⟩ := gd_inv h
      refine y_iald d_M_held_29 kd_102 g11 ?_
      refine x_iand d_M_held_30 ?_
      refine x_goto (tgt := 35) d_M_held_31 rfl ?_
      obtain rfl := Option.some.inj h
      exact x_ret (r := some (.int (v10 &&& (S2.1 102 p1.toNatClampNeg)))) d_M_held_35 ⟨_, rfl, rfl⟩
/-! NinetyPlayers$Keyboard.soundingAt -/
def b_K_soundingAt_4 (F G : Nat) (S : St) (z1 : Int32) (rec : Int32 → Int32 → Option (Int32)) (w2 : Int32) (w3 : Int32) : Option (Int32) :=
  if z1 < w3 then some (w2 &&& ((S.1 57 5) ||| (S.1 57 6))) else if (S.1 57 0) ≤ w3 then some (w2 &&& ((S.1 57 5) ||| (S.1 57 6))) else bd (fK_timelyAt F G S w3) fun v4 => bd (fK_hasPedal F G S w3) fun v6 => if v6 = 0 then lt (v4 ||| (0 : Int32)) fun v8 => lt (w3 + 1) fun v10 => rec v8 v10 else lt (v4 ||| w2) fun v12 => lt (w3 + 1) fun v14 => rec v12 v14
def fK_soundingAt (F G : Nat) (S : St) (p1 : Int32) : Option (Int32) :=
  fx2 (b_K_soundingAt_4 F G S p1) F (0 : Int32) (0 : Int32)
set_option maxRecDepth 100000 in
set_option maxHeartbeats 4000000 in
theorem T_K_soundingAt_4 {X : Nat × (Nat → Int32)} {D F G : Nat} (hD : 1 ≤ D + 1) {S : St} {z1 : Int32} : ∀ (f : Nat) (w2 : Int32) (w3 : Int32) (res : Int32), fx2 (b_K_soundingAt_4 F G S z1 ) f w2 w3 = some res → Ek X (D + 1) mK_soundingAt 4 [(0, .ref 57), (1, .int z1), (2, .int w2), (3, .int w3)] [] S (some (.int res)) S := by
  refine fx2_ind ?_
  intro rec ih w2 w3 res h
  unfold b_K_soundingAt_4 at h
  refine x_iload_n d_K_soundingAt_4 rfl 3 rfl ?_
  refine x_iload_n d_K_soundingAt_5 rfl 1 rfl ?_
  refine x_icmp_gt (tgt := 43) d_K_soundingAt_6 rfl (fun c1 => ?_) (fun c1 => ?_)
  · replace h := ite_t c1 h
    refine x_iload_n d_K_soundingAt_43 rfl 2 rfl ?_
    refine x_aload_n d_K_soundingAt_44 rfl 0 rfl ?_
    refine y_getI d_K_soundingAt_45 fl_7_53 rfl kd_57 ?_
    refine x_aload_n d_K_soundingAt_48 rfl 0 rfl ?_
    refine y_getI d_K_soundingAt_49 fl_7_56 rfl kd_57 ?_
    refine x_ior d_K_soundingAt_52 ?_
    refine x_iand d_K_soundingAt_53 ?_
    obtain rfl := Option.some.inj h
    exact x_ret (r := some (.int (w2 &&& ((S.1 57 5) ||| (S.1 57 6))))) d_K_soundingAt_54 ⟨_, rfl, rfl⟩
  · replace h := ite_f c1 h
    refine x_iload_n d_K_soundingAt_9 rfl 3 rfl ?_
    refine x_aload_n d_K_soundingAt_10 rfl 0 rfl ?_
    refine y_getI d_K_soundingAt_11 fl_7_30 rfl kd_57 ?_
    refine x_icmp_ge (tgt := 43) d_K_soundingAt_14 rfl (fun c2 => ?_) (fun c2 => ?_)
    · replace h := ite_t c2 h
      refine x_iload_n d_K_soundingAt_43 rfl 2 rfl ?_
      refine x_aload_n d_K_soundingAt_44 rfl 0 rfl ?_
      refine y_getI d_K_soundingAt_45 fl_7_53 rfl kd_57 ?_
      refine x_aload_n d_K_soundingAt_48 rfl 0 rfl ?_
      refine y_getI d_K_soundingAt_49 fl_7_56 rfl kd_57 ?_
      refine x_ior d_K_soundingAt_52 ?_
      refine x_iand d_K_soundingAt_53 ?_
      obtain rfl := Option.some.inj h
      exact x_ret (r := some (.int (w2 &&& ((S.1 57 5) ||| (S.1 57 6))))) d_K_soundingAt_54 ⟨_, rfl, rfl⟩
    · replace h := ite_f c2 h
      refine x_aload_n d_K_soundingAt_17 rfl 0 rfl ?_
      refine x_iload_n d_K_soundingAt_18 rfl 3 rfl ?_
      obtain ⟨v4, q3, h⟩ := bd_inv h
      refine y_V1i (v := v4) (S1 := S) d_K_soundingAt_19 ml_7_75 kd_57 rfl (Nat.le_of_ble_eq_true rfl) (Nat.le_of_ble_eq_true rfl) (c_K_timelyAt (by omega) q3) ?_
      refine x_aload_n d_K_soundingAt_22 rfl 0 rfl ?_
      refine x_iload_n d_K_soundingAt_23 rfl 3 rfl ?_
      obtain ⟨v6, q5, h⟩ := bd_inv h
      refine y_V1i (v := v6) (S1 := S) d_K_soundingAt_24 ml_7_66 kd_57 rfl (Nat.le_of_ble_eq_true rfl) (Nat.le_of_ble_eq_true rfl) (c_K_hasPedal (by omega) q5) ?_
      refine x_if_eq (tgt := 34) d_K_soundingAt_27 rfl (fun c7 => ?_) (fun c7 => ?_)
      · replace h := ite_t c7 h
        refine x_iconst d_K_soundingAt_34 ic_0 ?_
        refine x_ior d_K_soundingAt_35 ?_
        obtain ⟨v8, e9, h⟩ := lt_inv h
        refine y_istore_n (L1 := [(0, .ref 57), (1, .int z1), (2, .int v8), (3, .int w3)]) e9 d_K_soundingAt_36 rfl (Nat.le_of_ble_eq_true rfl) rfl rfl ?_
        obtain ⟨v10, e11, h⟩ := lt_inv h
        refine y_iinc (L1 := [(0, .ref 57), (1, .int z1), (2, .int v8), (3, .int v10)]) e11 ic_1 d_K_soundingAt_37 3 rfl (Nat.le_of_ble_eq_true rfl) rfl rfl ?_
        refine x_goto (tgt := 4) d_K_soundingAt_40 rfl ?_
        exact ih v8 v10 _ h
      · replace h := ite_f c7 h
        refine x_iload_n d_K_soundingAt_30 rfl 2 rfl ?_
        refine x_goto (tgt := 35) d_K_soundingAt_31 rfl ?_
        refine x_ior d_K_soundingAt_35 ?_
        obtain ⟨v12, e13, h⟩ := lt_inv h
        refine y_istore_n (L1 := [(0, .ref 57), (1, .int z1), (2, .int v12), (3, .int w3)]) e13 d_K_soundingAt_36 rfl (Nat.le_of_ble_eq_true rfl) rfl rfl ?_
        obtain ⟨v14, e15, h⟩ := lt_inv h
        refine y_iinc (L1 := [(0, .ref 57), (1, .int z1), (2, .int v12), (3, .int v14)]) e15 ic_1 d_K_soundingAt_37 3 rfl (Nat.le_of_ble_eq_true rfl) rfl rfl ?_
        refine x_goto (tgt := 4) d_K_soundingAt_40 rfl ?_
        exact ih v12 v14 _ h
set_option maxRecDepth 100000 in
set_option maxHeartbeats 4000000 in
theorem c_K_soundingAt {X : Nat × (Nat → Int32)} {D F G : Nat} (hD : 1 ≤ D) {S : St} {p1 : Int32} {res : Int32} (h : fK_soundingAt F G S p1 = some res) : Ek X (D) mK_soundingAt 0 [(0, .ref 57), (1, .int p1)] [] S (some (.int res)) S := by
  obtain ⟨D, rfl⟩ : ∃ E, D = E + 1 := ⟨D - 1, by omega⟩
  unfold fK_soundingAt at h
  refine x_iconst d_K_soundingAt_0 ic_0 ?_
  refine x_istore_n (L1 := [(0, .ref 57), (1, .int p1), (2, .int (0 : Int32))]) d_K_soundingAt_1 rfl (Nat.le_of_ble_eq_true rfl) rfl rfl ?_
  refine x_iconst d_K_soundingAt_2 ic_0 ?_
  refine x_istore_n (L1 := [(0, .ref 57), (1, .int p1), (2, .int (0 : Int32)), (3, .int (0 : Int32))]) d_K_soundingAt_3 rfl (Nat.le_of_ble_eq_true rfl) rfl rfl ?_
  refine T_K_soundingAt_4 (by omega)   F (0 : Int32) (0 : Int32) _ h
/-! NinetyPlayers.sounds -/
def fN_sounds (F G : Nat) (S : St) (p1 : Int32) : Option (Int32 × St) :=
  bd (fN_isBeat F G S p1) fun v2 => if v2 = 0 then some ((-1 : Int32), S) else bd (fN_lookAtKeys F G S ) fun S5 => bd (fK_soundingAt F G S5 p1) fun v7 => some (v7, S5)
set_option maxRecDepth 100000 in
set_option maxHeartbeats 4000000 in
theorem c_N_sounds {X : Nat × (Nat → Int32)} {D F G : Nat} (hD : 3 ≤ D) {S : St} {p1 : Int32} {res : Int32 × St} (h : fN_sounds F G S p1 = some res) : Ek X (D) mN_sounds 0 [(0, .ref 0), (1, .int p1)] [] S (some (.int res.1)) res.2 := by
  obtain ⟨D, rfl⟩ : ∃ E, D = E + 1 := ⟨D - 1, by omega⟩
  unfold fN_sounds at h
  refine x_aload_n d_N_sounds_0 rfl 0 rfl ?_
  refine x_iload_n d_N_sounds_1 rfl 1 rfl ?_
  obtain ⟨v2, q1, h⟩ := bd_inv h
  refine y_V1i (v := v2) (S1 := S) d_N_sounds_2 ml_0_170 kd_0 rfl (Nat.le_of_ble_eq_true rfl) (Nat.le_of_ble_eq_true rfl) (c_N_isBeat (by omega) q1) ?_
  refine x_if_ne (tgt := 10) d_N_sounds_5 rfl (fun c3 => ?_) (fun c3 => ?_)
  · replace h := ite_f c3 h
    refine x_aload_n d_N_sounds_10 rfl 0 rfl ?_
    obtain ⟨S5, q4, h⟩ := bd_inv h
    refine y_V0v (S1 := S5) d_N_sounds_11 ml_0_176 kd_0 rfl (Nat.le_of_ble_eq_true rfl) (Nat.le_of_ble_eq_true rfl) (c_N_lookAtKeys (by omega) q4) ?_
    refine x_aload_n d_N_sounds_14 rfl 0 rfl ?_
    refine y_getR d_N_sounds_15 fl_0_57 rfl kd_0 rr_0_7 ?_
    refine x_iload_n d_N_sounds_18 rfl 1 rfl ?_
    obtain ⟨v7, q6, h⟩ := bd_inv h
    refine y_V1i (v := v7) (S1 := S5) d_N_sounds_19 ml_0_185 kd_57 rfl (Nat.le_of_ble_eq_true rfl) (Nat.le_of_ble_eq_true rfl) (c_K_soundingAt (by omega) q6) ?_
    obtain rfl := Option.some.inj h
    exact x_ret (r := some (.int v7)) d_N_sounds_22 ⟨_, rfl, rfl⟩
  · replace h := ite_t c3 h
    refine x_iconst d_N_sounds_8 ic_m1 ?_
    obtain rfl := Option.some.inj h
    exact x_ret (r := some (.int (-1 : Int32))) d_N_sounds_9 ⟨_, rfl, rfl⟩
/-! NinetyPlayersModel.laySound -/
def b_M_laySound_14 (F G : Nat) (z1 : Int32) (rec : Int32 → St → Option (St)) (w2 : Int32) (S : St) : Option (St) :=
  if (S.1 78 46) ≤ w2 then some S else gd (inB w2 12) (gd (inB w2 12) (lt (sI S 103 w2.toNatClampNeg ((S.1 102 w2.toNatClampNeg) &&& z1)) fun S10 => if w2 ≤ 0 then lt (w2 + 1) fun v13 => rec v13 S10 else gd (inB (40 : Int32) 41) (if (((S10.1 101 (40 : Int32).toNatClampNeg) >>> (w2 &&& 31)) &&& (1 : Int32)) = (1 : Int32) then gd (inB w2 12) (gd (inB (w2 - (1 : Int32)) 12) (gd (inB w2 12) (lt (sI S10 103 w2.toNatClampNeg ((S10.1 103 w2.toNatClampNeg) ||| (S10.1 103 (w2 - (1 : Int32)).toNatClampNeg))) fun S22 => lt (w2 + 1) fun v24 => rec v24 S22))) else lt (w2 + 1) fun v17 => rec v17 S10)))
def fM_laySound (F G : Nat) (S : St) : Option (St) :=
  bd (fM_given F G S (1 : Int32)) fun v2 => bd (fM_given F G S (2 : Int32)) fun v4 => lt (v2 ||| v4) fun v5 => fx2 (b_M_laySound_14 F G v5) F (0 : Int32) S
set_option maxRecDepth 100000 in
set_option maxHeartbeats 4000000 in
theorem T_M_laySound_14 {X : Nat × (Nat → Int32)} {D F G : Nat} (hD : 2 ≤ D + 1) {z1 : Int32} : ∀ (f : Nat) (w2 : Int32) (S : St) (res : St), fx2 (b_M_laySound_14 F G z1 ) f w2 S = some res → Ek X (D + 1) mM_laySound 14 [(0, .ref 78), (1, .int z1), (2, .int w2)] [] S none res := by
  refine fx2_ind ?_
  intro rec ih w2 S res h
  unfold b_M_laySound_14 at h
  refine x_iload_n d_M_laySound_14 rfl 2 rfl ?_
  refine x_aload_n d_M_laySound_15 rfl 0 rfl ?_
  refine y_getI d_M_laySound_16 fl_11_78 rfl kd_78 ?_
  refine x_icmp_ge (tgt := 78) d_M_laySound_19 rfl (fun c7 => ?_) (fun c7 => ?_)
  · replace h := ite_t c7 h
    obtain rfl := Option.some.inj h
    exact x_ret (r := none) d_M_laySound_78 rfl
  · replace h := ite_f c7 h
    refine x_aload_n d_M_laySound_22 rfl 0 rfl ?_
    refine y_getR d_M_laySound_23 fl_11_102 rfl kd_78 rr_78_61 ?_
    refine x_iload_n d_M_laySound_26 rfl 2 rfl ?_
    refine x_aload_n d_M_laySound_27 rfl 0 rfl ?_
    refine y_getR d_M_laySound_28 fl_11_99 rfl kd_78 rr_78_60 ?_
    refine x_iload_n d_M_laySound_31 rfl 2 rfl ?_
    obtain ⟨g8, h⟩ := gd_inv h
    refine y_iald d_M_laySound_32 kd_102 g8 ?_
    refine x_iload_n d_M_laySound_33 rfl 1 rfl ?_
    refine x_iand d_M_laySound_34 ?_
    obtain ⟨g9, h⟩ := gd_inv h
    obtain ⟨S10, e11, h⟩ := lt_inv h
    refine y_iast e11 d_M_laySound_35 kd_103 g9 ?_
    refine x_iload_n d_M_laySound_36 rfl 2 rfl ?_
    refine x_if_le (tgt := 72) d_M_laySound_37 rfl (fun c12 => ?_) (fun c12 => ?_)
    · replace h := ite_t c12 h
      obtain ⟨v13, e14, h⟩ := lt_inv h
      refine y_iinc (L1 := [(0, .ref 78), (1, .int z1), (2, .int v13)]) e14 ic_1 d_M_laySound_72 2 rfl (Nat.le_of_ble_eq_true rfl) rfl rfl ?_
      refine x_goto (tgt := 14) d_M_laySound_75 rfl ?_
      exact ih v13 S10 _ h
    · replace h := ite_f c12 h
      refine x_aload_n d_M_laySound_40 rfl 0 rfl ?_
      refine y_getR d_M_laySound_41 fl_11_96 rfl kd_78 rr_78_59 ?_
      refine x_bipush d_M_laySound_44 bp_40 ?_
      obtain ⟨g15, h⟩ := gd_inv h
      refine y_iald d_M_laySound_46 kd_101 g15 ?_
      refine x_iload_n d_M_laySound_47 rfl 2 rfl ?_
      refine x_ishr d_M_laySound_48 ?_
      refine x_iconst d_M_laySound_49 ic_1 ?_
      refine x_iand d_M_laySound_50 ?_
      refine x_iconst d_M_laySound_51 ic_1 ?_
      refine x_icmp_ne (tgt := 72) d_M_laySound_52 rfl (fun c16 => ?_) (fun c16 => ?_)
      · replace h := ite_f c16 h
        obtain ⟨v17, e18, h⟩ := lt_inv h
        refine y_iinc (L1 := [(0, .ref 78), (1, .int z1), (2, .int v17)]) e18 ic_1 d_M_laySound_72 2 rfl (Nat.le_of_ble_eq_true rfl) rfl rfl ?_
        refine x_goto (tgt := 14) d_M_laySound_75 rfl ?_
        exact ih v17 S10 _ h
      · replace h := ite_t c16 h
        refine x_aload_n d_M_laySound_55 rfl 0 rfl ?_
        refine y_getR d_M_laySound_56 fl_11_102 rfl kd_78 rr_78_61 ?_
        refine x_iload_n d_M_laySound_59 rfl 2 rfl ?_
        refine x_dup2 d_M_laySound_60 rfl rfl ?_
        obtain ⟨g19, h⟩ := gd_inv h
        refine y_iald d_M_laySound_61 kd_103 g19 ?_
        refine x_aload_n d_M_laySound_62 rfl 0 rfl ?_
        refine y_getR d_M_laySound_63 fl_11_102 rfl kd_78 rr_78_61 ?_
        refine x_iload_n d_M_laySound_66 rfl 2 rfl ?_
        refine x_iconst d_M_laySound_67 ic_1 ?_
        refine x_isub d_M_laySound_68 ?_
        obtain ⟨g20, h⟩ := gd_inv h
        refine y_iald d_M_laySound_69 kd_103 g20 ?_
        refine x_ior d_M_laySound_70 ?_
        obtain ⟨g21, h⟩ := gd_inv h
        obtain ⟨S22, e23, h⟩ := lt_inv h
        refine y_iast e23 d_M_laySound_71 kd_103 g21 ?_
        obtain ⟨v24, e25, h⟩ := lt_inv h
        refine y_iinc (L1 := [(0, .ref 78), (1, .int z1), (2, .int v24)]) e25 ic_1 d_M_laySound_72 2 rfl (Nat.le_of_ble_eq_true rfl) rfl rfl ?_
        refine x_goto (tgt := 14) d_M_laySound_75 rfl ?_
        exact ih v24 S22 _ h
set_option maxRecDepth 100000 in
set_option maxHeartbeats 4000000 in
theorem c_M_laySound {X : Nat × (Nat → Int32)} {D F G : Nat} (hD : 2 ≤ D) {S : St} {res : St} (h : fM_laySound F G S  = some res) : Ek X (D) mM_laySound 0 [(0, .ref 78)] [] S none res := by
  obtain ⟨D, rfl⟩ : ∃ E, D = E + 1 := ⟨D - 1, by omega⟩
  unfold fM_laySound at h
  refine x_aload_n d_M_laySound_0 rfl 0 rfl ?_
  refine x_iconst d_M_laySound_1 ic_1 ?_
  obtain ⟨v2, q1, h⟩ := bd_inv h
  refine y_V1i (v := v2) (S1 := S) d_M_laySound_2 ml_11_454 kd_78 rfl (Nat.le_of_ble_eq_true rfl) (Nat.le_of_ble_eq_true rfl) (c_M_given (by omega) q1) ?_
  refine x_aload_n d_M_laySound_5 rfl 0 rfl ?_
  refine x_iconst d_M_laySound_6 ic_2 ?_
  obtain ⟨v4, q3, h⟩ := bd_inv h
  refine y_V1i (v := v4) (S1 := S) d_M_laySound_7 ml_11_454 kd_78 rfl (Nat.le_of_ble_eq_true rfl) (Nat.le_of_ble_eq_true rfl) (c_M_given (by omega) q3) ?_
  refine x_ior d_M_laySound_10 ?_
  obtain ⟨v5, e6, h⟩ := lt_inv h
  refine y_istore_n (L1 := [(0, .ref 78), (1, .int v5)]) e6 d_M_laySound_11 rfl (Nat.le_of_ble_eq_true rfl) rfl rfl ?_
  refine x_iconst d_M_laySound_12 ic_0 ?_
  refine x_istore_n (L1 := [(0, .ref 78), (1, .int v5), (2, .int (0 : Int32))]) d_M_laySound_13 rfl (Nat.le_of_ble_eq_true rfl) rfl rfl ?_
  refine T_M_laySound_14 (by omega)   F (0 : Int32) S _ h
/-! NinetyPlayersModel.sounds -/
def fM_sounds (F G : Nat) (S : St) (p1 : Int32) : Option (Int32 × St) :=
  bd (fM_isBeat F G S p1) fun v2 => if v2 = 0 then some ((-1 : Int32), S) else bd (fM_fill F G S ) fun S5 => bd (fM_laySound F G S5 ) fun S7 => gd (inB p1 12) (some (S7.1 103 p1.toNatClampNeg, S7))
set_option maxRecDepth 100000 in
set_option maxHeartbeats 4000000 in
theorem c_M_sounds {X : Nat × (Nat → Int32)} {D F G : Nat} (hD : 3 ≤ D) {S : St} {p1 : Int32} {res : Int32 × St} (h : fM_sounds F G S p1 = some res) : Ek X (D) mM_sounds 0 [(0, .ref 78), (1, .int p1)] [] S (some (.int res.1)) res.2 := by
  obtain ⟨D, rfl⟩ : ∃ E, D = E + 1 := ⟨D - 1, by omega⟩
  unfold fM_sounds at h
  refine x_aload_n d_M_sounds_0 rfl 0 rfl ?_
  refine x_iload_n d_M_sounds_1 rfl 1 rfl ?_
  obtain ⟨v2, q1, h⟩ := bd_inv h
  refine y_V1i (v := v2) (S1 := S) d_M_sounds_2 ml_11_473 kd_78 rfl (Nat.le_of_ble_eq_true rfl) (Nat.le_of_ble_eq_true rfl) (c_M_isBeat (by omega) q1) ?_
  refine x_if_ne (tgt := 10) d_M_sounds_5 rfl (fun c3 => ?_) (fun c3 => ?_)
  · replace h := ite_f c3 h
    refine x_aload_n d_M_sounds_10 rfl 0 rfl ?_
    obtain ⟨S5, q4, h⟩ := bd_inv h
    refine y_V0v (S1 := S5) d_M_sounds_11 ml_11_464 kd_78 rfl (Nat.le_of_ble_eq_true rfl) (Nat.le_of_ble_eq_true rfl) (c_M_fill (by omega) q4) ?_
    refine x_aload_n d_M_sounds_14 rfl 0 rfl ?_
    obtain ⟨S7, q6, h⟩ := bd_inv h
    refine y_V0v (S1 := S7) d_M_sounds_15 ml_11_479 kd_78 rfl (Nat.le_of_ble_eq_true rfl) (Nat.le_of_ble_eq_true rfl) (c_M_laySound (by omega) q6) ?_
    refine x_aload_n d_M_sounds_18 rfl 0 rfl ?_
    refine y_getR d_M_sounds_19 fl_11_102 rfl kd_78 rr_78_61 ?_
    refine x_iload_n d_M_sounds_22 rfl 1 rfl ?_
    obtain ⟨g8, h⟩ := gd_inv h
    refine y_iald d_M_sounds_23 kd_103 g8 ?_
    obtain rfl := Option.some.inj h
    exact x_ret (r := some (.int (S7.1 103 p1.toNatClampNeg))) d_M_sounds_24 ⟨_, rfl, rfl⟩
  · replace h := ite_t c3 h
    refine x_iconst d_M_sounds_8 ic_m1 ?_
    obtain rfl := Option.some.inj h
    exact x_ret (r := some (.int (-1 : Int32))) d_M_sounds_9 ⟨_, rfl, rfl⟩
/-! NinetyPlayers$Keyboard.lowest -/
def b_K_lowest_5 (F G : Nat) (S : St) (z1 : Int32) (rec : Int32 → Int32 → Option (Int32)) (w2 : Int32) (w3 : Int32) : Option (Int32) :=
  if (S.1 57 1) ≤ w3 then some w2 else if ((z1 >>> (w3 &&& 31)) &&& (1 : Int32)) = 0 then lt (w3 + 1) fun v3 => rec w2 v3 else gd (inB w3 10) (if w2 ≤ (S.1 58 w3.toNatClampNeg) then lt (w3 + 1) fun v7 => rec w2 v7 else gd (inB w3 10) (lt (S.1 58 w3.toNatClampNeg) fun v10 => lt (w3 + 1) fun v12 => rec v10 v12))
def fK_lowest (F G : Nat) (S : St) (p1 : Int32) : Option (Int32) :=
  fx2 (b_K_lowest_5 F G S p1) F (87 : Int32) (0 : Int32)
set_option maxRecDepth 100000 in
set_option maxHeartbeats 4000000 in
theorem T_K_lowest_5 {X : Nat × (Nat → Int32)} {D F G : Nat} (hD : 0 ≤ D) {S : St} {z1 : Int32} : ∀ (f : Nat) (w2 : Int32) (w3 : Int32) (res : Int32), fx2 (b_K_lowest_5 F G S z1 ) f w2 w3 = some res → Ek X (D) mK_lowest 5 [(0, .ref 57), (1, .int z1), (2, .int w2), (3, .int w3)] [] S (some (.int res)) S := by
  refine fx2_ind ?_
  intro rec ih w2 w3 res h
  unfold b_K_lowest_5 at h
  refine x_iload_n d_K_lowest_5 rfl 3 rfl ?_
  refine x_aload_n d_K_lowest_6 rfl 0 rfl ?_
  refine y_getI d_K_lowest_7 fl_7_34 rfl kd_57 ?_
  refine x_icmp_ge (tgt := 44) d_K_lowest_10 rfl (fun c1 => ?_) (fun c1 => ?_)
  · replace h := ite_t c1 h
    refine x_iload_n d_K_lowest_44 rfl 2 rfl ?_
    obtain rfl := Option.some.inj h
    exact x_ret (r := some (.int w2)) d_K_lowest_45 ⟨_, rfl, rfl⟩
  · replace h := ite_f c1 h
    refine x_iload_n d_K_lowest_13 rfl 1 rfl ?_
    refine x_iload_n d_K_lowest_14 rfl 3 rfl ?_
    refine x_ishr d_K_lowest_15 ?_
    refine x_iconst d_K_lowest_16 ic_1 ?_
    refine x_iand d_K_lowest_17 ?_
    refine x_if_eq (tgt := 38) d_K_lowest_18 rfl (fun c2 => ?_) (fun c2 => ?_)
    · replace h := ite_t c2 h
      obtain ⟨v3, e4, h⟩ := lt_inv h
      refine y_iinc (L1 := [(0, .ref 57), (1, .int z1), (2, .int w2), (3, .int v3)]) e4 ic_1 d_K_lowest_38 3 rfl (Nat.le_of_ble_eq_true rfl) rfl rfl ?_
      refine x_goto (tgt := 5) d_K_lowest_41 rfl ?_
      exact ih w2 v3 _ h
    · replace h := ite_f c2 h
      refine x_aload_n d_K_lowest_21 rfl 0 rfl ?_
      refine y_getR d_K_lowest_22 fl_7_9 rfl kd_57 rr_57_8 ?_
      refine x_iload_n d_K_lowest_25 rfl 3 rfl ?_
      obtain ⟨g5, h⟩ := gd_inv h
      refine y_iald d_K_lowest_26 kd_58 g5 ?_
      refine x_iload_n d_K_lowest_27 rfl 2 rfl ?_
      refine x_icmp_ge (tgt := 38) d_K_lowest_28 rfl (fun c6 => ?_) (fun c6 => ?_)
      · replace h := ite_t c6 h
        obtain ⟨v7, e8, h⟩ := lt_inv h
        refine y_iinc (L1 := [(0, .ref 57), (1, .int z1), (2, .int w2), (3, .int v7)]) e8 ic_1 d_K_lowest_38 3 rfl (Nat.le_of_ble_eq_true rfl) rfl rfl ?_
        refine x_goto (tgt := 5) d_K_lowest_41 rfl ?_
        exact ih w2 v7 _ h
      · replace h := ite_f c6 h
        refine x_aload_n d_K_lowest_31 rfl 0 rfl ?_
        refine y_getR d_K_lowest_32 fl_7_9 rfl kd_57 rr_57_8 ?_
        refine x_iload_n d_K_lowest_35 rfl 3 rfl ?_
        obtain ⟨g9, h⟩ := gd_inv h
        refine y_iald d_K_lowest_36 kd_58 g9 ?_
        obtain ⟨v10, e11, h⟩ := lt_inv h
        refine y_istore_n (L1 := [(0, .ref 57), (1, .int z1), (2, .int v10), (3, .int w3)]) e11 d_K_lowest_37 rfl (Nat.le_of_ble_eq_true rfl) rfl rfl ?_
        obtain ⟨v12, e13, h⟩ := lt_inv h
        refine y_iinc (L1 := [(0, .ref 57), (1, .int z1), (2, .int v10), (3, .int v12)]) e13 ic_1 d_K_lowest_38 3 rfl (Nat.le_of_ble_eq_true rfl) rfl rfl ?_
        refine x_goto (tgt := 5) d_K_lowest_41 rfl ?_
        exact ih v10 v12 _ h
set_option maxRecDepth 100000 in
set_option maxHeartbeats 4000000 in
theorem c_K_lowest {X : Nat × (Nat → Int32)} {D F G : Nat} (hD : 0 ≤ D) {S : St} {p1 : Int32} {res : Int32} (h : fK_lowest F G S p1 = some res) : Ek X (D) mK_lowest 0 [(0, .ref 57), (1, .int p1)] [] S (some (.int res)) S := by
  unfold fK_lowest at h
  refine x_bipush d_K_lowest_0 bp_87 ?_
  refine x_istore_n (L1 := [(0, .ref 57), (1, .int p1), (2, .int (87 : Int32))]) d_K_lowest_2 rfl (Nat.le_of_ble_eq_true rfl) rfl rfl ?_
  refine x_iconst d_K_lowest_3 ic_0 ?_
  refine x_istore_n (L1 := [(0, .ref 57), (1, .int p1), (2, .int (87 : Int32)), (3, .int (0 : Int32))]) d_K_lowest_4 rfl (Nat.le_of_ble_eq_true rfl) rfl rfl ?_
  refine T_K_lowest_5 (by omega)   F (87 : Int32) (0 : Int32) _ h
/-! NinetyPlayers$Keyboard.highest -/
def b_K_highest_4 (F G : Nat) (S : St) (z1 : Int32) (rec : Int32 → Int32 → Option (Int32)) (w2 : Int32) (w3 : Int32) : Option (Int32) :=
  if (S.1 57 1) ≤ w3 then some w2 else if ((z1 >>> (w3 &&& 31)) &&& (1 : Int32)) = 0 then lt (w3 + 1) fun v3 => rec w2 v3 else gd (inB w3 10) (if (S.1 58 w3.toNatClampNeg) ≤ w2 then lt (w3 + 1) fun v7 => rec w2 v7 else gd (inB w3 10) (lt (S.1 58 w3.toNatClampNeg) fun v10 => lt (w3 + 1) fun v12 => rec v10 v12))
def fK_highest (F G : Nat) (S : St) (p1 : Int32) : Option (Int32) :=
  fx2 (b_K_highest_4 F G S p1) F (0 : Int32) (0 : Int32)
set_option maxRecDepth 100000 in
set_option maxHeartbeats 4000000 in
theorem T_K_highest_4 {X : Nat × (Nat → Int32)} {D F G : Nat} (hD : 0 ≤ D) {S : St} {z1 : Int32} : ∀ (f : Nat) (w2 : Int32) (w3 : Int32) (res : Int32), fx2 (b_K_highest_4 F G S z1 ) f w2 w3 = some res → Ek X (D) mK_highest 4 [(0, .ref 57), (1, .int z1), (2, .int w2), (3, .int w3)] [] S (some (.int res)) S := by
  refine fx2_ind ?_
  intro rec ih w2 w3 res h
  unfold b_K_highest_4 at h
  refine x_iload_n d_K_highest_4 rfl 3 rfl ?_
  refine x_aload_n d_K_highest_5 rfl 0 rfl ?_
  refine y_getI d_K_highest_6 fl_7_34 rfl kd_57 ?_
  refine x_icmp_ge (tgt := 43) d_K_highest_9 rfl (fun c1 => ?_) (fun c1 => ?_)
  · replace h := ite_t c1 h
    refine x_iload_n d_K_highest_43 rfl 2 rfl ?_
    obtain rfl := Option.some.inj h
    exact x_ret (r := some (.int w2)) d_K_highest_44 ⟨_, rfl, rfl⟩
  · replace h := ite_f c1 h
    refine x_iload_n d_K_highest_12 rfl 1 rfl ?_
    refine x_iload_n d_K_highest_13 rfl 3 rfl ?_
    refine x_ishr d_K_highest_14 ?_
    refine x_iconst d_K_highest_15 ic_1 ?_
    refine x_iand d_K_highest_16 ?_
    refine x_if_eq (tgt := 37) d_K_highest_17 rfl (fun c2 => ?_) (fun c2 => ?_)
    · replace h := ite_t c2 h
      obtain ⟨v3, e4, h⟩ := lt_inv h
      refine y_iinc (L1 := [(0, .ref 57), (1, .int z1), (2, .int w2), (3, .int v3)]) e4 ic_1 d_K_highest_37 3 rfl (Nat.le_of_ble_eq_true rfl) rfl rfl ?_
      refine x_goto (tgt := 4) d_K_highest_40 rfl ?_
      exact ih w2 v3 _ h
    · replace h := ite_f c2 h
      refine x_aload_n d_K_highest_20 rfl 0 rfl ?_
      refine y_getR d_K_highest_21 fl_7_9 rfl kd_57 rr_57_8 ?_
      refine x_iload_n d_K_highest_24 rfl 3 rfl ?_
      obtain ⟨g5, h⟩ := gd_inv h
      refine y_iald d_K_highest_25 kd_58 g5 ?_
      refine x_iload_n d_K_highest_26 rfl 2 rfl ?_
      refine x_icmp_le (tgt := 37) d_K_highest_27 rfl (fun c6 => ?_) (fun c6 => ?_)
      · replace h := ite_t c6 h
        obtain ⟨v7, e8, h⟩ := lt_inv h
        refine y_iinc (L1 := [(0, .ref 57), (1, .int z1), (2, .int w2), (3, .int v7)]) e8 ic_1 d_K_highest_37 3 rfl (Nat.le_of_ble_eq_true rfl) rfl rfl ?_
        refine x_goto (tgt := 4) d_K_highest_40 rfl ?_
        exact ih w2 v7 _ h
      · replace h := ite_f c6 h
        refine x_aload_n d_K_highest_30 rfl 0 rfl ?_
        refine y_getR d_K_highest_31 fl_7_9 rfl kd_57 rr_57_8 ?_
        refine x_iload_n d_K_highest_34 rfl 3 rfl ?_
        obtain ⟨g9, h⟩ := gd_inv h
        refine y_iald d_K_highest_35 kd_58 g9 ?_
        obtain ⟨v10, e11, h⟩ := lt_inv h
        refine y_istore_n (L1 := [(0, .ref 57), (1, .int z1), (2, .int v10), (3, .int w3)]) e11 d_K_highest_36 rfl (Nat.le_of_ble_eq_true rfl) rfl rfl ?_
        obtain ⟨v12, e13, h⟩ := lt_inv h
        refine y_iinc (L1 := [(0, .ref 57), (1, .int z1), (2, .int v10), (3, .int v12)]) e13 ic_1 d_K_highest_37 3 rfl (Nat.le_of_ble_eq_true rfl) rfl rfl ?_
        refine x_goto (tgt := 4) d_K_highest_40 rfl ?_
        exact ih v10 v12 _ h
set_option maxRecDepth 100000 in
set_option maxHeartbeats 4000000 in
theorem c_K_highest {X : Nat × (Nat → Int32)} {D F G : Nat} (hD : 0 ≤ D) {S : St} {p1 : Int32} {res : Int32} (h : fK_highest F G S p1 = some res) : Ek X (D) mK_highest 0 [(0, .ref 57), (1, .int p1)] [] S (some (.int res)) S := by
  unfold fK_highest at h
  refine x_iconst d_K_highest_0 ic_0 ?_
  refine x_istore_n (L1 := [(0, .ref 57), (1, .int p1), (2, .int (0 : Int32))]) d_K_highest_1 rfl (Nat.le_of_ble_eq_true rfl) rfl rfl ?_
  refine x_iconst d_K_highest_2 ic_0 ?_
  refine x_istore_n (L1 := [(0, .ref 57), (1, .int p1), (2, .int (0 : Int32)), (3, .int (0 : Int32))]) d_K_highest_3 rfl (Nat.le_of_ble_eq_true rfl) rfl rfl ?_
  refine T_K_highest_4 (by omega)   F (0 : Int32) (0 : Int32) _ h
/-! NinetyPlayers$Keyboard.clashesOfHand -/
def j_K_clashesOfHand_80 (F G : Nat) (S : St) (y4 : Int32) (s0 : Int32) : Option (Int32) :=
  if s0 = 0 then some y4 else some (y4 ||| (16 : Int32))
def j_K_clashesOfHand_79 (F G : Nat) (S : St) (y4 : Int32) : Option (Int32) :=
  j_K_clashesOfHand_80 F G  S y4 (0 : Int32)
def j_K_clashesOfHand_51 (F G : Nat) (S : St) (y1 : Int32) (y3 : Int32) (s0 : Int32) (s1 : Int32) : Option (Int32) :=
  lt (s0 ||| s1) fun v10 => if y1 = 0 then j_K_clashesOfHand_79 F G  S v10 else bd (fK_lowest F G S y1) fun v14 => if (if 0 ≤ (y3 - v14) then (y3 - v14) else 0 - (y3 - v14)) ≤ (S.1 57 4) then j_K_clashesOfHand_79 F G  S v10 else j_K_clashesOfHand_80 F G  S v10 (1 : Int32)
def j_K_clashesOfHand_28 (F G : Nat) (S : St) (y1 : Int32) (y2 : Int32) (y3 : Int32) (s0 : Int32) : Option (Int32) :=
  bd (fK_highest F G S y2) fun v8 => if (v8 - y3) ≤ (S.1 57 2) then j_K_clashesOfHand_51 F G  S y1 y3 s0 (0 : Int32) else j_K_clashesOfHand_51 F G  S y1 y3 s0 (2 : Int32)
def fK_clashesOfHand (F G : Nat) (S : St) (p1 : Int32) (p2 : Int32) : Option (Int32) :=
  if p2 = 0 then some (0 : Int32) else bd (fK_lowest F G S p2) fun v3 => bd (fJ_bitCount F G S p2) fun v5 => if v5 ≤ (S.1 57 3) then j_K_clashesOfHand_28 F G  S p1 p2 v3 (0 : Int32) else j_K_clashesOfHand_28 F G  S p1 p2 v3 (1 : Int32)
set_option maxRecDepth 100000 in
set_option maxHeartbeats 4000000 in
theorem c_K_clashesOfHand {X : Nat × (Nat → Int32)} {D F G : Nat} (hD : 1 ≤ D) {S : St} {p1 : Int32} {p2 : Int32} {res : Int32} (h : fK_clashesOfHand F G S p1 p2 = some res) : Ek X (D) mK_clashesOfHand 0 [(0, .ref 57), (1, .int p1), (2, .int p2)] [] S (some (.int res)) S := by
  obtain ⟨D, rfl⟩ : ∃ E, D = E + 1 := ⟨D - 1, by omega⟩
  unfold fK_clashesOfHand at h
  have J80 : ∀ (y4 : Int32) (s0 : Int32) (res : Int32), j_K_clashesOfHand_80 F G S y4 s0 = some res → Ek X (D + 1) mK_clashesOfHand 80 [(4, .int y4)] [.int s0] S (some (.int res)) S := by
    intro y4 s0 res h
    unfold j_K_clashesOfHand_80 at h
    refine x_istore (L1 := [(4, .int y4), (5, .int s0)]) d_K_clashesOfHand_80 (Nat.le_of_ble_eq_true rfl) rfl rfl ?_
    refine x_iload d_K_clashesOfHand_82 1 rfl ?_
    refine x_if_eq (tgt := 95) d_K_clashesOfHand_84 rfl (fun c16 => ?_) (fun c16 => ?_)
    · replace h := ite_t c16 h
      refine x_iload d_K_clashesOfHand_95 0 rfl ?_
      obtain rfl := Option.some.inj h
      exact x_ret (r := some (.int y4)) d_K_clashesOfHand_97 ⟨_, rfl, rfl⟩
    · replace h := ite_f c16 h
      refine x_iload d_K_clashesOfHand_87 0 rfl ?_
      refine x_bipush d_K_clashesOfHand_89 bp_16 ?_
      refine x_ior d_K_clashesOfHand_91 ?_
      refine x_goto (tgt := 97) d_K_clashesOfHand_92 rfl ?_
      obtain rfl := Option.some.inj h
      exact x_ret (r := some (.int (y4 ||| (16 : Int32)))) d_K_clashesOfHand_97 ⟨_, rfl, rfl⟩
  have J79 : ∀ (y4 : Int32) (res : Int32), j_K_clashesOfHand_79 F G S y4 = some res → Ek X (D + 1) mK_clashesOfHand 79 [(4, .int y4)] [] S (some (.int res)) S := by
    intro y4 res h
    unfold j_K_clashesOfHand_79 at h
    refine x_iconst d_K_clashesOfHand_79 ic_0 ?_
    exact J80 y4 (0 : Int32) _ h
  have J51 : ∀ (y1 : Int32) (y3 : Int32) (s0 : Int32) (s1 : Int32) (res : Int32), j_K_clashesOfHand_51 F G S y1 y3 s0 s1 = some res → Ek X (D + 1) mK_clashesOfHand 51 [(0, .ref 57), (1, .int y1), (3, .int y3)] [.int s1, .int s0] S (some (.int res)) S := by
    intro y1 y3 s0 s1 res h
    unfold j_K_clashesOfHand_51 at h
    refine x_ior d_K_clashesOfHand_51 ?_
    obtain ⟨v10, e11, h⟩ := lt_inv h
    refine y_istore (L1 := [(0, .ref 57), (1, .int y1), (3, .int y3), (4, .int v10)]) e11 d_K_clashesOfHand_52 (Nat.le_of_ble_eq_true rfl) rfl rfl ?_
    refine x_iload_n d_K_clashesOfHand_54 rfl 1 rfl ?_
    refine x_if_eq (tgt := 79) d_K_clashesOfHand_55 rfl (fun c12 => ?_) (fun c12 => ?_)
    · replace h := ite_t c12 h
      refine y_pick (L1 := [(4, .int v10)]) [3] rfl ?_
      exact J79 v10 _ h
    · replace h := ite_f c12 h
      refine x_iload_n d_K_clashesOfHand_58 rfl 2 rfl ?_
      refine x_aload_n d_K_clashesOfHand_59 rfl 0 rfl ?_
      refine x_iload_n d_K_clashesOfHand_60 rfl 1 rfl ?_
      obtain ⟨v14, q13, h⟩ := bd_inv h
      refine y_V1i (v := v14) (S1 := S) d_K_clashesOfHand_61 ml_7_81 kd_57 rfl (Nat.le_of_ble_eq_true rfl) (Nat.le_of_ble_eq_true rfl) (c_K_lowest (by omega) q13) ?_
      refine x_isub d_K_clashesOfHand_64 ?_
      refine y_mabs d_K_clashesOfHand_65 ml_7_84 (Nat.le_of_ble_eq_true rfl) ?_
      refine x_aload_n d_K_clashesOfHand_68 rfl 0 rfl ?_
      refine y_getI d_K_clashesOfHand_69 fl_7_46 rfl kd_57 ?_
      refine x_icmp_le (tgt := 79) d_K_clashesOfHand_72 rfl (fun c15 => ?_) (fun c15 => ?_)
      · replace h := ite_t c15 h
        refine y_pick (L1 := [(4, .int v10)]) [3] rfl ?_
        exact J79 v10 _ h
      · replace h := ite_f c15 h
        refine x_iconst d_K_clashesOfHand_75 ic_1 ?_
        refine x_goto (tgt := 80) d_K_clashesOfHand_76 rfl ?_
        refine y_pick (L1 := [(4, .int v10)]) [3] rfl ?_
        exact J80 v10 (1 : Int32) _ h
  have J28 : ∀ (y1 : Int32) (y2 : Int32) (y3 : Int32) (s0 : Int32) (res : Int32), j_K_clashesOfHand_28 F G S y1 y2 y3 s0 = some res → Ek X (D + 1) mK_clashesOfHand 28 [(0, .ref 57), (1, .int y1), (2, .int y2), (3, .int y3)] [.int s0] S (some (.int res)) S := by
    intro y1 y2 y3 s0 res h
    unfold j_K_clashesOfHand_28 at h
    refine x_istore (L1 := [(0, .ref 57), (1, .int y1), (2, .int y2), (3, .int y3), (4, .int s0)]) d_K_clashesOfHand_28 (Nat.le_of_ble_eq_true rfl) rfl rfl ?_
    refine x_iload d_K_clashesOfHand_30 4 rfl ?_
    refine x_aload_n d_K_clashesOfHand_32 rfl 0 rfl ?_
    refine x_iload_n d_K_clashesOfHand_33 rfl 2 rfl ?_
    obtain ⟨v8, q7, h⟩ := bd_inv h
    refine y_V1i (v := v8) (S1 := S) d_K_clashesOfHand_34 ml_7_78 kd_57 rfl (Nat.le_of_ble_eq_true rfl) (Nat.le_of_ble_eq_true rfl) (c_K_highest (by omega) q7) ?_
    refine x_iload_n d_K_clashesOfHand_37 rfl 3 rfl ?_
    refine x_isub d_K_clashesOfHand_38 ?_
    refine x_aload_n d_K_clashesOfHand_39 rfl 0 rfl ?_
    refine y_getI d_K_clashesOfHand_40 fl_7_38 rfl kd_57 ?_
    refine x_icmp_le (tgt := 50) d_K_clashesOfHand_43 rfl (fun c9 => ?_) (fun c9 => ?_)
    · replace h := ite_t c9 h
      refine x_iconst d_K_clashesOfHand_50 ic_0 ?_
      refine y_pick (L1 := [(0, .ref 57), (1, .int y1), (3, .int y3)]) [0, 1, 3] rfl ?_
      exact J51 y1 y3 s0 (0 : Int32) _ h
    · replace h := ite_f c9 h
      refine x_iconst d_K_clashesOfHand_46 ic_2 ?_
      refine x_goto (tgt := 51) d_K_clashesOfHand_47 rfl ?_
      refine y_pick (L1 := [(0, .ref 57), (1, .int y1), (3, .int y3)]) [0, 1, 3] rfl ?_
      exact J51 y1 y3 s0 (2 : Int32) _ h
  refine x_iload_n d_K_clashesOfHand_0 rfl 2 rfl ?_
  refine x_if_ne (tgt := 6) d_K_clashesOfHand_1 rfl (fun c1 => ?_) (fun c1 => ?_)
  · replace h := ite_f c1 h
    refine x_aload_n d_K_clashesOfHand_6 rfl 0 rfl ?_
    refine x_iload_n d_K_clashesOfHand_7 rfl 2 rfl ?_
    obtain ⟨v3, q2, h⟩ := bd_inv h
    refine y_V1i (v := v3) (S1 := S) d_K_clashesOfHand_8 ml_7_81 kd_57 rfl (Nat.le_of_ble_eq_true rfl) (Nat.le_of_ble_eq_true rfl) (c_K_lowest (by omega) q2) ?_
    refine x_istore_n (L1 := [(0, .ref 57), (1, .int p1), (2, .int p2), (3, .int v3)]) d_K_clashesOfHand_11 rfl (Nat.le_of_ble_eq_true rfl) rfl rfl ?_
    refine x_iload_n d_K_clashesOfHand_12 rfl 2 rfl ?_
    obtain ⟨v5, q4, h⟩ := bd_inv h
    refine y_S1i (v := v5) (S1 := S) d_K_clashesOfHand_13 ml_7_89 (Nat.le_of_ble_eq_true rfl) (Nat.le_of_ble_eq_true rfl) (c_J_bitCount (by omega) q4) ?_
    refine x_aload_n d_K_clashesOfHand_16 rfl 0 rfl ?_
    refine y_getI d_K_clashesOfHand_17 fl_7_42 rfl kd_57 ?_
    refine x_icmp_le (tgt := 27) d_K_clashesOfHand_20 rfl (fun c6 => ?_) (fun c6 => ?_)
    · replace h := ite_t c6 h
      refine x_iconst d_K_clashesOfHand_27 ic_0 ?_
      exact J28 p1 p2 v3 (0 : Int32) _ h
    · replace h := ite_f c6 h
      refine x_iconst d_K_clashesOfHand_23 ic_1 ?_
      refine x_goto (tgt := 28) d_K_clashesOfHand_24 rfl ?_
      exact J28 p1 p2 v3 (1 : Int32) _ h
  · replace h := ite_t c1 h
    refine x_iconst d_K_clashesOfHand_4 ic_0 ?_
    obtain rfl := Option.some.inj h
    exact x_ret (r := some (.int (0 : Int32))) d_K_clashesOfHand_5 ⟨_, rfl, rfl⟩
/-! NinetyPlayers$Keyboard.hasKeyTwice -/
def b_K_hasKeyTwice_27 (F G : Nat) (S : St) (z1 : Int32) (z2 : Int32) (z3 : Int32) (k70 : Option (Int32)) (rec : Int32 → Option (Int32)) (w4 : Int32) : Option (Int32) :=
  if z3 = 0 then k70  else if z2 ≤ w4 then k70  else if ((z1 >>> (w4 &&& 31)) &&& (1 : Int32)) = 0 then lt (w4 + 1) fun v6 => rec v6 else gd (inB z2 10) (gd (inB w4 10) (if (S.1 58 z2.toNatClampNeg) = (S.1 58 w4.toNatClampNeg) then some (1 : Int32) else lt (w4 + 1) fun v11 => rec v11))
def b_K_hasKeyTwice_2 (F G : Nat) (S : St) (z1 : Int32) (rec : Int32 → Option (Int32)) (w2 : Int32) : Option (Int32) :=
  if (S.1 57 1) ≤ w2 then some (0 : Int32) else if ((z1 >>> (w2 &&& 31)) &&& (1 : Int32)) = 0 then fx1 (b_K_hasKeyTwice_27 F G S z1 w2 (0 : Int32) (lt (w2 + 1) fun v13 => rec v13)) F (0 : Int32) else fx1 (b_K_hasKeyTwice_27 F G S z1 w2 (1 : Int32) (lt (w2 + 1) fun v15 => rec v15)) F (0 : Int32)
def fK_hasKeyTwice (F G : Nat) (S : St) (p1 : Int32) : Option (Int32) :=
  fx1 (b_K_hasKeyTwice_2 F G S p1) F (1 : Int32)
set_option maxRecDepth 100000 in
set_option maxHeartbeats 4000000 in
theorem T_K_hasKeyTwice_27 {X : Nat × (Nat → Int32)} {D F G : Nat} (hD : 0 ≤ D) {S : St} {z1 : Int32} {z2 : Int32} {z3 : Int32} {k70 : Option (Int32)} (hk70 : ∀ (res : Int32), k70 = some res → Ek X (D) mK_hasKeyTwice 70 [(0, .ref 57), (1, .int z1), (2, .int z2)] [] S (some (.int res)) S) : ∀ (f : Nat) (w4 : Int32) (res : Int32), fx1 (b_K_hasKeyTwice_27 F G S z1 z2 z3 k70 ) f w4 = some res → Ek X (D) mK_hasKeyTwice 27 [(0, .ref 57), (1, .int z1), (2, .int z2), (3, .int z3), (4, .int w4)] [] S (some (.int res)) S := by
  refine fx1_ind ?_
  intro rec ih w4 res h
  unfold b_K_hasKeyTwice_27 at h
  refine x_iload_n d_K_hasKeyTwice_27 rfl 3 rfl ?_
  refine x_if_eq (tgt := 70) d_K_hasKeyTwice_28 rfl (fun c3 => ?_) (fun c3 => ?_)
  · replace h := ite_t c3 h
    refine y_pick (L1 := [(0, .ref 57), (1, .int z1), (2, .int z2)]) [0, 1, 2] rfl ?_
    exact hk70  _ h
  · replace h := ite_f c3 h
    refine x_iload d_K_hasKeyTwice_31 4 rfl ?_
    refine x_iload_n d_K_hasKeyTwice_33 rfl 2 rfl ?_
    refine x_icmp_ge (tgt := 70) d_K_hasKeyTwice_34 rfl (fun c4 => ?_) (fun c4 => ?_)
    · replace h := ite_t c4 h
      refine y_pick (L1 := [(0, .ref 57), (1, .int z1), (2, .int z2)]) [0, 1, 2] rfl ?_
      exact hk70  _ h
    · replace h := ite_f c4 h
      refine x_iload_n d_K_hasKeyTwice_37 rfl 1 rfl ?_
      refine x_iload d_K_hasKeyTwice_38 4 rfl ?_
      refine x_ishr d_K_hasKeyTwice_40 ?_
      refine x_iconst d_K_hasKeyTwice_41 ic_1 ?_
      refine x_iand d_K_hasKeyTwice_42 ?_
      refine x_if_eq (tgt := 64) d_K_hasKeyTwice_43 rfl (fun c5 => ?_) (fun c5 => ?_)
      · replace h := ite_t c5 h
        obtain ⟨v6, e7, h⟩ := lt_inv h
        refine y_iinc (L1 := [(0, .ref 57), (1, .int z1), (2, .int z2), (3, .int z3), (4, .int v6)]) e7 ic_1 d_K_hasKeyTwice_64 4 rfl (Nat.le_of_ble_eq_true rfl) rfl rfl ?_
        refine x_goto (tgt := 27) d_K_hasKeyTwice_67 rfl ?_
        exact ih v6 _ h
      · replace h := ite_f c5 h
        refine x_aload_n d_K_hasKeyTwice_46 rfl 0 rfl ?_
        refine y_getR d_K_hasKeyTwice_47 fl_7_9 rfl kd_57 rr_57_8 ?_
        refine x_iload_n d_K_hasKeyTwice_50 rfl 2 rfl ?_
        obtain ⟨g8, h⟩ := gd_inv h
        refine y_iald d_K_hasKeyTwice_51 kd_58 g8 ?_
        refine x_aload_n d_K_hasKeyTwice_52 rfl 0 rfl ?_
        refine y_getR d_K_hasKeyTwice_53 fl_7_9 rfl kd_57 rr_57_8 ?_
        refine x_iload d_K_hasKeyTwice_56 4 rfl ?_
        obtain ⟨g9, h⟩ := gd_inv h
        refine y_iald d_K_hasKeyTwice_58 kd_58 g9 ?_
        refine x_icmp_ne (tgt := 64) d_K_hasKeyTwice_59 rfl (fun c10 => ?_) (fun c10 => ?_)
        · replace h := ite_f c10 h
          obtain ⟨v11, e12, h⟩ := lt_inv h
          refine y_iinc (L1 := [(0, .ref 57), (1, .int z1), (2, .int z2), (3, .int z3), (4, .int v11)]) e12 ic_1 d_K_hasKeyTwice_64 4 rfl (Nat.le_of_ble_eq_true rfl) rfl rfl ?_
          refine x_goto (tgt := 27) d_K_hasKeyTwice_67 rfl ?_
          exact ih v11 _ h
        · replace h := ite_t c10 h
          refine x_iconst d_K_hasKeyTwice_62 ic_1 ?_
          obtain rfl := Option.some.inj h
          exact x_ret (r := some (.int (1 : Int32))) d_K_hasKeyTwice_63 ⟨_, rfl, rfl⟩
set_option maxRecDepth 100000 in
set_option maxHeartbeats 4000000 in
theorem T_K_hasKeyTwice_2 {X : Nat × (Nat → Int32)} {D F G : Nat} (hD : 0 ≤ D) {S : St} {z1 : Int32} : ∀ (f : Nat) (w2 : Int32) (res : Int32), fx1 (b_K_hasKeyTwice_2 F G S z1 ) f w2 = some res → Ek X (D) mK_hasKeyTwice 2 [(0, .ref 57), (1, .int z1), (2, .int w2)] [] S (some (.int res)) S := by
  refine fx1_ind ?_
  intro rec ih w2 res h
  unfold b_K_hasKeyTwice_2 at h
  refine x_iload_n d_K_hasKeyTwice_2 rfl 2 rfl ?_
  refine x_aload_n d_K_hasKeyTwice_3 rfl 0 rfl ?_
  refine y_getI d_K_hasKeyTwice_4 fl_7_34 rfl kd_57 ?_
  refine x_icmp_ge (tgt := 76) d_K_hasKeyTwice_7 rfl (fun c1 => ?_) (fun c1 => ?_)
  · replace h := ite_t c1 h
    refine x_iconst d_K_hasKeyTwice_76 ic_0 ?_
    obtain rfl := Option.some.inj h
    exact x_ret (r := some (.int (0 : Int32))) d_K_hasKeyTwice_77 ⟨_, rfl, rfl⟩
  · replace h := ite_f c1 h
    refine x_iload_n d_K_hasKeyTwice_10 rfl 1 rfl ?_
    refine x_iload_n d_K_hasKeyTwice_11 rfl 2 rfl ?_
    refine x_ishr d_K_hasKeyTwice_12 ?_
    refine x_iconst d_K_hasKeyTwice_13 ic_1 ?_
    refine x_iand d_K_hasKeyTwice_14 ?_
    refine x_if_eq (tgt := 22) d_K_hasKeyTwice_15 rfl (fun c2 => ?_) (fun c2 => ?_)
    · replace h := ite_t c2 h
      refine x_iconst d_K_hasKeyTwice_22 ic_0 ?_
      refine x_istore_n (L1 := [(0, .ref 57), (1, .int z1), (2, .int w2), (3, .int (0 : Int32))]) d_K_hasKeyTwice_23 rfl (Nat.le_of_ble_eq_true rfl) rfl rfl ?_
      refine x_iconst d_K_hasKeyTwice_24 ic_0 ?_
      refine x_istore (L1 := [(0, .ref 57), (1, .int z1), (2, .int w2), (3, .int (0 : Int32)), (4, .int (0 : Int32))]) d_K_hasKeyTwice_25 (Nat.le_of_ble_eq_true rfl) rfl rfl ?_
      refine T_K_hasKeyTwice_27 (by omega)  ?_ F (0 : Int32) _ h
      · intro  res h
        obtain ⟨v13, e14, h⟩ := lt_inv h
        refine y_iinc (L1 := [(0, .ref 57), (1, .int z1), (2, .int v13)]) e14 ic_1 d_K_hasKeyTwice_70 2 rfl (Nat.le_of_ble_eq_true rfl) rfl rfl ?_
        refine x_goto (tgt := 2) d_K_hasKeyTwice_73 rfl ?_
        exact ih v13 _ h
    · replace h := ite_f c2 h
      refine x_iconst d_K_hasKeyTwice_18 ic_1 ?_
      refine x_goto (tgt := 23) d_K_hasKeyTwice_19 rfl ?_
      refine x_istore_n (L1 := [(0, .ref 57), (1, .int z1), (2, .int w2), (3, .int (1 : Int32))]) d_K_hasKeyTwice_23 rfl (Nat.le_of_ble_eq_true rfl) rfl rfl ?_
      refine x_iconst d_K_hasKeyTwice_24 ic_0 ?_
      refine x_istore (L1 := [(0, .ref 57), (1, .int z1), (2, .int w2), (3, .int (1 : Int32)), (4, .int (0 : Int32))]) d_K_hasKeyTwice_25 (Nat.le_of_ble_eq_true rfl) rfl rfl ?_
      refine T_K_hasKeyTwice_27 (by omega)  ?_ F (0 : Int32) _ h
      · intro  res h
        obtain ⟨v15, e16, h⟩ := lt_inv h
        refine y_iinc (L1 := [(0, .ref 57), (1, .int z1), (2, .int v15)]) e16 ic_1 d_K_hasKeyTwice_70 2 rfl (Nat.le_of_ble_eq_true rfl) rfl rfl ?_
        refine x_goto (tgt := 2) d_K_hasKeyTwice_73 rfl ?_
        exact ih v15 _ h
set_option maxRecDepth 100000 in
set_option maxHeartbeats 4000000 in
theorem c_K_hasKeyTwice {X : Nat × (Nat → Int32)} {D F G : Nat} (hD : 0 ≤ D) {S : St} {p1 : Int32} {res : Int32} (h : fK_hasKeyTwice F G S p1 = some res) : Ek X (D) mK_hasKeyTwice 0 [(0, .ref 57), (1, .int p1)] [] S (some (.int res)) S := by
  unfold fK_hasKeyTwice at h
  refine x_iconst d_K_hasKeyTwice_0 ic_1 ?_
  refine x_istore_n (L1 := [(0, .ref 57), (1, .int p1), (2, .int (1 : Int32))]) d_K_hasKeyTwice_1 rfl (Nat.le_of_ble_eq_true rfl) rfl rfl ?_
  refine T_K_hasKeyTwice_2 (by omega)   F (1 : Int32) _ h
/-! NinetyPlayers$Keyboard.clashesBetween -/
def j_K_clashesBetween_64 (F G : Nat) (S : St) (y5 : Int32) (y6 : Int32) (y7 : Int32) : Option (Int32) :=
  bd (fK_hasKeyTwice F G S (y5 ||| y6)) fun v21 => if v21 = 0 then some (y7 ||| (0 : Int32)) else some (y7 ||| (8 : Int32))
def fK_clashesBetween (F G : Nat) (S : St) (p1 : Int32) (p2 : Int32) (p3 : Int32) (p4 : Int32) : Option (Int32) :=
  lt (p1 &&& p4) fun v1 => lt (p2 &&& p4) fun v3 => bd (fK_clashesOfHand F G S (p1 &&& p3) v1) fun v6 => bd (fK_clashesOfHand F G S (p2 &&& p3) v3) fun v8 => lt (v6 ||| v8) fun v9 => if v1 = 0 then j_K_clashesBetween_64 F G  S v1 v3 v9 else if v3 = 0 then j_K_clashesBetween_64 F G  S v1 v3 v9 else bd (fK_highest F G S v1) fun v14 => bd (fK_lowest F G S v3) fun v16 => if v14 < v16 then j_K_clashesBetween_64 F G  S v1 v3 v9 else lt (v9 ||| (4 : Int32)) fun v18 => j_K_clashesBetween_64 F G  S v1 v3 v18
set_option maxRecDepth 100000 in
set_option maxHeartbeats 4000000 in
theorem c_K_clashesBetween {X : Nat × (Nat → Int32)} {D F G : Nat} (hD : 2 ≤ D) {S : St} {p1 : Int32} {p2 : Int32} {p3 : Int32} {p4 : Int32} {res : Int32} (h : fK_clashesBetween F G S p1 p2 p3 p4 = some res) : Ek X (D) mK_clashesBetween 0 [(0, .ref 57), (1, .int p1), (2, .int p2), (3, .int p3), (4, .int p4)] [] S (some (.int res)) S := by
  obtain ⟨D, rfl⟩ : ∃ E, D = E + 1 := ⟨D - 1, by omega⟩
  unfold fK_clashesBetween at h
  have J64 : ∀ (y5 : Int32) (y6 : Int32) (y7 : Int32) (res : Int32), j_K_clashesBetween_64 F G S y5 y6 y7 = some res → Ek X (D + 1) mK_clashesBetween 64 [(0, .ref 57), (5, .int y5), (6, .int y6), (7, .int y7)] [] S (some (.int res)) S := by
    intro y5 y6 y7 res h
    unfold j_K_clashesBetween_64 at h
    refine x_iload d_K_clashesBetween_64 3 rfl ?_
    refine x_aload_n d_K_clashesBetween_66 rfl 0 rfl ?_
    refine x_iload d_K_clashesBetween_67 1 rfl ?_
    refine x_iload d_K_clashesBetween_69 2 rfl ?_
    refine x_ior d_K_clashesBetween_71 ?_
    obtain ⟨v21, q20, h⟩ := bd_inv h
    refine y_V1i (v := v21) (S1 := S) d_K_clashesBetween_72 ml_7_97 kd_57 rfl (Nat.le_of_ble_eq_true rfl) (Nat.le_of_ble_eq_true rfl) (c_K_hasKeyTwice (by omega) q20) ?_
    refine x_if_eq (tgt := 83) d_K_clashesBetween_75 rfl (fun c22 => ?_) (fun c22 => ?_)
    · replace h := ite_t c22 h
      refine x_iconst d_K_clashesBetween_83 ic_0 ?_
      refine x_ior d_K_clashesBetween_84 ?_
      obtain rfl := Option.some.inj h
      exact x_ret (r := some (.int (y7 ||| (0 : Int32)))) d_K_clashesBetween_85 ⟨_, rfl, rfl⟩
    · replace h := ite_f c22 h
      refine x_bipush d_K_clashesBetween_78 bp_8 ?_
      refine x_goto (tgt := 84) d_K_clashesBetween_80 rfl ?_
      refine x_ior d_K_clashesBetween_84 ?_
      obtain rfl := Option.some.inj h
      exact x_ret (r := some (.int (y7 ||| (8 : Int32)))) d_K_clashesBetween_85 ⟨_, rfl, rfl⟩
  refine x_iload_n d_K_clashesBetween_0 rfl 1 rfl ?_
  refine x_iload d_K_clashesBetween_1 4 rfl ?_
  refine x_iand d_K_clashesBetween_3 ?_
  obtain ⟨v1, e2, h⟩ := lt_inv h
  refine y_istore (L1 := [(0, .ref 57), (1, .int p1), (2, .int p2), (3, .int p3), (4, .int p4), (5, .int v1)]) e2 d_K_clashesBetween_4 (Nat.le_of_ble_eq_true rfl) rfl rfl ?_
  refine x_iload_n d_K_clashesBetween_6 rfl 2 rfl ?_
  refine x_iload d_K_clashesBetween_7 4 rfl ?_
  refine x_iand d_K_clashesBetween_9 ?_
  obtain ⟨v3, e4, h⟩ := lt_inv h
  refine y_istore (L1 := [(0, .ref 57), (1, .int p1), (2, .int p2), (3, .int p3), (4, .int p4), (5, .int v1), (6, .int v3)]) e4 d_K_clashesBetween_10 (Nat.le_of_ble_eq_true rfl) rfl rfl ?_
  refine x_aload_n d_K_clashesBetween_12 rfl 0 rfl ?_
  refine x_iload_n d_K_clashesBetween_13 rfl 1 rfl ?_
  refine x_iload_n d_K_clashesBetween_14 rfl 3 rfl ?_
  refine x_iand d_K_clashesBetween_15 ?_
  refine x_iload d_K_clashesBetween_16 5 rfl ?_
  obtain ⟨v6, q5, h⟩ := bd_inv h
  refine y_V2i (v := v6) (S1 := S) d_K_clashesBetween_18 ml_7_94 kd_57 rfl (Nat.le_of_ble_eq_true rfl) (Nat.le_of_ble_eq_true rfl) (c_K_clashesOfHand (by omega) q5) ?_
  refine x_aload_n d_K_clashesBetween_21 rfl 0 rfl ?_
  refine x_iload_n d_K_clashesBetween_22 rfl 2 rfl ?_
  refine x_iload_n d_K_clashesBetween_23 rfl 3 rfl ?_
  refine x_iand d_K_clashesBetween_24 ?_
  refine x_iload d_K_clashesBetween_25 6 rfl ?_
  obtain ⟨v8, q7, h⟩ := bd_inv h
  refine y_V2i (v := v8) (S1 := S) d_K_clashesBetween_27 ml_7_94 kd_57 rfl (Nat.le_of_ble_eq_true rfl) (Nat.le_of_ble_eq_true rfl) (c_K_clashesOfHand (by omega) q7) ?_
  refine x_ior d_K_clashesBetween_30 ?_
  obtain ⟨v9, e10, h⟩ := lt_inv h
  refine y_istore (L1 := [(0, .ref 57), (1, .int p1), (2, .int p2), (3, .int p3), (4, .int p4), (5, .int v1), (6, .int v3), (7, .int v9)]) e10 d_K_clashesBetween_31 (Nat.le_of_ble_eq_true rfl) rfl rfl ?_
  refine x_iload d_K_clashesBetween_33 5 rfl ?_
  refine x_if_eq (tgt := 64) d_K_clashesBetween_35 rfl (fun c11 => ?_) (fun c11 => ?_)
  · replace h := ite_t c11 h
    refine y_pick (L1 := [(0, .ref 57), (5, .int v1), (6, .int v3), (7, .int v9)]) [0, 5, 6, 7] rfl ?_
    exact J64 v1 v3 v9 _ h
  · replace h := ite_f c11 h
    refine x_iload d_K_clashesBetween_38 6 rfl ?_
    refine x_if_eq (tgt := 64) d_K_clashesBetween_40 rfl (fun c12 => ?_) (fun c12 => ?_)
    · replace h := ite_t c12 h
      refine y_pick (L1 := [(0, .ref 57), (5, .int v1), (6, .int v3), (7, .int v9)]) [0, 5, 6, 7] rfl ?_
      exact J64 v1 v3 v9 _ h
    · replace h := ite_f c12 h
      refine x_aload_n d_K_clashesBetween_43 rfl 0 rfl ?_
      refine x_iload d_K_clashesBetween_44 5 rfl ?_
      obtain ⟨v14, q13, h⟩ := bd_inv h
      refine y_V1i (v := v14) (S1 := S) d_K_clashesBetween_46 ml_7_78 kd_57 rfl (Nat.le_of_ble_eq_true rfl) (Nat.le_of_ble_eq_true rfl) (c_K_highest (by omega) q13) ?_
      refine x_aload_n d_K_clashesBetween_49 rfl 0 rfl ?_
      refine x_iload d_K_clashesBetween_50 6 rfl ?_
      obtain ⟨v16, q15, h⟩ := bd_inv h
      refine y_V1i (v := v16) (S1 := S) d_K_clashesBetween_52 ml_7_81 kd_57 rfl (Nat.le_of_ble_eq_true rfl) (Nat.le_of_ble_eq_true rfl) (c_K_lowest (by omega) q15) ?_
      refine x_icmp_lt (tgt := 64) d_K_clashesBetween_55 rfl (fun c17 => ?_) (fun c17 => ?_)
      · replace h := ite_t c17 h
        refine y_pick (L1 := [(0, .ref 57), (5, .int v1), (6, .int v3), (7, .int v9)]) [0, 5, 6, 7] rfl ?_
        exact J64 v1 v3 v9 _ h
      · replace h := ite_f c17 h
        refine x_iload d_K_clashesBetween_58 7 rfl ?_
        refine x_iconst d_K_clashesBetween_60 ic_4 ?_
        refine x_ior d_K_clashesBetween_61 ?_
        obtain ⟨v18, e19, h⟩ := lt_inv h
        refine y_istore (L1 := [(0, .ref 57), (1, .int p1), (2, .int p2), (3, .int p3), (4, .int p4), (5, .int v1), (6, .int v3), (7, .int v18)]) e19 d_K_clashesBetween_62 (Nat.le_of_ble_eq_true rfl) rfl rfl ?_
        refine y_pick (L1 := [(0, .ref 57), (5, .int v1), (6, .int v3), (7, .int v18)]) [0, 5, 6, 7] rfl ?_
        exact J64 v1 v3 v18 _ h
/-! NinetyPlayers$Keyboard.clashesAt -/
def fK_clashesAt (F G : Nat) (S : St) (p1 : Int32) (p2 : Int32) (p3 : Int32) : Option (Int32) :=
  bd (fK_timelyAt F G S (p3 - (1 : Int32))) fun v2 => bd (fK_timelyAt F G S p3) fun v4 => bd (fK_clashesBetween F G S p1 p2 v2 v4) fun v6 => some v6
set_option maxRecDepth 100000 in
set_option maxHeartbeats 4000000 in
theorem c_K_clashesAt {X : Nat × (Nat → Int32)} {D F G : Nat} (hD : 3 ≤ D) {S : St} {p1 : Int32} {p2 : Int32} {p3 : Int32} {res : Int32} (h : fK_clashesAt F G S p1 p2 p3 = some res) : Ek X (D) mK_clashesAt 0 [(0, .ref 57), (1, .int p1), (2, .int p2), (3, .int p3)] [] S (some (.int res)) S := by
  obtain ⟨D, rfl⟩ : ∃ E, D = E + 1 := ⟨D - 1, by omega⟩
  unfold fK_clashesAt at h
  refine x_aload_n d_K_clashesAt_0 rfl 0 rfl ?_
  refine x_iload_n d_K_clashesAt_1 rfl 1 rfl ?_
  refine x_iload_n d_K_clashesAt_2 rfl 2 rfl ?_
  refine x_aload_n d_K_clashesAt_3 rfl 0 rfl ?_
  refine x_iload_n d_K_clashesAt_4 rfl 3 rfl ?_
  refine x_iconst d_K_clashesAt_5 ic_1 ?_
  refine x_isub d_K_clashesAt_6 ?_
  obtain ⟨v2, q1, h⟩ := bd_inv h
  refine y_V1i (v := v2) (S1 := S) d_K_clashesAt_7 ml_7_75 kd_57 rfl (Nat.le_of_ble_eq_true rfl) (Nat.le_of_ble_eq_true rfl) (c_K_timelyAt (by omega) q1) ?_
  refine x_aload_n d_K_clashesAt_10 rfl 0 rfl ?_
  refine x_iload_n d_K_clashesAt_11 rfl 3 rfl ?_
  obtain ⟨v4, q3, h⟩ := bd_inv h
  refine y_V1i (v := v4) (S1 := S) d_K_clashesAt_12 ml_7_75 kd_57 rfl (Nat.le_of_ble_eq_true rfl) (Nat.le_of_ble_eq_true rfl) (c_K_timelyAt (by omega) q3) ?_
  obtain ⟨v6, q5, h⟩ := bd_inv h
  refine y_V4i (v := v6) (S1 := S) d_K_clashesAt_15 ml_7_100 kd_57 rfl (Nat.le_of_ble_eq_true rfl) (Nat.le_of_ble_eq_true rfl) (c_K_clashesBetween (by omega) q5) ?_
  obtain rfl := Option.some.inj h
  exact x_ret (r := some (.int v6)) d_K_clashesAt_18 ⟨_, rfl, rfl⟩
/-! NinetyPlayers.clash -/
def fN_clash (F G : Nat) (S : St) (p1 : Int32) : Option (Int32 × St) :=
  bd (fN_isBeat F G S p1) fun v2 => if v2 = 0 then some ((-1 : Int32), S) else bd (fN_lookAtKeys F G S ) fun S5 => bd (fK_clashesAt F G S5 (S5.1 57 5) (S5.1 57 6) p1) fun v7 => some (v7, S5)
set_option maxRecDepth 100000 in
set_option maxHeartbeats 4000000 in
theorem c_N_clash {X : Nat × (Nat → Int32)} {D F G : Nat} (hD : 4 ≤ D) {S : St} {p1 : Int32} {res : Int32 × St} (h : fN_clash F G S p1 = some res) : Ek X (D) mN_clash 0 [(0, .ref 0), (1, .int p1)] [] S (some (.int res.1)) res.2 := by
  obtain ⟨D, rfl⟩ : ∃ E, D = E + 1 := ⟨D - 1, by omega⟩
  unfold fN_clash at h
  refine x_aload_n d_N_clash_0 rfl 0 rfl ?_
  refine x_iload_n d_N_clash_1 rfl 1 rfl ?_
  obtain ⟨v2, q1, h⟩ := bd_inv h
  refine y_V1i (v := v2) (S1 := S) d_N_clash_2 ml_0_170 kd_0 rfl (Nat.le_of_ble_eq_true rfl) (Nat.le_of_ble_eq_true rfl) (c_N_isBeat (by omega) q1) ?_
  refine x_if_ne (tgt := 10) d_N_clash_5 rfl (fun c3 => ?_) (fun c3 => ?_)
  · replace h := ite_f c3 h
    refine x_aload_n d_N_clash_10 rfl 0 rfl ?_
    obtain ⟨S5, q4, h⟩ := bd_inv h
    refine y_V0v (S1 := S5) d_N_clash_11 ml_0_176 kd_0 rfl (Nat.le_of_ble_eq_true rfl) (Nat.le_of_ble_eq_true rfl) (c_N_lookAtKeys (by omega) q4) ?_
    refine x_aload_n d_N_clash_14 rfl 0 rfl ?_
    refine y_getR d_N_clash_15 fl_0_57 rfl kd_0 rr_0_7 ?_
    refine x_aload_n d_N_clash_18 rfl 0 rfl ?_
    refine y_getR d_N_clash_19 fl_0_57 rfl kd_0 rr_0_7 ?_
    refine y_getI d_N_clash_22 fl_0_188 rfl kd_57 ?_
    refine x_aload_n d_N_clash_25 rfl 0 rfl ?_
    refine y_getR d_N_clash_26 fl_0_57 rfl kd_0 rr_0_7 ?_
    refine y_getI d_N_clash_29 fl_0_191 rfl kd_57 ?_
    refine x_iload_n d_N_clash_32 rfl 1 rfl ?_
    obtain ⟨v7, q6, h⟩ := bd_inv h
    refine y_V3i (v := v7) (S1 := S5) d_N_clash_33 ml_0_194 kd_57 rfl (Nat.le_of_ble_eq_true rfl) (Nat.le_of_ble_eq_true rfl) (c_K_clashesAt (by omega) q6) ?_
    obtain rfl := Option.some.inj h
    exact x_ret (r := some (.int v7)) d_N_clash_36 ⟨_, rfl, rfl⟩
  · replace h := ite_t c3 h
    refine x_iconst d_N_clash_8 ic_m1 ?_
    obtain rfl := Option.some.inj h
    exact x_ret (r := some (.int (-1 : Int32))) d_N_clash_9 ⟨_, rfl, rfl⟩
/-! NinetyPlayersModel.lowest -/
def b_M_lowest_6 (F G : Nat) (S : St) (z1 : Int32) (rec : Int32 → Int32 → Option (Int32)) (w2 : Int32) (w3 : Int32) : Option (Int32) :=
  if (S.1 78 48) ≤ w3 then some w2 else if ((z1 >>> (w3 &&& 31)) &&& (1 : Int32)) = (1 : Int32) then gd (inB ((10 : Int32) + w3) 41) (if w2 ≤ (S.1 101 ((10 : Int32) + w3).toNatClampNeg) then lt (w3 + 1) fun v7 => rec w2 v7 else gd (inB ((10 : Int32) + w3) 41) (lt (S.1 101 ((10 : Int32) + w3).toNatClampNeg) fun v10 => lt (w3 + 1) fun v12 => rec v10 v12)) else lt (w3 + 1) fun v3 => rec w2 v3
def fM_lowest (F G : Nat) (S : St) (p1 : Int32) : Option (Int32) :=
  fx2 (b_M_lowest_6 F G S p1) F (1000000 : Int32) (0 : Int32)
set_option maxRecDepth 100000 in
set_option maxHeartbeats 4000000 in
theorem T_M_lowest_6 {X : Nat × (Nat → Int32)} {D F G : Nat} (hD : 0 ≤ D) {S : St} {z1 : Int32} : ∀ (f : Nat) (w2 : Int32) (w3 : Int32) (res : Int32), fx2 (b_M_lowest_6 F G S z1 ) f w2 w3 = some res → Ek X (D) mM_lowest 6 [(0, .ref 78), (1, .int z1), (2, .int w2), (3, .int w3)] [] S (some (.int res)) S := by
  refine fx2_ind ?_
  intro rec ih w2 w3 res h
  unfold b_M_lowest_6 at h
  refine x_iload_n d_M_lowest_6 rfl 3 rfl ?_
  refine x_aload_n d_M_lowest_7 rfl 0 rfl ?_
  refine y_getI d_M_lowest_8 fl_11_322 rfl kd_78 ?_
  refine x_icmp_ge (tgt := 52) d_M_lowest_11 rfl (fun c1 => ?_) (fun c1 => ?_)
  · replace h := ite_t c1 h
    refine x_iload_n d_M_lowest_52 rfl 2 rfl ?_
    obtain rfl := Option.some.inj h
    exact x_ret (r := some (.int w2)) d_M_lowest_53 ⟨_, rfl, rfl⟩
  · replace h := ite_f c1 h
    refine x_iload_n d_M_lowest_14 rfl 1 rfl ?_
    refine x_iload_n d_M_lowest_15 rfl 3 rfl ?_
    refine x_ishr d_M_lowest_16 ?_
    refine x_iconst d_M_lowest_17 ic_1 ?_
    refine x_iand d_M_lowest_18 ?_
    refine x_iconst d_M_lowest_19 ic_1 ?_
    refine x_icmp_ne (tgt := 46) d_M_lowest_20 rfl (fun c2 => ?_) (fun c2 => ?_)
    · replace h := ite_f c2 h
      obtain ⟨v3, e4, h⟩ := lt_inv h
      refine y_iinc (L1 := [(0, .ref 78), (1, .int z1), (2, .int w2), (3, .int v3)]) e4 ic_1 d_M_lowest_46 3 rfl (Nat.le_of_ble_eq_true rfl) rfl rfl ?_
      refine x_goto (tgt := 6) d_M_lowest_49 rfl ?_
      exact ih w2 v3 _ h
    · replace h := ite_t c2 h
      refine x_aload_n d_M_lowest_23 rfl 0 rfl ?_
      refine y_getR d_M_lowest_24 fl_11_96 rfl kd_78 rr_78_59 ?_
      refine x_bipush d_M_lowest_27 bp_10 ?_
      refine x_iload_n d_M_lowest_29 rfl 3 rfl ?_
      refine x_iadd d_M_lowest_30 ?_
      obtain ⟨g5, h⟩ := gd_inv h
      refine y_iald d_M_lowest_31 kd_101 g5 ?_
      refine x_iload_n d_M_lowest_32 rfl 2 rfl ?_
      refine x_icmp_ge (tgt := 46) d_M_lowest_33 rfl (fun c6 => ?_) (fun c6 => ?_)
      · replace h := ite_t c6 h
        obtain ⟨v7, e8, h⟩ := lt_inv h
        refine y_iinc (L1 := [(0, .ref 78), (1, .int z1), (2, .int w2), (3, .int v7)]) e8 ic_1 d_M_lowest_46 3 rfl (Nat.le_of_ble_eq_true rfl) rfl rfl ?_
        refine x_goto (tgt := 6) d_M_lowest_49 rfl ?_
        exact ih w2 v7 _ h
      · replace h := ite_f c6 h
        refine x_aload_n d_M_lowest_36 rfl 0 rfl ?_
        refine y_getR d_M_lowest_37 fl_11_96 rfl kd_78 rr_78_59 ?_
        refine x_bipush d_M_lowest_40 bp_10 ?_
        refine x_iload_n d_M_lowest_42 rfl 3 rfl ?_
        refine x_iadd d_M_lowest_43 ?_
        obtain ⟨g9, h⟩ := gd_inv h
        refine y_iald d_M_lowest_44 kd_101 g9 ?_
        obtain ⟨v10, e11, h⟩ := lt_inv h
        refine y_istore_n (L1 := [(0, .ref 78), (1, .int z1), (2, .int v10), (3, .int w3)]) e11 d_M_lowest_45 rfl (Nat.le_of_ble_eq_true rfl) rfl rfl ?_
        obtain ⟨v12, e13, h⟩ := lt_inv h
        refine y_iinc (L1 := [(0, .ref 78), (1, .int z1), (2, .int v10), (3, .int v12)]) e13 ic_1 d_M_lowest_46 3 rfl (Nat.le_of_ble_eq_true rfl) rfl rfl ?_
        refine x_goto (tgt := 6) d_M_lowest_49 rfl ?_
        exact ih v10 v12 _ h
set_option maxRecDepth 100000 in
set_option maxHeartbeats 4000000 in
theorem c_M_lowest {X : Nat × (Nat → Int32)} {D F G : Nat} (hD : 0 ≤ D) {S : St} {p1 : Int32} {res : Int32} (h : fM_lowest F G S p1 = some res) : Ek X (D) mM_lowest 0 [(0, .ref 78), (1, .int p1)] [] S (some (.int res)) S := by
  unfold fM_lowest at h
  refine x_ldcw d_M_lowest_0 kc_11_436 ?_
  refine x_istore_n (L1 := [(0, .ref 78), (1, .int p1), (2, .int (1000000 : Int32))]) d_M_lowest_3 rfl (Nat.le_of_ble_eq_true rfl) rfl rfl ?_
  refine x_iconst d_M_lowest_4 ic_0 ?_
  refine x_istore_n (L1 := [(0, .ref 78), (1, .int p1), (2, .int (1000000 : Int32)), (3, .int (0 : Int32))]) d_M_lowest_5 rfl (Nat.le_of_ble_eq_true rfl) rfl rfl ?_
  refine T_M_lowest_6 (by omega)   F (1000000 : Int32) (0 : Int32) _ h
/-! NinetyPlayersModel.highest -/
def b_M_highest_4 (F G : Nat) (S : St) (z1 : Int32) (rec : Int32 → Int32 → Option (Int32)) (w2 : Int32) (w3 : Int32) : Option (Int32) :=
  if (S.1 78 48) ≤ w3 then some w2 else if ((z1 >>> (w3 &&& 31)) &&& (1 : Int32)) = (1 : Int32) then gd (inB ((10 : Int32) + w3) 41) (if (S.1 101 ((10 : Int32) + w3).toNatClampNeg) ≤ w2 then lt (w3 + 1) fun v7 => rec w2 v7 else gd (inB ((10 : Int32) + w3) 41) (lt (S.1 101 ((10 : Int32) + w3).toNatClampNeg) fun v10 => lt (w3 + 1) fun v12 => rec v10 v12)) else lt (w3 + 1) fun v3 => rec w2 v3
def fM_highest (F G : Nat) (S : St) (p1 : Int32) : Option (Int32) :=
  fx2 (b_M_highest_4 F G S p1) F (-1 : Int32) (0 : Int32)
set_option maxRecDepth 100000 in
set_option maxHeartbeats 4000000 in
theorem T_M_highest_4 {X : Nat × (Nat → Int32)} {D F G : Nat} (hD : 0 ≤ D) {S : St} {z1 : Int32} : ∀ (f : Nat) (w2 : Int32) (w3 : Int32) (res : Int32), fx2 (b_M_highest_4 F G S z1 ) f w2 w3 = some res → Ek X (D) mM_highest 4 [(0, .ref 78), (1, .int z1), (2, .int w2), (3, .int w3)] [] S (some (.int res)) S := by
  refine fx2_ind ?_
  intro rec ih w2 w3 res h
  unfold b_M_highest_4 at h
  refine x_iload_n d_M_highest_4 rfl 3 rfl ?_
  refine x_aload_n d_M_highest_5 rfl 0 rfl ?_
  refine y_getI d_M_highest_6 fl_11_322 rfl kd_78 ?_
  refine x_icmp_ge (tgt := 50) d_M_highest_9 rfl (fun c1 => ?_) (fun c1 => ?_)
  · replace h := ite_t c1 h
    refine x_iload_n d_M_highest_50 rfl 2 rfl ?_
    obtain rfl := Option.some.inj h
    exact x_ret (r := some (.int w2)) d_M_highest_51 ⟨_, rfl, rfl⟩
  · replace h := ite_f c1 h
    refine x_iload_n d_M_highest_12 rfl 1 rfl ?_
    refine x_iload_n d_M_highest_13 rfl 3 rfl ?_
    refine x_ishr d_M_highest_14 ?_
    refine x_iconst d_M_highest_15 ic_1 ?_
    refine x_iand d_M_highest_16 ?_
    refine x_iconst d_M_highest_17 ic_1 ?_
    refine x_icmp_ne (tgt := 44) d_M_highest_18 rfl (fun c2 => ?_) (fun c2 => ?_)
    · replace h := ite_f c2 h
      obtain ⟨v3, e4, h⟩ := lt_inv h
      refine y_iinc (L1 := [(0, .ref 78), (1, .int z1), (2, .int w2), (3, .int v3)]) e4 ic_1 d_M_highest_44 3 rfl (Nat.le_of_ble_eq_true rfl) rfl rfl ?_
      refine x_goto (tgt := 4) d_M_highest_47 rfl ?_
      exact ih w2 v3 _ h
    · replace h := ite_t c2 h
      refine x_aload_n d_M_highest_21 rfl 0 rfl ?_
      refine y_getR d_M_highest_22 fl_11_96 rfl kd_78 rr_78_59 ?_
      refine x_bipush d_M_highest_25 bp_10 ?_
      refine x_iload_n d_M_highest_27 rfl 3 rfl ?_
      refine x_iadd d_M_highest_28 ?_
      obtain ⟨g5, h⟩ := gd_inv h
      refine y_iald d_M_highest_29 kd_101 g5 ?_
      refine x_iload_n d_M_highest_30 rfl 2 rfl ?_
      refine x_icmp_le (tgt := 44) d_M_highest_31 rfl (fun c6 => ?_) (fun c6 => ?_)
      · replace h := ite_t c6 h
        obtain ⟨v7, e8, h⟩ := lt_inv h
        refine y_iinc (L1 := [(0, .ref 78), (1, .int z1), (2, .int w2), (3, .int v7)]) e8 ic_1 d_M_highest_44 3 rfl (Nat.le_of_ble_eq_true rfl) rfl rfl ?_
        refine x_goto (tgt := 4) d_M_highest_47 rfl ?_
        exact ih w2 v7 _ h
      · replace h := ite_f c6 h
        refine x_aload_n d_M_highest_34 rfl 0 rfl ?_
        refine y_getR d_M_highest_35 fl_11_96 rfl kd_78 rr_78_59 ?_
        refine x_bipush d_M_highest_38 bp_10 ?_
        refine x_iload_n d_M_highest_40 rfl 3 rfl ?_
        refine x_iadd d_M_highest_41 ?_
        obtain ⟨g9, h⟩ := gd_inv h
        refine y_iald d_M_highest_42 kd_101 g9 ?_
        obtain ⟨v10, e11, h⟩ := lt_inv h
        refine y_istore_n (L1 := [(0, .ref 78), (1, .int z1), (2, .int v10), (3, .int w3)]) e11 d_M_highest_43 rfl (Nat.le_of_ble_eq_true rfl) rfl rfl ?_
        obtain ⟨v12, e13, h⟩ := lt_inv h
        refine y_iinc (L1 := [(0, .ref 78), (1, .int z1), (2, .int v10), (3, .int v12)]) e13 ic_1 d_M_highest_44 3 rfl (Nat.le_of_ble_eq_true rfl) rfl rfl ?_
        refine x_goto (tgt := 4) d_M_highest_47 rfl ?_
        exact ih v10 v12 _ h
set_option maxRecDepth 100000 in
set_option maxHeartbeats 4000000 in
theorem c_M_highest {X : Nat × (Nat → Int32)} {D F G : Nat} (hD : 0 ≤ D) {S : St} {p1 : Int32} {res : Int32} (h : fM_highest F G S p1 = some res) : Ek X (D) mM_highest 0 [(0, .ref 78), (1, .int p1)] [] S (some (.int res)) S := by
  unfold fM_highest at h
  refine x_iconst d_M_highest_0 ic_m1 ?_
  refine x_istore_n (L1 := [(0, .ref 78), (1, .int p1), (2, .int (-1 : Int32))]) d_M_highest_1 rfl (Nat.le_of_ble_eq_true rfl) rfl rfl ?_
  refine x_iconst d_M_highest_2 ic_0 ?_
  refine x_istore_n (L1 := [(0, .ref 78), (1, .int p1), (2, .int (-1 : Int32)), (3, .int (0 : Int32))]) d_M_highest_3 rfl (Nat.le_of_ble_eq_true rfl) rfl rfl ?_
  refine T_M_highest_4 (by omega)   F (-1 : Int32) (0 : Int32) _ h
/-! NinetyPlayersModel.ownClash -/
def j_M_ownClash_47 (F G : Nat) (S : St) (y2 : Int32) (y5 : Int32) (y6 : Int32) : Option (Int32) :=
  if y2 = 0 then some y5 else bd (fM_lowest F G S y2) fun v14 => bd (fM_plain F G S (y6 - v14)) fun v16 => if v16 ≤ (S.1 78 51) then some y5 else lt (y5 ||| (16 : Int32)) fun v18 => some v18
def j_M_ownClash_19 (F G : Nat) (S : St) (y1 : Int32) (y2 : Int32) (y4 : Int32) (s0 : Int32) : Option (Int32) :=
  bd (fM_lowest F G S y1) fun v6 => bd (fM_highest F G S y1) fun v8 => if (v8 - v6) ≤ y4 then j_M_ownClash_47 F G  S y2 s0 v6 else lt (s0 ||| (2 : Int32)) fun v10 => j_M_ownClash_47 F G  S y2 v10 v6
def fM_ownClash (F G : Nat) (S : St) (p1 : Int32) (p2 : Int32) (p3 : Int32) (p4 : Int32) : Option (Int32) :=
  if p1 = 0 then some (0 : Int32) else bd (fM_members F G S p1) fun v3 => if v3 ≤ p3 then j_M_ownClash_19 F G  S p1 p2 p4 (0 : Int32) else j_M_ownClash_19 F G  S p1 p2 p4 (1 : Int32)
set_option maxRecDepth 100000 in
set_option maxHeartbeats 4000000 in
theorem c_M_ownClash {X : Nat × (Nat → Int32)} {D F G : Nat} (hD : 1 ≤ D) {S : St} {p1 : Int32} {p2 : Int32} {p3 : Int32} {p4 : Int32} {res : Int32} (h : fM_ownClash F G S p1 p2 p3 p4 = some res) : Ek X (D) mM_ownClash 0 [(0, .ref 78), (1, .int p1), (2, .int p2), (3, .int p3), (4, .int p4)] [] S (some (.int res)) S := by
  obtain ⟨D, rfl⟩ : ∃ E, D = E + 1 := ⟨D - 1, by omega⟩
  unfold fM_ownClash at h
  have J47 : ∀ (y2 : Int32) (y5 : Int32) (y6 : Int32) (res : Int32), j_M_ownClash_47 F G S y2 y5 y6 = some res → Ek X (D + 1) mM_ownClash 47 [(0, .ref 78), (2, .int y2), (5, .int y5), (6, .int y6)] [] S (some (.int res)) S := by
    intro y2 y5 y6 res h
    unfold j_M_ownClash_47 at h
    refine x_iload_n d_M_ownClash_47 rfl 1 rfl ?_
    refine x_if_eq (tgt := 76) d_M_ownClash_48 rfl (fun c12 => ?_) (fun c12 => ?_)
    · replace h := ite_t c12 h
      refine x_iload d_M_ownClash_76 2 rfl ?_
      obtain rfl := Option.some.inj h
      exact x_ret (r := some (.int y5)) d_M_ownClash_78 ⟨_, rfl, rfl⟩
    · replace h := ite_f c12 h
      refine x_iload d_M_ownClash_51 3 rfl ?_
      refine x_aload_n d_M_ownClash_53 rfl 0 rfl ?_
      refine x_iload_n d_M_ownClash_54 rfl 1 rfl ?_
      obtain ⟨v14, q13, h⟩ := bd_inv h
      refine y_V1i (v := v14) (S1 := S) d_M_ownClash_55 ml_11_437 kd_78 rfl (Nat.le_of_ble_eq_true rfl) (Nat.le_of_ble_eq_true rfl) (c_M_lowest (by omega) q13) ?_
      refine x_isub d_M_ownClash_58 ?_
      obtain ⟨v16, q15, h⟩ := bd_inv h
      refine y_S1i (v := v16) (S1 := S) d_M_ownClash_59 ml_11_325 (Nat.le_of_ble_eq_true rfl) (Nat.le_of_ble_eq_true rfl) (c_M_plain (by omega) q15) ?_
      refine x_aload_n d_M_ownClash_62 rfl 0 rfl ?_
      refine y_getI d_M_ownClash_63 fl_11_87 rfl kd_78 ?_
      refine x_icmp_le (tgt := 76) d_M_ownClash_66 rfl (fun c17 => ?_) (fun c17 => ?_)
      · replace h := ite_t c17 h
        refine x_iload d_M_ownClash_76 2 rfl ?_
        obtain rfl := Option.some.inj h
        exact x_ret (r := some (.int y5)) d_M_ownClash_78 ⟨_, rfl, rfl⟩
      · replace h := ite_f c17 h
        refine x_iload d_M_ownClash_69 2 rfl ?_
        refine x_bipush d_M_ownClash_71 bp_16 ?_
        refine x_ior d_M_ownClash_73 ?_
        obtain ⟨v18, e19, h⟩ := lt_inv h
        refine y_istore (L1 := [(0, .ref 78), (2, .int y2), (5, .int v18), (6, .int y6)]) e19 d_M_ownClash_74 (Nat.le_of_ble_eq_true rfl) rfl rfl ?_
        refine x_iload d_M_ownClash_76 2 rfl ?_
        obtain rfl := Option.some.inj h
        exact x_ret (r := some (.int v18)) d_M_ownClash_78 ⟨_, rfl, rfl⟩
  have J19 : ∀ (y1 : Int32) (y2 : Int32) (y4 : Int32) (s0 : Int32) (res : Int32), j_M_ownClash_19 F G S y1 y2 y4 s0 = some res → Ek X (D + 1) mM_ownClash 19 [(0, .ref 78), (1, .int y1), (2, .int y2), (4, .int y4)] [.int s0] S (some (.int res)) S := by
    intro y1 y2 y4 s0 res h
    unfold j_M_ownClash_19 at h
    refine x_istore (L1 := [(0, .ref 78), (1, .int y1), (2, .int y2), (4, .int y4), (5, .int s0)]) d_M_ownClash_19 (Nat.le_of_ble_eq_true rfl) rfl rfl ?_
    refine x_aload_n d_M_ownClash_21 rfl 0 rfl ?_
    refine x_iload_n d_M_ownClash_22 rfl 1 rfl ?_
    obtain ⟨v6, q5, h⟩ := bd_inv h
    refine y_V1i (v := v6) (S1 := S) d_M_ownClash_23 ml_11_437 kd_78 rfl (Nat.le_of_ble_eq_true rfl) (Nat.le_of_ble_eq_true rfl) (c_M_lowest (by omega) q5) ?_
    refine x_istore (L1 := [(0, .ref 78), (1, .int y1), (2, .int y2), (4, .int y4), (5, .int s0), (6, .int v6)]) d_M_ownClash_26 (Nat.le_of_ble_eq_true rfl) rfl rfl ?_
    refine x_aload_n d_M_ownClash_28 rfl 0 rfl ?_
    refine x_iload_n d_M_ownClash_29 rfl 1 rfl ?_
    obtain ⟨v8, q7, h⟩ := bd_inv h
    refine y_V1i (v := v8) (S1 := S) d_M_ownClash_30 ml_11_440 kd_78 rfl (Nat.le_of_ble_eq_true rfl) (Nat.le_of_ble_eq_true rfl) (c_M_highest (by omega) q7) ?_
    refine x_iload d_M_ownClash_33 5 rfl ?_
    refine x_isub d_M_ownClash_35 ?_
    refine x_iload d_M_ownClash_36 3 rfl ?_
    refine x_icmp_le (tgt := 47) d_M_ownClash_38 rfl (fun c9 => ?_) (fun c9 => ?_)
    · replace h := ite_t c9 h
      refine y_pick (L1 := [(0, .ref 78), (2, .int y2), (5, .int s0), (6, .int v6)]) [0, 2, 4, 5] rfl ?_
      exact J47 y2 s0 v6 _ h
    · replace h := ite_f c9 h
      refine x_iload d_M_ownClash_41 4 rfl ?_
      refine x_iconst d_M_ownClash_43 ic_2 ?_
      refine x_ior d_M_ownClash_44 ?_
      obtain ⟨v10, e11, h⟩ := lt_inv h
      refine y_istore (L1 := [(0, .ref 78), (1, .int y1), (2, .int y2), (4, .int y4), (5, .int v10), (6, .int v6)]) e11 d_M_ownClash_45 (Nat.le_of_ble_eq_true rfl) rfl rfl ?_
      refine y_pick (L1 := [(0, .ref 78), (2, .int y2), (5, .int v10), (6, .int v6)]) [0, 2, 4, 5] rfl ?_
      exact J47 y2 v10 v6 _ h
  refine x_iload_n d_M_ownClash_0 rfl 1 rfl ?_
  refine x_if_ne (tgt := 6) d_M_ownClash_1 rfl (fun c1 => ?_) (fun c1 => ?_)
  · replace h := ite_f c1 h
    refine x_iload_n d_M_ownClash_6 rfl 1 rfl ?_
    obtain ⟨v3, q2, h⟩ := bd_inv h
    refine y_S1i (v := v3) (S1 := S) d_M_ownClash_7 ml_11_331 (Nat.le_of_ble_eq_true rfl) (Nat.le_of_ble_eq_true rfl) (c_M_members (by omega) q2) ?_
    refine x_iload_n d_M_ownClash_10 rfl 3 rfl ?_
    refine x_icmp_le (tgt := 18) d_M_ownClash_11 rfl (fun c4 => ?_) (fun c4 => ?_)
    · replace h := ite_t c4 h
      refine x_iconst d_M_ownClash_18 ic_0 ?_
      refine y_pick (L1 := [(0, .ref 78), (1, .int p1), (2, .int p2), (4, .int p4)]) [0, 1, 2, 4] rfl ?_
      exact J19 p1 p2 p4 (0 : Int32) _ h
    · replace h := ite_f c4 h
      refine x_iconst d_M_ownClash_14 ic_1 ?_
      refine x_goto (tgt := 19) d_M_ownClash_15 rfl ?_
      refine y_pick (L1 := [(0, .ref 78), (1, .int p1), (2, .int p2), (4, .int p4)]) [0, 1, 2, 4] rfl ?_
      exact J19 p1 p2 p4 (1 : Int32) _ h
  · replace h := ite_t c1 h
    refine x_iconst d_M_ownClash_4 ic_0 ?_
    obtain rfl := Option.some.inj h
    exact x_ret (r := some (.int (0 : Int32))) d_M_ownClash_5 ⟨_, rfl, rfl⟩
/-! NinetyPlayersModel.hasTwins -/
def b_M_hasTwins_30 (F G : Nat) (S : St) (z1 : Int32) (z3 : Int32) (k84 : Int32 → Option (Int32)) (rec : Int32 → Int32 → Option (Int32)) (w2 : Int32) (w4 : Int32) : Option (Int32) :=
  if z3 ≤ w4 then k84 w2 else if w2 = 0 then if ((z1 >>> (w4 &&& 31)) &&& (1 : Int32)) = (1 : Int32) then gd (inB ((10 : Int32) + z3) 41) (gd (inB ((10 : Int32) + w4) 41) (if (S.1 101 ((10 : Int32) + z3).toNatClampNeg) = (S.1 101 ((10 : Int32) + w4).toNatClampNeg) then lt (w4 + 1) fun v18 => rec (1 : Int32) v18 else lt (w4 + 1) fun v16 => rec (0 : Int32) v16)) else lt (w4 + 1) fun v11 => rec (0 : Int32) v11 else lt (w4 + 1) fun v8 => rec (1 : Int32) v8
def b_M_hasTwins_4 (F G : Nat) (S : St) (z1 : Int32) (rec : Int32 → Int32 → Option (Int32)) (w2 : Int32) (w3 : Int32) : Option (Int32) :=
  if (S.1 78 48) ≤ w3 then gd (isB w2) (some w2) else if w2 = 0 then if ((z1 >>> (w3 &&& 31)) &&& (1 : Int32)) = 0 then lt (w3 + 1) fun v23 => rec w2 v23 else fx2 (b_M_hasTwins_30 F G S z1 w3 (fun v20 => lt (w3 + 1) fun v21 => rec v20 v21)) F w2 (0 : Int32) else gd (isB w2) (some w2)
def fM_hasTwins (F G : Nat) (S : St) (p1 : Int32) : Option (Int32) :=
  fx2 (b_M_hasTwins_4 F G S p1) F (0 : Int32) (0 : Int32)
set_option maxRecDepth 100000 in
set_option maxHeartbeats 4000000 in
theorem T_M_hasTwins_30 {X : Nat × (Nat → Int32)} {D F G : Nat} (hD : 0 ≤ D) {S : St} {z1 : Int32} {z3 : Int32} {k84 : Int32 → Option (Int32)} (hk84 : ∀ (u2 : Int32) (res : Int32), k84 u2 = some res → Ek X (D) mM_hasTwins 84 [(0, .ref 78), (1, .int z1), (2, .int u2), (3, .int z3)] [] S (some (.int res)) S) : ∀ (f : Nat) (w2 : Int32) (w4 : Int32) (res : Int32), fx2 (b_M_hasTwins_30 F G S z1 z3 k84 ) f w2 w4 = some res → Ek X (D) mM_hasTwins 30 [(0, .ref 78), (1, .int z1), (2, .int w2), (3, .int z3), (4, .int w4)] [] S (some (.int res)) S := by
  refine fx2_ind ?_
  intro rec ih w2 w4 res h
  unfold b_M_hasTwins_30 at h
  refine x_iload d_M_hasTwins_30 4 rfl ?_
  refine x_iload_n d_M_hasTwins_32 rfl 3 rfl ?_
  refine x_icmp_ge (tgt := 84) d_M_hasTwins_33 rfl (fun c6 => ?_) (fun c6 => ?_)
  · replace h := ite_t c6 h
    refine y_pick (L1 := [(0, .ref 78), (1, .int z1), (2, .int w2), (3, .int z3)]) [0, 1, 2, 3] rfl ?_
    exact hk84 w2 _ h
  · replace h := ite_f c6 h
    refine x_iload_n d_M_hasTwins_36 rfl 2 rfl ?_
    refine x_if_ne (tgt := 72) d_M_hasTwins_37 rfl (fun c7 => ?_) (fun c7 => ?_)
    · replace h := ite_f c7 h
      refine x_iconst d_M_hasTwins_72 ic_1 ?_
      refine x_goto (tgt := 77) d_M_hasTwins_73 rfl ?_
      refine x_istore_n (L1 := [(0, .ref 78), (1, .int z1), (2, .int (1 : Int32)), (3, .int z3), (4, .int w4)]) d_M_hasTwins_77 rfl (Nat.le_of_ble_eq_true rfl) rfl rfl ?_
      obtain ⟨v8, e9, h⟩ := lt_inv h
      refine y_iinc (L1 := [(0, .ref 78), (1, .int z1), (2, .int (1 : Int32)), (3, .int z3), (4, .int v8)]) e9 ic_1 d_M_hasTwins_78 4 rfl (Nat.le_of_ble_eq_true rfl) rfl rfl ?_
      refine x_goto (tgt := 30) d_M_hasTwins_81 rfl ?_
      exact ih (1 : Int32) v8 _ h
    · replace h := ite_t c7 h
      refine x_iload_n d_M_hasTwins_40 rfl 1 rfl ?_
      refine x_iload d_M_hasTwins_41 4 rfl ?_
      refine x_ishr d_M_hasTwins_43 ?_
      refine x_iconst d_M_hasTwins_44 ic_1 ?_
      refine x_iand d_M_hasTwins_45 ?_
      refine x_iconst d_M_hasTwins_46 ic_1 ?_
      refine x_icmp_ne (tgt := 76) d_M_hasTwins_47 rfl (fun c10 => ?_) (fun c10 => ?_)
      · replace h := ite_f c10 h
        refine x_iconst d_M_hasTwins_76 ic_0 ?_
        refine x_istore_n (L1 := [(0, .ref 78), (1, .int z1), (2, .int (0 : Int32)), (3, .int z3), (4, .int w4)]) d_M_hasTwins_77 rfl (Nat.le_of_ble_eq_true rfl) rfl rfl ?_
        obtain ⟨v11, e12, h⟩ := lt_inv h
        refine y_iinc (L1 := [(0, .ref 78), (1, .int z1), (2, .int (0 : Int32)), (3, .int z3), (4, .int v11)]) e12 ic_1 d_M_hasTwins_78 4 rfl (Nat.le_of_ble_eq_true rfl) rfl rfl ?_
        refine x_goto (tgt := 30) d_M_hasTwins_81 rfl ?_
        exact ih (0 : Int32) v11 _ h
      · replace h := ite_t c10 h
        refine x_aload_n d_M_hasTwins_50 rfl 0 rfl ?_
        refine y_getR d_M_hasTwins_51 fl_11_96 rfl kd_78 rr_78_59 ?_
        refine x_bipush d_M_hasTwins_54 bp_10 ?_
        refine x_iload_n d_M_hasTwins_56 rfl 3 rfl ?_
        refine x_iadd d_M_hasTwins_57 ?_
        obtain ⟨g13, h⟩ := gd_inv h
        refine y_iald d_M_hasTwins_58 kd_101 g13 ?_
        refine x_aload_n d_M_hasTwins_59 rfl 0 rfl ?_
        refine y_getR d_M_hasTwins_60 fl_11_96 rfl kd_78 rr_78_59 ?_
        refine x_bipush d_M_hasTwins_63 bp_10 ?_
        refine x_iload d_M_hasTwins_65 4 rfl ?_
        refine x_iadd d_M_hasTwins_67 ?_
        obtain ⟨g14, h⟩ := gd_inv h
        refine y_iald d_M_hasTwins_68 kd_101 g14 ?_
        refine x_icmp_ne (tgt := 76) d_M_hasTwins_69 rfl (fun c15 => ?_) (fun c15 => ?_)
        · replace h := ite_f c15 h
          refine x_iconst d_M_hasTwins_76 ic_0 ?_
          refine x_istore_n (L1 := [(0, .ref 78), (1, .int z1), (2, .int (0 : Int32)), (3, .int z3), (4, .int w4)]) d_M_hasTwins_77 rfl (Nat.le_of_ble_eq_true rfl) rfl rfl ?_
          obtain ⟨v16, e17, h⟩ := lt_inv h
          refine y_iinc (L1 := [(0, .ref 78), (1, .int z1), (2, .int (0 : Int32)), (3, .int z3), (4, .int v16)]) e17 ic_1 d_M_hasTwins_78 4 rfl (Nat.le_of_ble_eq_true rfl) rfl rfl ?_
          refine x_goto (tgt := 30) d_M_hasTwins_81 rfl ?_
          exact ih (0 : Int32) v16 _ h
        · replace h := ite_t c15 h
          refine x_iconst d_M_hasTwins_72 ic_1 ?_
          refine x_goto (tgt := 77) d_M_hasTwins_73 rfl ?_
          refine x_istore_n (L1 := [(0, .ref 78), (1, .int z1), (2, .int (1 : Int32)), (3, .int z3), (4, .int w4)]) d_M_hasTwins_77 rfl (Nat.le_of_ble_eq_true rfl) rfl rfl ?_
          obtain ⟨v18, e19, h⟩ := lt_inv h
          refine y_iinc (L1 := [(0, .ref 78), (1, .int z1), (2, .int (1 : Int32)), (3, .int z3), (4, .int v18)]) e19 ic_1 d_M_hasTwins_78 4 rfl (Nat.le_of_ble_eq_true rfl) rfl rfl ?_
          refine x_goto (tgt := 30) d_M_hasTwins_81 rfl ?_
          exact ih (1 : Int32) v18 _ h
set_option maxRecDepth 100000 in
set_option maxHeartbeats 4000000 in
theorem T_M_hasTwins_4 {X : Nat × (Nat → Int32)} {D F G : Nat} (hD : 0 ≤ D) {S : St} {z1 : Int32} : ∀ (f : Nat) (w2 : Int32) (w3 : Int32) (res : Int32), fx2 (b_M_hasTwins_4 F G S z1 ) f w2 w3 = some res → Ek X (D) mM_hasTwins 4 [(0, .ref 78), (1, .int z1), (2, .int w2), (3, .int w3)] [] S (some (.int res)) S := by
  refine fx2_ind ?_
  intro rec ih w2 w3 res h
  unfold b_M_hasTwins_4 at h
  refine x_iload_n d_M_hasTwins_4 rfl 3 rfl ?_
  refine x_aload_n d_M_hasTwins_5 rfl 0 rfl ?_
  refine y_getI d_M_hasTwins_6 fl_11_322 rfl kd_78 ?_
  refine x_icmp_ge (tgt := 90) d_M_hasTwins_9 rfl (fun c1 => ?_) (fun c1 => ?_)
  · replace h := ite_t c1 h
    refine x_iload_n d_M_hasTwins_90 rfl 2 rfl ?_
    obtain ⟨g2, h⟩ := gd_inv h
    obtain rfl := Option.some.inj h
    exact x_ret (r := some (.int w2)) d_M_hasTwins_91 ⟨_, rfl, isB_nar g2⟩
  · replace h := ite_f c1 h
    refine x_iload_n d_M_hasTwins_12 rfl 2 rfl ?_
    refine x_if_ne (tgt := 90) d_M_hasTwins_13 rfl (fun c3 => ?_) (fun c3 => ?_)
    · replace h := ite_f c3 h
      refine x_iload_n d_M_hasTwins_90 rfl 2 rfl ?_
      obtain ⟨g4, h⟩ := gd_inv h
      obtain rfl := Option.some.inj h
      exact x_ret (r := some (.int w2)) d_M_hasTwins_91 ⟨_, rfl, isB_nar g4⟩
    · replace h := ite_t c3 h
      refine x_iload_n d_M_hasTwins_16 rfl 1 rfl ?_
      refine x_iload_n d_M_hasTwins_17 rfl 3 rfl ?_
      refine x_ishr d_M_hasTwins_18 ?_
      refine x_iconst d_M_hasTwins_19 ic_1 ?_
      refine x_iand d_M_hasTwins_20 ?_
      refine x_if_ne (tgt := 27) d_M_hasTwins_21 rfl (fun c5 => ?_) (fun c5 => ?_)
      · replace h := ite_f c5 h
        refine x_iconst d_M_hasTwins_27 ic_0 ?_
        refine x_istore (L1 := [(0, .ref 78), (1, .int z1), (2, .int w2), (3, .int w3), (4, .int (0 : Int32))]) d_M_hasTwins_28 (Nat.le_of_ble_eq_true rfl) rfl rfl ?_
        refine T_M_hasTwins_30 (by omega)  ?_ F w2 (0 : Int32) _ h
        · intro v20 res h
          obtain ⟨v21, e22, h⟩ := lt_inv h
          refine y_iinc (L1 := [(0, .ref 78), (1, .int z1), (2, .int v20), (3, .int v21)]) e22 ic_1 d_M_hasTwins_84 3 rfl (Nat.le_of_ble_eq_true rfl) rfl rfl ?_
          refine x_goto (tgt := 4) d_M_hasTwins_87 rfl ?_
          exact ih v20 v21 _ h
      · replace h := ite_t c5 h
        refine x_goto (tgt := 84) d_M_hasTwins_24 rfl ?_
        obtain ⟨v23, e24, h⟩ := lt_inv h
        refine y_iinc (L1 := [(0, .ref 78), (1, .int z1), (2, .int w2), (3, .int v23)]) e24 ic_1 d_M_hasTwins_84 3 rfl (Nat.le_of_ble_eq_true rfl) rfl rfl ?_
        refine x_goto (tgt := 4) d_M_hasTwins_87 rfl ?_
        exact ih w2 v23 _ h
set_option maxRecDepth 100000 in
set_option maxHeartbeats 4000000 in
theorem c_M_hasTwins {X : Nat × (Nat → Int32)} {D F G : Nat} (hD : 0 ≤ D) {S : St} {p1 : Int32} {res : Int32} (h : fM_hasTwins F G S p1 = some res) : Ek X (D) mM_hasTwins 0 [(0, .ref 78), (1, .int p1)] [] S (some (.int res)) S := by
  unfold fM_hasTwins at h
  refine x_iconst d_M_hasTwins_0 ic_0 ?_
  refine x_istore_n (L1 := [(0, .ref 78), (1, .int p1), (2, .int (0 : Int32))]) d_M_hasTwins_1 rfl (Nat.le_of_ble_eq_true rfl) rfl rfl ?_
  refine x_iconst d_M_hasTwins_2 ic_0 ?_
  refine x_istore_n (L1 := [(0, .ref 78), (1, .int p1), (2, .int (0 : Int32)), (3, .int (0 : Int32))]) d_M_hasTwins_3 rfl (Nat.le_of_ble_eq_true rfl) rfl rfl ?_
  refine T_M_hasTwins_4 (by omega)   F (0 : Int32) (0 : Int32) _ h
/-! NinetyPlayersModel.clashBy -/
def j_M_clashBy_100 (F G : Nat) (S : St) (y6 : Int32) (y7 : Int32) (y9 : Int32) : Option (Int32) :=
  bd (fM_hasTwins F G S (y6 ||| y7)) fun v25 => if v25 = 0 then some y9 else some (y9 ||| (8 : Int32))
def j_M_clashBy_36 (F G : Nat) (S : St) (y2 : Int32) (y3 : Int32) (y4 : Int32) (y5 : Int32) (y6 : Int32) (y7 : Int32) (s0 : Int32) : Option (Int32) :=
  bd (fM_ownClash F G S y6 (y2 &&& s0) y4 y5) fun v10 => bd (fM_ownClash F G S y7 (y3 &&& s0) y4 y5) fun v12 => lt (v10 ||| v12) fun v13 => if y6 = 0 then j_M_clashBy_100 F G  S y6 y7 v13 else if y7 = 0 then j_M_clashBy_100 F G  S y6 y7 v13 else bd (fM_highest F G S y6) fun v18 => bd (fM_lowest F G S y7) fun v20 => if v18 < v20 then j_M_clashBy_100 F G  S y6 y7 v13 else lt (v13 ||| (4 : Int32)) fun v22 => j_M_clashBy_100 F G  S y6 y7 v22
def fM_clashBy (F G : Nat) (S : St) (p1 : Int32) (p2 : Int32) (p3 : Int32) (p4 : Int32) (p5 : Int32) : Option (Int32) :=
  gd (inB p1 12) (lt (p2 &&& (S.1 102 p1.toNatClampNeg)) fun v2 => gd (inB p1 12) (lt (p3 &&& (S.1 102 p1.toNatClampNeg)) fun v5 => if p1 = 0 then j_M_clashBy_36 F G  S p2 p3 p4 p5 v2 v5 (0 : Int32) else gd (inB (p1 - (1 : Int32)) 12) (j_M_clashBy_36 F G  S p2 p3 p4 p5 v2 v5 (S.1 102 (p1 - (1 : Int32)).toNatClampNeg))))
set_option maxRecDepth 100000 in
set_option maxHeartbeats 4000000 in
theorem c_M_clashBy {X : Nat × (Nat → Int32)} {D F G : Nat} (hD : 2 ≤ D) {S : St} {p1 : Int32} {p2 : Int32} {p3 : Int32} {p4 : Int32} {p5 : Int32} {res : Int32} (h : fM_clashBy F G S p1 p2 p3 p4 p5 = some res) : Ek X (D) mM_clashBy 0 [(0, .ref 78), (1, .int p1), (2, .int p2), (3, .int p3), (4, .int p4), (5, .int p5)] [] S (some (.int res)) S := by
  obtain ⟨D, rfl⟩ : ∃ E, D = E + 1 := ⟨D - 1, by omega⟩
  unfold fM_clashBy at h
  have J100 : ∀ (y6 : Int32) (y7 : Int32) (y9 : Int32) (res : Int32), j_M_clashBy_100 F G S y6 y7 y9 = some res → Ek X (D + 1) mM_clashBy 100 [(0, .ref 78), (6, .int y6), (7, .int y7), (9, .int y9)] [] S (some (.int res)) S := by
    intro y6 y7 y9 res h
    unfold j_M_clashBy_100 at h
    refine x_aload_n d_M_clashBy_100 rfl 0 rfl ?_
    refine x_iload d_M_clashBy_101 1 rfl ?_
    refine x_iload d_M_clashBy_103 2 rfl ?_
    refine x_ior d_M_clashBy_105 ?_
    obtain ⟨v25, q24, h⟩ := bd_inv h
    refine y_V1i (v := v25) (S1 := S) d_M_clashBy_106 ml_11_447 kd_78 rfl (Nat.le_of_ble_eq_true rfl) (Nat.le_of_ble_eq_true rfl) (c_M_hasTwins (by omega) q24) ?_
    refine x_if_eq (tgt := 120) d_M_clashBy_109 rfl (fun c26 => ?_) (fun c26 => ?_)
    · replace h := ite_t c26 h
      refine x_iload d_M_clashBy_120 3 rfl ?_
      obtain rfl := Option.some.inj h
      exact x_ret (r := some (.int y9)) d_M_clashBy_122 ⟨_, rfl, rfl⟩
    · replace h := ite_f c26 h
      refine x_iload d_M_clashBy_112 3 rfl ?_
      refine x_bipush d_M_clashBy_114 bp_8 ?_
      refine x_ior d_M_clashBy_116 ?_
      refine x_goto (tgt := 122) d_M_clashBy_117 rfl ?_
      obtain rfl := Option.some.inj h
      exact x_ret (r := some (.int (y9 ||| (8 : Int32)))) d_M_clashBy_122 ⟨_, rfl, rfl⟩
  have J36 : ∀ (y2 : Int32) (y3 : Int32) (y4 : Int32) (y5 : Int32) (y6 : Int32) (y7 : Int32) (s0 : Int32) (res : Int32), j_M_clashBy_36 F G S y2 y3 y4 y5 y6 y7 s0 = some res → Ek X (D + 1) mM_clashBy 36 [(0, .ref 78), (2, .int y2), (3, .int y3), (4, .int y4), (5, .int y5), (6, .int y6), (7, .int y7)] [.int s0] S (some (.int res)) S := by
    intro y2 y3 y4 y5 y6 y7 s0 res h
    unfold j_M_clashBy_36 at h
    refine x_istore (L1 := [(0, .ref 78), (2, .int y2), (3, .int y3), (4, .int y4), (5, .int y5), (6, .int y6), (7, .int y7), (8, .int s0)]) d_M_clashBy_36 (Nat.le_of_ble_eq_true rfl) rfl rfl ?_
    refine x_aload_n d_M_clashBy_38 rfl 0 rfl ?_
    refine x_iload d_M_clashBy_39 5 rfl ?_
    refine x_iload_n d_M_clashBy_41 rfl 1 rfl ?_
    refine x_iload d_M_clashBy_42 7 rfl ?_
    refine x_iand d_M_clashBy_44 ?_
    refine x_iload d_M_clashBy_45 3 rfl ?_
    refine x_iload d_M_clashBy_47 4 rfl ?_
    obtain ⟨v10, q9, h⟩ := bd_inv h
    refine y_V4i (v := v10) (S1 := S) d_M_clashBy_49 ml_11_443 kd_78 rfl (Nat.le_of_ble_eq_true rfl) (Nat.le_of_ble_eq_true rfl) (c_M_ownClash (by omega) q9) ?_
    refine x_aload_n d_M_clashBy_52 rfl 0 rfl ?_
    refine x_iload d_M_clashBy_53 6 rfl ?_
    refine x_iload_n d_M_clashBy_55 rfl 2 rfl ?_
    refine x_iload d_M_clashBy_56 7 rfl ?_
    refine x_iand d_M_clashBy_58 ?_
    refine x_iload d_M_clashBy_59 3 rfl ?_
    refine x_iload d_M_clashBy_61 4 rfl ?_
    obtain ⟨v12, q11, h⟩ := bd_inv h
    refine y_V4i (v := v12) (S1 := S) d_M_clashBy_63 ml_11_443 kd_78 rfl (Nat.le_of_ble_eq_true rfl) (Nat.le_of_ble_eq_true rfl) (c_M_ownClash (by omega) q11) ?_
    refine x_ior d_M_clashBy_66 ?_
    obtain ⟨v13, e14, h⟩ := lt_inv h
    refine y_istore (L1 := [(0, .ref 78), (2, .int y2), (3, .int y3), (4, .int y4), (5, .int y5), (6, .int y6), (7, .int y7), (8, .int s0), (9, .int v13)]) e14 d_M_clashBy_67 (Nat.le_of_ble_eq_true rfl) rfl rfl ?_
    refine x_iload d_M_clashBy_69 5 rfl ?_
    refine x_if_eq (tgt := 100) d_M_clashBy_71 rfl (fun c15 => ?_) (fun c15 => ?_)
    · replace h := ite_t c15 h
      refine y_pick (L1 := [(0, .ref 78), (6, .int y6), (7, .int y7), (9, .int v13)]) [0, 5, 6, 8] rfl ?_
      exact J100 y6 y7 v13 _ h
    · replace h := ite_f c15 h
      refine x_iload d_M_clashBy_74 6 rfl ?_
      refine x_if_eq (tgt := 100) d_M_clashBy_76 rfl (fun c16 => ?_) (fun c16 => ?_)
      · replace h := ite_t c16 h
        refine y_pick (L1 := [(0, .ref 78), (6, .int y6), (7, .int y7), (9, .int v13)]) [0, 5, 6, 8] rfl ?_
        exact J100 y6 y7 v13 _ h
      · replace h := ite_f c16 h
        refine x_aload_n d_M_clashBy_79 rfl 0 rfl ?_
        refine x_iload d_M_clashBy_80 5 rfl ?_
        obtain ⟨v18, q17, h⟩ := bd_inv h
        refine y_V1i (v := v18) (S1 := S) d_M_clashBy_82 ml_11_440 kd_78 rfl (Nat.le_of_ble_eq_true rfl) (Nat.le_of_ble_eq_true rfl) (c_M_highest (by omega) q17) ?_
        refine x_aload_n d_M_clashBy_85 rfl 0 rfl ?_
        refine x_iload d_M_clashBy_86 6 rfl ?_
        obtain ⟨v20, q19, h⟩ := bd_inv h
        refine y_V1i (v := v20) (S1 := S) d_M_clashBy_88 ml_11_437 kd_78 rfl (Nat.le_of_ble_eq_true rfl) (Nat.le_of_ble_eq_true rfl) (c_M_lowest (by omega) q19) ?_
        refine x_icmp_lt (tgt := 100) d_M_clashBy_91 rfl (fun c21 => ?_) (fun c21 => ?_)
        · replace h := ite_t c21 h
          refine y_pick (L1 := [(0, .ref 78), (6, .int y6), (7, .int y7), (9, .int v13)]) [0, 5, 6, 8] rfl ?_
          exact J100 y6 y7 v13 _ h
        · replace h := ite_f c21 h
          refine x_iload d_M_clashBy_94 8 rfl ?_
          refine x_iconst d_M_clashBy_96 ic_4 ?_
          refine x_ior d_M_clashBy_97 ?_
          obtain ⟨v22, e23, h⟩ := lt_inv h
          refine y_istore (L1 := [(0, .ref 78), (2, .int y2), (3, .int y3), (4, .int y4), (5, .int y5), (6, .int y6), (7, .int y7), (8, .int s0), (9, .int v22)]) e23 d_M_clashBy_98 (Nat.le_of_ble_eq_true rfl) rfl rfl ?_
          refine y_pick (L1 := [(0, .ref 78), (6, .int y6), (7, .int y7), (9, .int v22)]) [0, 5, 6, 8] rfl ?_
          exact J100 y6 y7 v22 _ h
  refine x_iload_n d_M_clashBy_0 rfl 2 rfl ?_
  refine x_aload_n d_M_clashBy_1 rfl 0 rfl ?_
  refine y_getR d_M_clashBy_2 fl_11_99 rfl kd_78 rr_78_60 ?_
  refine x_iload_n d_M_clashBy_5 rfl 1 rfl ?_
  obtain ⟨g1, h⟩ := gd_inv h
  refine y_iald d_M_clashBy_6 kd_102 g1 ?_
  refine x_iand d_M_clashBy_7 ?_
  obtain ⟨v2, e3, h⟩ := lt_inv h
  refine y_istore (L1 := [(0, .ref 78), (1, .int p1), (2, .int p2), (3, .int p3), (4, .int p4), (5, .int p5), (6, .int v2)]) e3 d_M_clashBy_8 (Nat.le_of_ble_eq_true rfl) rfl rfl ?_
  refine x_iload_n d_M_clashBy_10 rfl 3 rfl ?_
  refine x_aload_n d_M_clashBy_11 rfl 0 rfl ?_
  refine y_getR d_M_clashBy_12 fl_11_99 rfl kd_78 rr_78_60 ?_
  refine x_iload_n d_M_clashBy_15 rfl 1 rfl ?_
  obtain ⟨g4, h⟩ := gd_inv h
  refine y_iald d_M_clashBy_16 kd_102 g4 ?_
  refine x_iand d_M_clashBy_17 ?_
  obtain ⟨v5, e6, h⟩ := lt_inv h
  refine y_istore (L1 := [(0, .ref 78), (1, .int p1), (2, .int p2), (3, .int p3), (4, .int p4), (5, .int p5), (6, .int v2), (7, .int v5)]) e6 d_M_clashBy_18 (Nat.le_of_ble_eq_true rfl) rfl rfl ?_
  refine x_iload_n d_M_clashBy_20 rfl 1 rfl ?_
  refine x_if_ne (tgt := 28) d_M_clashBy_21 rfl (fun c7 => ?_) (fun c7 => ?_)
  · replace h := ite_f c7 h
    refine x_aload_n d_M_clashBy_28 rfl 0 rfl ?_
    refine y_getR d_M_clashBy_29 fl_11_99 rfl kd_78 rr_78_60 ?_
    refine x_iload_n d_M_clashBy_32 rfl 1 rfl ?_
    refine x_iconst d_M_clashBy_33 ic_1 ?_
    refine x_isub d_M_clashBy_34 ?_
    obtain ⟨g8, h⟩ := gd_inv h
    refine y_iald d_M_clashBy_35 kd_102 g8 ?_
    refine y_pick (L1 := [(0, .ref 78), (2, .int p2), (3, .int p3), (4, .int p4), (5, .int p5), (6, .int v2), (7, .int v5)]) [0, 2, 3, 4, 5, 6, 7] rfl ?_
    exact J36 p2 p3 p4 p5 v2 v5 (S.1 102 (p1 - (1 : Int32)).toNatClampNeg) _ h
  · replace h := ite_t c7 h
    refine x_iconst d_M_clashBy_24 ic_0 ?_
    refine x_goto (tgt := 36) d_M_clashBy_25 rfl ?_
    refine y_pick (L1 := [(0, .ref 78), (2, .int p2), (3, .int p3), (4, .int p4), (5, .int p5), (6, .int v2), (7, .int v5)]) [0, 2, 3, 4, 5, 6, 7] rfl ?_
    exact J36 p2 p3 p4 p5 v2 v5 (0 : Int32) _ h
/-! NinetyPlayersModel.clash -/
def fM_clash (F G : Nat) (S : St) (p1 : Int32) : Option (Int32 × St) :=
  bd (fM_fill F G S ) fun S2 => bd (fM_isBeat F G S2 p1) fun v4 => if v4 = 0 then some ((-1 : Int32), S2) else bd (fM_given F G S2 (1 : Int32)) fun v7 => bd (fM_given F G S2 (2 : Int32)) fun v9 => bd (fM_clashBy F G S2 p1 v7 v9 (S2.1 78 50) (S2.1 78 49)) fun v11 => some (v11, S2)
set_option maxRecDepth 100000 in
set_option maxHeartbeats 4000000 in
theorem c_M_clash {X : Nat × (Nat → Int32)} {D F G : Nat} (hD : 3 ≤ D) {S : St} {p1 : Int32} {res : Int32 × St} (h : fM_clash F G S p1 = some res) : Ek X (D) mM_clash 0 [(0, .ref 78), (1, .int p1)] [] S (some (.int res.1)) res.2 := by
  obtain ⟨D, rfl⟩ : ∃ E, D = E + 1 := ⟨D - 1, by omega⟩
  unfold fM_clash at h
  refine x_aload_n d_M_clash_0 rfl 0 rfl ?_
  obtain ⟨S2, q1, h⟩ := bd_inv h
  refine y_V0v (S1 := S2) d_M_clash_1 ml_11_464 kd_78 rfl (Nat.le_of_ble_eq_true rfl) (Nat.le_of_ble_eq_true rfl) (c_M_fill (by omega) q1) ?_
  refine x_aload_n d_M_clash_4 rfl 0 rfl ?_
  refine x_iload_n d_M_clash_5 rfl 1 rfl ?_
  obtain ⟨v4, q3, h⟩ := bd_inv h
  refine y_V1i (v := v4) (S1 := S2) d_M_clash_6 ml_11_473 kd_78 rfl (Nat.le_of_ble_eq_true rfl) (Nat.le_of_ble_eq_true rfl) (c_M_isBeat (by omega) q3) ?_
  refine x_if_eq (tgt := 38) d_M_clash_9 rfl (fun c5 => ?_) (fun c5 => ?_)
  · replace h := ite_t c5 h
    refine x_iconst d_M_clash_38 ic_m1 ?_
    obtain rfl := Option.some.inj h
    exact x_ret (r := some (.int (-1 : Int32))) d_M_clash_39 ⟨_, rfl, rfl⟩
  · replace h := ite_f c5 h
    refine x_aload_n d_M_clash_12 rfl 0 rfl ?_
    refine x_iload_n d_M_clash_13 rfl 1 rfl ?_
    refine x_aload_n d_M_clash_14 rfl 0 rfl ?_
    refine x_iconst d_M_clash_15 ic_1 ?_
    obtain ⟨v7, q6, h⟩ := bd_inv h
    refine y_V1i (v := v7) (S1 := S2) d_M_clash_16 ml_11_454 kd_78 rfl (Nat.le_of_ble_eq_true rfl) (Nat.le_of_ble_eq_true rfl) (c_M_given (by omega) q6) ?_
    refine x_aload_n d_M_clash_19 rfl 0 rfl ?_
    refine x_iconst d_M_clash_20 ic_2 ?_
    obtain ⟨v9, q8, h⟩ := bd_inv h
    refine y_V1i (v := v9) (S1 := S2) d_M_clash_21 ml_11_454 kd_78 rfl (Nat.le_of_ble_eq_true rfl) (Nat.le_of_ble_eq_true rfl) (c_M_given (by omega) q8) ?_
    refine x_aload_n d_M_clash_24 rfl 0 rfl ?_
    refine y_getI d_M_clash_25 fl_11_84 rfl kd_78 ?_
    refine x_aload_n d_M_clash_28 rfl 0 rfl ?_
    refine y_getI d_M_clash_29 fl_11_81 rfl kd_78 ?_
    obtain ⟨v11, q10, h⟩ := bd_inv h
    refine y_V5i (v := v11) (S1 := S2) d_M_clash_32 ml_11_450 kd_78 rfl (Nat.le_of_ble_eq_true rfl) (Nat.le_of_ble_eq_true rfl) (c_M_clashBy (by omega) q10) ?_
    refine x_goto (tgt := 39) d_M_clash_35 rfl ?_
    obtain rfl := Option.some.inj h
    exact x_ret (r := some (.int v11)) d_M_clash_39 ⟨_, rfl, rfl⟩
/-! NinetyPlayers$Acts.dropOldest -/
def fC_dropOldest (F G : Nat) (S : St) : Option (St) :=
  lt (sI S 51 0 (39 : Int32)) fun S1 => gd (decide (0 ≤ (1 : Int32)) && decide (0 ≤ (0 : Int32)) && decide (0 ≤ (S1.1 51 0)) && decide ((1 : Int32).toNatClampNeg + (S1.1 51 0).toNatClampNeg ≤ 40) && decide ((0 : Int32).toNatClampNeg + (S1.1 51 0).toNatClampNeg ≤ 40)) (lt (sA S1 52 (va_cpy (S1.1 52) (S1.1 52) (1 : Int32).toNatClampNeg (0 : Int32).toNatClampNeg (S1.1 51 0).toNatClampNeg)) fun S4 => gd (decide (0 ≤ (1 : Int32)) && decide (0 ≤ (0 : Int32)) && decide (0 ≤ (S4.1 51 0)) && decide ((1 : Int32).toNatClampNeg + (S4.1 51 0).toNatClampNeg ≤ 40) && decide ((0 : Int32).toNatClampNeg + (S4.1 51 0).toNatClampNeg ≤ 40)) (lt (sA S4 53 (va_cpy (S4.1 53) (S4.1 53) (1 : Int32).toNatClampNeg (0 : Int32).toNatClampNeg (S4.1 51 0).toNatClampNeg)) fun S7 => gd (decide (0 ≤ (1 : Int32)) && decide (0 ≤ (0 : Int32)) && decide (0 ≤ (S7.1 51 0)) && decide ((1 : Int32).toNatClampNeg + (S7.1 51 0).toNatClampNeg ≤ 40) && decide ((0 : Int32).toNatClampNeg + (S7.1 51 0).toNatClampNeg ≤ 40)) (lt (sA S7 54 (va_cpy (S7.1 54) (S7.1 54) (1 : Int32).toNatClampNeg (0 : Int32).toNatClampNeg (S7.1 51 0).toNatClampNeg)) fun S10 => gd (decide (0 ≤ (1 : Int32)) && decide (0 ≤ (0 : Int32)) && decide (0 ≤ (S10.1 51 0)) && decide ((1 : Int32).toNatClampNeg + (S10.1 51 0).toNatClampNeg ≤ 40) && decide ((0 : Int32).toNatClampNeg + (S10.1 51 0).toNatClampNeg ≤ 40)) (lt (sA S10 55 (va_cpy (S10.1 55) (S10.1 55) (1 : Int32).toNatClampNeg (0 : Int32).toNatClampNeg (S10.1 51 0).toNatClampNeg)) fun S13 => some S13))))
set_option maxRecDepth 100000 in
set_option maxHeartbeats 4000000 in
theorem c_C_dropOldest {X : Nat × (Nat → Int32)} {D F G : Nat} (hD : 1 ≤ D) {S : St} {res : St} (h : fC_dropOldest F G S  = some res) : Ek X (D) mC_dropOldest 0 [(0, .ref 51)] [] S none res := by
  obtain ⟨D, rfl⟩ : ∃ E, D = E + 1 := ⟨D - 1, by omega⟩
  unfold fC_dropOldest at h
  refine x_aload_n d_C_dropOldest_0 rfl 0 rfl ?_
  refine x_bipush d_C_dropOldest_1 bp_39 ?_
  obtain ⟨S1, e2, h⟩ := lt_inv h
  refine y_putI e2 d_C_dropOldest_3 fl_6_24 rfl rfl kd_51 rfl rfl ?_
  refine x_aload_n d_C_dropOldest_6 rfl 0 rfl ?_
  refine y_getR d_C_dropOldest_7 fl_6_9 rfl kd_51 rr_51_2 ?_
  refine x_iconst d_C_dropOldest_10 ic_1 ?_
  refine x_aload_n d_C_dropOldest_11 rfl 0 rfl ?_
  refine y_getR d_C_dropOldest_12 fl_6_9 rfl kd_51 rr_51_2 ?_
  refine x_iconst d_C_dropOldest_15 ic_0 ?_
  refine x_aload_n d_C_dropOldest_16 rfl 0 rfl ?_
  refine y_getI d_C_dropOldest_17 fl_6_24 rfl kd_51 ?_
  obtain ⟨g3, h⟩ := gd_inv h
  obtain ⟨S4, e5, h⟩ := lt_inv h
  refine y_copy e5 g3 d_C_dropOldest_20 ml_6_44 kd_52 kd_52 (Nat.le_of_ble_eq_true rfl) ?_
  refine x_aload_n d_C_dropOldest_23 rfl 0 rfl ?_
  refine y_getR d_C_dropOldest_24 fl_6_15 rfl kd_51 rr_51_3 ?_
  refine x_iconst d_C_dropOldest_27 ic_1 ?_
  refine x_aload_n d_C_dropOldest_28 rfl 0 rfl ?_
  refine y_getR d_C_dropOldest_29 fl_6_15 rfl kd_51 rr_51_3 ?_
  refine x_iconst d_C_dropOldest_32 ic_0 ?_
  refine x_aload_n d_C_dropOldest_33 rfl 0 rfl ?_
  refine y_getI d_C_dropOldest_34 fl_6_24 rfl kd_51 ?_
  obtain ⟨g6, h⟩ := gd_inv h
  obtain ⟨S7, e8, h⟩ := lt_inv h
  refine y_copy e8 g6 d_C_dropOldest_37 ml_6_44 kd_53 kd_53 (Nat.le_of_ble_eq_true rfl) ?_
  refine x_aload_n d_C_dropOldest_40 rfl 0 rfl ?_
  refine y_getR d_C_dropOldest_41 fl_6_18 rfl kd_51 rr_51_4 ?_
  refine x_iconst d_C_dropOldest_44 ic_1 ?_
  refine x_aload_n d_C_dropOldest_45 rfl 0 rfl ?_
  refine y_getR d_C_dropOldest_46 fl_6_18 rfl kd_51 rr_51_4 ?_
  refine x_iconst d_C_dropOldest_49 ic_0 ?_
  refine x_aload_n d_C_dropOldest_50 rfl 0 rfl ?_
  refine y_getI d_C_dropOldest_51 fl_6_24 rfl kd_51 ?_
  obtain ⟨g9, h⟩ := gd_inv h
  obtain ⟨S10, e11, h⟩ := lt_inv h
  refine y_copy e11 g9 d_C_dropOldest_54 ml_6_44 kd_54 kd_54 (Nat.le_of_ble_eq_true rfl) ?_
  refine x_aload_n d_C_dropOldest_57 rfl 0 rfl ?_
  refine y_getR d_C_dropOldest_58 fl_6_21 rfl kd_51 rr_51_5 ?_
  refine x_iconst d_C_dropOldest_61 ic_1 ?_
  refine x_aload_n d_C_dropOldest_62 rfl 0 rfl ?_
  refine y_getR d_C_dropOldest_63 fl_6_21 rfl kd_51 rr_51_5 ?_
  refine x_iconst d_C_dropOldest_66 ic_0 ?_
  refine x_aload_n d_C_dropOldest_67 rfl 0 rfl ?_
  refine y_getI d_C_dropOldest_68 fl_6_24 rfl kd_51 ?_
  obtain ⟨g12, h⟩ := gd_inv h
  obtain ⟨S13, e14, h⟩ := lt_inv h
  refine y_copy e14 g12 d_C_dropOldest_71 ml_6_44 kd_55 kd_55 (Nat.le_of_ble_eq_true rfl) ?_
  obtain rfl := Option.some.inj h
  exact x_ret (r := none) d_C_dropOldest_74 rfl
/-! NinetyPlayers$Laying.rowOf -/
def fL_rowOf (F G : Nat) (S : St) (o : Nat) (p1 : Int32) : Option (Nat) :=
  gd (isLa o) (if p1 = 0 then some (o + 1) else if p1 = 1 then some (o + 2) else if p1 = 2 then some (o + 3) else some (o + 4))
set_option maxRecDepth 100000 in
set_option maxHeartbeats 4000000 in
theorem c_L_rowOf {X : Nat × (Nat → Int32)} {D F G : Nat} (hD : 0 ≤ D) {S : St} {o : Nat} {p1 : Int32} {res : Nat} (h : fL_rowOf F G S o p1 = some res) : Ek X (D) mL_rowOf 0 [(0, .ref o), (1, .int p1)] [] S (some (.ref res)) S := by
  unfold fL_rowOf at h
  obtain ⟨gg0, h⟩ := gd_inv h
  refine x_iload_n d_L_rowOf_0 rfl 1 rfl ?_
  by_cases c1 : p1 = 0
  · replace h := ite_t c1 h
    refine x_tabC (tgt := 28) 0 d_L_rowOf_1 (by rw [c1]; rfl) (by decide) rfl rfl ?_
    refine x_aload_n d_L_rowOf_28 rfl 0 rfl ?_
    refine y_getR d_L_rowOf_29 fl_5_9 rfl (ksLa gg0) (rrLa_2 gg0) ?_
    obtain rfl := Option.some.inj h
    exact x_ret (r := some (.ref (o + 1))) d_L_rowOf_32 ⟨_, rfl⟩
  replace h := ite_f c1 h
  by_cases c2 : p1 = 1
  · replace h := ite_t c2 h
    refine x_tabC (tgt := 33) 1 d_L_rowOf_1 (by rw [c2]; rfl) (by decide) rfl rfl ?_
    refine x_aload_n d_L_rowOf_33 rfl 0 rfl ?_
    refine y_getR d_L_rowOf_34 fl_5_15 rfl (ksLa gg0) (rrLa_3 gg0) ?_
    obtain rfl := Option.some.inj h
    exact x_ret (r := some (.ref (o + 2))) d_L_rowOf_37 ⟨_, rfl⟩
  replace h := ite_f c2 h
  by_cases c3 : p1 = 2
  · replace h := ite_t c3 h
    refine x_tabC (tgt := 38) 2 d_L_rowOf_1 (by rw [c3]; rfl) (by decide) rfl rfl ?_
    refine x_aload_n d_L_rowOf_38 rfl 0 rfl ?_
    refine y_getR d_L_rowOf_39 fl_5_18 rfl (ksLa gg0) (rrLa_4 gg0) ?_
    obtain rfl := Option.some.inj h
    exact x_ret (r := some (.ref (o + 3))) d_L_rowOf_42 ⟨_, rfl⟩
  replace h := ite_f c3 h
  refine x_tabD (tgt := 43) d_L_rowOf_1 (by have := lv_neT c1 (show (0 : Int32).toInt = 0 from rfl); have := lv_neT c2 (show (1 : Int32).toInt = 1 from rfl); have := lv_neT c3 (show (2 : Int32).toInt = 2 from rfl); omega) rfl ?_
  refine x_aload_n d_L_rowOf_43 rfl 0 rfl ?_
  refine y_getR d_L_rowOf_44 fl_5_21 rfl (ksLa gg0) (rrLa_5 gg0) ?_
  obtain rfl := Option.some.inj h
  exact x_ret (r := some (.ref (o + 4))) d_L_rowOf_47 ⟨_, rfl⟩
/-! NinetyPlayers$Laying.valueOf -/
def fL_valueOf (F G : Nat) (S : St) (o : Nat) (p1 : Int32) (p2 : Int32) : Option (Int32) :=
  gd (isLa o) (bd (fL_rowOf F G S o p1) fun v2 => gd (isRw v2) (if p1 = (4 : Int32) then some (S.1 o 1) else if p2 < 0 then some (0 : Int32) else if (Int32.ofNat 10) ≤ p2 then some (0 : Int32) else gd (inB p2 10) (some (S.1 v2 p2.toNatClampNeg))))
set_option maxRecDepth 100000 in
set_option maxHeartbeats 4000000 in
theorem c_L_valueOf {X : Nat × (Nat → Int32)} {D F G : Nat} (hD : 1 ≤ D) {S : St} {o : Nat} {p1 : Int32} {p2 : Int32} {res : Int32} (h : fL_valueOf F G S o p1 p2 = some res) : Ek X (D) mL_valueOf 0 [(0, .ref o), (1, .int p1), (2, .int p2)] [] S (some (.int res)) S := by
  obtain ⟨D, rfl⟩ : ∃ E, D = E + 1 := ⟨D - 1, by omega⟩
  unfold fL_valueOf at h
  obtain ⟨gg0, h⟩ := gd_inv h
  refine x_aload_n d_L_valueOf_0 rfl 0 rfl ?_
  refine x_iload_n d_L_valueOf_1 rfl 1 rfl ?_
  obtain ⟨v2, q1, h⟩ := bd_inv h
  refine y_V1r (v := v2) (S1 := S) d_L_valueOf_2 ml_5_33 (ksLa gg0) rfl (Nat.le_of_ble_eq_true rfl) (Nat.le_of_ble_eq_true rfl) (c_L_rowOf (by omega) q1) ?_
  obtain ⟨g3, h⟩ := gd_inv h
  refine x_astore_n (L1 := [(0, .ref o), (1, .int p1), (2, .int p2), (3, .ref v2)]) d_L_valueOf_5 rfl (Nat.le_of_ble_eq_true rfl) rfl rfl ?_
  refine x_iload_n d_L_valueOf_6 rfl 1 rfl ?_
  refine x_iconst d_L_valueOf_7 ic_4 ?_
  refine x_icmp_ne (tgt := 16) d_L_valueOf_8 rfl (fun c4 => ?_) (fun c4 => ?_)
  · replace h := ite_f c4 h
    refine x_iload_n d_L_valueOf_16 rfl 2 rfl ?_
    refine x_if_lt (tgt := 32) d_L_valueOf_17 rfl (fun c5 => ?_) (fun c5 => ?_)
    · replace h := ite_t c5 h
      refine x_iconst d_L_valueOf_32 ic_0 ?_
      obtain rfl := Option.some.inj h
      exact x_ret (r := some (.int (0 : Int32))) d_L_valueOf_33 ⟨_, rfl, rfl⟩
    · replace h := ite_f c5 h
      refine x_iload_n d_L_valueOf_20 rfl 2 rfl ?_
      refine x_aload_n d_L_valueOf_21 rfl 3 rfl ?_
      refine x_alen1 d_L_valueOf_22 (ksRw g3) ?_
      refine x_icmp_ge (tgt := 32) d_L_valueOf_23 rfl (fun c6 => ?_) (fun c6 => ?_)
      · replace h := ite_t c6 h
        refine x_iconst d_L_valueOf_32 ic_0 ?_
        obtain rfl := Option.some.inj h
        exact x_ret (r := some (.int (0 : Int32))) d_L_valueOf_33 ⟨_, rfl, rfl⟩
      · replace h := ite_f c6 h
        refine x_aload_n d_L_valueOf_26 rfl 3 rfl ?_
        refine x_iload_n d_L_valueOf_27 rfl 2 rfl ?_
        obtain ⟨g7, h⟩ := gd_inv h
        refine y_iald d_L_valueOf_28 (ksRw g3) g7 ?_
        refine x_goto (tgt := 33) d_L_valueOf_29 rfl ?_
        obtain rfl := Option.some.inj h
        exact x_ret (r := some (.int (S.1 v2 p2.toNatClampNeg))) d_L_valueOf_33 ⟨_, rfl, rfl⟩
  · replace h := ite_t c4 h
    refine x_aload_n d_L_valueOf_11 rfl 0 rfl ?_
    refine y_getI d_L_valueOf_12 fl_5_24 rfl (ksLa gg0) ?_
    obtain rfl := Option.some.inj h
    exact x_ret (r := some (.int (S.1 o 1))) d_L_valueOf_15 ⟨_, rfl, rfl⟩
/-! NinetyPlayers$Laying.put -/
def fL_put (F G : Nat) (S : St) (o : Nat) (p1 : Int32) (p2 : Int32) (p3 : Int32) : Option (St) :=
  gd (isLa o) (bd (fL_rowOf F G S o p1) fun v2 => gd (isRw v2) (if p1 = (4 : Int32) then lt (sI S o 1 p3) fun S10 => some S10 else if p2 < 0 then some S else if (Int32.ofNat 10) ≤ p2 then some S else gd (inB p2 10) (lt (sI S v2 p2.toNatClampNeg p3) fun S8 => some S8)))
set_option maxRecDepth 100000 in
set_option maxHeartbeats 4000000 in
theorem c_L_put {X : Nat × (Nat → Int32)} {D F G : Nat} (hD : 1 ≤ D) {S : St} {o : Nat} {p1 : Int32} {p2 : Int32} {p3 : Int32} {res : St} (h : fL_put F G S o p1 p2 p3 = some res) : Ek X (D) mL_put 0 [(0, .ref o), (1, .int p1), (2, .int p2), (3, .int p3)] [] S none res := by
  obtain ⟨D, rfl⟩ : ∃ E, D = E + 1 := ⟨D - 1, by omega⟩
  unfold fL_put at h
  obtain ⟨gg0, h⟩ := gd_inv h
  refine x_aload_n d_L_put_0 rfl 0 rfl ?_
  refine x_iload_n d_L_put_1 rfl 1 rfl ?_
  obtain ⟨v2, q1, h⟩ := bd_inv h
  refine y_V1r (v := v2) (S1 := S) d_L_put_2 ml_5_33 (ksLa gg0) rfl (Nat.le_of_ble_eq_true rfl) (Nat.le_of_ble_eq_true rfl) (c_L_rowOf (by omega) q1) ?_
  obtain ⟨g3, h⟩ := gd_inv h
  refine x_astore (L1 := [(0, .ref o), (1, .int p1), (2, .int p2), (3, .int p3), (4, .ref v2)]) d_L_put_5 (Nat.le_of_ble_eq_true rfl) rfl rfl ?_
  refine x_iload_n d_L_put_7 rfl 1 rfl ?_
  refine x_iconst d_L_put_8 ic_4 ?_
  refine x_icmp_ne (tgt := 20) d_L_put_9 rfl (fun c4 => ?_) (fun c4 => ?_)
  · replace h := ite_f c4 h
    refine x_iload_n d_L_put_20 rfl 2 rfl ?_
    refine x_if_lt (tgt := 36) d_L_put_21 rfl (fun c5 => ?_) (fun c5 => ?_)
    · replace h := ite_t c5 h
      obtain rfl := Option.some.inj h
      exact x_ret (r := none) d_L_put_36 rfl
    · replace h := ite_f c5 h
      refine x_iload_n d_L_put_24 rfl 2 rfl ?_
      refine x_aload d_L_put_25 4 rfl ?_
      refine x_alen1 d_L_put_27 (ksRw g3) ?_
      refine x_icmp_ge (tgt := 36) d_L_put_28 rfl (fun c6 => ?_) (fun c6 => ?_)
      · replace h := ite_t c6 h
        obtain rfl := Option.some.inj h
        exact x_ret (r := none) d_L_put_36 rfl
      · replace h := ite_f c6 h
        refine x_aload d_L_put_31 4 rfl ?_
        refine x_iload_n d_L_put_33 rfl 2 rfl ?_
        refine x_iload_n d_L_put_34 rfl 3 rfl ?_
        obtain ⟨g7, h⟩ := gd_inv h
        obtain ⟨S8, e9, h⟩ := lt_inv h
        refine y_iast e9 d_L_put_35 (ksRw g3) g7 ?_
        obtain rfl := Option.some.inj h
        exact x_ret (r := none) d_L_put_36 rfl
  · replace h := ite_t c4 h
    refine x_aload_n d_L_put_12 rfl 0 rfl ?_
    refine x_iload_n d_L_put_13 rfl 3 rfl ?_
    obtain ⟨S10, e11, h⟩ := lt_inv h
    refine y_putI e11 d_L_put_14 fl_5_24 rfl rfl (ksLa gg0) rfl rfl ?_
    refine x_goto (tgt := 36) d_L_put_17 rfl ?_
    obtain rfl := Option.some.inj h
    exact x_ret (r := none) d_L_put_36 rfl
/-! NinetyPlayers$Acts.act -/
def j_C_act_13 (F G : Nat) (o2 : Nat) (S : St) (y2 : Int32) (y3 : Int32) (y4 : Int32) : Option (St) :=
  gd (inB (S.1 51 0) 40) (lt (sI S 52 (S.1 51 0).toNatClampNeg y2) fun S5 => gd (inB (S5.1 51 0) 40) (lt (sI S5 53 (S5.1 51 0).toNatClampNeg y3) fun S8 => bd (fL_valueOf F G S8 o2 y2 y3) fun v11 => gd (inB (S8.1 51 0) 40) (lt (sI S8 54 (S8.1 51 0).toNatClampNeg v11) fun S13 => gd (inB (S13.1 51 0) 40) (lt (sI S13 55 (S13.1 51 0).toNatClampNeg y4) fun S16 => lt (sI S16 51 0 ((S16.1 51 0) + (1 : Int32))) fun S18 => lt (sI S18 51 1 (S18.1 51 0)) fun S20 => bd (fL_put F G S20 o2 y2 y3 y4) fun S23 => some S23))))
def fC_act (F G : Nat) (S : St) (o2 : Nat) (p2 : Int32) (p3 : Int32) (p4 : Int32) : Option (St) :=
  gd (isLa o2) (if (S.1 51 0) < (40 : Int32) then j_C_act_13 F G o2  S p2 p3 p4 else bd (fC_dropOldest F G S ) fun S3 => j_C_act_13 F G o2  S3 p2 p3 p4)
set_option maxRecDepth 100000 in
set_option maxHeartbeats 4000000 in
theorem c_C_act {X : Nat × (Nat → Int32)} {D F G : Nat} (hD : 2 ≤ D) {S : St} {o2 : Nat} {p2 : Int32} {p3 : Int32} {p4 : Int32} {res : St} (h : fC_act F G S o2 p2 p3 p4 = some res) : Ek X (D) mC_act 0 [(0, .ref 51), (1, .ref o2), (2, .int p2), (3, .int p3), (4, .int p4)] [] S none res := by
  obtain ⟨D, rfl⟩ : ∃ E, D = E + 1 := ⟨D - 1, by omega⟩
  unfold fC_act at h
  obtain ⟨gg0, h⟩ := gd_inv h
  have J13 : ∀ (S : St) (y2 : Int32) (y3 : Int32) (y4 : Int32) (res : St), j_C_act_13 F G o2 S y2 y3 y4 = some res → Ek X (D + 1) mC_act 13 [(0, .ref 51), (1, .ref o2), (2, .int y2), (3, .int y3), (4, .int y4)] [] S none res := by
    intro S y2 y3 y4 res h
    unfold j_C_act_13 at h
    refine x_aload_n d_C_act_13 rfl 0 rfl ?_
    refine y_getR d_C_act_14 fl_6_9 rfl kd_51 rr_51_2 ?_
    refine x_aload_n d_C_act_17 rfl 0 rfl ?_
    refine y_getI d_C_act_18 fl_6_24 rfl kd_51 ?_
    refine x_iload_n d_C_act_21 rfl 2 rfl ?_
    obtain ⟨g4, h⟩ := gd_inv h
    obtain ⟨S5, e6, h⟩ := lt_inv h
    refine y_iast e6 d_C_act_22 kd_52 g4 ?_
    refine x_aload_n d_C_act_23 rfl 0 rfl ?_
    refine y_getR d_C_act_24 fl_6_15 rfl kd_51 rr_51_3 ?_
    refine x_aload_n d_C_act_27 rfl 0 rfl ?_
    refine y_getI d_C_act_28 fl_6_24 rfl kd_51 ?_
    refine x_iload_n d_C_act_31 rfl 3 rfl ?_
    obtain ⟨g7, h⟩ := gd_inv h
    obtain ⟨S8, e9, h⟩ := lt_inv h
    refine y_iast e9 d_C_act_32 kd_53 g7 ?_
    refine x_aload_n d_C_act_33 rfl 0 rfl ?_
    refine y_getR d_C_act_34 fl_6_18 rfl kd_51 rr_51_4 ?_
    refine x_aload_n d_C_act_37 rfl 0 rfl ?_
    refine y_getI d_C_act_38 fl_6_24 rfl kd_51 ?_
    refine x_aload_n d_C_act_41 rfl 1 rfl ?_
    refine x_iload_n d_C_act_42 rfl 2 rfl ?_
    refine x_iload_n d_C_act_43 rfl 3 rfl ?_
    obtain ⟨v11, q10, h⟩ := bd_inv h
    refine y_V2i (v := v11) (S1 := S8) d_C_act_44 ml_6_34 (ksLa gg0) rfl (Nat.le_of_ble_eq_true rfl) (Nat.le_of_ble_eq_true rfl) (c_L_valueOf (by omega) q10) ?_
    obtain ⟨g12, h⟩ := gd_inv h
    obtain ⟨S13, e14, h⟩ := lt_inv h
    refine y_iast e14 d_C_act_47 kd_54 g12 ?_
    refine x_aload_n d_C_act_48 rfl 0 rfl ?_
    refine y_getR d_C_act_49 fl_6_21 rfl kd_51 rr_51_5 ?_
    refine x_aload_n d_C_act_52 rfl 0 rfl ?_
    refine y_getI d_C_act_53 fl_6_24 rfl kd_51 ?_
    refine x_iload d_C_act_56 4 rfl ?_
    obtain ⟨g15, h⟩ := gd_inv h
    obtain ⟨S16, e17, h⟩ := lt_inv h
    refine y_iast e17 d_C_act_58 kd_55 g15 ?_
    refine x_aload_n d_C_act_59 rfl 0 rfl ?_
    refine x_dup d_C_act_60 rfl ?_
    refine y_getI d_C_act_61 fl_6_24 rfl kd_51 ?_
    refine x_iconst d_C_act_64 ic_1 ?_
    refine x_iadd d_C_act_65 ?_
    obtain ⟨S18, e19, h⟩ := lt_inv h
    refine y_putI e19 d_C_act_66 fl_6_24 rfl rfl kd_51 rfl rfl ?_
    refine x_aload_n d_C_act_69 rfl 0 rfl ?_
    refine x_aload_n d_C_act_70 rfl 0 rfl ?_
    refine y_getI d_C_act_71 fl_6_24 rfl kd_51 ?_
    obtain ⟨S20, e21, h⟩ := lt_inv h
    refine y_putI e21 d_C_act_74 fl_6_28 rfl rfl kd_51 rfl rfl ?_
    refine x_aload_n d_C_act_77 rfl 1 rfl ?_
    refine x_iload_n d_C_act_78 rfl 2 rfl ?_
    refine x_iload_n d_C_act_79 rfl 3 rfl ?_
    refine x_iload d_C_act_80 4 rfl ?_
    obtain ⟨S23, q22, h⟩ := bd_inv h
    refine y_V3v (S1 := S23) d_C_act_82 ml_6_40 (ksLa gg0) rfl (Nat.le_of_ble_eq_true rfl) (Nat.le_of_ble_eq_true rfl) (c_L_put (by omega) q22) ?_
    obtain rfl := Option.some.inj h
    exact x_ret (r := none) d_C_act_85 rfl
  refine x_aload_n d_C_act_0 rfl 0 rfl ?_
  refine y_getI d_C_act_1 fl_6_24 rfl kd_51 ?_
  refine x_bipush d_C_act_4 bp_40 ?_
  refine x_icmp_lt (tgt := 13) d_C_act_6 rfl (fun c1 => ?_) (fun c1 => ?_)
  · replace h := ite_t c1 h
    exact J13 S p2 p3 p4 _ h
  · replace h := ite_f c1 h
    refine x_aload_n d_C_act_9 rfl 0 rfl ?_
    obtain ⟨S3, q2, h⟩ := bd_inv h
    refine y_V0v (S1 := S3) d_C_act_10 ml_6_31 kd_51 rfl (Nat.le_of_ble_eq_true rfl) (Nat.le_of_ble_eq_true rfl) (c_C_dropOldest (by omega) q2) ?_
    exact J13 S3 p2 p3 p4 _ h
/-! NinetyPlayers$Keyboard.clashingBeats -/
def b_K_clashingBeats_5 (F G : Nat) (S : St) (z1 : Int32) (z2 : Int32) (rec : Int32 → Int32 → Option (Int32)) (w3 : Int32) (w4 : Int32) : Option (Int32) :=
  if (S.1 57 0) ≤ w4 then some w3 else bd (fK_clashesAt F G S z1 z2 w4) fun v3 => if v3 = 0 then lt (w4 + 1) fun v5 => rec w3 v5 else lt (w3 ||| ((1 : Int32) <<< (w4 &&& 31))) fun v7 => lt (w4 + 1) fun v9 => rec v7 v9
def fK_clashingBeats (F G : Nat) (S : St) (p1 : Int32) (p2 : Int32) : Option (Int32) :=
  fx2 (b_K_clashingBeats_5 F G S p1 p2) F (0 : Int32) (0 : Int32)
set_option maxRecDepth 100000 in
set_option maxHeartbeats 4000000 in
theorem T_K_clashingBeats_5 {X : Nat × (Nat → Int32)} {D F G : Nat} (hD : 4 ≤ D + 1) {S : St} {z1 : Int32} {z2 : Int32} : ∀ (f : Nat) (w3 : Int32) (w4 : Int32) (res : Int32), fx2 (b_K_clashingBeats_5 F G S z1 z2 ) f w3 w4 = some res → Ek X (D + 1) mK_clashingBeats 5 [(0, .ref 57), (1, .int z1), (2, .int z2), (3, .int w3), (4, .int w4)] [] S (some (.int res)) S := by
  refine fx2_ind ?_
  intro rec ih w3 w4 res h
  unfold b_K_clashingBeats_5 at h
  refine x_iload d_K_clashingBeats_5 4 rfl ?_
  refine x_aload_n d_K_clashingBeats_7 rfl 0 rfl ?_
  refine y_getI d_K_clashingBeats_8 fl_7_30 rfl kd_57 ?_
  refine x_icmp_ge (tgt := 38) d_K_clashingBeats_11 rfl (fun c1 => ?_) (fun c1 => ?_)
  · replace h := ite_t c1 h
    refine x_iload_n d_K_clashingBeats_38 rfl 3 rfl ?_
    obtain rfl := Option.some.inj h
    exact x_ret (r := some (.int w3)) d_K_clashingBeats_39 ⟨_, rfl, rfl⟩
  · replace h := ite_f c1 h
    refine x_aload_n d_K_clashingBeats_14 rfl 0 rfl ?_
    refine x_iload_n d_K_clashingBeats_15 rfl 1 rfl ?_
    refine x_iload_n d_K_clashingBeats_16 rfl 2 rfl ?_
    refine x_iload d_K_clashingBeats_17 4 rfl ?_
    obtain ⟨v3, q2, h⟩ := bd_inv h
    refine y_V3i (v := v3) (S1 := S) d_K_clashingBeats_19 ml_7_104 kd_57 rfl (Nat.le_of_ble_eq_true rfl) (Nat.le_of_ble_eq_true rfl) (c_K_clashesAt (by omega) q2) ?_
    refine x_if_eq (tgt := 32) d_K_clashingBeats_22 rfl (fun c4 => ?_) (fun c4 => ?_)
    · replace h := ite_t c4 h
      obtain ⟨v5, e6, h⟩ := lt_inv h
      refine y_iinc (L1 := [(0, .ref 57), (1, .int z1), (2, .int z2), (3, .int w3), (4, .int v5)]) e6 ic_1 d_K_clashingBeats_32 4 rfl (Nat.le_of_ble_eq_true rfl) rfl rfl ?_
      refine x_goto (tgt := 5) d_K_clashingBeats_35 rfl ?_
      exact ih w3 v5 _ h
    · replace h := ite_f c4 h
      refine x_iload_n d_K_clashingBeats_25 rfl 3 rfl ?_
      refine x_iconst d_K_clashingBeats_26 ic_1 ?_
      refine x_iload d_K_clashingBeats_27 4 rfl ?_
      refine x_ishl d_K_clashingBeats_29 ?_
      refine x_ior d_K_clashingBeats_30 ?_
      obtain ⟨v7, e8, h⟩ := lt_inv h
      refine y_istore_n (L1 := [(0, .ref 57), (1, .int z1), (2, .int z2), (3, .int v7), (4, .int w4)]) e8 d_K_clashingBeats_31 rfl (Nat.le_of_ble_eq_true rfl) rfl rfl ?_
      obtain ⟨v9, e10, h⟩ := lt_inv h
      refine y_iinc (L1 := [(0, .ref 57), (1, .int z1), (2, .int z2), (3, .int v7), (4, .int v9)]) e10 ic_1 d_K_clashingBeats_32 4 rfl (Nat.le_of_ble_eq_true rfl) rfl rfl ?_
      refine x_goto (tgt := 5) d_K_clashingBeats_35 rfl ?_
      exact ih v7 v9 _ h
set_option maxRecDepth 100000 in
set_option maxHeartbeats 4000000 in
theorem c_K_clashingBeats {X : Nat × (Nat → Int32)} {D F G : Nat} (hD : 4 ≤ D) {S : St} {p1 : Int32} {p2 : Int32} {res : Int32} (h : fK_clashingBeats F G S p1 p2 = some res) : Ek X (D) mK_clashingBeats 0 [(0, .ref 57), (1, .int p1), (2, .int p2)] [] S (some (.int res)) S := by
  obtain ⟨D, rfl⟩ : ∃ E, D = E + 1 := ⟨D - 1, by omega⟩
  unfold fK_clashingBeats at h
  refine x_iconst d_K_clashingBeats_0 ic_0 ?_
  refine x_istore_n (L1 := [(0, .ref 57), (1, .int p1), (2, .int p2), (3, .int (0 : Int32))]) d_K_clashingBeats_1 rfl (Nat.le_of_ble_eq_true rfl) rfl rfl ?_
  refine x_iconst d_K_clashingBeats_2 ic_0 ?_
  refine x_istore (L1 := [(0, .ref 57), (1, .int p1), (2, .int p2), (3, .int (0 : Int32)), (4, .int (0 : Int32))]) d_K_clashingBeats_3 (Nat.le_of_ble_eq_true rfl) rfl rfl ?_
  refine T_K_clashingBeats_5 (by omega)   F (0 : Int32) (0 : Int32) _ h
/-! NinetyPlayers.clashes -/
def fN_clashes (F G : Nat) (S : St) : Option (Int32 × St) :=
  bd (fN_lookAtKeys F G S ) fun S2 => bd (fK_clashingBeats F G S2 (S2.1 57 5) (S2.1 57 6)) fun v4 => some (v4, S2)
set_option maxRecDepth 100000 in
set_option maxHeartbeats 4000000 in
theorem c_N_clashes {X : Nat × (Nat → Int32)} {D F G : Nat} (hD : 5 ≤ D) {S : St} {res : Int32 × St} (h : fN_clashes F G S  = some res) : Ek X (D) mN_clashes 0 [(0, .ref 0)] [] S (some (.int res.1)) res.2 := by
  obtain ⟨D, rfl⟩ : ∃ E, D = E + 1 := ⟨D - 1, by omega⟩
  unfold fN_clashes at h
  refine x_aload_n d_N_clashes_0 rfl 0 rfl ?_
  obtain ⟨S2, q1, h⟩ := bd_inv h
  refine y_V0v (S1 := S2) d_N_clashes_1 ml_0_176 kd_0 rfl (Nat.le_of_ble_eq_true rfl) (Nat.le_of_ble_eq_true rfl) (c_N_lookAtKeys (by omega) q1) ?_
  refine x_aload_n d_N_clashes_4 rfl 0 rfl ?_
  refine y_getR d_N_clashes_5 fl_0_57 rfl kd_0 rr_0_7 ?_
  refine x_aload_n d_N_clashes_8 rfl 0 rfl ?_
  refine y_getR d_N_clashes_9 fl_0_57 rfl kd_0 rr_0_7 ?_
  refine y_getI d_N_clashes_12 fl_0_188 rfl kd_57 ?_
  refine x_aload_n d_N_clashes_15 rfl 0 rfl ?_
  refine y_getR d_N_clashes_16 fl_0_57 rfl kd_0 rr_0_7 ?_
  refine y_getI d_N_clashes_19 fl_0_191 rfl kd_57 ?_
  obtain ⟨v4, q3, h⟩ := bd_inv h
  refine y_V2i (v := v4) (S1 := S2) d_N_clashes_22 ml_0_257 kd_57 rfl (Nat.le_of_ble_eq_true rfl) (Nat.le_of_ble_eq_true rfl) (c_K_clashingBeats (by omega) q3) ?_
  obtain rfl := Option.some.inj h
  exact x_ret (r := some (.int v4)) d_N_clashes_25 ⟨_, rfl, rfl⟩
