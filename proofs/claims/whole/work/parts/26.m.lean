/-! NinetyPlayersModel.forbids -/
def fM_forbids (F G : Nat) (S : St) (p1 : Int32) (p2 : Int32) : Option (Int32 × St) :=
  bd (fM_isOut F G S p1) fun v2 => if v2 = 0 then some ((-1 : Int32), S) else bd (fM_isHand F G S p2) fun v5 => if v5 = 0 then some ((-1 : Int32), S) else bd2 (fM_forbidden F G S p1 p2) fun v8 S9 => some (v8, S9)
set_option maxRecDepth 100000 in
set_option maxHeartbeats 4000000 in
theorem c_M_forbids {X : Nat × (Nat → Int32)} {D F G : Nat} (hD : 4 ≤ D) {S : St} {p1 : Int32} {p2 : Int32} {res : Int32 × St} (h : fM_forbids F G S p1 p2 = some res) : Ek X (D) mM_forbids 0 [(0, .ref 78), (1, .int p1), (2, .int p2)] [] S (some (.int res.1)) res.2 := by
  obtain ⟨D, rfl⟩ : ∃ E, D = E + 1 := ⟨D - 1, by omega⟩
  unfold fM_forbids at h
  refine x_aload_n d_M_forbids_0 rfl 0 rfl ?_
  refine x_iload_n d_M_forbids_1 rfl 1 rfl ?_
  obtain ⟨v2, q1, h⟩ := bd_inv h
  refine y_V1i (v := v2) (S1 := S) d_M_forbids_2 ml_11_515 kd_78 rfl (Nat.le_of_ble_eq_true rfl) (Nat.le_of_ble_eq_true rfl) (c_M_isOut (by omega) q1) ?_
  refine x_if_eq (tgt := 24) d_M_forbids_5 rfl (fun c3 => ?_) (fun c3 => ?_)
  · replace h := ite_t c3 h
    refine x_iconst d_M_forbids_24 ic_m1 ?_
    obtain rfl := Option.some.inj h
    exact x_ret (r := some (.int (-1 : Int32))) d_M_forbids_25 ⟨_, rfl, rfl⟩
  · replace h := ite_f c3 h
    refine x_iload_n d_M_forbids_8 rfl 2 rfl ?_
    obtain ⟨v5, q4, h⟩ := bd_inv h
    refine y_S1i (v := v5) (S1 := S) d_M_forbids_9 ml_11_476 (Nat.le_of_ble_eq_true rfl) (Nat.le_of_ble_eq_true rfl) (c_M_isHand (by omega) q4) ?_
    refine x_if_eq (tgt := 24) d_M_forbids_12 rfl (fun c6 => ?_) (fun c6 => ?_)
    · replace h := ite_t c6 h
      refine x_iconst d_M_forbids_24 ic_m1 ?_
      obtain rfl := Option.some.inj h
      exact x_ret (r := some (.int (-1 : Int32))) d_M_forbids_25 ⟨_, rfl, rfl⟩
    · replace h := ite_f c6 h
      refine x_aload_n d_M_forbids_15 rfl 0 rfl ?_
      refine x_iload_n d_M_forbids_16 rfl 1 rfl ?_
      refine x_iload_n d_M_forbids_17 rfl 2 rfl ?_
      obtain ⟨v8, S9, q7, h⟩ := bd2_inv h
      refine y_V2i (v := v8) (S1 := S9) d_M_forbids_18 ml_11_518 kd_78 rfl (Nat.le_of_ble_eq_true rfl) (Nat.le_of_ble_eq_true rfl) (c_M_forbidden (by omega) q7) ?_
      refine x_goto (tgt := 25) d_M_forbids_21 rfl ?_
      obtain rfl := Option.some.inj h
      exact x_ret (r := some (.int v8)) d_M_forbids_25 ⟨_, rfl, rfl⟩
/-! NinetyPlayers$Arranger.missedTogether -/
def b_A_missedTogether_4 (F G : Nat) (S : St) (z1 : Int32) (rec : Int32 → Int32 → Option (Int32)) (w2 : Int32) (w3 : Int32) : Option (Int32) :=
  if (S.1 56 1) ≤ w3 then some w2 else if ((z1 >>> (w3 &&& 31)) &&& (1 : Int32)) = 0 then lt (w2 + (0 : Int32)) fun v3 => lt (w3 + 1) fun v5 => rec v3 v5 else gd (inB w3 10) (lt (w2 + (S.1 61 w3.toNatClampNeg)) fun v8 => lt (w3 + 1) fun v10 => rec v8 v10)
def fA_missedTogether (F G : Nat) (S : St) (p1 : Int32) : Option (Int32) :=
  fx2 (b_A_missedTogether_4 F G S p1) F (0 : Int32) (0 : Int32)
set_option maxRecDepth 100000 in
set_option maxHeartbeats 4000000 in
theorem T_A_missedTogether_4 {X : Nat × (Nat → Int32)} {D F G : Nat} (hD : 0 ≤ D) {S : St} {z1 : Int32} : ∀ (f : Nat) (w2 : Int32) (w3 : Int32) (res : Int32), fx2 (b_A_missedTogether_4 F G S z1 ) f w2 w3 = some res → Ek X (D) mA_missedTogether 4 [(0, .ref 62), (1, .int z1), (2, .int w2), (3, .int w3)] [] S (some (.int res)) S := by
  refine fx2_ind ?_
  intro rec ih w2 w3 res h
  unfold b_A_missedTogether_4 at h
  refine x_iload_n d_A_missedTogether_4 rfl 3 rfl ?_
  refine x_aload_n d_A_missedTogether_5 rfl 0 rfl ?_
  refine y_getR d_A_missedTogether_6 fl_8_24 rfl kd_62 rr_62_0 ?_
  refine y_getI d_A_missedTogether_9 fl_8_38 rfl kd_56 ?_
  refine x_icmp_ge (tgt := 42) d_A_missedTogether_12 rfl (fun c1 => ?_) (fun c1 => ?_)
  · replace h := ite_t c1 h
    refine x_iload_n d_A_missedTogether_42 rfl 2 rfl ?_
    obtain rfl := Option.some.inj h
    exact x_ret (r := some (.int w2)) d_A_missedTogether_43 ⟨_, rfl, rfl⟩
  · replace h := ite_f c1 h
    refine x_iload_n d_A_missedTogether_15 rfl 2 rfl ?_
    refine x_iload_n d_A_missedTogether_16 rfl 1 rfl ?_
    refine x_iload_n d_A_missedTogether_17 rfl 3 rfl ?_
    refine x_ishr d_A_missedTogether_18 ?_
    refine x_iconst d_A_missedTogether_19 ic_1 ?_
    refine x_iand d_A_missedTogether_20 ?_
    refine x_if_eq (tgt := 33) d_A_missedTogether_21 rfl (fun c2 => ?_) (fun c2 => ?_)
    · replace h := ite_t c2 h
      refine x_iconst d_A_missedTogether_33 ic_0 ?_
      refine x_iadd d_A_missedTogether_34 ?_
      obtain ⟨v3, e4, h⟩ := lt_inv h
      refine y_istore_n (L1 := [(0, .ref 62), (1, .int z1), (2, .int v3), (3, .int w3)]) e4 d_A_missedTogether_35 rfl (Nat.le_of_ble_eq_true rfl) rfl rfl ?_
      obtain ⟨v5, e6, h⟩ := lt_inv h
      refine y_iinc (L1 := [(0, .ref 62), (1, .int z1), (2, .int v3), (3, .int v5)]) e6 ic_1 d_A_missedTogether_36 3 rfl (Nat.le_of_ble_eq_true rfl) rfl rfl ?_
      refine x_goto (tgt := 4) d_A_missedTogether_39 rfl ?_
      exact ih v3 v5 _ h
    · replace h := ite_f c2 h
      refine x_aload_n d_A_missedTogether_24 rfl 0 rfl ?_
      refine y_getR d_A_missedTogether_25 fl_8_28 rfl kd_62 rr_62_1 ?_
      refine x_iload_n d_A_missedTogether_28 rfl 3 rfl ?_
      obtain ⟨g7, h⟩ := gd_inv h
      refine y_iald d_A_missedTogether_29 kd_61 g7 ?_
      refine x_goto (tgt := 34) d_A_missedTogether_30 rfl ?_
      refine x_iadd d_A_missedTogether_34 ?_
      obtain ⟨v8, e9, h⟩ := lt_inv h
      refine y_istore_n (L1 := [(0, .ref 62), (1, .int z1), (2, .int v8), (3, .int w3)]) e9 d_A_missedTogether_35 rfl (Nat.le_of_ble_eq_true rfl) rfl rfl ?_
      obtain ⟨v10, e11, h⟩ := lt_inv h
      refine y_iinc (L1 := [(0, .ref 62), (1, .int z1), (2, .int v8), (3, .int v10)]) e11 ic_1 d_A_missedTogether_36 3 rfl (Nat.le_of_ble_eq_true rfl) rfl rfl ?_
      refine x_goto (tgt := 4) d_A_missedTogether_39 rfl ?_
      exact ih v8 v10 _ h
set_option maxRecDepth 100000 in
set_option maxHeartbeats 4000000 in
theorem c_A_missedTogether {X : Nat × (Nat → Int32)} {D F G : Nat} (hD : 0 ≤ D) {S : St} {p1 : Int32} {res : Int32} (h : fA_missedTogether F G S p1 = some res) : Ek X (D) mA_missedTogether 0 [(0, .ref 62), (1, .int p1)] [] S (some (.int res)) S := by
  unfold fA_missedTogether at h
  refine x_iconst d_A_missedTogether_0 ic_0 ?_
  refine x_istore_n (L1 := [(0, .ref 62), (1, .int p1), (2, .int (0 : Int32))]) d_A_missedTogether_1 rfl (Nat.le_of_ble_eq_true rfl) rfl rfl ?_
  refine x_iconst d_A_missedTogether_2 ic_0 ?_
  refine x_istore_n (L1 := [(0, .ref 62), (1, .int p1), (2, .int (0 : Int32)), (3, .int (0 : Int32))]) d_A_missedTogether_3 rfl (Nat.le_of_ble_eq_true rfl) rfl rfl ?_
  refine T_A_missedTogether_4 (by omega)   F (0 : Int32) (0 : Int32) _ h
/-! NinetyPlayers$Arranger.isLessMissed -/
def fA_isLessMissed (F G : Nat) (S : St) (p1 : Int32) (p2 : Int32) : Option (Int32) :=
  bd (fJ_bitCount F G S p1) fun v2 => bd (fJ_bitCount F G S p2) fun v4 => if v2 < v4 then some (1 : Int32) else if v2 = v4 then bd (fA_missedTogether F G S p1) fun v8 => bd (fA_missedTogether F G S p2) fun v10 => if v10 ≤ v8 then some (0 : Int32) else some (1 : Int32) else some (0 : Int32)
set_option maxRecDepth 100000 in
set_option maxHeartbeats 4000000 in
theorem c_A_isLessMissed {X : Nat × (Nat → Int32)} {D F G : Nat} (hD : 1 ≤ D) {S : St} {p1 : Int32} {p2 : Int32} {res : Int32} (h : fA_isLessMissed F G S p1 p2 = some res) : Ek X (D) mA_isLessMissed 0 [(0, .ref 62), (1, .int p1), (2, .int p2)] [] S (some (.int res)) S := by
  obtain ⟨D, rfl⟩ : ∃ E, D = E + 1 := ⟨D - 1, by omega⟩
  unfold fA_isLessMissed at h
  refine x_iload_n d_A_isLessMissed_0 rfl 1 rfl ?_
  obtain ⟨v2, q1, h⟩ := bd_inv h
  refine y_S1i (v := v2) (S1 := S) d_A_isLessMissed_1 ml_8_89 (Nat.le_of_ble_eq_true rfl) (Nat.le_of_ble_eq_true rfl) (c_J_bitCount (by omega) q1) ?_
  refine x_istore_n (L1 := [(0, .ref 62), (1, .int p1), (2, .int p2), (3, .int v2)]) d_A_isLessMissed_4 rfl (Nat.le_of_ble_eq_true rfl) rfl rfl ?_
  refine x_iload_n d_A_isLessMissed_5 rfl 2 rfl ?_
  obtain ⟨v4, q3, h⟩ := bd_inv h
  refine y_S1i (v := v4) (S1 := S) d_A_isLessMissed_6 ml_8_89 (Nat.le_of_ble_eq_true rfl) (Nat.le_of_ble_eq_true rfl) (c_J_bitCount (by omega) q3) ?_
  refine x_istore (L1 := [(0, .ref 62), (1, .int p1), (2, .int p2), (3, .int v2), (4, .int v4)]) d_A_isLessMissed_9 (Nat.le_of_ble_eq_true rfl) rfl rfl ?_
  refine x_iload_n d_A_isLessMissed_11 rfl 3 rfl ?_
  refine x_iload d_A_isLessMissed_12 4 rfl ?_
  refine x_icmp_lt (tgt := 36) d_A_isLessMissed_14 rfl (fun c5 => ?_) (fun c5 => ?_)
  · replace h := ite_t c5 h
    refine x_iconst d_A_isLessMissed_36 ic_1 ?_
    refine x_goto (tgt := 41) d_A_isLessMissed_37 rfl ?_
    obtain rfl := Option.some.inj h
    exact x_ret (r := some (.int (1 : Int32))) d_A_isLessMissed_41 ⟨_, rfl, rfl⟩
  · replace h := ite_f c5 h
    refine x_iload_n d_A_isLessMissed_17 rfl 3 rfl ?_
    refine x_iload d_A_isLessMissed_18 4 rfl ?_
    refine x_icmp_ne (tgt := 40) d_A_isLessMissed_20 rfl (fun c6 => ?_) (fun c6 => ?_)
    · replace h := ite_f c6 h
      refine x_iconst d_A_isLessMissed_40 ic_0 ?_
      obtain rfl := Option.some.inj h
      exact x_ret (r := some (.int (0 : Int32))) d_A_isLessMissed_41 ⟨_, rfl, rfl⟩
    · replace h := ite_t c6 h
      refine x_aload_n d_A_isLessMissed_23 rfl 0 rfl ?_
      refine x_iload_n d_A_isLessMissed_24 rfl 1 rfl ?_
      obtain ⟨v8, q7, h⟩ := bd_inv h
      refine y_V1i (v := v8) (S1 := S) d_A_isLessMissed_25 ml_8_112 kd_62 rfl (Nat.le_of_ble_eq_true rfl) (Nat.le_of_ble_eq_true rfl) (c_A_missedTogether (by omega) q7) ?_
      refine x_aload_n d_A_isLessMissed_28 rfl 0 rfl ?_
      refine x_iload_n d_A_isLessMissed_29 rfl 2 rfl ?_
      obtain ⟨v10, q9, h⟩ := bd_inv h
      refine y_V1i (v := v10) (S1 := S) d_A_isLessMissed_30 ml_8_112 kd_62 rfl (Nat.le_of_ble_eq_true rfl) (Nat.le_of_ble_eq_true rfl) (c_A_missedTogether (by omega) q9) ?_
      refine x_icmp_ge (tgt := 40) d_A_isLessMissed_33 rfl (fun c11 => ?_) (fun c11 => ?_)
      · replace h := ite_t c11 h
        refine x_iconst d_A_isLessMissed_40 ic_0 ?_
        obtain rfl := Option.some.inj h
        exact x_ret (r := some (.int (0 : Int32))) d_A_isLessMissed_41 ⟨_, rfl, rfl⟩
      · replace h := ite_f c11 h
        refine x_iconst d_A_isLessMissed_36 ic_1 ?_
        refine x_goto (tgt := 41) d_A_isLessMissed_37 rfl ?_
        obtain rfl := Option.some.inj h
        exact x_ret (r := some (.int (1 : Int32))) d_A_isLessMissed_41 ⟨_, rfl, rfl⟩
/-! NinetyPlayers$Keyboard.canBePlayed -/
def b_K_canBePlayed_2 (F G : Nat) (S : St) (z1 : Int32) (z2 : Int32) (rec : Int32 → Option (Int32)) (w3 : Int32) : Option (Int32) :=
  if (S.1 56 0) ≤ w3 then some (1 : Int32) else bd (fK_clashesAt F G S z1 z2 w3) fun v3 => if v3 = 0 then lt (w3 + 1) fun v5 => rec v5 else some (0 : Int32)
def fK_canBePlayed (F G : Nat) (S : St) (p1 : Int32) (p2 : Int32) : Option (Int32) :=
  fx1 (b_K_canBePlayed_2 F G S p1 p2) F (0 : Int32)
set_option maxRecDepth 100000 in
set_option maxHeartbeats 4000000 in
theorem T_K_canBePlayed_2 {X : Nat × (Nat → Int32)} {D F G : Nat} (hD : 4 ≤ D + 1) {S : St} {z1 : Int32} {z2 : Int32} : ∀ (f : Nat) (w3 : Int32) (res : Int32), fx1 (b_K_canBePlayed_2 F G S z1 z2 ) f w3 = some res → Ek X (D + 1) mK_canBePlayed 2 [(0, .ref 56), (1, .int z1), (2, .int z2), (3, .int w3)] [] S (some (.int res)) S := by
  refine fx1_ind ?_
  intro rec ih w3 res h
  unfold b_K_canBePlayed_2 at h
  refine x_iload_n d_K_canBePlayed_2 rfl 3 rfl ?_
  refine x_aload_n d_K_canBePlayed_3 rfl 0 rfl ?_
  refine y_getI d_K_canBePlayed_4 fl_7_30 rfl kd_56 ?_
  refine x_icmp_ge (tgt := 28) d_K_canBePlayed_7 rfl (fun c1 => ?_) (fun c1 => ?_)
  · replace h := ite_t c1 h
    refine x_iconst d_K_canBePlayed_28 ic_1 ?_
    obtain rfl := Option.some.inj h
    exact x_ret (r := some (.int (1 : Int32))) d_K_canBePlayed_29 ⟨_, rfl, rfl⟩
  · replace h := ite_f c1 h
    refine x_aload_n d_K_canBePlayed_10 rfl 0 rfl ?_
    refine x_iload_n d_K_canBePlayed_11 rfl 1 rfl ?_
    refine x_iload_n d_K_canBePlayed_12 rfl 2 rfl ?_
    refine x_iload_n d_K_canBePlayed_13 rfl 3 rfl ?_
    obtain ⟨v3, q2, h⟩ := bd_inv h
    refine y_V3i (v := v3) (S1 := S) d_K_canBePlayed_14 ml_7_104 kd_56 rfl (Nat.le_of_ble_eq_true rfl) (Nat.le_of_ble_eq_true rfl) (c_K_clashesAt (by omega) q2) ?_
    refine x_if_eq (tgt := 22) d_K_canBePlayed_17 rfl (fun c4 => ?_) (fun c4 => ?_)
    · replace h := ite_t c4 h
      obtain ⟨v5, e6, h⟩ := lt_inv h
      refine y_iinc (L1 := [(0, .ref 56), (1, .int z1), (2, .int z2), (3, .int v5)]) e6 ic_1 d_K_canBePlayed_22 3 rfl (Nat.le_of_ble_eq_true rfl) rfl rfl ?_
      refine x_goto (tgt := 2) d_K_canBePlayed_25 rfl ?_
      exact ih v5 _ h
    · replace h := ite_f c4 h
      refine x_iconst d_K_canBePlayed_20 ic_0 ?_
      obtain rfl := Option.some.inj h
      exact x_ret (r := some (.int (0 : Int32))) d_K_canBePlayed_21 ⟨_, rfl, rfl⟩
set_option maxRecDepth 100000 in
set_option maxHeartbeats 4000000 in
theorem c_K_canBePlayed {X : Nat × (Nat → Int32)} {D F G : Nat} (hD : 4 ≤ D) {S : St} {p1 : Int32} {p2 : Int32} {res : Int32} (h : fK_canBePlayed F G S p1 p2 = some res) : Ek X (D) mK_canBePlayed 0 [(0, .ref 56), (1, .int p1), (2, .int p2)] [] S (some (.int res)) S := by
  obtain ⟨D, rfl⟩ : ∃ E, D = E + 1 := ⟨D - 1, by omega⟩
  unfold fK_canBePlayed at h
  refine x_iconst d_K_canBePlayed_0 ic_0 ?_
  refine x_istore_n (L1 := [(0, .ref 56), (1, .int p1), (2, .int p2), (3, .int (0 : Int32))]) d_K_canBePlayed_1 rfl (Nat.le_of_ble_eq_true rfl) rfl rfl ?_
  refine T_K_canBePlayed_2 (by omega)   F (0 : Int32) _ h
/-! NinetyPlayers$Arranger.fewestInTheWay -/
def j_A_fewestInTheWay_112 (F G : Nat) (S : St) (z3 : Int32) (z4 : Int32) (z5 : Int32) (rec : Int32 → Int32 → Option (Int32)) (_ : St) (y6 : Int32) (y7 : Int32) (s0 : Int32) : Option (Int32) :=
  if s0 = 0 then lt (y7 + 1) fun v16 => rec y6 v16 else bd (fK_canBePlayed F G S (z3 &&& (y7 ^^^ (-1 : Int32))) (z4 &&& (y7 ^^^ (-1 : Int32)))) fun v19 => if v19 = 0 then lt (y7 + 1) fun v21 => rec y6 v21 else lt (y7 + 1) fun v23 => rec y7 v23
def j_A_fewestInTheWay_111 (F G : Nat) (S : St) (z3 : Int32) (z4 : Int32) (z5 : Int32) (rec : Int32 → Int32 → Option (Int32)) (_ : St) (y6 : Int32) (y7 : Int32) : Option (Int32) :=
  j_A_fewestInTheWay_112 F G S z3 z4 z5 rec  S y6 y7 (0 : Int32)
def j_A_fewestInTheWay_107 (F G : Nat) (S : St) (z3 : Int32) (z4 : Int32) (z5 : Int32) (rec : Int32 → Int32 → Option (Int32)) (_ : St) (y6 : Int32) (y7 : Int32) : Option (Int32) :=
  j_A_fewestInTheWay_112 F G S z3 z4 z5 rec  S y6 y7 (1 : Int32)
def b_A_fewestInTheWay_66 (F G : Nat) (S : St) (z3 : Int32) (z4 : Int32) (z5 : Int32) (rec : Int32 → Int32 → Option (Int32)) (w6 : Int32) (w7 : Int32) : Option (Int32) :=
  if ((1 : Int32) <<< ((S.1 56 1) &&& 31)) ≤ w7 then some w6 else if (w7 &&& (z5 ^^^ (-1 : Int32))) = 0 then if w6 = (-1 : Int32) then j_A_fewestInTheWay_107 F G S z3 z4 z5 rec  S w6 w7 else bd (fA_isLessMissed F G S w7 w6) fun v13 => if v13 = 0 then j_A_fewestInTheWay_111 F G S z3 z4 z5 rec  S w6 w7 else j_A_fewestInTheWay_107 F G S z3 z4 z5 rec  S w6 w7 else j_A_fewestInTheWay_111 F G S z3 z4 z5 rec  S w6 w7
def j_A_fewestInTheWay_40 (F G : Nat) (S : St) (y3 : Int32) (s0 : Int32) (s1 : Int32) : Option (Int32) :=
  lt (s0 ||| s1) fun v5 => lt ((S.1 56 5) ||| (S.1 56 6)) fun v7 => fx2 (b_A_fewestInTheWay_66 F G S y3 v5 v7) F (-1 : Int32) (0 : Int32)
def j_A_fewestInTheWay_19 (F G : Nat) (S : St) (y1 : Int32) (y2 : Int32) (s0 : Int32) (s1 : Int32) : Option (Int32) :=
  lt (s0 ||| s1) fun v2 => if y2 = (2 : Int32) then j_A_fewestInTheWay_40 F G  S v2 (S.1 56 6) ((1 : Int32) <<< (y1 &&& 31)) else j_A_fewestInTheWay_40 F G  S v2 (S.1 56 6) (0 : Int32)
def fA_fewestInTheWay (F G : Nat) (S : St) (p1 : Int32) (p2 : Int32) : Option (Int32) :=
  if p2 = (1 : Int32) then j_A_fewestInTheWay_19 F G  S p1 p2 (S.1 56 5) ((1 : Int32) <<< (p1 &&& 31)) else j_A_fewestInTheWay_19 F G  S p1 p2 (S.1 56 5) (0 : Int32)
set_option maxRecDepth 100000 in
set_option maxHeartbeats 4000000 in
theorem T_A_fewestInTheWay_66 {X : Nat × (Nat → Int32)} {D F G : Nat} (hD : 5 ≤ D + 1) {S : St} {z3 : Int32} {z4 : Int32} {z5 : Int32} : ∀ (f : Nat) (w6 : Int32) (w7 : Int32) (res : Int32), fx2 (b_A_fewestInTheWay_66 F G S z3 z4 z5 ) f w6 w7 = some res → Ek X (D + 1) mA_fewestInTheWay 66 [(0, .ref 62), (3, .int z3), (4, .int z4), (5, .int z5), (6, .int w6), (7, .int w7)] [] S (some (.int res)) S := by
  refine fx2_ind ?_
  intro rec ih w6 w7 res h
  unfold b_A_fewestInTheWay_66 at h
  have J112 : ∀ (y6 : Int32) (y7 : Int32) (s0 : Int32) (res : Int32), j_A_fewestInTheWay_112 F G S z3 z4 z5 rec S y6 y7 s0 = some res → Ek X (D + 1) mA_fewestInTheWay 112 [(0, .ref 62), (3, .int z3), (4, .int z4), (5, .int z5), (6, .int y6), (7, .int y7)] [.int s0] S (some (.int res)) S := by
    intro y6 y7 s0 res h
    unfold j_A_fewestInTheWay_112 at h
    refine x_istore (L1 := [(0, .ref 62), (3, .int z3), (4, .int z4), (5, .int z5), (6, .int y6), (7, .int y7), (8, .int s0)]) d_A_fewestInTheWay_112 (Nat.le_of_ble_eq_true rfl) rfl rfl ?_
    refine x_iload d_A_fewestInTheWay_114 6 rfl ?_
    refine x_if_eq (tgt := 146) d_A_fewestInTheWay_116 rfl (fun c15 => ?_) (fun c15 => ?_)
    · replace h := ite_t c15 h
      obtain ⟨v16, e17, h⟩ := lt_inv h
      refine y_iinc (L1 := [(0, .ref 62), (3, .int z3), (4, .int z4), (5, .int z5), (6, .int y6), (7, .int v16), (8, .int s0)]) e17 ic_1 d_A_fewestInTheWay_146 5 rfl (Nat.le_of_ble_eq_true rfl) rfl rfl ?_
      refine x_goto (tgt := 66) d_A_fewestInTheWay_149 rfl ?_
      refine y_pick (L1 := [(0, .ref 62), (3, .int z3), (4, .int z4), (5, .int z5), (6, .int y6), (7, .int v16)]) [0, 1, 2, 3, 4, 5] rfl ?_
      exact ih y6 v16 _ h
    · replace h := ite_f c15 h
      refine x_aload_n d_A_fewestInTheWay_119 rfl 0 rfl ?_
      refine y_getR d_A_fewestInTheWay_120 fl_8_24 rfl kd_62 rr_62_0 ?_
      refine x_iload_n d_A_fewestInTheWay_123 rfl 1 rfl ?_
      refine x_iload d_A_fewestInTheWay_124 5 rfl ?_
      refine x_iconst d_A_fewestInTheWay_126 ic_m1 ?_
      refine x_ixor d_A_fewestInTheWay_127 ?_
      refine x_iand d_A_fewestInTheWay_128 ?_
      refine x_iload d_A_fewestInTheWay_129 2 rfl ?_
      refine x_iload d_A_fewestInTheWay_131 5 rfl ?_
      refine x_iconst d_A_fewestInTheWay_133 ic_m1 ?_
      refine x_ixor d_A_fewestInTheWay_134 ?_
      refine x_iand d_A_fewestInTheWay_135 ?_
      obtain ⟨v19, q18, h⟩ := bd_inv h
      refine y_V2i (v := v19) (S1 := S) d_A_fewestInTheWay_136 ml_8_109 kd_56 rfl (Nat.le_of_ble_eq_true rfl) (Nat.le_of_ble_eq_true rfl) (c_K_canBePlayed (by omega) q18) ?_
      refine x_if_eq (tgt := 146) d_A_fewestInTheWay_139 rfl (fun c20 => ?_) (fun c20 => ?_)
      · replace h := ite_t c20 h
        obtain ⟨v21, e22, h⟩ := lt_inv h
        refine y_iinc (L1 := [(0, .ref 62), (3, .int z3), (4, .int z4), (5, .int z5), (6, .int y6), (7, .int v21), (8, .int s0)]) e22 ic_1 d_A_fewestInTheWay_146 5 rfl (Nat.le_of_ble_eq_true rfl) rfl rfl ?_
        refine x_goto (tgt := 66) d_A_fewestInTheWay_149 rfl ?_
        refine y_pick (L1 := [(0, .ref 62), (3, .int z3), (4, .int z4), (5, .int z5), (6, .int y6), (7, .int v21)]) [0, 1, 2, 3, 4, 5] rfl ?_
        exact ih y6 v21 _ h
      · replace h := ite_f c20 h
        refine x_iload d_A_fewestInTheWay_142 5 rfl ?_
        refine x_istore (L1 := [(0, .ref 62), (3, .int z3), (4, .int z4), (5, .int z5), (6, .int y7), (7, .int y7), (8, .int s0)]) d_A_fewestInTheWay_144 (Nat.le_of_ble_eq_true rfl) rfl rfl ?_
        obtain ⟨v23, e24, h⟩ := lt_inv h
        refine y_iinc (L1 := [(0, .ref 62), (3, .int z3), (4, .int z4), (5, .int z5), (6, .int y7), (7, .int v23), (8, .int s0)]) e24 ic_1 d_A_fewestInTheWay_146 5 rfl (Nat.le_of_ble_eq_true rfl) rfl rfl ?_
        refine x_goto (tgt := 66) d_A_fewestInTheWay_149 rfl ?_
        refine y_pick (L1 := [(0, .ref 62), (3, .int z3), (4, .int z4), (5, .int z5), (6, .int y7), (7, .int v23)]) [0, 1, 2, 3, 4, 5] rfl ?_
        exact ih y7 v23 _ h
  have J111 : ∀ (y6 : Int32) (y7 : Int32) (res : Int32), j_A_fewestInTheWay_111 F G S z3 z4 z5 rec S y6 y7 = some res → Ek X (D + 1) mA_fewestInTheWay 111 [(0, .ref 62), (3, .int z3), (4, .int z4), (5, .int z5), (6, .int y6), (7, .int y7)] [] S (some (.int res)) S := by
    intro y6 y7 res h
    unfold j_A_fewestInTheWay_111 at h
    refine x_iconst d_A_fewestInTheWay_111 ic_0 ?_
    exact J112 y6 y7 (0 : Int32) _ h
  have J107 : ∀ (y6 : Int32) (y7 : Int32) (res : Int32), j_A_fewestInTheWay_107 F G S z3 z4 z5 rec S y6 y7 = some res → Ek X (D + 1) mA_fewestInTheWay 107 [(0, .ref 62), (3, .int z3), (4, .int z4), (5, .int z5), (6, .int y6), (7, .int y7)] [] S (some (.int res)) S := by
    intro y6 y7 res h
    unfold j_A_fewestInTheWay_107 at h
    refine x_iconst d_A_fewestInTheWay_107 ic_1 ?_
    refine x_goto (tgt := 112) d_A_fewestInTheWay_108 rfl ?_
    exact J112 y6 y7 (1 : Int32) _ h
  refine x_iload d_A_fewestInTheWay_66 5 rfl ?_
  refine x_iconst d_A_fewestInTheWay_68 ic_1 ?_
  refine x_aload_n d_A_fewestInTheWay_69 rfl 0 rfl ?_
  refine y_getR d_A_fewestInTheWay_70 fl_8_24 rfl kd_62 rr_62_0 ?_
  refine y_getI d_A_fewestInTheWay_73 fl_8_38 rfl kd_56 ?_
  refine x_ishl d_A_fewestInTheWay_76 ?_
  refine x_icmp_ge (tgt := 152) d_A_fewestInTheWay_77 rfl (fun c9 => ?_) (fun c9 => ?_)
  · replace h := ite_t c9 h
    refine x_iload d_A_fewestInTheWay_152 4 rfl ?_
    obtain rfl := Option.some.inj h
    exact x_ret (r := some (.int w6)) d_A_fewestInTheWay_154 ⟨_, rfl, rfl⟩
  · replace h := ite_f c9 h
    refine x_iload d_A_fewestInTheWay_80 5 rfl ?_
    refine x_iload d_A_fewestInTheWay_82 3 rfl ?_
    refine x_iconst d_A_fewestInTheWay_84 ic_m1 ?_
    refine x_ixor d_A_fewestInTheWay_85 ?_
    refine x_iand d_A_fewestInTheWay_86 ?_
    refine x_if_ne (tgt := 111) d_A_fewestInTheWay_87 rfl (fun c10 => ?_) (fun c10 => ?_)
    · replace h := ite_f c10 h
      exact J111 w6 w7 _ h
    · replace h := ite_t c10 h
      refine x_iload d_A_fewestInTheWay_90 4 rfl ?_
      refine x_iconst d_A_fewestInTheWay_92 ic_m1 ?_
      refine x_icmp_eq (tgt := 107) d_A_fewestInTheWay_93 rfl (fun c11 => ?_) (fun c11 => ?_)
      · replace h := ite_t c11 h
        exact J107 w6 w7 _ h
      · replace h := ite_f c11 h
        refine x_aload_n d_A_fewestInTheWay_96 rfl 0 rfl ?_
        refine x_iload d_A_fewestInTheWay_97 5 rfl ?_
        refine x_iload d_A_fewestInTheWay_99 4 rfl ?_
        obtain ⟨v13, q12, h⟩ := bd_inv h
        refine y_V2i (v := v13) (S1 := S) d_A_fewestInTheWay_101 ml_8_106 kd_62 rfl (Nat.le_of_ble_eq_true rfl) (Nat.le_of_ble_eq_true rfl) (c_A_isLessMissed (by omega) q12) ?_
        refine x_if_eq (tgt := 111) d_A_fewestInTheWay_104 rfl (fun c14 => ?_) (fun c14 => ?_)
        · replace h := ite_t c14 h
          exact J111 w6 w7 _ h
        · replace h := ite_f c14 h
          exact J107 w6 w7 _ h
set_option maxRecDepth 100000 in
set_option maxHeartbeats 4000000 in
theorem c_A_fewestInTheWay {X : Nat × (Nat → Int32)} {D F G : Nat} (hD : 5 ≤ D) {S : St} {p1 : Int32} {p2 : Int32} {res : Int32} (h : fA_fewestInTheWay F G S p1 p2 = some res) : Ek X (D) mA_fewestInTheWay 0 [(0, .ref 62), (1, .int p1), (2, .int p2)] [] S (some (.int res)) S := by
  obtain ⟨D, rfl⟩ : ∃ E, D = E + 1 := ⟨D - 1, by omega⟩
  unfold fA_fewestInTheWay at h
  have J40 : ∀ (y3 : Int32) (s0 : Int32) (s1 : Int32) (res : Int32), j_A_fewestInTheWay_40 F G S y3 s0 s1 = some res → Ek X (D + 1) mA_fewestInTheWay 40 [(0, .ref 62), (3, .int y3)] [.int s1, .int s0] S (some (.int res)) S := by
    intro y3 s0 s1 res h
    unfold j_A_fewestInTheWay_40 at h
    refine x_ior d_A_fewestInTheWay_40 ?_
    obtain ⟨v5, e6, h⟩ := lt_inv h
    refine y_istore (L1 := [(0, .ref 62), (3, .int y3), (4, .int v5)]) e6 d_A_fewestInTheWay_41 (Nat.le_of_ble_eq_true rfl) rfl rfl ?_
    refine x_aload_n d_A_fewestInTheWay_43 rfl 0 rfl ?_
    refine y_getR d_A_fewestInTheWay_44 fl_8_24 rfl kd_62 rr_62_0 ?_
    refine y_getI d_A_fewestInTheWay_47 fl_8_104 rfl kd_56 ?_
    refine x_aload_n d_A_fewestInTheWay_50 rfl 0 rfl ?_
    refine y_getR d_A_fewestInTheWay_51 fl_8_24 rfl kd_62 rr_62_0 ?_
    refine y_getI d_A_fewestInTheWay_54 fl_8_105 rfl kd_56 ?_
    refine x_ior d_A_fewestInTheWay_57 ?_
    obtain ⟨v7, e8, h⟩ := lt_inv h
    refine y_istore (L1 := [(0, .ref 62), (3, .int y3), (4, .int v5), (5, .int v7)]) e8 d_A_fewestInTheWay_58 (Nat.le_of_ble_eq_true rfl) rfl rfl ?_
    refine x_iconst d_A_fewestInTheWay_60 ic_m1 ?_
    refine x_istore (L1 := [(0, .ref 62), (3, .int y3), (4, .int v5), (5, .int v7), (6, .int (-1 : Int32))]) d_A_fewestInTheWay_61 (Nat.le_of_ble_eq_true rfl) rfl rfl ?_
    refine x_iconst d_A_fewestInTheWay_63 ic_0 ?_
    refine x_istore (L1 := [(0, .ref 62), (3, .int y3), (4, .int v5), (5, .int v7), (6, .int (-1 : Int32)), (7, .int (0 : Int32))]) d_A_fewestInTheWay_64 (Nat.le_of_ble_eq_true rfl) rfl rfl ?_
    refine T_A_fewestInTheWay_66 (by omega)   F (-1 : Int32) (0 : Int32) _ h
  have J19 : ∀ (y1 : Int32) (y2 : Int32) (s0 : Int32) (s1 : Int32) (res : Int32), j_A_fewestInTheWay_19 F G S y1 y2 s0 s1 = some res → Ek X (D + 1) mA_fewestInTheWay 19 [(0, .ref 62), (1, .int y1), (2, .int y2)] [.int s1, .int s0] S (some (.int res)) S := by
    intro y1 y2 s0 s1 res h
    unfold j_A_fewestInTheWay_19 at h
    refine x_ior d_A_fewestInTheWay_19 ?_
    obtain ⟨v2, e3, h⟩ := lt_inv h
    refine y_istore_n (L1 := [(0, .ref 62), (1, .int y1), (2, .int y2), (3, .int v2)]) e3 d_A_fewestInTheWay_20 rfl (Nat.le_of_ble_eq_true rfl) rfl rfl ?_
    refine x_aload_n d_A_fewestInTheWay_21 rfl 0 rfl ?_
    refine y_getR d_A_fewestInTheWay_22 fl_8_24 rfl kd_62 rr_62_0 ?_
    refine y_getI d_A_fewestInTheWay_25 fl_8_105 rfl kd_56 ?_
    refine x_iload_n d_A_fewestInTheWay_28 rfl 2 rfl ?_
    refine x_iconst d_A_fewestInTheWay_29 ic_2 ?_
    refine x_icmp_ne (tgt := 39) d_A_fewestInTheWay_30 rfl (fun c4 => ?_) (fun c4 => ?_)
    · replace h := ite_f c4 h
      refine x_iconst d_A_fewestInTheWay_39 ic_0 ?_
      refine y_pick (L1 := [(0, .ref 62), (3, .int v2)]) [0, 3] rfl ?_
      exact J40 v2 (S.1 56 6) (0 : Int32) _ h
    · replace h := ite_t c4 h
      refine x_iconst d_A_fewestInTheWay_33 ic_1 ?_
      refine x_iload_n d_A_fewestInTheWay_34 rfl 1 rfl ?_
      refine x_ishl d_A_fewestInTheWay_35 ?_
      refine x_goto (tgt := 40) d_A_fewestInTheWay_36 rfl ?_
      refine y_pick (L1 := [(0, .ref 62), (3, .int v2)]) [0, 3] rfl ?_
      exact J40 v2 (S.1 56 6) ((1 : Int32) <<< (y1 &&& 31)) _ h
  refine x_aload_n d_A_fewestInTheWay_0 rfl 0 rfl ?_
  refine y_getR d_A_fewestInTheWay_1 fl_8_24 rfl kd_62 rr_62_0 ?_
  refine y_getI d_A_fewestInTheWay_4 fl_8_104 rfl kd_56 ?_
  refine x_iload_n d_A_fewestInTheWay_7 rfl 2 rfl ?_
  refine x_iconst d_A_fewestInTheWay_8 ic_1 ?_
  refine x_icmp_ne (tgt := 18) d_A_fewestInTheWay_9 rfl (fun c1 => ?_) (fun c1 => ?_)
  · replace h := ite_f c1 h
    refine x_iconst d_A_fewestInTheWay_18 ic_0 ?_
    exact J19 p1 p2 (S.1 56 5) (0 : Int32) _ h
  · replace h := ite_t c1 h
    refine x_iconst d_A_fewestInTheWay_12 ic_1 ?_
    refine x_iload_n d_A_fewestInTheWay_13 rfl 1 rfl ?_
    refine x_ishl d_A_fewestInTheWay_14 ?_
    refine x_goto (tgt := 19) d_A_fewestInTheWay_15 rfl ?_
    exact J19 p1 p2 (S.1 56 5) ((1 : Int32) <<< (p1 &&& 31)) _ h
/-! NinetyPlayers.giveway -/
def fN_giveway (F G : Nat) (S : St) (p1 : Int32) (p2 : Int32) (p3 : Int32) : Option (Int32 × St) :=
  bd (fN_isLeftOut F G S p1) fun v2 => if v2 = 0 then some ((-1 : Int32), S) else bd (fN_isHand F G S p2) fun v5 => if v5 = 0 then some ((-1 : Int32), S) else if p3 < 0 then some ((-1 : Int32), S) else if p3 ≤ (1 : Int32) then bd (fN_lookAtKeys F G S ) fun S10 => bd (fN_weighAll F G S10 ) fun S12 => bd (fA_fewestInTheWay F G S12 p1 p2) fun v14 => if p3 = 0 then if v14 = (-1 : Int32) then some (v14, S12) else bd (fJ_bitCount F G S12 v14) fun v18 => some (v18, S12) else some (v14, S12) else some ((-1 : Int32), S)
set_option maxRecDepth 100000 in
set_option maxHeartbeats 4000000 in
theorem c_N_giveway {X : Nat × (Nat → Int32)} {D F G : Nat} (hD : 6 ≤ D) {S : St} {p1 : Int32} {p2 : Int32} {p3 : Int32} {res : Int32 × St} (h : fN_giveway F G S p1 p2 p3 = some res) : Ek X (D) mN_giveway 0 [(0, .ref 0), (1, .int p1), (2, .int p2), (3, .int p3)] [] S (some (.int res.1)) res.2 := by
  obtain ⟨D, rfl⟩ : ∃ E, D = E + 1 := ⟨D - 1, by omega⟩
  unfold fN_giveway at h
  refine x_aload_n d_N_giveway_0 rfl 0 rfl ?_
  refine x_iload_n d_N_giveway_1 rfl 1 rfl ?_
  obtain ⟨v2, q1, h⟩ := bd_inv h
  refine y_V1i (v := v2) (S1 := S) d_N_giveway_2 ml_0_282 kd_0 rfl (Nat.le_of_ble_eq_true rfl) (Nat.le_of_ble_eq_true rfl) (c_N_isLeftOut (by omega) q1) ?_
  refine x_if_eq (tgt := 24) d_N_giveway_5 rfl (fun c3 => ?_) (fun c3 => ?_)
  · replace h := ite_t c3 h
    refine x_iconst d_N_giveway_24 ic_m1 ?_
    obtain rfl := Option.some.inj h
    exact x_ret (r := some (.int (-1 : Int32))) d_N_giveway_25 ⟨_, rfl, rfl⟩
  · replace h := ite_f c3 h
    refine x_iload_n d_N_giveway_8 rfl 2 rfl ?_
    obtain ⟨v5, q4, h⟩ := bd_inv h
    refine y_S1i (v := v5) (S1 := S) d_N_giveway_9 ml_0_170 (Nat.le_of_ble_eq_true rfl) (Nat.le_of_ble_eq_true rfl) (c_N_isHand (by omega) q4) ?_
    refine x_if_eq (tgt := 24) d_N_giveway_12 rfl (fun c6 => ?_) (fun c6 => ?_)
    · replace h := ite_t c6 h
      refine x_iconst d_N_giveway_24 ic_m1 ?_
      obtain rfl := Option.some.inj h
      exact x_ret (r := some (.int (-1 : Int32))) d_N_giveway_25 ⟨_, rfl, rfl⟩
    · replace h := ite_f c6 h
      refine x_iload_n d_N_giveway_15 rfl 3 rfl ?_
      refine x_if_lt (tgt := 24) d_N_giveway_16 rfl (fun c7 => ?_) (fun c7 => ?_)
      · replace h := ite_t c7 h
        refine x_iconst d_N_giveway_24 ic_m1 ?_
        obtain rfl := Option.some.inj h
        exact x_ret (r := some (.int (-1 : Int32))) d_N_giveway_25 ⟨_, rfl, rfl⟩
      · replace h := ite_f c7 h
        refine x_iload_n d_N_giveway_19 rfl 3 rfl ?_
        refine x_iconst d_N_giveway_20 ic_1 ?_
        refine x_icmp_le (tgt := 26) d_N_giveway_21 rfl (fun c8 => ?_) (fun c8 => ?_)
        · replace h := ite_t c8 h
          refine x_aload_n d_N_giveway_26 rfl 0 rfl ?_
          obtain ⟨S10, q9, h⟩ := bd_inv h
          refine y_V0v (S1 := S10) d_N_giveway_27 ml_0_173 kd_0 rfl (Nat.le_of_ble_eq_true rfl) (Nat.le_of_ble_eq_true rfl) (c_N_lookAtKeys (by omega) q9) ?_
          refine x_aload_n d_N_giveway_30 rfl 0 rfl ?_
          obtain ⟨S12, q11, h⟩ := bd_inv h
          refine y_V0v (S1 := S12) d_N_giveway_31 ml_0_271 kd_0 rfl (Nat.le_of_ble_eq_true rfl) (Nat.le_of_ble_eq_true rfl) (c_N_weighAll (by omega) q11) ?_
          refine x_aload_n d_N_giveway_34 rfl 0 rfl ?_
          refine y_getR d_N_giveway_35 fl_0_63 rfl kd_0 rr_0_9 ?_
          refine x_iload_n d_N_giveway_38 rfl 1 rfl ?_
          refine x_iload_n d_N_giveway_39 rfl 2 rfl ?_
          obtain ⟨v14, q13, h⟩ := bd_inv h
          refine y_V2i (v := v14) (S1 := S12) d_N_giveway_40 ml_0_288 kd_62 rfl (Nat.le_of_ble_eq_true rfl) (Nat.le_of_ble_eq_true rfl) (c_A_fewestInTheWay (by omega) q13) ?_
          refine x_istore (L1 := [(0, .ref 0), (1, .int p1), (2, .int p2), (3, .int p3), (4, .int v14)]) d_N_giveway_43 (Nat.le_of_ble_eq_true rfl) rfl rfl ?_
          refine x_iload_n d_N_giveway_45 rfl 3 rfl ?_
          refine x_if_ne (tgt := 63) d_N_giveway_46 rfl (fun c15 => ?_) (fun c15 => ?_)
          · replace h := ite_f c15 h
            refine x_iload d_N_giveway_63 4 rfl ?_
            obtain rfl := Option.some.inj h
            exact x_ret (r := some (.int v14)) d_N_giveway_65 ⟨_, rfl, rfl⟩
          · replace h := ite_t c15 h
            refine x_iload d_N_giveway_49 4 rfl ?_
            refine x_iconst d_N_giveway_51 ic_m1 ?_
            refine x_icmp_eq (tgt := 63) d_N_giveway_52 rfl (fun c16 => ?_) (fun c16 => ?_)
            · replace h := ite_t c16 h
              refine x_iload d_N_giveway_63 4 rfl ?_
              obtain rfl := Option.some.inj h
              exact x_ret (r := some (.int v14)) d_N_giveway_65 ⟨_, rfl, rfl⟩
            · replace h := ite_f c16 h
              refine x_iload d_N_giveway_55 4 rfl ?_
              obtain ⟨v18, q17, h⟩ := bd_inv h
              refine y_S1i (v := v18) (S1 := S12) d_N_giveway_57 ml_0_206 (Nat.le_of_ble_eq_true rfl) (Nat.le_of_ble_eq_true rfl) (c_J_bitCount (by omega) q17) ?_
              refine x_goto (tgt := 65) d_N_giveway_60 rfl ?_
              obtain rfl := Option.some.inj h
              exact x_ret (r := some (.int v18)) d_N_giveway_65 ⟨_, rfl, rfl⟩
        · replace h := ite_f c8 h
          refine x_iconst d_N_giveway_24 ic_m1 ?_
          obtain rfl := Option.some.inj h
          exact x_ret (r := some (.int (-1 : Int32))) d_N_giveway_25 ⟨_, rfl, rfl⟩
/-! NinetyPlayersModel.giveway -/
def j_M_giveway_140 (F G : Nat) (S : St) (z3 : Int32) (z4 : Int32) (z5 : Int32) (z6 : Int32) (k179 : Int32 → Option (Int32 × St)) (rec : Int32 → Int32 → Option (Int32 × St)) (_ : St) (y7 : Int32) (y8 : Int32) : Option (Int32 × St) :=
  bd (fM_canBePlayed F G S (z4 &&& (y8 ^^^ (-1 : Int32))) (z5 &&& (y8 ^^^ (-1 : Int32))) (S.1 78 50) (S.1 78 49)) fun v48 => if v48 = 0 then lt (y8 + 1) fun v50 => rec y7 v50 else lt (y8 + 1) fun v52 => rec y8 v52
def b_M_giveway_74 (F G : Nat) (S : St) (z3 : Int32) (z4 : Int32) (z5 : Int32) (z6 : Int32) (k179 : Int32 → Option (Int32 × St)) (rec : Int32 → Int32 → Option (Int32 × St)) (w7 : Int32) (w8 : Int32) : Option (Int32 × St) :=
  if z6 < w8 then k179 w7 else if (w8 &&& (z6 ^^^ (-1 : Int32))) = 0 then if w7 < 0 then j_M_giveway_140 F G S z3 z4 z5 z6 k179 rec  S w7 w8 else bd (fM_members F G S w8) fun v29 => bd (fM_members F G S w7) fun v31 => if v31 < v29 then lt (w8 + 1) fun v33 => rec w7 v33 else bd (fM_members F G S w8) fun v36 => bd (fM_members F G S w7) fun v38 => if v36 = v38 then bd (fM_missedBy F G S w8) fun v41 => bd (fM_missedBy F G S w7) fun v43 => if v41 < v43 then j_M_giveway_140 F G S z3 z4 z5 z6 k179 rec  S w7 w8 else lt (w8 + 1) fun v45 => rec w7 v45 else j_M_giveway_140 F G S z3 z4 z5 z6 k179 rec  S w7 w8 else lt (w8 + 1) fun v25 => rec w7 v25
def fM_giveway (F G : Nat) (S : St) (p1 : Int32) (p2 : Int32) (p3 : Int32) : Option (Int32 × St) :=
  bd (fM_isOut F G S p1) fun v2 => if v2 = 0 then some ((-1 : Int32), S) else bd (fM_isHand F G S p2) fun v5 => if v5 = 0 then some ((-1 : Int32), S) else bd (fM_isIn F G S p3 (0 : Int32) (1 : Int32)) fun v8 => if v8 = 0 then some ((-1 : Int32), S) else bd (fM_fill F G S ) fun S11 => bd (fM_layMissed F G S11 ) fun S13 => gd (inB p1 41) (lt (sI S13 101 p1.toNatClampNeg p2) fun S15 => bd (fM_given F G S15 (1 : Int32)) fun v18 => bd (fM_given F G S15 (2 : Int32)) fun v20 => lt ((v18 ||| v20) &&& (((1 : Int32) <<< (p1 &&& 31)) ^^^ (-1 : Int32))) fun v21 => fx2 (b_M_giveway_74 F G S15 p3 v18 v20 v21 (fun v54 => if 0 ≤ v54 then if p3 = 0 then bd (fM_members F G S15 v54) fun v58 => some (v58, S15) else some (v54, S15) else some ((-1 : Int32), S15))) F (-1 : Int32) (0 : Int32))
set_option maxRecDepth 100000 in
set_option maxHeartbeats 4000000 in
theorem T_M_giveway_74 {X : Nat × (Nat → Int32)} {D F G : Nat} (hD : 4 ≤ D + 1) {S : St} {z3 : Int32} {z4 : Int32} {z5 : Int32} {z6 : Int32} {k179 : Int32 → Option (Int32 × St)} (hk179 : ∀ (u7 : Int32) (res : Int32 × St), k179 u7 = some res → Ek X (D + 1) mM_giveway 179 [(3, .int z3), (7, .int u7)] [] S (some (.int res.1)) res.2) : ∀ (f : Nat) (w7 : Int32) (w8 : Int32) (res : Int32 × St), fx2 (b_M_giveway_74 F G S z3 z4 z5 z6 k179 ) f w7 w8 = some res → Ek X (D + 1) mM_giveway 74 [(0, .ref 78), (3, .int z3), (4, .int z4), (5, .int z5), (6, .int z6), (7, .int w7), (8, .int w8)] [] S (some (.int res.1)) res.2 := by
  refine fx2_ind ?_
  intro rec ih w7 w8 res h
  unfold b_M_giveway_74 at h
  have J140 : ∀ (y7 : Int32) (y8 : Int32) (res : Int32 × St), j_M_giveway_140 F G S z3 z4 z5 z6 k179 rec S y7 y8 = some res → Ek X (D + 1) mM_giveway 140 [(0, .ref 78), (3, .int z3), (4, .int z4), (5, .int z5), (6, .int z6), (7, .int y7), (8, .int y8)] [] S (some (.int res.1)) res.2 := by
    intro y7 y8 res h
    unfold j_M_giveway_140 at h
    refine x_aload_n d_M_giveway_140 rfl 0 rfl ?_
    refine x_iload d_M_giveway_141 2 rfl ?_
    refine x_iload d_M_giveway_143 6 rfl ?_
    refine x_iconst d_M_giveway_145 ic_m1 ?_
    refine x_ixor d_M_giveway_146 ?_
    refine x_iand d_M_giveway_147 ?_
    refine x_iload d_M_giveway_148 3 rfl ?_
    refine x_iload d_M_giveway_150 6 rfl ?_
    refine x_iconst d_M_giveway_152 ic_m1 ?_
    refine x_ixor d_M_giveway_153 ?_
    refine x_iand d_M_giveway_154 ?_
    refine x_aload_n d_M_giveway_155 rfl 0 rfl ?_
    refine y_getI d_M_giveway_156 fl_11_84 rfl kd_78 ?_
    refine x_aload_n d_M_giveway_159 rfl 0 rfl ?_
    refine y_getI d_M_giveway_160 fl_11_81 rfl kd_78 ?_
    obtain ⟨v48, q47, h⟩ := bd_inv h
    refine y_V4i (v := v48) (S1 := S) d_M_giveway_163 ml_11_457 kd_78 rfl (Nat.le_of_ble_eq_true rfl) (Nat.le_of_ble_eq_true rfl) (c_M_canBePlayed (by omega) q47) ?_
    refine x_if_eq (tgt := 173) d_M_giveway_166 rfl (fun c49 => ?_) (fun c49 => ?_)
    · replace h := ite_t c49 h
      obtain ⟨v50, e51, h⟩ := lt_inv h
      refine y_iinc (L1 := [(0, .ref 78), (3, .int z3), (4, .int z4), (5, .int z5), (6, .int z6), (7, .int y7), (8, .int v50)]) e51 ic_1 d_M_giveway_173 6 rfl (Nat.le_of_ble_eq_true rfl) rfl rfl ?_
      refine x_goto (tgt := 74) d_M_giveway_176 rfl ?_
      exact ih y7 v50 _ h
    · replace h := ite_f c49 h
      refine x_iload d_M_giveway_169 6 rfl ?_
      refine x_istore (L1 := [(0, .ref 78), (3, .int z3), (4, .int z4), (5, .int z5), (6, .int z6), (7, .int y8), (8, .int y8)]) d_M_giveway_171 (Nat.le_of_ble_eq_true rfl) rfl rfl ?_
      obtain ⟨v52, e53, h⟩ := lt_inv h
      refine y_iinc (L1 := [(0, .ref 78), (3, .int z3), (4, .int z4), (5, .int z5), (6, .int z6), (7, .int y8), (8, .int v52)]) e53 ic_1 d_M_giveway_173 6 rfl (Nat.le_of_ble_eq_true rfl) rfl rfl ?_
      refine x_goto (tgt := 74) d_M_giveway_176 rfl ?_
      exact ih y8 v52 _ h
  refine x_iload d_M_giveway_74 6 rfl ?_
  refine x_iload d_M_giveway_76 4 rfl ?_
  refine x_icmp_gt (tgt := 179) d_M_giveway_78 rfl (fun c23 => ?_) (fun c23 => ?_)
  · replace h := ite_t c23 h
    refine y_pick (L1 := [(3, .int z3), (7, .int w7)]) [1, 5] rfl ?_
    exact hk179 w7 _ h
  · replace h := ite_f c23 h
    refine x_iload d_M_giveway_81 6 rfl ?_
    refine x_iload d_M_giveway_83 4 rfl ?_
    refine x_iconst d_M_giveway_85 ic_m1 ?_
    refine x_ixor d_M_giveway_86 ?_
    refine x_iand d_M_giveway_87 ?_
    refine x_if_ne (tgt := 173) d_M_giveway_88 rfl (fun c24 => ?_) (fun c24 => ?_)
    · replace h := ite_f c24 h
      obtain ⟨v25, e26, h⟩ := lt_inv h
      refine y_iinc (L1 := [(0, .ref 78), (3, .int z3), (4, .int z4), (5, .int z5), (6, .int z6), (7, .int w7), (8, .int v25)]) e26 ic_1 d_M_giveway_173 6 rfl (Nat.le_of_ble_eq_true rfl) rfl rfl ?_
      refine x_goto (tgt := 74) d_M_giveway_176 rfl ?_
      exact ih w7 v25 _ h
    · replace h := ite_t c24 h
      refine x_iload d_M_giveway_91 5 rfl ?_
      refine x_if_lt (tgt := 140) d_M_giveway_93 rfl (fun c27 => ?_) (fun c27 => ?_)
      · replace h := ite_t c27 h
        exact J140 w7 w8 _ h
      · replace h := ite_f c27 h
        refine x_iload d_M_giveway_96 6 rfl ?_
        obtain ⟨v29, q28, h⟩ := bd_inv h
        refine y_S1i (v := v29) (S1 := S) d_M_giveway_98 ml_11_331 (Nat.le_of_ble_eq_true rfl) (Nat.le_of_ble_eq_true rfl) (c_M_members (by omega) q28) ?_
        refine x_iload d_M_giveway_101 5 rfl ?_
        obtain ⟨v31, q30, h⟩ := bd_inv h
        refine y_S1i (v := v31) (S1 := S) d_M_giveway_103 ml_11_331 (Nat.le_of_ble_eq_true rfl) (Nat.le_of_ble_eq_true rfl) (c_M_members (by omega) q30) ?_
        refine x_icmp_gt (tgt := 173) d_M_giveway_106 rfl (fun c32 => ?_) (fun c32 => ?_)
        · replace h := ite_t c32 h
          obtain ⟨v33, e34, h⟩ := lt_inv h
          refine y_iinc (L1 := [(0, .ref 78), (3, .int z3), (4, .int z4), (5, .int z5), (6, .int z6), (7, .int w7), (8, .int v33)]) e34 ic_1 d_M_giveway_173 6 rfl (Nat.le_of_ble_eq_true rfl) rfl rfl ?_
          refine x_goto (tgt := 74) d_M_giveway_176 rfl ?_
          exact ih w7 v33 _ h
        · replace h := ite_f c32 h
          refine x_iload d_M_giveway_109 6 rfl ?_
          obtain ⟨v36, q35, h⟩ := bd_inv h
          refine y_S1i (v := v36) (S1 := S) d_M_giveway_111 ml_11_331 (Nat.le_of_ble_eq_true rfl) (Nat.le_of_ble_eq_true rfl) (c_M_members (by omega) q35) ?_
          refine x_iload d_M_giveway_114 5 rfl ?_
          obtain ⟨v38, q37, h⟩ := bd_inv h
          refine y_S1i (v := v38) (S1 := S) d_M_giveway_116 ml_11_331 (Nat.le_of_ble_eq_true rfl) (Nat.le_of_ble_eq_true rfl) (c_M_members (by omega) q37) ?_
          refine x_icmp_ne (tgt := 140) d_M_giveway_119 rfl (fun c39 => ?_) (fun c39 => ?_)
          · replace h := ite_f c39 h
            exact J140 w7 w8 _ h
          · replace h := ite_t c39 h
            refine x_aload_n d_M_giveway_122 rfl 0 rfl ?_
            refine x_iload d_M_giveway_123 6 rfl ?_
            obtain ⟨v41, q40, h⟩ := bd_inv h
            refine y_V1i (v := v41) (S1 := S) d_M_giveway_125 ml_11_500 kd_78 rfl (Nat.le_of_ble_eq_true rfl) (Nat.le_of_ble_eq_true rfl) (c_M_missedBy (by omega) q40) ?_
            refine x_aload_n d_M_giveway_128 rfl 0 rfl ?_
            refine x_iload d_M_giveway_129 5 rfl ?_
            obtain ⟨v43, q42, h⟩ := bd_inv h
            refine y_V1i (v := v43) (S1 := S) d_M_giveway_131 ml_11_500 kd_78 rfl (Nat.le_of_ble_eq_true rfl) (Nat.le_of_ble_eq_true rfl) (c_M_missedBy (by omega) q42) ?_
            refine x_icmp_lt (tgt := 140) d_M_giveway_134 rfl (fun c44 => ?_) (fun c44 => ?_)
            · replace h := ite_t c44 h
              exact J140 w7 w8 _ h
            · replace h := ite_f c44 h
              refine x_goto (tgt := 173) d_M_giveway_137 rfl ?_
              obtain ⟨v45, e46, h⟩ := lt_inv h
              refine y_iinc (L1 := [(0, .ref 78), (3, .int z3), (4, .int z4), (5, .int z5), (6, .int z6), (7, .int w7), (8, .int v45)]) e46 ic_1 d_M_giveway_173 6 rfl (Nat.le_of_ble_eq_true rfl) rfl rfl ?_
              refine x_goto (tgt := 74) d_M_giveway_176 rfl ?_
              exact ih w7 v45 _ h
set_option maxRecDepth 100000 in
set_option maxHeartbeats 4000000 in
theorem c_M_giveway {X : Nat × (Nat → Int32)} {D F G : Nat} (hD : 4 ≤ D) {S : St} {p1 : Int32} {p2 : Int32} {p3 : Int32} {res : Int32 × St} (h : fM_giveway F G S p1 p2 p3 = some res) : Ek X (D) mM_giveway 0 [(0, .ref 78), (1, .int p1), (2, .int p2), (3, .int p3)] [] S (some (.int res.1)) res.2 := by
  obtain ⟨D, rfl⟩ : ∃ E, D = E + 1 := ⟨D - 1, by omega⟩
  unfold fM_giveway at h
  refine x_aload_n d_M_giveway_0 rfl 0 rfl ?_
  refine x_iload_n d_M_giveway_1 rfl 1 rfl ?_
  obtain ⟨v2, q1, h⟩ := bd_inv h
  refine y_V1i (v := v2) (S1 := S) d_M_giveway_2 ml_11_515 kd_78 rfl (Nat.le_of_ble_eq_true rfl) (Nat.le_of_ble_eq_true rfl) (c_M_isOut (by omega) q1) ?_
  refine x_if_eq (tgt := 24) d_M_giveway_5 rfl (fun c3 => ?_) (fun c3 => ?_)
  · replace h := ite_t c3 h
    refine x_iconst d_M_giveway_24 ic_m1 ?_
    obtain rfl := Option.some.inj h
    exact x_ret (r := some (.int (-1 : Int32))) d_M_giveway_25 ⟨_, rfl, rfl⟩
  · replace h := ite_f c3 h
    refine x_iload_n d_M_giveway_8 rfl 2 rfl ?_
    obtain ⟨v5, q4, h⟩ := bd_inv h
    refine y_S1i (v := v5) (S1 := S) d_M_giveway_9 ml_11_476 (Nat.le_of_ble_eq_true rfl) (Nat.le_of_ble_eq_true rfl) (c_M_isHand (by omega) q4) ?_
    refine x_if_eq (tgt := 24) d_M_giveway_12 rfl (fun c6 => ?_) (fun c6 => ?_)
    · replace h := ite_t c6 h
      refine x_iconst d_M_giveway_24 ic_m1 ?_
      obtain rfl := Option.some.inj h
      exact x_ret (r := some (.int (-1 : Int32))) d_M_giveway_25 ⟨_, rfl, rfl⟩
    · replace h := ite_f c6 h
      refine x_iload_n d_M_giveway_15 rfl 3 rfl ?_
      refine x_iconst d_M_giveway_16 ic_0 ?_
      refine x_iconst d_M_giveway_17 ic_1 ?_
      obtain ⟨v8, q7, h⟩ := bd_inv h
      refine y_S3i (v := v8) (S1 := S) d_M_giveway_18 ml_11_429 (Nat.le_of_ble_eq_true rfl) (Nat.le_of_ble_eq_true rfl) (c_M_isIn (by omega) q7) ?_
      refine x_if_ne (tgt := 26) d_M_giveway_21 rfl (fun c9 => ?_) (fun c9 => ?_)
      · replace h := ite_f c9 h
        refine x_aload_n d_M_giveway_26 rfl 0 rfl ?_
        obtain ⟨S11, q10, h⟩ := bd_inv h
        refine y_V0v (S1 := S11) d_M_giveway_27 ml_11_464 kd_78 rfl (Nat.le_of_ble_eq_true rfl) (Nat.le_of_ble_eq_true rfl) (c_M_fill (by omega) q10) ?_
        refine x_aload_n d_M_giveway_30 rfl 0 rfl ?_
        obtain ⟨S13, q12, h⟩ := bd_inv h
        refine y_V0v (S1 := S13) d_M_giveway_31 ml_11_497 kd_78 rfl (Nat.le_of_ble_eq_true rfl) (Nat.le_of_ble_eq_true rfl) (c_M_layMissed (by omega) q12) ?_
        refine x_aload_n d_M_giveway_34 rfl 0 rfl ?_
        refine y_getR d_M_giveway_35 fl_11_96 rfl kd_78 rr_78_59 ?_
        refine x_iload_n d_M_giveway_38 rfl 1 rfl ?_
        refine x_iload_n d_M_giveway_39 rfl 2 rfl ?_
        obtain ⟨g14, h⟩ := gd_inv h
        obtain ⟨S15, e16, h⟩ := lt_inv h
        refine y_iast e16 d_M_giveway_40 kd_101 g14 ?_
        refine x_aload_n d_M_giveway_41 rfl 0 rfl ?_
        refine x_iconst d_M_giveway_42 ic_1 ?_
        obtain ⟨v18, q17, h⟩ := bd_inv h
        refine y_V1i (v := v18) (S1 := S15) d_M_giveway_43 ml_11_454 kd_78 rfl (Nat.le_of_ble_eq_true rfl) (Nat.le_of_ble_eq_true rfl) (c_M_given (by omega) q17) ?_
        refine x_istore (L1 := [(0, .ref 78), (1, .int p1), (2, .int p2), (3, .int p3), (4, .int v18)]) d_M_giveway_46 (Nat.le_of_ble_eq_true rfl) rfl rfl ?_
        refine x_aload_n d_M_giveway_48 rfl 0 rfl ?_
        refine x_iconst d_M_giveway_49 ic_2 ?_
        obtain ⟨v20, q19, h⟩ := bd_inv h
        refine y_V1i (v := v20) (S1 := S15) d_M_giveway_50 ml_11_454 kd_78 rfl (Nat.le_of_ble_eq_true rfl) (Nat.le_of_ble_eq_true rfl) (c_M_given (by omega) q19) ?_
        refine x_istore (L1 := [(0, .ref 78), (1, .int p1), (2, .int p2), (3, .int p3), (4, .int v18), (5, .int v20)]) d_M_giveway_53 (Nat.le_of_ble_eq_true rfl) rfl rfl ?_
        refine x_iload d_M_giveway_55 4 rfl ?_
        refine x_iload d_M_giveway_57 5 rfl ?_
        refine x_ior d_M_giveway_59 ?_
        refine x_iconst d_M_giveway_60 ic_1 ?_
        refine x_iload_n d_M_giveway_61 rfl 1 rfl ?_
        refine x_ishl d_M_giveway_62 ?_
        refine x_iconst d_M_giveway_63 ic_m1 ?_
        refine x_ixor d_M_giveway_64 ?_
        refine x_iand d_M_giveway_65 ?_
        obtain ⟨v21, e22, h⟩ := lt_inv h
        refine y_istore (L1 := [(0, .ref 78), (1, .int p1), (2, .int p2), (3, .int p3), (4, .int v18), (5, .int v20), (6, .int v21)]) e22 d_M_giveway_66 (Nat.le_of_ble_eq_true rfl) rfl rfl ?_
        refine x_iconst d_M_giveway_68 ic_m1 ?_
        refine x_istore (L1 := [(0, .ref 78), (1, .int p1), (2, .int p2), (3, .int p3), (4, .int v18), (5, .int v20), (6, .int v21), (7, .int (-1 : Int32))]) d_M_giveway_69 (Nat.le_of_ble_eq_true rfl) rfl rfl ?_
        refine x_iconst d_M_giveway_71 ic_0 ?_
        refine x_istore (L1 := [(0, .ref 78), (1, .int p1), (2, .int p2), (3, .int p3), (4, .int v18), (5, .int v20), (6, .int v21), (7, .int (-1 : Int32)), (8, .int (0 : Int32))]) d_M_giveway_72 (Nat.le_of_ble_eq_true rfl) rfl rfl ?_
        refine y_pick (L1 := [(0, .ref 78), (3, .int p3), (4, .int v18), (5, .int v20), (6, .int v21), (7, .int (-1 : Int32)), (8, .int (0 : Int32))]) [0, 3, 4, 5, 6, 7, 8] rfl ?_
        refine T_M_giveway_74 (by omega)  ?_ F (-1 : Int32) (0 : Int32) _ h
        · intro v54 res h
          refine x_iload d_M_giveway_179 1 rfl ?_
          refine x_if_ge (tgt := 188) d_M_giveway_181 rfl (fun c55 => ?_) (fun c55 => ?_)
          · replace h := ite_t c55 h
            refine x_iload_n d_M_giveway_188 rfl 0 rfl ?_
            refine x_if_ne (tgt := 200) d_M_giveway_189 rfl (fun c56 => ?_) (fun c56 => ?_)
            · replace h := ite_f c56 h
              refine x_iload d_M_giveway_200 1 rfl ?_
              obtain rfl := Option.some.inj h
              exact x_ret (r := some (.int v54)) d_M_giveway_202 ⟨_, rfl, rfl⟩
            · replace h := ite_t c56 h
              refine x_iload d_M_giveway_192 1 rfl ?_
              obtain ⟨v58, q57, h⟩ := bd_inv h
              refine y_S1i (v := v58) (S1 := S15) d_M_giveway_194 ml_11_331 (Nat.le_of_ble_eq_true rfl) (Nat.le_of_ble_eq_true rfl) (c_M_members (by omega) q57) ?_
              refine x_goto (tgt := 202) d_M_giveway_197 rfl ?_
              obtain rfl := Option.some.inj h
              exact x_ret (r := some (.int v58)) d_M_giveway_202 ⟨_, rfl, rfl⟩
          · replace h := ite_f c55 h
            refine x_iconst d_M_giveway_184 ic_m1 ?_
            refine x_goto (tgt := 202) d_M_giveway_185 rfl ?_
            obtain rfl := Option.some.inj h
            exact x_ret (r := some (.int (-1 : Int32))) d_M_giveway_202 ⟨_, rfl, rfl⟩
      · replace h := ite_t c9 h
        refine x_iconst d_M_giveway_24 ic_m1 ?_
        obtain rfl := Option.some.inj h
        exact x_ret (r := some (.int (-1 : Int32))) d_M_giveway_25 ⟨_, rfl, rfl⟩
/-! NinetyPlayers$Keyboard.handForShifted -/
def j_K_handForShifted_83 (F G : Nat) (S : St) (y1 : Int32) (y3 : Int32) (s0 : Int32) : Option (Int32 × St) :=
  gd (inB y1 10) (lt (sI S 57 y1.toNatClampNeg y3) fun S21 => some (s0, S21))
def fK_handForShifted (F G : Nat) (S : St) (p1 : Int32) (p2 : Int32) : Option (Int32 × St) :=
  gd (inB p1 10) (lt (S.1 57 p1.toNatClampNeg) fun v2 => lt (v2 + (p2 * (12 : Int32))) fun v4 => bd (fN_isKey F G S v4) fun v7 => if v7 = 0 then some ((0 : Int32), S) else lt ((1 : Int32) <<< (p1 &&& 31)) fun v9 => gd (inB p1 10) (lt (sI S 57 p1.toNatClampNeg v4) fun S12 => bd (fK_canBePlayed F G S12 ((S12.1 56 5) ||| v9) (S12.1 56 6)) fun v15 => if v15 = 0 then bd (fK_canBePlayed F G S12 (S12.1 56 5) ((S12.1 56 6) ||| v9)) fun v18 => if v18 = 0 then j_K_handForShifted_83 F G  S12 p1 v2 (0 : Int32) else j_K_handForShifted_83 F G  S12 p1 v2 (2 : Int32) else j_K_handForShifted_83 F G  S12 p1 v2 (1 : Int32)))
set_option maxRecDepth 100000 in
set_option maxHeartbeats 4000000 in
theorem c_K_handForShifted {X : Nat × (Nat → Int32)} {D F G : Nat} (hD : 5 ≤ D) {S : St} {p1 : Int32} {p2 : Int32} {res : Int32 × St} (h : fK_handForShifted F G S p1 p2 = some res) : Ek X (D) mK_handForShifted 0 [(0, .ref 56), (1, .int p1), (2, .int p2)] [] S (some (.int res.1)) res.2 := by
  obtain ⟨D, rfl⟩ : ∃ E, D = E + 1 := ⟨D - 1, by omega⟩
  unfold fK_handForShifted at h
  have J83 : ∀ (S : St) (y1 : Int32) (y3 : Int32) (s0 : Int32) (res : Int32 × St), j_K_handForShifted_83 F G S y1 y3 s0 = some res → Ek X (D + 1) mK_handForShifted 83 [(0, .ref 56), (1, .int y1), (3, .int y3)] [.int s0] S (some (.int res.1)) res.2 := by
    intro S y1 y3 s0 res h
    unfold j_K_handForShifted_83 at h
    refine x_istore (L1 := [(0, .ref 56), (1, .int y1), (3, .int y3), (6, .int s0)]) d_K_handForShifted_83 (Nat.le_of_ble_eq_true rfl) rfl rfl ?_
    refine x_aload_n d_K_handForShifted_85 rfl 0 rfl ?_
    refine y_getR d_K_handForShifted_86 fl_7_9 rfl kd_56 rr_56_8 ?_
    refine x_iload_n d_K_handForShifted_89 rfl 1 rfl ?_
    refine x_iload_n d_K_handForShifted_90 rfl 2 rfl ?_
    obtain ⟨g20, h⟩ := gd_inv h
    obtain ⟨S21, e22, h⟩ := lt_inv h
    refine y_iast e22 d_K_handForShifted_91 kd_57 g20 ?_
    refine x_iload d_K_handForShifted_92 3 rfl ?_
    obtain rfl := Option.some.inj h
    exact x_ret (r := some (.int s0)) d_K_handForShifted_94 ⟨_, rfl, rfl⟩
  refine x_aload_n d_K_handForShifted_0 rfl 0 rfl ?_
  refine y_getR d_K_handForShifted_1 fl_7_9 rfl kd_56 rr_56_8 ?_
  refine x_iload_n d_K_handForShifted_4 rfl 1 rfl ?_
  obtain ⟨g1, h⟩ := gd_inv h
  refine y_iald d_K_handForShifted_5 kd_57 g1 ?_
  obtain ⟨v2, e3, h⟩ := lt_inv h
  refine y_istore_n (L1 := [(0, .ref 56), (1, .int p1), (2, .int p2), (3, .int v2)]) e3 d_K_handForShifted_6 rfl (Nat.le_of_ble_eq_true rfl) rfl rfl ?_
  refine x_iload_n d_K_handForShifted_7 rfl 3 rfl ?_
  refine x_iload_n d_K_handForShifted_8 rfl 2 rfl ?_
  refine x_bipush d_K_handForShifted_9 bp_12 ?_
  refine x_imul d_K_handForShifted_11 ?_
  refine x_iadd d_K_handForShifted_12 ?_
  obtain ⟨v4, e5, h⟩ := lt_inv h
  refine y_istore (L1 := [(0, .ref 56), (1, .int p1), (2, .int p2), (3, .int v2), (4, .int v4)]) e5 d_K_handForShifted_13 (Nat.le_of_ble_eq_true rfl) rfl rfl ?_
  refine x_iload d_K_handForShifted_15 4 rfl ?_
  obtain ⟨v7, q6, h⟩ := bd_inv h
  refine y_SN1i (host := "NinetyPlayers") (v := v7) (S1 := S) d_K_handForShifted_17 ml_7_108 (by decide +kernel) (Nat.le_of_ble_eq_true rfl) (Nat.le_of_ble_eq_true rfl) (c_N_isKey (by omega) q6) ?_
  refine x_if_ne (tgt := 25) d_K_handForShifted_20 rfl (fun c8 => ?_) (fun c8 => ?_)
  · replace h := ite_f c8 h
    refine x_iconst d_K_handForShifted_25 ic_1 ?_
    refine x_iload_n d_K_handForShifted_26 rfl 1 rfl ?_
    refine x_ishl d_K_handForShifted_27 ?_
    obtain ⟨v9, e10, h⟩ := lt_inv h
    refine y_istore (L1 := [(0, .ref 56), (1, .int p1), (2, .int p2), (3, .int v2), (4, .int v4), (5, .int v9)]) e10 d_K_handForShifted_28 (Nat.le_of_ble_eq_true rfl) rfl rfl ?_
    refine x_aload_n d_K_handForShifted_30 rfl 0 rfl ?_
    refine y_getR d_K_handForShifted_31 fl_7_9 rfl kd_56 rr_56_8 ?_
    refine x_iload_n d_K_handForShifted_34 rfl 1 rfl ?_
    refine x_iload d_K_handForShifted_35 4 rfl ?_
    obtain ⟨g11, h⟩ := gd_inv h
    obtain ⟨S12, e13, h⟩ := lt_inv h
    refine y_iast e13 d_K_handForShifted_37 kd_57 g11 ?_
    refine x_aload_n d_K_handForShifted_38 rfl 0 rfl ?_
    refine x_aload_n d_K_handForShifted_39 rfl 0 rfl ?_
    refine y_getI d_K_handForShifted_40 fl_7_53 rfl kd_56 ?_
    refine x_iload d_K_handForShifted_43 5 rfl ?_
    refine x_ior d_K_handForShifted_45 ?_
    refine x_aload_n d_K_handForShifted_46 rfl 0 rfl ?_
    refine y_getI d_K_handForShifted_47 fl_7_56 rfl kd_56 ?_
    obtain ⟨v15, q14, h⟩ := bd_inv h
    refine y_V2i (v := v15) (S1 := S12) d_K_handForShifted_50 ml_7_111 kd_56 rfl (Nat.le_of_ble_eq_true rfl) (Nat.le_of_ble_eq_true rfl) (c_K_canBePlayed (by omega) q14) ?_
    refine x_if_eq (tgt := 60) d_K_handForShifted_53 rfl (fun c16 => ?_) (fun c16 => ?_)
    · replace h := ite_t c16 h
      refine x_aload_n d_K_handForShifted_60 rfl 0 rfl ?_
      refine x_aload_n d_K_handForShifted_61 rfl 0 rfl ?_
      refine y_getI d_K_handForShifted_62 fl_7_53 rfl kd_56 ?_
      refine x_aload_n d_K_handForShifted_65 rfl 0 rfl ?_
      refine y_getI d_K_handForShifted_66 fl_7_56 rfl kd_56 ?_
      refine x_iload d_K_handForShifted_69 5 rfl ?_
      refine x_ior d_K_handForShifted_71 ?_
      obtain ⟨v18, q17, h⟩ := bd_inv h
      refine y_V2i (v := v18) (S1 := S12) d_K_handForShifted_72 ml_7_111 kd_56 rfl (Nat.le_of_ble_eq_true rfl) (Nat.le_of_ble_eq_true rfl) (c_K_canBePlayed (by omega) q17) ?_
      refine x_if_eq (tgt := 82) d_K_handForShifted_75 rfl (fun c19 => ?_) (fun c19 => ?_)
      · replace h := ite_t c19 h
        refine x_iconst d_K_handForShifted_82 ic_0 ?_
        refine y_pick (L1 := [(0, .ref 56), (1, .int p1), (3, .int v2)]) [0, 1, 3] rfl ?_
        exact J83 S12 p1 v2 (0 : Int32) _ h
      · replace h := ite_f c19 h
        refine x_iconst d_K_handForShifted_78 ic_2 ?_
        refine x_goto (tgt := 83) d_K_handForShifted_79 rfl ?_
        refine y_pick (L1 := [(0, .ref 56), (1, .int p1), (3, .int v2)]) [0, 1, 3] rfl ?_
        exact J83 S12 p1 v2 (2 : Int32) _ h
    · replace h := ite_f c16 h
      refine x_iconst d_K_handForShifted_56 ic_1 ?_
      refine x_goto (tgt := 83) d_K_handForShifted_57 rfl ?_
      refine y_pick (L1 := [(0, .ref 56), (1, .int p1), (3, .int v2)]) [0, 1, 3] rfl ?_
      exact J83 S12 p1 v2 (1 : Int32) _ h
  · replace h := ite_t c8 h
    refine x_iconst d_K_handForShifted_23 ic_0 ?_
    obtain rfl := Option.some.inj h
    exact x_ret (r := some (.int (0 : Int32))) d_K_handForShifted_24 ⟨_, rfl, rfl⟩
/-! NinetyPlayers.letin -/
def b_N_letin_26 (F G : Nat) (z1 : Int32) (z2 : Int32) (rec : Int32 → St → Option (Int32 × St)) (w3 : Int32) (S : St) : Option (Int32 × St) :=
  if (7 : Int32) < w3 then some ((-100 : Int32), S) else bd2 (fK_handForShifted F G S z1 w3) fun v10 S11 => if v10 = 0 then bd2 (fK_handForShifted F G S11 z1 (-w3)) fun v14 S15 => if v14 = 0 then lt (w3 + 1) fun v17 => rec v17 S15 else if z2 = 0 then some (-w3, S15) else some (v14, S15) else if z2 = 0 then some (w3, S11) else some (v10, S11)
def fN_letin (F G : Nat) (S : St) (p1 : Int32) (p2 : Int32) : Option (Int32 × St) :=
  bd (fN_isLeftOut F G S p1) fun v2 => if v2 = 0 then some ((-100 : Int32), S) else if p2 < 0 then some ((-100 : Int32), S) else if p2 ≤ (1 : Int32) then bd (fN_lookAtKeys F G S ) fun S7 => fx2 (b_N_letin_26 F G p1 p2) F (0 : Int32) S7 else some ((-100 : Int32), S)
set_option maxRecDepth 100000 in
set_option maxHeartbeats 4000000 in
theorem T_N_letin_26 {X : Nat × (Nat → Int32)} {D F G : Nat} (hD : 6 ≤ D + 1) {z1 : Int32} {z2 : Int32} : ∀ (f : Nat) (w3 : Int32) (S : St) (res : Int32 × St), fx2 (b_N_letin_26 F G z1 z2 ) f w3 S = some res → Ek X (D + 1) mN_letin 26 [(0, .ref 0), (1, .int z1), (2, .int z2), (3, .int w3)] [] S (some (.int res.1)) res.2 := by
  refine fx2_ind ?_
  intro rec ih w3 S res h
  unfold b_N_letin_26 at h
  refine x_iload_n d_N_letin_26 rfl 3 rfl ?_
  refine x_bipush d_N_letin_27 bp_7 ?_
  refine x_icmp_gt (tgt := 94) d_N_letin_29 rfl (fun c8 => ?_) (fun c8 => ?_)
  · replace h := ite_t c8 h
    refine x_bipush d_N_letin_94 bp_m100 ?_
    obtain rfl := Option.some.inj h
    exact x_ret (r := some (.int (-100 : Int32))) d_N_letin_96 ⟨_, rfl, rfl⟩
  · replace h := ite_f c8 h
    refine x_aload_n d_N_letin_32 rfl 0 rfl ?_
    refine y_getR d_N_letin_33 fl_0_50 rfl kd_0 rr_0_7 ?_
    refine x_iload_n d_N_letin_36 rfl 1 rfl ?_
    refine x_iload_n d_N_letin_37 rfl 3 rfl ?_
    obtain ⟨v10, S11, q9, h⟩ := bd2_inv h
    refine y_V2i (v := v10) (S1 := S11) d_N_letin_38 ml_0_291 kd_56 rfl (Nat.le_of_ble_eq_true rfl) (Nat.le_of_ble_eq_true rfl) (c_K_handForShifted (by omega) q9) ?_
    refine x_istore (L1 := [(0, .ref 0), (1, .int z1), (2, .int z2), (3, .int w3), (4, .int v10)]) d_N_letin_41 (Nat.le_of_ble_eq_true rfl) rfl rfl ?_
    refine x_iload d_N_letin_43 4 rfl ?_
    refine x_if_eq (tgt := 59) d_N_letin_45 rfl (fun c12 => ?_) (fun c12 => ?_)
    · replace h := ite_t c12 h
      refine x_aload_n d_N_letin_59 rfl 0 rfl ?_
      refine y_getR d_N_letin_60 fl_0_50 rfl kd_0 rr_0_7 ?_
      refine x_iload_n d_N_letin_63 rfl 1 rfl ?_
      refine x_iload_n d_N_letin_64 rfl 3 rfl ?_
      refine x_ineg d_N_letin_65 ?_
      obtain ⟨v14, S15, q13, h⟩ := bd2_inv h
      refine y_V2i (v := v14) (S1 := S15) d_N_letin_66 ml_0_291 kd_56 rfl (Nat.le_of_ble_eq_true rfl) (Nat.le_of_ble_eq_true rfl) (c_K_handForShifted (by omega) q13) ?_
      refine x_istore (L1 := [(0, .ref 0), (1, .int z1), (2, .int z2), (3, .int w3), (4, .int v10), (5, .int v14)]) d_N_letin_69 (Nat.le_of_ble_eq_true rfl) rfl rfl ?_
      refine x_iload d_N_letin_71 5 rfl ?_
      refine x_if_eq (tgt := 88) d_N_letin_73 rfl (fun c16 => ?_) (fun c16 => ?_)
      · replace h := ite_t c16 h
        obtain ⟨v17, e18, h⟩ := lt_inv h
        refine y_iinc (L1 := [(0, .ref 0), (1, .int z1), (2, .int z2), (3, .int v17), (4, .int v10), (5, .int v14)]) e18 ic_1 d_N_letin_88 3 rfl (Nat.le_of_ble_eq_true rfl) rfl rfl ?_
        refine x_goto (tgt := 26) d_N_letin_91 rfl ?_
        refine y_pick (L1 := [(0, .ref 0), (1, .int z1), (2, .int z2), (3, .int v17)]) [0, 1, 2, 3] rfl ?_
        exact ih v17 S15 _ h
      · replace h := ite_f c16 h
        refine x_iload_n d_N_letin_76 rfl 2 rfl ?_
        refine x_if_ne (tgt := 85) d_N_letin_77 rfl (fun c19 => ?_) (fun c19 => ?_)
        · replace h := ite_f c19 h
          refine x_iload d_N_letin_85 5 rfl ?_
          obtain rfl := Option.some.inj h
          exact x_ret (r := some (.int v14)) d_N_letin_87 ⟨_, rfl, rfl⟩
        · replace h := ite_t c19 h
          refine x_iload_n d_N_letin_80 rfl 3 rfl ?_
          refine x_ineg d_N_letin_81 ?_
          refine x_goto (tgt := 87) d_N_letin_82 rfl ?_
          obtain rfl := Option.some.inj h
          exact x_ret (r := some (.int (-w3))) d_N_letin_87 ⟨_, rfl, rfl⟩
    · replace h := ite_f c12 h
      refine x_iload_n d_N_letin_48 rfl 2 rfl ?_
      refine x_if_ne (tgt := 56) d_N_letin_49 rfl (fun c20 => ?_) (fun c20 => ?_)
      · replace h := ite_f c20 h
        refine x_iload d_N_letin_56 4 rfl ?_
        obtain rfl := Option.some.inj h
        exact x_ret (r := some (.int v10)) d_N_letin_58 ⟨_, rfl, rfl⟩
      · replace h := ite_t c20 h
        refine x_iload_n d_N_letin_52 rfl 3 rfl ?_
        refine x_goto (tgt := 58) d_N_letin_53 rfl ?_
        obtain rfl := Option.some.inj h
        exact x_ret (r := some (.int w3)) d_N_letin_58 ⟨_, rfl, rfl⟩
set_option maxRecDepth 100000 in
set_option maxHeartbeats 4000000 in
theorem c_N_letin {X : Nat × (Nat → Int32)} {D F G : Nat} (hD : 6 ≤ D) {S : St} {p1 : Int32} {p2 : Int32} {res : Int32 × St} (h : fN_letin F G S p1 p2 = some res) : Ek X (D) mN_letin 0 [(0, .ref 0), (1, .int p1), (2, .int p2)] [] S (some (.int res.1)) res.2 := by
  obtain ⟨D, rfl⟩ : ∃ E, D = E + 1 := ⟨D - 1, by omega⟩
  unfold fN_letin at h
  refine x_aload_n d_N_letin_0 rfl 0 rfl ?_
  refine x_iload_n d_N_letin_1 rfl 1 rfl ?_
  obtain ⟨v2, q1, h⟩ := bd_inv h
  refine y_V1i (v := v2) (S1 := S) d_N_letin_2 ml_0_282 kd_0 rfl (Nat.le_of_ble_eq_true rfl) (Nat.le_of_ble_eq_true rfl) (c_N_isLeftOut (by omega) q1) ?_
  refine x_if_eq (tgt := 17) d_N_letin_5 rfl (fun c3 => ?_) (fun c3 => ?_)
  · replace h := ite_t c3 h
    refine x_bipush d_N_letin_17 bp_m100 ?_
    obtain rfl := Option.some.inj h
    exact x_ret (r := some (.int (-100 : Int32))) d_N_letin_19 ⟨_, rfl, rfl⟩
  · replace h := ite_f c3 h
    refine x_iload_n d_N_letin_8 rfl 2 rfl ?_
    refine x_if_lt (tgt := 17) d_N_letin_9 rfl (fun c4 => ?_) (fun c4 => ?_)
    · replace h := ite_t c4 h
      refine x_bipush d_N_letin_17 bp_m100 ?_
      obtain rfl := Option.some.inj h
      exact x_ret (r := some (.int (-100 : Int32))) d_N_letin_19 ⟨_, rfl, rfl⟩
    · replace h := ite_f c4 h
      refine x_iload_n d_N_letin_12 rfl 2 rfl ?_
      refine x_iconst d_N_letin_13 ic_1 ?_
      refine x_icmp_le (tgt := 20) d_N_letin_14 rfl (fun c5 => ?_) (fun c5 => ?_)
      · replace h := ite_t c5 h
        refine x_aload_n d_N_letin_20 rfl 0 rfl ?_
        obtain ⟨S7, q6, h⟩ := bd_inv h
        refine y_V0v (S1 := S7) d_N_letin_21 ml_0_173 kd_0 rfl (Nat.le_of_ble_eq_true rfl) (Nat.le_of_ble_eq_true rfl) (c_N_lookAtKeys (by omega) q6) ?_
        refine x_iconst d_N_letin_24 ic_0 ?_
        refine x_istore_n (L1 := [(0, .ref 0), (1, .int p1), (2, .int p2), (3, .int (0 : Int32))]) d_N_letin_25 rfl (Nat.le_of_ble_eq_true rfl) rfl rfl ?_
        refine T_N_letin_26 (by omega)   F (0 : Int32) S7 _ h
      · replace h := ite_f c5 h
        refine x_bipush d_N_letin_17 bp_m100 ?_
        obtain rfl := Option.some.inj h
        exact x_ret (r := some (.int (-100 : Int32))) d_N_letin_19 ⟨_, rfl, rfl⟩
/-! NinetyPlayersModel.canBePlayedSo -/
def fM_canBePlayedSo (F G : Nat) (S : St) : Option (Int32) :=
  bd (fM_given F G S (1 : Int32)) fun v2 => bd (fM_given F G S (2 : Int32)) fun v4 => bd (fM_canBePlayed F G S v2 v4 (S.1 78 50) (S.1 78 49)) fun v6 => gd (isB v6) (some v6)
set_option maxRecDepth 100000 in
set_option maxHeartbeats 4000000 in
theorem c_M_canBePlayedSo {X : Nat × (Nat → Int32)} {D F G : Nat} (hD : 4 ≤ D) {S : St} {res : Int32} (h : fM_canBePlayedSo F G S  = some res) : Ek X (D) mM_canBePlayedSo 0 [(0, .ref 78)] [] S (some (.int res)) S := by
  obtain ⟨D, rfl⟩ : ∃ E, D = E + 1 := ⟨D - 1, by omega⟩
  unfold fM_canBePlayedSo at h
  refine x_aload_n d_M_canBePlayedSo_0 rfl 0 rfl ?_
  refine x_aload_n d_M_canBePlayedSo_1 rfl 0 rfl ?_
  refine x_iconst d_M_canBePlayedSo_2 ic_1 ?_
  obtain ⟨v2, q1, h⟩ := bd_inv h
  refine y_V1i (v := v2) (S1 := S) d_M_canBePlayedSo_3 ml_11_454 kd_78 rfl (Nat.le_of_ble_eq_true rfl) (Nat.le_of_ble_eq_true rfl) (c_M_given (by omega) q1) ?_
  refine x_aload_n d_M_canBePlayedSo_6 rfl 0 rfl ?_
  refine x_iconst d_M_canBePlayedSo_7 ic_2 ?_
  obtain ⟨v4, q3, h⟩ := bd_inv h
  refine y_V1i (v := v4) (S1 := S) d_M_canBePlayedSo_8 ml_11_454 kd_78 rfl (Nat.le_of_ble_eq_true rfl) (Nat.le_of_ble_eq_true rfl) (c_M_given (by omega) q3) ?_
  refine x_aload_n d_M_canBePlayedSo_11 rfl 0 rfl ?_
  refine y_getI d_M_canBePlayedSo_12 fl_11_84 rfl kd_78 ?_
  refine x_aload_n d_M_canBePlayedSo_15 rfl 0 rfl ?_
  refine y_getI d_M_canBePlayedSo_16 fl_11_81 rfl kd_78 ?_
  obtain ⟨v6, q5, h⟩ := bd_inv h
  refine y_V4i (v := v6) (S1 := S) d_M_canBePlayedSo_19 ml_11_457 kd_78 rfl (Nat.le_of_ble_eq_true rfl) (Nat.le_of_ble_eq_true rfl) (c_M_canBePlayed (by omega) q5) ?_
  obtain ⟨g7, h⟩ := gd_inv h
  obtain rfl := Option.some.inj h
  exact x_ret (r := some (.int v6)) d_M_canBePlayedSo_22 ⟨_, rfl, isB_nar g7⟩
/-! NinetyPlayersModel.letsIn -/
def fM_letsIn (F G : Nat) (S : St) (p1 : Int32) (p2 : Int32) (p3 : Int32) : Option (Int32 × St) :=
  gd (inB ((10 : Int32) + p1) 41) (lt ((S.1 100 ((10 : Int32) + p1).toNatClampNeg) + ((12 : Int32) * p2)) fun v2 => bd (fM_isIn F G S v2 (0 : Int32) (87 : Int32)) fun v5 => if v5 = 0 then some ((0 : Int32), S) else bd (fM_fill F G S ) fun S8 => gd (inB ((10 : Int32) + p1) 41) (lt (sI S8 101 ((10 : Int32) + p1).toNatClampNeg v2) fun S10 => gd (inB p1 41) (lt (sI S10 101 p1.toNatClampNeg p3) fun S13 => bd (fM_canBePlayedSo F G S13) fun v16 => gd (isB v16) (some (v16, S13)))))
set_option maxRecDepth 100000 in
set_option maxHeartbeats 4000000 in
theorem c_M_letsIn {X : Nat × (Nat → Int32)} {D F G : Nat} (hD : 5 ≤ D) {S : St} {p1 : Int32} {p2 : Int32} {p3 : Int32} {res : Int32 × St} (h : fM_letsIn F G S p1 p2 p3 = some res) : Ek X (D) mM_letsIn 0 [(0, .ref 78), (1, .int p1), (2, .int p2), (3, .int p3)] [] S (some (.int res.1)) res.2 := by
  obtain ⟨D, rfl⟩ : ∃ E, D = E + 1 := ⟨D - 1, by omega⟩
  unfold fM_letsIn at h
  refine x_aload_n d_M_letsIn_0 rfl 0 rfl ?_
  refine y_getR d_M_letsIn_1 fl_11_93 rfl kd_78 rr_78_58 ?_
  refine x_bipush d_M_letsIn_4 bp_10 ?_
  refine x_iload_n d_M_letsIn_6 rfl 1 rfl ?_
  refine x_iadd d_M_letsIn_7 ?_
  obtain ⟨g1, h⟩ := gd_inv h
  refine y_iald d_M_letsIn_8 kd_100 g1 ?_
  refine x_bipush d_M_letsIn_9 bp_12 ?_
  refine x_iload_n d_M_letsIn_11 rfl 2 rfl ?_
  refine x_imul d_M_letsIn_12 ?_
  refine x_iadd d_M_letsIn_13 ?_
  obtain ⟨v2, e3, h⟩ := lt_inv h
  refine y_istore (L1 := [(0, .ref 78), (1, .int p1), (2, .int p2), (3, .int p3), (4, .int v2)]) e3 d_M_letsIn_14 (Nat.le_of_ble_eq_true rfl) rfl rfl ?_
  refine x_iload d_M_letsIn_16 4 rfl ?_
  refine x_iconst d_M_letsIn_18 ic_0 ?_
  refine x_bipush d_M_letsIn_19 bp_87 ?_
  obtain ⟨v5, q4, h⟩ := bd_inv h
  refine y_S3i (v := v5) (S1 := S) d_M_letsIn_21 ml_11_429 (Nat.le_of_ble_eq_true rfl) (Nat.le_of_ble_eq_true rfl) (c_M_isIn (by omega) q4) ?_
  refine x_if_ne (tgt := 29) d_M_letsIn_24 rfl (fun c6 => ?_) (fun c6 => ?_)
  · replace h := ite_f c6 h
    refine x_aload_n d_M_letsIn_29 rfl 0 rfl ?_
    obtain ⟨S8, q7, h⟩ := bd_inv h
    refine y_V0v (S1 := S8) d_M_letsIn_30 ml_11_464 kd_78 rfl (Nat.le_of_ble_eq_true rfl) (Nat.le_of_ble_eq_true rfl) (c_M_fill (by omega) q7) ?_
    refine x_aload_n d_M_letsIn_33 rfl 0 rfl ?_
    refine y_getR d_M_letsIn_34 fl_11_96 rfl kd_78 rr_78_59 ?_
    refine x_bipush d_M_letsIn_37 bp_10 ?_
    refine x_iload_n d_M_letsIn_39 rfl 1 rfl ?_
    refine x_iadd d_M_letsIn_40 ?_
    refine x_iload d_M_letsIn_41 4 rfl ?_
    obtain ⟨g9, h⟩ := gd_inv h
    obtain ⟨S10, e11, h⟩ := lt_inv h
    refine y_iast e11 d_M_letsIn_43 kd_101 g9 ?_
    refine x_aload_n d_M_letsIn_44 rfl 0 rfl ?_
    refine y_getR d_M_letsIn_45 fl_11_96 rfl kd_78 rr_78_59 ?_
    refine x_iload_n d_M_letsIn_48 rfl 1 rfl ?_
    refine x_iload_n d_M_letsIn_49 rfl 3 rfl ?_
    obtain ⟨g12, h⟩ := gd_inv h
    obtain ⟨S13, e14, h⟩ := lt_inv h
    refine y_iast e14 d_M_letsIn_50 kd_101 g12 ?_
    refine x_aload_n d_M_letsIn_51 rfl 0 rfl ?_
    obtain ⟨v16, q15, h⟩ := bd_inv h
    refine y_V0i (v := v16) (S1 := S13) d_M_letsIn_52 ml_11_521 kd_78 rfl (Nat.le_of_ble_eq_true rfl) (Nat.le_of_ble_eq_true rfl) (c_M_canBePlayedSo (by omega) q15) ?_
    obtain ⟨g17, h⟩ := gd_inv h
    obtain rfl := Option.some.inj h
    exact x_ret (r := some (.int v16)) d_M_letsIn_55 ⟨_, rfl, isB_nar g17⟩
  · replace h := ite_t c6 h
    refine x_iconst d_M_letsIn_27 ic_0 ?_
    obtain rfl := Option.some.inj h
    exact x_ret (r := some (.int (0 : Int32))) d_M_letsIn_28 ⟨_, rfl, rfl⟩
/-! NinetyPlayersModel.letin -/
def b_M_letin_52 (F G : Nat) (z1 : Int32) (z2 : Int32) (z3 : Int32) (z4 : Int32) (k88 : St → Option (Int32 × St)) (rec : Int32 → St → Option (Int32 × St)) (w5 : Int32) (S : St) : Option (Int32 × St) :=
  if (2 : Int32) < w5 then k88 S else bd2 (fM_letsIn F G S z1 z4 w5) fun v13 S14 => if v13 = 0 then lt (w5 + 1) fun v16 => rec v16 S14 else if z2 = 0 then some (z4, S14) else some (w5, S14)
def b_M_letin_22 (F G : Nat) (z1 : Int32) (z2 : Int32) (rec : Int32 → St → Option (Int32 × St)) (w3 : Int32) (S : St) : Option (Int32 × St) :=
  if (14 : Int32) < w3 then some ((-100 : Int32), S) else if (w3 - w3 / (2 : Int32) * (2 : Int32)) = (1 : Int32) then lt ((w3 + (1 : Int32)) / (2 : Int32)) fun v22 => fx2 (b_M_letin_52 F G z1 z2 w3 v22 (fun S24 => lt (w3 + 1) fun v25 => rec v25 S24)) F (1 : Int32) S else lt (-(w3 / (2 : Int32))) fun v9 => fx2 (b_M_letin_52 F G z1 z2 w3 v9 (fun S19 => lt (w3 + 1) fun v20 => rec v20 S19)) F (1 : Int32) S
def fM_letin (F G : Nat) (S : St) (p1 : Int32) (p2 : Int32) : Option (Int32 × St) :=
  bd (fM_isOut F G S p1) fun v2 => if v2 = 0 then some ((-100 : Int32), S) else bd (fM_isIn F G S p2 (0 : Int32) (1 : Int32)) fun v5 => if v5 = 0 then some ((-100 : Int32), S) else fx2 (b_M_letin_22 F G p1 p2) F (0 : Int32) S
set_option maxRecDepth 100000 in
set_option maxHeartbeats 4000000 in
theorem T_M_letin_52 {X : Nat × (Nat → Int32)} {D F G : Nat} (hD : 6 ≤ D + 1) {z1 : Int32} {z2 : Int32} {z3 : Int32} {z4 : Int32} {k88 : St → Option (Int32 × St)} (hk88 : ∀ (S1 : St) (res : Int32 × St), k88 S1 = some res → Ek X (D + 1) mM_letin 88 [(0, .ref 78), (1, .int z1), (2, .int z2), (3, .int z3)] [] S1 (some (.int res.1)) res.2) : ∀ (f : Nat) (w5 : Int32) (S : St) (res : Int32 × St), fx2 (b_M_letin_52 F G z1 z2 z3 z4 k88 ) f w5 S = some res → Ek X (D + 1) mM_letin 52 [(0, .ref 78), (1, .int z1), (2, .int z2), (3, .int z3), (4, .int z4), (5, .int w5)] [] S (some (.int res.1)) res.2 := by
  refine fx2_ind ?_
  intro rec ih w5 S res h
  unfold b_M_letin_52 at h
  refine x_iload d_M_letin_52 5 rfl ?_
  refine x_iconst d_M_letin_54 ic_2 ?_
  refine x_icmp_gt (tgt := 88) d_M_letin_55 rfl (fun c11 => ?_) (fun c11 => ?_)
  · replace h := ite_t c11 h
    refine y_pick (L1 := [(0, .ref 78), (1, .int z1), (2, .int z2), (3, .int z3)]) [0, 1, 2, 3] rfl ?_
    exact hk88 S _ h
  · replace h := ite_f c11 h
    refine x_aload_n d_M_letin_58 rfl 0 rfl ?_
    refine x_iload_n d_M_letin_59 rfl 1 rfl ?_
    refine x_iload d_M_letin_60 4 rfl ?_
    refine x_iload d_M_letin_62 5 rfl ?_
    obtain ⟨v13, S14, q12, h⟩ := bd2_inv h
    refine y_V3i (v := v13) (S1 := S14) d_M_letin_64 ml_11_524 kd_78 rfl (Nat.le_of_ble_eq_true rfl) (Nat.le_of_ble_eq_true rfl) (c_M_letsIn (by omega) q12) ?_
    refine x_if_eq (tgt := 82) d_M_letin_67 rfl (fun c15 => ?_) (fun c15 => ?_)
    · replace h := ite_t c15 h
      obtain ⟨v16, e17, h⟩ := lt_inv h
      refine y_iinc (L1 := [(0, .ref 78), (1, .int z1), (2, .int z2), (3, .int z3), (4, .int z4), (5, .int v16)]) e17 ic_1 d_M_letin_82 5 rfl (Nat.le_of_ble_eq_true rfl) rfl rfl ?_
      refine x_goto (tgt := 52) d_M_letin_85 rfl ?_
      exact ih v16 S14 _ h
    · replace h := ite_f c15 h
      refine x_iload_n d_M_letin_70 rfl 2 rfl ?_
      refine x_if_ne (tgt := 79) d_M_letin_71 rfl (fun c18 => ?_) (fun c18 => ?_)
      · replace h := ite_f c18 h
        refine x_iload d_M_letin_79 5 rfl ?_
        obtain rfl := Option.some.inj h
        exact x_ret (r := some (.int w5)) d_M_letin_81 ⟨_, rfl, rfl⟩
      · replace h := ite_t c18 h
        refine x_iload d_M_letin_74 4 rfl ?_
        refine x_goto (tgt := 81) d_M_letin_76 rfl ?_
        obtain rfl := Option.some.inj h
        exact x_ret (r := some (.int z4)) d_M_letin_81 ⟨_, rfl, rfl⟩
set_option maxRecDepth 100000 in
set_option maxHeartbeats 4000000 in
theorem T_M_letin_22 {X : Nat × (Nat → Int32)} {D F G : Nat} (hD : 6 ≤ D + 1) {z1 : Int32} {z2 : Int32} : ∀ (f : Nat) (w3 : Int32) (S : St) (res : Int32 × St), fx2 (b_M_letin_22 F G z1 z2 ) f w3 S = some res → Ek X (D + 1) mM_letin 22 [(0, .ref 78), (1, .int z1), (2, .int z2), (3, .int w3)] [] S (some (.int res.1)) res.2 := by
  refine fx2_ind ?_
  intro rec ih w3 S res h
  unfold b_M_letin_22 at h
  refine x_iload_n d_M_letin_22 rfl 3 rfl ?_
  refine x_bipush d_M_letin_23 bp_14 ?_
  refine x_icmp_gt (tgt := 94) d_M_letin_25 rfl (fun c7 => ?_) (fun c7 => ?_)
  · replace h := ite_t c7 h
    refine x_bipush d_M_letin_94 bp_m100 ?_
    obtain rfl := Option.some.inj h
    exact x_ret (r := some (.int (-100 : Int32))) d_M_letin_96 ⟨_, rfl, rfl⟩
  · replace h := ite_f c7 h
    refine x_iload_n d_M_letin_28 rfl 3 rfl ?_
    refine x_iconst d_M_letin_29 ic_2 ?_
    refine x_irem d_M_letin_30 (by decide) ?_
    refine x_iconst d_M_letin_31 ic_1 ?_
    refine x_icmp_ne (tgt := 43) d_M_letin_32 rfl (fun c8 => ?_) (fun c8 => ?_)
    · replace h := ite_f c8 h
      refine x_iload_n d_M_letin_43 rfl 3 rfl ?_
      refine x_iconst d_M_letin_44 ic_2 ?_
      refine x_idiv d_M_letin_45 (by decide) ?_
      refine x_ineg d_M_letin_46 ?_
      obtain ⟨v9, e10, h⟩ := lt_inv h
      refine y_istore (L1 := [(0, .ref 78), (1, .int z1), (2, .int z2), (3, .int w3), (4, .int v9)]) e10 d_M_letin_47 (Nat.le_of_ble_eq_true rfl) rfl rfl ?_
      refine x_iconst d_M_letin_49 ic_1 ?_
      refine x_istore (L1 := [(0, .ref 78), (1, .int z1), (2, .int z2), (3, .int w3), (4, .int v9), (5, .int (1 : Int32))]) d_M_letin_50 (Nat.le_of_ble_eq_true rfl) rfl rfl ?_
      refine T_M_letin_52 (by omega)  ?_ F (1 : Int32) S _ h
      · intro S19 res h
        obtain ⟨v20, e21, h⟩ := lt_inv h
        refine y_iinc (L1 := [(0, .ref 78), (1, .int z1), (2, .int z2), (3, .int v20)]) e21 ic_1 d_M_letin_88 3 rfl (Nat.le_of_ble_eq_true rfl) rfl rfl ?_
        refine x_goto (tgt := 22) d_M_letin_91 rfl ?_
        exact ih v20 S19 _ h
    · replace h := ite_t c8 h
      refine x_iload_n d_M_letin_35 rfl 3 rfl ?_
      refine x_iconst d_M_letin_36 ic_1 ?_
      refine x_iadd d_M_letin_37 ?_
      refine x_iconst d_M_letin_38 ic_2 ?_
      refine x_idiv d_M_letin_39 (by decide) ?_
      refine x_goto (tgt := 47) d_M_letin_40 rfl ?_
      obtain ⟨v22, e23, h⟩ := lt_inv h
      refine y_istore (L1 := [(0, .ref 78), (1, .int z1), (2, .int z2), (3, .int w3), (4, .int v22)]) e23 d_M_letin_47 (Nat.le_of_ble_eq_true rfl) rfl rfl ?_
      refine x_iconst d_M_letin_49 ic_1 ?_
      refine x_istore (L1 := [(0, .ref 78), (1, .int z1), (2, .int z2), (3, .int w3), (4, .int v22), (5, .int (1 : Int32))]) d_M_letin_50 (Nat.le_of_ble_eq_true rfl) rfl rfl ?_
      refine T_M_letin_52 (by omega)  ?_ F (1 : Int32) S _ h
      · intro S24 res h
        obtain ⟨v25, e26, h⟩ := lt_inv h
        refine y_iinc (L1 := [(0, .ref 78), (1, .int z1), (2, .int z2), (3, .int v25)]) e26 ic_1 d_M_letin_88 3 rfl (Nat.le_of_ble_eq_true rfl) rfl rfl ?_
        refine x_goto (tgt := 22) d_M_letin_91 rfl ?_
        exact ih v25 S24 _ h
set_option maxRecDepth 100000 in
set_option maxHeartbeats 4000000 in
theorem c_M_letin {X : Nat × (Nat → Int32)} {D F G : Nat} (hD : 6 ≤ D) {S : St} {p1 : Int32} {p2 : Int32} {res : Int32 × St} (h : fM_letin F G S p1 p2 = some res) : Ek X (D) mM_letin 0 [(0, .ref 78), (1, .int p1), (2, .int p2)] [] S (some (.int res.1)) res.2 := by
  obtain ⟨D, rfl⟩ : ∃ E, D = E + 1 := ⟨D - 1, by omega⟩
  unfold fM_letin at h
  refine x_aload_n d_M_letin_0 rfl 0 rfl ?_
  refine x_iload_n d_M_letin_1 rfl 1 rfl ?_
  obtain ⟨v2, q1, h⟩ := bd_inv h
  refine y_V1i (v := v2) (S1 := S) d_M_letin_2 ml_11_515 kd_78 rfl (Nat.le_of_ble_eq_true rfl) (Nat.le_of_ble_eq_true rfl) (c_M_isOut (by omega) q1) ?_
  refine x_if_eq (tgt := 17) d_M_letin_5 rfl (fun c3 => ?_) (fun c3 => ?_)
  · replace h := ite_t c3 h
    refine x_bipush d_M_letin_17 bp_m100 ?_
    obtain rfl := Option.some.inj h
    exact x_ret (r := some (.int (-100 : Int32))) d_M_letin_19 ⟨_, rfl, rfl⟩
  · replace h := ite_f c3 h
    refine x_iload_n d_M_letin_8 rfl 2 rfl ?_
    refine x_iconst d_M_letin_9 ic_0 ?_
    refine x_iconst d_M_letin_10 ic_1 ?_
    obtain ⟨v5, q4, h⟩ := bd_inv h
    refine y_S3i (v := v5) (S1 := S) d_M_letin_11 ml_11_429 (Nat.le_of_ble_eq_true rfl) (Nat.le_of_ble_eq_true rfl) (c_M_isIn (by omega) q4) ?_
    refine x_if_ne (tgt := 20) d_M_letin_14 rfl (fun c6 => ?_) (fun c6 => ?_)
    · replace h := ite_f c6 h
      refine x_iconst d_M_letin_20 ic_0 ?_
      refine x_istore_n (L1 := [(0, .ref 78), (1, .int p1), (2, .int p2), (3, .int (0 : Int32))]) d_M_letin_21 rfl (Nat.le_of_ble_eq_true rfl) rfl rfl ?_
      refine T_M_letin_22 (by omega)   F (0 : Int32) S _ h
    · replace h := ite_t c6 h
      refine x_bipush d_M_letin_17 bp_m100 ?_
      obtain rfl := Option.some.inj h
      exact x_ret (r := some (.int (-100 : Int32))) d_M_letin_19 ⟨_, rfl, rfl⟩
/-! NinetyPlayers$Pedaller.isFree -/
def fP_isFree (F G : Nat) (S : St) (p1 : Int32) (p2 : Int32) (p3 : Int32) : Option (Int32) :=
  bd (fK_timelySince F G S p2 (p1 - (1 : Int32))) fun v2 => bd (fK_timelySince F G S p3 p1) fun v4 => bd (fK_clashesBetween F G S (S.1 56 5) (S.1 56 6) v2 v4) fun v6 => if v6 = 0 then some (1 : Int32) else some (0 : Int32)
set_option maxRecDepth 100000 in
set_option maxHeartbeats 4000000 in
theorem c_P_isFree {X : Nat × (Nat → Int32)} {D F G : Nat} (hD : 3 ≤ D) {S : St} {p1 : Int32} {p2 : Int32} {p3 : Int32} {res : Int32} (h : fP_isFree F G S p1 p2 p3 = some res) : Ek X (D) mP_isFree 0 [(0, .ref 67), (1, .int p1), (2, .int p2), (3, .int p3)] [] S (some (.int res)) S := by
  obtain ⟨D, rfl⟩ : ∃ E, D = E + 1 := ⟨D - 1, by omega⟩
  unfold fP_isFree at h
  refine x_aload_n d_P_isFree_0 rfl 0 rfl ?_
  refine y_getR d_P_isFree_1 fl_9_15 rfl kd_67 rr_67_0 ?_
  refine x_iload_n d_P_isFree_4 rfl 2 rfl ?_
  refine x_iload_n d_P_isFree_5 rfl 1 rfl ?_
  refine x_iconst d_P_isFree_6 ic_1 ?_
  refine x_isub d_P_isFree_7 ?_
  obtain ⟨v2, q1, h⟩ := bd_inv h
  refine y_V2i (v := v2) (S1 := S) d_P_isFree_8 ml_9_37 kd_56 rfl (Nat.le_of_ble_eq_true rfl) (Nat.le_of_ble_eq_true rfl) (c_K_timelySince (by omega) q1) ?_
  refine x_istore (L1 := [(0, .ref 67), (1, .int p1), (2, .int p2), (3, .int p3), (4, .int v2)]) d_P_isFree_11 (Nat.le_of_ble_eq_true rfl) rfl rfl ?_
  refine x_aload_n d_P_isFree_13 rfl 0 rfl ?_
  refine y_getR d_P_isFree_14 fl_9_15 rfl kd_67 rr_67_0 ?_
  refine x_iload_n d_P_isFree_17 rfl 3 rfl ?_
  refine x_iload_n d_P_isFree_18 rfl 1 rfl ?_
  obtain ⟨v4, q3, h⟩ := bd_inv h
  refine y_V2i (v := v4) (S1 := S) d_P_isFree_19 ml_9_37 kd_56 rfl (Nat.le_of_ble_eq_true rfl) (Nat.le_of_ble_eq_true rfl) (c_K_timelySince (by omega) q3) ?_
  refine x_istore (L1 := [(0, .ref 67), (1, .int p1), (2, .int p2), (3, .int p3), (4, .int v2), (5, .int v4)]) d_P_isFree_22 (Nat.le_of_ble_eq_true rfl) rfl rfl ?_
  refine x_aload_n d_P_isFree_24 rfl 0 rfl ?_
  refine y_getR d_P_isFree_25 fl_9_15 rfl kd_67 rr_67_0 ?_
  refine x_aload_n d_P_isFree_28 rfl 0 rfl ?_
  refine y_getR d_P_isFree_29 fl_9_15 rfl kd_67 rr_67_0 ?_
  refine y_getI d_P_isFree_32 fl_9_40 rfl kd_56 ?_
  refine x_aload_n d_P_isFree_35 rfl 0 rfl ?_
  refine y_getR d_P_isFree_36 fl_9_15 rfl kd_67 rr_67_0 ?_
  refine y_getI d_P_isFree_39 fl_9_43 rfl kd_56 ?_
  refine x_iload d_P_isFree_42 4 rfl ?_
  refine x_iload d_P_isFree_44 5 rfl ?_
  obtain ⟨v6, q5, h⟩ := bd_inv h
  refine y_V4i (v := v6) (S1 := S) d_P_isFree_46 ml_9_46 kd_56 rfl (Nat.le_of_ble_eq_true rfl) (Nat.le_of_ble_eq_true rfl) (c_K_clashesBetween (by omega) q5) ?_
  refine x_if_ne (tgt := 56) d_P_isFree_49 rfl (fun c7 => ?_) (fun c7 => ?_)
  · replace h := ite_f c7 h
    refine x_iconst d_P_isFree_56 ic_0 ?_
    obtain rfl := Option.some.inj h
    exact x_ret (r := some (.int (0 : Int32))) d_P_isFree_57 ⟨_, rfl, rfl⟩
  · replace h := ite_t c7 h
    refine x_iconst d_P_isFree_52 ic_1 ?_
    refine x_goto (tgt := 57) d_P_isFree_53 rfl ?_
    obtain rfl := Option.some.inj h
    exact x_ret (r := some (.int (1 : Int32))) d_P_isFree_57 ⟨_, rfl, rfl⟩
/-! NinetyPlayers$Pedaller.better -/
def j_P_better_10 (F G : Nat) (S : St) (y0 : Int32) (y1 : Int32) : Option (Int32) :=
  if y0 = (-1 : Int32) then some y1 else some y0
def fP_better (F G : Nat) (S : St) (p1 : Int32) (p2 : Int32) : Option (Int32) :=
  if p1 = (-1 : Int32) then j_P_better_10 F G  S p1 p2 else if p2 = (-1 : Int32) then j_P_better_10 F G  S p1 p2 else bd (fJ_bitCount F G S p1) fun v4 => bd (fJ_bitCount F G S p2) fun v6 => lt (v4 - v6) fun v7 => if v7 < 0 then some p1 else if v7 = 0 then if p2 ≤ p1 then some p2 else some p1 else some p2
set_option maxRecDepth 100000 in
set_option maxHeartbeats 4000000 in
theorem c_P_better {X : Nat × (Nat → Int32)} {D F G : Nat} (hD : 1 ≤ D) {S : St} {p1 : Int32} {p2 : Int32} {res : Int32} (h : fP_better F G S p1 p2 = some res) : Ek X (D) mP_better 0 [(0, .int p1), (1, .int p2)] [] S (some (.int res)) S := by
  obtain ⟨D, rfl⟩ : ∃ E, D = E + 1 := ⟨D - 1, by omega⟩
  unfold fP_better at h
  have J10 : ∀ (y0 : Int32) (y1 : Int32) (res : Int32), j_P_better_10 F G S y0 y1 = some res → Ek X (D + 1) mP_better 10 [(0, .int y0), (1, .int y1)] [] S (some (.int res)) S := by
    intro y0 y1 res h
    unfold j_P_better_10 at h
    refine x_iload_n d_P_better_10 rfl 0 rfl ?_
    refine x_iconst d_P_better_11 ic_m1 ?_
    refine x_icmp_ne (tgt := 19) d_P_better_12 rfl (fun c12 => ?_) (fun c12 => ?_)
    · replace h := ite_f c12 h
      refine x_iload_n d_P_better_19 rfl 0 rfl ?_
      obtain rfl := Option.some.inj h
      exact x_ret (r := some (.int y0)) d_P_better_20 ⟨_, rfl, rfl⟩
    · replace h := ite_t c12 h
      refine x_iload_n d_P_better_15 rfl 1 rfl ?_
      refine x_goto (tgt := 20) d_P_better_16 rfl ?_
      obtain rfl := Option.some.inj h
      exact x_ret (r := some (.int y1)) d_P_better_20 ⟨_, rfl, rfl⟩
  refine x_iload_n d_P_better_0 rfl 0 rfl ?_
  refine x_iconst d_P_better_1 ic_m1 ?_
  refine x_icmp_eq (tgt := 10) d_P_better_2 rfl (fun c1 => ?_) (fun c1 => ?_)
  · replace h := ite_t c1 h
    exact J10 p1 p2 _ h
  · replace h := ite_f c1 h
    refine x_iload_n d_P_better_5 rfl 1 rfl ?_
    refine x_iconst d_P_better_6 ic_m1 ?_
    refine x_icmp_ne (tgt := 21) d_P_better_7 rfl (fun c2 => ?_) (fun c2 => ?_)
    · replace h := ite_f c2 h
      refine x_iload_n d_P_better_21 rfl 0 rfl ?_
      obtain ⟨v4, q3, h⟩ := bd_inv h
      refine y_S1i (v := v4) (S1 := S) d_P_better_22 ml_9_50 (Nat.le_of_ble_eq_true rfl) (Nat.le_of_ble_eq_true rfl) (c_J_bitCount (by omega) q3) ?_
      refine x_iload_n d_P_better_25 rfl 1 rfl ?_
      obtain ⟨v6, q5, h⟩ := bd_inv h
      refine y_S1i (v := v6) (S1 := S) d_P_better_26 ml_9_50 (Nat.le_of_ble_eq_true rfl) (Nat.le_of_ble_eq_true rfl) (c_J_bitCount (by omega) q5) ?_
      refine x_isub d_P_better_29 ?_
      obtain ⟨v7, e8, h⟩ := lt_inv h
      refine y_istore_n (L1 := [(0, .int p1), (1, .int p2), (2, .int v7)]) e8 d_P_better_30 rfl (Nat.le_of_ble_eq_true rfl) rfl rfl ?_
      refine x_iload_n d_P_better_31 rfl 2 rfl ?_
      refine x_if_lt (tgt := 44) d_P_better_32 rfl (fun c9 => ?_) (fun c9 => ?_)
      · replace h := ite_t c9 h
        refine x_iload_n d_P_better_44 rfl 0 rfl ?_
        refine x_goto (tgt := 49) d_P_better_45 rfl ?_
        obtain rfl := Option.some.inj h
        exact x_ret (r := some (.int p1)) d_P_better_49 ⟨_, rfl, rfl⟩
      · replace h := ite_f c9 h
        refine x_iload_n d_P_better_35 rfl 2 rfl ?_
        refine x_if_ne (tgt := 48) d_P_better_36 rfl (fun c10 => ?_) (fun c10 => ?_)
        · replace h := ite_f c10 h
          refine x_iload_n d_P_better_48 rfl 1 rfl ?_
          obtain rfl := Option.some.inj h
          exact x_ret (r := some (.int p2)) d_P_better_49 ⟨_, rfl, rfl⟩
        · replace h := ite_t c10 h
          refine x_iload_n d_P_better_39 rfl 0 rfl ?_
          refine x_iload_n d_P_better_40 rfl 1 rfl ?_
          refine x_icmp_ge (tgt := 48) d_P_better_41 rfl (fun c11 => ?_) (fun c11 => ?_)
          · replace h := ite_t c11 h
            refine x_iload_n d_P_better_48 rfl 1 rfl ?_
            obtain rfl := Option.some.inj h
            exact x_ret (r := some (.int p2)) d_P_better_49 ⟨_, rfl, rfl⟩
          · replace h := ite_f c11 h
            refine x_iload_n d_P_better_44 rfl 0 rfl ?_
            refine x_goto (tgt := 49) d_P_better_45 rfl ?_
            obtain rfl := Option.some.inj h
            exact x_ret (r := some (.int p1)) d_P_better_49 ⟨_, rfl, rfl⟩
    · replace h := ite_t c2 h
      exact J10 p1 p2 _ h
/-! NinetyPlayers$Pedaller.bestWithPedalAt -/
def b_P_bestWithPedalAt_4 (F G : Nat) (S : St) (z1 : Int32) (rec : Int32 → Int32 → Option (Int32)) (w2 : Int32) (w3 : Int32) : Option (Int32) :=
  if z1 ≤ w3 then some w2 else gd (inB w3 12) (if (S.1 68 w3.toNatClampNeg) = (-1 : Int32) then lt (w3 + 1) fun v4 => rec w2 v4 else bd (fP_isFree F G S z1 w3 z1) fun v7 => if v7 = 0 then lt (w3 + 1) fun v9 => rec w2 v9 else gd (inB w3 12) (bd (fP_better F G S w2 ((S.1 68 w3.toNatClampNeg) ||| ((1 : Int32) <<< (z1 &&& 31)))) fun v13 => lt (w3 + 1) fun v14 => rec v13 v14))
def fP_bestWithPedalAt (F G : Nat) (S : St) (p1 : Int32) : Option (Int32) :=
  fx2 (b_P_bestWithPedalAt_4 F G S p1) F (-1 : Int32) (0 : Int32)
set_option maxRecDepth 100000 in
set_option maxHeartbeats 4000000 in
theorem T_P_bestWithPedalAt_4 {X : Nat × (Nat → Int32)} {D F G : Nat} (hD : 4 ≤ D + 1) {S : St} {z1 : Int32} : ∀ (f : Nat) (w2 : Int32) (w3 : Int32) (res : Int32), fx2 (b_P_bestWithPedalAt_4 F G S z1 ) f w2 w3 = some res → Ek X (D + 1) mP_bestWithPedalAt 4 [(0, .ref 67), (1, .int z1), (2, .int w2), (3, .int w3)] [] S (some (.int res)) S := by
  refine fx2_ind ?_
  intro rec ih w2 w3 res h
  unfold b_P_bestWithPedalAt_4 at h
  refine x_iload_n d_P_bestWithPedalAt_4 rfl 3 rfl ?_
  refine x_iload_n d_P_bestWithPedalAt_5 rfl 1 rfl ?_
  refine x_icmp_ge (tgt := 50) d_P_bestWithPedalAt_6 rfl (fun c1 => ?_) (fun c1 => ?_)
  · replace h := ite_t c1 h
    refine x_iload_n d_P_bestWithPedalAt_50 rfl 2 rfl ?_
    obtain rfl := Option.some.inj h
    exact x_ret (r := some (.int w2)) d_P_bestWithPedalAt_51 ⟨_, rfl, rfl⟩
  · replace h := ite_f c1 h
    refine x_aload_n d_P_bestWithPedalAt_9 rfl 0 rfl ?_
    refine y_getR d_P_bestWithPedalAt_10 fl_9_9 rfl kd_67 rr_67_1 ?_
    refine x_iload_n d_P_bestWithPedalAt_13 rfl 3 rfl ?_
    obtain ⟨g2, h⟩ := gd_inv h
    refine y_iald d_P_bestWithPedalAt_14 kd_68 g2 ?_
    refine x_iconst d_P_bestWithPedalAt_15 ic_m1 ?_
    refine x_icmp_eq (tgt := 44) d_P_bestWithPedalAt_16 rfl (fun c3 => ?_) (fun c3 => ?_)
    · replace h := ite_t c3 h
      obtain ⟨v4, e5, h⟩ := lt_inv h
      refine y_iinc (L1 := [(0, .ref 67), (1, .int z1), (2, .int w2), (3, .int v4)]) e5 ic_1 d_P_bestWithPedalAt_44 3 rfl (Nat.le_of_ble_eq_true rfl) rfl rfl ?_
      refine x_goto (tgt := 4) d_P_bestWithPedalAt_47 rfl ?_
      exact ih w2 v4 _ h
    · replace h := ite_f c3 h
      refine x_aload_n d_P_bestWithPedalAt_19 rfl 0 rfl ?_
      refine x_iload_n d_P_bestWithPedalAt_20 rfl 1 rfl ?_
      refine x_iload_n d_P_bestWithPedalAt_21 rfl 3 rfl ?_
      refine x_iload_n d_P_bestWithPedalAt_22 rfl 1 rfl ?_
      obtain ⟨v7, q6, h⟩ := bd_inv h
      refine y_V3i (v := v7) (S1 := S) d_P_bestWithPedalAt_23 ml_9_19 kd_67 rfl (Nat.le_of_ble_eq_true rfl) (Nat.le_of_ble_eq_true rfl) (c_P_isFree (by omega) q6) ?_
      refine x_if_eq (tgt := 44) d_P_bestWithPedalAt_26 rfl (fun c8 => ?_) (fun c8 => ?_)
      · replace h := ite_t c8 h
        obtain ⟨v9, e10, h⟩ := lt_inv h
        refine y_iinc (L1 := [(0, .ref 67), (1, .int z1), (2, .int w2), (3, .int v9)]) e10 ic_1 d_P_bestWithPedalAt_44 3 rfl (Nat.le_of_ble_eq_true rfl) rfl rfl ?_
        refine x_goto (tgt := 4) d_P_bestWithPedalAt_47 rfl ?_
        exact ih w2 v9 _ h
      · replace h := ite_f c8 h
        refine x_iload_n d_P_bestWithPedalAt_29 rfl 2 rfl ?_
        refine x_aload_n d_P_bestWithPedalAt_30 rfl 0 rfl ?_
        refine y_getR d_P_bestWithPedalAt_31 fl_9_9 rfl kd_67 rr_67_1 ?_
        refine x_iload_n d_P_bestWithPedalAt_34 rfl 3 rfl ?_
        obtain ⟨g11, h⟩ := gd_inv h
        refine y_iald d_P_bestWithPedalAt_35 kd_68 g11 ?_
        refine x_iconst d_P_bestWithPedalAt_36 ic_1 ?_
        refine x_iload_n d_P_bestWithPedalAt_37 rfl 1 rfl ?_
        refine x_ishl d_P_bestWithPedalAt_38 ?_
        refine x_ior d_P_bestWithPedalAt_39 ?_
        obtain ⟨v13, q12, h⟩ := bd_inv h
        refine y_S2i (v := v13) (S1 := S) d_P_bestWithPedalAt_40 ml_9_33 (Nat.le_of_ble_eq_true rfl) (Nat.le_of_ble_eq_true rfl) (c_P_better (by omega) q12) ?_
        refine x_istore_n (L1 := [(0, .ref 67), (1, .int z1), (2, .int v13), (3, .int w3)]) d_P_bestWithPedalAt_43 rfl (Nat.le_of_ble_eq_true rfl) rfl rfl ?_
        obtain ⟨v14, e15, h⟩ := lt_inv h
        refine y_iinc (L1 := [(0, .ref 67), (1, .int z1), (2, .int v13), (3, .int v14)]) e15 ic_1 d_P_bestWithPedalAt_44 3 rfl (Nat.le_of_ble_eq_true rfl) rfl rfl ?_
        refine x_goto (tgt := 4) d_P_bestWithPedalAt_47 rfl ?_
        exact ih v13 v14 _ h
set_option maxRecDepth 100000 in
set_option maxHeartbeats 4000000 in
theorem c_P_bestWithPedalAt {X : Nat × (Nat → Int32)} {D F G : Nat} (hD : 4 ≤ D) {S : St} {p1 : Int32} {res : Int32} (h : fP_bestWithPedalAt F G S p1 = some res) : Ek X (D) mP_bestWithPedalAt 0 [(0, .ref 67), (1, .int p1)] [] S (some (.int res)) S := by
  obtain ⟨D, rfl⟩ : ∃ E, D = E + 1 := ⟨D - 1, by omega⟩
  unfold fP_bestWithPedalAt at h
  refine x_iconst d_P_bestWithPedalAt_0 ic_m1 ?_
  refine x_istore_n (L1 := [(0, .ref 67), (1, .int p1), (2, .int (-1 : Int32))]) d_P_bestWithPedalAt_1 rfl (Nat.le_of_ble_eq_true rfl) rfl rfl ?_
  refine x_iconst d_P_bestWithPedalAt_2 ic_0 ?_
  refine x_istore_n (L1 := [(0, .ref 67), (1, .int p1), (2, .int (-1 : Int32)), (3, .int (0 : Int32))]) d_P_bestWithPedalAt_3 rfl (Nat.le_of_ble_eq_true rfl) rfl rfl ?_
  refine T_P_bestWithPedalAt_4 (by omega)   F (-1 : Int32) (0 : Int32) _ h
/-! NinetyPlayers$Pedaller.fewest -/
def b_P_fewest_47 (F G : Nat) (z1 : Int32) (k75 : St → Option (Int32 × St)) (rec : Int32 → St → Option (Int32 × St)) (w2 : Int32) (S : St) : Option (Int32 × St) :=
  if z1 ≤ w2 then k75 S else bd (fP_isFree F G S z1 w2 w2) fun v15 => if v15 = 0 then gd (inB w2 12) (lt (sI S 68 w2.toNatClampNeg (-1 : Int32)) fun S20 => lt (w2 + 1) fun v22 => rec v22 S20) else lt (w2 + 1) fun v17 => rec v17 S
def b_P_fewest_23 (F G : Nat) (k81 : St → Option (Int32 × St)) (rec : Int32 → St → Option (Int32 × St)) (w1 : Int32) (S : St) : Option (Int32 × St) :=
  if (S.1 56 0) ≤ w1 then k81 S else bd (fP_bestWithPedalAt F G S w1) fun v9 => gd (inB w1 12) (lt (sI S 68 w1.toNatClampNeg v9) fun S11 => fx2 (b_P_fewest_47 F G w1 (fun S24 => lt (w1 + 1) fun v25 => rec v25 S24)) F (0 : Int32) S11)
def b_P_fewest_85 (F G : Nat) (S : St) (rec : Int32 → Int32 → Option (Int32 × St)) (w1 : Int32) (w2 : Int32) : Option (Int32 × St) :=
  if (S.1 56 0) ≤ w2 then some (w1, S) else gd (inB w2 12) (bd (fP_better F G S w1 (S.1 68 w2.toNatClampNeg)) fun v31 => lt (w2 + 1) fun v32 => rec v31 v32)
def fP_fewest (F G : Nat) (S : St) : Option (Int32 × St) :=
  bd (fP_isFree F G S (0 : Int32) (0 : Int32) (0 : Int32)) fun v2 => if v2 = 0 then gd (inB (0 : Int32) 12) (lt (sI S 68 (0 : Int32).toNatClampNeg (-1 : Int32)) fun S5 => fx2 (b_P_fewest_23 F G  (fun S27 => fx2 (b_P_fewest_85 F G S27) F (-1 : Int32) (0 : Int32))) F (1 : Int32) S5) else gd (inB (0 : Int32) 12) (lt (sI S 68 (0 : Int32).toNatClampNeg (0 : Int32)) fun S35 => fx2 (b_P_fewest_23 F G  (fun S37 => fx2 (b_P_fewest_85 F G S37) F (-1 : Int32) (0 : Int32))) F (1 : Int32) S35)
set_option maxRecDepth 100000 in
set_option maxHeartbeats 4000000 in
theorem T_P_fewest_47 {X : Nat × (Nat → Int32)} {D F G : Nat} (hD : 5 ≤ D + 1) {z1 : Int32} {k75 : St → Option (Int32 × St)} (hk75 : ∀ (S1 : St) (res : Int32 × St), k75 S1 = some res → Ek X (D + 1) mP_fewest 75 [(0, .ref 67), (1, .int z1)] [] S1 (some (.int res.1)) res.2) : ∀ (f : Nat) (w2 : Int32) (S : St) (res : Int32 × St), fx2 (b_P_fewest_47 F G z1 k75 ) f w2 S = some res → Ek X (D + 1) mP_fewest 47 [(0, .ref 67), (1, .int z1), (2, .int w2)] [] S (some (.int res.1)) res.2 := by
  refine fx2_ind ?_
  intro rec ih w2 S res h
  unfold b_P_fewest_47 at h
  refine x_iload_n d_P_fewest_47 rfl 2 rfl ?_
  refine x_iload_n d_P_fewest_48 rfl 1 rfl ?_
  refine x_icmp_ge (tgt := 75) d_P_fewest_49 rfl (fun c13 => ?_) (fun c13 => ?_)
  · replace h := ite_t c13 h
    refine y_pick (L1 := [(0, .ref 67), (1, .int z1)]) [0, 1] rfl ?_
    exact hk75 S _ h
  · replace h := ite_f c13 h
    refine x_aload_n d_P_fewest_52 rfl 0 rfl ?_
    refine x_iload_n d_P_fewest_53 rfl 1 rfl ?_
    refine x_iload_n d_P_fewest_54 rfl 2 rfl ?_
    refine x_iload_n d_P_fewest_55 rfl 2 rfl ?_
    obtain ⟨v15, q14, h⟩ := bd_inv h
    refine y_V3i (v := v15) (S1 := S) d_P_fewest_56 ml_9_19 kd_67 rfl (Nat.le_of_ble_eq_true rfl) (Nat.le_of_ble_eq_true rfl) (c_P_isFree (by omega) q14) ?_
    refine x_if_ne (tgt := 69) d_P_fewest_59 rfl (fun c16 => ?_) (fun c16 => ?_)
    · replace h := ite_f c16 h
      obtain ⟨v17, e18, h⟩ := lt_inv h
      refine y_iinc (L1 := [(0, .ref 67), (1, .int z1), (2, .int v17)]) e18 ic_1 d_P_fewest_69 2 rfl (Nat.le_of_ble_eq_true rfl) rfl rfl ?_
      refine x_goto (tgt := 47) d_P_fewest_72 rfl ?_
      exact ih v17 S _ h
    · replace h := ite_t c16 h
      refine x_aload_n d_P_fewest_62 rfl 0 rfl ?_
      refine y_getR d_P_fewest_63 fl_9_9 rfl kd_67 rr_67_1 ?_
      refine x_iload_n d_P_fewest_66 rfl 2 rfl ?_
      refine x_iconst d_P_fewest_67 ic_m1 ?_
      obtain ⟨g19, h⟩ := gd_inv h
      obtain ⟨S20, e21, h⟩ := lt_inv h
      refine y_iast e21 d_P_fewest_68 kd_68 g19 ?_
      obtain ⟨v22, e23, h⟩ := lt_inv h
      refine y_iinc (L1 := [(0, .ref 67), (1, .int z1), (2, .int v22)]) e23 ic_1 d_P_fewest_69 2 rfl (Nat.le_of_ble_eq_true rfl) rfl rfl ?_
      refine x_goto (tgt := 47) d_P_fewest_72 rfl ?_
      exact ih v22 S20 _ h
set_option maxRecDepth 100000 in
set_option maxHeartbeats 4000000 in
theorem T_P_fewest_23 {X : Nat × (Nat → Int32)} {D F G : Nat} (hD : 5 ≤ D + 1) {k81 : St → Option (Int32 × St)} (hk81 : ∀ (S1 : St) (res : Int32 × St), k81 S1 = some res → Ek X (D + 1) mP_fewest 81 [(0, .ref 67)] [] S1 (some (.int res.1)) res.2) : ∀ (f : Nat) (w1 : Int32) (S : St) (res : Int32 × St), fx2 (b_P_fewest_23 F G k81 ) f w1 S = some res → Ek X (D + 1) mP_fewest 23 [(0, .ref 67), (1, .int w1)] [] S (some (.int res.1)) res.2 := by
  refine fx2_ind ?_
  intro rec ih w1 S res h
  unfold b_P_fewest_23 at h
  refine x_iload_n d_P_fewest_23 rfl 1 rfl ?_
  refine x_aload_n d_P_fewest_24 rfl 0 rfl ?_
  refine y_getR d_P_fewest_25 fl_9_15 rfl kd_67 rr_67_0 ?_
  refine y_getI d_P_fewest_28 fl_9_23 rfl kd_56 ?_
  refine x_icmp_ge (tgt := 81) d_P_fewest_31 rfl (fun c7 => ?_) (fun c7 => ?_)
  · replace h := ite_t c7 h
    refine y_pick (L1 := [(0, .ref 67)]) [0] rfl ?_
    exact hk81 S _ h
  · replace h := ite_f c7 h
    refine x_aload_n d_P_fewest_34 rfl 0 rfl ?_
    refine y_getR d_P_fewest_35 fl_9_9 rfl kd_67 rr_67_1 ?_
    refine x_iload_n d_P_fewest_38 rfl 1 rfl ?_
    refine x_aload_n d_P_fewest_39 rfl 0 rfl ?_
    refine x_iload_n d_P_fewest_40 rfl 1 rfl ?_
    obtain ⟨v9, q8, h⟩ := bd_inv h
    refine y_V1i (v := v9) (S1 := S) d_P_fewest_41 ml_9_29 kd_67 rfl (Nat.le_of_ble_eq_true rfl) (Nat.le_of_ble_eq_true rfl) (c_P_bestWithPedalAt (by omega) q8) ?_
    obtain ⟨g10, h⟩ := gd_inv h
    obtain ⟨S11, e12, h⟩ := lt_inv h
    refine y_iast e12 d_P_fewest_44 kd_68 g10 ?_
    refine x_iconst d_P_fewest_45 ic_0 ?_
    refine x_istore_n (L1 := [(0, .ref 67), (1, .int w1), (2, .int (0 : Int32))]) d_P_fewest_46 rfl (Nat.le_of_ble_eq_true rfl) rfl rfl ?_
    refine T_P_fewest_47 (by omega)  ?_ F (0 : Int32) S11 _ h
    · intro S24 res h
      obtain ⟨v25, e26, h⟩ := lt_inv h
      refine y_iinc (L1 := [(0, .ref 67), (1, .int v25)]) e26 ic_1 d_P_fewest_75 1 rfl (Nat.le_of_ble_eq_true rfl) rfl rfl ?_
      refine x_goto (tgt := 23) d_P_fewest_78 rfl ?_
      exact ih v25 S24 _ h
set_option maxRecDepth 100000 in
set_option maxHeartbeats 4000000 in
theorem T_P_fewest_85 {X : Nat × (Nat → Int32)} {D F G : Nat} (hD : 5 ≤ D + 1) {S : St} : ∀ (f : Nat) (w1 : Int32) (w2 : Int32) (res : Int32 × St), fx2 (b_P_fewest_85 F G S ) f w1 w2 = some res → Ek X (D + 1) mP_fewest 85 [(0, .ref 67), (1, .int w1), (2, .int w2)] [] S (some (.int res.1)) res.2 := by
  refine fx2_ind ?_
  intro rec ih w1 w2 res h
  unfold b_P_fewest_85 at h
  refine x_iload_n d_P_fewest_85 rfl 2 rfl ?_
  refine x_aload_n d_P_fewest_86 rfl 0 rfl ?_
  refine y_getR d_P_fewest_87 fl_9_15 rfl kd_67 rr_67_0 ?_
  refine y_getI d_P_fewest_90 fl_9_23 rfl kd_56 ?_
  refine x_icmp_ge (tgt := 113) d_P_fewest_93 rfl (fun c28 => ?_) (fun c28 => ?_)
  · replace h := ite_t c28 h
    refine x_iload_n d_P_fewest_113 rfl 1 rfl ?_
    obtain rfl := Option.some.inj h
    exact x_ret (r := some (.int w1)) d_P_fewest_114 ⟨_, rfl, rfl⟩
  · replace h := ite_f c28 h
    refine x_iload_n d_P_fewest_96 rfl 1 rfl ?_
    refine x_aload_n d_P_fewest_97 rfl 0 rfl ?_
    refine y_getR d_P_fewest_98 fl_9_9 rfl kd_67 rr_67_1 ?_
    refine x_iload_n d_P_fewest_101 rfl 2 rfl ?_
    obtain ⟨g29, h⟩ := gd_inv h
    refine y_iald d_P_fewest_102 kd_68 g29 ?_
    obtain ⟨v31, q30, h⟩ := bd_inv h
    refine y_S2i (v := v31) (S1 := S) d_P_fewest_103 ml_9_33 (Nat.le_of_ble_eq_true rfl) (Nat.le_of_ble_eq_true rfl) (c_P_better (by omega) q30) ?_
    refine x_istore_n (L1 := [(0, .ref 67), (1, .int v31), (2, .int w2)]) d_P_fewest_106 rfl (Nat.le_of_ble_eq_true rfl) rfl rfl ?_
    obtain ⟨v32, e33, h⟩ := lt_inv h
    refine y_iinc (L1 := [(0, .ref 67), (1, .int v31), (2, .int v32)]) e33 ic_1 d_P_fewest_107 2 rfl (Nat.le_of_ble_eq_true rfl) rfl rfl ?_
    refine x_goto (tgt := 85) d_P_fewest_110 rfl ?_
    exact ih v31 v32 _ h
set_option maxRecDepth 100000 in
set_option maxHeartbeats 4000000 in
theorem c_P_fewest {X : Nat × (Nat → Int32)} {D F G : Nat} (hD : 5 ≤ D) {S : St} {res : Int32 × St} (h : fP_fewest F G S  = some res) : Ek X (D) mP_fewest 0 [(0, .ref 67)] [] S (some (.int res.1)) res.2 := by
  obtain ⟨D, rfl⟩ : ∃ E, D = E + 1 := ⟨D - 1, by omega⟩
  unfold fP_fewest at h
  refine x_aload_n d_P_fewest_0 rfl 0 rfl ?_
  refine y_getR d_P_fewest_1 fl_9_9 rfl kd_67 rr_67_1 ?_
  refine x_iconst d_P_fewest_4 ic_0 ?_
  refine x_aload_n d_P_fewest_5 rfl 0 rfl ?_
  refine x_iconst d_P_fewest_6 ic_0 ?_
  refine x_iconst d_P_fewest_7 ic_0 ?_
  refine x_iconst d_P_fewest_8 ic_0 ?_
  obtain ⟨v2, q1, h⟩ := bd_inv h
  refine y_V3i (v := v2) (S1 := S) d_P_fewest_9 ml_9_19 kd_67 rfl (Nat.le_of_ble_eq_true rfl) (Nat.le_of_ble_eq_true rfl) (c_P_isFree (by omega) q1) ?_
  refine x_if_eq (tgt := 19) d_P_fewest_12 rfl (fun c3 => ?_) (fun c3 => ?_)
  · replace h := ite_t c3 h
    refine x_iconst d_P_fewest_19 ic_m1 ?_
    obtain ⟨g4, h⟩ := gd_inv h
    obtain ⟨S5, e6, h⟩ := lt_inv h
    refine y_iast e6 d_P_fewest_20 kd_68 g4 ?_
    refine x_iconst d_P_fewest_21 ic_1 ?_
    refine x_istore_n (L1 := [(0, .ref 67), (1, .int (1 : Int32))]) d_P_fewest_22 rfl (Nat.le_of_ble_eq_true rfl) rfl rfl ?_
    refine T_P_fewest_23 (by omega)  ?_ F (1 : Int32) S5 _ h
    · intro S27 res h
      refine x_iconst d_P_fewest_81 ic_m1 ?_
      refine x_istore_n (L1 := [(0, .ref 67), (1, .int (-1 : Int32))]) d_P_fewest_82 rfl (Nat.le_of_ble_eq_true rfl) rfl rfl ?_
      refine x_iconst d_P_fewest_83 ic_0 ?_
      refine x_istore_n (L1 := [(0, .ref 67), (1, .int (-1 : Int32)), (2, .int (0 : Int32))]) d_P_fewest_84 rfl (Nat.le_of_ble_eq_true rfl) rfl rfl ?_
      refine T_P_fewest_85 (by omega)   F (-1 : Int32) (0 : Int32) _ h
  · replace h := ite_f c3 h
    refine x_iconst d_P_fewest_15 ic_0 ?_
    refine x_goto (tgt := 20) d_P_fewest_16 rfl ?_
    obtain ⟨g34, h⟩ := gd_inv h
    obtain ⟨S35, e36, h⟩ := lt_inv h
    refine y_iast e36 d_P_fewest_20 kd_68 g34 ?_
    refine x_iconst d_P_fewest_21 ic_1 ?_
    refine x_istore_n (L1 := [(0, .ref 67), (1, .int (1 : Int32))]) d_P_fewest_22 rfl (Nat.le_of_ble_eq_true rfl) rfl rfl ?_
    refine T_P_fewest_23 (by omega)  ?_ F (1 : Int32) S35 _ h
    · intro S37 res h
      refine x_iconst d_P_fewest_81 ic_m1 ?_
      refine x_istore_n (L1 := [(0, .ref 67), (1, .int (-1 : Int32))]) d_P_fewest_82 rfl (Nat.le_of_ble_eq_true rfl) rfl rfl ?_
      refine x_iconst d_P_fewest_83 ic_0 ?_
      refine x_istore_n (L1 := [(0, .ref 67), (1, .int (-1 : Int32)), (2, .int (0 : Int32))]) d_P_fewest_84 rfl (Nat.le_of_ble_eq_true rfl) rfl rfl ?_
      refine T_P_fewest_85 (by omega)   F (-1 : Int32) (0 : Int32) _ h
/-! NinetyPlayers.pedals -/
def fN_pedals (F G : Nat) (S : St) (p1 : Int32) : Option (Int32 × St) :=
  if p1 < 0 then some ((-1 : Int32), S) else if p1 ≤ (1 : Int32) then bd (fN_lookAtKeys F G S ) fun S4 => bd2 (fP_fewest F G S4) fun v6 S7 => if p1 = 0 then if v6 = (-1 : Int32) then some (v6, S7) else bd (fJ_bitCount F G S7 v6) fun v11 => some (v11, S7) else some (v6, S7) else some ((-1 : Int32), S)
set_option maxRecDepth 100000 in
set_option maxHeartbeats 4000000 in
theorem c_N_pedals {X : Nat × (Nat → Int32)} {D F G : Nat} (hD : 6 ≤ D) {S : St} {p1 : Int32} {res : Int32 × St} (h : fN_pedals F G S p1 = some res) : Ek X (D) mN_pedals 0 [(0, .ref 0), (1, .int p1)] [] S (some (.int res.1)) res.2 := by
  obtain ⟨D, rfl⟩ : ∃ E, D = E + 1 := ⟨D - 1, by omega⟩
  unfold fN_pedals at h
  refine x_iload_n d_N_pedals_0 rfl 1 rfl ?_
  refine x_if_lt (tgt := 9) d_N_pedals_1 rfl (fun c1 => ?_) (fun c1 => ?_)
  · replace h := ite_t c1 h
    refine x_iconst d_N_pedals_9 ic_m1 ?_
    obtain rfl := Option.some.inj h
    exact x_ret (r := some (.int (-1 : Int32))) d_N_pedals_10 ⟨_, rfl, rfl⟩
  · replace h := ite_f c1 h
    refine x_iload_n d_N_pedals_4 rfl 1 rfl ?_
    refine x_iconst d_N_pedals_5 ic_1 ?_
    refine x_icmp_le (tgt := 11) d_N_pedals_6 rfl (fun c2 => ?_) (fun c2 => ?_)
    · replace h := ite_t c2 h
      refine x_aload_n d_N_pedals_11 rfl 0 rfl ?_
      obtain ⟨S4, q3, h⟩ := bd_inv h
      refine y_V0v (S1 := S4) d_N_pedals_12 ml_0_173 kd_0 rfl (Nat.le_of_ble_eq_true rfl) (Nat.le_of_ble_eq_true rfl) (c_N_lookAtKeys (by omega) q3) ?_
      refine x_aload_n d_N_pedals_15 rfl 0 rfl ?_
      refine y_getR d_N_pedals_16 fl_0_72 rfl kd_0 rr_0_10 ?_
      obtain ⟨v6, S7, q5, h⟩ := bd2_inv h
      refine y_V0i (v := v6) (S1 := S7) d_N_pedals_19 ml_0_294 kd_67 rfl (Nat.le_of_ble_eq_true rfl) (Nat.le_of_ble_eq_true rfl) (c_P_fewest (by omega) q5) ?_
      refine x_istore_n (L1 := [(0, .ref 0), (1, .int p1), (2, .int v6)]) d_N_pedals_22 rfl (Nat.le_of_ble_eq_true rfl) rfl rfl ?_
      refine x_iload_n d_N_pedals_23 rfl 1 rfl ?_
      refine x_if_ne (tgt := 39) d_N_pedals_24 rfl (fun c8 => ?_) (fun c8 => ?_)
      · replace h := ite_f c8 h
        refine x_iload_n d_N_pedals_39 rfl 2 rfl ?_
        obtain rfl := Option.some.inj h
        exact x_ret (r := some (.int v6)) d_N_pedals_40 ⟨_, rfl, rfl⟩
      · replace h := ite_t c8 h
        refine x_iload_n d_N_pedals_27 rfl 2 rfl ?_
        refine x_iconst d_N_pedals_28 ic_m1 ?_
        refine x_icmp_eq (tgt := 39) d_N_pedals_29 rfl (fun c9 => ?_) (fun c9 => ?_)
        · replace h := ite_t c9 h
          refine x_iload_n d_N_pedals_39 rfl 2 rfl ?_
          obtain rfl := Option.some.inj h
          exact x_ret (r := some (.int v6)) d_N_pedals_40 ⟨_, rfl, rfl⟩
        · replace h := ite_f c9 h
          refine x_iload_n d_N_pedals_32 rfl 2 rfl ?_
          obtain ⟨v11, q10, h⟩ := bd_inv h
          refine y_S1i (v := v11) (S1 := S7) d_N_pedals_33 ml_0_206 (Nat.le_of_ble_eq_true rfl) (Nat.le_of_ble_eq_true rfl) (c_J_bitCount (by omega) q10) ?_
          refine x_goto (tgt := 40) d_N_pedals_36 rfl ?_
          obtain rfl := Option.some.inj h
          exact x_ret (r := some (.int v11)) d_N_pedals_40 ⟨_, rfl, rfl⟩
    · replace h := ite_f c2 h
      refine x_iconst d_N_pedals_9 ic_m1 ?_
      obtain rfl := Option.some.inj h
      exact x_ret (r := some (.int (-1 : Int32))) d_N_pedals_10 ⟨_, rfl, rfl⟩
/-! NinetyPlayersModel.pedals -/
def j_M_pedals_65 (F G : Nat) (z1 : Int32) (z2 : Int32) (z3 : Int32) (k105 : Int32 → St → Option (Int32 × St)) (rec : Int32 → Int32 → St → Option (Int32 × St)) (S : St) (y4 : Int32) (y5 : Int32) : Option (Int32 × St) :=
  gd (inB (40 : Int32) 41) (lt (sI S 101 (40 : Int32).toNatClampNeg y5) fun S20 => bd (fM_layHold F G S20 ) fun S23 => bd (fM_canBePlayed F G S23 z2 z3 (S23.1 78 50) (S23.1 78 49)) fun v25 => if v25 = 0 then lt (y5 + 1) fun v27 => rec y4 v27 S23 else lt (y5 + 1) fun v29 => rec y5 v29 S23)
def b_M_pedals_33 (F G : Nat) (z1 : Int32) (z2 : Int32) (z3 : Int32) (k105 : Int32 → St → Option (Int32 × St)) (rec : Int32 → Int32 → St → Option (Int32 × St)) (w4 : Int32) (w5 : Int32) (S : St) : Option (Int32 × St) :=
  if ((1 : Int32) <<< ((S.1 78 46) &&& 31)) ≤ w5 then k105 w4 S else if w4 < 0 then j_M_pedals_65 F G z1 z2 z3 k105 rec  S w4 w5 else bd (fM_members F G S w5) fun v13 => bd (fM_members F G S w4) fun v15 => if v13 < v15 then j_M_pedals_65 F G z1 z2 z3 k105 rec  S w4 w5 else lt (w5 + 1) fun v17 => rec w4 v17 S
def fM_pedals (F G : Nat) (S : St) (p1 : Int32) : Option (Int32 × St) :=
  bd (fM_isIn F G S p1 (0 : Int32) (1 : Int32)) fun v2 => if v2 = 0 then some ((-1 : Int32), S) else bd (fM_fill F G S ) fun S5 => bd (fM_given F G S5 (1 : Int32)) fun v7 => bd (fM_given F G S5 (2 : Int32)) fun v9 => fx3 (b_M_pedals_33 F G p1 v7 v9 (fun v31 S32 => if 0 ≤ v31 then if p1 = 0 then bd (fM_members F G S32 v31) fun v36 => some (v36, S32) else some (v31, S32) else some ((-1 : Int32), S32))) F (-1 : Int32) (0 : Int32) S5
set_option maxRecDepth 100000 in
set_option maxHeartbeats 4000000 in
theorem T_M_pedals_33 {X : Nat × (Nat → Int32)} {D F G : Nat} (hD : 4 ≤ D + 1) {z1 : Int32} {z2 : Int32} {z3 : Int32} {k105 : Int32 → St → Option (Int32 × St)} (hk105 : ∀ (u4 : Int32) (S1 : St) (res : Int32 × St), k105 u4 S1 = some res → Ek X (D + 1) mM_pedals 105 [(1, .int z1), (4, .int u4)] [] S1 (some (.int res.1)) res.2) : ∀ (f : Nat) (w4 : Int32) (w5 : Int32) (S : St) (res : Int32 × St), fx3 (b_M_pedals_33 F G z1 z2 z3 k105 ) f w4 w5 S = some res → Ek X (D + 1) mM_pedals 33 [(0, .ref 78), (1, .int z1), (2, .int z2), (3, .int z3), (4, .int w4), (5, .int w5)] [] S (some (.int res.1)) res.2 := by
  refine fx3_ind ?_
  intro rec ih w4 w5 S res h
  unfold b_M_pedals_33 at h
  have J65 : ∀ (S : St) (y4 : Int32) (y5 : Int32) (res : Int32 × St), j_M_pedals_65 F G z1 z2 z3 k105 rec S y4 y5 = some res → Ek X (D + 1) mM_pedals 65 [(0, .ref 78), (1, .int z1), (2, .int z2), (3, .int z3), (4, .int y4), (5, .int y5)] [] S (some (.int res.1)) res.2 := by
    intro S y4 y5 res h
    unfold j_M_pedals_65 at h
    refine x_aload_n d_M_pedals_65 rfl 0 rfl ?_
    refine y_getR d_M_pedals_66 fl_11_96 rfl kd_78 rr_78_59 ?_
    refine x_bipush d_M_pedals_69 bp_40 ?_
    refine x_iload d_M_pedals_71 5 rfl ?_
    obtain ⟨g19, h⟩ := gd_inv h
    obtain ⟨S20, e21, h⟩ := lt_inv h
    refine y_iast e21 d_M_pedals_73 kd_101 g19 ?_
    refine x_aload_n d_M_pedals_74 rfl 0 rfl ?_
    obtain ⟨S23, q22, h⟩ := bd_inv h
    refine y_V0v (S1 := S23) d_M_pedals_75 ml_11_433 kd_78 rfl (Nat.le_of_ble_eq_true rfl) (Nat.le_of_ble_eq_true rfl) (c_M_layHold (by omega) q22) ?_
    refine x_aload_n d_M_pedals_78 rfl 0 rfl ?_
    refine x_iload_n d_M_pedals_79 rfl 2 rfl ?_
    refine x_iload_n d_M_pedals_80 rfl 3 rfl ?_
    refine x_aload_n d_M_pedals_81 rfl 0 rfl ?_
    refine y_getI d_M_pedals_82 fl_11_84 rfl kd_78 ?_
    refine x_aload_n d_M_pedals_85 rfl 0 rfl ?_
    refine y_getI d_M_pedals_86 fl_11_81 rfl kd_78 ?_
    obtain ⟨v25, q24, h⟩ := bd_inv h
    refine y_V4i (v := v25) (S1 := S23) d_M_pedals_89 ml_11_457 kd_78 rfl (Nat.le_of_ble_eq_true rfl) (Nat.le_of_ble_eq_true rfl) (c_M_canBePlayed (by omega) q24) ?_
    refine x_if_eq (tgt := 99) d_M_pedals_92 rfl (fun c26 => ?_) (fun c26 => ?_)
    · replace h := ite_t c26 h
      obtain ⟨v27, e28, h⟩ := lt_inv h
      refine y_iinc (L1 := [(0, .ref 78), (1, .int z1), (2, .int z2), (3, .int z3), (4, .int y4), (5, .int v27)]) e28 ic_1 d_M_pedals_99 5 rfl (Nat.le_of_ble_eq_true rfl) rfl rfl ?_
      refine x_goto (tgt := 33) d_M_pedals_102 rfl ?_
      exact ih y4 v27 S23 _ h
    · replace h := ite_f c26 h
      refine x_iload d_M_pedals_95 5 rfl ?_
      refine x_istore (L1 := [(0, .ref 78), (1, .int z1), (2, .int z2), (3, .int z3), (4, .int y5), (5, .int y5)]) d_M_pedals_97 (Nat.le_of_ble_eq_true rfl) rfl rfl ?_
      obtain ⟨v29, e30, h⟩ := lt_inv h
      refine y_iinc (L1 := [(0, .ref 78), (1, .int z1), (2, .int z2), (3, .int z3), (4, .int y5), (5, .int v29)]) e30 ic_1 d_M_pedals_99 5 rfl (Nat.le_of_ble_eq_true rfl) rfl rfl ?_
      refine x_goto (tgt := 33) d_M_pedals_102 rfl ?_
      exact ih y5 v29 S23 _ h
  refine x_iload d_M_pedals_33 5 rfl ?_
  refine x_iconst d_M_pedals_35 ic_1 ?_
  refine x_aload_n d_M_pedals_36 rfl 0 rfl ?_
  refine y_getI d_M_pedals_37 fl_11_78 rfl kd_78 ?_
  refine x_ishl d_M_pedals_40 ?_
  refine x_icmp_ge (tgt := 105) d_M_pedals_41 rfl (fun c10 => ?_) (fun c10 => ?_)
  · replace h := ite_t c10 h
    refine y_pick (L1 := [(1, .int z1), (4, .int w4)]) [1, 4] rfl ?_
    exact hk105 w4 S _ h
  · replace h := ite_f c10 h
    refine x_iload d_M_pedals_44 4 rfl ?_
    refine x_if_lt (tgt := 65) d_M_pedals_46 rfl (fun c11 => ?_) (fun c11 => ?_)
    · replace h := ite_t c11 h
      exact J65 S w4 w5 _ h
    · replace h := ite_f c11 h
      refine x_iload d_M_pedals_49 5 rfl ?_
      obtain ⟨v13, q12, h⟩ := bd_inv h
      refine y_S1i (v := v13) (S1 := S) d_M_pedals_51 ml_11_331 (Nat.le_of_ble_eq_true rfl) (Nat.le_of_ble_eq_true rfl) (c_M_members (by omega) q12) ?_
      refine x_iload d_M_pedals_54 4 rfl ?_
      obtain ⟨v15, q14, h⟩ := bd_inv h
      refine y_S1i (v := v15) (S1 := S) d_M_pedals_56 ml_11_331 (Nat.le_of_ble_eq_true rfl) (Nat.le_of_ble_eq_true rfl) (c_M_members (by omega) q14) ?_
      refine x_icmp_lt (tgt := 65) d_M_pedals_59 rfl (fun c16 => ?_) (fun c16 => ?_)
      · replace h := ite_t c16 h
        exact J65 S w4 w5 _ h
      · replace h := ite_f c16 h
        refine x_goto (tgt := 99) d_M_pedals_62 rfl ?_
        obtain ⟨v17, e18, h⟩ := lt_inv h
        refine y_iinc (L1 := [(0, .ref 78), (1, .int z1), (2, .int z2), (3, .int z3), (4, .int w4), (5, .int v17)]) e18 ic_1 d_M_pedals_99 5 rfl (Nat.le_of_ble_eq_true rfl) rfl rfl ?_
        refine x_goto (tgt := 33) d_M_pedals_102 rfl ?_
        exact ih w4 v17 S _ h
set_option maxRecDepth 100000 in
set_option maxHeartbeats 4000000 in
theorem c_M_pedals {X : Nat × (Nat → Int32)} {D F G : Nat} (hD : 4 ≤ D) {S : St} {p1 : Int32} {res : Int32 × St} (h : fM_pedals F G S p1 = some res) : Ek X (D) mM_pedals 0 [(0, .ref 78), (1, .int p1)] [] S (some (.int res.1)) res.2 := by
  obtain ⟨D, rfl⟩ : ∃ E, D = E + 1 := ⟨D - 1, by omega⟩
  unfold fM_pedals at h
  refine x_iload_n d_M_pedals_0 rfl 1 rfl ?_
  refine x_iconst d_M_pedals_1 ic_0 ?_
  refine x_iconst d_M_pedals_2 ic_1 ?_
  obtain ⟨v2, q1, h⟩ := bd_inv h
  refine y_S3i (v := v2) (S1 := S) d_M_pedals_3 ml_11_429 (Nat.le_of_ble_eq_true rfl) (Nat.le_of_ble_eq_true rfl) (c_M_isIn (by omega) q1) ?_
  refine x_if_ne (tgt := 11) d_M_pedals_6 rfl (fun c3 => ?_) (fun c3 => ?_)
  · replace h := ite_f c3 h
    refine x_aload_n d_M_pedals_11 rfl 0 rfl ?_
    obtain ⟨S5, q4, h⟩ := bd_inv h
    refine y_V0v (S1 := S5) d_M_pedals_12 ml_11_464 kd_78 rfl (Nat.le_of_ble_eq_true rfl) (Nat.le_of_ble_eq_true rfl) (c_M_fill (by omega) q4) ?_
    refine x_aload_n d_M_pedals_15 rfl 0 rfl ?_
    refine x_iconst d_M_pedals_16 ic_1 ?_
    obtain ⟨v7, q6, h⟩ := bd_inv h
    refine y_V1i (v := v7) (S1 := S5) d_M_pedals_17 ml_11_454 kd_78 rfl (Nat.le_of_ble_eq_true rfl) (Nat.le_of_ble_eq_true rfl) (c_M_given (by omega) q6) ?_
    refine x_istore_n (L1 := [(0, .ref 78), (1, .int p1), (2, .int v7)]) d_M_pedals_20 rfl (Nat.le_of_ble_eq_true rfl) rfl rfl ?_
    refine x_aload_n d_M_pedals_21 rfl 0 rfl ?_
    refine x_iconst d_M_pedals_22 ic_2 ?_
    obtain ⟨v9, q8, h⟩ := bd_inv h
    refine y_V1i (v := v9) (S1 := S5) d_M_pedals_23 ml_11_454 kd_78 rfl (Nat.le_of_ble_eq_true rfl) (Nat.le_of_ble_eq_true rfl) (c_M_given (by omega) q8) ?_
    refine x_istore_n (L1 := [(0, .ref 78), (1, .int p1), (2, .int v7), (3, .int v9)]) d_M_pedals_26 rfl (Nat.le_of_ble_eq_true rfl) rfl rfl ?_
    refine x_iconst d_M_pedals_27 ic_m1 ?_
    refine x_istore (L1 := [(0, .ref 78), (1, .int p1), (2, .int v7), (3, .int v9), (4, .int (-1 : Int32))]) d_M_pedals_28 (Nat.le_of_ble_eq_true rfl) rfl rfl ?_
    refine x_iconst d_M_pedals_30 ic_0 ?_
    refine x_istore (L1 := [(0, .ref 78), (1, .int p1), (2, .int v7), (3, .int v9), (4, .int (-1 : Int32)), (5, .int (0 : Int32))]) d_M_pedals_31 (Nat.le_of_ble_eq_true rfl) rfl rfl ?_
    refine T_M_pedals_33 (by omega)  ?_ F (-1 : Int32) (0 : Int32) S5 _ h
    · intro v31 S32 res h
      refine x_iload d_M_pedals_105 1 rfl ?_
      refine x_if_ge (tgt := 114) d_M_pedals_107 rfl (fun c33 => ?_) (fun c33 => ?_)
      · replace h := ite_t c33 h
        refine x_iload_n d_M_pedals_114 rfl 0 rfl ?_
        refine x_if_ne (tgt := 126) d_M_pedals_115 rfl (fun c34 => ?_) (fun c34 => ?_)
        · replace h := ite_f c34 h
          refine x_iload d_M_pedals_126 1 rfl ?_
          obtain rfl := Option.some.inj h
          exact x_ret (r := some (.int v31)) d_M_pedals_128 ⟨_, rfl, rfl⟩
        · replace h := ite_t c34 h
          refine x_iload d_M_pedals_118 1 rfl ?_
          obtain ⟨v36, q35, h⟩ := bd_inv h
          refine y_S1i (v := v36) (S1 := S32) d_M_pedals_120 ml_11_331 (Nat.le_of_ble_eq_true rfl) (Nat.le_of_ble_eq_true rfl) (c_M_members (by omega) q35) ?_
          refine x_goto (tgt := 128) d_M_pedals_123 rfl ?_
          obtain rfl := Option.some.inj h
          exact x_ret (r := some (.int v36)) d_M_pedals_128 ⟨_, rfl, rfl⟩
      · replace h := ite_f c33 h
        refine x_iconst d_M_pedals_110 ic_m1 ?_
        refine x_goto (tgt := 128) d_M_pedals_111 rfl ?_
        obtain rfl := Option.some.inj h
        exact x_ret (r := some (.int (-1 : Int32))) d_M_pedals_128 ⟨_, rfl, rfl⟩
  · replace h := ite_t c3 h
    refine x_iconst d_M_pedals_9 ic_m1 ?_
    obtain rfl := Option.some.inj h
    exact x_ret (r := some (.int (-1 : Int32))) d_M_pedals_10 ⟨_, rfl, rfl⟩
/-! NinetyPlayers$Keyboard.width -/
def fK_width (F G : Nat) (S : St) (p1 : Int32) : Option (Int32) :=
  if p1 = 0 then some (0 : Int32) else bd (fK_highest F G S p1) fun v3 => bd (fK_lowest F G S p1) fun v5 => some (v3 - v5)
set_option maxRecDepth 100000 in
set_option maxHeartbeats 4000000 in
theorem c_K_width {X : Nat × (Nat → Int32)} {D F G : Nat} (hD : 1 ≤ D) {S : St} {p1 : Int32} {res : Int32} (h : fK_width F G S p1 = some res) : Ek X (D) mK_width 0 [(0, .ref 56), (1, .int p1)] [] S (some (.int res)) S := by
  obtain ⟨D, rfl⟩ : ∃ E, D = E + 1 := ⟨D - 1, by omega⟩
  unfold fK_width at h
  refine x_iload_n d_K_width_0 rfl 1 rfl ?_
  refine x_if_ne (tgt := 8) d_K_width_1 rfl (fun c1 => ?_) (fun c1 => ?_)
  · replace h := ite_f c1 h
    refine x_aload_n d_K_width_8 rfl 0 rfl ?_
    refine x_iload_n d_K_width_9 rfl 1 rfl ?_
    obtain ⟨v3, q2, h⟩ := bd_inv h
    refine y_V1i (v := v3) (S1 := S) d_K_width_10 ml_7_78 kd_56 rfl (Nat.le_of_ble_eq_true rfl) (Nat.le_of_ble_eq_true rfl) (c_K_highest (by omega) q2) ?_
    refine x_aload_n d_K_width_13 rfl 0 rfl ?_
    refine x_iload_n d_K_width_14 rfl 1 rfl ?_
    obtain ⟨v5, q4, h⟩ := bd_inv h
    refine y_V1i (v := v5) (S1 := S) d_K_width_15 ml_7_81 kd_56 rfl (Nat.le_of_ble_eq_true rfl) (Nat.le_of_ble_eq_true rfl) (c_K_lowest (by omega) q4) ?_
    refine x_isub d_K_width_18 ?_
    obtain rfl := Option.some.inj h
    exact x_ret (r := some (.int (v3 - v5))) d_K_width_19 ⟨_, rfl, rfl⟩
  · replace h := ite_t c1 h
    refine x_iconst d_K_width_4 ic_0 ?_
    refine x_goto (tgt := 19) d_K_width_5 rfl ?_
    obtain rfl := Option.some.inj h
    exact x_ret (r := some (.int (0 : Int32))) d_K_width_19 ⟨_, rfl, rfl⟩
/-! NinetyPlayers.spread -/
def b_N_spread_17 (F G : Nat) (S : St) (z1 : Int32) (rec : Int32 → Int32 → Option (Int32 × St)) (w2 : Int32) (w3 : Int32) : Option (Int32 × St) :=
  gd (isSc S.2.2.1) (if (S.1 S.2.2.1 0) ≤ w3 then some (w2, S) else bd (fK_heldBy F G S z1 w3) fun v9 => bd (fK_width F G S v9) fun v11 => lt (if w2 < v11 then v11 else w2) fun v12 => lt (w3 + 1) fun v14 => rec v12 v14)
def fN_spread (F G : Nat) (S : St) (p1 : Int32) : Option (Int32 × St) :=
  bd (fN_isHand F G S p1) fun v2 => if v2 = 0 then some ((-1 : Int32), S) else bd (fN_lookAtKeys F G S ) fun S5 => fx2 (b_N_spread_17 F G S5 p1) F (0 : Int32) (0 : Int32)
set_option maxRecDepth 100000 in
set_option maxHeartbeats 4000000 in
theorem T_N_spread_17 {X : Nat × (Nat → Int32)} {D F G : Nat} (hD : 3 ≤ D + 1) {S : St} {z1 : Int32} : ∀ (f : Nat) (w2 : Int32) (w3 : Int32) (res : Int32 × St), fx2 (b_N_spread_17 F G S z1 ) f w2 w3 = some res → Ek X (D + 1) mN_spread 17 [(0, .ref 0), (1, .int z1), (2, .int w2), (3, .int w3)] [] S (some (.int res.1)) res.2 := by
  refine fx2_ind ?_
  intro rec ih w2 w3 res h
  unfold b_N_spread_17 at h
  refine x_iload_n d_N_spread_17 rfl 3 rfl ?_
  refine x_aload_n d_N_spread_18 rfl 0 rfl ?_
  refine y_getR d_N_spread_19 fl_0_25 rfl kd_0 rr_told ?_
  obtain ⟨g6, h⟩ := gd_inv h
  refine y_getI d_N_spread_22 fl_0_193 rfl (ksSc g6) ?_
  refine x_icmp_ge (tgt := 55) d_N_spread_25 rfl (fun c7 => ?_) (fun c7 => ?_)
  · replace h := ite_t c7 h
    refine x_iload_n d_N_spread_55 rfl 2 rfl ?_
    obtain rfl := Option.some.inj h
    exact x_ret (r := some (.int w2)) d_N_spread_56 ⟨_, rfl, rfl⟩
  · replace h := ite_f c7 h
    refine x_iload_n d_N_spread_28 rfl 2 rfl ?_
    refine x_aload_n d_N_spread_29 rfl 0 rfl ?_
    refine y_getR d_N_spread_30 fl_0_50 rfl kd_0 rr_0_7 ?_
    refine x_aload_n d_N_spread_33 rfl 0 rfl ?_
    refine y_getR d_N_spread_34 fl_0_50 rfl kd_0 rr_0_7 ?_
    refine x_iload_n d_N_spread_37 rfl 1 rfl ?_
    refine x_iload_n d_N_spread_38 rfl 3 rfl ?_
    obtain ⟨v9, q8, h⟩ := bd_inv h
    refine y_V2i (v := v9) (S1 := S) d_N_spread_39 ml_0_176 kd_56 rfl (Nat.le_of_ble_eq_true rfl) (Nat.le_of_ble_eq_true rfl) (c_K_heldBy (by omega) q8) ?_
    obtain ⟨v11, q10, h⟩ := bd_inv h
    refine y_V1i (v := v11) (S1 := S) d_N_spread_42 ml_0_297 kd_56 rfl (Nat.le_of_ble_eq_true rfl) (Nat.le_of_ble_eq_true rfl) (c_K_width (by omega) q10) ?_
    refine y_mmax d_N_spread_45 ml_0_230 (Nat.le_of_ble_eq_true rfl) ?_
    obtain ⟨v12, e13, h⟩ := lt_inv h
    refine y_istore_n (L1 := [(0, .ref 0), (1, .int z1), (2, .int v12), (3, .int w3)]) e13 d_N_spread_48 rfl (Nat.le_of_ble_eq_true rfl) rfl rfl ?_
    obtain ⟨v14, e15, h⟩ := lt_inv h
    refine y_iinc (L1 := [(0, .ref 0), (1, .int z1), (2, .int v12), (3, .int v14)]) e15 ic_1 d_N_spread_49 3 rfl (Nat.le_of_ble_eq_true rfl) rfl rfl ?_
    refine x_goto (tgt := 17) d_N_spread_52 rfl ?_
    exact ih v12 v14 _ h
set_option maxRecDepth 100000 in
set_option maxHeartbeats 4000000 in
theorem c_N_spread {X : Nat × (Nat → Int32)} {D F G : Nat} (hD : 3 ≤ D) {S : St} {p1 : Int32} {res : Int32 × St} (h : fN_spread F G S p1 = some res) : Ek X (D) mN_spread 0 [(0, .ref 0), (1, .int p1)] [] S (some (.int res.1)) res.2 := by
  obtain ⟨D, rfl⟩ : ∃ E, D = E + 1 := ⟨D - 1, by omega⟩
  unfold fN_spread at h
  refine x_iload_n d_N_spread_0 rfl 1 rfl ?_
  obtain ⟨v2, q1, h⟩ := bd_inv h
  refine y_S1i (v := v2) (S1 := S) d_N_spread_1 ml_0_170 (Nat.le_of_ble_eq_true rfl) (Nat.le_of_ble_eq_true rfl) (c_N_isHand (by omega) q1) ?_
  refine x_if_ne (tgt := 9) d_N_spread_4 rfl (fun c3 => ?_) (fun c3 => ?_)
  · replace h := ite_f c3 h
    refine x_aload_n d_N_spread_9 rfl 0 rfl ?_
    obtain ⟨S5, q4, h⟩ := bd_inv h
    refine y_V0v (S1 := S5) d_N_spread_10 ml_0_173 kd_0 rfl (Nat.le_of_ble_eq_true rfl) (Nat.le_of_ble_eq_true rfl) (c_N_lookAtKeys (by omega) q4) ?_
    refine x_iconst d_N_spread_13 ic_0 ?_
    refine x_istore_n (L1 := [(0, .ref 0), (1, .int p1), (2, .int (0 : Int32))]) d_N_spread_14 rfl (Nat.le_of_ble_eq_true rfl) rfl rfl ?_
    refine x_iconst d_N_spread_15 ic_0 ?_
    refine x_istore_n (L1 := [(0, .ref 0), (1, .int p1), (2, .int (0 : Int32)), (3, .int (0 : Int32))]) d_N_spread_16 rfl (Nat.le_of_ble_eq_true rfl) rfl rfl ?_
    refine T_N_spread_17 (by omega)   F (0 : Int32) (0 : Int32) _ h
  · replace h := ite_t c3 h
    refine x_iconst d_N_spread_7 ic_m1 ?_
    obtain rfl := Option.some.inj h
    exact x_ret (r := some (.int (-1 : Int32))) d_N_spread_8 ⟨_, rfl, rfl⟩
/-! NinetyPlayersModel.greater -/
def fM_greater (F G : Nat) (S : St) (p1 : Int32) (p2 : Int32) : Option (Int32) :=
  if p1 ≤ p2 then some p2 else some p1
set_option maxRecDepth 100000 in
set_option maxHeartbeats 4000000 in
theorem c_M_greater {X : Nat × (Nat → Int32)} {D F G : Nat} (hD : 0 ≤ D) {S : St} {p1 : Int32} {p2 : Int32} {res : Int32} (h : fM_greater F G S p1 p2 = some res) : Ek X (D) mM_greater 0 [(0, .int p1), (1, .int p2)] [] S (some (.int res)) S := by
  unfold fM_greater at h
  refine x_iload_n d_M_greater_0 rfl 0 rfl ?_
  refine x_iload_n d_M_greater_1 rfl 1 rfl ?_
  refine x_icmp_le (tgt := 9) d_M_greater_2 rfl (fun c1 => ?_) (fun c1 => ?_)
  · replace h := ite_t c1 h
    refine x_iload_n d_M_greater_9 rfl 1 rfl ?_
    obtain rfl := Option.some.inj h
    exact x_ret (r := some (.int p2)) d_M_greater_10 ⟨_, rfl, rfl⟩
  · replace h := ite_f c1 h
    refine x_iload_n d_M_greater_5 rfl 0 rfl ?_
    refine x_goto (tgt := 10) d_M_greater_6 rfl ?_
    obtain rfl := Option.some.inj h
    exact x_ret (r := some (.int p1)) d_M_greater_10 ⟨_, rfl, rfl⟩
/-! NinetyPlayersModel.spread -/
def b_M_spread_17 (F G : Nat) (S : St) (z1 : Int32) (rec : Int32 → Int32 → Option (Int32 × St)) (w2 : Int32) (w3 : Int32) : Option (Int32 × St) :=
  if (S.1 78 46) ≤ w3 then some (w2, S) else bd (fM_given F G S z1) fun v8 => gd (inB w3 12) (lt (v8 &&& (S.1 102 w3.toNatClampNeg)) fun v10 => if v10 = 0 then lt (w3 + 1) fun v13 => rec w2 v13 else bd (fM_highest F G S v10) fun v16 => bd (fM_lowest F G S v10) fun v18 => bd (fM_greater F G S w2 (v16 - v18)) fun v20 => lt (w3 + 1) fun v21 => rec v20 v21)
def fM_spread (F G : Nat) (S : St) (p1 : Int32) : Option (Int32 × St) :=
  bd (fM_isHand F G S p1) fun v2 => if v2 = 0 then some ((-1 : Int32), S) else bd (fM_fill F G S ) fun S5 => fx2 (b_M_spread_17 F G S5 p1) F (0 : Int32) (0 : Int32)
set_option maxRecDepth 100000 in
set_option maxHeartbeats 4000000 in
theorem T_M_spread_17 {X : Nat × (Nat → Int32)} {D F G : Nat} (hD : 2 ≤ D + 1) {S : St} {z1 : Int32} : ∀ (f : Nat) (w2 : Int32) (w3 : Int32) (res : Int32 × St), fx2 (b_M_spread_17 F G S z1 ) f w2 w3 = some res → Ek X (D + 1) mM_spread 17 [(0, .ref 78), (1, .int z1), (2, .int w2), (3, .int w3)] [] S (some (.int res.1)) res.2 := by
  refine fx2_ind ?_
  intro rec ih w2 w3 res h
  unfold b_M_spread_17 at h
  refine x_iload_n d_M_spread_17 rfl 3 rfl ?_
  refine x_aload_n d_M_spread_18 rfl 0 rfl ?_
  refine y_getI d_M_spread_19 fl_11_78 rfl kd_78 ?_
  refine x_icmp_ge (tgt := 68) d_M_spread_22 rfl (fun c6 => ?_) (fun c6 => ?_)
  · replace h := ite_t c6 h
    refine x_iload_n d_M_spread_68 rfl 2 rfl ?_
    obtain rfl := Option.some.inj h
    exact x_ret (r := some (.int w2)) d_M_spread_69 ⟨_, rfl, rfl⟩
  · replace h := ite_f c6 h
    refine x_aload_n d_M_spread_25 rfl 0 rfl ?_
    refine x_iload_n d_M_spread_26 rfl 1 rfl ?_
    obtain ⟨v8, q7, h⟩ := bd_inv h
    refine y_V1i (v := v8) (S1 := S) d_M_spread_27 ml_11_454 kd_78 rfl (Nat.le_of_ble_eq_true rfl) (Nat.le_of_ble_eq_true rfl) (c_M_given (by omega) q7) ?_
    refine x_aload_n d_M_spread_30 rfl 0 rfl ?_
    refine y_getR d_M_spread_31 fl_11_99 rfl kd_78 rr_78_60 ?_
    refine x_iload_n d_M_spread_34 rfl 3 rfl ?_
    obtain ⟨g9, h⟩ := gd_inv h
    refine y_iald d_M_spread_35 kd_102 g9 ?_
    refine x_iand d_M_spread_36 ?_
    obtain ⟨v10, e11, h⟩ := lt_inv h
    refine y_istore (L1 := [(0, .ref 78), (1, .int z1), (2, .int w2), (3, .int w3), (4, .int v10)]) e11 d_M_spread_37 (Nat.le_of_ble_eq_true rfl) rfl rfl ?_
    refine x_iload d_M_spread_39 4 rfl ?_
    refine x_if_eq (tgt := 62) d_M_spread_41 rfl (fun c12 => ?_) (fun c12 => ?_)
    · replace h := ite_t c12 h
      obtain ⟨v13, e14, h⟩ := lt_inv h
      refine y_iinc (L1 := [(0, .ref 78), (1, .int z1), (2, .int w2), (3, .int v13), (4, .int v10)]) e14 ic_1 d_M_spread_62 3 rfl (Nat.le_of_ble_eq_true rfl) rfl rfl ?_
      refine x_goto (tgt := 17) d_M_spread_65 rfl ?_
      refine y_pick (L1 := [(0, .ref 78), (1, .int z1), (2, .int w2), (3, .int v13)]) [0, 1, 2, 3] rfl ?_
      exact ih w2 v13 _ h
    · replace h := ite_f c12 h
      refine x_iload_n d_M_spread_44 rfl 2 rfl ?_
      refine x_aload_n d_M_spread_45 rfl 0 rfl ?_
      refine x_iload d_M_spread_46 4 rfl ?_
      obtain ⟨v16, q15, h⟩ := bd_inv h
      refine y_V1i (v := v16) (S1 := S) d_M_spread_48 ml_11_440 kd_78 rfl (Nat.le_of_ble_eq_true rfl) (Nat.le_of_ble_eq_true rfl) (c_M_highest (by omega) q15) ?_
      refine x_aload_n d_M_spread_51 rfl 0 rfl ?_
      refine x_iload d_M_spread_52 4 rfl ?_
      obtain ⟨v18, q17, h⟩ := bd_inv h
      refine y_V1i (v := v18) (S1 := S) d_M_spread_54 ml_11_437 kd_78 rfl (Nat.le_of_ble_eq_true rfl) (Nat.le_of_ble_eq_true rfl) (c_M_lowest (by omega) q17) ?_
      refine x_isub d_M_spread_57 ?_
      obtain ⟨v20, q19, h⟩ := bd_inv h
      refine y_S2i (v := v20) (S1 := S) d_M_spread_58 ml_11_527 (Nat.le_of_ble_eq_true rfl) (Nat.le_of_ble_eq_true rfl) (c_M_greater (by omega) q19) ?_
      refine x_istore_n (L1 := [(0, .ref 78), (1, .int z1), (2, .int v20), (3, .int w3), (4, .int v10)]) d_M_spread_61 rfl (Nat.le_of_ble_eq_true rfl) rfl rfl ?_
      obtain ⟨v21, e22, h⟩ := lt_inv h
      refine y_iinc (L1 := [(0, .ref 78), (1, .int z1), (2, .int v20), (3, .int v21), (4, .int v10)]) e22 ic_1 d_M_spread_62 3 rfl (Nat.le_of_ble_eq_true rfl) rfl rfl ?_
      refine x_goto (tgt := 17) d_M_spread_65 rfl ?_
      refine y_pick (L1 := [(0, .ref 78), (1, .int z1), (2, .int v20), (3, .int v21)]) [0, 1, 2, 3] rfl ?_
      exact ih v20 v21 _ h
set_option maxRecDepth 100000 in
set_option maxHeartbeats 4000000 in
theorem c_M_spread {X : Nat × (Nat → Int32)} {D F G : Nat} (hD : 2 ≤ D) {S : St} {p1 : Int32} {res : Int32 × St} (h : fM_spread F G S p1 = some res) : Ek X (D) mM_spread 0 [(0, .ref 78), (1, .int p1)] [] S (some (.int res.1)) res.2 := by
  obtain ⟨D, rfl⟩ : ∃ E, D = E + 1 := ⟨D - 1, by omega⟩
  unfold fM_spread at h
  refine x_iload_n d_M_spread_0 rfl 1 rfl ?_
  obtain ⟨v2, q1, h⟩ := bd_inv h
  refine y_S1i (v := v2) (S1 := S) d_M_spread_1 ml_11_476 (Nat.le_of_ble_eq_true rfl) (Nat.le_of_ble_eq_true rfl) (c_M_isHand (by omega) q1) ?_
  refine x_if_ne (tgt := 9) d_M_spread_4 rfl (fun c3 => ?_) (fun c3 => ?_)
  · replace h := ite_f c3 h
    refine x_aload_n d_M_spread_9 rfl 0 rfl ?_
    obtain ⟨S5, q4, h⟩ := bd_inv h
    refine y_V0v (S1 := S5) d_M_spread_10 ml_11_464 kd_78 rfl (Nat.le_of_ble_eq_true rfl) (Nat.le_of_ble_eq_true rfl) (c_M_fill (by omega) q4) ?_
    refine x_iconst d_M_spread_13 ic_0 ?_
    refine x_istore_n (L1 := [(0, .ref 78), (1, .int p1), (2, .int (0 : Int32))]) d_M_spread_14 rfl (Nat.le_of_ble_eq_true rfl) rfl rfl ?_
    refine x_iconst d_M_spread_15 ic_0 ?_
    refine x_istore_n (L1 := [(0, .ref 78), (1, .int p1), (2, .int (0 : Int32)), (3, .int (0 : Int32))]) d_M_spread_16 rfl (Nat.le_of_ble_eq_true rfl) rfl rfl ?_
    refine T_M_spread_17 (by omega)   F (0 : Int32) (0 : Int32) _ h
  · replace h := ite_t c3 h
    refine x_iconst d_M_spread_7 ic_m1 ?_
    obtain rfl := Option.some.inj h
    exact x_ret (r := some (.int (-1 : Int32))) d_M_spread_8 ⟨_, rfl, rfl⟩
/-! NinetyPlayers.leaps -/
def b_N_leaps_17 (F G : Nat) (S : St) (z1 : Int32) (rec : Int32 → Int32 → Option (Int32 × St)) (w2 : Int32) (w3 : Int32) : Option (Int32 × St) :=
  gd (isSc S.2.2.1) (if (S.1 S.2.2.1 0) ≤ w3 then some (w2, S) else bd (fK_heldBy F G S z1 (w3 - (1 : Int32))) fun v9 => bd (fK_heldBy F G S z1 w3) fun v11 => bd (fK_leapBetween F G S v9 v11) fun v13 => lt (if w2 < v13 then v13 else w2) fun v14 => lt (w3 + 1) fun v16 => rec v14 v16)
def fN_leaps (F G : Nat) (S : St) (p1 : Int32) : Option (Int32 × St) :=
  bd (fN_isHand F G S p1) fun v2 => if v2 = 0 then some ((-1 : Int32), S) else bd (fN_lookAtKeys F G S ) fun S5 => fx2 (b_N_leaps_17 F G S5 p1) F (0 : Int32) (1 : Int32)
set_option maxRecDepth 100000 in
set_option maxHeartbeats 4000000 in
theorem T_N_leaps_17 {X : Nat × (Nat → Int32)} {D F G : Nat} (hD : 3 ≤ D + 1) {S : St} {z1 : Int32} : ∀ (f : Nat) (w2 : Int32) (w3 : Int32) (res : Int32 × St), fx2 (b_N_leaps_17 F G S z1 ) f w2 w3 = some res → Ek X (D + 1) mN_leaps 17 [(0, .ref 0), (1, .int z1), (2, .int w2), (3, .int w3)] [] S (some (.int res.1)) res.2 := by
  refine fx2_ind ?_
  intro rec ih w2 w3 res h
  unfold b_N_leaps_17 at h
  refine x_iload_n d_N_leaps_17 rfl 3 rfl ?_
  refine x_aload_n d_N_leaps_18 rfl 0 rfl ?_
  refine y_getR d_N_leaps_19 fl_0_25 rfl kd_0 rr_told ?_
  obtain ⟨g6, h⟩ := gd_inv h
  refine y_getI d_N_leaps_22 fl_0_193 rfl (ksSc g6) ?_
  refine x_icmp_ge (tgt := 70) d_N_leaps_25 rfl (fun c7 => ?_) (fun c7 => ?_)
  · replace h := ite_t c7 h
    refine x_iload_n d_N_leaps_70 rfl 2 rfl ?_
    obtain rfl := Option.some.inj h
    exact x_ret (r := some (.int w2)) d_N_leaps_71 ⟨_, rfl, rfl⟩
  · replace h := ite_f c7 h
    refine x_aload_n d_N_leaps_28 rfl 0 rfl ?_
    refine y_getR d_N_leaps_29 fl_0_50 rfl kd_0 rr_0_7 ?_
    refine x_iload_n d_N_leaps_32 rfl 1 rfl ?_
    refine x_iload_n d_N_leaps_33 rfl 3 rfl ?_
    refine x_iconst d_N_leaps_34 ic_1 ?_
    refine x_isub d_N_leaps_35 ?_
    obtain ⟨v9, q8, h⟩ := bd_inv h
    refine y_V2i (v := v9) (S1 := S) d_N_leaps_36 ml_0_176 kd_56 rfl (Nat.le_of_ble_eq_true rfl) (Nat.le_of_ble_eq_true rfl) (c_K_heldBy (by omega) q8) ?_
    refine x_istore (L1 := [(0, .ref 0), (1, .int z1), (2, .int w2), (3, .int w3), (4, .int v9)]) d_N_leaps_39 (Nat.le_of_ble_eq_true rfl) rfl rfl ?_
    refine x_iload_n d_N_leaps_41 rfl 2 rfl ?_
    refine x_aload_n d_N_leaps_42 rfl 0 rfl ?_
    refine y_getR d_N_leaps_43 fl_0_50 rfl kd_0 rr_0_7 ?_
    refine x_iload d_N_leaps_46 4 rfl ?_
    refine x_aload_n d_N_leaps_48 rfl 0 rfl ?_
    refine y_getR d_N_leaps_49 fl_0_50 rfl kd_0 rr_0_7 ?_
    refine x_iload_n d_N_leaps_52 rfl 1 rfl ?_
    refine x_iload_n d_N_leaps_53 rfl 3 rfl ?_
    obtain ⟨v11, q10, h⟩ := bd_inv h
    refine y_V2i (v := v11) (S1 := S) d_N_leaps_54 ml_0_176 kd_56 rfl (Nat.le_of_ble_eq_true rfl) (Nat.le_of_ble_eq_true rfl) (c_K_heldBy (by omega) q10) ?_
    obtain ⟨v13, q12, h⟩ := bd_inv h
    refine y_V2i (v := v13) (S1 := S) d_N_leaps_57 ml_0_300 kd_56 rfl (Nat.le_of_ble_eq_true rfl) (Nat.le_of_ble_eq_true rfl) (c_K_leapBetween (by omega) q12) ?_
    refine y_mmax d_N_leaps_60 ml_0_230 (Nat.le_of_ble_eq_true rfl) ?_
    obtain ⟨v14, e15, h⟩ := lt_inv h
    refine y_istore_n (L1 := [(0, .ref 0), (1, .int z1), (2, .int v14), (3, .int w3), (4, .int v9)]) e15 d_N_leaps_63 rfl (Nat.le_of_ble_eq_true rfl) rfl rfl ?_
    obtain ⟨v16, e17, h⟩ := lt_inv h
    refine y_iinc (L1 := [(0, .ref 0), (1, .int z1), (2, .int v14), (3, .int v16), (4, .int v9)]) e17 ic_1 d_N_leaps_64 3 rfl (Nat.le_of_ble_eq_true rfl) rfl rfl ?_
    refine x_goto (tgt := 17) d_N_leaps_67 rfl ?_
    refine y_pick (L1 := [(0, .ref 0), (1, .int z1), (2, .int v14), (3, .int v16)]) [0, 1, 2, 3] rfl ?_
    exact ih v14 v16 _ h
set_option maxRecDepth 100000 in
set_option maxHeartbeats 4000000 in
theorem c_N_leaps {X : Nat × (Nat → Int32)} {D F G : Nat} (hD : 3 ≤ D) {S : St} {p1 : Int32} {res : Int32 × St} (h : fN_leaps F G S p1 = some res) : Ek X (D) mN_leaps 0 [(0, .ref 0), (1, .int p1)] [] S (some (.int res.1)) res.2 := by
  obtain ⟨D, rfl⟩ : ∃ E, D = E + 1 := ⟨D - 1, by omega⟩
  unfold fN_leaps at h
  refine x_iload_n d_N_leaps_0 rfl 1 rfl ?_
  obtain ⟨v2, q1, h⟩ := bd_inv h
  refine y_S1i (v := v2) (S1 := S) d_N_leaps_1 ml_0_170 (Nat.le_of_ble_eq_true rfl) (Nat.le_of_ble_eq_true rfl) (c_N_isHand (by omega) q1) ?_
  refine x_if_ne (tgt := 9) d_N_leaps_4 rfl (fun c3 => ?_) (fun c3 => ?_)
  · replace h := ite_f c3 h
    refine x_aload_n d_N_leaps_9 rfl 0 rfl ?_
    obtain ⟨S5, q4, h⟩ := bd_inv h
    refine y_V0v (S1 := S5) d_N_leaps_10 ml_0_173 kd_0 rfl (Nat.le_of_ble_eq_true rfl) (Nat.le_of_ble_eq_true rfl) (c_N_lookAtKeys (by omega) q4) ?_
    refine x_iconst d_N_leaps_13 ic_0 ?_
    refine x_istore_n (L1 := [(0, .ref 0), (1, .int p1), (2, .int (0 : Int32))]) d_N_leaps_14 rfl (Nat.le_of_ble_eq_true rfl) rfl rfl ?_
    refine x_iconst d_N_leaps_15 ic_1 ?_
    refine x_istore_n (L1 := [(0, .ref 0), (1, .int p1), (2, .int (0 : Int32)), (3, .int (1 : Int32))]) d_N_leaps_16 rfl (Nat.le_of_ble_eq_true rfl) rfl rfl ?_
    refine T_N_leaps_17 (by omega)   F (0 : Int32) (1 : Int32) _ h
  · replace h := ite_t c3 h
    refine x_iconst d_N_leaps_7 ic_m1 ?_
    obtain rfl := Option.some.inj h
    exact x_ret (r := some (.int (-1 : Int32))) d_N_leaps_8 ⟨_, rfl, rfl⟩
/-! NinetyPlayersModel.leaps -/
def b_M_leaps_17 (F G : Nat) (S : St) (z1 : Int32) (rec : Int32 → Int32 → Option (Int32 × St)) (w2 : Int32) (w3 : Int32) : Option (Int32 × St) :=
  if (S.1 78 46) ≤ w3 then some (w2, S) else bd (fM_given F G S z1) fun v8 => gd (inB w3 12) (lt (v8 &&& (S.1 102 w3.toNatClampNeg)) fun v10 => bd (fM_given F G S z1) fun v13 => gd (inB (w3 - (1 : Int32)) 12) (lt (v13 &&& (S.1 102 (w3 - (1 : Int32)).toNatClampNeg)) fun v15 => if v10 = 0 then lt (w3 + 1) fun v18 => rec w2 v18 else if v15 = 0 then lt (w3 + 1) fun v21 => rec w2 v21 else bd (fM_lowest F G S v10) fun v24 => bd (fM_lowest F G S v15) fun v26 => bd (fM_plain F G S (v24 - v26)) fun v28 => bd (fM_greater F G S w2 v28) fun v30 => lt (w3 + 1) fun v31 => rec v30 v31))
def fM_leaps (F G : Nat) (S : St) (p1 : Int32) : Option (Int32 × St) :=
  bd (fM_isHand F G S p1) fun v2 => if v2 = 0 then some ((-1 : Int32), S) else bd (fM_fill F G S ) fun S5 => fx2 (b_M_leaps_17 F G S5 p1) F (0 : Int32) (1 : Int32)
set_option maxRecDepth 100000 in
set_option maxHeartbeats 4000000 in
theorem T_M_leaps_17 {X : Nat × (Nat → Int32)} {D F G : Nat} (hD : 2 ≤ D + 1) {S : St} {z1 : Int32} : ∀ (f : Nat) (w2 : Int32) (w3 : Int32) (res : Int32 × St), fx2 (b_M_leaps_17 F G S z1 ) f w2 w3 = some res → Ek X (D + 1) mM_leaps 17 [(0, .ref 78), (1, .int z1), (2, .int w2), (3, .int w3)] [] S (some (.int res.1)) res.2 := by
  refine fx2_ind ?_
  intro rec ih w2 w3 res h
  unfold b_M_leaps_17 at h
  refine x_iload_n d_M_leaps_17 rfl 3 rfl ?_
  refine x_aload_n d_M_leaps_18 rfl 0 rfl ?_
  refine y_getI d_M_leaps_19 fl_11_78 rfl kd_78 ?_
  refine x_icmp_ge (tgt := 92) d_M_leaps_22 rfl (fun c6 => ?_) (fun c6 => ?_)
  · replace h := ite_t c6 h
    refine x_iload_n d_M_leaps_92 rfl 2 rfl ?_
    obtain rfl := Option.some.inj h
    exact x_ret (r := some (.int w2)) d_M_leaps_93 ⟨_, rfl, rfl⟩
  · replace h := ite_f c6 h
    refine x_aload_n d_M_leaps_25 rfl 0 rfl ?_
    refine x_iload_n d_M_leaps_26 rfl 1 rfl ?_
    obtain ⟨v8, q7, h⟩ := bd_inv h
    refine y_V1i (v := v8) (S1 := S) d_M_leaps_27 ml_11_454 kd_78 rfl (Nat.le_of_ble_eq_true rfl) (Nat.le_of_ble_eq_true rfl) (c_M_given (by omega) q7) ?_
    refine x_aload_n d_M_leaps_30 rfl 0 rfl ?_
    refine y_getR d_M_leaps_31 fl_11_99 rfl kd_78 rr_78_60 ?_
    refine x_iload_n d_M_leaps_34 rfl 3 rfl ?_
    obtain ⟨g9, h⟩ := gd_inv h
    refine y_iald d_M_leaps_35 kd_102 g9 ?_
    refine x_iand d_M_leaps_36 ?_
    obtain ⟨v10, e11, h⟩ := lt_inv h
    refine y_istore (L1 := [(0, .ref 78), (1, .int z1), (2, .int w2), (3, .int w3), (4, .int v10)]) e11 d_M_leaps_37 (Nat.le_of_ble_eq_true rfl) rfl rfl ?_
    refine x_aload_n d_M_leaps_39 rfl 0 rfl ?_
    refine x_iload_n d_M_leaps_40 rfl 1 rfl ?_
    obtain ⟨v13, q12, h⟩ := bd_inv h
    refine y_V1i (v := v13) (S1 := S) d_M_leaps_41 ml_11_454 kd_78 rfl (Nat.le_of_ble_eq_true rfl) (Nat.le_of_ble_eq_true rfl) (c_M_given (by omega) q12) ?_
    refine x_aload_n d_M_leaps_44 rfl 0 rfl ?_
    refine y_getR d_M_leaps_45 fl_11_99 rfl kd_78 rr_78_60 ?_
    refine x_iload_n d_M_leaps_48 rfl 3 rfl ?_
    refine x_iconst d_M_leaps_49 ic_1 ?_
    refine x_isub d_M_leaps_50 ?_
    obtain ⟨g14, h⟩ := gd_inv h
    refine y_iald d_M_leaps_51 kd_102 g14 ?_
    refine x_iand d_M_leaps_52 ?_
    obtain ⟨v15, e16, h⟩ := lt_inv h
    refine y_istore (L1 := [(0, .ref 78), (1, .int z1), (2, .int w2), (3, .int w3), (4, .int v10), (5, .int v15)]) e16 d_M_leaps_53 (Nat.le_of_ble_eq_true rfl) rfl rfl ?_
    refine x_iload d_M_leaps_55 4 rfl ?_
    refine x_if_eq (tgt := 86) d_M_leaps_57 rfl (fun c17 => ?_) (fun c17 => ?_)
    · replace h := ite_t c17 h
      obtain ⟨v18, e19, h⟩ := lt_inv h
      refine y_iinc (L1 := [(0, .ref 78), (1, .int z1), (2, .int w2), (3, .int v18), (4, .int v10), (5, .int v15)]) e19 ic_1 d_M_leaps_86 3 rfl (Nat.le_of_ble_eq_true rfl) rfl rfl ?_
      refine x_goto (tgt := 17) d_M_leaps_89 rfl ?_
      refine y_pick (L1 := [(0, .ref 78), (1, .int z1), (2, .int w2), (3, .int v18)]) [0, 1, 2, 3] rfl ?_
      exact ih w2 v18 _ h
    · replace h := ite_f c17 h
      refine x_iload d_M_leaps_60 5 rfl ?_
      refine x_if_eq (tgt := 86) d_M_leaps_62 rfl (fun c20 => ?_) (fun c20 => ?_)
      · replace h := ite_t c20 h
        obtain ⟨v21, e22, h⟩ := lt_inv h
        refine y_iinc (L1 := [(0, .ref 78), (1, .int z1), (2, .int w2), (3, .int v21), (4, .int v10), (5, .int v15)]) e22 ic_1 d_M_leaps_86 3 rfl (Nat.le_of_ble_eq_true rfl) rfl rfl ?_
        refine x_goto (tgt := 17) d_M_leaps_89 rfl ?_
        refine y_pick (L1 := [(0, .ref 78), (1, .int z1), (2, .int w2), (3, .int v21)]) [0, 1, 2, 3] rfl ?_
        exact ih w2 v21 _ h
      · replace h := ite_f c20 h
        refine x_iload_n d_M_leaps_65 rfl 2 rfl ?_
        refine x_aload_n d_M_leaps_66 rfl 0 rfl ?_
        refine x_iload d_M_leaps_67 4 rfl ?_
        obtain ⟨v24, q23, h⟩ := bd_inv h
        refine y_V1i (v := v24) (S1 := S) d_M_leaps_69 ml_11_437 kd_78 rfl (Nat.le_of_ble_eq_true rfl) (Nat.le_of_ble_eq_true rfl) (c_M_lowest (by omega) q23) ?_
        refine x_aload_n d_M_leaps_72 rfl 0 rfl ?_
        refine x_iload d_M_leaps_73 5 rfl ?_
        obtain ⟨v26, q25, h⟩ := bd_inv h
        refine y_V1i (v := v26) (S1 := S) d_M_leaps_75 ml_11_437 kd_78 rfl (Nat.le_of_ble_eq_true rfl) (Nat.le_of_ble_eq_true rfl) (c_M_lowest (by omega) q25) ?_
        refine x_isub d_M_leaps_78 ?_
        obtain ⟨v28, q27, h⟩ := bd_inv h
        refine y_S1i (v := v28) (S1 := S) d_M_leaps_79 ml_11_325 (Nat.le_of_ble_eq_true rfl) (Nat.le_of_ble_eq_true rfl) (c_M_plain (by omega) q27) ?_
        obtain ⟨v30, q29, h⟩ := bd_inv h
        refine y_S2i (v := v30) (S1 := S) d_M_leaps_82 ml_11_527 (Nat.le_of_ble_eq_true rfl) (Nat.le_of_ble_eq_true rfl) (c_M_greater (by omega) q29) ?_
        refine x_istore_n (L1 := [(0, .ref 78), (1, .int z1), (2, .int v30), (3, .int w3), (4, .int v10), (5, .int v15)]) d_M_leaps_85 rfl (Nat.le_of_ble_eq_true rfl) rfl rfl ?_
        obtain ⟨v31, e32, h⟩ := lt_inv h
        refine y_iinc (L1 := [(0, .ref 78), (1, .int z1), (2, .int v30), (3, .int v31), (4, .int v10), (5, .int v15)]) e32 ic_1 d_M_leaps_86 3 rfl (Nat.le_of_ble_eq_true rfl) rfl rfl ?_
        refine x_goto (tgt := 17) d_M_leaps_89 rfl ?_
        refine y_pick (L1 := [(0, .ref 78), (1, .int z1), (2, .int v30), (3, .int v31)]) [0, 1, 2, 3] rfl ?_
        exact ih v30 v31 _ h
set_option maxRecDepth 100000 in
set_option maxHeartbeats 4000000 in
theorem c_M_leaps {X : Nat × (Nat → Int32)} {D F G : Nat} (hD : 2 ≤ D) {S : St} {p1 : Int32} {res : Int32 × St} (h : fM_leaps F G S p1 = some res) : Ek X (D) mM_leaps 0 [(0, .ref 78), (1, .int p1)] [] S (some (.int res.1)) res.2 := by
  obtain ⟨D, rfl⟩ : ∃ E, D = E + 1 := ⟨D - 1, by omega⟩
  unfold fM_leaps at h
  refine x_iload_n d_M_leaps_0 rfl 1 rfl ?_
  obtain ⟨v2, q1, h⟩ := bd_inv h
  refine y_S1i (v := v2) (S1 := S) d_M_leaps_1 ml_11_476 (Nat.le_of_ble_eq_true rfl) (Nat.le_of_ble_eq_true rfl) (c_M_isHand (by omega) q1) ?_
  refine x_if_ne (tgt := 9) d_M_leaps_4 rfl (fun c3 => ?_) (fun c3 => ?_)
  · replace h := ite_f c3 h
    refine x_aload_n d_M_leaps_9 rfl 0 rfl ?_
    obtain ⟨S5, q4, h⟩ := bd_inv h
    refine y_V0v (S1 := S5) d_M_leaps_10 ml_11_464 kd_78 rfl (Nat.le_of_ble_eq_true rfl) (Nat.le_of_ble_eq_true rfl) (c_M_fill (by omega) q4) ?_
    refine x_iconst d_M_leaps_13 ic_0 ?_
    refine x_istore_n (L1 := [(0, .ref 78), (1, .int p1), (2, .int (0 : Int32))]) d_M_leaps_14 rfl (Nat.le_of_ble_eq_true rfl) rfl rfl ?_
    refine x_iconst d_M_leaps_15 ic_1 ?_
    refine x_istore_n (L1 := [(0, .ref 78), (1, .int p1), (2, .int (0 : Int32)), (3, .int (1 : Int32))]) d_M_leaps_16 rfl (Nat.le_of_ble_eq_true rfl) rfl rfl ?_
    refine T_M_leaps_17 (by omega)   F (0 : Int32) (1 : Int32) _ h
  · replace h := ite_t c3 h
    refine x_iconst d_M_leaps_7 ic_m1 ?_
    obtain rfl := Option.some.inj h
    exact x_ret (r := some (.int (-1 : Int32))) d_M_leaps_8 ⟨_, rfl, rfl⟩
/-! NinetyPlayers$Keyboard.blurredAt -/
def j_K_blurredAt_85 (F G : Nat) (S : St) (z2 : Int32) (z3 : Int32) (z5 : Int32) (k119 : Int32 → Option (Int32)) (rec : Int32 → Int32 → Option (Int32)) (_ : St) (y4 : Int32) (y6 : Int32) (y7 : Int32) (s0 : Int32) : Option (Int32) :=
  if s0 = 0 then lt (y6 + 1) fun v16 => rec y4 v16 else if (z2 &&& y7) = y7 then if (z3 &&& y7) = y7 then lt (y6 + 1) fun v22 => rec y4 v22 else lt (y4 + 1) fun v24 => lt (y6 + 1) fun v26 => rec v24 v26 else lt (y6 + 1) fun v19 => rec y4 v19
def j_K_blurredAt_80 (F G : Nat) (S : St) (z2 : Int32) (z3 : Int32) (z5 : Int32) (k119 : Int32 → Option (Int32)) (rec : Int32 → Int32 → Option (Int32)) (_ : St) (y4 : Int32) (y6 : Int32) (y7 : Int32) : Option (Int32) :=
  j_K_blurredAt_85 F G S z2 z3 z5 k119 rec  S y4 y6 y7 (1 : Int32)
def b_K_blurredAt_30 (F G : Nat) (S : St) (z2 : Int32) (z3 : Int32) (z5 : Int32) (k119 : Int32 → Option (Int32)) (rec : Int32 → Int32 → Option (Int32)) (w4 : Int32) (w6 : Int32) : Option (Int32) :=
  if z5 ≤ w6 then k119 w4 else lt (((1 : Int32) <<< (z5 &&& 31)) ||| ((1 : Int32) <<< (w6 &&& 31))) fun v7 => gd (inB z5 10) (gd (inB w6 10) (lt (if 0 ≤ ((S.1 57 z5.toNatClampNeg) - (S.1 57 w6.toNatClampNeg)) then ((S.1 57 z5.toNatClampNeg) - (S.1 57 w6.toNatClampNeg)) else 0 - ((S.1 57 z5.toNatClampNeg) - (S.1 57 w6.toNatClampNeg))) fun v11 => if v11 = (1 : Int32) then j_K_blurredAt_80 F G S z2 z3 z5 k119 rec  S w4 w6 v7 else if v11 = (2 : Int32) then j_K_blurredAt_80 F G S z2 z3 z5 k119 rec  S w4 w6 v7 else j_K_blurredAt_85 F G S z2 z3 z5 k119 rec  S w4 w6 v7 (0 : Int32)))
def b_K_blurredAt_18 (F G : Nat) (S : St) (z2 : Int32) (z3 : Int32) (rec : Int32 → Int32 → Option (Int32)) (w4 : Int32) (w5 : Int32) : Option (Int32) :=
  if (S.1 56 1) ≤ w5 then some w4 else fx2 (b_K_blurredAt_30 F G S z2 z3 w5 (fun v28 => lt (w5 + 1) fun v29 => rec v28 v29)) F w4 (0 : Int32)
def fK_blurredAt (F G : Nat) (S : St) (p1 : Int32) : Option (Int32) :=
  bd (fK_soundingAt F G S p1) fun v2 => bd (fK_timelyAt F G S p1) fun v4 => fx2 (b_K_blurredAt_18 F G S v2 v4) F (0 : Int32) (1 : Int32)
set_option maxRecDepth 100000 in
set_option maxHeartbeats 4000000 in
theorem T_K_blurredAt_30 {X : Nat × (Nat → Int32)} {D F G : Nat} (hD : 2 ≤ D + 1) {S : St} {z2 : Int32} {z3 : Int32} {z5 : Int32} {k119 : Int32 → Option (Int32)} (hk119 : ∀ (u4 : Int32) (res : Int32), k119 u4 = some res → Ek X (D + 1) mK_blurredAt 119 [(0, .ref 56), (2, .int z2), (3, .int z3), (4, .int u4), (5, .int z5)] [] S (some (.int res)) S) : ∀ (f : Nat) (w4 : Int32) (w6 : Int32) (res : Int32), fx2 (b_K_blurredAt_30 F G S z2 z3 z5 k119 ) f w4 w6 = some res → Ek X (D + 1) mK_blurredAt 30 [(0, .ref 56), (2, .int z2), (3, .int z3), (4, .int w4), (5, .int z5), (6, .int w6)] [] S (some (.int res)) S := by
  refine fx2_ind ?_
  intro rec ih w4 w6 res h
  unfold b_K_blurredAt_30 at h
  have J85 : ∀ (y4 : Int32) (y6 : Int32) (y7 : Int32) (s0 : Int32) (res : Int32), j_K_blurredAt_85 F G S z2 z3 z5 k119 rec S y4 y6 y7 s0 = some res → Ek X (D + 1) mK_blurredAt 85 [(0, .ref 56), (2, .int z2), (3, .int z3), (4, .int y4), (5, .int z5), (6, .int y6), (7, .int y7)] [.int s0] S (some (.int res)) S := by
    intro y4 y6 y7 s0 res h
    unfold j_K_blurredAt_85 at h
    refine x_istore (L1 := [(0, .ref 56), (2, .int z2), (3, .int z3), (4, .int y4), (5, .int z5), (6, .int y6), (7, .int y7), (9, .int s0)]) d_K_blurredAt_85 (Nat.le_of_ble_eq_true rfl) rfl rfl ?_
    refine x_iload d_K_blurredAt_87 7 rfl ?_
    refine x_if_eq (tgt := 113) d_K_blurredAt_89 rfl (fun c15 => ?_) (fun c15 => ?_)
    · replace h := ite_t c15 h
      obtain ⟨v16, e17, h⟩ := lt_inv h
      refine y_iinc (L1 := [(0, .ref 56), (2, .int z2), (3, .int z3), (4, .int y4), (5, .int z5), (6, .int v16), (7, .int y7), (9, .int s0)]) e17 ic_1 d_K_blurredAt_113 5 rfl (Nat.le_of_ble_eq_true rfl) rfl rfl ?_
      refine x_goto (tgt := 30) d_K_blurredAt_116 rfl ?_
      refine y_pick (L1 := [(0, .ref 56), (2, .int z2), (3, .int z3), (4, .int y4), (5, .int z5), (6, .int v16)]) [0, 1, 2, 3, 4, 5] rfl ?_
      exact ih y4 v16 _ h
    · replace h := ite_f c15 h
      refine x_iload_n d_K_blurredAt_92 rfl 1 rfl ?_
      refine x_iload d_K_blurredAt_93 6 rfl ?_
      refine x_iand d_K_blurredAt_95 ?_
      refine x_iload d_K_blurredAt_96 6 rfl ?_
      refine x_icmp_ne (tgt := 113) d_K_blurredAt_98 rfl (fun c18 => ?_) (fun c18 => ?_)
      · replace h := ite_f c18 h
        obtain ⟨v19, e20, h⟩ := lt_inv h
        refine y_iinc (L1 := [(0, .ref 56), (2, .int z2), (3, .int z3), (4, .int y4), (5, .int z5), (6, .int v19), (7, .int y7), (9, .int s0)]) e20 ic_1 d_K_blurredAt_113 5 rfl (Nat.le_of_ble_eq_true rfl) rfl rfl ?_
        refine x_goto (tgt := 30) d_K_blurredAt_116 rfl ?_
        refine y_pick (L1 := [(0, .ref 56), (2, .int z2), (3, .int z3), (4, .int y4), (5, .int z5), (6, .int v19)]) [0, 1, 2, 3, 4, 5] rfl ?_
        exact ih y4 v19 _ h
      · replace h := ite_t c18 h
        refine x_iload_n d_K_blurredAt_101 rfl 2 rfl ?_
        refine x_iload d_K_blurredAt_102 6 rfl ?_
        refine x_iand d_K_blurredAt_104 ?_
        refine x_iload d_K_blurredAt_105 6 rfl ?_
        refine x_icmp_eq (tgt := 113) d_K_blurredAt_107 rfl (fun c21 => ?_) (fun c21 => ?_)
        · replace h := ite_t c21 h
          obtain ⟨v22, e23, h⟩ := lt_inv h
          refine y_iinc (L1 := [(0, .ref 56), (2, .int z2), (3, .int z3), (4, .int y4), (5, .int z5), (6, .int v22), (7, .int y7), (9, .int s0)]) e23 ic_1 d_K_blurredAt_113 5 rfl (Nat.le_of_ble_eq_true rfl) rfl rfl ?_
          refine x_goto (tgt := 30) d_K_blurredAt_116 rfl ?_
          refine y_pick (L1 := [(0, .ref 56), (2, .int z2), (3, .int z3), (4, .int y4), (5, .int z5), (6, .int v22)]) [0, 1, 2, 3, 4, 5] rfl ?_
          exact ih y4 v22 _ h
        · replace h := ite_f c21 h
          obtain ⟨v24, e25, h⟩ := lt_inv h
          refine y_iinc (L1 := [(0, .ref 56), (2, .int z2), (3, .int z3), (4, .int v24), (5, .int z5), (6, .int y6), (7, .int y7), (9, .int s0)]) e25 ic_1 d_K_blurredAt_110 3 rfl (Nat.le_of_ble_eq_true rfl) rfl rfl ?_
          obtain ⟨v26, e27, h⟩ := lt_inv h
          refine y_iinc (L1 := [(0, .ref 56), (2, .int z2), (3, .int z3), (4, .int v24), (5, .int z5), (6, .int v26), (7, .int y7), (9, .int s0)]) e27 ic_1 d_K_blurredAt_113 5 rfl (Nat.le_of_ble_eq_true rfl) rfl rfl ?_
          refine x_goto (tgt := 30) d_K_blurredAt_116 rfl ?_
          refine y_pick (L1 := [(0, .ref 56), (2, .int z2), (3, .int z3), (4, .int v24), (5, .int z5), (6, .int v26)]) [0, 1, 2, 3, 4, 5] rfl ?_
          exact ih v24 v26 _ h
  have J80 : ∀ (y4 : Int32) (y6 : Int32) (y7 : Int32) (res : Int32), j_K_blurredAt_80 F G S z2 z3 z5 k119 rec S y4 y6 y7 = some res → Ek X (D + 1) mK_blurredAt 80 [(0, .ref 56), (2, .int z2), (3, .int z3), (4, .int y4), (5, .int z5), (6, .int y6), (7, .int y7)] [] S (some (.int res)) S := by
    intro y4 y6 y7 res h
    unfold j_K_blurredAt_80 at h
    refine x_iconst d_K_blurredAt_80 ic_1 ?_
    refine x_goto (tgt := 85) d_K_blurredAt_81 rfl ?_
    exact J85 y4 y6 y7 (1 : Int32) _ h
  refine x_iload d_K_blurredAt_30 5 rfl ?_
  refine x_iload d_K_blurredAt_32 4 rfl ?_
  refine x_icmp_ge (tgt := 119) d_K_blurredAt_34 rfl (fun c6 => ?_) (fun c6 => ?_)
  · replace h := ite_t c6 h
    refine y_pick (L1 := [(0, .ref 56), (2, .int z2), (3, .int z3), (4, .int w4), (5, .int z5)]) [0, 1, 2, 3, 4] rfl ?_
    exact hk119 w4 _ h
  · replace h := ite_f c6 h
    refine x_iconst d_K_blurredAt_37 ic_1 ?_
    refine x_iload d_K_blurredAt_38 4 rfl ?_
    refine x_ishl d_K_blurredAt_40 ?_
    refine x_iconst d_K_blurredAt_41 ic_1 ?_
    refine x_iload d_K_blurredAt_42 5 rfl ?_
    refine x_ishl d_K_blurredAt_44 ?_
    refine x_ior d_K_blurredAt_45 ?_
    obtain ⟨v7, e8, h⟩ := lt_inv h
    refine y_istore (L1 := [(0, .ref 56), (2, .int z2), (3, .int z3), (4, .int w4), (5, .int z5), (6, .int w6), (7, .int v7)]) e8 d_K_blurredAt_46 (Nat.le_of_ble_eq_true rfl) rfl rfl ?_
    refine x_aload_n d_K_blurredAt_48 rfl 0 rfl ?_
    refine y_getR d_K_blurredAt_49 fl_7_9 rfl kd_56 rr_56_8 ?_
    refine x_iload d_K_blurredAt_52 4 rfl ?_
    obtain ⟨g9, h⟩ := gd_inv h
    refine y_iald d_K_blurredAt_54 kd_57 g9 ?_
    refine x_aload_n d_K_blurredAt_55 rfl 0 rfl ?_
    refine y_getR d_K_blurredAt_56 fl_7_9 rfl kd_56 rr_56_8 ?_
    refine x_iload d_K_blurredAt_59 5 rfl ?_
    obtain ⟨g10, h⟩ := gd_inv h
    refine y_iald d_K_blurredAt_61 kd_57 g10 ?_
    refine x_isub d_K_blurredAt_62 ?_
    refine y_mabs d_K_blurredAt_63 ml_7_84 (Nat.le_of_ble_eq_true rfl) ?_
    obtain ⟨v11, e12, h⟩ := lt_inv h
    refine y_istore (L1 := [(0, .ref 56), (2, .int z2), (3, .int z3), (4, .int w4), (5, .int z5), (6, .int w6), (7, .int v7), (8, .int v11)]) e12 d_K_blurredAt_66 (Nat.le_of_ble_eq_true rfl) rfl rfl ?_
    refine x_iload d_K_blurredAt_68 7 rfl ?_
    refine x_iconst d_K_blurredAt_70 ic_1 ?_
    refine x_icmp_eq (tgt := 80) d_K_blurredAt_71 rfl (fun c13 => ?_) (fun c13 => ?_)
    · replace h := ite_t c13 h
      refine y_pick (L1 := [(0, .ref 56), (2, .int z2), (3, .int z3), (4, .int w4), (5, .int z5), (6, .int w6), (7, .int v7)]) [0, 1, 2, 3, 4, 5, 6] rfl ?_
      exact J80 w4 w6 v7 _ h
    · replace h := ite_f c13 h
      refine x_iload d_K_blurredAt_74 7 rfl ?_
      refine x_iconst d_K_blurredAt_76 ic_2 ?_
      refine x_icmp_ne (tgt := 84) d_K_blurredAt_77 rfl (fun c14 => ?_) (fun c14 => ?_)
      · replace h := ite_f c14 h
        refine x_iconst d_K_blurredAt_84 ic_0 ?_
        refine y_pick (L1 := [(0, .ref 56), (2, .int z2), (3, .int z3), (4, .int w4), (5, .int z5), (6, .int w6), (7, .int v7)]) [0, 1, 2, 3, 4, 5, 6] rfl ?_
        exact J85 w4 w6 v7 (0 : Int32) _ h
      · replace h := ite_t c14 h
        refine y_pick (L1 := [(0, .ref 56), (2, .int z2), (3, .int z3), (4, .int w4), (5, .int z5), (6, .int w6), (7, .int v7)]) [0, 1, 2, 3, 4, 5, 6] rfl ?_
        exact J80 w4 w6 v7 _ h
set_option maxRecDepth 100000 in
set_option maxHeartbeats 4000000 in
theorem T_K_blurredAt_18 {X : Nat × (Nat → Int32)} {D F G : Nat} (hD : 2 ≤ D + 1) {S : St} {z2 : Int32} {z3 : Int32} : ∀ (f : Nat) (w4 : Int32) (w5 : Int32) (res : Int32), fx2 (b_K_blurredAt_18 F G S z2 z3 ) f w4 w5 = some res → Ek X (D + 1) mK_blurredAt 18 [(0, .ref 56), (2, .int z2), (3, .int z3), (4, .int w4), (5, .int w5)] [] S (some (.int res)) S := by
  refine fx2_ind ?_
  intro rec ih w4 w5 res h
  unfold b_K_blurredAt_18 at h
  refine x_iload d_K_blurredAt_18 4 rfl ?_
  refine x_aload_n d_K_blurredAt_20 rfl 0 rfl ?_
  refine y_getI d_K_blurredAt_21 fl_7_34 rfl kd_56 ?_
  refine x_icmp_ge (tgt := 125) d_K_blurredAt_24 rfl (fun c5 => ?_) (fun c5 => ?_)
  · replace h := ite_t c5 h
    refine x_iload d_K_blurredAt_125 3 rfl ?_
    obtain rfl := Option.some.inj h
    exact x_ret (r := some (.int w4)) d_K_blurredAt_127 ⟨_, rfl, rfl⟩
  · replace h := ite_f c5 h
    refine x_iconst d_K_blurredAt_27 ic_0 ?_
    refine x_istore (L1 := [(0, .ref 56), (2, .int z2), (3, .int z3), (4, .int w4), (5, .int w5), (6, .int (0 : Int32))]) d_K_blurredAt_28 (Nat.le_of_ble_eq_true rfl) rfl rfl ?_
    refine T_K_blurredAt_30 (by omega)  ?_ F w4 (0 : Int32) _ h
    · intro v28 res h
      obtain ⟨v29, e30, h⟩ := lt_inv h
      refine y_iinc (L1 := [(0, .ref 56), (2, .int z2), (3, .int z3), (4, .int v28), (5, .int v29)]) e30 ic_1 d_K_blurredAt_119 4 rfl (Nat.le_of_ble_eq_true rfl) rfl rfl ?_
      refine x_goto (tgt := 18) d_K_blurredAt_122 rfl ?_
      exact ih v28 v29 _ h
set_option maxRecDepth 100000 in
set_option maxHeartbeats 4000000 in
theorem c_K_blurredAt {X : Nat × (Nat → Int32)} {D F G : Nat} (hD : 2 ≤ D) {S : St} {p1 : Int32} {res : Int32} (h : fK_blurredAt F G S p1 = some res) : Ek X (D) mK_blurredAt 0 [(0, .ref 56), (1, .int p1)] [] S (some (.int res)) S := by
  obtain ⟨D, rfl⟩ : ∃ E, D = E + 1 := ⟨D - 1, by omega⟩
  unfold fK_blurredAt at h
  refine x_aload_n d_K_blurredAt_0 rfl 0 rfl ?_
  refine x_iload_n d_K_blurredAt_1 rfl 1 rfl ?_
  obtain ⟨v2, q1, h⟩ := bd_inv h
  refine y_V1i (v := v2) (S1 := S) d_K_blurredAt_2 ml_7_115 kd_56 rfl (Nat.le_of_ble_eq_true rfl) (Nat.le_of_ble_eq_true rfl) (c_K_soundingAt (by omega) q1) ?_
  refine x_istore_n (L1 := [(0, .ref 56), (1, .int p1), (2, .int v2)]) d_K_blurredAt_5 rfl (Nat.le_of_ble_eq_true rfl) rfl rfl ?_
  refine x_aload_n d_K_blurredAt_6 rfl 0 rfl ?_
  refine x_iload_n d_K_blurredAt_7 rfl 1 rfl ?_
  obtain ⟨v4, q3, h⟩ := bd_inv h
  refine y_V1i (v := v4) (S1 := S) d_K_blurredAt_8 ml_7_75 kd_56 rfl (Nat.le_of_ble_eq_true rfl) (Nat.le_of_ble_eq_true rfl) (c_K_timelyAt (by omega) q3) ?_
  refine x_istore_n (L1 := [(0, .ref 56), (1, .int p1), (2, .int v2), (3, .int v4)]) d_K_blurredAt_11 rfl (Nat.le_of_ble_eq_true rfl) rfl rfl ?_
  refine x_iconst d_K_blurredAt_12 ic_0 ?_
  refine x_istore (L1 := [(0, .ref 56), (1, .int p1), (2, .int v2), (3, .int v4), (4, .int (0 : Int32))]) d_K_blurredAt_13 (Nat.le_of_ble_eq_true rfl) rfl rfl ?_
  refine x_iconst d_K_blurredAt_15 ic_1 ?_
  refine x_istore (L1 := [(0, .ref 56), (1, .int p1), (2, .int v2), (3, .int v4), (4, .int (0 : Int32)), (5, .int (1 : Int32))]) d_K_blurredAt_16 (Nat.le_of_ble_eq_true rfl) rfl rfl ?_
  refine y_pick (L1 := [(0, .ref 56), (2, .int v2), (3, .int v4), (4, .int (0 : Int32)), (5, .int (1 : Int32))]) [0, 2, 3, 4, 5] rfl ?_
  refine T_K_blurredAt_18 (by omega)   F (0 : Int32) (1 : Int32) _ h
