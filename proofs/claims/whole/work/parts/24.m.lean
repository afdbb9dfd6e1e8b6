/-! NinetyPlayers$Keyboard.highest -/
def b_K_highest_4 (F G : Nat) (S : St) (z1 : Int32) (rec : Int32 → Int32 → Option (Int32)) (w2 : Int32) (w3 : Int32) : Option (Int32) :=
  if (S.1 56 1) ≤ w3 then some w2 else if ((z1 >>> (w3 &&& 31)) &&& (1 : Int32)) = 0 then lt (w3 + 1) fun v3 => rec w2 v3 else gd (inB w3 10) (if (S.1 57 w3.toNatClampNeg) ≤ w2 then lt (w3 + 1) fun v7 => rec w2 v7 else gd (inB w3 10) (lt (S.1 57 w3.toNatClampNeg) fun v10 => lt (w3 + 1) fun v12 => rec v10 v12))
def fK_highest (F G : Nat) (S : St) (p1 : Int32) : Option (Int32) :=
  fx2 (b_K_highest_4 F G S p1) F (0 : Int32) (0 : Int32)
set_option maxRecDepth 100000 in
set_option maxHeartbeats 4000000 in
theorem T_K_highest_4 {X : Nat × (Nat → Int32)} {D F G : Nat} (hD : 0 ≤ D) {S : St} {z1 : Int32} : ∀ (f : Nat) (w2 : Int32) (w3 : Int32) (res : Int32), fx2 (b_K_highest_4 F G S z1 ) f w2 w3 = some res → Ek X (D) mK_highest 4 [(0, .ref 56), (1, .int z1), (2, .int w2), (3, .int w3)] [] S (some (.int res)) S := by
  refine fx2_ind ?_
  intro rec ih w2 w3 res h
  unfold b_K_highest_4 at h
  refine x_iload_n d_K_highest_4 rfl 3 rfl ?_
  refine x_aload_n d_K_highest_5 rfl 0 rfl ?_
  refine y_getI d_K_highest_6 fl_7_34 rfl kd_56 ?_
  refine x_icmp_ge (tgt := 43) d_K_highest_9 rfl (fun c1 => ?_) (fun c1 => ?_)
  · replace h := ite_t c1 h
    refine x_iload_n d_K_highest_43 rfl 2 rfl ?_
    obtain rfl := Option.some.inj h
    exact x_ret (r := some (.int w2)) d_K_highest_44 ⟨_, rfl, rfl⟩
  · replace h := ite_f c1 h
    refine x_iload_n d_K_highest_12 rfl 1 rfl ?_
    refine x_iload_n d_K_highest_13 rfl 3 rfl ?_
    refine x_ishr d_K_highest_14 ?_
    refine x_iconst d_K_highest_15 ic_1 ?_
    refine x_iand d_K_highest_16 ?_
    refine x_if_eq (tgt := 37) d_K_highest_17 rfl (fun c2 => ?_) (fun c2 => ?_)
    · replace h := ite_t c2 h
      obtain ⟨v3, e4, h⟩ := lt_inv h
      refine y_iinc (L1 := [(0, .ref 56), (1, .int z1), (2, .int w2), (3, .int v3)]) e4 ic_1 d_K_highest_37 3 rfl (Nat.le_of_ble_eq_true rfl) rfl rfl ?_
      refine x_goto (tgt := 4) d_K_highest_40 rfl ?_
      exact ih w2 v3 _ h
    · replace h := ite_f c2 h
      refine x_aload_n d_K_highest_20 rfl 0 rfl ?_
      refine y_getR d_K_highest_21 fl_7_9 rfl kd_56 rr_56_8 ?_
      refine x_iload_n d_K_highest_24 rfl 3 rfl ?_
      obtain ⟨g5, h⟩ := gd_inv h
      refine y_iald d_K_highest_25 kd_57 g5 ?_
      refine x_iload_n d_K_highest_26 rfl 2 rfl ?_
      refine x_icmp_le (tgt := 37) d_K_highest_27 rfl (fun c6 => ?_) (fun c6 => ?_)
      · replace h := ite_t c6 h
        obtain ⟨v7, e8, h⟩ := lt_inv h
        refine y_iinc (L1 := [(0, .ref 56), (1, .int z1), (2, .int w2), (3, .int v7)]) e8 ic_1 d_K_highest_37 3 rfl (Nat.le_of_ble_eq_true rfl) rfl rfl ?_
        refine x_goto (tgt := 4) d_K_highest_40 rfl ?_
        exact ih w2 v7 _ h
      · replace h := ite_f c6 h
        refine x_aload_n d_K_highest_30 rfl 0 rfl ?_
        refine y_getR d_K_highest_31 fl_7_9 rfl kd_56 rr_56_8 ?_
        refine x_iload_n d_K_highest_34 rfl 3 rfl ?_
        obtain ⟨g9, h⟩ := gd_inv h
        refine y_iald d_K_highest_35 kd_57 g9 ?_
        obtain ⟨v10, e11, h⟩ := lt_inv h
        refine y_istore_n (L1 := [(0, .ref 56), (1, .int z1), (2, .int v10), (3, .int w3)]) e11 d_K_highest_36 rfl (Nat.le_of_ble_eq_true rfl) rfl rfl ?_
        obtain ⟨v12, e13, h⟩ := lt_inv h
        refine y_iinc (L1 := [(0, .ref 56), (1, .int z1), (2, .int v10), (3, .int v12)]) e13 ic_1 d_K_highest_37 3 rfl (Nat.le_of_ble_eq_true rfl) rfl rfl ?_
        refine x_goto (tgt := 4) d_K_highest_40 rfl ?_
        exact ih v10 v12 _ h
set_option maxRecDepth 100000 in
set_option maxHeartbeats 4000000 in
theorem c_K_highest {X : Nat × (Nat → Int32)} {D F G : Nat} (hD : 0 ≤ D) {S : St} {p1 : Int32} {res : Int32} (h : fK_highest F G S p1 = some res) : Ek X (D) mK_highest 0 [(0, .ref 56), (1, .int p1)] [] S (some (.int res)) S := by
  unfold fK_highest at h
  refine x_iconst d_K_highest_0 ic_0 ?_
  refine x_istore_n (L1 := [(0, .ref 56), (1, .int p1), (2, .int (0 : Int32))]) d_K_highest_1 rfl (Nat.le_of_ble_eq_true rfl) rfl rfl ?_
  refine x_iconst d_K_highest_2 ic_0 ?_
  refine x_istore_n (L1 := [(0, .ref 56), (1, .int p1), (2, .int (0 : Int32)), (3, .int (0 : Int32))]) d_K_highest_3 rfl (Nat.le_of_ble_eq_true rfl) rfl rfl ?_
  refine T_K_highest_4 (by omega)   F (0 : Int32) (0 : Int32) _ h
/-! NinetyPlayers$Keyboard.clashesOfHand -/
def j_K_clashesOfHand_80 (F G : Nat) (S : St) (y4 : Int32) (s0 : Int32) : Option (Int32) :=
  if s0 = 0 then some y4 else some (y4 ||| (16 : Int32))
def j_K_clashesOfHand_79 (F G : Nat) (S : St) (y4 : Int32) : Option (Int32) :=
  j_K_clashesOfHand_80 F G  S y4 (0 : Int32)
def j_K_clashesOfHand_51 (F G : Nat) (S : St) (y1 : Int32) (y3 : Int32) (s0 : Int32) (s1 : Int32) : Option (Int32) :=
  lt (s0 ||| s1) fun v10 => if y1 = 0 then j_K_clashesOfHand_79 F G  S v10 else bd (fK_lowest F G S y1) fun v14 => if (if 0 ≤ (y3 - v14) then (y3 - v14) else 0 - (y3 - v14)) ≤ (S.1 56 4) then j_K_clashesOfHand_79 F G  S v10 else j_K_clashesOfHand_80 F G  S v10 (1 : Int32)
def j_K_clashesOfHand_28 (F G : Nat) (S : St) (y1 : Int32) (y2 : Int32) (y3 : Int32) (s0 : Int32) : Option (Int32) :=
  bd (fK_highest F G S y2) fun v8 => if (v8 - y3) ≤ (S.1 56 2) then j_K_clashesOfHand_51 F G  S y1 y3 s0 (0 : Int32) else j_K_clashesOfHand_51 F G  S y1 y3 s0 (2 : Int32)
def fK_clashesOfHand (F G : Nat) (S : St) (p1 : Int32) (p2 : Int32) : Option (Int32) :=
  if p2 = 0 then some (0 : Int32) else bd (fK_lowest F G S p2) fun v3 => bd (fJ_bitCount F G S p2) fun v5 => if v5 ≤ (S.1 56 3) then j_K_clashesOfHand_28 F G  S p1 p2 v3 (0 : Int32) else j_K_clashesOfHand_28 F G  S p1 p2 v3 (1 : Int32)
set_option maxRecDepth 100000 in
set_option maxHeartbeats 4000000 in
theorem c_K_clashesOfHand {X : Nat × (Nat → Int32)} {D F G : Nat} (hD : 1 ≤ D) {S : St} {p1 : Int32} {p2 : Int32} {res : Int32} (h : fK_clashesOfHand F G S p1 p2 = some res) : Ek X (D) mK_clashesOfHand 0 [(0, .ref 56), (1, .int p1), (2, .int p2)] [] S (some (.int res)) S := by
  obtain ⟨D, rfl⟩ : ∃ E, D = E + 1 := ⟨D - 1, by omega⟩
  unfold fK_clashesOfHand at h
  have J80 : ∀ (y4 : Int32) (s0 : Int32) (res : Int32), j_K_clashesOfHand_80 F G S y4 s0 = some res → Ek X (D + 1) mK_clashesOfHand 80 [(4, .int y4)] [.int s0] S (some (.int res)) S := by
    intro y4 s0 res h
    unfold j_K_clashesOfHand_80 at h
    refine x_istore (L1 := [(4, .int y4), (5, .int s0)]) d_K_clashesOfHand_80 (Nat.le_of_ble_eq_true rfl) rfl rfl ?_
    refine x_iload d_K_clashesOfHand_82 1 rfl ?_
    refine x_if_eq (tgt := 95) d_K_clashesOfHand_84 rfl (fun c16 => ?_) (fun c16 => ?_)
    · replace h := ite_t c16 h
      refine x_iload d_K_clashesOfHand_95 0 rfl ?_
      obtain rfl := Option.some.inj h
      exact x_ret (r := some (.int y4)) d_K_clashesOfHand_97 ⟨_, rfl, rfl⟩
    · replace h := ite_f c16 h
      refine x_iload d_K_clashesOfHand_87 0 rfl ?_
      refine x_bipush d_K_clashesOfHand_89 bp_16 ?_
      refine x_ior d_K_clashesOfHand_91 ?_
      refine x_goto (tgt := 97) d_K_clashesOfHand_92 rfl ?_
      obtain rfl := Option.some.inj h
      exact x_ret (r := some (.int (y4 ||| (16 : Int32)))) d_K_clashesOfHand_97 ⟨_, rfl, rfl⟩
  have J79 : ∀ (y4 : Int32) (res : Int32), j_K_clashesOfHand_79 F G S y4 = some res → Ek X (D + 1) mK_clashesOfHand 79 [(4, .int y4)] [] S (some (.int res)) S := by
    intro y4 res h
    unfold j_K_clashesOfHand_79 at h
    refine x_iconst d_K_clashesOfHand_79 ic_0 ?_
    exact J80 y4 (0 : Int32) _ h
  have J51 : ∀ (y1 : Int32) (y3 : Int32) (s0 : Int32) (s1 : Int32) (res : Int32), j_K_clashesOfHand_51 F G S y1 y3 s0 s1 = some res → Ek X (D + 1) mK_clashesOfHand 51 [(0, .ref 56), (1, .int y1), (3, .int y3)] [.int s1, .int s0] S (some (.int res)) S := by
    intro y1 y3 s0 s1 res h
    unfold j_K_clashesOfHand_51 at h
    refine x_ior d_K_clashesOfHand_51 ?_
    obtain ⟨v10, e11, h⟩ := lt_inv h
    refine y_istore (L1 := [(0, .ref 56), (1, .int y1), (3, .int y3), (4, .int v10)]) e11 d_K_clashesOfHand_52 (Nat.le_of_ble_eq_true rfl) rfl rfl ?_
    refine x_iload_n d_K_clashesOfHand_54 rfl 1 rfl ?_
    refine x_if_eq (tgt := 79) d_K_clashesOfHand_55 rfl (fun c12 => ?_) (fun c12 => ?_)
    · replace h := ite_t c12 h
      refine y_pick (L1 := [(4, .int v10)]) [3] rfl ?_
      exact J79 v10 _ h
    · replace h := ite_f c12 h
      refine x_iload_n d_K_clashesOfHand_58 rfl 2 rfl ?_
      refine x_aload_n d_K_clashesOfHand_59 rfl 0 rfl ?_
      refine x_iload_n d_K_clashesOfHand_60 rfl 1 rfl ?_
      obtain ⟨v14, q13, h⟩ := bd_inv h
      refine y_V1i (v := v14) (S1 := S) d_K_clashesOfHand_61 ml_7_81 kd_56 rfl (Nat.le_of_ble_eq_true rfl) (Nat.le_of_ble_eq_true rfl) (c_K_lowest (by omega) q13) ?_
      refine x_isub d_K_clashesOfHand_64 ?_
      refine y_mabs d_K_clashesOfHand_65 ml_7_84 (Nat.le_of_ble_eq_true rfl) ?_
      refine x_aload_n d_K_clashesOfHand_68 rfl 0 rfl ?_
      refine y_getI d_K_clashesOfHand_69 fl_7_46 rfl kd_56 ?_
      refine x_icmp_le (tgt := 79) d_K_clashesOfHand_72 rfl (fun c15 => ?_) (fun c15 => ?_)
      · replace h := ite_t c15 h
        refine y_pick (L1 := [(4, .int v10)]) [3] rfl ?_
        exact J79 v10 _ h
      · replace h := ite_f c15 h
        refine x_iconst d_K_clashesOfHand_75 ic_1 ?_
        refine x_goto (tgt := 80) d_K_clashesOfHand_76 rfl ?_
        refine y_pick (L1 := [(4, .int v10)]) [3] rfl ?_
        exact J80 v10 (1 : Int32) _ h
  have J28 : ∀ (y1 : Int32) (y2 : Int32) (y3 : Int32) (s0 : Int32) (res : Int32), j_K_clashesOfHand_28 F G S y1 y2 y3 s0 = some res → Ek X (D + 1) mK_clashesOfHand 28 [(0, .ref 56), (1, .int y1), (2, .int y2), (3, .int y3)] [.int s0] S (some (.int res)) S := by
    intro y1 y2 y3 s0 res h
    unfold j_K_clashesOfHand_28 at h
    refine x_istore (L1 := [(0, .ref 56), (1, .int y1), (2, .int y2), (3, .int y3), (4, .int s0)]) d_K_clashesOfHand_28 (Nat.le_of_ble_eq_true rfl) rfl rfl ?_
    refine x_iload d_K_clashesOfHand_30 4 rfl ?_
    refine x_aload_n d_K_clashesOfHand_32 rfl 0 rfl ?_
    refine x_iload_n d_K_clashesOfHand_33 rfl 2 rfl ?_
    obtain ⟨v8, q7, h⟩ := bd_inv h
    refine y_V1i (v := v8) (S1 := S) d_K_clashesOfHand_34 ml_7_78 kd_56 rfl (Nat.le_of_ble_eq_true rfl) (Nat.le_of_ble_eq_true rfl) (c_K_highest (by omega) q7) ?_
    refine x_iload_n d_K_clashesOfHand_37 rfl 3 rfl ?_
    refine x_isub d_K_clashesOfHand_38 ?_
    refine x_aload_n d_K_clashesOfHand_39 rfl 0 rfl ?_
    refine y_getI d_K_clashesOfHand_40 fl_7_38 rfl kd_56 ?_
    refine x_icmp_le (tgt := 50) d_K_clashesOfHand_43 rfl (fun c9 => ?_) (fun c9 => ?_)
    · replace h := ite_t c9 h
      refine x_iconst d_K_clashesOfHand_50 ic_0 ?_
      refine y_pick (L1 := [(0, .ref 56), (1, .int y1), (3, .int y3)]) [0, 1, 3] rfl ?_
      exact J51 y1 y3 s0 (0 : Int32) _ h
    · replace h := ite_f c9 h
      refine x_iconst d_K_clashesOfHand_46 ic_2 ?_
      refine x_goto (tgt := 51) d_K_clashesOfHand_47 rfl ?_
      refine y_pick (L1 := [(0, .ref 56), (1, .int y1), (3, .int y3)]) [0, 1, 3] rfl ?_
      exact J51 y1 y3 s0 (2 : Int32) _ h
  refine x_iload_n d_K_clashesOfHand_0 rfl 2 rfl ?_
  refine x_if_ne (tgt := 6) d_K_clashesOfHand_1 rfl (fun c1 => ?_) (fun c1 => ?_)
  · replace h := ite_f c1 h
    refine x_aload_n d_K_clashesOfHand_6 rfl 0 rfl ?_
    refine x_iload_n d_K_clashesOfHand_7 rfl 2 rfl ?_
    obtain ⟨v3, q2, h⟩ := bd_inv h
    refine y_V1i (v := v3) (S1 := S) d_K_clashesOfHand_8 ml_7_81 kd_56 rfl (Nat.le_of_ble_eq_true rfl) (Nat.le_of_ble_eq_true rfl) (c_K_lowest (by omega) q2) ?_
    refine x_istore_n (L1 := [(0, .ref 56), (1, .int p1), (2, .int p2), (3, .int v3)]) d_K_clashesOfHand_11 rfl (Nat.le_of_ble_eq_true rfl) rfl rfl ?_
    refine x_iload_n d_K_clashesOfHand_12 rfl 2 rfl ?_
    obtain ⟨v5, q4, h⟩ := bd_inv h
    refine y_S1i (v := v5) (S1 := S) d_K_clashesOfHand_13 ml_7_89 (Nat.le_of_ble_eq_true rfl) (Nat.le_of_ble_eq_true rfl) (c_J_bitCount (by omega) q4) ?_
    refine x_aload_n d_K_clashesOfHand_16 rfl 0 rfl ?_
    refine y_getI d_K_clashesOfHand_17 fl_7_42 rfl kd_56 ?_
    refine x_icmp_le (tgt := 27) d_K_clashesOfHand_20 rfl (fun c6 => ?_) (fun c6 => ?_)
    · replace h := ite_t c6 h
      refine x_iconst d_K_clashesOfHand_27 ic_0 ?_
      exact J28 p1 p2 v3 (0 : Int32) _ h
    · replace h := ite_f c6 h
      refine x_iconst d_K_clashesOfHand_23 ic_1 ?_
      refine x_goto (tgt := 28) d_K_clashesOfHand_24 rfl ?_
      exact J28 p1 p2 v3 (1 : Int32) _ h
  · replace h := ite_t c1 h
    refine x_iconst d_K_clashesOfHand_4 ic_0 ?_
    obtain rfl := Option.some.inj h
    exact x_ret (r := some (.int (0 : Int32))) d_K_clashesOfHand_5 ⟨_, rfl, rfl⟩
/-! NinetyPlayers$Keyboard.hasKeyTwice -/
def b_K_hasKeyTwice_27 (F G : Nat) (S : St) (z1 : Int32) (z2 : Int32) (z3 : Int32) (k70 : Option (Int32)) (rec : Int32 → Option (Int32)) (w4 : Int32) : Option (Int32) :=
  if z3 = 0 then k70  else if z2 ≤ w4 then k70  else if ((z1 >>> (w4 &&& 31)) &&& (1 : Int32)) = 0 then lt (w4 + 1) fun v6 => rec v6 else gd (inB z2 10) (gd (inB w4 10) (if (S.1 57 z2.toNatClampNeg) = (S.1 57 w4.toNatClampNeg) then some (1 : Int32) else lt (w4 + 1) fun v11 => rec v11))
def b_K_hasKeyTwice_2 (F G : Nat) (S : St) (z1 : Int32) (rec : Int32 → Option (Int32)) (w2 : Int32) : Option (Int32) :=
  if (S.1 56 1) ≤ w2 then some (0 : Int32) else if ((z1 >>> (w2 &&& 31)) &&& (1 : Int32)) = 0 then fx1 (b_K_hasKeyTwice_27 F G S z1 w2 (0 : Int32) (lt (w2 + 1) fun v13 => rec v13)) F (0 : Int32) else fx1 (b_K_hasKeyTwice_27 F G S z1 w2 (1 : Int32) (lt (w2 + 1) fun v15 => rec v15)) F (0 : Int32)
def fK_hasKeyTwice (F G : Nat) (S : St) (p1 : Int32) : Option (Int32) :=
  fx1 (b_K_hasKeyTwice_2 F G S p1) F (1 : Int32)
set_option maxRecDepth 100000 in
set_option maxHeartbeats 4000000 in
theorem T_K_hasKeyTwice_27 {X : Nat × (Nat → Int32)} {D F G : Nat} (hD : 0 ≤ D) {S : St} {z1 : Int32} {z2 : Int32} {z3 : Int32} {k70 : Option (Int32)} (hk70 : ∀ (res : Int32), k70 = some res → Ek X (D) mK_hasKeyTwice 70 [(0, .ref 56), (1, .int z1), (2, .int z2)] [] S (some (.int res)) S) : ∀ (f : Nat) (w4 : Int32) (res : Int32), fx1 (b_K_hasKeyTwice_27 F G S z1 z2 z3 k70 ) f w4 = some res → Ek X (D) mK_hasKeyTwice 27 [(0, .ref 56), (1, .int z1), (2, .int z2), (3, .int z3), (4, .int w4)] [] S (some (.int res)) S := by
  refine fx1_ind ?_
  intro rec ih w4 res h
  unfold b_K_hasKeyTwice_27 at h
  refine x_iload_n d_K_hasKeyTwice_27 rfl 3 rfl ?_
  refine x_if_eq (tgt := 70) d_K_hasKeyTwice_28 rfl (fun c3 => ?_) (fun c3 => ?_)
  · replace h := ite_t c3 h
    refine y_pick (L1 := [(0, .ref 56), (1, .int z1), (2, .int z2)]) [0, 1, 2] rfl ?_
    exact hk70  _ h
  · replace h := ite_f c3 h
    refine x_iload d_K_hasKeyTwice_31 4 rfl ?_
    refine x_iload_n d_K_hasKeyTwice_33 rfl 2 rfl ?_
    refine x_icmp_ge (tgt := 70) d_K_hasKeyTwice_34 rfl (fun c4 => ?_) (fun c4 => ?_)
    · replace h := ite_t c4 h
      refine y_pick (L1 := [(0, .ref 56), (1, .int z1), (2, .int z2)]) [0, 1, 2] rfl ?_
      exact hk70  _ h
    · replace h := ite_f c4 h
      refine x_iload_n d_K_hasKeyTwice_37 rfl 1 rfl ?_
      refine x_iload d_K_hasKeyTwice_38 4 rfl ?_
      refine x_ishr d_K_hasKeyTwice_40 ?_
      refine x_iconst d_K_hasKeyTwice_41 ic_1 ?_
      refine x_iand d_K_hasKeyTwice_42 ?_
      refine x_if_eq (tgt := 64) d_K_hasKeyTwice_43 rfl (fun c5 => ?_) (fun c5 => ?_)
      · replace h := ite_t c5 h
        obtain ⟨v6, e7, h⟩ := lt_inv h
        refine y_iinc (L1 := [(0, .ref 56), (1, .int z1), (2, .int z2), (3, .int z3), (4, .int v6)]) e7 ic_1 d_K_hasKeyTwice_64 4 rfl (Nat.le_of_ble_eq_true rfl) rfl rfl ?_
        refine x_goto (tgt := 27) d_K_hasKeyTwice_67 rfl ?_
        exact ih v6 _ h
      · replace h := ite_f c5 h
        refine x_aload_n d_K_hasKeyTwice_46 rfl 0 rfl ?_
        refine y_getR d_K_hasKeyTwice_47 fl_7_9 rfl kd_56 rr_56_8 ?_
        refine x_iload_n d_K_hasKeyTwice_50 rfl 2 rfl ?_
        obtain ⟨g8, h⟩ := gd_inv h
        refine y_iald d_K_hasKeyTwice_51 kd_57 g8 ?_
        refine x_aload_n d_K_hasKeyTwice_52 rfl 0 rfl ?_
        refine y_getR d_K_hasKeyTwice_53 fl_7_9 rfl kd_56 rr_56_8 ?_
        refine x_iload d_K_hasKeyTwice_56 4 rfl ?_
        obtain ⟨g9, h⟩ := gd_inv h
        refine y_iald d_K_hasKeyTwice_58 kd_57 g9 ?_
        refine x_icmp_ne (tgt := 64) d_K_hasKeyTwice_59 rfl (fun c10 => ?_) (fun c10 => ?_)
        · replace h := ite_f c10 h
          obtain ⟨v11, e12, h⟩ := lt_inv h
          refine y_iinc (L1 := [(0, .ref 56), (1, .int z1), (2, .int z2), (3, .int z3), (4, .int v11)]) e12 ic_1 d_K_hasKeyTwice_64 4 rfl (Nat.le_of_ble_eq_true rfl) rfl rfl ?_
          refine x_goto (tgt := 27) d_K_hasKeyTwice_67 rfl ?_
          exact ih v11 _ h
        · replace h := ite_t c10 h
          refine x_iconst d_K_hasKeyTwice_62 ic_1 ?_
          obtain rfl := Option.some.inj h
          exact x_ret (r := some (.int (1 : Int32))) d_K_hasKeyTwice_63 ⟨_, rfl, rfl⟩
set_option maxRecDepth 100000 in
set_option maxHeartbeats 4000000 in
theorem T_K_hasKeyTwice_2 {X : Nat × (Nat → Int32)} {D F G : Nat} (hD : 0 ≤ D) {S : St} {z1 : Int32} : ∀ (f : Nat) (w2 : Int32) (res : Int32), fx1 (b_K_hasKeyTwice_2 F G S z1 ) f w2 = some res → Ek X (D) mK_hasKeyTwice 2 [(0, .ref 56), (1, .int z1), (2, .int w2)] [] S (some (.int res)) S := by
  refine fx1_ind ?_
  intro rec ih w2 res h
  unfold b_K_hasKeyTwice_2 at h
  refine x_iload_n d_K_hasKeyTwice_2 rfl 2 rfl ?_
  refine x_aload_n d_K_hasKeyTwice_3 rfl 0 rfl ?_
  refine y_getI d_K_hasKeyTwice_4 fl_7_34 rfl kd_56 ?_
  refine x_icmp_ge (tgt := 76) d_K_hasKeyTwice_7 rfl (fun c1 => ?_) (fun c1 => ?_)
  · replace h := ite_t c1 h
    refine x_iconst d_K_hasKeyTwice_76 ic_0 ?_
    obtain rfl := Option.some.inj h
    exact x_ret (r := some (.int (0 : Int32))) d_K_hasKeyTwice_77 ⟨_, rfl, rfl⟩
  · replace h := ite_f c1 h
    refine x_iload_n d_K_hasKeyTwice_10 rfl 1 rfl ?_
    refine x_iload_n d_K_hasKeyTwice_11 rfl 2 rfl ?_
    refine x_ishr d_K_hasKeyTwice_12 ?_
    refine x_iconst d_K_hasKeyTwice_13 ic_1 ?_
    refine x_iand d_K_hasKeyTwice_14 ?_
    refine x_if_eq (tgt := 22) d_K_hasKeyTwice_15 rfl (fun c2 => ?_) (fun c2 => ?_)
    · replace h := ite_t c2 h
      refine x_iconst d_K_hasKeyTwice_22 ic_0 ?_
      refine x_istore_n (L1 := [(0, .ref 56), (1, .int z1), (2, .int w2), (3, .int (0 : Int32))]) d_K_hasKeyTwice_23 rfl (Nat.le_of_ble_eq_true rfl) rfl rfl ?_
      refine x_iconst d_K_hasKeyTwice_24 ic_0 ?_
      refine x_istore (L1 := [(0, .ref 56), (1, .int z1), (2, .int w2), (3, .int (0 : Int32)), (4, .int (0 : Int32))]) d_K_hasKeyTwice_25 (Nat.le_of_ble_eq_true rfl) rfl rfl ?_
      refine T_K_hasKeyTwice_27 (by omega)  ?_ F (0 : Int32) _ h
      · intro  res h
        obtain ⟨v13, e14, h⟩ := lt_inv h
        refine y_iinc (L1 := [(0, .ref 56), (1, .int z1), (2, .int v13)]) e14 ic_1 d_K_hasKeyTwice_70 2 rfl (Nat.le_of_ble_eq_true rfl) rfl rfl ?_
        refine x_goto (tgt := 2) d_K_hasKeyTwice_73 rfl ?_
        exact ih v13 _ h
    · replace h := ite_f c2 h
      refine x_iconst d_K_hasKeyTwice_18 ic_1 ?_
      refine x_goto (tgt := 23) d_K_hasKeyTwice_19 rfl ?_
      refine x_istore_n (L1 := [(0, .ref 56), (1, .int z1), (2, .int w2), (3, .int (1 : Int32))]) d_K_hasKeyTwice_23 rfl (Nat.le_of_ble_eq_true rfl) rfl rfl ?_
      refine x_iconst d_K_hasKeyTwice_24 ic_0 ?_
      refine x_istore (L1 := [(0, .ref 56), (1, .int z1), (2, .int w2), (3, .int (1 : Int32)), (4, .int (0 : Int32))]) d_K_hasKeyTwice_25 (Nat.le_of_ble_eq_true rfl) rfl rfl ?_
      refine T_K_hasKeyTwice_27 (by omega)  ?_ F (0 : Int32) _ h
      · intro  res h
        obtain ⟨v15, e16, h⟩ := lt_inv h
        refine y_iinc (L1 := [(0, .ref 56), (1, .int z1), (2, .int v15)]) e16 ic_1 d_K_hasKeyTwice_70 2 rfl (Nat.le_of_ble_eq_true rfl) rfl rfl ?_
        refine x_goto (tgt := 2) d_K_hasKeyTwice_73 rfl ?_
        exact ih v15 _ h
set_option maxRecDepth 100000 in
set_option maxHeartbeats 4000000 in
theorem c_K_hasKeyTwice {X : Nat × (Nat → Int32)} {D F G : Nat} (hD : 0 ≤ D) {S : St} {p1 : Int32} {res : Int32} (h : fK_hasKeyTwice F G S p1 = some res) : Ek X (D) mK_hasKeyTwice 0 [(0, .ref 56), (1, .int p1)] [] S (some (.int res)) S := by
  unfold fK_hasKeyTwice at h
  refine x_iconst d_K_hasKeyTwice_0 ic_1 ?_
  refine x_istore_n (L1 := [(0, .ref 56), (1, .int p1), (2, .int (1 : Int32))]) d_K_hasKeyTwice_1 rfl (Nat.le_of_ble_eq_true rfl) rfl rfl ?_
  refine T_K_hasKeyTwice_2 (by omega)   F (1 : Int32) _ h
/-! NinetyPlayers$Keyboard.clashesBetween -/
def j_K_clashesBetween_64 (F G : Nat) (S : St) (y5 : Int32) (y6 : Int32) (y7 : Int32) : Option (Int32) :=
  bd (fK_hasKeyTwice F G S (y5 ||| y6)) fun v21 => if v21 = 0 then some (y7 ||| (0 : Int32)) else some (y7 ||| (8 : Int32))
def fK_clashesBetween (F G : Nat) (S : St) (p1 : Int32) (p2 : Int32) (p3 : Int32) (p4 : Int32) : Option (Int32) :=
  lt (p1 &&& p4) fun v1 => lt (p2 &&& p4) fun v3 => bd (fK_clashesOfHand F G S (p1 &&& p3) v1) fun v6 => bd (fK_clashesOfHand F G S (p2 &&& p3) v3) fun v8 => lt (v6 ||| v8) fun v9 => if v1 = 0 then j_K_clashesBetween_64 F G  S v1 v3 v9 else if v3 = 0 then j_K_clashesBetween_64 F G  S v1 v3 v9 else bd (fK_highest F G S v1) fun v14 => bd (fK_lowest F G S v3) fun v16 => if v14 < v16 then j_K_clashesBetween_64 F G  S v1 v3 v9 else lt (v9 ||| (4 : Int32)) fun v18 => j_K_clashesBetween_64 F G  S v1 v3 v18
set_option maxRecDepth 100000 in
set_option maxHeartbeats 4000000 in
theorem c_K_clashesBetween {X : Nat × (Nat → Int32)} {D F G : Nat} (hD : 2 ≤ D) {S : St} {p1 : Int32} {p2 : Int32} {p3 : Int32} {p4 : Int32} {res : Int32} (h : fK_clashesBetween F G S p1 p2 p3 p4 = some res) : Ek X (D) mK_clashesBetween 0 [(0, .ref 56), (1, .int p1), (2, .int p2), (3, .int p3), (4, .int p4)] [] S (some (.int res)) S := by
  obtain ⟨D, rfl⟩ : ∃ E, D = E + 1 := ⟨D - 1, by omega⟩
  unfold fK_clashesBetween at h
  have J64 : ∀ (y5 : Int32) (y6 : Int32) (y7 : Int32) (res : Int32), j_K_clashesBetween_64 F G S y5 y6 y7 = some res → Ek X (D + 1) mK_clashesBetween 64 [(0, .ref 56), (5, .int y5), (6, .int y6), (7, .int y7)] [] S (some (.int res)) S := by
    intro y5 y6 y7 res h
    unfold j_K_clashesBetween_64 at h
    refine x_iload d_K_clashesBetween_64 3 rfl ?_
    refine x_aload_n d_K_clashesBetween_66 rfl 0 rfl ?_
    refine x_iload d_K_clashesBetween_67 1 rfl ?_
    refine x_iload d_K_clashesBetween_69 2 rfl ?_
    refine x_ior d_K_clashesBetween_71 ?_
    obtain ⟨v21, q20, h⟩ := bd_inv h
    refine y_V1i (v := v21) (S1 := S) d_K_clashesBetween_72 ml_7_97 kd_56 rfl (Nat.le_of_ble_eq_true rfl) (Nat.le_of_ble_eq_true rfl) (c_K_hasKeyTwice (by omega) q20) ?_
    refine x_if_eq (tgt := 83) d_K_clashesBetween_75 rfl (fun c22 => ?_) (fun c22 => ?_)
    · replace h := ite_t c22 h
      refine x_iconst d_K_clashesBetween_83 ic_0 ?_
      refine x_ior d_K_clashesBetween_84 ?_
      obtain rfl := Option.some.inj h
      exact x_ret (r := some (.int (y7 ||| (0 : Int32)))) d_K_clashesBetween_85 ⟨_, rfl, rfl⟩
    · replace h := ite_f c22 h
      refine x_bipush d_K_clashesBetween_78 bp_8 ?_
      refine x_goto (tgt := 84) d_K_clashesBetween_80 rfl ?_
      refine x_ior d_K_clashesBetween_84 ?_
      obtain rfl := Option.some.inj h
      exact x_ret (r := some (.int (y7 ||| (8 : Int32)))) d_K_clashesBetween_85 ⟨_, rfl, rfl⟩
  refine x_iload_n d_K_clashesBetween_0 rfl 1 rfl ?_
  refine x_iload d_K_clashesBetween_1 4 rfl ?_
  refine x_iand d_K_clashesBetween_3 ?_
  obtain ⟨v1, e2, h⟩ := lt_inv h
  refine y_istore (L1 := [(0, .ref 56), (1, .int p1), (2, .int p2), (3, .int p3), (4, .int p4), (5, .int v1)]) e2 d_K_clashesBetween_4 (Nat.le_of_ble_eq_true rfl) rfl rfl ?_
  refine x_iload_n d_K_clashesBetween_6 rfl 2 rfl ?_
  refine x_iload d_K_clashesBetween_7 4 rfl ?_
  refine x_iand d_K_clashesBetween_9 ?_
  obtain ⟨v3, e4, h⟩ := lt_inv h
  refine y_istore (L1 := [(0, .ref 56), (1, .int p1), (2, .int p2), (3, .int p3), (4, .int p4), (5, .int v1), (6, .int v3)]) e4 d_K_clashesBetween_10 (Nat.le_of_ble_eq_true rfl) rfl rfl ?_
  refine x_aload_n d_K_clashesBetween_12 rfl 0 rfl ?_
  refine x_iload_n d_K_clashesBetween_13 rfl 1 rfl ?_
  refine x_iload_n d_K_clashesBetween_14 rfl 3 rfl ?_
  refine x_iand d_K_clashesBetween_15 ?_
  refine x_iload d_K_clashesBetween_16 5 rfl ?_
  obtain ⟨v6, q5, h⟩ := bd_inv h
  refine y_V2i (v := v6) (S1 := S) d_K_clashesBetween_18 ml_7_94 kd_56 rfl (Nat.le_of_ble_eq_true rfl) (Nat.le_of_ble_eq_true rfl) (c_K_clashesOfHand (by omega) q5) ?_
  refine x_aload_n d_K_clashesBetween_21 rfl 0 rfl ?_
  refine x_iload_n d_K_clashesBetween_22 rfl 2 rfl ?_
  refine x_iload_n d_K_clashesBetween_23 rfl 3 rfl ?_
  refine x_iand d_K_clashesBetween_24 ?_
  refine x_iload d_K_clashesBetween_25 6 rfl ?_
  obtain ⟨v8, q7, h⟩ := bd_inv h
  refine y_V2i (v := v8) (S1 := S) d_K_clashesBetween_27 ml_7_94 kd_56 rfl (Nat.le_of_ble_eq_true rfl) (Nat.le_of_ble_eq_true rfl) (c_K_clashesOfHand (by omega) q7) ?_
  refine x_ior d_K_clashesBetween_30 ?_
  obtain ⟨v9, e10, h⟩ := lt_inv h
  refine y_istore (L1 := [(0, .ref 56), (1, .int p1), (2, .int p2), (3, .int p3), (4, .int p4), (5, .int v1), (6, .int v3), (7, .int v9)]) e10 d_K_clashesBetween_31 (Nat.le_of_ble_eq_true rfl) rfl rfl ?_
  refine x_iload d_K_clashesBetween_33 5 rfl ?_
  refine x_if_eq (tgt := 64) d_K_clashesBetween_35 rfl (fun c11 => ?_) (fun c11 => ?_)
  · replace h := ite_t c11 h
    refine y_pick (L1 := [(0, .ref 56), (5, .int v1), (6, .int v3), (7, .int v9)]) [0, 5, 6, 7] rfl ?_
    exact J64 v1 v3 v9 _ h
  · replace h := ite_f c11 h
    refine x_iload d_K_clashesBetween_38 6 rfl ?_
    refine x_if_eq (tgt := 64) d_K_clashesBetween_40 rfl (fun c12 => ?_) (fun c12 => ?_)
    · replace h := ite_t c12 h
      refine y_pick (L1 := [(0, .ref 56), (5, .int v1), (6, .int v3), (7, .int v9)]) [0, 5, 6, 7] rfl ?_
      exact J64 v1 v3 v9 _ h
    · replace h := ite_f c12 h
      refine x_aload_n d_K_clashesBetween_43 rfl 0 rfl ?_
      refine x_iload d_K_clashesBetween_44 5 rfl ?_
      obtain ⟨v14, q13, h⟩ := bd_inv h
      refine y_V1i (v := v14) (S1 := S) d_K_clashesBetween_46 ml_7_78 kd_56 rfl (Nat.le_of_ble_eq_true rfl) (Nat.le_of_ble_eq_true rfl) (c_K_highest (by omega) q13) ?_
      refine x_aload_n d_K_clashesBetween_49 rfl 0 rfl ?_
      refine x_iload d_K_clashesBetween_50 6 rfl ?_
      obtain ⟨v16, q15, h⟩ := bd_inv h
      refine y_V1i (v := v16) (S1 := S) d_K_clashesBetween_52 ml_7_81 kd_56 rfl (Nat.le_of_ble_eq_true rfl) (Nat.le_of_ble_eq_true rfl) (c_K_lowest (by omega) q15) ?_
      refine x_icmp_lt (tgt := 64) d_K_clashesBetween_55 rfl (fun c17 => ?_) (fun c17 => ?_)
      · replace h := ite_t c17 h
        refine y_pick (L1 := [(0, .ref 56), (5, .int v1), (6, .int v3), (7, .int v9)]) [0, 5, 6, 7] rfl ?_
        exact J64 v1 v3 v9 _ h
      · replace h := ite_f c17 h
        refine x_iload d_K_clashesBetween_58 7 rfl ?_
        refine x_iconst d_K_clashesBetween_60 ic_4 ?_
        refine x_ior d_K_clashesBetween_61 ?_
        obtain ⟨v18, e19, h⟩ := lt_inv h
        refine y_istore (L1 := [(0, .ref 56), (1, .int p1), (2, .int p2), (3, .int p3), (4, .int p4), (5, .int v1), (6, .int v3), (7, .int v18)]) e19 d_K_clashesBetween_62 (Nat.le_of_ble_eq_true rfl) rfl rfl ?_
        refine y_pick (L1 := [(0, .ref 56), (5, .int v1), (6, .int v3), (7, .int v18)]) [0, 5, 6, 7] rfl ?_
        exact J64 v1 v3 v18 _ h
/-! NinetyPlayers$Keyboard.clashesAt -/
def fK_clashesAt (F G : Nat) (S : St) (p1 : Int32) (p2 : Int32) (p3 : Int32) : Option (Int32) :=
  bd (fK_timelyAt F G S (p3 - (1 : Int32))) fun v2 => bd (fK_timelyAt F G S p3) fun v4 => bd (fK_clashesBetween F G S p1 p2 v2 v4) fun v6 => some v6
set_option maxRecDepth 100000 in
set_option maxHeartbeats 4000000 in
theorem c_K_clashesAt {X : Nat × (Nat → Int32)} {D F G : Nat} (hD : 3 ≤ D) {S : St} {p1 : Int32} {p2 : Int32} {p3 : Int32} {res : Int32} (h : fK_clashesAt F G S p1 p2 p3 = some res) : Ek X (D) mK_clashesAt 0 [(0, .ref 56), (1, .int p1), (2, .int p2), (3, .int p3)] [] S (some (.int res)) S := by
  obtain ⟨D, rfl⟩ : ∃ E, D = E + 1 := ⟨D - 1, by omega⟩
  unfold fK_clashesAt at h
  refine x_aload_n d_K_clashesAt_0 rfl 0 rfl ?_
  refine x_iload_n d_K_clashesAt_1 rfl 1 rfl ?_
  refine x_iload_n d_K_clashesAt_2 rfl 2 rfl ?_
  refine x_aload_n d_K_clashesAt_3 rfl 0 rfl ?_
  refine x_iload_n d_K_clashesAt_4 rfl 3 rfl ?_
  refine x_iconst d_K_clashesAt_5 ic_1 ?_
  refine x_isub d_K_clashesAt_6 ?_
  obtain ⟨v2, q1, h⟩ := bd_inv h
  refine y_V1i (v := v2) (S1 := S) d_K_clashesAt_7 ml_7_75 kd_56 rfl (Nat.le_of_ble_eq_true rfl) (Nat.le_of_ble_eq_true rfl) (c_K_timelyAt (by omega) q1) ?_
  refine x_aload_n d_K_clashesAt_10 rfl 0 rfl ?_
  refine x_iload_n d_K_clashesAt_11 rfl 3 rfl ?_
  obtain ⟨v4, q3, h⟩ := bd_inv h
  refine y_V1i (v := v4) (S1 := S) d_K_clashesAt_12 ml_7_75 kd_56 rfl (Nat.le_of_ble_eq_true rfl) (Nat.le_of_ble_eq_true rfl) (c_K_timelyAt (by omega) q3) ?_
  obtain ⟨v6, q5, h⟩ := bd_inv h
  refine y_V4i (v := v6) (S1 := S) d_K_clashesAt_15 ml_7_100 kd_56 rfl (Nat.le_of_ble_eq_true rfl) (Nat.le_of_ble_eq_true rfl) (c_K_clashesBetween (by omega) q5) ?_
  obtain rfl := Option.some.inj h
  exact x_ret (r := some (.int v6)) d_K_clashesAt_18 ⟨_, rfl, rfl⟩
/-! NinetyPlayers.clash -/
def fN_clash (F G : Nat) (S : St) (p1 : Int32) : Option (Int32 × St) :=
  bd (fN_isBeat F G S p1) fun v2 => if v2 = 0 then some ((-1 : Int32), S) else bd (fN_lookAtKeys F G S ) fun S5 => bd (fK_clashesAt F G S5 (S5.1 56 5) (S5.1 56 6) p1) fun v7 => some (v7, S5)
set_option maxRecDepth 100000 in
set_option maxHeartbeats 4000000 in
theorem c_N_clash {X : Nat × (Nat → Int32)} {D F G : Nat} (hD : 4 ≤ D) {S : St} {p1 : Int32} {res : Int32 × St} (h : fN_clash F G S p1 = some res) : Ek X (D) mN_clash 0 [(0, .ref 0), (1, .int p1)] [] S (some (.int res.1)) res.2 := by
  obtain ⟨D, rfl⟩ : ∃ E, D = E + 1 := ⟨D - 1, by omega⟩
  unfold fN_clash at h
  refine x_aload_n d_N_clash_0 rfl 0 rfl ?_
  refine x_iload_n d_N_clash_1 rfl 1 rfl ?_
  obtain ⟨v2, q1, h⟩ := bd_inv h
  refine y_V1i (v := v2) (S1 := S) d_N_clash_2 ml_0_167 kd_0 rfl (Nat.le_of_ble_eq_true rfl) (Nat.le_of_ble_eq_true rfl) (c_N_isBeat (by omega) q1) ?_
  refine x_if_ne (tgt := 10) d_N_clash_5 rfl (fun c3 => ?_) (fun c3 => ?_)
  · replace h := ite_f c3 h
    refine x_aload_n d_N_clash_10 rfl 0 rfl ?_
    obtain ⟨S5, q4, h⟩ := bd_inv h
    refine y_V0v (S1 := S5) d_N_clash_11 ml_0_173 kd_0 rfl (Nat.le_of_ble_eq_true rfl) (Nat.le_of_ble_eq_true rfl) (c_N_lookAtKeys (by omega) q4) ?_
    refine x_aload_n d_N_clash_14 rfl 0 rfl ?_
    refine y_getR d_N_clash_15 fl_0_50 rfl kd_0 rr_0_7 ?_
    refine x_aload_n d_N_clash_18 rfl 0 rfl ?_
    refine y_getR d_N_clash_19 fl_0_50 rfl kd_0 rr_0_7 ?_
    refine y_getI d_N_clash_22 fl_0_183 rfl kd_56 ?_
    refine x_aload_n d_N_clash_25 rfl 0 rfl ?_
    refine y_getR d_N_clash_26 fl_0_50 rfl kd_0 rr_0_7 ?_
    refine y_getI d_N_clash_29 fl_0_186 rfl kd_56 ?_
    refine x_iload_n d_N_clash_32 rfl 1 rfl ?_
    obtain ⟨v7, q6, h⟩ := bd_inv h
    refine y_V3i (v := v7) (S1 := S5) d_N_clash_33 ml_0_189 kd_56 rfl (Nat.le_of_ble_eq_true rfl) (Nat.le_of_ble_eq_true rfl) (c_K_clashesAt (by omega) q6) ?_
    obtain rfl := Option.some.inj h
    exact x_ret (r := some (.int v7)) d_N_clash_36 ⟨_, rfl, rfl⟩
  · replace h := ite_t c3 h
    refine x_iconst d_N_clash_8 ic_m1 ?_
    obtain rfl := Option.some.inj h
    exact x_ret (r := some (.int (-1 : Int32))) d_N_clash_9 ⟨_, rfl, rfl⟩
/-! NinetyPlayersModel.lowest -/
def b_M_lowest_6 (F G : Nat) (S : St) (z1 : Int32) (rec : Int32 → Int32 → Option (Int32)) (w2 : Int32) (w3 : Int32) : Option (Int32) :=
  if (S.1 78 48) ≤ w3 then some w2 else if ((z1 >>> (w3 &&& 31)) &&& (1 : Int32)) = (1 : Int32) then gd (inB ((10 : Int32) + w3) 41) (if w2 ≤ (S.1 101 ((10 : Int32) + w3).toNatClampNeg) then lt (w3 + 1) fun v7 => rec w2 v7 else gd (inB ((10 : Int32) + w3) 41) (lt (S.1 101 ((10 : Int32) + w3).toNatClampNeg) fun v10 => lt (w3 + 1) fun v12 => rec v10 v12)) else lt (w3 + 1) fun v3 => rec w2 v3
def fM_lowest (F G : Nat) (S : St) (p1 : Int32) : Option (Int32) :=
  fx2 (b_M_lowest_6 F G S p1) F (1000000 : Int32) (0 : Int32)
set_option maxRecDepth 100000 in
set_option maxHeartbeats 4000000 in
theorem T_M_lowest_6 {X : Nat × (Nat → Int32)} {D F G : Nat} (hD : 0 ≤ D) {S : St} {z1 : Int32} : ∀ (f : Nat) (w2 : Int32) (w3 : Int32) (res : Int32), fx2 (b_M_lowest_6 F G S z1 ) f w2 w3 = some res → Ek X (D) mM_lowest 6 [(0, .ref 78), (1, .int z1), (2, .int w2), (3, .int w3)] [] S (some (.int res)) S := by
  refine fx2_ind ?_
  intro rec ih w2 w3 res h
  unfold b_M_lowest_6 at h
  refine x_iload_n d_M_lowest_6 rfl 3 rfl ?_
  refine x_aload_n d_M_lowest_7 rfl 0 rfl ?_
  refine y_getI d_M_lowest_8 fl_11_322 rfl kd_78 ?_
  refine x_icmp_ge (tgt := 52) d_M_lowest_11 rfl (fun c1 => ?_) (fun c1 => ?_)
  · replace h := ite_t c1 h
    refine x_iload_n d_M_lowest_52 rfl 2 rfl ?_
    obtain rfl := Option.some.inj h
    exact x_ret (r := some (.int w2)) d_M_lowest_53 ⟨_, rfl, rfl⟩
  · replace h := ite_f c1 h
    refine x_iload_n d_M_lowest_14 rfl 1 rfl ?_
    refine x_iload_n d_M_lowest_15 rfl 3 rfl ?_
    refine x_ishr d_M_lowest_16 ?_
    refine x_iconst d_M_lowest_17 ic_1 ?_
    refine x_iand d_M_lowest_18 ?_
    refine x_iconst d_M_lowest_19 ic_1 ?_
    refine x_icmp_ne (tgt := 46) d_M_lowest_20 rfl (fun c2 => ?_) (fun c2 => ?_)
    · replace h := ite_f c2 h
      obtain ⟨v3, e4, h⟩ := lt_inv h
      refine y_iinc (L1 := [(0, .ref 78), (1, .int z1), (2, .int w2), (3, .int v3)]) e4 ic_1 d_M_lowest_46 3 rfl (Nat.le_of_ble_eq_true rfl) rfl rfl ?_
      refine x_goto (tgt := 6) d_M_lowest_49 rfl ?_
      exact ih w2 v3 _ h
    · replace h := ite_t c2 h
      refine x_aload_n d_M_lowest_23 rfl 0 rfl ?_
      refine y_getR d_M_lowest_24 fl_11_96 rfl kd_78 rr_78_59 ?_
      refine x_bipush d_M_lowest_27 bp_10 ?_
      refine x_iload_n d_M_lowest_29 rfl 3 rfl ?_
      refine x_iadd d_M_lowest_30 ?_
      obtain ⟨g5, h⟩ := gd_inv h
      refine y_iald d_M_lowest_31 kd_101 g5 ?_
      refine x_iload_n d_M_lowest_32 rfl 2 rfl ?_
      refine x_icmp_ge (tgt := 46) d_M_lowest_33 rfl (fun c6 => ?_) (fun c6 => ?_)
      · replace h := ite_t c6 h
        obtain ⟨v7, e8, h⟩ := lt_inv h
        refine y_iinc (L1 := [(0, .ref 78), (1, .int z1), (2, .int w2), (3, .int v7)]) e8 ic_1 d_M_lowest_46 3 rfl (Nat.le_of_ble_eq_true rfl) rfl rfl ?_
        refine x_goto (tgt := 6) d_M_lowest_49 rfl ?_
        exact ih w2 v7 _ h
      · replace h := ite_f c6 h
        refine x_aload_n d_M_lowest_36 rfl 0 rfl ?_
        refine y_getR d_M_lowest_37 fl_11_96 rfl kd_78 rr_78_59 ?_
        refine x_bipush d_M_lowest_40 bp_10 ?_
        refine x_iload_n d_M_lowest_42 rfl 3 rfl ?_
        refine x_iadd d_M_lowest_43 ?_
        obtain ⟨g9, h⟩ := gd_inv h
        refine y_iald d_M_lowest_44 kd_101 g9 ?_
        obtain ⟨v10, e11, h⟩ := lt_inv h
        refine y_istore_n (L1 := [(0, .ref 78), (1, .int z1), (2, .int v10), (3, .int w3)]) e11 d_M_lowest_45 rfl (Nat.le_of_ble_eq_true rfl) rfl rfl ?_
        obtain ⟨v12, e13, h⟩ := lt_inv h
        refine y_iinc (L1 := [(0, .ref 78), (1, .int z1), (2, .int v10), (3, .int v12)]) e13 ic_1 d_M_lowest_46 3 rfl (Nat.le_of_ble_eq_true rfl) rfl rfl ?_
        refine x_goto (tgt := 6) d_M_lowest_49 rfl ?_
        exact ih v10 v12 _ h
set_option maxRecDepth 100000 in
set_option maxHeartbeats 4000000 in
theorem c_M_lowest {X : Nat × (Nat → Int32)} {D F G : Nat} (hD : 0 ≤ D) {S : St} {p1 : Int32} {res : Int32} (h : fM_lowest F G S p1 = some res) : Ek X (D) mM_lowest 0 [(0, .ref 78), (1, .int p1)] [] S (some (.int res)) S := by
  unfold fM_lowest at h
  refine x_ldcw d_M_lowest_0 kc_11_436 ?_
  refine x_istore_n (L1 := [(0, .ref 78), (1, .int p1), (2, .int (1000000 : Int32))]) d_M_lowest_3 rfl (Nat.le_of_ble_eq_true rfl) rfl rfl ?_
  refine x_iconst d_M_lowest_4 ic_0 ?_
  refine x_istore_n (L1 := [(0, .ref 78), (1, .int p1), (2, .int (1000000 : Int32)), (3, .int (0 : Int32))]) d_M_lowest_5 rfl (Nat.le_of_ble_eq_true rfl) rfl rfl ?_
  refine T_M_lowest_6 (by omega)   F (1000000 : Int32) (0 : Int32) _ h
/-! NinetyPlayersModel.highest -/
def b_M_highest_4 (F G : Nat) (S : St) (z1 : Int32) (rec : Int32 → Int32 → Option (Int32)) (w2 : Int32) (w3 : Int32) : Option (Int32) :=
  if (S.1 78 48) ≤ w3 then some w2 else if ((z1 >>> (w3 &&& 31)) &&& (1 : Int32)) = (1 : Int32) then gd (inB ((10 : Int32) + w3) 41) (if (S.1 101 ((10 : Int32) + w3).toNatClampNeg) ≤ w2 then lt (w3 + 1) fun v7 => rec w2 v7 else gd (inB ((10 : Int32) + w3) 41) (lt (S.1 101 ((10 : Int32) + w3).toNatClampNeg) fun v10 => lt (w3 + 1) fun v12 => rec v10 v12)) else lt (w3 + 1) fun v3 => rec w2 v3
def fM_highest (F G : Nat) (S : St) (p1 : Int32) : Option (Int32) :=
  fx2 (b_M_highest_4 F G S p1) F (-1 : Int32) (0 : Int32)
set_option maxRecDepth 100000 in
set_option maxHeartbeats 4000000 in
theorem T_M_highest_4 {X : Nat × (Nat → Int32)} {D F G : Nat} (hD : 0 ≤ D) {S : St} {z1 : Int32} : ∀ (f : Nat) (w2 : Int32) (w3 : Int32) (res : Int32), fx2 (b_M_highest_4 F G S z1 ) f w2 w3 = some res → Ek X (D) mM_highest 4 [(0, .ref 78), (1, .int z1), (2, .int w2), (3, .int w3)] [] S (some (.int res)) S := by
  refine fx2_ind ?_
  intro rec ih w2 w3 res h
  unfold b_M_highest_4 at h
  refine x_iload_n d_M_highest_4 rfl 3 rfl ?_
  refine x_aload_n d_M_highest_5 rfl 0 rfl ?_
  refine y_getI d_M_highest_6 fl_11_322 rfl kd_78 ?_
  refine x_icmp_ge (tgt := 50) d_M_highest_9 rfl (fun c1 => ?_) (fun c1 => ?_)
  · replace h := ite_t c1 h
    refine x_iload_n d_M_highest_50 rfl 2 rfl ?_
    obtain rfl := Option.some.inj h
    exact x_ret (r := some (.int w2)) d_M_highest_51 ⟨_, rfl, rfl⟩
  · replace h := ite_f c1 h
    refine x_iload_n d_M_highest_12 rfl 1 rfl ?_
    refine x_iload_n d_M_highest_13 rfl 3 rfl ?_
    refine x_ishr d_M_highest_14 ?_
    refine x_iconst d_M_highest_15 ic_1 ?_
    refine x_iand d_M_highest_16 ?_
    refine x_iconst d_M_highest_17 ic_1 ?_
    refine x_icmp_ne (tgt := 44) d_M_highest_18 rfl (fun c2 => ?_) (fun c2 => ?_)
    · replace h := ite_f c2 h
      obtain ⟨v3, e4, h⟩ := lt_inv h
      refine y_iinc (L1 := [(0, .ref 78), (1, .int z1), (2, .int w2), (3, .int v3)]) e4 ic_1 d_M_highest_44 3 rfl (Nat.le_of_ble_eq_true rfl) rfl rfl ?_
      refine x_goto (tgt := 4) d_M_highest_47 rfl ?_
      exact ih w2 v3 _ h
    · replace h := ite_t c2 h
      refine x_aload_n d_M_highest_21 rfl 0 rfl ?_
      refine y_getR d_M_highest_22 fl_11_96 rfl kd_78 rr_78_59 ?_
      refine x_bipush d_M_highest_25 bp_10 ?_
      refine x_iload_n d_M_highest_27 rfl 3 rfl ?_
      refine x_iadd d_M_highest_28 ?_
      obtain ⟨g5, h⟩ := gd_inv h
      refine y_iald d_M_highest_29 kd_101 g5 ?_
      refine x_iload_n d_M_highest_30 rfl 2 rfl ?_
      refine x_icmp_le (tgt := 44) d_M_highest_31 rfl (fun c6 => ?_) (fun c6 => ?_)
      · replace h := ite_t c6 h
        obtain ⟨v7, e8, h⟩ := lt_inv h
        refine y_iinc (L1 := [(0, .ref 78), (1, .int z1), (2, .int w2), (3, .int v7)]) e8 ic_1 d_M_highest_44 3 rfl (Nat.le_of_ble_eq_true rfl) rfl rfl ?_
        refine x_goto (tgt := 4) d_M_highest_47 rfl ?_
        exact ih w2 v7 _ h
      · replace h := ite_f c6 h
        refine x_aload_n d_M_highest_34 rfl 0 rfl ?_
        refine y_getR d_M_highest_35 fl_11_96 rfl kd_78 rr_78_59 ?_
        refine x_bipush d_M_highest_38 bp_10 ?_
        refine x_iload_n d_M_highest_40 rfl 3 rfl ?_
        refine x_iadd d_M_highest_41 ?_
        obtain ⟨g9, h⟩ := gd_inv h
        refine y_iald d_M_highest_42 kd_101 g9 ?_
        obtain ⟨v10, e11, h⟩ := lt_inv h
        refine y_istore_n (L1 := [(0, .ref 78), (1, .int z1), (2, .int v10), (3, .int w3)]) e11 d_M_highest_43 rfl (Nat.le_of_ble_eq_true rfl) rfl rfl ?_
        obtain ⟨v12, e13, h⟩ := lt_inv h
        refine y_iinc (L1 := [(0, .ref 78), (1, .int z1), (2, .int v10), (3, .int v12)]) e13 ic_1 d_M_highest_44 3 rfl (Nat.le_of_ble_eq_true rfl) rfl rfl ?_
        refine x_goto (tgt := 4) d_M_highest_47 rfl ?_
        exact ih v10 v12 _ h
set_option maxRecDepth 100000 in
set_option maxHeartbeats 4000000 in
theorem c_M_highest {X : Nat × (Nat → Int32)} {D F G : Nat} (hD : 0 ≤ D) {S : St} {p1 : Int32} {res : Int32} (h : fM_highest F G S p1 = some res) : Ek X (D) mM_highest 0 [(0, .ref 78), (1, .int p1)] [] S (some (.int res)) S := by
  unfold fM_highest at h
  refine x_iconst d_M_highest_0 ic_m1 ?_
  refine x_istore_n (L1 := [(0, .ref 78), (1, .int p1), (2, .int (-1 : Int32))]) d_M_highest_1 rfl (Nat.le_of_ble_eq_true rfl) rfl rfl ?_
  refine x_iconst d_M_highest_2 ic_0 ?_
  refine x_istore_n (L1 := [(0, .ref 78), (1, .int p1), (2, .int (-1 : Int32)), (3, .int (0 : Int32))]) d_M_highest_3 rfl (Nat.le_of_ble_eq_true rfl) rfl rfl ?_
  refine T_M_highest_4 (by omega)   F (-1 : Int32) (0 : Int32) _ h
/-! NinetyPlayersModel.ownClash -/
def j_M_ownClash_47 (F G : Nat) (S : St) (y2 : Int32) (y5 : Int32) (y6 : Int32) : Option (Int32) :=
  if y2 = 0 then some y5 else bd (fM_lowest F G S y2) fun v14 => bd (fM_plain F G S (y6 - v14)) fun v16 => if v16 ≤ (S.1 78 51) then some y5 else lt (y5 ||| (16 : Int32)) fun v18 => some v18
def j_M_ownClash_19 (F G : Nat) (S : St) (y1 : Int32) (y2 : Int32) (y4 : Int32) (s0 : Int32) : Option (Int32) :=
  bd (fM_lowest F G S y1) fun v6 => bd (fM_highest F G S y1) fun v8 => if (v8 - v6) ≤ y4 then j_M_ownClash_47 F G  S y2 s0 v6 else lt (s0 ||| (2 : Int32)) fun v10 => j_M_ownClash_47 F G  S y2 v10 v6
def fM_ownClash (F G : Nat) (S : St) (p1 : Int32) (p2 : Int32) (p3 : Int32) (p4 : Int32) : Option (Int32) :=
  if p1 = 0 then some (0 : Int32) else bd (fM_members F G S p1) fun v3 => if v3 ≤ p3 then j_M_ownClash_19 F G  S p1 p2 p4 (0 : Int32) else j_M_ownClash_19 F G  S p1 p2 p4 (1 : Int32)
set_option maxRecDepth 100000 in
set_option maxHeartbeats 4000000 in
theorem c_M_ownClash {X : Nat × (Nat → Int32)} {D F G : Nat} (hD : 1 ≤ D) {S : St} {p1 : Int32} {p2 : Int32} {p3 : Int32} {p4 : Int32} {res : Int32} (h : fM_ownClash F G S p1 p2 p3 p4 = some res) : Ek X (D) mM_ownClash 0 [(0, .ref 78), (1, .int p1), (2, .int p2), (3, .int p3), (4, .int p4)] [] S (some (.int res)) S := by
  obtain ⟨D, rfl⟩ : ∃ E, D = E + 1 := ⟨D - 1, by omega⟩
  unfold fM_ownClash at h
  have J47 : ∀ (y2 : Int32) (y5 : Int32) (y6 : Int32) (res : Int32), j_M_ownClash_47 F G S y2 y5 y6 = some res → Ek X (D + 1) mM_ownClash 47 [(0, .ref 78), (2, .int y2), (5, .int y5), (6, .int y6)] [] S (some (.int res)) S := by
    intro y2 y5 y6 res h
    unfold j_M_ownClash_47 at h
    refine x_iload_n d_M_ownClash_47 rfl 1 rfl ?_
    refine x_if_eq (tgt := 76) d_M_ownClash_48 rfl (fun c12 => ?_) (fun c12 => ?_)
    · replace h := ite_t c12 h
      refine x_iload d_M_ownClash_76 2 rfl ?_
      obtain rfl := Option.some.inj h
      exact x_ret (r := some (.int y5)) d_M_ownClash_78 ⟨_, rfl, rfl⟩
    · replace h := ite_f c12 h
      refine x_iload d_M_ownClash_51 3 rfl ?_
      refine x_aload_n d_M_ownClash_53 rfl 0 rfl ?_
      refine x_iload_n d_M_ownClash_54 rfl 1 rfl ?_
      obtain ⟨v14, q13, h⟩ := bd_inv h
      refine y_V1i (v := v14) (S1 := S) d_M_ownClash_55 ml_11_437 kd_78 rfl (Nat.le_of_ble_eq_true rfl) (Nat.le_of_ble_eq_true rfl) (c_M_lowest (by omega) q13) ?_
      refine x_isub d_M_ownClash_58 ?_
      obtain ⟨v16, q15, h⟩ := bd_inv h
      refine y_S1i (v := v16) (S1 := S) d_M_ownClash_59 ml_11_325 (Nat.le_of_ble_eq_true rfl) (Nat.le_of_ble_eq_true rfl) (c_M_plain (by omega) q15) ?_
      refine x_aload_n d_M_ownClash_62 rfl 0 rfl ?_
      refine y_getI d_M_ownClash_63 fl_11_87 rfl kd_78 ?_
      refine x_icmp_le (tgt := 76) d_M_ownClash_66 rfl (fun c17 => ?_) (fun c17 => ?_)
      · replace h := ite_t c17 h
        refine x_iload d_M_ownClash_76 2 rfl ?_
        obtain rfl := Option.some.inj h
        exact x_ret (r := some (.int y5)) d_M_ownClash_78 ⟨_, rfl, rfl⟩
      · replace h := ite_f c17 h
        refine x_iload d_M_ownClash_69 2 rfl ?_
        refine x_bipush d_M_ownClash_71 bp_16 ?_
        refine x_ior d_M_ownClash_73 ?_
        obtain ⟨v18, e19, h⟩ := lt_inv h
        refine y_istore (L1 := [(0, .ref 78), (2, .int y2), (5, .int v18), (6, .int y6)]) e19 d_M_ownClash_74 (Nat.le_of_ble_eq_true rfl) rfl rfl ?_
        refine x_iload d_M_ownClash_76 2 rfl ?_
        obtain rfl := Option.some.inj h
        exact x_ret (r := some (.int v18)) d_M_ownClash_78 ⟨_, rfl, rfl⟩
  have J19 : ∀ (y1 : Int32) (y2 : Int32) (y4 : Int32) (s0 : Int32) (res : Int32), j_M_ownClash_19 F G S y1 y2 y4 s0 = some res → Ek X (D + 1) mM_ownClash 19 [(0, .ref 78), (1, .int y1), (2, .int y2), (4, .int y4)] [.int s0] S (some (.int res)) S := by
    intro y1 y2 y4 s0 res h
    unfold j_M_ownClash_19 at h
    refine x_istore (L1 := [(0, .ref 78), (1, .int y1), (2, .int y2), (4, .int y4), (5, .int s0)]) d_M_ownClash_19 (Nat.le_of_ble_eq_true rfl) rfl rfl ?_
    refine x_aload_n d_M_ownClash_21 rfl 0 rfl ?_
    refine x_iload_n d_M_ownClash_22 rfl 1 rfl ?_
    obtain ⟨v6, q5, h⟩ := bd_inv h
    refine y_V1i (v := v6) (S1 := S) d_M_ownClash_23 ml_11_437 kd_78 rfl (Nat.le_of_ble_eq_true rfl) (Nat.le_of_ble_eq_true rfl) (c_M_lowest (by omega) q5) ?_
    refine x_istore (L1 := [(0, .ref 78), (1, .int y1), (2, .int y2), (4, .int y4), (5, .int s0), (6, .int v6)]) d_M_ownClash_26 (Nat.le_of_ble_eq_true rfl) rfl rfl ?_
    refine x_aload_n d_M_ownClash_28 rfl 0 rfl ?_
    refine x_iload_n d_M_ownClash_29 rfl 1 rfl ?_
    obtain ⟨v8, q7, h⟩ := bd_inv h
    refine y_V1i (v := v8) (S1 := S) d_M_ownClash_30 ml_11_440 kd_78 rfl (Nat.le_of_ble_eq_true rfl) (Nat.le_of_ble_eq_true rfl) (c_M_highest (by omega) q7) ?_
    refine x_iload d_M_ownClash_33 5 rfl ?_
    refine x_isub d_M_ownClash_35 ?_
    refine x_iload d_M_ownClash_36 3 rfl ?_
    refine x_icmp_le (tgt := 47) d_M_ownClash_38 rfl (fun c9 => ?_) (fun c9 => ?_)
    · replace h := ite_t c9 h
      refine y_pick (L1 := [(0, .ref 78), (2, .int y2), (5, .int s0), (6, .int v6)]) [0, 2, 4, 5] rfl ?_
      exact J47 y2 s0 v6 _ h
    · replace h := ite_f c9 h
      refine x_iload d_M_ownClash_41 4 rfl ?_
      refine x_iconst d_M_ownClash_43 ic_2 ?_
      refine x_ior d_M_ownClash_44 ?_
      obtain ⟨v10, e11, h⟩ := lt_inv h
      refine y_istore (L1 := [(0, .ref 78), (1, .int y1), (2, .int y2), (4, .int y4), (5, .int v10), (6, .int v6)]) e11 d_M_ownClash_45 (Nat.le_of_ble_eq_true rfl) rfl rfl ?_
      refine y_pick (L1 := [(0, .ref 78), (2, .int y2), (5, .int v10), (6, .int v6)]) [0, 2, 4, 5] rfl ?_
      exact J47 y2 v10 v6 _ h
  refine x_iload_n d_M_ownClash_0 rfl 1 rfl ?_
  refine x_if_ne (tgt := 6) d_M_ownClash_1 rfl (fun c1 => ?_) (fun c1 => ?_)
  · replace h := ite_f c1 h
    refine x_iload_n d_M_ownClash_6 rfl 1 rfl ?_
    obtain ⟨v3, q2, h⟩ := bd_inv h
    refine y_S1i (v := v3) (S1 := S) d_M_ownClash_7 ml_11_331 (Nat.le_of_ble_eq_true rfl) (Nat.le_of_ble_eq_true rfl) (c_M_members (by omega) q2) ?_
    refine x_iload_n d_M_ownClash_10 rfl 3 rfl ?_
    refine x_icmp_le (tgt := 18) d_M_ownClash_11 rfl (fun c4 => ?_) (fun c4 => ?_)
    · replace h := ite_t c4 h
      refine x_iconst d_M_ownClash_18 ic_0 ?_
      refine y_pick (L1 := [(0, .ref 78), (1, .int p1), (2, .int p2), (4, .int p4)]) [0, 1, 2, 4] rfl ?_
      exact J19 p1 p2 p4 (0 : Int32) _ h
    · replace h := ite_f c4 h
      refine x_iconst d_M_ownClash_14 ic_1 ?_
      refine x_goto (tgt := 19) d_M_ownClash_15 rfl ?_
      refine y_pick (L1 := [(0, .ref 78), (1, .int p1), (2, .int p2), (4, .int p4)]) [0, 1, 2, 4] rfl ?_
      exact J19 p1 p2 p4 (1 : Int32) _ h
  · replace h := ite_t c1 h
    refine x_iconst d_M_ownClash_4 ic_0 ?_
    obtain rfl := Option.some.inj h
    exact x_ret (r := some (.int (0 : Int32))) d_M_ownClash_5 ⟨_, rfl, rfl⟩
/-! NinetyPlayersModel.hasTwins -/
def b_M_hasTwins_30 (F G : Nat) (S : St) (z1 : Int32) (z3 : Int32) (k84 : Int32 → Option (Int32)) (rec : Int32 → Int32 → Option (Int32)) (w2 : Int32) (w4 : Int32) : Option (Int32) :=
  if z3 ≤ w4 then k84 w2 else if w2 = 0 then if ((z1 >>> (w4 &&& 31)) &&& (1 : Int32)) = (1 : Int32) then gd (inB ((10 : Int32) + z3) 41) (gd (inB ((10 : Int32) + w4) 41) (if (S.1 101 ((10 : Int32) + z3).toNatClampNeg) = (S.1 101 ((10 : Int32) + w4).toNatClampNeg) then lt (w4 + 1) fun v18 => rec (1 : Int32) v18 else lt (w4 + 1) fun v16 => rec (0 : Int32) v16)) else lt (w4 + 1) fun v11 => rec (0 : Int32) v11 else lt (w4 + 1) fun v8 => rec (1 : Int32) v8
def b_M_hasTwins_4 (F G : Nat) (S : St) (z1 : Int32) (rec : Int32 → Int32 → Option (Int32)) (w2 : Int32) (w3 : Int32) : Option (Int32) :=
  if (S.1 78 48) ≤ w3 then gd (isB w2) (some w2) else if w2 = 0 then if ((z1 >>> (w3 &&& 31)) &&& (1 : Int32)) = 0 then lt (w3 + 1) fun v23 => rec w2 v23 else fx2 (b_M_hasTwins_30 F G S z1 w3 (fun v20 => lt (w3 + 1) fun v21 => rec v20 v21)) F w2 (0 : Int32) else gd (isB w2) (some w2)
def fM_hasTwins (F G : Nat) (S : St) (p1 : Int32) : Option (Int32) :=
  fx2 (b_M_hasTwins_4 F G S p1) F (0 : Int32) (0 : Int32)
set_option maxRecDepth 100000 in
set_option maxHeartbeats 4000000 in
theorem T_M_hasTwins_30 {X : Nat × (Nat → Int32)} {D F G : Nat} (hD : 0 ≤ D) {S : St} {z1 : Int32} {z3 : Int32} {k84 : Int32 → Option (Int32)} (hk84 : ∀ (u2 : Int32) (res : Int32), k84 u2 = some res → Ek X (D) mM_hasTwins 84 [(0, .ref 78), (1, .int z1), (2, .int u2), (3, .int z3)] [] S (some (.int res)) S) : ∀ (f : Nat) (w2 : Int32) (w4 : Int32) (res : Int32), fx2 (b_M_hasTwins_30 F G S z1 z3 k84 ) f w2 w4 = some res → Ek X (D) mM_hasTwins 30 [(0, .ref 78), (1, .int z1), (2, .int w2), (3, .int z3), (4, .int w4)] [] S (some (.int res)) S := by
  refine fx2_ind ?_
  intro rec ih w2 w4 res h
  unfold b_M_hasTwins_30 at h
  refine x_iload d_M_hasTwins_30 4 rfl ?_
  refine x_iload_n d_M_hasTwins_32 rfl 3 rfl ?_
  refine x_icmp_ge (tgt := 84) d_M_hasTwins_33 rfl (fun c6 => ?_) (fun c6 => ?_)
  · replace h := ite_t c6 h
    refine y_pick (L1 := [(0, .ref 78), (1, .int z1), (2, .int w2), (3, .int z3)]) [0, 1, 2, 3] rfl ?_
    exact hk84 w2 _ h
  · replace h := ite_f c6 h
    refine x_iload_n d_M_hasTwins_36 rfl 2 rfl ?_
    refine x_if_ne (tgt := 72) d_M_hasTwins_37 rfl (fun c7 => ?_) (fun c7 => ?_)
    · replace h := ite_f c7 h
      refine x_iconst d_M_hasTwins_72 ic_1 ?_
      refine x_goto (tgt := 77) d_M_hasTwins_73 rfl ?_
      refine x_istore_n (L1 := [(0, .ref 78), (1, .int z1), (2, .int (1 : Int32)), (3, .int z3), (4, .int w4)]) d_M_hasTwins_77 rfl (Nat.le_of_ble_eq_true rfl) rfl rfl ?_
      obtain ⟨v8, e9, h⟩ := lt_inv h
      refine y_iinc (L1 := [(0, .ref 78), (1, .int z1), (2, .int (1 : Int32)), (3, .int z3), (4, .int v8)]) e9 ic_1 d_M_hasTwins_78 4 rfl (Nat.le_of_ble_eq_true rfl) rfl rfl ?_
      refine x_goto (tgt := 30) d_M_hasTwins_81 rfl ?_
      exact ih (1 : Int32) v8 _ h
    · replace h := ite_t c7 h
      refine x_iload_n d_M_hasTwins_40 rfl 1 rfl ?_
      refine x_iload d_M_hasTwins_41 4 rfl ?_
      refine x_ishr d_M_hasTwins_43 ?_
      refine x_iconst d_M_hasTwins_44 ic_1 ?_
      refine x_iand d_M_hasTwins_45 ?_
      refine x_iconst d_M_hasTwins_46 ic_1 ?_
      refine x_icmp_ne (tgt := 76) d_M_hasTwins_47 rfl (fun c10 => ?_) (fun c10 => ?_)
      · replace h := ite_f c10 h
        refine x_iconst d_M_hasTwins_76 ic_0 ?_
        refine x_istore_n (L1 := [(0, .ref 78), (1, .int z1), (2, .int (0 : Int32)), (3, .int z3), (4, .int w4)]) d_M_hasTwins_77 rfl (Nat.le_of_ble_eq_true rfl) rfl rfl ?_
        obtain ⟨v11, e12, h⟩ := lt_inv h
        refine y_iinc (L1 := [(0, .ref 78), (1, .int z1), (2, .int (0 : Int32)), (3, .int z3), (4, .int v11)]) e12 ic_1 d_M_hasTwins_78 4 rfl (Nat.le_of_ble_eq_true rfl) rfl rfl ?_
        refine x_goto (tgt := 30) d_M_hasTwins_81 rfl ?_
        exact ih (0 : Int32) v11 _ h
      · replace h := ite_t c10 h
        refine x_aload_n d_M_hasTwins_50 rfl 0 rfl ?_
        refine y_getR d_M_hasTwins_51 fl_11_96 rfl kd_78 rr_78_59 ?_
        refine x_bipush d_M_hasTwins_54 bp_10 ?_
        refine x_iload_n d_M_hasTwins_56 rfl 3 rfl ?_
        refine x_iadd d_M_hasTwins_57 ?_
        obtain ⟨g13, h⟩ := gd_inv h
        refine y_iald d_M_hasTwins_58 kd_101 g13 ?_
        refine x_aload_n d_M_hasTwins_59 rfl 0 rfl ?_
        refine y_getR d_M_hasTwins_60 fl_11_96 rfl kd_78 rr_78_59 ?_
        refine x_bipush d_M_hasTwins_63 bp_10 ?_
        refine x_iload d_M_hasTwins_65 4 rfl ?_
        refine x_iadd d_M_hasTwins_67 ?_
        obtain ⟨g14, h⟩ := gd_inv h
        refine y_iald d_M_hasTwins_68 kd_101 g14 ?_
        refine x_icmp_ne (tgt := 76) d_M_hasTwins_69 rfl (fun c15 => ?_) (fun c15 => ?_)
        · replace h := ite_f c15 h
          refine x_iconst d_M_hasTwins_76 ic_0 ?_
          refine x_istore_n (L1 := [(0, .ref 78), (1, .int z1), (2, .int (0 : Int32)), (3, .int z3), (4, .int w4)]) d_M_hasTwins_77 rfl (Nat.le_of_ble_eq_true rfl) rfl rfl ?_
          obtain ⟨v16, e17, h⟩ := lt_inv h
          refine y_iinc (L1 := [(0, .ref 78), (1, .int z1), (2, .int (0 : Int32)), (3, .int z3), (4, .int v16)]) e17 ic_1 d_M_hasTwins_78 4 rfl (Nat.le_of_ble_eq_true rfl) rfl rfl ?_
          refine x_goto (tgt := 30) d_M_hasTwins_81 rfl ?_
          exact ih (0 : Int32) v16 _ h
        · replace h := ite_t c15 h
          refine x_iconst d_M_hasTwins_72 ic_1 ?_
          refine x_goto (tgt := 77) d_M_hasTwins_73 rfl ?_
          refine x_istore_n (L1 := [(0, .ref 78), (1, .int z1), (2, .int (1 : Int32)), (3, .int z3), (4, .int w4)]) d_M_hasTwins_77 rfl (Nat.le_of_ble_eq_true rfl) rfl rfl ?_
          obtain ⟨v18, e19, h⟩ := lt_inv h
          refine y_iinc (L1 := [(0, .ref 78), (1, .int z1), (2, .int (1 : Int32)), (3, .int z3), (4, .int v18)]) e19 ic_1 d_M_hasTwins_78 4 rfl (Nat.le_of_ble_eq_true rfl) rfl rfl ?_
          refine x_goto (tgt := 30) d_M_hasTwins_81 rfl ?_
          exact ih (1 : Int32) v18 _ h
set_option maxRecDepth 100000 in
set_option maxHeartbeats 4000000 in
theorem T_M_hasTwins_4 {X : Nat × (Nat → Int32)} {D F G : Nat} (hD : 0 ≤ D) {S : St} {z1 : Int32} : ∀ (f : Nat) (w2 : Int32) (w3 : Int32) (res : Int32), fx2 (b_M_hasTwins_4 F G S z1 ) f w2 w3 = some res → Ek X (D) mM_hasTwins 4 [(0, .ref 78), (1, .int z1), (2, .int w2), (3, .int w3)] [] S (some (.int res)) S := by
  refine fx2_ind ?_
  intro rec ih w2 w3 res h
  unfold b_M_hasTwins_4 at h
  refine x_iload_n d_M_hasTwins_4 rfl 3 rfl ?_
  refine x_aload_n d_M_hasTwins_5 rfl 0 rfl ?_
  refine y_getI d_M_hasTwins_6 fl_11_322 rfl kd_78 ?_
  refine x_icmp_ge (tgt := 90) d_M_hasTwins_9 rfl (fun c1 => ?_) (fun c1 => ?_)
  · replace h := ite_t c1 h
    refine x_iload_n d_M_hasTwins_90 rfl 2 rfl ?_
    obtain ⟨g2, h⟩ := gd_inv h
    obtain rfl := Option.some.inj h
    exact x_ret (r := some (.int w2)) d_M_hasTwins_91 ⟨_, rfl, isB_nar g2⟩
  · replace h := ite_f c1 h
    refine x_iload_n d_M_hasTwins_12 rfl 2 rfl ?_
    refine x_if_ne (tgt := 90) d_M_hasTwins_13 rfl (fun c3 => ?_) (fun c3 => ?_)
    · replace h := ite_f c3 h
      refine x_iload_n d_M_hasTwins_90 rfl 2 rfl ?_
      obtain ⟨g4, h⟩ := gd_inv h
      obtain rfl := Option.some.inj h
      exact x_ret (r := some (.int w2)) d_M_hasTwins_91 ⟨_, rfl, isB_nar g4⟩
    · replace h := ite_t c3 h
      refine x_iload_n d_M_hasTwins_16 rfl 1 rfl ?_
      refine x_iload_n d_M_hasTwins_17 rfl 3 rfl ?_
      refine x_ishr d_M_hasTwins_18 ?_
      refine x_iconst d_M_hasTwins_19 ic_1 ?_
      refine x_iand d_M_hasTwins_20 ?_
      refine x_if_ne (tgt := 27) d_M_hasTwins_21 rfl (fun c5 => ?_) (fun c5 => ?_)
      · replace h := ite_f c5 h
        refine x_iconst d_M_hasTwins_27 ic_0 ?_
        refine x_istore (L1 := [(0, .ref 78), (1, .int z1), (2, .int w2), (3, .int w3), (4, .int (0 : Int32))]) d_M_hasTwins_28 (Nat.le_of_ble_eq_true rfl) rfl rfl ?_
        refine T_M_hasTwins_30 (by omega)  ?_ F w2 (0 : Int32) _ h
        · intro v20 res h
          obtain ⟨v21, e22, h⟩ := lt_inv h
          refine y_iinc (L1 := [(0, .ref 78), (1, .int z1), (2, .int v20), (3, .int v21)]) e22 ic_1 d_M_hasTwins_84 3 rfl (Nat.le_of_ble_eq_true rfl) rfl rfl ?_
          refine x_goto (tgt := 4) d_M_hasTwins_87 rfl ?_
          exact ih v20 v21 _ h
      · replace h := ite_t c5 h
        refine x_goto (tgt := 84) d_M_hasTwins_24 rfl ?_
        obtain ⟨v23, e24, h⟩ := lt_inv h
        refine y_iinc (L1 := [(0, .ref 78), (1, .int z1), (2, .int w2), (3, .int v23)]) e24 ic_1 d_M_hasTwins_84 3 rfl (Nat.le_of_ble_eq_true rfl) rfl rfl ?_
        refine x_goto (tgt := 4) d_M_hasTwins_87 rfl ?_
        exact ih w2 v23 _ h
set_option maxRecDepth 100000 in
set_option maxHeartbeats 4000000 in
theorem c_M_hasTwins {X : Nat × (Nat → Int32)} {D F G : Nat} (hD : 0 ≤ D) {S : St} {p1 : Int32} {res : Int32} (h : fM_hasTwins F G S p1 = some res) : Ek X (D) mM_hasTwins 0 [(0, .ref 78), (1, .int p1)] [] S (some (.int res)) S := by
  unfold fM_hasTwins at h
  refine x_iconst d_M_hasTwins_0 ic_0 ?_
  refine x_istore_n (L1 := [(0, .ref 78), (1, .int p1), (2, .int (0 : Int32))]) d_M_hasTwins_1 rfl (Nat.le_of_ble_eq_true rfl) rfl rfl ?_
  refine x_iconst d_M_hasTwins_2 ic_0 ?_
  refine x_istore_n (L1 := [(0, .ref 78), (1, .int p1), (2, .int (0 : Int32)), (3, .int (0 : Int32))]) d_M_hasTwins_3 rfl (Nat.le_of_ble_eq_true rfl) rfl rfl ?_
  refine T_M_hasTwins_4 (by omega)   F (0 : Int32) (0 : Int32) _ h
/-! NinetyPlayersModel.clashBy -/
def j_M_clashBy_100 (F G : Nat) (S : St) (y6 : Int32) (y7 : Int32) (y9 : Int32) : Option (Int32) :=
  bd (fM_hasTwins F G S (y6 ||| y7)) fun v25 => if v25 = 0 then some y9 else some (y9 ||| (8 : Int32))
def j_M_clashBy_36 (F G : Nat) (S : St) (y2 : Int32) (y3 : Int32) (y4 : Int32) (y5 : Int32) (y6 : Int32) (y7 : Int32) (s0 : Int32) : Option (Int32) :=
  bd (fM_ownClash F G S y6 (y2 &&& s0) y4 y5) fun v10 => bd (fM_ownClash F G S y7 (y3 &&& s0) y4 y5) fun v12 => lt (v10 ||| v12) fun v13 => if y6 = 0 then j_M_clashBy_100 F G  S y6 y7 v13 else if y7 = 0 then j_M_clashBy_100 F G  S y6 y7 v13 else bd (fM_highest F G S y6) fun v18 => bd (fM_lowest F G S y7) fun v20 => if v18 < v20 then j_M_clashBy_100 F G  S y6 y7 v13 else lt (v13 ||| (4 : Int32)) fun v22 => j_M_clashBy_100 F G  S y6 y7 v22
def fM_clashBy (F G : Nat) (S : St) (p1 : Int32) (p2 : Int32) (p3 : Int32) (p4 : Int32) (p5 : Int32) : Option (Int32) :=
  gd (inB p1 12) (lt (p2 &&& (S.1 102 p1.toNatClampNeg)) fun v2 => gd (inB p1 12) (lt (p3 &&& (S.1 102 p1.toNatClampNeg)) fun v5 => if p1 = 0 then j_M_clashBy_36 F G  S p2 p3 p4 p5 v2 v5 (0 : Int32) else gd (inB (p1 - (1 : Int32)) 12) (j_M_clashBy_36 F G  S p2 p3 p4 p5 v2 v5 (S.1 102 (p1 - (1 : Int32)).toNatClampNeg))))
set_option maxRecDepth 100000 in
set_option maxHeartbeats 4000000 in
theorem c_M_clashBy {X : Nat × (Nat → Int32)} {D F G : Nat} (hD : 2 ≤ D) {S : St} {p1 : Int32} {p2 : Int32} {p3 : Int32} {p4 : Int32} {p5 : Int32} {res : Int32} (h : fM_clashBy F G S p1 p2 p3 p4 p5 = some res) : Ek X (D) mM_clashBy 0 [(0, .ref 78), (1, .int p1), (2, .int p2), (3, .int p3), (4, .int p4), (5, .int p5)] [] S (some (.int res)) S := by
  obtain ⟨D, rfl⟩ : ∃ E, D = E + 1 := ⟨D - 1, by omega⟩
  unfold fM_clashBy at h
  have J100 : ∀ (y6 : Int32) (y7 : Int32) (y9 : Int32) (res : Int32), j_M_clashBy_100 F G S y6 y7 y9 = some res → Ek X (D + 1) mM_clashBy 100 [(0, .ref 78), (6, .int y6), (7, .int y7), (9, .int y9)] [] S (some (.int res)) S := by
    intro y6 y7 y9 res h
    unfold j_M_clashBy_100 at h
    refine x_aload_n d_M_clashBy_100 rfl 0 rfl ?_
    refine x_iload d_M_clashBy_101 1 rfl ?_
    refine x_iload d_M_clashBy_103 2 rfl ?_
    refine x_ior d_M_clashBy_105 ?_
    obtain ⟨v25, q24, h⟩ := bd_inv h
    refine y_V1i (v := v25) (S1 := S) d_M_clashBy_106 ml_11_447 kd_78 rfl (Nat.le_of_ble_eq_true rfl) (Nat.le_of_ble_eq_true rfl) (c_M_hasTwins (by omega) q24) ?_
    refine x_if_eq (tgt := 120) d_M_clashBy_109 rfl (fun c26 => ?_) (fun c26 => ?_)
    · replace h := ite_t c26 h
      refine x_iload d_M_clashBy_120 3 rfl ?_
      obtain rfl := Option.some.inj h
      exact x_ret (r := some (.int y9)) d_M_clashBy_122 ⟨_, rfl, rfl⟩
    · replace h := ite_f c26 h
      refine x_iload d_M_clashBy_112 3 rfl ?_
      refine x_bipush d_M_clashBy_114 bp_8 ?_
      refine x_ior d_M_clashBy_116 ?_
      refine x_goto (tgt := 122) d_M_clashBy_117 rfl ?_
      obtain rfl := Option.some.inj h
      exact x_ret (r := some (.int (y9 ||| (8 : Int32)))) d_M_clashBy_122 ⟨_, rfl, rfl⟩
  have J36 : ∀ (y2 : Int32) (y3 : Int32) (y4 : Int32) (y5 : Int32) (y6 : Int32) (y7 : Int32) (s0 : Int32) (res : Int32), j_M_clashBy_36 F G S y2 y3 y4 y5 y6 y7 s0 = some res → Ek X (D + 1) mM_clashBy 36 [(0, .ref 78), (2, .int y2), (3, .int y3), (4, .int y4), (5, .int y5), (6, .int y6), (7, .int y7)] [.int s0] S (some (.int res)) S := by
    intro y2 y3 y4 y5 y6 y7 s0 res h
    unfold j_M_clashBy_36 at h
    refine x_istore (L1 := [(0, .ref 78), (2, .int y2), (3, .int y3), (4, .int y4), (5, .int y5), (6, .int y6), (7, .int y7), (8, .int s0)]) d_M_clashBy_36 (Nat.le_of_ble_eq_true rfl) rfl rfl ?_
    refine x_aload_n d_M_clashBy_38 rfl 0 rfl ?_
    refine x_iload d_M_clashBy_39 5 rfl ?_
    refine x_iload_n d_M_clashBy_41 rfl 1 rfl ?_
    refine x_iload d_M_clashBy_42 7 rfl ?_
    refine x_iand d_M_clashBy_44 ?_
    refine x_iload d_M_clashBy_45 3 rfl ?_
    refine x_iload d_M_clashBy_47 4 rfl ?_
    obtain ⟨v10, q9, h⟩ := bd_inv h
    refine y_V4i (v := v10) (S1 := S) d_M_clashBy_49 ml_11_443 kd_78 rfl (Nat.le_of_ble_eq_true rfl) (Nat.le_of_ble_eq_true rfl) (c_M_ownClash (by omega) q9) ?_
    refine x_aload_n d_M_clashBy_52 rfl 0 rfl ?_
    refine x_iload d_M_clashBy_53 6 rfl ?_
    refine x_iload_n d_M_clashBy_55 rfl 2 rfl ?_
    refine x_iload d_M_clashBy_56 7 rfl ?_
    refine x_iand d_M_clashBy_58 ?_
    refine x_iload d_M_clashBy_59 3 rfl ?_
    refine x_iload d_M_clashBy_61 4 rfl ?_
    obtain ⟨v12, q11, h⟩ := bd_inv h
    refine y_V4i (v := v12) (S1 := S) d_M_clashBy_63 ml_11_443 kd_78 rfl (Nat.le_of_ble_eq_true rfl) (Nat.le_of_ble_eq_true rfl) (c_M_ownClash (by omega) q11) ?_
    refine x_ior d_M_clashBy_66 ?_
    obtain ⟨v13, e14, h⟩ := lt_inv h
    refine y_istore (L1 := [(0, .ref 78), (2, .int y2), (3, .int y3), (4, .int y4), (5, .int y5), (6, .int y6), (7, .int y7), (8, .int s0), (9, .int v13)]) e14 d_M_clashBy_67 (Nat.le_of_ble_eq_true rfl) rfl rfl ?_
    refine x_iload d_M_clashBy_69 5 rfl ?_
    refine x_if_eq (tgt := 100) d_M_clashBy_71 rfl (fun c15 => ?_) (fun c15 => ?_)
    · replace h := ite_t c15 h
      refine y_pick (L1 := [(0, .ref 78), (6, .int y6), (7, .int y7), (9, .int v13)]) [0, 5, 6, 8] rfl ?_
      exact J100 y6 y7 v13 _ h
    · replace h := ite_f c15 h
      refine x_iload d_M_clashBy_74 6 rfl ?_
      refine x_if_eq (tgt := 100) d_M_clashBy_76 rfl (fun c16 => ?_) (fun c16 => ?_)
      · replace h := ite_t c16 h
        refine y_pick (L1 := [(0, .ref 78), (6, .int y6), (7, .int y7), (9, .int v13)]) [0, 5, 6, 8] rfl ?_
        exact J100 y6 y7 v13 _ h
      · replace h := ite_f c16 h
        refine x_aload_n d_M_clashBy_79 rfl 0 rfl ?_
        refine x_iload d_M_clashBy_80 5 rfl ?_
        obtain ⟨v18, q17, h⟩ := bd_inv h
        refine y_V1i (v := v18) (S1 := S) d_M_clashBy_82 ml_11_440 kd_78 rfl (Nat.le_of_ble_eq_true rfl) (Nat.le_of_ble_eq_true rfl) (c_M_highest (by omega) q17) ?_
        refine x_aload_n d_M_clashBy_85 rfl 0 rfl ?_
        refine x_iload d_M_clashBy_86 6 rfl ?_
        obtain ⟨v20, q19, h⟩ := bd_inv h
        refine y_V1i (v := v20) (S1 := S) d_M_clashBy_88 ml_11_437 kd_78 rfl (Nat.le_of_ble_eq_true rfl) (Nat.le_of_ble_eq_true rfl) (c_M_lowest (by omega) q19) ?_
        refine x_icmp_lt (tgt := 100) d_M_clashBy_91 rfl (fun c21 => ?_) (fun c21 => ?_)
        · replace h := ite_t c21 h
          refine y_pick (L1 := [(0, .ref 78), (6, .int y6), (7, .int y7), (9, .int v13)]) [0, 5, 6, 8] rfl ?_
          exact J100 y6 y7 v13 _ h
        · replace h := ite_f c21 h
          refine x_iload d_M_clashBy_94 8 rfl ?_
          refine x_iconst d_M_clashBy_96 ic_4 ?_
          refine x_ior d_M_clashBy_97 ?_
          obtain ⟨v22, e23, h⟩ := lt_inv h
          refine y_istore (L1 := [(0, .ref 78), (2, .int y2), (3, .int y3), (4, .int y4), (5, .int y5), (6, .int y6), (7, .int y7), (8, .int s0), (9, .int v22)]) e23 d_M_clashBy_98 (Nat.le_of_ble_eq_true rfl) rfl rfl ?_
          refine y_pick (L1 := [(0, .ref 78), (6, .int y6), (7, .int y7), (9, .int v22)]) [0, 5, 6, 8] rfl ?_
          exact J100 y6 y7 v22 _ h
  refine x_iload_n d_M_clashBy_0 rfl 2 rfl ?_
  refine x_aload_n d_M_clashBy_1 rfl 0 rfl ?_
  refine y_getR d_M_clashBy_2 fl_11_99 rfl kd_78 rr_78_60 ?_
  refine x_iload_n d_M_clashBy_5 rfl 1 rfl ?_
  obtain ⟨g1, h⟩ := gd_inv h
  refine y_iald d_M_clashBy_6 kd_102 g1 ?_
  refine x_iand d_M_clashBy_7 ?_
  obtain ⟨v2, e3, h⟩ := lt_inv h
  refine y_istore (L1 := [(0, .ref 78), (1, .int p1), (2, .int p2), (3, .int p3), (4, .int p4), (5, .int p5), (6, .int v2)]) e3 d_M_clashBy_8 (Nat.le_of_ble_eq_true rfl) rfl rfl ?_
  refine x_iload_n d_M_clashBy_10 rfl 3 rfl ?_
  refine x_aload_n d_M_clashBy_11 rfl 0 rfl ?_
  refine y_getR d_M_clashBy_12 fl_11_99 rfl kd_78 rr_78_60 ?_
  refine x_iload_n d_M_clashBy_15 rfl 1 rfl ?_
  obtain ⟨g4, h⟩ := gd_inv h
  refine y_iald d_M_clashBy_16 kd_102 g4 ?_
  refine x_iand d_M_clashBy_17 ?_
  obtain ⟨v5, e6, h⟩ := lt_inv h
  refine y_istore (L1 := [(0, .ref 78), (1, .int p1), (2, .int p2), (3, .int p3), (4, .int p4), (5, .int p5), (6, .int v2), (7, .int v5)]) e6 d_M_clashBy_18 (Nat.le_of_ble_eq_true rfl) rfl rfl ?_
  refine x_iload_n d_M_clashBy_20 rfl 1 rfl ?_
  refine x_if_ne (tgt := 28) d_M_clashBy_21 rfl (fun c7 => ?_) (fun c7 => ?_)
  · replace h := ite_f c7 h
    refine x_aload_n d_M_clashBy_28 rfl 0 rfl ?_
    refine y_getR d_M_clashBy_29 fl_11_99 rfl kd_78 rr_78_60 ?_
    refine x_iload_n d_M_clashBy_32 rfl 1 rfl ?_
    refine x_iconst d_M_clashBy_33 ic_1 ?_
    refine x_isub d_M_clashBy_34 ?_
    obtain ⟨g8, h⟩ := gd_inv h
    refine y_iald d_M_clashBy_35 kd_102 g8 ?_
    refine y_pick (L1 := [(0, .ref 78), (2, .int p2), (3, .int p3), (4, .int p4), (5, .int p5), (6, .int v2), (7, .int v5)]) [0, 2, 3, 4, 5, 6, 7] rfl ?_
    exact J36 p2 p3 p4 p5 v2 v5 (S.1 102 (p1 - (1 : Int32)).toNatClampNeg) _ h
  · replace h := ite_t c7 h
    refine x_iconst d_M_clashBy_24 ic_0 ?_
    refine x_goto (tgt := 36) d_M_clashBy_25 rfl ?_
    refine y_pick (L1 := [(0, .ref 78), (2, .int p2), (3, .int p3), (4, .int p4), (5, .int p5), (6, .int v2), (7, .int v5)]) [0, 2, 3, 4, 5, 6, 7] rfl ?_
    exact J36 p2 p3 p4 p5 v2 v5 (0 : Int32) _ h
/-! NinetyPlayersModel.clash -/
def fM_clash (F G : Nat) (S : St) (p1 : Int32) : Option (Int32 × St) :=
  bd (fM_fill F G S ) fun S2 => bd (fM_isBeat F G S2 p1) fun v4 => if v4 = 0 then some ((-1 : Int32), S2) else bd (fM_given F G S2 (1 : Int32)) fun v7 => bd (fM_given F G S2 (2 : Int32)) fun v9 => bd (fM_clashBy F G S2 p1 v7 v9 (S2.1 78 50) (S2.1 78 49)) fun v11 => some (v11, S2)
set_option maxRecDepth 100000 in
set_option maxHeartbeats 4000000 in
theorem c_M_clash {X : Nat × (Nat → Int32)} {D F G : Nat} (hD : 3 ≤ D) {S : St} {p1 : Int32} {res : Int32 × St} (h : fM_clash F G S p1 = some res) : Ek X (D) mM_clash 0 [(0, .ref 78), (1, .int p1)] [] S (some (.int res.1)) res.2 := by
  obtain ⟨D, rfl⟩ : ∃ E, D = E + 1 := ⟨D - 1, by omega⟩
  unfold fM_clash at h
  refine x_aload_n d_M_clash_0 rfl 0 rfl ?_
  obtain ⟨S2, q1, h⟩ := bd_inv h
  refine y_V0v (S1 := S2) d_M_clash_1 ml_11_464 kd_78 rfl (Nat.le_of_ble_eq_true rfl) (Nat.le_of_ble_eq_true rfl) (c_M_fill (by omega) q1) ?_
  refine x_aload_n d_M_clash_4 rfl 0 rfl ?_
  refine x_iload_n d_M_clash_5 rfl 1 rfl ?_
  obtain ⟨v4, q3, h⟩ := bd_inv h
  refine y_V1i (v := v4) (S1 := S2) d_M_clash_6 ml_11_473 kd_78 rfl (Nat.le_of_ble_eq_true rfl) (Nat.le_of_ble_eq_true rfl) (c_M_isBeat (by omega) q3) ?_
  refine x_if_eq (tgt := 38) d_M_clash_9 rfl (fun c5 => ?_) (fun c5 => ?_)
  · replace h := ite_t c5 h
    refine x_iconst d_M_clash_38 ic_m1 ?_
    obtain rfl := Option.some.inj h
    exact x_ret (r := some (.int (-1 : Int32))) d_M_clash_39 ⟨_, rfl, rfl⟩
  · replace h := ite_f c5 h
    refine x_aload_n d_M_clash_12 rfl 0 rfl ?_
    refine x_iload_n d_M_clash_13 rfl 1 rfl ?_
    refine x_aload_n d_M_clash_14 rfl 0 rfl ?_
    refine x_iconst d_M_clash_15 ic_1 ?_
    obtain ⟨v7, q6, h⟩ := bd_inv h
    refine y_V1i (v := v7) (S1 := S2) d_M_clash_16 ml_11_454 kd_78 rfl (Nat.le_of_ble_eq_true rfl) (Nat.le_of_ble_eq_true rfl) (c_M_given (by omega) q6) ?_
    refine x_aload_n d_M_clash_19 rfl 0 rfl ?_
    refine x_iconst d_M_clash_20 ic_2 ?_
    obtain ⟨v9, q8, h⟩ := bd_inv h
    refine y_V1i (v := v9) (S1 := S2) d_M_clash_21 ml_11_454 kd_78 rfl (Nat.le_of_ble_eq_true rfl) (Nat.le_of_ble_eq_true rfl) (c_M_given (by omega) q8) ?_
    refine x_aload_n d_M_clash_24 rfl 0 rfl ?_
    refine y_getI d_M_clash_25 fl_11_84 rfl kd_78 ?_
    refine x_aload_n d_M_clash_28 rfl 0 rfl ?_
    refine y_getI d_M_clash_29 fl_11_81 rfl kd_78 ?_
    obtain ⟨v11, q10, h⟩ := bd_inv h
    refine y_V5i (v := v11) (S1 := S2) d_M_clash_32 ml_11_450 kd_78 rfl (Nat.le_of_ble_eq_true rfl) (Nat.le_of_ble_eq_true rfl) (c_M_clashBy (by omega) q10) ?_
    refine x_goto (tgt := 39) d_M_clash_35 rfl ?_
    obtain rfl := Option.some.inj h
    exact x_ret (r := some (.int v11)) d_M_clash_39 ⟨_, rfl, rfl⟩
/-! NinetyPlayers$Acts.dropOldest -/
def fC_dropOldest (F G : Nat) (S : St) : Option (St) :=
  lt (sI S 51 0 (39 : Int32)) fun S1 => gd (decide (0 ≤ (1 : Int32)) && decide (0 ≤ (0 : Int32)) && decide (0 ≤ (S1.1 51 0)) && decide ((1 : Int32).toNatClampNeg + (S1.1 51 0).toNatClampNeg ≤ 40) && decide ((0 : Int32).toNatClampNeg + (S1.1 51 0).toNatClampNeg ≤ 40)) (lt (sA S1 52 (va_cpy (S1.1 52) (S1.1 52) (1 : Int32).toNatClampNeg (0 : Int32).toNatClampNeg (S1.1 51 0).toNatClampNeg)) fun S4 => gd (decide (0 ≤ (1 : Int32)) && decide (0 ≤ (0 : Int32)) && decide (0 ≤ (S4.1 51 0)) && decide ((1 : Int32).toNatClampNeg + (S4.1 51 0).toNatClampNeg ≤ 40) && decide ((0 : Int32).toNatClampNeg + (S4.1 51 0).toNatClampNeg ≤ 40)) (lt (sA S4 53 (va_cpy (S4.1 53) (S4.1 53) (1 : Int32).toNatClampNeg (0 : Int32).toNatClampNeg (S4.1 51 0).toNatClampNeg)) fun S7 => gd (decide (0 ≤ (1 : Int32)) && decide (0 ≤ (0 : Int32)) && decide (0 ≤ (S7.1 51 0)) && decide ((1 : Int32).toNatClampNeg + (S7.1 51 0).toNatClampNeg ≤ 40) && decide ((0 : Int32).toNatClampNeg + (S7.1 51 0).toNatClampNeg ≤ 40)) (lt (sA S7 54 (va_cpy (S7.1 54) (S7.1 54) (1 : Int32).toNatClampNeg (0 : Int32).toNatClampNeg (S7.1 51 0).toNatClampNeg)) fun S10 => gd (decide (0 ≤ (1 : Int32)) && decide (0 ≤ (0 : Int32)) && decide (0 ≤ (S10.1 51 0)) && decide ((1 : Int32).toNatClampNeg + (S10.1 51 0).toNatClampNeg ≤ 40) && decide ((0 : Int32).toNatClampNeg + (S10.1 51 0).toNatClampNeg ≤ 40)) (lt (sA S10 55 (va_cpy (S10.1 55) (S10.1 55) (1 : Int32).toNatClampNeg (0 : Int32).toNatClampNeg (S10.1 51 0).toNatClampNeg)) fun S13 => some S13))))
set_option maxRecDepth 100000 in
set_option maxHeartbeats 4000000 in
theorem c_C_dropOldest {X : Nat × (Nat → Int32)} {D F G : Nat} (hD : 1 ≤ D) {S : St} {res : St} (h : fC_dropOldest F G S  = some res) : Ek X (D) mC_dropOldest 0 [(0, .ref 51)] [] S none res := by
  obtain ⟨D, rfl⟩ : ∃ E, D = E + 1 := ⟨D - 1, by omega⟩
  unfold fC_dropOldest at h
  refine x_aload_n d_C_dropOldest_0 rfl 0 rfl ?_
  refine x_bipush d_C_dropOldest_1 bp_39 ?_
  obtain ⟨S1, e2, h⟩ := lt_inv h
  refine y_putI e2 d_C_dropOldest_3 fl_6_24 rfl rfl kd_51 rfl rfl ?_
  refine x_aload_n d_C_dropOldest_6 rfl 0 rfl ?_
  refine y_getR d_C_dropOldest_7 fl_6_9 rfl kd_51 rr_51_2 ?_
  refine x_iconst d_C_dropOldest_10 ic_1 ?_
  refine x_aload_n d_C_dropOldest_11 rfl 0 rfl ?_
  refine y_getR d_C_dropOldest_12 fl_6_9 rfl kd_51 rr_51_2 ?_
  refine x_iconst d_C_dropOldest_15 ic_0 ?_
  refine x_aload_n d_C_dropOldest_16 rfl 0 rfl ?_
  refine y_getI d_C_dropOldest_17 fl_6_24 rfl kd_51 ?_
  obtain ⟨g3, h⟩ := gd_inv h
  obtain ⟨S4, e5, h⟩ := lt_inv h
  refine y_copy e5 g3 d_C_dropOldest_20 ml_6_44 kd_52 kd_52 (Nat.le_of_ble_eq_true rfl) ?_
  refine x_aload_n d_C_dropOldest_23 rfl 0 rfl ?_
  refine y_getR d_C_dropOldest_24 fl_6_15 rfl kd_51 rr_51_3 ?_
  refine x_iconst d_C_dropOldest_27 ic_1 ?_
  refine x_aload_n d_C_dropOldest_28 rfl 0 rfl ?_
  refine y_getR d_C_dropOldest_29 fl_6_15 rfl kd_51 rr_51_3 ?_
  refine x_iconst d_C_dropOldest_32 ic_0 ?_
  refine x_aload_n d_C_dropOldest_33 rfl 0 rfl ?_
  refine y_getI d_C_dropOldest_34 fl_6_24 rfl kd_51 ?_
  obtain ⟨g6, h⟩ := gd_inv h
  obtain ⟨S7, e8, h⟩ := lt_inv h
  refine y_copy e8 g6 d_C_dropOldest_37 ml_6_44 kd_53 kd_53 (Nat.le_of_ble_eq_true rfl) ?_
  refine x_aload_n d_C_dropOldest_40 rfl 0 rfl ?_
  refine y_getR d_C_dropOldest_41 fl_6_18 rfl kd_51 rr_51_4 ?_
  refine x_iconst d_C_dropOldest_44 ic_1 ?_
  refine x_aload_n d_C_dropOldest_45 rfl 0 rfl ?_
  refine y_getR d_C_dropOldest_46 fl_6_18 rfl kd_51 rr_51_4 ?_
  refine x_iconst d_C_dropOldest_49 ic_0 ?_
  refine x_aload_n d_C_dropOldest_50 rfl 0 rfl ?_
  refine y_getI d_C_dropOldest_51 fl_6_24 rfl kd_51 ?_
  obtain ⟨g9, h⟩ := gd_inv h
  obtain ⟨S10, e11, h⟩ := lt_inv h
  refine y_copy e11 g9 d_C_dropOldest_54 ml_6_44 kd_54 kd_54 (Nat.le_of_ble_eq_true rfl) ?_
  refine x_aload_n d_C_dropOldest_57 rfl 0 rfl ?_
  refine y_getR d_C_dropOldest_58 fl_6_21 rfl kd_51 rr_51_5 ?_
  refine x_iconst d_C_dropOldest_61 ic_1 ?_
  refine x_aload_n d_C_dropOldest_62 rfl 0 rfl ?_
  refine y_getR d_C_dropOldest_63 fl_6_21 rfl kd_51 rr_51_5 ?_
  refine x_iconst d_C_dropOldest_66 ic_0 ?_
  refine x_aload_n d_C_dropOldest_67 rfl 0 rfl ?_
  refine y_getI d_C_dropOldest_68 fl_6_24 rfl kd_51 ?_
  obtain ⟨g12, h⟩ := gd_inv h
  obtain ⟨S13, e14, h⟩ := lt_inv h
  refine y_copy e14 g12 d_C_dropOldest_71 ml_6_44 kd_55 kd_55 (Nat.le_of_ble_eq_true rfl) ?_
  obtain rfl := Option.some.inj h
  exact x_ret (r := none) d_C_dropOldest_74 rfl
/-! NinetyPlayers$Laying.rowOf -/
def fL_rowOf (F G : Nat) (S : St) (o : Nat) (p1 : Int32) : Option (Nat) :=
  gd (isLa o) (if p1 = 0 then some (o + 1) else if p1 = 1 then some (o + 2) else if p1 = 2 then some (o + 3) else some (o + 4))
set_option maxRecDepth 100000 in
set_option maxHeartbeats 4000000 in
theorem c_L_rowOf {X : Nat × (Nat → Int32)} {D F G : Nat} (hD : 0 ≤ D) {S : St} {o : Nat} {p1 : Int32} {res : Nat} (h : fL_rowOf F G S o p1 = some res) : Ek X (D) mL_rowOf 0 [(0, .ref o), (1, .int p1)] [] S (some (.ref res)) S := by
  unfold fL_rowOf at h
  obtain ⟨gg0, h⟩ := gd_inv h
  refine x_iload_n d_L_rowOf_0 rfl 1 rfl ?_
  by_cases c1 : p1 = 0
  · replace h := ite_t c1 h
    refine x_tabC (tgt := 28) 0 d_L_rowOf_1 (by rw [c1]; rfl) (by decide) rfl rfl ?_
    refine x_aload_n d_L_rowOf_28 rfl 0 rfl ?_
    refine y_getR d_L_rowOf_29 fl_5_9 rfl (ksLa gg0) (rrLa_2 gg0) ?_
    obtain rfl := Option.some.inj h
    exact x_ret (r := some (.ref (o + 1))) d_L_rowOf_32 ⟨_, rfl⟩
  replace h := ite_f c1 h
  by_cases c2 : p1 = 1
  · replace h := ite_t c2 h
    refine x_tabC (tgt := 33) 1 d_L_rowOf_1 (by rw [c2]; rfl) (by decide) rfl rfl ?_
    refine x_aload_n d_L_rowOf_33 rfl 0 rfl ?_
    refine y_getR d_L_rowOf_34 fl_5_15 rfl (ksLa gg0) (rrLa_3 gg0) ?_
    obtain rfl := Option.some.inj h
    exact x_ret (r := some (.ref (o + 2))) d_L_rowOf_37 ⟨_, rfl⟩
  replace h := ite_f c2 h
  by_cases c3 : p1 = 2
  · replace h := ite_t c3 h
    refine x_tabC (tgt := 38) 2 d_L_rowOf_1 (by rw [c3]; rfl) (by decide) rfl rfl ?_
    refine x_aload_n d_L_rowOf_38 rfl 0 rfl ?_
    refine y_getR d_L_rowOf_39 fl_5_18 rfl (ksLa gg0) (rrLa_4 gg0) ?_
    obtain rfl := Option.some.inj h
    exact x_ret (r := some (.ref (o + 3))) d_L_rowOf_42 ⟨_, rfl⟩
  replace h := ite_f c3 h
  refine x_tabD (tgt := 43) d_L_rowOf_1 (by have := lv_neT c1 (show (0 : Int32).toInt = 0 from rfl); have := lv_neT c2 (show (1 : Int32).toInt = 1 from rfl); have := lv_neT c3 (show (2 : Int32).toInt = 2 from rfl); omega) rfl ?_
  refine x_aload_n d_L_rowOf_43 rfl 0 rfl ?_
  refine y_getR d_L_rowOf_44 fl_5_21 rfl (ksLa gg0) (rrLa_5 gg0) ?_
  obtain rfl := Option.some.inj h
  exact x_ret (r := some (.ref (o + 4))) d_L_rowOf_47 ⟨_, rfl⟩
/-! NinetyPlayers$Laying.valueOf -/
def fL_valueOf (F G : Nat) (S : St) (o : Nat) (p1 : Int32) (p2 : Int32) : Option (Int32) :=
  gd (isLa o) (bd (fL_rowOf F G S o p1) fun v2 => gd (isRw v2) (if p1 = (4 : Int32) then some (S.1 o 1) else if p2 < 0 then some (0 : Int32) else if (Int32.ofNat 10) ≤ p2 then some (0 : Int32) else gd (inB p2 10) (some (S.1 v2 p2.toNatClampNeg))))
set_option maxRecDepth 100000 in
set_option maxHeartbeats 4000000 in
theorem c_L_valueOf {X : Nat × (Nat → Int32)} {D F G : Nat} (hD : 1 ≤ D) {S : St} {o : Nat} {p1 : Int32} {p2 : Int32} {res : Int32} (h : fL_valueOf F G S o p1 p2 = some res) : Ek X (D) mL_valueOf 0 [(0, .ref o), (1, .int p1), (2, .int p2)] [] S (some (.int res)) S := by
  obtain ⟨D, rfl⟩ : ∃ E, D = E + 1 := ⟨D - 1, by omega⟩
  unfold fL_valueOf at h
  obtain ⟨gg0, h⟩ := gd_inv h
  refine x_aload_n d_L_valueOf_0 rfl 0 rfl ?_
  refine x_iload_n d_L_valueOf_1 rfl 1 rfl ?_
  obtain ⟨v2, q1, h⟩ := bd_inv h
  refine y_V1r (v := v2) (S1 := S) d_L_valueOf_2 ml_5_33 (ksLa gg0) rfl (Nat.le_of_ble_eq_true rfl) (Nat.le_of_ble_eq_true rfl) (c_L_rowOf (by omega) q1) ?_
  obtain ⟨g3, h⟩ := gd_inv h
  refine x_astore_n (L1 := [(0, .ref o), (1, .int p1), (2, .int p2), (3, .ref v2)]) d_L_valueOf_5 rfl (Nat.le_of_ble_eq_true rfl) rfl rfl ?_
  refine x_iload_n d_L_valueOf_6 rfl 1 rfl ?_
  refine x_iconst d_L_valueOf_7 ic_4 ?_
  refine x_icmp_ne (tgt := 16) d_L_valueOf_8 rfl (fun c4 => ?_) (fun c4 => ?_)
  · replace h := ite_f c4 h
    refine x_iload_n d_L_valueOf_16 rfl 2 rfl ?_
    refine x_if_lt (tgt := 32) d_L_valueOf_17 rfl (fun c5 => ?_) (fun c5 => ?_)
    · replace h := ite_t c5 h
      refine x_iconst d_L_valueOf_32 ic_0 ?_
      obtain rfl := Option.some.inj h
      exact x_ret (r := some (.int (0 : Int32))) d_L_valueOf_33 ⟨_, rfl, rfl⟩
    · replace h := ite_f c5 h
      refine x_iload_n d_L_valueOf_20 rfl 2 rfl ?_
      refine x_aload_n d_L_valueOf_21 rfl 3 rfl ?_
      refine x_alen1 d_L_valueOf_22 (ksRw g3) ?_
      refine x_icmp_ge (tgt := 32) d_L_valueOf_23 rfl (fun c6 => ?_) (fun c6 => ?_)
      · replace h := ite_t c6 h
        refine x_iconst d_L_valueOf_32 ic_0 ?_
        obtain rfl := Option.some.inj h
        exact x_ret (r := some (.int (0 : Int32))) d_L_valueOf_33 ⟨_, rfl, rfl⟩
      · replace h := ite_f c6 h
        refine x_aload_n d_L_valueOf_26 rfl 3 rfl ?_
        refine x_iload_n d_L_valueOf_27 rfl 2 rfl ?_
        obtain ⟨g7, h⟩ := gd_inv h
        refine y_iald d_L_valueOf_28 (ksRw g3) g7 ?_
        refine x_goto (tgt := 33) d_L_valueOf_29 rfl ?_
        obtain rfl := Option.some.inj h
        exact x_ret (r := some (.int (S.1 v2 p2.toNatClampNeg))) d_L_valueOf_33 ⟨_, rfl, rfl⟩
  · replace h := ite_t c4 h
    refine x_aload_n d_L_valueOf_11 rfl 0 rfl ?_
    refine y_getI d_L_valueOf_12 fl_5_24 rfl (ksLa gg0) ?_
    obtain rfl := Option.some.inj h
    exact x_ret (r := some (.int (S.1 o 1))) d_L_valueOf_15 ⟨_, rfl, rfl⟩
/-! NinetyPlayers$Laying.put -/
def fL_put (F G : Nat) (S : St) (o : Nat) (p1 : Int32) (p2 : Int32) (p3 : Int32) : Option (St) :=
  gd (isLa o) (bd (fL_rowOf F G S o p1) fun v2 => gd (isRw v2) (if p1 = (4 : Int32) then lt (sI S o 1 p3) fun S10 => some S10 else if p2 < 0 then some S else if (Int32.ofNat 10) ≤ p2 then some S else gd (inB p2 10) (lt (sI S v2 p2.toNatClampNeg p3) fun S8 => some S8)))
set_option maxRecDepth 100000 in
set_option maxHeartbeats 4000000 in
theorem c_L_put {X : Nat × (Nat → Int32)} {D F G : Nat} (hD : 1 ≤ D) {S : St} {o : Nat} {p1 : Int32} {p2 : Int32} {p3 : Int32} {res : St} (h : fL_put F G S o p1 p2 p3 = some res) : Ek X (D) mL_put 0 [(0, .ref o), (1, .int p1), (2, .int p2), (3, .int p3)] [] S none res := by
  obtain ⟨D, rfl⟩ : ∃ E, D = E + 1 := ⟨D - 1, by omega⟩
  unfold fL_put at h
  obtain ⟨gg0, h⟩ := gd_inv h
  refine x_aload_n d_L_put_0 rfl 0 rfl ?_
  refine x_iload_n d_L_put_1 rfl 1 rfl ?_
  obtain ⟨v2, q1, h⟩ := bd_inv h
  refine y_V1r (v := v2) (S1 := S) d_L_put_2 ml_5_33 (ksLa gg0) rfl (Nat.le_of_ble_eq_true rfl) (Nat.le_of_ble_eq_true rfl) (c_L_rowOf (by omega) q1) ?_
  obtain ⟨g3, h⟩ := gd_inv h
  refine x_astore (L1 := [(0, .ref o), (1, .int p1), (2, .int p2), (3, .int p3), (4, .ref v2)]) d_L_put_5 (Nat.le_of_ble_eq_true rfl) rfl rfl ?_
  refine x_iload_n d_L_put_7 rfl 1 rfl ?_
  refine x_iconst d_L_put_8 ic_4 ?_
  refine x_icmp_ne (tgt := 20) d_L_put_9 rfl (fun c4 => ?_) (fun c4 => ?_)
  · replace h := ite_f c4 h
    refine x_iload_n d_L_put_20 rfl 2 rfl ?_
    refine x_if_lt (tgt := 36) d_L_put_21 rfl (fun c5 => ?_) (fun c5 => ?_)
    · replace h := ite_t c5 h
      obtain rfl := Option.some.inj h
      exact x_ret (r := none) d_L_put_36 rfl
    · replace h := ite_f c5 h
      refine x_iload_n d_L_put_24 rfl 2 rfl ?_
      refine x_aload d_L_put_25 4 rfl ?_
      refine x_alen1 d_L_put_27 (ksRw g3) ?_
      refine x_icmp_ge (tgt := 36) d_L_put_28 rfl (fun c6 => ?_) (fun c6 => ?_)
      · replace h := ite_t c6 h
        obtain rfl := Option.some.inj h
        exact x_ret (r := none) d_L_put_36 rfl
      · replace h := ite_f c6 h
        refine x_aload d_L_put_31 4 rfl ?_
        refine x_iload_n d_L_put_33 rfl 2 rfl ?_
        refine x_iload_n d_L_put_34 rfl 3 rfl ?_
        obtain ⟨g7, h⟩ := gd_inv h
        obtain ⟨S8, e9, h⟩ := lt_inv h
        refine y_iast e9 d_L_put_35 (ksRw g3) g7 ?_
        obtain rfl := Option.some.inj h
        exact x_ret (r := none) d_L_put_36 rfl
  · replace h := ite_t c4 h
    refine x_aload_n d_L_put_12 rfl 0 rfl ?_
    refine x_iload_n d_L_put_13 rfl 3 rfl ?_
    obtain ⟨S10, e11, h⟩ := lt_inv h
    refine y_putI e11 d_L_put_14 fl_5_24 rfl rfl (ksLa gg0) rfl rfl ?_
    refine x_goto (tgt := 36) d_L_put_17 rfl ?_
    obtain rfl := Option.some.inj h
    exact x_ret (r := none) d_L_put_36 rfl
/-! NinetyPlayers$Acts.act -/
def j_C_act_13 (F G : Nat) (o2 : Nat) (S : St) (y2 : Int32) (y3 : Int32) (y4 : Int32) : Option (St) :=
  gd (inB (S.1 51 0) 40) (lt (sI S 52 (S.1 51 0).toNatClampNeg y2) fun S5 => gd (inB (S5.1 51 0) 40) (lt (sI S5 53 (S5.1 51 0).toNatClampNeg y3) fun S8 => bd (fL_valueOf F G S8 o2 y2 y3) fun v11 => gd (inB (S8.1 51 0) 40) (lt (sI S8 54 (S8.1 51 0).toNatClampNeg v11) fun S13 => gd (inB (S13.1 51 0) 40) (lt (sI S13 55 (S13.1 51 0).toNatClampNeg y4) fun S16 => lt (sI S16 51 0 ((S16.1 51 0) + (1 : Int32))) fun S18 => lt (sI S18 51 1 (S18.1 51 0)) fun S20 => bd (fL_put F G S20 o2 y2 y3 y4) fun S23 => some S23))))
def fC_act (F G : Nat) (S : St) (o2 : Nat) (p2 : Int32) (p3 : Int32) (p4 : Int32) : Option (St) :=
  gd (isLa o2) (if (S.1 51 0) < (40 : Int32) then j_C_act_13 F G o2  S p2 p3 p4 else bd (fC_dropOldest F G S ) fun S3 => j_C_act_13 F G o2  S3 p2 p3 p4)
set_option maxRecDepth 100000 in
set_option maxHeartbeats 4000000 in
theorem c_C_act {X : Nat × (Nat → Int32)} {D F G : Nat} (hD : 2 ≤ D) {S : St} {o2 : Nat} {p2 : Int32} {p3 : Int32} {p4 : Int32} {res : St} (h : fC_act F G S o2 p2 p3 p4 = some res) : Ek X (D) mC_act 0 [(0, .ref 51), (1, .ref o2), (2, .int p2), (3, .int p3), (4, .int p4)] [] S none res := by
  obtain ⟨D, rfl⟩ : ∃ E, D = E + 1 := ⟨D - 1, by omega⟩
  unfold fC_act at h
  obtain ⟨gg0, h⟩ := gd_inv h
  have J13 : ∀ (S : St) (y2 : Int32) (y3 : Int32) (y4 : Int32) (res : St), j_C_act_13 F G o2 S y2 y3 y4 = some res → Ek X (D + 1) mC_act 13 [(0, .ref 51), (1, .ref o2), (2, .int y2), (3, .int y3), (4, .int y4)] [] S none res := by
    intro S y2 y3 y4 res h
    unfold j_C_act_13 at h
    refine x_aload_n d_C_act_13 rfl 0 rfl ?_
    refine y_getR d_C_act_14 fl_6_9 rfl kd_51 rr_51_2 ?_
    refine x_aload_n d_C_act_17 rfl 0 rfl ?_
    refine y_getI d_C_act_18 fl_6_24 rfl kd_51 ?_
    refine x_iload_n d_C_act_21 rfl 2 rfl ?_
    obtain ⟨g4, h⟩ := gd_inv h
    obtain ⟨S5, e6, h⟩ := lt_inv h
    refine y_iast e6 d_C_act_22 kd_52 g4 ?_
    refine x_aload_n d_C_act_23 rfl 0 rfl ?_
    refine y_getR d_C_act_24 fl_6_15 rfl kd_51 rr_51_3 ?_
    refine x_aload_n d_C_act_27 rfl 0 rfl ?_
    refine y_getI d_C_act_28 fl_6_24 rfl kd_51 ?_
    refine x_iload_n d_C_act_31 rfl 3 rfl ?_
    obtain ⟨g7, h⟩ := gd_inv h
    obtain ⟨S8, e9, h⟩ := lt_inv h
    refine y_iast e9 d_C_act_32 kd_53 g7 ?_
    refine x_aload_n d_C_act_33 rfl 0 rfl ?_
    refine y_getR d_C_act_34 fl_6_18 rfl kd_51 rr_51_4 ?_
    refine x_aload_n d_C_act_37 rfl 0 rfl ?_
    refine y_getI d_C_act_38 fl_6_24 rfl kd_51 ?_
    refine x_aload_n d_C_act_41 rfl 1 rfl ?_
    refine x_iload_n d_C_act_42 rfl 2 rfl ?_
    refine x_iload_n d_C_act_43 rfl 3 rfl ?_
    obtain ⟨v11, q10, h⟩ := bd_inv h
    refine y_V2i (v := v11) (S1 := S8) d_C_act_44 ml_6_34 (ksLa gg0) rfl (Nat.le_of_ble_eq_true rfl) (Nat.le_of_ble_eq_true rfl) (c_L_valueOf (by omega) q10) ?_
    obtain ⟨g12, h⟩ := gd_inv h
    obtain ⟨S13, e14, h⟩ := lt_inv h
    refine y_iast e14 d_C_act_47 kd_54 g12 ?_
    refine x_aload_n d_C_act_48 rfl 0 rfl ?_
    refine y_getR d_C_act_49 fl_6_21 rfl kd_51 rr_51_5 ?_
    refine x_aload_n d_C_act_52 rfl 0 rfl ?_
    refine y_getI d_C_act_53 fl_6_24 rfl kd_51 ?_
    refine x_iload d_C_act_56 4 rfl ?_
    obtain ⟨g15, h⟩ := gd_inv h
    obtain ⟨S16, e17, h⟩ := lt_inv h
    refine y_iast e17 d_C_act_58 kd_55 g15 ?_
    refine x_aload_n d_C_act_59 rfl 0 rfl ?_
    refine x_dup d_C_act_60 rfl ?_
    refine y_getI d_C_act_61 fl_6_24 rfl kd_51 ?_
    refine x_iconst d_C_act_64 ic_1 ?_
    refine x_iadd d_C_act_65 ?_
    obtain ⟨S18, e19, h⟩ := lt_inv h
    refine y_putI e19 d_C_act_66 fl_6_24 rfl rfl kd_51 rfl rfl ?_
    refine x_aload_n d_C_act_69 rfl 0 rfl ?_
    refine x_aload_n d_C_act_70 rfl 0 rfl ?_
    refine y_getI d_C_act_71 fl_6_24 rfl kd_51 ?_
    obtain ⟨S20, e21, h⟩ := lt_inv h
    refine y_putI e21 d_C_act_74 fl_6_28 rfl rfl kd_51 rfl rfl ?_
    refine x_aload_n d_C_act_77 rfl 1 rfl ?_
    refine x_iload_n d_C_act_78 rfl 2 rfl ?_
    refine x_iload_n d_C_act_79 rfl 3 rfl ?_
    refine x_iload d_C_act_80 4 rfl ?_
    obtain ⟨S23, q22, h⟩ := bd_inv h
    refine y_V3v (S1 := S23) d_C_act_82 ml_6_40 (ksLa gg0) rfl (Nat.le_of_ble_eq_true rfl) (Nat.le_of_ble_eq_true rfl) (c_L_put (by omega) q22) ?_
    obtain rfl := Option.some.inj h
    exact x_ret (r := none) d_C_act_85 rfl
  refine x_aload_n d_C_act_0 rfl 0 rfl ?_
  refine y_getI d_C_act_1 fl_6_24 rfl kd_51 ?_
  refine x_bipush d_C_act_4 bp_40 ?_
  refine x_icmp_lt (tgt := 13) d_C_act_6 rfl (fun c1 => ?_) (fun c1 => ?_)
  · replace h := ite_t c1 h
    exact J13 S p2 p3 p4 _ h
  · replace h := ite_f c1 h
    refine x_aload_n d_C_act_9 rfl 0 rfl ?_
    obtain ⟨S3, q2, h⟩ := bd_inv h
    refine y_V0v (S1 := S3) d_C_act_10 ml_6_31 kd_51 rfl (Nat.le_of_ble_eq_true rfl) (Nat.le_of_ble_eq_true rfl) (c_C_dropOldest (by omega) q2) ?_
    exact J13 S3 p2 p3 p4 _ h
/-! NinetyPlayers$Keyboard.clashingBeats -/
def b_K_clashingBeats_5 (F G : Nat) (S : St) (z1 : Int32) (z2 : Int32) (rec : Int32 → Int32 → Option (Int32)) (w3 : Int32) (w4 : Int32) : Option (Int32) :=
  if (S.1 56 0) ≤ w4 then some w3 else bd (fK_clashesAt F G S z1 z2 w4) fun v3 => if v3 = 0 then lt (w4 + 1) fun v5 => rec w3 v5 else lt (w3 ||| ((1 : Int32) <<< (w4 &&& 31))) fun v7 => lt (w4 + 1) fun v9 => rec v7 v9
def fK_clashingBeats (F G : Nat) (S : St) (p1 : Int32) (p2 : Int32) : Option (Int32) :=
  fx2 (b_K_clashingBeats_5 F G S p1 p2) F (0 : Int32) (0 : Int32)
set_option maxRecDepth 100000 in
set_option maxHeartbeats 4000000 in
theorem T_K_clashingBeats_5 {X : Nat × (Nat → Int32)} {D F G : Nat} (hD : 4 ≤ D + 1) {S : St} {z1 : Int32} {z2 : Int32} : ∀ (f : Nat) (w3 : Int32) (w4 : Int32) (res : Int32), fx2 (b_K_clashingBeats_5 F G S z1 z2 ) f w3 w4 = some res → Ek X (D + 1) mK_clashingBeats 5 [(0, .ref 56), (1, .int z1), (2, .int z2), (3, .int w3), (4, .int w4)] [] S (some (.int res)) S := by
  refine fx2_ind ?_
  intro rec ih w3 w4 res h
  unfold b_K_clashingBeats_5 at h
  refine x_iload d_K_clashingBeats_5 4 rfl ?_
  refine x_aload_n d_K_clashingBeats_7 rfl 0 rfl ?_
  refine y_getI d_K_clashingBeats_8 fl_7_30 rfl kd_56 ?_
  refine x_icmp_ge (tgt := 38) d_K_clashingBeats_11 rfl (fun c1 => ?_) (fun c1 => ?_)
  · replace h := ite_t c1 h
    refine x_iload_n d_K_clashingBeats_38 rfl 3 rfl ?_
    obtain rfl := Option.some.inj h
    exact x_ret (r := some (.int w3)) d_K_clashingBeats_39 ⟨_, rfl, rfl⟩
  · replace h := ite_f c1 h
    refine x_aload_n d_K_clashingBeats_14 rfl 0 rfl ?_
    refine x_iload_n d_K_clashingBeats_15 rfl 1 rfl ?_
    refine x_iload_n d_K_clashingBeats_16 rfl 2 rfl ?_
    refine x_iload d_K_clashingBeats_17 4 rfl ?_
    obtain ⟨v3, q2, h⟩ := bd_inv h
    refine y_V3i (v := v3) (S1 := S) d_K_clashingBeats_19 ml_7_104 kd_56 rfl (Nat.le_of_ble_eq_true rfl) (Nat.le_of_ble_eq_true rfl) (c_K_clashesAt (by omega) q2) ?_
    refine x_if_eq (tgt := 32) d_K_clashingBeats_22 rfl (fun c4 => ?_) (fun c4 => ?_)
    · replace h := ite_t c4 h
      obtain ⟨v5, e6, h⟩ := lt_inv h
      refine y_iinc (L1 := [(0, .ref 56), (1, .int z1), (2, .int z2), (3, .int w3), (4, .int v5)]) e6 ic_1 d_K_clashingBeats_32 4 rfl (Nat.le_of_ble_eq_true rfl) rfl rfl ?_
      refine x_goto (tgt := 5) d_K_clashingBeats_35 rfl ?_
      exact ih w3 v5 _ h
    · replace h := ite_f c4 h
      refine x_iload_n d_K_clashingBeats_25 rfl 3 rfl ?_
      refine x_iconst d_K_clashingBeats_26 ic_1 ?_
      refine x_iload d_K_clashingBeats_27 4 rfl ?_
      refine x_ishl d_K_clashingBeats_29 ?_
      refine x_ior d_K_clashingBeats_30 ?_
      obtain ⟨v7, e8, h⟩ := lt_inv h
      refine y_istore_n (L1 := [(0, .ref 56), (1, .int z1), (2, .int z2), (3, .int v7), (4, .int w4)]) e8 d_K_clashingBeats_31 rfl (Nat.le_of_ble_eq_true rfl) rfl rfl ?_
      obtain ⟨v9, e10, h⟩ := lt_inv h
      refine y_iinc (L1 := [(0, .ref 56), (1, .int z1), (2, .int z2), (3, .int v7), (4, .int v9)]) e10 ic_1 d_K_clashingBeats_32 4 rfl (Nat.le_of_ble_eq_true rfl) rfl rfl ?_
      refine x_goto (tgt := 5) d_K_clashingBeats_35 rfl ?_
      exact ih v7 v9 _ h
set_option maxRecDepth 100000 in
set_option maxHeartbeats 4000000 in
theorem c_K_clashingBeats {X : Nat × (Nat → Int32)} {D F G : Nat} (hD : 4 ≤ D) {S : St} {p1 : Int32} {p2 : Int32} {res : Int32} (h : fK_clashingBeats F G S p1 p2 = some res) : Ek X (D) mK_clashingBeats 0 [(0, .ref 56), (1, .int p1), (2, .int p2)] [] S (some (.int res)) S := by
  obtain ⟨D, rfl⟩ : ∃ E, D = E + 1 := ⟨D - 1, by omega⟩
  unfold fK_clashingBeats at h
  refine x_iconst d_K_clashingBeats_0 ic_0 ?_
  refine x_istore_n (L1 := [(0, .ref 56), (1, .int p1), (2, .int p2), (3, .int (0 : Int32))]) d_K_clashingBeats_1 rfl (Nat.le_of_ble_eq_true rfl) rfl rfl ?_
  refine x_iconst d_K_clashingBeats_2 ic_0 ?_
  refine x_istore (L1 := [(0, .ref 56), (1, .int p1), (2, .int p2), (3, .int (0 : Int32)), (4, .int (0 : Int32))]) d_K_clashingBeats_3 (Nat.le_of_ble_eq_true rfl) rfl rfl ?_
  refine T_K_clashingBeats_5 (by omega)   F (0 : Int32) (0 : Int32) _ h
/-! NinetyPlayers.clashes -/
def fN_clashes (F G : Nat) (S : St) : Option (Int32 × St) :=
  bd (fN_lookAtKeys F G S ) fun S2 => bd (fK_clashingBeats F G S2 (S2.1 56 5) (S2.1 56 6)) fun v4 => some (v4, S2)
set_option maxRecDepth 100000 in
set_option maxHeartbeats 4000000 in
theorem c_N_clashes {X : Nat × (Nat → Int32)} {D F G : Nat} (hD : 5 ≤ D) {S : St} {res : Int32 × St} (h : fN_clashes F G S  = some res) : Ek X (D) mN_clashes 0 [(0, .ref 0)] [] S (some (.int res.1)) res.2 := by
  obtain ⟨D, rfl⟩ : ∃ E, D = E + 1 := ⟨D - 1, by omega⟩
  unfold fN_clashes at h
  refine x_aload_n d_N_clashes_0 rfl 0 rfl ?_
  obtain ⟨S2, q1, h⟩ := bd_inv h
  refine y_V0v (S1 := S2) d_N_clashes_1 ml_0_173 kd_0 rfl (Nat.le_of_ble_eq_true rfl) (Nat.le_of_ble_eq_true rfl) (c_N_lookAtKeys (by omega) q1) ?_
  refine x_aload_n d_N_clashes_4 rfl 0 rfl ?_
  refine y_getR d_N_clashes_5 fl_0_50 rfl kd_0 rr_0_7 ?_
  refine x_aload_n d_N_clashes_8 rfl 0 rfl ?_
  refine y_getR d_N_clashes_9 fl_0_50 rfl kd_0 rr_0_7 ?_
  refine y_getI d_N_clashes_12 fl_0_183 rfl kd_56 ?_
  refine x_aload_n d_N_clashes_15 rfl 0 rfl ?_
  refine y_getR d_N_clashes_16 fl_0_50 rfl kd_0 rr_0_7 ?_
  refine y_getI d_N_clashes_19 fl_0_186 rfl kd_56 ?_
  obtain ⟨v4, q3, h⟩ := bd_inv h
  refine y_V2i (v := v4) (S1 := S2) d_N_clashes_22 ml_0_253 kd_56 rfl (Nat.le_of_ble_eq_true rfl) (Nat.le_of_ble_eq_true rfl) (c_K_clashingBeats (by omega) q3) ?_
  obtain rfl := Option.some.inj h
  exact x_ret (r := some (.int v4)) d_N_clashes_25 ⟨_, rfl, rfl⟩
/-! NinetyPlayers.give -/
def fN_give (F G : Nat) (S : St) (p1 : Int32) (p2 : Int32) : Option (Int32 × St) :=
  bd (fN_isNote F G S p1) fun v2 => if v2 = 0 then some ((-1 : Int32), S) else if p2 < 0 then some ((-1 : Int32), S) else if (2 : Int32) < p2 then some ((-1 : Int32), S) else gd (inB p1 10) (if (S.1 31 p1.toNatClampNeg) = p2 then some ((-1 : Int32), S) else bd (fC_act F G S 30 (0 : Int32) p1 p2) fun S9 => bd2 (fN_clashes F G S9) fun v11 S12 => some (v11, S12))
set_option maxRecDepth 100000 in
set_option maxHeartbeats 4000000 in
theorem c_N_give {X : Nat × (Nat → Int32)} {D F G : Nat} (hD : 6 ≤ D) {S : St} {p1 : Int32} {p2 : Int32} {res : Int32 × St} (h : fN_give F G S p1 p2 = some res) : Ek X (D) mN_give 0 [(0, .ref 0), (1, .int p1), (2, .int p2)] [] S (some (.int res.1)) res.2 := by
  obtain ⟨D, rfl⟩ : ∃ E, D = E + 1 := ⟨D - 1, by omega⟩
  unfold fN_give at h
  refine x_aload_n d_N_give_0 rfl 0 rfl ?_
  refine x_iload_n d_N_give_1 rfl 1 rfl ?_
  obtain ⟨v2, q1, h⟩ := bd_inv h
  refine y_V1i (v := v2) (S1 := S) d_N_give_2 ml_0_126 kd_0 rfl (Nat.le_of_ble_eq_true rfl) (Nat.le_of_ble_eq_true rfl) (c_N_isNote (by omega) q1) ?_
  refine x_if_eq (tgt := 30) d_N_give_5 rfl (fun c3 => ?_) (fun c3 => ?_)
  · replace h := ite_t c3 h
    refine x_iconst d_N_give_30 ic_m1 ?_
    obtain rfl := Option.some.inj h
    exact x_ret (r := some (.int (-1 : Int32))) d_N_give_31 ⟨_, rfl, rfl⟩
  · replace h := ite_f c3 h
    refine x_iload_n d_N_give_8 rfl 2 rfl ?_
    refine x_if_lt (tgt := 30) d_N_give_9 rfl (fun c4 => ?_) (fun c4 => ?_)
    · replace h := ite_t c4 h
      refine x_iconst d_N_give_30 ic_m1 ?_
      obtain rfl := Option.some.inj h
      exact x_ret (r := some (.int (-1 : Int32))) d_N_give_31 ⟨_, rfl, rfl⟩
    · replace h := ite_f c4 h
      refine x_iload_n d_N_give_12 rfl 2 rfl ?_
      refine x_iconst d_N_give_13 ic_2 ?_
      refine x_icmp_gt (tgt := 30) d_N_give_14 rfl (fun c5 => ?_) (fun c5 => ?_)
      · replace h := ite_t c5 h
        refine x_iconst d_N_give_30 ic_m1 ?_
        obtain rfl := Option.some.inj h
        exact x_ret (r := some (.int (-1 : Int32))) d_N_give_31 ⟨_, rfl, rfl⟩
      · replace h := ite_f c5 h
        refine x_aload_n d_N_give_17 rfl 0 rfl ?_
        refine y_getR d_N_give_18 fl_0_32 rfl kd_0 rr_0_4 ?_
        refine y_getR d_N_give_21 fl_0_144 rfl kd_30 rr_30_2 ?_
        refine x_iload_n d_N_give_24 rfl 1 rfl ?_
        obtain ⟨g6, h⟩ := gd_inv h
        refine y_iald d_N_give_25 kd_31 g6 ?_
        refine x_iload_n d_N_give_26 rfl 2 rfl ?_
        refine x_icmp_ne (tgt := 32) d_N_give_27 rfl (fun c7 => ?_) (fun c7 => ?_)
        · replace h := ite_f c7 h
          refine x_aload_n d_N_give_32 rfl 0 rfl ?_
          refine y_getR d_N_give_33 fl_0_43 rfl kd_0 rr_0_6 ?_
          refine x_aload_n d_N_give_36 rfl 0 rfl ?_
          refine y_getR d_N_give_37 fl_0_32 rfl kd_0 rr_0_4 ?_
          refine x_iconst d_N_give_40 ic_0 ?_
          refine x_iload_n d_N_give_41 rfl 1 rfl ?_
          refine x_iload_n d_N_give_42 rfl 2 rfl ?_
          obtain ⟨S9, q8, h⟩ := bd_inv h
          refine y_V4v (S1 := S9) d_N_give_43 ml_0_233 kd_51 rfl (Nat.le_of_ble_eq_true rfl) (Nat.le_of_ble_eq_true rfl) (c_C_act (by omega) q8) ?_
          refine x_aload_n d_N_give_46 rfl 0 rfl ?_
          obtain ⟨v11, S12, q10, h⟩ := bd2_inv h
          refine y_V0i (v := v11) (S1 := S12) d_N_give_47 ml_0_237 kd_0 rfl (Nat.le_of_ble_eq_true rfl) (Nat.le_of_ble_eq_true rfl) (c_N_clashes (by omega) q10) ?_
          obtain rfl := Option.some.inj h
          exact x_ret (r := some (.int v11)) d_N_give_50 ⟨_, rfl, rfl⟩
        · replace h := ite_t c7 h
          refine x_iconst d_N_give_30 ic_m1 ?_
          obtain rfl := Option.some.inj h
          exact x_ret (r := some (.int (-1 : Int32))) d_N_give_31 ⟨_, rfl, rfl⟩
/-! NinetyPlayersModel.act -/
def b_M_act_51 (F G : Nat) (rec : Int32 → St → Option (St)) (w1 : Int32) (S : St) : Option (St) :=
  if (41 : Int32) ≤ w1 then lt (sI S 78 63 ((S.1 78 63) + (1 : Int32))) fun S3 => lt (sI S3 78 64 (0 : Int32)) fun S5 => some S5 else gd (inB w1 41) (gd (inB (((41 : Int32) * (S.1 78 63)) + w1) 1640) (lt (sI S 104 (((41 : Int32) * (S.1 78 63)) + w1).toNatClampNeg (S.1 100 w1.toNatClampNeg)) fun S9 => lt (w1 + 1) fun v11 => rec v11 S9))
def b_M_act_11 (F G : Nat) (k39 : St → Option (St)) (rec : Int32 → St → Option (St)) (w1 : Int32) (S : St) : Option (St) :=
  if (1599 : Int32) ≤ w1 then k39 S else gd (inB ((41 : Int32) + w1) 1640) (gd (inB w1 1640) (lt (sI S 104 w1.toNatClampNeg (S.1 104 ((41 : Int32) + w1).toNatClampNeg)) fun S16 => lt (w1 + 1) fun v18 => rec v18 S16))
def fM_act (F G : Nat) (S : St) : Option (St) :=
  if (S.1 78 63) = (40 : Int32) then fx2 (b_M_act_11 F G  (fun S20 => lt (sI S20 78 63 ((S20.1 78 63) - (1 : Int32))) fun S21 => fx2 (b_M_act_51 F G ) F (0 : Int32) S21)) F (0 : Int32) S else fx2 (b_M_act_51 F G ) F (0 : Int32) S
set_option maxRecDepth 100000 in
set_option maxHeartbeats 4000000 in
theorem T_M_act_51 {X : Nat × (Nat → Int32)} {D F G : Nat} (hD : 0 ≤ D) : ∀ (f : Nat) (w1 : Int32) (S : St) (res : St), fx2 (b_M_act_51 F G ) f w1 S = some res → Ek X (D) mM_act 51 [(0, .ref 78), (1, .int w1)] [] S none res := by
  refine fx2_ind ?_
  intro rec ih w1 S res h
  unfold b_M_act_51 at h
  refine x_iload_n d_M_act_51 rfl 1 rfl ?_
  refine x_bipush d_M_act_52 bp_41 ?_
  refine x_icmp_ge (tgt := 83) d_M_act_54 rfl (fun c2 => ?_) (fun c2 => ?_)
  · replace h := ite_t c2 h
    refine x_aload_n d_M_act_83 rfl 0 rfl ?_
    refine x_dup d_M_act_84 rfl ?_
    refine y_getI d_M_act_85 fl_11_417 rfl kd_78 ?_
    refine x_iconst d_M_act_88 ic_1 ?_
    refine x_iadd d_M_act_89 ?_
    obtain ⟨S3, e4, h⟩ := lt_inv h
    refine y_putI e4 d_M_act_90 fl_11_417 rfl rfl kd_78 rfl rfl ?_
    refine x_aload_n d_M_act_93 rfl 0 rfl ?_
    refine x_iconst d_M_act_94 ic_0 ?_
    obtain ⟨S5, e6, h⟩ := lt_inv h
    refine y_putI e6 d_M_act_95 fl_11_420 rfl rfl kd_78 rfl rfl ?_
    obtain rfl := Option.some.inj h
    exact x_ret (r := none) d_M_act_98 rfl
  · replace h := ite_f c2 h
    refine x_aload_n d_M_act_57 rfl 0 rfl ?_
    refine y_getR d_M_act_58 fl_11_105 rfl kd_78 rr_78_62 ?_
    refine x_bipush d_M_act_61 bp_41 ?_
    refine x_aload_n d_M_act_63 rfl 0 rfl ?_
    refine y_getI d_M_act_64 fl_11_417 rfl kd_78 ?_
    refine x_imul d_M_act_67 ?_
    refine x_iload_n d_M_act_68 rfl 1 rfl ?_
    refine x_iadd d_M_act_69 ?_
    refine x_aload_n d_M_act_70 rfl 0 rfl ?_
    refine y_getR d_M_act_71 fl_11_93 rfl kd_78 rr_78_58 ?_
    refine x_iload_n d_M_act_74 rfl 1 rfl ?_
    obtain ⟨g7, h⟩ := gd_inv h
    refine y_iald d_M_act_75 kd_100 g7 ?_
    obtain ⟨g8, h⟩ := gd_inv h
    obtain ⟨S9, e10, h⟩ := lt_inv h
    refine y_iast e10 d_M_act_76 kd_104 g8 ?_
    obtain ⟨v11, e12, h⟩ := lt_inv h
    refine y_iinc (L1 := [(0, .ref 78), (1, .int v11)]) e12 ic_1 d_M_act_77 1 rfl (Nat.le_of_ble_eq_true rfl) rfl rfl ?_
    refine x_goto (tgt := 51) d_M_act_80 rfl ?_
    exact ih v11 S9 _ h
set_option maxRecDepth 100000 in
set_option maxHeartbeats 4000000 in
theorem T_M_act_11 {X : Nat × (Nat → Int32)} {D F G : Nat} (hD : 0 ≤ D) {k39 : St → Option (St)} (hk39 : ∀ (S1 : St) (res : St), k39 S1 = some res → Ek X (D) mM_act 39 [(0, .ref 78)] [] S1 none res) : ∀ (f : Nat) (w1 : Int32) (S : St) (res : St), fx2 (b_M_act_11 F G k39 ) f w1 S = some res → Ek X (D) mM_act 11 [(0, .ref 78), (1, .int w1)] [] S none res := by
  refine fx2_ind ?_
  intro rec ih w1 S res h
  unfold b_M_act_11 at h
  refine x_iload_n d_M_act_11 rfl 1 rfl ?_
  refine x_sipush d_M_act_12 sp_1599 ?_
  refine x_icmp_ge (tgt := 39) d_M_act_15 rfl (fun c13 => ?_) (fun c13 => ?_)
  · replace h := ite_t c13 h
    refine y_pick (L1 := [(0, .ref 78)]) [0] rfl ?_
    exact hk39 S _ h
  · replace h := ite_f c13 h
    refine x_aload_n d_M_act_18 rfl 0 rfl ?_
    refine y_getR d_M_act_19 fl_11_105 rfl kd_78 rr_78_62 ?_
    refine x_iload_n d_M_act_22 rfl 1 rfl ?_
    refine x_aload_n d_M_act_23 rfl 0 rfl ?_
    refine y_getR d_M_act_24 fl_11_105 rfl kd_78 rr_78_62 ?_
    refine x_bipush d_M_act_27 bp_41 ?_
    refine x_iload_n d_M_act_29 rfl 1 rfl ?_
    refine x_iadd d_M_act_30 ?_
    obtain ⟨g14, h⟩ := gd_inv h
    refine y_iald d_M_act_31 kd_104 g14 ?_
    obtain ⟨g15, h⟩ := gd_inv h
    obtain ⟨S16, e17, h⟩ := lt_inv h
    refine y_iast e17 d_M_act_32 kd_104 g15 ?_
    obtain ⟨v18, e19, h⟩ := lt_inv h
    refine y_iinc (L1 := [(0, .ref 78), (1, .int v18)]) e19 ic_1 d_M_act_33 1 rfl (Nat.le_of_ble_eq_true rfl) rfl rfl ?_
    refine x_goto (tgt := 11) d_M_act_36 rfl ?_
    exact ih v18 S16 _ h
set_option maxRecDepth 100000 in
set_option maxHeartbeats 4000000 in
theorem c_M_act {X : Nat × (Nat → Int32)} {D F G : Nat} (hD : 0 ≤ D) {S : St} {res : St} (h : fM_act F G S  = some res) : Ek X (D) mM_act 0 [(0, .ref 78)] [] S none res := by
  unfold fM_act at h
  refine x_aload_n d_M_act_0 rfl 0 rfl ?_
  refine y_getI d_M_act_1 fl_11_417 rfl kd_78 ?_
  refine x_bipush d_M_act_4 bp_40 ?_
  refine x_icmp_ne (tgt := 49) d_M_act_6 rfl (fun c1 => ?_) (fun c1 => ?_)
  · replace h := ite_f c1 h
    refine x_iconst d_M_act_49 ic_0 ?_
    refine x_istore_n (L1 := [(0, .ref 78), (1, .int (0 : Int32))]) d_M_act_50 rfl (Nat.le_of_ble_eq_true rfl) rfl rfl ?_
    refine T_M_act_51 (by omega)   F (0 : Int32) S _ h
  · replace h := ite_t c1 h
    refine x_iconst d_M_act_9 ic_0 ?_
    refine x_istore_n (L1 := [(0, .ref 78), (1, .int (0 : Int32))]) d_M_act_10 rfl (Nat.le_of_ble_eq_true rfl) rfl rfl ?_
    refine T_M_act_11 (by omega)  ?_ F (0 : Int32) S _ h
    · intro S20 res h
      refine x_aload_n d_M_act_39 rfl 0 rfl ?_
      refine x_dup d_M_act_40 rfl ?_
      refine y_getI d_M_act_41 fl_11_417 rfl kd_78 ?_
      refine x_iconst d_M_act_44 ic_1 ?_
      refine x_isub d_M_act_45 ?_
      obtain ⟨S21, e22, h⟩ := lt_inv h
      refine y_putI e22 d_M_act_46 fl_11_417 rfl rfl kd_78 rfl rfl ?_
      refine x_iconst d_M_act_49 ic_0 ?_
      refine x_istore_n (L1 := [(0, .ref 78), (1, .int (0 : Int32))]) d_M_act_50 rfl (Nat.le_of_ble_eq_true rfl) rfl rfl ?_
      refine T_M_act_51 (by omega)   F (0 : Int32) S21 _ h
/-! NinetyPlayersModel.clashBeats -/
def j_M_clashBeats_41 (F G : Nat) (S : St) (z1 : Int32) (rec : Int32 → Int32 → Option (Int32)) (_ : St) (y3 : Int32) (s0 : Int32) (s1 : Int32) : Option (Int32) :=
  bd (fM_truth F G S s1) fun v10 => lt (s0 ||| (v10 <<< (y3 &&& 31))) fun v11 => lt (y3 + 1) fun v13 => rec v11 v13
def b_M_clashBeats_4 (F G : Nat) (S : St) (z1 : Int32) (rec : Int32 → Int32 → Option (Int32)) (w2 : Int32) (w3 : Int32) : Option (Int32) :=
  if (S.1 78 46) ≤ w3 then some w2 else bd (fM_given F G S (1 : Int32)) fun v3 => bd (fM_given F G S (2 : Int32)) fun v5 => bd (fM_clashBy F G S w3 v3 v5 (S.1 78 50) z1) fun v7 => if v7 = 0 then j_M_clashBeats_41 F G S z1 rec  S w3 w2 (0 : Int32) else j_M_clashBeats_41 F G S z1 rec  S w3 w2 (1 : Int32)
def fM_clashBeats (F G : Nat) (S : St) (p1 : Int32) : Option (Int32) :=
  fx2 (b_M_clashBeats_4 F G S p1) F (0 : Int32) (0 : Int32)
set_option maxRecDepth 100000 in
set_option maxHeartbeats 4000000 in
theorem T_M_clashBeats_4 {X : Nat × (Nat → Int32)} {D F G : Nat} (hD : 3 ≤ D + 1) {S : St} {z1 : Int32} : ∀ (f : Nat) (w2 : Int32) (w3 : Int32) (res : Int32), fx2 (b_M_clashBeats_4 F G S z1 ) f w2 w3 = some res → Ek X (D + 1) mM_clashBeats 4 [(0, .ref 78), (1, .int z1), (2, .int w2), (3, .int w3)] [] S (some (.int res)) S := by
  refine fx2_ind ?_
  intro rec ih w2 w3 res h
  unfold b_M_clashBeats_4 at h
  have J41 : ∀ (y3 : Int32) (s0 : Int32) (s1 : Int32) (res : Int32), j_M_clashBeats_41 F G S z1 rec S y3 s0 s1 = some res → Ek X (D + 1) mM_clashBeats 41 [(0, .ref 78), (1, .int z1), (3, .int y3)] [.int s1, .int s0] S (some (.int res)) S := by
    intro y3 s0 s1 res h
    unfold j_M_clashBeats_41 at h
    obtain ⟨v10, q9, h⟩ := bd_inv h
    refine y_S1i (v := v10) (S1 := S) d_M_clashBeats_41 ml_11_318 (Nat.le_of_ble_eq_true rfl) (Nat.le_of_ble_eq_true rfl) (c_M_truth (by omega) q9) ?_
    refine x_iload_n d_M_clashBeats_44 rfl 2 rfl ?_
    refine x_ishl d_M_clashBeats_45 ?_
    refine x_ior d_M_clashBeats_46 ?_
    obtain ⟨v11, e12, h⟩ := lt_inv h
    refine y_istore_n (L1 := [(0, .ref 78), (1, .int z1), (2, .int v11), (3, .int y3)]) e12 d_M_clashBeats_47 rfl (Nat.le_of_ble_eq_true rfl) rfl rfl ?_
    obtain ⟨v13, e14, h⟩ := lt_inv h
    refine y_iinc (L1 := [(0, .ref 78), (1, .int z1), (2, .int v11), (3, .int v13)]) e14 ic_1 d_M_clashBeats_48 3 rfl (Nat.le_of_ble_eq_true rfl) rfl rfl ?_
    refine x_goto (tgt := 4) d_M_clashBeats_51 rfl ?_
    exact ih v11 v13 _ h
  refine x_iload_n d_M_clashBeats_4 rfl 3 rfl ?_
  refine x_aload_n d_M_clashBeats_5 rfl 0 rfl ?_
  refine y_getI d_M_clashBeats_6 fl_11_78 rfl kd_78 ?_
  refine x_icmp_ge (tgt := 54) d_M_clashBeats_9 rfl (fun c1 => ?_) (fun c1 => ?_)
  · replace h := ite_t c1 h
    refine x_iload_n d_M_clashBeats_54 rfl 2 rfl ?_
    obtain rfl := Option.some.inj h
    exact x_ret (r := some (.int w2)) d_M_clashBeats_55 ⟨_, rfl, rfl⟩
  · replace h := ite_f c1 h
    refine x_iload_n d_M_clashBeats_12 rfl 2 rfl ?_
    refine x_aload_n d_M_clashBeats_13 rfl 0 rfl ?_
    refine x_iload_n d_M_clashBeats_14 rfl 3 rfl ?_
    refine x_aload_n d_M_clashBeats_15 rfl 0 rfl ?_
    refine x_iconst d_M_clashBeats_16 ic_1 ?_
    obtain ⟨v3, q2, h⟩ := bd_inv h
    refine y_V1i (v := v3) (S1 := S) d_M_clashBeats_17 ml_11_454 kd_78 rfl (Nat.le_of_ble_eq_true rfl) (Nat.le_of_ble_eq_true rfl) (c_M_given (by omega) q2) ?_
    refine x_aload_n d_M_clashBeats_20 rfl 0 rfl ?_
    refine x_iconst d_M_clashBeats_21 ic_2 ?_
    obtain ⟨v5, q4, h⟩ := bd_inv h
    refine y_V1i (v := v5) (S1 := S) d_M_clashBeats_22 ml_11_454 kd_78 rfl (Nat.le_of_ble_eq_true rfl) (Nat.le_of_ble_eq_true rfl) (c_M_given (by omega) q4) ?_
    refine x_aload_n d_M_clashBeats_25 rfl 0 rfl ?_
    refine y_getI d_M_clashBeats_26 fl_11_84 rfl kd_78 ?_
    refine x_iload_n d_M_clashBeats_29 rfl 1 rfl ?_
    obtain ⟨v7, q6, h⟩ := bd_inv h
    refine y_V5i (v := v7) (S1 := S) d_M_clashBeats_30 ml_11_450 kd_78 rfl (Nat.le_of_ble_eq_true rfl) (Nat.le_of_ble_eq_true rfl) (c_M_clashBy (by omega) q6) ?_
    refine x_if_eq (tgt := 40) d_M_clashBeats_33 rfl (fun c8 => ?_) (fun c8 => ?_)
    · replace h := ite_t c8 h
      refine x_iconst d_M_clashBeats_40 ic_0 ?_
      refine y_pick (L1 := [(0, .ref 78), (1, .int z1), (3, .int w3)]) [0, 1, 3] rfl ?_
      exact J41 w3 w2 (0 : Int32) _ h
    · replace h := ite_f c8 h
      refine x_iconst d_M_clashBeats_36 ic_1 ?_
      refine x_goto (tgt := 41) d_M_clashBeats_37 rfl ?_
      refine y_pick (L1 := [(0, .ref 78), (1, .int z1), (3, .int w3)]) [0, 1, 3] rfl ?_
      exact J41 w3 w2 (1 : Int32) _ h
set_option maxRecDepth 100000 in
set_option maxHeartbeats 4000000 in
theorem c_M_clashBeats {X : Nat × (Nat → Int32)} {D F G : Nat} (hD : 3 ≤ D) {S : St} {p1 : Int32} {res : Int32} (h : fM_clashBeats F G S p1 = some res) : Ek X (D) mM_clashBeats 0 [(0, .ref 78), (1, .int p1)] [] S (some (.int res)) S := by
  obtain ⟨D, rfl⟩ : ∃ E, D = E + 1 := ⟨D - 1, by omega⟩
  unfold fM_clashBeats at h
  refine x_iconst d_M_clashBeats_0 ic_0 ?_
  refine x_istore_n (L1 := [(0, .ref 78), (1, .int p1), (2, .int (0 : Int32))]) d_M_clashBeats_1 rfl (Nat.le_of_ble_eq_true rfl) rfl rfl ?_
  refine x_iconst d_M_clashBeats_2 ic_0 ?_
  refine x_istore_n (L1 := [(0, .ref 78), (1, .int p1), (2, .int (0 : Int32)), (3, .int (0 : Int32))]) d_M_clashBeats_3 rfl (Nat.le_of_ble_eq_true rfl) rfl rfl ?_
  refine T_M_clashBeats_4 (by omega)   F (0 : Int32) (0 : Int32) _ h
/-! NinetyPlayersModel.clashes -/
def fM_clashes (F G : Nat) (S : St) : Option (Int32 × St) :=
  bd (fM_fill F G S ) fun S2 => bd (fM_clashBeats F G S2 (S2.1 78 49)) fun v4 => some (v4, S2)
set_option maxRecDepth 100000 in
set_option maxHeartbeats 4000000 in
theorem c_M_clashes {X : Nat × (Nat → Int32)} {D F G : Nat} (hD : 4 ≤ D) {S : St} {res : Int32 × St} (h : fM_clashes F G S  = some res) : Ek X (D) mM_clashes 0 [(0, .ref 78)] [] S (some (.int res.1)) res.2 := by
  obtain ⟨D, rfl⟩ : ∃ E, D = E + 1 := ⟨D - 1, by omega⟩
  unfold fM_clashes at h
  refine x_aload_n d_M_clashes_0 rfl 0 rfl ?_
  obtain ⟨S2, q1, h⟩ := bd_inv h
  refine y_V0v (S1 := S2) d_M_clashes_1 ml_11_464 kd_78 rfl (Nat.le_of_ble_eq_true rfl) (Nat.le_of_ble_eq_true rfl) (c_M_fill (by omega) q1) ?_
  refine x_aload_n d_M_clashes_4 rfl 0 rfl ?_
  refine x_aload_n d_M_clashes_5 rfl 0 rfl ?_
  refine y_getI d_M_clashes_6 fl_11_81 rfl kd_78 ?_
  obtain ⟨v4, q3, h⟩ := bd_inv h
  refine y_V1i (v := v4) (S1 := S2) d_M_clashes_9 ml_11_482 kd_78 rfl (Nat.le_of_ble_eq_true rfl) (Nat.le_of_ble_eq_true rfl) (c_M_clashBeats (by omega) q3) ?_
  obtain rfl := Option.some.inj h
  exact x_ret (r := some (.int v4)) d_M_clashes_12 ⟨_, rfl, rfl⟩
/-! NinetyPlayersModel.give -/
def fM_give (F G : Nat) (S : St) (p1 : Int32) (p2 : Int32) : Option (Int32 × St) :=
  bd (fM_isNote F G S p1) fun v2 => if v2 = 0 then some ((-1 : Int32), S) else bd (fM_isIn F G S p2 (0 : Int32) (2 : Int32)) fun v5 => if v5 = 0 then some ((-1 : Int32), S) else gd (inB p1 41) (if (S.1 100 p1.toNatClampNeg) = p2 then some ((-1 : Int32), S) else bd (fM_act F G S ) fun S10 => gd (inB p1 41) (lt (sI S10 100 p1.toNatClampNeg p2) fun S12 => bd2 (fM_clashes F G S12) fun v15 S16 => some (v15, S16)))
set_option maxRecDepth 100000 in
set_option maxHeartbeats 4000000 in
theorem c_M_give {X : Nat × (Nat → Int32)} {D F G : Nat} (hD : 5 ≤ D) {S : St} {p1 : Int32} {p2 : Int32} {res : Int32 × St} (h : fM_give F G S p1 p2 = some res) : Ek X (D) mM_give 0 [(0, .ref 78), (1, .int p1), (2, .int p2)] [] S (some (.int res.1)) res.2 := by
  obtain ⟨D, rfl⟩ : ∃ E, D = E + 1 := ⟨D - 1, by omega⟩
  unfold fM_give at h
  refine x_aload_n d_M_give_0 rfl 0 rfl ?_
  refine x_iload_n d_M_give_1 rfl 1 rfl ?_
  obtain ⟨v2, q1, h⟩ := bd_inv h
  refine y_V1i (v := v2) (S1 := S) d_M_give_2 ml_11_461 kd_78 rfl (Nat.le_of_ble_eq_true rfl) (Nat.le_of_ble_eq_true rfl) (c_M_isNote (by omega) q1) ?_
  refine x_if_eq (tgt := 27) d_M_give_5 rfl (fun c3 => ?_) (fun c3 => ?_)
  · replace h := ite_t c3 h
    refine x_iconst d_M_give_27 ic_m1 ?_
    obtain rfl := Option.some.inj h
    exact x_ret (r := some (.int (-1 : Int32))) d_M_give_28 ⟨_, rfl, rfl⟩
  · replace h := ite_f c3 h
    refine x_iload_n d_M_give_8 rfl 2 rfl ?_
    refine x_iconst d_M_give_9 ic_0 ?_
    refine x_iconst d_M_give_10 ic_2 ?_
    obtain ⟨v5, q4, h⟩ := bd_inv h
    refine y_S3i (v := v5) (S1 := S) d_M_give_11 ml_11_429 (Nat.le_of_ble_eq_true rfl) (Nat.le_of_ble_eq_true rfl) (c_M_isIn (by omega) q4) ?_
    refine x_if_eq (tgt := 27) d_M_give_14 rfl (fun c6 => ?_) (fun c6 => ?_)
    · replace h := ite_t c6 h
      refine x_iconst d_M_give_27 ic_m1 ?_
      obtain rfl := Option.some.inj h
      exact x_ret (r := some (.int (-1 : Int32))) d_M_give_28 ⟨_, rfl, rfl⟩
    · replace h := ite_f c6 h
      refine x_aload_n d_M_give_17 rfl 0 rfl ?_
      refine y_getR d_M_give_18 fl_11_93 rfl kd_78 rr_78_58 ?_
      refine x_iload_n d_M_give_21 rfl 1 rfl ?_
      obtain ⟨g7, h⟩ := gd_inv h
      refine y_iald d_M_give_22 kd_100 g7 ?_
      refine x_iload_n d_M_give_23 rfl 2 rfl ?_
      refine x_icmp_ne (tgt := 29) d_M_give_24 rfl (fun c8 => ?_) (fun c8 => ?_)
      · replace h := ite_f c8 h
        refine x_aload_n d_M_give_29 rfl 0 rfl ?_
        obtain ⟨S10, q9, h⟩ := bd_inv h
        refine y_V0v (S1 := S10) d_M_give_30 ml_11_485 kd_78 rfl (Nat.le_of_ble_eq_true rfl) (Nat.le_of_ble_eq_true rfl) (c_M_act (by omega) q9) ?_
        refine x_aload_n d_M_give_33 rfl 0 rfl ?_
        refine y_getR d_M_give_34 fl_11_93 rfl kd_78 rr_78_58 ?_
        refine x_iload_n d_M_give_37 rfl 1 rfl ?_
        refine x_iload_n d_M_give_38 rfl 2 rfl ?_
        obtain ⟨g11, h⟩ := gd_inv h
        obtain ⟨S12, e13, h⟩ := lt_inv h
        refine y_iast e13 d_M_give_39 kd_100 g11 ?_
        refine x_aload_n d_M_give_40 rfl 0 rfl ?_
        obtain ⟨v15, S16, q14, h⟩ := bd2_inv h
        refine y_V0i (v := v15) (S1 := S16) d_M_give_41 ml_11_488 kd_78 rfl (Nat.le_of_ble_eq_true rfl) (Nat.le_of_ble_eq_true rfl) (c_M_clashes (by omega) q14) ?_
        obtain rfl := Option.some.inj h
        exact x_ret (r := some (.int v15)) d_M_give_44 ⟨_, rfl, rfl⟩
      · replace h := ite_t c8 h
        refine x_iconst d_M_give_27 ic_m1 ?_
        obtain rfl := Option.some.inj h
        exact x_ret (r := some (.int (-1 : Int32))) d_M_give_28 ⟨_, rfl, rfl⟩
/-! NinetyPlayers.isKey -/
def fN_isKey (F G : Nat) (S : St) (p1 : Int32) : Option (Int32) :=
  if p1 < 0 then some (0 : Int32) else if (87 : Int32) < p1 then some (0 : Int32) else some (1 : Int32)
set_option maxRecDepth 100000 in
set_option maxHeartbeats 4000000 in
theorem c_N_isKey {X : Nat × (Nat → Int32)} {D F G : Nat} (hD : 0 ≤ D) {S : St} {p1 : Int32} {res : Int32} (h : fN_isKey F G S p1 = some res) : Ek X (D) mN_isKey 0 [(0, .int p1)] [] S (some (.int res)) S := by
  unfold fN_isKey at h
  refine x_iload_n d_N_isKey_0 rfl 0 rfl ?_
  refine x_if_lt (tgt := 14) d_N_isKey_1 rfl (fun c1 => ?_) (fun c1 => ?_)
  · replace h := ite_t c1 h
    refine x_iconst d_N_isKey_14 ic_0 ?_
    obtain rfl := Option.some.inj h
    exact x_ret (r := some (.int (0 : Int32))) d_N_isKey_15 ⟨_, rfl, rfl⟩
  · replace h := ite_f c1 h
    refine x_iload_n d_N_isKey_4 rfl 0 rfl ?_
    refine x_bipush d_N_isKey_5 bp_87 ?_
    refine x_icmp_gt (tgt := 14) d_N_isKey_7 rfl (fun c2 => ?_) (fun c2 => ?_)
    · replace h := ite_t c2 h
      refine x_iconst d_N_isKey_14 ic_0 ?_
      obtain rfl := Option.some.inj h
      exact x_ret (r := some (.int (0 : Int32))) d_N_isKey_15 ⟨_, rfl, rfl⟩
    · replace h := ite_f c2 h
      refine x_iconst d_N_isKey_10 ic_1 ?_
      refine x_goto (tgt := 15) d_N_isKey_11 rfl ?_
      obtain rfl := Option.some.inj h
      exact x_ret (r := some (.int (1 : Int32))) d_N_isKey_15 ⟨_, rfl, rfl⟩
/-! NinetyPlayers.shift -/
def fN_shift (F G : Nat) (S : St) (p1 : Int32) (p2 : Int32) : Option (Int32 × St) :=
  bd (fN_isNote F G S p1) fun v2 => if v2 = 0 then some ((-1 : Int32), S) else if p2 < (-7 : Int32) then some ((-1 : Int32), S) else if (7 : Int32) < p2 then some ((-1 : Int32), S) else if p2 = 0 then some ((-1 : Int32), S) else gd (inB p1 10) (lt ((S.1 32 p1.toNatClampNeg) + (p2 * (12 : Int32))) fun v8 => bd (fN_isKey F G S v8) fun v11 => if v11 = 0 then some ((-1 : Int32), S) else bd (fC_act F G S 30 (1 : Int32) p1 v8) fun S14 => some (v8, S14))
set_option maxRecDepth 100000 in
set_option maxHeartbeats 4000000 in
theorem c_N_shift {X : Nat × (Nat → Int32)} {D F G : Nat} (hD : 3 ≤ D) {S : St} {p1 : Int32} {p2 : Int32} {res : Int32 × St} (h : fN_shift F G S p1 p2 = some res) : Ek X (D) mN_shift 0 [(0, .ref 0), (1, .int p1), (2, .int p2)] [] S (some (.int res.1)) res.2 := by
  obtain ⟨D, rfl⟩ : ∃ E, D = E + 1 := ⟨D - 1, by omega⟩
  unfold fN_shift at h
  refine x_aload_n d_N_shift_0 rfl 0 rfl ?_
  refine x_iload_n d_N_shift_1 rfl 1 rfl ?_
  obtain ⟨v2, q1, h⟩ := bd_inv h
  refine y_V1i (v := v2) (S1 := S) d_N_shift_2 ml_0_126 kd_0 rfl (Nat.le_of_ble_eq_true rfl) (Nat.le_of_ble_eq_true rfl) (c_N_isNote (by omega) q1) ?_
  refine x_if_eq (tgt := 24) d_N_shift_5 rfl (fun c3 => ?_) (fun c3 => ?_)
  · replace h := ite_t c3 h
    refine x_iconst d_N_shift_24 ic_m1 ?_
    obtain rfl := Option.some.inj h
    exact x_ret (r := some (.int (-1 : Int32))) d_N_shift_25 ⟨_, rfl, rfl⟩
  · replace h := ite_f c3 h
    refine x_iload_n d_N_shift_8 rfl 2 rfl ?_
    refine x_bipush d_N_shift_9 bp_m7 ?_
    refine x_icmp_lt (tgt := 24) d_N_shift_11 rfl (fun c4 => ?_) (fun c4 => ?_)
    · replace h := ite_t c4 h
      refine x_iconst d_N_shift_24 ic_m1 ?_
      obtain rfl := Option.some.inj h
      exact x_ret (r := some (.int (-1 : Int32))) d_N_shift_25 ⟨_, rfl, rfl⟩
    · replace h := ite_f c4 h
      refine x_iload_n d_N_shift_14 rfl 2 rfl ?_
      refine x_bipush d_N_shift_15 bp_7 ?_
      refine x_icmp_gt (tgt := 24) d_N_shift_17 rfl (fun c5 => ?_) (fun c5 => ?_)
      · replace h := ite_t c5 h
        refine x_iconst d_N_shift_24 ic_m1 ?_
        obtain rfl := Option.some.inj h
        exact x_ret (r := some (.int (-1 : Int32))) d_N_shift_25 ⟨_, rfl, rfl⟩
      · replace h := ite_f c5 h
        refine x_iload_n d_N_shift_20 rfl 2 rfl ?_
        refine x_if_ne (tgt := 26) d_N_shift_21 rfl (fun c6 => ?_) (fun c6 => ?_)
        · replace h := ite_f c6 h
          refine x_aload_n d_N_shift_26 rfl 0 rfl ?_
          refine y_getR d_N_shift_27 fl_0_32 rfl kd_0 rr_0_4 ?_
          refine y_getR d_N_shift_30 fl_0_135 rfl kd_30 rr_30_3 ?_
          refine x_iload_n d_N_shift_33 rfl 1 rfl ?_
          obtain ⟨g7, h⟩ := gd_inv h
          refine y_iald d_N_shift_34 kd_32 g7 ?_
          refine x_iload_n d_N_shift_35 rfl 2 rfl ?_
          refine x_bipush d_N_shift_36 bp_12 ?_
          refine x_imul d_N_shift_38 ?_
          refine x_iadd d_N_shift_39 ?_
          obtain ⟨v8, e9, h⟩ := lt_inv h
          refine y_istore_n (L1 := [(0, .ref 0), (1, .int p1), (2, .int p2), (3, .int v8)]) e9 d_N_shift_40 rfl (Nat.le_of_ble_eq_true rfl) rfl rfl ?_
          refine x_iload_n d_N_shift_41 rfl 3 rfl ?_
          obtain ⟨v11, q10, h⟩ := bd_inv h
          refine y_S1i (v := v11) (S1 := S) d_N_shift_42 ml_0_240 (Nat.le_of_ble_eq_true rfl) (Nat.le_of_ble_eq_true rfl) (c_N_isKey (by omega) q10) ?_
          refine x_if_ne (tgt := 50) d_N_shift_45 rfl (fun c12 => ?_) (fun c12 => ?_)
          · replace h := ite_f c12 h
            refine x_aload_n d_N_shift_50 rfl 0 rfl ?_
            refine y_getR d_N_shift_51 fl_0_43 rfl kd_0 rr_0_6 ?_
            refine x_aload_n d_N_shift_54 rfl 0 rfl ?_
            refine y_getR d_N_shift_55 fl_0_32 rfl kd_0 rr_0_4 ?_
            refine x_iconst d_N_shift_58 ic_1 ?_
            refine x_iload_n d_N_shift_59 rfl 1 rfl ?_
            refine x_iload_n d_N_shift_60 rfl 3 rfl ?_
            obtain ⟨S14, q13, h⟩ := bd_inv h
            refine y_V4v (S1 := S14) d_N_shift_61 ml_0_233 kd_51 rfl (Nat.le_of_ble_eq_true rfl) (Nat.le_of_ble_eq_true rfl) (c_C_act (by omega) q13) ?_
            refine x_iload_n d_N_shift_64 rfl 3 rfl ?_
            obtain rfl := Option.some.inj h
            exact x_ret (r := some (.int v8)) d_N_shift_65 ⟨_, rfl, rfl⟩
          · replace h := ite_t c12 h
            refine x_iconst d_N_shift_48 ic_m1 ?_
            obtain rfl := Option.some.inj h
            exact x_ret (r := some (.int (-1 : Int32))) d_N_shift_49 ⟨_, rfl, rfl⟩
        · replace h := ite_t c6 h
          refine x_iconst d_N_shift_24 ic_m1 ?_
          obtain rfl := Option.some.inj h
          exact x_ret (r := some (.int (-1 : Int32))) d_N_shift_25 ⟨_, rfl, rfl⟩
/-! NinetyPlayersModel.shift -/
def fM_shift (F G : Nat) (S : St) (p1 : Int32) (p2 : Int32) : Option (Int32 × St) :=
  bd (fM_isNote F G S p1) fun v2 => if v2 = 0 then some ((-1 : Int32), S) else if p2 = 0 then some ((-1 : Int32), S) else bd (fM_isIn F G S p2 (-7 : Int32) (7 : Int32)) fun v6 => if v6 = 0 then some ((-1 : Int32), S) else gd (inB ((10 : Int32) + p1) 41) (bd (fM_isIn F G S ((S.1 100 ((10 : Int32) + p1).toNatClampNeg) + ((12 : Int32) * p2)) (0 : Int32) (87 : Int32)) fun v10 => if v10 = 0 then some ((-1 : Int32), S) else bd (fM_act F G S ) fun S13 => gd (inB ((10 : Int32) + p1) 41) (gd (inB ((10 : Int32) + p1) 41) (lt (sI S13 100 ((10 : Int32) + p1).toNatClampNeg ((S13.1 100 ((10 : Int32) + p1).toNatClampNeg) + ((12 : Int32) * p2))) fun S16 => gd (inB ((10 : Int32) + p1) 41) (some (S16.1 100 ((10 : Int32) + p1).toNatClampNeg, S16)))))
set_option maxRecDepth 100000 in
set_option maxHeartbeats 4000000 in
theorem c_M_shift {X : Nat × (Nat → Int32)} {D F G : Nat} (hD : 2 ≤ D) {S : St} {p1 : Int32} {p2 : Int32} {res : Int32 × St} (h : fM_shift F G S p1 p2 = some res) : Ek X (D) mM_shift 0 [(0, .ref 78), (1, .int p1), (2, .int p2)] [] S (some (.int res.1)) res.2 := by
  obtain ⟨D, rfl⟩ : ∃ E, D = E + 1 := ⟨D - 1, by omega⟩
  unfold fM_shift at h
  refine x_aload_n d_M_shift_0 rfl 0 rfl ?_
  refine x_iload_n d_M_shift_1 rfl 1 rfl ?_
  obtain ⟨v2, q1, h⟩ := bd_inv h
  refine y_V1i (v := v2) (S1 := S) d_M_shift_2 ml_11_461 kd_78 rfl (Nat.le_of_ble_eq_true rfl) (Nat.le_of_ble_eq_true rfl) (c_M_isNote (by omega) q1) ?_
  refine x_if_eq (tgt := 46) d_M_shift_5 rfl (fun c3 => ?_) (fun c3 => ?_)
  · replace h := ite_t c3 h
    refine x_iconst d_M_shift_46 ic_m1 ?_
    obtain rfl := Option.some.inj h
    exact x_ret (r := some (.int (-1 : Int32))) d_M_shift_47 ⟨_, rfl, rfl⟩
  · replace h := ite_f c3 h
    refine x_iload_n d_M_shift_8 rfl 2 rfl ?_
    refine x_if_eq (tgt := 46) d_M_shift_9 rfl (fun c4 => ?_) (fun c4 => ?_)
    · replace h := ite_t c4 h
      refine x_iconst d_M_shift_46 ic_m1 ?_
      obtain rfl := Option.some.inj h
      exact x_ret (r := some (.int (-1 : Int32))) d_M_shift_47 ⟨_, rfl, rfl⟩
    · replace h := ite_f c4 h
      refine x_iload_n d_M_shift_12 rfl 2 rfl ?_
      refine x_bipush d_M_shift_13 bp_m7 ?_
      refine x_bipush d_M_shift_15 bp_7 ?_
      obtain ⟨v6, q5, h⟩ := bd_inv h
      refine y_S3i (v := v6) (S1 := S) d_M_shift_17 ml_11_429 (Nat.le_of_ble_eq_true rfl) (Nat.le_of_ble_eq_true rfl) (c_M_isIn (by omega) q5) ?_
      refine x_if_eq (tgt := 46) d_M_shift_20 rfl (fun c7 => ?_) (fun c7 => ?_)
      · replace h := ite_t c7 h
        refine x_iconst d_M_shift_46 ic_m1 ?_
        obtain rfl := Option.some.inj h
        exact x_ret (r := some (.int (-1 : Int32))) d_M_shift_47 ⟨_, rfl, rfl⟩
      · replace h := ite_f c7 h
        refine x_aload_n d_M_shift_23 rfl 0 rfl ?_
        refine y_getR d_M_shift_24 fl_11_93 rfl kd_78 rr_78_58 ?_
        refine x_bipush d_M_shift_27 bp_10 ?_
        refine x_iload_n d_M_shift_29 rfl 1 rfl ?_
        refine x_iadd d_M_shift_30 ?_
        obtain ⟨g8, h⟩ := gd_inv h
        refine y_iald d_M_shift_31 kd_100 g8 ?_
        refine x_bipush d_M_shift_32 bp_12 ?_
        refine x_iload_n d_M_shift_34 rfl 2 rfl ?_
        refine x_imul d_M_shift_35 ?_
        refine x_iadd d_M_shift_36 ?_
        refine x_iconst d_M_shift_37 ic_0 ?_
        refine x_bipush d_M_shift_38 bp_87 ?_
        obtain ⟨v10, q9, h⟩ := bd_inv h
        refine y_S3i (v := v10) (S1 := S) d_M_shift_40 ml_11_429 (Nat.le_of_ble_eq_true rfl) (Nat.le_of_ble_eq_true rfl) (c_M_isIn (by omega) q9) ?_
        refine x_if_ne (tgt := 48) d_M_shift_43 rfl (fun c11 => ?_) (fun c11 => ?_)
        · replace h := ite_f c11 h
          refine x_aload_n d_M_shift_48 rfl 0 rfl ?_
          obtain ⟨S13, q12, h⟩ := bd_inv h
          refine y_V0v (S1 := S13) d_M_shift_49 ml_11_485 kd_78 rfl (Nat.le_of_ble_eq_true rfl) (Nat.le_of_ble_eq_true rfl) (c_M_act (by omega) q12) ?_
          refine x_aload_n d_M_shift_52 rfl 0 rfl ?_
          refine y_getR d_M_shift_53 fl_11_93 rfl kd_78 rr_78_58 ?_
          refine x_bipush d_M_shift_56 bp_10 ?_
          refine x_iload_n d_M_shift_58 rfl 1 rfl ?_
          refine x_iadd d_M_shift_59 ?_
          refine x_dup2 d_M_shift_60 rfl rfl ?_
          obtain ⟨g14, h⟩ := gd_inv h
          refine y_iald d_M_shift_61 kd_100 g14 ?_
          refine x_bipush d_M_shift_62 bp_12 ?_
          refine x_iload_n d_M_shift_64 rfl 2 rfl ?_
          refine x_imul d_M_shift_65 ?_
          refine x_iadd d_M_shift_66 ?_
          obtain ⟨g15, h⟩ := gd_inv h
          obtain ⟨S16, e17, h⟩ := lt_inv h
          refine y_iast e17 d_M_shift_67 kd_100 g15 ?_
          refine x_aload_n d_M_shift_68 rfl 0 rfl ?_
          refine y_getR d_M_shift_69 fl_11_93 rfl kd_78 rr_78_58 ?_
          refine x_bipush d_M_shift_72 bp_10 ?_
          refine x_iload_n d_M_shift_74 rfl 1 rfl ?_
          refine x_iadd d_M_shift_75 ?_
          obtain ⟨g18, h⟩ := gd_inv h
          refine y_iald d_M_shift_76 kd_100 g18 ?_
          obtain rfl := Option.some.inj h
          exact x_ret (r := some (.int (S16.1 100 ((10 : Int32) + p1).toNatClampNeg))) d_M_shift_77 ⟨_, rfl, rfl⟩
        · replace h := ite_t c11 h
          refine x_iconst d_M_shift_46 ic_m1 ?_
          obtain rfl := Option.some.inj h
          exact x_ret (r := some (.int (-1 : Int32))) d_M_shift_47 ⟨_, rfl, rfl⟩
/-! NinetyPlayers.louder -/
def fN_louder (F G : Nat) (S : St) (p1 : Int32) (p2 : Int32) : Option (Int32 × St) :=
  bd (fN_isNote F G S p1) fun v2 => if v2 = 0 then some ((-1 : Int32), S) else if p2 < (1 : Int32) then some ((-1 : Int32), S) else if (9 : Int32) < p2 then some ((-1 : Int32), S) else gd (inB p1 10) (if (S.1 34 p1.toNatClampNeg) = p2 then some ((-1 : Int32), S) else gd (inB p1 10) (lt (S.1 34 p1.toNatClampNeg) fun v9 => bd (fC_act F G S 30 (3 : Int32) p1 p2) fun S12 => some (v9, S12)))
set_option maxRecDepth 100000 in
set_option maxHeartbeats 4000000 in
theorem c_N_louder {X : Nat × (Nat → Int32)} {D F G : Nat} (hD : 3 ≤ D) {S : St} {p1 : Int32} {p2 : Int32} {res : Int32 × St} (h : fN_louder F G S p1 p2 = some res) : Ek X (D) mN_louder 0 [(0, .ref 0), (1, .int p1), (2, .int p2)] [] S (some (.int res.1)) res.2 := by
  obtain ⟨D, rfl⟩ : ∃ E, D = E + 1 := ⟨D - 1, by omega⟩
  unfold fN_louder at h
  refine x_aload_n d_N_louder_0 rfl 0 rfl ?_
  refine x_iload_n d_N_louder_1 rfl 1 rfl ?_
  obtain ⟨v2, q1, h⟩ := bd_inv h
  refine y_V1i (v := v2) (S1 := S) d_N_louder_2 ml_0_126 kd_0 rfl (Nat.le_of_ble_eq_true rfl) (Nat.le_of_ble_eq_true rfl) (c_N_isNote (by omega) q1) ?_
  refine x_if_eq (tgt := 32) d_N_louder_5 rfl (fun c3 => ?_) (fun c3 => ?_)
  · replace h := ite_t c3 h
    refine x_iconst d_N_louder_32 ic_m1 ?_
    obtain rfl := Option.some.inj h
    exact x_ret (r := some (.int (-1 : Int32))) d_N_louder_33 ⟨_, rfl, rfl⟩
  · replace h := ite_f c3 h
    refine x_iload_n d_N_louder_8 rfl 2 rfl ?_
    refine x_iconst d_N_louder_9 ic_1 ?_
    refine x_icmp_lt (tgt := 32) d_N_louder_10 rfl (fun c4 => ?_) (fun c4 => ?_)
    · replace h := ite_t c4 h
      refine x_iconst d_N_louder_32 ic_m1 ?_
      obtain rfl := Option.some.inj h
      exact x_ret (r := some (.int (-1 : Int32))) d_N_louder_33 ⟨_, rfl, rfl⟩
    · replace h := ite_f c4 h
      refine x_iload_n d_N_louder_13 rfl 2 rfl ?_
      refine x_bipush d_N_louder_14 bp_9 ?_
      refine x_icmp_gt (tgt := 32) d_N_louder_16 rfl (fun c5 => ?_) (fun c5 => ?_)
      · replace h := ite_t c5 h
        refine x_iconst d_N_louder_32 ic_m1 ?_
        obtain rfl := Option.some.inj h
        exact x_ret (r := some (.int (-1 : Int32))) d_N_louder_33 ⟨_, rfl, rfl⟩
      · replace h := ite_f c5 h
        refine x_aload_n d_N_louder_19 rfl 0 rfl ?_
        refine y_getR d_N_louder_20 fl_0_32 rfl kd_0 rr_0_4 ?_
        refine y_getR d_N_louder_23 fl_0_141 rfl kd_30 rr_30_5 ?_
        refine x_iload_n d_N_louder_26 rfl 1 rfl ?_
        obtain ⟨g6, h⟩ := gd_inv h
        refine y_iald d_N_louder_27 kd_34 g6 ?_
        refine x_iload_n d_N_louder_28 rfl 2 rfl ?_
        refine x_icmp_ne (tgt := 34) d_N_louder_29 rfl (fun c7 => ?_) (fun c7 => ?_)
        · replace h := ite_f c7 h
          refine x_aload_n d_N_louder_34 rfl 0 rfl ?_
          refine y_getR d_N_louder_35 fl_0_32 rfl kd_0 rr_0_4 ?_
          refine y_getR d_N_louder_38 fl_0_141 rfl kd_30 rr_30_5 ?_
          refine x_iload_n d_N_louder_41 rfl 1 rfl ?_
          obtain ⟨g8, h⟩ := gd_inv h
          refine y_iald d_N_louder_42 kd_34 g8 ?_
          obtain ⟨v9, e10, h⟩ := lt_inv h
          refine y_istore_n (L1 := [(0, .ref 0), (1, .int p1), (2, .int p2), (3, .int v9)]) e10 d_N_louder_43 rfl (Nat.le_of_ble_eq_true rfl) rfl rfl ?_
          refine x_aload_n d_N_louder_44 rfl 0 rfl ?_
          refine y_getR d_N_louder_45 fl_0_43 rfl kd_0 rr_0_6 ?_
          refine x_aload_n d_N_louder_48 rfl 0 rfl ?_
          refine y_getR d_N_louder_49 fl_0_32 rfl kd_0 rr_0_4 ?_
          refine x_iconst d_N_louder_52 ic_3 ?_
          refine x_iload_n d_N_louder_53 rfl 1 rfl ?_
          refine x_iload_n d_N_louder_54 rfl 2 rfl ?_
          obtain ⟨S12, q11, h⟩ := bd_inv h
          refine y_V4v (S1 := S12) d_N_louder_55 ml_0_233 kd_51 rfl (Nat.le_of_ble_eq_true rfl) (Nat.le_of_ble_eq_true rfl) (c_C_act (by omega) q11) ?_
          refine x_iload_n d_N_louder_58 rfl 3 rfl ?_
          obtain rfl := Option.some.inj h
          exact x_ret (r := some (.int v9)) d_N_louder_59 ⟨_, rfl, rfl⟩
        · replace h := ite_t c7 h
          refine x_iconst d_N_louder_32 ic_m1 ?_
          obtain rfl := Option.some.inj h
          exact x_ret (r := some (.int (-1 : Int32))) d_N_louder_33 ⟨_, rfl, rfl⟩
/-! NinetyPlayersModel.change -/
def fM_change (F G : Nat) (S : St) (p1 : Int32) (p2 : Int32) : Option (Int32 × St) :=
  bd (fM_act F G S ) fun S2 => gd (inB p1 41) (lt (S2.1 100 p1.toNatClampNeg) fun v4 => gd (inB p1 41) (lt (sI S2 100 p1.toNatClampNeg p2) fun S7 => some (v4, S7)))
set_option maxRecDepth 100000 in
set_option maxHeartbeats 4000000 in
theorem c_M_change {X : Nat × (Nat → Int32)} {D F G : Nat} (hD : 1 ≤ D) {S : St} {p1 : Int32} {p2 : Int32} {res : Int32 × St} (h : fM_change F G S p1 p2 = some res) : Ek X (D) mM_change 0 [(0, .ref 78), (1, .int p1), (2, .int p2)] [] S (some (.int res.1)) res.2 := by
  obtain ⟨D, rfl⟩ : ∃ E, D = E + 1 := ⟨D - 1, by omega⟩
  unfold fM_change at h
  refine x_aload_n d_M_change_0 rfl 0 rfl ?_
  obtain ⟨S2, q1, h⟩ := bd_inv h
  refine y_V0v (S1 := S2) d_M_change_1 ml_11_485 kd_78 rfl (Nat.le_of_ble_eq_true rfl) (Nat.le_of_ble_eq_true rfl) (c_M_act (by omega) q1) ?_
  refine x_aload_n d_M_change_4 rfl 0 rfl ?_
  refine y_getR d_M_change_5 fl_11_93 rfl kd_78 rr_78_58 ?_
  refine x_iload_n d_M_change_8 rfl 1 rfl ?_
  obtain ⟨g3, h⟩ := gd_inv h
  refine y_iald d_M_change_9 kd_100 g3 ?_
  obtain ⟨v4, e5, h⟩ := lt_inv h
  refine y_istore_n (L1 := [(0, .ref 78), (1, .int p1), (2, .int p2), (3, .int v4)]) e5 d_M_change_10 rfl (Nat.le_of_ble_eq_true rfl) rfl rfl ?_
  refine x_aload_n d_M_change_11 rfl 0 rfl ?_
  refine y_getR d_M_change_12 fl_11_93 rfl kd_78 rr_78_58 ?_
  refine x_iload_n d_M_change_15 rfl 1 rfl ?_
  refine x_iload_n d_M_change_16 rfl 2 rfl ?_
  obtain ⟨g6, h⟩ := gd_inv h
  obtain ⟨S7, e8, h⟩ := lt_inv h
  refine y_iast e8 d_M_change_17 kd_100 g6 ?_
  refine x_iload_n d_M_change_18 rfl 3 rfl ?_
  obtain rfl := Option.some.inj h
  exact x_ret (r := some (.int v4)) d_M_change_19 ⟨_, rfl, rfl⟩
/-! NinetyPlayersModel.louder -/
def fM_louder (F G : Nat) (S : St) (p1 : Int32) (p2 : Int32) : Option (Int32 × St) :=
  bd (fM_isNote F G S p1) fun v2 => if v2 = 0 then some ((-1 : Int32), S) else bd (fM_isIn F G S p2 (1 : Int32) (9 : Int32)) fun v5 => if v5 = 0 then some ((-1 : Int32), S) else gd (inB ((30 : Int32) + p1) 41) (if (S.1 100 ((30 : Int32) + p1).toNatClampNeg) = p2 then some ((-1 : Int32), S) else bd2 (fM_change F G S ((30 : Int32) + p1) p2) fun v10 S11 => some (v10, S11))
set_option maxRecDepth 100000 in
set_option maxHeartbeats 4000000 in
theorem c_M_louder {X : Nat × (Nat → Int32)} {D F G : Nat} (hD : 2 ≤ D) {S : St} {p1 : Int32} {p2 : Int32} {res : Int32 × St} (h : fM_louder F G S p1 p2 = some res) : Ek X (D) mM_louder 0 [(0, .ref 78), (1, .int p1), (2, .int p2)] [] S (some (.int res.1)) res.2 := by
  obtain ⟨D, rfl⟩ : ∃ E, D = E + 1 := ⟨D - 1, by omega⟩
  unfold fM_louder at h
  refine x_aload_n d_M_louder_0 rfl 0 rfl ?_
  refine x_iload_n d_M_louder_1 rfl 1 rfl ?_
  obtain ⟨v2, q1, h⟩ := bd_inv h
  refine y_V1i (v := v2) (S1 := S) d_M_louder_2 ml_11_461 kd_78 rfl (Nat.le_of_ble_eq_true rfl) (Nat.le_of_ble_eq_true rfl) (c_M_isNote (by omega) q1) ?_
  refine x_if_eq (tgt := 43) d_M_louder_5 rfl (fun c3 => ?_) (fun c3 => ?_)
  · replace h := ite_t c3 h
    refine x_iconst d_M_louder_43 ic_m1 ?_
    obtain rfl := Option.some.inj h
    exact x_ret (r := some (.int (-1 : Int32))) d_M_louder_44 ⟨_, rfl, rfl⟩
  · replace h := ite_f c3 h
    refine x_iload_n d_M_louder_8 rfl 2 rfl ?_
    refine x_iconst d_M_louder_9 ic_1 ?_
    refine x_bipush d_M_louder_10 bp_9 ?_
    obtain ⟨v5, q4, h⟩ := bd_inv h
    refine y_S3i (v := v5) (S1 := S) d_M_louder_12 ml_11_429 (Nat.le_of_ble_eq_true rfl) (Nat.le_of_ble_eq_true rfl) (c_M_isIn (by omega) q4) ?_
    refine x_if_eq (tgt := 43) d_M_louder_15 rfl (fun c6 => ?_) (fun c6 => ?_)
    · replace h := ite_t c6 h
      refine x_iconst d_M_louder_43 ic_m1 ?_
      obtain rfl := Option.some.inj h
      exact x_ret (r := some (.int (-1 : Int32))) d_M_louder_44 ⟨_, rfl, rfl⟩
    · replace h := ite_f c6 h
      refine x_aload_n d_M_louder_18 rfl 0 rfl ?_
      refine y_getR d_M_louder_19 fl_11_93 rfl kd_78 rr_78_58 ?_
      refine x_bipush d_M_louder_22 bp_30 ?_
      refine x_iload_n d_M_louder_24 rfl 1 rfl ?_
      refine x_iadd d_M_louder_25 ?_
      obtain ⟨g7, h⟩ := gd_inv h
      refine y_iald d_M_louder_26 kd_100 g7 ?_
      refine x_iload_n d_M_louder_27 rfl 2 rfl ?_
      refine x_icmp_eq (tgt := 43) d_M_louder_28 rfl (fun c8 => ?_) (fun c8 => ?_)
      · replace h := ite_t c8 h
        refine x_iconst d_M_louder_43 ic_m1 ?_
        obtain rfl := Option.some.inj h
        exact x_ret (r := some (.int (-1 : Int32))) d_M_louder_44 ⟨_, rfl, rfl⟩
      · replace h := ite_f c8 h
        refine x_aload_n d_M_louder_31 rfl 0 rfl ?_
        refine x_bipush d_M_louder_32 bp_30 ?_
        refine x_iload_n d_M_louder_34 rfl 1 rfl ?_
        refine x_iadd d_M_louder_35 ?_
        refine x_iload_n d_M_louder_36 rfl 2 rfl ?_
        obtain ⟨v10, S11, q9, h⟩ := bd2_inv h
        refine y_V2i (v := v10) (S1 := S11) d_M_louder_37 ml_11_491 kd_78 rfl (Nat.le_of_ble_eq_true rfl) (Nat.le_of_ble_eq_true rfl) (c_M_change (by omega) q9) ?_
        refine x_goto (tgt := 44) d_M_louder_40 rfl ?_
        obtain rfl := Option.some.inj h
        exact x_ret (r := some (.int v10)) d_M_louder_44 ⟨_, rfl, rfl⟩
/-! NinetyPlayers.last -/
def fN_last (F G : Nat) (S : St) (p1 : Int32) (p2 : Int32) : Option (Int32 × St) :=
  bd (fN_isNote F G S p1) fun v2 => if v2 = 0 then some ((-1 : Int32), S) else if p2 < (1 : Int32) then some ((-1 : Int32), S) else if (12 : Int32) < p2 then some ((-1 : Int32), S) else gd (inB p1 10) (if (S.1 33 p1.toNatClampNeg) = p2 then some ((-1 : Int32), S) else gd (inB p1 10) (lt (S.1 33 p1.toNatClampNeg) fun v9 => bd (fC_act F G S 30 (2 : Int32) p1 p2) fun S12 => some (v9, S12)))
set_option maxRecDepth 100000 in
set_option maxHeartbeats 4000000 in
theorem c_N_last {X : Nat × (Nat → Int32)} {D F G : Nat} (hD : 3 ≤ D) {S : St} {p1 : Int32} {p2 : Int32} {res : Int32 × St} (h : fN_last F G S p1 p2 = some res) : Ek X (D) mN_last 0 [(0, .ref 0), (1, .int p1), (2, .int p2)] [] S (some (.int res.1)) res.2 := by
  obtain ⟨D, rfl⟩ : ∃ E, D = E + 1 := ⟨D - 1, by omega⟩
  unfold fN_last at h
  refine x_aload_n d_N_last_0 rfl 0 rfl ?_
  refine x_iload_n d_N_last_1 rfl 1 rfl ?_
  obtain ⟨v2, q1, h⟩ := bd_inv h
  refine y_V1i (v := v2) (S1 := S) d_N_last_2 ml_0_126 kd_0 rfl (Nat.le_of_ble_eq_true rfl) (Nat.le_of_ble_eq_true rfl) (c_N_isNote (by omega) q1) ?_
  refine x_if_eq (tgt := 32) d_N_last_5 rfl (fun c3 => ?_) (fun c3 => ?_)
  · replace h := ite_t c3 h
    refine x_iconst d_N_last_32 ic_m1 ?_
    obtain rfl := Option.some.inj h
    exact x_ret (r := some (.int (-1 : Int32))) d_N_last_33 ⟨_, rfl, rfl⟩
  · replace h := ite_f c3 h
    refine x_iload_n d_N_last_8 rfl 2 rfl ?_
    refine x_iconst d_N_last_9 ic_1 ?_
    refine x_icmp_lt (tgt := 32) d_N_last_10 rfl (fun c4 => ?_) (fun c4 => ?_)
    · replace h := ite_t c4 h
      refine x_iconst d_N_last_32 ic_m1 ?_
      obtain rfl := Option.some.inj h
      exact x_ret (r := some (.int (-1 : Int32))) d_N_last_33 ⟨_, rfl, rfl⟩
    · replace h := ite_f c4 h
      refine x_iload_n d_N_last_13 rfl 2 rfl ?_
      refine x_bipush d_N_last_14 bp_12 ?_
      refine x_icmp_gt (tgt := 32) d_N_last_16 rfl (fun c5 => ?_) (fun c5 => ?_)
      · replace h := ite_t c5 h
        refine x_iconst d_N_last_32 ic_m1 ?_
        obtain rfl := Option.some.inj h
        exact x_ret (r := some (.int (-1 : Int32))) d_N_last_33 ⟨_, rfl, rfl⟩
      · replace h := ite_f c5 h
        refine x_aload_n d_N_last_19 rfl 0 rfl ?_
        refine y_getR d_N_last_20 fl_0_32 rfl kd_0 rr_0_4 ?_
        refine y_getR d_N_last_23 fl_0_138 rfl kd_30 rr_30_4 ?_
        refine x_iload_n d_N_last_26 rfl 1 rfl ?_
        obtain ⟨g6, h⟩ := gd_inv h
        refine y_iald d_N_last_27 kd_33 g6 ?_
        refine x_iload_n d_N_last_28 rfl 2 rfl ?_
        refine x_icmp_ne (tgt := 34) d_N_last_29 rfl (fun c7 => ?_) (fun c7 => ?_)
        · replace h := ite_f c7 h
          refine x_aload_n d_N_last_34 rfl 0 rfl ?_
          refine y_getR d_N_last_35 fl_0_32 rfl kd_0 rr_0_4 ?_
          refine y_getR d_N_last_38 fl_0_138 rfl kd_30 rr_30_4 ?_
          refine x_iload_n d_N_last_41 rfl 1 rfl ?_
          obtain ⟨g8, h⟩ := gd_inv h
          refine y_iald d_N_last_42 kd_33 g8 ?_
          obtain ⟨v9, e10, h⟩ := lt_inv h
          refine y_istore_n (L1 := [(0, .ref 0), (1, .int p1), (2, .int p2), (3, .int v9)]) e10 d_N_last_43 rfl (Nat.le_of_ble_eq_true rfl) rfl rfl ?_
          refine x_aload_n d_N_last_44 rfl 0 rfl ?_
          refine y_getR d_N_last_45 fl_0_43 rfl kd_0 rr_0_6 ?_
          refine x_aload_n d_N_last_48 rfl 0 rfl ?_
          refine y_getR d_N_last_49 fl_0_32 rfl kd_0 rr_0_4 ?_
          refine x_iconst d_N_last_52 ic_2 ?_
          refine x_iload_n d_N_last_53 rfl 1 rfl ?_
          refine x_iload_n d_N_last_54 rfl 2 rfl ?_
          obtain ⟨S12, q11, h⟩ := bd_inv h
          refine y_V4v (S1 := S12) d_N_last_55 ml_0_233 kd_51 rfl (Nat.le_of_ble_eq_true rfl) (Nat.le_of_ble_eq_true rfl) (c_C_act (by omega) q11) ?_
          refine x_iload_n d_N_last_58 rfl 3 rfl ?_
          obtain rfl := Option.some.inj h
          exact x_ret (r := some (.int v9)) d_N_last_59 ⟨_, rfl, rfl⟩
        · replace h := ite_t c7 h
          refine x_iconst d_N_last_32 ic_m1 ?_
          obtain rfl := Option.some.inj h
          exact x_ret (r := some (.int (-1 : Int32))) d_N_last_33 ⟨_, rfl, rfl⟩
/-! NinetyPlayersModel.last -/
def fM_last (F G : Nat) (S : St) (p1 : Int32) (p2 : Int32) : Option (Int32 × St) :=
  bd (fM_isNote F G S p1) fun v2 => if v2 = 0 then some ((-1 : Int32), S) else bd (fM_isIn F G S p2 (1 : Int32) (12 : Int32)) fun v5 => if v5 = 0 then some ((-1 : Int32), S) else gd (inB ((20 : Int32) + p1) 41) (if (S.1 100 ((20 : Int32) + p1).toNatClampNeg) = p2 then some ((-1 : Int32), S) else bd2 (fM_change F G S ((20 : Int32) + p1) p2) fun v10 S11 => some (v10, S11))
set_option maxRecDepth 100000 in
set_option maxHeartbeats 4000000 in
theorem c_M_last {X : Nat × (Nat → Int32)} {D F G : Nat} (hD : 2 ≤ D) {S : St} {p1 : Int32} {p2 : Int32} {res : Int32 × St} (h : fM_last F G S p1 p2 = some res) : Ek X (D) mM_last 0 [(0, .ref 78), (1, .int p1), (2, .int p2)] [] S (some (.int res.1)) res.2 := by
  obtain ⟨D, rfl⟩ : ∃ E, D = E + 1 := ⟨D - 1, by omega⟩
  unfold fM_last at h
  refine x_aload_n d_M_last_0 rfl 0 rfl ?_
  refine x_iload_n d_M_last_1 rfl 1 rfl ?_
  obtain ⟨v2, q1, h⟩ := bd_inv h
  refine y_V1i (v := v2) (S1 := S) d_M_last_2 ml_11_461 kd_78 rfl (Nat.le_of_ble_eq_true rfl) (Nat.le_of_ble_eq_true rfl) (c_M_isNote (by omega) q1) ?_
  refine x_if_eq (tgt := 43) d_M_last_5 rfl (fun c3 => ?_) (fun c3 => ?_)
  · replace h := ite_t c3 h
    refine x_iconst d_M_last_43 ic_m1 ?_
    obtain rfl := Option.some.inj h
    exact x_ret (r := some (.int (-1 : Int32))) d_M_last_44 ⟨_, rfl, rfl⟩
  · replace h := ite_f c3 h
    refine x_iload_n d_M_last_8 rfl 2 rfl ?_
    refine x_iconst d_M_last_9 ic_1 ?_
    refine x_bipush d_M_last_10 bp_12 ?_
    obtain ⟨v5, q4, h⟩ := bd_inv h
    refine y_S3i (v := v5) (S1 := S) d_M_last_12 ml_11_429 (Nat.le_of_ble_eq_true rfl) (Nat.le_of_ble_eq_true rfl) (c_M_isIn (by omega) q4) ?_
    refine x_if_eq (tgt := 43) d_M_last_15 rfl (fun c6 => ?_) (fun c6 => ?_)
    · replace h := ite_t c6 h
      refine x_iconst d_M_last_43 ic_m1 ?_
      obtain rfl := Option.some.inj h
      exact x_ret (r := some (.int (-1 : Int32))) d_M_last_44 ⟨_, rfl, rfl⟩
    · replace h := ite_f c6 h
      refine x_aload_n d_M_last_18 rfl 0 rfl ?_
      refine y_getR d_M_last_19 fl_11_93 rfl kd_78 rr_78_58 ?_
      refine x_bipush d_M_last_22 bp_20 ?_
      refine x_iload_n d_M_last_24 rfl 1 rfl ?_
      refine x_iadd d_M_last_25 ?_
      obtain ⟨g7, h⟩ := gd_inv h
      refine y_iald d_M_last_26 kd_100 g7 ?_
      refine x_iload_n d_M_last_27 rfl 2 rfl ?_
      refine x_icmp_eq (tgt := 43) d_M_last_28 rfl (fun c8 => ?_) (fun c8 => ?_)
      · replace h := ite_t c8 h
        refine x_iconst d_M_last_43 ic_m1 ?_
        obtain rfl := Option.some.inj h
        exact x_ret (r := some (.int (-1 : Int32))) d_M_last_44 ⟨_, rfl, rfl⟩
      · replace h := ite_f c8 h
        refine x_aload_n d_M_last_31 rfl 0 rfl ?_
        refine x_bipush d_M_last_32 bp_20 ?_
        refine x_iload_n d_M_last_34 rfl 1 rfl ?_
        refine x_iadd d_M_last_35 ?_
        refine x_iload_n d_M_last_36 rfl 2 rfl ?_
        obtain ⟨v10, S11, q9, h⟩ := bd2_inv h
        refine y_V2i (v := v10) (S1 := S11) d_M_last_37 ml_11_491 kd_78 rfl (Nat.le_of_ble_eq_true rfl) (Nat.le_of_ble_eq_true rfl) (c_M_change (by omega) q9) ?_
        refine x_goto (tgt := 44) d_M_last_40 rfl ?_
        obtain rfl := Option.some.inj h
        exact x_ret (r := some (.int v10)) d_M_last_44 ⟨_, rfl, rfl⟩
/-! NinetyPlayers.pedal -/
def fN_pedal (F G : Nat) (S : St) (p1 : Int32) : Option (Int32 × St) :=
  bd (fN_isBeat F G S p1) fun v2 => if v2 = 0 then some ((-1 : Int32), S) else bd (fC_act F G S 30 (4 : Int32) p1 ((S.1 30 1) ^^^ ((1 : Int32) <<< (p1 &&& 31)))) fun S5 => some (S5.1 30 1, S5)
set_option maxRecDepth 100000 in
set_option maxHeartbeats 4000000 in
theorem c_N_pedal {X : Nat × (Nat → Int32)} {D F G : Nat} (hD : 3 ≤ D) {S : St} {p1 : Int32} {res : Int32 × St} (h : fN_pedal F G S p1 = some res) : Ek X (D) mN_pedal 0 [(0, .ref 0), (1, .int p1)] [] S (some (.int res.1)) res.2 := by
  obtain ⟨D, rfl⟩ : ∃ E, D = E + 1 := ⟨D - 1, by omega⟩
  unfold fN_pedal at h
  refine x_aload_n d_N_pedal_0 rfl 0 rfl ?_
  refine x_iload_n d_N_pedal_1 rfl 1 rfl ?_
  obtain ⟨v2, q1, h⟩ := bd_inv h
  refine y_V1i (v := v2) (S1 := S) d_N_pedal_2 ml_0_167 kd_0 rfl (Nat.le_of_ble_eq_true rfl) (Nat.le_of_ble_eq_true rfl) (c_N_isBeat (by omega) q1) ?_
  refine x_if_ne (tgt := 10) d_N_pedal_5 rfl (fun c3 => ?_) (fun c3 => ?_)
  · replace h := ite_f c3 h
    refine x_aload_n d_N_pedal_10 rfl 0 rfl ?_
    refine y_getR d_N_pedal_11 fl_0_43 rfl kd_0 rr_0_6 ?_
    refine x_aload_n d_N_pedal_14 rfl 0 rfl ?_
    refine y_getR d_N_pedal_15 fl_0_32 rfl kd_0 rr_0_4 ?_
    refine x_iconst d_N_pedal_18 ic_4 ?_
    refine x_iload_n d_N_pedal_19 rfl 1 rfl ?_
    refine x_aload_n d_N_pedal_20 rfl 0 rfl ?_
    refine y_getR d_N_pedal_21 fl_0_32 rfl kd_0 rr_0_4 ?_
    refine y_getI d_N_pedal_24 fl_0_243 rfl kd_30 ?_
    refine x_iconst d_N_pedal_27 ic_1 ?_
    refine x_iload_n d_N_pedal_28 rfl 1 rfl ?_
    refine x_ishl d_N_pedal_29 ?_
    refine x_ixor d_N_pedal_30 ?_
    obtain ⟨S5, q4, h⟩ := bd_inv h
    refine y_V4v (S1 := S5) d_N_pedal_31 ml_0_233 kd_51 rfl (Nat.le_of_ble_eq_true rfl) (Nat.le_of_ble_eq_true rfl) (c_C_act (by omega) q4) ?_
    refine x_aload_n d_N_pedal_34 rfl 0 rfl ?_
    refine y_getR d_N_pedal_35 fl_0_32 rfl kd_0 rr_0_4 ?_
    refine y_getI d_N_pedal_38 fl_0_243 rfl kd_30 ?_
    obtain rfl := Option.some.inj h
    exact x_ret (r := some (.int (S5.1 30 1))) d_N_pedal_41 ⟨_, rfl, rfl⟩
  · replace h := ite_t c3 h
    refine x_iconst d_N_pedal_8 ic_m1 ?_
    obtain rfl := Option.some.inj h
    exact x_ret (r := some (.int (-1 : Int32))) d_N_pedal_9 ⟨_, rfl, rfl⟩
/-! NinetyPlayersModel.pedal -/
def fM_pedal (F G : Nat) (S : St) (p1 : Int32) : Option (Int32 × St) :=
  bd (fM_isBeat F G S p1) fun v2 => if v2 = 0 then some ((-1 : Int32), S) else bd (fM_act F G S ) fun S5 => gd (inB (40 : Int32) 41) (gd (inB (40 : Int32) 41) (lt (sI S5 100 (40 : Int32).toNatClampNeg ((S5.1 100 (40 : Int32).toNatClampNeg) ^^^ ((1 : Int32) <<< (p1 &&& 31)))) fun S8 => gd (inB (40 : Int32) 41) (some (S8.1 100 (40 : Int32).toNatClampNeg, S8))))
set_option maxRecDepth 100000 in
set_option maxHeartbeats 4000000 in
theorem c_M_pedal {X : Nat × (Nat → Int32)} {D F G : Nat} (hD : 2 ≤ D) {S : St} {p1 : Int32} {res : Int32 × St} (h : fM_pedal F G S p1 = some res) : Ek X (D) mM_pedal 0 [(0, .ref 78), (1, .int p1)] [] S (some (.int res.1)) res.2 := by
  obtain ⟨D, rfl⟩ : ∃ E, D = E + 1 := ⟨D - 1, by omega⟩
  unfold fM_pedal at h
  refine x_aload_n d_M_pedal_0 rfl 0 rfl ?_
  refine x_iload_n d_M_pedal_1 rfl 1 rfl ?_
  obtain ⟨v2, q1, h⟩ := bd_inv h
  refine y_V1i (v := v2) (S1 := S) d_M_pedal_2 ml_11_473 kd_78 rfl (Nat.le_of_ble_eq_true rfl) (Nat.le_of_ble_eq_true rfl) (c_M_isBeat (by omega) q1) ?_
  refine x_if_ne (tgt := 10) d_M_pedal_5 rfl (fun c3 => ?_) (fun c3 => ?_)
  · replace h := ite_f c3 h
    refine x_aload_n d_M_pedal_10 rfl 0 rfl ?_
    obtain ⟨S5, q4, h⟩ := bd_inv h
    refine y_V0v (S1 := S5) d_M_pedal_11 ml_11_485 kd_78 rfl (Nat.le_of_ble_eq_true rfl) (Nat.le_of_ble_eq_true rfl) (c_M_act (by omega) q4) ?_
    refine x_aload_n d_M_pedal_14 rfl 0 rfl ?_
    refine y_getR d_M_pedal_15 fl_11_93 rfl kd_78 rr_78_58 ?_
    refine x_bipush d_M_pedal_18 bp_40 ?_
    refine x_dup2 d_M_pedal_20 rfl rfl ?_
    obtain ⟨g6, h⟩ := gd_inv h
    refine y_iald d_M_pedal_21 kd_100 g6 ?_
    refine x_iconst d_M_pedal_22 ic_1 ?_
    refine x_iload_n d_M_pedal_23 rfl 1 rfl ?_
    refine x_ishl d_M_pedal_24 ?_
    refine x_ixor d_M_pedal_25 ?_
    obtain ⟨g7, h⟩ := gd_inv h
    obtain ⟨S8, e9, h⟩ := lt_inv h
    refine y_iast e9 d_M_pedal_26 kd_100 g7 ?_
    refine x_aload_n d_M_pedal_27 rfl 0 rfl ?_
    refine y_getR d_M_pedal_28 fl_11_93 rfl kd_78 rr_78_58 ?_
    refine x_bipush d_M_pedal_31 bp_40 ?_
    obtain ⟨g10, h⟩ := gd_inv h
    refine y_iald d_M_pedal_33 kd_100 g10 ?_
    obtain rfl := Option.some.inj h
    exact x_ret (r := some (.int (S8.1 100 (40 : Int32).toNatClampNeg))) d_M_pedal_34 ⟨_, rfl, rfl⟩
  · replace h := ite_t c3 h
    refine x_iconst d_M_pedal_8 ic_m1 ?_
    obtain rfl := Option.some.inj h
    exact x_ret (r := some (.int (-1 : Int32))) d_M_pedal_9 ⟨_, rfl, rfl⟩
/-! NinetyPlayers$Acts.takeBack -/
def fC_takeBack (F G : Nat) (S : St) (o2 : Nat) : Option (Int32 × St) :=
  gd (isLa o2) (if 0 < (S.1 51 0) then lt (sI S 51 0 ((S.1 51 0) - (1 : Int32))) fun S2 => gd (inB (S2.1 51 0) 40) (gd (inB (S2.1 51 0) 40) (gd (inB (S2.1 51 0) 40) (bd (fL_put F G S2 o2 (S2.1 52 (S2.1 51 0).toNatClampNeg) (S2.1 53 (S2.1 51 0).toNatClampNeg) (S2.1 54 (S2.1 51 0).toNatClampNeg)) fun S8 => some ((1 : Int32), S8)))) else some ((0 : Int32), S))
set_option maxRecDepth 100000 in
set_option maxHeartbeats 4000000 in
theorem c_C_takeBack {X : Nat × (Nat → Int32)} {D F G : Nat} (hD : 2 ≤ D) {S : St} {o2 : Nat} {res : Int32 × St} (h : fC_takeBack F G S o2 = some res) : Ek X (D) mC_takeBack 0 [(0, .ref 51), (1, .ref o2)] [] S (some (.int res.1)) res.2 := by
  obtain ⟨D, rfl⟩ : ∃ E, D = E + 1 := ⟨D - 1, by omega⟩
  unfold fC_takeBack at h
  obtain ⟨gg0, h⟩ := gd_inv h
  refine x_aload_n d_C_takeBack_0 rfl 0 rfl ?_
  refine y_getI d_C_takeBack_1 fl_6_24 rfl kd_51 ?_
  refine x_if_gt (tgt := 9) d_C_takeBack_4 rfl (fun c1 => ?_) (fun c1 => ?_)
  · replace h := ite_t c1 h
    refine x_aload_n d_C_takeBack_9 rfl 0 rfl ?_
    refine x_dup d_C_takeBack_10 rfl ?_
    refine y_getI d_C_takeBack_11 fl_6_24 rfl kd_51 ?_
    refine x_iconst d_C_takeBack_14 ic_1 ?_
    refine x_isub d_C_takeBack_15 ?_
    obtain ⟨S2, e3, h⟩ := lt_inv h
    refine y_putI e3 d_C_takeBack_16 fl_6_24 rfl rfl kd_51 rfl rfl ?_
    refine x_aload_n d_C_takeBack_19 rfl 1 rfl ?_
    refine x_aload_n d_C_takeBack_20 rfl 0 rfl ?_
    refine y_getR d_C_takeBack_21 fl_6_9 rfl kd_51 rr_51_2 ?_
    refine x_aload_n d_C_takeBack_24 rfl 0 rfl ?_
    refine y_getI d_C_takeBack_25 fl_6_24 rfl kd_51 ?_
    obtain ⟨g4, h⟩ := gd_inv h
    refine y_iald d_C_takeBack_28 kd_52 g4 ?_
    refine x_aload_n d_C_takeBack_29 rfl 0 rfl ?_
    refine y_getR d_C_takeBack_30 fl_6_15 rfl kd_51 rr_51_3 ?_
    refine x_aload_n d_C_takeBack_33 rfl 0 rfl ?_
    refine y_getI d_C_takeBack_34 fl_6_24 rfl kd_51 ?_
    obtain ⟨g5, h⟩ := gd_inv h
    refine y_iald d_C_takeBack_37 kd_53 g5 ?_
    refine x_aload_n d_C_takeBack_38 rfl 0 rfl ?_
    refine y_getR d_C_takeBack_39 fl_6_18 rfl kd_51 rr_51_4 ?_
    refine x_aload_n d_C_takeBack_42 rfl 0 rfl ?_
    refine y_getI d_C_takeBack_43 fl_6_24 rfl kd_51 ?_
    obtain ⟨g6, h⟩ := gd_inv h
    refine y_iald d_C_takeBack_46 kd_54 g6 ?_
    obtain ⟨S8, q7, h⟩ := bd_inv h
    refine y_V3v (S1 := S8) d_C_takeBack_47 ml_6_40 (ksLa gg0) rfl (Nat.le_of_ble_eq_true rfl) (Nat.le_of_ble_eq_true rfl) (c_L_put (by omega) q7) ?_
    refine x_iconst d_C_takeBack_50 ic_1 ?_
    obtain rfl := Option.some.inj h
    exact x_ret (r := some (.int (1 : Int32))) d_C_takeBack_51 ⟨_, rfl, rfl⟩
  · replace h := ite_f c1 h
    refine x_iconst d_C_takeBack_7 ic_0 ?_
    obtain rfl := Option.some.inj h
    exact x_ret (r := some (.int (0 : Int32))) d_C_takeBack_8 ⟨_, rfl, rfl⟩
/-! NinetyPlayers.undo -/
def fN_undo (F G : Nat) (S : St) : Option (Int32 × St) :=
  bd2 (fC_takeBack F G S 30) fun v2 S3 => gd (isB v2) (some (v2, S3))
set_option maxRecDepth 100000 in
set_option maxHeartbeats 4000000 in
theorem c_N_undo {X : Nat × (Nat → Int32)} {D F G : Nat} (hD : 3 ≤ D) {S : St} {res : Int32 × St} (h : fN_undo F G S  = some res) : Ek X (D) mN_undo 0 [(0, .ref 0)] [] S (some (.int res.1)) res.2 := by
  obtain ⟨D, rfl⟩ : ∃ E, D = E + 1 := ⟨D - 1, by omega⟩
  unfold fN_undo at h
  refine x_aload_n d_N_undo_0 rfl 0 rfl ?_
  refine y_getR d_N_undo_1 fl_0_43 rfl kd_0 rr_0_6 ?_
  refine x_aload_n d_N_undo_4 rfl 0 rfl ?_
  refine y_getR d_N_undo_5 fl_0_32 rfl kd_0 rr_0_4 ?_
  obtain ⟨v2, S3, q1, h⟩ := bd2_inv h
  refine y_V1i (v := v2) (S1 := S3) d_N_undo_8 ml_0_246 kd_51 rfl (Nat.le_of_ble_eq_true rfl) (Nat.le_of_ble_eq_true rfl) (c_C_takeBack (by omega) q1) ?_
  obtain ⟨g4, h⟩ := gd_inv h
  obtain rfl := Option.some.inj h
  exact x_ret (r := some (.int v2)) d_N_undo_11 ⟨_, rfl, isB_nar g4⟩
/-! NinetyPlayersModel.exchange -/
def b_M_exchange_2 (F G : Nat) (z1 : Int32) (rec : Int32 → St → Option (St)) (w2 : Int32) (S : St) : Option (St) :=
  if (41 : Int32) ≤ w2 then some S else gd (inB (z1 + w2) 1640) (lt (S.1 104 (z1 + w2).toNatClampNeg) fun v3 => gd (inB w2 41) (gd (inB (z1 + w2) 1640) (lt (sI S 104 (z1 + w2).toNatClampNeg (S.1 100 w2.toNatClampNeg)) fun S7 => gd (inB w2 41) (lt (sI S7 100 w2.toNatClampNeg v3) fun S10 => lt (w2 + 1) fun v12 => rec v12 S10))))
def fM_exchange (F G : Nat) (S : St) (p1 : Int32) : Option (St) :=
  fx2 (b_M_exchange_2 F G p1) F (0 : Int32) S
set_option maxRecDepth 100000 in
set_option maxHeartbeats 4000000 in
theorem T_M_exchange_2 {X : Nat × (Nat → Int32)} {D F G : Nat} (hD : 0 ≤ D) {z1 : Int32} : ∀ (f : Nat) (w2 : Int32) (S : St) (res : St), fx2 (b_M_exchange_2 F G z1 ) f w2 S = some res → Ek X (D) mM_exchange 2 [(0, .ref 78), (1, .int z1), (2, .int w2)] [] S none res := by
  refine fx2_ind ?_
  intro rec ih w2 S res h
  unfold b_M_exchange_2 at h
  refine x_iload_n d_M_exchange_2 rfl 2 rfl ?_
  refine x_bipush d_M_exchange_3 bp_41 ?_
  refine x_icmp_ge (tgt := 44) d_M_exchange_5 rfl (fun c1 => ?_) (fun c1 => ?_)
  · replace h := ite_t c1 h
    obtain rfl := Option.some.inj h
    exact x_ret (r := none) d_M_exchange_44 rfl
  · replace h := ite_f c1 h
    refine x_aload_n d_M_exchange_8 rfl 0 rfl ?_
    refine y_getR d_M_exchange_9 fl_11_105 rfl kd_78 rr_78_62 ?_
    refine x_iload_n d_M_exchange_12 rfl 1 rfl ?_
    refine x_iload_n d_M_exchange_13 rfl 2 rfl ?_
    refine x_iadd d_M_exchange_14 ?_
    obtain ⟨g2, h⟩ := gd_inv h
    refine y_iald d_M_exchange_15 kd_104 g2 ?_
    obtain ⟨v3, e4, h⟩ := lt_inv h
    refine y_istore_n (L1 := [(0, .ref 78), (1, .int z1), (2, .int w2), (3, .int v3)]) e4 d_M_exchange_16 rfl (Nat.le_of_ble_eq_true rfl) rfl rfl ?_
    refine x_aload_n d_M_exchange_17 rfl 0 rfl ?_
    refine y_getR d_M_exchange_18 fl_11_105 rfl kd_78 rr_78_62 ?_
    refine x_iload_n d_M_exchange_21 rfl 1 rfl ?_
    refine x_iload_n d_M_exchange_22 rfl 2 rfl ?_
    refine x_iadd d_M_exchange_23 ?_
    refine x_aload_n d_M_exchange_24 rfl 0 rfl ?_
    refine y_getR d_M_exchange_25 fl_11_93 rfl kd_78 rr_78_58 ?_
    refine x_iload_n d_M_exchange_28 rfl 2 rfl ?_
    obtain ⟨g5, h⟩ := gd_inv h
    refine y_iald d_M_exchange_29 kd_100 g5 ?_
    obtain ⟨g6, h⟩ := gd_inv h
    obtain ⟨S7, e8, h⟩ := lt_inv h
    refine y_iast e8 d_M_exchange_30 kd_104 g6 ?_
    refine x_aload_n d_M_exchange_31 rfl 0 rfl ?_
    refine y_getR d_M_exchange_32 fl_11_93 rfl kd_78 rr_78_58 ?_
    refine x_iload_n d_M_exchange_35 rfl 2 rfl ?_
    refine x_iload_n d_M_exchange_36 rfl 3 rfl ?_
    obtain ⟨g9, h⟩ := gd_inv h
    obtain ⟨S10, e11, h⟩ := lt_inv h
    refine y_iast e11 d_M_exchange_37 kd_100 g9 ?_
    obtain ⟨v12, e13, h⟩ := lt_inv h
    refine y_iinc (L1 := [(0, .ref 78), (1, .int z1), (2, .int v12), (3, .int v3)]) e13 ic_1 d_M_exchange_38 2 rfl (Nat.le_of_ble_eq_true rfl) rfl rfl ?_
    refine x_goto (tgt := 2) d_M_exchange_41 rfl ?_
    refine y_pick (L1 := [(0, .ref 78), (1, .int z1), (2, .int v12)]) [0, 1, 2] rfl ?_
    exact ih v12 S10 _ h
set_option maxRecDepth 100000 in
set_option maxHeartbeats 4000000 in
theorem c_M_exchange {X : Nat × (Nat → Int32)} {D F G : Nat} (hD : 0 ≤ D) {S : St} {p1 : Int32} {res : St} (h : fM_exchange F G S p1 = some res) : Ek X (D) mM_exchange 0 [(0, .ref 78), (1, .int p1)] [] S none res := by
  unfold fM_exchange at h
  refine x_iconst d_M_exchange_0 ic_0 ?_
  refine x_istore_n (L1 := [(0, .ref 78), (1, .int p1), (2, .int (0 : Int32))]) d_M_exchange_1 rfl (Nat.le_of_ble_eq_true rfl) rfl rfl ?_
  refine T_M_exchange_2 (by omega)   F (0 : Int32) S _ h
