/-! NinetyPlayers$Keyboard.clashesBetween -/
def j_115_64 (F G : Nat) (S : St) (y5 : Int32) (y6 : Int32) (y7 : Int32) : Option (Int32) :=
  bd (fK_hasKeyTwice F G S (y5 ||| y6)) fun v21 => if v21 = 0 then some (y7 ||| (0 : Int32)) else some (y7 ||| (8 : Int32))
def fK_clashesBetween (F G : Nat) (S : St) (p1 : Int32) (p2 : Int32) (p3 : Int32) (p4 : Int32) : Option (Int32) :=
  lt (p1 &&& p4) fun v1 => lt (p2 &&& p4) fun v3 => bd (fK_clashesOfHand F G S (p1 &&& p3) v1) fun v6 => bd (fK_clashesOfHand F G S (p2 &&& p3) v3) fun v8 => lt (v6 ||| v8) fun v9 => if v1 = 0 then j_115_64 F G  S v1 v3 v9 else if v3 = 0 then j_115_64 F G  S v1 v3 v9 else bd (fK_highest F G S v1) fun v14 => bd (fK_lowest F G S v3) fun v16 => if v14 < v16 then j_115_64 F G  S v1 v3 v9 else lt (v9 ||| (4 : Int32)) fun v18 => j_115_64 F G  S v1 v3 v18
set_option maxRecDepth 100000 in
set_option maxHeartbeats 4000000 in
theorem c_115 {X : Nat × (Nat → Int32)} {D F G : Nat} (hD : 2 ≤ D) {S : St} {p1 : Int32} {p2 : Int32} {p3 : Int32} {p4 : Int32} {res : Int32} (h : fK_clashesBetween F G S p1 p2 p3 p4 = some res) : Ek X (D) m115 0 [(0, .ref 56), (1, .int p1), (2, .int p2), (3, .int p3), (4, .int p4)] [] S (some (.int res)) S := by
  obtain ⟨D, rfl⟩ : ∃ E, D = E + 1 := ⟨D - 1, by omega⟩
  unfold fK_clashesBetween at h
  have J64 : ∀ (y5 : Int32) (y6 : Int32) (y7 : Int32) (res : Int32), j_115_64 F G S y5 y6 y7 = some res → Ek X (D + 1) m115 64 [(0, .ref 56), (5, .int y5), (6, .int y6), (7, .int y7)] [] S (some (.int res)) S := by
    intro y5 y6 y7 res h
    unfold j_115_64 at h
    refine x_iload d_115_64 3 rfl ?_
    refine x_aload_n d_115_66 rfl 0 rfl ?_
    refine x_iload d_115_67 1 rfl ?_
    refine x_iload d_115_69 2 rfl ?_
    refine x_ior d_115_71 ?_
    obtain ⟨v21, q20, h⟩ := bd_inv h
    refine y_V1i (v := v21) (S1 := S) d_115_72 ml_7_97 kd_56 rfl (Nat.le_of_ble_eq_true rfl) (Nat.le_of_ble_eq_true rfl) (c_120 (by omega) q20) ?_
    refine x_if_eq (tgt := 83) d_115_75 rfl (fun c22 => ?_) (fun c22 => ?_)
    · replace h := ite_t c22 h
      refine x_iconst d_115_83 ic_0 ?_
      refine x_ior d_115_84 ?_
      obtain rfl := Option.some.inj h
      exact x_ret (r := some (.int (y7 ||| (0 : Int32)))) d_115_85 ⟨_, rfl, rfl⟩
    · replace h := ite_f c22 h
      refine x_bipush d_115_78 bp_8 ?_
      refine x_goto (tgt := 84) d_115_80 rfl ?_
      refine x_ior d_115_84 ?_
      obtain rfl := Option.some.inj h
      exact x_ret (r := some (.int (y7 ||| (8 : Int32)))) d_115_85 ⟨_, rfl, rfl⟩
  refine x_iload_n d_115_0 rfl 1 rfl ?_
  refine x_iload d_115_1 4 rfl ?_
  refine x_iand d_115_3 ?_
  obtain ⟨v1, e2, h⟩ := lt_inv h
  refine y_istore (L1 := [(0, .ref 56), (1, .int p1), (2, .int p2), (3, .int p3), (4, .int p4), (5, .int v1)]) e2 d_115_4 (Nat.le_of_ble_eq_true rfl) rfl rfl ?_
  refine x_iload_n d_115_6 rfl 2 rfl ?_
  refine x_iload d_115_7 4 rfl ?_
  refine x_iand d_115_9 ?_
  obtain ⟨v3, e4, h⟩ := lt_inv h
  refine y_istore (L1 := [(0, .ref 56), (1, .int p1), (2, .int p2), (3, .int p3), (4, .int p4), (5, .int v1), (6, .int v3)]) e4 d_115_10 (Nat.le_of_ble_eq_true rfl) rfl rfl ?_
  refine x_aload_n d_115_12 rfl 0 rfl ?_
  refine x_iload_n d_115_13 rfl 1 rfl ?_
  refine x_iload_n d_115_14 rfl 3 rfl ?_
  refine x_iand d_115_15 ?_
  refine x_iload d_115_16 5 rfl ?_
  obtain ⟨v6, q5, h⟩ := bd_inv h
  refine y_V2i (v := v6) (S1 := S) d_115_18 ml_7_94 kd_56 rfl (Nat.le_of_ble_eq_true rfl) (Nat.le_of_ble_eq_true rfl) (c_116 (by omega) q5) ?_
  refine x_aload_n d_115_21 rfl 0 rfl ?_
  refine x_iload_n d_115_22 rfl 2 rfl ?_
  refine x_iload_n d_115_23 rfl 3 rfl ?_
  refine x_iand d_115_24 ?_
  refine x_iload d_115_25 6 rfl ?_
  obtain ⟨v8, q7, h⟩ := bd_inv h
  refine y_V2i (v := v8) (S1 := S) d_115_27 ml_7_94 kd_56 rfl (Nat.le_of_ble_eq_true rfl) (Nat.le_of_ble_eq_true rfl) (c_116 (by omega) q7) ?_
  refine x_ior d_115_30 ?_
  obtain ⟨v9, e10, h⟩ := lt_inv h
  refine y_istore (L1 := [(0, .ref 56), (1, .int p1), (2, .int p2), (3, .int p3), (4, .int p4), (5, .int v1), (6, .int v3), (7, .int v9)]) e10 d_115_31 (Nat.le_of_ble_eq_true rfl) rfl rfl ?_
  refine x_iload d_115_33 5 rfl ?_
  refine x_if_eq (tgt := 64) d_115_35 rfl (fun c11 => ?_) (fun c11 => ?_)
  · replace h := ite_t c11 h
    refine y_pick (L1 := [(0, .ref 56), (5, .int v1), (6, .int v3), (7, .int v9)]) [0, 5, 6, 7] rfl ?_
    exact J64 v1 v3 v9 _ h
  · replace h := ite_f c11 h
    refine x_iload d_115_38 6 rfl ?_
    refine x_if_eq (tgt := 64) d_115_40 rfl (fun c12 => ?_) (fun c12 => ?_)
    · replace h := ite_t c12 h
      refine y_pick (L1 := [(0, .ref 56), (5, .int v1), (6, .int v3), (7, .int v9)]) [0, 5, 6, 7] rfl ?_
      exact J64 v1 v3 v9 _ h
    · replace h := ite_f c12 h
      refine x_aload_n d_115_43 rfl 0 rfl ?_
      refine x_iload d_115_44 5 rfl ?_
      obtain ⟨v14, q13, h⟩ := bd_inv h
      refine y_V1i (v := v14) (S1 := S) d_115_46 ml_7_78 kd_56 rfl (Nat.le_of_ble_eq_true rfl) (Nat.le_of_ble_eq_true rfl) (c_118 (by omega) q13) ?_
      refine x_aload_n d_115_49 rfl 0 rfl ?_
      refine x_iload d_115_50 6 rfl ?_
      obtain ⟨v16, q15, h⟩ := bd_inv h
      refine y_V1i (v := v16) (S1 := S) d_115_52 ml_7_81 kd_56 rfl (Nat.le_of_ble_eq_true rfl) (Nat.le_of_ble_eq_true rfl) (c_117 (by omega) q15) ?_
      refine x_icmp_lt (tgt := 64) d_115_55 rfl (fun c17 => ?_) (fun c17 => ?_)
      · replace h := ite_t c17 h
        refine y_pick (L1 := [(0, .ref 56), (5, .int v1), (6, .int v3), (7, .int v9)]) [0, 5, 6, 7] rfl ?_
        exact J64 v1 v3 v9 _ h
      · replace h := ite_f c17 h
        refine x_iload d_115_58 7 rfl ?_
        refine x_iconst d_115_60 ic_4 ?_
        refine x_ior d_115_61 ?_
        obtain ⟨v18, e19, h⟩ := lt_inv h
        refine y_istore (L1 := [(0, .ref 56), (1, .int p1), (2, .int p2), (3, .int p3), (4, .int p4), (5, .int v1), (6, .int v3), (7, .int v18)]) e19 d_115_62 (Nat.le_of_ble_eq_true rfl) rfl rfl ?_
        refine y_pick (L1 := [(0, .ref 56), (5, .int v1), (6, .int v3), (7, .int v18)]) [0, 5, 6, 7] rfl ?_
        exact J64 v1 v3 v18 _ h
/-! NinetyPlayers$Keyboard.clashesAt -/
def fK_clashesAt (F G : Nat) (S : St) (p1 : Int32) (p2 : Int32) (p3 : Int32) : Option (Int32) :=
  bd (fK_timelyAt F G S (p3 - (1 : Int32))) fun v2 => bd (fK_timelyAt F G S p3) fun v4 => bd (fK_clashesBetween F G S p1 p2 v2 v4) fun v6 => some v6
set_option maxRecDepth 100000 in
set_option maxHeartbeats 4000000 in
theorem c_114 {X : Nat × (Nat → Int32)} {D F G : Nat} (hD : 3 ≤ D) {S : St} {p1 : Int32} {p2 : Int32} {p3 : Int32} {res : Int32} (h : fK_clashesAt F G S p1 p2 p3 = some res) : Ek X (D) m114 0 [(0, .ref 56), (1, .int p1), (2, .int p2), (3, .int p3)] [] S (some (.int res)) S := by
  obtain ⟨D, rfl⟩ : ∃ E, D = E + 1 := ⟨D - 1, by omega⟩
  unfold fK_clashesAt at h
  refine x_aload_n d_114_0 rfl 0 rfl ?_
  refine x_iload_n d_114_1 rfl 1 rfl ?_
  refine x_iload_n d_114_2 rfl 2 rfl ?_
  refine x_aload_n d_114_3 rfl 0 rfl ?_
  refine x_iload_n d_114_4 rfl 3 rfl ?_
  refine x_iconst d_114_5 ic_1 ?_
  refine x_isub d_114_6 ?_
  obtain ⟨v2, q1, h⟩ := bd_inv h
  refine y_V1i (v := v2) (S1 := S) d_114_7 ml_7_75 kd_56 rfl (Nat.le_of_ble_eq_true rfl) (Nat.le_of_ble_eq_true rfl) (c_110 (by omega) q1) ?_
  refine x_aload_n d_114_10 rfl 0 rfl ?_
  refine x_iload_n d_114_11 rfl 3 rfl ?_
  obtain ⟨v4, q3, h⟩ := bd_inv h
  refine y_V1i (v := v4) (S1 := S) d_114_12 ml_7_75 kd_56 rfl (Nat.le_of_ble_eq_true rfl) (Nat.le_of_ble_eq_true rfl) (c_110 (by omega) q3) ?_
  obtain ⟨v6, q5, h⟩ := bd_inv h
  refine y_V4i (v := v6) (S1 := S) d_114_15 ml_7_100 kd_56 rfl (Nat.le_of_ble_eq_true rfl) (Nat.le_of_ble_eq_true rfl) (c_115 (by omega) q5) ?_
  obtain rfl := Option.some.inj h
  exact x_ret (r := some (.int v6)) d_114_18 ⟨_, rfl, rfl⟩
/-! NinetyPlayers.clash -/
def fN_clash (F G : Nat) (S : St) (p1 : Int32) : Option (Int32 × St) :=
  bd (fN_isBeat F G S p1) fun v2 => if v2 = 0 then some ((-1 : Int32), S) else bd (fN_lookAtKeys F G S ) fun S5 => bd (fK_clashesAt F G S5 (S5.1 56 5) (S5.1 56 6) p1) fun v7 => some (v7, S5)
set_option maxRecDepth 100000 in
set_option maxHeartbeats 4000000 in
theorem c_113 {X : Nat × (Nat → Int32)} {D F G : Nat} (hD : 4 ≤ D) {S : St} {p1 : Int32} {res : Int32 × St} (h : fN_clash F G S p1 = some res) : Ek X (D) m113 0 [(0, .ref 0), (1, .int p1)] [] S (some (.int res.1)) res.2 := by
  obtain ⟨D, rfl⟩ : ∃ E, D = E + 1 := ⟨D - 1, by omega⟩
  unfold fN_clash at h
  refine x_aload_n d_113_0 rfl 0 rfl ?_
  refine x_iload_n d_113_1 rfl 1 rfl ?_
  obtain ⟨v2, q1, h⟩ := bd_inv h
  refine y_V1i (v := v2) (S1 := S) d_113_2 ml_0_167 kd_0 rfl (Nat.le_of_ble_eq_true rfl) (Nat.le_of_ble_eq_true rfl) (c_102 (by omega) q1) ?_
  refine x_if_ne (tgt := 10) d_113_5 rfl (fun c3 => ?_) (fun c3 => ?_)
  · replace h := ite_f c3 h
    refine x_aload_n d_113_10 rfl 0 rfl ?_
    obtain ⟨S5, q4, h⟩ := bd_inv h
    refine y_V0v (S1 := S5) d_113_11 ml_0_173 kd_0 rfl (Nat.le_of_ble_eq_true rfl) (Nat.le_of_ble_eq_true rfl) (c_104 (by omega) q4) ?_
    refine x_aload_n d_113_14 rfl 0 rfl ?_
    refine y_getR d_113_15 fl_0_50 rfl kd_0 rr_0_7 ?_
    refine x_aload_n d_113_18 rfl 0 rfl ?_
    refine y_getR d_113_19 fl_0_50 rfl kd_0 rr_0_7 ?_
    refine y_getI d_113_22 fl_0_183 rfl kd_56 ?_
    refine x_aload_n d_113_25 rfl 0 rfl ?_
    refine y_getR d_113_26 fl_0_50 rfl kd_0 rr_0_7 ?_
    refine y_getI d_113_29 fl_0_186 rfl kd_56 ?_
    refine x_iload_n d_113_32 rfl 1 rfl ?_
    obtain ⟨v7, q6, h⟩ := bd_inv h
    refine y_V3i (v := v7) (S1 := S5) d_113_33 ml_0_189 kd_56 rfl (Nat.le_of_ble_eq_true rfl) (Nat.le_of_ble_eq_true rfl) (c_114 (by omega) q6) ?_
    obtain rfl := Option.some.inj h
    exact x_ret (r := some (.int v7)) d_113_36 ⟨_, rfl, rfl⟩
  · replace h := ite_t c3 h
    refine x_iconst d_113_8 ic_m1 ?_
    obtain rfl := Option.some.inj h
    exact x_ret (r := some (.int (-1 : Int32))) d_113_9 ⟨_, rfl, rfl⟩
/-! NinetyPlayers$Acts.dropOldest -/
def fC_dropOldest (F G : Nat) (S : St) : Option (St) :=
  lt (sI S 51 0 (39 : Int32)) fun S1 => gd (decide (0 ≤ (1 : Int32)) && decide (0 ≤ (0 : Int32)) && decide (0 ≤ (S1.1 51 0)) && decide ((1 : Int32).toNatClampNeg + (S1.1 51 0).toNatClampNeg ≤ 40) && decide ((0 : Int32).toNatClampNeg + (S1.1 51 0).toNatClampNeg ≤ 40)) (lt (sA S1 52 (va_cpy (S1.1 52) (S1.1 52) (1 : Int32).toNatClampNeg (0 : Int32).toNatClampNeg (S1.1 51 0).toNatClampNeg)) fun S4 => gd (decide (0 ≤ (1 : Int32)) && decide (0 ≤ (0 : Int32)) && decide (0 ≤ (S4.1 51 0)) && decide ((1 : Int32).toNatClampNeg + (S4.1 51 0).toNatClampNeg ≤ 40) && decide ((0 : Int32).toNatClampNeg + (S4.1 51 0).toNatClampNeg ≤ 40)) (lt (sA S4 53 (va_cpy (S4.1 53) (S4.1 53) (1 : Int32).toNatClampNeg (0 : Int32).toNatClampNeg (S4.1 51 0).toNatClampNeg)) fun S7 => gd (decide (0 ≤ (1 : Int32)) && decide (0 ≤ (0 : Int32)) && decide (0 ≤ (S7.1 51 0)) && decide ((1 : Int32).toNatClampNeg + (S7.1 51 0).toNatClampNeg ≤ 40) && decide ((0 : Int32).toNatClampNeg + (S7.1 51 0).toNatClampNeg ≤ 40)) (lt (sA S7 54 (va_cpy (S7.1 54) (S7.1 54) (1 : Int32).toNatClampNeg (0 : Int32).toNatClampNeg (S7.1 51 0).toNatClampNeg)) fun S10 => gd (decide (0 ≤ (1 : Int32)) && decide (0 ≤ (0 : Int32)) && decide (0 ≤ (S10.1 51 0)) && decide ((1 : Int32).toNatClampNeg + (S10.1 51 0).toNatClampNeg ≤ 40) && decide ((0 : Int32).toNatClampNeg + (S10.1 51 0).toNatClampNeg ≤ 40)) (lt (sA S10 55 (va_cpy (S10.1 55) (S10.1 55) (1 : Int32).toNatClampNeg (0 : Int32).toNatClampNeg (S10.1 51 0).toNatClampNeg)) fun S13 => some S13))))
set_option maxRecDepth 100000 in
set_option maxHeartbeats 4000000 in
theorem c_123 {X : Nat × (Nat → Int32)} {D F G : Nat} (hD : 1 ≤ D) {S : St} {res : St} (h : fC_dropOldest F G S  = some res) : Ek X (D) m123 0 [(0, .ref 51)] [] S none res := by
  obtain ⟨D, rfl⟩ : ∃ E, D = E + 1 := ⟨D - 1, by omega⟩
  unfold fC_dropOldest at h
  refine x_aload_n d_123_0 rfl 0 rfl ?_
  refine x_bipush d_123_1 bp_39 ?_
  obtain ⟨S1, e2, h⟩ := lt_inv h
  refine y_putI e2 d_123_3 fl_6_24 rfl rfl kd_51 rfl rfl ?_
  refine x_aload_n d_123_6 rfl 0 rfl ?_
  refine y_getR d_123_7 fl_6_9 rfl kd_51 rr_51_2 ?_
  refine x_iconst d_123_10 ic_1 ?_
  refine x_aload_n d_123_11 rfl 0 rfl ?_
  refine y_getR d_123_12 fl_6_9 rfl kd_51 rr_51_2 ?_
  refine x_iconst d_123_15 ic_0 ?_
  refine x_aload_n d_123_16 rfl 0 rfl ?_
  refine y_getI d_123_17 fl_6_24 rfl kd_51 ?_
  obtain ⟨g3, h⟩ := gd_inv h
  obtain ⟨S4, e5, h⟩ := lt_inv h
  refine y_copy e5 g3 d_123_20 ml_6_44 kd_52 kd_52 (Nat.le_of_ble_eq_true rfl) ?_
  refine x_aload_n d_123_23 rfl 0 rfl ?_
  refine y_getR d_123_24 fl_6_15 rfl kd_51 rr_51_3 ?_
  refine x_iconst d_123_27 ic_1 ?_
  refine x_aload_n d_123_28 rfl 0 rfl ?_
  refine y_getR d_123_29 fl_6_15 rfl kd_51 rr_51_3 ?_
  refine x_iconst d_123_32 ic_0 ?_
  refine x_aload_n d_123_33 rfl 0 rfl ?_
  refine y_getI d_123_34 fl_6_24 rfl kd_51 ?_
  obtain ⟨g6, h⟩ := gd_inv h
  obtain ⟨S7, e8, h⟩ := lt_inv h
  refine y_copy e8 g6 d_123_37 ml_6_44 kd_53 kd_53 (Nat.le_of_ble_eq_true rfl) ?_
  refine x_aload_n d_123_40 rfl 0 rfl ?_
  refine y_getR d_123_41 fl_6_18 rfl kd_51 rr_51_4 ?_
  refine x_iconst d_123_44 ic_1 ?_
  refine x_aload_n d_123_45 rfl 0 rfl ?_
  refine y_getR d_123_46 fl_6_18 rfl kd_51 rr_51_4 ?_
  refine x_iconst d_123_49 ic_0 ?_
  refine x_aload_n d_123_50 rfl 0 rfl ?_
  refine y_getI d_123_51 fl_6_24 rfl kd_51 ?_
  obtain ⟨g9, h⟩ := gd_inv h
  obtain ⟨S10, e11, h⟩ := lt_inv h
  refine y_copy e11 g9 d_123_54 ml_6_44 kd_54 kd_54 (Nat.le_of_ble_eq_true rfl) ?_
  refine x_aload_n d_123_57 rfl 0 rfl ?_
  refine y_getR d_123_58 fl_6_21 rfl kd_51 rr_51_5 ?_
  refine x_iconst d_123_61 ic_1 ?_
  refine x_aload_n d_123_62 rfl 0 rfl ?_
  refine y_getR d_123_63 fl_6_21 rfl kd_51 rr_51_5 ?_
  refine x_iconst d_123_66 ic_0 ?_
  refine x_aload_n d_123_67 rfl 0 rfl ?_
  refine y_getI d_123_68 fl_6_24 rfl kd_51 ?_
  obtain ⟨g12, h⟩ := gd_inv h
  obtain ⟨S13, e14, h⟩ := lt_inv h
  refine y_copy e14 g12 d_123_71 ml_6_44 kd_55 kd_55 (Nat.le_of_ble_eq_true rfl) ?_
  obtain rfl := Option.some.inj h
  exact x_ret (r := none) d_123_74 rfl
/-! NinetyPlayers$Laying.rowOf -/
def fL_rowOf (F G : Nat) (S : St) (o : Nat) (p1 : Int32) : Option (Nat) :=
  gd (isLa o) (if p1 = 0 then some (o + 1) else if p1 = 1 then some (o + 2) else if p1 = 2 then some (o + 3) else some (o + 4))
set_option maxRecDepth 100000 in
set_option maxHeartbeats 4000000 in
theorem c_125 {X : Nat × (Nat → Int32)} {D F G : Nat} (hD : 0 ≤ D) {S : St} {o : Nat} {p1 : Int32} {res : Nat} (h : fL_rowOf F G S o p1 = some res) : Ek X (D) m125 0 [(0, .ref o), (1, .int p1)] [] S (some (.ref res)) S := by
  unfold fL_rowOf at h
  obtain ⟨gg0, h⟩ := gd_inv h
  refine x_iload_n d_125_0 rfl 1 rfl ?_
  by_cases c1 : p1 = 0
  · replace h := ite_t c1 h
    refine x_tabC (tgt := 28) 0 d_125_1 (by rw [c1]; rfl) (by decide) rfl rfl ?_
    refine x_aload_n d_125_28 rfl 0 rfl ?_
    refine y_getR d_125_29 fl_5_9 rfl (ksLa gg0) (rrLa_2 gg0) ?_
    obtain rfl := Option.some.inj h
    exact x_ret (r := some (.ref (o + 1))) d_125_32 ⟨_, rfl⟩
  replace h := ite_f c1 h
  by_cases c2 : p1 = 1
  · replace h := ite_t c2 h
    refine x_tabC (tgt := 33) 1 d_125_1 (by rw [c2]; rfl) (by decide) rfl rfl ?_
    refine x_aload_n d_125_33 rfl 0 rfl ?_
    refine y_getR d_125_34 fl_5_15 rfl (ksLa gg0) (rrLa_3 gg0) ?_
    obtain rfl := Option.some.inj h
    exact x_ret (r := some (.ref (o + 2))) d_125_37 ⟨_, rfl⟩
  replace h := ite_f c2 h
  by_cases c3 : p1 = 2
  · replace h := ite_t c3 h
    refine x_tabC (tgt := 38) 2 d_125_1 (by rw [c3]; rfl) (by decide) rfl rfl ?_
    refine x_aload_n d_125_38 rfl 0 rfl ?_
    refine y_getR d_125_39 fl_5_18 rfl (ksLa gg0) (rrLa_4 gg0) ?_
    obtain rfl := Option.some.inj h
    exact x_ret (r := some (.ref (o + 3))) d_125_42 ⟨_, rfl⟩
  replace h := ite_f c3 h
  refine x_tabD (tgt := 43) d_125_1 (by have := lv_neT c1 (show (0 : Int32).toInt = 0 from rfl); have := lv_neT c2 (show (1 : Int32).toInt = 1 from rfl); have := lv_neT c3 (show (2 : Int32).toInt = 2 from rfl); omega) rfl ?_
  refine x_aload_n d_125_43 rfl 0 rfl ?_
  refine y_getR d_125_44 fl_5_21 rfl (ksLa gg0) (rrLa_5 gg0) ?_
  obtain rfl := Option.some.inj h
  exact x_ret (r := some (.ref (o + 4))) d_125_47 ⟨_, rfl⟩
/-! NinetyPlayers$Laying.valueOf -/
def fL_valueOf (F G : Nat) (S : St) (o : Nat) (p1 : Int32) (p2 : Int32) : Option (Int32) :=
  gd (isLa o) (bd (fL_rowOf F G S o p1) fun v2 => gd (isRw v2) (if p1 = (4 : Int32) then some (S.1 o 1) else if p2 < 0 then some (0 : Int32) else if (Int32.ofNat 10) ≤ p2 then some (0 : Int32) else gd (inB p2 10) (some (S.1 v2 p2.toNatClampNeg))))
set_option maxRecDepth 100000 in
set_option maxHeartbeats 4000000 in
theorem c_124 {X : Nat × (Nat → Int32)} {D F G : Nat} (hD : 1 ≤ D) {S : St} {o : Nat} {p1 : Int32} {p2 : Int32} {res : Int32} (h : fL_valueOf F G S o p1 p2 = some res) : Ek X (D) m124 0 [(0, .ref o), (1, .int p1), (2, .int p2)] [] S (some (.int res)) S := by
  obtain ⟨D, rfl⟩ : ∃ E, D = E + 1 := ⟨D - 1, by omega⟩
  unfold fL_valueOf at h
  obtain ⟨gg0, h⟩ := gd_inv h
  refine x_aload_n d_124_0 rfl 0 rfl ?_
  refine x_iload_n d_124_1 rfl 1 rfl ?_
  obtain ⟨v2, q1, h⟩ := bd_inv h
  refine y_V1r (v := v2) (S1 := S) d_124_2 ml_5_33 (ksLa gg0) rfl (Nat.le_of_ble_eq_true rfl) (Nat.le_of_ble_eq_true rfl) (c_125 (by omega) q1) ?_
  obtain ⟨g3, h⟩ := gd_inv h
  refine x_astore_n (L1 := [(0, .ref o), (1, .int p1), (2, .int p2), (3, .ref v2)]) d_124_5 rfl (Nat.le_of_ble_eq_true rfl) rfl rfl ?_
  refine x_iload_n d_124_6 rfl 1 rfl ?_
  refine x_iconst d_124_7 ic_4 ?_
  refine x_icmp_ne (tgt := 16) d_124_8 rfl (fun c4 => ?_) (fun c4 => ?_)
  · replace h := ite_f c4 h
    refine x_iload_n d_124_16 rfl 2 rfl ?_
    refine x_if_lt (tgt := 32) d_124_17 rfl (fun c5 => ?_) (fun c5 => ?_)
    · replace h := ite_t c5 h
      refine x_iconst d_124_32 ic_0 ?_
      obtain rfl := Option.some.inj h
      exact x_ret (r := some (.int (0 : Int32))) d_124_33 ⟨_, rfl, rfl⟩
    · replace h := ite_f c5 h
      refine x_iload_n d_124_20 rfl 2 rfl ?_
      refine x_aload_n d_124_21 rfl 3 rfl ?_
      refine x_alen1 d_124_22 (ksRw g3) ?_
      refine x_icmp_ge (tgt := 32) d_124_23 rfl (fun c6 => ?_) (fun c6 => ?_)
      · replace h := ite_t c6 h
        refine x_iconst d_124_32 ic_0 ?_
        obtain rfl := Option.some.inj h
        exact x_ret (r := some (.int (0 : Int32))) d_124_33 ⟨_, rfl, rfl⟩
      · replace h := ite_f c6 h
        refine x_aload_n d_124_26 rfl 3 rfl ?_
        refine x_iload_n d_124_27 rfl 2 rfl ?_
        obtain ⟨g7, h⟩ := gd_inv h
        refine y_iald d_124_28 (ksRw g3) g7 ?_
        refine x_goto (tgt := 33) d_124_29 rfl ?_
        obtain rfl := Option.some.inj h
        exact x_ret (r := some (.int (S.1 v2 p2.toNatClampNeg))) d_124_33 ⟨_, rfl, rfl⟩
  · replace h := ite_t c4 h
    refine x_aload_n d_124_11 rfl 0 rfl ?_
    refine y_getI d_124_12 fl_5_24 rfl (ksLa gg0) ?_
    obtain rfl := Option.some.inj h
    exact x_ret (r := some (.int (S.1 o 1))) d_124_15 ⟨_, rfl, rfl⟩
/-! NinetyPlayers$Laying.put -/
def fL_put (F G : Nat) (S : St) (o : Nat) (p1 : Int32) (p2 : Int32) (p3 : Int32) : Option (St) :=
  gd (isLa o) (bd (fL_rowOf F G S o p1) fun v2 => gd (isRw v2) (if p1 = (4 : Int32) then lt (sI S o 1 p3) fun S10 => some S10 else if p2 < 0 then some S else if (Int32.ofNat 10) ≤ p2 then some S else gd (inB p2 10) (lt (sI S v2 p2.toNatClampNeg p3) fun S8 => some S8)))
set_option maxRecDepth 100000 in
set_option maxHeartbeats 4000000 in
theorem c_126 {X : Nat × (Nat → Int32)} {D F G : Nat} (hD : 1 ≤ D) {S : St} {o : Nat} {p1 : Int32} {p2 : Int32} {p3 : Int32} {res : St} (h : fL_put F G S o p1 p2 p3 = some res) : Ek X (D) m126 0 [(0, .ref o), (1, .int p1), (2, .int p2), (3, .int p3)] [] S none res := by
  obtain ⟨D, rfl⟩ : ∃ E, D = E + 1 := ⟨D - 1, by omega⟩
  unfold fL_put at h
  obtain ⟨gg0, h⟩ := gd_inv h
  refine x_aload_n d_126_0 rfl 0 rfl ?_
  refine x_iload_n d_126_1 rfl 1 rfl ?_
  obtain ⟨v2, q1, h⟩ := bd_inv h
  refine y_V1r (v := v2) (S1 := S) d_126_2 ml_5_33 (ksLa gg0) rfl (Nat.le_of_ble_eq_true rfl) (Nat.le_of_ble_eq_true rfl) (c_125 (by omega) q1) ?_
  obtain ⟨g3, h⟩ := gd_inv h
  refine x_astore (L1 := [(0, .ref o), (1, .int p1), (2, .int p2), (3, .int p3), (4, .ref v2)]) d_126_5 (Nat.le_of_ble_eq_true rfl) rfl rfl ?_
  refine x_iload_n d_126_7 rfl 1 rfl ?_
  refine x_iconst d_126_8 ic_4 ?_
  refine x_icmp_ne (tgt := 20) d_126_9 rfl (fun c4 => ?_) (fun c4 => ?_)
  · replace h := ite_f c4 h
    refine x_iload_n d_126_20 rfl 2 rfl ?_
    refine x_if_lt (tgt := 36) d_126_21 rfl (fun c5 => ?_) (fun c5 => ?_)
    · replace h := ite_t c5 h
      obtain rfl := Option.some.inj h
      exact x_ret (r := none) d_126_36 rfl
    · replace h := ite_f c5 h
      refine x_iload_n d_126_24 rfl 2 rfl ?_
      refine x_aload d_126_25 4 rfl ?_
      refine x_alen1 d_126_27 (ksRw g3) ?_
      refine x_icmp_ge (tgt := 36) d_126_28 rfl (fun c6 => ?_) (fun c6 => ?_)
      · replace h := ite_t c6 h
        obtain rfl := Option.some.inj h
        exact x_ret (r := none) d_126_36 rfl
      · replace h := ite_f c6 h
        refine x_aload d_126_31 4 rfl ?_
        refine x_iload_n d_126_33 rfl 2 rfl ?_
        refine x_iload_n d_126_34 rfl 3 rfl ?_
        obtain ⟨g7, h⟩ := gd_inv h
        obtain ⟨S8, e9, h⟩ := lt_inv h
        refine y_iast e9 d_126_35 (ksRw g3) g7 ?_
        obtain rfl := Option.some.inj h
        exact x_ret (r := none) d_126_36 rfl
  · replace h := ite_t c4 h
    refine x_aload_n d_126_12 rfl 0 rfl ?_
    refine x_iload_n d_126_13 rfl 3 rfl ?_
    obtain ⟨S10, e11, h⟩ := lt_inv h
    refine y_putI e11 d_126_14 fl_5_24 rfl rfl (ksLa gg0) rfl rfl ?_
    refine x_goto (tgt := 36) d_126_17 rfl ?_
    obtain rfl := Option.some.inj h
    exact x_ret (r := none) d_126_36 rfl
/-! NinetyPlayers$Acts.act -/
def j_122_13 (F G : Nat) (o2 : Nat) (S : St) (y2 : Int32) (y3 : Int32) (y4 : Int32) : Option (St) :=
  gd (inB (S.1 51 0) 40) (lt (sI S 52 (S.1 51 0).toNatClampNeg y2) fun S5 => gd (inB (S5.1 51 0) 40) (lt (sI S5 53 (S5.1 51 0).toNatClampNeg y3) fun S8 => bd (fL_valueOf F G S8 o2 y2 y3) fun v11 => gd (inB (S8.1 51 0) 40) (lt (sI S8 54 (S8.1 51 0).toNatClampNeg v11) fun S13 => gd (inB (S13.1 51 0) 40) (lt (sI S13 55 (S13.1 51 0).toNatClampNeg y4) fun S16 => lt (sI S16 51 0 ((S16.1 51 0) + (1 : Int32))) fun S18 => lt (sI S18 51 1 (S18.1 51 0)) fun S20 => bd (fL_put F G S20 o2 y2 y3 y4) fun S23 => some S23))))
def fC_act (F G : Nat) (S : St) (o2 : Nat) (p2 : Int32) (p3 : Int32) (p4 : Int32) : Option (St) :=
  gd (isLa o2) (if (S.1 51 0) < (40 : Int32) then j_122_13 F G o2  S p2 p3 p4 else bd (fC_dropOldest F G S ) fun S3 => j_122_13 F G o2  S3 p2 p3 p4)
set_option maxRecDepth 100000 in
set_option maxHeartbeats 4000000 in
theorem c_122 {X : Nat × (Nat → Int32)} {D F G : Nat} (hD : 2 ≤ D) {S : St} {o2 : Nat} {p2 : Int32} {p3 : Int32} {p4 : Int32} {res : St} (h : fC_act F G S o2 p2 p3 p4 = some res) : Ek X (D) m122 0 [(0, .ref 51), (1, .ref o2), (2, .int p2), (3, .int p3), (4, .int p4)] [] S none res := by
  obtain ⟨D, rfl⟩ : ∃ E, D = E + 1 := ⟨D - 1, by omega⟩
  unfold fC_act at h
  obtain ⟨gg0, h⟩ := gd_inv h
  have J13 : ∀ (S : St) (y2 : Int32) (y3 : Int32) (y4 : Int32) (res : St), j_122_13 F G o2 S y2 y3 y4 = some res → Ek X (D + 1) m122 13 [(0, .ref 51), (1, .ref o2), (2, .int y2), (3, .int y3), (4, .int y4)] [] S none res := by
    intro S y2 y3 y4 res h
    unfold j_122_13 at h
    refine x_aload_n d_122_13 rfl 0 rfl ?_
    refine y_getR d_122_14 fl_6_9 rfl kd_51 rr_51_2 ?_
    refine x_aload_n d_122_17 rfl 0 rfl ?_
    refine y_getI d_122_18 fl_6_24 rfl kd_51 ?_
    refine x_iload_n d_122_21 rfl 2 rfl ?_
    obtain ⟨g4, h⟩ := gd_inv h
    obtain ⟨S5, e6, h⟩ := lt_inv h
    refine y_iast e6 d_122_22 kd_52 g4 ?_
    refine x_aload_n d_122_23 rfl 0 rfl ?_
    refine y_getR d_122_24 fl_6_15 rfl kd_51 rr_51_3 ?_
    refine x_aload_n d_122_27 rfl 0 rfl ?_
    refine y_getI d_122_28 fl_6_24 rfl kd_51 ?_
    refine x_iload_n d_122_31 rfl 3 rfl ?_
    obtain ⟨g7, h⟩ := gd_inv h
    obtain ⟨S8, e9, h⟩ := lt_inv h
    refine y_iast e9 d_122_32 kd_53 g7 ?_
    refine x_aload_n d_122_33 rfl 0 rfl ?_
    refine y_getR d_122_34 fl_6_18 rfl kd_51 rr_51_4 ?_
    refine x_aload_n d_122_37 rfl 0 rfl ?_
    refine y_getI d_122_38 fl_6_24 rfl kd_51 ?_
    refine x_aload_n d_122_41 rfl 1 rfl ?_
    refine x_iload_n d_122_42 rfl 2 rfl ?_
    refine x_iload_n d_122_43 rfl 3 rfl ?_
    obtain ⟨v11, q10, h⟩ := bd_inv h
    refine y_V2i (v := v11) (S1 := S8) d_122_44 ml_6_34 (ksLa gg0) rfl (Nat.le_of_ble_eq_true rfl) (Nat.le_of_ble_eq_true rfl) (c_124 (by omega) q10) ?_
    obtain ⟨g12, h⟩ := gd_inv h
    obtain ⟨S13, e14, h⟩ := lt_inv h
    refine y_iast e14 d_122_47 kd_54 g12 ?_
    refine x_aload_n d_122_48 rfl 0 rfl ?_
    refine y_getR d_122_49 fl_6_21 rfl kd_51 rr_51_5 ?_
    refine x_aload_n d_122_52 rfl 0 rfl ?_
    refine y_getI d_122_53 fl_6_24 rfl kd_51 ?_
    refine x_iload d_122_56 4 rfl ?_
    obtain ⟨g15, h⟩ := gd_inv h
    obtain ⟨S16, e17, h⟩ := lt_inv h
    refine y_iast e17 d_122_58 kd_55 g15 ?_
    refine x_aload_n d_122_59 rfl 0 rfl ?_
    refine x_dup d_122_60 rfl ?_
    refine y_getI d_122_61 fl_6_24 rfl kd_51 ?_
    refine x_iconst d_122_64 ic_1 ?_
    refine x_iadd d_122_65 ?_
    obtain ⟨S18, e19, h⟩ := lt_inv h
    refine y_putI e19 d_122_66 fl_6_24 rfl rfl kd_51 rfl rfl ?_
    refine x_aload_n d_122_69 rfl 0 rfl ?_
    refine x_aload_n d_122_70 rfl 0 rfl ?_
    refine y_getI d_122_71 fl_6_24 rfl kd_51 ?_
    obtain ⟨S20, e21, h⟩ := lt_inv h
    refine y_putI e21 d_122_74 fl_6_28 rfl rfl kd_51 rfl rfl ?_
    refine x_aload_n d_122_77 rfl 1 rfl ?_
    refine x_iload_n d_122_78 rfl 2 rfl ?_
    refine x_iload_n d_122_79 rfl 3 rfl ?_
    refine x_iload d_122_80 4 rfl ?_
    obtain ⟨S23, q22, h⟩ := bd_inv h
    refine y_V3v (S1 := S23) d_122_82 ml_6_40 (ksLa gg0) rfl (Nat.le_of_ble_eq_true rfl) (Nat.le_of_ble_eq_true rfl) (c_126 (by omega) q22) ?_
    obtain rfl := Option.some.inj h
    exact x_ret (r := none) d_122_85 rfl
  refine x_aload_n d_122_0 rfl 0 rfl ?_
  refine y_getI d_122_1 fl_6_24 rfl kd_51 ?_
  refine x_bipush d_122_4 bp_40 ?_
  refine x_icmp_lt (tgt := 13) d_122_6 rfl (fun c1 => ?_) (fun c1 => ?_)
  · replace h := ite_t c1 h
    exact J13 S p2 p3 p4 _ h
  · replace h := ite_f c1 h
    refine x_aload_n d_122_9 rfl 0 rfl ?_
    obtain ⟨S3, q2, h⟩ := bd_inv h
    refine y_V0v (S1 := S3) d_122_10 ml_6_31 kd_51 rfl (Nat.le_of_ble_eq_true rfl) (Nat.le_of_ble_eq_true rfl) (c_123 (by omega) q2) ?_
    exact J13 S3 p2 p3 p4 _ h
/-! NinetyPlayers$Keyboard.clashingBeats -/
def b_128_5 (F G : Nat) (S : St) (z1 : Int32) (z2 : Int32) (rec : Int32 → Int32 → Option (Int32)) (w3 : Int32) (w4 : Int32) : Option (Int32) :=
  if (S.1 56 0) ≤ w4 then some w3 else bd (fK_clashesAt F G S z1 z2 w4) fun v3 => if v3 = 0 then lt (w4 + 1) fun v5 => rec w3 v5 else lt (w3 ||| ((1 : Int32) <<< (w4 &&& 31))) fun v7 => lt (w4 + 1) fun v9 => rec v7 v9
def fK_clashingBeats (F G : Nat) (S : St) (p1 : Int32) (p2 : Int32) : Option (Int32) :=
  fx2 (b_128_5 F G S p1 p2) F (0 : Int32) (0 : Int32)
set_option maxRecDepth 100000 in
set_option maxHeartbeats 4000000 in
theorem T_128_5 {X : Nat × (Nat → Int32)} {D F G : Nat} (hD : 4 ≤ D + 1) {S : St} {z1 : Int32} {z2 : Int32} : ∀ (f : Nat) (w3 : Int32) (w4 : Int32) (res : Int32), fx2 (b_128_5 F G S z1 z2 ) f w3 w4 = some res → Ek X (D + 1) m128 5 [(0, .ref 56), (1, .int z1), (2, .int z2), (3, .int w3), (4, .int w4)] [] S (some (.int res)) S := by
  refine fx2_ind ?_
  intro rec ih w3 w4 res h
  unfold b_128_5 at h
  refine x_iload d_128_5 4 rfl ?_
  refine x_aload_n d_128_7 rfl 0 rfl ?_
  refine y_getI d_128_8 fl_7_30 rfl kd_56 ?_
  refine x_icmp_ge (tgt := 38) d_128_11 rfl (fun c1 => ?_) (fun c1 => ?_)
  · replace h := ite_t c1 h
    refine x_iload_n d_128_38 rfl 3 rfl ?_
    obtain rfl := Option.some.inj h
    exact x_ret (r := some (.int w3)) d_128_39 ⟨_, rfl, rfl⟩
  · replace h := ite_f c1 h
    refine x_aload_n d_128_14 rfl 0 rfl ?_
    refine x_iload_n d_128_15 rfl 1 rfl ?_
    refine x_iload_n d_128_16 rfl 2 rfl ?_
    refine x_iload d_128_17 4 rfl ?_
    obtain ⟨v3, q2, h⟩ := bd_inv h
    refine y_V3i (v := v3) (S1 := S) d_128_19 ml_7_104 kd_56 rfl (Nat.le_of_ble_eq_true rfl) (Nat.le_of_ble_eq_true rfl) (c_114 (by omega) q2) ?_
    refine x_if_eq (tgt := 32) d_128_22 rfl (fun c4 => ?_) (fun c4 => ?_)
    · replace h := ite_t c4 h
      obtain ⟨v5, e6, h⟩ := lt_inv h
      refine y_iinc (L1 := [(0, .ref 56), (1, .int z1), (2, .int z2), (3, .int w3), (4, .int v5)]) e6 ic_1 d_128_32 4 rfl (Nat.le_of_ble_eq_true rfl) rfl rfl ?_
      refine x_goto (tgt := 5) d_128_35 rfl ?_
      exact ih w3 v5 _ h
    · replace h := ite_f c4 h
      refine x_iload_n d_128_25 rfl 3 rfl ?_
      refine x_iconst d_128_26 ic_1 ?_
      refine x_iload d_128_27 4 rfl ?_
      refine x_ishl d_128_29 ?_
      refine x_ior d_128_30 ?_
      obtain ⟨v7, e8, h⟩ := lt_inv h
      refine y_istore_n (L1 := [(0, .ref 56), (1, .int z1), (2, .int z2), (3, .int v7), (4, .int w4)]) e8 d_128_31 rfl (Nat.le_of_ble_eq_true rfl) rfl rfl ?_
      obtain ⟨v9, e10, h⟩ := lt_inv h
      refine y_iinc (L1 := [(0, .ref 56), (1, .int z1), (2, .int z2), (3, .int v7), (4, .int v9)]) e10 ic_1 d_128_32 4 rfl (Nat.le_of_ble_eq_true rfl) rfl rfl ?_
      refine x_goto (tgt := 5) d_128_35 rfl ?_
      exact ih v7 v9 _ h
set_option maxRecDepth 100000 in
set_option maxHeartbeats 4000000 in
theorem c_128 {X : Nat × (Nat → Int32)} {D F G : Nat} (hD : 4 ≤ D) {S : St} {p1 : Int32} {p2 : Int32} {res : Int32} (h : fK_clashingBeats F G S p1 p2 = some res) : Ek X (D) m128 0 [(0, .ref 56), (1, .int p1), (2, .int p2)] [] S (some (.int res)) S := by
  obtain ⟨D, rfl⟩ : ∃ E, D = E + 1 := ⟨D - 1, by omega⟩
  unfold fK_clashingBeats at h
  refine x_iconst d_128_0 ic_0 ?_
  refine x_istore_n (L1 := [(0, .ref 56), (1, .int p1), (2, .int p2), (3, .int (0 : Int32))]) d_128_1 rfl (Nat.le_of_ble_eq_true rfl) rfl rfl ?_
  refine x_iconst d_128_2 ic_0 ?_
  refine x_istore (L1 := [(0, .ref 56), (1, .int p1), (2, .int p2), (3, .int (0 : Int32)), (4, .int (0 : Int32))]) d_128_3 (Nat.le_of_ble_eq_true rfl) rfl rfl ?_
  refine T_128_5 (by omega)   F (0 : Int32) (0 : Int32) _ h
/-! NinetyPlayers.clashes -/
def fN_clashes (F G : Nat) (S : St) : Option (Int32 × St) :=
  bd (fN_lookAtKeys F G S ) fun S2 => bd (fK_clashingBeats F G S2 (S2.1 56 5) (S2.1 56 6)) fun v4 => some (v4, S2)
set_option maxRecDepth 100000 in
set_option maxHeartbeats 4000000 in
theorem c_127 {X : Nat × (Nat → Int32)} {D F G : Nat} (hD : 5 ≤ D) {S : St} {res : Int32 × St} (h : fN_clashes F G S  = some res) : Ek X (D) m127 0 [(0, .ref 0)] [] S (some (.int res.1)) res.2 := by
  obtain ⟨D, rfl⟩ : ∃ E, D = E + 1 := ⟨D - 1, by omega⟩
  unfold fN_clashes at h
  refine x_aload_n d_127_0 rfl 0 rfl ?_
  obtain ⟨S2, q1, h⟩ := bd_inv h
  refine y_V0v (S1 := S2) d_127_1 ml_0_173 kd_0 rfl (Nat.le_of_ble_eq_true rfl) (Nat.le_of_ble_eq_true rfl) (c_104 (by omega) q1) ?_
  refine x_aload_n d_127_4 rfl 0 rfl ?_
  refine y_getR d_127_5 fl_0_50 rfl kd_0 rr_0_7 ?_
  refine x_aload_n d_127_8 rfl 0 rfl ?_
  refine y_getR d_127_9 fl_0_50 rfl kd_0 rr_0_7 ?_
  refine y_getI d_127_12 fl_0_183 rfl kd_56 ?_
  refine x_aload_n d_127_15 rfl 0 rfl ?_
  refine y_getR d_127_16 fl_0_50 rfl kd_0 rr_0_7 ?_
  refine y_getI d_127_19 fl_0_186 rfl kd_56 ?_
  obtain ⟨v4, q3, h⟩ := bd_inv h
  refine y_V2i (v := v4) (S1 := S2) d_127_22 ml_0_253 kd_56 rfl (Nat.le_of_ble_eq_true rfl) (Nat.le_of_ble_eq_true rfl) (c_128 (by omega) q3) ?_
  obtain rfl := Option.some.inj h
  exact x_ret (r := some (.int v4)) d_127_25 ⟨_, rfl, rfl⟩
/-! NinetyPlayers.give -/
def fN_give (F G : Nat) (S : St) (p1 : Int32) (p2 : Int32) : Option (Int32 × St) :=
  bd (fN_isNote F G S p1) fun v2 => if v2 = 0 then some ((-1 : Int32), S) else if p2 < 0 then some ((-1 : Int32), S) else if (2 : Int32) < p2 then some ((-1 : Int32), S) else gd (inB p1 10) (if (S.1 31 p1.toNatClampNeg) = p2 then some ((-1 : Int32), S) else bd (fC_act F G S 30 (0 : Int32) p1 p2) fun S9 => bd2 (fN_clashes F G S9) fun v11 S12 => some (v11, S12))
set_option maxRecDepth 100000 in
set_option maxHeartbeats 4000000 in
theorem c_121 {X : Nat × (Nat → Int32)} {D F G : Nat} (hD : 6 ≤ D) {S : St} {p1 : Int32} {p2 : Int32} {res : Int32 × St} (h : fN_give F G S p1 p2 = some res) : Ek X (D) m121 0 [(0, .ref 0), (1, .int p1), (2, .int p2)] [] S (some (.int res.1)) res.2 := by
  obtain ⟨D, rfl⟩ : ∃ E, D = E + 1 := ⟨D - 1, by omega⟩
  unfold fN_give at h
  refine x_aload_n d_121_0 rfl 0 rfl ?_
  refine x_iload_n d_121_1 rfl 1 rfl ?_
  obtain ⟨v2, q1, h⟩ := bd_inv h
  refine y_V1i (v := v2) (S1 := S) d_121_2 ml_0_126 kd_0 rfl (Nat.le_of_ble_eq_true rfl) (Nat.le_of_ble_eq_true rfl) (c_87 (by omega) q1) ?_
  refine x_if_eq (tgt := 30) d_121_5 rfl (fun c3 => ?_) (fun c3 => ?_)
  · replace h := ite_t c3 h
    refine x_iconst d_121_30 ic_m1 ?_
    obtain rfl := Option.some.inj h
    exact x_ret (r := some (.int (-1 : Int32))) d_121_31 ⟨_, rfl, rfl⟩
  · replace h := ite_f c3 h
    refine x_iload_n d_121_8 rfl 2 rfl ?_
    refine x_if_lt (tgt := 30) d_121_9 rfl (fun c4 => ?_) (fun c4 => ?_)
    · replace h := ite_t c4 h
      refine x_iconst d_121_30 ic_m1 ?_
      obtain rfl := Option.some.inj h
      exact x_ret (r := some (.int (-1 : Int32))) d_121_31 ⟨_, rfl, rfl⟩
    · replace h := ite_f c4 h
      refine x_iload_n d_121_12 rfl 2 rfl ?_
      refine x_iconst d_121_13 ic_2 ?_
      refine x_icmp_gt (tgt := 30) d_121_14 rfl (fun c5 => ?_) (fun c5 => ?_)
      · replace h := ite_t c5 h
        refine x_iconst d_121_30 ic_m1 ?_
        obtain rfl := Option.some.inj h
        exact x_ret (r := some (.int (-1 : Int32))) d_121_31 ⟨_, rfl, rfl⟩
      · replace h := ite_f c5 h
        refine x_aload_n d_121_17 rfl 0 rfl ?_
        refine y_getR d_121_18 fl_0_32 rfl kd_0 rr_0_4 ?_
        refine y_getR d_121_21 fl_0_144 rfl kd_30 rr_30_2 ?_
        refine x_iload_n d_121_24 rfl 1 rfl ?_
        obtain ⟨g6, h⟩ := gd_inv h
        refine y_iald d_121_25 kd_31 g6 ?_
        refine x_iload_n d_121_26 rfl 2 rfl ?_
        refine x_icmp_ne (tgt := 32) d_121_27 rfl (fun c7 => ?_) (fun c7 => ?_)
        · replace h := ite_f c7 h
          refine x_aload_n d_121_32 rfl 0 rfl ?_
          refine y_getR d_121_33 fl_0_43 rfl kd_0 rr_0_6 ?_
          refine x_aload_n d_121_36 rfl 0 rfl ?_
          refine y_getR d_121_37 fl_0_32 rfl kd_0 rr_0_4 ?_
          refine x_iconst d_121_40 ic_0 ?_
          refine x_iload_n d_121_41 rfl 1 rfl ?_
          refine x_iload_n d_121_42 rfl 2 rfl ?_
          obtain ⟨S9, q8, h⟩ := bd_inv h
          refine y_V4v (S1 := S9) d_121_43 ml_0_233 kd_51 rfl (Nat.le_of_ble_eq_true rfl) (Nat.le_of_ble_eq_true rfl) (c_122 (by omega) q8) ?_
          refine x_aload_n d_121_46 rfl 0 rfl ?_
          obtain ⟨v11, S12, q10, h⟩ := bd2_inv h
          refine y_V0i (v := v11) (S1 := S12) d_121_47 ml_0_237 kd_0 rfl (Nat.le_of_ble_eq_true rfl) (Nat.le_of_ble_eq_true rfl) (c_127 (by omega) q10) ?_
          obtain rfl := Option.some.inj h
          exact x_ret (r := some (.int v11)) d_121_50 ⟨_, rfl, rfl⟩
        · replace h := ite_t c7 h
          refine x_iconst d_121_30 ic_m1 ?_
          obtain rfl := Option.some.inj h
          exact x_ret (r := some (.int (-1 : Int32))) d_121_31 ⟨_, rfl, rfl⟩
/-! NinetyPlayers.isKey -/
def fN_isKey (F G : Nat) (S : St) (p1 : Int32) : Option (Int32) :=
  if p1 < 0 then some (0 : Int32) else if (87 : Int32) < p1 then some (0 : Int32) else some (1 : Int32)
set_option maxRecDepth 100000 in
set_option maxHeartbeats 4000000 in
theorem c_130 {X : Nat × (Nat → Int32)} {D F G : Nat} (hD : 0 ≤ D) {S : St} {p1 : Int32} {res : Int32} (h : fN_isKey F G S p1 = some res) : Ek X (D) m130 0 [(0, .int p1)] [] S (some (.int res)) S := by
  unfold fN_isKey at h
  refine x_iload_n d_130_0 rfl 0 rfl ?_
  refine x_if_lt (tgt := 14) d_130_1 rfl (fun c1 => ?_) (fun c1 => ?_)
  · replace h := ite_t c1 h
    refine x_iconst d_130_14 ic_0 ?_
    obtain rfl := Option.some.inj h
    exact x_ret (r := some (.int (0 : Int32))) d_130_15 ⟨_, rfl, rfl⟩
  · replace h := ite_f c1 h
    refine x_iload_n d_130_4 rfl 0 rfl ?_
    refine x_bipush d_130_5 bp_87 ?_
    refine x_icmp_gt (tgt := 14) d_130_7 rfl (fun c2 => ?_) (fun c2 => ?_)
    · replace h := ite_t c2 h
      refine x_iconst d_130_14 ic_0 ?_
      obtain rfl := Option.some.inj h
      exact x_ret (r := some (.int (0 : Int32))) d_130_15 ⟨_, rfl, rfl⟩
    · replace h := ite_f c2 h
      refine x_iconst d_130_10 ic_1 ?_
      refine x_goto (tgt := 15) d_130_11 rfl ?_
      obtain rfl := Option.some.inj h
      exact x_ret (r := some (.int (1 : Int32))) d_130_15 ⟨_, rfl, rfl⟩
/-! NinetyPlayers.shift -/
def fN_shift (F G : Nat) (S : St) (p1 : Int32) (p2 : Int32) : Option (Int32 × St) :=
  bd (fN_isNote F G S p1) fun v2 => if v2 = 0 then some ((-1 : Int32), S) else if p2 < (-7 : Int32) then some ((-1 : Int32), S) else if (7 : Int32) < p2 then some ((-1 : Int32), S) else if p2 = 0 then some ((-1 : Int32), S) else gd (inB p1 10) (lt ((S.1 32 p1.toNatClampNeg) + (p2 * (12 : Int32))) fun v8 => bd (fN_isKey F G S v8) fun v11 => if v11 = 0 then some ((-1 : Int32), S) else bd (fC_act F G S 30 (1 : Int32) p1 v8) fun S14 => some (v8, S14))
set_option maxRecDepth 100000 in
set_option maxHeartbeats 4000000 in
theorem c_129 {X : Nat × (Nat → Int32)} {D F G : Nat} (hD : 3 ≤ D) {S : St} {p1 : Int32} {p2 : Int32} {res : Int32 × St} (h : fN_shift F G S p1 p2 = some res) : Ek X (D) m129 0 [(0, .ref 0), (1, .int p1), (2, .int p2)] [] S (some (.int res.1)) res.2 := by
  obtain ⟨D, rfl⟩ : ∃ E, D = E + 1 := ⟨D - 1, by omega⟩
  unfold fN_shift at h
  refine x_aload_n d_129_0 rfl 0 rfl ?_
  refine x_iload_n d_129_1 rfl 1 rfl ?_
  obtain ⟨v2, q1, h⟩ := bd_inv h
  refine y_V1i (v := v2) (S1 := S) d_129_2 ml_0_126 kd_0 rfl (Nat.le_of_ble_eq_true rfl) (Nat.le_of_ble_eq_true rfl) (c_87 (by omega) q1) ?_
  refine x_if_eq (tgt := 24) d_129_5 rfl (fun c3 => ?_) (fun c3 => ?_)
  · replace h := ite_t c3 h
    refine x_iconst d_129_24 ic_m1 ?_
    obtain rfl := Option.some.inj h
    exact x_ret (r := some (.int (-1 : Int32))) d_129_25 ⟨_, rfl, rfl⟩
  · replace h := ite_f c3 h
    refine x_iload_n d_129_8 rfl 2 rfl ?_
    refine x_bipush d_129_9 bp_m7 ?_
    refine x_icmp_lt (tgt := 24) d_129_11 rfl (fun c4 => ?_) (fun c4 => ?_)
    · replace h := ite_t c4 h
      refine x_iconst d_129_24 ic_m1 ?_
      obtain rfl := Option.some.inj h
      exact x_ret (r := some (.int (-1 : Int32))) d_129_25 ⟨_, rfl, rfl⟩
    · replace h := ite_f c4 h
      refine x_iload_n d_129_14 rfl 2 rfl ?_
      refine x_bipush d_129_15 bp_7 ?_
      refine x_icmp_gt (tgt := 24) d_129_17 rfl (fun c5 => ?_) (fun c5 => ?_)
      · replace h := ite_t c5 h
        refine x_iconst d_129_24 ic_m1 ?_
        obtain rfl := Option.some.inj h
        exact x_ret (r := some (.int (-1 : Int32))) d_129_25 ⟨_, rfl, rfl⟩
      · replace h := ite_f c5 h
        refine x_iload_n d_129_20 rfl 2 rfl ?_
        refine x_if_ne (tgt := 26) d_129_21 rfl (fun c6 => ?_) (fun c6 => ?_)
        · replace h := ite_f c6 h
          refine x_aload_n d_129_26 rfl 0 rfl ?_
          refine y_getR d_129_27 fl_0_32 rfl kd_0 rr_0_4 ?_
          refine y_getR d_129_30 fl_0_135 rfl kd_30 rr_30_3 ?_
          refine x_iload_n d_129_33 rfl 1 rfl ?_
          obtain ⟨g7, h⟩ := gd_inv h
          refine y_iald d_129_34 kd_32 g7 ?_
          refine x_iload_n d_129_35 rfl 2 rfl ?_
          refine x_bipush d_129_36 bp_12 ?_
          refine x_imul d_129_38 ?_
          refine x_iadd d_129_39 ?_
          obtain ⟨v8, e9, h⟩ := lt_inv h
          refine y_istore_n (L1 := [(0, .ref 0), (1, .int p1), (2, .int p2), (3, .int v8)]) e9 d_129_40 rfl (Nat.le_of_ble_eq_true rfl) rfl rfl ?_
          refine x_iload_n d_129_41 rfl 3 rfl ?_
          obtain ⟨v11, q10, h⟩ := bd_inv h
          refine y_S1i (v := v11) (S1 := S) d_129_42 ml_0_240 (Nat.le_of_ble_eq_true rfl) (Nat.le_of_ble_eq_true rfl) (c_130 (by omega) q10) ?_
          refine x_if_ne (tgt := 50) d_129_45 rfl (fun c12 => ?_) (fun c12 => ?_)
          · replace h := ite_f c12 h
            refine x_aload_n d_129_50 rfl 0 rfl ?_
            refine y_getR d_129_51 fl_0_43 rfl kd_0 rr_0_6 ?_
            refine x_aload_n d_129_54 rfl 0 rfl ?_
            refine y_getR d_129_55 fl_0_32 rfl kd_0 rr_0_4 ?_
            refine x_iconst d_129_58 ic_1 ?_
            refine x_iload_n d_129_59 rfl 1 rfl ?_
            refine x_iload_n d_129_60 rfl 3 rfl ?_
            obtain ⟨S14, q13, h⟩ := bd_inv h
            refine y_V4v (S1 := S14) d_129_61 ml_0_233 kd_51 rfl (Nat.le_of_ble_eq_true rfl) (Nat.le_of_ble_eq_true rfl) (c_122 (by omega) q13) ?_
            refine x_iload_n d_129_64 rfl 3 rfl ?_
            obtain rfl := Option.some.inj h
            exact x_ret (r := some (.int v8)) d_129_65 ⟨_, rfl, rfl⟩
          · replace h := ite_t c12 h
            refine x_iconst d_129_48 ic_m1 ?_
            obtain rfl := Option.some.inj h
            exact x_ret (r := some (.int (-1 : Int32))) d_129_49 ⟨_, rfl, rfl⟩
        · replace h := ite_t c6 h
          refine x_iconst d_129_24 ic_m1 ?_
          obtain rfl := Option.some.inj h
          exact x_ret (r := some (.int (-1 : Int32))) d_129_25 ⟨_, rfl, rfl⟩
/-! NinetyPlayers.louder -/
def fN_louder (F G : Nat) (S : St) (p1 : Int32) (p2 : Int32) : Option (Int32 × St) :=
  bd (fN_isNote F G S p1) fun v2 => if v2 = 0 then some ((-1 : Int32), S) else if p2 < (1 : Int32) then some ((-1 : Int32), S) else if (9 : Int32) < p2 then some ((-1 : Int32), S) else gd (inB p1 10) (if (S.1 34 p1.toNatClampNeg) = p2 then some ((-1 : Int32), S) else gd (inB p1 10) (lt (S.1 34 p1.toNatClampNeg) fun v9 => bd (fC_act F G S 30 (3 : Int32) p1 p2) fun S12 => some (v9, S12)))
set_option maxRecDepth 100000 in
set_option maxHeartbeats 4000000 in
theorem c_131 {X : Nat × (Nat → Int32)} {D F G : Nat} (hD : 3 ≤ D) {S : St} {p1 : Int32} {p2 : Int32} {res : Int32 × St} (h : fN_louder F G S p1 p2 = some res) : Ek X (D) m131 0 [(0, .ref 0), (1, .int p1), (2, .int p2)] [] S (some (.int res.1)) res.2 := by
  obtain ⟨D, rfl⟩ : ∃ E, D = E + 1 := ⟨D - 1, by omega⟩
  unfold fN_louder at h
  refine x_aload_n d_131_0 rfl 0 rfl ?_
  refine x_iload_n d_131_1 rfl 1 rfl ?_
  obtain ⟨v2, q1, h⟩ := bd_inv h
  refine y_V1i (v := v2) (S1 := S) d_131_2 ml_0_126 kd_0 rfl (Nat.le_of_ble_eq_true rfl) (Nat.le_of_ble_eq_true rfl) (c_87 (by omega) q1) ?_
  refine x_if_eq (tgt := 32) d_131_5 rfl (fun c3 => ?_) (fun c3 => ?_)
  · replace h := ite_t c3 h
    refine x_iconst d_131_32 ic_m1 ?_
    obtain rfl := Option.some.inj h
    exact x_ret (r := some (.int (-1 : Int32))) d_131_33 ⟨_, rfl, rfl⟩
  · replace h := ite_f c3 h
    refine x_iload_n d_131_8 rfl 2 rfl ?_
    refine x_iconst d_131_9 ic_1 ?_
    refine x_icmp_lt (tgt := 32) d_131_10 rfl (fun c4 => ?_) (fun c4 => ?_)
    · replace h := ite_t c4 h
      refine x_iconst d_131_32 ic_m1 ?_
      obtain rfl := Option.some.inj h
      exact x_ret (r := some (.int (-1 : Int32))) d_131_33 ⟨_, rfl, rfl⟩
    · replace h := ite_f c4 h
      refine x_iload_n d_131_13 rfl 2 rfl ?_
      refine x_bipush d_131_14 bp_9 ?_
      refine x_icmp_gt (tgt := 32) d_131_16 rfl (fun c5 => ?_) (fun c5 => ?_)
      · replace h := ite_t c5 h
        refine x_iconst d_131_32 ic_m1 ?_
        obtain rfl := Option.some.inj h
        exact x_ret (r := some (.int (-1 : Int32))) d_131_33 ⟨_, rfl, rfl⟩
      · replace h := ite_f c5 h
        refine x_aload_n d_131_19 rfl 0 rfl ?_
        refine y_getR d_131_20 fl_0_32 rfl kd_0 rr_0_4 ?_
        refine y_getR d_131_23 fl_0_141 rfl kd_30 rr_30_5 ?_
        refine x_iload_n d_131_26 rfl 1 rfl ?_
        obtain ⟨g6, h⟩ := gd_inv h
        refine y_iald d_131_27 kd_34 g6 ?_
        refine x_iload_n d_131_28 rfl 2 rfl ?_
        refine x_icmp_ne (tgt := 34) d_131_29 rfl (fun c7 => ?_) (fun c7 => ?_)
        · replace h := ite_f c7 h
          refine x_aload_n d_131_34 rfl 0 rfl ?_
          refine y_getR d_131_35 fl_0_32 rfl kd_0 rr_0_4 ?_
          refine y_getR d_131_38 fl_0_141 rfl kd_30 rr_30_5 ?_
          refine x_iload_n d_131_41 rfl 1 rfl ?_
          obtain ⟨g8, h⟩ := gd_inv h
          refine y_iald d_131_42 kd_34 g8 ?_
          obtain ⟨v9, e10, h⟩ := lt_inv h
          refine y_istore_n (L1 := [(0, .ref 0), (1, .int p1), (2, .int p2), (3, .int v9)]) e10 d_131_43 rfl (Nat.le_of_ble_eq_true rfl) rfl rfl ?_
          refine x_aload_n d_131_44 rfl 0 rfl ?_
          refine y_getR d_131_45 fl_0_43 rfl kd_0 rr_0_6 ?_
          refine x_aload_n d_131_48 rfl 0 rfl ?_
          refine y_getR d_131_49 fl_0_32 rfl kd_0 rr_0_4 ?_
          refine x_iconst d_131_52 ic_3 ?_
          refine x_iload_n d_131_53 rfl 1 rfl ?_
          refine x_iload_n d_131_54 rfl 2 rfl ?_
          obtain ⟨S12, q11, h⟩ := bd_inv h
          refine y_V4v (S1 := S12) d_131_55 ml_0_233 kd_51 rfl (Nat.le_of_ble_eq_true rfl) (Nat.le_of_ble_eq_true rfl) (c_122 (by omega) q11) ?_
          refine x_iload_n d_131_58 rfl 3 rfl ?_
          obtain rfl := Option.some.inj h
          exact x_ret (r := some (.int v9)) d_131_59 ⟨_, rfl, rfl⟩
        · replace h := ite_t c7 h
          refine x_iconst d_131_32 ic_m1 ?_
          obtain rfl := Option.some.inj h
          exact x_ret (r := some (.int (-1 : Int32))) d_131_33 ⟨_, rfl, rfl⟩
/-! NinetyPlayers.last -/
def fN_last (F G : Nat) (S : St) (p1 : Int32) (p2 : Int32) : Option (Int32 × St) :=
  bd (fN_isNote F G S p1) fun v2 => if v2 = 0 then some ((-1 : Int32), S) else if p2 < (1 : Int32) then some ((-1 : Int32), S) else if (12 : Int32) < p2 then some ((-1 : Int32), S) else gd (inB p1 10) (if (S.1 33 p1.toNatClampNeg) = p2 then some ((-1 : Int32), S) else gd (inB p1 10) (lt (S.1 33 p1.toNatClampNeg) fun v9 => bd (fC_act F G S 30 (2 : Int32) p1 p2) fun S12 => some (v9, S12)))
set_option maxRecDepth 100000 in
set_option maxHeartbeats 4000000 in
theorem c_132 {X : Nat × (Nat → Int32)} {D F G : Nat} (hD : 3 ≤ D) {S : St} {p1 : Int32} {p2 : Int32} {res : Int32 × St} (h : fN_last F G S p1 p2 = some res) : Ek X (D) m132 0 [(0, .ref 0), (1, .int p1), (2, .int p2)] [] S (some (.int res.1)) res.2 := by
  obtain ⟨D, rfl⟩ : ∃ E, D = E + 1 := ⟨D - 1, by omega⟩
  unfold fN_last at h
  refine x_aload_n d_132_0 rfl 0 rfl ?_
  refine x_iload_n d_132_1 rfl 1 rfl ?_
  obtain ⟨v2, q1, h⟩ := bd_inv h
  refine y_V1i (v := v2) (S1 := S) d_132_2 ml_0_126 kd_0 rfl (Nat.le_of_ble_eq_true rfl) (Nat.le_of_ble_eq_true rfl) (c_87 (by omega) q1) ?_
  refine x_if_eq (tgt := 32) d_132_5 rfl (fun c3 => ?_) (fun c3 => ?_)
  · replace h := ite_t c3 h
    refine x_iconst d_132_32 ic_m1 ?_
    obtain rfl := Option.some.inj h
    exact x_ret (r := some (.int (-1 : Int32))) d_132_33 ⟨_, rfl, rfl⟩
  · replace h := ite_f c3 h
    refine x_iload_n d_132_8 rfl 2 rfl ?_
    refine x_iconst d_132_9 ic_1 ?_
    refine x_icmp_lt (tgt := 32) d_132_10 rfl (fun c4 => ?_) (fun c4 => ?_)
    · replace h := ite_t c4 h
      refine x_iconst d_132_32 ic_m1 ?_
      obtain rfl := Option.some.inj h
      exact x_ret (r := some (.int (-1 : Int32))) d_132_33 ⟨_, rfl, rfl⟩
    · replace h := ite_f c4 h
      refine x_iload_n d_132_13 rfl 2 rfl ?_
      refine x_bipush d_132_14 bp_12 ?_
      refine x_icmp_gt (tgt := 32) d_132_16 rfl (fun c5 => ?_) (fun c5 => ?_)
      · replace h := ite_t c5 h
        refine x_iconst d_132_32 ic_m1 ?_
        obtain rfl := Option.some.inj h
        exact x_ret (r := some (.int (-1 : Int32))) d_132_33 ⟨_, rfl, rfl⟩
      · replace h := ite_f c5 h
        refine x_aload_n d_132_19 rfl 0 rfl ?_
        refine y_getR d_132_20 fl_0_32 rfl kd_0 rr_0_4 ?_
        refine y_getR d_132_23 fl_0_138 rfl kd_30 rr_30_4 ?_
        refine x_iload_n d_132_26 rfl 1 rfl ?_
        obtain ⟨g6, h⟩ := gd_inv h
        refine y_iald d_132_27 kd_33 g6 ?_
        refine x_iload_n d_132_28 rfl 2 rfl ?_
        refine x_icmp_ne (tgt := 34) d_132_29 rfl (fun c7 => ?_) (fun c7 => ?_)
        · replace h := ite_f c7 h
          refine x_aload_n d_132_34 rfl 0 rfl ?_
          refine y_getR d_132_35 fl_0_32 rfl kd_0 rr_0_4 ?_
          refine y_getR d_132_38 fl_0_138 rfl kd_30 rr_30_4 ?_
          refine x_iload_n d_132_41 rfl 1 rfl ?_
          obtain ⟨g8, h⟩ := gd_inv h
          refine y_iald d_132_42 kd_33 g8 ?_
          obtain ⟨v9, e10, h⟩ := lt_inv h
          refine y_istore_n (L1 := [(0, .ref 0), (1, .int p1), (2, .int p2), (3, .int v9)]) e10 d_132_43 rfl (Nat.le_of_ble_eq_true rfl) rfl rfl ?_
          refine x_aload_n d_132_44 rfl 0 rfl ?_
          refine y_getR d_132_45 fl_0_43 rfl kd_0 rr_0_6 ?_
          refine x_aload_n d_132_48 rfl 0 rfl ?_
          refine y_getR d_132_49 fl_0_32 rfl kd_0 rr_0_4 ?_
          refine x_iconst d_132_52 ic_2 ?_
          refine x_iload_n d_132_53 rfl 1 rfl ?_
          refine x_iload_n d_132_54 rfl 2 rfl ?_
          obtain ⟨S12, q11, h⟩ := bd_inv h
          refine y_V4v (S1 := S12) d_132_55 ml_0_233 kd_51 rfl (Nat.le_of_ble_eq_true rfl) (Nat.le_of_ble_eq_true rfl) (c_122 (by omega) q11) ?_
          refine x_iload_n d_132_58 rfl 3 rfl ?_
          obtain rfl := Option.some.inj h
          exact x_ret (r := some (.int v9)) d_132_59 ⟨_, rfl, rfl⟩
        · replace h := ite_t c7 h
          refine x_iconst d_132_32 ic_m1 ?_
          obtain rfl := Option.some.inj h
          exact x_ret (r := some (.int (-1 : Int32))) d_132_33 ⟨_, rfl, rfl⟩
/-! NinetyPlayers.pedal -/
def fN_pedal (F G : Nat) (S : St) (p1 : Int32) : Option (Int32 × St) :=
  bd (fN_isBeat F G S p1) fun v2 => if v2 = 0 then some ((-1 : Int32), S) else bd (fC_act F G S 30 (4 : Int32) p1 ((S.1 30 1) ^^^ ((1 : Int32) <<< (p1 &&& 31)))) fun S5 => some (S5.1 30 1, S5)
set_option maxRecDepth 100000 in
set_option maxHeartbeats 4000000 in
theorem c_133 {X : Nat × (Nat → Int32)} {D F G : Nat} (hD : 3 ≤ D) {S : St} {p1 : Int32} {res : Int32 × St} (h : fN_pedal F G S p1 = some res) : Ek X (D) m133 0 [(0, .ref 0), (1, .int p1)] [] S (some (.int res.1)) res.2 := by
  obtain ⟨D, rfl⟩ : ∃ E, D = E + 1 := ⟨D - 1, by omega⟩
  unfold fN_pedal at h
  refine x_aload_n d_133_0 rfl 0 rfl ?_
  refine x_iload_n d_133_1 rfl 1 rfl ?_
  obtain ⟨v2, q1, h⟩ := bd_inv h
  refine y_V1i (v := v2) (S1 := S) d_133_2 ml_0_167 kd_0 rfl (Nat.le_of_ble_eq_true rfl) (Nat.le_of_ble_eq_true rfl) (c_102 (by omega) q1) ?_
  refine x_if_ne (tgt := 10) d_133_5 rfl (fun c3 => ?_) (fun c3 => ?_)
  · replace h := ite_f c3 h
    refine x_aload_n d_133_10 rfl 0 rfl ?_
    refine y_getR d_133_11 fl_0_43 rfl kd_0 rr_0_6 ?_
    refine x_aload_n d_133_14 rfl 0 rfl ?_
    refine y_getR d_133_15 fl_0_32 rfl kd_0 rr_0_4 ?_
    refine x_iconst d_133_18 ic_4 ?_
    refine x_iload_n d_133_19 rfl 1 rfl ?_
    refine x_aload_n d_133_20 rfl 0 rfl ?_
    refine y_getR d_133_21 fl_0_32 rfl kd_0 rr_0_4 ?_
    refine y_getI d_133_24 fl_0_243 rfl kd_30 ?_
    refine x_iconst d_133_27 ic_1 ?_
    refine x_iload_n d_133_28 rfl 1 rfl ?_
    refine x_ishl d_133_29 ?_
    refine x_ixor d_133_30 ?_
    obtain ⟨S5, q4, h⟩ := bd_inv h
    refine y_V4v (S1 := S5) d_133_31 ml_0_233 kd_51 rfl (Nat.le_of_ble_eq_true rfl) (Nat.le_of_ble_eq_true rfl) (c_122 (by omega) q4) ?_
    refine x_aload_n d_133_34 rfl 0 rfl ?_
    refine y_getR d_133_35 fl_0_32 rfl kd_0 rr_0_4 ?_
    refine y_getI d_133_38 fl_0_243 rfl kd_30 ?_
    obtain rfl := Option.some.inj h
    exact x_ret (r := some (.int (S5.1 30 1))) d_133_41 ⟨_, rfl, rfl⟩
  · replace h := ite_t c3 h
    refine x_iconst d_133_8 ic_m1 ?_
    obtain rfl := Option.some.inj h
    exact x_ret (r := some (.int (-1 : Int32))) d_133_9 ⟨_, rfl, rfl⟩
/-! NinetyPlayers$Acts.takeBack -/
def fC_takeBack (F G : Nat) (S : St) (o2 : Nat) : Option (Int32 × St) :=
  gd (isLa o2) (if 0 < (S.1 51 0) then lt (sI S 51 0 ((S.1 51 0) - (1 : Int32))) fun S2 => gd (inB (S2.1 51 0) 40) (gd (inB (S2.1 51 0) 40) (gd (inB (S2.1 51 0) 40) (bd (fL_put F G S2 o2 (S2.1 52 (S2.1 51 0).toNatClampNeg) (S2.1 53 (S2.1 51 0).toNatClampNeg) (S2.1 54 (S2.1 51 0).toNatClampNeg)) fun S8 => some ((1 : Int32), S8)))) else some ((0 : Int32), S))
set_option maxRecDepth 100000 in
set_option maxHeartbeats 4000000 in
theorem c_135 {X : Nat × (Nat → Int32)} {D F G : Nat} (hD : 2 ≤ D) {S : St} {o2 : Nat} {res : Int32 × St} (h : fC_takeBack F G S o2 = some res) : Ek X (D) m135 0 [(0, .ref 51), (1, .ref o2)] [] S (some (.int res.1)) res.2 := by
  obtain ⟨D, rfl⟩ : ∃ E, D = E + 1 := ⟨D - 1, by omega⟩
  unfold fC_takeBack at h
  obtain ⟨gg0, h⟩ := gd_inv h
  refine x_aload_n d_135_0 rfl 0 rfl ?_
  refine y_getI d_135_1 fl_6_24 rfl kd_51 ?_
  refine x_if_gt (tgt := 9) d_135_4 rfl (fun c1 => ?_) (fun c1 => ?_)
  · replace h := ite_t c1 h
    refine x_aload_n d_135_9 rfl 0 rfl ?_
    refine x_dup d_135_10 rfl ?_
    refine y_getI d_135_11 fl_6_24 rfl kd_51 ?_
    refine x_iconst d_135_14 ic_1 ?_
    refine x_isub d_135_15 ?_
    obtain ⟨S2, e3, h⟩ := lt_inv h
    refine y_putI e3 d_135_16 fl_6_24 rfl rfl kd_51 rfl rfl ?_
    refine x_aload_n d_135_19 rfl 1 rfl ?_
    refine x_aload_n d_135_20 rfl 0 rfl ?_
    refine y_getR d_135_21 fl_6_9 rfl kd_51 rr_51_2 ?_
    refine x_aload_n d_135_24 rfl 0 rfl ?_
    refine y_getI d_135_25 fl_6_24 rfl kd_51 ?_
    obtain ⟨g4, h⟩ := gd_inv h
    refine y_iald d_135_28 kd_52 g4 ?_
    refine x_aload_n d_135_29 rfl 0 rfl ?_
    refine y_getR d_135_30 fl_6_15 rfl kd_51 rr_51_3 ?_
    refine x_aload_n d_135_33 rfl 0 rfl ?_
    refine y_getI d_135_34 fl_6_24 rfl kd_51 ?_
    obtain ⟨g5, h⟩ := gd_inv h
    refine y_iald d_135_37 kd_53 g5 ?_
    refine x_aload_n d_135_38 rfl 0 rfl ?_
    refine y_getR d_135_39 fl_6_18 rfl kd_51 rr_51_4 ?_
    refine x_aload_n d_135_42 rfl 0 rfl ?_
    refine y_getI d_135_43 fl_6_24 rfl kd_51 ?_
    obtain ⟨g6, h⟩ := gd_inv h
    refine y_iald d_135_46 kd_54 g6 ?_
    obtain ⟨S8, q7, h⟩ := bd_inv h
    refine y_V3v (S1 := S8) d_135_47 ml_6_40 (ksLa gg0) rfl (Nat.le_of_ble_eq_true rfl) (Nat.le_of_ble_eq_true rfl) (c_126 (by omega) q7) ?_
    refine x_iconst d_135_50 ic_1 ?_
    obtain rfl := Option.some.inj h
    exact x_ret (r := some (.int (1 : Int32))) d_135_51 ⟨_, rfl, rfl⟩
  · replace h := ite_f c1 h
    refine x_iconst d_135_7 ic_0 ?_
    obtain rfl := Option.some.inj h
    exact x_ret (r := some (.int (0 : Int32))) d_135_8 ⟨_, rfl, rfl⟩
/-! NinetyPlayers.undo -/
def fN_undo (F G : Nat) (S : St) : Option (Int32 × St) :=
  bd2 (fC_takeBack F G S 30) fun v2 S3 => gd (isB v2) (some (v2, S3))
set_option maxRecDepth 100000 in
set_option maxHeartbeats 4000000 in
theorem c_134 {X : Nat × (Nat → Int32)} {D F G : Nat} (hD : 3 ≤ D) {S : St} {res : Int32 × St} (h : fN_undo F G S  = some res) : Ek X (D) m134 0 [(0, .ref 0)] [] S (some (.int res.1)) res.2 := by
  obtain ⟨D, rfl⟩ : ∃ E, D = E + 1 := ⟨D - 1, by omega⟩
  unfold fN_undo at h
  refine x_aload_n d_134_0 rfl 0 rfl ?_
  refine y_getR d_134_1 fl_0_43 rfl kd_0 rr_0_6 ?_
  refine x_aload_n d_134_4 rfl 0 rfl ?_
  refine y_getR d_134_5 fl_0_32 rfl kd_0 rr_0_4 ?_
  obtain ⟨v2, S3, q1, h⟩ := bd2_inv h
  refine y_V1i (v := v2) (S1 := S3) d_134_8 ml_0_246 kd_51 rfl (Nat.le_of_ble_eq_true rfl) (Nat.le_of_ble_eq_true rfl) (c_135 (by omega) q1) ?_
  obtain ⟨g4, h⟩ := gd_inv h
  obtain rfl := Option.some.inj h
  exact x_ret (r := some (.int v2)) d_134_11 ⟨_, rfl, isB_nar g4⟩
/-! NinetyPlayers$Acts.doAgain -/
def fC_doAgain (F G : Nat) (S : St) (o2 : Nat) : Option (Int32 × St) :=
  gd (isLa o2) (if (S.1 51 0) < (S.1 51 1) then gd (inB (S.1 51 0) 40) (gd (inB (S.1 51 0) 40) (gd (inB (S.1 51 0) 40) (bd (fL_put F G S o2 (S.1 52 (S.1 51 0).toNatClampNeg) (S.1 53 (S.1 51 0).toNatClampNeg) (S.1 55 (S.1 51 0).toNatClampNeg)) fun S6 => lt (sI S6 51 0 ((S6.1 51 0) + (1 : Int32))) fun S7 => some ((1 : Int32), S7)))) else some ((0 : Int32), S))
set_option maxRecDepth 100000 in
set_option maxHeartbeats 4000000 in
theorem c_137 {X : Nat × (Nat → Int32)} {D F G : Nat} (hD : 2 ≤ D) {S : St} {o2 : Nat} {res : Int32 × St} (h : fC_doAgain F G S o2 = some res) : Ek X (D) m137 0 [(0, .ref 51), (1, .ref o2)] [] S (some (.int res.1)) res.2 := by
  obtain ⟨D, rfl⟩ : ∃ E, D = E + 1 := ⟨D - 1, by omega⟩
  unfold fC_doAgain at h
  obtain ⟨gg0, h⟩ := gd_inv h
  refine x_aload_n d_137_0 rfl 0 rfl ?_
  refine y_getI d_137_1 fl_6_24 rfl kd_51 ?_
  refine x_aload_n d_137_4 rfl 0 rfl ?_
  refine y_getI d_137_5 fl_6_28 rfl kd_51 ?_
  refine x_icmp_lt (tgt := 13) d_137_8 rfl (fun c1 => ?_) (fun c1 => ?_)
  · replace h := ite_t c1 h
    refine x_aload_n d_137_13 rfl 1 rfl ?_
    refine x_aload_n d_137_14 rfl 0 rfl ?_
    refine y_getR d_137_15 fl_6_9 rfl kd_51 rr_51_2 ?_
    refine x_aload_n d_137_18 rfl 0 rfl ?_
    refine y_getI d_137_19 fl_6_24 rfl kd_51 ?_
    obtain ⟨g2, h⟩ := gd_inv h
    refine y_iald d_137_22 kd_52 g2 ?_
    refine x_aload_n d_137_23 rfl 0 rfl ?_
    refine y_getR d_137_24 fl_6_15 rfl kd_51 rr_51_3 ?_
    refine x_aload_n d_137_27 rfl 0 rfl ?_
    refine y_getI d_137_28 fl_6_24 rfl kd_51 ?_
    obtain ⟨g3, h⟩ := gd_inv h
    refine y_iald d_137_31 kd_53 g3 ?_
    refine x_aload_n d_137_32 rfl 0 rfl ?_
    refine y_getR d_137_33 fl_6_21 rfl kd_51 rr_51_5 ?_
    refine x_aload_n d_137_36 rfl 0 rfl ?_
    refine y_getI d_137_37 fl_6_24 rfl kd_51 ?_
    obtain ⟨g4, h⟩ := gd_inv h
    refine y_iald d_137_40 kd_55 g4 ?_
    obtain ⟨S6, q5, h⟩ := bd_inv h
    refine y_V3v (S1 := S6) d_137_41 ml_6_40 (ksLa gg0) rfl (Nat.le_of_ble_eq_true rfl) (Nat.le_of_ble_eq_true rfl) (c_126 (by omega) q5) ?_
    refine x_aload_n d_137_44 rfl 0 rfl ?_
    refine x_dup d_137_45 rfl ?_
    refine y_getI d_137_46 fl_6_24 rfl kd_51 ?_
    refine x_iconst d_137_49 ic_1 ?_
    refine x_iadd d_137_50 ?_
    obtain ⟨S7, e8, h⟩ := lt_inv h
    refine y_putI e8 d_137_51 fl_6_24 rfl rfl kd_51 rfl rfl ?_
    refine x_iconst d_137_54 ic_1 ?_
    obtain rfl := Option.some.inj h
    exact x_ret (r := some (.int (1 : Int32))) d_137_55 ⟨_, rfl, rfl⟩
  · replace h := ite_f c1 h
    refine x_iconst d_137_11 ic_0 ?_
    obtain rfl := Option.some.inj h
    exact x_ret (r := some (.int (0 : Int32))) d_137_12 ⟨_, rfl, rfl⟩
/-! NinetyPlayers.redo -/
def fN_redo (F G : Nat) (S : St) : Option (Int32 × St) :=
  bd2 (fC_doAgain F G S 30) fun v2 S3 => gd (isB v2) (some (v2, S3))
set_option maxRecDepth 100000 in
set_option maxHeartbeats 4000000 in
theorem c_136 {X : Nat × (Nat → Int32)} {D F G : Nat} (hD : 3 ≤ D) {S : St} {res : Int32 × St} (h : fN_redo F G S  = some res) : Ek X (D) m136 0 [(0, .ref 0)] [] S (some (.int res.1)) res.2 := by
  obtain ⟨D, rfl⟩ : ∃ E, D = E + 1 := ⟨D - 1, by omega⟩
  unfold fN_redo at h
  refine x_aload_n d_136_0 rfl 0 rfl ?_
  refine y_getR d_136_1 fl_0_43 rfl kd_0 rr_0_6 ?_
  refine x_aload_n d_136_4 rfl 0 rfl ?_
  refine y_getR d_136_5 fl_0_32 rfl kd_0 rr_0_4 ?_
  obtain ⟨v2, S3, q1, h⟩ := bd2_inv h
  refine y_V1i (v := v2) (S1 := S3) d_136_8 ml_0_250 kd_51 rfl (Nat.le_of_ble_eq_true rfl) (Nat.le_of_ble_eq_true rfl) (c_137 (by omega) q1) ?_
  obtain ⟨g4, h⟩ := gd_inv h
  obtain rfl := Option.some.inj h
  exact x_ret (r := some (.int v2)) d_136_11 ⟨_, rfl, isB_nar g4⟩
/-! NinetyPlayers.loss -/
def b_138_4 (F G : Nat) (rec : Int32 → Int32 → St → Option (Int32 × St)) (w1 : Int32) (w2 : Int32) (S : St) : Option (Int32 × St) :=
  gd (isSc S.2.2.1) (if (S.1 S.2.2.1 6) ≤ w2 then some (w1, S) else gd (inB w2 10) (if (S.1 31 w2.toNatClampNeg) = 0 then bd2 (fN_missedOf F G S w2) fun v8 S9 => lt (w1 + v8) fun v10 => lt (w2 + 1) fun v12 => rec v10 v12 S9 else lt (w2 + 1) fun v5 => rec w1 v5 S))
def fN_loss (F G : Nat) (S : St) : Option (Int32 × St) :=
  fx3 (b_138_4 F G ) F (0 : Int32) (0 : Int32) S
set_option maxRecDepth 100000 in
set_option maxHeartbeats 4000000 in
theorem T_138_4 {X : Nat × (Nat → Int32)} {D F G : Nat} (hD : 4 ≤ D + 1) : ∀ (f : Nat) (w1 : Int32) (w2 : Int32) (S : St) (res : Int32 × St), fx3 (b_138_4 F G ) f w1 w2 S = some res → Ek X (D + 1) m138 4 [(0, .ref 0), (1, .int w1), (2, .int w2)] [] S (some (.int res.1)) res.2 := by
  refine fx3_ind ?_
  intro rec ih w1 w2 S res h
  unfold b_138_4 at h
  refine x_iload_n d_138_4 rfl 2 rfl ?_
  refine x_aload_n d_138_5 rfl 0 rfl ?_
  refine y_getR d_138_6 fl_0_25 rfl kd_0 rr_told ?_
  obtain ⟨g1, h⟩ := gd_inv h
  refine y_getI d_138_9 fl_0_117 rfl (ksSc g1) ?_
  refine x_icmp_ge (tgt := 41) d_138_12 rfl (fun c2 => ?_) (fun c2 => ?_)
  · replace h := ite_t c2 h
    refine x_iload_n d_138_41 rfl 1 rfl ?_
    obtain rfl := Option.some.inj h
    exact x_ret (r := some (.int w1)) d_138_42 ⟨_, rfl, rfl⟩
  · replace h := ite_f c2 h
    refine x_aload_n d_138_15 rfl 0 rfl ?_
    refine y_getR d_138_16 fl_0_32 rfl kd_0 rr_0_4 ?_
    refine y_getR d_138_19 fl_0_144 rfl kd_30 rr_30_2 ?_
    refine x_iload_n d_138_22 rfl 2 rfl ?_
    obtain ⟨g3, h⟩ := gd_inv h
    refine y_iald d_138_23 kd_31 g3 ?_
    refine x_if_ne (tgt := 35) d_138_24 rfl (fun c4 => ?_) (fun c4 => ?_)
    · replace h := ite_f c4 h
      obtain ⟨v5, e6, h⟩ := lt_inv h
      refine y_iinc (L1 := [(0, .ref 0), (1, .int w1), (2, .int v5)]) e6 ic_1 d_138_35 2 rfl (Nat.le_of_ble_eq_true rfl) rfl rfl ?_
      refine x_goto (tgt := 4) d_138_38 rfl ?_
      exact ih w1 v5 S _ h
    · replace h := ite_t c4 h
      refine x_iload_n d_138_27 rfl 1 rfl ?_
      refine x_aload_n d_138_28 rfl 0 rfl ?_
      refine x_iload_n d_138_29 rfl 2 rfl ?_
      obtain ⟨v8, S9, q7, h⟩ := bd2_inv h
      refine y_V1i (v := v8) (S1 := S9) d_138_30 ml_0_147 kd_0 rfl (Nat.le_of_ble_eq_true rfl) (Nat.le_of_ble_eq_true rfl) (c_88 (by omega) q7) ?_
      refine x_iadd d_138_33 ?_
      obtain ⟨v10, e11, h⟩ := lt_inv h
      refine y_istore_n (L1 := [(0, .ref 0), (1, .int v10), (2, .int w2)]) e11 d_138_34 rfl (Nat.le_of_ble_eq_true rfl) rfl rfl ?_
      obtain ⟨v12, e13, h⟩ := lt_inv h
      refine y_iinc (L1 := [(0, .ref 0), (1, .int v10), (2, .int v12)]) e13 ic_1 d_138_35 2 rfl (Nat.le_of_ble_eq_true rfl) rfl rfl ?_
      refine x_goto (tgt := 4) d_138_38 rfl ?_
      exact ih v10 v12 S9 _ h
set_option maxRecDepth 100000 in
set_option maxHeartbeats 4000000 in
theorem c_138 {X : Nat × (Nat → Int32)} {D F G : Nat} (hD : 4 ≤ D) {S : St} {res : Int32 × St} (h : fN_loss F G S  = some res) : Ek X (D) m138 0 [(0, .ref 0)] [] S (some (.int res.1)) res.2 := by
  obtain ⟨D, rfl⟩ : ∃ E, D = E + 1 := ⟨D - 1, by omega⟩
  unfold fN_loss at h
  refine x_iconst d_138_0 ic_0 ?_
  refine x_istore_n (L1 := [(0, .ref 0), (1, .int (0 : Int32))]) d_138_1 rfl (Nat.le_of_ble_eq_true rfl) rfl rfl ?_
  refine x_iconst d_138_2 ic_0 ?_
  refine x_istore_n (L1 := [(0, .ref 0), (1, .int (0 : Int32)), (2, .int (0 : Int32))]) d_138_3 rfl (Nat.le_of_ble_eq_true rfl) rfl rfl ?_
  refine T_138_4 (by omega)   F (0 : Int32) (0 : Int32) S _ h
/-! NinetyPlayers.weighAll -/
def b_141_2 (F G : Nat) (rec : Int32 → St → Option (St)) (w1 : Int32) (S : St) : Option (St) :=
  gd (isSc S.2.2.1) (if (S.1 S.2.2.1 6) ≤ w1 then some S else bd2 (fN_missedOf F G S w1) fun v4 S5 => gd (inB w1 10) (lt (sI S5 61 w1.toNatClampNeg v4) fun S7 => lt (w1 + 1) fun v9 => rec v9 S7))
def fN_weighAll (F G : Nat) (S : St) : Option (St) :=
  fx2 (b_141_2 F G ) F (0 : Int32) S
set_option maxRecDepth 100000 in
set_option maxHeartbeats 4000000 in
theorem T_141_2 {X : Nat × (Nat → Int32)} {D F G : Nat} (hD : 4 ≤ D + 1) : ∀ (f : Nat) (w1 : Int32) (S : St) (res : St), fx2 (b_141_2 F G ) f w1 S = some res → Ek X (D + 1) m141 2 [(0, .ref 0), (1, .int w1)] [] S none res := by
  refine fx2_ind ?_
  intro rec ih w1 S res h
  unfold b_141_2 at h
  refine x_iload_n d_141_2 rfl 1 rfl ?_
  refine x_aload_n d_141_3 rfl 0 rfl ?_
  refine y_getR d_141_4 fl_0_25 rfl kd_0 rr_told ?_
  obtain ⟨g1, h⟩ := gd_inv h
  refine y_getI d_141_7 fl_0_117 rfl (ksSc g1) ?_
  refine x_icmp_ge (tgt := 30) d_141_10 rfl (fun c2 => ?_) (fun c2 => ?_)
  · replace h := ite_t c2 h
    obtain rfl := Option.some.inj h
    exact x_ret (r := none) d_141_30 rfl
  · replace h := ite_f c2 h
    refine x_aload_n d_141_13 rfl 0 rfl ?_
    refine y_getR d_141_14 fl_0_54 rfl kd_0 rr_0_8 ?_
    refine x_iload_n d_141_17 rfl 1 rfl ?_
    refine x_aload_n d_141_18 rfl 0 rfl ?_
    refine x_iload_n d_141_19 rfl 1 rfl ?_
    obtain ⟨v4, S5, q3, h⟩ := bd2_inv h
    refine y_V1i (v := v4) (S1 := S5) d_141_20 ml_0_147 kd_0 rfl (Nat.le_of_ble_eq_true rfl) (Nat.le_of_ble_eq_true rfl) (c_88 (by omega) q3) ?_
    obtain ⟨g6, h⟩ := gd_inv h
    obtain ⟨S7, e8, h⟩ := lt_inv h
    refine y_iast e8 d_141_23 kd_61 g6 ?_
    obtain ⟨v9, e10, h⟩ := lt_inv h
    refine y_iinc (L1 := [(0, .ref 0), (1, .int v9)]) e10 ic_1 d_141_24 1 rfl (Nat.le_of_ble_eq_true rfl) rfl rfl ?_
    refine x_goto (tgt := 2) d_141_27 rfl ?_
    exact ih v9 S7 _ h
set_option maxRecDepth 100000 in
set_option maxHeartbeats 4000000 in
theorem c_141 {X : Nat × (Nat → Int32)} {D F G : Nat} (hD : 4 ≤ D) {S : St} {res : St} (h : fN_weighAll F G S  = some res) : Ek X (D) m141 0 [(0, .ref 0)] [] S none res := by
  obtain ⟨D, rfl⟩ : ∃ E, D = E + 1 := ⟨D - 1, by omega⟩
  unfold fN_weighAll at h
  refine x_iconst d_141_0 ic_0 ?_
  refine x_istore_n (L1 := [(0, .ref 0), (1, .int (0 : Int32))]) d_141_1 rfl (Nat.le_of_ble_eq_true rfl) rfl rfl ?_
  refine T_141_2 (by omega)   F (0 : Int32) S _ h
/-! NinetyPlayers$Arranger.findBars -/
def b_143_4 (F G : Nat) (S : St) (z1 : Int32) (k49 : Int32 → Option (St)) (rec : Int32 → Int32 → Option (St)) (w2 : Int32) (w3 : Int32) : Option (St) :=
  if (S.1 56 0) ≤ w3 then k49 w2 else bd (fK_timelyAt F G S w3) fun v3 => if ((v3 >>> (z1 &&& 31)) &&& (1 : Int32)) = 0 then lt (w2 ||| (0 : Int32)) fun v5 => lt (w3 + 1) fun v7 => rec v5 v7 else lt (w2 ||| v3) fun v9 => lt (w3 + 1) fun v11 => rec v9 v11
def j_143_172 (F G : Nat) (z1 : Int32) (z2 : Int32) (rec : Int32 → St → Option (St)) (S : St) (y3 : Int32) (y4 : Int32) (s1 : Int32) (s2 : Int32) (s3 : Int32) : Option (St) :=
  gd (inB s1 10) (lt (sI S 64 s1.toNatClampNeg (s2 ||| s3)) fun S43 => gd (inB z1 10) (if y4 < 0 then gd (inB z1 10) (lt (sI S43 65 z1.toNatClampNeg ((S43.1 65 z1.toNatClampNeg) ||| (0 : Int32))) fun S48 => lt (y3 + 1) fun v50 => rec v50 S48) else gd (inB z1 10) (lt (sI S43 65 z1.toNatClampNeg ((S43.1 65 z1.toNatClampNeg) ||| ((1 : Int32) <<< (y3 &&& 31)))) fun S53 => lt (y3 + 1) fun v55 => rec v55 S53)))
def j_143_151 (F G : Nat) (z1 : Int32) (z2 : Int32) (rec : Int32 → St → Option (St)) (S : St) (y3 : Int32) (y4 : Int32) (s1 : Int32) (s2 : Int32) (s3 : Int32) : Option (St) :=
  gd (inB s1 10) (lt (sI S 63 s1.toNatClampNeg (s2 ||| s3)) fun S38 => gd (inB z1 10) (if 0 < y4 then j_143_172 F G z1 z2 rec  S38 y3 y4 z1 (S38.1 64 z1.toNatClampNeg) (0 : Int32) else j_143_172 F G z1 z2 rec  S38 y3 y4 z1 (S38.1 64 z1.toNatClampNeg) ((1 : Int32) <<< (y3 &&& 31))))
def j_143_144 (F G : Nat) (z1 : Int32) (z2 : Int32) (rec : Int32 → St → Option (St)) (S : St) (y3 : Int32) (y4 : Int32) (s1 : Int32) (s2 : Int32) : Option (St) :=
  j_143_151 F G z1 z2 rec  S y3 y4 s1 s2 ((1 : Int32) <<< (y3 &&& 31))
def b_143_72 (F G : Nat) (z1 : Int32) (z2 : Int32) (rec : Int32 → St → Option (St)) (w3 : Int32) (S : St) : Option (St) :=
  if (S.1 56 1) ≤ w3 then some S else if w3 = z1 then lt (w3 + 1) fun v25 => rec v25 S else if ((z2 >>> (w3 &&& 31)) &&& (1 : Int32)) = 0 then lt (w3 + 1) fun v28 => rec v28 S else gd (inB w3 10) (gd (inB z1 10) (lt ((S.1 57 w3.toNatClampNeg) - (S.1 57 z1.toNatClampNeg)) fun v32 => gd (inB z1 10) (if v32 = 0 then j_143_144 F G z1 z2 rec  S w3 v32 z1 (S.1 63 z1.toNatClampNeg) else if (if 0 ≤ v32 then v32 else 0 - v32) ≤ (S.1 56 2) then j_143_151 F G z1 z2 rec  S w3 v32 z1 (S.1 63 z1.toNatClampNeg) (0 : Int32) else j_143_144 F G z1 z2 rec  S w3 v32 z1 (S.1 63 z1.toNatClampNeg))))
def fA_findBars (F G : Nat) (S : St) (p1 : Int32) : Option (St) :=
  fx2 (b_143_4 F G S p1 (fun v13 => gd (inB p1 10) (lt (sI S 63 p1.toNatClampNeg (0 : Int32)) fun S15 => gd (inB p1 10) (lt (sI S15 64 p1.toNatClampNeg (0 : Int32)) fun S18 => gd (inB p1 10) (lt (sI S18 65 p1.toNatClampNeg (0 : Int32)) fun S21 => fx2 (b_143_72 F G p1 v13) F (0 : Int32) S21))))) F (0 : Int32) (0 : Int32)
set_option maxRecDepth 100000 in
set_option maxHeartbeats 4000000 in
theorem T_143_4 {X : Nat × (Nat → Int32)} {D F G : Nat} (hD : 1 ≤ D + 1) {S : St} {z1 : Int32} {k49 : Int32 → Option (St)} (hk49 : ∀ (u2 : Int32) (res : St), k49 u2 = some res → Ek X (D + 1) m143 49 [(0, .ref 62), (1, .int z1), (2, .int u2)] [] S none res) : ∀ (f : Nat) (w2 : Int32) (w3 : Int32) (res : St), fx2 (b_143_4 F G S z1 k49 ) f w2 w3 = some res → Ek X (D + 1) m143 4 [(0, .ref 62), (1, .int z1), (2, .int w2), (3, .int w3)] [] S none res := by
  refine fx2_ind ?_
  intro rec ih w2 w3 res h
  unfold b_143_4 at h
  refine x_iload_n d_143_4 rfl 3 rfl ?_
  refine x_aload_n d_143_5 rfl 0 rfl ?_
  refine y_getR d_143_6 fl_8_24 rfl kd_62 rr_62_0 ?_
  refine y_getI d_143_9 fl_8_57 rfl kd_56 ?_
  refine x_icmp_ge (tgt := 49) d_143_12 rfl (fun c1 => ?_) (fun c1 => ?_)
  · replace h := ite_t c1 h
    refine y_pick (L1 := [(0, .ref 62), (1, .int z1), (2, .int w2)]) [0, 1, 2] rfl ?_
    exact hk49 w2 _ h
  · replace h := ite_f c1 h
    refine x_aload_n d_143_15 rfl 0 rfl ?_
    refine y_getR d_143_16 fl_8_24 rfl kd_62 rr_62_0 ?_
    refine x_iload_n d_143_19 rfl 3 rfl ?_
    obtain ⟨v3, q2, h⟩ := bd_inv h
    refine y_V1i (v := v3) (S1 := S) d_143_20 ml_8_60 kd_56 rfl (Nat.le_of_ble_eq_true rfl) (Nat.le_of_ble_eq_true rfl) (c_110 (by omega) q2) ?_
    refine x_istore (L1 := [(0, .ref 62), (1, .int z1), (2, .int w2), (3, .int w3), (4, .int v3)]) d_143_23 (Nat.le_of_ble_eq_true rfl) rfl rfl ?_
    refine x_iload_n d_143_25 rfl 2 rfl ?_
    refine x_iload d_143_26 4 rfl ?_
    refine x_iload_n d_143_28 rfl 1 rfl ?_
    refine x_ishr d_143_29 ?_
    refine x_iconst d_143_30 ic_1 ?_
    refine x_iand d_143_31 ?_
    refine x_if_eq (tgt := 40) d_143_32 rfl (fun c4 => ?_) (fun c4 => ?_)
    · replace h := ite_t c4 h
      refine x_iconst d_143_40 ic_0 ?_
      refine x_ior d_143_41 ?_
      obtain ⟨v5, e6, h⟩ := lt_inv h
      refine y_istore_n (L1 := [(0, .ref 62), (1, .int z1), (2, .int v5), (3, .int w3), (4, .int v3)]) e6 d_143_42 rfl (Nat.le_of_ble_eq_true rfl) rfl rfl ?_
      obtain ⟨v7, e8, h⟩ := lt_inv h
      refine y_iinc (L1 := [(0, .ref 62), (1, .int z1), (2, .int v5), (3, .int v7), (4, .int v3)]) e8 ic_1 d_143_43 3 rfl (Nat.le_of_ble_eq_true rfl) rfl rfl ?_
      refine x_goto (tgt := 4) d_143_46 rfl ?_
      refine y_pick (L1 := [(0, .ref 62), (1, .int z1), (2, .int v5), (3, .int v7)]) [0, 1, 2, 3] rfl ?_
      exact ih v5 v7 _ h
    · replace h := ite_f c4 h
      refine x_iload d_143_35 4 rfl ?_
      refine x_goto (tgt := 41) d_143_37 rfl ?_
      refine x_ior d_143_41 ?_
      obtain ⟨v9, e10, h⟩ := lt_inv h
      refine y_istore_n (L1 := [(0, .ref 62), (1, .int z1), (2, .int v9), (3, .int w3), (4, .int v3)]) e10 d_143_42 rfl (Nat.le_of_ble_eq_true rfl) rfl rfl ?_
      obtain ⟨v11, e12, h⟩ := lt_inv h
      refine y_iinc (L1 := [(0, .ref 62), (1, .int z1), (2, .int v9), (3, .int v11), (4, .int v3)]) e12 ic_1 d_143_43 3 rfl (Nat.le_of_ble_eq_true rfl) rfl rfl ?_
      refine x_goto (tgt := 4) d_143_46 rfl ?_
      refine y_pick (L1 := [(0, .ref 62), (1, .int z1), (2, .int v9), (3, .int v11)]) [0, 1, 2, 3] rfl ?_
      exact ih v9 v11 _ h
set_option maxRecDepth 100000 in
set_option maxHeartbeats 4000000 in
theorem T_143_72 {X : Nat × (Nat → Int32)} {D F G : Nat} (hD : 1 ≤ D + 1) {z1 : Int32} {z2 : Int32} : ∀ (f : Nat) (w3 : Int32) (S : St) (res : St), fx2 (b_143_72 F G z1 z2 ) f w3 S = some res → Ek X (D + 1) m143 72 [(0, .ref 62), (1, .int z1), (2, .int z2), (3, .int w3)] [] S none res := by
  refine fx2_ind ?_
  intro rec ih w3 S res h
  unfold b_143_72 at h
  have J172 : ∀ (S : St) (y3 : Int32) (y4 : Int32) (s1 : Int32) (s2 : Int32) (s3 : Int32) (res : St), j_143_172 F G z1 z2 rec S y3 y4 s1 s2 s3 = some res → Ek X (D + 1) m143 172 [(0, .ref 62), (1, .int z1), (2, .int z2), (3, .int y3), (4, .int y4)] [.int s3, .int s2, .int s1, .ref 64] S none res := by
    intro S y3 y4 s1 s2 s3 res h
    unfold j_143_172 at h
    refine x_ior d_143_172 ?_
    obtain ⟨g42, h⟩ := gd_inv h
    obtain ⟨S43, e44, h⟩ := lt_inv h
    refine y_iast e44 d_143_173 kd_64 g42 ?_
    refine x_aload_n d_143_174 rfl 0 rfl ?_
    refine y_getR d_143_175 fl_8_18 rfl kd_62 rr_62_7 ?_
    refine x_iload_n d_143_178 rfl 1 rfl ?_
    refine x_dup2 d_143_179 rfl rfl ?_
    obtain ⟨g45, h⟩ := gd_inv h
    refine y_iald d_143_180 kd_65 g45 ?_
    refine x_iload d_143_181 4 rfl ?_
    refine x_if_lt (tgt := 192) d_143_183 rfl (fun c46 => ?_) (fun c46 => ?_)
    · replace h := ite_t c46 h
      refine x_iconst d_143_192 ic_0 ?_
      refine x_ior d_143_193 ?_
      obtain ⟨g47, h⟩ := gd_inv h
      obtain ⟨S48, e49, h⟩ := lt_inv h
      refine y_iast e49 d_143_194 kd_65 g47 ?_
      obtain ⟨v50, e51, h⟩ := lt_inv h
      refine y_iinc (L1 := [(0, .ref 62), (1, .int z1), (2, .int z2), (3, .int v50), (4, .int y4)]) e51 ic_1 d_143_195 3 rfl (Nat.le_of_ble_eq_true rfl) rfl rfl ?_
      refine x_goto (tgt := 72) d_143_198 rfl ?_
      refine y_pick (L1 := [(0, .ref 62), (1, .int z1), (2, .int z2), (3, .int v50)]) [0, 1, 2, 3] rfl ?_
      exact ih v50 S48 _ h
    · replace h := ite_f c46 h
      refine x_iconst d_143_186 ic_1 ?_
      refine x_iload_n d_143_187 rfl 3 rfl ?_
      refine x_ishl d_143_188 ?_
      refine x_goto (tgt := 193) d_143_189 rfl ?_
      refine x_ior d_143_193 ?_
      obtain ⟨g52, h⟩ := gd_inv h
      obtain ⟨S53, e54, h⟩ := lt_inv h
      refine y_iast e54 d_143_194 kd_65 g52 ?_
      obtain ⟨v55, e56, h⟩ := lt_inv h
      refine y_iinc (L1 := [(0, .ref 62), (1, .int z1), (2, .int z2), (3, .int v55), (4, .int y4)]) e56 ic_1 d_143_195 3 rfl (Nat.le_of_ble_eq_true rfl) rfl rfl ?_
      refine x_goto (tgt := 72) d_143_198 rfl ?_
      refine y_pick (L1 := [(0, .ref 62), (1, .int z1), (2, .int z2), (3, .int v55)]) [0, 1, 2, 3] rfl ?_
      exact ih v55 S53 _ h
  have J151 : ∀ (S : St) (y3 : Int32) (y4 : Int32) (s1 : Int32) (s2 : Int32) (s3 : Int32) (res : St), j_143_151 F G z1 z2 rec S y3 y4 s1 s2 s3 = some res → Ek X (D + 1) m143 151 [(0, .ref 62), (1, .int z1), (2, .int z2), (3, .int y3), (4, .int y4)] [.int s3, .int s2, .int s1, .ref 63] S none res := by
    intro S y3 y4 s1 s2 s3 res h
    unfold j_143_151 at h
    refine x_ior d_143_151 ?_
    obtain ⟨g37, h⟩ := gd_inv h
    obtain ⟨S38, e39, h⟩ := lt_inv h
    refine y_iast e39 d_143_152 kd_63 g37 ?_
    refine x_aload_n d_143_153 rfl 0 rfl ?_
    refine y_getR d_143_154 fl_8_15 rfl kd_62 rr_62_6 ?_
    refine x_iload_n d_143_157 rfl 1 rfl ?_
    refine x_dup2 d_143_158 rfl rfl ?_
    obtain ⟨g40, h⟩ := gd_inv h
    refine y_iald d_143_159 kd_64 g40 ?_
    refine x_iload d_143_160 4 rfl ?_
    refine x_if_gt (tgt := 171) d_143_162 rfl (fun c41 => ?_) (fun c41 => ?_)
    · replace h := ite_t c41 h
      refine x_iconst d_143_171 ic_0 ?_
      exact J172 S38 y3 y4 z1 (S38.1 64 z1.toNatClampNeg) (0 : Int32) _ h
    · replace h := ite_f c41 h
      refine x_iconst d_143_165 ic_1 ?_
      refine x_iload_n d_143_166 rfl 3 rfl ?_
      refine x_ishl d_143_167 ?_
      refine x_goto (tgt := 172) d_143_168 rfl ?_
      exact J172 S38 y3 y4 z1 (S38.1 64 z1.toNatClampNeg) ((1 : Int32) <<< (y3 &&& 31)) _ h
  have J144 : ∀ (S : St) (y3 : Int32) (y4 : Int32) (s1 : Int32) (s2 : Int32) (res : St), j_143_144 F G z1 z2 rec S y3 y4 s1 s2 = some res → Ek X (D + 1) m143 144 [(0, .ref 62), (1, .int z1), (2, .int z2), (3, .int y3), (4, .int y4)] [.int s2, .int s1, .ref 63] S none res := by
    intro S y3 y4 s1 s2 res h
    unfold j_143_144 at h
    refine x_iconst d_143_144 ic_1 ?_
    refine x_iload_n d_143_145 rfl 3 rfl ?_
    refine x_ishl d_143_146 ?_
    refine x_goto (tgt := 151) d_143_147 rfl ?_
    exact J151 S y3 y4 s1 s2 ((1 : Int32) <<< (y3 &&& 31)) _ h
  refine x_iload_n d_143_72 rfl 3 rfl ?_
  refine x_aload_n d_143_73 rfl 0 rfl ?_
  refine y_getR d_143_74 fl_8_24 rfl kd_62 rr_62_0 ?_
  refine y_getI d_143_77 fl_8_38 rfl kd_56 ?_
  refine x_icmp_ge (tgt := 201) d_143_80 rfl (fun c23 => ?_) (fun c23 => ?_)
  · replace h := ite_t c23 h
    obtain rfl := Option.some.inj h
    exact x_ret (r := none) d_143_201 rfl
  · replace h := ite_f c23 h
    refine x_iload_n d_143_83 rfl 3 rfl ?_
    refine x_iload_n d_143_84 rfl 1 rfl ?_
    refine x_icmp_eq (tgt := 195) d_143_85 rfl (fun c24 => ?_) (fun c24 => ?_)
    · replace h := ite_t c24 h
      obtain ⟨v25, e26, h⟩ := lt_inv h
      refine y_iinc (L1 := [(0, .ref 62), (1, .int z1), (2, .int z2), (3, .int v25)]) e26 ic_1 d_143_195 3 rfl (Nat.le_of_ble_eq_true rfl) rfl rfl ?_
      refine x_goto (tgt := 72) d_143_198 rfl ?_
      exact ih v25 S _ h
    · replace h := ite_f c24 h
      refine x_iload_n d_143_88 rfl 2 rfl ?_
      refine x_iload_n d_143_89 rfl 3 rfl ?_
      refine x_ishr d_143_90 ?_
      refine x_iconst d_143_91 ic_1 ?_
      refine x_iand d_143_92 ?_
      refine x_if_eq (tgt := 195) d_143_93 rfl (fun c27 => ?_) (fun c27 => ?_)
      · replace h := ite_t c27 h
        obtain ⟨v28, e29, h⟩ := lt_inv h
        refine y_iinc (L1 := [(0, .ref 62), (1, .int z1), (2, .int z2), (3, .int v28)]) e29 ic_1 d_143_195 3 rfl (Nat.le_of_ble_eq_true rfl) rfl rfl ?_
        refine x_goto (tgt := 72) d_143_198 rfl ?_
        exact ih v28 S _ h
      · replace h := ite_f c27 h
        refine x_aload_n d_143_96 rfl 0 rfl ?_
        refine y_getR d_143_97 fl_8_24 rfl kd_62 rr_62_0 ?_
        refine y_getR d_143_100 fl_8_64 rfl kd_56 rr_56_8 ?_
        refine x_iload_n d_143_103 rfl 3 rfl ?_
        obtain ⟨g30, h⟩ := gd_inv h
        refine y_iald d_143_104 kd_57 g30 ?_
        refine x_aload_n d_143_105 rfl 0 rfl ?_
        refine y_getR d_143_106 fl_8_24 rfl kd_62 rr_62_0 ?_
        refine y_getR d_143_109 fl_8_64 rfl kd_56 rr_56_8 ?_
        refine x_iload_n d_143_112 rfl 1 rfl ?_
        obtain ⟨g31, h⟩ := gd_inv h
        refine y_iald d_143_113 kd_57 g31 ?_
        refine x_isub d_143_114 ?_
        obtain ⟨v32, e33, h⟩ := lt_inv h
        refine y_istore (L1 := [(0, .ref 62), (1, .int z1), (2, .int z2), (3, .int w3), (4, .int v32)]) e33 d_143_115 (Nat.le_of_ble_eq_true rfl) rfl rfl ?_
        refine x_aload_n d_143_117 rfl 0 rfl ?_
        refine y_getR d_143_118 fl_8_9 rfl kd_62 rr_62_5 ?_
        refine x_iload_n d_143_121 rfl 1 rfl ?_
        refine x_dup2 d_143_122 rfl rfl ?_
        obtain ⟨g34, h⟩ := gd_inv h
        refine y_iald d_143_123 kd_63 g34 ?_
        refine x_iload d_143_124 4 rfl ?_
        refine x_if_eq (tgt := 144) d_143_126 rfl (fun c35 => ?_) (fun c35 => ?_)
        · replace h := ite_t c35 h
          exact J144 S w3 v32 z1 (S.1 63 z1.toNatClampNeg) _ h
        · replace h := ite_f c35 h
          refine x_iload d_143_129 4 rfl ?_
          refine y_mabs d_143_131 ml_8_67 (Nat.le_of_ble_eq_true rfl) ?_
          refine x_aload_n d_143_134 rfl 0 rfl ?_
          refine y_getR d_143_135 fl_8_24 rfl kd_62 rr_62_0 ?_
          refine y_getI d_143_138 fl_8_72 rfl kd_56 ?_
          refine x_icmp_le (tgt := 150) d_143_141 rfl (fun c36 => ?_) (fun c36 => ?_)
          · replace h := ite_t c36 h
            refine x_iconst d_143_150 ic_0 ?_
            exact J151 S w3 v32 z1 (S.1 63 z1.toNatClampNeg) (0 : Int32) _ h
          · replace h := ite_f c36 h
            exact J144 S w3 v32 z1 (S.1 63 z1.toNatClampNeg) _ h
set_option maxRecDepth 100000 in
set_option maxHeartbeats 4000000 in
theorem c_143 {X : Nat × (Nat → Int32)} {D F G : Nat} (hD : 1 ≤ D) {S : St} {p1 : Int32} {res : St} (h : fA_findBars F G S p1 = some res) : Ek X (D) m143 0 [(0, .ref 62), (1, .int p1)] [] S none res := by
  obtain ⟨D, rfl⟩ : ∃ E, D = E + 1 := ⟨D - 1, by omega⟩
  unfold fA_findBars at h
  refine x_iconst d_143_0 ic_0 ?_
  refine x_istore_n (L1 := [(0, .ref 62), (1, .int p1), (2, .int (0 : Int32))]) d_143_1 rfl (Nat.le_of_ble_eq_true rfl) rfl rfl ?_
  refine x_iconst d_143_2 ic_0 ?_
  refine x_istore_n (L1 := [(0, .ref 62), (1, .int p1), (2, .int (0 : Int32)), (3, .int (0 : Int32))]) d_143_3 rfl (Nat.le_of_ble_eq_true rfl) rfl rfl ?_
  refine T_143_4 (by omega)  ?_ F (0 : Int32) (0 : Int32) _ h
  · intro v13 res h
    refine x_aload_n d_143_49 rfl 0 rfl ?_
    refine y_getR d_143_50 fl_8_9 rfl kd_62 rr_62_5 ?_
    refine x_iload_n d_143_53 rfl 1 rfl ?_
    refine x_iconst d_143_54 ic_0 ?_
    obtain ⟨g14, h⟩ := gd_inv h
    obtain ⟨S15, e16, h⟩ := lt_inv h
    refine y_iast e16 d_143_55 kd_63 g14 ?_
    refine x_aload_n d_143_56 rfl 0 rfl ?_
    refine y_getR d_143_57 fl_8_15 rfl kd_62 rr_62_6 ?_
    refine x_iload_n d_143_60 rfl 1 rfl ?_
    refine x_iconst d_143_61 ic_0 ?_
    obtain ⟨g17, h⟩ := gd_inv h
    obtain ⟨S18, e19, h⟩ := lt_inv h
    refine y_iast e19 d_143_62 kd_64 g17 ?_
    refine x_aload_n d_143_63 rfl 0 rfl ?_
    refine y_getR d_143_64 fl_8_18 rfl kd_62 rr_62_7 ?_
    refine x_iload_n d_143_67 rfl 1 rfl ?_
    refine x_iconst d_143_68 ic_0 ?_
    obtain ⟨g20, h⟩ := gd_inv h
    obtain ⟨S21, e22, h⟩ := lt_inv h
    refine y_iast e22 d_143_69 kd_65 g20 ?_
    refine x_iconst d_143_70 ic_0 ?_
    refine x_istore_n (L1 := [(0, .ref 62), (1, .int p1), (2, .int v13), (3, .int (0 : Int32))]) d_143_71 rfl (Nat.le_of_ble_eq_true rfl) rfl rfl ?_
    refine T_143_72 (by omega)   F (0 : Int32) S21 _ h
/-! NinetyPlayers$Arranger.findSettledLeaps -/
def b_144_9 (F G : Nat) (z1 : Int32) (rec : Int32 → St → Option (St)) (w2 : Int32) (S : St) : Option (St) :=
  if (S.1 56 0) ≤ w2 then some S else bd (fK_timelyAt F G S (w2 - (1 : Int32))) fun v6 => bd (fK_timelyAt F G S w2) fun v8 => lt (v6 ||| v8) fun v9 => gd (inB z1 10) (if (v9 >>> (z1 &&& 31)) = (1 : Int32) then gd (inB z1 10) (lt (sI S 66 z1.toNatClampNeg ((S.1 66 z1.toNatClampNeg) ||| ((1 : Int32) <<< (w2 &&& 31)))) fun S19 => lt (w2 + 1) fun v21 => rec v21 S19) else gd (inB z1 10) (lt (sI S 66 z1.toNatClampNeg ((S.1 66 z1.toNatClampNeg) ||| (0 : Int32))) fun S14 => lt (w2 + 1) fun v16 => rec v16 S14))
def fA_findSettledLeaps (F G : Nat) (S : St) (p1 : Int32) : Option (St) :=
  gd (inB p1 10) (lt (sI S 66 p1.toNatClampNeg (0 : Int32)) fun S2 => fx2 (b_144_9 F G p1) F (1 : Int32) S2)
set_option maxRecDepth 100000 in
set_option maxHeartbeats 4000000 in
theorem T_144_9 {X : Nat × (Nat → Int32)} {D F G : Nat} (hD : 1 ≤ D + 1) {z1 : Int32} : ∀ (f : Nat) (w2 : Int32) (S : St) (res : St), fx2 (b_144_9 F G z1 ) f w2 S = some res → Ek X (D + 1) m144 9 [(0, .ref 62), (1, .int z1), (2, .int w2)] [] S none res := by
  refine fx2_ind ?_
  intro rec ih w2 S res h
  unfold b_144_9 at h
  refine x_iload_n d_144_9 rfl 2 rfl ?_
  refine x_aload_n d_144_10 rfl 0 rfl ?_
  refine y_getR d_144_11 fl_8_24 rfl kd_62 rr_62_0 ?_
  refine y_getI d_144_14 fl_8_57 rfl kd_56 ?_
  refine x_icmp_ge (tgt := 69) d_144_17 rfl (fun c4 => ?_) (fun c4 => ?_)
  · replace h := ite_t c4 h
    obtain rfl := Option.some.inj h
    exact x_ret (r := none) d_144_69 rfl
  · replace h := ite_f c4 h
    refine x_aload_n d_144_20 rfl 0 rfl ?_
    refine y_getR d_144_21 fl_8_24 rfl kd_62 rr_62_0 ?_
    refine x_iload_n d_144_24 rfl 2 rfl ?_
    refine x_iconst d_144_25 ic_1 ?_
    refine x_isub d_144_26 ?_
    obtain ⟨v6, q5, h⟩ := bd_inv h
    refine y_V1i (v := v6) (S1 := S) d_144_27 ml_8_60 kd_56 rfl (Nat.le_of_ble_eq_true rfl) (Nat.le_of_ble_eq_true rfl) (c_110 (by omega) q5) ?_
    refine x_aload_n d_144_30 rfl 0 rfl ?_
    refine y_getR d_144_31 fl_8_24 rfl kd_62 rr_62_0 ?_
    refine x_iload_n d_144_34 rfl 2 rfl ?_
    obtain ⟨v8, q7, h⟩ := bd_inv h
    refine y_V1i (v := v8) (S1 := S) d_144_35 ml_8_60 kd_56 rfl (Nat.le_of_ble_eq_true rfl) (Nat.le_of_ble_eq_true rfl) (c_110 (by omega) q7) ?_
    refine x_ior d_144_38 ?_
    obtain ⟨v9, e10, h⟩ := lt_inv h
    refine y_istore_n (L1 := [(0, .ref 62), (1, .int z1), (2, .int w2), (3, .int v9)]) e10 d_144_39 rfl (Nat.le_of_ble_eq_true rfl) rfl rfl ?_
    refine x_aload_n d_144_40 rfl 0 rfl ?_
    refine y_getR d_144_41 fl_8_21 rfl kd_62 rr_62_8 ?_
    refine x_iload_n d_144_44 rfl 1 rfl ?_
    refine x_dup2 d_144_45 rfl rfl ?_
    obtain ⟨g11, h⟩ := gd_inv h
    refine y_iald d_144_46 kd_66 g11 ?_
    refine x_iload_n d_144_47 rfl 3 rfl ?_
    refine x_iload_n d_144_48 rfl 1 rfl ?_
    refine x_ishr d_144_49 ?_
    refine x_iconst d_144_50 ic_1 ?_
    refine x_icmp_ne (tgt := 60) d_144_51 rfl (fun c12 => ?_) (fun c12 => ?_)
    · replace h := ite_f c12 h
      refine x_iconst d_144_60 ic_0 ?_
      refine x_ior d_144_61 ?_
      obtain ⟨g13, h⟩ := gd_inv h
      obtain ⟨S14, e15, h⟩ := lt_inv h
      refine y_iast e15 d_144_62 kd_66 g13 ?_
      obtain ⟨v16, e17, h⟩ := lt_inv h
      refine y_iinc (L1 := [(0, .ref 62), (1, .int z1), (2, .int v16), (3, .int v9)]) e17 ic_1 d_144_63 2 rfl (Nat.le_of_ble_eq_true rfl) rfl rfl ?_
      refine x_goto (tgt := 9) d_144_66 rfl ?_
      refine y_pick (L1 := [(0, .ref 62), (1, .int z1), (2, .int v16)]) [0, 1, 2] rfl ?_
      exact ih v16 S14 _ h
    · replace h := ite_t c12 h
      refine x_iconst d_144_54 ic_1 ?_
      refine x_iload_n d_144_55 rfl 2 rfl ?_
      refine x_ishl d_144_56 ?_
      refine x_goto (tgt := 61) d_144_57 rfl ?_
      refine x_ior d_144_61 ?_
      obtain ⟨g18, h⟩ := gd_inv h
      obtain ⟨S19, e20, h⟩ := lt_inv h
      refine y_iast e20 d_144_62 kd_66 g18 ?_
      obtain ⟨v21, e22, h⟩ := lt_inv h
      refine y_iinc (L1 := [(0, .ref 62), (1, .int z1), (2, .int v21), (3, .int v9)]) e22 ic_1 d_144_63 2 rfl (Nat.le_of_ble_eq_true rfl) rfl rfl ?_
      refine x_goto (tgt := 9) d_144_66 rfl ?_
      refine y_pick (L1 := [(0, .ref 62), (1, .int z1), (2, .int v21)]) [0, 1, 2] rfl ?_
      exact ih v21 S19 _ h
set_option maxRecDepth 100000 in
set_option maxHeartbeats 4000000 in
theorem c_144 {X : Nat × (Nat → Int32)} {D F G : Nat} (hD : 1 ≤ D) {S : St} {p1 : Int32} {res : St} (h : fA_findSettledLeaps F G S p1 = some res) : Ek X (D) m144 0 [(0, .ref 62), (1, .int p1)] [] S none res := by
  obtain ⟨D, rfl⟩ : ∃ E, D = E + 1 := ⟨D - 1, by omega⟩
  unfold fA_findSettledLeaps at h
  refine x_aload_n d_144_0 rfl 0 rfl ?_
  refine y_getR d_144_1 fl_8_21 rfl kd_62 rr_62_8 ?_
  refine x_iload_n d_144_4 rfl 1 rfl ?_
  refine x_iconst d_144_5 ic_0 ?_
  obtain ⟨g1, h⟩ := gd_inv h
  obtain ⟨S2, e3, h⟩ := lt_inv h
  refine y_iast e3 d_144_6 kd_66 g1 ?_
  refine x_iconst d_144_7 ic_1 ?_
  refine x_istore_n (L1 := [(0, .ref 62), (1, .int p1), (2, .int (1 : Int32))]) d_144_8 rfl (Nat.le_of_ble_eq_true rfl) rfl rfl ?_
  refine T_144_9 (by omega)   F (1 : Int32) S2 _ h
/-! NinetyPlayers$Arranger.isFreeLeft -/
def fA_isFreeLeft (F G : Nat) (S : St) (p1 : Int32) (p2 : Int32) (p3 : Int32) : Option (Int32) :=
  gd (inB p1 10) (gd (inB p1 10) (if ((p2 &&& (S.1 63 p1.toNatClampNeg)) ||| (p3 &&& (S.1 64 p1.toNatClampNeg))) = 0 then some (1 : Int32) else some (0 : Int32)))
set_option maxRecDepth 100000 in
set_option maxHeartbeats 4000000 in
theorem c_146 {X : Nat × (Nat → Int32)} {D F G : Nat} (hD : 0 ≤ D) {S : St} {p1 : Int32} {p2 : Int32} {p3 : Int32} {res : Int32} (h : fA_isFreeLeft F G S p1 p2 p3 = some res) : Ek X (D) m146 0 [(0, .ref 62), (1, .int p1), (2, .int p2), (3, .int p3)] [] S (some (.int res)) S := by
  unfold fA_isFreeLeft at h
  refine x_iload_n d_146_0 rfl 2 rfl ?_
  refine x_aload_n d_146_1 rfl 0 rfl ?_
  refine y_getR d_146_2 fl_8_9 rfl kd_62 rr_62_5 ?_
  refine x_iload_n d_146_5 rfl 1 rfl ?_
  obtain ⟨g1, h⟩ := gd_inv h
  refine y_iald d_146_6 kd_63 g1 ?_
  refine x_iand d_146_7 ?_
  refine x_iload_n d_146_8 rfl 3 rfl ?_
  refine x_aload_n d_146_9 rfl 0 rfl ?_
  refine y_getR d_146_10 fl_8_15 rfl kd_62 rr_62_6 ?_
  refine x_iload_n d_146_13 rfl 1 rfl ?_
  obtain ⟨g2, h⟩ := gd_inv h
  refine y_iald d_146_14 kd_64 g2 ?_
  refine x_iand d_146_15 ?_
  refine x_ior d_146_16 ?_
  refine x_if_ne (tgt := 24) d_146_17 rfl (fun c3 => ?_) (fun c3 => ?_)
  · replace h := ite_f c3 h
    refine x_iconst d_146_24 ic_0 ?_
    obtain rfl := Option.some.inj h
    exact x_ret (r := some (.int (0 : Int32))) d_146_25 ⟨_, rfl, rfl⟩
  · replace h := ite_t c3 h
    refine x_iconst d_146_20 ic_1 ?_
    refine x_goto (tgt := 25) d_146_21 rfl ?_
    obtain rfl := Option.some.inj h
    exact x_ret (r := some (.int (1 : Int32))) d_146_25 ⟨_, rfl, rfl⟩
/-! NinetyPlayers$Arranger.fingersReach -/
def b_147_23 (F G : Nat) (S : St) (z1 : Int32) (z2 : Int32) (z3 : Int32) (rec : Int32 → Option (Int32)) (w4 : Int32) : Option (Int32) :=
  if z3 = 0 then if (S.1 56 0) ≤ w4 then some (1 : Int32) else bd (fK_timelyAt F G S w4) fun v7 => if ((v7 >>> (z1 &&& 31)) &&& (1 : Int32)) = 0 then lt (w4 + 1) fun v9 => rec v9 else bd (fJ_bitCount F G S (v7 &&& z2)) fun v12 => if v12 ≤ (S.1 56 3) then lt (w4 + 1) fun v14 => rec v14 else some (0 : Int32) else some (1 : Int32)
def fA_fingersReach (F G : Nat) (S : St) (p1 : Int32) (p2 : Int32) : Option (Int32) :=
  bd (fJ_bitCount F G S p2) fun v2 => if (S.1 56 3) < v2 then fx1 (b_147_23 F G S p1 p2 (0 : Int32)) F (0 : Int32) else fx1 (b_147_23 F G S p1 p2 (1 : Int32)) F (0 : Int32)
set_option maxRecDepth 100000 in
set_option maxHeartbeats 4000000 in
theorem T_147_23 {X : Nat × (Nat → Int32)} {D F G : Nat} (hD : 1 ≤ D + 1) {S : St} {z1 : Int32} {z2 : Int32} {z3 : Int32} : ∀ (f : Nat) (w4 : Int32) (res : Int32), fx1 (b_147_23 F G S z1 z2 z3 ) f w4 = some res → Ek X (D + 1) m147 23 [(0, .ref 62), (1, .int z1), (2, .int z2), (3, .int z3), (4, .int w4)] [] S (some (.int res)) S := by
  refine fx1_ind ?_
  intro rec ih w4 res h
  unfold b_147_23 at h
  refine x_iload_n d_147_23 rfl 3 rfl ?_
  refine x_if_ne (tgt := 84) d_147_24 rfl (fun c4 => ?_) (fun c4 => ?_)
  · replace h := ite_f c4 h
    refine x_iconst d_147_84 ic_1 ?_
    obtain rfl := Option.some.inj h
    exact x_ret (r := some (.int (1 : Int32))) d_147_85 ⟨_, rfl, rfl⟩
  · replace h := ite_t c4 h
    refine x_iload d_147_27 4 rfl ?_
    refine x_aload_n d_147_29 rfl 0 rfl ?_
    refine y_getR d_147_30 fl_8_24 rfl kd_62 rr_62_0 ?_
    refine y_getI d_147_33 fl_8_57 rfl kd_56 ?_
    refine x_icmp_ge (tgt := 84) d_147_36 rfl (fun c5 => ?_) (fun c5 => ?_)
    · replace h := ite_t c5 h
      refine x_iconst d_147_84 ic_1 ?_
      obtain rfl := Option.some.inj h
      exact x_ret (r := some (.int (1 : Int32))) d_147_85 ⟨_, rfl, rfl⟩
    · replace h := ite_f c5 h
      refine x_aload_n d_147_39 rfl 0 rfl ?_
      refine y_getR d_147_40 fl_8_24 rfl kd_62 rr_62_0 ?_
      refine x_iload d_147_43 4 rfl ?_
      obtain ⟨v7, q6, h⟩ := bd_inv h
      refine y_V1i (v := v7) (S1 := S) d_147_45 ml_8_60 kd_56 rfl (Nat.le_of_ble_eq_true rfl) (Nat.le_of_ble_eq_true rfl) (c_110 (by omega) q6) ?_
      refine x_istore (L1 := [(0, .ref 62), (1, .int z1), (2, .int z2), (3, .int z3), (4, .int w4), (5, .int v7)]) d_147_48 (Nat.le_of_ble_eq_true rfl) rfl rfl ?_
      refine x_iload d_147_50 5 rfl ?_
      refine x_iload_n d_147_52 rfl 1 rfl ?_
      refine x_ishr d_147_53 ?_
      refine x_iconst d_147_54 ic_1 ?_
      refine x_iand d_147_55 ?_
      refine x_if_eq (tgt := 78) d_147_56 rfl (fun c8 => ?_) (fun c8 => ?_)
      · replace h := ite_t c8 h
        obtain ⟨v9, e10, h⟩ := lt_inv h
        refine y_iinc (L1 := [(0, .ref 62), (1, .int z1), (2, .int z2), (3, .int z3), (4, .int v9), (5, .int v7)]) e10 ic_1 d_147_78 4 rfl (Nat.le_of_ble_eq_true rfl) rfl rfl ?_
        refine x_goto (tgt := 23) d_147_81 rfl ?_
        refine y_pick (L1 := [(0, .ref 62), (1, .int z1), (2, .int z2), (3, .int z3), (4, .int v9)]) [0, 1, 2, 3, 4] rfl ?_
        exact ih v9 _ h
      · replace h := ite_f c8 h
        refine x_iload d_147_59 5 rfl ?_
        refine x_iload_n d_147_61 rfl 2 rfl ?_
        refine x_iand d_147_62 ?_
        obtain ⟨v12, q11, h⟩ := bd_inv h
        refine y_S1i (v := v12) (S1 := S) d_147_63 ml_8_89 (Nat.le_of_ble_eq_true rfl) (Nat.le_of_ble_eq_true rfl) (c_91 (by omega) q11) ?_
        refine x_aload_n d_147_66 rfl 0 rfl ?_
        refine y_getR d_147_67 fl_8_24 rfl kd_62 rr_62_0 ?_
        refine y_getI d_147_70 fl_8_94 rfl kd_56 ?_
        refine x_icmp_le (tgt := 78) d_147_73 rfl (fun c13 => ?_) (fun c13 => ?_)
        · replace h := ite_t c13 h
          obtain ⟨v14, e15, h⟩ := lt_inv h
          refine y_iinc (L1 := [(0, .ref 62), (1, .int z1), (2, .int z2), (3, .int z3), (4, .int v14), (5, .int v7)]) e15 ic_1 d_147_78 4 rfl (Nat.le_of_ble_eq_true rfl) rfl rfl ?_
          refine x_goto (tgt := 23) d_147_81 rfl ?_
          refine y_pick (L1 := [(0, .ref 62), (1, .int z1), (2, .int z2), (3, .int z3), (4, .int v14)]) [0, 1, 2, 3, 4] rfl ?_
          exact ih v14 _ h
        · replace h := ite_f c13 h
          refine x_iconst d_147_76 ic_0 ?_
          obtain rfl := Option.some.inj h
          exact x_ret (r := some (.int (0 : Int32))) d_147_77 ⟨_, rfl, rfl⟩
set_option maxRecDepth 100000 in
set_option maxHeartbeats 4000000 in
theorem c_147 {X : Nat × (Nat → Int32)} {D F G : Nat} (hD : 1 ≤ D) {S : St} {p1 : Int32} {p2 : Int32} {res : Int32} (h : fA_fingersReach F G S p1 p2 = some res) : Ek X (D) m147 0 [(0, .ref 62), (1, .int p1), (2, .int p2)] [] S (some (.int res)) S := by
  obtain ⟨D, rfl⟩ : ∃ E, D = E + 1 := ⟨D - 1, by omega⟩
  unfold fA_fingersReach at h
  refine x_iload_n d_147_0 rfl 2 rfl ?_
  obtain ⟨v2, q1, h⟩ := bd_inv h
  refine y_S1i (v := v2) (S1 := S) d_147_1 ml_8_89 (Nat.le_of_ble_eq_true rfl) (Nat.le_of_ble_eq_true rfl) (c_91 (by omega) q1) ?_
  refine x_aload_n d_147_4 rfl 0 rfl ?_
  refine y_getR d_147_5 fl_8_24 rfl kd_62 rr_62_0 ?_
  refine y_getI d_147_8 fl_8_94 rfl kd_56 ?_
  refine x_icmp_gt (tgt := 18) d_147_11 rfl (fun c3 => ?_) (fun c3 => ?_)
  · replace h := ite_t c3 h
    refine x_iconst d_147_18 ic_0 ?_
    refine x_istore_n (L1 := [(0, .ref 62), (1, .int p1), (2, .int p2), (3, .int (0 : Int32))]) d_147_19 rfl (Nat.le_of_ble_eq_true rfl) rfl rfl ?_
    refine x_iconst d_147_20 ic_0 ?_
    refine x_istore (L1 := [(0, .ref 62), (1, .int p1), (2, .int p2), (3, .int (0 : Int32)), (4, .int (0 : Int32))]) d_147_21 (Nat.le_of_ble_eq_true rfl) rfl rfl ?_
    refine T_147_23 (by omega)   F (0 : Int32) _ h
  · replace h := ite_f c3 h
    refine x_iconst d_147_14 ic_1 ?_
    refine x_goto (tgt := 19) d_147_15 rfl ?_
    refine x_istore_n (L1 := [(0, .ref 62), (1, .int p1), (2, .int p2), (3, .int (1 : Int32))]) d_147_19 rfl (Nat.le_of_ble_eq_true rfl) rfl rfl ?_
    refine x_iconst d_147_20 ic_0 ?_
    refine x_istore (L1 := [(0, .ref 62), (1, .int p1), (2, .int p2), (3, .int (1 : Int32)), (4, .int (0 : Int32))]) d_147_21 (Nat.le_of_ble_eq_true rfl) rfl rfl ?_
    refine T_147_23 (by omega)   F (0 : Int32) _ h
/-! NinetyPlayers$Keyboard.leapBetween -/
def fK_leapBetween (F G : Nat) (S : St) (p1 : Int32) (p2 : Int32) : Option (Int32) :=
  if p1 = 0 then some (0 : Int32) else if p2 = 0 then some (0 : Int32) else bd (fK_lowest F G S p2) fun v4 => bd (fK_lowest F G S p1) fun v6 => some (if 0 ≤ (v4 - v6) then (v4 - v6) else 0 - (v4 - v6))
set_option maxRecDepth 100000 in
set_option maxHeartbeats 4000000 in
theorem c_149 {X : Nat × (Nat → Int32)} {D F G : Nat} (hD : 1 ≤ D) {S : St} {p1 : Int32} {p2 : Int32} {res : Int32} (h : fK_leapBetween F G S p1 p2 = some res) : Ek X (D) m149 0 [(0, .ref 56), (1, .int p1), (2, .int p2)] [] S (some (.int res)) S := by
  obtain ⟨D, rfl⟩ : ∃ E, D = E + 1 := ⟨D - 1, by omega⟩
  unfold fK_leapBetween at h
  refine x_iload_n d_149_0 rfl 1 rfl ?_
  refine x_if_eq (tgt := 8) d_149_1 rfl (fun c1 => ?_) (fun c1 => ?_)
  · replace h := ite_t c1 h
    refine x_iconst d_149_8 ic_0 ?_
    refine x_goto (tgt := 26) d_149_9 rfl ?_
    obtain rfl := Option.some.inj h
    exact x_ret (r := some (.int (0 : Int32))) d_149_26 ⟨_, rfl, rfl⟩
  · replace h := ite_f c1 h
    refine x_iload_n d_149_4 rfl 2 rfl ?_
    refine x_if_ne (tgt := 12) d_149_5 rfl (fun c2 => ?_) (fun c2 => ?_)
    · replace h := ite_f c2 h
      refine x_aload_n d_149_12 rfl 0 rfl ?_
      refine x_iload_n d_149_13 rfl 2 rfl ?_
      obtain ⟨v4, q3, h⟩ := bd_inv h
      refine y_V1i (v := v4) (S1 := S) d_149_14 ml_7_81 kd_56 rfl (Nat.le_of_ble_eq_true rfl) (Nat.le_of_ble_eq_true rfl) (c_117 (by omega) q3) ?_
      refine x_aload_n d_149_17 rfl 0 rfl ?_
      refine x_iload_n d_149_18 rfl 1 rfl ?_
      obtain ⟨v6, q5, h⟩ := bd_inv h
      refine y_V1i (v := v6) (S1 := S) d_149_19 ml_7_81 kd_56 rfl (Nat.le_of_ble_eq_true rfl) (Nat.le_of_ble_eq_true rfl) (c_117 (by omega) q5) ?_
      refine x_isub d_149_22 ?_
      refine y_mabs d_149_23 ml_7_84 (Nat.le_of_ble_eq_true rfl) ?_
      obtain rfl := Option.some.inj h
      exact x_ret (r := some (.int (if 0 ≤ (v4 - v6) then (v4 - v6) else 0 - (v4 - v6)))) d_149_26 ⟨_, rfl, rfl⟩
    · replace h := ite_t c2 h
      refine x_iconst d_149_8 ic_0 ?_
      refine x_goto (tgt := 26) d_149_9 rfl ?_
      obtain rfl := Option.some.inj h
      exact x_ret (r := some (.int (0 : Int32))) d_149_26 ⟨_, rfl, rfl⟩
/-! NinetyPlayers$Arranger.leapsFit -/
def b_148_11 (F G : Nat) (S : St) (z2 : Int32) (z3 : Int32) (z4 : Int32) (rec : Int32 → Option (Int32)) (w5 : Int32) : Option (Int32) :=
  if z4 = 0 then some (1 : Int32) else if (S.1 56 0) ≤ w5 then some (1 : Int32) else if ((z4 >>> (w5 &&& 31)) &&& (1 : Int32)) = 0 then lt (w5 + 1) fun v7 => rec v7 else bd (fK_timelyAt F G S (w5 - (1 : Int32))) fun v10 => bd (fK_timelyAt F G S w5) fun v12 => bd (fK_leapBetween F G S (z2 &&& v10) (z2 &&& v12)) fun v14 => bd (fK_leapBetween F G S (z3 &&& v10) (z3 &&& v12)) fun v16 => if (S.1 56 4) < v14 then some (0 : Int32) else if v16 ≤ (S.1 56 4) then lt (w5 + 1) fun v19 => rec v19 else some (0 : Int32)
def fA_leapsFit (F G : Nat) (S : St) (p1 : Int32) (p2 : Int32) (p3 : Int32) : Option (Int32) :=
  gd (inB p1 10) (lt (S.1 66 p1.toNatClampNeg) fun v2 => fx1 (b_148_11 F G S p2 p3 v2) F (1 : Int32))
set_option maxRecDepth 100000 in
set_option maxHeartbeats 4000000 in
theorem T_148_11 {X : Nat × (Nat → Int32)} {D F G : Nat} (hD : 2 ≤ D + 1) {S : St} {z2 : Int32} {z3 : Int32} {z4 : Int32} : ∀ (f : Nat) (w5 : Int32) (res : Int32), fx1 (b_148_11 F G S z2 z3 z4 ) f w5 = some res → Ek X (D + 1) m148 11 [(0, .ref 62), (2, .int z2), (3, .int z3), (4, .int z4), (5, .int w5)] [] S (some (.int res)) S := by
  refine fx1_ind ?_
  intro rec ih w5 res h
  unfold b_148_11 at h
  refine x_iload d_148_11 3 rfl ?_
  refine x_if_eq (tgt := 128) d_148_13 rfl (fun c4 => ?_) (fun c4 => ?_)
  · replace h := ite_t c4 h
    refine x_iconst d_148_128 ic_1 ?_
    obtain rfl := Option.some.inj h
    exact x_ret (r := some (.int (1 : Int32))) d_148_129 ⟨_, rfl, rfl⟩
  · replace h := ite_f c4 h
    refine x_iload d_148_16 4 rfl ?_
    refine x_aload_n d_148_18 rfl 0 rfl ?_
    refine y_getR d_148_19 fl_8_24 rfl kd_62 rr_62_0 ?_
    refine y_getI d_148_22 fl_8_57 rfl kd_56 ?_
    refine x_icmp_ge (tgt := 128) d_148_25 rfl (fun c5 => ?_) (fun c5 => ?_)
    · replace h := ite_t c5 h
      refine x_iconst d_148_128 ic_1 ?_
      obtain rfl := Option.some.inj h
      exact x_ret (r := some (.int (1 : Int32))) d_148_129 ⟨_, rfl, rfl⟩
    · replace h := ite_f c5 h
      refine x_iload d_148_28 3 rfl ?_
      refine x_iload d_148_30 4 rfl ?_
      refine x_ishr d_148_32 ?_
      refine x_iconst d_148_33 ic_1 ?_
      refine x_iand d_148_34 ?_
      refine x_if_eq (tgt := 122) d_148_35 rfl (fun c6 => ?_) (fun c6 => ?_)
      · replace h := ite_t c6 h
        obtain ⟨v7, e8, h⟩ := lt_inv h
        refine y_iinc (L1 := [(0, .ref 62), (2, .int z2), (3, .int z3), (4, .int z4), (5, .int v7)]) e8 ic_1 d_148_122 4 rfl (Nat.le_of_ble_eq_true rfl) rfl rfl ?_
        refine x_goto (tgt := 11) d_148_125 rfl ?_
        exact ih v7 _ h
      · replace h := ite_f c6 h
        refine x_aload_n d_148_38 rfl 0 rfl ?_
        refine y_getR d_148_39 fl_8_24 rfl kd_62 rr_62_0 ?_
        refine x_iload d_148_42 4 rfl ?_
        refine x_iconst d_148_44 ic_1 ?_
        refine x_isub d_148_45 ?_
        obtain ⟨v10, q9, h⟩ := bd_inv h
        refine y_V1i (v := v10) (S1 := S) d_148_46 ml_8_60 kd_56 rfl (Nat.le_of_ble_eq_true rfl) (Nat.le_of_ble_eq_true rfl) (c_110 (by omega) q9) ?_
        refine x_istore (L1 := [(0, .ref 62), (2, .int z2), (3, .int z3), (4, .int z4), (5, .int w5), (6, .int v10)]) d_148_49 (Nat.le_of_ble_eq_true rfl) rfl rfl ?_
        refine x_aload_n d_148_51 rfl 0 rfl ?_
        refine y_getR d_148_52 fl_8_24 rfl kd_62 rr_62_0 ?_
        refine x_iload d_148_55 4 rfl ?_
        obtain ⟨v12, q11, h⟩ := bd_inv h
        refine y_V1i (v := v12) (S1 := S) d_148_57 ml_8_60 kd_56 rfl (Nat.le_of_ble_eq_true rfl) (Nat.le_of_ble_eq_true rfl) (c_110 (by omega) q11) ?_
        refine x_istore (L1 := [(0, .ref 62), (2, .int z2), (3, .int z3), (4, .int z4), (5, .int w5), (6, .int v10), (7, .int v12)]) d_148_60 (Nat.le_of_ble_eq_true rfl) rfl rfl ?_
        refine x_aload_n d_148_62 rfl 0 rfl ?_
        refine y_getR d_148_63 fl_8_24 rfl kd_62 rr_62_0 ?_
        refine x_iload_n d_148_66 rfl 1 rfl ?_
        refine x_iload d_148_67 5 rfl ?_
        refine x_iand d_148_69 ?_
        refine x_iload_n d_148_70 rfl 1 rfl ?_
        refine x_iload d_148_71 6 rfl ?_
        refine x_iand d_148_73 ?_
        obtain ⟨v14, q13, h⟩ := bd_inv h
        refine y_V2i (v := v14) (S1 := S) d_148_74 ml_8_97 kd_56 rfl (Nat.le_of_ble_eq_true rfl) (Nat.le_of_ble_eq_true rfl) (c_149 (by omega) q13) ?_
        refine x_istore (L1 := [(0, .ref 62), (2, .int z2), (3, .int z3), (4, .int z4), (5, .int w5), (6, .int v10), (7, .int v12), (8, .int v14)]) d_148_77 (Nat.le_of_ble_eq_true rfl) rfl rfl ?_
        refine x_aload_n d_148_79 rfl 0 rfl ?_
        refine y_getR d_148_80 fl_8_24 rfl kd_62 rr_62_0 ?_
        refine x_iload_n d_148_83 rfl 2 rfl ?_
        refine x_iload d_148_84 5 rfl ?_
        refine x_iand d_148_86 ?_
        refine x_iload_n d_148_87 rfl 2 rfl ?_
        refine x_iload d_148_88 6 rfl ?_
        refine x_iand d_148_90 ?_
        obtain ⟨v16, q15, h⟩ := bd_inv h
        refine y_V2i (v := v16) (S1 := S) d_148_91 ml_8_97 kd_56 rfl (Nat.le_of_ble_eq_true rfl) (Nat.le_of_ble_eq_true rfl) (c_149 (by omega) q15) ?_
        refine x_istore (L1 := [(0, .ref 62), (2, .int z2), (3, .int z3), (4, .int z4), (5, .int w5), (6, .int v10), (7, .int v12), (8, .int v14), (9, .int v16)]) d_148_94 (Nat.le_of_ble_eq_true rfl) rfl rfl ?_
        refine x_iload d_148_96 7 rfl ?_
        refine x_aload_n d_148_98 rfl 0 rfl ?_
        refine y_getR d_148_99 fl_8_24 rfl kd_62 rr_62_0 ?_
        refine y_getI d_148_102 fl_8_101 rfl kd_56 ?_
        refine x_icmp_gt (tgt := 120) d_148_105 rfl (fun c17 => ?_) (fun c17 => ?_)
        · replace h := ite_t c17 h
          refine x_iconst d_148_120 ic_0 ?_
          obtain rfl := Option.some.inj h
          exact x_ret (r := some (.int (0 : Int32))) d_148_121 ⟨_, rfl, rfl⟩
        · replace h := ite_f c17 h
          refine x_iload d_148_108 8 rfl ?_
          refine x_aload_n d_148_110 rfl 0 rfl ?_
          refine y_getR d_148_111 fl_8_24 rfl kd_62 rr_62_0 ?_
          refine y_getI d_148_114 fl_8_101 rfl kd_56 ?_
          refine x_icmp_le (tgt := 122) d_148_117 rfl (fun c18 => ?_) (fun c18 => ?_)
          · replace h := ite_t c18 h
            obtain ⟨v19, e20, h⟩ := lt_inv h
            refine y_iinc (L1 := [(0, .ref 62), (2, .int z2), (3, .int z3), (4, .int z4), (5, .int v19), (6, .int v10), (7, .int v12), (8, .int v14), (9, .int v16)]) e20 ic_1 d_148_122 4 rfl (Nat.le_of_ble_eq_true rfl) rfl rfl ?_
            refine x_goto (tgt := 11) d_148_125 rfl ?_
            refine y_pick (L1 := [(0, .ref 62), (2, .int z2), (3, .int z3), (4, .int z4), (5, .int v19)]) [0, 1, 2, 3, 4] rfl ?_
            exact ih v19 _ h
          · replace h := ite_f c18 h
            refine x_iconst d_148_120 ic_0 ?_
            obtain rfl := Option.some.inj h
            exact x_ret (r := some (.int (0 : Int32))) d_148_121 ⟨_, rfl, rfl⟩
set_option maxRecDepth 100000 in
set_option maxHeartbeats 4000000 in
theorem c_148 {X : Nat × (Nat → Int32)} {D F G : Nat} (hD : 2 ≤ D) {S : St} {p1 : Int32} {p2 : Int32} {p3 : Int32} {res : Int32} (h : fA_leapsFit F G S p1 p2 p3 = some res) : Ek X (D) m148 0 [(0, .ref 62), (1, .int p1), (2, .int p2), (3, .int p3)] [] S (some (.int res)) S := by
  obtain ⟨D, rfl⟩ : ∃ E, D = E + 1 := ⟨D - 1, by omega⟩
  unfold fA_leapsFit at h
  refine x_aload_n d_148_0 rfl 0 rfl ?_
  refine y_getR d_148_1 fl_8_21 rfl kd_62 rr_62_8 ?_
  refine x_iload_n d_148_4 rfl 1 rfl ?_
  obtain ⟨g1, h⟩ := gd_inv h
  refine y_iald d_148_5 kd_66 g1 ?_
  obtain ⟨v2, e3, h⟩ := lt_inv h
  refine y_istore (L1 := [(0, .ref 62), (1, .int p1), (2, .int p2), (3, .int p3), (4, .int v2)]) e3 d_148_6 (Nat.le_of_ble_eq_true rfl) rfl rfl ?_
  refine x_iconst d_148_8 ic_1 ?_
  refine x_istore (L1 := [(0, .ref 62), (1, .int p1), (2, .int p2), (3, .int p3), (4, .int v2), (5, .int (1 : Int32))]) d_148_9 (Nat.le_of_ble_eq_true rfl) rfl rfl ?_
  refine y_pick (L1 := [(0, .ref 62), (2, .int p2), (3, .int p3), (4, .int v2), (5, .int (1 : Int32))]) [0, 2, 3, 4, 5] rfl ?_
  refine T_148_11 (by omega)   F (1 : Int32) _ h
/-! NinetyPlayers$Arranger.isFreeRight -/
def fA_isFreeRight (F G : Nat) (S : St) (p1 : Int32) (p2 : Int32) (p3 : Int32) : Option (Int32) :=
  gd (inB p1 10) (gd (inB p1 10) (if ((p3 &&& (S.1 63 p1.toNatClampNeg)) ||| (p2 &&& (S.1 65 p1.toNatClampNeg))) = 0 then some (1 : Int32) else some (0 : Int32)))
set_option maxRecDepth 100000 in
set_option maxHeartbeats 4000000 in
theorem c_150 {X : Nat × (Nat → Int32)} {D F G : Nat} (hD : 0 ≤ D) {S : St} {p1 : Int32} {p2 : Int32} {p3 : Int32} {res : Int32} (h : fA_isFreeRight F G S p1 p2 p3 = some res) : Ek X (D) m150 0 [(0, .ref 62), (1, .int p1), (2, .int p2), (3, .int p3)] [] S (some (.int res)) S := by
  unfold fA_isFreeRight at h
  refine x_iload_n d_150_0 rfl 3 rfl ?_
  refine x_aload_n d_150_1 rfl 0 rfl ?_
  refine y_getR d_150_2 fl_8_9 rfl kd_62 rr_62_5 ?_
  refine x_iload_n d_150_5 rfl 1 rfl ?_
  obtain ⟨g1, h⟩ := gd_inv h
  refine y_iald d_150_6 kd_63 g1 ?_
  refine x_iand d_150_7 ?_
  refine x_iload_n d_150_8 rfl 2 rfl ?_
  refine x_aload_n d_150_9 rfl 0 rfl ?_
  refine y_getR d_150_10 fl_8_18 rfl kd_62 rr_62_7 ?_
  refine x_iload_n d_150_13 rfl 1 rfl ?_
  obtain ⟨g2, h⟩ := gd_inv h
  refine y_iald d_150_14 kd_65 g2 ?_
  refine x_iand d_150_15 ?_
  refine x_ior d_150_16 ?_
  refine x_if_ne (tgt := 24) d_150_17 rfl (fun c3 => ?_) (fun c3 => ?_)
  · replace h := ite_f c3 h
    refine x_iconst d_150_24 ic_0 ?_
    obtain rfl := Option.some.inj h
    exact x_ret (r := some (.int (0 : Int32))) d_150_25 ⟨_, rfl, rfl⟩
  · replace h := ite_t c3 h
    refine x_iconst d_150_20 ic_1 ?_
    refine x_goto (tgt := 25) d_150_21 rfl ?_
    obtain rfl := Option.some.inj h
    exact x_ret (r := some (.int (1 : Int32))) d_150_25 ⟨_, rfl, rfl⟩
/-! NinetyPlayers$Arranger.search -/
def j_145_141 (F G : Nat) (P : Nat → Int32 → Int32 → Int32 → Int32 → St → Option St) (S : St) (y1 : Int32) (y2 : Int32) (y3 : Int32) (y4 : Int32) : Option (St) :=
  bd (fA_leapsFit F G S y1 y2 y3) fun v34 => if v34 = 0 then some S else gd (inB y1 10) (bd (P 0 (y1 + (1 : Int32)) y2 y3 (y4 + (S.1 61 y1.toNatClampNeg)) S) fun S38 => some S38)
def j_145_92 (F G : Nat) (P : Nat → Int32 → Int32 → Int32 → Int32 → St → Option St) (S : St) (y1 : Int32) (y2 : Int32) (y3 : Int32) (y4 : Int32) (y5 : Int32) : Option (St) :=
  bd (fA_isFreeRight F G S y1 y2 y3) fun v23 => if v23 = 0 then j_145_141 F G P  S y1 y2 y3 y4 else bd (fA_fingersReach F G S y1 (y3 ||| y5)) fun v26 => if v26 = 0 then j_145_141 F G P  S y1 y2 y3 y4 else bd (fA_leapsFit F G S y1 y2 (y3 ||| y5)) fun v29 => if v29 = 0 then j_145_141 F G P  S y1 y2 y3 y4 else bd (P 0 (y1 + (1 : Int32)) y2 (y3 ||| y5) y4 S) fun S32 => j_145_141 F G P  S32 y1 y2 y3 y4
def fA_search (F G : Nat) (P : Nat → Int32 → Int32 → Int32 → Int32 → St → Option St) (p1 : Int32) (p2 : Int32) (p3 : Int32) (p4 : Int32) (S : St) : Option (St) :=
  if p4 < (S.1 62 2) then if p1 < (S.1 56 1) then lt ((1 : Int32) <<< (p1 &&& 31)) fun v3 => bd (fA_isFreeLeft F G S p1 p2 p3) fun v6 => if v6 = 0 then j_145_92 F G P  S p1 p2 p3 p4 v3 else bd (fA_fingersReach F G S p1 (p2 ||| v3)) fun v9 => if v9 = 0 then j_145_92 F G P  S p1 p2 p3 p4 v3 else bd (fA_leapsFit F G S p1 (p2 ||| v3) p3) fun v12 => if v12 = 0 then j_145_92 F G P  S p1 p2 p3 p4 v3 else bd (P 0 (p1 + (1 : Int32)) (p2 ||| v3) p3 p4 S) fun S15 => j_145_92 F G P  S15 p1 p2 p3 p4 v3 else lt (sI S 62 2 p4) fun S16 => lt (sI S16 62 3 p2) fun S18 => lt (sI S18 62 4 p3) fun S20 => some S20 else some S
def fA_find (F G : Nat) : Nat → Nat → Int32 → Int32 → Int32 → Int32 → St → Option St
  | 0, _, _, _, _, _, _ => none
  | n + 1, l, p1, p2, p3, p4, S => if l = 0 then fA_search F G (fA_find F G n) p1 p2 p3 p4 S else none
set_option maxRecDepth 100000 in
set_option maxHeartbeats 4000000 in
theorem cb_145 {X : Nat × (Nat → Int32)} {D F G : Nat} (hD : 3 ≤ D) {P : Nat → Int32 → Int32 → Int32 → Int32 → St → Option St} (hP0 : ∀ (a1 : Int32) (a2 : Int32) (a3 : Int32) (a4 : Int32) (S S1 : St), P 0 a1 a2 a3 a4 S = some S1 → Ek X D m145 0 [(0, .ref 62), (1, .int a1), (2, .int a2), (3, .int a3), (4, .int a4)] [] S none S1) {S : St} {p1 : Int32} {p2 : Int32} {p3 : Int32} {p4 : Int32} {res : St} (h : fA_search F G P p1 p2 p3 p4 S = some res) : Ek X (D + 1) m145 0 [(0, .ref 62), (1, .int p1), (2, .int p2), (3, .int p3), (4, .int p4)] [] S none res := by
  unfold fA_search at h
  have J141 : ∀ (S : St) (y1 : Int32) (y2 : Int32) (y3 : Int32) (y4 : Int32) (res : St), j_145_141 F G P S y1 y2 y3 y4 = some res → Ek X (D + 1) m145 141 [(0, .ref 62), (1, .int y1), (2, .int y2), (3, .int y3), (4, .int y4)] [] S none res := by
    intro S y1 y2 y3 y4 res h
    unfold j_145_141 at h
    refine x_aload_n d_145_141 rfl 0 rfl ?_
    refine x_iload_n d_145_142 rfl 1 rfl ?_
    refine x_iload_n d_145_143 rfl 2 rfl ?_
    refine x_iload_n d_145_144 rfl 3 rfl ?_
    obtain ⟨v34, q33, h⟩ := bd_inv h
    refine y_V3i (v := v34) (S1 := S) d_145_145 ml_8_83 kd_62 rfl (Nat.le_of_ble_eq_true rfl) (Nat.le_of_ble_eq_true rfl) (c_148 (by omega) q33) ?_
    refine x_if_eq (tgt := 169) d_145_148 rfl (fun c35 => ?_) (fun c35 => ?_)
    · replace h := ite_t c35 h
      obtain rfl := Option.some.inj h
      exact x_ret (r := none) d_145_169 rfl
    · replace h := ite_f c35 h
      refine x_aload_n d_145_151 rfl 0 rfl ?_
      refine x_iload_n d_145_152 rfl 1 rfl ?_
      refine x_iconst d_145_153 ic_1 ?_
      refine x_iadd d_145_154 ?_
      refine x_iload_n d_145_155 rfl 2 rfl ?_
      refine x_iload_n d_145_156 rfl 3 rfl ?_
      refine x_iload d_145_157 4 rfl ?_
      refine x_aload_n d_145_159 rfl 0 rfl ?_
      refine y_getR d_145_160 fl_8_28 rfl kd_62 rr_62_1 ?_
      refine x_iload_n d_145_163 rfl 1 rfl ?_
      obtain ⟨g36, h⟩ := gd_inv h
      refine y_iald d_145_164 kd_61 g36 ?_
      refine x_iadd d_145_165 ?_
      obtain ⟨S38, q37, h⟩ := bd_inv h
      refine y_V4v (S1 := S38) d_145_166 ml_8_53 kd_62 rfl (Nat.le_of_ble_eq_true rfl) (Nat.le_of_ble_eq_true rfl) (hP0 _ _ _ _ _ _ q37) ?_
      obtain rfl := Option.some.inj h
      exact x_ret (r := none) d_145_169 rfl
  have J92 : ∀ (S : St) (y1 : Int32) (y2 : Int32) (y3 : Int32) (y4 : Int32) (y5 : Int32) (res : St), j_145_92 F G P S y1 y2 y3 y4 y5 = some res → Ek X (D + 1) m145 92 [(0, .ref 62), (1, .int y1), (2, .int y2), (3, .int y3), (4, .int y4), (5, .int y5)] [] S none res := by
    intro S y1 y2 y3 y4 y5 res h
    unfold j_145_92 at h
    refine x_aload_n d_145_92 rfl 0 rfl ?_
    refine x_iload_n d_145_93 rfl 1 rfl ?_
    refine x_iload_n d_145_94 rfl 2 rfl ?_
    refine x_iload_n d_145_95 rfl 3 rfl ?_
    obtain ⟨v23, q22, h⟩ := bd_inv h
    refine y_V3i (v := v23) (S1 := S) d_145_96 ml_8_86 kd_62 rfl (Nat.le_of_ble_eq_true rfl) (Nat.le_of_ble_eq_true rfl) (c_150 (by omega) q22) ?_
    refine x_if_eq (tgt := 141) d_145_99 rfl (fun c24 => ?_) (fun c24 => ?_)
    · replace h := ite_t c24 h
      refine y_pick (L1 := [(0, .ref 62), (1, .int y1), (2, .int y2), (3, .int y3), (4, .int y4)]) [0, 1, 2, 3, 4] rfl ?_
      exact J141 S y1 y2 y3 y4 _ h
    · replace h := ite_f c24 h
      refine x_aload_n d_145_102 rfl 0 rfl ?_
      refine x_iload_n d_145_103 rfl 1 rfl ?_
      refine x_iload_n d_145_104 rfl 3 rfl ?_
      refine x_iload d_145_105 5 rfl ?_
      refine x_ior d_145_107 ?_
      obtain ⟨v26, q25, h⟩ := bd_inv h
      refine y_V2i (v := v26) (S1 := S) d_145_108 ml_8_79 kd_62 rfl (Nat.le_of_ble_eq_true rfl) (Nat.le_of_ble_eq_true rfl) (c_147 (by omega) q25) ?_
      refine x_if_eq (tgt := 141) d_145_111 rfl (fun c27 => ?_) (fun c27 => ?_)
      · replace h := ite_t c27 h
        refine y_pick (L1 := [(0, .ref 62), (1, .int y1), (2, .int y2), (3, .int y3), (4, .int y4)]) [0, 1, 2, 3, 4] rfl ?_
        exact J141 S y1 y2 y3 y4 _ h
      · replace h := ite_f c27 h
        refine x_aload_n d_145_114 rfl 0 rfl ?_
        refine x_iload_n d_145_115 rfl 1 rfl ?_
        refine x_iload_n d_145_116 rfl 2 rfl ?_
        refine x_iload_n d_145_117 rfl 3 rfl ?_
        refine x_iload d_145_118 5 rfl ?_
        refine x_ior d_145_120 ?_
        obtain ⟨v29, q28, h⟩ := bd_inv h
        refine y_V3i (v := v29) (S1 := S) d_145_121 ml_8_83 kd_62 rfl (Nat.le_of_ble_eq_true rfl) (Nat.le_of_ble_eq_true rfl) (c_148 (by omega) q28) ?_
        refine x_if_eq (tgt := 141) d_145_124 rfl (fun c30 => ?_) (fun c30 => ?_)
        · replace h := ite_t c30 h
          refine y_pick (L1 := [(0, .ref 62), (1, .int y1), (2, .int y2), (3, .int y3), (4, .int y4)]) [0, 1, 2, 3, 4] rfl ?_
          exact J141 S y1 y2 y3 y4 _ h
        · replace h := ite_f c30 h
          refine x_aload_n d_145_127 rfl 0 rfl ?_
          refine x_iload_n d_145_128 rfl 1 rfl ?_
          refine x_iconst d_145_129 ic_1 ?_
          refine x_iadd d_145_130 ?_
          refine x_iload_n d_145_131 rfl 2 rfl ?_
          refine x_iload_n d_145_132 rfl 3 rfl ?_
          refine x_iload d_145_133 5 rfl ?_
          refine x_ior d_145_135 ?_
          refine x_iload d_145_136 4 rfl ?_
          obtain ⟨S32, q31, h⟩ := bd_inv h
          refine y_V4v (S1 := S32) d_145_138 ml_8_53 kd_62 rfl (Nat.le_of_ble_eq_true rfl) (Nat.le_of_ble_eq_true rfl) (hP0 _ _ _ _ _ _ q31) ?_
          refine y_pick (L1 := [(0, .ref 62), (1, .int y1), (2, .int y2), (3, .int y3), (4, .int y4)]) [0, 1, 2, 3, 4] rfl ?_
          exact J141 S32 y1 y2 y3 y4 _ h
  refine x_iload d_145_0 4 rfl ?_
  refine x_aload_n d_145_2 rfl 0 rfl ?_
  refine y_getI d_145_3 fl_8_50 rfl kd_62 ?_
  refine x_icmp_lt (tgt := 10) d_145_6 rfl (fun c1 => ?_) (fun c1 => ?_)
  · replace h := ite_t c1 h
    refine x_iload_n d_145_10 rfl 1 rfl ?_
    refine x_aload_n d_145_11 rfl 0 rfl ?_
    refine y_getR d_145_12 fl_8_24 rfl kd_62 rr_62_0 ?_
    refine y_getI d_145_15 fl_8_38 rfl kd_56 ?_
    refine x_icmp_lt (tgt := 38) d_145_18 rfl (fun c2 => ?_) (fun c2 => ?_)
    · replace h := ite_t c2 h
      refine x_iconst d_145_38 ic_1 ?_
      refine x_iload_n d_145_39 rfl 1 rfl ?_
      refine x_ishl d_145_40 ?_
      obtain ⟨v3, e4, h⟩ := lt_inv h
      refine y_istore (L1 := [(0, .ref 62), (1, .int p1), (2, .int p2), (3, .int p3), (4, .int p4), (5, .int v3)]) e4 d_145_41 (Nat.le_of_ble_eq_true rfl) rfl rfl ?_
      refine x_aload_n d_145_43 rfl 0 rfl ?_
      refine x_iload_n d_145_44 rfl 1 rfl ?_
      refine x_iload_n d_145_45 rfl 2 rfl ?_
      refine x_iload_n d_145_46 rfl 3 rfl ?_
      obtain ⟨v6, q5, h⟩ := bd_inv h
      refine y_V3i (v := v6) (S1 := S) d_145_47 ml_8_75 kd_62 rfl (Nat.le_of_ble_eq_true rfl) (Nat.le_of_ble_eq_true rfl) (c_146 (by omega) q5) ?_
      refine x_if_eq (tgt := 92) d_145_50 rfl (fun c7 => ?_) (fun c7 => ?_)
      · replace h := ite_t c7 h
        exact J92 S p1 p2 p3 p4 v3 _ h
      · replace h := ite_f c7 h
        refine x_aload_n d_145_53 rfl 0 rfl ?_
        refine x_iload_n d_145_54 rfl 1 rfl ?_
        refine x_iload_n d_145_55 rfl 2 rfl ?_
        refine x_iload d_145_56 5 rfl ?_
        refine x_ior d_145_58 ?_
        obtain ⟨v9, q8, h⟩ := bd_inv h
        refine y_V2i (v := v9) (S1 := S) d_145_59 ml_8_79 kd_62 rfl (Nat.le_of_ble_eq_true rfl) (Nat.le_of_ble_eq_true rfl) (c_147 (by omega) q8) ?_
        refine x_if_eq (tgt := 92) d_145_62 rfl (fun c10 => ?_) (fun c10 => ?_)
        · replace h := ite_t c10 h
          exact J92 S p1 p2 p3 p4 v3 _ h
        · replace h := ite_f c10 h
          refine x_aload_n d_145_65 rfl 0 rfl ?_
          refine x_iload_n d_145_66 rfl 1 rfl ?_
          refine x_iload_n d_145_67 rfl 2 rfl ?_
          refine x_iload d_145_68 5 rfl ?_
          refine x_ior d_145_70 ?_
          refine x_iload_n d_145_71 rfl 3 rfl ?_
          obtain ⟨v12, q11, h⟩ := bd_inv h
          refine y_V3i (v := v12) (S1 := S) d_145_72 ml_8_83 kd_62 rfl (Nat.le_of_ble_eq_true rfl) (Nat.le_of_ble_eq_true rfl) (c_148 (by omega) q11) ?_
          refine x_if_eq (tgt := 92) d_145_75 rfl (fun c13 => ?_) (fun c13 => ?_)
          · replace h := ite_t c13 h
            exact J92 S p1 p2 p3 p4 v3 _ h
          · replace h := ite_f c13 h
            refine x_aload_n d_145_78 rfl 0 rfl ?_
            refine x_iload_n d_145_79 rfl 1 rfl ?_
            refine x_iconst d_145_80 ic_1 ?_
            refine x_iadd d_145_81 ?_
            refine x_iload_n d_145_82 rfl 2 rfl ?_
            refine x_iload d_145_83 5 rfl ?_
            refine x_ior d_145_85 ?_
            refine x_iload_n d_145_86 rfl 3 rfl ?_
            refine x_iload d_145_87 4 rfl ?_
            obtain ⟨S15, q14, h⟩ := bd_inv h
            refine y_V4v (S1 := S15) d_145_89 ml_8_53 kd_62 rfl (Nat.le_of_ble_eq_true rfl) (Nat.le_of_ble_eq_true rfl) (hP0 _ _ _ _ _ _ q14) ?_
            exact J92 S15 p1 p2 p3 p4 v3 _ h
    · replace h := ite_f c2 h
      refine x_aload_n d_145_21 rfl 0 rfl ?_
      refine x_iload d_145_22 4 rfl ?_
      obtain ⟨S16, e17, h⟩ := lt_inv h
      refine y_putI e17 d_145_24 fl_8_50 rfl rfl kd_62 rfl rfl ?_
      refine x_aload_n d_145_27 rfl 0 rfl ?_
      refine x_iload_n d_145_28 rfl 2 rfl ?_
      obtain ⟨S18, e19, h⟩ := lt_inv h
      refine y_putI e19 d_145_29 fl_8_31 rfl rfl kd_62 rfl rfl ?_
      refine x_aload_n d_145_32 rfl 0 rfl ?_
      refine x_iload_n d_145_33 rfl 3 rfl ?_
      obtain ⟨S20, e21, h⟩ := lt_inv h
      refine y_putI e21 d_145_34 fl_8_35 rfl rfl kd_62 rfl rfl ?_
      obtain rfl := Option.some.inj h
      exact x_ret (r := none) d_145_37 rfl
  · replace h := ite_f c1 h
    obtain rfl := Option.some.inj h
    exact x_ret (r := none) d_145_9 rfl
theorem cg_1 {X : Nat × (Nat → Int32)} {F G : Nat} (n : Nat) : (∀ (D : Nat), 3 + n ≤ D → ∀ (p1 : Int32) (p2 : Int32) (p3 : Int32) (p4 : Int32) (S S1 : St), fA_find F G n 0 p1 p2 p3 p4 S = some S1 → Ek X D m145 0 [(0, .ref 62), (1, .int p1), (2, .int p2), (3, .int p3), (4, .int p4)] [] S none S1) := by
  induction n with
  | zero => exact (fun _ _ _ _ _ _ _ _ h => (by cases h))
  | succ n ih =>
    have i0 := ih
    skip
    · intro D hD p1 p2 p3 p4 S S1 h
      obtain ⟨D, rfl⟩ : ∃ E, D = E + 1 := ⟨D - 1, by omega⟩
      have h : fA_search F G (fA_find F G n) p1 p2 p3 p4 S = some S1 := h
      exact cb_145 (by omega) (i0 D (by omega)) h
theorem c_145 {X : Nat × (Nat → Int32)} {D F G : Nat} (hD : 3 + G ≤ D) {S : St} {p1 : Int32} {p2 : Int32} {p3 : Int32} {p4 : Int32} {res : St} (h : fA_find F G G 0 p1 p2 p3 p4 S = some res) : Ek X D m145 0 [(0, .ref 62), (1, .int p1), (2, .int p2), (3, .int p3), (4, .int p4)] [] S none res := (cg_1 G) D hD p1 p2 p3 p4 S res h
/-! NinetyPlayers$Arranger.arrange -/
def b_142_2 (F G : Nat) (k29 : St → Option (St)) (rec : Int32 → St → Option (St)) (w1 : Int32) (S : St) : Option (St) :=
  if (S.1 56 1) ≤ w1 then k29 S else bd (fA_findBars F G S w1) fun S3 => bd (fA_findSettledLeaps F G S3 w1) fun S5 => lt (w1 + 1) fun v6 => rec v6 S5
def fA_arrange (F G : Nat) (S : St) : Option (St) :=
  fx2 (b_142_2 F G  (fun S8 => lt (sI S8 62 2 (9991 : Int32)) fun S9 => lt (sI S9 62 3 (0 : Int32)) fun S11 => lt (sI S11 62 4 (0 : Int32)) fun S13 => bd (fA_find F G G 0 (0 : Int32) (0 : Int32) (0 : Int32) (0 : Int32) S13) fun S16 => some S16)) F (0 : Int32) S
set_option maxRecDepth 100000 in
set_option maxHeartbeats 4000000 in
theorem T_142_2 {X : Nat × (Nat → Int32)} {D F G : Nat} (hD : 4 + G ≤ D + 1) {k29 : St → Option (St)} (hk29 : ∀ (S1 : St) (res : St), k29 S1 = some res → Ek X (D + 1) m142 29 [(0, .ref 62)] [] S1 none res) : ∀ (f : Nat) (w1 : Int32) (S : St) (res : St), fx2 (b_142_2 F G k29 ) f w1 S = some res → Ek X (D + 1) m142 2 [(0, .ref 62), (1, .int w1)] [] S none res := by
  refine fx2_ind ?_
  intro rec ih w1 S res h
  unfold b_142_2 at h
  refine x_iload_n d_142_2 rfl 1 rfl ?_
  refine x_aload_n d_142_3 rfl 0 rfl ?_
  refine y_getR d_142_4 fl_8_24 rfl kd_62 rr_62_0 ?_
  refine y_getI d_142_7 fl_8_38 rfl kd_56 ?_
  refine x_icmp_ge (tgt := 29) d_142_10 rfl (fun c1 => ?_) (fun c1 => ?_)
  · replace h := ite_t c1 h
    refine y_pick (L1 := [(0, .ref 62)]) [0] rfl ?_
    exact hk29 S _ h
  · replace h := ite_f c1 h
    refine x_aload_n d_142_13 rfl 0 rfl ?_
    refine x_iload_n d_142_14 rfl 1 rfl ?_
    obtain ⟨S3, q2, h⟩ := bd_inv h
    refine y_V1v (S1 := S3) d_142_15 ml_8_43 kd_62 rfl (Nat.le_of_ble_eq_true rfl) (Nat.le_of_ble_eq_true rfl) (c_143 (by omega) q2) ?_
    refine x_aload_n d_142_18 rfl 0 rfl ?_
    refine x_iload_n d_142_19 rfl 1 rfl ?_
    obtain ⟨S5, q4, h⟩ := bd_inv h
    refine y_V1v (S1 := S5) d_142_20 ml_8_47 kd_62 rfl (Nat.le_of_ble_eq_true rfl) (Nat.le_of_ble_eq_true rfl) (c_144 (by omega) q4) ?_
    obtain ⟨v6, e7, h⟩ := lt_inv h
    refine y_iinc (L1 := [(0, .ref 62), (1, .int v6)]) e7 ic_1 d_142_23 1 rfl (Nat.le_of_ble_eq_true rfl) rfl rfl ?_
    refine x_goto (tgt := 2) d_142_26 rfl ?_
    exact ih v6 S5 _ h
set_option maxRecDepth 100000 in
set_option maxHeartbeats 4000000 in
theorem c_142 {X : Nat × (Nat → Int32)} {D F G : Nat} (hD : 4 + G ≤ D) {S : St} {res : St} (h : fA_arrange F G S  = some res) : Ek X (D) m142 0 [(0, .ref 62)] [] S none res := by
  obtain ⟨D, rfl⟩ : ∃ E, D = E + 1 := ⟨D - 1, by omega⟩
  unfold fA_arrange at h
  refine x_iconst d_142_0 ic_0 ?_
  refine x_istore_n (L1 := [(0, .ref 62), (1, .int (0 : Int32))]) d_142_1 rfl (Nat.le_of_ble_eq_true rfl) rfl rfl ?_
  refine T_142_2 (by omega)  ?_ F (0 : Int32) S _ h
  · intro S8 res h
    refine x_aload_n d_142_29 rfl 0 rfl ?_
    refine x_sipush d_142_30 sp_9991 ?_
    obtain ⟨S9, e10, h⟩ := lt_inv h
    refine y_putI e10 d_142_33 fl_8_50 rfl rfl kd_62 rfl rfl ?_
    refine x_aload_n d_142_36 rfl 0 rfl ?_
    refine x_iconst d_142_37 ic_0 ?_
    obtain ⟨S11, e12, h⟩ := lt_inv h
    refine y_putI e12 d_142_38 fl_8_31 rfl rfl kd_62 rfl rfl ?_
    refine x_aload_n d_142_41 rfl 0 rfl ?_
    refine x_iconst d_142_42 ic_0 ?_
    obtain ⟨S13, e14, h⟩ := lt_inv h
    refine y_putI e14 d_142_43 fl_8_35 rfl rfl kd_62 rfl rfl ?_
    refine x_aload_n d_142_46 rfl 0 rfl ?_
    refine x_iconst d_142_47 ic_0 ?_
    refine x_iconst d_142_48 ic_0 ?_
    refine x_iconst d_142_49 ic_0 ?_
    refine x_iconst d_142_50 ic_0 ?_
    obtain ⟨S16, q15, h⟩ := bd_inv h
    refine y_V4v (S1 := S16) d_142_51 ml_8_53 kd_62 rfl (Nat.le_of_ble_eq_true rfl) (Nat.le_of_ble_eq_true rfl) (c_145 (by omega) q15) ?_
    obtain rfl := Option.some.inj h
    exact x_ret (r := none) d_142_54 rfl
/-! NinetyPlayers$Arranger.handOf -/
def fA_handOf (F G : Nat) (S : St) (p1 : Int32) : Option (Int32) :=
  if (((S.1 62 3) >>> (p1 &&& 31)) &&& (1 : Int32)) = 0 then if (((S.1 62 4) >>> (p1 &&& 31)) &&& (1 : Int32)) = 0 then some (0 : Int32) else some (2 : Int32) else some (1 : Int32)
set_option maxRecDepth 100000 in
set_option maxHeartbeats 4000000 in
theorem c_151 {X : Nat × (Nat → Int32)} {D F G : Nat} (hD : 0 ≤ D) {S : St} {p1 : Int32} {res : Int32} (h : fA_handOf F G S p1 = some res) : Ek X (D) m151 0 [(0, .ref 62), (1, .int p1)] [] S (some (.int res)) S := by
  unfold fA_handOf at h
  refine x_aload_n d_151_0 rfl 0 rfl ?_
  refine y_getI d_151_1 fl_8_31 rfl kd_62 ?_
  refine x_iload_n d_151_4 rfl 1 rfl ?_
  refine x_ishr d_151_5 ?_
  refine x_iconst d_151_6 ic_1 ?_
  refine x_iand d_151_7 ?_
  refine x_if_eq (tgt := 15) d_151_8 rfl (fun c1 => ?_) (fun c1 => ?_)
  · replace h := ite_t c1 h
    refine x_aload_n d_151_15 rfl 0 rfl ?_
    refine y_getI d_151_16 fl_8_35 rfl kd_62 ?_
    refine x_iload_n d_151_19 rfl 1 rfl ?_
    refine x_ishr d_151_20 ?_
    refine x_iconst d_151_21 ic_1 ?_
    refine x_iand d_151_22 ?_
    refine x_if_eq (tgt := 30) d_151_23 rfl (fun c2 => ?_) (fun c2 => ?_)
    · replace h := ite_t c2 h
      refine x_iconst d_151_30 ic_0 ?_
      obtain rfl := Option.some.inj h
      exact x_ret (r := some (.int (0 : Int32))) d_151_31 ⟨_, rfl, rfl⟩
    · replace h := ite_f c2 h
      refine x_iconst d_151_26 ic_2 ?_
      refine x_goto (tgt := 31) d_151_27 rfl ?_
      obtain rfl := Option.some.inj h
      exact x_ret (r := some (.int (2 : Int32))) d_151_31 ⟨_, rfl, rfl⟩
  · replace h := ite_f c1 h
    refine x_iconst d_151_11 ic_1 ?_
    refine x_goto (tgt := 31) d_151_12 rfl ?_
    obtain rfl := Option.some.inj h
    exact x_ret (r := some (.int (1 : Int32))) d_151_31 ⟨_, rfl, rfl⟩
/-! NinetyPlayers.layLeastMissed -/
def b_140_33 (F G : Nat) (rec : Int32 → St → Option (St)) (w3 : Int32) (S : St) : Option (St) :=
  gd (isSc S.2.2.1) (if (S.1 S.2.2.1 6) ≤ w3 then lt (sI S 0 13 (S.1 S.2.2.1 6)) fun S13 => some S13 else bd (fA_handOf F G S w3) fun v16 => gd (inB w3 10) (lt (sI S 77 w3.toNatClampNeg v16) fun S18 => lt (w3 + 1) fun v20 => rec v20 S18))
def fN_layLeastMissed (F G : Nat) (S : St) (p1 : Int32) (p2 : Int32) : Option (St) :=
  bd (fN_lookAtKeys F G S ) fun S2 => bd (fN_weighAll F G S2 ) fun S4 => lt (sI S4 56 3 p1) fun S5 => lt (sI S5 56 2 p2) fun S7 => bd (fA_arrange F G S7 ) fun S10 => fx2 (b_140_33 F G ) F (0 : Int32) S10
set_option maxRecDepth 100000 in
set_option maxHeartbeats 4000000 in
theorem T_140_33 {X : Nat × (Nat → Int32)} {D F G : Nat} (hD : 5 + G ≤ D + 1) : ∀ (f : Nat) (w3 : Int32) (S : St) (res : St), fx2 (b_140_33 F G ) f w3 S = some res → Ek X (D + 1) m140 33 [(0, .ref 0), (3, .int w3)] [] S none res := by
  refine fx2_ind ?_
  intro rec ih w3 S res h
  unfold b_140_33 at h
  refine x_iload_n d_140_33 rfl 1 rfl ?_
  refine x_aload_n d_140_34 rfl 0 rfl ?_
  refine y_getR d_140_35 fl_0_25 rfl kd_0 rr_told ?_
  obtain ⟨g11, h⟩ := gd_inv h
  refine y_getI d_140_38 fl_0_117 rfl (ksSc g11) ?_
  refine x_icmp_ge (tgt := 64) d_140_41 rfl (fun c12 => ?_) (fun c12 => ?_)
  · replace h := ite_t c12 h
    refine x_aload_n d_140_64 rfl 0 rfl ?_
    refine x_aload_n d_140_65 rfl 0 rfl ?_
    refine y_getR d_140_66 fl_0_25 rfl kd_0 rr_told ?_
    refine y_getI d_140_69 fl_0_117 rfl (ksSc g11) ?_
    obtain ⟨S13, e14, h⟩ := lt_inv h
    refine y_putI e14 d_140_72 fl_0_110 rfl rfl kd_0 rfl rfl ?_
    obtain rfl := Option.some.inj h
    exact x_ret (r := none) d_140_75 rfl
  · replace h := ite_f c12 h
    refine x_aload_n d_140_44 rfl 0 rfl ?_
    refine y_getR d_140_45 fl_0_83 rfl kd_0 rr_0_12 ?_
    refine x_iload_n d_140_48 rfl 1 rfl ?_
    refine x_aload_n d_140_49 rfl 0 rfl ?_
    refine y_getR d_140_50 fl_0_63 rfl kd_0 rr_0_9 ?_
    refine x_iload_n d_140_53 rfl 1 rfl ?_
    obtain ⟨v16, q15, h⟩ := bd_inv h
    refine y_V1i (v := v16) (S1 := S) d_140_54 ml_0_279 kd_62 rfl (Nat.le_of_ble_eq_true rfl) (Nat.le_of_ble_eq_true rfl) (c_151 (by omega) q15) ?_
    obtain ⟨g17, h⟩ := gd_inv h
    obtain ⟨S18, e19, h⟩ := lt_inv h
    refine y_iast e19 d_140_57 kd_77 g17 ?_
    obtain ⟨v20, e21, h⟩ := lt_inv h
    refine y_iinc (L1 := [(0, .ref 0), (3, .int v20)]) e21 ic_1 d_140_58 1 rfl (Nat.le_of_ble_eq_true rfl) rfl rfl ?_
    refine x_goto (tgt := 33) d_140_61 rfl ?_
    exact ih v20 S18 _ h
set_option maxRecDepth 100000 in
set_option maxHeartbeats 4000000 in
theorem c_140 {X : Nat × (Nat → Int32)} {D F G : Nat} (hD : 5 + G ≤ D) {S : St} {p1 : Int32} {p2 : Int32} {res : St} (h : fN_layLeastMissed F G S p1 p2 = some res) : Ek X (D) m140 0 [(0, .ref 0), (1, .int p1), (2, .int p2)] [] S none res := by
  obtain ⟨D, rfl⟩ : ∃ E, D = E + 1 := ⟨D - 1, by omega⟩
  unfold fN_layLeastMissed at h
  refine x_aload_n d_140_0 rfl 0 rfl ?_
  obtain ⟨S2, q1, h⟩ := bd_inv h
  refine y_V0v (S1 := S2) d_140_1 ml_0_173 kd_0 rfl (Nat.le_of_ble_eq_true rfl) (Nat.le_of_ble_eq_true rfl) (c_104 (by omega) q1) ?_
  refine x_aload_n d_140_4 rfl 0 rfl ?_
  obtain ⟨S4, q3, h⟩ := bd_inv h
  refine y_V0v (S1 := S4) d_140_5 ml_0_271 kd_0 rfl (Nat.le_of_ble_eq_true rfl) (Nat.le_of_ble_eq_true rfl) (c_141 (by omega) q3) ?_
  refine x_aload_n d_140_8 rfl 0 rfl ?_
  refine y_getR d_140_9 fl_0_50 rfl kd_0 rr_0_7 ?_
  refine x_iload_n d_140_12 rfl 1 rfl ?_
  obtain ⟨S5, e6, h⟩ := lt_inv h
  refine y_putI e6 d_140_13 fl_0_274 rfl rfl kd_56 rfl rfl ?_
  refine x_aload_n d_140_16 rfl 0 rfl ?_
  refine y_getR d_140_17 fl_0_50 rfl kd_0 rr_0_7 ?_
  refine x_iload_n d_140_20 rfl 2 rfl ?_
  obtain ⟨S7, e8, h⟩ := lt_inv h
  refine y_putI e8 d_140_21 fl_0_275 rfl rfl kd_56 rfl rfl ?_
  refine x_aload_n d_140_24 rfl 0 rfl ?_
  refine y_getR d_140_25 fl_0_63 rfl kd_0 rr_0_9 ?_
  obtain ⟨S10, q9, h⟩ := bd_inv h
  refine y_V0v (S1 := S10) d_140_28 ml_0_276 kd_62 rfl (Nat.le_of_ble_eq_true rfl) (Nat.le_of_ble_eq_true rfl) (c_142 (by omega) q9) ?_
  refine x_iconst d_140_31 ic_0 ?_
  refine x_istore_n (L1 := [(0, .ref 0), (1, .int p1), (2, .int p2), (3, .int (0 : Int32))]) d_140_32 rfl (Nat.le_of_ble_eq_true rfl) rfl rfl ?_
  refine y_pick (L1 := [(0, .ref 0), (3, .int (0 : Int32))]) [0, 3] rfl ?_
  refine T_140_33 (by omega)   F (0 : Int32) S10 _ h
/-! NinetyPlayers.version -/
def fN_version (F G : Nat) (S : St) (p1 : Int32) : Option (Int32 × St) :=
  gd (isSc S.2.2.1) (bd (fN_layLeastMissed F G S (S.1 S.2.2.1 2) (S.1 S.2.2.1 1)) fun S3 => if p1 = 0 then some (S3.1 62 2, S3) else if p1 = 1 then bd (fJ_bitCount F G S3 ((S3.1 62 3) ||| (S3.1 62 4))) fun v7 => some (v7, S3) else some ((-1 : Int32), S3))
set_option maxRecDepth 100000 in
set_option maxHeartbeats 4000000 in
theorem c_139 {X : Nat × (Nat → Int32)} {D F G : Nat} (hD : 6 + G ≤ D) {S : St} {p1 : Int32} {res : Int32 × St} (h : fN_version F G S p1 = some res) : Ek X (D) m139 0 [(0, .ref 0), (1, .int p1)] [] S (some (.int res.1)) res.2 := by
  obtain ⟨D, rfl⟩ : ∃ E, D = E + 1 := ⟨D - 1, by omega⟩
  unfold fN_version at h
  refine x_aload_n d_139_0 rfl 0 rfl ?_
  refine x_aload_n d_139_1 rfl 0 rfl ?_
  refine y_getR d_139_2 fl_0_25 rfl kd_0 rr_told ?_
  obtain ⟨g1, h⟩ := gd_inv h
  refine y_getI d_139_5 fl_0_256 rfl (ksSc g1) ?_
  refine x_aload_n d_139_8 rfl 0 rfl ?_
  refine y_getR d_139_9 fl_0_25 rfl kd_0 rr_told ?_
  refine y_getI d_139_12 fl_0_259 rfl (ksSc g1) ?_
  obtain ⟨S3, q2, h⟩ := bd_inv h
  refine y_V2v (S1 := S3) d_139_15 ml_0_262 kd_0 rfl (Nat.le_of_ble_eq_true rfl) (Nat.le_of_ble_eq_true rfl) (c_140 (by omega) q2) ?_
  refine x_iload_n d_139_18 rfl 1 rfl ?_
  by_cases c4 : p1 = 0
  · replace h := ite_t c4 h
    refine x_look (tgt := 44) d_139_19 (by decide +kernel) (by rw [c4] <;> rfl) rfl ?_
    refine x_aload_n d_139_44 rfl 0 rfl ?_
    refine y_getR d_139_45 fl_0_63 rfl kd_0 rr_0_9 ?_
    refine y_getI d_139_48 fl_0_266 rfl kd_62 ?_
    obtain rfl := Option.some.inj h
    exact x_ret (r := some (.int (S3.1 62 2))) d_139_51 ⟨_, rfl, rfl⟩
  replace h := ite_f c4 h
  by_cases c5 : p1 = 1
  · replace h := ite_t c5 h
    refine x_look (tgt := 52) d_139_19 (by decide +kernel) (by rw [c5] <;> rfl) rfl ?_
    refine x_aload_n d_139_52 rfl 0 rfl ?_
    refine y_getR d_139_53 fl_0_63 rfl kd_0 rr_0_9 ?_
    refine y_getI d_139_56 fl_0_269 rfl kd_62 ?_
    refine x_aload_n d_139_59 rfl 0 rfl ?_
    refine y_getR d_139_60 fl_0_63 rfl kd_0 rr_0_9 ?_
    refine y_getI d_139_63 fl_0_270 rfl kd_62 ?_
    refine x_ior d_139_66 ?_
    obtain ⟨v7, q6, h⟩ := bd_inv h
    refine y_S1i (v := v7) (S1 := S3) d_139_67 ml_0_206 (Nat.le_of_ble_eq_true rfl) (Nat.le_of_ble_eq_true rfl) (c_91 (by omega) q6) ?_
    obtain rfl := Option.some.inj h
    exact x_ret (r := some (.int v7)) d_139_70 ⟨_, rfl, rfl⟩
  replace h := ite_f c5 h
  refine x_look (off := 52) (tgt := 71) d_139_19 (by decide +kernel) (by show Op.lookupswitch.offset [(0, 25), (1, 33)] 52 _ = _; rw [lv_osw (a := 0) c4 (by decide), lv_osw (a := 1) c5 (by decide)]; rfl) rfl ?_
  refine x_iconst d_139_71 ic_m1 ?_
  obtain rfl := Option.some.inj h
  exact x_ret (r := some (.int (-1 : Int32))) d_139_72 ⟨_, rfl, rfl⟩
/-! NinetyPlayers.child -/
def fN_child (F G : Nat) (S : St) (p1 : Int32) (p2 : Int32) : Option (Int32 × St) :=
  if p1 < (1 : Int32) then lt (sI S 0 13 (0 : Int32)) fun S2 => some ((-1 : Int32), S2) else if (5 : Int32) < p1 then lt (sI S 0 13 (0 : Int32)) fun S5 => some ((-1 : Int32), S5) else bd (fN_isKey F G S p2) fun v8 => if v8 = 0 then lt (sI S 0 13 (0 : Int32)) fun S12 => some ((-1 : Int32), S12) else bd (fN_layLeastMissed F G S p1 p2) fun S11 => some (S11.1 62 2, S11)
set_option maxRecDepth 100000 in
set_option maxHeartbeats 4000000 in
theorem c_152 {X : Nat × (Nat → Int32)} {D F G : Nat} (hD : 6 + G ≤ D) {S : St} {p1 : Int32} {p2 : Int32} {res : Int32 × St} (h : fN_child F G S p1 p2 = some res) : Ek X (D) m152 0 [(0, .ref 0), (1, .int p1), (2, .int p2)] [] S (some (.int res.1)) res.2 := by
  obtain ⟨D, rfl⟩ : ∃ E, D = E + 1 := ⟨D - 1, by omega⟩
  unfold fN_child at h
  refine x_iload_n d_152_0 rfl 1 rfl ?_
  refine x_iconst d_152_1 ic_1 ?_
  refine x_icmp_lt (tgt := 17) d_152_2 rfl (fun c1 => ?_) (fun c1 => ?_)
  · replace h := ite_t c1 h
    refine x_aload_n d_152_17 rfl 0 rfl ?_
    refine x_iconst d_152_18 ic_0 ?_
    obtain ⟨S2, e3, h⟩ := lt_inv h
    refine y_putI e3 d_152_19 fl_0_110 rfl rfl kd_0 rfl rfl ?_
    refine x_iconst d_152_22 ic_m1 ?_
    obtain rfl := Option.some.inj h
    exact x_ret (r := some (.int (-1 : Int32))) d_152_23 ⟨_, rfl, rfl⟩
  · replace h := ite_f c1 h
    refine x_iload_n d_152_5 rfl 1 rfl ?_
    refine x_iconst d_152_6 ic_5 ?_
    refine x_icmp_gt (tgt := 17) d_152_7 rfl (fun c4 => ?_) (fun c4 => ?_)
    · replace h := ite_t c4 h
      refine x_aload_n d_152_17 rfl 0 rfl ?_
      refine x_iconst d_152_18 ic_0 ?_
      obtain ⟨S5, e6, h⟩ := lt_inv h
      refine y_putI e6 d_152_19 fl_0_110 rfl rfl kd_0 rfl rfl ?_
      refine x_iconst d_152_22 ic_m1 ?_
      obtain rfl := Option.some.inj h
      exact x_ret (r := some (.int (-1 : Int32))) d_152_23 ⟨_, rfl, rfl⟩
    · replace h := ite_f c4 h
      refine x_iload_n d_152_10 rfl 2 rfl ?_
      obtain ⟨v8, q7, h⟩ := bd_inv h
      refine y_S1i (v := v8) (S1 := S) d_152_11 ml_0_240 (Nat.le_of_ble_eq_true rfl) (Nat.le_of_ble_eq_true rfl) (c_130 (by omega) q7) ?_
      refine x_if_ne (tgt := 24) d_152_14 rfl (fun c9 => ?_) (fun c9 => ?_)
      · replace h := ite_f c9 h
        refine x_aload_n d_152_24 rfl 0 rfl ?_
        refine x_iload_n d_152_25 rfl 1 rfl ?_
        refine x_iload_n d_152_26 rfl 2 rfl ?_
        obtain ⟨S11, q10, h⟩ := bd_inv h
        refine y_V2v (S1 := S11) d_152_27 ml_0_262 kd_0 rfl (Nat.le_of_ble_eq_true rfl) (Nat.le_of_ble_eq_true rfl) (c_140 (by omega) q10) ?_
        refine x_aload_n d_152_30 rfl 0 rfl ?_
        refine y_getR d_152_31 fl_0_63 rfl kd_0 rr_0_9 ?_
        refine y_getI d_152_34 fl_0_266 rfl kd_62 ?_
        obtain rfl := Option.some.inj h
        exact x_ret (r := some (.int (S11.1 62 2))) d_152_37 ⟨_, rfl, rfl⟩
      · replace h := ite_t c9 h
        refine x_aload_n d_152_17 rfl 0 rfl ?_
        refine x_iconst d_152_18 ic_0 ?_
        obtain ⟨S12, e13, h⟩ := lt_inv h
        refine y_putI e13 d_152_19 fl_0_110 rfl rfl kd_0 rfl rfl ?_
        refine x_iconst d_152_22 ic_m1 ?_
        obtain rfl := Option.some.inj h
        exact x_ret (r := some (.int (-1 : Int32))) d_152_23 ⟨_, rfl, rfl⟩
/-! NinetyPlayers.isLeftOut -/
def fN_isLeftOut (F G : Nat) (S : St) (p1 : Int32) : Option (Int32) :=
  bd (fN_isNote F G S p1) fun v2 => if v2 = 0 then some (0 : Int32) else gd (inB p1 10) (if (S.1 31 p1.toNatClampNeg) = 0 then some (1 : Int32) else some (0 : Int32))
set_option maxRecDepth 100000 in
set_option maxHeartbeats 4000000 in
theorem c_154 {X : Nat × (Nat → Int32)} {D F G : Nat} (hD : 1 ≤ D) {S : St} {p1 : Int32} {res : Int32} (h : fN_isLeftOut F G S p1 = some res) : Ek X (D) m154 0 [(0, .ref 0), (1, .int p1)] [] S (some (.int res)) S := by
  obtain ⟨D, rfl⟩ : ∃ E, D = E + 1 := ⟨D - 1, by omega⟩
  unfold fN_isLeftOut at h
  refine x_aload_n d_154_0 rfl 0 rfl ?_
  refine x_iload_n d_154_1 rfl 1 rfl ?_
  obtain ⟨v2, q1, h⟩ := bd_inv h
  refine y_V1i (v := v2) (S1 := S) d_154_2 ml_0_126 kd_0 rfl (Nat.le_of_ble_eq_true rfl) (Nat.le_of_ble_eq_true rfl) (c_87 (by omega) q1) ?_
  refine x_if_eq (tgt := 24) d_154_5 rfl (fun c3 => ?_) (fun c3 => ?_)
  · replace h := ite_t c3 h
    refine x_iconst d_154_24 ic_0 ?_
    obtain rfl := Option.some.inj h
    exact x_ret (r := some (.int (0 : Int32))) d_154_25 ⟨_, rfl, rfl⟩
  · replace h := ite_f c3 h
    refine x_aload_n d_154_8 rfl 0 rfl ?_
    refine y_getR d_154_9 fl_0_32 rfl kd_0 rr_0_4 ?_
    refine y_getR d_154_12 fl_0_144 rfl kd_30 rr_30_2 ?_
    refine x_iload_n d_154_15 rfl 1 rfl ?_
    obtain ⟨g4, h⟩ := gd_inv h
    refine y_iald d_154_16 kd_31 g4 ?_
    refine x_if_ne (tgt := 24) d_154_17 rfl (fun c5 => ?_) (fun c5 => ?_)
    · replace h := ite_f c5 h
      refine x_iconst d_154_24 ic_0 ?_
      obtain rfl := Option.some.inj h
      exact x_ret (r := some (.int (0 : Int32))) d_154_25 ⟨_, rfl, rfl⟩
    · replace h := ite_t c5 h
      refine x_iconst d_154_20 ic_1 ?_
      refine x_goto (tgt := 25) d_154_21 rfl ?_
      obtain rfl := Option.some.inj h
      exact x_ret (r := some (.int (1 : Int32))) d_154_25 ⟨_, rfl, rfl⟩
/-! NinetyPlayers$Keyboard.newClashesWith -/
def b_155_49 (F G : Nat) (S : St) (z3 : Int32) (z4 : Int32) (rec : Int32 → Int32 → Option (Int32)) (w5 : Int32) (w6 : Int32) : Option (Int32) :=
  if (S.1 56 0) ≤ w6 then some w5 else bd (fK_clashesAt F G S z3 z4 w6) fun v7 => bd (fK_clashesAt F G S (S.1 56 5) (S.1 56 6) w6) fun v9 => lt (w5 ||| (v7 &&& (v9 ^^^ (-1 : Int32)))) fun v10 => lt (w6 + 1) fun v12 => rec v10 v12
def j_155_20 (F G : Nat) (S : St) (y1 : Int32) (y2 : Int32) (s0 : Int32) : Option (Int32) :=
  if y2 = (2 : Int32) then lt ((S.1 56 6) ||| ((1 : Int32) <<< (y1 &&& 31))) fun v14 => fx2 (b_155_49 F G S s0 v14) F (0 : Int32) (0 : Int32) else lt (S.1 56 6) fun v3 => fx2 (b_155_49 F G S s0 v3) F (0 : Int32) (0 : Int32)
def fK_newClashesWith (F G : Nat) (S : St) (p1 : Int32) (p2 : Int32) : Option (Int32) :=
  if p2 = (1 : Int32) then j_155_20 F G  S p1 p2 ((S.1 56 5) ||| ((1 : Int32) <<< (p1 &&& 31))) else j_155_20 F G  S p1 p2 (S.1 56 5)
set_option maxRecDepth 100000 in
set_option maxHeartbeats 4000000 in
theorem T_155_49 {X : Nat × (Nat → Int32)} {D F G : Nat} (hD : 4 ≤ D + 1) {S : St} {z3 : Int32} {z4 : Int32} : ∀ (f : Nat) (w5 : Int32) (w6 : Int32) (res : Int32), fx2 (b_155_49 F G S z3 z4 ) f w5 w6 = some res → Ek X (D + 1) m155 49 [(0, .ref 56), (3, .int z3), (4, .int z4), (5, .int w5), (6, .int w6)] [] S (some (.int res)) S := by
  refine fx2_ind ?_
  intro rec ih w5 w6 res h
  unfold b_155_49 at h
  refine x_iload d_155_49 4 rfl ?_
  refine x_aload_n d_155_51 rfl 0 rfl ?_
  refine y_getI d_155_52 fl_7_30 rfl kd_56 ?_
  refine x_icmp_ge (tgt := 95) d_155_55 rfl (fun c5 => ?_) (fun c5 => ?_)
  · replace h := ite_t c5 h
    refine x_iload d_155_95 3 rfl ?_
    obtain rfl := Option.some.inj h
    exact x_ret (r := some (.int w5)) d_155_97 ⟨_, rfl, rfl⟩
  · replace h := ite_f c5 h
    refine x_iload d_155_58 3 rfl ?_
    refine x_aload_n d_155_60 rfl 0 rfl ?_
    refine x_iload_n d_155_61 rfl 1 rfl ?_
    refine x_iload d_155_62 2 rfl ?_
    refine x_iload d_155_64 4 rfl ?_
    obtain ⟨v7, q6, h⟩ := bd_inv h
    refine y_V3i (v := v7) (S1 := S) d_155_66 ml_7_104 kd_56 rfl (Nat.le_of_ble_eq_true rfl) (Nat.le_of_ble_eq_true rfl) (c_114 (by omega) q6) ?_
    refine x_aload_n d_155_69 rfl 0 rfl ?_
    refine x_aload_n d_155_70 rfl 0 rfl ?_
    refine y_getI d_155_71 fl_7_53 rfl kd_56 ?_
    refine x_aload_n d_155_74 rfl 0 rfl ?_
    refine y_getI d_155_75 fl_7_56 rfl kd_56 ?_
    refine x_iload d_155_78 4 rfl ?_
    obtain ⟨v9, q8, h⟩ := bd_inv h
    refine y_V3i (v := v9) (S1 := S) d_155_80 ml_7_104 kd_56 rfl (Nat.le_of_ble_eq_true rfl) (Nat.le_of_ble_eq_true rfl) (c_114 (by omega) q8) ?_
    refine x_iconst d_155_83 ic_m1 ?_
    refine x_ixor d_155_84 ?_
    refine x_iand d_155_85 ?_
    refine x_ior d_155_86 ?_
    obtain ⟨v10, e11, h⟩ := lt_inv h
    refine y_istore (L1 := [(0, .ref 56), (3, .int z3), (4, .int z4), (5, .int v10), (6, .int w6)]) e11 d_155_87 (Nat.le_of_ble_eq_true rfl) rfl rfl ?_
    obtain ⟨v12, e13, h⟩ := lt_inv h
    refine y_iinc (L1 := [(0, .ref 56), (3, .int z3), (4, .int z4), (5, .int v10), (6, .int v12)]) e13 ic_1 d_155_89 4 rfl (Nat.le_of_ble_eq_true rfl) rfl rfl ?_
    refine x_goto (tgt := 49) d_155_92 rfl ?_
    exact ih v10 v12 _ h
set_option maxRecDepth 100000 in
set_option maxHeartbeats 4000000 in
theorem c_155 {X : Nat × (Nat → Int32)} {D F G : Nat} (hD : 4 ≤ D) {S : St} {p1 : Int32} {p2 : Int32} {res : Int32} (h : fK_newClashesWith F G S p1 p2 = some res) : Ek X (D) m155 0 [(0, .ref 56), (1, .int p1), (2, .int p2)] [] S (some (.int res)) S := by
  obtain ⟨D, rfl⟩ : ∃ E, D = E + 1 := ⟨D - 1, by omega⟩
  unfold fK_newClashesWith at h
  have J20 : ∀ (y1 : Int32) (y2 : Int32) (s0 : Int32) (res : Int32), j_155_20 F G S y1 y2 s0 = some res → Ek X (D + 1) m155 20 [(0, .ref 56), (1, .int y1), (2, .int y2)] [.int s0] S (some (.int res)) S := by
    intro y1 y2 s0 res h
    unfold j_155_20 at h
    refine x_istore_n (L1 := [(0, .ref 56), (1, .int y1), (2, .int y2), (3, .int s0)]) d_155_20 rfl (Nat.le_of_ble_eq_true rfl) rfl rfl ?_
    refine x_iload_n d_155_21 rfl 2 rfl ?_
    refine x_iconst d_155_22 ic_2 ?_
    refine x_icmp_ne (tgt := 37) d_155_23 rfl (fun c2 => ?_) (fun c2 => ?_)
    · replace h := ite_f c2 h
      refine x_aload_n d_155_37 rfl 0 rfl ?_
      refine y_getI d_155_38 fl_7_56 rfl kd_56 ?_
      obtain ⟨v3, e4, h⟩ := lt_inv h
      refine y_istore (L1 := [(0, .ref 56), (1, .int y1), (2, .int y2), (3, .int s0), (4, .int v3)]) e4 d_155_41 (Nat.le_of_ble_eq_true rfl) rfl rfl ?_
      refine x_iconst d_155_43 ic_0 ?_
      refine x_istore (L1 := [(0, .ref 56), (1, .int y1), (2, .int y2), (3, .int s0), (4, .int v3), (5, .int (0 : Int32))]) d_155_44 (Nat.le_of_ble_eq_true rfl) rfl rfl ?_
      refine x_iconst d_155_46 ic_0 ?_
      refine x_istore (L1 := [(0, .ref 56), (1, .int y1), (2, .int y2), (3, .int s0), (4, .int v3), (5, .int (0 : Int32)), (6, .int (0 : Int32))]) d_155_47 (Nat.le_of_ble_eq_true rfl) rfl rfl ?_
      refine y_pick (L1 := [(0, .ref 56), (3, .int s0), (4, .int v3), (5, .int (0 : Int32)), (6, .int (0 : Int32))]) [0, 3, 4, 5, 6] rfl ?_
      refine T_155_49 (by omega)   F (0 : Int32) (0 : Int32) _ h
    · replace h := ite_t c2 h
      refine x_aload_n d_155_26 rfl 0 rfl ?_
      refine y_getI d_155_27 fl_7_56 rfl kd_56 ?_
      refine x_iconst d_155_30 ic_1 ?_
      refine x_iload_n d_155_31 rfl 1 rfl ?_
      refine x_ishl d_155_32 ?_
      refine x_ior d_155_33 ?_
      refine x_goto (tgt := 41) d_155_34 rfl ?_
      obtain ⟨v14, e15, h⟩ := lt_inv h
      refine y_istore (L1 := [(0, .ref 56), (1, .int y1), (2, .int y2), (3, .int s0), (4, .int v14)]) e15 d_155_41 (Nat.le_of_ble_eq_true rfl) rfl rfl ?_
      refine x_iconst d_155_43 ic_0 ?_
      refine x_istore (L1 := [(0, .ref 56), (1, .int y1), (2, .int y2), (3, .int s0), (4, .int v14), (5, .int (0 : Int32))]) d_155_44 (Nat.le_of_ble_eq_true rfl) rfl rfl ?_
      refine x_iconst d_155_46 ic_0 ?_
      refine x_istore (L1 := [(0, .ref 56), (1, .int y1), (2, .int y2), (3, .int s0), (4, .int v14), (5, .int (0 : Int32)), (6, .int (0 : Int32))]) d_155_47 (Nat.le_of_ble_eq_true rfl) rfl rfl ?_
      refine y_pick (L1 := [(0, .ref 56), (3, .int s0), (4, .int v14), (5, .int (0 : Int32)), (6, .int (0 : Int32))]) [0, 3, 4, 5, 6] rfl ?_
      refine T_155_49 (by omega)   F (0 : Int32) (0 : Int32) _ h
  refine x_iload_n d_155_0 rfl 2 rfl ?_
  refine x_iconst d_155_1 ic_1 ?_
  refine x_icmp_ne (tgt := 16) d_155_2 rfl (fun c1 => ?_) (fun c1 => ?_)
  · replace h := ite_f c1 h
    refine x_aload_n d_155_16 rfl 0 rfl ?_
    refine y_getI d_155_17 fl_7_53 rfl kd_56 ?_
    exact J20 p1 p2 (S.1 56 5) _ h
  · replace h := ite_t c1 h
    refine x_aload_n d_155_5 rfl 0 rfl ?_
    refine y_getI d_155_6 fl_7_53 rfl kd_56 ?_
    refine x_iconst d_155_9 ic_1 ?_
    refine x_iload_n d_155_10 rfl 1 rfl ?_
    refine x_ishl d_155_11 ?_
    refine x_ior d_155_12 ?_
    refine x_goto (tgt := 20) d_155_13 rfl ?_
    exact J20 p1 p2 ((S.1 56 5) ||| ((1 : Int32) <<< (p1 &&& 31))) _ h
/-! NinetyPlayers.forbids -/
def fN_forbids (F G : Nat) (S : St) (p1 : Int32) (p2 : Int32) : Option (Int32 × St) :=
  bd (fN_isLeftOut F G S p1) fun v2 => if v2 = 0 then some ((-1 : Int32), S) else bd (fN_isHand F G S p2) fun v5 => if v5 = 0 then some ((-1 : Int32), S) else bd (fN_lookAtKeys F G S ) fun S8 => bd (fK_newClashesWith F G S8 p1 p2) fun v10 => some (v10, S8)
set_option maxRecDepth 100000 in
set_option maxHeartbeats 4000000 in
theorem c_153 {X : Nat × (Nat → Int32)} {D F G : Nat} (hD : 5 ≤ D) {S : St} {p1 : Int32} {p2 : Int32} {res : Int32 × St} (h : fN_forbids F G S p1 p2 = some res) : Ek X (D) m153 0 [(0, .ref 0), (1, .int p1), (2, .int p2)] [] S (some (.int res.1)) res.2 := by
  obtain ⟨D, rfl⟩ : ∃ E, D = E + 1 := ⟨D - 1, by omega⟩
  unfold fN_forbids at h
  refine x_aload_n d_153_0 rfl 0 rfl ?_
  refine x_iload_n d_153_1 rfl 1 rfl ?_
  obtain ⟨v2, q1, h⟩ := bd_inv h
  refine y_V1i (v := v2) (S1 := S) d_153_2 ml_0_282 kd_0 rfl (Nat.le_of_ble_eq_true rfl) (Nat.le_of_ble_eq_true rfl) (c_154 (by omega) q1) ?_
  refine x_if_eq (tgt := 15) d_153_5 rfl (fun c3 => ?_) (fun c3 => ?_)
  · replace h := ite_t c3 h
    refine x_iconst d_153_15 ic_m1 ?_
    obtain rfl := Option.some.inj h
    exact x_ret (r := some (.int (-1 : Int32))) d_153_16 ⟨_, rfl, rfl⟩
  · replace h := ite_f c3 h
    refine x_iload_n d_153_8 rfl 2 rfl ?_
    obtain ⟨v5, q4, h⟩ := bd_inv h
    refine y_S1i (v := v5) (S1 := S) d_153_9 ml_0_170 (Nat.le_of_ble_eq_true rfl) (Nat.le_of_ble_eq_true rfl) (c_103 (by omega) q4) ?_
    refine x_if_ne (tgt := 17) d_153_12 rfl (fun c6 => ?_) (fun c6 => ?_)
    · replace h := ite_f c6 h
      refine x_aload_n d_153_17 rfl 0 rfl ?_
      obtain ⟨S8, q7, h⟩ := bd_inv h
      refine y_V0v (S1 := S8) d_153_18 ml_0_173 kd_0 rfl (Nat.le_of_ble_eq_true rfl) (Nat.le_of_ble_eq_true rfl) (c_104 (by omega) q7) ?_
      refine x_aload_n d_153_21 rfl 0 rfl ?_
      refine y_getR d_153_22 fl_0_50 rfl kd_0 rr_0_7 ?_
      refine x_iload_n d_153_25 rfl 1 rfl ?_
      refine x_iload_n d_153_26 rfl 2 rfl ?_
      obtain ⟨v10, q9, h⟩ := bd_inv h
      refine y_V2i (v := v10) (S1 := S8) d_153_27 ml_0_285 kd_56 rfl (Nat.le_of_ble_eq_true rfl) (Nat.le_of_ble_eq_true rfl) (c_155 (by omega) q9) ?_
      obtain rfl := Option.some.inj h
      exact x_ret (r := some (.int v10)) d_153_30 ⟨_, rfl, rfl⟩
    · replace h := ite_t c6 h
      refine x_iconst d_153_15 ic_m1 ?_
      obtain rfl := Option.some.inj h
      exact x_ret (r := some (.int (-1 : Int32))) d_153_16 ⟨_, rfl, rfl⟩
/-! NinetyPlayers$Arranger.missedTogether -/
def b_159_4 (F G : Nat) (S : St) (z1 : Int32) (rec : Int32 → Int32 → Option (Int32)) (w2 : Int32) (w3 : Int32) : Option (Int32) :=
  if (S.1 56 1) ≤ w3 then some w2 else if ((z1 >>> (w3 &&& 31)) &&& (1 : Int32)) = 0 then lt (w2 + (0 : Int32)) fun v3 => lt (w3 + 1) fun v5 => rec v3 v5 else gd (inB w3 10) (lt (w2 + (S.1 61 w3.toNatClampNeg)) fun v8 => lt (w3 + 1) fun v10 => rec v8 v10)
def fA_missedTogether (F G : Nat) (S : St) (p1 : Int32) : Option (Int32) :=
  fx2 (b_159_4 F G S p1) F (0 : Int32) (0 : Int32)
set_option maxRecDepth 100000 in
set_option maxHeartbeats 4000000 in
theorem T_159_4 {X : Nat × (Nat → Int32)} {D F G : Nat} (hD : 0 ≤ D) {S : St} {z1 : Int32} : ∀ (f : Nat) (w2 : Int32) (w3 : Int32) (res : Int32), fx2 (b_159_4 F G S z1 ) f w2 w3 = some res → Ek X (D) m159 4 [(0, .ref 62), (1, .int z1), (2, .int w2), (3, .int w3)] [] S (some (.int res)) S := by
  refine fx2_ind ?_
  intro rec ih w2 w3 res h
  unfold b_159_4 at h
  refine x_iload_n d_159_4 rfl 3 rfl ?_
  refine x_aload_n d_159_5 rfl 0 rfl ?_
  refine y_getR d_159_6 fl_8_24 rfl kd_62 rr_62_0 ?_
  refine y_getI d_159_9 fl_8_38 rfl kd_56 ?_
  refine x_icmp_ge (tgt := 42) d_159_12 rfl (fun c1 => ?_) (fun c1 => ?_)
  · replace h := ite_t c1 h
    refine x_iload_n d_159_42 rfl 2 rfl ?_
    obtain rfl := Option.some.inj h
    exact x_ret (r := some (.int w2)) d_159_43 ⟨_, rfl, rfl⟩
  · replace h := ite_f c1 h
    refine x_iload_n d_159_15 rfl 2 rfl ?_
    refine x_iload_n d_159_16 rfl 1 rfl ?_
    refine x_iload_n d_159_17 rfl 3 rfl ?_
    refine x_ishr d_159_18 ?_
    refine x_iconst d_159_19 ic_1 ?_
    refine x_iand d_159_20 ?_
    refine x_if_eq (tgt := 33) d_159_21 rfl (fun c2 => ?_) (fun c2 => ?_)
    · replace h := ite_t c2 h
      refine x_iconst d_159_33 ic_0 ?_
      refine x_iadd d_159_34 ?_
      obtain ⟨v3, e4, h⟩ := lt_inv h
      refine y_istore_n (L1 := [(0, .ref 62), (1, .int z1), (2, .int v3), (3, .int w3)]) e4 d_159_35 rfl (Nat.le_of_ble_eq_true rfl) rfl rfl ?_
      obtain ⟨v5, e6, h⟩ := lt_inv h
      refine y_iinc (L1 := [(0, .ref 62), (1, .int z1), (2, .int v3), (3, .int v5)]) e6 ic_1 d_159_36 3 rfl (Nat.le_of_ble_eq_true rfl) rfl rfl ?_
      refine x_goto (tgt := 4) d_159_39 rfl ?_
      exact ih v3 v5 _ h
    · replace h := ite_f c2 h
      refine x_aload_n d_159_24 rfl 0 rfl ?_
      refine y_getR d_159_25 fl_8_28 rfl kd_62 rr_62_1 ?_
      refine x_iload_n d_159_28 rfl 3 rfl ?_
      obtain ⟨g7, h⟩ := gd_inv h
      refine y_iald d_159_29 kd_61 g7 ?_
      refine x_goto (tgt := 34) d_159_30 rfl ?_
      refine x_iadd d_159_34 ?_
      obtain ⟨v8, e9, h⟩ := lt_inv h
      refine y_istore_n (L1 := [(0, .ref 62), (1, .int z1), (2, .int v8), (3, .int w3)]) e9 d_159_35 rfl (Nat.le_of_ble_eq_true rfl) rfl rfl ?_
      obtain ⟨v10, e11, h⟩ := lt_inv h
      refine y_iinc (L1 := [(0, .ref 62), (1, .int z1), (2, .int v8), (3, .int v10)]) e11 ic_1 d_159_36 3 rfl (Nat.le_of_ble_eq_true rfl) rfl rfl ?_
      refine x_goto (tgt := 4) d_159_39 rfl ?_
      exact ih v8 v10 _ h
set_option maxRecDepth 100000 in
set_option maxHeartbeats 4000000 in
theorem c_159 {X : Nat × (Nat → Int32)} {D F G : Nat} (hD : 0 ≤ D) {S : St} {p1 : Int32} {res : Int32} (h : fA_missedTogether F G S p1 = some res) : Ek X (D) m159 0 [(0, .ref 62), (1, .int p1)] [] S (some (.int res)) S := by
  unfold fA_missedTogether at h
  refine x_iconst d_159_0 ic_0 ?_
  refine x_istore_n (L1 := [(0, .ref 62), (1, .int p1), (2, .int (0 : Int32))]) d_159_1 rfl (Nat.le_of_ble_eq_true rfl) rfl rfl ?_
  refine x_iconst d_159_2 ic_0 ?_
  refine x_istore_n (L1 := [(0, .ref 62), (1, .int p1), (2, .int (0 : Int32)), (3, .int (0 : Int32))]) d_159_3 rfl (Nat.le_of_ble_eq_true rfl) rfl rfl ?_
  refine T_159_4 (by omega)   F (0 : Int32) (0 : Int32) _ h
/-! NinetyPlayers$Arranger.isLessMissed -/
def fA_isLessMissed (F G : Nat) (S : St) (p1 : Int32) (p2 : Int32) : Option (Int32) :=
  bd (fJ_bitCount F G S p1) fun v2 => bd (fJ_bitCount F G S p2) fun v4 => if v2 < v4 then some (1 : Int32) else if v2 = v4 then bd (fA_missedTogether F G S p1) fun v8 => bd (fA_missedTogether F G S p2) fun v10 => if v10 ≤ v8 then some (0 : Int32) else some (1 : Int32) else some (0 : Int32)
set_option maxRecDepth 100000 in
set_option maxHeartbeats 4000000 in
theorem c_158 {X : Nat × (Nat → Int32)} {D F G : Nat} (hD : 1 ≤ D) {S : St} {p1 : Int32} {p2 : Int32} {res : Int32} (h : fA_isLessMissed F G S p1 p2 = some res) : Ek X (D) m158 0 [(0, .ref 62), (1, .int p1), (2, .int p2)] [] S (some (.int res)) S := by
  obtain ⟨D, rfl⟩ : ∃ E, D = E + 1 := ⟨D - 1, by omega⟩
  unfold fA_isLessMissed at h
  refine x_iload_n d_158_0 rfl 1 rfl ?_
  obtain ⟨v2, q1, h⟩ := bd_inv h
  refine y_S1i (v := v2) (S1 := S) d_158_1 ml_8_89 (Nat.le_of_ble_eq_true rfl) (Nat.le_of_ble_eq_true rfl) (c_91 (by omega) q1) ?_
  refine x_istore_n (L1 := [(0, .ref 62), (1, .int p1), (2, .int p2), (3, .int v2)]) d_158_4 rfl (Nat.le_of_ble_eq_true rfl) rfl rfl ?_
  refine x_iload_n d_158_5 rfl 2 rfl ?_
  obtain ⟨v4, q3, h⟩ := bd_inv h
  refine y_S1i (v := v4) (S1 := S) d_158_6 ml_8_89 (Nat.le_of_ble_eq_true rfl) (Nat.le_of_ble_eq_true rfl) (c_91 (by omega) q3) ?_
  refine x_istore (L1 := [(0, .ref 62), (1, .int p1), (2, .int p2), (3, .int v2), (4, .int v4)]) d_158_9 (Nat.le_of_ble_eq_true rfl) rfl rfl ?_
  refine x_iload_n d_158_11 rfl 3 rfl ?_
  refine x_iload d_158_12 4 rfl ?_
  refine x_icmp_lt (tgt := 36) d_158_14 rfl (fun c5 => ?_) (fun c5 => ?_)
  · replace h := ite_t c5 h
    refine x_iconst d_158_36 ic_1 ?_
    refine x_goto (tgt := 41) d_158_37 rfl ?_
    obtain rfl := Option.some.inj h
    exact x_ret (r := some (.int (1 : Int32))) d_158_41 ⟨_, rfl, rfl⟩
  · replace h := ite_f c5 h
    refine x_iload_n d_158_17 rfl 3 rfl ?_
    refine x_iload d_158_18 4 rfl ?_
    refine x_icmp_ne (tgt := 40) d_158_20 rfl (fun c6 => ?_) (fun c6 => ?_)
    · replace h := ite_f c6 h
      refine x_iconst d_158_40 ic_0 ?_
      obtain rfl := Option.some.inj h
      exact x_ret (r := some (.int (0 : Int32))) d_158_41 ⟨_, rfl, rfl⟩
    · replace h := ite_t c6 h
      refine x_aload_n d_158_23 rfl 0 rfl ?_
      refine x_iload_n d_158_24 rfl 1 rfl ?_
      obtain ⟨v8, q7, h⟩ := bd_inv h
      refine y_V1i (v := v8) (S1 := S) d_158_25 ml_8_112 kd_62 rfl (Nat.le_of_ble_eq_true rfl) (Nat.le_of_ble_eq_true rfl) (c_159 (by omega) q7) ?_
      refine x_aload_n d_158_28 rfl 0 rfl ?_
      refine x_iload_n d_158_29 rfl 2 rfl ?_
      obtain ⟨v10, q9, h⟩ := bd_inv h
      refine y_V1i (v := v10) (S1 := S) d_158_30 ml_8_112 kd_62 rfl (Nat.le_of_ble_eq_true rfl) (Nat.le_of_ble_eq_true rfl) (c_159 (by omega) q9) ?_
      refine x_icmp_ge (tgt := 40) d_158_33 rfl (fun c11 => ?_) (fun c11 => ?_)
      · replace h := ite_t c11 h
        refine x_iconst d_158_40 ic_0 ?_
        obtain rfl := Option.some.inj h
        exact x_ret (r := some (.int (0 : Int32))) d_158_41 ⟨_, rfl, rfl⟩
      · replace h := ite_f c11 h
        refine x_iconst d_158_36 ic_1 ?_
        refine x_goto (tgt := 41) d_158_37 rfl ?_
        obtain rfl := Option.some.inj h
        exact x_ret (r := some (.int (1 : Int32))) d_158_41 ⟨_, rfl, rfl⟩
