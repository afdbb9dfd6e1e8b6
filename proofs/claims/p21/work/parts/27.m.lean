/-! NinetyPlayers$Pedaller.bestWithPedalAt -/
def b_P_bestWithPedalAt_5 (F G : Nat) (S : St) (z2 : Int32) (rec : Int32 → Int32 → Option (Int32)) (w3 : Int32) (w4 : Int32) : Option (Int32) :=
  if z2 ≤ w4 then some w3 else gd (inB w4 12) (if (S.1 68 w4.toNatClampNeg) = (-1 : Int32) then lt (w4 + 1) fun v4 => rec w3 v4 else bd (fP_isFree F G S z2 w4 z2) fun v7 => if v7 = 0 then lt (w4 + 1) fun v9 => rec w3 v9 else gd (inB w4 12) (bd (fP_better F G S w3 ((S.1 68 w4.toNatClampNeg) ||| ((1 : Int32) <<< (z2 &&& 31)))) fun v13 => lt (w4 + 1) fun v14 => rec v13 v14))
def fP_bestWithPedalAt (F G : Nat) (S : St) (p1 : Int32) : Option (Int32) :=
  fx2 (b_P_bestWithPedalAt_5 F G S p1) F (-1 : Int32) (0 : Int32)
set_option maxRecDepth 100000 in
set_option maxHeartbeats 4000000 in
theorem T_P_bestWithPedalAt_5 {X : Nat × (Nat → Int32)} {D F G : Nat} (hD : 4 ≤ D + 1) {S : St} {z2 : Int32} : ∀ (f : Nat) (w3 : Int32) (w4 : Int32) (res : Int32), fx2 (b_P_bestWithPedalAt_5 F G S z2 ) f w3 w4 = some res → Ek X (D + 1) mP_bestWithPedalAt 5 [(0, .ref 67), (1, .ref 57), (2, .int z2), (3, .int w3), (4, .int w4)] [] S (some (.int res)) S := by
  refine fx2_ind ?_
  intro rec ih w3 w4 res h
  unfold b_P_bestWithPedalAt_5 at h
  refine x_iload d_P_bestWithPedalAt_5 4 rfl ?_
  refine x_iload_n d_P_bestWithPedalAt_7 rfl 2 rfl ?_
  refine x_icmp_ge (tgt := 55) d_P_bestWithPedalAt_8 rfl (fun c1 => ?_) (fun c1 => ?_)
  · replace h := ite_t c1 h
    refine x_iload_n d_P_bestWithPedalAt_55 rfl 3 rfl ?_
    obtain rfl := Option.some.inj h
    exact x_ret (r := some (.int w3)) d_P_bestWithPedalAt_56 ⟨_, rfl, rfl⟩
  · replace h := ite_f c1 h
    refine x_aload_n d_P_bestWithPedalAt_11 rfl 0 rfl ?_
    refine y_getR d_P_bestWithPedalAt_12 fl_9_9 rfl kd_67 rr_67_0 ?_
    refine x_iload d_P_bestWithPedalAt_15 4 rfl ?_
    obtain ⟨g2, h⟩ := gd_inv h
    refine y_iald d_P_bestWithPedalAt_17 kd_68 g2 ?_
    refine x_iconst d_P_bestWithPedalAt_18 ic_m1 ?_
    refine x_icmp_eq (tgt := 49) d_P_bestWithPedalAt_19 rfl (fun c3 => ?_) (fun c3 => ?_)
    · replace h := ite_t c3 h
      obtain ⟨v4, e5, h⟩ := lt_inv h
      refine y_iinc (L1 := [(0, .ref 67), (1, .ref 57), (2, .int z2), (3, .int w3), (4, .int v4)]) e5 ic_1 d_P_bestWithPedalAt_49 4 rfl (Nat.le_of_ble_eq_true rfl) rfl rfl ?_
      refine x_goto (tgt := 5) d_P_bestWithPedalAt_52 rfl ?_
      exact ih w3 v4 _ h
    · replace h := ite_f c3 h
      refine x_aload_n d_P_bestWithPedalAt_22 rfl 1 rfl ?_
      refine x_iload_n d_P_bestWithPedalAt_23 rfl 2 rfl ?_
      refine x_iload d_P_bestWithPedalAt_24 4 rfl ?_
      refine x_iload_n d_P_bestWithPedalAt_26 rfl 2 rfl ?_
      obtain ⟨v7, q6, h⟩ := bd_inv h
      refine y_S4i (v := v7) (S1 := S) d_P_bestWithPedalAt_27 ml_9_15 (Nat.le_of_ble_eq_true rfl) (Nat.le_of_ble_eq_true rfl) (c_P_isFree (by omega) q6) ?_
      refine x_if_eq (tgt := 49) d_P_bestWithPedalAt_30 rfl (fun c8 => ?_) (fun c8 => ?_)
      · replace h := ite_t c8 h
        obtain ⟨v9, e10, h⟩ := lt_inv h
        refine y_iinc (L1 := [(0, .ref 67), (1, .ref 57), (2, .int z2), (3, .int w3), (4, .int v9)]) e10 ic_1 d_P_bestWithPedalAt_49 4 rfl (Nat.le_of_ble_eq_true rfl) rfl rfl ?_
        refine x_goto (tgt := 5) d_P_bestWithPedalAt_52 rfl ?_
        exact ih w3 v9 _ h
      · replace h := ite_f c8 h
        refine x_iload_n d_P_bestWithPedalAt_33 rfl 3 rfl ?_
        refine x_aload_n d_P_bestWithPedalAt_34 rfl 0 rfl ?_
        refine y_getR d_P_bestWithPedalAt_35 fl_9_9 rfl kd_67 rr_67_0 ?_
        refine x_iload d_P_bestWithPedalAt_38 4 rfl ?_
        obtain ⟨g11, h⟩ := gd_inv h
        refine y_iald d_P_bestWithPedalAt_40 kd_68 g11 ?_
        refine x_iconst d_P_bestWithPedalAt_41 ic_1 ?_
        refine x_iload_n d_P_bestWithPedalAt_42 rfl 2 rfl ?_
        refine x_ishl d_P_bestWithPedalAt_43 ?_
        refine x_ior d_P_bestWithPedalAt_44 ?_
        obtain ⟨v13, q12, h⟩ := bd_inv h
        refine y_S2i (v := v13) (S1 := S) d_P_bestWithPedalAt_45 ml_9_29 (Nat.le_of_ble_eq_true rfl) (Nat.le_of_ble_eq_true rfl) (c_P_better (by omega) q12) ?_
        refine x_istore_n (L1 := [(0, .ref 67), (1, .ref 57), (2, .int z2), (3, .int v13), (4, .int w4)]) d_P_bestWithPedalAt_48 rfl (Nat.le_of_ble_eq_true rfl) rfl rfl ?_
        obtain ⟨v14, e15, h⟩ := lt_inv h
        refine y_iinc (L1 := [(0, .ref 67), (1, .ref 57), (2, .int z2), (3, .int v13), (4, .int v14)]) e15 ic_1 d_P_bestWithPedalAt_49 4 rfl (Nat.le_of_ble_eq_true rfl) rfl rfl ?_
        refine x_goto (tgt := 5) d_P_bestWithPedalAt_52 rfl ?_
        exact ih v13 v14 _ h
set_option maxRecDepth 100000 in
set_option maxHeartbeats 4000000 in
theorem c_P_bestWithPedalAt {X : Nat × (Nat → Int32)} {D F G : Nat} (hD : 4 ≤ D) {S : St} {p1 : Int32} {res : Int32} (h : fP_bestWithPedalAt F G S p1 = some res) : Ek X (D) mP_bestWithPedalAt 0 [(0, .ref 67), (1, .ref 57), (2, .int p1)] [] S (some (.int res)) S := by
  obtain ⟨D, rfl⟩ : ∃ E, D = E + 1 := ⟨D - 1, by omega⟩
  unfold fP_bestWithPedalAt at h
  refine x_iconst d_P_bestWithPedalAt_0 ic_m1 ?_
  refine x_istore_n (L1 := [(0, .ref 67), (1, .ref 57), (2, .int p1), (3, .int (-1 : Int32))]) d_P_bestWithPedalAt_1 rfl (Nat.le_of_ble_eq_true rfl) rfl rfl ?_
  refine x_iconst d_P_bestWithPedalAt_2 ic_0 ?_
  refine x_istore (L1 := [(0, .ref 67), (1, .ref 57), (2, .int p1), (3, .int (-1 : Int32)), (4, .int (0 : Int32))]) d_P_bestWithPedalAt_3 (Nat.le_of_ble_eq_true rfl) rfl rfl ?_
  refine T_P_bestWithPedalAt_5 (by omega)   F (-1 : Int32) (0 : Int32) _ h
/-! NinetyPlayers$Pedaller.fewest -/
def b_P_fewest_45 (F G : Nat) (z2 : Int32) (k73 : St → Option (Int32 × St)) (rec : Int32 → St → Option (Int32 × St)) (w3 : Int32) (S : St) : Option (Int32 × St) :=
  if z2 ≤ w3 then k73 S else bd (fP_isFree F G S z2 w3 w3) fun v15 => if v15 = 0 then gd (inB w3 12) (lt (sI S 68 w3.toNatClampNeg (-1 : Int32)) fun S20 => lt (w3 + 1) fun v22 => rec v22 S20) else lt (w3 + 1) fun v17 => rec v17 S
def b_P_fewest_23 (F G : Nat) (k79 : St → Option (Int32 × St)) (rec : Int32 → St → Option (Int32 × St)) (w2 : Int32) (S : St) : Option (Int32 × St) :=
  if (S.1 57 0) ≤ w2 then k79 S else bd (fP_bestWithPedalAt F G S w2) fun v9 => gd (inB w2 12) (lt (sI S 68 w2.toNatClampNeg v9) fun S11 => fx2 (b_P_fewest_45 F G w2 (fun S24 => lt (w2 + 1) fun v25 => rec v25 S24)) F (0 : Int32) S11)
def b_P_fewest_83 (F G : Nat) (S : St) (rec : Int32 → Int32 → Option (Int32 × St)) (w2 : Int32) (w3 : Int32) : Option (Int32 × St) :=
  if (S.1 57 0) ≤ w3 then some (w2, S) else gd (inB w3 12) (bd (fP_better F G S w2 (S.1 68 w3.toNatClampNeg)) fun v31 => lt (w3 + 1) fun v32 => rec v31 v32)
def fP_fewest (F G : Nat) (S : St) : Option (Int32 × St) :=
  bd (fP_isFree F G S (0 : Int32) (0 : Int32) (0 : Int32)) fun v2 => if v2 = 0 then gd (inB (0 : Int32) 12) (lt (sI S 68 (0 : Int32).toNatClampNeg (-1 : Int32)) fun S5 => fx2 (b_P_fewest_23 F G  (fun S27 => fx2 (b_P_fewest_83 F G S27) F (-1 : Int32) (0 : Int32))) F (1 : Int32) S5) else gd (inB (0 : Int32) 12) (lt (sI S 68 (0 : Int32).toNatClampNeg (0 : Int32)) fun S35 => fx2 (b_P_fewest_23 F G  (fun S37 => fx2 (b_P_fewest_83 F G S37) F (-1 : Int32) (0 : Int32))) F (1 : Int32) S35)
set_option maxRecDepth 100000 in
set_option maxHeartbeats 4000000 in
theorem T_P_fewest_45 {X : Nat × (Nat → Int32)} {D F G : Nat} (hD : 5 ≤ D + 1) {z2 : Int32} {k73 : St → Option (Int32 × St)} (hk73 : ∀ (S1 : St) (res : Int32 × St), k73 S1 = some res → Ek X (D + 1) mP_fewest 73 [(0, .ref 67), (1, .ref 57), (2, .int z2)] [] S1 (some (.int res.1)) res.2) : ∀ (f : Nat) (w3 : Int32) (S : St) (res : Int32 × St), fx2 (b_P_fewest_45 F G z2 k73 ) f w3 S = some res → Ek X (D + 1) mP_fewest 45 [(0, .ref 67), (1, .ref 57), (2, .int z2), (3, .int w3)] [] S (some (.int res.1)) res.2 := by
  refine fx2_ind ?_
  intro rec ih w3 S res h
  unfold b_P_fewest_45 at h
  refine x_iload_n d_P_fewest_45 rfl 3 rfl ?_
  refine x_iload_n d_P_fewest_46 rfl 2 rfl ?_
  refine x_icmp_ge (tgt := 73) d_P_fewest_47 rfl (fun c13 => ?_) (fun c13 => ?_)
  · replace h := ite_t c13 h
    refine y_pick (L1 := [(0, .ref 67), (1, .ref 57), (2, .int z2)]) [0, 1, 2] rfl ?_
    exact hk73 S _ h
  · replace h := ite_f c13 h
    refine x_aload_n d_P_fewest_50 rfl 1 rfl ?_
    refine x_iload_n d_P_fewest_51 rfl 2 rfl ?_
    refine x_iload_n d_P_fewest_52 rfl 3 rfl ?_
    refine x_iload_n d_P_fewest_53 rfl 3 rfl ?_
    obtain ⟨v15, q14, h⟩ := bd_inv h
    refine y_S4i (v := v15) (S1 := S) d_P_fewest_54 ml_9_15 (Nat.le_of_ble_eq_true rfl) (Nat.le_of_ble_eq_true rfl) (c_P_isFree (by omega) q14) ?_
    refine x_if_ne (tgt := 67) d_P_fewest_57 rfl (fun c16 => ?_) (fun c16 => ?_)
    · replace h := ite_f c16 h
      obtain ⟨v17, e18, h⟩ := lt_inv h
      refine y_iinc (L1 := [(0, .ref 67), (1, .ref 57), (2, .int z2), (3, .int v17)]) e18 ic_1 d_P_fewest_67 3 rfl (Nat.le_of_ble_eq_true rfl) rfl rfl ?_
      refine x_goto (tgt := 45) d_P_fewest_70 rfl ?_
      exact ih v17 S _ h
    · replace h := ite_t c16 h
      refine x_aload_n d_P_fewest_60 rfl 0 rfl ?_
      refine y_getR d_P_fewest_61 fl_9_9 rfl kd_67 rr_67_0 ?_
      refine x_iload_n d_P_fewest_64 rfl 3 rfl ?_
      refine x_iconst d_P_fewest_65 ic_m1 ?_
      obtain ⟨g19, h⟩ := gd_inv h
      obtain ⟨S20, e21, h⟩ := lt_inv h
      refine y_iast e21 d_P_fewest_66 kd_68 g19 ?_
      obtain ⟨v22, e23, h⟩ := lt_inv h
      refine y_iinc (L1 := [(0, .ref 67), (1, .ref 57), (2, .int z2), (3, .int v22)]) e23 ic_1 d_P_fewest_67 3 rfl (Nat.le_of_ble_eq_true rfl) rfl rfl ?_
      refine x_goto (tgt := 45) d_P_fewest_70 rfl ?_
      exact ih v22 S20 _ h
set_option maxRecDepth 100000 in
set_option maxHeartbeats 4000000 in
theorem T_P_fewest_23 {X : Nat × (Nat → Int32)} {D F G : Nat} (hD : 5 ≤ D + 1) {k79 : St → Option (Int32 × St)} (hk79 : ∀ (S1 : St) (res : Int32 × St), k79 S1 = some res → Ek X (D + 1) mP_fewest 79 [(0, .ref 67), (1, .ref 57)] [] S1 (some (.int res.1)) res.2) : ∀ (f : Nat) (w2 : Int32) (S : St) (res : Int32 × St), fx2 (b_P_fewest_23 F G k79 ) f w2 S = some res → Ek X (D + 1) mP_fewest 23 [(0, .ref 67), (1, .ref 57), (2, .int w2)] [] S (some (.int res.1)) res.2 := by
  refine fx2_ind ?_
  intro rec ih w2 S res h
  unfold b_P_fewest_23 at h
  refine x_iload_n d_P_fewest_23 rfl 2 rfl ?_
  refine x_aload_n d_P_fewest_24 rfl 1 rfl ?_
  refine y_getI d_P_fewest_25 fl_9_19 rfl kd_57 ?_
  refine x_icmp_ge (tgt := 79) d_P_fewest_28 rfl (fun c7 => ?_) (fun c7 => ?_)
  · replace h := ite_t c7 h
    refine y_pick (L1 := [(0, .ref 67), (1, .ref 57)]) [0, 1] rfl ?_
    exact hk79 S _ h
  · replace h := ite_f c7 h
    refine x_aload_n d_P_fewest_31 rfl 0 rfl ?_
    refine y_getR d_P_fewest_32 fl_9_9 rfl kd_67 rr_67_0 ?_
    refine x_iload_n d_P_fewest_35 rfl 2 rfl ?_
    refine x_aload_n d_P_fewest_36 rfl 0 rfl ?_
    refine x_aload_n d_P_fewest_37 rfl 1 rfl ?_
    refine x_iload_n d_P_fewest_38 rfl 2 rfl ?_
    obtain ⟨v9, q8, h⟩ := bd_inv h
    refine y_V2i (v := v9) (S1 := S) d_P_fewest_39 ml_9_25 kd_67 rfl (Nat.le_of_ble_eq_true rfl) (Nat.le_of_ble_eq_true rfl) (c_P_bestWithPedalAt (by omega) q8) ?_
    obtain ⟨g10, h⟩ := gd_inv h
    obtain ⟨S11, e12, h⟩ := lt_inv h
    refine y_iast e12 d_P_fewest_42 kd_68 g10 ?_
    refine x_iconst d_P_fewest_43 ic_0 ?_
    refine x_istore_n (L1 := [(0, .ref 67), (1, .ref 57), (2, .int w2), (3, .int (0 : Int32))]) d_P_fewest_44 rfl (Nat.le_of_ble_eq_true rfl) rfl rfl ?_
    refine T_P_fewest_45 (by omega)  ?_ F (0 : Int32) S11 _ h
    · intro S24 res h
      obtain ⟨v25, e26, h⟩ := lt_inv h
      refine y_iinc (L1 := [(0, .ref 67), (1, .ref 57), (2, .int v25)]) e26 ic_1 d_P_fewest_73 2 rfl (Nat.le_of_ble_eq_true rfl) rfl rfl ?_
      refine x_goto (tgt := 23) d_P_fewest_76 rfl ?_
      exact ih v25 S24 _ h
set_option maxRecDepth 100000 in
set_option maxHeartbeats 4000000 in
theorem T_P_fewest_83 {X : Nat × (Nat → Int32)} {D F G : Nat} (hD : 5 ≤ D + 1) {S : St} : ∀ (f : Nat) (w2 : Int32) (w3 : Int32) (res : Int32 × St), fx2 (b_P_fewest_83 F G S ) f w2 w3 = some res → Ek X (D + 1) mP_fewest 83 [(0, .ref 67), (1, .ref 57), (2, .int w2), (3, .int w3)] [] S (some (.int res.1)) res.2 := by
  refine fx2_ind ?_
  intro rec ih w2 w3 res h
  unfold b_P_fewest_83 at h
  refine x_iload_n d_P_fewest_83 rfl 3 rfl ?_
  refine x_aload_n d_P_fewest_84 rfl 1 rfl ?_
  refine y_getI d_P_fewest_85 fl_9_19 rfl kd_57 ?_
  refine x_icmp_ge (tgt := 108) d_P_fewest_88 rfl (fun c28 => ?_) (fun c28 => ?_)
  · replace h := ite_t c28 h
    refine x_iload_n d_P_fewest_108 rfl 2 rfl ?_
    obtain rfl := Option.some.inj h
    exact x_ret (r := some (.int w2)) d_P_fewest_109 ⟨_, rfl, rfl⟩
  · replace h := ite_f c28 h
    refine x_iload_n d_P_fewest_91 rfl 2 rfl ?_
    refine x_aload_n d_P_fewest_92 rfl 0 rfl ?_
    refine y_getR d_P_fewest_93 fl_9_9 rfl kd_67 rr_67_0 ?_
    refine x_iload_n d_P_fewest_96 rfl 3 rfl ?_
    obtain ⟨g29, h⟩ := gd_inv h
    refine y_iald d_P_fewest_97 kd_68 g29 ?_
    obtain ⟨v31, q30, h⟩ := bd_inv h
    refine y_S2i (v := v31) (S1 := S) d_P_fewest_98 ml_9_29 (Nat.le_of_ble_eq_true rfl) (Nat.le_of_ble_eq_true rfl) (c_P_better (by omega) q30) ?_
    refine x_istore_n (L1 := [(0, .ref 67), (1, .ref 57), (2, .int v31), (3, .int w3)]) d_P_fewest_101 rfl (Nat.le_of_ble_eq_true rfl) rfl rfl ?_
    obtain ⟨v32, e33, h⟩ := lt_inv h
    refine y_iinc (L1 := [(0, .ref 67), (1, .ref 57), (2, .int v31), (3, .int v32)]) e33 ic_1 d_P_fewest_102 3 rfl (Nat.le_of_ble_eq_true rfl) rfl rfl ?_
    refine x_goto (tgt := 83) d_P_fewest_105 rfl ?_
    exact ih v31 v32 _ h
set_option maxRecDepth 100000 in
set_option maxHeartbeats 4000000 in
theorem c_P_fewest {X : Nat × (Nat → Int32)} {D F G : Nat} (hD : 5 ≤ D) {S : St} {res : Int32 × St} (h : fP_fewest F G S  = some res) : Ek X (D) mP_fewest 0 [(0, .ref 67), (1, .ref 57)] [] S (some (.int res.1)) res.2 := by
  obtain ⟨D, rfl⟩ : ∃ E, D = E + 1 := ⟨D - 1, by omega⟩
  unfold fP_fewest at h
  refine x_aload_n d_P_fewest_0 rfl 0 rfl ?_
  refine y_getR d_P_fewest_1 fl_9_9 rfl kd_67 rr_67_0 ?_
  refine x_iconst d_P_fewest_4 ic_0 ?_
  refine x_aload_n d_P_fewest_5 rfl 1 rfl ?_
  refine x_iconst d_P_fewest_6 ic_0 ?_
  refine x_iconst d_P_fewest_7 ic_0 ?_
  refine x_iconst d_P_fewest_8 ic_0 ?_
  obtain ⟨v2, q1, h⟩ := bd_inv h
  refine y_S4i (v := v2) (S1 := S) d_P_fewest_9 ml_9_15 (Nat.le_of_ble_eq_true rfl) (Nat.le_of_ble_eq_true rfl) (c_P_isFree (by omega) q1) ?_
  refine x_if_eq (tgt := 19) d_P_fewest_12 rfl (fun c3 => ?_) (fun c3 => ?_)
  · replace h := ite_t c3 h
    refine x_iconst d_P_fewest_19 ic_m1 ?_
    obtain ⟨g4, h⟩ := gd_inv h
    obtain ⟨S5, e6, h⟩ := lt_inv h
    refine y_iast e6 d_P_fewest_20 kd_68 g4 ?_
    refine x_iconst d_P_fewest_21 ic_1 ?_
    refine x_istore_n (L1 := [(0, .ref 67), (1, .ref 57), (2, .int (1 : Int32))]) d_P_fewest_22 rfl (Nat.le_of_ble_eq_true rfl) rfl rfl ?_
    refine T_P_fewest_23 (by omega)  ?_ F (1 : Int32) S5 _ h
    · intro S27 res h
      refine x_iconst d_P_fewest_79 ic_m1 ?_
      refine x_istore_n (L1 := [(0, .ref 67), (1, .ref 57), (2, .int (-1 : Int32))]) d_P_fewest_80 rfl (Nat.le_of_ble_eq_true rfl) rfl rfl ?_
      refine x_iconst d_P_fewest_81 ic_0 ?_
      refine x_istore_n (L1 := [(0, .ref 67), (1, .ref 57), (2, .int (-1 : Int32)), (3, .int (0 : Int32))]) d_P_fewest_82 rfl (Nat.le_of_ble_eq_true rfl) rfl rfl ?_
      refine T_P_fewest_83 (by omega)   F (-1 : Int32) (0 : Int32) _ h
  · replace h := ite_f c3 h
    refine x_iconst d_P_fewest_15 ic_0 ?_
    refine x_goto (tgt := 20) d_P_fewest_16 rfl ?_
    obtain ⟨g34, h⟩ := gd_inv h
    obtain ⟨S35, e36, h⟩ := lt_inv h
    refine y_iast e36 d_P_fewest_20 kd_68 g34 ?_
    refine x_iconst d_P_fewest_21 ic_1 ?_
    refine x_istore_n (L1 := [(0, .ref 67), (1, .ref 57), (2, .int (1 : Int32))]) d_P_fewest_22 rfl (Nat.le_of_ble_eq_true rfl) rfl rfl ?_
    refine T_P_fewest_23 (by omega)  ?_ F (1 : Int32) S35 _ h
    · intro S37 res h
      refine x_iconst d_P_fewest_79 ic_m1 ?_
      refine x_istore_n (L1 := [(0, .ref 67), (1, .ref 57), (2, .int (-1 : Int32))]) d_P_fewest_80 rfl (Nat.le_of_ble_eq_true rfl) rfl rfl ?_
      refine x_iconst d_P_fewest_81 ic_0 ?_
      refine x_istore_n (L1 := [(0, .ref 67), (1, .ref 57), (2, .int (-1 : Int32)), (3, .int (0 : Int32))]) d_P_fewest_82 rfl (Nat.le_of_ble_eq_true rfl) rfl rfl ?_
      refine T_P_fewest_83 (by omega)   F (-1 : Int32) (0 : Int32) _ h
/-! NinetyPlayers.pedals -/
def fN_pedals (F G : Nat) (S : St) (p1 : Int32) : Option (Int32 × St) :=
  if p1 < 0 then some ((-1 : Int32), S) else if p1 ≤ (1 : Int32) then bd (fN_lookAtKeys F G S ) fun S4 => bd2 (fP_fewest F G S4) fun v6 S7 => if p1 = 0 then if v6 = (-1 : Int32) then some (v6, S7) else bd (fJ_bitCount F G S7 v6) fun v11 => some (v11, S7) else some (v6, S7) else some ((-1 : Int32), S)
set_option maxRecDepth 100000 in
set_option maxHeartbeats 4000000 in
theorem c_N_pedals {X : Nat × (Nat → Int32)} {D F G : Nat} (hD : 6 ≤ D) {S : St} {p1 : Int32} {res : Int32 × St} (h : fN_pedals F G S p1 = some res) : Ek X (D) mN_pedals 0 [(0, .ref 0), (1, .int p1)] [] S (some (.int res.1)) res.2 := by
  obtain ⟨D, rfl⟩ : ∃ E, D = E + 1 := ⟨D - 1, by omega⟩
  unfold fN_pedals at h
  refine x_iload_n d_N_pedals_0 rfl 1 rfl ?_
  refine x_if_lt (tgt := 9) d_N_pedals_1 rfl (fun c1 => ?_) (fun c1 => ?_)
  · replace h := ite_t c1 h
    refine x_iconst d_N_pedals_9 ic_m1 ?_
    obtain rfl := Option.some.inj h
    exact x_ret (r := some (.int (-1 : Int32))) d_N_pedals_10 ⟨_, rfl, rfl⟩
  · replace h := ite_f c1 h
    refine x_iload_n d_N_pedals_4 rfl 1 rfl ?_
    refine x_iconst d_N_pedals_5 ic_1 ?_
    refine x_icmp_le (tgt := 11) d_N_pedals_6 rfl (fun c2 => ?_) (fun c2 => ?_)
    · replace h := ite_t c2 h
      refine x_aload_n d_N_pedals_11 rfl 0 rfl ?_
      obtain ⟨S4, q3, h⟩ := bd_inv h
      refine y_V0v (S1 := S4) d_N_pedals_12 ml_0_176 kd_0 rfl (Nat.le_of_ble_eq_true rfl) (Nat.le_of_ble_eq_true rfl) (c_N_lookAtKeys (by omega) q3) ?_
      refine x_aload_n d_N_pedals_15 rfl 0 rfl ?_
      refine y_getR d_N_pedals_16 fl_0_66 rfl kd_0 rr_0_9 ?_
      refine x_aload_n d_N_pedals_19 rfl 0 rfl ?_
      refine y_getR d_N_pedals_20 fl_0_57 rfl kd_0 rr_0_7 ?_
      obtain ⟨v6, S7, q5, h⟩ := bd2_inv h
      refine y_V1i (v := v6) (S1 := S7) d_N_pedals_23 ml_0_298 kd_67 rfl (Nat.le_of_ble_eq_true rfl) (Nat.le_of_ble_eq_true rfl) (c_P_fewest (by omega) q5) ?_
      refine x_istore_n (L1 := [(0, .ref 0), (1, .int p1), (2, .int v6)]) d_N_pedals_26 rfl (Nat.le_of_ble_eq_true rfl) rfl rfl ?_
      refine x_iload_n d_N_pedals_27 rfl 1 rfl ?_
      refine x_if_ne (tgt := 43) d_N_pedals_28 rfl (fun c8 => ?_) (fun c8 => ?_)
      · replace h := ite_f c8 h
        refine x_iload_n d_N_pedals_43 rfl 2 rfl ?_
        obtain rfl := Option.some.inj h
        exact x_ret (r := some (.int v6)) d_N_pedals_44 ⟨_, rfl, rfl⟩
      · replace h := ite_t c8 h
        refine x_iload_n d_N_pedals_31 rfl 2 rfl ?_
        refine x_iconst d_N_pedals_32 ic_m1 ?_
        refine x_icmp_eq (tgt := 43) d_N_pedals_33 rfl (fun c9 => ?_) (fun c9 => ?_)
        · replace h := ite_t c9 h
          refine x_iload_n d_N_pedals_43 rfl 2 rfl ?_
          obtain rfl := Option.some.inj h
          exact x_ret (r := some (.int v6)) d_N_pedals_44 ⟨_, rfl, rfl⟩
        · replace h := ite_f c9 h
          refine x_iload_n d_N_pedals_36 rfl 2 rfl ?_
          obtain ⟨v11, q10, h⟩ := bd_inv h
          refine y_S1i (v := v11) (S1 := S7) d_N_pedals_37 ml_0_211 (Nat.le_of_ble_eq_true rfl) (Nat.le_of_ble_eq_true rfl) (c_J_bitCount (by omega) q10) ?_
          refine x_goto (tgt := 44) d_N_pedals_40 rfl ?_
          obtain rfl := Option.some.inj h
          exact x_ret (r := some (.int v11)) d_N_pedals_44 ⟨_, rfl, rfl⟩
    · replace h := ite_f c2 h
      refine x_iconst d_N_pedals_9 ic_m1 ?_
      obtain rfl := Option.some.inj h
      exact x_ret (r := some (.int (-1 : Int32))) d_N_pedals_10 ⟨_, rfl, rfl⟩
/-! NinetyPlayersModel.pedals -/
def j_M_pedals_65 (F G : Nat) (z1 : Int32) (z2 : Int32) (z3 : Int32) (k105 : Int32 → St → Option (Int32 × St)) (rec : Int32 → Int32 → St → Option (Int32 × St)) (S : St) (y4 : Int32) (y5 : Int32) : Option (Int32 × St) :=
  gd (inB (40 : Int32) 41) (lt (sI S 101 (40 : Int32).toNatClampNeg y5) fun S20 => bd (fM_layHold F G S20 ) fun S23 => bd (fM_canBePlayed F G S23 z2 z3 (S23.1 78 50) (S23.1 78 49)) fun v25 => if v25 = 0 then lt (y5 + 1) fun v27 => rec y4 v27 S23 else lt (y5 + 1) fun v29 => rec y5 v29 S23)
def b_M_pedals_33 (F G : Nat) (z1 : Int32) (z2 : Int32) (z3 : Int32) (k105 : Int32 → St → Option (Int32 × St)) (rec : Int32 → Int32 → St → Option (Int32 × St)) (w4 : Int32) (w5 : Int32) (S : St) : Option (Int32 × St) :=
  if ((1 : Int32) <<< ((S.1 78 46) &&& 31)) ≤ w5 then k105 w4 S else if w4 < 0 then j_M_pedals_65 F G z1 z2 z3 k105 rec  S w4 w5 else bd (fM_members F G S w5) fun v13 => bd (fM_members F G S w4) fun v15 => if v13 < v15 then j_M_pedals_65 F G z1 z2 z3 k105 rec  S w4 w5 else lt (w5 + 1) fun v17 => rec w4 v17 S
def fM_pedals (F G : Nat) (S : St) (p1 : Int32) : Option (Int32 × St) :=
  bd (fM_isIn F G S p1 (0 : Int32) (1 : Int32)) fun v2 => if v2 = 0 then some ((-1 : Int32), S) else bd (fM_fill F G S ) fun S5 => bd (fM_given F G S5 (1 : Int32)) fun v7 => bd (fM_given F G S5 (2 : Int32)) fun v9 => fx3 (b_M_pedals_33 F G p1 v7 v9 (fun v31 S32 => if 0 ≤ v31 then if p1 = 0 then bd (fM_members F G S32 v31) fun v36 => some (v36, S32) else some (v31, S32) else some ((-1 : Int32), S32))) F (-1 : Int32) (0 : Int32) S5
set_option maxRecDepth 100000 in
set_option maxHeartbeats 4000000 in
theorem T_M_pedals_33 {X : Nat × (Nat → Int32)} {D F G : Nat} (hD : 4 ≤ D + 1) {z1 : Int32} {z2 : Int32} {z3 : Int32} {k105 : Int32 → St → Option (Int32 × St)} (hk105 : ∀ (u4 : Int32) (S1 : St) (res : Int32 × St), k105 u4 S1 = some res → Ek X (D + 1) mM_pedals 105 [(1, .int z1), (4, .int u4)] [] S1 (some (.int res.1)) res.2) : ∀ (f : Nat) (w4 : Int32) (w5 : Int32) (S : St) (res : Int32 × St), fx3 (b_M_pedals_33 F G z1 z2 z3 k105 ) f w4 w5 S = some res → Ek X (D + 1) mM_pedals 33 [(0, .ref 78), (1, .int z1), (2, .int z2), (3, .int z3), (4, .int w4), (5, .int w5)] [] S (some (.int res.1)) res.2 := by
  refine fx3_ind ?_
  intro rec ih w4 w5 S res h
  unfold b_M_pedals_33 at h
  have J65 : ∀ (S : St) (y4 : Int32) (y5 : Int32) (res : Int32 × St), j_M_pedals_65 F G z1 z2 z3 k105 rec S y4 y5 = some res → Ek X (D + 1) mM_pedals 65 [(0, .ref 78), (1, .int z1), (2, .int z2), (3, .int z3), (4, .int y4), (5, .int y5)] [] S (some (.int res.1)) res.2 := by
    intro S y4 y5 res h
    unfold j_M_pedals_65 at h
    refine x_aload_n d_M_pedals_65 rfl 0 rfl ?_
    refine y_getR d_M_pedals_66 fl_11_96 rfl kd_78 rr_78_59 ?_
    refine x_bipush d_M_pedals_69 bp_40 ?_
    refine x_iload d_M_pedals_71 5 rfl ?_
    obtain ⟨g19, h⟩ := gd_inv h
    obtain ⟨S20, e21, h⟩ := lt_inv h
    refine y_iast e21 d_M_pedals_73 kd_101 g19 ?_
    refine x_aload_n d_M_pedals_74 rfl 0 rfl ?_
    obtain ⟨S23, q22, h⟩ := bd_inv h
    refine y_V0v (S1 := S23) d_M_pedals_75 ml_11_433 kd_78 rfl (Nat.le_of_ble_eq_true rfl) (Nat.le_of_ble_eq_true rfl) (c_M_layHold (by omega) q22) ?_
    refine x_aload_n d_M_pedals_78 rfl 0 rfl ?_
    refine x_iload_n d_M_pedals_79 rfl 2 rfl ?_
    refine x_iload_n d_M_pedals_80 rfl 3 rfl ?_
    refine x_aload_n d_M_pedals_81 rfl 0 rfl ?_
    refine y_getI d_M_pedals_82 fl_11_84 rfl kd_78 ?_
    refine x_aload_n d_M_pedals_85 rfl 0 rfl ?_
    refine y_getI d_M_pedals_86 fl_11_81 rfl kd_78 ?_
    obtain ⟨v25, q24, h⟩ := bd_inv h
    refine y_V4i (v := v25) (S1 := S23) d_M_pedals_89 ml_11_457 kd_78 rfl (Nat.le_of_ble_eq_true rfl) (Nat.le_of_ble_eq_true rfl) (c_M_canBePlayed (by omega) q24) ?_
    refine x_if_eq (tgt := 99) d_M_pedals_92 rfl (fun c26 => ?_) (fun c26 => ?_)
    · replace h := ite_t c26 h
      obtain ⟨v27, e28, h⟩ := lt_inv h
      refine y_iinc (L1 := [(0, .ref 78), (1, .int z1), (2, .int z2), (3, .int z3), (4, .int y4), (5, .int v27)]) e28 ic_1 d_M_pedals_99 5 rfl (Nat.le_of_ble_eq_true rfl) rfl rfl ?_
      refine x_goto (tgt := 33) d_M_pedals_102 rfl ?_
      exact ih y4 v27 S23 _ h
    · replace h := ite_f c26 h
      refine x_iload d_M_pedals_95 5 rfl ?_
      refine x_istore (L1 := [(0, .ref 78), (1, .int z1), (2, .int z2), (3, .int z3), (4, .int y5), (5, .int y5)]) d_M_pedals_97 (Nat.le_of_ble_eq_true rfl) rfl rfl ?_
      obtain ⟨v29, e30, h⟩ := lt_inv h
      refine y_iinc (L1 := [(0, .ref 78), (1, .int z1), (2, .int z2), (3, .int z3), (4, .int y5), (5, .int v29)]) e30 ic_1 d_M_pedals_99 5 rfl (Nat.le_of_ble_eq_true rfl) rfl rfl ?_
      refine x_goto (tgt := 33) d_M_pedals_102 rfl ?_
      exact ih y5 v29 S23 _ h
  refine x_iload d_M_pedals_33 5 rfl ?_
  refine x_iconst d_M_pedals_35 ic_1 ?_
  refine x_aload_n d_M_pedals_36 rfl 0 rfl ?_
  refine y_getI d_M_pedals_37 fl_11_78 rfl kd_78 ?_
  refine x_ishl d_M_pedals_40 ?_
  refine x_icmp_ge (tgt := 105) d_M_pedals_41 rfl (fun c10 => ?_) (fun c10 => ?_)
  · replace h := ite_t c10 h
    refine y_pick (L1 := [(1, .int z1), (4, .int w4)]) [1, 4] rfl ?_
    exact hk105 w4 S _ h
  · replace h := ite_f c10 h
    refine x_iload d_M_pedals_44 4 rfl ?_
    refine x_if_lt (tgt := 65) d_M_pedals_46 rfl (fun c11 => ?_) (fun c11 => ?_)
    · replace h := ite_t c11 h
      exact J65 S w4 w5 _ h
    · replace h := ite_f c11 h
      refine x_iload d_M_pedals_49 5 rfl ?_
      obtain ⟨v13, q12, h⟩ := bd_inv h
      refine y_S1i (v := v13) (S1 := S) d_M_pedals_51 ml_11_331 (Nat.le_of_ble_eq_true rfl) (Nat.le_of_ble_eq_true rfl) (c_M_members (by omega) q12) ?_
      refine x_iload d_M_pedals_54 4 rfl ?_
      obtain ⟨v15, q14, h⟩ := bd_inv h
      refine y_S1i (v := v15) (S1 := S) d_M_pedals_56 ml_11_331 (Nat.le_of_ble_eq_true rfl) (Nat.le_of_ble_eq_true rfl) (c_M_members (by omega) q14) ?_
      refine x_icmp_lt (tgt := 65) d_M_pedals_59 rfl (fun c16 => ?_) (fun c16 => ?_)
      · replace h := ite_t c16 h
        exact J65 S w4 w5 _ h
      · replace h := ite_f c16 h
        refine x_goto (tgt := 99) d_M_pedals_62 rfl ?_
        obtain ⟨v17, e18, h⟩ := lt_inv h
        refine y_iinc (L1 := [(0, .ref 78), (1, .int z1), (2, .int z2), (3, .int z3), (4, .int w4), (5, .int v17)]) e18 ic_1 d_M_pedals_99 5 rfl (Nat.le_of_ble_eq_true rfl) rfl rfl ?_
        refine x_goto (tgt := 33) d_M_pedals_102 rfl ?_
        exact ih w4 v17 S _ h
set_option maxRecDepth 100000 in
set_option maxHeartbeats 4000000 in
theorem c_M_pedals {X : Nat × (Nat → Int32)} {D F G : Nat} (hD : 4 ≤ D) {S : St} {p1 : Int32} {res : Int32 × St} (h : fM_pedals F G S p1 = some res) : Ek X (D) mM_pedals 0 [(0, .ref 78), (1, .int p1)] [] S (some (.int res.1)) res.2 := by
  obtain ⟨D, rfl⟩ : ∃ E, D = E + 1 := ⟨D - 1, by omega⟩
  unfold fM_pedals at h
  refine x_iload_n d_M_pedals_0 rfl 1 rfl ?_
  refine x_iconst d_M_pedals_1 ic_0 ?_
  refine x_iconst d_M_pedals_2 ic_1 ?_
  obtain ⟨v2, q1, h⟩ := bd_inv h
  refine y_S3i (v := v2) (S1 := S) d_M_pedals_3 ml_11_429 (Nat.le_of_ble_eq_true rfl) (Nat.le_of_ble_eq_true rfl) (c_M_isIn (by omega) q1) ?_
  refine x_if_ne (tgt := 11) d_M_pedals_6 rfl (fun c3 => ?_) (fun c3 => ?_)
  · replace h := ite_f c3 h
    refine x_aload_n d_M_pedals_11 rfl 0 rfl ?_
    obtain ⟨S5, q4, h⟩ := bd_inv h
    refine y_V0v (S1 := S5) d_M_pedals_12 ml_11_464 kd_78 rfl (Nat.le_of_ble_eq_true rfl) (Nat.le_of_ble_eq_true rfl) (c_M_fill (by omega) q4) ?_
    refine x_aload_n d_M_pedals_15 rfl 0 rfl ?_
    refine x_iconst d_M_pedals_16 ic_1 ?_
    obtain ⟨v7, q6, h⟩ := bd_inv h
    refine y_V1i (v := v7) (S1 := S5) d_M_pedals_17 ml_11_454 kd_78 rfl (Nat.le_of_ble_eq_true rfl) (Nat.le_of_ble_eq_true rfl) (c_M_given (by omega) q6) ?_
    refine x_istore_n (L1 := [(0, .ref 78), (1, .int p1), (2, .int v7)]) d_M_pedals_20 rfl (Nat.le_of_ble_eq_true rfl) rfl rfl ?_
    refine x_aload_n d_M_pedals_21 rfl 0 rfl ?_
    refine x_iconst d_M_pedals_22 ic_2 ?_
    obtain ⟨v9, q8, h⟩ := bd_inv h
    refine y_V1i (v := v9) (S1 := S5) d_M_pedals_23 ml_11_454 kd_78 rfl (Nat.le_of_ble_eq_true rfl) (Nat.le_of_ble_eq_true rfl) (c_M_given (by omega) q8) ?_
    refine x_istore_n (L1 := [(0, .ref 78), (1, .int p1), (2, .int v7), (3, .int v9)]) d_M_pedals_26 rfl (Nat.le_of_ble_eq_true rfl) rfl rfl ?_
    refine x_iconst d_M_pedals_27 ic_m1 ?_
    refine x_istore (L1 := [(0, .ref 78), (1, .int p1), (2, .int v7), (3, .int v9), (4, .int (-1 : Int32))]) d_M_pedals_28 (Nat.le_of_ble_eq_true rfl) rfl rfl ?_
    refine x_iconst d_M_pedals_30 ic_0 ?_
    refine x_istore (L1 := [(0, .ref 78), (1, .int p1), (2, .int v7), (3, .int v9), (4, .int (-1 : Int32)), (5, .int (0 : Int32))]) d_M_pedals_31 (Nat.le_of_ble_eq_true rfl) rfl rfl ?_
    refine T_M_pedals_33 (by omega)  ?_ F (-1 : Int32) (0 : Int32) S5 _ h
    · intro v31 S32 res h
      refine x_iload d_M_pedals_105 1 rfl ?_
      refine x_if_ge (tgt := 114) d_M_pedals_107 rfl (fun c33 => ?_) (fun c33 => ?_)
      · replace h := ite_t c33 h
        refine x_iload_n d_M_pedals_114 rfl 0 rfl ?_
        refine x_if_ne (tgt := 126) d_M_pedals_115 rfl (fun c34 => ?_) (fun c34 => ?_)
        · replace h := ite_f c34 h
          refine x_iload d_M_pedals_126 1 rfl ?_
          obtain rfl := Option.some.inj h
          exact x_ret (r := some (.int v31)) d_M_pedals_128 ⟨_, rfl, rfl⟩
        · replace h := ite_t c34 h
          refine x_iload d_M_pedals_118 1 rfl ?_
          obtain ⟨v36, q35, h⟩ := bd_inv h
          refine y_S1i (v := v36) (S1 := S32) d_M_pedals_120 ml_11_331 (Nat.le_of_ble_eq_true rfl) (Nat.le_of_ble_eq_true rfl) (c_M_members (by omega) q35) ?_
          refine x_goto (tgt := 128) d_M_pedals_123 rfl ?_
          obtain rfl := Option.some.inj h
          exact x_ret (r := some (.int v36)) d_M_pedals_128 ⟨_, rfl, rfl⟩
      · replace h := ite_f c33 h
        refine x_iconst d_M_pedals_110 ic_m1 ?_
        refine x_goto (tgt := 128) d_M_pedals_111 rfl ?_
        obtain rfl := Option.some.inj h
        exact x_ret (r := some (.int (-1 : Int32))) d_M_pedals_128 ⟨_, rfl, rfl⟩
  · replace h := ite_t c3 h
    refine x_iconst d_M_pedals_9 ic_m1 ?_
    obtain rfl := Option.some.inj h
    exact x_ret (r := some (.int (-1 : Int32))) d_M_pedals_10 ⟨_, rfl, rfl⟩
/-! NinetyPlayers$Keyboard.width -/
def fK_width (F G : Nat) (S : St) (p1 : Int32) : Option (Int32) :=
  if p1 = 0 then some (0 : Int32) else bd (fK_highest F G S p1) fun v3 => bd (fK_lowest F G S p1) fun v5 => some (v3 - v5)
set_option maxRecDepth 100000 in
set_option maxHeartbeats 4000000 in
theorem c_K_width {X : Nat × (Nat → Int32)} {D F G : Nat} (hD : 1 ≤ D) {S : St} {p1 : Int32} {res : Int32} (h : fK_width F G S p1 = some res) : Ek X (D) mK_width 0 [(0, .ref 57), (1, .int p1)] [] S (some (.int res)) S := by
  obtain ⟨D, rfl⟩ : ∃ E, D = E + 1 := ⟨D - 1, by omega⟩
  unfold fK_width at h
  refine x_iload_n d_K_width_0 rfl 1 rfl ?_
  refine x_if_ne (tgt := 8) d_K_width_1 rfl (fun c1 => ?_) (fun c1 => ?_)
  · replace h := ite_f c1 h
    refine x_aload_n d_K_width_8 rfl 0 rfl ?_
    refine x_iload_n d_K_width_9 rfl 1 rfl ?_
    obtain ⟨v3, q2, h⟩ := bd_inv h
    refine y_V1i (v := v3) (S1 := S) d_K_width_10 ml_7_78 kd_57 rfl (Nat.le_of_ble_eq_true rfl) (Nat.le_of_ble_eq_true rfl) (c_K_highest (by omega) q2) ?_
    refine x_aload_n d_K_width_13 rfl 0 rfl ?_
    refine x_iload_n d_K_width_14 rfl 1 rfl ?_
    obtain ⟨v5, q4, h⟩ := bd_inv h
    refine y_V1i (v := v5) (S1 := S) d_K_width_15 ml_7_81 kd_57 rfl (Nat.le_of_ble_eq_true rfl) (Nat.le_of_ble_eq_true rfl) (c_K_lowest (by omega) q4) ?_
    refine x_isub d_K_width_18 ?_
    obtain rfl := Option.some.inj h
    exact x_ret (r := some (.int (v3 - v5))) d_K_width_19 ⟨_, rfl, rfl⟩
  · replace h := ite_t c1 h
    refine x_iconst d_K_width_4 ic_0 ?_
    refine x_goto (tgt := 19) d_K_width_5 rfl ?_
    obtain rfl := Option.some.inj h
    exact x_ret (r := some (.int (0 : Int32))) d_K_width_19 ⟨_, rfl, rfl⟩
/-! NinetyPlayers.spread -/
def b_N_spread_17 (F G : Nat) (S : St) (z1 : Int32) (rec : Int32 → Int32 → Option (Int32 × St)) (w2 : Int32) (w3 : Int32) : Option (Int32 × St) :=
  gd (isSc S.2.2.1) (if (S.1 S.2.2.1 0) ≤ w3 then some (w2, S) else bd (fK_heldBy F G S z1 w3) fun v9 => bd (fK_width F G S v9) fun v11 => lt (if w2 < v11 then v11 else w2) fun v12 => lt (w3 + 1) fun v14 => rec v12 v14)
def fN_spread (F G : Nat) (S : St) (p1 : Int32) : Option (Int32 × St) :=
  bd (fN_isHand F G S p1) fun v2 => if v2 = 0 then some ((-1 : Int32), S) else bd (fN_lookAtKeys F G S ) fun S5 => fx2 (b_N_spread_17 F G S5 p1) F (0 : Int32) (0 : Int32)
set_option maxRecDepth 100000 in
set_option maxHeartbeats 4000000 in
theorem T_N_spread_17 {X : Nat × (Nat → Int32)} {D F G : Nat} (hD : 3 ≤ D + 1) {S : St} {z1 : Int32} : ∀ (f : Nat) (w2 : Int32) (w3 : Int32) (res : Int32 × St), fx2 (b_N_spread_17 F G S z1 ) f w2 w3 = some res → Ek X (D + 1) mN_spread 17 [(0, .ref 0), (1, .int z1), (2, .int w2), (3, .int w3)] [] S (some (.int res.1)) res.2 := by
  refine fx2_ind ?_
  intro rec ih w2 w3 res h
  unfold b_N_spread_17 at h
  refine x_iload_n d_N_spread_17 rfl 3 rfl ?_
  refine x_aload_n d_N_spread_18 rfl 0 rfl ?_
  refine y_getR d_N_spread_19 fl_0_24 rfl kd_0 rr_told ?_
  obtain ⟨g6, h⟩ := gd_inv h
  refine y_getI d_N_spread_22 fl_0_198 rfl (ksSc g6) ?_
  refine x_icmp_ge (tgt := 55) d_N_spread_25 rfl (fun c7 => ?_) (fun c7 => ?_)
  · replace h := ite_t c7 h
    refine x_iload_n d_N_spread_55 rfl 2 rfl ?_
    obtain rfl := Option.some.inj h
    exact x_ret (r := some (.int w2)) d_N_spread_56 ⟨_, rfl, rfl⟩
  · replace h := ite_f c7 h
    refine x_iload_n d_N_spread_28 rfl 2 rfl ?_
    refine x_aload_n d_N_spread_29 rfl 0 rfl ?_
    refine y_getR d_N_spread_30 fl_0_57 rfl kd_0 rr_0_7 ?_
    refine x_aload_n d_N_spread_33 rfl 0 rfl ?_
    refine y_getR d_N_spread_34 fl_0_57 rfl kd_0 rr_0_7 ?_
    refine x_iload_n d_N_spread_37 rfl 1 rfl ?_
    refine x_iload_n d_N_spread_38 rfl 3 rfl ?_
    obtain ⟨v9, q8, h⟩ := bd_inv h
    refine y_V2i (v := v9) (S1 := S) d_N_spread_39 ml_0_179 kd_57 rfl (Nat.le_of_ble_eq_true rfl) (Nat.le_of_ble_eq_true rfl) (c_K_heldBy (by omega) q8) ?_
    obtain ⟨v11, q10, h⟩ := bd_inv h
    refine y_V1i (v := v11) (S1 := S) d_N_spread_42 ml_0_302 kd_57 rfl (Nat.le_of_ble_eq_true rfl) (Nat.le_of_ble_eq_true rfl) (c_K_width (by omega) q10) ?_
    refine y_mmax d_N_spread_45 ml_0_234 (Nat.le_of_ble_eq_true rfl) ?_
    obtain ⟨v12, e13, h⟩ := lt_inv h
    refine y_istore_n (L1 := [(0, .ref 0), (1, .int z1), (2, .int v12), (3, .int w3)]) e13 d_N_spread_48 rfl (Nat.le_of_ble_eq_true rfl) rfl rfl ?_
    obtain ⟨v14, e15, h⟩ := lt_inv h
    refine y_iinc (L1 := [(0, .ref 0), (1, .int z1), (2, .int v12), (3, .int v14)]) e15 ic_1 d_N_spread_49 3 rfl (Nat.le_of_ble_eq_true rfl) rfl rfl ?_
    refine x_goto (tgt := 17) d_N_spread_52 rfl ?_
    exact ih v12 v14 _ h
set_option maxRecDepth 100000 in
set_option maxHeartbeats 4000000 in
theorem c_N_spread {X : Nat × (Nat → Int32)} {D F G : Nat} (hD : 3 ≤ D) {S : St} {p1 : Int32} {res : Int32 × St} (h : fN_spread F G S p1 = some res) : Ek X (D) mN_spread 0 [(0, .ref 0), (1, .int p1)] [] S (some (.int res.1)) res.2 := by
  obtain ⟨D, rfl⟩ : ∃ E, D = E + 1 := ⟨D - 1, by omega⟩
  unfold fN_spread at h
  refine x_iload_n d_N_spread_0 rfl 1 rfl ?_
  obtain ⟨v2, q1, h⟩ := bd_inv h
  refine y_S1i (v := v2) (S1 := S) d_N_spread_1 ml_0_173 (Nat.le_of_ble_eq_true rfl) (Nat.le_of_ble_eq_true rfl) (c_N_isHand (by omega) q1) ?_
  refine x_if_ne (tgt := 9) d_N_spread_4 rfl (fun c3 => ?_) (fun c3 => ?_)
  · replace h := ite_f c3 h
    refine x_aload_n d_N_spread_9 rfl 0 rfl ?_
    obtain ⟨S5, q4, h⟩ := bd_inv h
    refine y_V0v (S1 := S5) d_N_spread_10 ml_0_176 kd_0 rfl (Nat.le_of_ble_eq_true rfl) (Nat.le_of_ble_eq_true rfl) (c_N_lookAtKeys (by omega) q4) ?_
    refine x_iconst d_N_spread_13 ic_0 ?_
    refine x_istore_n (L1 := [(0, .ref 0), (1, .int p1), (2, .int (0 : Int32))]) d_N_spread_14 rfl (Nat.le_of_ble_eq_true rfl) rfl rfl ?_
    refine x_iconst d_N_spread_15 ic_0 ?_
    refine x_istore_n (L1 := [(0, .ref 0), (1, .int p1), (2, .int (0 : Int32)), (3, .int (0 : Int32))]) d_N_spread_16 rfl (Nat.le_of_ble_eq_true rfl) rfl rfl ?_
    refine T_N_spread_17 (by omega)   F (0 : Int32) (0 : Int32) _ h
  · replace h := ite_t c3 h
    refine x_iconst d_N_spread_7 ic_m1 ?_
    obtain rfl := Option.some.inj h
    exact x_ret (r := some (.int (-1 : Int32))) d_N_spread_8 ⟨_, rfl, rfl⟩
/-! NinetyPlayersModel.greater -/
def fM_greater (F G : Nat) (S : St) (p1 : Int32) (p2 : Int32) : Option (Int32) :=
  if p1 ≤ p2 then some p2 else some p1
set_option maxRecDepth 100000 in
set_option maxHeartbeats 4000000 in
theorem c_M_greater {X : Nat × (Nat → Int32)} {D F G : Nat} (hD : 0 ≤ D) {S : St} {p1 : Int32} {p2 : Int32} {res : Int32} (h : fM_greater F G S p1 p2 = some res) : Ek X (D) mM_greater 0 [(0, .int p1), (1, .int p2)] [] S (some (.int res)) S := by
  unfold fM_greater at h
  refine x_iload_n d_M_greater_0 rfl 0 rfl ?_
  refine x_iload_n d_M_greater_1 rfl 1 rfl ?_
  refine x_icmp_le (tgt := 9) d_M_greater_2 rfl (fun c1 => ?_) (fun c1 => ?_)
  · replace h := ite_t c1 h
    refine x_iload_n d_M_greater_9 rfl 1 rfl ?_
    obtain rfl := Option.some.inj h
    exact x_ret (r := some (.int p2)) d_M_greater_10 ⟨_, rfl, rfl⟩
  · replace h := ite_f c1 h
    refine x_iload_n d_M_greater_5 rfl 0 rfl ?_
    refine x_goto (tgt := 10) d_M_greater_6 rfl ?_
    obtain rfl := Option.some.inj h
    exact x_ret (r := some (.int p1)) d_M_greater_10 ⟨_, rfl, rfl⟩
/-! NinetyPlayersModel.spread -/
def b_M_spread_17 (F G : Nat) (S : St) (z1 : Int32) (rec : Int32 → Int32 → Option (Int32 × St)) (w2 : Int32) (w3 : Int32) : Option (Int32 × St) :=
  if (S.1 78 46) ≤ w3 then some (w2, S) else bd (fM_given F G S z1) fun v8 => gd (inB w3 12) (lt (v8 &&& (S.1 102 w3.toNatClampNeg)) fun v10 => if v10 = 0 then lt (w3 + 1) fun v13 => rec w2 v13 else bd (fM_highest F G S v10) fun v16 => bd (fM_lowest F G S v10) fun v18 => bd (fM_greater F G S w2 (v16 - v18)) fun v20 => lt (w3 + 1) fun v21 => rec v20 v21)
def fM_spread (F G : Nat) (S : St) (p1 : Int32) : Option (Int32 × St) :=
  bd (fM_isHand F G S p1) fun v2 => if v2 = 0 then some ((-1 : Int32), S) else bd (fM_fill F G S ) fun S5 => fx2 (b_M_spread_17 F G S5 p1) F (0 : Int32) (0 : Int32)
set_option maxRecDepth 100000 in
set_option maxHeartbeats 4000000 in
theorem T_M_spread_17 {X : Nat × (Nat → Int32)} {D F G : Nat} (hD : 2 ≤ D + 1) {S : St} {z1 : Int32} : ∀ (f : Nat) (w2 : Int32) (w3 : Int32) (res : Int32 × St), fx2 (b_M_spread_17 F G S z1 ) f w2 w3 = some res → Ek X (D + 1) mM_spread 17 [(0, .ref 78), (1, .int z1), (2, .int w2), (3, .int w3)] [] S (some (.int res.1)) res.2 := by
  refine fx2_ind ?_
  intro rec ih w2 w3 res h
  unfold b_M_spread_17 at h
  refine x_iload_n d_M_spread_17 rfl 3 rfl ?_
  refine x_aload_n d_M_spread_18 rfl 0 rfl ?_
  refine y_getI d_M_spread_19 fl_11_78 rfl kd_78 ?_
  refine x_icmp_ge (tgt := 68) d_M_spread_22 rfl (fun c6 => ?_) (fun c6 => ?_)
  · replace h := ite_t c6 h
    refine x_iload_n d_M_spread_68 rfl 2 rfl ?_
    obtain rfl := Option.some.inj h
    exact x_ret (r := some (.int w2)) d_M_spread_69 ⟨_, rfl, rfl⟩
  · replace h := ite_f c6 h
    refine x_aload_n d_M_spread_25 rfl 0 rfl ?_
    refine x_iload_n d_M_spread_26 rfl 1 rfl ?_
    obtain ⟨v8, q7, h⟩ := bd_inv h
    refine y_V1i (v := v8) (S1 := S) d_M_spread_27 ml_11_454 kd_78 rfl (Nat.le_of_ble_eq_true rfl) (Nat.le_of_ble_eq_true rfl) (c_M_given (by omega) q7) ?_
    refine x_aload_n d_M_spread_30 rfl 0 rfl ?_
    refine y_getR d_M_spread_31 fl_11_99 rfl kd_78 rr_78_60 ?_
    refine x_iload_n d_M_spread_34 rfl 3 rfl ?_
    obtain ⟨g9, h⟩ := gd_inv h
    refine y_iald d_M_spread_35 kd_102 g9 ?_
    refine x_iand d_M_spread_36 ?_
    obtain ⟨v10, e11, h⟩ := lt_inv h
    refine y_istore (L1 := [(0, .ref 78), (1, .int z1), (2, .int w2), (3, .int w3), (4, .int v10)]) e11 d_M_spread_37 (Nat.le_of_ble_eq_true rfl) rfl rfl ?_
    refine x_iload d_M_spread_39 4 rfl ?_
    refine x_if_eq (tgt := 62) d_M_spread_41 rfl (fun c12 => ?_) (fun c12 => ?_)
    · replace h := ite_t c12 h
      obtain ⟨v13, e14, h⟩ := lt_inv h
      refine y_iinc (L1 := [(0, .ref 78), (1, .int z1), (2, .int w2), (3, .int v13), (4, .int v10)]) e14 ic_1 d_M_spread_62 3 rfl (Nat.le_of_ble_eq_true rfl) rfl rfl ?_
      refine x_goto (tgt := 17) d_M_spread_65 rfl ?_
      refine y_pick (L1 := [(0, .ref 78), (1, .int z1), (2, .int w2), (3, .int v13)]) [0, 1, 2, 3] rfl ?_
      exact ih w2 v13 _ h
    · replace h := ite_f c12 h
      refine x_iload_n d_M_spread_44 rfl 2 rfl ?_
      refine x_aload_n d_M_spread_45 rfl 0 rfl ?_
      refine x_iload d_M_spread_46 4 rfl ?_
      obtain ⟨v16, q15, h⟩ := bd_inv h
      refine y_V1i (v := v16) (S1 := S) d_M_spread_48 ml_11_440 kd_78 rfl (Nat.le_of_ble_eq_true rfl) (Nat.le_of_ble_eq_true rfl) (c_M_highest (by omega) q15) ?_
      refine x_aload_n d_M_spread_51 rfl 0 rfl ?_
      refine x_iload d_M_spread_52 4 rfl ?_
      obtain ⟨v18, q17, h⟩ := bd_inv h
      refine y_V1i (v := v18) (S1 := S) d_M_spread_54 ml_11_437 kd_78 rfl (Nat.le_of_ble_eq_true rfl) (Nat.le_of_ble_eq_true rfl) (c_M_lowest (by omega) q17) ?_
      refine x_isub d_M_spread_57 ?_
      obtain ⟨v20, q19, h⟩ := bd_inv h
      refine y_S2i (v := v20) (S1 := S) d_M_spread_58 ml_11_527 (Nat.le_of_ble_eq_true rfl) (Nat.le_of_ble_eq_true rfl) (c_M_greater (by omega) q19) ?_
      refine x_istore_n (L1 := [(0, .ref 78), (1, .int z1), (2, .int v20), (3, .int w3), (4, .int v10)]) d_M_spread_61 rfl (Nat.le_of_ble_eq_true rfl) rfl rfl ?_
      obtain ⟨v21, e22, h⟩ := lt_inv h
      refine y_iinc (L1 := [(0, .ref 78), (1, .int z1), (2, .int v20), (3, .int v21), (4, .int v10)]) e22 ic_1 d_M_spread_62 3 rfl (Nat.le_of_ble_eq_true rfl) rfl rfl ?_
      refine x_goto (tgt := 17) d_M_spread_65 rfl ?_
      refine y_pick (L1 := [(0, .ref 78), (1, .int z1), (2, .int v20), (3, .int v21)]) [0, 1, 2, 3] rfl ?_
      exact ih v20 v21 _ h
set_option maxRecDepth 100000 in
set_option maxHeartbeats 4000000 in
theorem c_M_spread {X : Nat × (Nat → Int32)} {D F G : Nat} (hD : 2 ≤ D) {S : St} {p1 : Int32} {res : Int32 × St} (h : fM_spread F G S p1 = some res) : Ek X (D) mM_spread 0 [(0, .ref 78), (1, .int p1)] [] S (some (.int res.1)) res.2 := by
  obtain ⟨D, rfl⟩ : ∃ E, D = E + 1 := ⟨D - 1, by omega⟩
  unfold fM_spread at h
  refine x_iload_n d_M_spread_0 rfl 1 rfl ?_
  obtain ⟨v2, q1, h⟩ := bd_inv h
  refine y_S1i (v := v2) (S1 := S) d_M_spread_1 ml_11_476 (Nat.le_of_ble_eq_true rfl) (Nat.le_of_ble_eq_true rfl) (c_M_isHand (by omega) q1) ?_
  refine x_if_ne (tgt := 9) d_M_spread_4 rfl (fun c3 => ?_) (fun c3 => ?_)
  · replace h := ite_f c3 h
    refine x_aload_n d_M_spread_9 rfl 0 rfl ?_
    obtain ⟨S5, q4, h⟩ := bd_inv h
    refine y_V0v (S1 := S5) d_M_spread_10 ml_11_464 kd_78 rfl (Nat.le_of_ble_eq_true rfl) (Nat.le_of_ble_eq_true rfl) (c_M_fill (by omega) q4) ?_
    refine x_iconst d_M_spread_13 ic_0 ?_
    refine x_istore_n (L1 := [(0, .ref 78), (1, .int p1), (2, .int (0 : Int32))]) d_M_spread_14 rfl (Nat.le_of_ble_eq_true rfl) rfl rfl ?_
    refine x_iconst d_M_spread_15 ic_0 ?_
    refine x_istore_n (L1 := [(0, .ref 78), (1, .int p1), (2, .int (0 : Int32)), (3, .int (0 : Int32))]) d_M_spread_16 rfl (Nat.le_of_ble_eq_true rfl) rfl rfl ?_
    refine T_M_spread_17 (by omega)   F (0 : Int32) (0 : Int32) _ h
  · replace h := ite_t c3 h
    refine x_iconst d_M_spread_7 ic_m1 ?_
    obtain rfl := Option.some.inj h
    exact x_ret (r := some (.int (-1 : Int32))) d_M_spread_8 ⟨_, rfl, rfl⟩
/-! NinetyPlayers.leaps -/
def b_N_leaps_17 (F G : Nat) (S : St) (z1 : Int32) (rec : Int32 → Int32 → Option (Int32 × St)) (w2 : Int32) (w3 : Int32) : Option (Int32 × St) :=
  gd (isSc S.2.2.1) (if (S.1 S.2.2.1 0) ≤ w3 then some (w2, S) else bd (fK_heldBy F G S z1 (w3 - (1 : Int32))) fun v9 => bd (fK_heldBy F G S z1 w3) fun v11 => bd (fK_leapBetween F G S v9 v11) fun v13 => lt (if w2 < v13 then v13 else w2) fun v14 => lt (w3 + 1) fun v16 => rec v14 v16)
def fN_leaps (F G : Nat) (S : St) (p1 : Int32) : Option (Int32 × St) :=
  bd (fN_isHand F G S p1) fun v2 => if v2 = 0 then some ((-1 : Int32), S) else bd (fN_lookAtKeys F G S ) fun S5 => fx2 (b_N_leaps_17 F G S5 p1) F (0 : Int32) (1 : Int32)
set_option maxRecDepth 100000 in
set_option maxHeartbeats 4000000 in
theorem T_N_leaps_17 {X : Nat × (Nat → Int32)} {D F G : Nat} (hD : 3 ≤ D + 1) {S : St} {z1 : Int32} : ∀ (f : Nat) (w2 : Int32) (w3 : Int32) (res : Int32 × St), fx2 (b_N_leaps_17 F G S z1 ) f w2 w3 = some res → Ek X (D + 1) mN_leaps 17 [(0, .ref 0), (1, .int z1), (2, .int w2), (3, .int w3)] [] S (some (.int res.1)) res.2 := by
  refine fx2_ind ?_
  intro rec ih w2 w3 res h
  unfold b_N_leaps_17 at h
  refine x_iload_n d_N_leaps_17 rfl 3 rfl ?_
  refine x_aload_n d_N_leaps_18 rfl 0 rfl ?_
  refine y_getR d_N_leaps_19 fl_0_24 rfl kd_0 rr_told ?_
  obtain ⟨g6, h⟩ := gd_inv h
  refine y_getI d_N_leaps_22 fl_0_198 rfl (ksSc g6) ?_
  refine x_icmp_ge (tgt := 70) d_N_leaps_25 rfl (fun c7 => ?_) (fun c7 => ?_)
  · replace h := ite_t c7 h
    refine x_iload_n d_N_leaps_70 rfl 2 rfl ?_
    obtain rfl := Option.some.inj h
    exact x_ret (r := some (.int w2)) d_N_leaps_71 ⟨_, rfl, rfl⟩
  · replace h := ite_f c7 h
    refine x_aload_n d_N_leaps_28 rfl 0 rfl ?_
    refine y_getR d_N_leaps_29 fl_0_57 rfl kd_0 rr_0_7 ?_
    refine x_iload_n d_N_leaps_32 rfl 1 rfl ?_
    refine x_iload_n d_N_leaps_33 rfl 3 rfl ?_
    refine x_iconst d_N_leaps_34 ic_1 ?_
    refine x_isub d_N_leaps_35 ?_
    obtain ⟨v9, q8, h⟩ := bd_inv h
    refine y_V2i (v := v9) (S1 := S) d_N_leaps_36 ml_0_179 kd_57 rfl (Nat.le_of_ble_eq_true rfl) (Nat.le_of_ble_eq_true rfl) (c_K_heldBy (by omega) q8) ?_
    refine x_istore (L1 := [(0, .ref 0), (1, .int z1), (2, .int w2), (3, .int w3), (4, .int v9)]) d_N_leaps_39 (Nat.le_of_ble_eq_true rfl) rfl rfl ?_
    refine x_iload_n d_N_leaps_41 rfl 2 rfl ?_
    refine x_aload_n d_N_leaps_42 rfl 0 rfl ?_
    refine y_getR d_N_leaps_43 fl_0_57 rfl kd_0 rr_0_7 ?_
    refine x_iload d_N_leaps_46 4 rfl ?_
    refine x_aload_n d_N_leaps_48 rfl 0 rfl ?_
    refine y_getR d_N_leaps_49 fl_0_57 rfl kd_0 rr_0_7 ?_
    refine x_iload_n d_N_leaps_52 rfl 1 rfl ?_
    refine x_iload_n d_N_leaps_53 rfl 3 rfl ?_
    obtain ⟨v11, q10, h⟩ := bd_inv h
    refine y_V2i (v := v11) (S1 := S) d_N_leaps_54 ml_0_179 kd_57 rfl (Nat.le_of_ble_eq_true rfl) (Nat.le_of_ble_eq_true rfl) (c_K_heldBy (by omega) q10) ?_
    obtain ⟨v13, q12, h⟩ := bd_inv h
    refine y_V2i (v := v13) (S1 := S) d_N_leaps_57 ml_0_305 kd_57 rfl (Nat.le_of_ble_eq_true rfl) (Nat.le_of_ble_eq_true rfl) (c_K_leapBetween (by omega) q12) ?_
    refine y_mmax d_N_leaps_60 ml_0_234 (Nat.le_of_ble_eq_true rfl) ?_
    obtain ⟨v14, e15, h⟩ := lt_inv h
    refine y_istore_n (L1 := [(0, .ref 0), (1, .int z1), (2, .int v14), (3, .int w3), (4, .int v9)]) e15 d_N_leaps_63 rfl (Nat.le_of_ble_eq_true rfl) rfl rfl ?_
    obtain ⟨v16, e17, h⟩ := lt_inv h
    refine y_iinc (L1 := [(0, .ref 0), (1, .int z1), (2, .int v14), (3, .int v16), (4, .int v9)]) e17 ic_1 d_N_leaps_64 3 rfl (Nat.le_of_ble_eq_true rfl) rfl rfl ?_
    refine x_goto (tgt := 17) d_N_leaps_67 rfl ?_
    refine y_pick (L1 := [(0, .ref 0), (1, .int z1), (2, .int v14), (3, .int v16)]) [0, 1, 2, 3] rfl ?_
    exact ih v14 v16 _ h
set_option maxRecDepth 100000 in
set_option maxHeartbeats 4000000 in
theorem c_N_leaps {X : Nat × (Nat → Int32)} {D F G : Nat} (hD : 3 ≤ D) {S : St} {p1 : Int32} {res : Int32 × St} (h : fN_leaps F G S p1 = some res) : Ek X (D) mN_leaps 0 [(0, .ref 0), (1, .int p1)] [] S (some (.int res.1)) res.2 := by
  obtain ⟨D, rfl⟩ : ∃ E, D = E + 1 := ⟨D - 1, by omega⟩
  unfold fN_leaps at h
  refine x_iload_n d_N_leaps_0 rfl 1 rfl ?_
  obtain ⟨v2, q1, h⟩ := bd_inv h
  refine y_S1i (v := v2) (S1 := S) d_N_leaps_1 ml_0_173 (Nat.le_of_ble_eq_true rfl) (Nat.le_of_ble_eq_true rfl) (c_N_isHand (by omega) q1) ?_
  refine x_if_ne (tgt := 9) d_N_leaps_4 rfl (fun c3 => ?_) (fun c3 => ?_)
  · replace h := ite_f c3 h
    refine x_aload_n d_N_leaps_9 rfl 0 rfl ?_
    obtain ⟨S5, q4, h⟩ := bd_inv h
    refine y_V0v (S1 := S5) d_N_leaps_10 ml_0_176 kd_0 rfl (Nat.le_of_ble_eq_true rfl) (Nat.le_of_ble_eq_true rfl) (c_N_lookAtKeys (by omega) q4) ?_
    refine x_iconst d_N_leaps_13 ic_0 ?_
    refine x_istore_n (L1 := [(0, .ref 0), (1, .int p1), (2, .int (0 : Int32))]) d_N_leaps_14 rfl (Nat.le_of_ble_eq_true rfl) rfl rfl ?_
    refine x_iconst d_N_leaps_15 ic_1 ?_
    refine x_istore_n (L1 := [(0, .ref 0), (1, .int p1), (2, .int (0 : Int32)), (3, .int (1 : Int32))]) d_N_leaps_16 rfl (Nat.le_of_ble_eq_true rfl) rfl rfl ?_
    refine T_N_leaps_17 (by omega)   F (0 : Int32) (1 : Int32) _ h
  · replace h := ite_t c3 h
    refine x_iconst d_N_leaps_7 ic_m1 ?_
    obtain rfl := Option.some.inj h
    exact x_ret (r := some (.int (-1 : Int32))) d_N_leaps_8 ⟨_, rfl, rfl⟩
/-! NinetyPlayersModel.leaps -/
def b_M_leaps_17 (F G : Nat) (S : St) (z1 : Int32) (rec : Int32 → Int32 → Option (Int32 × St)) (w2 : Int32) (w3 : Int32) : Option (Int32 × St) :=
  if (S.1 78 46) ≤ w3 then some (w2, S) else bd (fM_given F G S z1) fun v8 => gd (inB w3 12) (lt (v8 &&& (S.1 102 w3.toNatClampNeg)) fun v10 => bd (fM_given F G S z1) fun v13 => gd (inB (w3 - (1 : Int32)) 12) (lt (v13 &&& (S.1 102 (w3 - (1 : Int32)).toNatClampNeg)) fun v15 => if v10 = 0 then lt (w3 + 1) fun v18 => rec w2 v18 else if v15 = 0 then lt (w3 + 1) fun v21 => rec w2 v21 else bd (fM_lowest F G S v10) fun v24 => bd (fM_lowest F G S v15) fun v26 => bd (fM_plain F G S (v24 - v26)) fun v28 => bd (fM_greater F G S w2 v28) fun v30 => lt (w3 + 1) fun v31 => rec v30 v31))
def fM_leaps (F G : Nat) (S : St) (p1 : Int32) : Option (Int32 × St) :=
  bd (fM_isHand F G S p1) fun v2 => if v2 = 0 then some ((-1 : Int32), S) else bd (fM_fill F G S ) fun S5 => fx2 (b_M_leaps_17 F G S5 p1) F (0 : Int32) (1 : Int32)
set_option maxRecDepth 100000 in
set_option maxHeartbeats 4000000 in
theorem T_M_leaps_17 {X : Nat × (Nat → Int32)} {D F G : Nat} (hD : 2 ≤ D + 1) {S : St} {z1 : Int32} : ∀ (f : Nat) (w2 : Int32) (w3 : Int32) (res : Int32 × St), fx2 (b_M_leaps_17 F G S z1 ) f w2 w3 = some res → Ek X (D + 1) mM_leaps 17 [(0, .ref 78), (1, .int z1), (2, .int w2), (3, .int w3)] [] S (some (.int res.1)) res.2 := by
  refine fx2_ind ?_
  intro rec ih w2 w3 res h
  unfold b_M_leaps_17 at h
  refine x_iload_n d_M_leaps_17 rfl 3 rfl ?_
  refine x_aload_n d_M_leaps_18 rfl 0 rfl ?_
  refine y_getI d_M_leaps_19 fl_11_78 rfl kd_78 ?_
  refine x_icmp_ge (tgt := 92) d_M_leaps_22 rfl (fun c6 => ?_) (fun c6 => ?_)
  · replace h := ite_t c6 h
    refine x_iload_n d_M_leaps_92 rfl 2 rfl ?_
    obtain rfl := Option.some.inj h
    exact x_ret (r := some (.int w2)) d_M_leaps_93 ⟨_, rfl, rfl⟩
  · replace h := ite_f c6 h
    refine x_aload_n d_M_leaps_25 rfl 0 rfl ?_
    refine x_iload_n d_M_leaps_26 rfl 1 rfl ?_
    obtain ⟨v8, q7, h⟩ := bd_inv h
    refine y_V1i (v := v8) (S1 := S) d_M_leaps_27 ml_11_454 kd_78 rfl (Nat.le_of_ble_eq_true rfl) (Nat.le_of_ble_eq_true rfl) (c_M_given (by omega) q7) ?_
    refine x_aload_n d_M_leaps_30 rfl 0 rfl ?_
    refine y_getR d_M_leaps_31 fl_11_99 rfl kd_78 rr_78_60 ?_
    refine x_iload_n d_M_leaps_34 rfl 3 rfl ?_
    obtain ⟨g9, h⟩ := gd_inv h
    refine y_iald d_M_leaps_35 kd_102 g9 ?_
    refine x_iand d_M_leaps_36 ?_
    obtain ⟨v10, e11, h⟩ := lt_inv h
    refine y_istore (L1 := [(0, .ref 78), (1, .int z1), (2, .int w2), (3, .int w3), (4, .int v10)]) e11 d_M_leaps_37 (Nat.le_of_ble_eq_true rfl) rfl rfl ?_
    refine x_aload_n d_M_leaps_39 rfl 0 rfl ?_
    refine x_iload_n d_M_leaps_40 rfl 1 rfl ?_
    obtain ⟨v13, q12, h⟩ := bd_inv h
    refine y_V1i (v := v13) (S1 := S) d_M_leaps_41 ml_11_454 kd_78 rfl (Nat.le_of_ble_eq_true rfl) (Nat.le_of_ble_eq_true rfl) (c_M_given (by omega) q12) ?_
    refine x_aload_n d_M_leaps_44 rfl 0 rfl ?_
    refine y_getR d_M_leaps_45 fl_11_99 rfl kd_78 rr_78_60 ?_
    refine x_iload_n d_M_leaps_48 rfl 3 rfl ?_
    refine x_iconst d_M_leaps_49 ic_1 ?_
    refine x_isub d_M_leaps_50 ?_
    obtain ⟨g14, h⟩ := gd_inv h
    refine y_iald d_M_leaps_51 kd_102 g14 ?_
    refine x_iand d_M_leaps_52 ?_
    obtain ⟨v15, e16, h⟩ := lt_inv h
    refine y_istore (L1 := [(0, .ref 78), (1, .int z1), (2, .int w2), (3, .int w3), (4, .int v10), (5, .int v15)]) e16 d_M_leaps_53 (Nat.le_of_ble_eq_true rfl) rfl rfl ?_
    refine x_iload d_M_leaps_55 4 rfl ?_
    refine x_if_eq (tgt := 86) d_M_leaps_57 rfl (fun c17 => ?_) (fun c17 => ?_)
    · replace h := ite_t c17 h
      obtain ⟨v18, e19, h⟩ := lt_inv h
      refine y_iinc (L1 := [(0, .ref 78), (1, .int z1), (2, .int w2), (3, .int v18), (4, .int v10), (5, .int v15)]) e19 ic_1 d_M_leaps_86 3 rfl (Nat.le_of_ble_eq_true rfl) rfl rfl ?_
      refine x_goto (tgt := 17) d_M_leaps_89 rfl ?_
      refine y_pick (L1 := [(0, .ref 78), (1, .int z1), (2, .int w2), (3, .int v18)]) [0, 1, 2, 3] rfl ?_
      exact ih w2 v18 _ h
    · replace h := ite_f c17 h
      refine x_iload d_M_leaps_60 5 rfl ?_
      refine x_if_eq (tgt := 86) d_M_leaps_62 rfl (fun c20 => ?_) (fun c20 => ?_)
      · replace h := ite_t c20 h
        obtain ⟨v21, e22, h⟩ := lt_inv h
        refine y_iinc (L1 := [(0, .ref 78), (1, .int z1), (2, .int w2), (3, .int v21), (4, .int v10), (5, .int v15)]) e22 ic_1 d_M_leaps_86 3 rfl (Nat.le_of_ble_eq_true rfl) rfl rfl ?_
        refine x_goto (tgt := 17) d_M_leaps_89 rfl ?_
        refine y_pick (L1 := [(0, .ref 78), (1, .int z1), (2, .int w2), (3, .int v21)]) [0, 1, 2, 3] rfl ?_
        exact ih w2 v21 _ h
      · replace h := ite_f c20 h
        refine x_iload_n d_M_leaps_65 rfl 2 rfl ?_
        refine x_aload_n d_M_leaps_66 rfl 0 rfl ?_
        refine x_iload d_M_leaps_67 4 rfl ?_
        obtain ⟨v24, q23, h⟩ := bd_inv h
        refine y_V1i (v := v24) (S1 := S) d_M_leaps_69 ml_11_437 kd_78 rfl (Nat.le_of_ble_eq_true rfl) (Nat.le_of_ble_eq_true rfl) (c_M_lowest (by omega) q23) ?_
        refine x_aload_n d_M_leaps_72 rfl 0 rfl ?_
        refine x_iload d_M_leaps_73 5 rfl ?_
        obtain ⟨v26, q25, h⟩ := bd_inv h
        refine y_V1i (v := v26) (S1 := S) d_M_leaps_75 ml_11_437 kd_78 rfl (Nat.le_of_ble_eq_true rfl) (Nat.le_of_ble_eq_true rfl) (c_M_lowest (by omega) q25) ?_
        refine x_isub d_M_leaps_78 ?_
        obtain ⟨v28, q27, h⟩ := bd_inv h
        refine y_S1i (v := v28) (S1 := S) d_M_leaps_79 ml_11_325 (Nat.le_of_ble_eq_true rfl) (Nat.le_of_ble_eq_true rfl) (c_M_plain (by omega) q27) ?_
        obtain ⟨v30, q29, h⟩ := bd_inv h
        refine y_S2i (v := v30) (S1 := S) d_M_leaps_82 ml_11_527 (Nat.le_of_ble_eq_true rfl) (Nat.le_of_ble_eq_true rfl) (c_M_greater (by omega) q29) ?_
        refine x_istore_n (L1 := [(0, .ref 78), (1, .int z1), (2, .int v30), (3, .int w3), (4, .int v10), (5, .int v15)]) d_M_leaps_85 rfl (Nat.le_of_ble_eq_true rfl) rfl rfl ?_
        obtain ⟨v31, e32, h⟩ := lt_inv h
        refine y_iinc (L1 := [(0, .ref 78), (1, .int z1), (2, .int v30), (3, .int v31), (4, .int v10), (5, .int v15)]) e32 ic_1 d_M_leaps_86 3 rfl (Nat.le_of_ble_eq_true rfl) rfl rfl ?_
        refine x_goto (tgt := 17) d_M_leaps_89 rfl ?_
        refine y_pick (L1 := [(0, .ref 78), (1, .int z1), (2, .int v30), (3, .int v31)]) [0, 1, 2, 3] rfl ?_
        exact ih v30 v31 _ h
set_option maxRecDepth 100000 in
set_option maxHeartbeats 4000000 in
theorem c_M_leaps {X : Nat × (Nat → Int32)} {D F G : Nat} (hD : 2 ≤ D) {S : St} {p1 : Int32} {res : Int32 × St} (h : fM_leaps F G S p1 = some res) : Ek X (D) mM_leaps 0 [(0, .ref 78), (1, .int p1)] [] S (some (.int res.1)) res.2 := by
  obtain ⟨D, rfl⟩ : ∃ E, D = E + 1 := ⟨D - 1, by omega⟩
  unfold fM_leaps at h
  refine x_iload_n d_M_leaps_0 rfl 1 rfl ?_
  obtain ⟨v2, q1, h⟩ := bd_inv h
  refine y_S1i (v := v2) (S1 := S) d_M_leaps_1 ml_11_476 (Nat.le_of_ble_eq_true rfl) (Nat.le_of_ble_eq_true rfl) (c_M_isHand (by omega) q1) ?_
  refine x_if_ne (tgt := 9) d_M_leaps_4 rfl (fun c3 => ?_) (fun c3 => ?_)
  · replace h := ite_f c3 h
    refine x_aload_n d_M_leaps_9 rfl 0 rfl ?_
    obtain ⟨S5, q4, h⟩ := bd_inv h
    refine y_V0v (S1 := S5) d_M_leaps_10 ml_11_464 kd_78 rfl (Nat.le_of_ble_eq_true rfl) (Nat.le_of_ble_eq_true rfl) (c_M_fill (by omega) q4) ?_
    refine x_iconst d_M_leaps_13 ic_0 ?_
    refine x_istore_n (L1 := [(0, .ref 78), (1, .int p1), (2, .int (0 : Int32))]) d_M_leaps_14 rfl (Nat.le_of_ble_eq_true rfl) rfl rfl ?_
    refine x_iconst d_M_leaps_15 ic_1 ?_
    refine x_istore_n (L1 := [(0, .ref 78), (1, .int p1), (2, .int (0 : Int32)), (3, .int (1 : Int32))]) d_M_leaps_16 rfl (Nat.le_of_ble_eq_true rfl) rfl rfl ?_
    refine T_M_leaps_17 (by omega)   F (0 : Int32) (1 : Int32) _ h
  · replace h := ite_t c3 h
    refine x_iconst d_M_leaps_7 ic_m1 ?_
    obtain rfl := Option.some.inj h
    exact x_ret (r := some (.int (-1 : Int32))) d_M_leaps_8 ⟨_, rfl, rfl⟩
/-! NinetyPlayers$Keyboard.blurredAt -/
def j_K_blurredAt_85 (F G : Nat) (S : St) (z2 : Int32) (z3 : Int32) (z5 : Int32) (k119 : Int32 → Option (Int32)) (rec : Int32 → Int32 → Option (Int32)) (_ : St) (y4 : Int32) (y6 : Int32) (y7 : Int32) (s0 : Int32) : Option (Int32) :=
  if s0 = 0 then lt (y6 + 1) fun v16 => rec y4 v16 else if (z2 &&& y7) = y7 then if (z3 &&& y7) = y7 then lt (y6 + 1) fun v22 => rec y4 v22 else lt (y4 + 1) fun v24 => lt (y6 + 1) fun v26 => rec v24 v26 else lt (y6 + 1) fun v19 => rec y4 v19
def j_K_blurredAt_80 (F G : Nat) (S : St) (z2 : Int32) (z3 : Int32) (z5 : Int32) (k119 : Int32 → Option (Int32)) (rec : Int32 → Int32 → Option (Int32)) (_ : St) (y4 : Int32) (y6 : Int32) (y7 : Int32) : Option (Int32) :=
  j_K_blurredAt_85 F G S z2 z3 z5 k119 rec  S y4 y6 y7 (1 : Int32)
def b_K_blurredAt_30 (F G : Nat) (S : St) (z2 : Int32) (z3 : Int32) (z5 : Int32) (k119 : Int32 → Option (Int32)) (rec : Int32 → Int32 → Option (Int32)) (w4 : Int32) (w6 : Int32) : Option (Int32) :=
  if z5 ≤ w6 then k119 w4 else lt (((1 : Int32) <<< (z5 &&& 31)) ||| ((1 : Int32) <<< (w6 &&& 31))) fun v7 => gd (inB z5 10) (gd (inB w6 10) (lt (if 0 ≤ ((S.1 58 z5.toNatClampNeg) - (S.1 58 w6.toNatClampNeg)) then ((S.1 58 z5.toNatClampNeg) - (S.1 58 w6.toNatClampNeg)) else 0 - ((S.1 58 z5.toNatClampNeg) - (S.1 58 w6.toNatClampNeg))) fun v11 => if v11 = (1 : Int32) then j_K_blurredAt_80 F G S z2 z3 z5 k119 rec  S w4 w6 v7 else if v11 = (2 : Int32) then j_K_blurredAt_80 F G S z2 z3 z5 k119 rec  S w4 w6 v7 else j_K_blurredAt_85 F G S z2 z3 z5 k119 rec  S w4 w6 v7 (0 : Int32)))
def b_K_blurredAt_18 (F G : Nat) (S : St) (z2 : Int32) (z3 : Int32) (rec : Int32 → Int32 → Option (Int32)) (w4 : Int32) (w5 : Int32) : Option (Int32) :=
  if (S.1 57 1) ≤ w5 then some w4 else fx2 (b_K_blurredAt_30 F G S z2 z3 w5 (fun v28 => lt (w5 + 1) fun v29 => rec v28 v29)) F w4 (0 : Int32)
def fK_blurredAt (F G : Nat) (S : St) (p1 : Int32) : Option (Int32) :=
  bd (fK_soundingAt F G S p1) fun v2 => bd (fK_timelyAt F G S p1) fun v4 => fx2 (b_K_blurredAt_18 F G S v2 v4) F (0 : Int32) (1 : Int32)
set_option maxRecDepth 100000 in
set_option maxHeartbeats 4000000 in
theorem T_K_blurredAt_30 {X : Nat × (Nat → Int32)} {D F G : Nat} (hD : 2 ≤ D + 1) {S : St} {z2 : Int32} {z3 : Int32} {z5 : Int32} {k119 : Int32 → Option (Int32)} (hk119 : ∀ (u4 : Int32) (res : Int32), k119 u4 = some res → Ek X (D + 1) mK_blurredAt 119 [(0, .ref 57), (2, .int z2), (3, .int z3), (4, .int u4), (5, .int z5)] [] S (some (.int res)) S) : ∀ (f : Nat) (w4 : Int32) (w6 : Int32) (res : Int32), fx2 (b_K_blurredAt_30 F G S z2 z3 z5 k119 ) f w4 w6 = some res → Ek X (D + 1) mK_blurredAt 30 [(0, .ref 57), (2, .int z2), (3, .int z3), (4, .int w4), (5, .int z5), (6, .int w6)] [] S (some (.int res)) S := by
  refine fx2_ind ?_
  intro rec ih w4 w6 res h
  unfold b_K_blurredAt_30 at h
  have J85 : ∀ (y4 : Int32) (y6 : Int32) (y7 : Int32) (s0 : Int32) (res : Int32), j_K_blurredAt_85 F G S z2 z3 z5 k119 rec S y4 y6 y7 s0 = some res → Ek X (D + 1) mK_blurredAt 85 [(0, .ref 57), (2, .int z2), (3, .int z3), (4, .int y4), (5, .int z5), (6, .int y6), (7, .int y7)] [.int s0] S (some (.int res)) S := by
    intro y4 y6 y7 s0 res h
    unfold j_K_blurredAt_85 at h
    refine x_istore (L1 := [(0, .ref 57), (2, .int z2), (3, .int z3), (4, .int y4), (5, .int z5), (6, .int y6), (7, .int y7), (9, .int s0)]) d_K_blurredAt_85 (Nat.le_of_ble_eq_true rfl) rfl rfl ?_
    refine x_iload d_K_blurredAt_87 7 rfl ?_
    refine x_if_eq (tgt := 113) d_K_blurredAt_89 rfl (fun c15 => ?_) (fun c15 => ?_)
    · replace h := ite_t c15 h
      obtain ⟨v16, e17, h⟩ := lt_inv h
      refine y_iinc (L1 := [(0, .ref 57), (2, .int z2), (3, .int z3), (4, .int y4), (5, .int z5), (6, .int v16), (7, .int y7), (9, .int s0)]) e17 ic_1 d_K_blurredAt_113 5 rfl (Nat.le_of_ble_eq_true rfl) rfl rfl ?_
      refine x_goto (tgt := 30) d_K_blurredAt_116 rfl ?_
      refine y_pick (L1 := [(0, .ref 57), (2, .int z2), (3, .int z3), (4, .int y4), (5, .int z5), (6, .int v16)]) [0, 1, 2, 3, 4, 5] rfl ?_
      exact ih y4 v16 _ h
    · replace h := ite_f c15 h
      refine x_iload_n d_K_blurredAt_92 rfl 1 rfl ?_
      refine x_iload d_K_blurredAt_93 6 rfl ?_
      refine x_iand d_K_blurredAt_95 ?_
      refine x_iload d_K_blurredAt_96 6 rfl ?_
      refine x_icmp_ne (tgt := 113) d_K_blurredAt_98 rfl (fun c18 => ?_) (fun c18 => ?_)
      · replace h := ite_f c18 h
        obtain ⟨v19, e20, h⟩ := lt_inv h
        refine y_iinc (L1 := [(0, .ref 57), (2, .int z2), (3, .int z3), (4, .int y4), (5, .int z5), (6, .int v19), (7, .int y7), (9, .int s0)]) e20 ic_1 d_K_blurredAt_113 5 rfl (Nat.le_of_ble_eq_true rfl) rfl rfl ?_
        refine x_goto (tgt := 30) d_K_blurredAt_116 rfl ?_
        refine y_pick (L1 := [(0, .ref 57), (2, .int z2), (3, .int z3), (4, .int y4), (5, .int z5), (6, .int v19)]) [0, 1, 2, 3, 4, 5] rfl ?_
        exact ih y4 v19 _ h
      · replace h := ite_t c18 h
        refine x_iload_n d_K_blurredAt_101 rfl 2 rfl ?_
        refine x_iload d_K_blurredAt_102 6 rfl ?_
        refine x_iand d_K_blurredAt_104 ?_
        refine x_iload d_K_blurredAt_105 6 rfl ?_
        refine x_icmp_eq (tgt := 113) d_K_blurredAt_107 rfl (fun c21 => ?_) (fun c21 => ?_)
        · replace h := ite_t c21 h
          obtain ⟨v22, e23, h⟩ := lt_inv h
          refine y_iinc (L1 := [(0, .ref 57), (2, .int z2), (3, .int z3), (4, .int y4), (5, .int z5), (6, .int v22), (7, .int y7), (9, .int s0)]) e23 ic_1 d_K_blurredAt_113 5 rfl (Nat.le_of_ble_eq_true rfl) rfl rfl ?_
          refine x_goto (tgt := 30) d_K_blurredAt_116 rfl ?_
          refine y_pick (L1 := [(0, .ref 57), (2, .int z2), (3, .int z3), (4, .int y4), (5, .int z5), (6, .int v22)]) [0, 1, 2, 3, 4, 5] rfl ?_
          exact ih y4 v22 _ h
        · replace h := ite_f c21 h
          obtain ⟨v24, e25, h⟩ := lt_inv h
          refine y_iinc (L1 := [(0, .ref 57), (2, .int z2), (3, .int z3), (4, .int v24), (5, .int z5), (6, .int y6), (7, .int y7), (9, .int s0)]) e25 ic_1 d_K_blurredAt_110 3 rfl (Nat.le_of_ble_eq_true rfl) rfl rfl ?_
          obtain ⟨v26, e27, h⟩ := lt_inv h
          refine y_iinc (L1 := [(0, .ref 57), (2, .int z2), (3, .int z3), (4, .int v24), (5, .int z5), (6, .int v26), (7, .int y7), (9, .int s0)]) e27 ic_1 d_K_blurredAt_113 5 rfl (Nat.le_of_ble_eq_true rfl) rfl rfl ?_
          refine x_goto (tgt := 30) d_K_blurredAt_116 rfl ?_
          refine y_pick (L1 := [(0, .ref 57), (2, .int z2), (3, .int z3), (4, .int v24), (5, .int z5), (6, .int v26)]) [0, 1, 2, 3, 4, 5] rfl ?_
          exact ih v24 v26 _ h
  have J80 : ∀ (y4 : Int32) (y6 : Int32) (y7 : Int32) (res : Int32), j_K_blurredAt_80 F G S z2 z3 z5 k119 rec S y4 y6 y7 = some res → Ek X (D + 1) mK_blurredAt 80 [(0, .ref 57), (2, .int z2), (3, .int z3), (4, .int y4), (5, .int z5), (6, .int y6), (7, .int y7)] [] S (some (.int res)) S := by
    intro y4 y6 y7 res h
    unfold j_K_blurredAt_80 at h
    refine x_iconst d_K_blurredAt_80 ic_1 ?_
    refine x_goto (tgt := 85) d_K_blurredAt_81 rfl ?_
    exact J85 y4 y6 y7 (1 : Int32) _ h
  refine x_iload d_K_blurredAt_30 5 rfl ?_
  refine x_iload d_K_blurredAt_32 4 rfl ?_
  refine x_icmp_ge (tgt := 119) d_K_blurredAt_34 rfl (fun c6 => ?_) (fun c6 => ?_)
  · replace h := ite_t c6 h
    refine y_pick (L1 := [(0, .ref 57), (2, .int z2), (3, .int z3), (4, .int w4), (5, .int z5)]) [0, 1, 2, 3, 4] rfl ?_
    exact hk119 w4 _ h
  · replace h := ite_f c6 h
    refine x_iconst d_K_blurredAt_37 ic_1 ?_
    refine x_iload d_K_blurredAt_38 4 rfl ?_
    refine x_ishl d_K_blurredAt_40 ?_
    refine x_iconst d_K_blurredAt_41 ic_1 ?_
    refine x_iload d_K_blurredAt_42 5 rfl ?_
    refine x_ishl d_K_blurredAt_44 ?_
    refine x_ior d_K_blurredAt_45 ?_
    obtain ⟨v7, e8, h⟩ := lt_inv h
    refine y_istore (L1 := [(0, .ref 57), (2, .int z2), (3, .int z3), (4, .int w4), (5, .int z5), (6, .int w6), (7, .int v7)]) e8 d_K_blurredAt_46 (Nat.le_of_ble_eq_true rfl) rfl rfl ?_
    refine x_aload_n d_K_blurredAt_48 rfl 0 rfl ?_
    refine y_getR d_K_blurredAt_49 fl_7_9 rfl kd_57 rr_57_8 ?_
    refine x_iload d_K_blurredAt_52 4 rfl ?_
    obtain ⟨g9, h⟩ := gd_inv h
    refine y_iald d_K_blurredAt_54 kd_58 g9 ?_
    refine x_aload_n d_K_blurredAt_55 rfl 0 rfl ?_
    refine y_getR d_K_blurredAt_56 fl_7_9 rfl kd_57 rr_57_8 ?_
    refine x_iload d_K_blurredAt_59 5 rfl ?_
    obtain ⟨g10, h⟩ := gd_inv h
    refine y_iald d_K_blurredAt_61 kd_58 g10 ?_
    refine x_isub d_K_blurredAt_62 ?_
    refine y_mabs d_K_blurredAt_63 ml_7_84 (Nat.le_of_ble_eq_true rfl) ?_
    obtain ⟨v11, e12, h⟩ := lt_inv h
    refine y_istore (L1 := [(0, .ref 57), (2, .int z2), (3, .int z3), (4, .int w4), (5, .int z5), (6, .int w6), (7, .int v7), (8, .int v11)]) e12 d_K_blurredAt_66 (Nat.le_of_ble_eq_true rfl) rfl rfl ?_
    refine x_iload d_K_blurredAt_68 7 rfl ?_
    refine x_iconst d_K_blurredAt_70 ic_1 ?_
    refine x_icmp_eq (tgt := 80) d_K_blurredAt_71 rfl (fun c13 => ?_) (fun c13 => ?_)
    · replace h := ite_t c13 h
      refine y_pick (L1 := [(0, .ref 57), (2, .int z2), (3, .int z3), (4, .int w4), (5, .int z5), (6, .int w6), (7, .int v7)]) [0, 1, 2, 3, 4, 5, 6] rfl ?_
      exact J80 w4 w6 v7 _ h
    · replace h := ite_f c13 h
      refine x_iload d_K_blurredAt_74 7 rfl ?_
      refine x_iconst d_K_blurredAt_76 ic_2 ?_
      refine x_icmp_ne (tgt := 84) d_K_blurredAt_77 rfl (fun c14 => ?_) (fun c14 => ?_)
      · replace h := ite_f c14 h
        refine x_iconst d_K_blurredAt_84 ic_0 ?_
        refine y_pick (L1 := [(0, .ref 57), (2, .int z2), (3, .int z3), (4, .int w4), (5, .int z5), (6, .int w6), (7, .int v7)]) [0, 1, 2, 3, 4, 5, 6] rfl ?_
        exact J85 w4 w6 v7 (0 : Int32) _ h
      · replace h := ite_t c14 h
        refine y_pick (L1 := [(0, .ref 57), (2, .int z2), (3, .int z3), (4, .int w4), (5, .int z5), (6, .int w6), (7, .int v7)]) [0, 1, 2, 3, 4, 5, 6] rfl ?_
        exact J80 w4 w6 v7 _ h
set_option maxRecDepth 100000 in
set_option maxHeartbeats 4000000 in
theorem T_K_blurredAt_18 {X : Nat × (Nat → Int32)} {D F G : Nat} (hD : 2 ≤ D + 1) {S : St} {z2 : Int32} {z3 : Int32} : ∀ (f : Nat) (w4 : Int32) (w5 : Int32) (res : Int32), fx2 (b_K_blurredAt_18 F G S z2 z3 ) f w4 w5 = some res → Ek X (D + 1) mK_blurredAt 18 [(0, .ref 57), (2, .int z2), (3, .int z3), (4, .int w4), (5, .int w5)] [] S (some (.int res)) S := by
  refine fx2_ind ?_
  intro rec ih w4 w5 res h
  unfold b_K_blurredAt_18 at h
  refine x_iload d_K_blurredAt_18 4 rfl ?_
  refine x_aload_n d_K_blurredAt_20 rfl 0 rfl ?_
  refine y_getI d_K_blurredAt_21 fl_7_34 rfl kd_57 ?_
  refine x_icmp_ge (tgt := 125) d_K_blurredAt_24 rfl (fun c5 => ?_) (fun c5 => ?_)
  · replace h := ite_t c5 h
    refine x_iload d_K_blurredAt_125 3 rfl ?_
    obtain rfl := Option.some.inj h
    exact x_ret (r := some (.int w4)) d_K_blurredAt_127 ⟨_, rfl, rfl⟩
  · replace h := ite_f c5 h
    refine x_iconst d_K_blurredAt_27 ic_0 ?_
    refine x_istore (L1 := [(0, .ref 57), (2, .int z2), (3, .int z3), (4, .int w4), (5, .int w5), (6, .int (0 : Int32))]) d_K_blurredAt_28 (Nat.le_of_ble_eq_true rfl) rfl rfl ?_
    refine T_K_blurredAt_30 (by omega)  ?_ F w4 (0 : Int32) _ h
    · intro v28 res h
      obtain ⟨v29, e30, h⟩ := lt_inv h
      refine y_iinc (L1 := [(0, .ref 57), (2, .int z2), (3, .int z3), (4, .int v28), (5, .int v29)]) e30 ic_1 d_K_blurredAt_119 4 rfl (Nat.le_of_ble_eq_true rfl) rfl rfl ?_
      refine x_goto (tgt := 18) d_K_blurredAt_122 rfl ?_
      exact ih v28 v29 _ h
set_option maxRecDepth 100000 in
set_option maxHeartbeats 4000000 in
theorem c_K_blurredAt {X : Nat × (Nat → Int32)} {D F G : Nat} (hD : 2 ≤ D) {S : St} {p1 : Int32} {res : Int32} (h : fK_blurredAt F G S p1 = some res) : Ek X (D) mK_blurredAt 0 [(0, .ref 57), (1, .int p1)] [] S (some (.int res)) S := by
  obtain ⟨D, rfl⟩ : ∃ E, D = E + 1 := ⟨D - 1, by omega⟩
  unfold fK_blurredAt at h
  refine x_aload_n d_K_blurredAt_0 rfl 0 rfl ?_
  refine x_iload_n d_K_blurredAt_1 rfl 1 rfl ?_
  obtain ⟨v2, q1, h⟩ := bd_inv h
  refine y_V1i (v := v2) (S1 := S) d_K_blurredAt_2 ml_7_115 kd_57 rfl (Nat.le_of_ble_eq_true rfl) (Nat.le_of_ble_eq_true rfl) (c_K_soundingAt (by omega) q1) ?_
  refine x_istore_n (L1 := [(0, .ref 57), (1, .int p1), (2, .int v2)]) d_K_blurredAt_5 rfl (Nat.le_of_ble_eq_true rfl) rfl rfl ?_
  refine x_aload_n d_K_blurredAt_6 rfl 0 rfl ?_
  refine x_iload_n d_K_blurredAt_7 rfl 1 rfl ?_
  obtain ⟨v4, q3, h⟩ := bd_inv h
  refine y_V1i (v := v4) (S1 := S) d_K_blurredAt_8 ml_7_75 kd_57 rfl (Nat.le_of_ble_eq_true rfl) (Nat.le_of_ble_eq_true rfl) (c_K_timelyAt (by omega) q3) ?_
  refine x_istore_n (L1 := [(0, .ref 57), (1, .int p1), (2, .int v2), (3, .int v4)]) d_K_blurredAt_11 rfl (Nat.le_of_ble_eq_true rfl) rfl rfl ?_
  refine x_iconst d_K_blurredAt_12 ic_0 ?_
  refine x_istore (L1 := [(0, .ref 57), (1, .int p1), (2, .int v2), (3, .int v4), (4, .int (0 : Int32))]) d_K_blurredAt_13 (Nat.le_of_ble_eq_true rfl) rfl rfl ?_
  refine x_iconst d_K_blurredAt_15 ic_1 ?_
  refine x_istore (L1 := [(0, .ref 57), (1, .int p1), (2, .int v2), (3, .int v4), (4, .int (0 : Int32)), (5, .int (1 : Int32))]) d_K_blurredAt_16 (Nat.le_of_ble_eq_true rfl) rfl rfl ?_
  refine y_pick (L1 := [(0, .ref 57), (2, .int v2), (3, .int v4), (4, .int (0 : Int32)), (5, .int (1 : Int32))]) [0, 2, 3, 4, 5] rfl ?_
  refine T_K_blurredAt_18 (by omega)   F (0 : Int32) (1 : Int32) _ h
/-! NinetyPlayers.blur -/
def b_N_blur_8 (F G : Nat) (S : St) (rec : Int32 → Int32 → Option (Int32 × St)) (w1 : Int32) (w2 : Int32) : Option (Int32 × St) :=
  gd (isSc S.2.2.1) (if (S.1 S.2.2.1 0) ≤ w2 then some (w1, S) else bd (fK_blurredAt F G S w2) fun v6 => lt (w1 + v6) fun v7 => lt (w2 + 1) fun v9 => rec v7 v9)
def fN_blur (F G : Nat) (S : St) : Option (Int32 × St) :=
  bd (fN_lookAtKeys F G S ) fun S2 => fx2 (b_N_blur_8 F G S2) F (0 : Int32) (0 : Int32)
set_option maxRecDepth 100000 in
set_option maxHeartbeats 4000000 in
theorem T_N_blur_8 {X : Nat × (Nat → Int32)} {D F G : Nat} (hD : 3 ≤ D + 1) {S : St} : ∀ (f : Nat) (w1 : Int32) (w2 : Int32) (res : Int32 × St), fx2 (b_N_blur_8 F G S ) f w1 w2 = some res → Ek X (D + 1) mN_blur 8 [(0, .ref 0), (1, .int w1), (2, .int w2)] [] S (some (.int res.1)) res.2 := by
  refine fx2_ind ?_
  intro rec ih w1 w2 res h
  unfold b_N_blur_8 at h
  refine x_iload_n d_N_blur_8 rfl 2 rfl ?_
  refine x_aload_n d_N_blur_9 rfl 0 rfl ?_
  refine y_getR d_N_blur_10 fl_0_24 rfl kd_0 rr_told ?_
  obtain ⟨g3, h⟩ := gd_inv h
  refine y_getI d_N_blur_13 fl_0_198 rfl (ksSc g3) ?_
  refine x_icmp_ge (tgt := 36) d_N_blur_16 rfl (fun c4 => ?_) (fun c4 => ?_)
  · replace h := ite_t c4 h
    refine x_iload_n d_N_blur_36 rfl 1 rfl ?_
    obtain rfl := Option.some.inj h
    exact x_ret (r := some (.int w1)) d_N_blur_37 ⟨_, rfl, rfl⟩
  · replace h := ite_f c4 h
    refine x_iload_n d_N_blur_19 rfl 1 rfl ?_
    refine x_aload_n d_N_blur_20 rfl 0 rfl ?_
    refine y_getR d_N_blur_21 fl_0_57 rfl kd_0 rr_0_7 ?_
    refine x_iload_n d_N_blur_24 rfl 2 rfl ?_
    obtain ⟨v6, q5, h⟩ := bd_inv h
    refine y_V1i (v := v6) (S1 := S) d_N_blur_25 ml_0_308 kd_57 rfl (Nat.le_of_ble_eq_true rfl) (Nat.le_of_ble_eq_true rfl) (c_K_blurredAt (by omega) q5) ?_
    refine x_iadd d_N_blur_28 ?_
    obtain ⟨v7, e8, h⟩ := lt_inv h
    refine y_istore_n (L1 := [(0, .ref 0), (1, .int v7), (2, .int w2)]) e8 d_N_blur_29 rfl (Nat.le_of_ble_eq_true rfl) rfl rfl ?_
    obtain ⟨v9, e10, h⟩ := lt_inv h
    refine y_iinc (L1 := [(0, .ref 0), (1, .int v7), (2, .int v9)]) e10 ic_1 d_N_blur_30 2 rfl (Nat.le_of_ble_eq_true rfl) rfl rfl ?_
    refine x_goto (tgt := 8) d_N_blur_33 rfl ?_
    exact ih v7 v9 _ h
set_option maxRecDepth 100000 in
set_option maxHeartbeats 4000000 in
theorem c_N_blur {X : Nat × (Nat → Int32)} {D F G : Nat} (hD : 3 ≤ D) {S : St} {res : Int32 × St} (h : fN_blur F G S  = some res) : Ek X (D) mN_blur 0 [(0, .ref 0)] [] S (some (.int res.1)) res.2 := by
  obtain ⟨D, rfl⟩ : ∃ E, D = E + 1 := ⟨D - 1, by omega⟩
  unfold fN_blur at h
  refine x_aload_n d_N_blur_0 rfl 0 rfl ?_
  obtain ⟨S2, q1, h⟩ := bd_inv h
  refine y_V0v (S1 := S2) d_N_blur_1 ml_0_176 kd_0 rfl (Nat.le_of_ble_eq_true rfl) (Nat.le_of_ble_eq_true rfl) (c_N_lookAtKeys (by omega) q1) ?_
  refine x_iconst d_N_blur_4 ic_0 ?_
  refine x_istore_n (L1 := [(0, .ref 0), (1, .int (0 : Int32))]) d_N_blur_5 rfl (Nat.le_of_ble_eq_true rfl) rfl rfl ?_
  refine x_iconst d_N_blur_6 ic_0 ?_
  refine x_istore_n (L1 := [(0, .ref 0), (1, .int (0 : Int32)), (2, .int (0 : Int32))]) d_N_blur_7 rfl (Nat.le_of_ble_eq_true rfl) rfl rfl ?_
  refine T_N_blur_8 (by omega)   F (0 : Int32) (0 : Int32) _ h
/-! NinetyPlayersModel.blurs -/
def j_M_blurs_64 (F G : Nat) (S : St) (y1 : Int32) (y2 : Int32) (y3 : Int32) : Option (Int32) :=
  gd (inB y1 12) (if (((S.1 102 y1.toNatClampNeg) >>> (y2 &&& 31)) &&& (1 : Int32)) = (1 : Int32) then gd (inB y1 12) (if (((S.1 102 y1.toNatClampNeg) >>> (y3 &&& 31)) &&& (1 : Int32)) = (1 : Int32) then some (0 : Int32) else some (1 : Int32)) else some (1 : Int32))
def fM_blurs (F G : Nat) (S : St) (p1 : Int32) (p2 : Int32) (p3 : Int32) : Option (Int32) :=
  gd (inB p1 12) (if (((S.1 103 p1.toNatClampNeg) >>> (p2 &&& 31)) &&& (1 : Int32)) = 0 then some (0 : Int32) else gd (inB p1 12) (if (((S.1 103 p1.toNatClampNeg) >>> (p3 &&& 31)) &&& (1 : Int32)) = 0 then some (0 : Int32) else gd (inB ((10 : Int32) + p2) 41) (gd (inB ((10 : Int32) + p3) 41) (bd (fM_plain F G S ((S.1 101 ((10 : Int32) + p2).toNatClampNeg) - (S.1 101 ((10 : Int32) + p3).toNatClampNeg))) fun v8 => if v8 = (1 : Int32) then j_M_blurs_64 F G  S p1 p2 p3 else if v8 = (2 : Int32) then j_M_blurs_64 F G  S p1 p2 p3 else some (0 : Int32)))))
set_option maxRecDepth 100000 in
set_option maxHeartbeats 4000000 in
theorem c_M_blurs {X : Nat × (Nat → Int32)} {D F G : Nat} (hD : 1 ≤ D) {S : St} {p1 : Int32} {p2 : Int32} {p3 : Int32} {res : Int32} (h : fM_blurs F G S p1 p2 p3 = some res) : Ek X (D) mM_blurs 0 [(0, .ref 78), (1, .int p1), (2, .int p2), (3, .int p3)] [] S (some (.int res)) S := by
  obtain ⟨D, rfl⟩ : ∃ E, D = E + 1 := ⟨D - 1, by omega⟩
  unfold fM_blurs at h
  have J64 : ∀ (y1 : Int32) (y2 : Int32) (y3 : Int32) (res : Int32), j_M_blurs_64 F G S y1 y2 y3 = some res → Ek X (D + 1) mM_blurs 64 [(0, .ref 78), (1, .int y1), (2, .int y2), (3, .int y3)] [] S (some (.int res)) S := by
    intro y1 y2 y3 res h
    unfold j_M_blurs_64 at h
    refine x_aload_n d_M_blurs_64 rfl 0 rfl ?_
    refine y_getR d_M_blurs_65 fl_11_99 rfl kd_78 rr_78_60 ?_
    refine x_iload_n d_M_blurs_68 rfl 1 rfl ?_
    obtain ⟨g11, h⟩ := gd_inv h
    refine y_iald d_M_blurs_69 kd_102 g11 ?_
    refine x_iload_n d_M_blurs_70 rfl 2 rfl ?_
    refine x_ishr d_M_blurs_71 ?_
    refine x_iconst d_M_blurs_72 ic_1 ?_
    refine x_iand d_M_blurs_73 ?_
    refine x_iconst d_M_blurs_74 ic_1 ?_
    refine x_icmp_ne (tgt := 92) d_M_blurs_75 rfl (fun c12 => ?_) (fun c12 => ?_)
    · replace h := ite_f c12 h
      refine x_iconst d_M_blurs_92 ic_1 ?_
      refine x_goto (tgt := 97) d_M_blurs_93 rfl ?_
      obtain rfl := Option.some.inj h
      exact x_ret (r := some (.int (1 : Int32))) d_M_blurs_97 ⟨_, rfl, rfl⟩
    · replace h := ite_t c12 h
      refine x_aload_n d_M_blurs_78 rfl 0 rfl ?_
      refine y_getR d_M_blurs_79 fl_11_99 rfl kd_78 rr_78_60 ?_
      refine x_iload_n d_M_blurs_82 rfl 1 rfl ?_
      obtain ⟨g13, h⟩ := gd_inv h
      refine y_iald d_M_blurs_83 kd_102 g13 ?_
      refine x_iload_n d_M_blurs_84 rfl 3 rfl ?_
      refine x_ishr d_M_blurs_85 ?_
      refine x_iconst d_M_blurs_86 ic_1 ?_
      refine x_iand d_M_blurs_87 ?_
      refine x_iconst d_M_blurs_88 ic_1 ?_
      refine x_icmp_eq (tgt := 96) d_M_blurs_89 rfl (fun c14 => ?_) (fun c14 => ?_)
      · replace h := ite_t c14 h
        refine x_iconst d_M_blurs_96 ic_0 ?_
        obtain rfl := Option.some.inj h
        exact x_ret (r := some (.int (0 : Int32))) d_M_blurs_97 ⟨_, rfl, rfl⟩
      · replace h := ite_f c14 h
        refine x_iconst d_M_blurs_92 ic_1 ?_
        refine x_goto (tgt := 97) d_M_blurs_93 rfl ?_
        obtain rfl := Option.some.inj h
        exact x_ret (r := some (.int (1 : Int32))) d_M_blurs_97 ⟨_, rfl, rfl⟩
  refine x_aload_n d_M_blurs_0 rfl 0 rfl ?_
  refine y_getR d_M_blurs_1 fl_11_102 rfl kd_78 rr_78_61 ?_
  refine x_iload_n d_M_blurs_4 rfl 1 rfl ?_
  obtain ⟨g1, h⟩ := gd_inv h
  refine y_iald d_M_blurs_5 kd_103 g1 ?_
  refine x_iload_n d_M_blurs_6 rfl 2 rfl ?_
  refine x_ishr d_M_blurs_7 ?_
  refine x_iconst d_M_blurs_8 ic_1 ?_
  refine x_iand d_M_blurs_9 ?_
  refine x_if_eq (tgt := 26) d_M_blurs_10 rfl (fun c2 => ?_) (fun c2 => ?_)
  · replace h := ite_t c2 h
    refine x_iconst d_M_blurs_26 ic_0 ?_
    obtain rfl := Option.some.inj h
    exact x_ret (r := some (.int (0 : Int32))) d_M_blurs_27 ⟨_, rfl, rfl⟩
  · replace h := ite_f c2 h
    refine x_aload_n d_M_blurs_13 rfl 0 rfl ?_
    refine y_getR d_M_blurs_14 fl_11_102 rfl kd_78 rr_78_61 ?_
    refine x_iload_n d_M_blurs_17 rfl 1 rfl ?_
    obtain ⟨g3, h⟩ := gd_inv h
    refine y_iald d_M_blurs_18 kd_103 g3 ?_
    refine x_iload_n d_M_blurs_19 rfl 3 rfl ?_
    refine x_ishr d_M_blurs_20 ?_
    refine x_iconst d_M_blurs_21 ic_1 ?_
    refine x_iand d_M_blurs_22 ?_
    refine x_if_ne (tgt := 28) d_M_blurs_23 rfl (fun c4 => ?_) (fun c4 => ?_)
    · replace h := ite_f c4 h
      refine x_aload_n d_M_blurs_28 rfl 0 rfl ?_
      refine y_getR d_M_blurs_29 fl_11_96 rfl kd_78 rr_78_59 ?_
      refine x_bipush d_M_blurs_32 bp_10 ?_
      refine x_iload_n d_M_blurs_34 rfl 2 rfl ?_
      refine x_iadd d_M_blurs_35 ?_
      obtain ⟨g5, h⟩ := gd_inv h
      refine y_iald d_M_blurs_36 kd_101 g5 ?_
      refine x_aload_n d_M_blurs_37 rfl 0 rfl ?_
      refine y_getR d_M_blurs_38 fl_11_96 rfl kd_78 rr_78_59 ?_
      refine x_bipush d_M_blurs_41 bp_10 ?_
      refine x_iload_n d_M_blurs_43 rfl 3 rfl ?_
      refine x_iadd d_M_blurs_44 ?_
      obtain ⟨g6, h⟩ := gd_inv h
      refine y_iald d_M_blurs_45 kd_101 g6 ?_
      refine x_isub d_M_blurs_46 ?_
      obtain ⟨v8, q7, h⟩ := bd_inv h
      refine y_S1i (v := v8) (S1 := S) d_M_blurs_47 ml_11_325 (Nat.le_of_ble_eq_true rfl) (Nat.le_of_ble_eq_true rfl) (c_M_plain (by omega) q7) ?_
      refine x_istore (L1 := [(0, .ref 78), (1, .int p1), (2, .int p2), (3, .int p3), (4, .int v8)]) d_M_blurs_50 (Nat.le_of_ble_eq_true rfl) rfl rfl ?_
      refine x_iload d_M_blurs_52 4 rfl ?_
      refine x_iconst d_M_blurs_54 ic_1 ?_
      refine x_icmp_eq (tgt := 64) d_M_blurs_55 rfl (fun c9 => ?_) (fun c9 => ?_)
      · replace h := ite_t c9 h
        refine y_pick (L1 := [(0, .ref 78), (1, .int p1), (2, .int p2), (3, .int p3)]) [0, 1, 2, 3] rfl ?_
        exact J64 p1 p2 p3 _ h
      · replace h := ite_f c9 h
        refine x_iload d_M_blurs_58 4 rfl ?_
        refine x_iconst d_M_blurs_60 ic_2 ?_
        refine x_icmp_ne (tgt := 96) d_M_blurs_61 rfl (fun c10 => ?_) (fun c10 => ?_)
        · replace h := ite_f c10 h
          refine x_iconst d_M_blurs_96 ic_0 ?_
          obtain rfl := Option.some.inj h
          exact x_ret (r := some (.int (0 : Int32))) d_M_blurs_97 ⟨_, rfl, rfl⟩
        · replace h := ite_t c10 h
          refine y_pick (L1 := [(0, .ref 78), (1, .int p1), (2, .int p2), (3, .int p3)]) [0, 1, 2, 3] rfl ?_
          exact J64 p1 p2 p3 _ h
    · replace h := ite_t c4 h
      refine x_iconst d_M_blurs_26 ic_0 ?_
      obtain rfl := Option.some.inj h
      exact x_ret (r := some (.int (0 : Int32))) d_M_blurs_27 ⟨_, rfl, rfl⟩
/-! NinetyPlayersModel.blur -/
def b_M_blur_33 (F G : Nat) (S : St) (z2 : Int32) (z3 : Int32) (k59 : Int32 → Option (Int32 × St)) (rec : Int32 → Int32 → Option (Int32 × St)) (w1 : Int32) (w4 : Int32) : Option (Int32 × St) :=
  if z3 ≤ w4 then k59 w1 else bd (fM_blurs F G S z2 z3 w4) fun v9 => bd (fM_truth F G S v9) fun v11 => lt (w1 + v11) fun v12 => lt (w4 + 1) fun v14 => rec v12 v14
def b_M_blur_22 (F G : Nat) (S : St) (z2 : Int32) (k65 : Int32 → Option (Int32 × St)) (rec : Int32 → Int32 → Option (Int32 × St)) (w1 : Int32) (w3 : Int32) : Option (Int32 × St) :=
  if (S.1 78 48) ≤ w3 then k65 w1 else fx2 (b_M_blur_33 F G S z2 w3 (fun v16 => lt (w3 + 1) fun v17 => rec v16 v17)) F w1 (0 : Int32)
def b_M_blur_12 (F G : Nat) (S : St) (rec : Int32 → Int32 → Option (Int32 × St)) (w1 : Int32) (w2 : Int32) : Option (Int32 × St) :=
  if (S.1 78 46) ≤ w2 then some (w1, S) else fx2 (b_M_blur_22 F G S w2 (fun v19 => lt (w2 + 1) fun v20 => rec v19 v20)) F w1 (0 : Int32)
def fM_blur (F G : Nat) (S : St) : Option (Int32 × St) :=
  bd (fM_fill F G S ) fun S2 => bd (fM_laySound F G S2 ) fun S4 => fx2 (b_M_blur_12 F G S4) F (0 : Int32) (0 : Int32)
set_option maxRecDepth 100000 in
set_option maxHeartbeats 4000000 in
theorem T_M_blur_33 {X : Nat × (Nat → Int32)} {D F G : Nat} (hD : 3 ≤ D + 1) {S : St} {z2 : Int32} {z3 : Int32} {k59 : Int32 → Option (Int32 × St)} (hk59 : ∀ (u1 : Int32) (res : Int32 × St), k59 u1 = some res → Ek X (D + 1) mM_blur 59 [(0, .ref 78), (1, .int u1), (2, .int z2), (3, .int z3)] [] S (some (.int res.1)) res.2) : ∀ (f : Nat) (w1 : Int32) (w4 : Int32) (res : Int32 × St), fx2 (b_M_blur_33 F G S z2 z3 k59 ) f w1 w4 = some res → Ek X (D + 1) mM_blur 33 [(0, .ref 78), (1, .int w1), (2, .int z2), (3, .int z3), (4, .int w4)] [] S (some (.int res.1)) res.2 := by
  refine fx2_ind ?_
  intro rec ih w1 w4 res h
  unfold b_M_blur_33 at h
  refine x_iload d_M_blur_33 4 rfl ?_
  refine x_iload_n d_M_blur_35 rfl 3 rfl ?_
  refine x_icmp_ge (tgt := 59) d_M_blur_36 rfl (fun c7 => ?_) (fun c7 => ?_)
  · replace h := ite_t c7 h
    refine y_pick (L1 := [(0, .ref 78), (1, .int w1), (2, .int z2), (3, .int z3)]) [0, 1, 2, 3] rfl ?_
    exact hk59 w1 _ h
  · replace h := ite_f c7 h
    refine x_iload_n d_M_blur_39 rfl 1 rfl ?_
    refine x_aload_n d_M_blur_40 rfl 0 rfl ?_
    refine x_iload_n d_M_blur_41 rfl 2 rfl ?_
    refine x_iload_n d_M_blur_42 rfl 3 rfl ?_
    refine x_iload d_M_blur_43 4 rfl ?_
    obtain ⟨v9, q8, h⟩ := bd_inv h
    refine y_V3i (v := v9) (S1 := S) d_M_blur_45 ml_11_530 kd_78 rfl (Nat.le_of_ble_eq_true rfl) (Nat.le_of_ble_eq_true rfl) (c_M_blurs (by omega) q8) ?_
    obtain ⟨v11, q10, h⟩ := bd_inv h
    refine y_S1i (v := v11) (S1 := S) d_M_blur_48 ml_11_318 (Nat.le_of_ble_eq_true rfl) (Nat.le_of_ble_eq_true rfl) (c_M_truth (by omega) q10) ?_
    refine x_iadd d_M_blur_51 ?_
    obtain ⟨v12, e13, h⟩ := lt_inv h
    refine y_istore_n (L1 := [(0, .ref 78), (1, .int v12), (2, .int z2), (3, .int z3), (4, .int w4)]) e13 d_M_blur_52 rfl (Nat.le_of_ble_eq_true rfl) rfl rfl ?_
    obtain ⟨v14, e15, h⟩ := lt_inv h
    refine y_iinc (L1 := [(0, .ref 78), (1, .int v12), (2, .int z2), (3, .int z3), (4, .int v14)]) e15 ic_1 d_M_blur_53 4 rfl (Nat.le_of_ble_eq_true rfl) rfl rfl ?_
    refine x_goto (tgt := 33) d_M_blur_56 rfl ?_
    exact ih v12 v14 _ h
set_option maxRecDepth 100000 in
set_option maxHeartbeats 4000000 in
theorem T_M_blur_22 {X : Nat × (Nat → Int32)} {D F G : Nat} (hD : 3 ≤ D + 1) {S : St} {z2 : Int32} {k65 : Int32 → Option (Int32 × St)} (hk65 : ∀ (u1 : Int32) (res : Int32 × St), k65 u1 = some res → Ek X (D + 1) mM_blur 65 [(0, .ref 78), (1, .int u1), (2, .int z2)] [] S (some (.int res.1)) res.2) : ∀ (f : Nat) (w1 : Int32) (w3 : Int32) (res : Int32 × St), fx2 (b_M_blur_22 F G S z2 k65 ) f w1 w3 = some res → Ek X (D + 1) mM_blur 22 [(0, .ref 78), (1, .int w1), (2, .int z2), (3, .int w3)] [] S (some (.int res.1)) res.2 := by
  refine fx2_ind ?_
  intro rec ih w1 w3 res h
  unfold b_M_blur_22 at h
  refine x_iload_n d_M_blur_22 rfl 3 rfl ?_
  refine x_aload_n d_M_blur_23 rfl 0 rfl ?_
  refine y_getI d_M_blur_24 fl_11_322 rfl kd_78 ?_
  refine x_icmp_ge (tgt := 65) d_M_blur_27 rfl (fun c6 => ?_) (fun c6 => ?_)
  · replace h := ite_t c6 h
    refine y_pick (L1 := [(0, .ref 78), (1, .int w1), (2, .int z2)]) [0, 1, 2] rfl ?_
    exact hk65 w1 _ h
  · replace h := ite_f c6 h
    refine x_iconst d_M_blur_30 ic_0 ?_
    refine x_istore (L1 := [(0, .ref 78), (1, .int w1), (2, .int z2), (3, .int w3), (4, .int (0 : Int32))]) d_M_blur_31 (Nat.le_of_ble_eq_true rfl) rfl rfl ?_
    refine T_M_blur_33 (by omega)  ?_ F w1 (0 : Int32) _ h
    · intro v16 res h
      obtain ⟨v17, e18, h⟩ := lt_inv h
      refine y_iinc (L1 := [(0, .ref 78), (1, .int v16), (2, .int z2), (3, .int v17)]) e18 ic_1 d_M_blur_59 3 rfl (Nat.le_of_ble_eq_true rfl) rfl rfl ?_
      refine x_goto (tgt := 22) d_M_blur_62 rfl ?_
      exact ih v16 v17 _ h
set_option maxRecDepth 100000 in
set_option maxHeartbeats 4000000 in
theorem T_M_blur_12 {X : Nat × (Nat → Int32)} {D F G : Nat} (hD : 3 ≤ D + 1) {S : St} : ∀ (f : Nat) (w1 : Int32) (w2 : Int32) (res : Int32 × St), fx2 (b_M_blur_12 F G S ) f w1 w2 = some res → Ek X (D + 1) mM_blur 12 [(0, .ref 78), (1, .int w1), (2, .int w2)] [] S (some (.int res.1)) res.2 := by
  refine fx2_ind ?_
  intro rec ih w1 w2 res h
  unfold b_M_blur_12 at h
  refine x_iload_n d_M_blur_12 rfl 2 rfl ?_
  refine x_aload_n d_M_blur_13 rfl 0 rfl ?_
  refine y_getI d_M_blur_14 fl_11_78 rfl kd_78 ?_
  refine x_icmp_ge (tgt := 71) d_M_blur_17 rfl (fun c5 => ?_) (fun c5 => ?_)
  · replace h := ite_t c5 h
    refine x_iload_n d_M_blur_71 rfl 1 rfl ?_
    obtain rfl := Option.some.inj h
    exact x_ret (r := some (.int w1)) d_M_blur_72 ⟨_, rfl, rfl⟩
  · replace h := ite_f c5 h
    refine x_iconst d_M_blur_20 ic_0 ?_
    refine x_istore_n (L1 := [(0, .ref 78), (1, .int w1), (2, .int w2), (3, .int (0 : Int32))]) d_M_blur_21 rfl (Nat.le_of_ble_eq_true rfl) rfl rfl ?_
    refine T_M_blur_22 (by omega)  ?_ F w1 (0 : Int32) _ h
    · intro v19 res h
      obtain ⟨v20, e21, h⟩ := lt_inv h
      refine y_iinc (L1 := [(0, .ref 78), (1, .int v19), (2, .int v20)]) e21 ic_1 d_M_blur_65 2 rfl (Nat.le_of_ble_eq_true rfl) rfl rfl ?_
      refine x_goto (tgt := 12) d_M_blur_68 rfl ?_
      exact ih v19 v20 _ h
set_option maxRecDepth 100000 in
set_option maxHeartbeats 4000000 in
theorem c_M_blur {X : Nat × (Nat → Int32)} {D F G : Nat} (hD : 3 ≤ D) {S : St} {res : Int32 × St} (h : fM_blur F G S  = some res) : Ek X (D) mM_blur 0 [(0, .ref 78)] [] S (some (.int res.1)) res.2 := by
  obtain ⟨D, rfl⟩ : ∃ E, D = E + 1 := ⟨D - 1, by omega⟩
  unfold fM_blur at h
  refine x_aload_n d_M_blur_0 rfl 0 rfl ?_
  obtain ⟨S2, q1, h⟩ := bd_inv h
  refine y_V0v (S1 := S2) d_M_blur_1 ml_11_464 kd_78 rfl (Nat.le_of_ble_eq_true rfl) (Nat.le_of_ble_eq_true rfl) (c_M_fill (by omega) q1) ?_
  refine x_aload_n d_M_blur_4 rfl 0 rfl ?_
  obtain ⟨S4, q3, h⟩ := bd_inv h
  refine y_V0v (S1 := S4) d_M_blur_5 ml_11_479 kd_78 rfl (Nat.le_of_ble_eq_true rfl) (Nat.le_of_ble_eq_true rfl) (c_M_laySound (by omega) q3) ?_
  refine x_iconst d_M_blur_8 ic_0 ?_
  refine x_istore_n (L1 := [(0, .ref 78), (1, .int (0 : Int32))]) d_M_blur_9 rfl (Nat.le_of_ble_eq_true rfl) rfl rfl ?_
  refine x_iconst d_M_blur_10 ic_0 ?_
  refine x_istore_n (L1 := [(0, .ref 78), (1, .int (0 : Int32)), (2, .int (0 : Int32))]) d_M_blur_11 rfl (Nat.le_of_ble_eq_true rfl) rfl rfl ?_
  refine T_M_blur_12 (by omega)   F (0 : Int32) (0 : Int32) _ h
/-! NinetyPlayers.openAt -/
def b_N_openAt_14 (F G : Nat) (S : St) (z2 : Int32) (k56 : Int32 → Option (Int32)) (rec : Int32 → Int32 → Option (Int32)) (w3 : Int32) (w4 : Int32) : Option (Int32) :=
  gd (isSc S.2.2.1) (if (S.1 S.2.2.1 6) ≤ w4 then k56 w3 else if ((z2 >>> (w4 &&& 31)) &&& (1 : Int32)) = 0 then lt (w4 + 1) fun v6 => rec w3 v6 else gd (inB w4 10) (lt (if w3 < (S.1 34 w4.toNatClampNeg) then (S.1 34 w4.toNatClampNeg) else w3) fun v9 => lt (w4 + 1) fun v11 => rec v9 v11))
def b_N_openAt_62 (F G : Nat) (S : St) (z2 : Int32) (z3 : Int32) (rec : Int32 → Int32 → Option (Int32)) (w4 : Int32) (w5 : Int32) : Option (Int32) :=
  gd (isSc S.2.2.1) (if (S.1 S.2.2.1 6) ≤ w5 then some w4 else if ((z2 >>> (w5 &&& 31)) &&& (1 : Int32)) = 0 then lt (w5 + 1) fun v17 => rec w4 v17 else gd (inB w5 10) (if (S.1 S.2.2.1 4) < (z3 - (S.1 34 w5.toNatClampNeg)) then lt (w5 + 1) fun v21 => rec w4 v21 else lt (w4 ||| ((1 : Int32) <<< (w5 &&& 31))) fun v23 => lt (w5 + 1) fun v25 => rec v23 v25))
def fN_openAt (F G : Nat) (S : St) (p1 : Int32) : Option (Int32) :=
  bd (fK_soundingAt F G S p1) fun v2 => fx2 (b_N_openAt_14 F G S v2 (fun v13 => fx2 (b_N_openAt_62 F G S v2 v13) F (0 : Int32) (0 : Int32))) F (0 : Int32) (0 : Int32)
set_option maxRecDepth 100000 in
set_option maxHeartbeats 4000000 in
theorem T_N_openAt_14 {X : Nat × (Nat → Int32)} {D F G : Nat} (hD : 2 ≤ D + 1) {S : St} {z2 : Int32} {k56 : Int32 → Option (Int32)} (hk56 : ∀ (u3 : Int32) (res : Int32), k56 u3 = some res → Ek X (D + 1) mN_openAt 56 [(0, .ref 0), (2, .int z2), (3, .int u3)] [] S (some (.int res)) S) : ∀ (f : Nat) (w3 : Int32) (w4 : Int32) (res : Int32), fx2 (b_N_openAt_14 F G S z2 k56 ) f w3 w4 = some res → Ek X (D + 1) mN_openAt 14 [(0, .ref 0), (2, .int z2), (3, .int w3), (4, .int w4)] [] S (some (.int res)) S := by
  refine fx2_ind ?_
  intro rec ih w3 w4 res h
  unfold b_N_openAt_14 at h
  refine x_iload d_N_openAt_14 3 rfl ?_
  refine x_aload_n d_N_openAt_16 rfl 0 rfl ?_
  refine y_getR d_N_openAt_17 fl_0_24 rfl kd_0 rr_told ?_
  obtain ⟨g3, h⟩ := gd_inv h
  refine y_getI d_N_openAt_20 fl_0_122 rfl (ksSc g3) ?_
  refine x_icmp_ge (tgt := 56) d_N_openAt_23 rfl (fun c4 => ?_) (fun c4 => ?_)
  · replace h := ite_t c4 h
    refine y_pick (L1 := [(0, .ref 0), (2, .int z2), (3, .int w3)]) [0, 1, 2] rfl ?_
    exact hk56 w3 _ h
  · replace h := ite_f c4 h
    refine x_iload_n d_N_openAt_26 rfl 1 rfl ?_
    refine x_iload d_N_openAt_27 3 rfl ?_
    refine x_ishr d_N_openAt_29 ?_
    refine x_iconst d_N_openAt_30 ic_1 ?_
    refine x_iand d_N_openAt_31 ?_
    refine x_if_eq (tgt := 50) d_N_openAt_32 rfl (fun c5 => ?_) (fun c5 => ?_)
    · replace h := ite_t c5 h
      obtain ⟨v6, e7, h⟩ := lt_inv h
      refine y_iinc (L1 := [(0, .ref 0), (2, .int z2), (3, .int w3), (4, .int v6)]) e7 ic_1 d_N_openAt_50 3 rfl (Nat.le_of_ble_eq_true rfl) rfl rfl ?_
      refine x_goto (tgt := 14) d_N_openAt_53 rfl ?_
      exact ih w3 v6 _ h
    · replace h := ite_f c5 h
      refine x_iload_n d_N_openAt_35 rfl 2 rfl ?_
      refine x_aload_n d_N_openAt_36 rfl 0 rfl ?_
      refine y_getR d_N_openAt_37 fl_0_31 rfl kd_0 rr_0_3 ?_
      refine y_getR d_N_openAt_40 fl_0_144 rfl kd_30 rr_30_5 ?_
      refine x_iload d_N_openAt_43 3 rfl ?_
      obtain ⟨g8, h⟩ := gd_inv h
      refine y_iald d_N_openAt_45 kd_34 g8 ?_
      refine y_mmax d_N_openAt_46 ml_0_234 (Nat.le_of_ble_eq_true rfl) ?_
      obtain ⟨v9, e10, h⟩ := lt_inv h
      refine y_istore_n (L1 := [(0, .ref 0), (2, .int z2), (3, .int v9), (4, .int w4)]) e10 d_N_openAt_49 rfl (Nat.le_of_ble_eq_true rfl) rfl rfl ?_
      obtain ⟨v11, e12, h⟩ := lt_inv h
      refine y_iinc (L1 := [(0, .ref 0), (2, .int z2), (3, .int v9), (4, .int v11)]) e12 ic_1 d_N_openAt_50 3 rfl (Nat.le_of_ble_eq_true rfl) rfl rfl ?_
      refine x_goto (tgt := 14) d_N_openAt_53 rfl ?_
      exact ih v9 v11 _ h
set_option maxRecDepth 100000 in
set_option maxHeartbeats 4000000 in
theorem T_N_openAt_62 {X : Nat × (Nat → Int32)} {D F G : Nat} (hD : 2 ≤ D + 1) {S : St} {z2 : Int32} {z3 : Int32} : ∀ (f : Nat) (w4 : Int32) (w5 : Int32) (res : Int32), fx2 (b_N_openAt_62 F G S z2 z3 ) f w4 w5 = some res → Ek X (D + 1) mN_openAt 62 [(0, .ref 0), (2, .int z2), (3, .int z3), (4, .int w4), (5, .int w5)] [] S (some (.int res)) S := by
  refine fx2_ind ?_
  intro rec ih w4 w5 res h
  unfold b_N_openAt_62 at h
  refine x_iload d_N_openAt_62 4 rfl ?_
  refine x_aload_n d_N_openAt_64 rfl 0 rfl ?_
  refine y_getR d_N_openAt_65 fl_0_24 rfl kd_0 rr_told ?_
  obtain ⟨g14, h⟩ := gd_inv h
  refine y_getI d_N_openAt_68 fl_0_122 rfl (ksSc g14) ?_
  refine x_icmp_ge (tgt := 120) d_N_openAt_71 rfl (fun c15 => ?_) (fun c15 => ?_)
  · replace h := ite_t c15 h
    refine x_iload d_N_openAt_120 3 rfl ?_
    obtain rfl := Option.some.inj h
    exact x_ret (r := some (.int w4)) d_N_openAt_122 ⟨_, rfl, rfl⟩
  · replace h := ite_f c15 h
    refine x_iload_n d_N_openAt_74 rfl 1 rfl ?_
    refine x_iload d_N_openAt_75 4 rfl ?_
    refine x_ishr d_N_openAt_77 ?_
    refine x_iconst d_N_openAt_78 ic_1 ?_
    refine x_iand d_N_openAt_79 ?_
    refine x_if_eq (tgt := 114) d_N_openAt_80 rfl (fun c16 => ?_) (fun c16 => ?_)
    · replace h := ite_t c16 h
      obtain ⟨v17, e18, h⟩ := lt_inv h
      refine y_iinc (L1 := [(0, .ref 0), (2, .int z2), (3, .int z3), (4, .int w4), (5, .int v17)]) e18 ic_1 d_N_openAt_114 4 rfl (Nat.le_of_ble_eq_true rfl) rfl rfl ?_
      refine x_goto (tgt := 62) d_N_openAt_117 rfl ?_
      exact ih w4 v17 _ h
    · replace h := ite_f c16 h
      refine x_iload_n d_N_openAt_83 rfl 2 rfl ?_
      refine x_aload_n d_N_openAt_84 rfl 0 rfl ?_
      refine y_getR d_N_openAt_85 fl_0_31 rfl kd_0 rr_0_3 ?_
      refine y_getR d_N_openAt_88 fl_0_144 rfl kd_30 rr_30_5 ?_
      refine x_iload d_N_openAt_91 4 rfl ?_
      obtain ⟨g19, h⟩ := gd_inv h
      refine y_iald d_N_openAt_93 kd_34 g19 ?_
      refine x_isub d_N_openAt_94 ?_
      refine x_aload_n d_N_openAt_95 rfl 0 rfl ?_
      refine y_getR d_N_openAt_96 fl_0_24 rfl kd_0 rr_told ?_
      refine y_getI d_N_openAt_99 fl_0_314 rfl (ksSc g14) ?_
      refine x_icmp_gt (tgt := 114) d_N_openAt_102 rfl (fun c20 => ?_) (fun c20 => ?_)
      · replace h := ite_t c20 h
        obtain ⟨v21, e22, h⟩ := lt_inv h
        refine y_iinc (L1 := [(0, .ref 0), (2, .int z2), (3, .int z3), (4, .int w4), (5, .int v21)]) e22 ic_1 d_N_openAt_114 4 rfl (Nat.le_of_ble_eq_true rfl) rfl rfl ?_
        refine x_goto (tgt := 62) d_N_openAt_117 rfl ?_
        exact ih w4 v21 _ h
      · replace h := ite_f c20 h
        refine x_iload d_N_openAt_105 3 rfl ?_
        refine x_iconst d_N_openAt_107 ic_1 ?_
        refine x_iload d_N_openAt_108 4 rfl ?_
        refine x_ishl d_N_openAt_110 ?_
        refine x_ior d_N_openAt_111 ?_
        obtain ⟨v23, e24, h⟩ := lt_inv h
        refine y_istore (L1 := [(0, .ref 0), (2, .int z2), (3, .int z3), (4, .int v23), (5, .int w5)]) e24 d_N_openAt_112 (Nat.le_of_ble_eq_true rfl) rfl rfl ?_
        obtain ⟨v25, e26, h⟩ := lt_inv h
        refine y_iinc (L1 := [(0, .ref 0), (2, .int z2), (3, .int z3), (4, .int v23), (5, .int v25)]) e26 ic_1 d_N_openAt_114 4 rfl (Nat.le_of_ble_eq_true rfl) rfl rfl ?_
        refine x_goto (tgt := 62) d_N_openAt_117 rfl ?_
        exact ih v23 v25 _ h
set_option maxRecDepth 100000 in
set_option maxHeartbeats 4000000 in
theorem c_N_openAt {X : Nat × (Nat → Int32)} {D F G : Nat} (hD : 2 ≤ D) {S : St} {p1 : Int32} {res : Int32} (h : fN_openAt F G S p1 = some res) : Ek X (D) mN_openAt 0 [(0, .ref 0), (1, .int p1)] [] S (some (.int res)) S := by
  obtain ⟨D, rfl⟩ : ∃ E, D = E + 1 := ⟨D - 1, by omega⟩
  unfold fN_openAt at h
  refine x_aload_n d_N_openAt_0 rfl 0 rfl ?_
  refine y_getR d_N_openAt_1 fl_0_57 rfl kd_0 rr_0_7 ?_
  refine x_iload_n d_N_openAt_4 rfl 1 rfl ?_
  obtain ⟨v2, q1, h⟩ := bd_inv h
  refine y_V1i (v := v2) (S1 := S) d_N_openAt_5 ml_0_185 kd_57 rfl (Nat.le_of_ble_eq_true rfl) (Nat.le_of_ble_eq_true rfl) (c_K_soundingAt (by omega) q1) ?_
  refine x_istore_n (L1 := [(0, .ref 0), (1, .int p1), (2, .int v2)]) d_N_openAt_8 rfl (Nat.le_of_ble_eq_true rfl) rfl rfl ?_
  refine x_iconst d_N_openAt_9 ic_0 ?_
  refine x_istore_n (L1 := [(0, .ref 0), (1, .int p1), (2, .int v2), (3, .int (0 : Int32))]) d_N_openAt_10 rfl (Nat.le_of_ble_eq_true rfl) rfl rfl ?_
  refine x_iconst d_N_openAt_11 ic_0 ?_
  refine x_istore (L1 := [(0, .ref 0), (1, .int p1), (2, .int v2), (3, .int (0 : Int32)), (4, .int (0 : Int32))]) d_N_openAt_12 (Nat.le_of_ble_eq_true rfl) rfl rfl ?_
  refine y_pick (L1 := [(0, .ref 0), (2, .int v2), (3, .int (0 : Int32)), (4, .int (0 : Int32))]) [0, 2, 3, 4] rfl ?_
  refine T_N_openAt_14 (by omega)  ?_ F (0 : Int32) (0 : Int32) _ h
  · intro v13 res h
    refine x_iconst d_N_openAt_56 ic_0 ?_
    refine x_istore (L1 := [(0, .ref 0), (2, .int v2), (3, .int v13), (4, .int (0 : Int32))]) d_N_openAt_57 (Nat.le_of_ble_eq_true rfl) rfl rfl ?_
    refine x_iconst d_N_openAt_59 ic_0 ?_
    refine x_istore (L1 := [(0, .ref 0), (2, .int v2), (3, .int v13), (4, .int (0 : Int32)), (5, .int (0 : Int32))]) d_N_openAt_60 (Nat.le_of_ble_eq_true rfl) rfl rfl ?_
    refine T_N_openAt_62 (by omega)   F (0 : Int32) (0 : Int32) _ h
/-! NinetyPlayers.open -/
def fN_open (F G : Nat) (S : St) (p1 : Int32) : Option (Int32 × St) :=
  bd (fN_isBeat F G S p1) fun v2 => if v2 = 0 then some ((-1 : Int32), S) else bd (fN_lookAtKeys F G S ) fun S5 => bd (fN_openAt F G S5 p1) fun v7 => some (v7, S5)
set_option maxRecDepth 100000 in
set_option maxHeartbeats 4000000 in
theorem c_N_open {X : Nat × (Nat → Int32)} {D F G : Nat} (hD : 3 ≤ D) {S : St} {p1 : Int32} {res : Int32 × St} (h : fN_open F G S p1 = some res) : Ek X (D) mN_open 0 [(0, .ref 0), (1, .int p1)] [] S (some (.int res.1)) res.2 := by
  obtain ⟨D, rfl⟩ : ∃ E, D = E + 1 := ⟨D - 1, by omega⟩
  unfold fN_open at h
  refine x_aload_n d_N_open_0 rfl 0 rfl ?_
  refine x_iload_n d_N_open_1 rfl 1 rfl ?_
  obtain ⟨v2, q1, h⟩ := bd_inv h
  refine y_V1i (v := v2) (S1 := S) d_N_open_2 ml_0_170 kd_0 rfl (Nat.le_of_ble_eq_true rfl) (Nat.le_of_ble_eq_true rfl) (c_N_isBeat (by omega) q1) ?_
  refine x_if_ne (tgt := 10) d_N_open_5 rfl (fun c3 => ?_) (fun c3 => ?_)
  · replace h := ite_f c3 h
    refine x_aload_n d_N_open_10 rfl 0 rfl ?_
    obtain ⟨S5, q4, h⟩ := bd_inv h
    refine y_V0v (S1 := S5) d_N_open_11 ml_0_176 kd_0 rfl (Nat.le_of_ble_eq_true rfl) (Nat.le_of_ble_eq_true rfl) (c_N_lookAtKeys (by omega) q4) ?_
    refine x_aload_n d_N_open_14 rfl 0 rfl ?_
    refine x_iload_n d_N_open_15 rfl 1 rfl ?_
    obtain ⟨v7, q6, h⟩ := bd_inv h
    refine y_V1i (v := v7) (S1 := S5) d_N_open_16 ml_0_311 kd_0 rfl (Nat.le_of_ble_eq_true rfl) (Nat.le_of_ble_eq_true rfl) (c_N_openAt (by omega) q6) ?_
    obtain rfl := Option.some.inj h
    exact x_ret (r := some (.int v7)) d_N_open_19 ⟨_, rfl, rfl⟩
  · replace h := ite_t c3 h
    refine x_iconst d_N_open_8 ic_m1 ?_
    obtain rfl := Option.some.inj h
    exact x_ret (r := some (.int (-1 : Int32))) d_N_open_9 ⟨_, rfl, rfl⟩
/-! NinetyPlayersModel.openAt -/
def b_M_openAt_36 (F G : Nat) (S : St) (z1 : Int32) (z2 : Int32) (z3 : Int32) (k104 : Int32 → Option (Int32)) (rec : Int32 → Int32 → Option (Int32)) (w4 : Int32) (w5 : Int32) : Option (Int32) :=
  if (S.1 78 48) ≤ w5 then k104 w4 else if w4 = 0 then k104 w4 else gd (inB z1 12) (if (((S.1 103 z1.toNatClampNeg) >>> (w5 &&& 31)) &&& (1 : Int32)) = 0 then lt (w5 + 1) fun v8 => rec (1 : Int32) v8 else gd (inB ((30 : Int32) + w5) 41) (gd (inB ((30 : Int32) + z3) 41) (if (S.1 78 52) < ((S.1 101 ((30 : Int32) + w5).toNatClampNeg) - (S.1 101 ((30 : Int32) + z3).toNatClampNeg)) then lt (w5 + 1) fun v13 => rec (0 : Int32) v13 else lt (w5 + 1) fun v15 => rec (1 : Int32) v15)))
def j_M_openAt_104 (F G : Nat) (S : St) (z1 : Int32) (rec : Int32 → Int32 → Option (Int32)) (_ : St) (y2 : Int32) (y3 : Int32) (y4 : Int32) : Option (Int32) :=
  bd (fM_truth F G S y4) fun v20 => lt (y2 ||| (v20 <<< (y3 &&& 31))) fun v21 => lt (y3 + 1) fun v23 => rec v21 v23
def b_M_openAt_4 (F G : Nat) (S : St) (z1 : Int32) (rec : Int32 → Int32 → Option (Int32)) (w2 : Int32) (w3 : Int32) : Option (Int32) :=
  if (S.1 78 48) ≤ w3 then some w2 else gd (inB z1 12) (if (((S.1 103 z1.toNatClampNeg) >>> (w3 &&& 31)) &&& (1 : Int32)) = (1 : Int32) then fx2 (b_M_openAt_36 F G S z1 w2 w3 (fun v18 => j_M_openAt_104 F G S z1 rec  S w2 w3 v18)) F (1 : Int32) (0 : Int32) else fx2 (b_M_openAt_36 F G S z1 w2 w3 (fun v17 => j_M_openAt_104 F G S z1 rec  S w2 w3 v17)) F (0 : Int32) (0 : Int32))
def fM_openAt (F G : Nat) (S : St) (p1 : Int32) : Option (Int32) :=
  fx2 (b_M_openAt_4 F G S p1) F (0 : Int32) (0 : Int32)
set_option maxRecDepth 100000 in
set_option maxHeartbeats 4000000 in
theorem T_M_openAt_36 {X : Nat × (Nat → Int32)} {D F G : Nat} (hD : 1 ≤ D + 1) {S : St} {z1 : Int32} {z2 : Int32} {z3 : Int32} {k104 : Int32 → Option (Int32)} (hk104 : ∀ (u4 : Int32) (res : Int32), k104 u4 = some res → Ek X (D + 1) mM_openAt 104 [(0, .ref 78), (1, .int z1), (2, .int z2), (3, .int z3), (4, .int u4)] [] S (some (.int res)) S) : ∀ (f : Nat) (w4 : Int32) (w5 : Int32) (res : Int32), fx2 (b_M_openAt_36 F G S z1 z2 z3 k104 ) f w4 w5 = some res → Ek X (D + 1) mM_openAt 36 [(0, .ref 78), (1, .int z1), (2, .int z2), (3, .int z3), (4, .int w4), (5, .int w5)] [] S (some (.int res)) S := by
  refine fx2_ind ?_
  intro rec ih w4 w5 res h
  unfold b_M_openAt_36 at h
  refine x_iload d_M_openAt_36 5 rfl ?_
  refine x_aload_n d_M_openAt_38 rfl 0 rfl ?_
  refine y_getI d_M_openAt_39 fl_11_322 rfl kd_78 ?_
  refine x_icmp_ge (tgt := 104) d_M_openAt_42 rfl (fun c4 => ?_) (fun c4 => ?_)
  · replace h := ite_t c4 h
    refine y_pick (L1 := [(0, .ref 78), (1, .int z1), (2, .int z2), (3, .int z3), (4, .int w4)]) [0, 1, 2, 3, 4] rfl ?_
    exact hk104 w4 _ h
  · replace h := ite_f c4 h
    refine x_iload d_M_openAt_45 4 rfl ?_
    refine x_if_eq (tgt := 104) d_M_openAt_47 rfl (fun c5 => ?_) (fun c5 => ?_)
    · replace h := ite_t c5 h
      refine y_pick (L1 := [(0, .ref 78), (1, .int z1), (2, .int z2), (3, .int z3), (4, .int w4)]) [0, 1, 2, 3, 4] rfl ?_
      exact hk104 w4 _ h
    · replace h := ite_f c5 h
      refine x_aload_n d_M_openAt_50 rfl 0 rfl ?_
      refine y_getR d_M_openAt_51 fl_11_102 rfl kd_78 rr_78_61 ?_
      refine x_iload_n d_M_openAt_54 rfl 1 rfl ?_
      obtain ⟨g6, h⟩ := gd_inv h
      refine y_iald d_M_openAt_55 kd_103 g6 ?_
      refine x_iload d_M_openAt_56 5 rfl ?_
      refine x_ishr d_M_openAt_58 ?_
      refine x_iconst d_M_openAt_59 ic_1 ?_
      refine x_iand d_M_openAt_60 ?_
      refine x_if_eq (tgt := 91) d_M_openAt_61 rfl (fun c7 => ?_) (fun c7 => ?_)
      · replace h := ite_t c7 h
        refine x_iconst d_M_openAt_91 ic_1 ?_
        refine x_goto (tgt := 96) d_M_openAt_92 rfl ?_
        refine x_istore (L1 := [(0, .ref 78), (1, .int z1), (2, .int z2), (3, .int z3), (4, .int (1 : Int32)), (5, .int w5)]) d_M_openAt_96 (Nat.le_of_ble_eq_true rfl) rfl rfl ?_
        obtain ⟨v8, e9, h⟩ := lt_inv h
        refine y_iinc (L1 := [(0, .ref 78), (1, .int z1), (2, .int z2), (3, .int z3), (4, .int (1 : Int32)), (5, .int v8)]) e9 ic_1 d_M_openAt_98 5 rfl (Nat.le_of_ble_eq_true rfl) rfl rfl ?_
        refine x_goto (tgt := 36) d_M_openAt_101 rfl ?_
        exact ih (1 : Int32) v8 _ h
      · replace h := ite_f c7 h
        refine x_aload_n d_M_openAt_64 rfl 0 rfl ?_
        refine y_getR d_M_openAt_65 fl_11_96 rfl kd_78 rr_78_59 ?_
        refine x_bipush d_M_openAt_68 bp_30 ?_
        refine x_iload d_M_openAt_70 5 rfl ?_
        refine x_iadd d_M_openAt_72 ?_
        obtain ⟨g10, h⟩ := gd_inv h
        refine y_iald d_M_openAt_73 kd_101 g10 ?_
        refine x_aload_n d_M_openAt_74 rfl 0 rfl ?_
        refine y_getR d_M_openAt_75 fl_11_96 rfl kd_78 rr_78_59 ?_
        refine x_bipush d_M_openAt_78 bp_30 ?_
        refine x_iload_n d_M_openAt_80 rfl 3 rfl ?_
        refine x_iadd d_M_openAt_81 ?_
        obtain ⟨g11, h⟩ := gd_inv h
        refine y_iald d_M_openAt_82 kd_101 g11 ?_
        refine x_isub d_M_openAt_83 ?_
        refine x_aload_n d_M_openAt_84 rfl 0 rfl ?_
        refine y_getI d_M_openAt_85 fl_11_90 rfl kd_78 ?_
        refine x_icmp_gt (tgt := 95) d_M_openAt_88 rfl (fun c12 => ?_) (fun c12 => ?_)
        · replace h := ite_t c12 h
          refine x_iconst d_M_openAt_95 ic_0 ?_
          refine x_istore (L1 := [(0, .ref 78), (1, .int z1), (2, .int z2), (3, .int z3), (4, .int (0 : Int32)), (5, .int w5)]) d_M_openAt_96 (Nat.le_of_ble_eq_true rfl) rfl rfl ?_
          obtain ⟨v13, e14, h⟩ := lt_inv h
          refine y_iinc (L1 := [(0, .ref 78), (1, .int z1), (2, .int z2), (3, .int z3), (4, .int (0 : Int32)), (5, .int v13)]) e14 ic_1 d_M_openAt_98 5 rfl (Nat.le_of_ble_eq_true rfl) rfl rfl ?_
          refine x_goto (tgt := 36) d_M_openAt_101 rfl ?_
          exact ih (0 : Int32) v13 _ h
        · replace h := ite_f c12 h
          refine x_iconst d_M_openAt_91 ic_1 ?_
          refine x_goto (tgt := 96) d_M_openAt_92 rfl ?_
          refine x_istore (L1 := [(0, .ref 78), (1, .int z1), (2, .int z2), (3, .int z3), (4, .int (1 : Int32)), (5, .int w5)]) d_M_openAt_96 (Nat.le_of_ble_eq_true rfl) rfl rfl ?_
          obtain ⟨v15, e16, h⟩ := lt_inv h
          refine y_iinc (L1 := [(0, .ref 78), (1, .int z1), (2, .int z2), (3, .int z3), (4, .int (1 : Int32)), (5, .int v15)]) e16 ic_1 d_M_openAt_98 5 rfl (Nat.le_of_ble_eq_true rfl) rfl rfl ?_
          refine x_goto (tgt := 36) d_M_openAt_101 rfl ?_
          exact ih (1 : Int32) v15 _ h
set_option maxRecDepth 100000 in
set_option maxHeartbeats 4000000 in
theorem T_M_openAt_4 {X : Nat × (Nat → Int32)} {D F G : Nat} (hD : 1 ≤ D + 1) {S : St} {z1 : Int32} : ∀ (f : Nat) (w2 : Int32) (w3 : Int32) (res : Int32), fx2 (b_M_openAt_4 F G S z1 ) f w2 w3 = some res → Ek X (D + 1) mM_openAt 4 [(0, .ref 78), (1, .int z1), (2, .int w2), (3, .int w3)] [] S (some (.int res)) S := by
  refine fx2_ind ?_
  intro rec ih w2 w3 res h
  unfold b_M_openAt_4 at h
  have J104 : ∀ (y2 : Int32) (y3 : Int32) (y4 : Int32) (res : Int32), j_M_openAt_104 F G S z1 rec S y2 y3 y4 = some res → Ek X (D + 1) mM_openAt 104 [(0, .ref 78), (1, .int z1), (2, .int y2), (3, .int y3), (4, .int y4)] [] S (some (.int res)) S := by
    intro y2 y3 y4 res h
    unfold j_M_openAt_104 at h
    refine x_iload_n d_M_openAt_104 rfl 2 rfl ?_
    refine x_iload d_M_openAt_105 4 rfl ?_
    obtain ⟨v20, q19, h⟩ := bd_inv h
    refine y_S1i (v := v20) (S1 := S) d_M_openAt_107 ml_11_318 (Nat.le_of_ble_eq_true rfl) (Nat.le_of_ble_eq_true rfl) (c_M_truth (by omega) q19) ?_
    refine x_iload_n d_M_openAt_110 rfl 3 rfl ?_
    refine x_ishl d_M_openAt_111 ?_
    refine x_ior d_M_openAt_112 ?_
    obtain ⟨v21, e22, h⟩ := lt_inv h
    refine y_istore_n (L1 := [(0, .ref 78), (1, .int z1), (2, .int v21), (3, .int y3), (4, .int y4)]) e22 d_M_openAt_113 rfl (Nat.le_of_ble_eq_true rfl) rfl rfl ?_
    obtain ⟨v23, e24, h⟩ := lt_inv h
    refine y_iinc (L1 := [(0, .ref 78), (1, .int z1), (2, .int v21), (3, .int v23), (4, .int y4)]) e24 ic_1 d_M_openAt_114 3 rfl (Nat.le_of_ble_eq_true rfl) rfl rfl ?_
    refine x_goto (tgt := 4) d_M_openAt_117 rfl ?_
    refine y_pick (L1 := [(0, .ref 78), (1, .int z1), (2, .int v21), (3, .int v23)]) [0, 1, 2, 3] rfl ?_
    exact ih v21 v23 _ h
  refine x_iload_n d_M_openAt_4 rfl 3 rfl ?_
  refine x_aload_n d_M_openAt_5 rfl 0 rfl ?_
  refine y_getI d_M_openAt_6 fl_11_322 rfl kd_78 ?_
  refine x_icmp_ge (tgt := 120) d_M_openAt_9 rfl (fun c1 => ?_) (fun c1 => ?_)
  · replace h := ite_t c1 h
    refine x_iload_n d_M_openAt_120 rfl 2 rfl ?_
    obtain rfl := Option.some.inj h
    exact x_ret (r := some (.int w2)) d_M_openAt_121 ⟨_, rfl, rfl⟩
  · replace h := ite_f c1 h
    refine x_aload_n d_M_openAt_12 rfl 0 rfl ?_
    refine y_getR d_M_openAt_13 fl_11_102 rfl kd_78 rr_78_61 ?_
    refine x_iload_n d_M_openAt_16 rfl 1 rfl ?_
    obtain ⟨g2, h⟩ := gd_inv h
    refine y_iald d_M_openAt_17 kd_103 g2 ?_
    refine x_iload_n d_M_openAt_18 rfl 3 rfl ?_
    refine x_ishr d_M_openAt_19 ?_
    refine x_iconst d_M_openAt_20 ic_1 ?_
    refine x_iand d_M_openAt_21 ?_
    refine x_iconst d_M_openAt_22 ic_1 ?_
    refine x_icmp_ne (tgt := 30) d_M_openAt_23 rfl (fun c3 => ?_) (fun c3 => ?_)
    · replace h := ite_f c3 h
      refine x_iconst d_M_openAt_30 ic_0 ?_
      refine x_istore (L1 := [(0, .ref 78), (1, .int z1), (2, .int w2), (3, .int w3), (4, .int (0 : Int32))]) d_M_openAt_31 (Nat.le_of_ble_eq_true rfl) rfl rfl ?_
      refine x_iconst d_M_openAt_33 ic_0 ?_
      refine x_istore (L1 := [(0, .ref 78), (1, .int z1), (2, .int w2), (3, .int w3), (4, .int (0 : Int32)), (5, .int (0 : Int32))]) d_M_openAt_34 (Nat.le_of_ble_eq_true rfl) rfl rfl ?_
      refine T_M_openAt_36 (by omega)  ?_ F (0 : Int32) (0 : Int32) _ h
      · intro v17 res h
        exact J104 w2 w3 v17 _ h
    · replace h := ite_t c3 h
      refine x_iconst d_M_openAt_26 ic_1 ?_
      refine x_goto (tgt := 31) d_M_openAt_27 rfl ?_
      refine x_istore (L1 := [(0, .ref 78), (1, .int z1), (2, .int w2), (3, .int w3), (4, .int (1 : Int32))]) d_M_openAt_31 (Nat.le_of_ble_eq_true rfl) rfl rfl ?_
      refine x_iconst d_M_openAt_33 ic_0 ?_
      refine x_istore (L1 := [(0, .ref 78), (1, .int z1), (2, .int w2), (3, .int w3), (4, .int (1 : Int32)), (5, .int (0 : Int32))]) d_M_openAt_34 (Nat.le_of_ble_eq_true rfl) rfl rfl ?_
      refine T_M_openAt_36 (by omega)  ?_ F (1 : Int32) (0 : Int32) _ h
      · intro v18 res h
        exact J104 w2 w3 v18 _ h
set_option maxRecDepth 100000 in
set_option maxHeartbeats 4000000 in
theorem c_M_openAt {X : Nat × (Nat → Int32)} {D F G : Nat} (hD : 1 ≤ D) {S : St} {p1 : Int32} {res : Int32} (h : fM_openAt F G S p1 = some res) : Ek X (D) mM_openAt 0 [(0, .ref 78), (1, .int p1)] [] S (some (.int res)) S := by
  obtain ⟨D, rfl⟩ : ∃ E, D = E + 1 := ⟨D - 1, by omega⟩
  unfold fM_openAt at h
  refine x_iconst d_M_openAt_0 ic_0 ?_
  refine x_istore_n (L1 := [(0, .ref 78), (1, .int p1), (2, .int (0 : Int32))]) d_M_openAt_1 rfl (Nat.le_of_ble_eq_true rfl) rfl rfl ?_
  refine x_iconst d_M_openAt_2 ic_0 ?_
  refine x_istore_n (L1 := [(0, .ref 78), (1, .int p1), (2, .int (0 : Int32)), (3, .int (0 : Int32))]) d_M_openAt_3 rfl (Nat.le_of_ble_eq_true rfl) rfl rfl ?_
  refine T_M_openAt_4 (by omega)   F (0 : Int32) (0 : Int32) _ h
/-! NinetyPlayersModel.open -/
def fM_open (F G : Nat) (S : St) (p1 : Int32) : Option (Int32 × St) :=
  bd (fM_isBeat F G S p1) fun v2 => if v2 = 0 then some ((-1 : Int32), S) else bd (fM_fill F G S ) fun S5 => bd (fM_laySound F G S5 ) fun S7 => bd (fM_openAt F G S7 p1) fun v9 => some (v9, S7)
set_option maxRecDepth 100000 in
set_option maxHeartbeats 4000000 in
theorem c_M_open {X : Nat × (Nat → Int32)} {D F G : Nat} (hD : 3 ≤ D) {S : St} {p1 : Int32} {res : Int32 × St} (h : fM_open F G S p1 = some res) : Ek X (D) mM_open 0 [(0, .ref 78), (1, .int p1)] [] S (some (.int res.1)) res.2 := by
  obtain ⟨D, rfl⟩ : ∃ E, D = E + 1 := ⟨D - 1, by omega⟩
  unfold fM_open at h
  refine x_aload_n d_M_open_0 rfl 0 rfl ?_
  refine x_iload_n d_M_open_1 rfl 1 rfl ?_
  obtain ⟨v2, q1, h⟩ := bd_inv h
  refine y_V1i (v := v2) (S1 := S) d_M_open_2 ml_11_473 kd_78 rfl (Nat.le_of_ble_eq_true rfl) (Nat.le_of_ble_eq_true rfl) (c_M_isBeat (by omega) q1) ?_
  refine x_if_ne (tgt := 10) d_M_open_5 rfl (fun c3 => ?_) (fun c3 => ?_)
  · replace h := ite_f c3 h
    refine x_aload_n d_M_open_10 rfl 0 rfl ?_
    obtain ⟨S5, q4, h⟩ := bd_inv h
    refine y_V0v (S1 := S5) d_M_open_11 ml_11_464 kd_78 rfl (Nat.le_of_ble_eq_true rfl) (Nat.le_of_ble_eq_true rfl) (c_M_fill (by omega) q4) ?_
    refine x_aload_n d_M_open_14 rfl 0 rfl ?_
    obtain ⟨S7, q6, h⟩ := bd_inv h
    refine y_V0v (S1 := S7) d_M_open_15 ml_11_479 kd_78 rfl (Nat.le_of_ble_eq_true rfl) (Nat.le_of_ble_eq_true rfl) (c_M_laySound (by omega) q6) ?_
    refine x_aload_n d_M_open_18 rfl 0 rfl ?_
    refine x_iload_n d_M_open_19 rfl 1 rfl ?_
    obtain ⟨v9, q8, h⟩ := bd_inv h
    refine y_V1i (v := v9) (S1 := S7) d_M_open_20 ml_11_533 kd_78 rfl (Nat.le_of_ble_eq_true rfl) (Nat.le_of_ble_eq_true rfl) (c_M_openAt (by omega) q8) ?_
    obtain rfl := Option.some.inj h
    exact x_ret (r := some (.int v9)) d_M_open_23 ⟨_, rfl, rfl⟩
  · replace h := ite_t c3 h
    refine x_iconst d_M_open_8 ic_m1 ?_
    obtain rfl := Option.some.inj h
    exact x_ret (r := some (.int (-1 : Int32))) d_M_open_9 ⟨_, rfl, rfl⟩
/-! NinetyPlayers.lost -/
def j_N_lost_48 (F G : Nat) (S : St) (rec : Int32 → Int32 → Option (Int32 × St)) (_ : St) (y1 : Int32) (y2 : Int32) (s0 : Int32) : Option (Int32 × St) :=
  if s0 = 0 then lt (y2 + 1) fun v11 => rec y1 v11 else gd (isSc S.2.2.1) (gd (inB y2 10) (bd (fN_openAt F G S (S.1 (S.2.2.1 + 5) y2.toNatClampNeg)) fun v16 => if ((v16 >>> (y2 &&& 31)) &&& (1 : Int32)) = 0 then lt (y1 ||| ((1 : Int32) <<< (y2 &&& 31))) fun v20 => lt (y2 + 1) fun v22 => rec v20 v22 else lt (y2 + 1) fun v18 => rec y1 v18))
def j_N_lost_47 (F G : Nat) (S : St) (rec : Int32 → Int32 → Option (Int32 × St)) (_ : St) (y1 : Int32) (y2 : Int32) : Option (Int32 × St) :=
  j_N_lost_48 F G S rec  S y1 y2 (0 : Int32)
def b_N_lost_8 (F G : Nat) (S : St) (rec : Int32 → Int32 → Option (Int32 × St)) (w1 : Int32) (w2 : Int32) : Option (Int32 × St) :=
  gd (isSc S.2.2.1) (if (S.1 S.2.2.1 6) ≤ w2 then some (w1, S) else bd (fS_roleOf F G S S.2.2.1 w2) fun v6 => if v6 = (2 : Int32) then gd (inB w2 10) (if (S.1 31 w2.toNatClampNeg) = 0 then j_N_lost_47 F G S rec  S w1 w2 else j_N_lost_48 F G S rec  S w1 w2 (1 : Int32)) else j_N_lost_47 F G S rec  S w1 w2)
def fN_lost (F G : Nat) (S : St) : Option (Int32 × St) :=
  bd (fN_lookAtKeys F G S ) fun S2 => fx2 (b_N_lost_8 F G S2) F (0 : Int32) (0 : Int32)
set_option maxRecDepth 100000 in
set_option maxHeartbeats 4000000 in
theorem T_N_lost_8 {X : Nat × (Nat → Int32)} {D F G : Nat} (hD : 3 ≤ D + 1) {S : St} : ∀ (f : Nat) (w1 : Int32) (w2 : Int32) (res : Int32 × St), fx2 (b_N_lost_8 F G S ) f w1 w2 = some res → Ek X (D + 1) mN_lost 8 [(0, .ref 0), (1, .int w1), (2, .int w2)] [] S (some (.int res.1)) res.2 := by
  refine fx2_ind ?_
  intro rec ih w1 w2 res h
  unfold b_N_lost_8 at h
  have J48 : ∀ (y1 : Int32) (y2 : Int32) (s0 : Int32) (res : Int32 × St), j_N_lost_48 F G S rec S y1 y2 s0 = some res → Ek X (D + 1) mN_lost 48 [(0, .ref 0), (1, .int y1), (2, .int y2)] [.int s0] S (some (.int res.1)) res.2 := by
    intro y1 y2 s0 res h
    unfold j_N_lost_48 at h
    refine x_istore_n (L1 := [(0, .ref 0), (1, .int y1), (2, .int y2), (3, .int s0)]) d_N_lost_48 rfl (Nat.le_of_ble_eq_true rfl) rfl rfl ?_
    refine x_iload_n d_N_lost_49 rfl 3 rfl ?_
    refine x_if_eq (tgt := 79) d_N_lost_50 rfl (fun c10 => ?_) (fun c10 => ?_)
    · replace h := ite_t c10 h
      obtain ⟨v11, e12, h⟩ := lt_inv h
      refine y_iinc (L1 := [(0, .ref 0), (1, .int y1), (2, .int v11), (3, .int s0)]) e12 ic_1 d_N_lost_79 2 rfl (Nat.le_of_ble_eq_true rfl) rfl rfl ?_
      refine x_goto (tgt := 8) d_N_lost_82 rfl ?_
      refine y_pick (L1 := [(0, .ref 0), (1, .int y1), (2, .int v11)]) [0, 1, 2] rfl ?_
      exact ih y1 v11 _ h
    · replace h := ite_f c10 h
      refine x_aload_n d_N_lost_53 rfl 0 rfl ?_
      refine x_aload_n d_N_lost_54 rfl 0 rfl ?_
      refine y_getR d_N_lost_55 fl_0_24 rfl kd_0 rr_told ?_
      obtain ⟨g13, h⟩ := gd_inv h
      refine y_getR d_N_lost_58 fl_0_135 rfl (ksSc g13) (rrSc_11 g13) ?_
      refine x_iload_n d_N_lost_61 rfl 2 rfl ?_
      obtain ⟨g14, h⟩ := gd_inv h
      refine y_iald d_N_lost_62 (ksSc_5 g13) g14 ?_
      obtain ⟨v16, q15, h⟩ := bd_inv h
      refine y_V1i (v := v16) (S1 := S) d_N_lost_63 ml_0_311 kd_0 rfl (Nat.le_of_ble_eq_true rfl) (Nat.le_of_ble_eq_true rfl) (c_N_openAt (by omega) q15) ?_
      refine x_iload_n d_N_lost_66 rfl 2 rfl ?_
      refine x_ishr d_N_lost_67 ?_
      refine x_iconst d_N_lost_68 ic_1 ?_
      refine x_iand d_N_lost_69 ?_
      refine x_if_ne (tgt := 79) d_N_lost_70 rfl (fun c17 => ?_) (fun c17 => ?_)
      · replace h := ite_f c17 h
        obtain ⟨v18, e19, h⟩ := lt_inv h
        refine y_iinc (L1 := [(0, .ref 0), (1, .int y1), (2, .int v18), (3, .int s0)]) e19 ic_1 d_N_lost_79 2 rfl (Nat.le_of_ble_eq_true rfl) rfl rfl ?_
        refine x_goto (tgt := 8) d_N_lost_82 rfl ?_
        refine y_pick (L1 := [(0, .ref 0), (1, .int y1), (2, .int v18)]) [0, 1, 2] rfl ?_
        exact ih y1 v18 _ h
      · replace h := ite_t c17 h
        refine x_iload_n d_N_lost_73 rfl 1 rfl ?_
        refine x_iconst d_N_lost_74 ic_1 ?_
        refine x_iload_n d_N_lost_75 rfl 2 rfl ?_
        refine x_ishl d_N_lost_76 ?_
        refine x_ior d_N_lost_77 ?_
        obtain ⟨v20, e21, h⟩ := lt_inv h
        refine y_istore_n (L1 := [(0, .ref 0), (1, .int v20), (2, .int y2), (3, .int s0)]) e21 d_N_lost_78 rfl (Nat.le_of_ble_eq_true rfl) rfl rfl ?_
        obtain ⟨v22, e23, h⟩ := lt_inv h
        refine y_iinc (L1 := [(0, .ref 0), (1, .int v20), (2, .int v22), (3, .int s0)]) e23 ic_1 d_N_lost_79 2 rfl (Nat.le_of_ble_eq_true rfl) rfl rfl ?_
        refine x_goto (tgt := 8) d_N_lost_82 rfl ?_
        refine y_pick (L1 := [(0, .ref 0), (1, .int v20), (2, .int v22)]) [0, 1, 2] rfl ?_
        exact ih v20 v22 _ h
  have J47 : ∀ (y1 : Int32) (y2 : Int32) (res : Int32 × St), j_N_lost_47 F G S rec S y1 y2 = some res → Ek X (D + 1) mN_lost 47 [(0, .ref 0), (1, .int y1), (2, .int y2)] [] S (some (.int res.1)) res.2 := by
    intro y1 y2 res h
    unfold j_N_lost_47 at h
    refine x_iconst d_N_lost_47 ic_0 ?_
    exact J48 y1 y2 (0 : Int32) _ h
  refine x_iload_n d_N_lost_8 rfl 2 rfl ?_
  refine x_aload_n d_N_lost_9 rfl 0 rfl ?_
  refine y_getR d_N_lost_10 fl_0_24 rfl kd_0 rr_told ?_
  obtain ⟨g3, h⟩ := gd_inv h
  refine y_getI d_N_lost_13 fl_0_122 rfl (ksSc g3) ?_
  refine x_icmp_ge (tgt := 85) d_N_lost_16 rfl (fun c4 => ?_) (fun c4 => ?_)
  · replace h := ite_t c4 h
    refine x_iload_n d_N_lost_85 rfl 1 rfl ?_
    obtain rfl := Option.some.inj h
    exact x_ret (r := some (.int w1)) d_N_lost_86 ⟨_, rfl, rfl⟩
  · replace h := ite_f c4 h
    refine x_aload_n d_N_lost_19 rfl 0 rfl ?_
    refine y_getR d_N_lost_20 fl_0_24 rfl kd_0 rr_told ?_
    refine x_iload_n d_N_lost_23 rfl 2 rfl ?_
    obtain ⟨v6, q5, h⟩ := bd_inv h
    refine y_V1i (v := v6) (S1 := S) d_N_lost_24 ml_0_208 (ksSc g3) rfl (Nat.le_of_ble_eq_true rfl) (Nat.le_of_ble_eq_true rfl) (c_S_roleOf (by omega) q5) ?_
    refine x_iconst d_N_lost_27 ic_2 ?_
    refine x_icmp_ne (tgt := 47) d_N_lost_28 rfl (fun c7 => ?_) (fun c7 => ?_)
    · replace h := ite_f c7 h
      exact J47 w1 w2 _ h
    · replace h := ite_t c7 h
      refine x_aload_n d_N_lost_31 rfl 0 rfl ?_
      refine y_getR d_N_lost_32 fl_0_31 rfl kd_0 rr_0_3 ?_
      refine y_getR d_N_lost_35 fl_0_147 rfl kd_30 rr_30_2 ?_
      refine x_iload_n d_N_lost_38 rfl 2 rfl ?_
      obtain ⟨g8, h⟩ := gd_inv h
      refine y_iald d_N_lost_39 kd_31 g8 ?_
      refine x_if_eq (tgt := 47) d_N_lost_40 rfl (fun c9 => ?_) (fun c9 => ?_)
      · replace h := ite_t c9 h
        exact J47 w1 w2 _ h
      · replace h := ite_f c9 h
        refine x_iconst d_N_lost_43 ic_1 ?_
        refine x_goto (tgt := 48) d_N_lost_44 rfl ?_
        exact J48 w1 w2 (1 : Int32) _ h
set_option maxRecDepth 100000 in
set_option maxHeartbeats 4000000 in
theorem c_N_lost {X : Nat × (Nat → Int32)} {D F G : Nat} (hD : 3 ≤ D) {S : St} {res : Int32 × St} (h : fN_lost F G S  = some res) : Ek X (D) mN_lost 0 [(0, .ref 0)] [] S (some (.int res.1)) res.2 := by
  obtain ⟨D, rfl⟩ : ∃ E, D = E + 1 := ⟨D - 1, by omega⟩
  unfold fN_lost at h
  refine x_aload_n d_N_lost_0 rfl 0 rfl ?_
  obtain ⟨S2, q1, h⟩ := bd_inv h
  refine y_V0v (S1 := S2) d_N_lost_1 ml_0_176 kd_0 rfl (Nat.le_of_ble_eq_true rfl) (Nat.le_of_ble_eq_true rfl) (c_N_lookAtKeys (by omega) q1) ?_
  refine x_iconst d_N_lost_4 ic_0 ?_
  refine x_istore_n (L1 := [(0, .ref 0), (1, .int (0 : Int32))]) d_N_lost_5 rfl (Nat.le_of_ble_eq_true rfl) rfl rfl ?_
  refine x_iconst d_N_lost_6 ic_0 ?_
  refine x_istore_n (L1 := [(0, .ref 0), (1, .int (0 : Int32)), (2, .int (0 : Int32))]) d_N_lost_7 rfl (Nat.le_of_ble_eq_true rfl) rfl rfl ?_
  refine T_N_lost_8 (by omega)   F (0 : Int32) (0 : Int32) _ h
/-! NinetyPlayersModel.tunes -/
def j_M_tunes_33 (F G : Nat) (S : St) (rec : Int32 → Int32 → Option (Int32)) (_ : St) (y2 : Int32) (s0 : Int32) (s1 : Int32) : Option (Int32) :=
  bd (fM_truth F G S s1) fun v6 => lt (s0 ||| (v6 <<< (y2 &&& 31))) fun v7 => lt (y2 + 1) fun v9 => rec v7 v9
def b_M_tunes_4 (F G : Nat) (S : St) (rec : Int32 → Int32 → Option (Int32)) (w1 : Int32) (w2 : Int32) : Option (Int32) :=
  if (S.1 78 48) ≤ w2 then some w1 else gd (inB w2 10) (gd (inB (S.1 95 w2.toNatClampNeg) 4) (if (S.1 94 (S.1 95 w2.toNatClampNeg).toNatClampNeg) = (2 : Int32) then j_M_tunes_33 F G S rec  S w2 w1 (1 : Int32) else j_M_tunes_33 F G S rec  S w2 w1 (0 : Int32)))
def fM_tunes (F G : Nat) (S : St) : Option (Int32) :=
  fx2 (b_M_tunes_4 F G S) F (0 : Int32) (0 : Int32)
set_option maxRecDepth 100000 in
set_option maxHeartbeats 4000000 in
theorem T_M_tunes_4 {X : Nat × (Nat → Int32)} {D F G : Nat} (hD : 1 ≤ D + 1) {S : St} : ∀ (f : Nat) (w1 : Int32) (w2 : Int32) (res : Int32), fx2 (b_M_tunes_4 F G S ) f w1 w2 = some res → Ek X (D + 1) mM_tunes 4 [(0, .ref 78), (1, .int w1), (2, .int w2)] [] S (some (.int res)) S := by
  refine fx2_ind ?_
  intro rec ih w1 w2 res h
  unfold b_M_tunes_4 at h
  have J33 : ∀ (y2 : Int32) (s0 : Int32) (s1 : Int32) (res : Int32), j_M_tunes_33 F G S rec S y2 s0 s1 = some res → Ek X (D + 1) mM_tunes 33 [(0, .ref 78), (2, .int y2)] [.int s1, .int s0] S (some (.int res)) S := by
    intro y2 s0 s1 res h
    unfold j_M_tunes_33 at h
    obtain ⟨v6, q5, h⟩ := bd_inv h
    refine y_S1i (v := v6) (S1 := S) d_M_tunes_33 ml_11_318 (Nat.le_of_ble_eq_true rfl) (Nat.le_of_ble_eq_true rfl) (c_M_truth (by omega) q5) ?_
    refine x_iload_n d_M_tunes_36 rfl 1 rfl ?_
    refine x_ishl d_M_tunes_37 ?_
    refine x_ior d_M_tunes_38 ?_
    obtain ⟨v7, e8, h⟩ := lt_inv h
    refine y_istore_n (L1 := [(0, .ref 78), (1, .int v7), (2, .int y2)]) e8 d_M_tunes_39 rfl (Nat.le_of_ble_eq_true rfl) rfl rfl ?_
    obtain ⟨v9, e10, h⟩ := lt_inv h
    refine y_iinc (L1 := [(0, .ref 78), (1, .int v7), (2, .int v9)]) e10 ic_1 d_M_tunes_40 2 rfl (Nat.le_of_ble_eq_true rfl) rfl rfl ?_
    refine x_goto (tgt := 4) d_M_tunes_43 rfl ?_
    exact ih v7 v9 _ h
  refine x_iload_n d_M_tunes_4 rfl 2 rfl ?_
  refine x_aload_n d_M_tunes_5 rfl 0 rfl ?_
  refine y_getI d_M_tunes_6 fl_11_322 rfl kd_78 ?_
  refine x_icmp_ge (tgt := 46) d_M_tunes_9 rfl (fun c1 => ?_) (fun c1 => ?_)
  · replace h := ite_t c1 h
    refine x_iload_n d_M_tunes_46 rfl 1 rfl ?_
    obtain rfl := Option.some.inj h
    exact x_ret (r := some (.int w1)) d_M_tunes_47 ⟨_, rfl, rfl⟩
  · replace h := ite_f c1 h
    refine x_iload_n d_M_tunes_12 rfl 1 rfl ?_
    refine x_aload_n d_M_tunes_13 rfl 0 rfl ?_
    refine y_getR d_M_tunes_14 fl_11_60 rfl kd_78 rr_78_33 ?_
    refine x_aload_n d_M_tunes_17 rfl 0 rfl ?_
    refine y_getR d_M_tunes_18 fl_11_63 rfl kd_78 rr_78_34 ?_
    refine x_iload_n d_M_tunes_21 rfl 2 rfl ?_
    obtain ⟨g2, h⟩ := gd_inv h
    refine y_iald d_M_tunes_22 kd_95 g2 ?_
    obtain ⟨g3, h⟩ := gd_inv h
    refine y_iald d_M_tunes_23 kd_94 g3 ?_
    refine x_iconst d_M_tunes_24 ic_2 ?_
    refine x_icmp_ne (tgt := 32) d_M_tunes_25 rfl (fun c4 => ?_) (fun c4 => ?_)
    · replace h := ite_f c4 h
      refine x_iconst d_M_tunes_32 ic_0 ?_
      refine y_pick (L1 := [(0, .ref 78), (2, .int w2)]) [0, 2] rfl ?_
      exact J33 w2 w1 (0 : Int32) _ h
    · replace h := ite_t c4 h
      refine x_iconst d_M_tunes_28 ic_1 ?_
      refine x_goto (tgt := 33) d_M_tunes_29 rfl ?_
      refine y_pick (L1 := [(0, .ref 78), (2, .int w2)]) [0, 2] rfl ?_
      exact J33 w2 w1 (1 : Int32) _ h
set_option maxRecDepth 100000 in
set_option maxHeartbeats 4000000 in
theorem c_M_tunes {X : Nat × (Nat → Int32)} {D F G : Nat} (hD : 1 ≤ D) {S : St} {res : Int32} (h : fM_tunes F G S  = some res) : Ek X (D) mM_tunes 0 [(0, .ref 78)] [] S (some (.int res)) S := by
  obtain ⟨D, rfl⟩ : ∃ E, D = E + 1 := ⟨D - 1, by omega⟩
  unfold fM_tunes at h
  refine x_iconst d_M_tunes_0 ic_0 ?_
  refine x_istore_n (L1 := [(0, .ref 78), (1, .int (0 : Int32))]) d_M_tunes_1 rfl (Nat.le_of_ble_eq_true rfl) rfl rfl ?_
  refine x_iconst d_M_tunes_2 ic_0 ?_
  refine x_istore_n (L1 := [(0, .ref 78), (1, .int (0 : Int32)), (2, .int (0 : Int32))]) d_M_tunes_3 rfl (Nat.le_of_ble_eq_true rfl) rfl rfl ?_
  refine T_M_tunes_4 (by omega)   F (0 : Int32) (0 : Int32) _ h
/-! NinetyPlayersModel.lost -/
def j_M_lost_58 (F G : Nat) (S : St) (rec : Int32 → Int32 → Option (Int32 × St)) (_ : St) (y2 : Int32) (s0 : Int32) (s1 : Int32) : Option (Int32 × St) :=
  bd (fM_truth F G S s1) fun v15 => lt (s0 ||| (v15 <<< (y2 &&& 31))) fun v16 => lt (y2 + 1) fun v18 => rec v16 v18
def b_M_lost_12 (F G : Nat) (S : St) (rec : Int32 → Int32 → Option (Int32 × St)) (w1 : Int32) (w2 : Int32) : Option (Int32 × St) :=
  if (S.1 78 48) ≤ w2 then some (w1, S) else bd (fM_tunes F G S) fun v7 => bd (fM_given F G S (0 : Int32)) fun v9 => gd (inB w2 10) (bd (fM_openAt F G S (S.1 96 w2.toNatClampNeg)) fun v12 => if (((v7 &&& (v9 ^^^ (-1 : Int32))) &&& (v12 ^^^ (-1 : Int32))) &&& ((1 : Int32) <<< (w2 &&& 31))) = 0 then j_M_lost_58 F G S rec  S w2 w1 (0 : Int32) else j_M_lost_58 F G S rec  S w2 w1 (1 : Int32))
def fM_lost (F G : Nat) (S : St) : Option (Int32 × St) :=
  bd (fM_fill F G S ) fun S2 => bd (fM_laySound F G S2 ) fun S4 => fx2 (b_M_lost_12 F G S4) F (0 : Int32) (0 : Int32)
set_option maxRecDepth 100000 in
set_option maxHeartbeats 4000000 in
theorem T_M_lost_12 {X : Nat × (Nat → Int32)} {D F G : Nat} (hD : 3 ≤ D + 1) {S : St} : ∀ (f : Nat) (w1 : Int32) (w2 : Int32) (res : Int32 × St), fx2 (b_M_lost_12 F G S ) f w1 w2 = some res → Ek X (D + 1) mM_lost 12 [(0, .ref 78), (1, .int w1), (2, .int w2)] [] S (some (.int res.1)) res.2 := by
  refine fx2_ind ?_
  intro rec ih w1 w2 res h
  unfold b_M_lost_12 at h
  have J58 : ∀ (y2 : Int32) (s0 : Int32) (s1 : Int32) (res : Int32 × St), j_M_lost_58 F G S rec S y2 s0 s1 = some res → Ek X (D + 1) mM_lost 58 [(0, .ref 78), (2, .int y2)] [.int s1, .int s0] S (some (.int res.1)) res.2 := by
    intro y2 s0 s1 res h
    unfold j_M_lost_58 at h
    obtain ⟨v15, q14, h⟩ := bd_inv h
    refine y_S1i (v := v15) (S1 := S) d_M_lost_58 ml_11_318 (Nat.le_of_ble_eq_true rfl) (Nat.le_of_ble_eq_true rfl) (c_M_truth (by omega) q14) ?_
    refine x_iload_n d_M_lost_61 rfl 1 rfl ?_
    refine x_ishl d_M_lost_62 ?_
    refine x_ior d_M_lost_63 ?_
    obtain ⟨v16, e17, h⟩ := lt_inv h
    refine y_istore_n (L1 := [(0, .ref 78), (1, .int v16), (2, .int y2)]) e17 d_M_lost_64 rfl (Nat.le_of_ble_eq_true rfl) rfl rfl ?_
    obtain ⟨v18, e19, h⟩ := lt_inv h
    refine y_iinc (L1 := [(0, .ref 78), (1, .int v16), (2, .int v18)]) e19 ic_1 d_M_lost_65 2 rfl (Nat.le_of_ble_eq_true rfl) rfl rfl ?_
    refine x_goto (tgt := 12) d_M_lost_68 rfl ?_
    exact ih v16 v18 _ h
  refine x_iload_n d_M_lost_12 rfl 2 rfl ?_
  refine x_aload_n d_M_lost_13 rfl 0 rfl ?_
  refine y_getI d_M_lost_14 fl_11_322 rfl kd_78 ?_
  refine x_icmp_ge (tgt := 71) d_M_lost_17 rfl (fun c5 => ?_) (fun c5 => ?_)
  · replace h := ite_t c5 h
    refine x_iload_n d_M_lost_71 rfl 1 rfl ?_
    obtain rfl := Option.some.inj h
    exact x_ret (r := some (.int w1)) d_M_lost_72 ⟨_, rfl, rfl⟩
  · replace h := ite_f c5 h
    refine x_iload_n d_M_lost_20 rfl 1 rfl ?_
    refine x_aload_n d_M_lost_21 rfl 0 rfl ?_
    obtain ⟨v7, q6, h⟩ := bd_inv h
    refine y_V0i (v := v7) (S1 := S) d_M_lost_22 ml_11_536 kd_78 rfl (Nat.le_of_ble_eq_true rfl) (Nat.le_of_ble_eq_true rfl) (c_M_tunes (by omega) q6) ?_
    refine x_aload_n d_M_lost_25 rfl 0 rfl ?_
    refine x_iconst d_M_lost_26 ic_0 ?_
    obtain ⟨v9, q8, h⟩ := bd_inv h
    refine y_V1i (v := v9) (S1 := S) d_M_lost_27 ml_11_454 kd_78 rfl (Nat.le_of_ble_eq_true rfl) (Nat.le_of_ble_eq_true rfl) (c_M_given (by omega) q8) ?_
    refine x_iconst d_M_lost_30 ic_m1 ?_
    refine x_ixor d_M_lost_31 ?_
    refine x_iand d_M_lost_32 ?_
    refine x_aload_n d_M_lost_33 rfl 0 rfl ?_
    refine x_aload_n d_M_lost_34 rfl 0 rfl ?_
    refine y_getR d_M_lost_35 fl_11_66 rfl kd_78 rr_78_35 ?_
    refine x_iload_n d_M_lost_38 rfl 2 rfl ?_
    obtain ⟨g10, h⟩ := gd_inv h
    refine y_iald d_M_lost_39 kd_96 g10 ?_
    obtain ⟨v12, q11, h⟩ := bd_inv h
    refine y_V1i (v := v12) (S1 := S) d_M_lost_40 ml_11_533 kd_78 rfl (Nat.le_of_ble_eq_true rfl) (Nat.le_of_ble_eq_true rfl) (c_M_openAt (by omega) q11) ?_
    refine x_iconst d_M_lost_43 ic_m1 ?_
    refine x_ixor d_M_lost_44 ?_
    refine x_iand d_M_lost_45 ?_
    refine x_iconst d_M_lost_46 ic_1 ?_
    refine x_iload_n d_M_lost_47 rfl 2 rfl ?_
    refine x_ishl d_M_lost_48 ?_
    refine x_iand d_M_lost_49 ?_
    refine x_if_eq (tgt := 57) d_M_lost_50 rfl (fun c13 => ?_) (fun c13 => ?_)
    · replace h := ite_t c13 h
      refine x_iconst d_M_lost_57 ic_0 ?_
      refine y_pick (L1 := [(0, .ref 78), (2, .int w2)]) [0, 2] rfl ?_
      exact J58 w2 w1 (0 : Int32) _ h
    · replace h := ite_f c13 h
      refine x_iconst d_M_lost_53 ic_1 ?_
      refine x_goto (tgt := 58) d_M_lost_54 rfl ?_
      refine y_pick (L1 := [(0, .ref 78), (2, .int w2)]) [0, 2] rfl ?_
      exact J58 w2 w1 (1 : Int32) _ h
set_option maxRecDepth 100000 in
set_option maxHeartbeats 4000000 in
theorem c_M_lost {X : Nat × (Nat → Int32)} {D F G : Nat} (hD : 3 ≤ D) {S : St} {res : Int32 × St} (h : fM_lost F G S  = some res) : Ek X (D) mM_lost 0 [(0, .ref 78)] [] S (some (.int res.1)) res.2 := by
  obtain ⟨D, rfl⟩ : ∃ E, D = E + 1 := ⟨D - 1, by omega⟩
  unfold fM_lost at h
  refine x_aload_n d_M_lost_0 rfl 0 rfl ?_
  obtain ⟨S2, q1, h⟩ := bd_inv h
  refine y_V0v (S1 := S2) d_M_lost_1 ml_11_464 kd_78 rfl (Nat.le_of_ble_eq_true rfl) (Nat.le_of_ble_eq_true rfl) (c_M_fill (by omega) q1) ?_
  refine x_aload_n d_M_lost_4 rfl 0 rfl ?_
  obtain ⟨S4, q3, h⟩ := bd_inv h
  refine y_V0v (S1 := S4) d_M_lost_5 ml_11_479 kd_78 rfl (Nat.le_of_ble_eq_true rfl) (Nat.le_of_ble_eq_true rfl) (c_M_laySound (by omega) q3) ?_
  refine x_iconst d_M_lost_8 ic_0 ?_
  refine x_istore_n (L1 := [(0, .ref 78), (1, .int (0 : Int32))]) d_M_lost_9 rfl (Nat.le_of_ble_eq_true rfl) rfl rfl ?_
  refine x_iconst d_M_lost_10 ic_0 ?_
  refine x_istore_n (L1 := [(0, .ref 78), (1, .int (0 : Int32)), (2, .int (0 : Int32))]) d_M_lost_11 rfl (Nat.le_of_ble_eq_true rfl) rfl rfl ?_
  refine T_M_lost_12 (by omega)   F (0 : Int32) (0 : Int32) _ h
/-! NinetyPlayers.gaps -/
def b_N_gaps_8 (F G : Nat) (S : St) (k43 : Int32 → Option (Int32 × St)) (rec : Int32 → Int32 → Option (Int32 × St)) (w1 : Int32) (w2 : Int32) : Option (Int32 × St) :=
  gd (isSc S.2.2.1) (if (S.1 S.2.2.1 6) ≤ w2 then k43 w1 else bd (fS_roleOf F G S S.2.2.1 w2) fun v6 => if v6 = (2 : Int32) then lt (w1 ||| ((1 : Int32) <<< (w2 &&& 31))) fun v10 => lt (w2 + 1) fun v12 => rec v10 v12 else lt (w2 + 1) fun v8 => rec w1 v8)
def b_N_gaps_47 (F G : Nat) (S : St) (z1 : Int32) (rec : Int32 → Int32 → Option (Int32 × St)) (w2 : Int32) (w3 : Int32) : Option (Int32 × St) :=
  gd (isSc S.2.2.1) (if (S.1 S.2.2.1 0) ≤ w3 then some (w2, S) else bd (fK_soundingAt F G S w3) fun v18 => if (v18 &&& z1) = 0 then lt (w2 ||| ((1 : Int32) <<< (w3 &&& 31))) fun v22 => lt (w3 + 1) fun v24 => rec v22 v24 else lt (w3 + 1) fun v20 => rec w2 v20)
def fN_gaps (F G : Nat) (S : St) : Option (Int32 × St) :=
  bd (fN_lookAtKeys F G S ) fun S2 => fx2 (b_N_gaps_8 F G S2 (fun v14 => fx2 (b_N_gaps_47 F G S2 v14) F (0 : Int32) (0 : Int32))) F (0 : Int32) (0 : Int32)
set_option maxRecDepth 100000 in
set_option maxHeartbeats 4000000 in
theorem T_N_gaps_8 {X : Nat × (Nat → Int32)} {D F G : Nat} (hD : 3 ≤ D + 1) {S : St} {k43 : Int32 → Option (Int32 × St)} (hk43 : ∀ (u1 : Int32) (res : Int32 × St), k43 u1 = some res → Ek X (D + 1) mN_gaps 43 [(0, .ref 0), (1, .int u1)] [] S (some (.int res.1)) res.2) : ∀ (f : Nat) (w1 : Int32) (w2 : Int32) (res : Int32 × St), fx2 (b_N_gaps_8 F G S k43 ) f w1 w2 = some res → Ek X (D + 1) mN_gaps 8 [(0, .ref 0), (1, .int w1), (2, .int w2)] [] S (some (.int res.1)) res.2 := by
  refine fx2_ind ?_
  intro rec ih w1 w2 res h
  unfold b_N_gaps_8 at h
  refine x_iload_n d_N_gaps_8 rfl 2 rfl ?_
  refine x_aload_n d_N_gaps_9 rfl 0 rfl ?_
  refine y_getR d_N_gaps_10 fl_0_24 rfl kd_0 rr_told ?_
  obtain ⟨g3, h⟩ := gd_inv h
  refine y_getI d_N_gaps_13 fl_0_122 rfl (ksSc g3) ?_
  refine x_icmp_ge (tgt := 43) d_N_gaps_16 rfl (fun c4 => ?_) (fun c4 => ?_)
  · replace h := ite_t c4 h
    refine y_pick (L1 := [(0, .ref 0), (1, .int w1)]) [0, 1] rfl ?_
    exact hk43 w1 _ h
  · replace h := ite_f c4 h
    refine x_aload_n d_N_gaps_19 rfl 0 rfl ?_
    refine y_getR d_N_gaps_20 fl_0_24 rfl kd_0 rr_told ?_
    refine x_iload_n d_N_gaps_23 rfl 2 rfl ?_
    obtain ⟨v6, q5, h⟩ := bd_inv h
    refine y_V1i (v := v6) (S1 := S) d_N_gaps_24 ml_0_208 (ksSc g3) rfl (Nat.le_of_ble_eq_true rfl) (Nat.le_of_ble_eq_true rfl) (c_S_roleOf (by omega) q5) ?_
    refine x_iconst d_N_gaps_27 ic_2 ?_
    refine x_icmp_ne (tgt := 37) d_N_gaps_28 rfl (fun c7 => ?_) (fun c7 => ?_)
    · replace h := ite_f c7 h
      obtain ⟨v8, e9, h⟩ := lt_inv h
      refine y_iinc (L1 := [(0, .ref 0), (1, .int w1), (2, .int v8)]) e9 ic_1 d_N_gaps_37 2 rfl (Nat.le_of_ble_eq_true rfl) rfl rfl ?_
      refine x_goto (tgt := 8) d_N_gaps_40 rfl ?_
      exact ih w1 v8 _ h
    · replace h := ite_t c7 h
      refine x_iload_n d_N_gaps_31 rfl 1 rfl ?_
      refine x_iconst d_N_gaps_32 ic_1 ?_
      refine x_iload_n d_N_gaps_33 rfl 2 rfl ?_
      refine x_ishl d_N_gaps_34 ?_
      refine x_ior d_N_gaps_35 ?_
      obtain ⟨v10, e11, h⟩ := lt_inv h
      refine y_istore_n (L1 := [(0, .ref 0), (1, .int v10), (2, .int w2)]) e11 d_N_gaps_36 rfl (Nat.le_of_ble_eq_true rfl) rfl rfl ?_
      obtain ⟨v12, e13, h⟩ := lt_inv h
      refine y_iinc (L1 := [(0, .ref 0), (1, .int v10), (2, .int v12)]) e13 ic_1 d_N_gaps_37 2 rfl (Nat.le_of_ble_eq_true rfl) rfl rfl ?_
      refine x_goto (tgt := 8) d_N_gaps_40 rfl ?_
      exact ih v10 v12 _ h
set_option maxRecDepth 100000 in
set_option maxHeartbeats 4000000 in
theorem T_N_gaps_47 {X : Nat × (Nat → Int32)} {D F G : Nat} (hD : 3 ≤ D + 1) {S : St} {z1 : Int32} : ∀ (f : Nat) (w2 : Int32) (w3 : Int32) (res : Int32 × St), fx2 (b_N_gaps_47 F G S z1 ) f w2 w3 = some res → Ek X (D + 1) mN_gaps 47 [(0, .ref 0), (1, .int z1), (2, .int w2), (3, .int w3)] [] S (some (.int res.1)) res.2 := by
  refine fx2_ind ?_
  intro rec ih w2 w3 res h
  unfold b_N_gaps_47 at h
  refine x_iload_n d_N_gaps_47 rfl 3 rfl ?_
  refine x_aload_n d_N_gaps_48 rfl 0 rfl ?_
  refine y_getR d_N_gaps_49 fl_0_24 rfl kd_0 rr_told ?_
  obtain ⟨g15, h⟩ := gd_inv h
  refine y_getI d_N_gaps_52 fl_0_198 rfl (ksSc g15) ?_
  refine x_icmp_ge (tgt := 83) d_N_gaps_55 rfl (fun c16 => ?_) (fun c16 => ?_)
  · replace h := ite_t c16 h
    refine x_iload_n d_N_gaps_83 rfl 2 rfl ?_
    obtain rfl := Option.some.inj h
    exact x_ret (r := some (.int w2)) d_N_gaps_84 ⟨_, rfl, rfl⟩
  · replace h := ite_f c16 h
    refine x_aload_n d_N_gaps_58 rfl 0 rfl ?_
    refine y_getR d_N_gaps_59 fl_0_57 rfl kd_0 rr_0_7 ?_
    refine x_iload_n d_N_gaps_62 rfl 3 rfl ?_
    obtain ⟨v18, q17, h⟩ := bd_inv h
    refine y_V1i (v := v18) (S1 := S) d_N_gaps_63 ml_0_185 kd_57 rfl (Nat.le_of_ble_eq_true rfl) (Nat.le_of_ble_eq_true rfl) (c_K_soundingAt (by omega) q17) ?_
    refine x_iload_n d_N_gaps_66 rfl 1 rfl ?_
    refine x_iand d_N_gaps_67 ?_
    refine x_if_ne (tgt := 77) d_N_gaps_68 rfl (fun c19 => ?_) (fun c19 => ?_)
    · replace h := ite_f c19 h
      obtain ⟨v20, e21, h⟩ := lt_inv h
      refine y_iinc (L1 := [(0, .ref 0), (1, .int z1), (2, .int w2), (3, .int v20)]) e21 ic_1 d_N_gaps_77 3 rfl (Nat.le_of_ble_eq_true rfl) rfl rfl ?_
      refine x_goto (tgt := 47) d_N_gaps_80 rfl ?_
      exact ih w2 v20 _ h
    · replace h := ite_t c19 h
      refine x_iload_n d_N_gaps_71 rfl 2 rfl ?_
      refine x_iconst d_N_gaps_72 ic_1 ?_
      refine x_iload_n d_N_gaps_73 rfl 3 rfl ?_
      refine x_ishl d_N_gaps_74 ?_
      refine x_ior d_N_gaps_75 ?_
      obtain ⟨v22, e23, h⟩ := lt_inv h
      refine y_istore_n (L1 := [(0, .ref 0), (1, .int z1), (2, .int v22), (3, .int w3)]) e23 d_N_gaps_76 rfl (Nat.le_of_ble_eq_true rfl) rfl rfl ?_
      obtain ⟨v24, e25, h⟩ := lt_inv h
      refine y_iinc (L1 := [(0, .ref 0), (1, .int z1), (2, .int v22), (3, .int v24)]) e25 ic_1 d_N_gaps_77 3 rfl (Nat.le_of_ble_eq_true rfl) rfl rfl ?_
      refine x_goto (tgt := 47) d_N_gaps_80 rfl ?_
      exact ih v22 v24 _ h
set_option maxRecDepth 100000 in
set_option maxHeartbeats 4000000 in
theorem c_N_gaps {X : Nat × (Nat → Int32)} {D F G : Nat} (hD : 3 ≤ D) {S : St} {res : Int32 × St} (h : fN_gaps F G S  = some res) : Ek X (D) mN_gaps 0 [(0, .ref 0)] [] S (some (.int res.1)) res.2 := by
  obtain ⟨D, rfl⟩ : ∃ E, D = E + 1 := ⟨D - 1, by omega⟩
  unfold fN_gaps at h
  refine x_aload_n d_N_gaps_0 rfl 0 rfl ?_
  obtain ⟨S2, q1, h⟩ := bd_inv h
  refine y_V0v (S1 := S2) d_N_gaps_1 ml_0_176 kd_0 rfl (Nat.le_of_ble_eq_true rfl) (Nat.le_of_ble_eq_true rfl) (c_N_lookAtKeys (by omega) q1) ?_
  refine x_iconst d_N_gaps_4 ic_0 ?_
  refine x_istore_n (L1 := [(0, .ref 0), (1, .int (0 : Int32))]) d_N_gaps_5 rfl (Nat.le_of_ble_eq_true rfl) rfl rfl ?_
  refine x_iconst d_N_gaps_6 ic_0 ?_
  refine x_istore_n (L1 := [(0, .ref 0), (1, .int (0 : Int32)), (2, .int (0 : Int32))]) d_N_gaps_7 rfl (Nat.le_of_ble_eq_true rfl) rfl rfl ?_
  refine T_N_gaps_8 (by omega)  ?_ F (0 : Int32) (0 : Int32) _ h
  · intro v14 res h
    refine x_iconst d_N_gaps_43 ic_0 ?_
    refine x_istore_n (L1 := [(0, .ref 0), (1, .int v14), (2, .int (0 : Int32))]) d_N_gaps_44 rfl (Nat.le_of_ble_eq_true rfl) rfl rfl ?_
    refine x_iconst d_N_gaps_45 ic_0 ?_
    refine x_istore_n (L1 := [(0, .ref 0), (1, .int v14), (2, .int (0 : Int32)), (3, .int (0 : Int32))]) d_N_gaps_46 rfl (Nat.le_of_ble_eq_true rfl) rfl rfl ?_
    refine T_N_gaps_47 (by omega)   F (0 : Int32) (0 : Int32) _ h
/-! NinetyPlayersModel.gaps -/
def j_M_gaps_40 (F G : Nat) (S : St) (rec : Int32 → Int32 → Option (Int32 × St)) (_ : St) (y2 : Int32) (s0 : Int32) (s1 : Int32) : Option (Int32 × St) :=
  bd (fM_truth F G S s1) fun v11 => lt (s0 ||| (v11 <<< (y2 &&& 31))) fun v12 => lt (y2 + 1) fun v14 => rec v12 v14
def b_M_gaps_12 (F G : Nat) (S : St) (rec : Int32 → Int32 → Option (Int32 × St)) (w1 : Int32) (w2 : Int32) : Option (Int32 × St) :=
  if (S.1 78 46) ≤ w2 then some (w1, S) else gd (inB w2 12) (bd (fM_tunes F G S) fun v8 => if ((S.1 103 w2.toNatClampNeg) &&& v8) = 0 then j_M_gaps_40 F G S rec  S w2 w1 (1 : Int32) else j_M_gaps_40 F G S rec  S w2 w1 (0 : Int32))
def fM_gaps (F G : Nat) (S : St) : Option (Int32 × St) :=
  bd (fM_fill F G S ) fun S2 => bd (fM_laySound F G S2 ) fun S4 => fx2 (b_M_gaps_12 F G S4) F (0 : Int32) (0 : Int32)
set_option maxRecDepth 100000 in
set_option maxHeartbeats 4000000 in
theorem T_M_gaps_12 {X : Nat × (Nat → Int32)} {D F G : Nat} (hD : 3 ≤ D + 1) {S : St} : ∀ (f : Nat) (w1 : Int32) (w2 : Int32) (res : Int32 × St), fx2 (b_M_gaps_12 F G S ) f w1 w2 = some res → Ek X (D + 1) mM_gaps 12 [(0, .ref 78), (1, .int w1), (2, .int w2)] [] S (some (.int res.1)) res.2 := by
  refine fx2_ind ?_
  intro rec ih w1 w2 res h
  unfold b_M_gaps_12 at h
  have J40 : ∀ (y2 : Int32) (s0 : Int32) (s1 : Int32) (res : Int32 × St), j_M_gaps_40 F G S rec S y2 s0 s1 = some res → Ek X (D + 1) mM_gaps 40 [(0, .ref 78), (2, .int y2)] [.int s1, .int s0] S (some (.int res.1)) res.2 := by
    intro y2 s0 s1 res h
    unfold j_M_gaps_40 at h
    obtain ⟨v11, q10, h⟩ := bd_inv h
    refine y_S1i (v := v11) (S1 := S) d_M_gaps_40 ml_11_318 (Nat.le_of_ble_eq_true rfl) (Nat.le_of_ble_eq_true rfl) (c_M_truth (by omega) q10) ?_
    refine x_iload_n d_M_gaps_43 rfl 1 rfl ?_
    refine x_ishl d_M_gaps_44 ?_
    refine x_ior d_M_gaps_45 ?_
    obtain ⟨v12, e13, h⟩ := lt_inv h
    refine y_istore_n (L1 := [(0, .ref 78), (1, .int v12), (2, .int y2)]) e13 d_M_gaps_46 rfl (Nat.le_of_ble_eq_true rfl) rfl rfl ?_
    obtain ⟨v14, e15, h⟩ := lt_inv h
    refine y_iinc (L1 := [(0, .ref 78), (1, .int v12), (2, .int v14)]) e15 ic_1 d_M_gaps_47 2 rfl (Nat.le_of_ble_eq_true rfl) rfl rfl ?_
    refine x_goto (tgt := 12) d_M_gaps_50 rfl ?_
    exact ih v12 v14 _ h
  refine x_iload_n d_M_gaps_12 rfl 2 rfl ?_
  refine x_aload_n d_M_gaps_13 rfl 0 rfl ?_
  refine y_getI d_M_gaps_14 fl_11_78 rfl kd_78 ?_
  refine x_icmp_ge (tgt := 53) d_M_gaps_17 rfl (fun c5 => ?_) (fun c5 => ?_)
  · replace h := ite_t c5 h
    refine x_iload_n d_M_gaps_53 rfl 1 rfl ?_
    obtain rfl := Option.some.inj h
    exact x_ret (r := some (.int w1)) d_M_gaps_54 ⟨_, rfl, rfl⟩
  · replace h := ite_f c5 h
    refine x_iload_n d_M_gaps_20 rfl 1 rfl ?_
    refine x_aload_n d_M_gaps_21 rfl 0 rfl ?_
    refine y_getR d_M_gaps_22 fl_11_102 rfl kd_78 rr_78_61 ?_
    refine x_iload_n d_M_gaps_25 rfl 2 rfl ?_
    obtain ⟨g6, h⟩ := gd_inv h
    refine y_iald d_M_gaps_26 kd_103 g6 ?_
    refine x_aload_n d_M_gaps_27 rfl 0 rfl ?_
    obtain ⟨v8, q7, h⟩ := bd_inv h
    refine y_V0i (v := v8) (S1 := S) d_M_gaps_28 ml_11_536 kd_78 rfl (Nat.le_of_ble_eq_true rfl) (Nat.le_of_ble_eq_true rfl) (c_M_tunes (by omega) q7) ?_
    refine x_iand d_M_gaps_31 ?_
    refine x_if_ne (tgt := 39) d_M_gaps_32 rfl (fun c9 => ?_) (fun c9 => ?_)
    · replace h := ite_f c9 h
      refine x_iconst d_M_gaps_39 ic_0 ?_
      refine y_pick (L1 := [(0, .ref 78), (2, .int w2)]) [0, 2] rfl ?_
      exact J40 w2 w1 (0 : Int32) _ h
    · replace h := ite_t c9 h
      refine x_iconst d_M_gaps_35 ic_1 ?_
      refine x_goto (tgt := 40) d_M_gaps_36 rfl ?_
      refine y_pick (L1 := [(0, .ref 78), (2, .int w2)]) [0, 2] rfl ?_
      exact J40 w2 w1 (1 : Int32) _ h
set_option maxRecDepth 100000 in
set_option maxHeartbeats 4000000 in
theorem c_M_gaps {X : Nat × (Nat → Int32)} {D F G : Nat} (hD : 3 ≤ D) {S : St} {res : Int32 × St} (h : fM_gaps F G S  = some res) : Ek X (D) mM_gaps 0 [(0, .ref 78)] [] S (some (.int res.1)) res.2 := by
  obtain ⟨D, rfl⟩ : ∃ E, D = E + 1 := ⟨D - 1, by omega⟩
  unfold fM_gaps at h
  refine x_aload_n d_M_gaps_0 rfl 0 rfl ?_
  obtain ⟨S2, q1, h⟩ := bd_inv h
  refine y_V0v (S1 := S2) d_M_gaps_1 ml_11_464 kd_78 rfl (Nat.le_of_ble_eq_true rfl) (Nat.le_of_ble_eq_true rfl) (c_M_fill (by omega) q1) ?_
  refine x_aload_n d_M_gaps_4 rfl 0 rfl ?_
  obtain ⟨S4, q3, h⟩ := bd_inv h
  refine y_V0v (S1 := S4) d_M_gaps_5 ml_11_479 kd_78 rfl (Nat.le_of_ble_eq_true rfl) (Nat.le_of_ble_eq_true rfl) (c_M_laySound (by omega) q3) ?_
  refine x_iconst d_M_gaps_8 ic_0 ?_
  refine x_istore_n (L1 := [(0, .ref 78), (1, .int (0 : Int32))]) d_M_gaps_9 rfl (Nat.le_of_ble_eq_true rfl) rfl rfl ?_
  refine x_iconst d_M_gaps_10 ic_0 ?_
  refine x_istore_n (L1 := [(0, .ref 78), (1, .int (0 : Int32)), (2, .int (0 : Int32))]) d_M_gaps_11 rfl (Nat.le_of_ble_eq_true rfl) rfl rfl ?_
  refine T_M_gaps_12 (by omega)   F (0 : Int32) (0 : Int32) _ h
/-! NinetyPlayers.easier -/
def fN_easier (F G : Nat) (S : St) (p1 : Int32) : Option (Int32 × St) :=
  bd (fN_isNote F G S p1) fun v2 => if v2 = 0 then some ((-1 : Int32), S) else gd (inB p1 10) (if (S.1 31 p1.toNatClampNeg) = 0 then some ((-1 : Int32), S) else bd (fN_lookAtKeys F G S ) fun S7 => lt (((1 : Int32) <<< (p1 &&& 31)) ^^^ (-1 : Int32)) fun v8 => bd (fK_clashingBeats F G S7 (S7.1 57 5) (S7.1 57 6)) fun v11 => bd (fK_clashingBeats F G S7 ((S7.1 57 5) &&& v8) ((S7.1 57 6) &&& v8)) fun v13 => bd (fJ_bitCount F G S7 v11) fun v15 => bd (fJ_bitCount F G S7 v13) fun v17 => some (v15 - v17, S7))
set_option maxRecDepth 100000 in
set_option maxHeartbeats 4000000 in
theorem c_N_easier {X : Nat × (Nat → Int32)} {D F G : Nat} (hD : 5 ≤ D) {S : St} {p1 : Int32} {res : Int32 × St} (h : fN_easier F G S p1 = some res) : Ek X (D) mN_easier 0 [(0, .ref 0), (1, .int p1)] [] S (some (.int res.1)) res.2 := by
  obtain ⟨D, rfl⟩ : ∃ E, D = E + 1 := ⟨D - 1, by omega⟩
  unfold fN_easier at h
  refine x_aload_n d_N_easier_0 rfl 0 rfl ?_
  refine x_iload_n d_N_easier_1 rfl 1 rfl ?_
  obtain ⟨v2, q1, h⟩ := bd_inv h
  refine y_V1i (v := v2) (S1 := S) d_N_easier_2 ml_0_128 kd_0 rfl (Nat.le_of_ble_eq_true rfl) (Nat.le_of_ble_eq_true rfl) (c_N_isNote (by omega) q1) ?_
  refine x_if_eq (tgt := 20) d_N_easier_5 rfl (fun c3 => ?_) (fun c3 => ?_)
  · replace h := ite_t c3 h
    refine x_iconst d_N_easier_20 ic_m1 ?_
    obtain rfl := Option.some.inj h
    exact x_ret (r := some (.int (-1 : Int32))) d_N_easier_21 ⟨_, rfl, rfl⟩
  · replace h := ite_f c3 h
    refine x_aload_n d_N_easier_8 rfl 0 rfl ?_
    refine y_getR d_N_easier_9 fl_0_31 rfl kd_0 rr_0_3 ?_
    refine y_getR d_N_easier_12 fl_0_147 rfl kd_30 rr_30_2 ?_
    refine x_iload_n d_N_easier_15 rfl 1 rfl ?_
    obtain ⟨g4, h⟩ := gd_inv h
    refine y_iald d_N_easier_16 kd_31 g4 ?_
    refine x_if_ne (tgt := 22) d_N_easier_17 rfl (fun c5 => ?_) (fun c5 => ?_)
    · replace h := ite_f c5 h
      refine x_aload_n d_N_easier_22 rfl 0 rfl ?_
      obtain ⟨S7, q6, h⟩ := bd_inv h
      refine y_V0v (S1 := S7) d_N_easier_23 ml_0_176 kd_0 rfl (Nat.le_of_ble_eq_true rfl) (Nat.le_of_ble_eq_true rfl) (c_N_lookAtKeys (by omega) q6) ?_
      refine x_iconst d_N_easier_26 ic_1 ?_
      refine x_iload_n d_N_easier_27 rfl 1 rfl ?_
      refine x_ishl d_N_easier_28 ?_
      refine x_iconst d_N_easier_29 ic_m1 ?_
      refine x_ixor d_N_easier_30 ?_
      obtain ⟨v8, e9, h⟩ := lt_inv h
      refine y_istore_n (L1 := [(0, .ref 0), (1, .int p1), (2, .int v8)]) e9 d_N_easier_31 rfl (Nat.le_of_ble_eq_true rfl) rfl rfl ?_
      refine x_aload_n d_N_easier_32 rfl 0 rfl ?_
      refine y_getR d_N_easier_33 fl_0_57 rfl kd_0 rr_0_7 ?_
      refine x_aload_n d_N_easier_36 rfl 0 rfl ?_
      refine y_getR d_N_easier_37 fl_0_57 rfl kd_0 rr_0_7 ?_
      refine y_getI d_N_easier_40 fl_0_188 rfl kd_57 ?_
      refine x_aload_n d_N_easier_43 rfl 0 rfl ?_
      refine y_getR d_N_easier_44 fl_0_57 rfl kd_0 rr_0_7 ?_
      refine y_getI d_N_easier_47 fl_0_191 rfl kd_57 ?_
      obtain ⟨v11, q10, h⟩ := bd_inv h
      refine y_V2i (v := v11) (S1 := S7) d_N_easier_50 ml_0_257 kd_57 rfl (Nat.le_of_ble_eq_true rfl) (Nat.le_of_ble_eq_true rfl) (c_K_clashingBeats (by omega) q10) ?_
      refine x_istore_n (L1 := [(0, .ref 0), (1, .int p1), (2, .int v8), (3, .int v11)]) d_N_easier_53 rfl (Nat.le_of_ble_eq_true rfl) rfl rfl ?_
      refine x_aload_n d_N_easier_54 rfl 0 rfl ?_
      refine y_getR d_N_easier_55 fl_0_57 rfl kd_0 rr_0_7 ?_
      refine x_aload_n d_N_easier_58 rfl 0 rfl ?_
      refine y_getR d_N_easier_59 fl_0_57 rfl kd_0 rr_0_7 ?_
      refine y_getI d_N_easier_62 fl_0_188 rfl kd_57 ?_
      refine x_iload_n d_N_easier_65 rfl 2 rfl ?_
      refine x_iand d_N_easier_66 ?_
      refine x_aload_n d_N_easier_67 rfl 0 rfl ?_
      refine y_getR d_N_easier_68 fl_0_57 rfl kd_0 rr_0_7 ?_
      refine y_getI d_N_easier_71 fl_0_191 rfl kd_57 ?_
      refine x_iload_n d_N_easier_74 rfl 2 rfl ?_
      refine x_iand d_N_easier_75 ?_
      obtain ⟨v13, q12, h⟩ := bd_inv h
      refine y_V2i (v := v13) (S1 := S7) d_N_easier_76 ml_0_257 kd_57 rfl (Nat.le_of_ble_eq_true rfl) (Nat.le_of_ble_eq_true rfl) (c_K_clashingBeats (by omega) q12) ?_
      refine x_istore (L1 := [(0, .ref 0), (1, .int p1), (2, .int v8), (3, .int v11), (4, .int v13)]) d_N_easier_79 (Nat.le_of_ble_eq_true rfl) rfl rfl ?_
      refine x_iload_n d_N_easier_81 rfl 3 rfl ?_
      obtain ⟨v15, q14, h⟩ := bd_inv h
      refine y_S1i (v := v15) (S1 := S7) d_N_easier_82 ml_0_211 (Nat.le_of_ble_eq_true rfl) (Nat.le_of_ble_eq_true rfl) (c_J_bitCount (by omega) q14) ?_
      refine x_iload d_N_easier_85 4 rfl ?_
      obtain ⟨v17, q16, h⟩ := bd_inv h
      refine y_S1i (v := v17) (S1 := S7) d_N_easier_87 ml_0_211 (Nat.le_of_ble_eq_true rfl) (Nat.le_of_ble_eq_true rfl) (c_J_bitCount (by omega) q16) ?_
      refine x_isub d_N_easier_90 ?_
      obtain rfl := Option.some.inj h
      exact x_ret (r := some (.int (v15 - v17))) d_N_easier_91 ⟨_, rfl, rfl⟩
    · replace h := ite_t c5 h
      refine x_iconst d_N_easier_20 ic_m1 ?_
      obtain rfl := Option.some.inj h
      exact x_ret (r := some (.int (-1 : Int32))) d_N_easier_21 ⟨_, rfl, rfl⟩
/-! NinetyPlayersModel.easier -/
def fM_easier (F G : Nat) (S : St) (p1 : Int32) : Option (Int32 × St) :=
  bd (fM_isNote F G S p1) fun v2 => if v2 = 0 then some ((-1 : Int32), S) else gd (inB p1 41) (if (S.1 100 p1.toNatClampNeg) = 0 then some ((-1 : Int32), S) else bd2 (fM_clashes F G S) fun v7 S8 => bd (fM_members F G S8 v7) fun v10 => gd (inB p1 41) (lt (sI S8 101 p1.toNatClampNeg (0 : Int32)) fun S12 => bd (fM_clashBeats F G S12 (S12.1 78 49)) fun v15 => bd (fM_members F G S12 v15) fun v17 => some (v10 - v17, S12)))
set_option maxRecDepth 100000 in
set_option maxHeartbeats 4000000 in
theorem c_M_easier {X : Nat × (Nat → Int32)} {D F G : Nat} (hD : 5 ≤ D) {S : St} {p1 : Int32} {res : Int32 × St} (h : fM_easier F G S p1 = some res) : Ek X (D) mM_easier 0 [(0, .ref 78), (1, .int p1)] [] S (some (.int res.1)) res.2 := by
  obtain ⟨D, rfl⟩ : ∃ E, D = E + 1 := ⟨D - 1, by omega⟩
  unfold fM_easier at h
  refine x_aload_n d_M_easier_0 rfl 0 rfl ?_
  refine x_iload_n d_M_easier_1 rfl 1 rfl ?_
  obtain ⟨v2, q1, h⟩ := bd_inv h
  refine y_V1i (v := v2) (S1 := S) d_M_easier_2 ml_11_461 kd_78 rfl (Nat.le_of_ble_eq_true rfl) (Nat.le_of_ble_eq_true rfl) (c_M_isNote (by omega) q1) ?_
  refine x_if_eq (tgt := 17) d_M_easier_5 rfl (fun c3 => ?_) (fun c3 => ?_)
  · replace h := ite_t c3 h
    refine x_iconst d_M_easier_17 ic_m1 ?_
    obtain rfl := Option.some.inj h
    exact x_ret (r := some (.int (-1 : Int32))) d_M_easier_18 ⟨_, rfl, rfl⟩
  · replace h := ite_f c3 h
    refine x_aload_n d_M_easier_8 rfl 0 rfl ?_
    refine y_getR d_M_easier_9 fl_11_93 rfl kd_78 rr_78_58 ?_
    refine x_iload_n d_M_easier_12 rfl 1 rfl ?_
    obtain ⟨g4, h⟩ := gd_inv h
    refine y_iald d_M_easier_13 kd_100 g4 ?_
    refine x_if_ne (tgt := 19) d_M_easier_14 rfl (fun c5 => ?_) (fun c5 => ?_)
    · replace h := ite_f c5 h
      refine x_aload_n d_M_easier_19 rfl 0 rfl ?_
      obtain ⟨v7, S8, q6, h⟩ := bd2_inv h
      refine y_V0i (v := v7) (S1 := S8) d_M_easier_20 ml_11_488 kd_78 rfl (Nat.le_of_ble_eq_true rfl) (Nat.le_of_ble_eq_true rfl) (c_M_clashes (by omega) q6) ?_
      obtain ⟨v10, q9, h⟩ := bd_inv h
      refine y_S1i (v := v10) (S1 := S8) d_M_easier_23 ml_11_331 (Nat.le_of_ble_eq_true rfl) (Nat.le_of_ble_eq_true rfl) (c_M_members (by omega) q9) ?_
      refine x_istore_n (L1 := [(0, .ref 78), (1, .int p1), (2, .int v10)]) d_M_easier_26 rfl (Nat.le_of_ble_eq_true rfl) rfl rfl ?_
      refine x_aload_n d_M_easier_27 rfl 0 rfl ?_
      refine y_getR d_M_easier_28 fl_11_96 rfl kd_78 rr_78_59 ?_
      refine x_iload_n d_M_easier_31 rfl 1 rfl ?_
      refine x_iconst d_M_easier_32 ic_0 ?_
      obtain ⟨g11, h⟩ := gd_inv h
      obtain ⟨S12, e13, h⟩ := lt_inv h
      refine y_iast e13 d_M_easier_33 kd_101 g11 ?_
      refine x_iload_n d_M_easier_34 rfl 2 rfl ?_
      refine x_aload_n d_M_easier_35 rfl 0 rfl ?_
      refine x_aload_n d_M_easier_36 rfl 0 rfl ?_
      refine y_getI d_M_easier_37 fl_11_81 rfl kd_78 ?_
      obtain ⟨v15, q14, h⟩ := bd_inv h
      refine y_V1i (v := v15) (S1 := S12) d_M_easier_40 ml_11_482 kd_78 rfl (Nat.le_of_ble_eq_true rfl) (Nat.le_of_ble_eq_true rfl) (c_M_clashBeats (by omega) q14) ?_
      obtain ⟨v17, q16, h⟩ := bd_inv h
      refine y_S1i (v := v17) (S1 := S12) d_M_easier_43 ml_11_331 (Nat.le_of_ble_eq_true rfl) (Nat.le_of_ble_eq_true rfl) (c_M_members (by omega) q16) ?_
      refine x_isub d_M_easier_46 ?_
      obtain rfl := Option.some.inj h
      exact x_ret (r := some (.int (v10 - v17))) d_M_easier_47 ⟨_, rfl, rfl⟩
    · replace h := ite_t c5 h
      refine x_iconst d_M_easier_17 ic_m1 ?_
      obtain rfl := Option.some.inj h
      exact x_ret (r := some (.int (-1 : Int32))) d_M_easier_18 ⟨_, rfl, rfl⟩
