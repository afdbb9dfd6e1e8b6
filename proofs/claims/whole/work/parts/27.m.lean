/-! NinetyPlayers.blur -/
def b_N_blur_8 (F G : Nat) (S : St) (rec : Int32 → Int32 → Option (Int32 × St)) (w1 : Int32) (w2 : Int32) : Option (Int32 × St) :=
  gd (isSc S.2.2.1) (if (S.1 S.2.2.1 0) ≤ w2 then some (w1, S) else bd (fK_blurredAt F G S w2) fun v6 => lt (w1 + v6) fun v7 => lt (w2 + 1) fun v9 => rec v7 v9)
def fN_blur (F G : Nat) (S : St) : Option (Int32 × St) :=
  bd (fN_lookAtKeys F G S ) fun S2 => fx2 (b_N_blur_8 F G S2) F (0 : Int32) (0 : Int32)
set_option maxRecDepth 100000 in
set_option maxHeartbeats 4000000 in
theorem T_N_blur_8 {X : Nat × (Nat → Int32)} {D F G : Nat} (hD : 3 ≤ D + 1) {S : St} : ∀ (f : Nat) (w1 : Int32) (w2 : Int32) (res : Int32 × St), fx2 (b_N_blur_8 F G S ) f w1 w2 = some res → Ek X (D + 1) mN_blur 8 [(0, .ref 0), (1, .int w1), (2, .int w2)] [] S (some (.int res.1)) res.2 := by
  refine fx2_ind ?_
  intro rec ih w1 w2 res h
  unfold b_N_blur_8 at h
  refine x_iload_n d_N_blur_8 rfl 2 rfl ?_
  refine x_aload_n d_N_blur_9 rfl 0 rfl ?_
  refine y_getR d_N_blur_10 fl_0_25 rfl kd_0 rr_told ?_
  obtain ⟨g3, h⟩ := gd_inv h
  refine y_getI d_N_blur_13 fl_0_193 rfl (ksSc g3) ?_
  refine x_icmp_ge (tgt := 36) d_N_blur_16 rfl (fun c4 => ?_) (fun c4 => ?_)
  · replace h := ite_t c4 h
    refine x_iload_n d_N_blur_36 rfl 1 rfl ?_
    obtain rfl := Option.some.inj h
    exact x_ret (r := some (.int w1)) d_N_blur_37 ⟨_, rfl, rfl⟩
  · replace h := ite_f c4 h
    refine x_iload_n d_N_blur_19 rfl 1 rfl ?_
    refine x_aload_n d_N_blur_20 rfl 0 rfl ?_
    refine y_getR d_N_blur_21 fl_0_50 rfl kd_0 rr_0_7 ?_
    refine x_iload_n d_N_blur_24 rfl 2 rfl ?_
    obtain ⟨v6, q5, h⟩ := bd_inv h
    refine y_V1i (v := v6) (S1 := S) d_N_blur_25 ml_0_303 kd_56 rfl (Nat.le_of_ble_eq_true rfl) (Nat.le_of_ble_eq_true rfl) (c_K_blurredAt (by omega) q5) ?_
    refine x_iadd d_N_blur_28 ?_
    obtain ⟨v7, e8, h⟩ := lt_inv h
    refine y_istore_n (L1 := [(0, .ref 0), (1, .int v7), (2, .int w2)]) e8 d_N_blur_29 rfl (Nat.le_of_ble_eq_true rfl) rfl rfl ?_
    obtain ⟨v9, e10, h⟩ := lt_inv h
    refine y_iinc (L1 := [(0, .ref 0), (1, .int v7), (2, .int v9)]) e10 ic_1 d_N_blur_30 2 rfl (Nat.le_of_ble_eq_true rfl) rfl rfl ?_
    refine x_goto (tgt := 8) d_N_blur_33 rfl ?_
    exact ih v7 v9 _ h
set_option maxRecDepth 100000 in
set_option maxHeartbeats 4000000 in
theorem c_N_blur {X : Nat × (Nat → Int32)} {D F G : Nat} (hD : 3 ≤ D) {S : St} {res : Int32 × St} (h : fN_blur F G S  = some res) : Ek X (D) mN_blur 0 [(0, .ref 0)] [] S (some (.int res.1)) res.2 := by
  obtain ⟨D, rfl⟩ : ∃ E, D = E + 1 := ⟨D - 1, by omega⟩
  unfold fN_blur at h
  refine x_aload_n d_N_blur_0 rfl 0 rfl ?_
  obtain ⟨S2, q1, h⟩ := bd_inv h
  refine y_V0v (S1 := S2) d_N_blur_1 ml_0_173 kd_0 rfl (Nat.le_of_ble_eq_true rfl) (Nat.le_of_ble_eq_true rfl) (c_N_lookAtKeys (by omega) q1) ?_
  refine x_iconst d_N_blur_4 ic_0 ?_
  refine x_istore_n (L1 := [(0, .ref 0), (1, .int (0 : Int32))]) d_N_blur_5 rfl (Nat.le_of_ble_eq_true rfl) rfl rfl ?_
  refine x_iconst d_N_blur_6 ic_0 ?_
  refine x_istore_n (L1 := [(0, .ref 0), (1, .int (0 : Int32)), (2, .int (0 : Int32))]) d_N_blur_7 rfl (Nat.le_of_ble_eq_true rfl) rfl rfl ?_
  refine T_N_blur_8 (by omega)   F (0 : Int32) (0 : Int32) _ h
/-! NinetyPlayersModel.blurs -/
def j_M_blurs_64 (F G : Nat) (S : St) (y1 : Int32) (y2 : Int32) (y3 : Int32) : Option (Int32) :=
  gd (inB y1 12) (if (((S.1 102 y1.toNatClampNeg) >>> (y2 &&& 31)) &&& (1 : Int32)) = (1 : Int32) then gd (inB y1 12) (if (((S.1 102 y1.toNatClampNeg) >>> (y3 &&& 31)) &&& (1 : Int32)) = (1 : Int32) then some (0 : Int32) else some (1 : Int32)) else some (1 : Int32))
def fM_blurs (F G : Nat) (S : St) (p1 : Int32) (p2 : Int32) (p3 : Int32) : Option (Int32) :=
  gd (inB p1 12) (if (((S.1 103 p1.toNatClampNeg) >>> (p2 &&& 31)) &&& (1 : Int32)) = 0 then some (0 : Int32) else gd (inB p1 12) (if (((S.1 103 p1.toNatClampNeg) >>> (p3 &&& 31)) &&& (1 : Int32)) = 0 then some (0 : Int32) else gd (inB ((10 : Int32) + p2) 41) (gd (inB ((10 : Int32) + p3) 41) (bd (fM_plain F G S ((S.1 101 ((10 : Int32) + p2).toNatClampNeg) - (S.1 101 ((10 : Int32) + p3).toNatClampNeg))) fun v8 => if v8 = (1 : Int32) then j_M_blurs_64 F G  S p1 p2 p3 else if v8 = (2 : Int32) then j_M_blurs_64 F G  S p1 p2 p3 else some (0 : Int32)))))
set_option maxRecDepth 100000 in
set_option maxHeartbeats 4000000 in
theorem c_M_blurs {X : Nat × (Nat → Int32)} {D F G : Nat} (hD : 1 ≤ D) {S : St} {p1 : Int32} {p2 : Int32} {p3 : Int32} {res : Int32} (h : fM_blurs F G S p1 p2 p3 = some res) : Ek X (D) mM_blurs 0 [(0, .ref 78), (1, .int p1), (2, .int p2), (3, .int p3)] [] S (some (.int res)) S := by
  obtain ⟨D, rfl⟩ : ∃ E, D = E + 1 := ⟨D - 1, by omega⟩
  unfold fM_blurs at h
  have J64 : ∀ (y1 : Int32) (y2 : Int32) (y3 : Int32) (res : Int32), j_M_blurs_64 F G S y1 y2 y3 = some res → Ek X (D + 1) mM_blurs 64 [(0, .ref 78), (1, .int y1), (2, .int y2), (3, .int y3)] [] S (some (.int res)) S := by
    intro y1 y2 y3 res h
    unfold j_M_blurs_64 at h
    refine x_aload_n d_M_blurs_64 rfl 0 rfl ?_
    refine y_getR d_M_blurs_65 fl_11_99 rfl kd_78 rr_78_60 ?_
    refine x_iload_n d_M_blurs_68 rfl 1 rfl ?_
    obtain ⟨g11, h⟩ := gd_inv h
    refine y_iald d_M_blurs_69 kd_102 g11 ?_
    refine x_iload_n d_M_blurs_70 rfl 2 rfl ?_
    refine x_ishr d_M_blurs_71 ?_
    refine x_iconst d_M_blurs_72 ic_1 ?_
    refine x_iand d_M_blurs_73 ?_
    refine x_iconst d_M_blurs_74 ic_1 ?_
    refine x_icmp_ne (tgt := 92) d_M_blurs_75 rfl (fun c12 => ?_) (fun c12 => ?_)
    · replace h := ite_f c12 h
      refine x_iconst d_M_blurs_92 ic_1 ?_
      refine x_goto (tgt := 97) d_M_blurs_93 rfl ?_
      obtain rfl := Option.some.inj h
      exact x_ret (r := some (.int (1 : Int32))) d_M_blurs_97 ⟨_, rfl, rfl⟩
    · replace h := ite_t c12 h
      refine x_aload_n d_M_blurs_78 rfl 0 rfl ?_
      refine y_getR d_M_blurs_79 fl_11_99 rfl kd_78 rr_78_60 ?_
      refine x_iload_n d_M_blurs_82 rfl 1 rfl ?_
      obtain ⟨g13, h⟩ := gd_inv h
      refine y_iald d_M_blurs_83 kd_102 g13 ?_
      refine x_iload_n d_M_blurs_84 rfl 3 rfl ?_
      refine x_ishr d_M_blurs_85 ?_
      refine x_iconst d_M_blurs_86 ic_1 ?_
      refine x_iand d_M_blurs_87 ?_
      refine x_iconst d_M_blurs_88 ic_1 ?_
      refine x_icmp_eq (tgt := 96) d_M_blurs_89 rfl (fun c14 => ?_) (fun c14 => ?_)
      · replace h := ite_t c14 h
        refine x_iconst d_M_blurs_96 ic_0 ?_
        obtain rfl := Option.some.inj h
        exact x_ret (r := some (.int (0 : Int32))) d_M_blurs_97 ⟨_, rfl, rfl⟩
      · replace h := ite_f c14 h
        refine x_iconst d_M_blurs_92 ic_1 ?_
        refine x_goto (tgt := 97) d_M_blurs_93 rfl ?_
        obtain rfl := Option.some.inj h
        exact x_ret (r := some (.int (1 : Int32))) d_M_blurs_97 ⟨_, rfl, rfl⟩
  refine x_aload_n d_M_blurs_0 rfl 0 rfl ?_
  refine y_getR d_M_blurs_1 fl_11_102 rfl kd_78 rr_78_61 ?_
  refine x_iload_n d_M_blurs_4 rfl 1 rfl ?_
  obtain ⟨g1, h⟩ := gd_inv h
  refine y_iald d_M_blurs_5 kd_103 g1 ?_
  refine x_iload_n d_M_blurs_6 rfl 2 rfl ?_
  refine x_ishr d_M_blurs_7 ?_
  refine x_iconst d_M_blurs_8 ic_1 ?_
  refine x_iand d_M_blurs_9 ?_
  refine x_if_eq (tgt := 26) d_M_blurs_10 rfl (fun c2 => ?_) (fun c2 => ?_)
  · replace h := ite_t c2 h
    refine x_iconst d_M_blurs_26 ic_0 ?_
    obtain rfl := Option.some.inj h
    exact x_ret (r := some (.int (0 : Int32))) d_M_blurs_27 ⟨_, rfl, rfl⟩
  · replace h := ite_f c2 h
    refine x_aload_n d_M_blurs_13 rfl 0 rfl ?_
    refine y_getR d_M_blurs_14 fl_11_102 rfl kd_78 rr_78_61 ?_
    refine x_iload_n d_M_blurs_17 rfl 1 rfl ?_
    obtain ⟨g3, h⟩ := gd_inv h
    refine y_iald d_M_blurs_18 kd_103 g3 ?_
    refine x_iload_n d_M_blurs_19 rfl 3 rfl ?_
    refine x_ishr d_M_blurs_20 ?_
    refine x_iconst d_M_blurs_21 ic_1 ?_
    refine x_iand d_M_blurs_22 ?_
    refine x_if_ne (tgt := 28) d_M_blurs_23 rfl (fun c4 => ?_) (fun c4 => ?_)
    · replace h := ite_f c4 h
      refine x_aload_n d_M_blurs_28 rfl 0 rfl ?_
      refine y_getR d_M_blurs_29 fl_11_96 rfl kd_78 rr_78_59 ?_
      refine x_bipush d_M_blurs_32 bp_10 ?_
      refine x_iload_n d_M_blurs_34 rfl 2 rfl ?_
      refine x_iadd d_M_blurs_35 ?_
      obtain ⟨g5, h⟩ := gd_inv h
      refine y_iald d_M_blurs_36 kd_101 g5 ?_
      refine x_aload_n d_M_blurs_37 rfl 0 rfl ?_
      refine y_getR d_M_blurs_38 fl_11_96 rfl kd_78 rr_78_59 ?_
      refine x_bipush d_M_blurs_41 bp_10 ?_
      refine x_iload_n d_M_blurs_43 rfl 3 rfl ?_
      refine x_iadd d_M_blurs_44 ?_
      obtain ⟨g6, h⟩ := gd_inv h
      refine y_iald d_M_blurs_45 kd_101 g6 ?_
      refine x_isub d_M_blurs_46 ?_
      obtain ⟨v8, q7, h⟩ := bd_inv h
      refine y_S1i (v := v8) (S1 := S) d_M_blurs_47 ml_11_325 (Nat.le_of_ble_eq_true rfl) (Nat.le_of_ble_eq_true rfl) (c_M_plain (by omega) q7) ?_
      refine x_istore (L1 := [(0, .ref 78), (1, .int p1), (2, .int p2), (3, .int p3), (4, .int v8)]) d_M_blurs_50 (Nat.le_of_ble_eq_true rfl) rfl rfl ?_
      refine x_iload d_M_blurs_52 4 rfl ?_
      refine x_iconst d_M_blurs_54 ic_1 ?_
      refine x_icmp_eq (tgt := 64) d_M_blurs_55 rfl (fun c9 => ?_) (fun c9 => ?_)
      · replace h := ite_t c9 h
        refine y_pick (L1 := [(0, .ref 78), (1, .int p1), (2, .int p2), (3, .int p3)]) [0, 1, 2, 3] rfl ?_
        exact J64 p1 p2 p3 _ h
      · replace h := ite_f c9 h
        refine x_iload d_M_blurs_58 4 rfl ?_
        refine x_iconst d_M_blurs_60 ic_2 ?_
        refine x_icmp_ne (tgt := 96) d_M_blurs_61 rfl (fun c10 => ?_) (fun c10 => ?_)
        · replace h := ite_f c10 h
          refine x_iconst d_M_blurs_96 ic_0 ?_
          obtain rfl := Option.some.inj h
          exact x_ret (r := some (.int (0 : Int32))) d_M_blurs_97 ⟨_, rfl, rfl⟩
        · replace h := ite_t c10 h
          refine y_pick (L1 := [(0, .ref 78), (1, .int p1), (2, .int p2), (3, .int p3)]) [0, 1, 2, 3] rfl ?_
          exact J64 p1 p2 p3 _ h
    · replace h := ite_t c4 h
      refine x_iconst d_M_blurs_26 ic_0 ?_
      obtain rfl := Option.some.inj h
      exact x_ret (r := some (.int (0 : Int32))) d_M_blurs_27 ⟨_, rfl, rfl⟩
/-! NinetyPlayersModel.blur -/
def b_M_blur_33 (F G : Nat) (S : St) (z2 : Int32) (z3 : Int32) (k59 : Int32 → Option (Int32 × St)) (rec : Int32 → Int32 → Option (Int32 × St)) (w1 : Int32) (w4 : Int32) : Option (Int32 × St) :=
  if z3 ≤ w4 then k59 w1 else bd (fM_blurs F G S z2 z3 w4) fun v9 => bd (fM_truth F G S v9) fun v11 => lt (w1 + v11) fun v12 => lt (w4 + 1) fun v14 => rec v12 v14
def b_M_blur_22 (F G : Nat) (S : St) (z2 : Int32) (k65 : Int32 → Option (Int32 × St)) (rec : Int32 → Int32 → Option (Int32 × St)) (w1 : Int32) (w3 : Int32) : Option (Int32 × St) :=
  if (S.1 78 48) ≤ w3 then k65 w1 else fx2 (b_M_blur_33 F G S z2 w3 (fun v16 => lt (w3 + 1) fun v17 => rec v16 v17)) F w1 (0 : Int32)
def b_M_blur_12 (F G : Nat) (S : St) (rec : Int32 → Int32 → Option (Int32 × St)) (w1 : Int32) (w2 : Int32) : Option (Int32 × St) :=
  if (S.1 78 46) ≤ w2 then some (w1, S) else fx2 (b_M_blur_22 F G S w2 (fun v19 => lt (w2 + 1) fun v20 => rec v19 v20)) F w1 (0 : Int32)
def fM_blur (F G : Nat) (S : St) : Option (Int32 × St) :=
  bd (fM_fill F G S ) fun S2 => bd (fM_laySound F G S2 ) fun S4 => fx2 (b_M_blur_12 F G S4) F (0 : Int32) (0 : Int32)
set_option maxRecDepth 100000 in
set_option maxHeartbeats 4000000 in
theorem T_M_blur_33 {X : Nat × (Nat → Int32)} {D F G : Nat} (hD : 3 ≤ D + 1) {S : St} {z2 : Int32} {z3 : Int32} {k59 : Int32 → Option (Int32 × St)} (hk59 : ∀ (u1 : Int32) (res : Int32 × St), k59 u1 = some res → Ek X (D + 1) mM_blur 59 [(0, .ref 78), (1, .int u1), (2, .int z2), (3, .int z3)] [] S (some (.int res.1)) res.2) : ∀ (f : Nat) (w1 : Int32) (w4 : Int32) (res : Int32 × St), fx2 (b_M_blur_33 F G S z2 z3 k59 ) f w1 w4 = some res → Ek X (D + 1) mM_blur 33 [(0, .ref 78), (1, .int w1), (2, .int z2), (3, .int z3), (4, .int w4)] [] S (some (.int res.1)) res.2 := by
  refine fx2_ind ?_
  intro rec ih w1 w4 res h
  unfold b_M_blur_33 at h
  refine x_iload d_M_blur_33 4 rfl ?_
  refine x_iload_n d_M_blur_35 rfl 3 rfl ?_
  refine x_icmp_ge (tgt := 59) d_M_blur_36 rfl (fun c7 => ?_) (fun c7 => ?_)
  · replace h := ite_t c7 h
    refine y_pick (L1 := [(0, .ref 78), (1, .int w1), (2, .int z2), (3, .int z3)]) [0, 1, 2, 3] rfl ?_
    exact hk59 w1 _ h
  · replace h := ite_f c7 h
    refine x_iload_n d_M_blur_39 rfl 1 rfl ?_
    refine x_aload_n d_M_blur_40 rfl 0 rfl ?_
    refine x_iload_n d_M_blur_41 rfl 2 rfl ?_
    refine x_iload_n d_M_blur_42 rfl 3 rfl ?_
    refine x_iload d_M_blur_43 4 rfl ?_
    obtain ⟨v9, q8, h⟩ := bd_inv h
    refine y_V3i (v := v9) (S1 := S) d_M_blur_45 ml_11_530 kd_78 rfl (Nat.le_of_ble_eq_true rfl) (Nat.le_of_ble_eq_true rfl) (c_M_blurs (by omega) q8) ?_
    obtain ⟨v11, q10, h⟩ := bd_inv h
    refine y_S1i (v := v11) (S1 := S) d_M_blur_48 ml_11_318 (Nat.le_of_ble_eq_true rfl) (Nat.le_of_ble_eq_true rfl) (c_M_truth (by omega) q10) ?_
    refine x_iadd d_M_blur_51 ?_
    obtain ⟨v12, e13, h⟩ := lt_inv h
    refine y_istore_n (L1 := [(0, .ref 78), (1, .int v12), (2, .int z2), (3, .int z3), (4, .int w4)]) e13 d_M_blur_52 rfl (Nat.le_of_ble_eq_true rfl) rfl rfl ?_
    obtain ⟨v14, e15, h⟩ := lt_inv h
    refine y_iinc (L1 := [(0, .ref 78), (1, .int v12), (2, .int z2), (3, .int z3), (4, .int v14)]) e15 ic_1 d_M_blur_53 4 rfl (Nat.le_of_ble_eq_true rfl) rfl rfl ?_
    refine x_goto (tgt := 33) d_M_blur_56 rfl ?_
    exact ih v12 v14 _ h
set_option maxRecDepth 100000 in
set_option maxHeartbeats 4000000 in
theorem T_M_blur_22 {X : Nat × (Nat → Int32)} {D F G : Nat} (hD : 3 ≤ D + 1) {S : St} {z2 : Int32} {k65 : Int32 → Option (Int32 × St)} (hk65 : ∀ (u1 : Int32) (res : Int32 × St), k65 u1 = some res → Ek X (D + 1) mM_blur 65 [(0, .ref 78), (1, .int u1), (2, .int z2)] [] S (some (.int res.1)) res.2) : ∀ (f : Nat) (w1 : Int32) (w3 : Int32) (res : Int32 × St), fx2 (b_M_blur_22 F G S z2 k65 ) f w1 w3 = some res → Ek X (D + 1) mM_blur 22 [(0, .ref 78), (1, .int w1), (2, .int z2), (3, .int w3)] [] S (some (.int res.1)) res.2 := by
  refine fx2_ind ?_
  intro rec ih w1 w3 res h
  unfold b_M_blur_22 at h
  refine x_iload_n d_M_blur_22 rfl 3 rfl ?_
  refine x_aload_n d_M_blur_23 rfl 0 rfl ?_
  refine y_getI d_M_blur_24 fl_11_322 rfl kd_78 ?_
  refine x_icmp_ge (tgt := 65) d_M_blur_27 rfl (fun c6 => ?_) (fun c6 => ?_)
  · replace h := ite_t c6 h
    refine y_pick (L1 := [(0, .ref 78), (1, .int w1), (2, .int z2)]) [0, 1, 2] rfl ?_
    exact hk65 w1 _ h
  · replace h := ite_f c6 h
    refine x_iconst d_M_blur_30 ic_0 ?_
    refine x_istore (L1 := [(0, .ref 78), (1, .int w1), (2, .int z2), (3, .int w3), (4, .int (0 : Int32))]) d_M_blur_31 (Nat.le_of_ble_eq_true rfl) rfl rfl ?_
    refine T_M_blur_33 (by omega)  ?_ F w1 (0 : Int32) _ h
    · intro v16 res h
      obtain ⟨v17, e18, h⟩ := lt_inv h
      refine y_iinc (L1 := [(0, .ref 78), (1, .int v16), (2, .int z2), (3, .int v17)]) e18 ic_1 d_M_blur_59 3 rfl (Nat.le_of_ble_eq_true rfl) rfl rfl ?_
      refine x_goto (tgt := 22) d_M_blur_62 rfl ?_
      exact ih v16 v17 _ h
set_option maxRecDepth 100000 in
set_option maxHeartbeats 4000000 in
theorem T_M_blur_12 {X : Nat × (Nat → Int32)} {D F G : Nat} (hD : 3 ≤ D + 1) {S : St} : ∀ (f : Nat) (w1 : Int32) (w2 : Int32) (res : Int32 × St), fx2 (b_M_blur_12 F G S ) f w1 w2 = some res → Ek X (D + 1) mM_blur 12 [(0, .ref 78), (1, .int w1), (2, .int w2)] [] S (some (.int res.1)) res.2 := by
  refine fx2_ind ?_
  intro rec ih w1 w2 res h
  unfold b_M_blur_12 at h
  refine x_iload_n d_M_blur_12 rfl 2 rfl ?_
  refine x_aload_n d_M_blur_13 rfl 0 rfl ?_
  refine y_getI d_M_blur_14 fl_11_78 rfl kd_78 ?_
  refine x_icmp_ge (tgt := 71) d_M_blur_17 rfl (fun c5 => ?_) (fun c5 => ?_)
  · replace h := ite_t c5 h
    refine x_iload_n d_M_blur_71 rfl 1 rfl ?_
    obtain rfl := Option.some.inj h
    exact x_ret (r := some (.int w1)) d_M_blur_72 ⟨_, rfl, rfl⟩
  · replace h := ite_f c5 h
    refine x_iconst d_M_blur_20 ic_0 ?_
    refine x_istore_n (L1 := [(0, .ref 78), (1, .int w1), (2, .int w2), (3, .int (0 : Int32))]) d_M_blur_21 rfl (Nat.le_of_ble_eq_true rfl) rfl rfl ?_
    refine T_M_blur_22 (by omega)  ?_ F w1 (0 : Int32) _ h
    · intro v19 res h
      obtain ⟨v20, e21, h⟩ := lt_inv h
      refine y_iinc (L1 := [(0, .ref 78), (1, .int v19), (2, .int v20)]) e21 ic_1 d_M_blur_65 2 rfl (Nat.le_of_ble_eq_true rfl) rfl rfl ?_
      refine x_goto (tgt := 12) d_M_blur_68 rfl ?_
      exact ih v19 v20 _ h
set_option maxRecDepth 100000 in
set_option maxHeartbeats 4000000 in
theorem c_M_blur {X : Nat × (Nat → Int32)} {D F G : Nat} (hD : 3 ≤ D) {S : St} {res : Int32 × St} (h : fM_blur F G S  = some res) : Ek X (D) mM_blur 0 [(0, .ref 78)] [] S (some (.int res.1)) res.2 := by
  obtain ⟨D, rfl⟩ : ∃ E, D = E + 1 := ⟨D - 1, by omega⟩
  unfold fM_blur at h
  refine x_aload_n d_M_blur_0 rfl 0 rfl ?_
  obtain ⟨S2, q1, h⟩ := bd_inv h
  refine y_V0v (S1 := S2) d_M_blur_1 ml_11_464 kd_78 rfl (Nat.le_of_ble_eq_true rfl) (Nat.le_of_ble_eq_true rfl) (c_M_fill (by omega) q1) ?_
  refine x_aload_n d_M_blur_4 rfl 0 rfl ?_
  obtain ⟨S4, q3, h⟩ := bd_inv h
  refine y_V0v (S1 := S4) d_M_blur_5 ml_11_479 kd_78 rfl (Nat.le_of_ble_eq_true rfl) (Nat.le_of_ble_eq_true rfl) (c_M_laySound (by omega) q3) ?_
  refine x_iconst d_M_blur_8 ic_0 ?_
  refine x_istore_n (L1 := [(0, .ref 78), (1, .int (0 : Int32))]) d_M_blur_9 rfl (Nat.le_of_ble_eq_true rfl) rfl rfl ?_
  refine x_iconst d_M_blur_10 ic_0 ?_
  refine x_istore_n (L1 := [(0, .ref 78), (1, .int (0 : Int32)), (2, .int (0 : Int32))]) d_M_blur_11 rfl (Nat.le_of_ble_eq_true rfl) rfl rfl ?_
  refine T_M_blur_12 (by omega)   F (0 : Int32) (0 : Int32) _ h
/-! NinetyPlayers.openAt -/
def b_N_openAt_14 (F G : Nat) (S : St) (z2 : Int32) (k56 : Int32 → Option (Int32)) (rec : Int32 → Int32 → Option (Int32)) (w3 : Int32) (w4 : Int32) : Option (Int32) :=
  gd (isSc S.2.2.1) (if (S.1 S.2.2.1 6) ≤ w4 then k56 w3 else if ((z2 >>> (w4 &&& 31)) &&& (1 : Int32)) = 0 then lt (w4 + 1) fun v6 => rec w3 v6 else gd (inB w4 10) (lt (if w3 < (S.1 34 w4.toNatClampNeg) then (S.1 34 w4.toNatClampNeg) else w3) fun v9 => lt (w4 + 1) fun v11 => rec v9 v11))
def b_N_openAt_62 (F G : Nat) (S : St) (z2 : Int32) (z3 : Int32) (rec : Int32 → Int32 → Option (Int32)) (w4 : Int32) (w5 : Int32) : Option (Int32) :=
  gd (isSc S.2.2.1) (if (S.1 S.2.2.1 6) ≤ w5 then some w4 else if ((z2 >>> (w5 &&& 31)) &&& (1 : Int32)) = 0 then lt (w5 + 1) fun v17 => rec w4 v17 else gd (inB w5 10) (if (S.1 S.2.2.1 4) < (z3 - (S.1 34 w5.toNatClampNeg)) then lt (w5 + 1) fun v21 => rec w4 v21 else lt (w4 ||| ((1 : Int32) <<< (w5 &&& 31))) fun v23 => lt (w5 + 1) fun v25 => rec v23 v25))
def fN_openAt (F G : Nat) (S : St) (p1 : Int32) : Option (Int32) :=
  bd (fK_soundingAt F G S p1) fun v2 => fx2 (b_N_openAt_14 F G S v2 (fun v13 => fx2 (b_N_openAt_62 F G S v2 v13) F (0 : Int32) (0 : Int32))) F (0 : Int32) (0 : Int32)
set_option maxRecDepth 100000 in
set_option maxHeartbeats 4000000 in
theorem T_N_openAt_14 {X : Nat × (Nat → Int32)} {D F G : Nat} (hD : 2 ≤ D + 1) {S : St} {z2 : Int32} {k56 : Int32 → Option (Int32)} (hk56 : ∀ (u3 : Int32) (res : Int32), k56 u3 = some res → Ek X (D + 1) mN_openAt 56 [(0, .ref 0), (2, .int z2), (3, .int u3)] [] S (some (.int res)) S) : ∀ (f : Nat) (w3 : Int32) (w4 : Int32) (res : Int32), fx2 (b_N_openAt_14 F G S z2 k56 ) f w3 w4 = some res → Ek X (D + 1) mN_openAt 14 [(0, .ref 0), (2, .int z2), (3, .int w3), (4, .int w4)] [] S (some (.int res)) S := by
  refine fx2_ind ?_
  intro rec ih w3 w4 res h
  unfold b_N_openAt_14 at h
  refine x_iload d_N_openAt_14 3 rfl ?_
  refine x_aload_n d_N_openAt_16 rfl 0 rfl ?_
  refine y_getR d_N_openAt_17 fl_0_25 rfl kd_0 rr_told ?_
  obtain ⟨g3, h⟩ := gd_inv h
  refine y_getI d_N_openAt_20 fl_0_117 rfl (ksSc g3) ?_
  refine x_icmp_ge (tgt := 56) d_N_openAt_23 rfl (fun c4 => ?_) (fun c4 => ?_)
  · replace h := ite_t c4 h
    refine y_pick (L1 := [(0, .ref 0), (2, .int z2), (3, .int w3)]) [0, 1, 2] rfl ?_
    exact hk56 w3 _ h
  · replace h := ite_f c4 h
    refine x_iload_n d_N_openAt_26 rfl 1 rfl ?_
    refine x_iload d_N_openAt_27 3 rfl ?_
    refine x_ishr d_N_openAt_29 ?_
    refine x_iconst d_N_openAt_30 ic_1 ?_
    refine x_iand d_N_openAt_31 ?_
    refine x_if_eq (tgt := 50) d_N_openAt_32 rfl (fun c5 => ?_) (fun c5 => ?_)
    · replace h := ite_t c5 h
      obtain ⟨v6, e7, h⟩ := lt_inv h
      refine y_iinc (L1 := [(0, .ref 0), (2, .int z2), (3, .int w3), (4, .int v6)]) e7 ic_1 d_N_openAt_50 3 rfl (Nat.le_of_ble_eq_true rfl) rfl rfl ?_
      refine x_goto (tgt := 14) d_N_openAt_53 rfl ?_
      exact ih w3 v6 _ h
    · replace h := ite_f c5 h
      refine x_iload_n d_N_openAt_35 rfl 2 rfl ?_
      refine x_aload_n d_N_openAt_36 rfl 0 rfl ?_
      refine y_getR d_N_openAt_37 fl_0_32 rfl kd_0 rr_0_4 ?_
      refine y_getR d_N_openAt_40 fl_0_141 rfl kd_30 rr_30_5 ?_
      refine x_iload d_N_openAt_43 3 rfl ?_
      obtain ⟨g8, h⟩ := gd_inv h
      refine y_iald d_N_openAt_45 kd_34 g8 ?_
      refine y_mmax d_N_openAt_46 ml_0_230 (Nat.le_of_ble_eq_true rfl) ?_
      obtain ⟨v9, e10, h⟩ := lt_inv h
      refine y_istore_n (L1 := [(0, .ref 0), (2, .int z2), (3, .int v9), (4, .int w4)]) e10 d_N_openAt_49 rfl (Nat.le_of_ble_eq_true rfl) rfl rfl ?_
      obtain ⟨v11, e12, h⟩ := lt_inv h
      refine y_iinc (L1 := [(0, .ref 0), (2, .int z2), (3, .int v9), (4, .int v11)]) e12 ic_1 d_N_openAt_50 3 rfl (Nat.le_of_ble_eq_true rfl) rfl rfl ?_
      refine x_goto (tgt := 14) d_N_openAt_53 rfl ?_
      exact ih v9 v11 _ h
set_option maxRecDepth 100000 in
set_option maxHeartbeats 4000000 in
theorem T_N_openAt_62 {X : Nat × (Nat → Int32)} {D F G : Nat} (hD : 2 ≤ D + 1) {S : St} {z2 : Int32} {z3 : Int32} : ∀ (f : Nat) (w4 : Int32) (w5 : Int32) (res : Int32), fx2 (b_N_openAt_62 F G S z2 z3 ) f w4 w5 = some res → Ek X (D + 1) mN_openAt 62 [(0, .ref 0), (2, .int z2), (3, .int z3), (4, .int w4), (5, .int w5)] [] S (some (.int res)) S := by
  refine fx2_ind ?_
  intro rec ih w4 w5 res h
  unfold b_N_openAt_62 at h
  refine x_iload d_N_openAt_62 4 rfl ?_
  refine x_aload_n d_N_openAt_64 rfl 0 rfl ?_
  refine y_getR d_N_openAt_65 fl_0_25 rfl kd_0 rr_told ?_
  obtain ⟨g14, h⟩ := gd_inv h
  refine y_getI d_N_openAt_68 fl_0_117 rfl (ksSc g14) ?_
  refine x_icmp_ge (tgt := 120) d_N_openAt_71 rfl (fun c15 => ?_) (fun c15 => ?_)
  · replace h := ite_t c15 h
    refine x_iload d_N_openAt_120 3 rfl ?_
    obtain rfl := Option.some.inj h
    exact x_ret (r := some (.int w4)) d_N_openAt_122 ⟨_, rfl, rfl⟩
  · replace h := ite_f c15 h
    refine x_iload_n d_N_openAt_74 rfl 1 rfl ?_
    refine x_iload d_N_openAt_75 4 rfl ?_
    refine x_ishr d_N_openAt_77 ?_
    refine x_iconst d_N_openAt_78 ic_1 ?_
    refine x_iand d_N_openAt_79 ?_
    refine x_if_eq (tgt := 114) d_N_openAt_80 rfl (fun c16 => ?_) (fun c16 => ?_)
    · replace h := ite_t c16 h
      obtain ⟨v17, e18, h⟩ := lt_inv h
      refine y_iinc (L1 := [(0, .ref 0), (2, .int z2), (3, .int z3), (4, .int w4), (5, .int v17)]) e18 ic_1 d_N_openAt_114 4 rfl (Nat.le_of_ble_eq_true rfl) rfl rfl ?_
      refine x_goto (tgt := 62) d_N_openAt_117 rfl ?_
      exact ih w4 v17 _ h
    · replace h := ite_f c16 h
      refine x_iload_n d_N_openAt_83 rfl 2 rfl ?_
      refine x_aload_n d_N_openAt_84 rfl 0 rfl ?_
      refine y_getR d_N_openAt_85 fl_0_32 rfl kd_0 rr_0_4 ?_
      refine y_getR d_N_openAt_88 fl_0_141 rfl kd_30 rr_30_5 ?_
      refine x_iload d_N_openAt_91 4 rfl ?_
      obtain ⟨g19, h⟩ := gd_inv h
      refine y_iald d_N_openAt_93 kd_34 g19 ?_
      refine x_isub d_N_openAt_94 ?_
      refine x_aload_n d_N_openAt_95 rfl 0 rfl ?_
      refine y_getR d_N_openAt_96 fl_0_25 rfl kd_0 rr_told ?_
      refine y_getI d_N_openAt_99 fl_0_309 rfl (ksSc g14) ?_
      refine x_icmp_gt (tgt := 114) d_N_openAt_102 rfl (fun c20 => ?_) (fun c20 => ?_)
      · replace h := ite_t c20 h
        obtain ⟨v21, e22, h⟩ := lt_inv h
        refine y_iinc (L1 := [(0, .ref 0), (2, .int z2), (3, .int z3), (4, .int w4), (5, .int v21)]) e22 ic_1 d_N_openAt_114 4 rfl (Nat.le_of_ble_eq_true rfl) rfl rfl ?_
        refine x_goto (tgt := 62) d_N_openAt_117 rfl ?_
        exact ih w4 v21 _ h
      · replace h := ite_f c20 h
        refine x_iload d_N_openAt_105 3 rfl ?_
        refine x_iconst d_N_openAt_107 ic_1 ?_
        refine x_iload d_N_openAt_108 4 rfl ?_
        refine x_ishl d_N_openAt_110 ?_
        refine x_ior d_N_openAt_111 ?_
        obtain ⟨v23, e24, h⟩ := lt_inv h
        refine y_istore (L1 := [(0, .ref 0), (2, .int z2), (3, .int z3), (4, .int v23), (5, .int w5)]) e24 d_N_openAt_112 (Nat.le_of_ble_eq_true rfl) rfl rfl ?_
        obtain ⟨v25, e26, h⟩ := lt_inv h
        refine y_iinc (L1 := [(0, .ref 0), (2, .int z2), (3, .int z3), (4, .int v23), (5, .int v25)]) e26 ic_1 d_N_openAt_114 4 rfl (Nat.le_of_ble_eq_true rfl) rfl rfl ?_
        refine x_goto (tgt := 62) d_N_openAt_117 rfl ?_
        exact ih v23 v25 _ h
set_option maxRecDepth 100000 in
set_option maxHeartbeats 4000000 in
theorem c_N_openAt {X : Nat × (Nat → Int32)} {D F G : Nat} (hD : 2 ≤ D) {S : St} {p1 : Int32} {res : Int32} (h : fN_openAt F G S p1 = some res) : Ek X (D) mN_openAt 0 [(0, .ref 0), (1, .int p1)] [] S (some (.int res)) S := by
  obtain ⟨D, rfl⟩ : ∃ E, D = E + 1 := ⟨D - 1, by omega⟩
  unfold fN_openAt at h
  refine x_aload_n d_N_openAt_0 rfl 0 rfl ?_
  refine y_getR d_N_openAt_1 fl_0_50 rfl kd_0 rr_0_7 ?_
  refine x_iload_n d_N_openAt_4 rfl 1 rfl ?_
  obtain ⟨v2, q1, h⟩ := bd_inv h
  refine y_V1i (v := v2) (S1 := S) d_N_openAt_5 ml_0_180 kd_56 rfl (Nat.le_of_ble_eq_true rfl) (Nat.le_of_ble_eq_true rfl) (c_K_soundingAt (by omega) q1) ?_
  refine x_istore_n (L1 := [(0, .ref 0), (1, .int p1), (2, .int v2)]) d_N_openAt_8 rfl (Nat.le_of_ble_eq_true rfl) rfl rfl ?_
  refine x_iconst d_N_openAt_9 ic_0 ?_
  refine x_istore_n (L1 := [(0, .ref 0), (1, .int p1), (2, .int v2), (3, .int (0 : Int32))]) d_N_openAt_10 rfl (Nat.le_of_ble_eq_true rfl) rfl rfl ?_
  refine x_iconst d_N_openAt_11 ic_0 ?_
  refine x_istore (L1 := [(0, .ref 0), (1, .int p1), (2, .int v2), (3, .int (0 : Int32)), (4, .int (0 : Int32))]) d_N_openAt_12 (Nat.le_of_ble_eq_true rfl) rfl rfl ?_
  refine y_pick (L1 := [(0, .ref 0), (2, .int v2), (3, .int (0 : Int32)), (4, .int (0 : Int32))]) [0, 2, 3, 4] rfl ?_
  refine T_N_openAt_14 (by omega)  ?_ F (0 : Int32) (0 : Int32) _ h
  · intro v13 res h
    refine x_iconst d_N_openAt_56 ic_0 ?_
    refine x_istore (L1 := [(0, .ref 0), (2, .int v2), (3, .int v13), (4, .int (0 : Int32))]) d_N_openAt_57 (Nat.le_of_ble_eq_true rfl) rfl rfl ?_
    refine x_iconst d_N_openAt_59 ic_0 ?_
    refine x_istore (L1 := [(0, .ref 0), (2, .int v2), (3, .int v13), (4, .int (0 : Int32)), (5, .int (0 : Int32))]) d_N_openAt_60 (Nat.le_of_ble_eq_true rfl) rfl rfl ?_
    refine T_N_openAt_62 (by omega)   F (0 : Int32) (0 : Int32) _ h
/-! NinetyPlayers.open -/
def fN_open (F G : Nat) (S : St) (p1 : Int32) : Option (Int32 × St) :=
  bd (fN_isBeat F G S p1) fun v2 => if v2 = 0 then some ((-1 : Int32), S) else bd (fN_lookAtKeys F G S ) fun S5 => bd (fN_openAt F G S5 p1) fun v7 => some (v7, S5)
set_option maxRecDepth 100000 in
set_option maxHeartbeats 4000000 in
theorem c_N_open {X : Nat × (Nat → Int32)} {D F G : Nat} (hD : 3 ≤ D) {S : St} {p1 : Int32} {res : Int32 × St} (h : fN_open F G S p1 = some res) : Ek X (D) mN_open 0 [(0, .ref 0), (1, .int p1)] [] S (some (.int res.1)) res.2 := by
  obtain ⟨D, rfl⟩ : ∃ E, D = E + 1 := ⟨D - 1, by omega⟩
  unfold fN_open at h
  refine x_aload_n d_N_open_0 rfl 0 rfl ?_
  refine x_iload_n d_N_open_1 rfl 1 rfl ?_
  obtain ⟨v2, q1, h⟩ := bd_inv h
  refine y_V1i (v := v2) (S1 := S) d_N_open_2 ml_0_167 kd_0 rfl (Nat.le_of_ble_eq_true rfl) (Nat.le_of_ble_eq_true rfl) (c_N_isBeat (by omega) q1) ?_
  refine x_if_ne (tgt := 10) d_N_open_5 rfl (fun c3 => ?_) (fun c3 => ?_)
  · replace h := ite_f c3 h
    refine x_aload_n d_N_open_10 rfl 0 rfl ?_
    obtain ⟨S5, q4, h⟩ := bd_inv h
    refine y_V0v (S1 := S5) d_N_open_11 ml_0_173 kd_0 rfl (Nat.le_of_ble_eq_true rfl) (Nat.le_of_ble_eq_true rfl) (c_N_lookAtKeys (by omega) q4) ?_
    refine x_aload_n d_N_open_14 rfl 0 rfl ?_
    refine x_iload_n d_N_open_15 rfl 1 rfl ?_
    obtain ⟨v7, q6, h⟩ := bd_inv h
    refine y_V1i (v := v7) (S1 := S5) d_N_open_16 ml_0_306 kd_0 rfl (Nat.le_of_ble_eq_true rfl) (Nat.le_of_ble_eq_true rfl) (c_N_openAt (by omega) q6) ?_
    obtain rfl := Option.some.inj h
    exact x_ret (r := some (.int v7)) d_N_open_19 ⟨_, rfl, rfl⟩
  · replace h := ite_t c3 h
    refine x_iconst d_N_open_8 ic_m1 ?_
    obtain rfl := Option.some.inj h
    exact x_ret (r := some (.int (-1 : Int32))) d_N_open_9 ⟨_, rfl, rfl⟩
/-! NinetyPlayersModel.openAt -/
def b_M_openAt_36 (F G : Nat) (S : St) (z1 : Int32) (z2 : Int32) (z3 : Int32) (k104 : Int32 → Option (Int32)) (rec : Int32 → Int32 → Option (Int32)) (w4 : Int32) (w5 : Int32) : Option (Int32) :=
  if (S.1 78 48) ≤ w5 then k104 w4 else if w4 = 0 then k104 w4 else gd (inB z1 12) (if (((S.1 103 z1.toNatClampNeg) >>> (w5 &&& 31)) &&& (1 : Int32)) = 0 then lt (w5 + 1) fun v8 => rec (1 : Int32) v8 else gd (inB ((30 : Int32) + w5) 41) (gd (inB ((30 : Int32) + z3) 41) (if (S.1 78 52) < ((S.1 101 ((30 : Int32) + w5).toNatClampNeg) - (S.1 101 ((30 : Int32) + z3).toNatClampNeg)) then lt (w5 + 1) fun v13 => rec (0 : Int32) v13 else lt (w5 + 1) fun v15 => rec (1 : Int32) v15)))
def j_M_openAt_104 (F G : Nat) (S : St) (z1 : Int32) (rec : Int32 → Int32 → Option (Int32)) (_ : St) (y2 : Int32) (y3 : Int32) (y4 : Int32) : Option (Int32) :=
  bd (fM_truth F G S y4) fun v20 => lt (y2 ||| (v20 <<< (y3 &&& 31))) fun v21 => lt (y3 + 1) fun v23 => rec v21 v23
def b_M_openAt_4 (F G : Nat) (S : St) (z1 : Int32) (rec : Int32 → Int32 → Option (Int32)) (w2 : Int32) (w3 : Int32) : Option (Int32) :=
  if (S.1 78 48) ≤ w3 then some w2 else gd (inB z1 12) (if (((S.1 103 z1.toNatClampNeg) >>> (w3 &&& 31)) &&& (1 : Int32)) = (1 : Int32) then fx2 (b_M_openAt_36 F G S z1 w2 w3 (fun v18 => j_M_openAt_104 F G S z1 rec  S w2 w3 v18)) F (1 : Int32) (0 : Int32) else fx2 (b_M_openAt_36 F G S z1 w2 w3 (fun v17 => j_M_openAt_104 F G S z1 rec  S w2 w3 v17)) F (0 : Int32) (0 : Int32))
def fM_openAt (F G : Nat) (S : St) (p1 : Int32) : Option (Int32) :=
  fx2 (b_M_openAt_4 F G S p1) F (0 : Int32) (0 : Int32)
set_option maxRecDepth 100000 in
set_option maxHeartbeats 4000000 in
theorem T_M_openAt_36 {X : Nat × (Nat → Int32)} {D F G : Nat} (hD : 1 ≤ D + 1) {S : St} {z1 : Int32} {z2 : Int32} {z3 : Int32} {k104 : Int32 → Option (Int32)} (hk104 : ∀ (u4 : Int32) (res : Int32), k104 u4 = some res → Ek X (D + 1) mM_openAt 104 [(0, .ref 78), (1, .int z1), (2, .int z2), (3, .int z3), (4, .int u4)] [] S (some (.int res)) S) : ∀ (f : Nat) (w4 : Int32) (w5 : Int32) (res : Int32), fx2 (b_M_openAt_36 F G S z1 z2 z3 k104 ) f w4 w5 = some res → Ek X (D + 1) mM_openAt 36 [(0, .ref 78), (1, .int z1), (2, .int z2), (3, .int z3), (4, .int w4), (5, .int w5)] [] S (some (.int res)) S := by
  refine fx2_ind ?_
  intro rec ih w4 w5 res h
  unfold b_M_openAt_36 at h
  refine x_iload d_M_openAt_36 5 rfl ?_
  refine x_aload_n d_M_openAt_38 rfl 0 rfl ?_
  refine y_getI d_M_openAt_39 fl_11_322 rfl kd_78 ?_
  refine x_icmp_ge (tgt := 104) d_M_openAt_42 rfl (fun c4 => ?_) (fun c4 => ?_)
  · replace h := ite_t c4 h
    refine y_pick (L1 := [(0, .ref 78), (1, .int z1), (2, .int z2), (3, .int z3), (4, .int w4)]) [0, 1, 2, 3, 4] rfl ?_
    exact hk104 w4 _ h
  · replace h := ite_f c4 h
    refine x_iload d_M_openAt_45 4 rfl ?_
    refine x_if_eq (tgt := 104) d_M_openAt_47 rfl (fun c5 => ?_) (fun c5 => ?_)
    · replace h := ite_t c5 h
      refine y_pick (L1 := [(0, .ref 78), (1, .int z1), (2, .int z2), (3, .int z3), (4, .int w4)]) [0, 1, 2, 3, 4] rfl ?_
      exact hk104 w4 _ h
    · replace h := ite_f c5 h
      refine x_aload_n d_M_openAt_50 rfl 0 rfl ?_
      refine y_getR d_M_openAt_51 fl_11_102 rfl kd_78 rr_78_61 ?_
      refine x_iload_n d_M_openAt_54 rfl 1 rfl ?_
      obtain ⟨g6, h⟩ := gd_inv h
      refine y_iald d_M_openAt_55 kd_103 g6 ?_
      refine x_iload d_M_openAt_56 5 rfl ?_
      refine x_ishr d_M_openAt_58 ?_
      refine x_iconst d_M_openAt_59 ic_1 ?_
      refine x_iand d_M_openAt_60 ?_
      refine x_if_eq (tgt := 91) d_M_openAt_61 rfl (fun c7 => ?_) (fun c7 => ?_)
      · replace h := ite_t c7 h
        refine x_iconst d_M_openAt_91 ic_1 ?_
        refine x_goto (tgt := 96) d_M_openAt_92 rfl ?_
        refine x_istore (L1 := [(0, .ref 78), (1, .int z1), (2, .int z2), (3, .int z3), (4, .int (1 : Int32)), (5, .int w5)]) d_M_openAt_96 (Nat.le_of_ble_eq_true rfl) rfl rfl ?_
        obtain ⟨v8, e9, h⟩ := lt_inv h
        refine y_iinc (L1 := [(0, .ref 78), (1, .int z1), (2, .int z2), (3, .int z3), (4, .int (1 : Int32)), (5, .int v8)]) e9 ic_1 d_M_openAt_98 5 rfl (Nat.le_of_ble_eq_true rfl) rfl rfl ?_
        refine x_goto (tgt := 36) d_M_openAt_101 rfl ?_
        exact ih (1 : Int32) v8 _ h
      · replace h := ite_f c7 h
        refine x_aload_n d_M_openAt_64 rfl 0 rfl ?_
        refine y_getR d_M_openAt_65 fl_11_96 rfl kd_78 rr_78_59 ?_
        refine x_bipush d_M_openAt_68 bp_30 ?_
        refine x_iload d_M_openAt_70 5 rfl ?_
        refine x_iadd d_M_openAt_72 ?_
        obtain ⟨g10, h⟩ := gd_inv h
        refine y_iald d_M_openAt_73 kd_101 g10 ?_
        refine x_aload_n d_M_openAt_74 rfl 0 rfl ?_
        refine y_getR d_M_openAt_75 fl_11_96 rfl kd_78 rr_78_59 ?_
        refine x_bipush d_M_openAt_78 bp_30 ?_
        refine x_iload_n d_M_openAt_80 rfl 3 rfl ?_
        refine x_iadd d_M_openAt_81 ?_
        obtain ⟨g11, h⟩ := gd_inv h
        refine y_iald d_M_openAt_82 kd_101 g11 ?_
        refine x_isub d_M_openAt_83 ?_
        refine x_aload_n d_M_openAt_84 rfl 0 rfl ?_
        refine y_getI d_M_openAt_85 fl_11_90 rfl kd_78 ?_
        refine x_icmp_gt (tgt := 95) d_M_openAt_88 rfl (fun c12 => ?_) (fun c12 => ?_)
        · replace h := ite_t c12 h
          refine x_iconst d_M_openAt_95 ic_0 ?_
          refine x_istore (L1 := [(0, .ref 78), (1, .int z1), (2, .int z2), (3, .int z3), (4, .int (0 : Int32)), (5, .int w5)]) d_M_openAt_96 (Nat.le_of_ble_eq_true rfl) rfl rfl ?_
          obtain ⟨v13, e14, h⟩ := lt_inv h
          refine y_iinc (L1 := [(0, .ref 78), (1, .int z1), (2, .int z2), (3, .int z3), (4, .int (0 : Int32)), (5, .int v13)]) e14 ic_1 d_M_openAt_98 5 rfl (Nat.le_of_ble_eq_true rfl) rfl rfl ?_
          refine x_goto (tgt := 36) d_M_openAt_101 rfl ?_
          exact ih (0 : Int32) v13 _ h
        · replace h := ite_f c12 h
          refine x_iconst d_M_openAt_91 ic_1 ?_
          refine x_goto (tgt := 96) d_M_openAt_92 rfl ?_
          refine x_istore (L1 := [(0, .ref 78), (1, .int z1), (2, .int z2), (3, .int z3), (4, .int (1 : Int32)), (5, .int w5)]) d_M_openAt_96 (Nat.le_of_ble_eq_true rfl) rfl rfl ?_
          obtain ⟨v15, e16, h⟩ := lt_inv h
          refine y_iinc (L1 := [(0, .ref 78), (1, .int z1), (2, .int z2), (3, .int z3), (4, .int (1 : Int32)), (5, .int v15)]) e16 ic_1 d_M_openAt_98 5 rfl (Nat.le_of_ble_eq_true rfl) rfl rfl ?_
          refine x_goto (tgt := 36) d_M_openAt_101 rfl ?_
          exact ih (1 : Int32) v15 _ h
set_option maxRecDepth 100000 in
set_option maxHeartbeats 4000000 in
theorem T_M_openAt_4 {X : Nat × (Nat → Int32)} {D F G : Nat} (hD : 1 ≤ D + 1) {S : St} {z1 : Int32} : ∀ (f : Nat) (w2 : Int32) (w3 : Int32) (res : Int32), fx2 (b_M_openAt_4 F G S z1 ) f w2 w3 = some res → Ek X (D + 1) mM_openAt 4 [(0, .ref 78), (1, .int z1), (2, .int w2), (3, .int w3)] [] S (some (.int res)) S := by
  refine fx2_ind ?_
  intro rec ih w2 w3 res h
  unfold b_M_openAt_4 at h
  have J104 : ∀ (y2 : Int32) (y3 : Int32) (y4 : Int32) (res : Int32), j_M_openAt_104 F G S z1 rec S y2 y3 y4 = some res → Ek X (D + 1) mM_openAt 104 [(0, .ref 78), (1, .int z1), (2, .int y2), (3, .int y3), (4, .int y4)] [] S (some (.int res)) S := by
    intro y2 y3 y4 res h
    unfold j_M_openAt_104 at h
    refine x_iload_n d_M_openAt_104 rfl 2 rfl ?_
    refine x_iload d_M_openAt_105 4 rfl ?_
    obtain ⟨v20, q19, h⟩ := bd_inv h
    refine y_S1i (v := v20) (S1 := S) d_M_openAt_107 ml_11_318 (Nat.le_of_ble_eq_true rfl) (Nat.le_of_ble_eq_true rfl) (c_M_truth (by omega) q19) ?_
    refine x_iload_n d_M_openAt_110 rfl 3 rfl ?_
    refine x_ishl d_M_openAt_111 ?_
    refine x_ior d_M_openAt_112 ?_
    obtain ⟨v21, e22, h⟩ := lt_inv h
    refine y_istore_n (L1 := [(0, .ref 78), (1, .int z1), (2, .int v21), (3, .int y3), (4, .int y4)]) e22 d_M_openAt_113 rfl (Nat.le_of_ble_eq_true rfl) rfl rfl ?_
    obtain ⟨v23, e24, h⟩ := lt_inv h
    refine y_iinc (L1 := [(0, .ref 78), (1, .int z1), (2, .int v21), (3, .int v23), (4, .int y4)]) e24 ic_1 d_M_openAt_114 3 rfl (Nat.le_of_ble_eq_true rfl) rfl rfl ?_
    refine x_goto (tgt := 4) d_M_openAt_117 rfl ?_
    refine y_pick (L1 := [(0, .ref 78), (1, .int z1), (2, .int v21), (3, .int v23)]) [0, 1, 2, 3] rfl ?_
    exact ih v21 v23 _ h
  refine x_iload_n d_M_openAt_4 rfl 3 rfl ?_
  refine x_aload_n d_M_openAt_5 rfl 0 rfl ?_
  refine y_getI d_M_openAt_6 fl_11_322 rfl kd_78 ?_
  refine x_icmp_ge (tgt := 120) d_M_openAt_9 rfl (fun c1 => ?_) (fun c1 => ?_)
  · replace h := ite_t c1 h
    refine x_iload_n d_M_openAt_120 rfl 2 rfl ?_
    obtain rfl := Option.some.inj h
    exact x_ret (r := some (.int w2)) d_M_openAt_121 ⟨_, rfl, rfl⟩
  · replace h := ite_f c1 h
    refine x_aload_n d_M_openAt_12 rfl 0 rfl ?_
    refine y_getR d_M_openAt_13 fl_11_102 rfl kd_78 rr_78_61 ?_
    refine x_iload_n d_M_openAt_16 rfl 1 rfl ?_
    obtain ⟨g2, h⟩ := gd_inv h
    refine y_iald d_M_openAt_17 kd_103 g2 ?_
    refine x_iload_n d_M_openAt_18 rfl 3 rfl ?_
    refine x_ishr d_M_openAt_19 ?_
    refine x_iconst d_M_openAt_20 ic_1 ?_
    refine x_iand d_M_openAt_21 ?_
    refine x_iconst d_M_openAt_22 ic_1 ?_
    refine x_icmp_ne (tgt := 30) d_M_openAt_23 rfl (fun c3 => ?_) (fun c3 => ?_)
    · replace h := ite_f c3 h
      refine x_iconst d_M_openAt_30 ic_0 ?_
      refine x_istore (L1 := [(0, .ref 78), (1, .int z1), (2, .int w2), (3, .int w3), (4, .int (0 : Int32))]) d_M_openAt_31 (Nat.le_of_ble_eq_true rfl) rfl rfl ?_
      refine x_iconst d_M_openAt_33 ic_0 ?_
      refine x_istore (L1 := [(0, .ref 78), (1, .int z1), (2, .int w2), (3, .int w3), (4, .int (0 : Int32)), (5, .int (0 : Int32))]) d_M_openAt_34 (Nat.le_of_ble_eq_true rfl) rfl rfl ?_
      refine T_M_openAt_36 (by omega)  ?_ F (0 : Int32) (0 : Int32) _ h
      · intro v17 res h
        exact J104 w2 w3 v17 _ h
    · replace h := ite_t c3 h
      refine x_iconst d_M_openAt_26 ic_1 ?_
      refine x_goto (tgt := 31) d_M_openAt_27 rfl ?_
      refine x_istore (L1 := [(0, .ref 78), (1, .int z1), (2, .int w2), (3, .int w3), (4, .int (1 : Int32))]) d_M_openAt_31 (Nat.le_of_ble_eq_true rfl) rfl rfl ?_
      refine x_iconst d_M_openAt_33 ic_0 ?_
      refine x_istore (L1 := [(0, .ref 78), (1, .int z1), (2, .int w2), (3, .int w3), (4, .int (1 : Int32)), (5, .int (0 : Int32))]) d_M_openAt_34 (Nat.le_of_ble_eq_true rfl) rfl rfl ?_
      refine T_M_openAt_36 (by omega)  ?_ F (1 : Int32) (0 : Int32) _ h
      · intro v18 res h
        exact J104 w2 w3 v18 _ h
set_option maxRecDepth 100000 in
set_option maxHeartbeats 4000000 in
theorem c_M_openAt {X : Nat × (Nat → Int32)} {D F G : Nat} (hD : 1 ≤ D) {S : St} {p1 : Int32} {res : Int32} (h : fM_openAt F G S p1 = some res) : Ek X (D) mM_openAt 0 [(0, .ref 78), (1, .int p1)] [] S (some (.int res)) S := by
  obtain ⟨D, rfl⟩ : ∃ E, D = E + 1 := ⟨D - 1, by omega⟩
  unfold fM_openAt at h
  refine x_iconst d_M_openAt_0 ic_0 ?_
  refine x_istore_n (L1 := [(0, .ref 78), (1, .int p1), (2, .int (0 : Int32))]) d_M_openAt_1 rfl (Nat.le_of_ble_eq_true rfl) rfl rfl ?_
  refine x_iconst d_M_openAt_2 ic_0 ?_
  refine x_istore_n (L1 := [(0, .ref 78), (1, .int p1), (2, .int (0 : Int32)), (3, .int (0 : Int32))]) d_M_openAt_3 rfl (Nat.le_of_ble_eq_true rfl) rfl rfl ?_
  refine T_M_openAt_4 (by omega)   F (0 : Int32) (0 : Int32) _ h
/-! NinetyPlayersModel.open -/
def fM_open (F G : Nat) (S : St) (p1 : Int32) : Option (Int32 × St) :=
  bd (fM_isBeat F G S p1) fun v2 => if v2 = 0 then some ((-1 : Int32), S) else bd (fM_fill F G S ) fun S5 => bd (fM_laySound F G S5 ) fun S7 => bd (fM_openAt F G S7 p1) fun v9 => some (v9, S7)
set_option maxRecDepth 100000 in
set_option maxHeartbeats 4000000 in
theorem c_M_open {X : Nat × (Nat → Int32)} {D F G : Nat} (hD : 3 ≤ D) {S : St} {p1 : Int32} {res : Int32 × St} (h : fM_open F G S p1 = some res) : Ek X (D) mM_open 0 [(0, .ref 78), (1, .int p1)] [] S (some (.int res.1)) res.2 := by
  obtain ⟨D, rfl⟩ : ∃ E, D = E + 1 := ⟨D - 1, by omega⟩
  unfold fM_open at h
  refine x_aload_n d_M_open_0 rfl 0 rfl ?_
  refine x_iload_n d_M_open_1 rfl 1 rfl ?_
  obtain ⟨v2, q1, h⟩ := bd_inv h
  refine y_V1i (v := v2) (S1 := S) d_M_open_2 ml_11_473 kd_78 rfl (Nat.le_of_ble_eq_true rfl) (Nat.le_of_ble_eq_true rfl) (c_M_isBeat (by omega) q1) ?_
  refine x_if_ne (tgt := 10) d_M_open_5 rfl (fun c3 => ?_) (fun c3 => ?_)
  · replace h := ite_f c3 h
    refine x_aload_n d_M_open_10 rfl 0 rfl ?_
    obtain ⟨S5, q4, h⟩ := bd_inv h
    refine y_V0v (S1 := S5) d_M_open_11 ml_11_464 kd_78 rfl (Nat.le_of_ble_eq_true rfl) (Nat.le_of_ble_eq_true rfl) (c_M_fill (by omega) q4) ?_
    refine x_aload_n d_M_open_14 rfl 0 rfl ?_
    obtain ⟨S7, q6, h⟩ := bd_inv h
    refine y_V0v (S1 := S7) d_M_open_15 ml_11_479 kd_78 rfl (Nat.le_of_ble_eq_true rfl) (Nat.le_of_ble_eq_true rfl) (c_M_laySound (by omega) q6) ?_
    refine x_aload_n d_M_open_18 rfl 0 rfl ?_
    refine x_iload_n d_M_open_19 rfl 1 rfl ?_
    obtain ⟨v9, q8, h⟩ := bd_inv h
    refine y_V1i (v := v9) (S1 := S7) d_M_open_20 ml_11_533 kd_78 rfl (Nat.le_of_ble_eq_true rfl) (Nat.le_of_ble_eq_true rfl) (c_M_openAt (by omega) q8) ?_
    obtain rfl := Option.some.inj h
    exact x_ret (r := some (.int v9)) d_M_open_23 ⟨_, rfl, rfl⟩
  · replace h := ite_t c3 h
    refine x_iconst d_M_open_8 ic_m1 ?_
    obtain rfl := Option.some.inj h
    exact x_ret (r := some (.int (-1 : Int32))) d_M_open_9 ⟨_, rfl, rfl⟩
/-! NinetyPlayers.lost -/
def j_N_lost_48 (F G : Nat) (S : St) (rec : Int32 → Int32 → Option (Int32 × St)) (_ : St) (y1 : Int32) (y2 : Int32) (s0 : Int32) : Option (Int32 × St) :=
  if s0 = 0 then lt (y2 + 1) fun v11 => rec y1 v11 else gd (isSc S.2.2.1) (gd (inB y2 10) (bd (fN_openAt F G S (S.1 (S.2.2.1 + 5) y2.toNatClampNeg)) fun v16 => if ((v16 >>> (y2 &&& 31)) &&& (1 : Int32)) = 0 then lt (y1 ||| ((1 : Int32) <<< (y2 &&& 31))) fun v20 => lt (y2 + 1) fun v22 => rec v20 v22 else lt (y2 + 1) fun v18 => rec y1 v18))
def j_N_lost_47 (F G : Nat) (S : St) (rec : Int32 → Int32 → Option (Int32 × St)) (_ : St) (y1 : Int32) (y2 : Int32) : Option (Int32 × St) :=
  j_N_lost_48 F G S rec  S y1 y2 (0 : Int32)
def b_N_lost_8 (F G : Nat) (S : St) (rec : Int32 → Int32 → Option (Int32 × St)) (w1 : Int32) (w2 : Int32) : Option (Int32 × St) :=
  gd (isSc S.2.2.1) (if (S.1 S.2.2.1 6) ≤ w2 then some (w1, S) else bd (fS_roleOf F G S S.2.2.1 w2) fun v6 => if v6 = (2 : Int32) then gd (inB w2 10) (if (S.1 31 w2.toNatClampNeg) = 0 then j_N_lost_47 F G S rec  S w1 w2 else j_N_lost_48 F G S rec  S w1 w2 (1 : Int32)) else j_N_lost_47 F G S rec  S w1 w2)
def fN_lost (F G : Nat) (S : St) : Option (Int32 × St) :=
  bd (fN_lookAtKeys F G S ) fun S2 => fx2 (b_N_lost_8 F G S2) F (0 : Int32) (0 : Int32)
set_option maxRecDepth 100000 in
set_option maxHeartbeats 4000000 in
theorem T_N_lost_8 {X : Nat × (Nat → Int32)} {D F G : Nat} (hD : 3 ≤ D + 1) {S : St} : ∀ (f : Nat) (w1 : Int32) (w2 : Int32) (res : Int32 × St), fx2 (b_N_lost_8 F G S ) f w1 w2 = some res → Ek X (D + 1) mN_lost 8 [(0, .ref 0), (1, .int w1), (2, .int w2)] [] S (some (.int res.1)) res.2 := by
  refine fx2_ind ?_
  intro rec ih w1 w2 res h
  unfold b_N_lost_8 at h
  have J48 : ∀ (y1 : Int32) (y2 : Int32) (s0 : Int32) (res : Int32 × St), j_N_lost_48 F G S rec S y1 y2 s0 = some res → Ek X (D + 1) mN_lost 48 [(0, .ref 0), (1, .int y1), (2, .int y2)] [.int s0] S (some (.int res.1)) res.2 := by
    intro y1 y2 s0 res h
    unfold j_N_lost_48 at h
    refine x_istore_n (L1 := [(0, .ref 0), (1, .int y1), (2, .int y2), (3, .int s0)]) d_N_lost_48 rfl (Nat.le_of_ble_eq_true rfl) rfl rfl ?_
    refine x_iload_n d_N_lost_49 rfl 3 rfl ?_
    refine x_if_eq (tgt := 79) d_N_lost_50 rfl (fun c10 => ?_) (fun c10 => ?_)
    · replace h := ite_t c10 h
      obtain ⟨v11, e12, h⟩ := lt_inv h
      refine y_iinc (L1 := [(0, .ref 0), (1, .int y1), (2, .int v11), (3, .int s0)]) e12 ic_1 d_N_lost_79 2 rfl (Nat.le_of_ble_eq_true rfl) rfl rfl ?_
      refine x_goto (tgt := 8) d_N_lost_82 rfl ?_
      refine y_pick (L1 := [(0, .ref 0), (1, .int y1), (2, .int v11)]) [0, 1, 2] rfl ?_
      exact ih y1 v11 _ h
    · replace h := ite_f c10 h
      refine x_aload_n d_N_lost_53 rfl 0 rfl ?_
      refine x_aload_n d_N_lost_54 rfl 0 rfl ?_
      refine y_getR d_N_lost_55 fl_0_25 rfl kd_0 rr_told ?_
      obtain ⟨g13, h⟩ := gd_inv h
      refine y_getR d_N_lost_58 fl_0_132 rfl (ksSc g13) (rrSc_11 g13) ?_
      refine x_iload_n d_N_lost_61 rfl 2 rfl ?_
      obtain ⟨g14, h⟩ := gd_inv h
      refine y_iald d_N_lost_62 (ksSc_5 g13) g14 ?_
      obtain ⟨v16, q15, h⟩ := bd_inv h
      refine y_V1i (v := v16) (S1 := S) d_N_lost_63 ml_0_306 kd_0 rfl (Nat.le_of_ble_eq_true rfl) (Nat.le_of_ble_eq_true rfl) (c_N_openAt (by omega) q15) ?_
      refine x_iload_n d_N_lost_66 rfl 2 rfl ?_
      refine x_ishr d_N_lost_67 ?_
      refine x_iconst d_N_lost_68 ic_1 ?_
      refine x_iand d_N_lost_69 ?_
      refine x_if_ne (tgt := 79) d_N_lost_70 rfl (fun c17 => ?_) (fun c17 => ?_)
      · replace h := ite_f c17 h
        obtain ⟨v18, e19, h⟩ := lt_inv h
        refine y_iinc (L1 := [(0, .ref 0), (1, .int y1), (2, .int v18), (3, .int s0)]) e19 ic_1 d_N_lost_79 2 rfl (Nat.le_of_ble_eq_true rfl) rfl rfl ?_
        refine x_goto (tgt := 8) d_N_lost_82 rfl ?_
        refine y_pick (L1 := [(0, .ref 0), (1, .int y1), (2, .int v18)]) [0, 1, 2] rfl ?_
        exact ih y1 v18 _ h
      · replace h := ite_t c17 h
        refine x_iload_n d_N_lost_73 rfl 1 rfl ?_
        refine x_iconst d_N_lost_74 ic_1 ?_
        refine x_iload_n d_N_lost_75 rfl 2 rfl ?_
        refine x_ishl d_N_lost_76 ?_
        refine x_ior d_N_lost_77 ?_
        obtain ⟨v20, e21, h⟩ := lt_inv h
        refine y_istore_n (L1 := [(0, .ref 0), (1, .int v20), (2, .int y2), (3, .int s0)]) e21 d_N_lost_78 rfl (Nat.le_of_ble_eq_true rfl) rfl rfl ?_
        obtain ⟨v22, e23, h⟩ := lt_inv h
        refine y_iinc (L1 := [(0, .ref 0), (1, .int v20), (2, .int v22), (3, .int s0)]) e23 ic_1 d_N_lost_79 2 rfl (Nat.le_of_ble_eq_true rfl) rfl rfl ?_
        refine x_goto (tgt := 8) d_N_lost_82 rfl ?_
        refine y_pick (L1 := [(0, .ref 0), (1, .int v20), (2, .int v22)]) [0, 1, 2] rfl ?_
        exact ih v20 v22 _ h
  have J47 : ∀ (y1 : Int32) (y2 : Int32) (res : Int32 × St), j_N_lost_47 F G S rec S y1 y2 = some res → Ek X (D + 1) mN_lost 47 [(0, .ref 0), (1, .int y1), (2, .int y2)] [] S (some (.int res.1)) res.2 := by
    intro y1 y2 res h
    unfold j_N_lost_47 at h
    refine x_iconst d_N_lost_47 ic_0 ?_
    exact J48 y1 y2 (0 : Int32) _ h
  refine x_iload_n d_N_lost_8 rfl 2 rfl ?_
  refine x_aload_n d_N_lost_9 rfl 0 rfl ?_
  refine y_getR d_N_lost_10 fl_0_25 rfl kd_0 rr_told ?_
  obtain ⟨g3, h⟩ := gd_inv h
  refine y_getI d_N_lost_13 fl_0_117 rfl (ksSc g3) ?_
  refine x_icmp_ge (tgt := 85) d_N_lost_16 rfl (fun c4 => ?_) (fun c4 => ?_)
  · replace h := ite_t c4 h
    refine x_iload_n d_N_lost_85 rfl 1 rfl ?_
    obtain rfl := Option.some.inj h
    exact x_ret (r := some (.int w1)) d_N_lost_86 ⟨_, rfl, rfl⟩
  · replace h := ite_f c4 h
    refine x_aload_n d_N_lost_19 rfl 0 rfl ?_
    refine y_getR d_N_lost_20 fl_0_25 rfl kd_0 rr_told ?_
    refine x_iload_n d_N_lost_23 rfl 2 rfl ?_
    obtain ⟨v6, q5, h⟩ := bd_inv h
    refine y_V1i (v := v6) (S1 := S) d_N_lost_24 ml_0_203 (ksSc g3) rfl (Nat.le_of_ble_eq_true rfl) (Nat.le_of_ble_eq_true rfl) (c_S_roleOf (by omega) q5) ?_
    refine x_iconst d_N_lost_27 ic_2 ?_
    refine x_icmp_ne (tgt := 47) d_N_lost_28 rfl (fun c7 => ?_) (fun c7 => ?_)
    · replace h := ite_f c7 h
      exact J47 w1 w2 _ h
    · replace h := ite_t c7 h
      refine x_aload_n d_N_lost_31 rfl 0 rfl ?_
      refine y_getR d_N_lost_32 fl_0_32 rfl kd_0 rr_0_4 ?_
      refine y_getR d_N_lost_35 fl_0_144 rfl kd_30 rr_30_2 ?_
      refine x_iload_n d_N_lost_38 rfl 2 rfl ?_
      obtain ⟨g8, h⟩ := gd_inv h
      refine y_iald d_N_lost_39 kd_31 g8 ?_
      refine x_if_eq (tgt := 47) d_N_lost_40 rfl (fun c9 => ?_) (fun c9 => ?_)
      · replace h := ite_t c9 h
        exact J47 w1 w2 _ h
      · replace h := ite_f c9 h
        refine x_iconst d_N_lost_43 ic_1 ?_
        refine x_goto (tgt := 48) d_N_lost_44 rfl ?_
        exact J48 w1 w2 (1 : Int32) _ h
set_option maxRecDepth 100000 in
set_option maxHeartbeats 4000000 in
theorem c_N_lost {X : Nat × (Nat → Int32)} {D F G : Nat} (hD : 3 ≤ D) {S : St} {res : Int32 × St} (h : fN_lost F G S  = some res) : Ek X (D) mN_lost 0 [(0, .ref 0)] [] S (some (.int res.1)) res.2 := by
  obtain ⟨D, rfl⟩ : ∃ E, D = E + 1 := ⟨D - 1, by omega⟩
  unfold fN_lost at h
  refine x_aload_n d_N_lost_0 rfl 0 rfl ?_
  obtain ⟨S2, q1, h⟩ := bd_inv h
  refine y_V0v (S1 := S2) d_N_lost_1 ml_0_173 kd_0 rfl (Nat.le_of_ble_eq_true rfl) (Nat.le_of_ble_eq_true rfl) (c_N_lookAtKeys (by omega) q1) ?_
  refine x_iconst d_N_lost_4 ic_0 ?_
  refine x_istore_n (L1 := [(0, .ref 0), (1, .int (0 : Int32))]) d_N_lost_5 rfl (Nat.le_of_ble_eq_true rfl) rfl rfl ?_
  refine x_iconst d_N_lost_6 ic_0 ?_
  refine x_istore_n (L1 := [(0, .ref 0), (1, .int (0 : Int32)), (2, .int (0 : Int32))]) d_N_lost_7 rfl (Nat.le_of_ble_eq_true rfl) rfl rfl ?_
  refine T_N_lost_8 (by omega)   F (0 : Int32) (0 : Int32) _ h
/-! NinetyPlayersModel.tunes -/
def j_M_tunes_33 (F G : Nat) (S : St) (rec : Int32 → Int32 → Option (Int32)) (_ : St) (y2 : Int32) (s0 : Int32) (s1 : Int32) : Option (Int32) :=
  bd (fM_truth F G S s1) fun v6 => lt (s0 ||| (v6 <<< (y2 &&& 31))) fun v7 => lt (y2 + 1) fun v9 => rec v7 v9
def b_M_tunes_4 (F G : Nat) (S : St) (rec : Int32 → Int32 → Option (Int32)) (w1 : Int32) (w2 : Int32) : Option (Int32) :=
  if (S.1 78 48) ≤ w2 then some w1 else gd (inB w2 10) (gd (inB (S.1 95 w2.toNatClampNeg) 4) (if (S.1 94 (S.1 95 w2.toNatClampNeg).toNatClampNeg) = (2 : Int32) then j_M_tunes_33 F G S rec  S w2 w1 (1 : Int32) else j_M_tunes_33 F G S rec  S w2 w1 (0 : Int32)))
def fM_tunes (F G : Nat) (S : St) : Option (Int32) :=
  fx2 (b_M_tunes_4 F G S) F (0 : Int32) (0 : Int32)
set_option maxRecDepth 100000 in
set_option maxHeartbeats 4000000 in
theorem T_M_tunes_4 {X : Nat × (Nat → Int32)} {D F G : Nat} (hD : 1 ≤ D + 1) {S : St} : ∀ (f : Nat) (w1 : Int32) (w2 : Int32) (res : Int32), fx2 (b_M_tunes_4 F G S ) f w1 w2 = some res → Ek X (D + 1) mM_tunes 4 [(0, .ref 78), (1, .int w1), (2, .int w2)] [] S (some (.int res)) S := by
  refine fx2_ind ?_
  intro rec ih w1 w2 res h
  unfold b_M_tunes_4 at h
  have J33 : ∀ (y2 : Int32) (s0 : Int32) (s1 : Int32) (res : Int32), j_M_tunes_33 F G S rec S y2 s0 s1 = some res → Ek X (D + 1) mM_tunes 33 [(0, .ref 78), (2, .int y2)] [.int s1, .int s0] S (some (.int res)) S := by
    intro y2 s0 s1 res h
    unfold j_M_tunes_33 at h
    obtain ⟨v6, q5, h⟩ := bd_inv h
    refine y_S1i (v := v6) (S1 := S) d_M_tunes_33 ml_11_318 (Nat.le_of_ble_eq_true rfl) (Nat.le_of_ble_eq_true rfl) (c_M_truth (by omega) q5) ?_
    refine x_iload_n d_M_tunes_36 rfl 1 rfl ?_
    refine x_ishl d_M_tunes_37 ?_
    refine x_ior d_M_tunes_38 ?_
    obtain ⟨v7, e8, h⟩ := lt_inv h
    refine y_istore_n (L1 := [(0, .ref 78), (1, .int v7), (2, .int y2)]) e8 d_M_tunes_39 rfl (Nat.le_of_ble_eq_true rfl) rfl rfl ?_
    obtain ⟨v9, e10, h⟩ := lt_inv h
    refine y_iinc (L1 := [(0, .ref 78), (1, .int v7), (2, .int v9)]) e10 ic_1 d_M_tunes_40 2 rfl (Nat.le_of_ble_eq_true rfl) rfl rfl ?_
    refine x_goto (tgt := 4) d_M_tunes_43 rfl ?_
    exact ih v7 v9 _ h
  refine x_iload_n d_M_tunes_4 rfl 2 rfl ?_
  refine x_aload_n d_M_tunes_5 rfl 0 rfl ?_
  refine y_getI d_M_tunes_6 fl_11_322 rfl kd_78 ?_
  refine x_icmp_ge (tgt := 46) d_M_tunes_9 rfl (fun c1 => ?_) (fun c1 => ?_)
  · replace h := ite_t c1 h
    refine x_iload_n d_M_tunes_46 rfl 1 rfl ?_
    obtain rfl := Option.some.inj h
    exact x_ret (r := some (.int w1)) d_M_tunes_47 ⟨_, rfl, rfl⟩
  · replace h := ite_f c1 h
    refine x_iload_n d_M_tunes_12 rfl 1 rfl ?_
    refine x_aload_n d_M_tunes_13 rfl 0 rfl ?_
    refine y_getR d_M_tunes_14 fl_11_60 rfl kd_78 rr_78_33 ?_
    refine x_aload_n d_M_tunes_17 rfl 0 rfl ?_
    refine y_getR d_M_tunes_18 fl_11_63 rfl kd_78 rr_78_34 ?_
    refine x_iload_n d_M_tunes_21 rfl 2 rfl ?_
    obtain ⟨g2, h⟩ := gd_inv h
    refine y_iald d_M_tunes_22 kd_95 g2 ?_
    obtain ⟨g3, h⟩ := gd_inv h
    refine y_iald d_M_tunes_23 kd_94 g3 ?_
    refine x_iconst d_M_tunes_24 ic_2 ?_
    refine x_icmp_ne (tgt := 32) d_M_tunes_25 rfl (fun c4 => ?_) (fun c4 => ?_)
    · replace h := ite_f c4 h
      refine x_iconst d_M_tunes_32 ic_0 ?_
      refine y_pick (L1 := [(0, .ref 78), (2, .int w2)]) [0, 2] rfl ?_
      exact J33 w2 w1 (0 : Int32) _ h
    · replace h := ite_t c4 h
      refine x_iconst d_M_tunes_28 ic_1 ?_
      refine x_goto (tgt := 33) d_M_tunes_29 rfl ?_
      refine y_pick (L1 := [(0, .ref 78), (2, .int w2)]) [0, 2] rfl ?_
      exact J33 w2 w1 (1 : Int32) _ h
set_option maxRecDepth 100000 in
set_option maxHeartbeats 4000000 in
theorem c_M_tunes {X : Nat × (Nat → Int32)} {D F G : Nat} (hD : 1 ≤ D) {S : St} {res : Int32} (h : fM_tunes F G S  = some res) : Ek X (D) mM_tunes 0 [(0, .ref 78)] [] S (some (.int res)) S := by
  obtain ⟨D, rfl⟩ : ∃ E, D = E + 1 := ⟨D - 1, by omega⟩
  unfold fM_tunes at h
  refine x_iconst d_M_tunes_0 ic_0 ?_
  refine x_istore_n (L1 := [(0, .ref 78), (1, .int (0 : Int32))]) d_M_tunes_1 rfl (Nat.le_of_ble_eq_true rfl) rfl rfl ?_
  refine x_iconst d_M_tunes_2 ic_0 ?_
  refine x_istore_n (L1 := [(0, .ref 78), (1, .int (0 : Int32)), (2, .int (0 : Int32))]) d_M_tunes_3 rfl (Nat.le_of_ble_eq_true rfl) rfl rfl ?_
  refine T_M_tunes_4 (by omega)   F (0 : Int32) (0 : Int32) _ h
/-! NinetyPlayersModel.lost -/
def j_M_lost_58 (F G : Nat) (S : St) (rec : Int32 → Int32 → Option (Int32 × St)) (_ : St) (y2 : Int32) (s0 : Int32) (s1 : Int32) : Option (Int32 × St) :=
  bd (fM_truth F G S s1) fun v15 => lt (s0 ||| (v15 <<< (y2 &&& 31))) fun v16 => lt (y2 + 1) fun v18 => rec v16 v18
def b_M_lost_12 (F G : Nat) (S : St) (rec : Int32 → Int32 → Option (Int32 × St)) (w1 : Int32) (w2 : Int32) : Option (Int32 × St) :=
  if (S.1 78 48) ≤ w2 then some (w1, S) else bd (fM_tunes F G S) fun v7 => bd (fM_given F G S (0 : Int32)) fun v9 => gd (inB w2 10) (bd (fM_openAt F G S (S.1 96 w2.toNatClampNeg)) fun v12 => if (((v7 &&& (v9 ^^^ (-1 : Int32))) &&& (v12 ^^^ (-1 : Int32))) &&& ((1 : Int32) <<< (w2 &&& 31))) = 0 then j_M_lost_58 F G S rec  S w2 w1 (0 : Int32) else j_M_lost_58 F G S rec  S w2 w1 (1 : Int32))
def fM_lost (F G : Nat) (S : St) : Option (Int32 × St) :=
  bd (fM_fill F G S ) fun S2 => bd (fM_laySound F G S2 ) fun S4 => fx2 (b_M_lost_12 F G S4) F (0 : Int32) (0 : Int32)
set_option maxRecDepth 100000 in
set_option maxHeartbeats 4000000 in
theorem T_M_lost_12 {X : Nat × (Nat → Int32)} {D F G : Nat} (hD : 3 ≤ D + 1) {S : St} : ∀ (f : Nat) (w1 : Int32) (w2 : Int32) (res : Int32 × St), fx2 (b_M_lost_12 F G S ) f w1 w2 = some res → Ek X (D + 1) mM_lost 12 [(0, .ref 78), (1, .int w1), (2, .int w2)] [] S (some (.int res.1)) res.2 := by
  refine fx2_ind ?_
  intro rec ih w1 w2 res h
  unfold b_M_lost_12 at h
  have J58 : ∀ (y2 : Int32) (s0 : Int32) (s1 : Int32) (res : Int32 × St), j_M_lost_58 F G S rec S y2 s0 s1 = some res → Ek X (D + 1) mM_lost 58 [(0, .ref 78), (2, .int y2)] [.int s1, .int s0] S (some (.int res.1)) res.2 := by
    intro y2 s0 s1 res h
    unfold j_M_lost_58 at h
    obtain ⟨v15, q14, h⟩ := bd_inv h
    refine y_S1i (v := v15) (S1 := S) d_M_lost_58 ml_11_318 (Nat.le_of_ble_eq_true rfl) (Nat.le_of_ble_eq_true rfl) (c_M_truth (by omega) q14) ?_
    refine x_iload_n d_M_lost_61 rfl 1 rfl ?_
    refine x_ishl d_M_lost_62 ?_
    refine x_ior d_M_lost_63 ?_
    obtain ⟨v16, e17, h⟩ := lt_inv h
    refine y_istore_n (L1 := [(0, .ref 78), (1, .int v16), (2, .int y2)]) e17 d_M_lost_64 rfl (Nat.le_of_ble_eq_true rfl) rfl rfl ?_
    obtain ⟨v18, e19, h⟩ := lt_inv h
    refine y_iinc (L1 := [(0, .ref 78), (1, .int v16), (2, .int v18)]) e19 ic_1 d_M_lost_65 2 rfl (Nat.le_of_ble_eq_true rfl) rfl rfl ?_
    refine x_goto (tgt := 12) d_M_lost_68 rfl ?_
    exact ih v16 v18 _ h
  refine x_iload_n d_M_lost_12 rfl 2 rfl ?_
  refine x_aload_n d_M_lost_13 rfl 0 rfl ?_
  refine y_getI d_M_lost_14 fl_11_322 rfl kd_78 ?_
  refine x_icmp_ge (tgt := 71) d_M_lost_17 rfl (fun c5 => ?_) (fun c5 => ?_)
  · replace h := ite_t c5 h
    refine x_iload_n d_M_lost_71 rfl 1 rfl ?_
    obtain rfl := Option.some.inj h
    exact x_ret (r := some (.int w1)) d_M_lost_72 ⟨_, rfl, rfl⟩
  · replace h := ite_f c5 h
    refine x_iload_n d_M_lost_20 rfl 1 rfl ?_
    refine x_aload_n d_M_lost_21 rfl 0 rfl ?_
    obtain ⟨v7, q6, h⟩ := bd_inv h
    refine y_V0i (v := v7) (S1 := S) d_M_lost_22 ml_11_536 kd_78 rfl (Nat.le_of_ble_eq_true rfl) (Nat.le_of_ble_eq_true rfl) (c_M_tunes (by omega) q6) ?_
    refine x_aload_n d_M_lost_25 rfl 0 rfl ?_
    refine x_iconst d_M_lost_26 ic_0 ?_
    obtain ⟨v9, q8, h⟩ := bd_inv h
    refine y_V1i (v := v9) (S1 := S) d_M_lost_27 ml_11_454 kd_78 rfl (Nat.le_of_ble_eq_true rfl) (Nat.le_of_ble_eq_true rfl) (c_M_given (by omega) q8) ?_
    refine x_iconst d_M_lost_30 ic_m1 ?_
    refine x_ixor d_M_lost_31 ?_
    refine x_iand d_M_lost_32 ?_
    refine x_aload_n d_M_lost_33 rfl 0 rfl ?_
    refine x_aload_n d_M_lost_34 rfl 0 rfl ?_
    refine y_getR d_M_lost_35 fl_11_66 rfl kd_78 rr_78_35 ?_
    refine x_iload_n d_M_lost_38 rfl 2 rfl ?_
    obtain ⟨g10, h⟩ := gd_inv h
    refine y_iald d_M_lost_39 kd_96 g10 ?_
    obtain ⟨v12, q11, h⟩ := bd_inv h
    refine y_V1i (v := v12) (S1 := S) d_M_lost_40 ml_11_533 kd_78 rfl (Nat.le_of_ble_eq_true rfl) (Nat.le_of_ble_eq_true rfl) (c_M_openAt (by omega) q11) ?_
    refine x_iconst d_M_lost_43 ic_m1 ?_
    refine x_ixor d_M_lost_44 ?_
    refine x_iand d_M_lost_45 ?_
    refine x_iconst d_M_lost_46 ic_1 ?_
    refine x_iload_n d_M_lost_47 rfl 2 rfl ?_
    refine x_ishl d_M_lost_48 ?_
    refine x_iand d_M_lost_49 ?_
    refine x_if_eq (tgt := 57) d_M_lost_50 rfl (fun c13 => ?_) (fun c13 => ?_)
    · replace h := ite_t c13 h
      refine x_iconst d_M_lost_57 ic_0 ?_
      refine y_pick (L1 := [(0, .ref 78), (2, .int w2)]) [0, 2] rfl ?_
      exact J58 w2 w1 (0 : Int32) _ h
    · replace h := ite_f c13 h
      refine x_iconst d_M_lost_53 ic_1 ?_
      refine x_goto (tgt := 58) d_M_lost_54 rfl ?_
      refine y_pick (L1 := [(0, .ref 78), (2, .int w2)]) [0, 2] rfl ?_
      exact J58 w2 w1 (1 : Int32) _ h
set_option maxRecDepth 100000 in
set_option maxHeartbeats 4000000 in
theorem c_M_lost {X : Nat × (Nat → Int32)} {D F G : Nat} (hD : 3 ≤ D) {S : St} {res : Int32 × St} (h : fM_lost F G S  = some res) : Ek X (D) mM_lost 0 [(0, .ref 78)] [] S (some (.int res.1)) res.2 := by
  obtain ⟨D, rfl⟩ : ∃ E, D = E + 1 := ⟨D - 1, by omega⟩
  unfold fM_lost at h
  refine x_aload_n d_M_lost_0 rfl 0 rfl ?_
  obtain ⟨S2, q1, h⟩ := bd_inv h
  refine y_V0v (S1 := S2) d_M_lost_1 ml_11_464 kd_78 rfl (Nat.le_of_ble_eq_true rfl) (Nat.le_of_ble_eq_true rfl) (c_M_fill (by omega) q1) ?_
  refine x_aload_n d_M_lost_4 rfl 0 rfl ?_
  obtain ⟨S4, q3, h⟩ := bd_inv h
  refine y_V0v (S1 := S4) d_M_lost_5 ml_11_479 kd_78 rfl (Nat.le_of_ble_eq_true rfl) (Nat.le_of_ble_eq_true rfl) (c_M_laySound (by omega) q3) ?_
  refine x_iconst d_M_lost_8 ic_0 ?_
  refine x_istore_n (L1 := [(0, .ref 78), (1, .int (0 : Int32))]) d_M_lost_9 rfl (Nat.le_of_ble_eq_true rfl) rfl rfl ?_
  refine x_iconst d_M_lost_10 ic_0 ?_
  refine x_istore_n (L1 := [(0, .ref 78), (1, .int (0 : Int32)), (2, .int (0 : Int32))]) d_M_lost_11 rfl (Nat.le_of_ble_eq_true rfl) rfl rfl ?_
  refine T_M_lost_12 (by omega)   F (0 : Int32) (0 : Int32) _ h
/-! NinetyPlayers.gaps -/
def b_N_gaps_8 (F G : Nat) (S : St) (k43 : Int32 → Option (Int32 × St)) (rec : Int32 → Int32 → Option (Int32 × St)) (w1 : Int32) (w2 : Int32) : Option (Int32 × St) :=
  gd (isSc S.2.2.1) (if (S.1 S.2.2.1 6) ≤ w2 then k43 w1 else bd (fS_roleOf F G S S.2.2.1 w2) fun v6 => if v6 = (2 : Int32) then lt (w1 ||| ((1 : Int32) <<< (w2 &&& 31))) fun v10 => lt (w2 + 1) fun v12 => rec v10 v12 else lt (w2 + 1) fun v8 => rec w1 v8)
def b_N_gaps_47 (F G : Nat) (S : St) (z1 : Int32) (rec : Int32 → Int32 → Option (Int32 × St)) (w2 : Int32) (w3 : Int32) : Option (Int32 × St) :=
  gd (isSc S.2.2.1) (if (S.1 S.2.2.1 0) ≤ w3 then some (w2, S) else bd (fK_soundingAt F G S w3) fun v18 => if (v18 &&& z1) = 0 then lt (w2 ||| ((1 : Int32) <<< (w3 &&& 31))) fun v22 => lt (w3 + 1) fun v24 => rec v22 v24 else lt (w3 + 1) fun v20 => rec w2 v20)
def fN_gaps (F G : Nat) (S : St) : Option (Int32 × St) :=
  bd (fN_lookAtKeys F G S ) fun S2 => fx2 (b_N_gaps_8 F G S2 (fun v14 => fx2 (b_N_gaps_47 F G S2 v14) F (0 : Int32) (0 : Int32))) F (0 : Int32) (0 : Int32)
set_option maxRecDepth 100000 in
set_option maxHeartbeats 4000000 in
theorem T_N_gaps_8 {X : Nat × (Nat → Int32)} {D F G : Nat} (hD : 3 ≤ D + 1) {S : St} {k43 : Int32 → Option (Int32 × St)} (hk43 : ∀ (u1 : Int32) (res : Int32 × St), k43 u1 = some res → Ek X (D + 1) mN_gaps 43 [(0, .ref 0), (1, .int u1)] [] S (some (.int res.1)) res.2) : ∀ (f : Nat) (w1 : Int32) (w2 : Int32) (res : Int32 × St), fx2 (b_N_gaps_8 F G S k43 ) f w1 w2 = some res → Ek X (D + 1) mN_gaps 8 [(0, .ref 0), (1, .int w1), (2, .int w2)] [] S (some (.int res.1)) res.2 := by
  refine fx2_ind ?_
  intro rec ih w1 w2 res h
  unfold b_N_gaps_8 at h
  refine x_iload_n d_N_gaps_8 rfl 2 rfl ?_
  refine x_aload_n d_N_gaps_9 rfl 0 rfl ?_
  refine y_getR d_N_gaps_10 fl_0_25 rfl kd_0 rr_told ?_
  obtain ⟨g3, h⟩ := gd_inv h
  refine y_getI d_N_gaps_13 fl_0_117 rfl (ksSc g3) ?_
  refine x_icmp_ge (tgt := 43) d_N_gaps_16 rfl (fun c4 => ?_) (fun c4 => ?_)
  · replace h := ite_t c4 h
    refine y_pick (L1 := [(0, .ref 0), (1, .int w1)]) [0, 1] rfl ?_
    exact hk43 w1 _ h
  · replace h := ite_f c4 h
    refine x_aload_n d_N_gaps_19 rfl 0 rfl ?_
    refine y_getR d_N_gaps_20 fl_0_25 rfl kd_0 rr_told ?_
    refine x_iload_n d_N_gaps_23 rfl 2 rfl ?_
    obtain ⟨v6, q5, h⟩ := bd_inv h
    refine y_V1i (v := v6) (S1 := S) d_N_gaps_24 ml_0_203 (ksSc g3) rfl (Nat.le_of_ble_eq_true rfl) (Nat.le_of_ble_eq_true rfl) (c_S_roleOf (by omega) q5) ?_
    refine x_iconst d_N_gaps_27 ic_2 ?_
    refine x_icmp_ne (tgt := 37) d_N_gaps_28 rfl (fun c7 => ?_) (fun c7 => ?_)
    · replace h := ite_f c7 h
      obtain ⟨v8, e9, h⟩ := lt_inv h
      refine y_iinc (L1 := [(0, .ref 0), (1, .int w1), (2, .int v8)]) e9 ic_1 d_N_gaps_37 2 rfl (Nat.le_of_ble_eq_true rfl) rfl rfl ?_
      refine x_goto (tgt := 8) d_N_gaps_40 rfl ?_
      exact ih w1 v8 _ h
    · replace h := ite_t c7 h
      refine x_iload_n d_N_gaps_31 rfl 1 rfl ?_
      refine x_iconst d_N_gaps_32 ic_1 ?_
      refine x_iload_n d_N_gaps_33 rfl 2 rfl ?_
      refine x_ishl d_N_gaps_34 ?_
      refine x_ior d_N_gaps_35 ?_
      obtain ⟨v10, e11, h⟩ := lt_inv h
      refine y_istore_n (L1 := [(0, .ref 0), (1, .int v10), (2, .int w2)]) e11 d_N_gaps_36 rfl (Nat.le_of_ble_eq_true rfl) rfl rfl ?_
      obtain ⟨v12, e13, h⟩ := lt_inv h
      refine y_iinc (L1 := [(0, .ref 0), (1, .int v10), (2, .int v12)]) e13 ic_1 d_N_gaps_37 2 rfl (Nat.le_of_ble_eq_true rfl) rfl rfl ?_
      refine x_goto (tgt := 8) d_N_gaps_40 rfl ?_
      exact ih v10 v12 _ h
set_option maxRecDepth 100000 in
set_option maxHeartbeats 4000000 in
theorem T_N_gaps_47 {X : Nat × (Nat → Int32)} {D F G : Nat} (hD : 3 ≤ D + 1) {S : St} {z1 : Int32} : ∀ (f : Nat) (w2 : Int32) (w3 : Int32) (res : Int32 × St), fx2 (b_N_gaps_47 F G S z1 ) f w2 w3 = some res → Ek X (D + 1) mN_gaps 47 [(0, .ref 0), (1, .int z1), (2, .int w2), (3, .int w3)] [] S (some (.int res.1)) res.2 := by
  refine fx2_ind ?_
  intro rec ih w2 w3 res h
  unfold b_N_gaps_47 at h
  refine x_iload_n d_N_gaps_47 rfl 3 rfl ?_
  refine x_aload_n d_N_gaps_48 rfl 0 rfl ?_
  refine y_getR d_N_gaps_49 fl_0_25 rfl kd_0 rr_told ?_
  obtain ⟨g15, h⟩ := gd_inv h
  refine y_getI d_N_gaps_52 fl_0_193 rfl (ksSc g15) ?_
  refine x_icmp_ge (tgt := 83) d_N_gaps_55 rfl (fun c16 => ?_) (fun c16 => ?_)
  · replace h := ite_t c16 h
    refine x_iload_n d_N_gaps_83 rfl 2 rfl ?_
    obtain rfl := Option.some.inj h
    exact x_ret (r := some (.int w2)) d_N_gaps_84 ⟨_, rfl, rfl⟩
  · replace h := ite_f c16 h
    refine x_aload_n d_N_gaps_58 rfl 0 rfl ?_
    refine y_getR d_N_gaps_59 fl_0_50 rfl kd_0 rr_0_7 ?_
    refine x_iload_n d_N_gaps_62 rfl 3 rfl ?_
    obtain ⟨v18, q17, h⟩ := bd_inv h
    refine y_V1i (v := v18) (S1 := S) d_N_gaps_63 ml_0_180 kd_56 rfl (Nat.le_of_ble_eq_true rfl) (Nat.le_of_ble_eq_true rfl) (c_K_soundingAt (by omega) q17) ?_
    refine x_iload_n d_N_gaps_66 rfl 1 rfl ?_
    refine x_iand d_N_gaps_67 ?_
    refine x_if_ne (tgt := 77) d_N_gaps_68 rfl (fun c19 => ?_) (fun c19 => ?_)
    · replace h := ite_f c19 h
      obtain ⟨v20, e21, h⟩ := lt_inv h
      refine y_iinc (L1 := [(0, .ref 0), (1, .int z1), (2, .int w2), (3, .int v20)]) e21 ic_1 d_N_gaps_77 3 rfl (Nat.le_of_ble_eq_true rfl) rfl rfl ?_
      refine x_goto (tgt := 47) d_N_gaps_80 rfl ?_
      exact ih w2 v20 _ h
    · replace h := ite_t c19 h
      refine x_iload_n d_N_gaps_71 rfl 2 rfl ?_
      refine x_iconst d_N_gaps_72 ic_1 ?_
      refine x_iload_n d_N_gaps_73 rfl 3 rfl ?_
      refine x_ishl d_N_gaps_74 ?_
      refine x_ior d_N_gaps_75 ?_
      obtain ⟨v22, e23, h⟩ := lt_inv h
      refine y_istore_n (L1 := [(0, .ref 0), (1, .int z1), (2, .int v22), (3, .int w3)]) e23 d_N_gaps_76 rfl (Nat.le_of_ble_eq_true rfl) rfl rfl ?_
      obtain ⟨v24, e25, h⟩ := lt_inv h
      refine y_iinc (L1 := [(0, .ref 0), (1, .int z1), (2, .int v22), (3, .int v24)]) e25 ic_1 d_N_gaps_77 3 rfl (Nat.le_of_ble_eq_true rfl) rfl rfl ?_
      refine x_goto (tgt := 47) d_N_gaps_80 rfl ?_
      exact ih v22 v24 _ h
set_option maxRecDepth 100000 in
set_option maxHeartbeats 4000000 in
theorem c_N_gaps {X : Nat × (Nat → Int32)} {D F G : Nat} (hD : 3 ≤ D) {S : St} {res : Int32 × St} (h : fN_gaps F G S  = some res) : Ek X (D) mN_gaps 0 [(0, .ref 0)] [] S (some (.int res.1)) res.2 := by
  obtain ⟨D, rfl⟩ : ∃ E, D = E + 1 := ⟨D - 1, by omega⟩
  unfold fN_gaps at h
  refine x_aload_n d_N_gaps_0 rfl 0 rfl ?_
  obtain ⟨S2, q1, h⟩ := bd_inv h
  refine y_V0v (S1 := S2) d_N_gaps_1 ml_0_173 kd_0 rfl (Nat.le_of_ble_eq_true rfl) (Nat.le_of_ble_eq_true rfl) (c_N_lookAtKeys (by omega) q1) ?_
  refine x_iconst d_N_gaps_4 ic_0 ?_
  refine x_istore_n (L1 := [(0, .ref 0), (1, .int (0 : Int32))]) d_N_gaps_5 rfl (Nat.le_of_ble_eq_true rfl) rfl rfl ?_
  refine x_iconst d_N_gaps_6 ic_0 ?_
  refine x_istore_n (L1 := [(0, .ref 0), (1, .int (0 : Int32)), (2, .int (0 : Int32))]) d_N_gaps_7 rfl (Nat.le_of_ble_eq_true rfl) rfl rfl ?_
  refine T_N_gaps_8 (by omega)  ?_ F (0 : Int32) (0 : Int32) _ h
  · intro v14 res h
    refine x_iconst d_N_gaps_43 ic_0 ?_
    refine x_istore_n (L1 := [(0, .ref 0), (1, .int v14), (2, .int (0 : Int32))]) d_N_gaps_44 rfl (Nat.le_of_ble_eq_true rfl) rfl rfl ?_
    refine x_iconst d_N_gaps_45 ic_0 ?_
    refine x_istore_n (L1 := [(0, .ref 0), (1, .int v14), (2, .int (0 : Int32)), (3, .int (0 : Int32))]) d_N_gaps_46 rfl (Nat.le_of_ble_eq_true rfl) rfl rfl ?_
    refine T_N_gaps_47 (by omega)   F (0 : Int32) (0 : Int32) _ h
/-! NinetyPlayersModel.gaps -/
def j_M_gaps_40 (F G : Nat) (S : St) (rec : Int32 → Int32 → Option (Int32 × St)) (_ : St) (y2 : Int32) (s0 : Int32) (s1 : Int32) : Option (Int32 × St) :=
  bd (fM_truth F G S s1) fun v11 => lt (s0 ||| (v11 <<< (y2 &&& 31))) fun v12 => lt (y2 + 1) fun v14 => rec v12 v14
def b_M_gaps_12 (F G : Nat) (S : St) (rec : Int32 → Int32 → Option (Int32 × St)) (w1 : Int32) (w2 : Int32) : Option (Int32 × St) :=
  if (S.1 78 46) ≤ w2 then some (w1, S) else gd (inB w2 12) (bd (fM_tunes F G S) fun v8 => if ((S.1 103 w2.toNatClampNeg) &&& v8) = 0 then j_M_gaps_40 F G S rec  S w2 w1 (1 : Int32) else j_M_gaps_40 F G S rec  S w2 w1 (0 : Int32))
def fM_gaps (F G : Nat) (S : St) : Option (Int32 × St) :=
  bd (fM_fill F G S ) fun S2 => bd (fM_laySound F G S2 ) fun S4 => fx2 (b_M_gaps_12 F G S4) F (0 : Int32) (0 : Int32)
set_option maxRecDepth 100000 in
set_option maxHeartbeats 4000000 in
theorem T_M_gaps_12 {X : Nat × (Nat → Int32)} {D F G : Nat} (hD : 3 ≤ D + 1) {S : St} : ∀ (f : Nat) (w1 : Int32) (w2 : Int32) (res : Int32 × St), fx2 (b_M_gaps_12 F G S ) f w1 w2 = some res → Ek X (D + 1) mM_gaps 12 [(0, .ref 78), (1, .int w1), (2, .int w2)] [] S (some (.int res.1)) res.2 := by
  refine fx2_ind ?_
  intro rec ih w1 w2 res h
  unfold b_M_gaps_12 at h
  have J40 : ∀ (y2 : Int32) (s0 : Int32) (s1 : Int32) (res : Int32 × St), j_M_gaps_40 F G S rec S y2 s0 s1 = some res → Ek X (D + 1) mM_gaps 40 [(0, .ref 78), (2, .int y2)] [.int s1, .int s0] S (some (.int res.1)) res.2 := by
    intro y2 s0 s1 res h
    unfold j_M_gaps_40 at h
    obtain ⟨v11, q10, h⟩ := bd_inv h
    refine y_S1i (v := v11) (S1 := S) d_M_gaps_40 ml_11_318 (Nat.le_of_ble_eq_true rfl) (Nat.le_of_ble_eq_true rfl) (c_M_truth (by omega) q10) ?_
    refine x_iload_n d_M_gaps_43 rfl 1 rfl ?_
    refine x_ishl d_M_gaps_44 ?_
    refine x_ior d_M_gaps_45 ?_
    obtain ⟨v12, e13, h⟩ := lt_inv h
    refine y_istore_n (L1 := [(0, .ref 78), (1, .int v12), (2, .int y2)]) e13 d_M_gaps_46 rfl (Nat.le_of_ble_eq_true rfl) rfl rfl ?_
    obtain ⟨v14, e15, h⟩ := lt_inv h
    refine y_iinc (L1 := [(0, .ref 78), (1, .int v12), (2, .int v14)]) e15 ic_1 d_M_gaps_47 2 rfl (Nat.le_of_ble_eq_true rfl) rfl rfl ?_
    refine x_goto (tgt := 12) d_M_gaps_50 rfl ?_
    exact ih v12 v14 _ h
  refine x_iload_n d_M_gaps_12 rfl 2 rfl ?_
  refine x_aload_n d_M_gaps_13 rfl 0 rfl ?_
  refine y_getI d_M_gaps_14 fl_11_78 rfl kd_78 ?_
  refine x_icmp_ge (tgt := 53) d_M_gaps_17 rfl (fun c5 => ?_) (fun c5 => ?_)
  · replace h := ite_t c5 h
    refine x_iload_n d_M_gaps_53 rfl 1 rfl ?_
    obtain rfl := Option.some.inj h
    exact x_ret (r := some (.int w1)) d_M_gaps_54 ⟨_, rfl, rfl⟩
  · replace h := ite_f c5 h
    refine x_iload_n d_M_gaps_20 rfl 1 rfl ?_
    refine x_aload_n d_M_gaps_21 rfl 0 rfl ?_
    refine y_getR d_M_gaps_22 fl_11_102 rfl kd_78 rr_78_61 ?_
    refine x_iload_n d_M_gaps_25 rfl 2 rfl ?_
    obtain ⟨g6, h⟩ := gd_inv h
    refine y_iald d_M_gaps_26 kd_103 g6 ?_
    refine x_aload_n d_M_gaps_27 rfl 0 rfl ?_
    obtain ⟨v8, q7, h⟩ := bd_inv h
    refine y_V0i (v := v8) (S1 := S) d_M_gaps_28 ml_11_536 kd_78 rfl (Nat.le_of_ble_eq_true rfl) (Nat.le_of_ble_eq_true rfl) (c_M_tunes (by omega) q7) ?_
    refine x_iand d_M_gaps_31 ?_
    refine x_if_ne (tgt := 39) d_M_gaps_32 rfl (fun c9 => ?_) (fun c9 => ?_)
    · replace h := ite_f c9 h
      refine x_iconst d_M_gaps_39 ic_0 ?_
      refine y_pick (L1 := [(0, .ref 78), (2, .int w2)]) [0, 2] rfl ?_
      exact J40 w2 w1 (0 : Int32) _ h
    · replace h := ite_t c9 h
      refine x_iconst d_M_gaps_35 ic_1 ?_
      refine x_goto (tgt := 40) d_M_gaps_36 rfl ?_
      refine y_pick (L1 := [(0, .ref 78), (2, .int w2)]) [0, 2] rfl ?_
      exact J40 w2 w1 (1 : Int32) _ h
set_option maxRecDepth 100000 in
set_option maxHeartbeats 4000000 in
theorem c_M_gaps {X : Nat × (Nat → Int32)} {D F G : Nat} (hD : 3 ≤ D) {S : St} {res : Int32 × St} (h : fM_gaps F G S  = some res) : Ek X (D) mM_gaps 0 [(0, .ref 78)] [] S (some (.int res.1)) res.2 := by
  obtain ⟨D, rfl⟩ : ∃ E, D = E + 1 := ⟨D - 1, by omega⟩
  unfold fM_gaps at h
  refine x_aload_n d_M_gaps_0 rfl 0 rfl ?_
  obtain ⟨S2, q1, h⟩ := bd_inv h
  refine y_V0v (S1 := S2) d_M_gaps_1 ml_11_464 kd_78 rfl (Nat.le_of_ble_eq_true rfl) (Nat.le_of_ble_eq_true rfl) (c_M_fill (by omega) q1) ?_
  refine x_aload_n d_M_gaps_4 rfl 0 rfl ?_
  obtain ⟨S4, q3, h⟩ := bd_inv h
  refine y_V0v (S1 := S4) d_M_gaps_5 ml_11_479 kd_78 rfl (Nat.le_of_ble_eq_true rfl) (Nat.le_of_ble_eq_true rfl) (c_M_laySound (by omega) q3) ?_
  refine x_iconst d_M_gaps_8 ic_0 ?_
  refine x_istore_n (L1 := [(0, .ref 78), (1, .int (0 : Int32))]) d_M_gaps_9 rfl (Nat.le_of_ble_eq_true rfl) rfl rfl ?_
  refine x_iconst d_M_gaps_10 ic_0 ?_
  refine x_istore_n (L1 := [(0, .ref 78), (1, .int (0 : Int32)), (2, .int (0 : Int32))]) d_M_gaps_11 rfl (Nat.le_of_ble_eq_true rfl) rfl rfl ?_
  refine T_M_gaps_12 (by omega)   F (0 : Int32) (0 : Int32) _ h
/-! NinetyPlayers.easier -/
def fN_easier (F G : Nat) (S : St) (p1 : Int32) : Option (Int32 × St) :=
  bd (fN_isNote F G S p1) fun v2 => if v2 = 0 then some ((-1 : Int32), S) else gd (inB p1 10) (if (S.1 31 p1.toNatClampNeg) = 0 then some ((-1 : Int32), S) else bd (fN_lookAtKeys F G S ) fun S7 => lt (((1 : Int32) <<< (p1 &&& 31)) ^^^ (-1 : Int32)) fun v8 => bd (fK_clashingBeats F G S7 (S7.1 56 5) (S7.1 56 6)) fun v11 => bd (fK_clashingBeats F G S7 ((S7.1 56 5) &&& v8) ((S7.1 56 6) &&& v8)) fun v13 => bd (fJ_bitCount F G S7 v11) fun v15 => bd (fJ_bitCount F G S7 v13) fun v17 => some (v15 - v17, S7))
set_option maxRecDepth 100000 in
set_option maxHeartbeats 4000000 in
theorem c_N_easier {X : Nat × (Nat → Int32)} {D F G : Nat} (hD : 5 ≤ D) {S : St} {p1 : Int32} {res : Int32 × St} (h : fN_easier F G S p1 = some res) : Ek X (D) mN_easier 0 [(0, .ref 0), (1, .int p1)] [] S (some (.int res.1)) res.2 := by
  obtain ⟨D, rfl⟩ : ∃ E, D = E + 1 := ⟨D - 1, by omega⟩
  unfold fN_easier at h
  refine x_aload_n d_N_easier_0 rfl 0 rfl ?_
  refine x_iload_n d_N_easier_1 rfl 1 rfl ?_
  obtain ⟨v2, q1, h⟩ := bd_inv h
  refine y_V1i (v := v2) (S1 := S) d_N_easier_2 ml_0_126 kd_0 rfl (Nat.le_of_ble_eq_true rfl) (Nat.le_of_ble_eq_true rfl) (c_N_isNote (by omega) q1) ?_
  refine x_if_eq (tgt := 20) d_N_easier_5 rfl (fun c3 => ?_) (fun c3 => ?_)
  · replace h := ite_t c3 h
    refine x_iconst d_N_easier_20 ic_m1 ?_
    obtain rfl := Option.some.inj h
    exact x_ret (r := some (.int (-1 : Int32))) d_N_easier_21 ⟨_, rfl, rfl⟩
  · replace h := ite_f c3 h
    refine x_aload_n d_N_easier_8 rfl 0 rfl ?_
    refine y_getR d_N_easier_9 fl_0_32 rfl kd_0 rr_0_4 ?_
    refine y_getR d_N_easier_12 fl_0_144 rfl kd_30 rr_30_2 ?_
    refine x_iload_n d_N_easier_15 rfl 1 rfl ?_
    obtain ⟨g4, h⟩ := gd_inv h
    refine y_iald d_N_easier_16 kd_31 g4 ?_
    refine x_if_ne (tgt := 22) d_N_easier_17 rfl (fun c5 => ?_) (fun c5 => ?_)
    · replace h := ite_f c5 h
      refine x_aload_n d_N_easier_22 rfl 0 rfl ?_
      obtain ⟨S7, q6, h⟩ := bd_inv h
      refine y_V0v (S1 := S7) d_N_easier_23 ml_0_173 kd_0 rfl (Nat.le_of_ble_eq_true rfl) (Nat.le_of_ble_eq_true rfl) (c_N_lookAtKeys (by omega) q6) ?_
      refine x_iconst d_N_easier_26 ic_1 ?_
      refine x_iload_n d_N_easier_27 rfl 1 rfl ?_
      refine x_ishl d_N_easier_28 ?_
      refine x_iconst d_N_easier_29 ic_m1 ?_
      refine x_ixor d_N_easier_30 ?_
      obtain ⟨v8, e9, h⟩ := lt_inv h
      refine y_istore_n (L1 := [(0, .ref 0), (1, .int p1), (2, .int v8)]) e9 d_N_easier_31 rfl (Nat.le_of_ble_eq_true rfl) rfl rfl ?_
      refine x_aload_n d_N_easier_32 rfl 0 rfl ?_
      refine y_getR d_N_easier_33 fl_0_50 rfl kd_0 rr_0_7 ?_
      refine x_aload_n d_N_easier_36 rfl 0 rfl ?_
      refine y_getR d_N_easier_37 fl_0_50 rfl kd_0 rr_0_7 ?_
      refine y_getI d_N_easier_40 fl_0_183 rfl kd_56 ?_
      refine x_aload_n d_N_easier_43 rfl 0 rfl ?_
      refine y_getR d_N_easier_44 fl_0_50 rfl kd_0 rr_0_7 ?_
      refine y_getI d_N_easier_47 fl_0_186 rfl kd_56 ?_
      obtain ⟨v11, q10, h⟩ := bd_inv h
      refine y_V2i (v := v11) (S1 := S7) d_N_easier_50 ml_0_253 kd_56 rfl (Nat.le_of_ble_eq_true rfl) (Nat.le_of_ble_eq_true rfl) (c_K_clashingBeats (by omega) q10) ?_
      refine x_istore_n (L1 := [(0, .ref 0), (1, .int p1), (2, .int v8), (3, .int v11)]) d_N_easier_53 rfl (Nat.le_of_ble_eq_true rfl) rfl rfl ?_
      refine x_aload_n d_N_easier_54 rfl 0 rfl ?_
      refine y_getR d_N_easier_55 fl_0_50 rfl kd_0 rr_0_7 ?_
      refine x_aload_n d_N_easier_58 rfl 0 rfl ?_
      refine y_getR d_N_easier_59 fl_0_50 rfl kd_0 rr_0_7 ?_
      refine y_getI d_N_easier_62 fl_0_183 rfl kd_56 ?_
      refine x_iload_n d_N_easier_65 rfl 2 rfl ?_
      refine x_iand d_N_easier_66 ?_
      refine x_aload_n d_N_easier_67 rfl 0 rfl ?_
      refine y_getR d_N_easier_68 fl_0_50 rfl kd_0 rr_0_7 ?_
      refine y_getI d_N_easier_71 fl_0_186 rfl kd_56 ?_
      refine x_iload_n d_N_easier_74 rfl 2 rfl ?_
      refine x_iand d_N_easier_75 ?_
      obtain ⟨v13, q12, h⟩ := bd_inv h
      refine y_V2i (v := v13) (S1 := S7) d_N_easier_76 ml_0_253 kd_56 rfl (Nat.le_of_ble_eq_true rfl) (Nat.le_of_ble_eq_true rfl) (c_K_clashingBeats (by omega) q12) ?_
      refine x_istore (L1 := [(0, .ref 0), (1, .int p1), (2, .int v8), (3, .int v11), (4, .int v13)]) d_N_easier_79 (Nat.le_of_ble_eq_true rfl) rfl rfl ?_
      refine x_iload_n d_N_easier_81 rfl 3 rfl ?_
      obtain ⟨v15, q14, h⟩ := bd_inv h
      refine y_S1i (v := v15) (S1 := S7) d_N_easier_82 ml_0_206 (Nat.le_of_ble_eq_true rfl) (Nat.le_of_ble_eq_true rfl) (c_J_bitCount (by omega) q14) ?_
      refine x_iload d_N_easier_85 4 rfl ?_
      obtain ⟨v17, q16, h⟩ := bd_inv h
      refine y_S1i (v := v17) (S1 := S7) d_N_easier_87 ml_0_206 (Nat.le_of_ble_eq_true rfl) (Nat.le_of_ble_eq_true rfl) (c_J_bitCount (by omega) q16) ?_
      refine x_isub d_N_easier_90 ?_
      obtain rfl := Option.some.inj h
      exact x_ret (r := some (.int (v15 - v17))) d_N_easier_91 ⟨_, rfl, rfl⟩
    · replace h := ite_t c5 h
      refine x_iconst d_N_easier_20 ic_m1 ?_
      obtain rfl := Option.some.inj h
      exact x_ret (r := some (.int (-1 : Int32))) d_N_easier_21 ⟨_, rfl, rfl⟩
/-! NinetyPlayersModel.easier -/
def fM_easier (F G : Nat) (S : St) (p1 : Int32) : Option (Int32 × St) :=
  bd (fM_isNote F G S p1) fun v2 => if v2 = 0 then some ((-1 : Int32), S) else gd (inB p1 41) (if (S.1 100 p1.toNatClampNeg) = 0 then some ((-1 : Int32), S) else bd2 (fM_clashes F G S) fun v7 S8 => bd (fM_members F G S8 v7) fun v10 => gd (inB p1 41) (lt (sI S8 101 p1.toNatClampNeg (0 : Int32)) fun S12 => bd (fM_clashBeats F G S12 (S12.1 78 49)) fun v15 => bd (fM_members F G S12 v15) fun v17 => some (v10 - v17, S12)))
set_option maxRecDepth 100000 in
set_option maxHeartbeats 4000000 in
theorem c_M_easier {X : Nat × (Nat → Int32)} {D F G : Nat} (hD : 5 ≤ D) {S : St} {p1 : Int32} {res : Int32 × St} (h : fM_easier F G S p1 = some res) : Ek X (D) mM_easier 0 [(0, .ref 78), (1, .int p1)] [] S (some (.int res.1)) res.2 := by
  obtain ⟨D, rfl⟩ : ∃ E, D = E + 1 := ⟨D - 1, by omega⟩
  unfold fM_easier at h
  refine x_aload_n d_M_easier_0 rfl 0 rfl ?_
  refine x_iload_n d_M_easier_1 rfl 1 rfl ?_
  obtain ⟨v2, q1, h⟩ := bd_inv h
  refine y_V1i (v := v2) (S1 := S) d_M_easier_2 ml_11_461 kd_78 rfl (Nat.le_of_ble_eq_true rfl) (Nat.le_of_ble_eq_true rfl) (c_M_isNote (by omega) q1) ?_
  refine x_if_eq (tgt := 17) d_M_easier_5 rfl (fun c3 => ?_) (fun c3 => ?_)
  · replace h := ite_t c3 h
    refine x_iconst d_M_easier_17 ic_m1 ?_
    obtain rfl := Option.some.inj h
    exact x_ret (r := some (.int (-1 : Int32))) d_M_easier_18 ⟨_, rfl, rfl⟩
  · replace h := ite_f c3 h
    refine x_aload_n d_M_easier_8 rfl 0 rfl ?_
    refine y_getR d_M_easier_9 fl_11_93 rfl kd_78 rr_78_58 ?_
    refine x_iload_n d_M_easier_12 rfl 1 rfl ?_
    obtain ⟨g4, h⟩ := gd_inv h
    refine y_iald d_M_easier_13 kd_100 g4 ?_
    refine x_if_ne (tgt := 19) d_M_easier_14 rfl (fun c5 => ?_) (fun c5 => ?_)
    · replace h := ite_f c5 h
      refine x_aload_n d_M_easier_19 rfl 0 rfl ?_
      obtain ⟨v7, S8, q6, h⟩ := bd2_inv h
      refine y_V0i (v := v7) (S1 := S8) d_M_easier_20 ml_11_488 kd_78 rfl (Nat.le_of_ble_eq_true rfl) (Nat.le_of_ble_eq_true rfl) (c_M_clashes (by omega) q6) ?_
      obtain ⟨v10, q9, h⟩ := bd_inv h
      refine y_S1i (v := v10) (S1 := S8) d_M_easier_23 ml_11_331 (Nat.le_of_ble_eq_true rfl) (Nat.le_of_ble_eq_true rfl) (c_M_members (by omega) q9) ?_
      refine x_istore_n (L1 := [(0, .ref 78), (1, .int p1), (2, .int v10)]) d_M_easier_26 rfl (Nat.le_of_ble_eq_true rfl) rfl rfl ?_
      refine x_aload_n d_M_easier_27 rfl 0 rfl ?_
      refine y_getR d_M_easier_28 fl_11_96 rfl kd_78 rr_78_59 ?_
      refine x_iload_n d_M_easier_31 rfl 1 rfl ?_
      refine x_iconst d_M_easier_32 ic_0 ?_
      obtain ⟨g11, h⟩ := gd_inv h
      obtain ⟨S12, e13, h⟩ := lt_inv h
      refine y_iast e13 d_M_easier_33 kd_101 g11 ?_
      refine x_iload_n d_M_easier_34 rfl 2 rfl ?_
      refine x_aload_n d_M_easier_35 rfl 0 rfl ?_
      refine x_aload_n d_M_easier_36 rfl 0 rfl ?_
      refine y_getI d_M_easier_37 fl_11_81 rfl kd_78 ?_
      obtain ⟨v15, q14, h⟩ := bd_inv h
      refine y_V1i (v := v15) (S1 := S12) d_M_easier_40 ml_11_482 kd_78 rfl (Nat.le_of_ble_eq_true rfl) (Nat.le_of_ble_eq_true rfl) (c_M_clashBeats (by omega) q14) ?_
      obtain ⟨v17, q16, h⟩ := bd_inv h
      refine y_S1i (v := v17) (S1 := S12) d_M_easier_43 ml_11_331 (Nat.le_of_ble_eq_true rfl) (Nat.le_of_ble_eq_true rfl) (c_M_members (by omega) q16) ?_
      refine x_isub d_M_easier_46 ?_
      obtain rfl := Option.some.inj h
      exact x_ret (r := some (.int (v10 - v17))) d_M_easier_47 ⟨_, rfl, rfl⟩
    · replace h := ite_t c5 h
      refine x_iconst d_M_easier_17 ic_m1 ?_
      obtain rfl := Option.some.inj h
      exact x_ret (r := some (.int (-1 : Int32))) d_M_easier_18 ⟨_, rfl, rfl⟩
/-! NinetyPlayers$Keyboard.fullestBeat -/
def b_K_fullestBeat_7 (F G : Nat) (S : St) (z1 : Int32) (rec : Int32 → Int32 → Int32 → Option (Int32)) (w2 : Int32) (w3 : Int32) (w4 : Int32) : Option (Int32) :=
  if (S.1 56 0) ≤ w4 then some w2 else bd (fK_timelyAt F G S w4) fun v3 => bd (fJ_bitCount F G S (z1 &&& v3)) fun v5 => if v5 ≤ w3 then lt (w4 + 1) fun v7 => rec w2 w3 v7 else lt (w4 + 1) fun v9 => rec w4 v5 v9
def fK_fullestBeat (F G : Nat) (S : St) (p1 : Int32) : Option (Int32) :=
  fx3 (b_K_fullestBeat_7 F G S p1) F (0 : Int32) (0 : Int32) (0 : Int32)
set_option maxRecDepth 100000 in
set_option maxHeartbeats 4000000 in
theorem T_K_fullestBeat_7 {X : Nat × (Nat → Int32)} {D F G : Nat} (hD : 1 ≤ D + 1) {S : St} {z1 : Int32} : ∀ (f : Nat) (w2 : Int32) (w3 : Int32) (w4 : Int32) (res : Int32), fx3 (b_K_fullestBeat_7 F G S z1 ) f w2 w3 w4 = some res → Ek X (D + 1) mK_fullestBeat 7 [(0, .ref 56), (1, .int z1), (2, .int w2), (3, .int w3), (4, .int w4)] [] S (some (.int res)) S := by
  refine fx3_ind ?_
  intro rec ih w2 w3 w4 res h
  unfold b_K_fullestBeat_7 at h
  refine x_iload d_K_fullestBeat_7 4 rfl ?_
  refine x_aload_n d_K_fullestBeat_9 rfl 0 rfl ?_
  refine y_getI d_K_fullestBeat_10 fl_7_30 rfl kd_56 ?_
  refine x_icmp_ge (tgt := 47) d_K_fullestBeat_13 rfl (fun c1 => ?_) (fun c1 => ?_)
  · replace h := ite_t c1 h
    refine x_iload_n d_K_fullestBeat_47 rfl 2 rfl ?_
    obtain rfl := Option.some.inj h
    exact x_ret (r := some (.int w2)) d_K_fullestBeat_48 ⟨_, rfl, rfl⟩
  · replace h := ite_f c1 h
    refine x_iload_n d_K_fullestBeat_16 rfl 1 rfl ?_
    refine x_aload_n d_K_fullestBeat_17 rfl 0 rfl ?_
    refine x_iload d_K_fullestBeat_18 4 rfl ?_
    obtain ⟨v3, q2, h⟩ := bd_inv h
    refine y_V1i (v := v3) (S1 := S) d_K_fullestBeat_20 ml_7_75 kd_56 rfl (Nat.le_of_ble_eq_true rfl) (Nat.le_of_ble_eq_true rfl) (c_K_timelyAt (by omega) q2) ?_
    refine x_iand d_K_fullestBeat_23 ?_
    obtain ⟨v5, q4, h⟩ := bd_inv h
    refine y_S1i (v := v5) (S1 := S) d_K_fullestBeat_24 ml_7_89 (Nat.le_of_ble_eq_true rfl) (Nat.le_of_ble_eq_true rfl) (c_J_bitCount (by omega) q4) ?_
    refine x_istore (L1 := [(0, .ref 56), (1, .int z1), (2, .int w2), (3, .int w3), (4, .int w4), (5, .int v5)]) d_K_fullestBeat_27 (Nat.le_of_ble_eq_true rfl) rfl rfl ?_
    refine x_iload d_K_fullestBeat_29 5 rfl ?_
    refine x_iload_n d_K_fullestBeat_31 rfl 3 rfl ?_
    refine x_icmp_le (tgt := 41) d_K_fullestBeat_32 rfl (fun c6 => ?_) (fun c6 => ?_)
    · replace h := ite_t c6 h
      obtain ⟨v7, e8, h⟩ := lt_inv h
      refine y_iinc (L1 := [(0, .ref 56), (1, .int z1), (2, .int w2), (3, .int w3), (4, .int v7), (5, .int v5)]) e8 ic_1 d_K_fullestBeat_41 4 rfl (Nat.le_of_ble_eq_true rfl) rfl rfl ?_
      refine x_goto (tgt := 7) d_K_fullestBeat_44 rfl ?_
      refine y_pick (L1 := [(0, .ref 56), (1, .int z1), (2, .int w2), (3, .int w3), (4, .int v7)]) [0, 1, 2, 3, 4] rfl ?_
      exact ih w2 w3 v7 _ h
    · replace h := ite_f c6 h
      refine x_iload d_K_fullestBeat_35 5 rfl ?_
      refine x_istore_n (L1 := [(0, .ref 56), (1, .int z1), (2, .int w2), (3, .int v5), (4, .int w4), (5, .int v5)]) d_K_fullestBeat_37 rfl (Nat.le_of_ble_eq_true rfl) rfl rfl ?_
      refine x_iload d_K_fullestBeat_38 4 rfl ?_
      refine x_istore_n (L1 := [(0, .ref 56), (1, .int z1), (2, .int w4), (3, .int v5), (4, .int w4), (5, .int v5)]) d_K_fullestBeat_40 rfl (Nat.le_of_ble_eq_true rfl) rfl rfl ?_
      obtain ⟨v9, e10, h⟩ := lt_inv h
      refine y_iinc (L1 := [(0, .ref 56), (1, .int z1), (2, .int w4), (3, .int v5), (4, .int v9), (5, .int v5)]) e10 ic_1 d_K_fullestBeat_41 4 rfl (Nat.le_of_ble_eq_true rfl) rfl rfl ?_
      refine x_goto (tgt := 7) d_K_fullestBeat_44 rfl ?_
      refine y_pick (L1 := [(0, .ref 56), (1, .int z1), (2, .int w4), (3, .int v5), (4, .int v9)]) [0, 1, 2, 3, 4] rfl ?_
      exact ih w4 v5 v9 _ h
set_option maxRecDepth 100000 in
set_option maxHeartbeats 4000000 in
theorem c_K_fullestBeat {X : Nat × (Nat → Int32)} {D F G : Nat} (hD : 1 ≤ D) {S : St} {p1 : Int32} {res : Int32} (h : fK_fullestBeat F G S p1 = some res) : Ek X (D) mK_fullestBeat 0 [(0, .ref 56), (1, .int p1)] [] S (some (.int res)) S := by
  obtain ⟨D, rfl⟩ : ∃ E, D = E + 1 := ⟨D - 1, by omega⟩
  unfold fK_fullestBeat at h
  refine x_iconst d_K_fullestBeat_0 ic_0 ?_
  refine x_istore_n (L1 := [(0, .ref 56), (1, .int p1), (2, .int (0 : Int32))]) d_K_fullestBeat_1 rfl (Nat.le_of_ble_eq_true rfl) rfl rfl ?_
  refine x_iconst d_K_fullestBeat_2 ic_0 ?_
  refine x_istore_n (L1 := [(0, .ref 56), (1, .int p1), (2, .int (0 : Int32)), (3, .int (0 : Int32))]) d_K_fullestBeat_3 rfl (Nat.le_of_ble_eq_true rfl) rfl rfl ?_
  refine x_iconst d_K_fullestBeat_4 ic_0 ?_
  refine x_istore (L1 := [(0, .ref 56), (1, .int p1), (2, .int (0 : Int32)), (3, .int (0 : Int32)), (4, .int (0 : Int32))]) d_K_fullestBeat_5 (Nat.le_of_ble_eq_true rfl) rfl rfl ?_
  refine T_K_fullestBeat_7 (by omega)   F (0 : Int32) (0 : Int32) (0 : Int32) _ h
/-! NinetyPlayers.thickest -/
def fN_thickest (F G : Nat) (S : St) : Option (Int32 × St) :=
  bd (fN_lookAtKeys F G S ) fun S2 => bd (fK_fullestBeat F G S2 ((S2.1 56 5) ||| (S2.1 56 6))) fun v4 => some (v4, S2)
set_option maxRecDepth 100000 in
set_option maxHeartbeats 4000000 in
theorem c_N_thickest {X : Nat × (Nat → Int32)} {D F G : Nat} (hD : 3 ≤ D) {S : St} {res : Int32 × St} (h : fN_thickest F G S  = some res) : Ek X (D) mN_thickest 0 [(0, .ref 0)] [] S (some (.int res.1)) res.2 := by
  obtain ⟨D, rfl⟩ : ∃ E, D = E + 1 := ⟨D - 1, by omega⟩
  unfold fN_thickest at h
  refine x_aload_n d_N_thickest_0 rfl 0 rfl ?_
  obtain ⟨S2, q1, h⟩ := bd_inv h
  refine y_V0v (S1 := S2) d_N_thickest_1 ml_0_173 kd_0 rfl (Nat.le_of_ble_eq_true rfl) (Nat.le_of_ble_eq_true rfl) (c_N_lookAtKeys (by omega) q1) ?_
  refine x_aload_n d_N_thickest_4 rfl 0 rfl ?_
  refine y_getR d_N_thickest_5 fl_0_50 rfl kd_0 rr_0_7 ?_
  refine x_aload_n d_N_thickest_8 rfl 0 rfl ?_
  refine y_getR d_N_thickest_9 fl_0_50 rfl kd_0 rr_0_7 ?_
  refine y_getI d_N_thickest_12 fl_0_183 rfl kd_56 ?_
  refine x_aload_n d_N_thickest_15 rfl 0 rfl ?_
  refine y_getR d_N_thickest_16 fl_0_50 rfl kd_0 rr_0_7 ?_
  refine y_getI d_N_thickest_19 fl_0_186 rfl kd_56 ?_
  refine x_ior d_N_thickest_22 ?_
  obtain ⟨v4, q3, h⟩ := bd_inv h
  refine y_V1i (v := v4) (S1 := S2) d_N_thickest_23 ml_0_312 kd_56 rfl (Nat.le_of_ble_eq_true rfl) (Nat.le_of_ble_eq_true rfl) (c_K_fullestBeat (by omega) q3) ?_
  obtain rfl := Option.some.inj h
  exact x_ret (r := some (.int v4)) d_N_thickest_26 ⟨_, rfl, rfl⟩
/-! NinetyPlayersModel.thickest -/
def b_M_thickest_20 (F G : Nat) (S : St) (z1 : Int32) (rec : Int32 → Int32 → Option (Int32 × St)) (w2 : Int32) (w3 : Int32) : Option (Int32 × St) :=
  if (S.1 78 46) ≤ w3 then some (w2, S) else gd (inB w3 12) (bd (fM_members F G S ((S.1 102 w3.toNatClampNeg) &&& z1)) fun v12 => gd (inB w2 12) (bd (fM_members F G S ((S.1 102 w2.toNatClampNeg) &&& z1)) fun v15 => if v12 ≤ v15 then lt (w3 + 1) fun v17 => rec w2 v17 else lt (w3 + 1) fun v19 => rec w3 v19))
def fM_thickest (F G : Nat) (S : St) : Option (Int32 × St) :=
  bd (fM_fill F G S ) fun S2 => bd (fM_given F G S2 (1 : Int32)) fun v4 => bd (fM_given F G S2 (2 : Int32)) fun v6 => lt (v4 ||| v6) fun v7 => fx2 (b_M_thickest_20 F G S2 v7) F (0 : Int32) (1 : Int32)
set_option maxRecDepth 100000 in
set_option maxHeartbeats 4000000 in
theorem T_M_thickest_20 {X : Nat × (Nat → Int32)} {D F G : Nat} (hD : 2 ≤ D + 1) {S : St} {z1 : Int32} : ∀ (f : Nat) (w2 : Int32) (w3 : Int32) (res : Int32 × St), fx2 (b_M_thickest_20 F G S z1 ) f w2 w3 = some res → Ek X (D + 1) mM_thickest 20 [(0, .ref 78), (1, .int z1), (2, .int w2), (3, .int w3)] [] S (some (.int res.1)) res.2 := by
  refine fx2_ind ?_
  intro rec ih w2 w3 res h
  unfold b_M_thickest_20 at h
  refine x_iload_n d_M_thickest_20 rfl 3 rfl ?_
  refine x_aload_n d_M_thickest_21 rfl 0 rfl ?_
  refine y_getI d_M_thickest_22 fl_11_78 rfl kd_78 ?_
  refine x_icmp_ge (tgt := 65) d_M_thickest_25 rfl (fun c9 => ?_) (fun c9 => ?_)
  · replace h := ite_t c9 h
    refine x_iload_n d_M_thickest_65 rfl 2 rfl ?_
    obtain rfl := Option.some.inj h
    exact x_ret (r := some (.int w2)) d_M_thickest_66 ⟨_, rfl, rfl⟩
  · replace h := ite_f c9 h
    refine x_aload_n d_M_thickest_28 rfl 0 rfl ?_
    refine y_getR d_M_thickest_29 fl_11_99 rfl kd_78 rr_78_60 ?_
    refine x_iload_n d_M_thickest_32 rfl 3 rfl ?_
    obtain ⟨g10, h⟩ := gd_inv h
    refine y_iald d_M_thickest_33 kd_102 g10 ?_
    refine x_iload_n d_M_thickest_34 rfl 1 rfl ?_
    refine x_iand d_M_thickest_35 ?_
    obtain ⟨v12, q11, h⟩ := bd_inv h
    refine y_S1i (v := v12) (S1 := S) d_M_thickest_36 ml_11_331 (Nat.le_of_ble_eq_true rfl) (Nat.le_of_ble_eq_true rfl) (c_M_members (by omega) q11) ?_
    refine x_aload_n d_M_thickest_39 rfl 0 rfl ?_
    refine y_getR d_M_thickest_40 fl_11_99 rfl kd_78 rr_78_60 ?_
    refine x_iload_n d_M_thickest_43 rfl 2 rfl ?_
    obtain ⟨g13, h⟩ := gd_inv h
    refine y_iald d_M_thickest_44 kd_102 g13 ?_
    refine x_iload_n d_M_thickest_45 rfl 1 rfl ?_
    refine x_iand d_M_thickest_46 ?_
    obtain ⟨v15, q14, h⟩ := bd_inv h
    refine y_S1i (v := v15) (S1 := S) d_M_thickest_47 ml_11_331 (Nat.le_of_ble_eq_true rfl) (Nat.le_of_ble_eq_true rfl) (c_M_members (by omega) q14) ?_
    refine x_icmp_le (tgt := 57) d_M_thickest_50 rfl (fun c16 => ?_) (fun c16 => ?_)
    · replace h := ite_t c16 h
      refine x_iload_n d_M_thickest_57 rfl 2 rfl ?_
      refine x_istore_n (L1 := [(0, .ref 78), (1, .int z1), (2, .int w2), (3, .int w3)]) d_M_thickest_58 rfl (Nat.le_of_ble_eq_true rfl) rfl rfl ?_
      obtain ⟨v17, e18, h⟩ := lt_inv h
      refine y_iinc (L1 := [(0, .ref 78), (1, .int z1), (2, .int w2), (3, .int v17)]) e18 ic_1 d_M_thickest_59 3 rfl (Nat.le_of_ble_eq_true rfl) rfl rfl ?_
      refine x_goto (tgt := 20) d_M_thickest_62 rfl ?_
      exact ih w2 v17 _ h
    · replace h := ite_f c16 h
      refine x_iload_n d_M_thickest_53 rfl 3 rfl ?_
      refine x_goto (tgt := 58) d_M_thickest_54 rfl ?_
      refine x_istore_n (L1 := [(0, .ref 78), (1, .int z1), (2, .int w3), (3, .int w3)]) d_M_thickest_58 rfl (Nat.le_of_ble_eq_true rfl) rfl rfl ?_
      obtain ⟨v19, e20, h⟩ := lt_inv h
      refine y_iinc (L1 := [(0, .ref 78), (1, .int z1), (2, .int w3), (3, .int v19)]) e20 ic_1 d_M_thickest_59 3 rfl (Nat.le_of_ble_eq_true rfl) rfl rfl ?_
      refine x_goto (tgt := 20) d_M_thickest_62 rfl ?_
      exact ih w3 v19 _ h
set_option maxRecDepth 100000 in
set_option maxHeartbeats 4000000 in
theorem c_M_thickest {X : Nat × (Nat → Int32)} {D F G : Nat} (hD : 2 ≤ D) {S : St} {res : Int32 × St} (h : fM_thickest F G S  = some res) : Ek X (D) mM_thickest 0 [(0, .ref 78)] [] S (some (.int res.1)) res.2 := by
  obtain ⟨D, rfl⟩ : ∃ E, D = E + 1 := ⟨D - 1, by omega⟩
  unfold fM_thickest at h
  refine x_aload_n d_M_thickest_0 rfl 0 rfl ?_
  obtain ⟨S2, q1, h⟩ := bd_inv h
  refine y_V0v (S1 := S2) d_M_thickest_1 ml_11_464 kd_78 rfl (Nat.le_of_ble_eq_true rfl) (Nat.le_of_ble_eq_true rfl) (c_M_fill (by omega) q1) ?_
  refine x_aload_n d_M_thickest_4 rfl 0 rfl ?_
  refine x_iconst d_M_thickest_5 ic_1 ?_
  obtain ⟨v4, q3, h⟩ := bd_inv h
  refine y_V1i (v := v4) (S1 := S2) d_M_thickest_6 ml_11_454 kd_78 rfl (Nat.le_of_ble_eq_true rfl) (Nat.le_of_ble_eq_true rfl) (c_M_given (by omega) q3) ?_
  refine x_aload_n d_M_thickest_9 rfl 0 rfl ?_
  refine x_iconst d_M_thickest_10 ic_2 ?_
  obtain ⟨v6, q5, h⟩ := bd_inv h
  refine y_V1i (v := v6) (S1 := S2) d_M_thickest_11 ml_11_454 kd_78 rfl (Nat.le_of_ble_eq_true rfl) (Nat.le_of_ble_eq_true rfl) (c_M_given (by omega) q5) ?_
  refine x_ior d_M_thickest_14 ?_
  obtain ⟨v7, e8, h⟩ := lt_inv h
  refine y_istore_n (L1 := [(0, .ref 78), (1, .int v7)]) e8 d_M_thickest_15 rfl (Nat.le_of_ble_eq_true rfl) rfl rfl ?_
  refine x_iconst d_M_thickest_16 ic_0 ?_
  refine x_istore_n (L1 := [(0, .ref 78), (1, .int v7), (2, .int (0 : Int32))]) d_M_thickest_17 rfl (Nat.le_of_ble_eq_true rfl) rfl rfl ?_
  refine x_iconst d_M_thickest_18 ic_1 ?_
  refine x_istore_n (L1 := [(0, .ref 78), (1, .int v7), (2, .int (0 : Int32)), (3, .int (1 : Int32))]) d_M_thickest_19 rfl (Nat.le_of_ble_eq_true rfl) rfl rfl ?_
  refine T_M_thickest_20 (by omega)   F (0 : Int32) (1 : Int32) _ h
/-! NinetyPlayers.busiest -/
def fN_busiest (F G : Nat) (S : St) (p1 : Int32) : Option (Int32 × St) :=
  bd (fN_isHand F G S p1) fun v2 => if v2 = 0 then some ((-1 : Int32), S) else bd (fN_lookAtKeys F G S ) fun S5 => bd (fK_setOf F G S5 p1) fun v7 => bd (fK_fullestBeat F G S5 v7) fun v9 => some (v9, S5)
set_option maxRecDepth 100000 in
set_option maxHeartbeats 4000000 in
theorem c_N_busiest {X : Nat × (Nat → Int32)} {D F G : Nat} (hD : 3 ≤ D) {S : St} {p1 : Int32} {res : Int32 × St} (h : fN_busiest F G S p1 = some res) : Ek X (D) mN_busiest 0 [(0, .ref 0), (1, .int p1)] [] S (some (.int res.1)) res.2 := by
  obtain ⟨D, rfl⟩ : ∃ E, D = E + 1 := ⟨D - 1, by omega⟩
  unfold fN_busiest at h
  refine x_iload_n d_N_busiest_0 rfl 1 rfl ?_
  obtain ⟨v2, q1, h⟩ := bd_inv h
  refine y_S1i (v := v2) (S1 := S) d_N_busiest_1 ml_0_170 (Nat.le_of_ble_eq_true rfl) (Nat.le_of_ble_eq_true rfl) (c_N_isHand (by omega) q1) ?_
  refine x_if_ne (tgt := 9) d_N_busiest_4 rfl (fun c3 => ?_) (fun c3 => ?_)
  · replace h := ite_f c3 h
    refine x_aload_n d_N_busiest_9 rfl 0 rfl ?_
    obtain ⟨S5, q4, h⟩ := bd_inv h
    refine y_V0v (S1 := S5) d_N_busiest_10 ml_0_173 kd_0 rfl (Nat.le_of_ble_eq_true rfl) (Nat.le_of_ble_eq_true rfl) (c_N_lookAtKeys (by omega) q4) ?_
    refine x_aload_n d_N_busiest_13 rfl 0 rfl ?_
    refine y_getR d_N_busiest_14 fl_0_50 rfl kd_0 rr_0_7 ?_
    refine x_aload_n d_N_busiest_17 rfl 0 rfl ?_
    refine y_getR d_N_busiest_18 fl_0_50 rfl kd_0 rr_0_7 ?_
    refine x_iload_n d_N_busiest_21 rfl 1 rfl ?_
    obtain ⟨v7, q6, h⟩ := bd_inv h
    refine y_V1i (v := v7) (S1 := S5) d_N_busiest_22 ml_0_315 kd_56 rfl (Nat.le_of_ble_eq_true rfl) (Nat.le_of_ble_eq_true rfl) (c_K_setOf (by omega) q6) ?_
    obtain ⟨v9, q8, h⟩ := bd_inv h
    refine y_V1i (v := v9) (S1 := S5) d_N_busiest_25 ml_0_312 kd_56 rfl (Nat.le_of_ble_eq_true rfl) (Nat.le_of_ble_eq_true rfl) (c_K_fullestBeat (by omega) q8) ?_
    obtain rfl := Option.some.inj h
    exact x_ret (r := some (.int v9)) d_N_busiest_28 ⟨_, rfl, rfl⟩
  · replace h := ite_t c3 h
    refine x_iconst d_N_busiest_7 ic_m1 ?_
    obtain rfl := Option.some.inj h
    exact x_ret (r := some (.int (-1 : Int32))) d_N_busiest_8 ⟨_, rfl, rfl⟩
/-! NinetyPlayersModel.busiest -/
def b_M_busiest_17 (F G : Nat) (S : St) (z1 : Int32) (rec : Int32 → Int32 → Option (Int32 × St)) (w2 : Int32) (w3 : Int32) : Option (Int32 × St) :=
  if (S.1 78 46) ≤ w3 then some (w2, S) else bd (fM_given F G S z1) fun v8 => gd (inB w3 12) (bd (fM_members F G S (v8 &&& (S.1 102 w3.toNatClampNeg))) fun v11 => bd (fM_given F G S z1) fun v13 => gd (inB w2 12) (bd (fM_members F G S (v13 &&& (S.1 102 w2.toNatClampNeg))) fun v16 => if v11 ≤ v16 then lt (w3 + 1) fun v18 => rec w2 v18 else lt (w3 + 1) fun v20 => rec w3 v20))
def fM_busiest (F G : Nat) (S : St) (p1 : Int32) : Option (Int32 × St) :=
  bd (fM_isHand F G S p1) fun v2 => if v2 = 0 then some ((-1 : Int32), S) else bd (fM_fill F G S ) fun S5 => fx2 (b_M_busiest_17 F G S5 p1) F (0 : Int32) (1 : Int32)
set_option maxRecDepth 100000 in
set_option maxHeartbeats 4000000 in
theorem T_M_busiest_17 {X : Nat × (Nat → Int32)} {D F G : Nat} (hD : 2 ≤ D + 1) {S : St} {z1 : Int32} : ∀ (f : Nat) (w2 : Int32) (w3 : Int32) (res : Int32 × St), fx2 (b_M_busiest_17 F G S z1 ) f w2 w3 = some res → Ek X (D + 1) mM_busiest 17 [(0, .ref 78), (1, .int z1), (2, .int w2), (3, .int w3)] [] S (some (.int res.1)) res.2 := by
  refine fx2_ind ?_
  intro rec ih w2 w3 res h
  unfold b_M_busiest_17 at h
  refine x_iload_n d_M_busiest_17 rfl 3 rfl ?_
  refine x_aload_n d_M_busiest_18 rfl 0 rfl ?_
  refine y_getI d_M_busiest_19 fl_11_78 rfl kd_78 ?_
  refine x_icmp_ge (tgt := 70) d_M_busiest_22 rfl (fun c6 => ?_) (fun c6 => ?_)
  · replace h := ite_t c6 h
    refine x_iload_n d_M_busiest_70 rfl 2 rfl ?_
    obtain rfl := Option.some.inj h
    exact x_ret (r := some (.int w2)) d_M_busiest_71 ⟨_, rfl, rfl⟩
  · replace h := ite_f c6 h
    refine x_aload_n d_M_busiest_25 rfl 0 rfl ?_
    refine x_iload_n d_M_busiest_26 rfl 1 rfl ?_
    obtain ⟨v8, q7, h⟩ := bd_inv h
    refine y_V1i (v := v8) (S1 := S) d_M_busiest_27 ml_11_454 kd_78 rfl (Nat.le_of_ble_eq_true rfl) (Nat.le_of_ble_eq_true rfl) (c_M_given (by omega) q7) ?_
    refine x_aload_n d_M_busiest_30 rfl 0 rfl ?_
    refine y_getR d_M_busiest_31 fl_11_99 rfl kd_78 rr_78_60 ?_
    refine x_iload_n d_M_busiest_34 rfl 3 rfl ?_
    obtain ⟨g9, h⟩ := gd_inv h
    refine y_iald d_M_busiest_35 kd_102 g9 ?_
    refine x_iand d_M_busiest_36 ?_
    obtain ⟨v11, q10, h⟩ := bd_inv h
    refine y_S1i (v := v11) (S1 := S) d_M_busiest_37 ml_11_331 (Nat.le_of_ble_eq_true rfl) (Nat.le_of_ble_eq_true rfl) (c_M_members (by omega) q10) ?_
    refine x_aload_n d_M_busiest_40 rfl 0 rfl ?_
    refine x_iload_n d_M_busiest_41 rfl 1 rfl ?_
    obtain ⟨v13, q12, h⟩ := bd_inv h
    refine y_V1i (v := v13) (S1 := S) d_M_busiest_42 ml_11_454 kd_78 rfl (Nat.le_of_ble_eq_true rfl) (Nat.le_of_ble_eq_true rfl) (c_M_given (by omega) q12) ?_
    refine x_aload_n d_M_busiest_45 rfl 0 rfl ?_
    refine y_getR d_M_busiest_46 fl_11_99 rfl kd_78 rr_78_60 ?_
    refine x_iload_n d_M_busiest_49 rfl 2 rfl ?_
    obtain ⟨g14, h⟩ := gd_inv h
    refine y_iald d_M_busiest_50 kd_102 g14 ?_
    refine x_iand d_M_busiest_51 ?_
    obtain ⟨v16, q15, h⟩ := bd_inv h
    refine y_S1i (v := v16) (S1 := S) d_M_busiest_52 ml_11_331 (Nat.le_of_ble_eq_true rfl) (Nat.le_of_ble_eq_true rfl) (c_M_members (by omega) q15) ?_
    refine x_icmp_le (tgt := 62) d_M_busiest_55 rfl (fun c17 => ?_) (fun c17 => ?_)
    · replace h := ite_t c17 h
      refine x_iload_n d_M_busiest_62 rfl 2 rfl ?_
      refine x_istore_n (L1 := [(0, .ref 78), (1, .int z1), (2, .int w2), (3, .int w3)]) d_M_busiest_63 rfl (Nat.le_of_ble_eq_true rfl) rfl rfl ?_
      obtain ⟨v18, e19, h⟩ := lt_inv h
      refine y_iinc (L1 := [(0, .ref 78), (1, .int z1), (2, .int w2), (3, .int v18)]) e19 ic_1 d_M_busiest_64 3 rfl (Nat.le_of_ble_eq_true rfl) rfl rfl ?_
      refine x_goto (tgt := 17) d_M_busiest_67 rfl ?_
      exact ih w2 v18 _ h
    · replace h := ite_f c17 h
      refine x_iload_n d_M_busiest_58 rfl 3 rfl ?_
      refine x_goto (tgt := 63) d_M_busiest_59 rfl ?_
      refine x_istore_n (L1 := [(0, .ref 78), (1, .int z1), (2, .int w3), (3, .int w3)]) d_M_busiest_63 rfl (Nat.le_of_ble_eq_true rfl) rfl rfl ?_
      obtain ⟨v20, e21, h⟩ := lt_inv h
      refine y_iinc (L1 := [(0, .ref 78), (1, .int z1), (2, .int w3), (3, .int v20)]) e21 ic_1 d_M_busiest_64 3 rfl (Nat.le_of_ble_eq_true rfl) rfl rfl ?_
      refine x_goto (tgt := 17) d_M_busiest_67 rfl ?_
      exact ih w3 v20 _ h
set_option maxRecDepth 100000 in
set_option maxHeartbeats 4000000 in
theorem c_M_busiest {X : Nat × (Nat → Int32)} {D F G : Nat} (hD : 2 ≤ D) {S : St} {p1 : Int32} {res : Int32 × St} (h : fM_busiest F G S p1 = some res) : Ek X (D) mM_busiest 0 [(0, .ref 78), (1, .int p1)] [] S (some (.int res.1)) res.2 := by
  obtain ⟨D, rfl⟩ : ∃ E, D = E + 1 := ⟨D - 1, by omega⟩
  unfold fM_busiest at h
  refine x_iload_n d_M_busiest_0 rfl 1 rfl ?_
  obtain ⟨v2, q1, h⟩ := bd_inv h
  refine y_S1i (v := v2) (S1 := S) d_M_busiest_1 ml_11_476 (Nat.le_of_ble_eq_true rfl) (Nat.le_of_ble_eq_true rfl) (c_M_isHand (by omega) q1) ?_
  refine x_if_ne (tgt := 9) d_M_busiest_4 rfl (fun c3 => ?_) (fun c3 => ?_)
  · replace h := ite_f c3 h
    refine x_aload_n d_M_busiest_9 rfl 0 rfl ?_
    obtain ⟨S5, q4, h⟩ := bd_inv h
    refine y_V0v (S1 := S5) d_M_busiest_10 ml_11_464 kd_78 rfl (Nat.le_of_ble_eq_true rfl) (Nat.le_of_ble_eq_true rfl) (c_M_fill (by omega) q4) ?_
    refine x_iconst d_M_busiest_13 ic_0 ?_
    refine x_istore_n (L1 := [(0, .ref 78), (1, .int p1), (2, .int (0 : Int32))]) d_M_busiest_14 rfl (Nat.le_of_ble_eq_true rfl) rfl rfl ?_
    refine x_iconst d_M_busiest_15 ic_1 ?_
    refine x_istore_n (L1 := [(0, .ref 78), (1, .int p1), (2, .int (0 : Int32)), (3, .int (1 : Int32))]) d_M_busiest_16 rfl (Nat.le_of_ble_eq_true rfl) rfl rfl ?_
    refine T_M_busiest_17 (by omega)   F (0 : Int32) (1 : Int32) _ h
  · replace h := ite_t c3 h
    refine x_iconst d_M_busiest_7 ic_m1 ?_
    obtain rfl := Option.some.inj h
    exact x_ret (r := some (.int (-1 : Int32))) d_M_busiest_8 ⟨_, rfl, rfl⟩
/-! NinetyPlayers.law -/
def fN_law (F G : Nat) (S : St) (p1 : Int32) : Option (Int32 × St) :=
  bd (fN_isKey F G S p1) fun v2 => if v2 = 0 then some ((-1 : Int32), S) else bd (fN_lookAtKeys F G S ) fun S5 => lt (sI S5 56 2 p1) fun S6 => bd (fK_clashingBeats F G S6 (S6.1 56 5) (S6.1 56 6)) fun v9 => bd (fJ_bitCount F G S6 v9) fun v11 => some (v11, S6)
set_option maxRecDepth 100000 in
set_option maxHeartbeats 4000000 in
theorem c_N_law {X : Nat × (Nat → Int32)} {D F G : Nat} (hD : 5 ≤ D) {S : St} {p1 : Int32} {res : Int32 × St} (h : fN_law F G S p1 = some res) : Ek X (D) mN_law 0 [(0, .ref 0), (1, .int p1)] [] S (some (.int res.1)) res.2 := by
  obtain ⟨D, rfl⟩ : ∃ E, D = E + 1 := ⟨D - 1, by omega⟩
  unfold fN_law at h
  refine x_iload_n d_N_law_0 rfl 1 rfl ?_
  obtain ⟨v2, q1, h⟩ := bd_inv h
  refine y_S1i (v := v2) (S1 := S) d_N_law_1 ml_0_240 (Nat.le_of_ble_eq_true rfl) (Nat.le_of_ble_eq_true rfl) (c_N_isKey (by omega) q1) ?_
  refine x_if_ne (tgt := 9) d_N_law_4 rfl (fun c3 => ?_) (fun c3 => ?_)
  · replace h := ite_f c3 h
    refine x_aload_n d_N_law_9 rfl 0 rfl ?_
    obtain ⟨S5, q4, h⟩ := bd_inv h
    refine y_V0v (S1 := S5) d_N_law_10 ml_0_173 kd_0 rfl (Nat.le_of_ble_eq_true rfl) (Nat.le_of_ble_eq_true rfl) (c_N_lookAtKeys (by omega) q4) ?_
    refine x_aload_n d_N_law_13 rfl 0 rfl ?_
    refine y_getR d_N_law_14 fl_0_50 rfl kd_0 rr_0_7 ?_
    refine x_iload_n d_N_law_17 rfl 1 rfl ?_
    obtain ⟨S6, e7, h⟩ := lt_inv h
    refine y_putI e7 d_N_law_18 fl_0_275 rfl rfl kd_56 rfl rfl ?_
    refine x_aload_n d_N_law_21 rfl 0 rfl ?_
    refine y_getR d_N_law_22 fl_0_50 rfl kd_0 rr_0_7 ?_
    refine x_aload_n d_N_law_25 rfl 0 rfl ?_
    refine y_getR d_N_law_26 fl_0_50 rfl kd_0 rr_0_7 ?_
    refine y_getI d_N_law_29 fl_0_183 rfl kd_56 ?_
    refine x_aload_n d_N_law_32 rfl 0 rfl ?_
    refine y_getR d_N_law_33 fl_0_50 rfl kd_0 rr_0_7 ?_
    refine y_getI d_N_law_36 fl_0_186 rfl kd_56 ?_
    obtain ⟨v9, q8, h⟩ := bd_inv h
    refine y_V2i (v := v9) (S1 := S6) d_N_law_39 ml_0_253 kd_56 rfl (Nat.le_of_ble_eq_true rfl) (Nat.le_of_ble_eq_true rfl) (c_K_clashingBeats (by omega) q8) ?_
    obtain ⟨v11, q10, h⟩ := bd_inv h
    refine y_S1i (v := v11) (S1 := S6) d_N_law_42 ml_0_206 (Nat.le_of_ble_eq_true rfl) (Nat.le_of_ble_eq_true rfl) (c_J_bitCount (by omega) q10) ?_
    obtain rfl := Option.some.inj h
    exact x_ret (r := some (.int v11)) d_N_law_45 ⟨_, rfl, rfl⟩
  · replace h := ite_t c3 h
    refine x_iconst d_N_law_7 ic_m1 ?_
    obtain rfl := Option.some.inj h
    exact x_ret (r := some (.int (-1 : Int32))) d_N_law_8 ⟨_, rfl, rfl⟩
/-! NinetyPlayersModel.law -/
def fM_law (F G : Nat) (S : St) (p1 : Int32) : Option (Int32 × St) :=
  bd (fM_isIn F G S p1 (0 : Int32) (87 : Int32)) fun v2 => if v2 = 0 then some ((-1 : Int32), S) else bd (fM_fill F G S ) fun S5 => bd (fM_clashBeats F G S5 p1) fun v7 => bd (fM_members F G S5 v7) fun v9 => some (v9, S5)
set_option maxRecDepth 100000 in
set_option maxHeartbeats 4000000 in
theorem c_M_law {X : Nat × (Nat → Int32)} {D F G : Nat} (hD : 4 ≤ D) {S : St} {p1 : Int32} {res : Int32 × St} (h : fM_law F G S p1 = some res) : Ek X (D) mM_law 0 [(0, .ref 78), (1, .int p1)] [] S (some (.int res.1)) res.2 := by
  obtain ⟨D, rfl⟩ : ∃ E, D = E + 1 := ⟨D - 1, by omega⟩
  unfold fM_law at h
  refine x_iload_n d_M_law_0 rfl 1 rfl ?_
  refine x_iconst d_M_law_1 ic_0 ?_
  refine x_bipush d_M_law_2 bp_87 ?_
  obtain ⟨v2, q1, h⟩ := bd_inv h
  refine y_S3i (v := v2) (S1 := S) d_M_law_4 ml_11_429 (Nat.le_of_ble_eq_true rfl) (Nat.le_of_ble_eq_true rfl) (c_M_isIn (by omega) q1) ?_
  refine x_if_ne (tgt := 12) d_M_law_7 rfl (fun c3 => ?_) (fun c3 => ?_)
  · replace h := ite_f c3 h
    refine x_aload_n d_M_law_12 rfl 0 rfl ?_
    obtain ⟨S5, q4, h⟩ := bd_inv h
    refine y_V0v (S1 := S5) d_M_law_13 ml_11_464 kd_78 rfl (Nat.le_of_ble_eq_true rfl) (Nat.le_of_ble_eq_true rfl) (c_M_fill (by omega) q4) ?_
    refine x_aload_n d_M_law_16 rfl 0 rfl ?_
    refine x_iload_n d_M_law_17 rfl 1 rfl ?_
    obtain ⟨v7, q6, h⟩ := bd_inv h
    refine y_V1i (v := v7) (S1 := S5) d_M_law_18 ml_11_482 kd_78 rfl (Nat.le_of_ble_eq_true rfl) (Nat.le_of_ble_eq_true rfl) (c_M_clashBeats (by omega) q6) ?_
    obtain ⟨v9, q8, h⟩ := bd_inv h
    refine y_S1i (v := v9) (S1 := S5) d_M_law_21 ml_11_331 (Nat.le_of_ble_eq_true rfl) (Nat.le_of_ble_eq_true rfl) (c_M_members (by omega) q8) ?_
    obtain rfl := Option.some.inj h
    exact x_ret (r := some (.int v9)) d_M_law_24 ⟨_, rfl, rfl⟩
  · replace h := ite_t c3 h
    refine x_iconst d_M_law_10 ic_m1 ?_
    obtain rfl := Option.some.inj h
    exact x_ret (r := some (.int (-1 : Int32))) d_M_law_11 ⟨_, rfl, rfl⟩
/-! NinetyPlayers.dearest -/
def j_N_dearest_38 (F G : Nat) (rec : Int32 → Int32 → Int32 → St → Option (Int32 × St)) (S : St) (y1 : Int32) (y2 : Int32) (y3 : Int32) (s0 : Int32) : Option (Int32 × St) :=
  if s0 ≤ y2 then lt (y3 + 1) fun v9 => rec y1 y2 v9 S else lt (y3 + 1) fun v11 => rec y3 s0 v11 S
def b_N_dearest_6 (F G : Nat) (rec : Int32 → Int32 → Int32 → St → Option (Int32 × St)) (w1 : Int32) (w2 : Int32) (w3 : Int32) (S : St) : Option (Int32 × St) :=
  gd (isSc S.2.2.1) (if (S.1 S.2.2.1 6) ≤ w3 then some (w1, S) else gd (inB w3 10) (if (S.1 31 w3.toNatClampNeg) = 0 then bd2 (fN_missedOf F G S w3) fun v6 S7 => j_N_dearest_38 F G rec  S7 w1 w2 w3 v6 else j_N_dearest_38 F G rec  S w1 w2 w3 (-1 : Int32)))
def fN_dearest (F G : Nat) (S : St) : Option (Int32 × St) :=
  fx4 (b_N_dearest_6 F G ) F (-1 : Int32) (-1 : Int32) (0 : Int32) S
set_option maxRecDepth 100000 in
set_option maxHeartbeats 4000000 in
theorem T_N_dearest_6 {X : Nat × (Nat → Int32)} {D F G : Nat} (hD : 4 ≤ D + 1) : ∀ (f : Nat) (w1 : Int32) (w2 : Int32) (w3 : Int32) (S : St) (res : Int32 × St), fx4 (b_N_dearest_6 F G ) f w1 w2 w3 S = some res → Ek X (D + 1) mN_dearest 6 [(0, .ref 0), (1, .int w1), (2, .int w2), (3, .int w3)] [] S (some (.int res.1)) res.2 := by
  refine fx4_ind ?_
  intro rec ih w1 w2 w3 S res h
  unfold b_N_dearest_6 at h
  have J38 : ∀ (S : St) (y1 : Int32) (y2 : Int32) (y3 : Int32) (s0 : Int32) (res : Int32 × St), j_N_dearest_38 F G rec S y1 y2 y3 s0 = some res → Ek X (D + 1) mN_dearest 38 [(0, .ref 0), (1, .int y1), (2, .int y2), (3, .int y3)] [.int s0] S (some (.int res.1)) res.2 := by
    intro S y1 y2 y3 s0 res h
    unfold j_N_dearest_38 at h
    refine x_istore (L1 := [(0, .ref 0), (1, .int y1), (2, .int y2), (3, .int y3), (4, .int s0)]) d_N_dearest_38 (Nat.le_of_ble_eq_true rfl) rfl rfl ?_
    refine x_iload d_N_dearest_40 4 rfl ?_
    refine x_iload_n d_N_dearest_42 rfl 2 rfl ?_
    refine x_icmp_le (tgt := 51) d_N_dearest_43 rfl (fun c8 => ?_) (fun c8 => ?_)
    · replace h := ite_t c8 h
      obtain ⟨v9, e10, h⟩ := lt_inv h
      refine y_iinc (L1 := [(0, .ref 0), (1, .int y1), (2, .int y2), (3, .int v9), (4, .int s0)]) e10 ic_1 d_N_dearest_51 3 rfl (Nat.le_of_ble_eq_true rfl) rfl rfl ?_
      refine x_goto (tgt := 6) d_N_dearest_54 rfl ?_
      refine y_pick (L1 := [(0, .ref 0), (1, .int y1), (2, .int y2), (3, .int v9)]) [0, 1, 2, 3] rfl ?_
      exact ih y1 y2 v9 S _ h
    · replace h := ite_f c8 h
      refine x_iload d_N_dearest_46 4 rfl ?_
      refine x_istore_n (L1 := [(0, .ref 0), (1, .int y1), (2, .int s0), (3, .int y3), (4, .int s0)]) d_N_dearest_48 rfl (Nat.le_of_ble_eq_true rfl) rfl rfl ?_
      refine x_iload_n d_N_dearest_49 rfl 3 rfl ?_
      refine x_istore_n (L1 := [(0, .ref 0), (1, .int y3), (2, .int s0), (3, .int y3), (4, .int s0)]) d_N_dearest_50 rfl (Nat.le_of_ble_eq_true rfl) rfl rfl ?_
      obtain ⟨v11, e12, h⟩ := lt_inv h
      refine y_iinc (L1 := [(0, .ref 0), (1, .int y3), (2, .int s0), (3, .int v11), (4, .int s0)]) e12 ic_1 d_N_dearest_51 3 rfl (Nat.le_of_ble_eq_true rfl) rfl rfl ?_
      refine x_goto (tgt := 6) d_N_dearest_54 rfl ?_
      refine y_pick (L1 := [(0, .ref 0), (1, .int y3), (2, .int s0), (3, .int v11)]) [0, 1, 2, 3] rfl ?_
      exact ih y3 s0 v11 S _ h
  refine x_iload_n d_N_dearest_6 rfl 3 rfl ?_
  refine x_aload_n d_N_dearest_7 rfl 0 rfl ?_
  refine y_getR d_N_dearest_8 fl_0_25 rfl kd_0 rr_told ?_
  obtain ⟨g1, h⟩ := gd_inv h
  refine y_getI d_N_dearest_11 fl_0_117 rfl (ksSc g1) ?_
  refine x_icmp_ge (tgt := 57) d_N_dearest_14 rfl (fun c2 => ?_) (fun c2 => ?_)
  · replace h := ite_t c2 h
    refine x_iload_n d_N_dearest_57 rfl 1 rfl ?_
    obtain rfl := Option.some.inj h
    exact x_ret (r := some (.int w1)) d_N_dearest_58 ⟨_, rfl, rfl⟩
  · replace h := ite_f c2 h
    refine x_aload_n d_N_dearest_17 rfl 0 rfl ?_
    refine y_getR d_N_dearest_18 fl_0_32 rfl kd_0 rr_0_4 ?_
    refine y_getR d_N_dearest_21 fl_0_144 rfl kd_30 rr_30_2 ?_
    refine x_iload_n d_N_dearest_24 rfl 3 rfl ?_
    obtain ⟨g3, h⟩ := gd_inv h
    refine y_iald d_N_dearest_25 kd_31 g3 ?_
    refine x_if_ne (tgt := 37) d_N_dearest_26 rfl (fun c4 => ?_) (fun c4 => ?_)
    · replace h := ite_f c4 h
      refine x_iconst d_N_dearest_37 ic_m1 ?_
      exact J38 S w1 w2 w3 (-1 : Int32) _ h
    · replace h := ite_t c4 h
      refine x_aload_n d_N_dearest_29 rfl 0 rfl ?_
      refine x_iload_n d_N_dearest_30 rfl 3 rfl ?_
      obtain ⟨v6, S7, q5, h⟩ := bd2_inv h
      refine y_V1i (v := v6) (S1 := S7) d_N_dearest_31 ml_0_147 kd_0 rfl (Nat.le_of_ble_eq_true rfl) (Nat.le_of_ble_eq_true rfl) (c_N_missedOf (by omega) q5) ?_
      refine x_goto (tgt := 38) d_N_dearest_34 rfl ?_
      exact J38 S7 w1 w2 w3 v6 _ h
set_option maxRecDepth 100000 in
set_option maxHeartbeats 4000000 in
theorem c_N_dearest {X : Nat × (Nat → Int32)} {D F G : Nat} (hD : 4 ≤ D) {S : St} {res : Int32 × St} (h : fN_dearest F G S  = some res) : Ek X (D) mN_dearest 0 [(0, .ref 0)] [] S (some (.int res.1)) res.2 := by
  obtain ⟨D, rfl⟩ : ∃ E, D = E + 1 := ⟨D - 1, by omega⟩
  unfold fN_dearest at h
  refine x_iconst d_N_dearest_0 ic_m1 ?_
  refine x_istore_n (L1 := [(0, .ref 0), (1, .int (-1 : Int32))]) d_N_dearest_1 rfl (Nat.le_of_ble_eq_true rfl) rfl rfl ?_
  refine x_iconst d_N_dearest_2 ic_m1 ?_
  refine x_istore_n (L1 := [(0, .ref 0), (1, .int (-1 : Int32)), (2, .int (-1 : Int32))]) d_N_dearest_3 rfl (Nat.le_of_ble_eq_true rfl) rfl rfl ?_
  refine x_iconst d_N_dearest_4 ic_0 ?_
  refine x_istore_n (L1 := [(0, .ref 0), (1, .int (-1 : Int32)), (2, .int (-1 : Int32)), (3, .int (0 : Int32))]) d_N_dearest_5 rfl (Nat.le_of_ble_eq_true rfl) rfl rfl ?_
  refine T_N_dearest_6 (by omega)   F (-1 : Int32) (-1 : Int32) (0 : Int32) S _ h
/-! NinetyPlayersModel.dearest -/
def b_M_dearest_12 (F G : Nat) (S : St) (rec : Int32 → Int32 → Option (Int32 × St)) (w1 : Int32) (w2 : Int32) : Option (Int32 × St) :=
  if (S.1 78 48) ≤ w2 then some (w1, S) else gd (inB w2 41) (if (S.1 100 w2.toNatClampNeg) = 0 then if w1 < 0 then lt (w2 + 1) fun v11 => rec w2 v11 else gd (inB w2 10) (gd (inB w1 10) (if (S.1 107 w2.toNatClampNeg) ≤ (S.1 107 w1.toNatClampNeg) then lt (w2 + 1) fun v16 => rec w1 v16 else lt (w2 + 1) fun v18 => rec w2 v18)) else lt (w2 + 1) fun v8 => rec w1 v8)
def fM_dearest (F G : Nat) (S : St) : Option (Int32 × St) :=
  bd (fM_fill F G S ) fun S2 => bd (fM_layMissed F G S2 ) fun S4 => fx2 (b_M_dearest_12 F G S4) F (-1 : Int32) (0 : Int32)
set_option maxRecDepth 100000 in
set_option maxHeartbeats 4000000 in
theorem T_M_dearest_12 {X : Nat × (Nat → Int32)} {D F G : Nat} (hD : 4 ≤ D + 1) {S : St} : ∀ (f : Nat) (w1 : Int32) (w2 : Int32) (res : Int32 × St), fx2 (b_M_dearest_12 F G S ) f w1 w2 = some res → Ek X (D + 1) mM_dearest 12 [(0, .ref 78), (1, .int w1), (2, .int w2)] [] S (some (.int res.1)) res.2 := by
  refine fx2_ind ?_
  intro rec ih w1 w2 res h
  unfold b_M_dearest_12 at h
  refine x_iload_n d_M_dearest_12 rfl 2 rfl ?_
  refine x_aload_n d_M_dearest_13 rfl 0 rfl ?_
  refine y_getI d_M_dearest_14 fl_11_322 rfl kd_78 ?_
  refine x_icmp_ge (tgt := 56) d_M_dearest_17 rfl (fun c5 => ?_) (fun c5 => ?_)
  · replace h := ite_t c5 h
    refine x_iload_n d_M_dearest_56 rfl 1 rfl ?_
    obtain rfl := Option.some.inj h
    exact x_ret (r := some (.int w1)) d_M_dearest_57 ⟨_, rfl, rfl⟩
  · replace h := ite_f c5 h
    refine x_aload_n d_M_dearest_20 rfl 0 rfl ?_
    refine y_getR d_M_dearest_21 fl_11_93 rfl kd_78 rr_78_58 ?_
    refine x_iload_n d_M_dearest_24 rfl 2 rfl ?_
    obtain ⟨g6, h⟩ := gd_inv h
    refine y_iald d_M_dearest_25 kd_100 g6 ?_
    refine x_if_ne (tgt := 50) d_M_dearest_26 rfl (fun c7 => ?_) (fun c7 => ?_)
    · replace h := ite_f c7 h
      obtain ⟨v8, e9, h⟩ := lt_inv h
      refine y_iinc (L1 := [(0, .ref 78), (1, .int w1), (2, .int v8)]) e9 ic_1 d_M_dearest_50 2 rfl (Nat.le_of_ble_eq_true rfl) rfl rfl ?_
      refine x_goto (tgt := 12) d_M_dearest_53 rfl ?_
      exact ih w1 v8 _ h
    · replace h := ite_t c7 h
      refine x_iload_n d_M_dearest_29 rfl 1 rfl ?_
      refine x_if_lt (tgt := 48) d_M_dearest_30 rfl (fun c10 => ?_) (fun c10 => ?_)
      · replace h := ite_t c10 h
        refine x_iload_n d_M_dearest_48 rfl 2 rfl ?_
        refine x_istore_n (L1 := [(0, .ref 78), (1, .int w2), (2, .int w2)]) d_M_dearest_49 rfl (Nat.le_of_ble_eq_true rfl) rfl rfl ?_
        obtain ⟨v11, e12, h⟩ := lt_inv h
        refine y_iinc (L1 := [(0, .ref 78), (1, .int w2), (2, .int v11)]) e12 ic_1 d_M_dearest_50 2 rfl (Nat.le_of_ble_eq_true rfl) rfl rfl ?_
        refine x_goto (tgt := 12) d_M_dearest_53 rfl ?_
        exact ih w2 v11 _ h
      · replace h := ite_f c10 h
        refine x_aload_n d_M_dearest_33 rfl 0 rfl ?_
        refine y_getR d_M_dearest_34 fl_11_114 rfl kd_78 rr_78_67 ?_
        refine x_iload_n d_M_dearest_37 rfl 2 rfl ?_
        obtain ⟨g13, h⟩ := gd_inv h
        refine y_iald d_M_dearest_38 kd_107 g13 ?_
        refine x_aload_n d_M_dearest_39 rfl 0 rfl ?_
        refine y_getR d_M_dearest_40 fl_11_114 rfl kd_78 rr_78_67 ?_
        refine x_iload_n d_M_dearest_43 rfl 1 rfl ?_
        obtain ⟨g14, h⟩ := gd_inv h
        refine y_iald d_M_dearest_44 kd_107 g14 ?_
        refine x_icmp_le (tgt := 50) d_M_dearest_45 rfl (fun c15 => ?_) (fun c15 => ?_)
        · replace h := ite_t c15 h
          obtain ⟨v16, e17, h⟩ := lt_inv h
          refine y_iinc (L1 := [(0, .ref 78), (1, .int w1), (2, .int v16)]) e17 ic_1 d_M_dearest_50 2 rfl (Nat.le_of_ble_eq_true rfl) rfl rfl ?_
          refine x_goto (tgt := 12) d_M_dearest_53 rfl ?_
          exact ih w1 v16 _ h
        · replace h := ite_f c15 h
          refine x_iload_n d_M_dearest_48 rfl 2 rfl ?_
          refine x_istore_n (L1 := [(0, .ref 78), (1, .int w2), (2, .int w2)]) d_M_dearest_49 rfl (Nat.le_of_ble_eq_true rfl) rfl rfl ?_
          obtain ⟨v18, e19, h⟩ := lt_inv h
          refine y_iinc (L1 := [(0, .ref 78), (1, .int w2), (2, .int v18)]) e19 ic_1 d_M_dearest_50 2 rfl (Nat.le_of_ble_eq_true rfl) rfl rfl ?_
          refine x_goto (tgt := 12) d_M_dearest_53 rfl ?_
          exact ih w2 v18 _ h
set_option maxRecDepth 100000 in
set_option maxHeartbeats 4000000 in
theorem c_M_dearest {X : Nat × (Nat → Int32)} {D F G : Nat} (hD : 4 ≤ D) {S : St} {res : Int32 × St} (h : fM_dearest F G S  = some res) : Ek X (D) mM_dearest 0 [(0, .ref 78)] [] S (some (.int res.1)) res.2 := by
  obtain ⟨D, rfl⟩ : ∃ E, D = E + 1 := ⟨D - 1, by omega⟩
  unfold fM_dearest at h
  refine x_aload_n d_M_dearest_0 rfl 0 rfl ?_
  obtain ⟨S2, q1, h⟩ := bd_inv h
  refine y_V0v (S1 := S2) d_M_dearest_1 ml_11_464 kd_78 rfl (Nat.le_of_ble_eq_true rfl) (Nat.le_of_ble_eq_true rfl) (c_M_fill (by omega) q1) ?_
  refine x_aload_n d_M_dearest_4 rfl 0 rfl ?_
  obtain ⟨S4, q3, h⟩ := bd_inv h
  refine y_V0v (S1 := S4) d_M_dearest_5 ml_11_497 kd_78 rfl (Nat.le_of_ble_eq_true rfl) (Nat.le_of_ble_eq_true rfl) (c_M_layMissed (by omega) q3) ?_
  refine x_iconst d_M_dearest_8 ic_m1 ?_
  refine x_istore_n (L1 := [(0, .ref 78), (1, .int (-1 : Int32))]) d_M_dearest_9 rfl (Nat.le_of_ble_eq_true rfl) rfl rfl ?_
  refine x_iconst d_M_dearest_10 ic_0 ?_
  refine x_istore_n (L1 := [(0, .ref 78), (1, .int (-1 : Int32)), (2, .int (0 : Int32))]) d_M_dearest_11 rfl (Nat.le_of_ble_eq_true rfl) rfl rfl ?_
  refine T_M_dearest_12 (by omega)   F (-1 : Int32) (0 : Int32) _ h
/-! NinetyPlayers.could -/
def b_N_could_17 (F G : Nat) (S : St) (z1 : Int32) (rec : Int32 → Int32 → Option (Int32 × St)) (w2 : Int32) (w3 : Int32) : Option (Int32 × St) :=
  gd (isSc S.2.2.1) (if (S.1 S.2.2.1 6) ≤ w3 then some (w2, S) else gd (inB w3 10) (if (S.1 31 w3.toNatClampNeg) = 0 then bd (fK_newClashesWith F G S w3 z1) fun v13 => if v13 = 0 then lt (w2 ||| ((1 : Int32) <<< (w3 &&& 31))) fun v17 => lt (w3 + 1) fun v19 => rec v17 v19 else lt (w3 + 1) fun v15 => rec w2 v15 else lt (w3 + 1) fun v10 => rec w2 v10))
def fN_could (F G : Nat) (S : St) (p1 : Int32) : Option (Int32 × St) :=
  bd (fN_isHand F G S p1) fun v2 => if v2 = 0 then some ((-1 : Int32), S) else bd (fN_lookAtKeys F G S ) fun S5 => fx2 (b_N_could_17 F G S5 p1) F (0 : Int32) (0 : Int32)
set_option maxRecDepth 100000 in
set_option maxHeartbeats 4000000 in
theorem T_N_could_17 {X : Nat × (Nat → Int32)} {D F G : Nat} (hD : 5 ≤ D + 1) {S : St} {z1 : Int32} : ∀ (f : Nat) (w2 : Int32) (w3 : Int32) (res : Int32 × St), fx2 (b_N_could_17 F G S z1 ) f w2 w3 = some res → Ek X (D + 1) mN_could 17 [(0, .ref 0), (1, .int z1), (2, .int w2), (3, .int w3)] [] S (some (.int res.1)) res.2 := by
  refine fx2_ind ?_
  intro rec ih w2 w3 res h
  unfold b_N_could_17 at h
  refine x_iload_n d_N_could_17 rfl 3 rfl ?_
  refine x_aload_n d_N_could_18 rfl 0 rfl ?_
  refine y_getR d_N_could_19 fl_0_25 rfl kd_0 rr_told ?_
  obtain ⟨g6, h⟩ := gd_inv h
  refine y_getI d_N_could_22 fl_0_117 rfl (ksSc g6) ?_
  refine x_icmp_ge (tgt := 64) d_N_could_25 rfl (fun c7 => ?_) (fun c7 => ?_)
  · replace h := ite_t c7 h
    refine x_iload_n d_N_could_64 rfl 2 rfl ?_
    obtain rfl := Option.some.inj h
    exact x_ret (r := some (.int w2)) d_N_could_65 ⟨_, rfl, rfl⟩
  · replace h := ite_f c7 h
    refine x_aload_n d_N_could_28 rfl 0 rfl ?_
    refine y_getR d_N_could_29 fl_0_32 rfl kd_0 rr_0_4 ?_
    refine y_getR d_N_could_32 fl_0_144 rfl kd_30 rr_30_2 ?_
    refine x_iload_n d_N_could_35 rfl 3 rfl ?_
    obtain ⟨g8, h⟩ := gd_inv h
    refine y_iald d_N_could_36 kd_31 g8 ?_
    refine x_if_ne (tgt := 58) d_N_could_37 rfl (fun c9 => ?_) (fun c9 => ?_)
    · replace h := ite_f c9 h
      obtain ⟨v10, e11, h⟩ := lt_inv h
      refine y_iinc (L1 := [(0, .ref 0), (1, .int z1), (2, .int w2), (3, .int v10)]) e11 ic_1 d_N_could_58 3 rfl (Nat.le_of_ble_eq_true rfl) rfl rfl ?_
      refine x_goto (tgt := 17) d_N_could_61 rfl ?_
      exact ih w2 v10 _ h
    · replace h := ite_t c9 h
      refine x_aload_n d_N_could_40 rfl 0 rfl ?_
      refine y_getR d_N_could_41 fl_0_50 rfl kd_0 rr_0_7 ?_
      refine x_iload_n d_N_could_44 rfl 3 rfl ?_
      refine x_iload_n d_N_could_45 rfl 1 rfl ?_
      obtain ⟨v13, q12, h⟩ := bd_inv h
      refine y_V2i (v := v13) (S1 := S) d_N_could_46 ml_0_285 kd_56 rfl (Nat.le_of_ble_eq_true rfl) (Nat.le_of_ble_eq_true rfl) (c_K_newClashesWith (by omega) q12) ?_
      refine x_if_ne (tgt := 58) d_N_could_49 rfl (fun c14 => ?_) (fun c14 => ?_)
      · replace h := ite_f c14 h
        obtain ⟨v15, e16, h⟩ := lt_inv h
        refine y_iinc (L1 := [(0, .ref 0), (1, .int z1), (2, .int w2), (3, .int v15)]) e16 ic_1 d_N_could_58 3 rfl (Nat.le_of_ble_eq_true rfl) rfl rfl ?_
        refine x_goto (tgt := 17) d_N_could_61 rfl ?_
        exact ih w2 v15 _ h
      · replace h := ite_t c14 h
        refine x_iload_n d_N_could_52 rfl 2 rfl ?_
        refine x_iconst d_N_could_53 ic_1 ?_
        refine x_iload_n d_N_could_54 rfl 3 rfl ?_
        refine x_ishl d_N_could_55 ?_
        refine x_ior d_N_could_56 ?_
        obtain ⟨v17, e18, h⟩ := lt_inv h
        refine y_istore_n (L1 := [(0, .ref 0), (1, .int z1), (2, .int v17), (3, .int w3)]) e18 d_N_could_57 rfl (Nat.le_of_ble_eq_true rfl) rfl rfl ?_
        obtain ⟨v19, e20, h⟩ := lt_inv h
        refine y_iinc (L1 := [(0, .ref 0), (1, .int z1), (2, .int v17), (3, .int v19)]) e20 ic_1 d_N_could_58 3 rfl (Nat.le_of_ble_eq_true rfl) rfl rfl ?_
        refine x_goto (tgt := 17) d_N_could_61 rfl ?_
        exact ih v17 v19 _ h
set_option maxRecDepth 100000 in
set_option maxHeartbeats 4000000 in
theorem c_N_could {X : Nat × (Nat → Int32)} {D F G : Nat} (hD : 5 ≤ D) {S : St} {p1 : Int32} {res : Int32 × St} (h : fN_could F G S p1 = some res) : Ek X (D) mN_could 0 [(0, .ref 0), (1, .int p1)] [] S (some (.int res.1)) res.2 := by
  obtain ⟨D, rfl⟩ : ∃ E, D = E + 1 := ⟨D - 1, by omega⟩
  unfold fN_could at h
  refine x_iload_n d_N_could_0 rfl 1 rfl ?_
  obtain ⟨v2, q1, h⟩ := bd_inv h
  refine y_S1i (v := v2) (S1 := S) d_N_could_1 ml_0_170 (Nat.le_of_ble_eq_true rfl) (Nat.le_of_ble_eq_true rfl) (c_N_isHand (by omega) q1) ?_
  refine x_if_ne (tgt := 9) d_N_could_4 rfl (fun c3 => ?_) (fun c3 => ?_)
  · replace h := ite_f c3 h
    refine x_aload_n d_N_could_9 rfl 0 rfl ?_
    obtain ⟨S5, q4, h⟩ := bd_inv h
    refine y_V0v (S1 := S5) d_N_could_10 ml_0_173 kd_0 rfl (Nat.le_of_ble_eq_true rfl) (Nat.le_of_ble_eq_true rfl) (c_N_lookAtKeys (by omega) q4) ?_
    refine x_iconst d_N_could_13 ic_0 ?_
    refine x_istore_n (L1 := [(0, .ref 0), (1, .int p1), (2, .int (0 : Int32))]) d_N_could_14 rfl (Nat.le_of_ble_eq_true rfl) rfl rfl ?_
    refine x_iconst d_N_could_15 ic_0 ?_
    refine x_istore_n (L1 := [(0, .ref 0), (1, .int p1), (2, .int (0 : Int32)), (3, .int (0 : Int32))]) d_N_could_16 rfl (Nat.le_of_ble_eq_true rfl) rfl rfl ?_
    refine T_N_could_17 (by omega)   F (0 : Int32) (0 : Int32) _ h
  · replace h := ite_t c3 h
    refine x_iconst d_N_could_7 ic_m1 ?_
    obtain rfl := Option.some.inj h
    exact x_ret (r := some (.int (-1 : Int32))) d_N_could_8 ⟨_, rfl, rfl⟩
/-! NinetyPlayersModel.could -/
def b_M_could_13 (F G : Nat) (z1 : Int32) (rec : Int32 → Int32 → St → Option (Int32 × St)) (w2 : Int32) (w3 : Int32) (S : St) : Option (Int32 × St) :=
  if (S.1 78 48) ≤ w3 then some (w2, S) else bd (fM_isOut F G S w3) fun v6 => if v6 = 0 then lt (w3 + 1) fun v8 => rec w2 v8 S else bd2 (fM_forbidden F G S w3 z1) fun v11 S12 => if v11 = 0 then lt (w2 ||| ((1 : Int32) <<< (w3 &&& 31))) fun v16 => lt (w3 + 1) fun v18 => rec v16 v18 S12 else lt (w3 + 1) fun v14 => rec w2 v14 S12
def fM_could (F G : Nat) (S : St) (p1 : Int32) : Option (Int32 × St) :=
  bd (fM_isHand F G S p1) fun v2 => if v2 = 0 then some ((-1 : Int32), S) else fx3 (b_M_could_13 F G p1) F (0 : Int32) (0 : Int32) S
set_option maxRecDepth 100000 in
set_option maxHeartbeats 4000000 in
theorem T_M_could_13 {X : Nat × (Nat → Int32)} {D F G : Nat} (hD : 4 ≤ D + 1) {z1 : Int32} : ∀ (f : Nat) (w2 : Int32) (w3 : Int32) (S : St) (res : Int32 × St), fx3 (b_M_could_13 F G z1 ) f w2 w3 S = some res → Ek X (D + 1) mM_could 13 [(0, .ref 78), (1, .int z1), (2, .int w2), (3, .int w3)] [] S (some (.int res.1)) res.2 := by
  refine fx3_ind ?_
  intro rec ih w2 w3 S res h
  unfold b_M_could_13 at h
  refine x_iload_n d_M_could_13 rfl 3 rfl ?_
  refine x_aload_n d_M_could_14 rfl 0 rfl ?_
  refine y_getI d_M_could_15 fl_11_322 rfl kd_78 ?_
  refine x_icmp_ge (tgt := 50) d_M_could_18 rfl (fun c4 => ?_) (fun c4 => ?_)
  · replace h := ite_t c4 h
    refine x_iload_n d_M_could_50 rfl 2 rfl ?_
    obtain rfl := Option.some.inj h
    exact x_ret (r := some (.int w2)) d_M_could_51 ⟨_, rfl, rfl⟩
  · replace h := ite_f c4 h
    refine x_aload_n d_M_could_21 rfl 0 rfl ?_
    refine x_iload_n d_M_could_22 rfl 3 rfl ?_
    obtain ⟨v6, q5, h⟩ := bd_inv h
    refine y_V1i (v := v6) (S1 := S) d_M_could_23 ml_11_515 kd_78 rfl (Nat.le_of_ble_eq_true rfl) (Nat.le_of_ble_eq_true rfl) (c_M_isOut (by omega) q5) ?_
    refine x_if_eq (tgt := 44) d_M_could_26 rfl (fun c7 => ?_) (fun c7 => ?_)
    · replace h := ite_t c7 h
      obtain ⟨v8, e9, h⟩ := lt_inv h
      refine y_iinc (L1 := [(0, .ref 78), (1, .int z1), (2, .int w2), (3, .int v8)]) e9 ic_1 d_M_could_44 3 rfl (Nat.le_of_ble_eq_true rfl) rfl rfl ?_
      refine x_goto (tgt := 13) d_M_could_47 rfl ?_
      exact ih w2 v8 S _ h
    · replace h := ite_f c7 h
      refine x_aload_n d_M_could_29 rfl 0 rfl ?_
      refine x_iload_n d_M_could_30 rfl 3 rfl ?_
      refine x_iload_n d_M_could_31 rfl 1 rfl ?_
      obtain ⟨v11, S12, q10, h⟩ := bd2_inv h
      refine y_V2i (v := v11) (S1 := S12) d_M_could_32 ml_11_518 kd_78 rfl (Nat.le_of_ble_eq_true rfl) (Nat.le_of_ble_eq_true rfl) (c_M_forbidden (by omega) q10) ?_
      refine x_if_ne (tgt := 44) d_M_could_35 rfl (fun c13 => ?_) (fun c13 => ?_)
      · replace h := ite_f c13 h
        obtain ⟨v14, e15, h⟩ := lt_inv h
        refine y_iinc (L1 := [(0, .ref 78), (1, .int z1), (2, .int w2), (3, .int v14)]) e15 ic_1 d_M_could_44 3 rfl (Nat.le_of_ble_eq_true rfl) rfl rfl ?_
        refine x_goto (tgt := 13) d_M_could_47 rfl ?_
        exact ih w2 v14 S12 _ h
      · replace h := ite_t c13 h
        refine x_iload_n d_M_could_38 rfl 2 rfl ?_
        refine x_iconst d_M_could_39 ic_1 ?_
        refine x_iload_n d_M_could_40 rfl 3 rfl ?_
        refine x_ishl d_M_could_41 ?_
        refine x_ior d_M_could_42 ?_
        obtain ⟨v16, e17, h⟩ := lt_inv h
        refine y_istore_n (L1 := [(0, .ref 78), (1, .int z1), (2, .int v16), (3, .int w3)]) e17 d_M_could_43 rfl (Nat.le_of_ble_eq_true rfl) rfl rfl ?_
        obtain ⟨v18, e19, h⟩ := lt_inv h
        refine y_iinc (L1 := [(0, .ref 78), (1, .int z1), (2, .int v16), (3, .int v18)]) e19 ic_1 d_M_could_44 3 rfl (Nat.le_of_ble_eq_true rfl) rfl rfl ?_
        refine x_goto (tgt := 13) d_M_could_47 rfl ?_
        exact ih v16 v18 S12 _ h
set_option maxRecDepth 100000 in
set_option maxHeartbeats 4000000 in
theorem c_M_could {X : Nat × (Nat → Int32)} {D F G : Nat} (hD : 4 ≤ D) {S : St} {p1 : Int32} {res : Int32 × St} (h : fM_could F G S p1 = some res) : Ek X (D) mM_could 0 [(0, .ref 78), (1, .int p1)] [] S (some (.int res.1)) res.2 := by
  obtain ⟨D, rfl⟩ : ∃ E, D = E + 1 := ⟨D - 1, by omega⟩
  unfold fM_could at h
  refine x_iload_n d_M_could_0 rfl 1 rfl ?_
  obtain ⟨v2, q1, h⟩ := bd_inv h
  refine y_S1i (v := v2) (S1 := S) d_M_could_1 ml_11_476 (Nat.le_of_ble_eq_true rfl) (Nat.le_of_ble_eq_true rfl) (c_M_isHand (by omega) q1) ?_
  refine x_if_ne (tgt := 9) d_M_could_4 rfl (fun c3 => ?_) (fun c3 => ?_)
  · replace h := ite_f c3 h
    refine x_iconst d_M_could_9 ic_0 ?_
    refine x_istore_n (L1 := [(0, .ref 78), (1, .int p1), (2, .int (0 : Int32))]) d_M_could_10 rfl (Nat.le_of_ble_eq_true rfl) rfl rfl ?_
    refine x_iconst d_M_could_11 ic_0 ?_
    refine x_istore_n (L1 := [(0, .ref 78), (1, .int p1), (2, .int (0 : Int32)), (3, .int (0 : Int32))]) d_M_could_12 rfl (Nat.le_of_ble_eq_true rfl) rfl rfl ?_
    refine T_M_could_13 (by omega)   F (0 : Int32) (0 : Int32) S _ h
  · replace h := ite_t c3 h
    refine x_iconst d_M_could_7 ic_m1 ?_
    obtain rfl := Option.some.inj h
    exact x_ret (r := some (.int (-1 : Int32))) d_M_could_8 ⟨_, rfl, rfl⟩
/-! NinetyPlayers.lies -/
def fN_lies (F G : Nat) (S : St) (p1 : Int32) : Option (Int32) :=
  if p1 < 0 then some (-1 : Int32) else if (S.1 0 13) ≤ p1 then some (-1 : Int32) else gd (inB p1 10) (some (S.1 77 p1.toNatClampNeg))
set_option maxRecDepth 100000 in
set_option maxHeartbeats 4000000 in
theorem c_N_lies {X : Nat × (Nat → Int32)} {D F G : Nat} (hD : 0 ≤ D) {S : St} {p1 : Int32} {res : Int32} (h : fN_lies F G S p1 = some res) : Ek X (D) mN_lies 0 [(0, .ref 0), (1, .int p1)] [] S (some (.int res)) S := by
  unfold fN_lies at h
  refine x_iload_n d_N_lies_0 rfl 1 rfl ?_
  refine x_if_lt (tgt := 21) d_N_lies_1 rfl (fun c1 => ?_) (fun c1 => ?_)
  · replace h := ite_t c1 h
    refine x_iconst d_N_lies_21 ic_m1 ?_
    obtain rfl := Option.some.inj h
    exact x_ret (r := some (.int (-1 : Int32))) d_N_lies_22 ⟨_, rfl, rfl⟩
  · replace h := ite_f c1 h
    refine x_iload_n d_N_lies_4 rfl 1 rfl ?_
    refine x_aload_n d_N_lies_5 rfl 0 rfl ?_
    refine y_getI d_N_lies_6 fl_0_110 rfl kd_0 ?_
    refine x_icmp_ge (tgt := 21) d_N_lies_9 rfl (fun c2 => ?_) (fun c2 => ?_)
    · replace h := ite_t c2 h
      refine x_iconst d_N_lies_21 ic_m1 ?_
      obtain rfl := Option.some.inj h
      exact x_ret (r := some (.int (-1 : Int32))) d_N_lies_22 ⟨_, rfl, rfl⟩
    · replace h := ite_f c2 h
      refine x_aload_n d_N_lies_12 rfl 0 rfl ?_
      refine y_getR d_N_lies_13 fl_0_83 rfl kd_0 rr_0_12 ?_
      refine x_iload_n d_N_lies_16 rfl 1 rfl ?_
      obtain ⟨g3, h⟩ := gd_inv h
      refine y_iald d_N_lies_17 kd_77 g3 ?_
      refine x_goto (tgt := 22) d_N_lies_18 rfl ?_
      obtain rfl := Option.some.inj h
      exact x_ret (r := some (.int (S.1 77 p1.toNatClampNeg))) d_N_lies_22 ⟨_, rfl, rfl⟩
/-! NinetyPlayersModel.lies -/
def fM_lies (F G : Nat) (S : St) (p1 : Int32) : Option (Int32) :=
  bd (fM_isIn F G S p1 (0 : Int32) ((S.1 78 68) - (1 : Int32))) fun v2 => if v2 = 0 then some (-1 : Int32) else gd (inB p1 10) (some (S.1 105 p1.toNatClampNeg))
set_option maxRecDepth 100000 in
set_option maxHeartbeats 4000000 in
theorem c_M_lies {X : Nat × (Nat → Int32)} {D F G : Nat} (hD : 1 ≤ D) {S : St} {p1 : Int32} {res : Int32} (h : fM_lies F G S p1 = some res) : Ek X (D) mM_lies 0 [(0, .ref 78), (1, .int p1)] [] S (some (.int res)) S := by
  obtain ⟨D, rfl⟩ : ∃ E, D = E + 1 := ⟨D - 1, by omega⟩
  unfold fM_lies at h
  refine x_iload_n d_M_lies_0 rfl 1 rfl ?_
  refine x_iconst d_M_lies_1 ic_0 ?_
  refine x_aload_n d_M_lies_2 rfl 0 rfl ?_
  refine y_getI d_M_lies_3 fl_11_426 rfl kd_78 ?_
  refine x_iconst d_M_lies_6 ic_1 ?_
  refine x_isub d_M_lies_7 ?_
  obtain ⟨v2, q1, h⟩ := bd_inv h
  refine y_S3i (v := v2) (S1 := S) d_M_lies_8 ml_11_429 (Nat.le_of_ble_eq_true rfl) (Nat.le_of_ble_eq_true rfl) (c_M_isIn (by omega) q1) ?_
  refine x_if_eq (tgt := 23) d_M_lies_11 rfl (fun c3 => ?_) (fun c3 => ?_)
  · replace h := ite_t c3 h
    refine x_iconst d_M_lies_23 ic_m1 ?_
    obtain rfl := Option.some.inj h
    exact x_ret (r := some (.int (-1 : Int32))) d_M_lies_24 ⟨_, rfl, rfl⟩
  · replace h := ite_f c3 h
    refine x_aload_n d_M_lies_14 rfl 0 rfl ?_
    refine y_getR d_M_lies_15 fl_11_108 rfl kd_78 rr_78_65 ?_
    refine x_iload_n d_M_lies_18 rfl 1 rfl ?_
    obtain ⟨g4, h⟩ := gd_inv h
    refine y_iald d_M_lies_19 kd_105 g4 ?_
    refine x_goto (tgt := 24) d_M_lies_20 rfl ?_
    obtain rfl := Option.some.inj h
    exact x_ret (r := some (.int (S.1 105 p1.toNatClampNeg))) d_M_lies_24 ⟨_, rfl, rfl⟩
/-! NinetyPlayers$Witness.tell -/
def fI_tell (F G : Nat) (S : St) (p1 : Int32) (p2 : Int32) (p3 : Int32) : Option (Int32 × St) :=
  if (S.1 69 0) < (30 : Int32) then gd (inB (S.1 69 0) 30) (lt (sI S 71 (S.1 69 0).toNatClampNeg p1) fun S3 => gd (inB (S3.1 69 0) 30) (lt (sI S3 72 (S3.1 69 0).toNatClampNeg p2) fun S6 => gd (inB (S6.1 69 0) 30) (lt (sI S6 73 (S6.1 69 0).toNatClampNeg (vp_nar .boolean p3)) fun S9 => gd (inB (S9.1 69 0) 30) (lt (sI S9 74 (S9.1 69 0).toNatClampNeg (S9.1 69 1)) fun S12 => gd (inB (S12.1 69 0) 30) (lt (sI S12 75 (S12.1 69 0).toNatClampNeg (-1 : Int32)) fun S15 => lt (sI S15 69 0 ((S15.1 69 0) + (1 : Int32))) fun S17 => some ((S17.1 69 0) - (1 : Int32), S17)))))) else some ((-1 : Int32), S)
set_option maxRecDepth 100000 in
set_option maxHeartbeats 4000000 in
theorem c_I_tell {X : Nat × (Nat → Int32)} {D F G : Nat} (hD : 0 ≤ D) {S : St} {p1 : Int32} {p2 : Int32} {p3 : Int32} {res : Int32 × St} (h : fI_tell F G S p1 p2 p3 = some res) : Ek X (D) mI_tell 0 [(0, .ref 69), (1, .int p1), (2, .int p2), (3, .int p3)] [] S (some (.int res.1)) res.2 := by
  unfold fI_tell at h
  refine x_aload_n d_I_tell_0 rfl 0 rfl ?_
  refine y_getI d_I_tell_1 fl_10_34 rfl kd_69 ?_
  refine x_bipush d_I_tell_4 bp_30 ?_
  refine x_icmp_lt (tgt := 11) d_I_tell_6 rfl (fun c1 => ?_) (fun c1 => ?_)
  · replace h := ite_t c1 h
    refine x_aload_n d_I_tell_11 rfl 0 rfl ?_
    refine y_getR d_I_tell_12 fl_10_15 rfl kd_69 rr_69_4 ?_
    refine x_aload_n d_I_tell_15 rfl 0 rfl ?_
    refine y_getI d_I_tell_16 fl_10_34 rfl kd_69 ?_
    refine x_iload_n d_I_tell_19 rfl 1 rfl ?_
    obtain ⟨g2, h⟩ := gd_inv h
    obtain ⟨S3, e4, h⟩ := lt_inv h
    refine y_iast e4 d_I_tell_20 kd_71 g2 ?_
    refine x_aload_n d_I_tell_21 rfl 0 rfl ?_
    refine y_getR d_I_tell_22 fl_10_18 rfl kd_69 rr_69_5 ?_
    refine x_aload_n d_I_tell_25 rfl 0 rfl ?_
    refine y_getI d_I_tell_26 fl_10_34 rfl kd_69 ?_
    refine x_iload_n d_I_tell_29 rfl 2 rfl ?_
    obtain ⟨g5, h⟩ := gd_inv h
    obtain ⟨S6, e7, h⟩ := lt_inv h
    refine y_iast e7 d_I_tell_30 kd_72 g5 ?_
    refine x_aload_n d_I_tell_31 rfl 0 rfl ?_
    refine y_getR d_I_tell_32 fl_10_21 rfl kd_69 rr_69_6 ?_
    refine x_aload_n d_I_tell_35 rfl 0 rfl ?_
    refine y_getI d_I_tell_36 fl_10_34 rfl kd_69 ?_
    refine x_iload_n d_I_tell_39 rfl 3 rfl ?_
    obtain ⟨g8, h⟩ := gd_inv h
    obtain ⟨S9, e10, h⟩ := lt_inv h
    refine y_zast e10 d_I_tell_40 kd_73 g8 ?_
    refine x_aload_n d_I_tell_41 rfl 0 rfl ?_
    refine y_getR d_I_tell_42 fl_10_25 rfl kd_69 rr_69_7 ?_
    refine x_aload_n d_I_tell_45 rfl 0 rfl ?_
    refine y_getI d_I_tell_46 fl_10_34 rfl kd_69 ?_
    refine x_aload_n d_I_tell_49 rfl 0 rfl ?_
    refine y_getI d_I_tell_50 fl_10_38 rfl kd_69 ?_
    obtain ⟨g11, h⟩ := gd_inv h
    obtain ⟨S12, e13, h⟩ := lt_inv h
    refine y_iast e13 d_I_tell_53 kd_74 g11 ?_
    refine x_aload_n d_I_tell_54 rfl 0 rfl ?_
    refine y_getR d_I_tell_55 fl_10_28 rfl kd_69 rr_69_8 ?_
    refine x_aload_n d_I_tell_58 rfl 0 rfl ?_
    refine y_getI d_I_tell_59 fl_10_34 rfl kd_69 ?_
    refine x_iconst d_I_tell_62 ic_m1 ?_
    obtain ⟨g14, h⟩ := gd_inv h
    obtain ⟨S15, e16, h⟩ := lt_inv h
    refine y_iast e16 d_I_tell_63 kd_75 g14 ?_
    refine x_aload_n d_I_tell_64 rfl 0 rfl ?_
    refine x_dup d_I_tell_65 rfl ?_
    refine y_getI d_I_tell_66 fl_10_34 rfl kd_69 ?_
    refine x_iconst d_I_tell_69 ic_1 ?_
    refine x_iadd d_I_tell_70 ?_
    obtain ⟨S17, e18, h⟩ := lt_inv h
    refine y_putI e18 d_I_tell_71 fl_10_34 rfl rfl kd_69 rfl rfl ?_
    refine x_aload_n d_I_tell_74 rfl 0 rfl ?_
    refine y_getI d_I_tell_75 fl_10_34 rfl kd_69 ?_
    refine x_iconst d_I_tell_78 ic_1 ?_
    refine x_isub d_I_tell_79 ?_
    obtain rfl := Option.some.inj h
    exact x_ret (r := some (.int ((S17.1 69 0) - (1 : Int32)))) d_I_tell_80 ⟨_, rfl, rfl⟩
  · replace h := ite_f c1 h
    refine x_iconst d_I_tell_9 ic_m1 ?_
    obtain rfl := Option.some.inj h
    exact x_ret (r := some (.int (-1 : Int32))) d_I_tell_10 ⟨_, rfl, rfl⟩
/-! NinetyPlayers.heard -/
def fN_heard (F G : Nat) (S : St) (p1 : Int32) (p2 : Int32) (p3 : Int32) : Option (Int32 × St) :=
  bd (fN_isBeat F G S p1) fun v2 => if v2 = 0 then some ((-1 : Int32), S) else bd (fN_isKey F G S p2) fun v5 => if v5 = 0 then some ((-1 : Int32), S) else bd2 (fI_tell F G S p1 p2 p3) fun v8 S9 => some (v8, S9)
set_option maxRecDepth 100000 in
set_option maxHeartbeats 4000000 in
theorem c_N_heard {X : Nat × (Nat → Int32)} {D F G : Nat} (hD : 1 ≤ D) {S : St} {p1 : Int32} {p2 : Int32} {p3 : Int32} {res : Int32 × St} (h : fN_heard F G S p1 p2 p3 = some res) : Ek X (D) mN_heard 0 [(0, .ref 0), (1, .int p1), (2, .int p2), (3, .int p3)] [] S (some (.int res.1)) res.2 := by
  obtain ⟨D, rfl⟩ : ∃ E, D = E + 1 := ⟨D - 1, by omega⟩
  unfold fN_heard at h
  refine x_aload_n d_N_heard_0 rfl 0 rfl ?_
  refine x_iload_n d_N_heard_1 rfl 1 rfl ?_
  obtain ⟨v2, q1, h⟩ := bd_inv h
  refine y_V1i (v := v2) (S1 := S) d_N_heard_2 ml_0_167 kd_0 rfl (Nat.le_of_ble_eq_true rfl) (Nat.le_of_ble_eq_true rfl) (c_N_isBeat (by omega) q1) ?_
  refine x_if_eq (tgt := 15) d_N_heard_5 rfl (fun c3 => ?_) (fun c3 => ?_)
  · replace h := ite_t c3 h
    refine x_iconst d_N_heard_15 ic_m1 ?_
    obtain rfl := Option.some.inj h
    exact x_ret (r := some (.int (-1 : Int32))) d_N_heard_16 ⟨_, rfl, rfl⟩
  · replace h := ite_f c3 h
    refine x_iload_n d_N_heard_8 rfl 2 rfl ?_
    obtain ⟨v5, q4, h⟩ := bd_inv h
    refine y_S1i (v := v5) (S1 := S) d_N_heard_9 ml_0_240 (Nat.le_of_ble_eq_true rfl) (Nat.le_of_ble_eq_true rfl) (c_N_isKey (by omega) q4) ?_
    refine x_if_ne (tgt := 17) d_N_heard_12 rfl (fun c6 => ?_) (fun c6 => ?_)
    · replace h := ite_f c6 h
      refine x_aload_n d_N_heard_17 rfl 0 rfl ?_
      refine y_getR d_N_heard_18 fl_0_79 rfl kd_0 rr_0_11 ?_
      refine x_iload_n d_N_heard_21 rfl 1 rfl ?_
      refine x_iload_n d_N_heard_22 rfl 2 rfl ?_
      refine x_iload_n d_N_heard_23 rfl 3 rfl ?_
      obtain ⟨v8, S9, q7, h⟩ := bd2_inv h
      refine y_V3i (v := v8) (S1 := S9) d_N_heard_24 ml_0_316 kd_69 rfl (Nat.le_of_ble_eq_true rfl) (Nat.le_of_ble_eq_true rfl) (c_I_tell (by omega) q7) ?_
      obtain rfl := Option.some.inj h
      exact x_ret (r := some (.int v8)) d_N_heard_27 ⟨_, rfl, rfl⟩
    · replace h := ite_t c6 h
      refine x_iconst d_N_heard_15 ic_m1 ?_
      obtain rfl := Option.some.inj h
      exact x_ret (r := some (.int (-1 : Int32))) d_N_heard_16 ⟨_, rfl, rfl⟩
/-! NinetyPlayersModel.heard -/
def fM_heard (F G : Nat) (S : St) (p1 : Int32) (p2 : Int32) (p3 : Int32) : Option (Int32 × St) :=
  bd (fM_isBeat F G S p1) fun v2 => if v2 = 0 then some ((-1 : Int32), S) else bd (fM_isIn F G S p2 (0 : Int32) (87 : Int32)) fun v5 => if v5 = 0 then some ((-1 : Int32), S) else if (S.1 78 74) = (30 : Int32) then some ((-1 : Int32), S) else gd (inB (S.1 78 74) 30) (lt (sI S 108 (S.1 78 74).toNatClampNeg p1) fun S9 => gd (inB (S9.1 78 74) 30) (lt (sI S9 109 (S9.1 78 74).toNatClampNeg p2) fun S12 => gd (inB (S12.1 78 74) 30) (lt (sI S12 112 (S12.1 78 74).toNatClampNeg (vp_nar .boolean p3)) fun S15 => gd (inB (S15.1 78 74) 30) (lt (sI S15 110 (S15.1 78 74).toNatClampNeg (S15.1 78 75)) fun S18 => gd (inB (S18.1 78 74) 30) (lt (sI S18 111 (S18.1 78 74).toNatClampNeg (-1 : Int32)) fun S21 => lt (sI S21 78 74 ((S21.1 78 74) + (1 : Int32))) fun S23 => some ((S23.1 78 74) - (1 : Int32), S23))))))
set_option maxRecDepth 100000 in
set_option maxHeartbeats 4000000 in
theorem c_M_heard {X : Nat × (Nat → Int32)} {D F G : Nat} (hD : 2 ≤ D) {S : St} {p1 : Int32} {p2 : Int32} {p3 : Int32} {res : Int32 × St} (h : fM_heard F G S p1 p2 p3 = some res) : Ek X (D) mM_heard 0 [(0, .ref 78), (1, .int p1), (2, .int p2), (3, .int p3)] [] S (some (.int res.1)) res.2 := by
  obtain ⟨D, rfl⟩ : ∃ E, D = E + 1 := ⟨D - 1, by omega⟩
  unfold fM_heard at h
  refine x_aload_n d_M_heard_0 rfl 0 rfl ?_
  refine x_iload_n d_M_heard_1 rfl 1 rfl ?_
  obtain ⟨v2, q1, h⟩ := bd_inv h
  refine y_V1i (v := v2) (S1 := S) d_M_heard_2 ml_11_473 kd_78 rfl (Nat.le_of_ble_eq_true rfl) (Nat.le_of_ble_eq_true rfl) (c_M_isBeat (by omega) q1) ?_
  refine x_if_eq (tgt := 27) d_M_heard_5 rfl (fun c3 => ?_) (fun c3 => ?_)
  · replace h := ite_t c3 h
    refine x_iconst d_M_heard_27 ic_m1 ?_
    obtain rfl := Option.some.inj h
    exact x_ret (r := some (.int (-1 : Int32))) d_M_heard_28 ⟨_, rfl, rfl⟩
  · replace h := ite_f c3 h
    refine x_iload_n d_M_heard_8 rfl 2 rfl ?_
    refine x_iconst d_M_heard_9 ic_0 ?_
    refine x_bipush d_M_heard_10 bp_87 ?_
    obtain ⟨v5, q4, h⟩ := bd_inv h
    refine y_S3i (v := v5) (S1 := S) d_M_heard_12 ml_11_429 (Nat.le_of_ble_eq_true rfl) (Nat.le_of_ble_eq_true rfl) (c_M_isIn (by omega) q4) ?_
    refine x_if_eq (tgt := 27) d_M_heard_15 rfl (fun c6 => ?_) (fun c6 => ?_)
    · replace h := ite_t c6 h
      refine x_iconst d_M_heard_27 ic_m1 ?_
      obtain rfl := Option.some.inj h
      exact x_ret (r := some (.int (-1 : Int32))) d_M_heard_28 ⟨_, rfl, rfl⟩
    · replace h := ite_f c6 h
      refine x_aload_n d_M_heard_18 rfl 0 rfl ?_
      refine y_getI d_M_heard_19 fl_11_423 rfl kd_78 ?_
      refine x_bipush d_M_heard_22 bp_30 ?_
      refine x_icmp_ne (tgt := 29) d_M_heard_24 rfl (fun c7 => ?_) (fun c7 => ?_)
      · replace h := ite_f c7 h
        refine x_aload_n d_M_heard_29 rfl 0 rfl ?_
        refine y_getR d_M_heard_30 fl_11_117 rfl kd_78 rr_78_69 ?_
        refine x_aload_n d_M_heard_33 rfl 0 rfl ?_
        refine y_getI d_M_heard_34 fl_11_423 rfl kd_78 ?_
        refine x_iload_n d_M_heard_37 rfl 1 rfl ?_
        obtain ⟨g8, h⟩ := gd_inv h
        obtain ⟨S9, e10, h⟩ := lt_inv h
        refine y_iast e10 d_M_heard_38 kd_108 g8 ?_
        refine x_aload_n d_M_heard_39 rfl 0 rfl ?_
        refine y_getR d_M_heard_40 fl_11_120 rfl kd_78 rr_78_70 ?_
        refine x_aload_n d_M_heard_43 rfl 0 rfl ?_
        refine y_getI d_M_heard_44 fl_11_423 rfl kd_78 ?_
        refine x_iload_n d_M_heard_47 rfl 2 rfl ?_
        obtain ⟨g11, h⟩ := gd_inv h
        obtain ⟨S12, e13, h⟩ := lt_inv h
        refine y_iast e13 d_M_heard_48 kd_109 g11 ?_
        refine x_aload_n d_M_heard_49 rfl 0 rfl ?_
        refine y_getR d_M_heard_50 fl_11_129 rfl kd_78 rr_78_73 ?_
        refine x_aload_n d_M_heard_53 rfl 0 rfl ?_
        refine y_getI d_M_heard_54 fl_11_423 rfl kd_78 ?_
        refine x_iload_n d_M_heard_57 rfl 3 rfl ?_
        obtain ⟨g14, h⟩ := gd_inv h
        obtain ⟨S15, e16, h⟩ := lt_inv h
        refine y_zast e16 d_M_heard_58 kd_112 g14 ?_
        refine x_aload_n d_M_heard_59 rfl 0 rfl ?_
        refine y_getR d_M_heard_60 fl_11_123 rfl kd_78 rr_78_71 ?_
        refine x_aload_n d_M_heard_63 rfl 0 rfl ?_
        refine y_getI d_M_heard_64 fl_11_423 rfl kd_78 ?_
        refine x_aload_n d_M_heard_67 rfl 0 rfl ?_
        refine y_getI d_M_heard_68 fl_11_539 rfl kd_78 ?_
        obtain ⟨g17, h⟩ := gd_inv h
        obtain ⟨S18, e19, h⟩ := lt_inv h
        refine y_iast e19 d_M_heard_71 kd_110 g17 ?_
        refine x_aload_n d_M_heard_72 rfl 0 rfl ?_
        refine y_getR d_M_heard_73 fl_11_126 rfl kd_78 rr_78_72 ?_
        refine x_aload_n d_M_heard_76 rfl 0 rfl ?_
        refine y_getI d_M_heard_77 fl_11_423 rfl kd_78 ?_
        refine x_iconst d_M_heard_80 ic_m1 ?_
        obtain ⟨g20, h⟩ := gd_inv h
        obtain ⟨S21, e22, h⟩ := lt_inv h
        refine y_iast e22 d_M_heard_81 kd_111 g20 ?_
        refine x_aload_n d_M_heard_82 rfl 0 rfl ?_
        refine x_dup d_M_heard_83 rfl ?_
        refine y_getI d_M_heard_84 fl_11_423 rfl kd_78 ?_
        refine x_iconst d_M_heard_87 ic_1 ?_
        refine x_iadd d_M_heard_88 ?_
        obtain ⟨S23, e24, h⟩ := lt_inv h
        refine y_putI e24 d_M_heard_89 fl_11_423 rfl rfl kd_78 rfl rfl ?_
        refine x_aload_n d_M_heard_92 rfl 0 rfl ?_
        refine y_getI d_M_heard_93 fl_11_423 rfl kd_78 ?_
        refine x_iconst d_M_heard_96 ic_1 ?_
        refine x_isub d_M_heard_97 ?_
        obtain rfl := Option.some.inj h
        exact x_ret (r := some (.int ((S23.1 78 74) - (1 : Int32)))) d_M_heard_98 ⟨_, rfl, rfl⟩
      · replace h := ite_t c7 h
        refine x_iconst d_M_heard_27 ic_m1 ?_
        obtain rfl := Option.some.inj h
        exact x_ret (r := some (.int (-1 : Int32))) d_M_heard_28 ⟨_, rfl, rfl⟩
/-! NinetyPlayers$Witness.takeFromNowOn -/
def fI_takeFromNowOn (F G : Nat) (S : St) (p1 : Int32) : Option (Int32 × St) :=
  if p1 < 0 then some ((0 : Int32), S) else if (S.1 69 0) ≤ p1 then some ((0 : Int32), S) else gd (inB p1 30) (if (S.1 75 p1.toNatClampNeg) = (-1 : Int32) then gd (inB p1 30) (lt (sI S 75 p1.toNatClampNeg (S.1 69 1)) fun S6 => some ((1 : Int32), S6)) else some ((0 : Int32), S))
set_option maxRecDepth 100000 in
set_option maxHeartbeats 4000000 in
theorem c_I_takeFromNowOn {X : Nat × (Nat → Int32)} {D F G : Nat} (hD : 0 ≤ D) {S : St} {p1 : Int32} {res : Int32 × St} (h : fI_takeFromNowOn F G S p1 = some res) : Ek X (D) mI_takeFromNowOn 0 [(0, .ref 69), (1, .int p1)] [] S (some (.int res.1)) res.2 := by
  unfold fI_takeFromNowOn at h
  refine x_iload_n d_I_takeFromNowOn_0 rfl 1 rfl ?_
  refine x_if_lt (tgt := 22) d_I_takeFromNowOn_1 rfl (fun c1 => ?_) (fun c1 => ?_)
  · replace h := ite_t c1 h
    refine x_iconst d_I_takeFromNowOn_22 ic_0 ?_
    obtain rfl := Option.some.inj h
    exact x_ret (r := some (.int (0 : Int32))) d_I_takeFromNowOn_23 ⟨_, rfl, rfl⟩
  · replace h := ite_f c1 h
    refine x_iload_n d_I_takeFromNowOn_4 rfl 1 rfl ?_
    refine x_aload_n d_I_takeFromNowOn_5 rfl 0 rfl ?_
    refine y_getI d_I_takeFromNowOn_6 fl_10_34 rfl kd_69 ?_
    refine x_icmp_ge (tgt := 22) d_I_takeFromNowOn_9 rfl (fun c2 => ?_) (fun c2 => ?_)
    · replace h := ite_t c2 h
      refine x_iconst d_I_takeFromNowOn_22 ic_0 ?_
      obtain rfl := Option.some.inj h
      exact x_ret (r := some (.int (0 : Int32))) d_I_takeFromNowOn_23 ⟨_, rfl, rfl⟩
    · replace h := ite_f c2 h
      refine x_aload_n d_I_takeFromNowOn_12 rfl 0 rfl ?_
      refine y_getR d_I_takeFromNowOn_13 fl_10_28 rfl kd_69 rr_69_8 ?_
      refine x_iload_n d_I_takeFromNowOn_16 rfl 1 rfl ?_
      obtain ⟨g3, h⟩ := gd_inv h
      refine y_iald d_I_takeFromNowOn_17 kd_75 g3 ?_
      refine x_iconst d_I_takeFromNowOn_18 ic_m1 ?_
      refine x_icmp_eq (tgt := 24) d_I_takeFromNowOn_19 rfl (fun c4 => ?_) (fun c4 => ?_)
      · replace h := ite_t c4 h
        refine x_aload_n d_I_takeFromNowOn_24 rfl 0 rfl ?_
        refine y_getR d_I_takeFromNowOn_25 fl_10_28 rfl kd_69 rr_69_8 ?_
        refine x_iload_n d_I_takeFromNowOn_28 rfl 1 rfl ?_
        refine x_aload_n d_I_takeFromNowOn_29 rfl 0 rfl ?_
        refine y_getI d_I_takeFromNowOn_30 fl_10_38 rfl kd_69 ?_
        obtain ⟨g5, h⟩ := gd_inv h
        obtain ⟨S6, e7, h⟩ := lt_inv h
        refine y_iast e7 d_I_takeFromNowOn_33 kd_75 g5 ?_
        refine x_iconst d_I_takeFromNowOn_34 ic_1 ?_
        obtain rfl := Option.some.inj h
        exact x_ret (r := some (.int (1 : Int32))) d_I_takeFromNowOn_35 ⟨_, rfl, rfl⟩
      · replace h := ite_f c4 h
        refine x_iconst d_I_takeFromNowOn_22 ic_0 ?_
        obtain rfl := Option.some.inj h
        exact x_ret (r := some (.int (0 : Int32))) d_I_takeFromNowOn_23 ⟨_, rfl, rfl⟩
/-! NinetyPlayers.untell -/
def fN_untell (F G : Nat) (S : St) (p1 : Int32) : Option (Int32 × St) :=
  bd2 (fI_takeFromNowOn F G S p1) fun v2 S3 => gd (isB v2) (some (v2, S3))
set_option maxRecDepth 100000 in
set_option maxHeartbeats 4000000 in
theorem c_N_untell {X : Nat × (Nat → Int32)} {D F G : Nat} (hD : 1 ≤ D) {S : St} {p1 : Int32} {res : Int32 × St} (h : fN_untell F G S p1 = some res) : Ek X (D) mN_untell 0 [(0, .ref 0), (1, .int p1)] [] S (some (.int res.1)) res.2 := by
  obtain ⟨D, rfl⟩ : ∃ E, D = E + 1 := ⟨D - 1, by omega⟩
  unfold fN_untell at h
  refine x_aload_n d_N_untell_0 rfl 0 rfl ?_
  refine y_getR d_N_untell_1 fl_0_79 rfl kd_0 rr_0_11 ?_
  refine x_iload_n d_N_untell_4 rfl 1 rfl ?_
  obtain ⟨v2, S3, q1, h⟩ := bd2_inv h
  refine y_V1i (v := v2) (S1 := S3) d_N_untell_5 ml_0_320 kd_69 rfl (Nat.le_of_ble_eq_true rfl) (Nat.le_of_ble_eq_true rfl) (c_I_takeFromNowOn (by omega) q1) ?_
  obtain ⟨g4, h⟩ := gd_inv h
  obtain rfl := Option.some.inj h
  exact x_ret (r := some (.int v2)) d_N_untell_8 ⟨_, rfl, isB_nar g4⟩
/-! NinetyPlayersModel.untell -/
def fM_untell (F G : Nat) (S : St) (p1 : Int32) : Option (Int32 × St) :=
  bd (fM_isIn F G S p1 (0 : Int32) ((S.1 78 74) - (1 : Int32))) fun v2 => if v2 = 0 then some ((0 : Int32), S) else gd (inB p1 30) (if (S.1 111 p1.toNatClampNeg) < 0 then gd (inB p1 30) (lt (sI S 111 p1.toNatClampNeg (S.1 78 75)) fun S7 => some ((1 : Int32), S7)) else some ((0 : Int32), S))
set_option maxRecDepth 100000 in
set_option maxHeartbeats 4000000 in
theorem c_M_untell {X : Nat × (Nat → Int32)} {D F G : Nat} (hD : 1 ≤ D) {S : St} {p1 : Int32} {res : Int32 × St} (h : fM_untell F G S p1 = some res) : Ek X (D) mM_untell 0 [(0, .ref 78), (1, .int p1)] [] S (some (.int res.1)) res.2 := by
  obtain ⟨D, rfl⟩ : ∃ E, D = E + 1 := ⟨D - 1, by omega⟩
  unfold fM_untell at h
  refine x_iload_n d_M_untell_0 rfl 1 rfl ?_
  refine x_iconst d_M_untell_1 ic_0 ?_
  refine x_aload_n d_M_untell_2 rfl 0 rfl ?_
  refine y_getI d_M_untell_3 fl_11_423 rfl kd_78 ?_
  refine x_iconst d_M_untell_6 ic_1 ?_
  refine x_isub d_M_untell_7 ?_
  obtain ⟨v2, q1, h⟩ := bd_inv h
  refine y_S3i (v := v2) (S1 := S) d_M_untell_8 ml_11_429 (Nat.le_of_ble_eq_true rfl) (Nat.le_of_ble_eq_true rfl) (c_M_isIn (by omega) q1) ?_
  refine x_if_eq (tgt := 23) d_M_untell_11 rfl (fun c3 => ?_) (fun c3 => ?_)
  · replace h := ite_t c3 h
    refine x_iconst d_M_untell_23 ic_0 ?_
    obtain rfl := Option.some.inj h
    exact x_ret (r := some (.int (0 : Int32))) d_M_untell_24 ⟨_, rfl, rfl⟩
  · replace h := ite_f c3 h
    refine x_aload_n d_M_untell_14 rfl 0 rfl ?_
    refine y_getR d_M_untell_15 fl_11_126 rfl kd_78 rr_78_72 ?_
    refine x_iload_n d_M_untell_18 rfl 1 rfl ?_
    obtain ⟨g4, h⟩ := gd_inv h
    refine y_iald d_M_untell_19 kd_111 g4 ?_
    refine x_if_lt (tgt := 25) d_M_untell_20 rfl (fun c5 => ?_) (fun c5 => ?_)
    · replace h := ite_t c5 h
      refine x_aload_n d_M_untell_25 rfl 0 rfl ?_
      refine y_getR d_M_untell_26 fl_11_126 rfl kd_78 rr_78_72 ?_
      refine x_iload_n d_M_untell_29 rfl 1 rfl ?_
      refine x_aload_n d_M_untell_30 rfl 0 rfl ?_
      refine y_getI d_M_untell_31 fl_11_539 rfl kd_78 ?_
      obtain ⟨g6, h⟩ := gd_inv h
      obtain ⟨S7, e8, h⟩ := lt_inv h
      refine y_iast e8 d_M_untell_34 kd_111 g6 ?_
      refine x_iconst d_M_untell_35 ic_1 ?_
      obtain rfl := Option.some.inj h
      exact x_ret (r := some (.int (1 : Int32))) d_M_untell_36 ⟨_, rfl, rfl⟩
    · replace h := ite_f c5 h
      refine x_iconst d_M_untell_23 ic_0 ?_
      obtain rfl := Option.some.inj h
      exact x_ret (r := some (.int (0 : Int32))) d_M_untell_24 ⟨_, rfl, rfl⟩
/-! NinetyPlayers$Witness.goOn -/
def fI_goOn (F G : Nat) (S : St) (p1 : Int32) : Option (Int32 × St) :=
  if p1 < 0 then some ((-1 : Int32), S) else if (1000 : Int32) < p1 then some ((-1 : Int32), S) else if ((S.1 69 1) + p1) ≤ (100000 : Int32) then lt (sI S 69 1 ((S.1 69 1) + p1)) fun S4 => some (S4.1 69 1, S4) else some ((-1 : Int32), S)
set_option maxRecDepth 100000 in
set_option maxHeartbeats 4000000 in
theorem c_I_goOn {X : Nat × (Nat → Int32)} {D F G : Nat} (hD : 0 ≤ D) {S : St} {p1 : Int32} {res : Int32 × St} (h : fI_goOn F G S p1 = some res) : Ek X (D) mI_goOn 0 [(0, .ref 69), (1, .int p1)] [] S (some (.int res.1)) res.2 := by
  unfold fI_goOn at h
  refine x_iload_n d_I_goOn_0 rfl 1 rfl ?_
  refine x_if_lt (tgt := 22) d_I_goOn_1 rfl (fun c1 => ?_) (fun c1 => ?_)
  · replace h := ite_t c1 h
    refine x_iconst d_I_goOn_22 ic_m1 ?_
    obtain rfl := Option.some.inj h
    exact x_ret (r := some (.int (-1 : Int32))) d_I_goOn_23 ⟨_, rfl, rfl⟩
  · replace h := ite_f c1 h
    refine x_iload_n d_I_goOn_4 rfl 1 rfl ?_
    refine x_sipush d_I_goOn_5 sp_1000 ?_
    refine x_icmp_gt (tgt := 22) d_I_goOn_8 rfl (fun c2 => ?_) (fun c2 => ?_)
    · replace h := ite_t c2 h
      refine x_iconst d_I_goOn_22 ic_m1 ?_
      obtain rfl := Option.some.inj h
      exact x_ret (r := some (.int (-1 : Int32))) d_I_goOn_23 ⟨_, rfl, rfl⟩
    · replace h := ite_f c2 h
      refine x_aload_n d_I_goOn_11 rfl 0 rfl ?_
      refine y_getI d_I_goOn_12 fl_10_38 rfl kd_69 ?_
      refine x_iload_n d_I_goOn_15 rfl 1 rfl ?_
      refine x_iadd d_I_goOn_16 ?_
      refine x_ldc d_I_goOn_17 kc_10_41 ?_
      refine x_icmp_le (tgt := 24) d_I_goOn_19 rfl (fun c3 => ?_) (fun c3 => ?_)
      · replace h := ite_t c3 h
        refine x_aload_n d_I_goOn_24 rfl 0 rfl ?_
        refine x_dup d_I_goOn_25 rfl ?_
        refine y_getI d_I_goOn_26 fl_10_38 rfl kd_69 ?_
        refine x_iload_n d_I_goOn_29 rfl 1 rfl ?_
        refine x_iadd d_I_goOn_30 ?_
        obtain ⟨S4, e5, h⟩ := lt_inv h
        refine y_putI e5 d_I_goOn_31 fl_10_38 rfl rfl kd_69 rfl rfl ?_
        refine x_aload_n d_I_goOn_34 rfl 0 rfl ?_
        refine y_getI d_I_goOn_35 fl_10_38 rfl kd_69 ?_
        obtain rfl := Option.some.inj h
        exact x_ret (r := some (.int (S4.1 69 1))) d_I_goOn_38 ⟨_, rfl, rfl⟩
      · replace h := ite_f c3 h
        refine x_iconst d_I_goOn_22 ic_m1 ?_
        obtain rfl := Option.some.inj h
        exact x_ret (r := some (.int (-1 : Int32))) d_I_goOn_23 ⟨_, rfl, rfl⟩
