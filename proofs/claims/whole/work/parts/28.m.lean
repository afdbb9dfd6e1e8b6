/-! NinetyPlayers.later -/
def fN_later (F G : Nat) (S : St) (p1 : Int32) : Option (Int32 × St) :=
  bd2 (fI_goOn F G S p1) fun v2 S3 => some (v2, S3)
set_option maxRecDepth 100000 in
set_option maxHeartbeats 4000000 in
theorem c_N_later {X : Nat × (Nat → Int32)} {D F G : Nat} (hD : 1 ≤ D) {S : St} {p1 : Int32} {res : Int32 × St} (h : fN_later F G S p1 = some res) : Ek X (D) mN_later 0 [(0, .ref 0), (1, .int p1)] [] S (some (.int res.1)) res.2 := by
  obtain ⟨D, rfl⟩ : ∃ E, D = E + 1 := ⟨D - 1, by omega⟩
  unfold fN_later at h
  refine x_aload_n d_N_later_0 rfl 0 rfl ?_
  refine y_getR d_N_later_1 fl_0_79 rfl kd_0 rr_0_11 ?_
  refine x_iload_n d_N_later_4 rfl 1 rfl ?_
  obtain ⟨v2, S3, q1, h⟩ := bd2_inv h
  refine y_V1i (v := v2) (S1 := S3) d_N_later_5 ml_0_323 kd_69 rfl (Nat.le_of_ble_eq_true rfl) (Nat.le_of_ble_eq_true rfl) (c_I_goOn (by omega) q1) ?_
  obtain rfl := Option.some.inj h
  exact x_ret (r := some (.int v2)) d_N_later_8 ⟨_, rfl, rfl⟩
/-! NinetyPlayersModel.later -/
def fM_later (F G : Nat) (S : St) (p1 : Int32) : Option (Int32 × St) :=
  if p1 < 0 then some ((-1 : Int32), S) else if (1000 : Int32) < p1 then some ((-1 : Int32), S) else if ((S.1 78 75) + p1) ≤ (100000 : Int32) then lt (sI S 78 75 ((S.1 78 75) + p1)) fun S4 => some (S4.1 78 75, S4) else some ((-1 : Int32), S)
set_option maxRecDepth 100000 in
set_option maxHeartbeats 4000000 in
theorem c_M_later {X : Nat × (Nat → Int32)} {D F G : Nat} (hD : 0 ≤ D) {S : St} {p1 : Int32} {res : Int32 × St} (h : fM_later F G S p1 = some res) : Ek X (D) mM_later 0 [(0, .ref 78), (1, .int p1)] [] S (some (.int res.1)) res.2 := by
  unfold fM_later at h
  refine x_iload_n d_M_later_0 rfl 1 rfl ?_
  refine x_if_lt (tgt := 23) d_M_later_1 rfl (fun c1 => ?_) (fun c1 => ?_)
  · replace h := ite_t c1 h
    refine x_iconst d_M_later_23 ic_m1 ?_
    obtain rfl := Option.some.inj h
    exact x_ret (r := some (.int (-1 : Int32))) d_M_later_24 ⟨_, rfl, rfl⟩
  · replace h := ite_f c1 h
    refine x_iload_n d_M_later_4 rfl 1 rfl ?_
    refine x_sipush d_M_later_5 sp_1000 ?_
    refine x_icmp_gt (tgt := 23) d_M_later_8 rfl (fun c2 => ?_) (fun c2 => ?_)
    · replace h := ite_t c2 h
      refine x_iconst d_M_later_23 ic_m1 ?_
      obtain rfl := Option.some.inj h
      exact x_ret (r := some (.int (-1 : Int32))) d_M_later_24 ⟨_, rfl, rfl⟩
    · replace h := ite_f c2 h
      refine x_aload_n d_M_later_11 rfl 0 rfl ?_
      refine y_getI d_M_later_12 fl_11_539 rfl kd_78 ?_
      refine x_iload_n d_M_later_15 rfl 1 rfl ?_
      refine x_iadd d_M_later_16 ?_
      refine x_ldcw d_M_later_17 kc_11_542 ?_
      refine x_icmp_le (tgt := 25) d_M_later_20 rfl (fun c3 => ?_) (fun c3 => ?_)
      · replace h := ite_t c3 h
        refine x_aload_n d_M_later_25 rfl 0 rfl ?_
        refine x_dup d_M_later_26 rfl ?_
        refine y_getI d_M_later_27 fl_11_539 rfl kd_78 ?_
        refine x_iload_n d_M_later_30 rfl 1 rfl ?_
        refine x_iadd d_M_later_31 ?_
        obtain ⟨S4, e5, h⟩ := lt_inv h
        refine y_putI e5 d_M_later_32 fl_11_539 rfl rfl kd_78 rfl rfl ?_
        refine x_aload_n d_M_later_35 rfl 0 rfl ?_
        refine y_getI d_M_later_36 fl_11_539 rfl kd_78 ?_
        obtain rfl := Option.some.inj h
        exact x_ret (r := some (.int (S4.1 78 75))) d_M_later_39 ⟨_, rfl, rfl⟩
      · replace h := ite_f c3 h
        refine x_iconst d_M_later_23 ic_m1 ?_
        obtain rfl := Option.some.inj h
        exact x_ret (r := some (.int (-1 : Int32))) d_M_later_24 ⟨_, rfl, rfl⟩
/-! NinetyPlayers$Witness.soundersOf -/
def b_I_soundersOf_5 (F G : Nat) (S : St) (z0 : Nat) (z1 : Int32) (z2 : Int32) (rec : Int32 → Int32 → Option (Int32)) (w3 : Int32) (w4 : Int32) : Option (Int32) :=
  if (S.1 z0 6) ≤ w4 then some w3 else gd (inB w4 10) (lt (S.1 (z0 + 5) w4.toNatClampNeg) fun v3 => gd (inB w4 10) (if (S.1 (z0 + 6) w4.toNatClampNeg) = z2 then if z1 < v3 then lt (w4 + 1) fun v10 => rec w3 v10 else gd (inB w4 10) (if (v3 + (S.1 (z0 + 7) w4.toNatClampNeg)) ≤ z1 then lt (w4 + 1) fun v14 => rec w3 v14 else lt (w3 ||| ((1 : Int32) <<< (w4 &&& 31))) fun v16 => lt (w4 + 1) fun v18 => rec v16 v18) else lt (w4 + 1) fun v7 => rec w3 v7))
def fI_soundersOf (F G : Nat) (S : St) (o2 : Nat) (p2 : Int32) (p3 : Int32) : Option (Int32) :=
  gd (isSc o2) (fx2 (b_I_soundersOf_5 F G S o2 p2 p3) F (0 : Int32) (0 : Int32))
set_option maxRecDepth 100000 in
set_option maxHeartbeats 4000000 in
theorem T_I_soundersOf_5 {X : Nat × (Nat → Int32)} {D F G : Nat} (hD : 0 ≤ D) {S : St} {z0 : Nat} {z1 : Int32} {z2 : Int32} (hz0 : isSc z0 = true) : ∀ (f : Nat) (w3 : Int32) (w4 : Int32) (res : Int32), fx2 (b_I_soundersOf_5 F G S z0 z1 z2 ) f w3 w4 = some res → Ek X (D) mI_soundersOf 5 [(0, .ref z0), (1, .int z1), (2, .int z2), (3, .int w3), (4, .int w4)] [] S (some (.int res)) S := by
  refine fx2_ind ?_
  intro rec ih w3 w4 res h
  unfold b_I_soundersOf_5 at h
  refine x_iload d_I_soundersOf_5 4 rfl ?_
  refine x_aload_n d_I_soundersOf_7 rfl 0 rfl ?_
  refine y_getI d_I_soundersOf_8 fl_10_49 rfl (ksSc hz0) ?_
  refine x_icmp_ge (tgt := 67) d_I_soundersOf_11 rfl (fun c1 => ?_) (fun c1 => ?_)
  · replace h := ite_t c1 h
    refine x_iload_n d_I_soundersOf_67 rfl 3 rfl ?_
    obtain rfl := Option.some.inj h
    exact x_ret (r := some (.int w3)) d_I_soundersOf_68 ⟨_, rfl, rfl⟩
  · replace h := ite_f c1 h
    refine x_aload_n d_I_soundersOf_14 rfl 0 rfl ?_
    refine y_getR d_I_soundersOf_15 fl_10_72 rfl (ksSc hz0) (rrSc_11 hz0) ?_
    refine x_iload d_I_soundersOf_18 4 rfl ?_
    obtain ⟨g2, h⟩ := gd_inv h
    refine y_iald d_I_soundersOf_20 (ksSc_5 hz0) g2 ?_
    obtain ⟨v3, e4, h⟩ := lt_inv h
    refine y_istore (L1 := [(0, .ref z0), (1, .int z1), (2, .int z2), (3, .int w3), (4, .int w4), (5, .int v3)]) e4 d_I_soundersOf_21 (Nat.le_of_ble_eq_true rfl) rfl rfl ?_
    refine x_aload_n d_I_soundersOf_23 rfl 0 rfl ?_
    refine y_getR d_I_soundersOf_24 fl_10_75 rfl (ksSc hz0) (rrSc_12 hz0) ?_
    refine x_iload d_I_soundersOf_27 4 rfl ?_
    obtain ⟨g5, h⟩ := gd_inv h
    refine y_iald d_I_soundersOf_29 (ksSc_6 hz0) g5 ?_
    refine x_iload_n d_I_soundersOf_30 rfl 2 rfl ?_
    refine x_icmp_ne (tgt := 61) d_I_soundersOf_31 rfl (fun c6 => ?_) (fun c6 => ?_)
    · replace h := ite_f c6 h
      obtain ⟨v7, e8, h⟩ := lt_inv h
      refine y_iinc (L1 := [(0, .ref z0), (1, .int z1), (2, .int z2), (3, .int w3), (4, .int v7), (5, .int v3)]) e8 ic_1 d_I_soundersOf_61 4 rfl (Nat.le_of_ble_eq_true rfl) rfl rfl ?_
      refine x_goto (tgt := 5) d_I_soundersOf_64 rfl ?_
      refine y_pick (L1 := [(0, .ref z0), (1, .int z1), (2, .int z2), (3, .int w3), (4, .int v7)]) [0, 1, 2, 3, 4] rfl ?_
      exact ih w3 v7 _ h
    · replace h := ite_t c6 h
      refine x_iload d_I_soundersOf_34 5 rfl ?_
      refine x_iload_n d_I_soundersOf_36 rfl 1 rfl ?_
      refine x_icmp_gt (tgt := 61) d_I_soundersOf_37 rfl (fun c9 => ?_) (fun c9 => ?_)
      · replace h := ite_t c9 h
        obtain ⟨v10, e11, h⟩ := lt_inv h
        refine y_iinc (L1 := [(0, .ref z0), (1, .int z1), (2, .int z2), (3, .int w3), (4, .int v10), (5, .int v3)]) e11 ic_1 d_I_soundersOf_61 4 rfl (Nat.le_of_ble_eq_true rfl) rfl rfl ?_
        refine x_goto (tgt := 5) d_I_soundersOf_64 rfl ?_
        refine y_pick (L1 := [(0, .ref z0), (1, .int z1), (2, .int z2), (3, .int w3), (4, .int v10)]) [0, 1, 2, 3, 4] rfl ?_
        exact ih w3 v10 _ h
      · replace h := ite_f c9 h
        refine x_iload_n d_I_soundersOf_40 rfl 1 rfl ?_
        refine x_iload d_I_soundersOf_41 5 rfl ?_
        refine x_aload_n d_I_soundersOf_43 rfl 0 rfl ?_
        refine y_getR d_I_soundersOf_44 fl_10_76 rfl (ksSc hz0) (rrSc_13 hz0) ?_
        refine x_iload d_I_soundersOf_47 4 rfl ?_
        obtain ⟨g12, h⟩ := gd_inv h
        refine y_iald d_I_soundersOf_49 (ksSc_7 hz0) g12 ?_
        refine x_iadd d_I_soundersOf_50 ?_
        refine x_icmp_ge (tgt := 61) d_I_soundersOf_51 rfl (fun c13 => ?_) (fun c13 => ?_)
        · replace h := ite_t c13 h
          obtain ⟨v14, e15, h⟩ := lt_inv h
          refine y_iinc (L1 := [(0, .ref z0), (1, .int z1), (2, .int z2), (3, .int w3), (4, .int v14), (5, .int v3)]) e15 ic_1 d_I_soundersOf_61 4 rfl (Nat.le_of_ble_eq_true rfl) rfl rfl ?_
          refine x_goto (tgt := 5) d_I_soundersOf_64 rfl ?_
          refine y_pick (L1 := [(0, .ref z0), (1, .int z1), (2, .int z2), (3, .int w3), (4, .int v14)]) [0, 1, 2, 3, 4] rfl ?_
          exact ih w3 v14 _ h
        · replace h := ite_f c13 h
          refine x_iload_n d_I_soundersOf_54 rfl 3 rfl ?_
          refine x_iconst d_I_soundersOf_55 ic_1 ?_
          refine x_iload d_I_soundersOf_56 4 rfl ?_
          refine x_ishl d_I_soundersOf_58 ?_
          refine x_ior d_I_soundersOf_59 ?_
          obtain ⟨v16, e17, h⟩ := lt_inv h
          refine y_istore_n (L1 := [(0, .ref z0), (1, .int z1), (2, .int z2), (3, .int v16), (4, .int w4), (5, .int v3)]) e17 d_I_soundersOf_60 rfl (Nat.le_of_ble_eq_true rfl) rfl rfl ?_
          obtain ⟨v18, e19, h⟩ := lt_inv h
          refine y_iinc (L1 := [(0, .ref z0), (1, .int z1), (2, .int z2), (3, .int v16), (4, .int v18), (5, .int v3)]) e19 ic_1 d_I_soundersOf_61 4 rfl (Nat.le_of_ble_eq_true rfl) rfl rfl ?_
          refine x_goto (tgt := 5) d_I_soundersOf_64 rfl ?_
          refine y_pick (L1 := [(0, .ref z0), (1, .int z1), (2, .int z2), (3, .int v16), (4, .int v18)]) [0, 1, 2, 3, 4] rfl ?_
          exact ih v16 v18 _ h
set_option maxRecDepth 100000 in
set_option maxHeartbeats 4000000 in
theorem c_I_soundersOf {X : Nat × (Nat → Int32)} {D F G : Nat} (hD : 0 ≤ D) {S : St} {o2 : Nat} {p2 : Int32} {p3 : Int32} {res : Int32} (h : fI_soundersOf F G S o2 p2 p3 = some res) : Ek X (D) mI_soundersOf 0 [(0, .ref o2), (1, .int p2), (2, .int p3)] [] S (some (.int res)) S := by
  unfold fI_soundersOf at h
  obtain ⟨gg0, h⟩ := gd_inv h
  refine x_iconst d_I_soundersOf_0 ic_0 ?_
  refine x_istore_n (L1 := [(0, .ref o2), (1, .int p2), (2, .int p3), (3, .int (0 : Int32))]) d_I_soundersOf_1 rfl (Nat.le_of_ble_eq_true rfl) rfl rfl ?_
  refine x_iconst d_I_soundersOf_2 ic_0 ?_
  refine x_istore (L1 := [(0, .ref o2), (1, .int p2), (2, .int p3), (3, .int (0 : Int32)), (4, .int (0 : Int32))]) d_I_soundersOf_3 (Nat.le_of_ble_eq_true rfl) rfl rfl ?_
  refine T_I_soundersOf_5 (by omega) gg0  F (0 : Int32) (0 : Int32) _ h
/-! NinetyPlayers$Witness.gather -/
def j_I_gather_45 (F G : Nat) (z1 : Nat) (z2 : Int32) (rec : Int32 → St → Option (St)) (S : St) (y3 : Int32) (s0 : Int32) : Option (St) :=
  gd (inB y3 30) (if z2 < (S.1 74 y3.toNatClampNeg) then lt (y3 + 1) fun v12 => rec v12 S else if s0 = 0 then gd (inB y3 30) (gd (inB y3 30) (bd (fI_soundersOf F G S z1 (S.1 71 y3.toNatClampNeg) (S.1 72 y3.toNatClampNeg)) fun v20 => gd (inB y3 30) (if (S.1 73 y3.toNatClampNeg) = 0 then lt (sI S 69 11 ((S.1 69 11) ||| v20)) fun S23 => lt (y3 + 1) fun v25 => rec v25 S23 else gd (inB (S.1 69 10) 30) (lt (sI S 76 (S.1 69 10).toNatClampNeg v20) fun S28 => lt (sI S28 69 10 ((S28.1 69 10) + (1 : Int32))) fun S30 => lt (y3 + 1) fun v32 => rec v32 S30)))) else lt (y3 + 1) fun v15 => rec v15 S)
def j_I_gather_44 (F G : Nat) (z1 : Nat) (z2 : Int32) (rec : Int32 → St → Option (St)) (S : St) (y3 : Int32) : Option (St) :=
  j_I_gather_45 F G z1 z2 rec  S y3 (0 : Int32)
def b_I_gather_12 (F G : Nat) (z1 : Nat) (z2 : Int32) (rec : Int32 → St → Option (St)) (w3 : Int32) (S : St) : Option (St) :=
  if (S.1 69 0) ≤ w3 then some S else gd (inB w3 30) (if (S.1 75 w3.toNatClampNeg) = (-1 : Int32) then j_I_gather_44 F G z1 z2 rec  S w3 else gd (inB w3 30) (if z2 < (S.1 75 w3.toNatClampNeg) then j_I_gather_44 F G z1 z2 rec  S w3 else j_I_gather_45 F G z1 z2 rec  S w3 (1 : Int32)))
def fI_gather (F G : Nat) (S : St) (o2 : Nat) (p2 : Int32) : Option (St) :=
  gd (isSc o2) (lt (sI S 69 10 (0 : Int32)) fun S1 => lt (sI S1 69 11 (0 : Int32)) fun S3 => fx2 (b_I_gather_12 F G o2 p2) F (0 : Int32) S3)
set_option maxRecDepth 100000 in
set_option maxHeartbeats 4000000 in
theorem T_I_gather_12 {X : Nat × (Nat → Int32)} {D F G : Nat} (hD : 1 ≤ D + 1) {z1 : Nat} {z2 : Int32} (hz1 : isSc z1 = true) : ∀ (f : Nat) (w3 : Int32) (S : St) (res : St), fx2 (b_I_gather_12 F G z1 z2 ) f w3 S = some res → Ek X (D + 1) mI_gather 12 [(0, .ref 69), (1, .ref z1), (2, .int z2), (3, .int w3)] [] S none res := by
  refine fx2_ind ?_
  intro rec ih w3 S res h
  unfold b_I_gather_12 at h
  have J45 : ∀ (S : St) (y3 : Int32) (s0 : Int32) (res : St), j_I_gather_45 F G z1 z2 rec S y3 s0 = some res → Ek X (D + 1) mI_gather 45 [(0, .ref 69), (1, .ref z1), (2, .int z2), (3, .int y3)] [.int s0] S none res := by
    intro S y3 s0 res h
    unfold j_I_gather_45 at h
    refine x_istore (L1 := [(0, .ref 69), (1, .ref z1), (2, .int z2), (3, .int y3), (4, .int s0)]) d_I_gather_45 (Nat.le_of_ble_eq_true rfl) rfl rfl ?_
    refine x_aload_n d_I_gather_47 rfl 0 rfl ?_
    refine y_getR d_I_gather_48 fl_10_25 rfl kd_69 rr_69_7 ?_
    refine x_iload_n d_I_gather_51 rfl 3 rfl ?_
    obtain ⟨g10, h⟩ := gd_inv h
    refine y_iald d_I_gather_52 kd_74 g10 ?_
    refine x_iload_n d_I_gather_53 rfl 2 rfl ?_
    refine x_icmp_gt (tgt := 124) d_I_gather_54 rfl (fun c11 => ?_) (fun c11 => ?_)
    · replace h := ite_t c11 h
      obtain ⟨v12, e13, h⟩ := lt_inv h
      refine y_iinc (L1 := [(0, .ref 69), (1, .ref z1), (2, .int z2), (3, .int v12), (4, .int s0)]) e13 ic_1 d_I_gather_124 3 rfl (Nat.le_of_ble_eq_true rfl) rfl rfl ?_
      refine x_goto (tgt := 12) d_I_gather_127 rfl ?_
      refine y_pick (L1 := [(0, .ref 69), (1, .ref z1), (2, .int z2), (3, .int v12)]) [0, 1, 2, 3] rfl ?_
      exact ih v12 S _ h
    · replace h := ite_f c11 h
      refine x_iload d_I_gather_57 4 rfl ?_
      refine x_if_ne (tgt := 124) d_I_gather_59 rfl (fun c14 => ?_) (fun c14 => ?_)
      · replace h := ite_f c14 h
        obtain ⟨v15, e16, h⟩ := lt_inv h
        refine y_iinc (L1 := [(0, .ref 69), (1, .ref z1), (2, .int z2), (3, .int v15), (4, .int s0)]) e16 ic_1 d_I_gather_124 3 rfl (Nat.le_of_ble_eq_true rfl) rfl rfl ?_
        refine x_goto (tgt := 12) d_I_gather_127 rfl ?_
        refine y_pick (L1 := [(0, .ref 69), (1, .ref z1), (2, .int z2), (3, .int v15)]) [0, 1, 2, 3] rfl ?_
        exact ih v15 S _ h
      · replace h := ite_t c14 h
        refine x_aload_n d_I_gather_62 rfl 1 rfl ?_
        refine x_aload_n d_I_gather_63 rfl 0 rfl ?_
        refine y_getR d_I_gather_64 fl_10_15 rfl kd_69 rr_69_4 ?_
        refine x_iload_n d_I_gather_67 rfl 3 rfl ?_
        obtain ⟨g17, h⟩ := gd_inv h
        refine y_iald d_I_gather_68 kd_71 g17 ?_
        refine x_aload_n d_I_gather_69 rfl 0 rfl ?_
        refine y_getR d_I_gather_70 fl_10_18 rfl kd_69 rr_69_5 ?_
        refine x_iload_n d_I_gather_73 rfl 3 rfl ?_
        obtain ⟨g18, h⟩ := gd_inv h
        refine y_iald d_I_gather_74 kd_72 g18 ?_
        obtain ⟨v20, q19, h⟩ := bd_inv h
        refine y_S3i (v := v20) (S1 := S) d_I_gather_75 ml_10_68 (Nat.le_of_ble_eq_true rfl) (Nat.le_of_ble_eq_true rfl) (c_I_soundersOf (by omega) q19) ?_
        refine x_istore (L1 := [(0, .ref 69), (1, .ref z1), (2, .int z2), (3, .int y3), (4, .int s0), (5, .int v20)]) d_I_gather_78 (Nat.le_of_ble_eq_true rfl) rfl rfl ?_
        refine x_aload_n d_I_gather_80 rfl 0 rfl ?_
        refine y_getR d_I_gather_81 fl_10_21 rfl kd_69 rr_69_6 ?_
        refine x_iload_n d_I_gather_84 rfl 3 rfl ?_
        obtain ⟨g21, h⟩ := gd_inv h
        refine y_zald d_I_gather_85 kd_73 g21 ?_
        refine x_if_eq (tgt := 113) d_I_gather_86 rfl (fun c22 => ?_) (fun c22 => ?_)
        · replace h := ite_t c22 h
          refine x_aload_n d_I_gather_113 rfl 0 rfl ?_
          refine x_dup d_I_gather_114 rfl ?_
          refine y_getI d_I_gather_115 fl_10_65 rfl kd_69 ?_
          refine x_iload d_I_gather_118 5 rfl ?_
          refine x_ior d_I_gather_120 ?_
          obtain ⟨S23, e24, h⟩ := lt_inv h
          refine y_putI e24 d_I_gather_121 fl_10_65 rfl rfl kd_69 rfl rfl ?_
          obtain ⟨v25, e26, h⟩ := lt_inv h
          refine y_iinc (L1 := [(0, .ref 69), (1, .ref z1), (2, .int z2), (3, .int v25), (4, .int s0), (5, .int v20)]) e26 ic_1 d_I_gather_124 3 rfl (Nat.le_of_ble_eq_true rfl) rfl rfl ?_
          refine x_goto (tgt := 12) d_I_gather_127 rfl ?_
          refine y_pick (L1 := [(0, .ref 69), (1, .ref z1), (2, .int z2), (3, .int v25)]) [0, 1, 2, 3] rfl ?_
          exact ih v25 S23 _ h
        · replace h := ite_f c22 h
          refine x_aload_n d_I_gather_89 rfl 0 rfl ?_
          refine y_getR d_I_gather_90 fl_10_31 rfl kd_69 rr_69_9 ?_
          refine x_aload_n d_I_gather_93 rfl 0 rfl ?_
          refine y_getI d_I_gather_94 fl_10_62 rfl kd_69 ?_
          refine x_iload d_I_gather_97 5 rfl ?_
          obtain ⟨g27, h⟩ := gd_inv h
          obtain ⟨S28, e29, h⟩ := lt_inv h
          refine y_iast e29 d_I_gather_99 kd_76 g27 ?_
          refine x_aload_n d_I_gather_100 rfl 0 rfl ?_
          refine x_dup d_I_gather_101 rfl ?_
          refine y_getI d_I_gather_102 fl_10_62 rfl kd_69 ?_
          refine x_iconst d_I_gather_105 ic_1 ?_
          refine x_iadd d_I_gather_106 ?_
          obtain ⟨S30, e31, h⟩ := lt_inv h
          refine y_putI e31 d_I_gather_107 fl_10_62 rfl rfl kd_69 rfl rfl ?_
          refine x_goto (tgt := 124) d_I_gather_110 rfl ?_
          obtain ⟨v32, e33, h⟩ := lt_inv h
          refine y_iinc (L1 := [(0, .ref 69), (1, .ref z1), (2, .int z2), (3, .int v32), (4, .int s0), (5, .int v20)]) e33 ic_1 d_I_gather_124 3 rfl (Nat.le_of_ble_eq_true rfl) rfl rfl ?_
          refine x_goto (tgt := 12) d_I_gather_127 rfl ?_
          refine y_pick (L1 := [(0, .ref 69), (1, .ref z1), (2, .int z2), (3, .int v32)]) [0, 1, 2, 3] rfl ?_
          exact ih v32 S30 _ h
  have J44 : ∀ (S : St) (y3 : Int32) (res : St), j_I_gather_44 F G z1 z2 rec S y3 = some res → Ek X (D + 1) mI_gather 44 [(0, .ref 69), (1, .ref z1), (2, .int z2), (3, .int y3)] [] S none res := by
    intro S y3 res h
    unfold j_I_gather_44 at h
    refine x_iconst d_I_gather_44 ic_0 ?_
    exact J45 S y3 (0 : Int32) _ h
  refine x_iload_n d_I_gather_12 rfl 3 rfl ?_
  refine x_aload_n d_I_gather_13 rfl 0 rfl ?_
  refine y_getI d_I_gather_14 fl_10_34 rfl kd_69 ?_
  refine x_icmp_ge (tgt := 130) d_I_gather_17 rfl (fun c5 => ?_) (fun c5 => ?_)
  · replace h := ite_t c5 h
    obtain rfl := Option.some.inj h
    exact x_ret (r := none) d_I_gather_130 rfl
  · replace h := ite_f c5 h
    refine x_aload_n d_I_gather_20 rfl 0 rfl ?_
    refine y_getR d_I_gather_21 fl_10_28 rfl kd_69 rr_69_8 ?_
    refine x_iload_n d_I_gather_24 rfl 3 rfl ?_
    obtain ⟨g6, h⟩ := gd_inv h
    refine y_iald d_I_gather_25 kd_75 g6 ?_
    refine x_iconst d_I_gather_26 ic_m1 ?_
    refine x_icmp_eq (tgt := 44) d_I_gather_27 rfl (fun c7 => ?_) (fun c7 => ?_)
    · replace h := ite_t c7 h
      exact J44 S w3 _ h
    · replace h := ite_f c7 h
      refine x_aload_n d_I_gather_30 rfl 0 rfl ?_
      refine y_getR d_I_gather_31 fl_10_28 rfl kd_69 rr_69_8 ?_
      refine x_iload_n d_I_gather_34 rfl 3 rfl ?_
      obtain ⟨g8, h⟩ := gd_inv h
      refine y_iald d_I_gather_35 kd_75 g8 ?_
      refine x_iload_n d_I_gather_36 rfl 2 rfl ?_
      refine x_icmp_gt (tgt := 44) d_I_gather_37 rfl (fun c9 => ?_) (fun c9 => ?_)
      · replace h := ite_t c9 h
        exact J44 S w3 _ h
      · replace h := ite_f c9 h
        refine x_iconst d_I_gather_40 ic_1 ?_
        refine x_goto (tgt := 45) d_I_gather_41 rfl ?_
        exact J45 S w3 (1 : Int32) _ h
set_option maxRecDepth 100000 in
set_option maxHeartbeats 4000000 in
theorem c_I_gather {X : Nat × (Nat → Int32)} {D F G : Nat} (hD : 1 ≤ D) {S : St} {o2 : Nat} {p2 : Int32} {res : St} (h : fI_gather F G S o2 p2 = some res) : Ek X (D) mI_gather 0 [(0, .ref 69), (1, .ref o2), (2, .int p2)] [] S none res := by
  obtain ⟨D, rfl⟩ : ∃ E, D = E + 1 := ⟨D - 1, by omega⟩
  unfold fI_gather at h
  obtain ⟨gg0, h⟩ := gd_inv h
  refine x_aload_n d_I_gather_0 rfl 0 rfl ?_
  refine x_iconst d_I_gather_1 ic_0 ?_
  obtain ⟨S1, e2, h⟩ := lt_inv h
  refine y_putI e2 d_I_gather_2 fl_10_62 rfl rfl kd_69 rfl rfl ?_
  refine x_aload_n d_I_gather_5 rfl 0 rfl ?_
  refine x_iconst d_I_gather_6 ic_0 ?_
  obtain ⟨S3, e4, h⟩ := lt_inv h
  refine y_putI e4 d_I_gather_7 fl_10_65 rfl rfl kd_69 rfl rfl ?_
  refine x_iconst d_I_gather_10 ic_0 ?_
  refine x_istore_n (L1 := [(0, .ref 69), (1, .ref o2), (2, .int p2), (3, .int (0 : Int32))]) d_I_gather_11 rfl (Nat.le_of_ble_eq_true rfl) rfl rfl ?_
  refine T_I_gather_12 (by omega) gg0  F (0 : Int32) S3 _ h
/-! NinetyPlayers$Witness.isSo -/
def b_I_isSo_13 (F G : Nat) (S : St) (z1 : Int32) (rec : Int32 → Option (Int32)) (w2 : Int32) : Option (Int32) :=
  if (S.1 69 10) ≤ w2 then some (1 : Int32) else gd (inB w2 30) (if (z1 &&& (S.1 76 w2.toNatClampNeg)) = 0 then some (0 : Int32) else lt (w2 + 1) fun v5 => rec v5)
def fI_isSo (F G : Nat) (S : St) (p1 : Int32) : Option (Int32) :=
  if (p1 &&& (S.1 69 11)) = 0 then fx1 (b_I_isSo_13 F G S p1) F (0 : Int32) else some (0 : Int32)
set_option maxRecDepth 100000 in
set_option maxHeartbeats 4000000 in
theorem T_I_isSo_13 {X : Nat × (Nat → Int32)} {D F G : Nat} (hD : 0 ≤ D) {S : St} {z1 : Int32} : ∀ (f : Nat) (w2 : Int32) (res : Int32), fx1 (b_I_isSo_13 F G S z1 ) f w2 = some res → Ek X (D) mI_isSo 13 [(0, .ref 69), (1, .int z1), (2, .int w2)] [] S (some (.int res)) S := by
  refine fx1_ind ?_
  intro rec ih w2 res h
  unfold b_I_isSo_13 at h
  refine x_iload_n d_I_isSo_13 rfl 2 rfl ?_
  refine x_aload_n d_I_isSo_14 rfl 0 rfl ?_
  refine y_getI d_I_isSo_15 fl_10_62 rfl kd_69 ?_
  refine x_icmp_ge (tgt := 40) d_I_isSo_18 rfl (fun c2 => ?_) (fun c2 => ?_)
  · replace h := ite_t c2 h
    refine x_iconst d_I_isSo_40 ic_1 ?_
    obtain rfl := Option.some.inj h
    exact x_ret (r := some (.int (1 : Int32))) d_I_isSo_41 ⟨_, rfl, rfl⟩
  · replace h := ite_f c2 h
    refine x_iload_n d_I_isSo_21 rfl 1 rfl ?_
    refine x_aload_n d_I_isSo_22 rfl 0 rfl ?_
    refine y_getR d_I_isSo_23 fl_10_31 rfl kd_69 rr_69_9 ?_
    refine x_iload_n d_I_isSo_26 rfl 2 rfl ?_
    obtain ⟨g3, h⟩ := gd_inv h
    refine y_iald d_I_isSo_27 kd_76 g3 ?_
    refine x_iand d_I_isSo_28 ?_
    refine x_if_ne (tgt := 34) d_I_isSo_29 rfl (fun c4 => ?_) (fun c4 => ?_)
    · replace h := ite_f c4 h
      obtain ⟨v5, e6, h⟩ := lt_inv h
      refine y_iinc (L1 := [(0, .ref 69), (1, .int z1), (2, .int v5)]) e6 ic_1 d_I_isSo_34 2 rfl (Nat.le_of_ble_eq_true rfl) rfl rfl ?_
      refine x_goto (tgt := 13) d_I_isSo_37 rfl ?_
      exact ih v5 _ h
    · replace h := ite_t c4 h
      refine x_iconst d_I_isSo_32 ic_0 ?_
      obtain rfl := Option.some.inj h
      exact x_ret (r := some (.int (0 : Int32))) d_I_isSo_33 ⟨_, rfl, rfl⟩
set_option maxRecDepth 100000 in
set_option maxHeartbeats 4000000 in
theorem c_I_isSo {X : Nat × (Nat → Int32)} {D F G : Nat} (hD : 0 ≤ D) {S : St} {p1 : Int32} {res : Int32} (h : fI_isSo F G S p1 = some res) : Ek X (D) mI_isSo 0 [(0, .ref 69), (1, .int p1)] [] S (some (.int res)) S := by
  unfold fI_isSo at h
  refine x_iload_n d_I_isSo_0 rfl 1 rfl ?_
  refine x_aload_n d_I_isSo_1 rfl 0 rfl ?_
  refine y_getI d_I_isSo_2 fl_10_65 rfl kd_69 ?_
  refine x_iand d_I_isSo_5 ?_
  refine x_if_eq (tgt := 11) d_I_isSo_6 rfl (fun c1 => ?_) (fun c1 => ?_)
  · replace h := ite_t c1 h
    refine x_iconst d_I_isSo_11 ic_0 ?_
    refine x_istore_n (L1 := [(0, .ref 69), (1, .int p1), (2, .int (0 : Int32))]) d_I_isSo_12 rfl (Nat.le_of_ble_eq_true rfl) rfl rfl ?_
    refine T_I_isSo_13 (by omega)   F (0 : Int32) _ h
  · replace h := ite_f c1 h
    refine x_iconst d_I_isSo_9 ic_0 ?_
    obtain rfl := Option.some.inj h
    exact x_ret (r := some (.int (0 : Int32))) d_I_isSo_10 ⟨_, rfl, rfl⟩
/-! NinetyPlayers$Witness.countIn -/
def b_I_countIn_12 (F G : Nat) (z1 : Int32) (rec : Int32 → St → Option (St)) (w2 : Int32) (S : St) : Option (St) :=
  if (10 : Int32) ≤ w2 then some S else gd (inB w2 10) (gd (inB w2 10) (lt (sI S 70 w2.toNatClampNeg ((S.1 70 w2.toNatClampNeg) + ((z1 >>> (w2 &&& 31)) &&& (1 : Int32)))) fun S6 => lt (w2 + 1) fun v8 => rec v8 S6))
def fI_countIn (F G : Nat) (S : St) (p1 : Int32) : Option (St) :=
  lt (sI S 69 2 ((S.1 69 2) + (1 : Int32))) fun S1 => fx2 (b_I_countIn_12 F G p1) F (0 : Int32) S1
set_option maxRecDepth 100000 in
set_option maxHeartbeats 4000000 in
theorem T_I_countIn_12 {X : Nat × (Nat → Int32)} {D F G : Nat} (hD : 0 ≤ D) {z1 : Int32} : ∀ (f : Nat) (w2 : Int32) (S : St) (res : St), fx2 (b_I_countIn_12 F G z1 ) f w2 S = some res → Ek X (D) mI_countIn 12 [(0, .ref 69), (1, .int z1), (2, .int w2)] [] S none res := by
  refine fx2_ind ?_
  intro rec ih w2 S res h
  unfold b_I_countIn_12 at h
  refine x_iload_n d_I_countIn_12 rfl 2 rfl ?_
  refine x_bipush d_I_countIn_13 bp_10 ?_
  refine x_icmp_ge (tgt := 38) d_I_countIn_15 rfl (fun c3 => ?_) (fun c3 => ?_)
  · replace h := ite_t c3 h
    obtain rfl := Option.some.inj h
    exact x_ret (r := none) d_I_countIn_38 rfl
  · replace h := ite_f c3 h
    refine x_aload_n d_I_countIn_18 rfl 0 rfl ?_
    refine y_getR d_I_countIn_19 fl_10_9 rfl kd_69 rr_69_3 ?_
    refine x_iload_n d_I_countIn_22 rfl 2 rfl ?_
    refine x_dup2 d_I_countIn_23 rfl rfl ?_
    obtain ⟨g4, h⟩ := gd_inv h
    refine y_iald d_I_countIn_24 kd_70 g4 ?_
    refine x_iload_n d_I_countIn_25 rfl 1 rfl ?_
    refine x_iload_n d_I_countIn_26 rfl 2 rfl ?_
    refine x_ishr d_I_countIn_27 ?_
    refine x_iconst d_I_countIn_28 ic_1 ?_
    refine x_iand d_I_countIn_29 ?_
    refine x_iadd d_I_countIn_30 ?_
    obtain ⟨g5, h⟩ := gd_inv h
    obtain ⟨S6, e7, h⟩ := lt_inv h
    refine y_iast e7 d_I_countIn_31 kd_70 g5 ?_
    obtain ⟨v8, e9, h⟩ := lt_inv h
    refine y_iinc (L1 := [(0, .ref 69), (1, .int z1), (2, .int v8)]) e9 ic_1 d_I_countIn_32 2 rfl (Nat.le_of_ble_eq_true rfl) rfl rfl ?_
    refine x_goto (tgt := 12) d_I_countIn_35 rfl ?_
    exact ih v8 S6 _ h
set_option maxRecDepth 100000 in
set_option maxHeartbeats 4000000 in
theorem c_I_countIn {X : Nat × (Nat → Int32)} {D F G : Nat} (hD : 0 ≤ D) {S : St} {p1 : Int32} {res : St} (h : fI_countIn F G S p1 = some res) : Ek X (D) mI_countIn 0 [(0, .ref 69), (1, .int p1)] [] S none res := by
  unfold fI_countIn at h
  refine x_aload_n d_I_countIn_0 rfl 0 rfl ?_
  refine x_dup d_I_countIn_1 rfl ?_
  refine y_getI d_I_countIn_2 fl_10_46 rfl kd_69 ?_
  refine x_iconst d_I_countIn_5 ic_1 ?_
  refine x_iadd d_I_countIn_6 ?_
  obtain ⟨S1, e2, h⟩ := lt_inv h
  refine y_putI e2 d_I_countIn_7 fl_10_46 rfl rfl kd_69 rfl rfl ?_
  refine x_iconst d_I_countIn_10 ic_0 ?_
  refine x_istore_n (L1 := [(0, .ref 69), (1, .int p1), (2, .int (0 : Int32))]) d_I_countIn_11 rfl (Nat.le_of_ble_eq_true rfl) rfl rfl ?_
  refine T_I_countIn_12 (by omega)   F (0 : Int32) S1 _ h
/-! NinetyPlayers$Witness.count -/
def b_I_count_13 (F G : Nat) (z1 : Nat) (k32 : St → Option (St)) (rec : Int32 → St → Option (St)) (w3 : Int32) (S : St) : Option (St) :=
  if (10 : Int32) ≤ w3 then k32 S else gd (inB w3 10) (lt (sI S 70 w3.toNatClampNeg (0 : Int32)) fun S7 => lt (w3 + 1) fun v9 => rec v9 S7)
def b_I_count_34 (F G : Nat) (z1 : Nat) (rec : Int32 → St → Option (St)) (w3 : Int32) (S : St) : Option (St) :=
  if ((1 : Int32) <<< ((S.1 z1 6) &&& 31)) ≤ w3 then some S else bd (fI_isSo F G S w3) fun v14 => if v14 = 0 then lt (w3 + 1) fun v16 => rec v16 S else bd (fI_countIn F G S w3) fun S19 => lt (w3 + 1) fun v20 => rec v20 S19
def fI_count (F G : Nat) (S : St) (o2 : Nat) (p2 : Int32) : Option (St) :=
  gd (isSc o2) (bd (fI_gather F G S o2 p2) fun S2 => lt (sI S2 69 2 (0 : Int32)) fun S3 => fx2 (b_I_count_13 F G o2 (fun S11 => fx2 (b_I_count_34 F G o2) F (0 : Int32) S11)) F (0 : Int32) S3)
set_option maxRecDepth 100000 in
set_option maxHeartbeats 4000000 in
theorem T_I_count_13 {X : Nat × (Nat → Int32)} {D F G : Nat} (hD : 2 ≤ D + 1) {z1 : Nat} (hz1 : isSc z1 = true) {k32 : St → Option (St)} (hk32 : ∀ (S1 : St) (res : St), k32 S1 = some res → Ek X (D + 1) mI_count 32 [(0, .ref 69), (1, .ref z1)] [] S1 none res) : ∀ (f : Nat) (w3 : Int32) (S : St) (res : St), fx2 (b_I_count_13 F G z1 k32 ) f w3 S = some res → Ek X (D + 1) mI_count 13 [(0, .ref 69), (1, .ref z1), (3, .int w3)] [] S none res := by
  refine fx2_ind ?_
  intro rec ih w3 S res h
  unfold b_I_count_13 at h
  refine x_iload_n d_I_count_13 rfl 2 rfl ?_
  refine x_bipush d_I_count_14 bp_10 ?_
  refine x_icmp_ge (tgt := 32) d_I_count_16 rfl (fun c5 => ?_) (fun c5 => ?_)
  · replace h := ite_t c5 h
    refine y_pick (L1 := [(0, .ref 69), (1, .ref z1)]) [0, 1] rfl ?_
    exact hk32 S _ h
  · replace h := ite_f c5 h
    refine x_aload_n d_I_count_19 rfl 0 rfl ?_
    refine y_getR d_I_count_20 fl_10_9 rfl kd_69 rr_69_3 ?_
    refine x_iload_n d_I_count_23 rfl 2 rfl ?_
    refine x_iconst d_I_count_24 ic_0 ?_
    obtain ⟨g6, h⟩ := gd_inv h
    obtain ⟨S7, e8, h⟩ := lt_inv h
    refine y_iast e8 d_I_count_25 kd_70 g6 ?_
    obtain ⟨v9, e10, h⟩ := lt_inv h
    refine y_iinc (L1 := [(0, .ref 69), (1, .ref z1), (3, .int v9)]) e10 ic_1 d_I_count_26 2 rfl (Nat.le_of_ble_eq_true rfl) rfl rfl ?_
    refine x_goto (tgt := 13) d_I_count_29 rfl ?_
    exact ih v9 S7 _ h
set_option maxRecDepth 100000 in
set_option maxHeartbeats 4000000 in
theorem T_I_count_34 {X : Nat × (Nat → Int32)} {D F G : Nat} (hD : 2 ≤ D + 1) {z1 : Nat} (hz1 : isSc z1 = true) : ∀ (f : Nat) (w3 : Int32) (S : St) (res : St), fx2 (b_I_count_34 F G z1 ) f w3 S = some res → Ek X (D + 1) mI_count 34 [(0, .ref 69), (1, .ref z1), (3, .int w3)] [] S none res := by
  refine fx2_ind ?_
  intro rec ih w3 S res h
  unfold b_I_count_34 at h
  refine x_iload_n d_I_count_34 rfl 2 rfl ?_
  refine x_iconst d_I_count_35 ic_1 ?_
  refine x_aload_n d_I_count_36 rfl 1 rfl ?_
  refine y_getI d_I_count_37 fl_10_49 rfl (ksSc hz1) ?_
  refine x_ishl d_I_count_40 ?_
  refine x_icmp_ge (tgt := 63) d_I_count_41 rfl (fun c12 => ?_) (fun c12 => ?_)
  · replace h := ite_t c12 h
    obtain rfl := Option.some.inj h
    exact x_ret (r := none) d_I_count_63 rfl
  · replace h := ite_f c12 h
    refine x_aload_n d_I_count_44 rfl 0 rfl ?_
    refine x_iload_n d_I_count_45 rfl 2 rfl ?_
    obtain ⟨v14, q13, h⟩ := bd_inv h
    refine y_V1i (v := v14) (S1 := S) d_I_count_46 ml_10_54 kd_69 rfl (Nat.le_of_ble_eq_true rfl) (Nat.le_of_ble_eq_true rfl) (c_I_isSo (by omega) q13) ?_
    refine x_if_eq (tgt := 57) d_I_count_49 rfl (fun c15 => ?_) (fun c15 => ?_)
    · replace h := ite_t c15 h
      obtain ⟨v16, e17, h⟩ := lt_inv h
      refine y_iinc (L1 := [(0, .ref 69), (1, .ref z1), (3, .int v16)]) e17 ic_1 d_I_count_57 2 rfl (Nat.le_of_ble_eq_true rfl) rfl rfl ?_
      refine x_goto (tgt := 34) d_I_count_60 rfl ?_
      exact ih v16 S _ h
    · replace h := ite_f c15 h
      refine x_aload_n d_I_count_52 rfl 0 rfl ?_
      refine x_iload_n d_I_count_53 rfl 2 rfl ?_
      obtain ⟨S19, q18, h⟩ := bd_inv h
      refine y_V1v (S1 := S19) d_I_count_54 ml_10_58 kd_69 rfl (Nat.le_of_ble_eq_true rfl) (Nat.le_of_ble_eq_true rfl) (c_I_countIn (by omega) q18) ?_
      obtain ⟨v20, e21, h⟩ := lt_inv h
      refine y_iinc (L1 := [(0, .ref 69), (1, .ref z1), (3, .int v20)]) e21 ic_1 d_I_count_57 2 rfl (Nat.le_of_ble_eq_true rfl) rfl rfl ?_
      refine x_goto (tgt := 34) d_I_count_60 rfl ?_
      exact ih v20 S19 _ h
set_option maxRecDepth 100000 in
set_option maxHeartbeats 4000000 in
theorem c_I_count {X : Nat × (Nat → Int32)} {D F G : Nat} (hD : 2 ≤ D) {S : St} {o2 : Nat} {p2 : Int32} {res : St} (h : fI_count F G S o2 p2 = some res) : Ek X (D) mI_count 0 [(0, .ref 69), (1, .ref o2), (2, .int p2)] [] S none res := by
  obtain ⟨D, rfl⟩ : ∃ E, D = E + 1 := ⟨D - 1, by omega⟩
  unfold fI_count at h
  obtain ⟨gg0, h⟩ := gd_inv h
  refine x_aload_n d_I_count_0 rfl 0 rfl ?_
  refine x_aload_n d_I_count_1 rfl 1 rfl ?_
  refine x_iload_n d_I_count_2 rfl 2 rfl ?_
  obtain ⟨S2, q1, h⟩ := bd_inv h
  refine y_V2v (S1 := S2) d_I_count_3 ml_10_42 kd_69 rfl (Nat.le_of_ble_eq_true rfl) (Nat.le_of_ble_eq_true rfl) (c_I_gather (by omega) q1) ?_
  refine x_aload_n d_I_count_6 rfl 0 rfl ?_
  refine x_iconst d_I_count_7 ic_0 ?_
  obtain ⟨S3, e4, h⟩ := lt_inv h
  refine y_putI e4 d_I_count_8 fl_10_46 rfl rfl kd_69 rfl rfl ?_
  refine x_iconst d_I_count_11 ic_0 ?_
  refine x_istore_n (L1 := [(0, .ref 69), (1, .ref o2), (2, .int p2), (3, .int (0 : Int32))]) d_I_count_12 rfl (Nat.le_of_ble_eq_true rfl) rfl rfl ?_
  refine y_pick (L1 := [(0, .ref 69), (1, .ref o2), (3, .int (0 : Int32))]) [0, 1, 3] rfl ?_
  refine T_I_count_13 (by omega) gg0 ?_ F (0 : Int32) S3 _ h
  · intro S11 res h
    refine x_iconst d_I_count_32 ic_0 ?_
    refine x_istore_n (L1 := [(0, .ref 69), (1, .ref o2), (3, .int (0 : Int32))]) d_I_count_33 rfl (Nat.le_of_ble_eq_true rfl) rfl rfl ?_
    refine T_I_count_34 (by omega) gg0  F (0 : Int32) S11 _ h
/-! NinetyPlayers.sets -/
def fN_sets (F G : Nat) (S : St) (p1 : Int32) : Option (Int32 × St) :=
  gd (isSc S.2.2.1) (bd (fI_count F G S S.2.2.1 p1) fun S3 => some (S3.1 69 2, S3))
set_option maxRecDepth 100000 in
set_option maxHeartbeats 4000000 in
theorem c_N_sets {X : Nat × (Nat → Int32)} {D F G : Nat} (hD : 3 ≤ D) {S : St} {p1 : Int32} {res : Int32 × St} (h : fN_sets F G S p1 = some res) : Ek X (D) mN_sets 0 [(0, .ref 0), (1, .int p1)] [] S (some (.int res.1)) res.2 := by
  obtain ⟨D, rfl⟩ : ∃ E, D = E + 1 := ⟨D - 1, by omega⟩
  unfold fN_sets at h
  refine x_aload_n d_N_sets_0 rfl 0 rfl ?_
  refine y_getR d_N_sets_1 fl_0_79 rfl kd_0 rr_0_11 ?_
  refine x_aload_n d_N_sets_4 rfl 0 rfl ?_
  refine y_getR d_N_sets_5 fl_0_25 rfl kd_0 rr_told ?_
  obtain ⟨g1, h⟩ := gd_inv h
  refine x_iload_n d_N_sets_8 rfl 1 rfl ?_
  obtain ⟨S3, q2, h⟩ := bd_inv h
  refine y_V2v (S1 := S3) d_N_sets_9 ml_0_326 kd_69 rfl (Nat.le_of_ble_eq_true rfl) (Nat.le_of_ble_eq_true rfl) (c_I_count (by omega) q2) ?_
  refine x_aload_n d_N_sets_12 rfl 0 rfl ?_
  refine y_getR d_N_sets_13 fl_0_79 rfl kd_0 rr_0_11 ?_
  refine y_getI d_N_sets_16 fl_0_330 rfl kd_69 ?_
  obtain rfl := Option.some.inj h
  exact x_ret (r := some (.int (S3.1 69 2))) d_N_sets_19 ⟨_, rfl, rfl⟩
/-! NinetyPlayersModel.sayersOf -/
def j_M_sayersOf_70 (F G : Nat) (S : St) (z1 : Int32) (rec : Int32 → Int32 → Option (Int32)) (_ : St) (y3 : Int32) (s0 : Int32) (s1 : Int32) : Option (Int32) :=
  bd (fM_truth F G S s1) fun v13 => lt (s0 ||| (v13 <<< (y3 &&& 31))) fun v14 => lt (y3 + 1) fun v16 => rec v14 v16
def j_M_sayersOf_69 (F G : Nat) (S : St) (z1 : Int32) (rec : Int32 → Int32 → Option (Int32)) (_ : St) (y3 : Int32) (s0 : Int32) : Option (Int32) :=
  j_M_sayersOf_70 F G S z1 rec  S y3 s0 (0 : Int32)
def b_M_sayersOf_4 (F G : Nat) (S : St) (z1 : Int32) (rec : Int32 → Int32 → Option (Int32)) (w2 : Int32) (w3 : Int32) : Option (Int32) :=
  if (S.1 78 48) ≤ w3 then some w2 else gd (inB w3 10) (gd (inB z1 30) (if (S.1 97 w3.toNatClampNeg) = (S.1 109 z1.toNatClampNeg) then gd (inB w3 10) (gd (inB z1 30) (if (S.1 108 z1.toNatClampNeg) < (S.1 96 w3.toNatClampNeg) then j_M_sayersOf_69 F G S z1 rec  S w3 w2 else gd (inB z1 30) (gd (inB w3 10) (gd (inB w3 10) (if ((S.1 96 w3.toNatClampNeg) + (S.1 98 w3.toNatClampNeg)) ≤ (S.1 108 z1.toNatClampNeg) then j_M_sayersOf_69 F G S z1 rec  S w3 w2 else j_M_sayersOf_70 F G S z1 rec  S w3 w2 (1 : Int32)))))) else j_M_sayersOf_69 F G S z1 rec  S w3 w2))
def fM_sayersOf (F G : Nat) (S : St) (p1 : Int32) : Option (Int32) :=
  fx2 (b_M_sayersOf_4 F G S p1) F (0 : Int32) (0 : Int32)
set_option maxRecDepth 100000 in
set_option maxHeartbeats 4000000 in
theorem T_M_sayersOf_4 {X : Nat × (Nat → Int32)} {D F G : Nat} (hD : 1 ≤ D + 1) {S : St} {z1 : Int32} : ∀ (f : Nat) (w2 : Int32) (w3 : Int32) (res : Int32), fx2 (b_M_sayersOf_4 F G S z1 ) f w2 w3 = some res → Ek X (D + 1) mM_sayersOf 4 [(0, .ref 78), (1, .int z1), (2, .int w2), (3, .int w3)] [] S (some (.int res)) S := by
  refine fx2_ind ?_
  intro rec ih w2 w3 res h
  unfold b_M_sayersOf_4 at h
  have J70 : ∀ (y3 : Int32) (s0 : Int32) (s1 : Int32) (res : Int32), j_M_sayersOf_70 F G S z1 rec S y3 s0 s1 = some res → Ek X (D + 1) mM_sayersOf 70 [(0, .ref 78), (1, .int z1), (3, .int y3)] [.int s1, .int s0] S (some (.int res)) S := by
    intro y3 s0 s1 res h
    unfold j_M_sayersOf_70 at h
    obtain ⟨v13, q12, h⟩ := bd_inv h
    refine y_S1i (v := v13) (S1 := S) d_M_sayersOf_70 ml_11_318 (Nat.le_of_ble_eq_true rfl) (Nat.le_of_ble_eq_true rfl) (c_M_truth (by omega) q12) ?_
    refine x_iload_n d_M_sayersOf_73 rfl 2 rfl ?_
    refine x_ishl d_M_sayersOf_74 ?_
    refine x_ior d_M_sayersOf_75 ?_
    obtain ⟨v14, e15, h⟩ := lt_inv h
    refine y_istore_n (L1 := [(0, .ref 78), (1, .int z1), (2, .int v14), (3, .int y3)]) e15 d_M_sayersOf_76 rfl (Nat.le_of_ble_eq_true rfl) rfl rfl ?_
    obtain ⟨v16, e17, h⟩ := lt_inv h
    refine y_iinc (L1 := [(0, .ref 78), (1, .int z1), (2, .int v14), (3, .int v16)]) e17 ic_1 d_M_sayersOf_77 3 rfl (Nat.le_of_ble_eq_true rfl) rfl rfl ?_
    refine x_goto (tgt := 4) d_M_sayersOf_80 rfl ?_
    exact ih v14 v16 _ h
  have J69 : ∀ (y3 : Int32) (s0 : Int32) (res : Int32), j_M_sayersOf_69 F G S z1 rec S y3 s0 = some res → Ek X (D + 1) mM_sayersOf 69 [(0, .ref 78), (1, .int z1), (3, .int y3)] [.int s0] S (some (.int res)) S := by
    intro y3 s0 res h
    unfold j_M_sayersOf_69 at h
    refine x_iconst d_M_sayersOf_69 ic_0 ?_
    exact J70 y3 s0 (0 : Int32) _ h
  refine x_iload_n d_M_sayersOf_4 rfl 3 rfl ?_
  refine x_aload_n d_M_sayersOf_5 rfl 0 rfl ?_
  refine y_getI d_M_sayersOf_6 fl_11_322 rfl kd_78 ?_
  refine x_icmp_ge (tgt := 83) d_M_sayersOf_9 rfl (fun c1 => ?_) (fun c1 => ?_)
  · replace h := ite_t c1 h
    refine x_iload_n d_M_sayersOf_83 rfl 2 rfl ?_
    obtain rfl := Option.some.inj h
    exact x_ret (r := some (.int w2)) d_M_sayersOf_84 ⟨_, rfl, rfl⟩
  · replace h := ite_f c1 h
    refine x_iload_n d_M_sayersOf_12 rfl 2 rfl ?_
    refine x_aload_n d_M_sayersOf_13 rfl 0 rfl ?_
    refine y_getR d_M_sayersOf_14 fl_11_69 rfl kd_78 rr_78_36 ?_
    refine x_iload_n d_M_sayersOf_17 rfl 3 rfl ?_
    obtain ⟨g2, h⟩ := gd_inv h
    refine y_iald d_M_sayersOf_18 kd_97 g2 ?_
    refine x_aload_n d_M_sayersOf_19 rfl 0 rfl ?_
    refine y_getR d_M_sayersOf_20 fl_11_120 rfl kd_78 rr_78_70 ?_
    refine x_iload_n d_M_sayersOf_23 rfl 1 rfl ?_
    obtain ⟨g3, h⟩ := gd_inv h
    refine y_iald d_M_sayersOf_24 kd_109 g3 ?_
    refine x_icmp_ne (tgt := 69) d_M_sayersOf_25 rfl (fun c4 => ?_) (fun c4 => ?_)
    · replace h := ite_f c4 h
      refine y_pick (L1 := [(0, .ref 78), (1, .int z1), (3, .int w3)]) [0, 1, 3] rfl ?_
      exact J69 w3 w2 _ h
    · replace h := ite_t c4 h
      refine x_aload_n d_M_sayersOf_28 rfl 0 rfl ?_
      refine y_getR d_M_sayersOf_29 fl_11_66 rfl kd_78 rr_78_35 ?_
      refine x_iload_n d_M_sayersOf_32 rfl 3 rfl ?_
      obtain ⟨g5, h⟩ := gd_inv h
      refine y_iald d_M_sayersOf_33 kd_96 g5 ?_
      refine x_aload_n d_M_sayersOf_34 rfl 0 rfl ?_
      refine y_getR d_M_sayersOf_35 fl_11_117 rfl kd_78 rr_78_69 ?_
      refine x_iload_n d_M_sayersOf_38 rfl 1 rfl ?_
      obtain ⟨g6, h⟩ := gd_inv h
      refine y_iald d_M_sayersOf_39 kd_108 g6 ?_
      refine x_icmp_gt (tgt := 69) d_M_sayersOf_40 rfl (fun c7 => ?_) (fun c7 => ?_)
      · replace h := ite_t c7 h
        refine y_pick (L1 := [(0, .ref 78), (1, .int z1), (3, .int w3)]) [0, 1, 3] rfl ?_
        exact J69 w3 w2 _ h
      · replace h := ite_f c7 h
        refine x_aload_n d_M_sayersOf_43 rfl 0 rfl ?_
        refine y_getR d_M_sayersOf_44 fl_11_117 rfl kd_78 rr_78_69 ?_
        refine x_iload_n d_M_sayersOf_47 rfl 1 rfl ?_
        obtain ⟨g8, h⟩ := gd_inv h
        refine y_iald d_M_sayersOf_48 kd_108 g8 ?_
        refine x_aload_n d_M_sayersOf_49 rfl 0 rfl ?_
        refine y_getR d_M_sayersOf_50 fl_11_66 rfl kd_78 rr_78_35 ?_
        refine x_iload_n d_M_sayersOf_53 rfl 3 rfl ?_
        obtain ⟨g9, h⟩ := gd_inv h
        refine y_iald d_M_sayersOf_54 kd_96 g9 ?_
        refine x_aload_n d_M_sayersOf_55 rfl 0 rfl ?_
        refine y_getR d_M_sayersOf_56 fl_11_72 rfl kd_78 rr_78_37 ?_
        refine x_iload_n d_M_sayersOf_59 rfl 3 rfl ?_
        obtain ⟨g10, h⟩ := gd_inv h
        refine y_iald d_M_sayersOf_60 kd_98 g10 ?_
        refine x_iadd d_M_sayersOf_61 ?_
        refine x_icmp_ge (tgt := 69) d_M_sayersOf_62 rfl (fun c11 => ?_) (fun c11 => ?_)
        · replace h := ite_t c11 h
          refine y_pick (L1 := [(0, .ref 78), (1, .int z1), (3, .int w3)]) [0, 1, 3] rfl ?_
          exact J69 w3 w2 _ h
        · replace h := ite_f c11 h
          refine x_iconst d_M_sayersOf_65 ic_1 ?_
          refine x_goto (tgt := 70) d_M_sayersOf_66 rfl ?_
          refine y_pick (L1 := [(0, .ref 78), (1, .int z1), (3, .int w3)]) [0, 1, 3] rfl ?_
          exact J70 w3 w2 (1 : Int32) _ h
set_option maxRecDepth 100000 in
set_option maxHeartbeats 4000000 in
theorem c_M_sayersOf {X : Nat × (Nat → Int32)} {D F G : Nat} (hD : 1 ≤ D) {S : St} {p1 : Int32} {res : Int32} (h : fM_sayersOf F G S p1 = some res) : Ek X (D) mM_sayersOf 0 [(0, .ref 78), (1, .int p1)] [] S (some (.int res)) S := by
  obtain ⟨D, rfl⟩ : ∃ E, D = E + 1 := ⟨D - 1, by omega⟩
  unfold fM_sayersOf at h
  refine x_iconst d_M_sayersOf_0 ic_0 ?_
  refine x_istore_n (L1 := [(0, .ref 78), (1, .int p1), (2, .int (0 : Int32))]) d_M_sayersOf_1 rfl (Nat.le_of_ble_eq_true rfl) rfl rfl ?_
  refine x_iconst d_M_sayersOf_2 ic_0 ?_
  refine x_istore_n (L1 := [(0, .ref 78), (1, .int p1), (2, .int (0 : Int32)), (3, .int (0 : Int32))]) d_M_sayersOf_3 rfl (Nat.le_of_ble_eq_true rfl) rfl rfl ?_
  refine T_M_sayersOf_4 (by omega)   F (0 : Int32) (0 : Int32) _ h
/-! NinetyPlayersModel.counts -/
def fM_counts (F G : Nat) (S : St) (p1 : Int32) (p2 : Int32) : Option (Int32) :=
  gd (inB p1 30) (if p2 < (S.1 110 p1.toNatClampNeg) then some (0 : Int32) else gd (inB p1 30) (if (S.1 111 p1.toNatClampNeg) < 0 then some (1 : Int32) else gd (inB p1 30) (if (S.1 111 p1.toNatClampNeg) ≤ p2 then some (0 : Int32) else some (1 : Int32))))
set_option maxRecDepth 100000 in
set_option maxHeartbeats 4000000 in
theorem c_M_counts {X : Nat × (Nat → Int32)} {D F G : Nat} (hD : 0 ≤ D) {S : St} {p1 : Int32} {p2 : Int32} {res : Int32} (h : fM_counts F G S p1 p2 = some res) : Ek X (D) mM_counts 0 [(0, .ref 78), (1, .int p1), (2, .int p2)] [] S (some (.int res)) S := by
  unfold fM_counts at h
  refine x_aload_n d_M_counts_0 rfl 0 rfl ?_
  refine y_getR d_M_counts_1 fl_11_123 rfl kd_78 rr_78_71 ?_
  refine x_iload_n d_M_counts_4 rfl 1 rfl ?_
  obtain ⟨g1, h⟩ := gd_inv h
  refine y_iald d_M_counts_5 kd_110 g1 ?_
  refine x_iload_n d_M_counts_6 rfl 2 rfl ?_
  refine x_icmp_gt (tgt := 33) d_M_counts_7 rfl (fun c2 => ?_) (fun c2 => ?_)
  · replace h := ite_t c2 h
    refine x_iconst d_M_counts_33 ic_0 ?_
    obtain rfl := Option.some.inj h
    exact x_ret (r := some (.int (0 : Int32))) d_M_counts_34 ⟨_, rfl, rfl⟩
  · replace h := ite_f c2 h
    refine x_aload_n d_M_counts_10 rfl 0 rfl ?_
    refine y_getR d_M_counts_11 fl_11_126 rfl kd_78 rr_78_72 ?_
    refine x_iload_n d_M_counts_14 rfl 1 rfl ?_
    obtain ⟨g3, h⟩ := gd_inv h
    refine y_iald d_M_counts_15 kd_111 g3 ?_
    refine x_if_lt (tgt := 29) d_M_counts_16 rfl (fun c4 => ?_) (fun c4 => ?_)
    · replace h := ite_t c4 h
      refine x_iconst d_M_counts_29 ic_1 ?_
      refine x_goto (tgt := 34) d_M_counts_30 rfl ?_
      obtain rfl := Option.some.inj h
      exact x_ret (r := some (.int (1 : Int32))) d_M_counts_34 ⟨_, rfl, rfl⟩
    · replace h := ite_f c4 h
      refine x_aload_n d_M_counts_19 rfl 0 rfl ?_
      refine y_getR d_M_counts_20 fl_11_126 rfl kd_78 rr_78_72 ?_
      refine x_iload_n d_M_counts_23 rfl 1 rfl ?_
      obtain ⟨g5, h⟩ := gd_inv h
      refine y_iald d_M_counts_24 kd_111 g5 ?_
      refine x_iload_n d_M_counts_25 rfl 2 rfl ?_
      refine x_icmp_le (tgt := 33) d_M_counts_26 rfl (fun c6 => ?_) (fun c6 => ?_)
      · replace h := ite_t c6 h
        refine x_iconst d_M_counts_33 ic_0 ?_
        obtain rfl := Option.some.inj h
        exact x_ret (r := some (.int (0 : Int32))) d_M_counts_34 ⟨_, rfl, rfl⟩
      · replace h := ite_f c6 h
        refine x_iconst d_M_counts_29 ic_1 ?_
        refine x_goto (tgt := 34) d_M_counts_30 rfl ?_
        obtain rfl := Option.some.inj h
        exact x_ret (r := some (.int (1 : Int32))) d_M_counts_34 ⟨_, rfl, rfl⟩
/-! NinetyPlayersModel.laySets -/
def b_M_laySets_4 (F G : Nat) (z1 : Int32) (z2 : Int32) (k29 : St → Option (Int32 × St)) (rec : Int32 → St → Option (Int32 × St)) (w3 : Int32) (S : St) : Option (Int32 × St) :=
  if (S.1 78 74) ≤ w3 then k29 S else bd (fM_sayersOf F G S w3) fun v3 => gd (inB w3 30) (lt (sI S 113 w3.toNatClampNeg v3) fun S5 => lt (w3 + 1) fun v7 => rec v7 S5)
def b_M_laySets_31 (F G : Nat) (z1 : Int32) (z2 : Int32) (k50 : St → Option (Int32 × St)) (rec : Int32 → St → Option (Int32 × St)) (w3 : Int32) (S : St) : Option (Int32 × St) :=
  if (10 : Int32) ≤ w3 then k50 S else gd (inB w3 10) (lt (sI S 114 w3.toNatClampNeg (0 : Int32)) fun S12 => lt (w3 + 1) fun v14 => rec v14 S12)
def j_M_laySets_109 (F G : Nat) (S : St) (z1 : Int32) (z2 : Int32) (z3 : Int32) (k132 : Int32 → Option (Int32 × St)) (rec : Int32 → Int32 → Option (Int32 × St)) (_ : St) (y5 : Int32) (s0 : Int32) : Option (Int32 × St) :=
  gd (inB y5 30) (if s0 = (S.1 112 y5.toNatClampNeg) then lt (y5 + 1) fun v31 => rec (1 : Int32) v31 else lt (y5 + 1) fun v29 => rec (0 : Int32) v29)
def b_M_laySets_68 (F G : Nat) (S : St) (z1 : Int32) (z2 : Int32) (z3 : Int32) (k132 : Int32 → Option (Int32 × St)) (rec : Int32 → Int32 → Option (Int32 × St)) (w4 : Int32) (w5 : Int32) : Option (Int32 × St) :=
  if (S.1 78 74) ≤ w5 then k132 w4 else if w4 = 0 then k132 w4 else bd (fM_counts F G S w5 z1) fun v21 => if v21 = 0 then lt (w5 + 1) fun v23 => rec (1 : Int32) v23 else gd (inB w5 30) (if (z3 &&& (S.1 113 w5.toNatClampNeg)) = 0 then j_M_laySets_109 F G S z1 z2 z3 k132 rec  S w5 (0 : Int32) else j_M_laySets_109 F G S z1 z2 z3 k132 rec  S w5 (1 : Int32))
def b_M_laySets_146 (F G : Nat) (z1 : Int32) (z2 : Int32) (z3 : Int32) (k177 : St → Option (Int32 × St)) (rec : Int32 → St → Option (Int32 × St)) (w5 : Int32) (S : St) : Option (Int32 × St) :=
  if (S.1 78 48) ≤ w5 then k177 S else gd (inB w5 10) (gd (inB w5 10) (lt (sI S 114 w5.toNatClampNeg ((S.1 114 w5.toNatClampNeg) + ((z3 >>> (w5 &&& 31)) &&& (1 : Int32)))) fun S40 => lt (w5 + 1) fun v42 => rec v42 S40))
def j_M_laySets_132 (F G : Nat) (z1 : Int32) (rec : Int32 → Int32 → St → Option (Int32 × St)) (S : St) (y2 : Int32) (y3 : Int32) (y4 : Int32) : Option (Int32 × St) :=
  if y4 = 0 then lt (y3 + 1) fun v47 => rec y2 v47 S else lt (y2 + 1) fun v35 => fx2 (b_M_laySets_146 F G z1 v35 y3 (fun S44 => lt (y3 + 1) fun v45 => rec v35 v45 S44)) F (0 : Int32) S
def b_M_laySets_52 (F G : Nat) (z1 : Int32) (rec : Int32 → Int32 → St → Option (Int32 × St)) (w2 : Int32) (w3 : Int32) (S : St) : Option (Int32 × St) :=
  if ((1 : Int32) <<< ((S.1 78 48) &&& 31)) ≤ w3 then some (w2, S) else fx2 (b_M_laySets_68 F G S z1 w2 w3 (fun v33 => j_M_laySets_132 F G z1 rec  S w2 w3 v33)) F (1 : Int32) (0 : Int32)
def fM_laySets (F G : Nat) (S : St) (p1 : Int32) : Option (Int32 × St) :=
  fx2 (b_M_laySets_4 F G p1 (0 : Int32) (fun S9 => fx2 (b_M_laySets_31 F G p1 (0 : Int32) (fun S16 => fx3 (b_M_laySets_52 F G p1) F (0 : Int32) (0 : Int32) S16)) F (0 : Int32) S9)) F (0 : Int32) S
set_option maxRecDepth 100000 in
set_option maxHeartbeats 4000000 in
theorem T_M_laySets_4 {X : Nat × (Nat → Int32)} {D F G : Nat} (hD : 2 ≤ D + 1) {z1 : Int32} {z2 : Int32} {k29 : St → Option (Int32 × St)} (hk29 : ∀ (S1 : St) (res : Int32 × St), k29 S1 = some res → Ek X (D + 1) mM_laySets 29 [(0, .ref 78), (1, .int z1), (2, .int z2)] [] S1 (some (.int res.1)) res.2) : ∀ (f : Nat) (w3 : Int32) (S : St) (res : Int32 × St), fx2 (b_M_laySets_4 F G z1 z2 k29 ) f w3 S = some res → Ek X (D + 1) mM_laySets 4 [(0, .ref 78), (1, .int z1), (2, .int z2), (3, .int w3)] [] S (some (.int res.1)) res.2 := by
  refine fx2_ind ?_
  intro rec ih w3 S res h
  unfold b_M_laySets_4 at h
  refine x_iload_n d_M_laySets_4 rfl 3 rfl ?_
  refine x_aload_n d_M_laySets_5 rfl 0 rfl ?_
  refine y_getI d_M_laySets_6 fl_11_423 rfl kd_78 ?_
  refine x_icmp_ge (tgt := 29) d_M_laySets_9 rfl (fun c1 => ?_) (fun c1 => ?_)
  · replace h := ite_t c1 h
    refine y_pick (L1 := [(0, .ref 78), (1, .int z1), (2, .int z2)]) [0, 1, 2] rfl ?_
    exact hk29 S _ h
  · replace h := ite_f c1 h
    refine x_aload_n d_M_laySets_12 rfl 0 rfl ?_
    refine y_getR d_M_laySets_13 fl_11_133 rfl kd_78 rr_78_76 ?_
    refine x_iload_n d_M_laySets_16 rfl 3 rfl ?_
    refine x_aload_n d_M_laySets_17 rfl 0 rfl ?_
    refine x_iload_n d_M_laySets_18 rfl 3 rfl ?_
    obtain ⟨v3, q2, h⟩ := bd_inv h
    refine y_V1i (v := v3) (S1 := S) d_M_laySets_19 ml_11_543 kd_78 rfl (Nat.le_of_ble_eq_true rfl) (Nat.le_of_ble_eq_true rfl) (c_M_sayersOf (by omega) q2) ?_
    obtain ⟨g4, h⟩ := gd_inv h
    obtain ⟨S5, e6, h⟩ := lt_inv h
    refine y_iast e6 d_M_laySets_22 kd_113 g4 ?_
    obtain ⟨v7, e8, h⟩ := lt_inv h
    refine y_iinc (L1 := [(0, .ref 78), (1, .int z1), (2, .int z2), (3, .int v7)]) e8 ic_1 d_M_laySets_23 3 rfl (Nat.le_of_ble_eq_true rfl) rfl rfl ?_
    refine x_goto (tgt := 4) d_M_laySets_26 rfl ?_
    exact ih v7 S5 _ h
set_option maxRecDepth 100000 in
set_option maxHeartbeats 4000000 in
theorem T_M_laySets_31 {X : Nat × (Nat → Int32)} {D F G : Nat} (hD : 2 ≤ D + 1) {z1 : Int32} {z2 : Int32} {k50 : St → Option (Int32 × St)} (hk50 : ∀ (S1 : St) (res : Int32 × St), k50 S1 = some res → Ek X (D + 1) mM_laySets 50 [(0, .ref 78), (1, .int z1), (2, .int z2)] [] S1 (some (.int res.1)) res.2) : ∀ (f : Nat) (w3 : Int32) (S : St) (res : Int32 × St), fx2 (b_M_laySets_31 F G z1 z2 k50 ) f w3 S = some res → Ek X (D + 1) mM_laySets 31 [(0, .ref 78), (1, .int z1), (2, .int z2), (3, .int w3)] [] S (some (.int res.1)) res.2 := by
  refine fx2_ind ?_
  intro rec ih w3 S res h
  unfold b_M_laySets_31 at h
  refine x_iload_n d_M_laySets_31 rfl 3 rfl ?_
  refine x_bipush d_M_laySets_32 bp_10 ?_
  refine x_icmp_ge (tgt := 50) d_M_laySets_34 rfl (fun c10 => ?_) (fun c10 => ?_)
  · replace h := ite_t c10 h
    refine y_pick (L1 := [(0, .ref 78), (1, .int z1), (2, .int z2)]) [0, 1, 2] rfl ?_
    exact hk50 S _ h
  · replace h := ite_f c10 h
    refine x_aload_n d_M_laySets_37 rfl 0 rfl ?_
    refine y_getR d_M_laySets_38 fl_11_136 rfl kd_78 rr_78_77 ?_
    refine x_iload_n d_M_laySets_41 rfl 3 rfl ?_
    refine x_iconst d_M_laySets_42 ic_0 ?_
    obtain ⟨g11, h⟩ := gd_inv h
    obtain ⟨S12, e13, h⟩ := lt_inv h
    refine y_iast e13 d_M_laySets_43 kd_114 g11 ?_
    obtain ⟨v14, e15, h⟩ := lt_inv h
    refine y_iinc (L1 := [(0, .ref 78), (1, .int z1), (2, .int z2), (3, .int v14)]) e15 ic_1 d_M_laySets_44 3 rfl (Nat.le_of_ble_eq_true rfl) rfl rfl ?_
    refine x_goto (tgt := 31) d_M_laySets_47 rfl ?_
    exact ih v14 S12 _ h
set_option maxRecDepth 100000 in
set_option maxHeartbeats 4000000 in
theorem T_M_laySets_68 {X : Nat × (Nat → Int32)} {D F G : Nat} (hD : 2 ≤ D + 1) {S : St} {z1 : Int32} {z2 : Int32} {z3 : Int32} {k132 : Int32 → Option (Int32 × St)} (hk132 : ∀ (u4 : Int32) (res : Int32 × St), k132 u4 = some res → Ek X (D + 1) mM_laySets 132 [(0, .ref 78), (1, .int z1), (2, .int z2), (3, .int z3), (4, .int u4)] [] S (some (.int res.1)) res.2) : ∀ (f : Nat) (w4 : Int32) (w5 : Int32) (res : Int32 × St), fx2 (b_M_laySets_68 F G S z1 z2 z3 k132 ) f w4 w5 = some res → Ek X (D + 1) mM_laySets 68 [(0, .ref 78), (1, .int z1), (2, .int z2), (3, .int z3), (4, .int w4), (5, .int w5)] [] S (some (.int res.1)) res.2 := by
  refine fx2_ind ?_
  intro rec ih w4 w5 res h
  unfold b_M_laySets_68 at h
  have J109 : ∀ (y5 : Int32) (s0 : Int32) (res : Int32 × St), j_M_laySets_109 F G S z1 z2 z3 k132 rec S y5 s0 = some res → Ek X (D + 1) mM_laySets 109 [(0, .ref 78), (1, .int z1), (2, .int z2), (3, .int z3), (5, .int y5)] [.int s0] S (some (.int res.1)) res.2 := by
    intro y5 s0 res h
    unfold j_M_laySets_109 at h
    refine x_aload_n d_M_laySets_109 rfl 0 rfl ?_
    refine y_getR d_M_laySets_110 fl_11_129 rfl kd_78 rr_78_73 ?_
    refine x_iload d_M_laySets_113 4 rfl ?_
    obtain ⟨g27, h⟩ := gd_inv h
    refine y_zald d_M_laySets_115 kd_112 g27 ?_
    refine x_icmp_ne (tgt := 123) d_M_laySets_116 rfl (fun c28 => ?_) (fun c28 => ?_)
    · replace h := ite_f c28 h
      refine x_iconst d_M_laySets_123 ic_0 ?_
      refine x_istore (L1 := [(0, .ref 78), (1, .int z1), (2, .int z2), (3, .int z3), (4, .int (0 : Int32)), (5, .int y5)]) d_M_laySets_124 (Nat.le_of_ble_eq_true rfl) rfl rfl ?_
      obtain ⟨v29, e30, h⟩ := lt_inv h
      refine y_iinc (L1 := [(0, .ref 78), (1, .int z1), (2, .int z2), (3, .int z3), (4, .int (0 : Int32)), (5, .int v29)]) e30 ic_1 d_M_laySets_126 5 rfl (Nat.le_of_ble_eq_true rfl) rfl rfl ?_
      refine x_goto (tgt := 68) d_M_laySets_129 rfl ?_
      exact ih (0 : Int32) v29 _ h
    · replace h := ite_t c28 h
      refine x_iconst d_M_laySets_119 ic_1 ?_
      refine x_goto (tgt := 124) d_M_laySets_120 rfl ?_
      refine x_istore (L1 := [(0, .ref 78), (1, .int z1), (2, .int z2), (3, .int z3), (4, .int (1 : Int32)), (5, .int y5)]) d_M_laySets_124 (Nat.le_of_ble_eq_true rfl) rfl rfl ?_
      obtain ⟨v31, e32, h⟩ := lt_inv h
      refine y_iinc (L1 := [(0, .ref 78), (1, .int z1), (2, .int z2), (3, .int z3), (4, .int (1 : Int32)), (5, .int v31)]) e32 ic_1 d_M_laySets_126 5 rfl (Nat.le_of_ble_eq_true rfl) rfl rfl ?_
      refine x_goto (tgt := 68) d_M_laySets_129 rfl ?_
      exact ih (1 : Int32) v31 _ h
  refine x_iload d_M_laySets_68 5 rfl ?_
  refine x_aload_n d_M_laySets_70 rfl 0 rfl ?_
  refine y_getI d_M_laySets_71 fl_11_423 rfl kd_78 ?_
  refine x_icmp_ge (tgt := 132) d_M_laySets_74 rfl (fun c18 => ?_) (fun c18 => ?_)
  · replace h := ite_t c18 h
    refine y_pick (L1 := [(0, .ref 78), (1, .int z1), (2, .int z2), (3, .int z3), (4, .int w4)]) [0, 1, 2, 3, 4] rfl ?_
    exact hk132 w4 _ h
  · replace h := ite_f c18 h
    refine x_iload d_M_laySets_77 4 rfl ?_
    refine x_if_eq (tgt := 132) d_M_laySets_79 rfl (fun c19 => ?_) (fun c19 => ?_)
    · replace h := ite_t c19 h
      refine y_pick (L1 := [(0, .ref 78), (1, .int z1), (2, .int z2), (3, .int z3), (4, .int w4)]) [0, 1, 2, 3, 4] rfl ?_
      exact hk132 w4 _ h
    · replace h := ite_f c19 h
      refine x_aload_n d_M_laySets_82 rfl 0 rfl ?_
      refine x_iload d_M_laySets_83 5 rfl ?_
      refine x_iload_n d_M_laySets_85 rfl 1 rfl ?_
      obtain ⟨v21, q20, h⟩ := bd_inv h
      refine y_V2i (v := v21) (S1 := S) d_M_laySets_86 ml_11_546 kd_78 rfl (Nat.le_of_ble_eq_true rfl) (Nat.le_of_ble_eq_true rfl) (c_M_counts (by omega) q20) ?_
      refine x_if_eq (tgt := 119) d_M_laySets_89 rfl (fun c22 => ?_) (fun c22 => ?_)
      · replace h := ite_t c22 h
        refine x_iconst d_M_laySets_119 ic_1 ?_
        refine x_goto (tgt := 124) d_M_laySets_120 rfl ?_
        refine x_istore (L1 := [(0, .ref 78), (1, .int z1), (2, .int z2), (3, .int z3), (4, .int (1 : Int32)), (5, .int w5)]) d_M_laySets_124 (Nat.le_of_ble_eq_true rfl) rfl rfl ?_
        obtain ⟨v23, e24, h⟩ := lt_inv h
        refine y_iinc (L1 := [(0, .ref 78), (1, .int z1), (2, .int z2), (3, .int z3), (4, .int (1 : Int32)), (5, .int v23)]) e24 ic_1 d_M_laySets_126 5 rfl (Nat.le_of_ble_eq_true rfl) rfl rfl ?_
        refine x_goto (tgt := 68) d_M_laySets_129 rfl ?_
        exact ih (1 : Int32) v23 _ h
      · replace h := ite_f c22 h
        refine x_iload_n d_M_laySets_92 rfl 3 rfl ?_
        refine x_aload_n d_M_laySets_93 rfl 0 rfl ?_
        refine y_getR d_M_laySets_94 fl_11_133 rfl kd_78 rr_78_76 ?_
        refine x_iload d_M_laySets_97 5 rfl ?_
        obtain ⟨g25, h⟩ := gd_inv h
        refine y_iald d_M_laySets_99 kd_113 g25 ?_
        refine x_iand d_M_laySets_100 ?_
        refine x_if_eq (tgt := 108) d_M_laySets_101 rfl (fun c26 => ?_) (fun c26 => ?_)
        · replace h := ite_t c26 h
          refine x_iconst d_M_laySets_108 ic_0 ?_
          refine y_pick (L1 := [(0, .ref 78), (1, .int z1), (2, .int z2), (3, .int z3), (5, .int w5)]) [0, 1, 2, 3, 5] rfl ?_
          exact J109 w5 (0 : Int32) _ h
        · replace h := ite_f c26 h
          refine x_iconst d_M_laySets_104 ic_1 ?_
          refine x_goto (tgt := 109) d_M_laySets_105 rfl ?_
          refine y_pick (L1 := [(0, .ref 78), (1, .int z1), (2, .int z2), (3, .int z3), (5, .int w5)]) [0, 1, 2, 3, 5] rfl ?_
          exact J109 w5 (1 : Int32) _ h
set_option maxRecDepth 100000 in
set_option maxHeartbeats 4000000 in
theorem T_M_laySets_146 {X : Nat × (Nat → Int32)} {D F G : Nat} (hD : 2 ≤ D + 1) {z1 : Int32} {z2 : Int32} {z3 : Int32} {k177 : St → Option (Int32 × St)} (hk177 : ∀ (S1 : St) (res : Int32 × St), k177 S1 = some res → Ek X (D + 1) mM_laySets 177 [(0, .ref 78), (1, .int z1), (2, .int z2), (3, .int z3)] [] S1 (some (.int res.1)) res.2) : ∀ (f : Nat) (w5 : Int32) (S : St) (res : Int32 × St), fx2 (b_M_laySets_146 F G z1 z2 z3 k177 ) f w5 S = some res → Ek X (D + 1) mM_laySets 146 [(0, .ref 78), (1, .int z1), (2, .int z2), (3, .int z3), (5, .int w5)] [] S (some (.int res.1)) res.2 := by
  refine fx2_ind ?_
  intro rec ih w5 S res h
  unfold b_M_laySets_146 at h
  refine x_iload d_M_laySets_146 4 rfl ?_
  refine x_aload_n d_M_laySets_148 rfl 0 rfl ?_
  refine y_getI d_M_laySets_149 fl_11_322 rfl kd_78 ?_
  refine x_icmp_ge (tgt := 177) d_M_laySets_152 rfl (fun c37 => ?_) (fun c37 => ?_)
  · replace h := ite_t c37 h
    refine y_pick (L1 := [(0, .ref 78), (1, .int z1), (2, .int z2), (3, .int z3)]) [0, 1, 2, 3] rfl ?_
    exact hk177 S _ h
  · replace h := ite_f c37 h
    refine x_aload_n d_M_laySets_155 rfl 0 rfl ?_
    refine y_getR d_M_laySets_156 fl_11_136 rfl kd_78 rr_78_77 ?_
    refine x_iload d_M_laySets_159 4 rfl ?_
    refine x_dup2 d_M_laySets_161 rfl rfl ?_
    obtain ⟨g38, h⟩ := gd_inv h
    refine y_iald d_M_laySets_162 kd_114 g38 ?_
    refine x_iload_n d_M_laySets_163 rfl 3 rfl ?_
    refine x_iload d_M_laySets_164 4 rfl ?_
    refine x_ishr d_M_laySets_166 ?_
    refine x_iconst d_M_laySets_167 ic_1 ?_
    refine x_iand d_M_laySets_168 ?_
    refine x_iadd d_M_laySets_169 ?_
    obtain ⟨g39, h⟩ := gd_inv h
    obtain ⟨S40, e41, h⟩ := lt_inv h
    refine y_iast e41 d_M_laySets_170 kd_114 g39 ?_
    obtain ⟨v42, e43, h⟩ := lt_inv h
    refine y_iinc (L1 := [(0, .ref 78), (1, .int z1), (2, .int z2), (3, .int z3), (5, .int v42)]) e43 ic_1 d_M_laySets_171 4 rfl (Nat.le_of_ble_eq_true rfl) rfl rfl ?_
    refine x_goto (tgt := 146) d_M_laySets_174 rfl ?_
    exact ih v42 S40 _ h
set_option maxRecDepth 100000 in
set_option maxHeartbeats 4000000 in
theorem T_M_laySets_52 {X : Nat × (Nat → Int32)} {D F G : Nat} (hD : 2 ≤ D + 1) {z1 : Int32} : ∀ (f : Nat) (w2 : Int32) (w3 : Int32) (S : St) (res : Int32 × St), fx3 (b_M_laySets_52 F G z1 ) f w2 w3 S = some res → Ek X (D + 1) mM_laySets 52 [(0, .ref 78), (1, .int z1), (2, .int w2), (3, .int w3)] [] S (some (.int res.1)) res.2 := by
  refine fx3_ind ?_
  intro rec ih w2 w3 S res h
  unfold b_M_laySets_52 at h
  have J132 : ∀ (S : St) (y2 : Int32) (y3 : Int32) (y4 : Int32) (res : Int32 × St), j_M_laySets_132 F G z1 rec S y2 y3 y4 = some res → Ek X (D + 1) mM_laySets 132 [(0, .ref 78), (1, .int z1), (2, .int y2), (3, .int y3), (4, .int y4)] [] S (some (.int res.1)) res.2 := by
    intro S y2 y3 y4 res h
    unfold j_M_laySets_132 at h
    refine x_iload d_M_laySets_132 4 rfl ?_
    refine x_if_ne (tgt := 140) d_M_laySets_134 rfl (fun c34 => ?_) (fun c34 => ?_)
    · replace h := ite_f c34 h
      obtain ⟨v35, e36, h⟩ := lt_inv h
      refine y_iinc (L1 := [(0, .ref 78), (1, .int z1), (2, .int v35), (3, .int y3), (4, .int y4)]) e36 ic_1 d_M_laySets_140 2 rfl (Nat.le_of_ble_eq_true rfl) rfl rfl ?_
      refine x_iconst d_M_laySets_143 ic_0 ?_
      refine x_istore (L1 := [(0, .ref 78), (1, .int z1), (2, .int v35), (3, .int y3), (4, .int y4), (5, .int (0 : Int32))]) d_M_laySets_144 (Nat.le_of_ble_eq_true rfl) rfl rfl ?_
      refine y_pick (L1 := [(0, .ref 78), (1, .int z1), (2, .int v35), (3, .int y3), (5, .int (0 : Int32))]) [0, 1, 2, 3, 5] rfl ?_
      refine T_M_laySets_146 (by omega)  ?_ F (0 : Int32) S _ h
      · intro S44 res h
        obtain ⟨v45, e46, h⟩ := lt_inv h
        refine y_iinc (L1 := [(0, .ref 78), (1, .int z1), (2, .int v35), (3, .int v45)]) e46 ic_1 d_M_laySets_177 3 rfl (Nat.le_of_ble_eq_true rfl) rfl rfl ?_
        refine x_goto (tgt := 52) d_M_laySets_180 rfl ?_
        exact ih v35 v45 S44 _ h
    · replace h := ite_t c34 h
      refine x_goto (tgt := 177) d_M_laySets_137 rfl ?_
      obtain ⟨v47, e48, h⟩ := lt_inv h
      refine y_iinc (L1 := [(0, .ref 78), (1, .int z1), (2, .int y2), (3, .int v47), (4, .int y4)]) e48 ic_1 d_M_laySets_177 3 rfl (Nat.le_of_ble_eq_true rfl) rfl rfl ?_
      refine x_goto (tgt := 52) d_M_laySets_180 rfl ?_
      refine y_pick (L1 := [(0, .ref 78), (1, .int z1), (2, .int y2), (3, .int v47)]) [0, 1, 2, 3] rfl ?_
      exact ih y2 v47 S _ h
  refine x_iload_n d_M_laySets_52 rfl 3 rfl ?_
  refine x_iconst d_M_laySets_53 ic_1 ?_
  refine x_aload_n d_M_laySets_54 rfl 0 rfl ?_
  refine y_getI d_M_laySets_55 fl_11_322 rfl kd_78 ?_
  refine x_ishl d_M_laySets_58 ?_
  refine x_icmp_ge (tgt := 183) d_M_laySets_59 rfl (fun c17 => ?_) (fun c17 => ?_)
  · replace h := ite_t c17 h
    refine x_iload_n d_M_laySets_183 rfl 2 rfl ?_
    obtain rfl := Option.some.inj h
    exact x_ret (r := some (.int w2)) d_M_laySets_184 ⟨_, rfl, rfl⟩
  · replace h := ite_f c17 h
    refine x_iconst d_M_laySets_62 ic_1 ?_
    refine x_istore (L1 := [(0, .ref 78), (1, .int z1), (2, .int w2), (3, .int w3), (4, .int (1 : Int32))]) d_M_laySets_63 (Nat.le_of_ble_eq_true rfl) rfl rfl ?_
    refine x_iconst d_M_laySets_65 ic_0 ?_
    refine x_istore (L1 := [(0, .ref 78), (1, .int z1), (2, .int w2), (3, .int w3), (4, .int (1 : Int32)), (5, .int (0 : Int32))]) d_M_laySets_66 (Nat.le_of_ble_eq_true rfl) rfl rfl ?_
    refine T_M_laySets_68 (by omega)  ?_ F (1 : Int32) (0 : Int32) _ h
    · intro v33 res h
      exact J132 S w2 w3 v33 _ h
set_option maxRecDepth 100000 in
set_option maxHeartbeats 4000000 in
theorem c_M_laySets {X : Nat × (Nat → Int32)} {D F G : Nat} (hD : 2 ≤ D) {S : St} {p1 : Int32} {res : Int32 × St} (h : fM_laySets F G S p1 = some res) : Ek X (D) mM_laySets 0 [(0, .ref 78), (1, .int p1)] [] S (some (.int res.1)) res.2 := by
  obtain ⟨D, rfl⟩ : ∃ E, D = E + 1 := ⟨D - 1, by omega⟩
  unfold fM_laySets at h
  refine x_iconst d_M_laySets_0 ic_0 ?_
  refine x_istore_n (L1 := [(0, .ref 78), (1, .int p1), (2, .int (0 : Int32))]) d_M_laySets_1 rfl (Nat.le_of_ble_eq_true rfl) rfl rfl ?_
  refine x_iconst d_M_laySets_2 ic_0 ?_
  refine x_istore_n (L1 := [(0, .ref 78), (1, .int p1), (2, .int (0 : Int32)), (3, .int (0 : Int32))]) d_M_laySets_3 rfl (Nat.le_of_ble_eq_true rfl) rfl rfl ?_
  refine T_M_laySets_4 (by omega)  ?_ F (0 : Int32) S _ h
  · intro S9 res h
    refine x_iconst d_M_laySets_29 ic_0 ?_
    refine x_istore_n (L1 := [(0, .ref 78), (1, .int p1), (2, .int (0 : Int32)), (3, .int (0 : Int32))]) d_M_laySets_30 rfl (Nat.le_of_ble_eq_true rfl) rfl rfl ?_
    refine T_M_laySets_31 (by omega)  ?_ F (0 : Int32) S9 _ h
    · intro S16 res h
      refine x_iconst d_M_laySets_50 ic_0 ?_
      refine x_istore_n (L1 := [(0, .ref 78), (1, .int p1), (2, .int (0 : Int32)), (3, .int (0 : Int32))]) d_M_laySets_51 rfl (Nat.le_of_ble_eq_true rfl) rfl rfl ?_
      refine T_M_laySets_52 (by omega)   F (0 : Int32) (0 : Int32) S16 _ h
/-! NinetyPlayersModel.sets -/
def fM_sets (F G : Nat) (S : St) (p1 : Int32) : Option (Int32 × St) :=
  bd2 (fM_laySets F G S p1) fun v2 S3 => some (v2, S3)
set_option maxRecDepth 100000 in
set_option maxHeartbeats 4000000 in
theorem c_M_sets {X : Nat × (Nat → Int32)} {D F G : Nat} (hD : 3 ≤ D) {S : St} {p1 : Int32} {res : Int32 × St} (h : fM_sets F G S p1 = some res) : Ek X (D) mM_sets 0 [(0, .ref 78), (1, .int p1)] [] S (some (.int res.1)) res.2 := by
  obtain ⟨D, rfl⟩ : ∃ E, D = E + 1 := ⟨D - 1, by omega⟩
  unfold fM_sets at h
  refine x_aload_n d_M_sets_0 rfl 0 rfl ?_
  refine x_iload_n d_M_sets_1 rfl 1 rfl ?_
  obtain ⟨v2, S3, q1, h⟩ := bd2_inv h
  refine y_V1i (v := v2) (S1 := S3) d_M_sets_2 ml_11_550 kd_78 rfl (Nat.le_of_ble_eq_true rfl) (Nat.le_of_ble_eq_true rfl) (c_M_laySets (by omega) q1) ?_
  obtain rfl := Option.some.inj h
  exact x_ret (r := some (.int v2)) d_M_sets_5 ⟨_, rfl, rfl⟩
/-! NinetyPlayers.sure -/
def fN_sure (F G : Nat) (S : St) (p1 : Int32) (p2 : Int32) : Option (Int32 × St) :=
  bd (fN_isNote F G S p1) fun v2 => if v2 = 0 then some ((-1 : Int32), S) else gd (isSc S.2.2.1) (bd (fI_count F G S S.2.2.1 p2) fun S6 => if (S6.1 69 2) = 0 then some ((-1 : Int32), S6) else gd (inB p1 10) (lt (S6.1 70 p1.toNatClampNeg) fun v9 => if v9 = (S6.1 69 2) then some ((1 : Int32), S6) else if v9 = 0 then some ((0 : Int32), S6) else some ((-2 : Int32), S6)))
set_option maxRecDepth 100000 in
set_option maxHeartbeats 4000000 in
theorem c_N_sure {X : Nat × (Nat → Int32)} {D F G : Nat} (hD : 3 ≤ D) {S : St} {p1 : Int32} {p2 : Int32} {res : Int32 × St} (h : fN_sure F G S p1 p2 = some res) : Ek X (D) mN_sure 0 [(0, .ref 0), (1, .int p1), (2, .int p2)] [] S (some (.int res.1)) res.2 := by
  obtain ⟨D, rfl⟩ : ∃ E, D = E + 1 := ⟨D - 1, by omega⟩
  unfold fN_sure at h
  refine x_aload_n d_N_sure_0 rfl 0 rfl ?_
  refine x_iload_n d_N_sure_1 rfl 1 rfl ?_
  obtain ⟨v2, q1, h⟩ := bd_inv h
  refine y_V1i (v := v2) (S1 := S) d_N_sure_2 ml_0_126 kd_0 rfl (Nat.le_of_ble_eq_true rfl) (Nat.le_of_ble_eq_true rfl) (c_N_isNote (by omega) q1) ?_
  refine x_if_ne (tgt := 10) d_N_sure_5 rfl (fun c3 => ?_) (fun c3 => ?_)
  · replace h := ite_f c3 h
    refine x_aload_n d_N_sure_10 rfl 0 rfl ?_
    refine y_getR d_N_sure_11 fl_0_79 rfl kd_0 rr_0_11 ?_
    refine x_aload_n d_N_sure_14 rfl 0 rfl ?_
    refine y_getR d_N_sure_15 fl_0_25 rfl kd_0 rr_told ?_
    obtain ⟨g4, h⟩ := gd_inv h
    refine x_iload_n d_N_sure_18 rfl 2 rfl ?_
    obtain ⟨S6, q5, h⟩ := bd_inv h
    refine y_V2v (S1 := S6) d_N_sure_19 ml_0_326 kd_69 rfl (Nat.le_of_ble_eq_true rfl) (Nat.le_of_ble_eq_true rfl) (c_I_count (by omega) q5) ?_
    refine x_aload_n d_N_sure_22 rfl 0 rfl ?_
    refine y_getR d_N_sure_23 fl_0_79 rfl kd_0 rr_0_11 ?_
    refine y_getI d_N_sure_26 fl_0_330 rfl kd_69 ?_
    refine x_if_ne (tgt := 34) d_N_sure_29 rfl (fun c7 => ?_) (fun c7 => ?_)
    · replace h := ite_f c7 h
      refine x_aload_n d_N_sure_34 rfl 0 rfl ?_
      refine y_getR d_N_sure_35 fl_0_79 rfl kd_0 rr_0_11 ?_
      refine y_getR d_N_sure_38 fl_0_333 rfl kd_69 rr_69_3 ?_
      refine x_iload_n d_N_sure_41 rfl 1 rfl ?_
      obtain ⟨g8, h⟩ := gd_inv h
      refine y_iald d_N_sure_42 kd_70 g8 ?_
      obtain ⟨v9, e10, h⟩ := lt_inv h
      refine y_istore_n (L1 := [(0, .ref 0), (1, .int p1), (2, .int p2), (3, .int v9)]) e10 d_N_sure_43 rfl (Nat.le_of_ble_eq_true rfl) rfl rfl ?_
      refine x_iload_n d_N_sure_44 rfl 3 rfl ?_
      refine x_aload_n d_N_sure_45 rfl 0 rfl ?_
      refine y_getR d_N_sure_46 fl_0_79 rfl kd_0 rr_0_11 ?_
      refine y_getI d_N_sure_49 fl_0_330 rfl kd_69 ?_
      refine x_icmp_ne (tgt := 57) d_N_sure_52 rfl (fun c11 => ?_) (fun c11 => ?_)
      · replace h := ite_f c11 h
        refine x_iload_n d_N_sure_57 rfl 3 rfl ?_
        refine x_if_ne (tgt := 65) d_N_sure_58 rfl (fun c12 => ?_) (fun c12 => ?_)
        · replace h := ite_f c12 h
          refine x_bipush d_N_sure_65 bp_m2 ?_
          obtain rfl := Option.some.inj h
          exact x_ret (r := some (.int (-2 : Int32))) d_N_sure_67 ⟨_, rfl, rfl⟩
        · replace h := ite_t c12 h
          refine x_iconst d_N_sure_61 ic_0 ?_
          refine x_goto (tgt := 67) d_N_sure_62 rfl ?_
          obtain rfl := Option.some.inj h
          exact x_ret (r := some (.int (0 : Int32))) d_N_sure_67 ⟨_, rfl, rfl⟩
      · replace h := ite_t c11 h
        refine x_iconst d_N_sure_55 ic_1 ?_
        obtain rfl := Option.some.inj h
        exact x_ret (r := some (.int (1 : Int32))) d_N_sure_56 ⟨_, rfl, rfl⟩
    · replace h := ite_t c7 h
      refine x_iconst d_N_sure_32 ic_m1 ?_
      obtain rfl := Option.some.inj h
      exact x_ret (r := some (.int (-1 : Int32))) d_N_sure_33 ⟨_, rfl, rfl⟩
  · replace h := ite_t c3 h
    refine x_iconst d_N_sure_8 ic_m1 ?_
    obtain rfl := Option.some.inj h
    exact x_ret (r := some (.int (-1 : Int32))) d_N_sure_9 ⟨_, rfl, rfl⟩
/-! NinetyPlayersModel.sure -/
def fM_sure (F G : Nat) (S : St) (p1 : Int32) (p2 : Int32) : Option (Int32 × St) :=
  bd (fM_isNote F G S p1) fun v2 => if v2 = 0 then some ((-1 : Int32), S) else bd2 (fM_laySets F G S p2) fun v5 S6 => if v5 = 0 then some ((-1 : Int32), S6) else gd (inB p1 10) (if (S6.1 114 p1.toNatClampNeg) = v5 then some ((1 : Int32), S6) else gd (inB p1 10) (if (S6.1 114 p1.toNatClampNeg) = 0 then some ((0 : Int32), S6) else some ((-2 : Int32), S6)))
set_option maxRecDepth 100000 in
set_option maxHeartbeats 4000000 in
theorem c_M_sure {X : Nat × (Nat → Int32)} {D F G : Nat} (hD : 3 ≤ D) {S : St} {p1 : Int32} {p2 : Int32} {res : Int32 × St} (h : fM_sure F G S p1 p2 = some res) : Ek X (D) mM_sure 0 [(0, .ref 78), (1, .int p1), (2, .int p2)] [] S (some (.int res.1)) res.2 := by
  obtain ⟨D, rfl⟩ : ∃ E, D = E + 1 := ⟨D - 1, by omega⟩
  unfold fM_sure at h
  refine x_aload_n d_M_sure_0 rfl 0 rfl ?_
  refine x_iload_n d_M_sure_1 rfl 1 rfl ?_
  obtain ⟨v2, q1, h⟩ := bd_inv h
  refine y_V1i (v := v2) (S1 := S) d_M_sure_2 ml_11_461 kd_78 rfl (Nat.le_of_ble_eq_true rfl) (Nat.le_of_ble_eq_true rfl) (c_M_isNote (by omega) q1) ?_
  refine x_if_ne (tgt := 10) d_M_sure_5 rfl (fun c3 => ?_) (fun c3 => ?_)
  · replace h := ite_f c3 h
    refine x_aload_n d_M_sure_10 rfl 0 rfl ?_
    refine x_iload_n d_M_sure_11 rfl 2 rfl ?_
    obtain ⟨v5, S6, q4, h⟩ := bd2_inv h
    refine y_V1i (v := v5) (S1 := S6) d_M_sure_12 ml_11_550 kd_78 rfl (Nat.le_of_ble_eq_true rfl) (Nat.le_of_ble_eq_true rfl) (c_M_laySets (by omega) q4) ?_
    refine x_istore_n (L1 := [(0, .ref 78), (1, .int p1), (2, .int p2), (3, .int v5)]) d_M_sure_15 rfl (Nat.le_of_ble_eq_true rfl) rfl rfl ?_
    refine x_iload_n d_M_sure_16 rfl 3 rfl ?_
    refine x_if_ne (tgt := 24) d_M_sure_17 rfl (fun c7 => ?_) (fun c7 => ?_)
    · replace h := ite_f c7 h
      refine x_aload_n d_M_sure_24 rfl 0 rfl ?_
      refine y_getR d_M_sure_25 fl_11_136 rfl kd_78 rr_78_77 ?_
      refine x_iload_n d_M_sure_28 rfl 1 rfl ?_
      obtain ⟨g8, h⟩ := gd_inv h
      refine y_iald d_M_sure_29 kd_114 g8 ?_
      refine x_iload_n d_M_sure_30 rfl 3 rfl ?_
      refine x_icmp_ne (tgt := 38) d_M_sure_31 rfl (fun c9 => ?_) (fun c9 => ?_)
      · replace h := ite_f c9 h
        refine x_aload_n d_M_sure_38 rfl 0 rfl ?_
        refine y_getR d_M_sure_39 fl_11_136 rfl kd_78 rr_78_77 ?_
        refine x_iload_n d_M_sure_42 rfl 1 rfl ?_
        obtain ⟨g10, h⟩ := gd_inv h
        refine y_iald d_M_sure_43 kd_114 g10 ?_
        refine x_if_ne (tgt := 51) d_M_sure_44 rfl (fun c11 => ?_) (fun c11 => ?_)
        · replace h := ite_f c11 h
          refine x_bipush d_M_sure_51 bp_m2 ?_
          obtain rfl := Option.some.inj h
          exact x_ret (r := some (.int (-2 : Int32))) d_M_sure_53 ⟨_, rfl, rfl⟩
        · replace h := ite_t c11 h
          refine x_iconst d_M_sure_47 ic_0 ?_
          refine x_goto (tgt := 53) d_M_sure_48 rfl ?_
          obtain rfl := Option.some.inj h
          exact x_ret (r := some (.int (0 : Int32))) d_M_sure_53 ⟨_, rfl, rfl⟩
      · replace h := ite_t c9 h
        refine x_iconst d_M_sure_34 ic_1 ?_
        refine x_goto (tgt := 53) d_M_sure_35 rfl ?_
        obtain rfl := Option.some.inj h
        exact x_ret (r := some (.int (1 : Int32))) d_M_sure_53 ⟨_, rfl, rfl⟩
    · replace h := ite_t c7 h
      refine x_iconst d_M_sure_20 ic_m1 ?_
      refine x_goto (tgt := 53) d_M_sure_21 rfl ?_
      obtain rfl := Option.some.inj h
      exact x_ret (r := some (.int (-1 : Int32))) d_M_sure_53 ⟨_, rfl, rfl⟩
  · replace h := ite_t c3 h
    refine x_iconst d_M_sure_8 ic_m1 ?_
    obtain rfl := Option.some.inj h
    exact x_ret (r := some (.int (-1 : Int32))) d_M_sure_9 ⟨_, rfl, rfl⟩
/-! NinetyPlayers.ask -/
def b_N_ask_39 (F G : Nat) (S : St) (z1 : Int32) (rec : Int32 → Int32 → Int32 → Option (Int32 × St)) (w3 : Int32) (w4 : Int32) (w5 : Int32) : Option (Int32 × St) :=
  gd (isSc S.2.2.1) (if (S.1 S.2.2.1 6) ≤ w5 then if z1 = 0 then some (w3, S) else if w3 = (-1 : Int32) then some (w3, S) else some (w4, S) else if (S.1 69 2) ≤ 0 then if z1 = 0 then some (w3, S) else if w3 = (-1 : Int32) then some (w3, S) else some (w4, S) else gd (inB w5 10) (gd (inB w5 10) (lt (if (S.1 70 w5.toNatClampNeg) < ((S.1 69 2) - (S.1 70 w5.toNatClampNeg)) then ((S.1 69 2) - (S.1 70 w5.toNatClampNeg)) else (S.1 70 w5.toNatClampNeg)) fun v17 => if w4 ≤ v17 then lt (w5 + 1) fun v20 => rec w3 w4 v20 else lt (w5 + 1) fun v22 => rec w5 v17 v22)))
def fN_ask (F G : Nat) (S : St) (p1 : Int32) (p2 : Int32) : Option (Int32 × St) :=
  if p1 < 0 then some ((-1 : Int32), S) else if p1 ≤ (1 : Int32) then gd (isSc S.2.2.1) (bd (fI_count F G S S.2.2.1 p2) fun S5 => lt ((S5.1 69 2) + (1 : Int32)) fun v6 => fx3 (b_N_ask_39 F G S5 p1) F (-1 : Int32) v6 (0 : Int32)) else some ((-1 : Int32), S)
set_option maxRecDepth 100000 in
set_option maxHeartbeats 4000000 in
theorem T_N_ask_39 {X : Nat × (Nat → Int32)} {D F G : Nat} (hD : 3 ≤ D + 1) {S : St} {z1 : Int32} : ∀ (f : Nat) (w3 : Int32) (w4 : Int32) (w5 : Int32) (res : Int32 × St), fx3 (b_N_ask_39 F G S z1 ) f w3 w4 w5 = some res → Ek X (D + 1) mN_ask 39 [(0, .ref 0), (1, .int z1), (3, .int w3), (4, .int w4), (5, .int w5)] [] S (some (.int res.1)) res.2 := by
  refine fx3_ind ?_
  intro rec ih w3 w4 w5 res h
  unfold b_N_ask_39 at h
  refine x_iload d_N_ask_39 4 rfl ?_
  refine x_aload_n d_N_ask_41 rfl 0 rfl ?_
  refine y_getR d_N_ask_42 fl_0_25 rfl kd_0 rr_told ?_
  obtain ⟨g8, h⟩ := gd_inv h
  refine y_getI d_N_ask_45 fl_0_117 rfl (ksSc g8) ?_
  refine x_icmp_ge (tgt := 114) d_N_ask_48 rfl (fun c9 => ?_) (fun c9 => ?_)
  · replace h := ite_t c9 h
    refine x_iload_n d_N_ask_114 rfl 1 rfl ?_
    refine x_if_eq (tgt := 123) d_N_ask_115 rfl (fun c10 => ?_) (fun c10 => ?_)
    · replace h := ite_t c10 h
      refine x_iload_n d_N_ask_123 rfl 2 rfl ?_
      refine x_goto (tgt := 129) d_N_ask_124 rfl ?_
      obtain rfl := Option.some.inj h
      exact x_ret (r := some (.int w3)) d_N_ask_129 ⟨_, rfl, rfl⟩
    · replace h := ite_f c10 h
      refine x_iload_n d_N_ask_118 rfl 2 rfl ?_
      refine x_iconst d_N_ask_119 ic_m1 ?_
      refine x_icmp_ne (tgt := 127) d_N_ask_120 rfl (fun c11 => ?_) (fun c11 => ?_)
      · replace h := ite_f c11 h
        refine x_iload d_N_ask_127 3 rfl ?_
        obtain rfl := Option.some.inj h
        exact x_ret (r := some (.int w4)) d_N_ask_129 ⟨_, rfl, rfl⟩
      · replace h := ite_t c11 h
        refine x_iload_n d_N_ask_123 rfl 2 rfl ?_
        refine x_goto (tgt := 129) d_N_ask_124 rfl ?_
        obtain rfl := Option.some.inj h
        exact x_ret (r := some (.int w3)) d_N_ask_129 ⟨_, rfl, rfl⟩
  · replace h := ite_f c9 h
    refine x_aload_n d_N_ask_51 rfl 0 rfl ?_
    refine y_getR d_N_ask_52 fl_0_79 rfl kd_0 rr_0_11 ?_
    refine y_getI d_N_ask_55 fl_0_330 rfl kd_69 ?_
    refine x_if_le (tgt := 114) d_N_ask_58 rfl (fun c12 => ?_) (fun c12 => ?_)
    · replace h := ite_t c12 h
      refine x_iload_n d_N_ask_114 rfl 1 rfl ?_
      refine x_if_eq (tgt := 123) d_N_ask_115 rfl (fun c13 => ?_) (fun c13 => ?_)
      · replace h := ite_t c13 h
        refine x_iload_n d_N_ask_123 rfl 2 rfl ?_
        refine x_goto (tgt := 129) d_N_ask_124 rfl ?_
        obtain rfl := Option.some.inj h
        exact x_ret (r := some (.int w3)) d_N_ask_129 ⟨_, rfl, rfl⟩
      · replace h := ite_f c13 h
        refine x_iload_n d_N_ask_118 rfl 2 rfl ?_
        refine x_iconst d_N_ask_119 ic_m1 ?_
        refine x_icmp_ne (tgt := 127) d_N_ask_120 rfl (fun c14 => ?_) (fun c14 => ?_)
        · replace h := ite_f c14 h
          refine x_iload d_N_ask_127 3 rfl ?_
          obtain rfl := Option.some.inj h
          exact x_ret (r := some (.int w4)) d_N_ask_129 ⟨_, rfl, rfl⟩
        · replace h := ite_t c14 h
          refine x_iload_n d_N_ask_123 rfl 2 rfl ?_
          refine x_goto (tgt := 129) d_N_ask_124 rfl ?_
          obtain rfl := Option.some.inj h
          exact x_ret (r := some (.int w3)) d_N_ask_129 ⟨_, rfl, rfl⟩
    · replace h := ite_f c12 h
      refine x_aload_n d_N_ask_61 rfl 0 rfl ?_
      refine y_getR d_N_ask_62 fl_0_79 rfl kd_0 rr_0_11 ?_
      refine y_getR d_N_ask_65 fl_0_333 rfl kd_69 rr_69_3 ?_
      refine x_iload d_N_ask_68 4 rfl ?_
      obtain ⟨g15, h⟩ := gd_inv h
      refine y_iald d_N_ask_70 kd_70 g15 ?_
      refine x_aload_n d_N_ask_71 rfl 0 rfl ?_
      refine y_getR d_N_ask_72 fl_0_79 rfl kd_0 rr_0_11 ?_
      refine y_getI d_N_ask_75 fl_0_330 rfl kd_69 ?_
      refine x_aload_n d_N_ask_78 rfl 0 rfl ?_
      refine y_getR d_N_ask_79 fl_0_79 rfl kd_0 rr_0_11 ?_
      refine y_getR d_N_ask_82 fl_0_333 rfl kd_69 rr_69_3 ?_
      refine x_iload d_N_ask_85 4 rfl ?_
      obtain ⟨g16, h⟩ := gd_inv h
      refine y_iald d_N_ask_87 kd_70 g16 ?_
      refine x_isub d_N_ask_88 ?_
      refine y_mmax d_N_ask_89 ml_0_230 (Nat.le_of_ble_eq_true rfl) ?_
      obtain ⟨v17, e18, h⟩ := lt_inv h
      refine y_istore (L1 := [(0, .ref 0), (1, .int z1), (3, .int w3), (4, .int w4), (5, .int w5), (6, .int v17)]) e18 d_N_ask_92 (Nat.le_of_ble_eq_true rfl) rfl rfl ?_
      refine x_iload d_N_ask_94 5 rfl ?_
      refine x_iload d_N_ask_96 3 rfl ?_
      refine x_icmp_ge (tgt := 108) d_N_ask_98 rfl (fun c19 => ?_) (fun c19 => ?_)
      · replace h := ite_t c19 h
        obtain ⟨v20, e21, h⟩ := lt_inv h
        refine y_iinc (L1 := [(0, .ref 0), (1, .int z1), (3, .int w3), (4, .int w4), (5, .int v20), (6, .int v17)]) e21 ic_1 d_N_ask_108 4 rfl (Nat.le_of_ble_eq_true rfl) rfl rfl ?_
        refine x_goto (tgt := 39) d_N_ask_111 rfl ?_
        refine y_pick (L1 := [(0, .ref 0), (1, .int z1), (3, .int w3), (4, .int w4), (5, .int v20)]) [0, 1, 2, 3, 4] rfl ?_
        exact ih w3 w4 v20 _ h
      · replace h := ite_f c19 h
        refine x_iload d_N_ask_101 5 rfl ?_
        refine x_istore (L1 := [(0, .ref 0), (1, .int z1), (3, .int w3), (4, .int v17), (5, .int w5), (6, .int v17)]) d_N_ask_103 (Nat.le_of_ble_eq_true rfl) rfl rfl ?_
        refine x_iload d_N_ask_105 4 rfl ?_
        refine x_istore_n (L1 := [(0, .ref 0), (1, .int z1), (3, .int w5), (4, .int v17), (5, .int w5), (6, .int v17)]) d_N_ask_107 rfl (Nat.le_of_ble_eq_true rfl) rfl rfl ?_
        obtain ⟨v22, e23, h⟩ := lt_inv h
        refine y_iinc (L1 := [(0, .ref 0), (1, .int z1), (3, .int w5), (4, .int v17), (5, .int v22), (6, .int v17)]) e23 ic_1 d_N_ask_108 4 rfl (Nat.le_of_ble_eq_true rfl) rfl rfl ?_
        refine x_goto (tgt := 39) d_N_ask_111 rfl ?_
        refine y_pick (L1 := [(0, .ref 0), (1, .int z1), (3, .int w5), (4, .int v17), (5, .int v22)]) [0, 1, 2, 3, 4] rfl ?_
        exact ih w5 v17 v22 _ h
set_option maxRecDepth 100000 in
set_option maxHeartbeats 4000000 in
theorem c_N_ask {X : Nat × (Nat → Int32)} {D F G : Nat} (hD : 3 ≤ D) {S : St} {p1 : Int32} {p2 : Int32} {res : Int32 × St} (h : fN_ask F G S p1 p2 = some res) : Ek X (D) mN_ask 0 [(0, .ref 0), (1, .int p1), (2, .int p2)] [] S (some (.int res.1)) res.2 := by
  obtain ⟨D, rfl⟩ : ∃ E, D = E + 1 := ⟨D - 1, by omega⟩
  unfold fN_ask at h
  refine x_iload_n d_N_ask_0 rfl 1 rfl ?_
  refine x_if_lt (tgt := 9) d_N_ask_1 rfl (fun c1 => ?_) (fun c1 => ?_)
  · replace h := ite_t c1 h
    refine x_iconst d_N_ask_9 ic_m1 ?_
    obtain rfl := Option.some.inj h
    exact x_ret (r := some (.int (-1 : Int32))) d_N_ask_10 ⟨_, rfl, rfl⟩
  · replace h := ite_f c1 h
    refine x_iload_n d_N_ask_4 rfl 1 rfl ?_
    refine x_iconst d_N_ask_5 ic_1 ?_
    refine x_icmp_le (tgt := 11) d_N_ask_6 rfl (fun c2 => ?_) (fun c2 => ?_)
    · replace h := ite_t c2 h
      refine x_aload_n d_N_ask_11 rfl 0 rfl ?_
      refine y_getR d_N_ask_12 fl_0_79 rfl kd_0 rr_0_11 ?_
      refine x_aload_n d_N_ask_15 rfl 0 rfl ?_
      refine y_getR d_N_ask_16 fl_0_25 rfl kd_0 rr_told ?_
      obtain ⟨g3, h⟩ := gd_inv h
      refine x_iload_n d_N_ask_19 rfl 2 rfl ?_
      obtain ⟨S5, q4, h⟩ := bd_inv h
      refine y_V2v (S1 := S5) d_N_ask_20 ml_0_326 kd_69 rfl (Nat.le_of_ble_eq_true rfl) (Nat.le_of_ble_eq_true rfl) (c_I_count (by omega) q4) ?_
      refine x_iconst d_N_ask_23 ic_m1 ?_
      refine x_istore_n (L1 := [(0, .ref 0), (1, .int p1), (2, .int p2), (3, .int (-1 : Int32))]) d_N_ask_24 rfl (Nat.le_of_ble_eq_true rfl) rfl rfl ?_
      refine x_aload_n d_N_ask_25 rfl 0 rfl ?_
      refine y_getR d_N_ask_26 fl_0_79 rfl kd_0 rr_0_11 ?_
      refine y_getI d_N_ask_29 fl_0_330 rfl kd_69 ?_
      refine x_iconst d_N_ask_32 ic_1 ?_
      refine x_iadd d_N_ask_33 ?_
      obtain ⟨v6, e7, h⟩ := lt_inv h
      refine y_istore (L1 := [(0, .ref 0), (1, .int p1), (2, .int p2), (3, .int (-1 : Int32)), (4, .int v6)]) e7 d_N_ask_34 (Nat.le_of_ble_eq_true rfl) rfl rfl ?_
      refine x_iconst d_N_ask_36 ic_0 ?_
      refine x_istore (L1 := [(0, .ref 0), (1, .int p1), (2, .int p2), (3, .int (-1 : Int32)), (4, .int v6), (5, .int (0 : Int32))]) d_N_ask_37 (Nat.le_of_ble_eq_true rfl) rfl rfl ?_
      refine y_pick (L1 := [(0, .ref 0), (1, .int p1), (3, .int (-1 : Int32)), (4, .int v6), (5, .int (0 : Int32))]) [0, 1, 3, 4, 5] rfl ?_
      refine T_N_ask_39 (by omega)   F (-1 : Int32) v6 (0 : Int32) _ h
    · replace h := ite_f c2 h
      refine x_iconst d_N_ask_9 ic_m1 ?_
      obtain rfl := Option.some.inj h
      exact x_ret (r := some (.int (-1 : Int32))) d_N_ask_10 ⟨_, rfl, rfl⟩
/-! NinetyPlayersModel.ask -/
def b_M_ask_36 (F G : Nat) (S : St) (z1 : Int32) (z3 : Int32) (k101 : Int32 → Option (Int32 × St)) (rec : Int32 → Int32 → Option (Int32 × St)) (w4 : Int32) (w5 : Int32) : Option (Int32 × St) :=
  if (S.1 78 48) ≤ w5 then k101 w4 else gd (inB w5 10) (gd (inB w5 10) (bd (fM_greater F G S (S.1 114 w5.toNatClampNeg) (z3 - (S.1 114 w5.toNatClampNeg))) fun v13 => gd (inB w4 10) (gd (inB w4 10) (bd (fM_greater F G S (S.1 114 w4.toNatClampNeg) (z3 - (S.1 114 w4.toNatClampNeg))) fun v17 => if v17 ≤ v13 then lt (w5 + 1) fun v19 => rec w4 v19 else lt (w5 + 1) fun v21 => rec w5 v21))))
def fM_ask (F G : Nat) (S : St) (p1 : Int32) (p2 : Int32) : Option (Int32 × St) :=
  bd (fM_isIn F G S p1 (0 : Int32) (1 : Int32)) fun v2 => if v2 = 0 then some ((-1 : Int32), S) else if (S.1 78 48) = 0 then some ((-1 : Int32), S) else bd2 (fM_laySets F G S p2) fun v6 S7 => if v6 = 0 then some ((-1 : Int32), S7) else fx2 (b_M_ask_36 F G S7 p1 v6 (fun v23 => if p1 = 0 then some (v23, S7) else gd (inB v23 10) (gd (inB v23 10) (bd (fM_greater F G S7 (S7.1 114 v23.toNatClampNeg) (v6 - (S7.1 114 v23.toNatClampNeg))) fun v28 => some (v28, S7))))) F (0 : Int32) (1 : Int32)
set_option maxRecDepth 100000 in
set_option maxHeartbeats 4000000 in
theorem T_M_ask_36 {X : Nat × (Nat → Int32)} {D F G : Nat} (hD : 3 ≤ D + 1) {S : St} {z1 : Int32} {z3 : Int32} {k101 : Int32 → Option (Int32 × St)} (hk101 : ∀ (u4 : Int32) (res : Int32 × St), k101 u4 = some res → Ek X (D + 1) mM_ask 101 [(0, .ref 78), (1, .int z1), (3, .int z3), (4, .int u4)] [] S (some (.int res.1)) res.2) : ∀ (f : Nat) (w4 : Int32) (w5 : Int32) (res : Int32 × St), fx2 (b_M_ask_36 F G S z1 z3 k101 ) f w4 w5 = some res → Ek X (D + 1) mM_ask 36 [(0, .ref 78), (1, .int z1), (3, .int z3), (4, .int w4), (5, .int w5)] [] S (some (.int res.1)) res.2 := by
  refine fx2_ind ?_
  intro rec ih w4 w5 res h
  unfold b_M_ask_36 at h
  refine x_iload d_M_ask_36 4 rfl ?_
  refine x_aload_n d_M_ask_38 rfl 0 rfl ?_
  refine y_getI d_M_ask_39 fl_11_322 rfl kd_78 ?_
  refine x_icmp_ge (tgt := 101) d_M_ask_42 rfl (fun c9 => ?_) (fun c9 => ?_)
  · replace h := ite_t c9 h
    refine y_pick (L1 := [(0, .ref 78), (1, .int z1), (3, .int z3), (4, .int w4)]) [0, 1, 2, 3] rfl ?_
    exact hk101 w4 _ h
  · replace h := ite_f c9 h
    refine x_aload_n d_M_ask_45 rfl 0 rfl ?_
    refine y_getR d_M_ask_46 fl_11_136 rfl kd_78 rr_78_77 ?_
    refine x_iload d_M_ask_49 4 rfl ?_
    obtain ⟨g10, h⟩ := gd_inv h
    refine y_iald d_M_ask_51 kd_114 g10 ?_
    refine x_iload_n d_M_ask_52 rfl 2 rfl ?_
    refine x_aload_n d_M_ask_53 rfl 0 rfl ?_
    refine y_getR d_M_ask_54 fl_11_136 rfl kd_78 rr_78_77 ?_
    refine x_iload d_M_ask_57 4 rfl ?_
    obtain ⟨g11, h⟩ := gd_inv h
    refine y_iald d_M_ask_59 kd_114 g11 ?_
    refine x_isub d_M_ask_60 ?_
    obtain ⟨v13, q12, h⟩ := bd_inv h
    refine y_S2i (v := v13) (S1 := S) d_M_ask_61 ml_11_527 (Nat.le_of_ble_eq_true rfl) (Nat.le_of_ble_eq_true rfl) (c_M_greater (by omega) q12) ?_
    refine x_aload_n d_M_ask_64 rfl 0 rfl ?_
    refine y_getR d_M_ask_65 fl_11_136 rfl kd_78 rr_78_77 ?_
    refine x_iload d_M_ask_68 3 rfl ?_
    obtain ⟨g14, h⟩ := gd_inv h
    refine y_iald d_M_ask_70 kd_114 g14 ?_
    refine x_iload_n d_M_ask_71 rfl 2 rfl ?_
    refine x_aload_n d_M_ask_72 rfl 0 rfl ?_
    refine y_getR d_M_ask_73 fl_11_136 rfl kd_78 rr_78_77 ?_
    refine x_iload d_M_ask_76 3 rfl ?_
    obtain ⟨g15, h⟩ := gd_inv h
    refine y_iald d_M_ask_78 kd_114 g15 ?_
    refine x_isub d_M_ask_79 ?_
    obtain ⟨v17, q16, h⟩ := bd_inv h
    refine y_S2i (v := v17) (S1 := S) d_M_ask_80 ml_11_527 (Nat.le_of_ble_eq_true rfl) (Nat.le_of_ble_eq_true rfl) (c_M_greater (by omega) q16) ?_
    refine x_icmp_ge (tgt := 91) d_M_ask_83 rfl (fun c18 => ?_) (fun c18 => ?_)
    · replace h := ite_t c18 h
      refine x_iload d_M_ask_91 3 rfl ?_
      refine x_istore (L1 := [(0, .ref 78), (1, .int z1), (3, .int z3), (4, .int w4), (5, .int w5)]) d_M_ask_93 (Nat.le_of_ble_eq_true rfl) rfl rfl ?_
      obtain ⟨v19, e20, h⟩ := lt_inv h
      refine y_iinc (L1 := [(0, .ref 78), (1, .int z1), (3, .int z3), (4, .int w4), (5, .int v19)]) e20 ic_1 d_M_ask_95 4 rfl (Nat.le_of_ble_eq_true rfl) rfl rfl ?_
      refine x_goto (tgt := 36) d_M_ask_98 rfl ?_
      exact ih w4 v19 _ h
    · replace h := ite_f c18 h
      refine x_iload d_M_ask_86 4 rfl ?_
      refine x_goto (tgt := 93) d_M_ask_88 rfl ?_
      refine x_istore (L1 := [(0, .ref 78), (1, .int z1), (3, .int z3), (4, .int w5), (5, .int w5)]) d_M_ask_93 (Nat.le_of_ble_eq_true rfl) rfl rfl ?_
      obtain ⟨v21, e22, h⟩ := lt_inv h
      refine y_iinc (L1 := [(0, .ref 78), (1, .int z1), (3, .int z3), (4, .int w5), (5, .int v21)]) e22 ic_1 d_M_ask_95 4 rfl (Nat.le_of_ble_eq_true rfl) rfl rfl ?_
      refine x_goto (tgt := 36) d_M_ask_98 rfl ?_
      exact ih w5 v21 _ h
set_option maxRecDepth 100000 in
set_option maxHeartbeats 4000000 in
theorem c_M_ask {X : Nat × (Nat → Int32)} {D F G : Nat} (hD : 3 ≤ D) {S : St} {p1 : Int32} {p2 : Int32} {res : Int32 × St} (h : fM_ask F G S p1 p2 = some res) : Ek X (D) mM_ask 0 [(0, .ref 78), (1, .int p1), (2, .int p2)] [] S (some (.int res.1)) res.2 := by
  obtain ⟨D, rfl⟩ : ∃ E, D = E + 1 := ⟨D - 1, by omega⟩
  unfold fM_ask at h
  refine x_iload_n d_M_ask_0 rfl 1 rfl ?_
  refine x_iconst d_M_ask_1 ic_0 ?_
  refine x_iconst d_M_ask_2 ic_1 ?_
  obtain ⟨v2, q1, h⟩ := bd_inv h
  refine y_S3i (v := v2) (S1 := S) d_M_ask_3 ml_11_429 (Nat.le_of_ble_eq_true rfl) (Nat.le_of_ble_eq_true rfl) (c_M_isIn (by omega) q1) ?_
  refine x_if_eq (tgt := 16) d_M_ask_6 rfl (fun c3 => ?_) (fun c3 => ?_)
  · replace h := ite_t c3 h
    refine x_iconst d_M_ask_16 ic_m1 ?_
    obtain rfl := Option.some.inj h
    exact x_ret (r := some (.int (-1 : Int32))) d_M_ask_17 ⟨_, rfl, rfl⟩
  · replace h := ite_f c3 h
    refine x_aload_n d_M_ask_9 rfl 0 rfl ?_
    refine y_getI d_M_ask_10 fl_11_322 rfl kd_78 ?_
    refine x_if_ne (tgt := 18) d_M_ask_13 rfl (fun c4 => ?_) (fun c4 => ?_)
    · replace h := ite_f c4 h
      refine x_aload_n d_M_ask_18 rfl 0 rfl ?_
      refine x_iload_n d_M_ask_19 rfl 2 rfl ?_
      obtain ⟨v6, S7, q5, h⟩ := bd2_inv h
      refine y_V1i (v := v6) (S1 := S7) d_M_ask_20 ml_11_550 kd_78 rfl (Nat.le_of_ble_eq_true rfl) (Nat.le_of_ble_eq_true rfl) (c_M_laySets (by omega) q5) ?_
      refine x_istore_n (L1 := [(0, .ref 78), (1, .int p1), (2, .int p2), (3, .int v6)]) d_M_ask_23 rfl (Nat.le_of_ble_eq_true rfl) rfl rfl ?_
      refine x_iload_n d_M_ask_24 rfl 3 rfl ?_
      refine x_if_ne (tgt := 30) d_M_ask_25 rfl (fun c8 => ?_) (fun c8 => ?_)
      · replace h := ite_f c8 h
        refine x_iconst d_M_ask_30 ic_0 ?_
        refine x_istore (L1 := [(0, .ref 78), (1, .int p1), (2, .int p2), (3, .int v6), (4, .int (0 : Int32))]) d_M_ask_31 (Nat.le_of_ble_eq_true rfl) rfl rfl ?_
        refine x_iconst d_M_ask_33 ic_1 ?_
        refine x_istore (L1 := [(0, .ref 78), (1, .int p1), (2, .int p2), (3, .int v6), (4, .int (0 : Int32)), (5, .int (1 : Int32))]) d_M_ask_34 (Nat.le_of_ble_eq_true rfl) rfl rfl ?_
        refine y_pick (L1 := [(0, .ref 78), (1, .int p1), (3, .int v6), (4, .int (0 : Int32)), (5, .int (1 : Int32))]) [0, 1, 3, 4, 5] rfl ?_
        refine T_M_ask_36 (by omega)  ?_ F (0 : Int32) (1 : Int32) _ h
        · intro v23 res h
          refine x_iload_n d_M_ask_101 rfl 1 rfl ?_
          refine x_if_ne (tgt := 110) d_M_ask_102 rfl (fun c24 => ?_) (fun c24 => ?_)
          · replace h := ite_f c24 h
            refine x_aload_n d_M_ask_110 rfl 0 rfl ?_
            refine y_getR d_M_ask_111 fl_11_136 rfl kd_78 rr_78_77 ?_
            refine x_iload d_M_ask_114 3 rfl ?_
            obtain ⟨g25, h⟩ := gd_inv h
            refine y_iald d_M_ask_116 kd_114 g25 ?_
            refine x_iload_n d_M_ask_117 rfl 2 rfl ?_
            refine x_aload_n d_M_ask_118 rfl 0 rfl ?_
            refine y_getR d_M_ask_119 fl_11_136 rfl kd_78 rr_78_77 ?_
            refine x_iload d_M_ask_122 3 rfl ?_
            obtain ⟨g26, h⟩ := gd_inv h
            refine y_iald d_M_ask_124 kd_114 g26 ?_
            refine x_isub d_M_ask_125 ?_
            obtain ⟨v28, q27, h⟩ := bd_inv h
            refine y_S2i (v := v28) (S1 := S7) d_M_ask_126 ml_11_527 (Nat.le_of_ble_eq_true rfl) (Nat.le_of_ble_eq_true rfl) (c_M_greater (by omega) q27) ?_
            obtain rfl := Option.some.inj h
            exact x_ret (r := some (.int v28)) d_M_ask_129 ⟨_, rfl, rfl⟩
          · replace h := ite_t c24 h
            refine x_iload d_M_ask_105 3 rfl ?_
            refine x_goto (tgt := 129) d_M_ask_107 rfl ?_
            obtain rfl := Option.some.inj h
            exact x_ret (r := some (.int v23)) d_M_ask_129 ⟨_, rfl, rfl⟩
      · replace h := ite_t c8 h
        refine x_iconst d_M_ask_28 ic_m1 ?_
        obtain rfl := Option.some.inj h
        exact x_ret (r := some (.int (-1 : Int32))) d_M_ask_29 ⟨_, rfl, rfl⟩
    · replace h := ite_t c4 h
      refine x_iconst d_M_ask_16 ic_m1 ?_
      obtain rfl := Option.some.inj h
      exact x_ret (r := some (.int (-1 : Int32))) d_M_ask_17 ⟨_, rfl, rfl⟩
/-! NinetyPlayers$Laying.copy -/
def b_L_copy_10 (F G : Nat) (z0 : Nat) (z1 : Nat) (rec : Int32 → St → Option (St)) (w2 : Int32) (S : St) : Option (St) :=
  if (10 : Int32) ≤ w2 then some S else gd (inB w2 10) (gd (inB w2 10) (lt (sI S (z0 + 1) w2.toNatClampNeg (S.1 (z1 + 1) w2.toNatClampNeg)) fun S6 => gd (inB w2 10) (gd (inB w2 10) (lt (sI S6 (z0 + 2) w2.toNatClampNeg (S6.1 (z1 + 2) w2.toNatClampNeg)) fun S10 => gd (inB w2 10) (gd (inB w2 10) (lt (sI S10 (z0 + 3) w2.toNatClampNeg (S10.1 (z1 + 3) w2.toNatClampNeg)) fun S14 => gd (inB w2 10) (gd (inB w2 10) (lt (sI S14 (z0 + 4) w2.toNatClampNeg (S14.1 (z1 + 4) w2.toNatClampNeg)) fun S18 => lt (w2 + 1) fun v20 => rec v20 S18))))))))
def fL_copy (F G : Nat) (S : St) (o : Nat) (o2 : Nat) : Option (St) :=
  gd (isLa o) (gd (isLa o2) (lt (sI S o 1 (S.1 o2 1)) fun S1 => fx2 (b_L_copy_10 F G o o2) F (0 : Int32) S1))
set_option maxRecDepth 100000 in
set_option maxHeartbeats 4000000 in
theorem T_L_copy_10 {X : Nat × (Nat → Int32)} {D F G : Nat} (hD : 0 ≤ D) {z0 : Nat} {z1 : Nat} (hz0 : isLa z0 = true) (hz1 : isLa z1 = true) : ∀ (f : Nat) (w2 : Int32) (S : St) (res : St), fx2 (b_L_copy_10 F G z0 z1 ) f w2 S = some res → Ek X (D) mL_copy 10 [(0, .ref z0), (1, .ref z1), (2, .int w2)] [] S none res := by
  refine fx2_ind ?_
  intro rec ih w2 S res h
  unfold b_L_copy_10 at h
  refine x_iload_n d_L_copy_10 rfl 2 rfl ?_
  refine x_bipush d_L_copy_11 bp_10 ?_
  refine x_icmp_ge (tgt := 70) d_L_copy_13 rfl (fun c3 => ?_) (fun c3 => ?_)
  · replace h := ite_t c3 h
    obtain rfl := Option.some.inj h
    exact x_ret (r := none) d_L_copy_70 rfl
  · replace h := ite_f c3 h
    refine x_aload_n d_L_copy_16 rfl 0 rfl ?_
    refine y_getR d_L_copy_17 fl_5_9 rfl (ksLa hz0) (rrLa_2 hz0) ?_
    refine x_iload_n d_L_copy_20 rfl 2 rfl ?_
    refine x_aload_n d_L_copy_21 rfl 1 rfl ?_
    refine y_getR d_L_copy_22 fl_5_9 rfl (ksLa hz1) (rrLa_2 hz1) ?_
    refine x_iload_n d_L_copy_25 rfl 2 rfl ?_
    obtain ⟨g4, h⟩ := gd_inv h
    refine y_iald d_L_copy_26 (ksLa_1 hz1) g4 ?_
    obtain ⟨g5, h⟩ := gd_inv h
    obtain ⟨S6, e7, h⟩ := lt_inv h
    refine y_iast e7 d_L_copy_27 (ksLa_1 hz0) g5 ?_
    refine x_aload_n d_L_copy_28 rfl 0 rfl ?_
    refine y_getR d_L_copy_29 fl_5_15 rfl (ksLa hz0) (rrLa_3 hz0) ?_
    refine x_iload_n d_L_copy_32 rfl 2 rfl ?_
    refine x_aload_n d_L_copy_33 rfl 1 rfl ?_
    refine y_getR d_L_copy_34 fl_5_15 rfl (ksLa hz1) (rrLa_3 hz1) ?_
    refine x_iload_n d_L_copy_37 rfl 2 rfl ?_
    obtain ⟨g8, h⟩ := gd_inv h
    refine y_iald d_L_copy_38 (ksLa_2 hz1) g8 ?_
    obtain ⟨g9, h⟩ := gd_inv h
    obtain ⟨S10, e11, h⟩ := lt_inv h
    refine y_iast e11 d_L_copy_39 (ksLa_2 hz0) g9 ?_
    refine x_aload_n d_L_copy_40 rfl 0 rfl ?_
    refine y_getR d_L_copy_41 fl_5_18 rfl (ksLa hz0) (rrLa_4 hz0) ?_
    refine x_iload_n d_L_copy_44 rfl 2 rfl ?_
    refine x_aload_n d_L_copy_45 rfl 1 rfl ?_
    refine y_getR d_L_copy_46 fl_5_18 rfl (ksLa hz1) (rrLa_4 hz1) ?_
    refine x_iload_n d_L_copy_49 rfl 2 rfl ?_
    obtain ⟨g12, h⟩ := gd_inv h
    refine y_iald d_L_copy_50 (ksLa_3 hz1) g12 ?_
    obtain ⟨g13, h⟩ := gd_inv h
    obtain ⟨S14, e15, h⟩ := lt_inv h
    refine y_iast e15 d_L_copy_51 (ksLa_3 hz0) g13 ?_
    refine x_aload_n d_L_copy_52 rfl 0 rfl ?_
    refine y_getR d_L_copy_53 fl_5_21 rfl (ksLa hz0) (rrLa_5 hz0) ?_
    refine x_iload_n d_L_copy_56 rfl 2 rfl ?_
    refine x_aload_n d_L_copy_57 rfl 1 rfl ?_
    refine y_getR d_L_copy_58 fl_5_21 rfl (ksLa hz1) (rrLa_5 hz1) ?_
    refine x_iload_n d_L_copy_61 rfl 2 rfl ?_
    obtain ⟨g16, h⟩ := gd_inv h
    refine y_iald d_L_copy_62 (ksLa_4 hz1) g16 ?_
    obtain ⟨g17, h⟩ := gd_inv h
    obtain ⟨S18, e19, h⟩ := lt_inv h
    refine y_iast e19 d_L_copy_63 (ksLa_4 hz0) g17 ?_
    obtain ⟨v20, e21, h⟩ := lt_inv h
    refine y_iinc (L1 := [(0, .ref z0), (1, .ref z1), (2, .int v20)]) e21 ic_1 d_L_copy_64 2 rfl (Nat.le_of_ble_eq_true rfl) rfl rfl ?_
    refine x_goto (tgt := 10) d_L_copy_67 rfl ?_
    exact ih v20 S18 _ h
set_option maxRecDepth 100000 in
set_option maxHeartbeats 4000000 in
theorem c_L_copy {X : Nat × (Nat → Int32)} {D F G : Nat} (hD : 0 ≤ D) {S : St} {o : Nat} {o2 : Nat} {res : St} (h : fL_copy F G S o o2 = some res) : Ek X (D) mL_copy 0 [(0, .ref o), (1, .ref o2)] [] S none res := by
  unfold fL_copy at h
  obtain ⟨gg0, h⟩ := gd_inv h
  obtain ⟨gg1, h⟩ := gd_inv h
  refine x_aload_n d_L_copy_0 rfl 0 rfl ?_
  refine x_aload_n d_L_copy_1 rfl 1 rfl ?_
  refine y_getI d_L_copy_2 fl_5_24 rfl (ksLa gg1) ?_
  obtain ⟨S1, e2, h⟩ := lt_inv h
  refine y_putI e2 d_L_copy_5 fl_5_24 rfl rfl (ksLa gg0) rfl rfl ?_
  refine x_iconst d_L_copy_8 ic_0 ?_
  refine x_istore_n (L1 := [(0, .ref o), (1, .ref o2), (2, .int (0 : Int32))]) d_L_copy_9 rfl (Nat.le_of_ble_eq_true rfl) rfl rfl ?_
  refine T_L_copy_10 (by omega) gg0 gg1  F (0 : Int32) S1 _ h
/-! NinetyPlayers.image -/
def fN_image (F G : Nat) (S : St) (p1 : Int32) : Option (Int32 × St) :=
  if p1 < 0 then some ((-1 : Int32), S) else if p1 < (Int32.ofNat 3) then gd (inB p1 3) (bd (fL_copy F G S (36 + 5 * p1.toNatClampNeg) 30) fun S5 => gd (inB p1 3) (lt (sI S5 (36 + 5 * p1.toNatClampNeg) 0 (1 : Int32)) fun S7 => bd (fN_givenSet F G S7) fun v10 => bd (fJ_bitCount F G S7 v10) fun v12 => some (v12, S7))) else some ((-1 : Int32), S)
set_option maxRecDepth 100000 in
set_option maxHeartbeats 4000000 in
theorem c_N_image {X : Nat × (Nat → Int32)} {D F G : Nat} (hD : 2 ≤ D) {S : St} {p1 : Int32} {res : Int32 × St} (h : fN_image F G S p1 = some res) : Ek X (D) mN_image 0 [(0, .ref 0), (1, .int p1)] [] S (some (.int res.1)) res.2 := by
  obtain ⟨D, rfl⟩ : ∃ E, D = E + 1 := ⟨D - 1, by omega⟩
  unfold fN_image at h
  refine x_iload_n d_N_image_0 rfl 1 rfl ?_
  refine x_if_lt (tgt := 13) d_N_image_1 rfl (fun c1 => ?_) (fun c1 => ?_)
  · replace h := ite_t c1 h
    refine x_iconst d_N_image_13 ic_m1 ?_
    obtain rfl := Option.some.inj h
    exact x_ret (r := some (.int (-1 : Int32))) d_N_image_14 ⟨_, rfl, rfl⟩
  · replace h := ite_f c1 h
    refine x_iload_n d_N_image_4 rfl 1 rfl ?_
    refine x_aload_n d_N_image_5 rfl 0 rfl ?_
    refine y_getR d_N_image_6 fl_0_36 rfl kd_0 rr_0_5 ?_
    refine x_alen5 d_N_image_9 kd_35 ?_
    refine x_icmp_lt (tgt := 15) d_N_image_10 rfl (fun c2 => ?_) (fun c2 => ?_)
    · replace h := ite_t c2 h
      refine x_aload_n d_N_image_15 rfl 0 rfl ?_
      refine y_getR d_N_image_16 fl_0_36 rfl kd_0 rr_0_5 ?_
      refine x_iload_n d_N_image_19 rfl 1 rfl ?_
      obtain ⟨g3, h⟩ := gd_inv h
      refine y_aald d_N_image_20 g3 ?_
      refine x_aload_n d_N_image_21 rfl 0 rfl ?_
      refine y_getR d_N_image_22 fl_0_32 rfl kd_0 rr_0_4 ?_
      obtain ⟨S5, q4, h⟩ := bd_inv h
      refine y_V1v (S1 := S5) d_N_image_25 ml_0_336 (ksLa (isLa_box (inB_lt g3))) rfl (Nat.le_of_ble_eq_true rfl) (Nat.le_of_ble_eq_true rfl) (c_L_copy (by omega) q4) ?_
      refine x_aload_n d_N_image_28 rfl 0 rfl ?_
      refine y_getR d_N_image_29 fl_0_36 rfl kd_0 rr_0_5 ?_
      refine x_iload_n d_N_image_32 rfl 1 rfl ?_
      obtain ⟨g6, h⟩ := gd_inv h
      refine y_aald d_N_image_33 g6 ?_
      refine x_iconst d_N_image_34 ic_1 ?_
      obtain ⟨S7, e8, h⟩ := lt_inv h
      refine y_putI e8 d_N_image_35 fl_0_113 rfl rfl (ksLa (isLa_box (inB_lt g6))) rfl rfl ?_
      refine x_aload_n d_N_image_38 rfl 0 rfl ?_
      obtain ⟨v10, q9, h⟩ := bd_inv h
      refine y_V0i (v := v10) (S1 := S7) d_N_image_39 ml_0_163 kd_0 rfl (Nat.le_of_ble_eq_true rfl) (Nat.le_of_ble_eq_true rfl) (c_N_givenSet (by omega) q9) ?_
      obtain ⟨v12, q11, h⟩ := bd_inv h
      refine y_S1i (v := v12) (S1 := S7) d_N_image_42 ml_0_206 (Nat.le_of_ble_eq_true rfl) (Nat.le_of_ble_eq_true rfl) (c_J_bitCount (by omega) q11) ?_
      obtain rfl := Option.some.inj h
      exact x_ret (r := some (.int v12)) d_N_image_45 ⟨_, rfl, rfl⟩
    · replace h := ite_f c2 h
      refine x_iconst d_N_image_13 ic_m1 ?_
      obtain rfl := Option.some.inj h
      exact x_ret (r := some (.int (-1 : Int32))) d_N_image_14 ⟨_, rfl, rfl⟩
/-! NinetyPlayersModel.isBox -/
def fM_isBox (F G : Nat) (S : St) (p1 : Int32) : Option (Int32) :=
  if p1 < 0 then some (0 : Int32) else if (3 : Int32) ≤ p1 then some (0 : Int32) else some (1 : Int32)
set_option maxRecDepth 100000 in
set_option maxHeartbeats 4000000 in
theorem c_M_isBox {X : Nat × (Nat → Int32)} {D F G : Nat} (hD : 0 ≤ D) {S : St} {p1 : Int32} {res : Int32} (h : fM_isBox F G S p1 = some res) : Ek X (D) mM_isBox 0 [(0, .int p1)] [] S (some (.int res)) S := by
  unfold fM_isBox at h
  refine x_iload_n d_M_isBox_0 rfl 0 rfl ?_
  refine x_if_lt (tgt := 13) d_M_isBox_1 rfl (fun c1 => ?_) (fun c1 => ?_)
  · replace h := ite_t c1 h
    refine x_iconst d_M_isBox_13 ic_0 ?_
    obtain rfl := Option.some.inj h
    exact x_ret (r := some (.int (0 : Int32))) d_M_isBox_14 ⟨_, rfl, rfl⟩
  · replace h := ite_f c1 h
    refine x_iload_n d_M_isBox_4 rfl 0 rfl ?_
    refine x_iconst d_M_isBox_5 ic_3 ?_
    refine x_icmp_ge (tgt := 13) d_M_isBox_6 rfl (fun c2 => ?_) (fun c2 => ?_)
    · replace h := ite_t c2 h
      refine x_iconst d_M_isBox_13 ic_0 ?_
      obtain rfl := Option.some.inj h
      exact x_ret (r := some (.int (0 : Int32))) d_M_isBox_14 ⟨_, rfl, rfl⟩
    · replace h := ite_f c2 h
      refine x_iconst d_M_isBox_9 ic_1 ?_
      refine x_goto (tgt := 14) d_M_isBox_10 rfl ?_
      obtain rfl := Option.some.inj h
      exact x_ret (r := some (.int (1 : Int32))) d_M_isBox_14 ⟨_, rfl, rfl⟩
/-! NinetyPlayersModel.played -/
def b_M_played_4 (F G : Nat) (S : St) (rec : Int32 → Int32 → Option (Int32)) (w1 : Int32) (w2 : Int32) : Option (Int32) :=
  if (S.1 78 48) ≤ w2 then some w1 else gd (inB w2 41) (if (S.1 100 w2.toNatClampNeg) ≤ 0 then bd (fM_truth F G S (0 : Int32)) fun v5 => lt (w1 + v5) fun v6 => lt (w2 + 1) fun v8 => rec v6 v8 else bd (fM_truth F G S (1 : Int32)) fun v11 => lt (w1 + v11) fun v12 => lt (w2 + 1) fun v14 => rec v12 v14)
def fM_played (F G : Nat) (S : St) : Option (Int32) :=
  fx2 (b_M_played_4 F G S) F (0 : Int32) (0 : Int32)
set_option maxRecDepth 100000 in
set_option maxHeartbeats 4000000 in
theorem T_M_played_4 {X : Nat × (Nat → Int32)} {D F G : Nat} (hD : 1 ≤ D + 1) {S : St} : ∀ (f : Nat) (w1 : Int32) (w2 : Int32) (res : Int32), fx2 (b_M_played_4 F G S ) f w1 w2 = some res → Ek X (D + 1) mM_played 4 [(0, .ref 78), (1, .int w1), (2, .int w2)] [] S (some (.int res)) S := by
  refine fx2_ind ?_
  intro rec ih w1 w2 res h
  unfold b_M_played_4 at h
  refine x_iload_n d_M_played_4 rfl 2 rfl ?_
  refine x_aload_n d_M_played_5 rfl 0 rfl ?_
  refine y_getI d_M_played_6 fl_11_322 rfl kd_78 ?_
  refine x_icmp_ge (tgt := 38) d_M_played_9 rfl (fun c1 => ?_) (fun c1 => ?_)
  · replace h := ite_t c1 h
    refine x_iload_n d_M_played_38 rfl 1 rfl ?_
    obtain rfl := Option.some.inj h
    exact x_ret (r := some (.int w1)) d_M_played_39 ⟨_, rfl, rfl⟩
  · replace h := ite_f c1 h
    refine x_iload_n d_M_played_12 rfl 1 rfl ?_
    refine x_aload_n d_M_played_13 rfl 0 rfl ?_
    refine y_getR d_M_played_14 fl_11_93 rfl kd_78 rr_78_58 ?_
    refine x_iload_n d_M_played_17 rfl 2 rfl ?_
    obtain ⟨g2, h⟩ := gd_inv h
    refine y_iald d_M_played_18 kd_100 g2 ?_
    refine x_if_le (tgt := 26) d_M_played_19 rfl (fun c3 => ?_) (fun c3 => ?_)
    · replace h := ite_t c3 h
      refine x_iconst d_M_played_26 ic_0 ?_
      obtain ⟨v5, q4, h⟩ := bd_inv h
      refine y_S1i (v := v5) (S1 := S) d_M_played_27 ml_11_318 (Nat.le_of_ble_eq_true rfl) (Nat.le_of_ble_eq_true rfl) (c_M_truth (by omega) q4) ?_
      refine x_iadd d_M_played_30 ?_
      obtain ⟨v6, e7, h⟩ := lt_inv h
      refine y_istore_n (L1 := [(0, .ref 78), (1, .int v6), (2, .int w2)]) e7 d_M_played_31 rfl (Nat.le_of_ble_eq_true rfl) rfl rfl ?_
      obtain ⟨v8, e9, h⟩ := lt_inv h
      refine y_iinc (L1 := [(0, .ref 78), (1, .int v6), (2, .int v8)]) e9 ic_1 d_M_played_32 2 rfl (Nat.le_of_ble_eq_true rfl) rfl rfl ?_
      refine x_goto (tgt := 4) d_M_played_35 rfl ?_
      exact ih v6 v8 _ h
    · replace h := ite_f c3 h
      refine x_iconst d_M_played_22 ic_1 ?_
      refine x_goto (tgt := 27) d_M_played_23 rfl ?_
      obtain ⟨v11, q10, h⟩ := bd_inv h
      refine y_S1i (v := v11) (S1 := S) d_M_played_27 ml_11_318 (Nat.le_of_ble_eq_true rfl) (Nat.le_of_ble_eq_true rfl) (c_M_truth (by omega) q10) ?_
      refine x_iadd d_M_played_30 ?_
      obtain ⟨v12, e13, h⟩ := lt_inv h
      refine y_istore_n (L1 := [(0, .ref 78), (1, .int v12), (2, .int w2)]) e13 d_M_played_31 rfl (Nat.le_of_ble_eq_true rfl) rfl rfl ?_
      obtain ⟨v14, e15, h⟩ := lt_inv h
      refine y_iinc (L1 := [(0, .ref 78), (1, .int v12), (2, .int v14)]) e15 ic_1 d_M_played_32 2 rfl (Nat.le_of_ble_eq_true rfl) rfl rfl ?_
      refine x_goto (tgt := 4) d_M_played_35 rfl ?_
      exact ih v12 v14 _ h
set_option maxRecDepth 100000 in
set_option maxHeartbeats 4000000 in
theorem c_M_played {X : Nat × (Nat → Int32)} {D F G : Nat} (hD : 1 ≤ D) {S : St} {res : Int32} (h : fM_played F G S  = some res) : Ek X (D) mM_played 0 [(0, .ref 78)] [] S (some (.int res)) S := by
  obtain ⟨D, rfl⟩ : ∃ E, D = E + 1 := ⟨D - 1, by omega⟩
  unfold fM_played at h
  refine x_iconst d_M_played_0 ic_0 ?_
  refine x_istore_n (L1 := [(0, .ref 78), (1, .int (0 : Int32))]) d_M_played_1 rfl (Nat.le_of_ble_eq_true rfl) rfl rfl ?_
  refine x_iconst d_M_played_2 ic_0 ?_
  refine x_istore_n (L1 := [(0, .ref 78), (1, .int (0 : Int32)), (2, .int (0 : Int32))]) d_M_played_3 rfl (Nat.le_of_ble_eq_true rfl) rfl rfl ?_
  refine T_M_played_4 (by omega)   F (0 : Int32) (0 : Int32) _ h
/-! NinetyPlayersModel.image -/
def b_M_image_18 (F G : Nat) (z1 : Int32) (k47 : St → Option (Int32 × St)) (rec : Int32 → St → Option (Int32 × St)) (w2 : Int32) (S : St) : Option (Int32 × St) :=
  if (41 : Int32) ≤ w2 then k47 S else gd (inB w2 41) (gd (inB (((41 : Int32) * z1) + w2) 123) (lt (sI S 116 (((41 : Int32) * z1) + w2).toNatClampNeg (S.1 100 w2.toNatClampNeg)) fun S10 => lt (w2 + 1) fun v12 => rec v12 S10))
def fM_image (F G : Nat) (S : St) (p1 : Int32) : Option (Int32 × St) :=
  bd (fM_isBox F G S p1) fun v2 => if v2 = 0 then some ((-1 : Int32), S) else gd (inB p1 3) (lt (sI S 115 p1.toNatClampNeg (vp_nar .boolean (1 : Int32))) fun S5 => fx2 (b_M_image_18 F G p1 (fun S14 => bd (fM_played F G S14) fun v16 => some (v16, S14))) F (0 : Int32) S5)
set_option maxRecDepth 100000 in
set_option maxHeartbeats 4000000 in
theorem T_M_image_18 {X : Nat × (Nat → Int32)} {D F G : Nat} (hD : 2 ≤ D + 1) {z1 : Int32} {k47 : St → Option (Int32 × St)} (hk47 : ∀ (S1 : St) (res : Int32 × St), k47 S1 = some res → Ek X (D + 1) mM_image 47 [(0, .ref 78)] [] S1 (some (.int res.1)) res.2) : ∀ (f : Nat) (w2 : Int32) (S : St) (res : Int32 × St), fx2 (b_M_image_18 F G z1 k47 ) f w2 S = some res → Ek X (D + 1) mM_image 18 [(0, .ref 78), (1, .int z1), (2, .int w2)] [] S (some (.int res.1)) res.2 := by
  refine fx2_ind ?_
  intro rec ih w2 S res h
  unfold b_M_image_18 at h
  refine x_iload_n d_M_image_18 rfl 2 rfl ?_
  refine x_bipush d_M_image_19 bp_41 ?_
  refine x_icmp_ge (tgt := 47) d_M_image_21 rfl (fun c7 => ?_) (fun c7 => ?_)
  · replace h := ite_t c7 h
    refine y_pick (L1 := [(0, .ref 78)]) [0] rfl ?_
    exact hk47 S _ h
  · replace h := ite_f c7 h
    refine x_aload_n d_M_image_24 rfl 0 rfl ?_
    refine y_getR d_M_image_25 fl_11_142 rfl kd_78 rr_78_79 ?_
    refine x_bipush d_M_image_28 bp_41 ?_
    refine x_iload_n d_M_image_30 rfl 1 rfl ?_
    refine x_imul d_M_image_31 ?_
    refine x_iload_n d_M_image_32 rfl 2 rfl ?_
    refine x_iadd d_M_image_33 ?_
    refine x_aload_n d_M_image_34 rfl 0 rfl ?_
    refine y_getR d_M_image_35 fl_11_93 rfl kd_78 rr_78_58 ?_
    refine x_iload_n d_M_image_38 rfl 2 rfl ?_
    obtain ⟨g8, h⟩ := gd_inv h
    refine y_iald d_M_image_39 kd_100 g8 ?_
    obtain ⟨g9, h⟩ := gd_inv h
    obtain ⟨S10, e11, h⟩ := lt_inv h
    refine y_iast e11 d_M_image_40 kd_116 g9 ?_
    obtain ⟨v12, e13, h⟩ := lt_inv h
    refine y_iinc (L1 := [(0, .ref 78), (1, .int z1), (2, .int v12)]) e13 ic_1 d_M_image_41 2 rfl (Nat.le_of_ble_eq_true rfl) rfl rfl ?_
    refine x_goto (tgt := 18) d_M_image_44 rfl ?_
    exact ih v12 S10 _ h
set_option maxRecDepth 100000 in
set_option maxHeartbeats 4000000 in
theorem c_M_image {X : Nat × (Nat → Int32)} {D F G : Nat} (hD : 2 ≤ D) {S : St} {p1 : Int32} {res : Int32 × St} (h : fM_image F G S p1 = some res) : Ek X (D) mM_image 0 [(0, .ref 78), (1, .int p1)] [] S (some (.int res.1)) res.2 := by
  obtain ⟨D, rfl⟩ : ∃ E, D = E + 1 := ⟨D - 1, by omega⟩
  unfold fM_image at h
  refine x_iload_n d_M_image_0 rfl 1 rfl ?_
  obtain ⟨v2, q1, h⟩ := bd_inv h
  refine y_S1i (v := v2) (S1 := S) d_M_image_1 ml_11_553 (Nat.le_of_ble_eq_true rfl) (Nat.le_of_ble_eq_true rfl) (c_M_isBox (by omega) q1) ?_
  refine x_if_ne (tgt := 9) d_M_image_4 rfl (fun c3 => ?_) (fun c3 => ?_)
  · replace h := ite_f c3 h
    refine x_aload_n d_M_image_9 rfl 0 rfl ?_
    refine y_getR d_M_image_10 fl_11_139 rfl kd_78 rr_78_78 ?_
    refine x_iload_n d_M_image_13 rfl 1 rfl ?_
    refine x_iconst d_M_image_14 ic_1 ?_
    obtain ⟨g4, h⟩ := gd_inv h
    obtain ⟨S5, e6, h⟩ := lt_inv h
    refine y_zast e6 d_M_image_15 kd_115 g4 ?_
    refine x_iconst d_M_image_16 ic_0 ?_
    refine x_istore_n (L1 := [(0, .ref 78), (1, .int p1), (2, .int (0 : Int32))]) d_M_image_17 rfl (Nat.le_of_ble_eq_true rfl) rfl rfl ?_
    refine T_M_image_18 (by omega)  ?_ F (0 : Int32) S5 _ h
    · intro S14 res h
      refine x_aload_n d_M_image_47 rfl 0 rfl ?_
      obtain ⟨v16, q15, h⟩ := bd_inv h
      refine y_V0i (v := v16) (S1 := S14) d_M_image_48 ml_11_556 kd_78 rfl (Nat.le_of_ble_eq_true rfl) (Nat.le_of_ble_eq_true rfl) (c_M_played (by omega) q15) ?_
      obtain rfl := Option.some.inj h
      exact x_ret (r := some (.int v16)) d_M_image_51 ⟨_, rfl, rfl⟩
  · replace h := ite_t c3 h
    refine x_iconst d_M_image_7 ic_m1 ?_
    obtain rfl := Option.some.inj h
    exact x_ret (r := some (.int (-1 : Int32))) d_M_image_8 ⟨_, rfl, rfl⟩
/-! NinetyPlayers.isKept -/
def fN_isKept (F G : Nat) (S : St) (p1 : Int32) : Option (Int32) :=
  if p1 < 0 then some (0 : Int32) else if (Int32.ofNat 3) ≤ p1 then some (0 : Int32) else gd (inB p1 3) (if (S.1 (36 + 5 * p1.toNatClampNeg) 0) = 0 then some (0 : Int32) else some (1 : Int32))
set_option maxRecDepth 100000 in
set_option maxHeartbeats 4000000 in
theorem c_N_isKept {X : Nat × (Nat → Int32)} {D F G : Nat} (hD : 0 ≤ D) {S : St} {p1 : Int32} {res : Int32} (h : fN_isKept F G S p1 = some res) : Ek X (D) mN_isKept 0 [(0, .ref 0), (1, .int p1)] [] S (some (.int res)) S := by
  unfold fN_isKept at h
  refine x_iload_n d_N_isKept_0 rfl 1 rfl ?_
  refine x_if_lt (tgt := 29) d_N_isKept_1 rfl (fun c1 => ?_) (fun c1 => ?_)
  · replace h := ite_t c1 h
    refine x_iconst d_N_isKept_29 ic_0 ?_
    obtain rfl := Option.some.inj h
    exact x_ret (r := some (.int (0 : Int32))) d_N_isKept_30 ⟨_, rfl, rfl⟩
  · replace h := ite_f c1 h
    refine x_iload_n d_N_isKept_4 rfl 1 rfl ?_
    refine x_aload_n d_N_isKept_5 rfl 0 rfl ?_
    refine y_getR d_N_isKept_6 fl_0_36 rfl kd_0 rr_0_5 ?_
    refine x_alen5 d_N_isKept_9 kd_35 ?_
    refine x_icmp_ge (tgt := 29) d_N_isKept_10 rfl (fun c2 => ?_) (fun c2 => ?_)
    · replace h := ite_t c2 h
      refine x_iconst d_N_isKept_29 ic_0 ?_
      obtain rfl := Option.some.inj h
      exact x_ret (r := some (.int (0 : Int32))) d_N_isKept_30 ⟨_, rfl, rfl⟩
    · replace h := ite_f c2 h
      refine x_aload_n d_N_isKept_13 rfl 0 rfl ?_
      refine y_getR d_N_isKept_14 fl_0_36 rfl kd_0 rr_0_5 ?_
      refine x_iload_n d_N_isKept_17 rfl 1 rfl ?_
      obtain ⟨g3, h⟩ := gd_inv h
      refine y_aald d_N_isKept_18 g3 ?_
      refine y_getI d_N_isKept_19 fl_0_113 rfl (ksLa (isLa_box (inB_lt g3))) ?_
      refine x_if_eq (tgt := 29) d_N_isKept_22 rfl (fun c4 => ?_) (fun c4 => ?_)
      · replace h := ite_t c4 h
        refine x_iconst d_N_isKept_29 ic_0 ?_
        obtain rfl := Option.some.inj h
        exact x_ret (r := some (.int (0 : Int32))) d_N_isKept_30 ⟨_, rfl, rfl⟩
      · replace h := ite_f c4 h
        refine x_iconst d_N_isKept_25 ic_1 ?_
        refine x_goto (tgt := 30) d_N_isKept_26 rfl ?_
        obtain rfl := Option.some.inj h
        exact x_ret (r := some (.int (1 : Int32))) d_N_isKept_30 ⟨_, rfl, rfl⟩
/-! NinetyPlayers.back -/
def fN_back (F G : Nat) (S : St) (p1 : Int32) : Option (Int32 × St) :=
  bd (fN_isKept F G S p1) fun v2 => if v2 = 0 then some ((-1 : Int32), S) else gd (inB p1 3) (bd (fL_copy F G S 30 (36 + 5 * p1.toNatClampNeg)) fun S6 => bd (fC_forget F G S6 ) fun S8 => bd (fN_givenSet F G S8) fun v10 => bd (fJ_bitCount F G S8 v10) fun v12 => some (v12, S8))
set_option maxRecDepth 100000 in
set_option maxHeartbeats 4000000 in
theorem c_N_back {X : Nat × (Nat → Int32)} {D F G : Nat} (hD : 2 ≤ D) {S : St} {p1 : Int32} {res : Int32 × St} (h : fN_back F G S p1 = some res) : Ek X (D) mN_back 0 [(0, .ref 0), (1, .int p1)] [] S (some (.int res.1)) res.2 := by
  obtain ⟨D, rfl⟩ : ∃ E, D = E + 1 := ⟨D - 1, by omega⟩
  unfold fN_back at h
  refine x_aload_n d_N_back_0 rfl 0 rfl ?_
  refine x_iload_n d_N_back_1 rfl 1 rfl ?_
  obtain ⟨v2, q1, h⟩ := bd_inv h
  refine y_V1i (v := v2) (S1 := S) d_N_back_2 ml_0_340 kd_0 rfl (Nat.le_of_ble_eq_true rfl) (Nat.le_of_ble_eq_true rfl) (c_N_isKept (by omega) q1) ?_
  refine x_if_ne (tgt := 10) d_N_back_5 rfl (fun c3 => ?_) (fun c3 => ?_)
  · replace h := ite_f c3 h
    refine x_aload_n d_N_back_10 rfl 0 rfl ?_
    refine y_getR d_N_back_11 fl_0_32 rfl kd_0 rr_0_4 ?_
    refine x_aload_n d_N_back_14 rfl 0 rfl ?_
    refine y_getR d_N_back_15 fl_0_36 rfl kd_0 rr_0_5 ?_
    refine x_iload_n d_N_back_18 rfl 1 rfl ?_
    obtain ⟨g4, h⟩ := gd_inv h
    refine y_aald d_N_back_19 g4 ?_
    obtain ⟨S6, q5, h⟩ := bd_inv h
    refine y_V1v (S1 := S6) d_N_back_20 ml_0_336 kd_30 rfl (Nat.le_of_ble_eq_true rfl) (Nat.le_of_ble_eq_true rfl) (c_L_copy (by omega) q5) ?_
    refine x_aload_n d_N_back_23 rfl 0 rfl ?_
    refine y_getR d_N_back_24 fl_0_43 rfl kd_0 rr_0_6 ?_
    obtain ⟨S8, q7, h⟩ := bd_inv h
    refine y_V0v (S1 := S8) d_N_back_27 ml_0_106 kd_51 rfl (Nat.le_of_ble_eq_true rfl) (Nat.le_of_ble_eq_true rfl) (c_C_forget (by omega) q7) ?_
    refine x_aload_n d_N_back_30 rfl 0 rfl ?_
    obtain ⟨v10, q9, h⟩ := bd_inv h
    refine y_V0i (v := v10) (S1 := S8) d_N_back_31 ml_0_163 kd_0 rfl (Nat.le_of_ble_eq_true rfl) (Nat.le_of_ble_eq_true rfl) (c_N_givenSet (by omega) q9) ?_
    obtain ⟨v12, q11, h⟩ := bd_inv h
    refine y_S1i (v := v12) (S1 := S8) d_N_back_34 ml_0_206 (Nat.le_of_ble_eq_true rfl) (Nat.le_of_ble_eq_true rfl) (c_J_bitCount (by omega) q11) ?_
    obtain rfl := Option.some.inj h
    exact x_ret (r := some (.int v12)) d_N_back_37 ⟨_, rfl, rfl⟩
  · replace h := ite_t c3 h
    refine x_iconst d_N_back_8 ic_m1 ?_
    obtain rfl := Option.some.inj h
    exact x_ret (r := some (.int (-1 : Int32))) d_N_back_9 ⟨_, rfl, rfl⟩
/-! NinetyPlayersModel.back -/
def b_M_back_20 (F G : Nat) (z1 : Int32) (k49 : St → Option (Int32 × St)) (rec : Int32 → St → Option (Int32 × St)) (w2 : Int32) (S : St) : Option (Int32 × St) :=
  if (41 : Int32) ≤ w2 then k49 S else gd (inB (((41 : Int32) * z1) + w2) 123) (gd (inB w2 41) (lt (sI S 100 w2.toNatClampNeg (S.1 116 (((41 : Int32) * z1) + w2).toNatClampNeg)) fun S9 => lt (w2 + 1) fun v11 => rec v11 S9))
def fM_back (F G : Nat) (S : St) (p1 : Int32) : Option (Int32 × St) :=
  bd (fM_isBox F G S p1) fun v2 => if v2 = 0 then some ((-1 : Int32), S) else gd (inB p1 3) (if (S.1 115 p1.toNatClampNeg) = 0 then some ((-1 : Int32), S) else fx2 (b_M_back_20 F G p1 (fun S13 => lt (sI S13 78 63 (0 : Int32)) fun S14 => lt (sI S14 78 64 (0 : Int32)) fun S16 => bd (fM_played F G S16) fun v19 => some (v19, S16))) F (0 : Int32) S)
set_option maxRecDepth 100000 in
set_option maxHeartbeats 4000000 in
theorem T_M_back_20 {X : Nat × (Nat → Int32)} {D F G : Nat} (hD : 2 ≤ D + 1) {z1 : Int32} {k49 : St → Option (Int32 × St)} (hk49 : ∀ (S1 : St) (res : Int32 × St), k49 S1 = some res → Ek X (D + 1) mM_back 49 [(0, .ref 78)] [] S1 (some (.int res.1)) res.2) : ∀ (f : Nat) (w2 : Int32) (S : St) (res : Int32 × St), fx2 (b_M_back_20 F G z1 k49 ) f w2 S = some res → Ek X (D + 1) mM_back 20 [(0, .ref 78), (1, .int z1), (2, .int w2)] [] S (some (.int res.1)) res.2 := by
  refine fx2_ind ?_
  intro rec ih w2 S res h
  unfold b_M_back_20 at h
  refine x_iload_n d_M_back_20 rfl 2 rfl ?_
  refine x_bipush d_M_back_21 bp_41 ?_
  refine x_icmp_ge (tgt := 49) d_M_back_23 rfl (fun c6 => ?_) (fun c6 => ?_)
  · replace h := ite_t c6 h
    refine y_pick (L1 := [(0, .ref 78)]) [0] rfl ?_
    exact hk49 S _ h
  · replace h := ite_f c6 h
    refine x_aload_n d_M_back_26 rfl 0 rfl ?_
    refine y_getR d_M_back_27 fl_11_93 rfl kd_78 rr_78_58 ?_
    refine x_iload_n d_M_back_30 rfl 2 rfl ?_
    refine x_aload_n d_M_back_31 rfl 0 rfl ?_
    refine y_getR d_M_back_32 fl_11_142 rfl kd_78 rr_78_79 ?_
    refine x_bipush d_M_back_35 bp_41 ?_
    refine x_iload_n d_M_back_37 rfl 1 rfl ?_
    refine x_imul d_M_back_38 ?_
    refine x_iload_n d_M_back_39 rfl 2 rfl ?_
    refine x_iadd d_M_back_40 ?_
    obtain ⟨g7, h⟩ := gd_inv h
    refine y_iald d_M_back_41 kd_116 g7 ?_
    obtain ⟨g8, h⟩ := gd_inv h
    obtain ⟨S9, e10, h⟩ := lt_inv h
    refine y_iast e10 d_M_back_42 kd_100 g8 ?_
    obtain ⟨v11, e12, h⟩ := lt_inv h
    refine y_iinc (L1 := [(0, .ref 78), (1, .int z1), (2, .int v11)]) e12 ic_1 d_M_back_43 2 rfl (Nat.le_of_ble_eq_true rfl) rfl rfl ?_
    refine x_goto (tgt := 20) d_M_back_46 rfl ?_
    exact ih v11 S9 _ h
set_option maxRecDepth 100000 in
set_option maxHeartbeats 4000000 in
theorem c_M_back {X : Nat × (Nat → Int32)} {D F G : Nat} (hD : 2 ≤ D) {S : St} {p1 : Int32} {res : Int32 × St} (h : fM_back F G S p1 = some res) : Ek X (D) mM_back 0 [(0, .ref 78), (1, .int p1)] [] S (some (.int res.1)) res.2 := by
  obtain ⟨D, rfl⟩ : ∃ E, D = E + 1 := ⟨D - 1, by omega⟩
  unfold fM_back at h
  refine x_iload_n d_M_back_0 rfl 1 rfl ?_
  obtain ⟨v2, q1, h⟩ := bd_inv h
  refine y_S1i (v := v2) (S1 := S) d_M_back_1 ml_11_553 (Nat.le_of_ble_eq_true rfl) (Nat.le_of_ble_eq_true rfl) (c_M_isBox (by omega) q1) ?_
  refine x_if_eq (tgt := 16) d_M_back_4 rfl (fun c3 => ?_) (fun c3 => ?_)
  · replace h := ite_t c3 h
    refine x_iconst d_M_back_16 ic_m1 ?_
    obtain rfl := Option.some.inj h
    exact x_ret (r := some (.int (-1 : Int32))) d_M_back_17 ⟨_, rfl, rfl⟩
  · replace h := ite_f c3 h
    refine x_aload_n d_M_back_7 rfl 0 rfl ?_
    refine y_getR d_M_back_8 fl_11_139 rfl kd_78 rr_78_78 ?_
    refine x_iload_n d_M_back_11 rfl 1 rfl ?_
    obtain ⟨g4, h⟩ := gd_inv h
    refine y_zald d_M_back_12 kd_115 g4 ?_
    refine x_if_ne (tgt := 18) d_M_back_13 rfl (fun c5 => ?_) (fun c5 => ?_)
    · replace h := ite_f c5 h
      refine x_iconst d_M_back_18 ic_0 ?_
      refine x_istore_n (L1 := [(0, .ref 78), (1, .int p1), (2, .int (0 : Int32))]) d_M_back_19 rfl (Nat.le_of_ble_eq_true rfl) rfl rfl ?_
      refine T_M_back_20 (by omega)  ?_ F (0 : Int32) S _ h
      · intro S13 res h
        refine x_aload_n d_M_back_49 rfl 0 rfl ?_
        refine x_iconst d_M_back_50 ic_0 ?_
        obtain ⟨S14, e15, h⟩ := lt_inv h
        refine y_putI e15 d_M_back_51 fl_11_417 rfl rfl kd_78 rfl rfl ?_
        refine x_aload_n d_M_back_54 rfl 0 rfl ?_
        refine x_iconst d_M_back_55 ic_0 ?_
        obtain ⟨S16, e17, h⟩ := lt_inv h
        refine y_putI e17 d_M_back_56 fl_11_420 rfl rfl kd_78 rfl rfl ?_
        refine x_aload_n d_M_back_59 rfl 0 rfl ?_
        obtain ⟨v19, q18, h⟩ := bd_inv h
        refine y_V0i (v := v19) (S1 := S16) d_M_back_60 ml_11_556 kd_78 rfl (Nat.le_of_ble_eq_true rfl) (Nat.le_of_ble_eq_true rfl) (c_M_played (by omega) q18) ?_
        obtain rfl := Option.some.inj h
        exact x_ret (r := some (.int v19)) d_M_back_63 ⟨_, rfl, rfl⟩
    · replace h := ite_t c5 h
      refine x_iconst d_M_back_16 ic_m1 ?_
      obtain rfl := Option.some.inj h
      exact x_ret (r := some (.int (-1 : Int32))) d_M_back_17 ⟨_, rfl, rfl⟩
/-! NinetyPlayers$Laying.differsAt -/
def fL_differsAt (F G : Nat) (S : St) (o : Nat) (p1 : Int32) (o3 : Nat) : Option (Int32) :=
  gd (isLa o) (gd (isLa o3) (gd (inB p1 10) (gd (inB p1 10) (if (S.1 (o + 1) p1.toNatClampNeg) = (S.1 (o3 + 1) p1.toNatClampNeg) then gd (inB p1 10) (gd (inB p1 10) (if (S.1 (o + 2) p1.toNatClampNeg) = (S.1 (o3 + 2) p1.toNatClampNeg) then gd (inB p1 10) (gd (inB p1 10) (if (S.1 (o + 3) p1.toNatClampNeg) = (S.1 (o3 + 3) p1.toNatClampNeg) then gd (inB p1 10) (gd (inB p1 10) (if (S.1 (o + 4) p1.toNatClampNeg) = (S.1 (o3 + 4) p1.toNatClampNeg) then some (0 : Int32) else some (1 : Int32))) else some (1 : Int32))) else some (1 : Int32))) else some (1 : Int32)))))
set_option maxRecDepth 100000 in
set_option maxHeartbeats 4000000 in
theorem c_L_differsAt {X : Nat × (Nat → Int32)} {D F G : Nat} (hD : 0 ≤ D) {S : St} {o : Nat} {p1 : Int32} {o3 : Nat} {res : Int32} (h : fL_differsAt F G S o p1 o3 = some res) : Ek X (D) mL_differsAt 0 [(0, .ref o), (1, .int p1), (2, .ref o3)] [] S (some (.int res)) S := by
  unfold fL_differsAt at h
  obtain ⟨gg0, h⟩ := gd_inv h
  obtain ⟨gg1, h⟩ := gd_inv h
  refine x_aload_n d_L_differsAt_0 rfl 0 rfl ?_
  refine y_getR d_L_differsAt_1 fl_5_9 rfl (ksLa gg0) (rrLa_2 gg0) ?_
  refine x_iload_n d_L_differsAt_4 rfl 1 rfl ?_
  obtain ⟨g1, h⟩ := gd_inv h
  refine y_iald d_L_differsAt_5 (ksLa_1 gg0) g1 ?_
  refine x_aload_n d_L_differsAt_6 rfl 2 rfl ?_
  refine y_getR d_L_differsAt_7 fl_5_9 rfl (ksLa gg1) (rrLa_2 gg1) ?_
  refine x_iload_n d_L_differsAt_10 rfl 1 rfl ?_
  obtain ⟨g2, h⟩ := gd_inv h
  refine y_iald d_L_differsAt_11 (ksLa_1 gg1) g2 ?_
  refine x_icmp_ne (tgt := 60) d_L_differsAt_12 rfl (fun c3 => ?_) (fun c3 => ?_)
  · replace h := ite_f c3 h
    refine x_iconst d_L_differsAt_60 ic_1 ?_
    refine x_goto (tgt := 65) d_L_differsAt_61 rfl ?_
    obtain rfl := Option.some.inj h
    exact x_ret (r := some (.int (1 : Int32))) d_L_differsAt_65 ⟨_, rfl, rfl⟩
  · replace h := ite_t c3 h
    refine x_aload_n d_L_differsAt_15 rfl 0 rfl ?_
    refine y_getR d_L_differsAt_16 fl_5_15 rfl (ksLa gg0) (rrLa_3 gg0) ?_
    refine x_iload_n d_L_differsAt_19 rfl 1 rfl ?_
    obtain ⟨g4, h⟩ := gd_inv h
    refine y_iald d_L_differsAt_20 (ksLa_2 gg0) g4 ?_
    refine x_aload_n d_L_differsAt_21 rfl 2 rfl ?_
    refine y_getR d_L_differsAt_22 fl_5_15 rfl (ksLa gg1) (rrLa_3 gg1) ?_
    refine x_iload_n d_L_differsAt_25 rfl 1 rfl ?_
    obtain ⟨g5, h⟩ := gd_inv h
    refine y_iald d_L_differsAt_26 (ksLa_2 gg1) g5 ?_
    refine x_icmp_ne (tgt := 60) d_L_differsAt_27 rfl (fun c6 => ?_) (fun c6 => ?_)
    · replace h := ite_f c6 h
      refine x_iconst d_L_differsAt_60 ic_1 ?_
      refine x_goto (tgt := 65) d_L_differsAt_61 rfl ?_
      obtain rfl := Option.some.inj h
      exact x_ret (r := some (.int (1 : Int32))) d_L_differsAt_65 ⟨_, rfl, rfl⟩
    · replace h := ite_t c6 h
      refine x_aload_n d_L_differsAt_30 rfl 0 rfl ?_
      refine y_getR d_L_differsAt_31 fl_5_18 rfl (ksLa gg0) (rrLa_4 gg0) ?_
      refine x_iload_n d_L_differsAt_34 rfl 1 rfl ?_
      obtain ⟨g7, h⟩ := gd_inv h
      refine y_iald d_L_differsAt_35 (ksLa_3 gg0) g7 ?_
      refine x_aload_n d_L_differsAt_36 rfl 2 rfl ?_
      refine y_getR d_L_differsAt_37 fl_5_18 rfl (ksLa gg1) (rrLa_4 gg1) ?_
      refine x_iload_n d_L_differsAt_40 rfl 1 rfl ?_
      obtain ⟨g8, h⟩ := gd_inv h
      refine y_iald d_L_differsAt_41 (ksLa_3 gg1) g8 ?_
      refine x_icmp_ne (tgt := 60) d_L_differsAt_42 rfl (fun c9 => ?_) (fun c9 => ?_)
      · replace h := ite_f c9 h
        refine x_iconst d_L_differsAt_60 ic_1 ?_
        refine x_goto (tgt := 65) d_L_differsAt_61 rfl ?_
        obtain rfl := Option.some.inj h
        exact x_ret (r := some (.int (1 : Int32))) d_L_differsAt_65 ⟨_, rfl, rfl⟩
      · replace h := ite_t c9 h
        refine x_aload_n d_L_differsAt_45 rfl 0 rfl ?_
        refine y_getR d_L_differsAt_46 fl_5_21 rfl (ksLa gg0) (rrLa_5 gg0) ?_
        refine x_iload_n d_L_differsAt_49 rfl 1 rfl ?_
        obtain ⟨g10, h⟩ := gd_inv h
        refine y_iald d_L_differsAt_50 (ksLa_4 gg0) g10 ?_
        refine x_aload_n d_L_differsAt_51 rfl 2 rfl ?_
        refine y_getR d_L_differsAt_52 fl_5_21 rfl (ksLa gg1) (rrLa_5 gg1) ?_
        refine x_iload_n d_L_differsAt_55 rfl 1 rfl ?_
        obtain ⟨g11, h⟩ := gd_inv h
        refine y_iald d_L_differsAt_56 (ksLa_4 gg1) g11 ?_
        refine x_icmp_eq (tgt := 64) d_L_differsAt_57 rfl (fun c12 => ?_) (fun c12 => ?_)
        · replace h := ite_t c12 h
          refine x_iconst d_L_differsAt_64 ic_0 ?_
          obtain rfl := Option.some.inj h
          exact x_ret (r := some (.int (0 : Int32))) d_L_differsAt_65 ⟨_, rfl, rfl⟩
        · replace h := ite_f c12 h
          refine x_iconst d_L_differsAt_60 ic_1 ?_
          refine x_goto (tgt := 65) d_L_differsAt_61 rfl ?_
          obtain rfl := Option.some.inj h
          exact x_ret (r := some (.int (1 : Int32))) d_L_differsAt_65 ⟨_, rfl, rfl⟩
/-! NinetyPlayers.differ -/
def b_N_differ_14 (F G : Nat) (S : St) (z1 : Int32) (rec : Int32 → Int32 → Option (Int32)) (w2 : Int32) (w3 : Int32) : Option (Int32) :=
  gd (isSc S.2.2.1) (if (S.1 S.2.2.1 6) ≤ w3 then some w2 else gd (inB z1 3) (bd (fL_differsAt F G S 30 w3 (36 + 5 * z1.toNatClampNeg)) fun v8 => if v8 = 0 then lt (w3 + 1) fun v10 => rec w2 v10 else lt (w2 ||| ((1 : Int32) <<< (w3 &&& 31))) fun v12 => lt (w3 + 1) fun v14 => rec v12 v14))
def fN_differ (F G : Nat) (S : St) (p1 : Int32) : Option (Int32) :=
  bd (fN_isKept F G S p1) fun v2 => if v2 = 0 then some (-1 : Int32) else fx2 (b_N_differ_14 F G S p1) F (0 : Int32) (0 : Int32)
set_option maxRecDepth 100000 in
set_option maxHeartbeats 4000000 in
theorem T_N_differ_14 {X : Nat × (Nat → Int32)} {D F G : Nat} (hD : 1 ≤ D + 1) {S : St} {z1 : Int32} : ∀ (f : Nat) (w2 : Int32) (w3 : Int32) (res : Int32), fx2 (b_N_differ_14 F G S z1 ) f w2 w3 = some res → Ek X (D + 1) mN_differ 14 [(0, .ref 0), (1, .int z1), (2, .int w2), (3, .int w3)] [] S (some (.int res)) S := by
  refine fx2_ind ?_
  intro rec ih w2 w3 res h
  unfold b_N_differ_14 at h
  refine x_iload_n d_N_differ_14 rfl 3 rfl ?_
  refine x_aload_n d_N_differ_15 rfl 0 rfl ?_
  refine y_getR d_N_differ_16 fl_0_25 rfl kd_0 rr_told ?_
  obtain ⟨g4, h⟩ := gd_inv h
  refine y_getI d_N_differ_19 fl_0_117 rfl (ksSc g4) ?_
  refine x_icmp_ge (tgt := 54) d_N_differ_22 rfl (fun c5 => ?_) (fun c5 => ?_)
  · replace h := ite_t c5 h
    refine x_iload_n d_N_differ_54 rfl 2 rfl ?_
    obtain rfl := Option.some.inj h
    exact x_ret (r := some (.int w2)) d_N_differ_55 ⟨_, rfl, rfl⟩
  · replace h := ite_f c5 h
    refine x_aload_n d_N_differ_25 rfl 0 rfl ?_
    refine y_getR d_N_differ_26 fl_0_32 rfl kd_0 rr_0_4 ?_
    refine x_iload_n d_N_differ_29 rfl 3 rfl ?_
    refine x_aload_n d_N_differ_30 rfl 0 rfl ?_
    refine y_getR d_N_differ_31 fl_0_36 rfl kd_0 rr_0_5 ?_
    refine x_iload_n d_N_differ_34 rfl 1 rfl ?_
    obtain ⟨g6, h⟩ := gd_inv h
    refine y_aald d_N_differ_35 g6 ?_
    obtain ⟨v8, q7, h⟩ := bd_inv h
    refine y_V2i (v := v8) (S1 := S) d_N_differ_36 ml_0_343 kd_30 rfl (Nat.le_of_ble_eq_true rfl) (Nat.le_of_ble_eq_true rfl) (c_L_differsAt (by omega) q7) ?_
    refine x_if_eq (tgt := 48) d_N_differ_39 rfl (fun c9 => ?_) (fun c9 => ?_)
    · replace h := ite_t c9 h
      obtain ⟨v10, e11, h⟩ := lt_inv h
      refine y_iinc (L1 := [(0, .ref 0), (1, .int z1), (2, .int w2), (3, .int v10)]) e11 ic_1 d_N_differ_48 3 rfl (Nat.le_of_ble_eq_true rfl) rfl rfl ?_
      refine x_goto (tgt := 14) d_N_differ_51 rfl ?_
      exact ih w2 v10 _ h
    · replace h := ite_f c9 h
      refine x_iload_n d_N_differ_42 rfl 2 rfl ?_
      refine x_iconst d_N_differ_43 ic_1 ?_
      refine x_iload_n d_N_differ_44 rfl 3 rfl ?_
      refine x_ishl d_N_differ_45 ?_
      refine x_ior d_N_differ_46 ?_
      obtain ⟨v12, e13, h⟩ := lt_inv h
      refine y_istore_n (L1 := [(0, .ref 0), (1, .int z1), (2, .int v12), (3, .int w3)]) e13 d_N_differ_47 rfl (Nat.le_of_ble_eq_true rfl) rfl rfl ?_
      obtain ⟨v14, e15, h⟩ := lt_inv h
      refine y_iinc (L1 := [(0, .ref 0), (1, .int z1), (2, .int v12), (3, .int v14)]) e15 ic_1 d_N_differ_48 3 rfl (Nat.le_of_ble_eq_true rfl) rfl rfl ?_
      refine x_goto (tgt := 14) d_N_differ_51 rfl ?_
      exact ih v12 v14 _ h
set_option maxRecDepth 100000 in
set_option maxHeartbeats 4000000 in
theorem c_N_differ {X : Nat × (Nat → Int32)} {D F G : Nat} (hD : 1 ≤ D) {S : St} {p1 : Int32} {res : Int32} (h : fN_differ F G S p1 = some res) : Ek X (D) mN_differ 0 [(0, .ref 0), (1, .int p1)] [] S (some (.int res)) S := by
  obtain ⟨D, rfl⟩ : ∃ E, D = E + 1 := ⟨D - 1, by omega⟩
  unfold fN_differ at h
  refine x_aload_n d_N_differ_0 rfl 0 rfl ?_
  refine x_iload_n d_N_differ_1 rfl 1 rfl ?_
  obtain ⟨v2, q1, h⟩ := bd_inv h
  refine y_V1i (v := v2) (S1 := S) d_N_differ_2 ml_0_340 kd_0 rfl (Nat.le_of_ble_eq_true rfl) (Nat.le_of_ble_eq_true rfl) (c_N_isKept (by omega) q1) ?_
  refine x_if_ne (tgt := 10) d_N_differ_5 rfl (fun c3 => ?_) (fun c3 => ?_)
  · replace h := ite_f c3 h
    refine x_iconst d_N_differ_10 ic_0 ?_
    refine x_istore_n (L1 := [(0, .ref 0), (1, .int p1), (2, .int (0 : Int32))]) d_N_differ_11 rfl (Nat.le_of_ble_eq_true rfl) rfl rfl ?_
    refine x_iconst d_N_differ_12 ic_0 ?_
    refine x_istore_n (L1 := [(0, .ref 0), (1, .int p1), (2, .int (0 : Int32)), (3, .int (0 : Int32))]) d_N_differ_13 rfl (Nat.le_of_ble_eq_true rfl) rfl rfl ?_
    refine T_N_differ_14 (by omega)   F (0 : Int32) (0 : Int32) _ h
  · replace h := ite_t c3 h
    refine x_iconst d_N_differ_8 ic_m1 ?_
    obtain rfl := Option.some.inj h
    exact x_ret (r := some (.int (-1 : Int32))) d_N_differ_9 ⟨_, rfl, rfl⟩
/-! NinetyPlayersModel.differ -/
def b_M_differ_22 (F G : Nat) (S : St) (z1 : Int32) (rec : Int32 → Int32 → Option (Int32)) (w2 : Int32) (w3 : Int32) : Option (Int32) :=
  if (40 : Int32) ≤ w3 then some w2 else gd (inB (((41 : Int32) * z1) + w3) 123) (gd (inB w3 41) (if (S.1 116 (((41 : Int32) * z1) + w3).toNatClampNeg) = (S.1 100 w3.toNatClampNeg) then lt (w3 + 1) fun v10 => rec w2 v10 else lt (w2 ||| ((1 : Int32) <<< ((w3 - w3 / (10 : Int32) * (10 : Int32)) &&& 31))) fun v12 => lt (w3 + 1) fun v14 => rec v12 v14))
def fM_differ (F G : Nat) (S : St) (p1 : Int32) : Option (Int32) :=
  bd (fM_isBox F G S p1) fun v2 => if v2 = 0 then some (-1 : Int32) else gd (inB p1 3) (if (S.1 115 p1.toNatClampNeg) = 0 then some (-1 : Int32) else fx2 (b_M_differ_22 F G S p1) F (0 : Int32) (0 : Int32))
set_option maxRecDepth 100000 in
set_option maxHeartbeats 4000000 in
theorem T_M_differ_22 {X : Nat × (Nat → Int32)} {D F G : Nat} (hD : 1 ≤ D + 1) {S : St} {z1 : Int32} : ∀ (f : Nat) (w2 : Int32) (w3 : Int32) (res : Int32), fx2 (b_M_differ_22 F G S z1 ) f w2 w3 = some res → Ek X (D + 1) mM_differ 22 [(0, .ref 78), (1, .int z1), (2, .int w2), (3, .int w3)] [] S (some (.int res)) S := by
  refine fx2_ind ?_
  intro rec ih w2 w3 res h
  unfold b_M_differ_22 at h
  refine x_iload_n d_M_differ_22 rfl 3 rfl ?_
  refine x_bipush d_M_differ_23 bp_40 ?_
  refine x_icmp_ge (tgt := 63) d_M_differ_25 rfl (fun c6 => ?_) (fun c6 => ?_)
  · replace h := ite_t c6 h
    refine x_iload_n d_M_differ_63 rfl 2 rfl ?_
    obtain rfl := Option.some.inj h
    exact x_ret (r := some (.int w2)) d_M_differ_64 ⟨_, rfl, rfl⟩
  · replace h := ite_f c6 h
    refine x_aload_n d_M_differ_28 rfl 0 rfl ?_
    refine y_getR d_M_differ_29 fl_11_142 rfl kd_78 rr_78_79 ?_
    refine x_bipush d_M_differ_32 bp_41 ?_
    refine x_iload_n d_M_differ_34 rfl 1 rfl ?_
    refine x_imul d_M_differ_35 ?_
    refine x_iload_n d_M_differ_36 rfl 3 rfl ?_
    refine x_iadd d_M_differ_37 ?_
    obtain ⟨g7, h⟩ := gd_inv h
    refine y_iald d_M_differ_38 kd_116 g7 ?_
    refine x_aload_n d_M_differ_39 rfl 0 rfl ?_
    refine y_getR d_M_differ_40 fl_11_93 rfl kd_78 rr_78_58 ?_
    refine x_iload_n d_M_differ_43 rfl 3 rfl ?_
    obtain ⟨g8, h⟩ := gd_inv h
    refine y_iald d_M_differ_44 kd_100 g8 ?_
    refine x_icmp_eq (tgt := 57) d_M_differ_45 rfl (fun c9 => ?_) (fun c9 => ?_)
    · replace h := ite_t c9 h
      obtain ⟨v10, e11, h⟩ := lt_inv h
      refine y_iinc (L1 := [(0, .ref 78), (1, .int z1), (2, .int w2), (3, .int v10)]) e11 ic_1 d_M_differ_57 3 rfl (Nat.le_of_ble_eq_true rfl) rfl rfl ?_
      refine x_goto (tgt := 22) d_M_differ_60 rfl ?_
      exact ih w2 v10 _ h
    · replace h := ite_f c9 h
      refine x_iload_n d_M_differ_48 rfl 2 rfl ?_
      refine x_iconst d_M_differ_49 ic_1 ?_
      refine x_iload_n d_M_differ_50 rfl 3 rfl ?_
      refine x_bipush d_M_differ_51 bp_10 ?_
      refine x_irem d_M_differ_53 (by decide) ?_
      refine x_ishl d_M_differ_54 ?_
      refine x_ior d_M_differ_55 ?_
      obtain ⟨v12, e13, h⟩ := lt_inv h
      refine y_istore_n (L1 := [(0, .ref 78), (1, .int z1), (2, .int v12), (3, .int w3)]) e13 d_M_differ_56 rfl (Nat.le_of_ble_eq_true rfl) rfl rfl ?_
      obtain ⟨v14, e15, h⟩ := lt_inv h
      refine y_iinc (L1 := [(0, .ref 78), (1, .int z1), (2, .int v12), (3, .int v14)]) e15 ic_1 d_M_differ_57 3 rfl (Nat.le_of_ble_eq_true rfl) rfl rfl ?_
      refine x_goto (tgt := 22) d_M_differ_60 rfl ?_
      exact ih v12 v14 _ h
set_option maxRecDepth 100000 in
set_option maxHeartbeats 4000000 in
theorem c_M_differ {X : Nat × (Nat → Int32)} {D F G : Nat} (hD : 1 ≤ D) {S : St} {p1 : Int32} {res : Int32} (h : fM_differ F G S p1 = some res) : Ek X (D) mM_differ 0 [(0, .ref 78), (1, .int p1)] [] S (some (.int res)) S := by
  obtain ⟨D, rfl⟩ : ∃ E, D = E + 1 := ⟨D - 1, by omega⟩
  unfold fM_differ at h
  refine x_iload_n d_M_differ_0 rfl 1 rfl ?_
  obtain ⟨v2, q1, h⟩ := bd_inv h
  refine y_S1i (v := v2) (S1 := S) d_M_differ_1 ml_11_553 (Nat.le_of_ble_eq_true rfl) (Nat.le_of_ble_eq_true rfl) (c_M_isBox (by omega) q1) ?_
  refine x_if_eq (tgt := 16) d_M_differ_4 rfl (fun c3 => ?_) (fun c3 => ?_)
  · replace h := ite_t c3 h
    refine x_iconst d_M_differ_16 ic_m1 ?_
    obtain rfl := Option.some.inj h
    exact x_ret (r := some (.int (-1 : Int32))) d_M_differ_17 ⟨_, rfl, rfl⟩
  · replace h := ite_f c3 h
    refine x_aload_n d_M_differ_7 rfl 0 rfl ?_
    refine y_getR d_M_differ_8 fl_11_139 rfl kd_78 rr_78_78 ?_
    refine x_iload_n d_M_differ_11 rfl 1 rfl ?_
    obtain ⟨g4, h⟩ := gd_inv h
    refine y_zald d_M_differ_12 kd_115 g4 ?_
    refine x_if_ne (tgt := 18) d_M_differ_13 rfl (fun c5 => ?_) (fun c5 => ?_)
    · replace h := ite_f c5 h
      refine x_iconst d_M_differ_18 ic_0 ?_
      refine x_istore_n (L1 := [(0, .ref 78), (1, .int p1), (2, .int (0 : Int32))]) d_M_differ_19 rfl (Nat.le_of_ble_eq_true rfl) rfl rfl ?_
      refine x_iconst d_M_differ_20 ic_0 ?_
      refine x_istore_n (L1 := [(0, .ref 78), (1, .int p1), (2, .int (0 : Int32)), (3, .int (0 : Int32))]) d_M_differ_21 rfl (Nat.le_of_ble_eq_true rfl) rfl rfl ?_
      refine T_M_differ_22 (by omega)   F (0 : Int32) (0 : Int32) _ h
    · replace h := ite_t c5 h
      refine x_iconst d_M_differ_16 ic_m1 ?_
      obtain rfl := Option.some.inj h
      exact x_ret (r := some (.int (-1 : Int32))) d_M_differ_17 ⟨_, rfl, rfl⟩
/-! NinetyPlayers.aboutTheRest -/
def fN_aboutTheRest (F G : Nat) (S : St) (p1 : Int32) : Option (Int32) :=
  if p1 = 8 then some (S.1 51 0) else if p1 = 9 then some ((S.1 51 1) - (S.1 51 0)) else if p1 = 10 then some (S.1 69 0) else if p1 = 11 then some (S.1 69 1) else if p1 = 12 then some (S.1 0 1) else if p1 = 13 then gd (isSc S.2.2.1) (some (S.1 (S.2.2.1 + 9) 0)) else if p1 = 14 then some (S.1 0 13) else if p1 = 15 then bd (fN_givenSet F G S) fun v11 => bd (fJ_bitCount F G S v11) fun v13 => some v13 else some (-1 : Int32)
set_option maxRecDepth 100000 in
set_option maxHeartbeats 4000000 in
theorem c_N_aboutTheRest {X : Nat × (Nat → Int32)} {D F G : Nat} (hD : 2 ≤ D) {S : St} {p1 : Int32} {res : Int32} (h : fN_aboutTheRest F G S p1 = some res) : Ek X (D) mN_aboutTheRest 0 [(0, .ref 0), (1, .int p1)] [] S (some (.int res)) S := by
  obtain ⟨D, rfl⟩ : ∃ E, D = E + 1 := ⟨D - 1, by omega⟩
  unfold fN_aboutTheRest at h
  refine x_iload_n d_N_aboutTheRest_0 rfl 1 rfl ?_
  by_cases c1 : p1 = 8
  · replace h := ite_t c1 h
    refine x_tabC (tgt := 48) 8 d_N_aboutTheRest_1 (by rw [c1]; rfl) (by decide) rfl rfl ?_
    refine x_aload_n d_N_aboutTheRest_48 rfl 0 rfl ?_
    refine y_getR d_N_aboutTheRest_49 fl_0_43 rfl kd_0 rr_0_6 ?_
    refine y_getI d_N_aboutTheRest_52 fl_0_353 rfl kd_51 ?_
    obtain rfl := Option.some.inj h
    exact x_ret (r := some (.int (S.1 51 0))) d_N_aboutTheRest_55 ⟨_, rfl, rfl⟩
  replace h := ite_f c1 h
  by_cases c2 : p1 = 9
  · replace h := ite_t c2 h
    refine x_tabC (tgt := 56) 9 d_N_aboutTheRest_1 (by rw [c2]; rfl) (by decide) rfl rfl ?_
    refine x_aload_n d_N_aboutTheRest_56 rfl 0 rfl ?_
    refine y_getR d_N_aboutTheRest_57 fl_0_43 rfl kd_0 rr_0_6 ?_
    refine y_getI d_N_aboutTheRest_60 fl_0_356 rfl kd_51 ?_
    refine x_aload_n d_N_aboutTheRest_63 rfl 0 rfl ?_
    refine y_getR d_N_aboutTheRest_64 fl_0_43 rfl kd_0 rr_0_6 ?_
    refine y_getI d_N_aboutTheRest_67 fl_0_353 rfl kd_51 ?_
    refine x_isub d_N_aboutTheRest_70 ?_
    obtain rfl := Option.some.inj h
    exact x_ret (r := some (.int ((S.1 51 1) - (S.1 51 0)))) d_N_aboutTheRest_71 ⟨_, rfl, rfl⟩
  replace h := ite_f c2 h
  by_cases c3 : p1 = 10
  · replace h := ite_t c3 h
    refine x_tabC (tgt := 72) 10 d_N_aboutTheRest_1 (by rw [c3]; rfl) (by decide) rfl rfl ?_
    refine x_aload_n d_N_aboutTheRest_72 rfl 0 rfl ?_
    refine y_getR d_N_aboutTheRest_73 fl_0_79 rfl kd_0 rr_0_11 ?_
    refine y_getI d_N_aboutTheRest_76 fl_0_358 rfl kd_69 ?_
    obtain rfl := Option.some.inj h
    exact x_ret (r := some (.int (S.1 69 0))) d_N_aboutTheRest_79 ⟨_, rfl, rfl⟩
  replace h := ite_f c3 h
  by_cases c4 : p1 = 11
  · replace h := ite_t c4 h
    refine x_tabC (tgt := 80) 11 d_N_aboutTheRest_1 (by rw [c4]; rfl) (by decide) rfl rfl ?_
    refine x_aload_n d_N_aboutTheRest_80 rfl 0 rfl ?_
    refine y_getR d_N_aboutTheRest_81 fl_0_79 rfl kd_0 rr_0_11 ?_
    refine y_getI d_N_aboutTheRest_84 fl_0_361 rfl kd_69 ?_
    obtain rfl := Option.some.inj h
    exact x_ret (r := some (.int (S.1 69 1))) d_N_aboutTheRest_87 ⟨_, rfl, rfl⟩
  replace h := ite_f c4 h
  by_cases c5 : p1 = 12
  · replace h := ite_t c5 h
    refine x_tabC (tgt := 88) 12 d_N_aboutTheRest_1 (by rw [c5]; rfl) (by decide) rfl rfl ?_
    refine x_aload_n d_N_aboutTheRest_88 rfl 0 rfl ?_
    refine y_getI d_N_aboutTheRest_89 fl_0_90 rfl kd_0 ?_
    obtain rfl := Option.some.inj h
    exact x_ret (r := some (.int (S.1 0 1))) d_N_aboutTheRest_92 ⟨_, rfl, rfl⟩
  replace h := ite_f c5 h
  by_cases c6 : p1 = 13
  · replace h := ite_t c6 h
    refine x_tabC (tgt := 93) 13 d_N_aboutTheRest_1 (by rw [c6]; rfl) (by decide) rfl rfl ?_
    refine x_aload_n d_N_aboutTheRest_93 rfl 0 rfl ?_
    refine y_getR d_N_aboutTheRest_94 fl_0_25 rfl kd_0 rr_told ?_
    obtain ⟨g7, h⟩ := gd_inv h
    refine y_getR d_N_aboutTheRest_97 fl_0_211 rfl (ksSc g7) (rrSc_15 g7) ?_
    refine y_getI d_N_aboutTheRest_100 fl_0_364 rfl (ksFo (isFo_of g7)) ?_
    obtain rfl := Option.some.inj h
    exact x_ret (r := some (.int (S.1 (S.2.2.1 + 9) 0))) d_N_aboutTheRest_103 ⟨_, rfl, rfl⟩
  replace h := ite_f c6 h
  by_cases c8 : p1 = 14
  · replace h := ite_t c8 h
    refine x_tabC (tgt := 104) 14 d_N_aboutTheRest_1 (by rw [c8]; rfl) (by decide) rfl rfl ?_
    refine x_aload_n d_N_aboutTheRest_104 rfl 0 rfl ?_
    refine y_getI d_N_aboutTheRest_105 fl_0_110 rfl kd_0 ?_
    obtain rfl := Option.some.inj h
    exact x_ret (r := some (.int (S.1 0 13))) d_N_aboutTheRest_108 ⟨_, rfl, rfl⟩
  replace h := ite_f c8 h
  by_cases c9 : p1 = 15
  · replace h := ite_t c9 h
    refine x_tabC (tgt := 109) 15 d_N_aboutTheRest_1 (by rw [c9]; rfl) (by decide) rfl rfl ?_
    refine x_aload_n d_N_aboutTheRest_109 rfl 0 rfl ?_
    obtain ⟨v11, q10, h⟩ := bd_inv h
    refine y_V0i (v := v11) (S1 := S) d_N_aboutTheRest_110 ml_0_163 kd_0 rfl (Nat.le_of_ble_eq_true rfl) (Nat.le_of_ble_eq_true rfl) (c_N_givenSet (by omega) q10) ?_
    obtain ⟨v13, q12, h⟩ := bd_inv h
    refine y_S1i (v := v13) (S1 := S) d_N_aboutTheRest_113 ml_0_206 (Nat.le_of_ble_eq_true rfl) (Nat.le_of_ble_eq_true rfl) (c_J_bitCount (by omega) q12) ?_
    obtain rfl := Option.some.inj h
    exact x_ret (r := some (.int v13)) d_N_aboutTheRest_116 ⟨_, rfl, rfl⟩
  replace h := ite_f c9 h
  refine x_tabD (tgt := 117) d_N_aboutTheRest_1 (by have := lv_neT c1 (show (8 : Int32).toInt = 8 from rfl); have := lv_neT c2 (show (9 : Int32).toInt = 9 from rfl); have := lv_neT c3 (show (10 : Int32).toInt = 10 from rfl); have := lv_neT c4 (show (11 : Int32).toInt = 11 from rfl); have := lv_neT c5 (show (12 : Int32).toInt = 12 from rfl); have := lv_neT c6 (show (13 : Int32).toInt = 13 from rfl); have := lv_neT c8 (show (14 : Int32).toInt = 14 from rfl); have := lv_neT c9 (show (15 : Int32).toInt = 15 from rfl); omega) rfl ?_
  refine x_iconst d_N_aboutTheRest_117 ic_m1 ?_
  obtain rfl := Option.some.inj h
  exact x_ret (r := some (.int (-1 : Int32))) d_N_aboutTheRest_118 ⟨_, rfl, rfl⟩
/-! NinetyPlayers.about -/
def fN_about (F G : Nat) (S : St) (p1 : Int32) : Option (Int32) :=
  if p1 = 0 then gd (isSc S.2.2.1) (some (S.1 S.2.2.1 6)) else if p1 = 1 then gd (isSc S.2.2.1) (some (S.1 S.2.2.1 5)) else if p1 = 2 then gd (isSc S.2.2.1) (some (S.1 S.2.2.1 0)) else if p1 = 3 then gd (isSc S.2.2.1) (some (S.1 S.2.2.1 1)) else if p1 = 4 then gd (isSc S.2.2.1) (some (S.1 S.2.2.1 2)) else if p1 = 5 then gd (isSc S.2.2.1) (some (S.1 S.2.2.1 3)) else if p1 = 6 then gd (isSc S.2.2.1) (some (S.1 S.2.2.1 4)) else if p1 = 7 then some (S.1 30 1) else bd (fN_aboutTheRest F G S p1) fun v17 => some v17
set_option maxRecDepth 100000 in
set_option maxHeartbeats 4000000 in
theorem c_N_about {X : Nat × (Nat → Int32)} {D F G : Nat} (hD : 3 ≤ D) {S : St} {p1 : Int32} {res : Int32} (h : fN_about F G S p1 = some res) : Ek X (D) mN_about 0 [(0, .ref 0), (1, .int p1)] [] S (some (.int res)) S := by
  obtain ⟨D, rfl⟩ : ∃ E, D = E + 1 := ⟨D - 1, by omega⟩
  unfold fN_about at h
  refine x_iload_n d_N_about_0 rfl 1 rfl ?_
  by_cases c1 : p1 = 0
  · replace h := ite_t c1 h
    refine x_tabC (tgt := 48) 0 d_N_about_1 (by rw [c1]; rfl) (by decide) rfl rfl ?_
    refine x_aload_n d_N_about_48 rfl 0 rfl ?_
    refine y_getR d_N_about_49 fl_0_25 rfl kd_0 rr_told ?_
    obtain ⟨g2, h⟩ := gd_inv h
    refine y_getI d_N_about_52 fl_0_117 rfl (ksSc g2) ?_
    obtain rfl := Option.some.inj h
    exact x_ret (r := some (.int (S.1 S.2.2.1 6))) d_N_about_55 ⟨_, rfl, rfl⟩
  replace h := ite_f c1 h
  by_cases c3 : p1 = 1
  · replace h := ite_t c3 h
    refine x_tabC (tgt := 56) 1 d_N_about_1 (by rw [c3]; rfl) (by decide) rfl rfl ?_
    refine x_aload_n d_N_about_56 rfl 0 rfl ?_
    refine y_getR d_N_about_57 fl_0_25 rfl kd_0 rr_told ?_
    obtain ⟨g4, h⟩ := gd_inv h
    refine y_getI d_N_about_60 fl_0_154 rfl (ksSc g4) ?_
    obtain rfl := Option.some.inj h
    exact x_ret (r := some (.int (S.1 S.2.2.1 5))) d_N_about_63 ⟨_, rfl, rfl⟩
  replace h := ite_f c3 h
  by_cases c5 : p1 = 2
  · replace h := ite_t c5 h
    refine x_tabC (tgt := 64) 2 d_N_about_1 (by rw [c5]; rfl) (by decide) rfl rfl ?_
    refine x_aload_n d_N_about_64 rfl 0 rfl ?_
    refine y_getR d_N_about_65 fl_0_25 rfl kd_0 rr_told ?_
    obtain ⟨g6, h⟩ := gd_inv h
    refine y_getI d_N_about_68 fl_0_193 rfl (ksSc g6) ?_
    obtain rfl := Option.some.inj h
    exact x_ret (r := some (.int (S.1 S.2.2.1 0))) d_N_about_71 ⟨_, rfl, rfl⟩
  replace h := ite_f c5 h
  by_cases c7 : p1 = 3
  · replace h := ite_t c7 h
    refine x_tabC (tgt := 72) 3 d_N_about_1 (by rw [c7]; rfl) (by decide) rfl rfl ?_
    refine x_aload_n d_N_about_72 rfl 0 rfl ?_
    refine y_getR d_N_about_73 fl_0_25 rfl kd_0 rr_told ?_
    obtain ⟨g8, h⟩ := gd_inv h
    refine y_getI d_N_about_76 fl_0_259 rfl (ksSc g8) ?_
    obtain rfl := Option.some.inj h
    exact x_ret (r := some (.int (S.1 S.2.2.1 1))) d_N_about_79 ⟨_, rfl, rfl⟩
  replace h := ite_f c7 h
  by_cases c9 : p1 = 4
  · replace h := ite_t c9 h
    refine x_tabC (tgt := 80) 4 d_N_about_1 (by rw [c9]; rfl) (by decide) rfl rfl ?_
    refine x_aload_n d_N_about_80 rfl 0 rfl ?_
    refine y_getR d_N_about_81 fl_0_25 rfl kd_0 rr_told ?_
    obtain ⟨g10, h⟩ := gd_inv h
    refine y_getI d_N_about_84 fl_0_256 rfl (ksSc g10) ?_
    obtain rfl := Option.some.inj h
    exact x_ret (r := some (.int (S.1 S.2.2.1 2))) d_N_about_87 ⟨_, rfl, rfl⟩
  replace h := ite_f c9 h
  by_cases c11 : p1 = 5
  · replace h := ite_t c11 h
    refine x_tabC (tgt := 88) 5 d_N_about_1 (by rw [c11]; rfl) (by decide) rfl rfl ?_
    refine x_aload_n d_N_about_88 rfl 0 rfl ?_
    refine y_getR d_N_about_89 fl_0_25 rfl kd_0 rr_told ?_
    obtain ⟨g12, h⟩ := gd_inv h
    refine y_getI d_N_about_92 fl_0_347 rfl (ksSc g12) ?_
    obtain rfl := Option.some.inj h
    exact x_ret (r := some (.int (S.1 S.2.2.1 3))) d_N_about_95 ⟨_, rfl, rfl⟩
  replace h := ite_f c11 h
  by_cases c13 : p1 = 6
  · replace h := ite_t c13 h
    refine x_tabC (tgt := 96) 6 d_N_about_1 (by rw [c13]; rfl) (by decide) rfl rfl ?_
    refine x_aload_n d_N_about_96 rfl 0 rfl ?_
    refine y_getR d_N_about_97 fl_0_25 rfl kd_0 rr_told ?_
    obtain ⟨g14, h⟩ := gd_inv h
    refine y_getI d_N_about_100 fl_0_309 rfl (ksSc g14) ?_
    obtain rfl := Option.some.inj h
    exact x_ret (r := some (.int (S.1 S.2.2.1 4))) d_N_about_103 ⟨_, rfl, rfl⟩
  replace h := ite_f c13 h
  by_cases c15 : p1 = 7
  · replace h := ite_t c15 h
    refine x_tabC (tgt := 104) 7 d_N_about_1 (by rw [c15]; rfl) (by decide) rfl rfl ?_
    refine x_aload_n d_N_about_104 rfl 0 rfl ?_
    refine y_getR d_N_about_105 fl_0_32 rfl kd_0 rr_0_4 ?_
    refine y_getI d_N_about_108 fl_0_243 rfl kd_30 ?_
    obtain rfl := Option.some.inj h
    exact x_ret (r := some (.int (S.1 30 1))) d_N_about_111 ⟨_, rfl, rfl⟩
  replace h := ite_f c15 h
  refine x_tabD (tgt := 112) d_N_about_1 (by have := lv_neT c1 (show (0 : Int32).toInt = 0 from rfl); have := lv_neT c3 (show (1 : Int32).toInt = 1 from rfl); have := lv_neT c5 (show (2 : Int32).toInt = 2 from rfl); have := lv_neT c7 (show (3 : Int32).toInt = 3 from rfl); have := lv_neT c9 (show (4 : Int32).toInt = 4 from rfl); have := lv_neT c11 (show (5 : Int32).toInt = 5 from rfl); have := lv_neT c13 (show (6 : Int32).toInt = 6 from rfl); have := lv_neT c15 (show (7 : Int32).toInt = 7 from rfl); omega) rfl ?_
  refine x_aload_n d_N_about_112 rfl 0 rfl ?_
  refine x_iload_n d_N_about_113 rfl 1 rfl ?_
  obtain ⟨v17, q16, h⟩ := bd_inv h
  refine y_V1i (v := v17) (S1 := S) d_N_about_114 ml_0_350 kd_0 rfl (Nat.le_of_ble_eq_true rfl) (Nat.le_of_ble_eq_true rfl) (c_N_aboutTheRest (by omega) q16) ?_
  obtain rfl := Option.some.inj h
  exact x_ret (r := some (.int v17)) d_N_about_117 ⟨_, rfl, rfl⟩
/-! NinetyPlayersModel.about -/
def fM_about (F G : Nat) (S : St) (p1 : Int32) : Option (Int32) :=
  if p1 = 0 then some (S.1 78 48) else if p1 = 1 then some (S.1 78 47) else if p1 = 2 then some (S.1 78 46) else if p1 = 3 then some (S.1 78 49) else if p1 = 4 then some (S.1 78 50) else if p1 = 5 then some (S.1 78 51) else if p1 = 6 then some (S.1 78 52) else if p1 = 7 then gd (inB (40 : Int32) 41) (some (S.1 100 (40 : Int32).toNatClampNeg)) else if p1 = 8 then some (S.1 78 63) else if p1 = 9 then some (S.1 78 64) else if p1 = 10 then some (S.1 78 74) else if p1 = 11 then some (S.1 78 75) else if p1 = 12 then some (S.1 78 1) else if p1 = 13 then some (S.1 78 21) else if p1 = 14 then some (S.1 78 68) else if p1 = 15 then bd (fM_played F G S) fun v19 => some v19 else some (-1 : Int32)
set_option maxRecDepth 100000 in
set_option maxHeartbeats 4000000 in
theorem c_M_about {X : Nat × (Nat → Int32)} {D F G : Nat} (hD : 2 ≤ D) {S : St} {p1 : Int32} {res : Int32} (h : fM_about F G S p1 = some res) : Ek X (D) mM_about 0 [(0, .ref 78), (1, .int p1)] [] S (some (.int res)) S := by
  obtain ⟨D, rfl⟩ : ∃ E, D = E + 1 := ⟨D - 1, by omega⟩
  unfold fM_about at h
  refine x_iload_n d_M_about_0 rfl 1 rfl ?_
  by_cases c1 : p1 = 0
  · replace h := ite_t c1 h
    refine x_tabC (tgt := 80) 0 d_M_about_1 (by rw [c1]; rfl) (by decide) rfl rfl ?_
    refine x_aload_n d_M_about_80 rfl 0 rfl ?_
    refine y_getI d_M_about_81 fl_11_322 rfl kd_78 ?_
    obtain rfl := Option.some.inj h
    exact x_ret (r := some (.int (S.1 78 48))) d_M_about_84 ⟨_, rfl, rfl⟩
  replace h := ite_f c1 h
  by_cases c2 : p1 = 1
  · replace h := ite_t c2 h
    refine x_tabC (tgt := 85) 1 d_M_about_1 (by rw [c2]; rfl) (by decide) rfl rfl ?_
    refine x_aload_n d_M_about_85 rfl 0 rfl ?_
    refine y_getI d_M_about_86 fl_11_405 rfl kd_78 ?_
    obtain rfl := Option.some.inj h
    exact x_ret (r := some (.int (S.1 78 47))) d_M_about_89 ⟨_, rfl, rfl⟩
  replace h := ite_f c2 h
  by_cases c3 : p1 = 2
  · replace h := ite_t c3 h
    refine x_tabC (tgt := 90) 2 d_M_about_1 (by rw [c3]; rfl) (by decide) rfl rfl ?_
    refine x_aload_n d_M_about_90 rfl 0 rfl ?_
    refine y_getI d_M_about_91 fl_11_78 rfl kd_78 ?_
    obtain rfl := Option.some.inj h
    exact x_ret (r := some (.int (S.1 78 46))) d_M_about_94 ⟨_, rfl, rfl⟩
  replace h := ite_f c3 h
  by_cases c4 : p1 = 3
  · replace h := ite_t c4 h
    refine x_tabC (tgt := 95) 3 d_M_about_1 (by rw [c4]; rfl) (by decide) rfl rfl ?_
    refine x_aload_n d_M_about_95 rfl 0 rfl ?_
    refine y_getI d_M_about_96 fl_11_81 rfl kd_78 ?_
    obtain rfl := Option.some.inj h
    exact x_ret (r := some (.int (S.1 78 49))) d_M_about_99 ⟨_, rfl, rfl⟩
  replace h := ite_f c4 h
  by_cases c5 : p1 = 4
  · replace h := ite_t c5 h
    refine x_tabC (tgt := 100) 4 d_M_about_1 (by rw [c5]; rfl) (by decide) rfl rfl ?_
    refine x_aload_n d_M_about_100 rfl 0 rfl ?_
    refine y_getI d_M_about_101 fl_11_84 rfl kd_78 ?_
    obtain rfl := Option.some.inj h
    exact x_ret (r := some (.int (S.1 78 50))) d_M_about_104 ⟨_, rfl, rfl⟩
  replace h := ite_f c5 h
  by_cases c6 : p1 = 5
  · replace h := ite_t c6 h
    refine x_tabC (tgt := 105) 5 d_M_about_1 (by rw [c6]; rfl) (by decide) rfl rfl ?_
    refine x_aload_n d_M_about_105 rfl 0 rfl ?_
    refine y_getI d_M_about_106 fl_11_87 rfl kd_78 ?_
    obtain rfl := Option.some.inj h
    exact x_ret (r := some (.int (S.1 78 51))) d_M_about_109 ⟨_, rfl, rfl⟩
  replace h := ite_f c6 h
  by_cases c7 : p1 = 6
  · replace h := ite_t c7 h
    refine x_tabC (tgt := 110) 6 d_M_about_1 (by rw [c7]; rfl) (by decide) rfl rfl ?_
    refine x_aload_n d_M_about_110 rfl 0 rfl ?_
    refine y_getI d_M_about_111 fl_11_90 rfl kd_78 ?_
    obtain rfl := Option.some.inj h
    exact x_ret (r := some (.int (S.1 78 52))) d_M_about_114 ⟨_, rfl, rfl⟩
  replace h := ite_f c7 h
  by_cases c8 : p1 = 7
  · replace h := ite_t c8 h
    refine x_tabC (tgt := 115) 7 d_M_about_1 (by rw [c8]; rfl) (by decide) rfl rfl ?_
    refine x_aload_n d_M_about_115 rfl 0 rfl ?_
    refine y_getR d_M_about_116 fl_11_93 rfl kd_78 rr_78_58 ?_
    refine x_bipush d_M_about_119 bp_40 ?_
    obtain ⟨g9, h⟩ := gd_inv h
    refine y_iald d_M_about_121 kd_100 g9 ?_
    obtain rfl := Option.some.inj h
    exact x_ret (r := some (.int (S.1 100 (40 : Int32).toNatClampNeg))) d_M_about_122 ⟨_, rfl, rfl⟩
  replace h := ite_f c8 h
  by_cases c10 : p1 = 8
  · replace h := ite_t c10 h
    refine x_tabC (tgt := 123) 8 d_M_about_1 (by rw [c10]; rfl) (by decide) rfl rfl ?_
    refine x_aload_n d_M_about_123 rfl 0 rfl ?_
    refine y_getI d_M_about_124 fl_11_417 rfl kd_78 ?_
    obtain rfl := Option.some.inj h
    exact x_ret (r := some (.int (S.1 78 63))) d_M_about_127 ⟨_, rfl, rfl⟩
  replace h := ite_f c10 h
  by_cases c11 : p1 = 9
  · replace h := ite_t c11 h
    refine x_tabC (tgt := 128) 9 d_M_about_1 (by rw [c11]; rfl) (by decide) rfl rfl ?_
    refine x_aload_n d_M_about_128 rfl 0 rfl ?_
    refine y_getI d_M_about_129 fl_11_420 rfl kd_78 ?_
    obtain rfl := Option.some.inj h
    exact x_ret (r := some (.int (S.1 78 64))) d_M_about_132 ⟨_, rfl, rfl⟩
  replace h := ite_f c11 h
  by_cases c12 : p1 = 10
  · replace h := ite_t c12 h
    refine x_tabC (tgt := 133) 10 d_M_about_1 (by rw [c12]; rfl) (by decide) rfl rfl ?_
    refine x_aload_n d_M_about_133 rfl 0 rfl ?_
    refine y_getI d_M_about_134 fl_11_423 rfl kd_78 ?_
    obtain rfl := Option.some.inj h
    exact x_ret (r := some (.int (S.1 78 74))) d_M_about_137 ⟨_, rfl, rfl⟩
  replace h := ite_f c12 h
  by_cases c13 : p1 = 11
  · replace h := ite_t c13 h
    refine x_tabC (tgt := 138) 11 d_M_about_1 (by rw [c13]; rfl) (by decide) rfl rfl ?_
    refine x_aload_n d_M_about_138 rfl 0 rfl ?_
    refine y_getI d_M_about_139 fl_11_539 rfl kd_78 ?_
    obtain rfl := Option.some.inj h
    exact x_ret (r := some (.int (S.1 78 75))) d_M_about_142 ⟨_, rfl, rfl⟩
  replace h := ite_f c13 h
  by_cases c14 : p1 = 12
  · replace h := ite_t c14 h
    refine x_tabC (tgt := 143) 12 d_M_about_1 (by rw [c14]; rfl) (by decide) rfl rfl ?_
    refine x_aload_n d_M_about_143 rfl 0 rfl ?_
    refine y_getI d_M_about_144 fl_11_145 rfl kd_78 ?_
    obtain rfl := Option.some.inj h
    exact x_ret (r := some (.int (S.1 78 1))) d_M_about_147 ⟨_, rfl, rfl⟩
  replace h := ite_f c14 h
  by_cases c15 : p1 = 13
  · replace h := ite_t c15 h
    refine x_tabC (tgt := 148) 13 d_M_about_1 (by rw [c15]; rfl) (by decide) rfl rfl ?_
    refine x_aload_n d_M_about_148 rfl 0 rfl ?_
    refine y_getI d_M_about_149 fl_11_408 rfl kd_78 ?_
    obtain rfl := Option.some.inj h
    exact x_ret (r := some (.int (S.1 78 21))) d_M_about_152 ⟨_, rfl, rfl⟩
  replace h := ite_f c15 h
  by_cases c16 : p1 = 14
  · replace h := ite_t c16 h
    refine x_tabC (tgt := 153) 14 d_M_about_1 (by rw [c16]; rfl) (by decide) rfl rfl ?_
    refine x_aload_n d_M_about_153 rfl 0 rfl ?_
    refine y_getI d_M_about_154 fl_11_426 rfl kd_78 ?_
    obtain rfl := Option.some.inj h
    exact x_ret (r := some (.int (S.1 78 68))) d_M_about_157 ⟨_, rfl, rfl⟩
  replace h := ite_f c16 h
  by_cases c17 : p1 = 15
  · replace h := ite_t c17 h
    refine x_tabC (tgt := 158) 15 d_M_about_1 (by rw [c17]; rfl) (by decide) rfl rfl ?_
    refine x_aload_n d_M_about_158 rfl 0 rfl ?_
    obtain ⟨v19, q18, h⟩ := bd_inv h
    refine y_V0i (v := v19) (S1 := S) d_M_about_159 ml_11_556 kd_78 rfl (Nat.le_of_ble_eq_true rfl) (Nat.le_of_ble_eq_true rfl) (c_M_played (by omega) q18) ?_
    obtain rfl := Option.some.inj h
    exact x_ret (r := some (.int v19)) d_M_about_162 ⟨_, rfl, rfl⟩
  replace h := ite_f c17 h
  refine x_tabD (tgt := 163) d_M_about_1 (by have := lv_neT c1 (show (0 : Int32).toInt = 0 from rfl); have := lv_neT c2 (show (1 : Int32).toInt = 1 from rfl); have := lv_neT c3 (show (2 : Int32).toInt = 2 from rfl); have := lv_neT c4 (show (3 : Int32).toInt = 3 from rfl); have := lv_neT c5 (show (4 : Int32).toInt = 4 from rfl); have := lv_neT c6 (show (5 : Int32).toInt = 5 from rfl); have := lv_neT c7 (show (6 : Int32).toInt = 6 from rfl); have := lv_neT c8 (show (7 : Int32).toInt = 7 from rfl); have := lv_neT c10 (show (8 : Int32).toInt = 8 from rfl); have := lv_neT c11 (show (9 : Int32).toInt = 9 from rfl); have := lv_neT c12 (show (10 : Int32).toInt = 10 from rfl); have := lv_neT c13 (show (11 : Int32).toInt = 11 from rfl); have := lv_neT c14 (show (12 : Int32).toInt = 12 from rfl); have := lv_neT c15 (show (13 : Int32).toInt = 13 from rfl); have := lv_neT c16 (show (14 : Int32).toInt = 14 from rfl); have := lv_neT c17 (show (15 : Int32).toInt = 15 from rfl); omega) rfl ?_
  refine x_iconst d_M_about_163 ic_m1 ?_
  obtain rfl := Option.some.inj h
  exact x_ret (r := some (.int (-1 : Int32))) d_M_about_164 ⟨_, rfl, rfl⟩
