/-! NinetyPlayers.isNote -/
def fN_isNote (F G : Nat) (S : St) (p1 : Int32) : Option (Int32) :=
  if p1 < 0 then some (0 : Int32) else gd (isSc S.2.2.1) (if (S.1 S.2.2.1 6) ≤ p1 then some (0 : Int32) else some (1 : Int32))
set_option maxRecDepth 100000 in
set_option maxHeartbeats 4000000 in
theorem c_N_isNote {X : Nat × (Nat → Int32)} {D F G : Nat} (hD : 0 ≤ D) {S : St} {p1 : Int32} {res : Int32} (h : fN_isNote F G S p1 = some res) : Ek X (D) mN_isNote 0 [(0, .ref 0), (1, .int p1)] [] S (some (.int res)) S := by
  unfold fN_isNote at h
  refine x_iload_n d_N_isNote_0 rfl 1 rfl ?_
  refine x_if_lt (tgt := 19) d_N_isNote_1 rfl (fun c1 => ?_) (fun c1 => ?_)
  · replace h := ite_t c1 h
    refine x_iconst d_N_isNote_19 ic_0 ?_
    obtain rfl := Option.some.inj h
    exact x_ret (r := some (.int (0 : Int32))) d_N_isNote_20 ⟨_, rfl, rfl⟩
  · replace h := ite_f c1 h
    refine x_iload_n d_N_isNote_4 rfl 1 rfl ?_
    refine x_aload_n d_N_isNote_5 rfl 0 rfl ?_
    refine y_getR d_N_isNote_6 fl_0_24 rfl kd_0 rr_told ?_
    obtain ⟨g2, h⟩ := gd_inv h
    refine y_getI d_N_isNote_9 fl_0_122 rfl (ksSc g2) ?_
    refine x_icmp_ge (tgt := 19) d_N_isNote_12 rfl (fun c3 => ?_) (fun c3 => ?_)
    · replace h := ite_t c3 h
      refine x_iconst d_N_isNote_19 ic_0 ?_
      obtain rfl := Option.some.inj h
      exact x_ret (r := some (.int (0 : Int32))) d_N_isNote_20 ⟨_, rfl, rfl⟩
    · replace h := ite_f c3 h
      refine x_iconst d_N_isNote_15 ic_1 ?_
      refine x_goto (tgt := 20) d_N_isNote_16 rfl ?_
      obtain rfl := Option.some.inj h
      exact x_ret (r := some (.int (1 : Int32))) d_N_isNote_20 ⟨_, rfl, rfl⟩
/-! NinetyPlayers$Score.roleOf -/
def j_S_roleOf_22 (F G : Nat) (o : Nat) (S : St) (s0 : Int32) : Option (Int32) :=
  if s0 < 0 then some (0 : Int32) else if (S.1 o 5) ≤ s0 then some (0 : Int32) else gd (inB s0 4) (some (S.1 (o + 2) s0.toNatClampNeg))
def j_S_roleOf_21 (F G : Nat) (o : Nat) (S : St) : Option (Int32) :=
  j_S_roleOf_22 F G o  S (-1 : Int32)
def fS_roleOf (F G : Nat) (S : St) (o : Nat) (p1 : Int32) : Option (Int32) :=
  gd (isSc o) (if p1 < 0 then j_S_roleOf_21 F G o  S  else if (S.1 o 6) ≤ p1 then j_S_roleOf_21 F G o  S  else gd (inB p1 10) (j_S_roleOf_22 F G o  S (S.1 (o + 4) p1.toNatClampNeg)))
set_option maxRecDepth 100000 in
set_option maxHeartbeats 4000000 in
theorem c_S_roleOf {X : Nat × (Nat → Int32)} {D F G : Nat} (hD : 0 ≤ D) {S : St} {o : Nat} {p1 : Int32} {res : Int32} (h : fS_roleOf F G S o p1 = some res) : Ek X (D) mS_roleOf 0 [(0, .ref o), (1, .int p1)] [] S (some (.int res)) S := by
  unfold fS_roleOf at h
  obtain ⟨gg0, h⟩ := gd_inv h
  have J22 : ∀ (s0 : Int32) (res : Int32), j_S_roleOf_22 F G o S s0 = some res → Ek X (D) mS_roleOf 22 [(0, .ref o)] [.int s0] S (some (.int res)) S := by
    intro s0 res h
    unfold j_S_roleOf_22 at h
    refine x_istore_n (L1 := [(0, .ref o), (2, .int s0)]) d_S_roleOf_22 rfl (Nat.le_of_ble_eq_true rfl) rfl rfl ?_
    refine x_iload_n d_S_roleOf_23 rfl 1 rfl ?_
    refine x_if_lt (tgt := 44) d_S_roleOf_24 rfl (fun c4 => ?_) (fun c4 => ?_)
    · replace h := ite_t c4 h
      refine x_iconst d_S_roleOf_44 ic_0 ?_
      obtain rfl := Option.some.inj h
      exact x_ret (r := some (.int (0 : Int32))) d_S_roleOf_45 ⟨_, rfl, rfl⟩
    · replace h := ite_f c4 h
      refine x_iload_n d_S_roleOf_27 rfl 1 rfl ?_
      refine x_aload_n d_S_roleOf_28 rfl 0 rfl ?_
      refine y_getI d_S_roleOf_29 fl_2_63 rfl (ksSc gg0) ?_
      refine x_icmp_ge (tgt := 44) d_S_roleOf_32 rfl (fun c5 => ?_) (fun c5 => ?_)
      · replace h := ite_t c5 h
        refine x_iconst d_S_roleOf_44 ic_0 ?_
        obtain rfl := Option.some.inj h
        exact x_ret (r := some (.int (0 : Int32))) d_S_roleOf_45 ⟨_, rfl, rfl⟩
      · replace h := ite_f c5 h
        refine x_aload_n d_S_roleOf_35 rfl 0 rfl ?_
        refine y_getR d_S_roleOf_36 fl_2_15 rfl (ksSc gg0) (rrSc_8 gg0) ?_
        refine x_iload_n d_S_roleOf_39 rfl 1 rfl ?_
        obtain ⟨g6, h⟩ := gd_inv h
        refine y_iald d_S_roleOf_40 (ksSc_2 gg0) g6 ?_
        refine x_goto (tgt := 45) d_S_roleOf_41 rfl ?_
        obtain rfl := Option.some.inj h
        exact x_ret (r := some (.int (S.1 (o + 2) s0.toNatClampNeg))) d_S_roleOf_45 ⟨_, rfl, rfl⟩
  have J21 : ∀ (res : Int32), j_S_roleOf_21 F G o S  = some res → Ek X (D) mS_roleOf 21 [(0, .ref o)] [] S (some (.int res)) S := by
    intro  res h
    unfold j_S_roleOf_21 at h
    refine x_iconst d_S_roleOf_21 ic_m1 ?_
    exact J22 (-1 : Int32) _ h
  refine x_iload_n d_S_roleOf_0 rfl 1 rfl ?_
  refine x_if_lt (tgt := 21) d_S_roleOf_1 rfl (fun c1 => ?_) (fun c1 => ?_)
  · replace h := ite_t c1 h
    refine y_pick (L1 := [(0, .ref o)]) [0] rfl ?_
    exact J21  _ h
  · replace h := ite_f c1 h
    refine x_iload_n d_S_roleOf_4 rfl 1 rfl ?_
    refine x_aload_n d_S_roleOf_5 rfl 0 rfl ?_
    refine y_getI d_S_roleOf_6 fl_2_66 rfl (ksSc gg0) ?_
    refine x_icmp_ge (tgt := 21) d_S_roleOf_9 rfl (fun c2 => ?_) (fun c2 => ?_)
    · replace h := ite_t c2 h
      refine y_pick (L1 := [(0, .ref o)]) [0] rfl ?_
      exact J21  _ h
    · replace h := ite_f c2 h
      refine x_aload_n d_S_roleOf_12 rfl 0 rfl ?_
      refine y_getR d_S_roleOf_13 fl_2_22 rfl (ksSc gg0) (rrSc_10 gg0) ?_
      refine x_iload_n d_S_roleOf_16 rfl 1 rfl ?_
      obtain ⟨g3, h⟩ := gd_inv h
      refine y_iald d_S_roleOf_17 (ksSc_4 gg0) g3 ?_
      refine x_goto (tgt := 22) d_S_roleOf_18 rfl ?_
      refine y_pick (L1 := [(0, .ref o)]) [0] rfl ?_
      exact J22 (S.1 (o + 4) p1.toNatClampNeg) _ h
/-! NinetyPlayers.doublesOf -/
def j_N_doublesOf_41 (F G : Nat) (S : St) (z1 : Int32) (rec : Int32 → Int32 → Option (Int32)) (_ : St) (y2 : Int32) (y3 : Int32) (s0 : Int32) : Option (Int32) :=
  if y3 = z1 then lt (y3 + 1) fun v7 => rec y2 v7 else if s0 = 0 then lt (y3 + 1) fun v10 => rec y2 v10 else gd (inB y3 10) (gd (inB z1 10) (if (((S.1 32 y3.toNatClampNeg) - (S.1 32 z1.toNatClampNeg)) - ((S.1 32 y3.toNatClampNeg) - (S.1 32 z1.toNatClampNeg)) / (12 : Int32) * (12 : Int32)) = 0 then lt (y2 ||| ((1 : Int32) <<< (y3 &&& 31))) fun v17 => lt (y3 + 1) fun v19 => rec v17 v19 else lt (y3 + 1) fun v15 => rec y2 v15))
def b_N_doublesOf_4 (F G : Nat) (S : St) (z1 : Int32) (rec : Int32 → Int32 → Option (Int32)) (w2 : Int32) (w3 : Int32) : Option (Int32) :=
  gd (isSc S.2.2.1) (if (S.1 S.2.2.1 6) ≤ w3 then some w2 else gd (inB w3 10) (gd (inB z1 10) (if (S.1 (S.2.2.1 + 5) w3.toNatClampNeg) = (S.1 (S.2.2.1 + 5) z1.toNatClampNeg) then j_N_doublesOf_41 F G S z1 rec  S w2 w3 (1 : Int32) else j_N_doublesOf_41 F G S z1 rec  S w2 w3 (0 : Int32))))
def fN_doublesOf (F G : Nat) (S : St) (p1 : Int32) : Option (Int32) :=
  fx2 (b_N_doublesOf_4 F G S p1) F (0 : Int32) (0 : Int32)
set_option maxRecDepth 100000 in
set_option maxHeartbeats 4000000 in
theorem T_N_doublesOf_4 {X : Nat × (Nat → Int32)} {D F G : Nat} (hD : 0 ≤ D) {S : St} {z1 : Int32} : ∀ (f : Nat) (w2 : Int32) (w3 : Int32) (res : Int32), fx2 (b_N_doublesOf_4 F G S z1 ) f w2 w3 = some res → Ek X (D) mN_doublesOf 4 [(0, .ref 0), (1, .int z1), (2, .int w2), (3, .int w3)] [] S (some (.int res)) S := by
  refine fx2_ind ?_
  intro rec ih w2 w3 res h
  unfold b_N_doublesOf_4 at h
  have J41 : ∀ (y2 : Int32) (y3 : Int32) (s0 : Int32) (res : Int32), j_N_doublesOf_41 F G S z1 rec S y2 y3 s0 = some res → Ek X (D) mN_doublesOf 41 [(0, .ref 0), (1, .int z1), (2, .int y2), (3, .int y3)] [.int s0] S (some (.int res)) S := by
    intro y2 y3 s0 res h
    unfold j_N_doublesOf_41 at h
    refine x_istore (L1 := [(0, .ref 0), (1, .int z1), (2, .int y2), (3, .int y3), (4, .int s0)]) d_N_doublesOf_41 (Nat.le_of_ble_eq_true rfl) rfl rfl ?_
    refine x_iload_n d_N_doublesOf_43 rfl 3 rfl ?_
    refine x_iload_n d_N_doublesOf_44 rfl 1 rfl ?_
    refine x_icmp_eq (tgt := 84) d_N_doublesOf_45 rfl (fun c6 => ?_) (fun c6 => ?_)
    · replace h := ite_t c6 h
      obtain ⟨v7, e8, h⟩ := lt_inv h
      refine y_iinc (L1 := [(0, .ref 0), (1, .int z1), (2, .int y2), (3, .int v7), (4, .int s0)]) e8 ic_1 d_N_doublesOf_84 3 rfl (Nat.le_of_ble_eq_true rfl) rfl rfl ?_
      refine x_goto (tgt := 4) d_N_doublesOf_87 rfl ?_
      refine y_pick (L1 := [(0, .ref 0), (1, .int z1), (2, .int y2), (3, .int v7)]) [0, 1, 2, 3] rfl ?_
      exact ih y2 v7 _ h
    · replace h := ite_f c6 h
      refine x_iload d_N_doublesOf_48 4 rfl ?_
      refine x_if_eq (tgt := 84) d_N_doublesOf_50 rfl (fun c9 => ?_) (fun c9 => ?_)
      · replace h := ite_t c9 h
        obtain ⟨v10, e11, h⟩ := lt_inv h
        refine y_iinc (L1 := [(0, .ref 0), (1, .int z1), (2, .int y2), (3, .int v10), (4, .int s0)]) e11 ic_1 d_N_doublesOf_84 3 rfl (Nat.le_of_ble_eq_true rfl) rfl rfl ?_
        refine x_goto (tgt := 4) d_N_doublesOf_87 rfl ?_
        refine y_pick (L1 := [(0, .ref 0), (1, .int z1), (2, .int y2), (3, .int v10)]) [0, 1, 2, 3] rfl ?_
        exact ih y2 v10 _ h
      · replace h := ite_f c9 h
        refine x_aload_n d_N_doublesOf_53 rfl 0 rfl ?_
        refine y_getR d_N_doublesOf_54 fl_0_31 rfl kd_0 rr_0_3 ?_
        refine y_getR d_N_doublesOf_57 fl_0_138 rfl kd_30 rr_30_3 ?_
        refine x_iload_n d_N_doublesOf_60 rfl 3 rfl ?_
        obtain ⟨g12, h⟩ := gd_inv h
        refine y_iald d_N_doublesOf_61 kd_32 g12 ?_
        refine x_aload_n d_N_doublesOf_62 rfl 0 rfl ?_
        refine y_getR d_N_doublesOf_63 fl_0_31 rfl kd_0 rr_0_3 ?_
        refine y_getR d_N_doublesOf_66 fl_0_138 rfl kd_30 rr_30_3 ?_
        refine x_iload_n d_N_doublesOf_69 rfl 1 rfl ?_
        obtain ⟨g13, h⟩ := gd_inv h
        refine y_iald d_N_doublesOf_70 kd_32 g13 ?_
        refine x_isub d_N_doublesOf_71 ?_
        refine x_bipush d_N_doublesOf_72 bp_12 ?_
        refine x_irem d_N_doublesOf_74 (by decide) ?_
        refine x_if_ne (tgt := 84) d_N_doublesOf_75 rfl (fun c14 => ?_) (fun c14 => ?_)
        · replace h := ite_f c14 h
          obtain ⟨v15, e16, h⟩ := lt_inv h
          refine y_iinc (L1 := [(0, .ref 0), (1, .int z1), (2, .int y2), (3, .int v15), (4, .int s0)]) e16 ic_1 d_N_doublesOf_84 3 rfl (Nat.le_of_ble_eq_true rfl) rfl rfl ?_
          refine x_goto (tgt := 4) d_N_doublesOf_87 rfl ?_
          refine y_pick (L1 := [(0, .ref 0), (1, .int z1), (2, .int y2), (3, .int v15)]) [0, 1, 2, 3] rfl ?_
          exact ih y2 v15 _ h
        · replace h := ite_t c14 h
          refine x_iload_n d_N_doublesOf_78 rfl 2 rfl ?_
          refine x_iconst d_N_doublesOf_79 ic_1 ?_
          refine x_iload_n d_N_doublesOf_80 rfl 3 rfl ?_
          refine x_ishl d_N_doublesOf_81 ?_
          refine x_ior d_N_doublesOf_82 ?_
          obtain ⟨v17, e18, h⟩ := lt_inv h
          refine y_istore_n (L1 := [(0, .ref 0), (1, .int z1), (2, .int v17), (3, .int y3), (4, .int s0)]) e18 d_N_doublesOf_83 rfl (Nat.le_of_ble_eq_true rfl) rfl rfl ?_
          obtain ⟨v19, e20, h⟩ := lt_inv h
          refine y_iinc (L1 := [(0, .ref 0), (1, .int z1), (2, .int v17), (3, .int v19), (4, .int s0)]) e20 ic_1 d_N_doublesOf_84 3 rfl (Nat.le_of_ble_eq_true rfl) rfl rfl ?_
          refine x_goto (tgt := 4) d_N_doublesOf_87 rfl ?_
          refine y_pick (L1 := [(0, .ref 0), (1, .int z1), (2, .int v17), (3, .int v19)]) [0, 1, 2, 3] rfl ?_
          exact ih v17 v19 _ h
  refine x_iload_n d_N_doublesOf_4 rfl 3 rfl ?_
  refine x_aload_n d_N_doublesOf_5 rfl 0 rfl ?_
  refine y_getR d_N_doublesOf_6 fl_0_24 rfl kd_0 rr_told ?_
  obtain ⟨g1, h⟩ := gd_inv h
  refine y_getI d_N_doublesOf_9 fl_0_122 rfl (ksSc g1) ?_
  refine x_icmp_ge (tgt := 90) d_N_doublesOf_12 rfl (fun c2 => ?_) (fun c2 => ?_)
  · replace h := ite_t c2 h
    refine x_iload_n d_N_doublesOf_90 rfl 2 rfl ?_
    obtain rfl := Option.some.inj h
    exact x_ret (r := some (.int w2)) d_N_doublesOf_91 ⟨_, rfl, rfl⟩
  · replace h := ite_f c2 h
    refine x_aload_n d_N_doublesOf_15 rfl 0 rfl ?_
    refine y_getR d_N_doublesOf_16 fl_0_24 rfl kd_0 rr_told ?_
    refine y_getR d_N_doublesOf_19 fl_0_135 rfl (ksSc g1) (rrSc_11 g1) ?_
    refine x_iload_n d_N_doublesOf_22 rfl 3 rfl ?_
    obtain ⟨g3, h⟩ := gd_inv h
    refine y_iald d_N_doublesOf_23 (ksSc_5 g1) g3 ?_
    refine x_aload_n d_N_doublesOf_24 rfl 0 rfl ?_
    refine y_getR d_N_doublesOf_25 fl_0_24 rfl kd_0 rr_told ?_
    refine y_getR d_N_doublesOf_28 fl_0_135 rfl (ksSc g1) (rrSc_11 g1) ?_
    refine x_iload_n d_N_doublesOf_31 rfl 1 rfl ?_
    obtain ⟨g4, h⟩ := gd_inv h
    refine y_iald d_N_doublesOf_32 (ksSc_5 g1) g4 ?_
    refine x_icmp_ne (tgt := 40) d_N_doublesOf_33 rfl (fun c5 => ?_) (fun c5 => ?_)
    · replace h := ite_f c5 h
      refine x_iconst d_N_doublesOf_40 ic_0 ?_
      exact J41 w2 w3 (0 : Int32) _ h
    · replace h := ite_t c5 h
      refine x_iconst d_N_doublesOf_36 ic_1 ?_
      refine x_goto (tgt := 41) d_N_doublesOf_37 rfl ?_
      exact J41 w2 w3 (1 : Int32) _ h
set_option maxRecDepth 100000 in
set_option maxHeartbeats 4000000 in
theorem c_N_doublesOf {X : Nat × (Nat → Int32)} {D F G : Nat} (hD : 0 ≤ D) {S : St} {p1 : Int32} {res : Int32} (h : fN_doublesOf F G S p1 = some res) : Ek X (D) mN_doublesOf 0 [(0, .ref 0), (1, .int p1)] [] S (some (.int res)) S := by
  unfold fN_doublesOf at h
  refine x_iconst d_N_doublesOf_0 ic_0 ?_
  refine x_istore_n (L1 := [(0, .ref 0), (1, .int p1), (2, .int (0 : Int32))]) d_N_doublesOf_1 rfl (Nat.le_of_ble_eq_true rfl) rfl rfl ?_
  refine x_iconst d_N_doublesOf_2 ic_0 ?_
  refine x_istore_n (L1 := [(0, .ref 0), (1, .int p1), (2, .int (0 : Int32)), (3, .int (0 : Int32))]) d_N_doublesOf_3 rfl (Nat.le_of_ble_eq_true rfl) rfl rfl ?_
  refine T_N_doublesOf_4 (by omega)   F (0 : Int32) (0 : Int32) _ h
/-! java/lang/Integer.bitCount -/
def fJ_bitCount (F G : Nat) (S : St) (p1 : Int32) : Option (Int32) :=
  lt (p1 - (((p1.toUInt32 >>> ((1 : Int32).toUInt32 &&& Int32.toUInt32 31)).toInt32) &&& (1431655765 : Int32))) fun v1 => lt ((v1 &&& (858993459 : Int32)) + (((v1.toUInt32 >>> ((2 : Int32).toUInt32 &&& Int32.toUInt32 31)).toInt32) &&& (858993459 : Int32))) fun v3 => lt ((v3 + ((v3.toUInt32 >>> ((4 : Int32).toUInt32 &&& Int32.toUInt32 31)).toInt32)) &&& (252645135 : Int32)) fun v5 => lt (v5 + ((v5.toUInt32 >>> ((8 : Int32).toUInt32 &&& Int32.toUInt32 31)).toInt32)) fun v7 => lt (v7 + ((v7.toUInt32 >>> ((16 : Int32).toUInt32 &&& Int32.toUInt32 31)).toInt32)) fun v9 => some (v9 &&& (63 : Int32))
set_option maxRecDepth 100000 in
set_option maxHeartbeats 4000000 in
theorem c_J_bitCount {X : Nat × (Nat → Int32)} {D F G : Nat} (hD : 0 ≤ D) {S : St} {p1 : Int32} {res : Int32} (h : fJ_bitCount F G S p1 = some res) : Ek X (D) mJ_bitCount 0 [(0, .int p1)] [] S (some (.int res)) S := by
  unfold fJ_bitCount at h
  refine x_iload_n d_J_bitCount_0 rfl 0 rfl ?_
  refine x_iload_n d_J_bitCount_1 rfl 0 rfl ?_
  refine x_iconst d_J_bitCount_2 ic_1 ?_
  refine x_iushr d_J_bitCount_3 ?_
  refine x_ldcw d_J_bitCount_4 kc_15_265 ?_
  refine x_iand d_J_bitCount_7 ?_
  refine x_isub d_J_bitCount_8 ?_
  obtain ⟨v1, e2, h⟩ := lt_inv h
  refine y_istore_n (L1 := [(0, .int v1)]) e2 d_J_bitCount_9 rfl (Nat.le_of_ble_eq_true rfl) rfl rfl ?_
  refine x_iload_n d_J_bitCount_10 rfl 0 rfl ?_
  refine x_ldcw d_J_bitCount_11 kc_15_266 ?_
  refine x_iand d_J_bitCount_14 ?_
  refine x_iload_n d_J_bitCount_15 rfl 0 rfl ?_
  refine x_iconst d_J_bitCount_16 ic_2 ?_
  refine x_iushr d_J_bitCount_17 ?_
  refine x_ldcw d_J_bitCount_18 kc_15_266 ?_
  refine x_iand d_J_bitCount_21 ?_
  refine x_iadd d_J_bitCount_22 ?_
  obtain ⟨v3, e4, h⟩ := lt_inv h
  refine y_istore_n (L1 := [(0, .int v3)]) e4 d_J_bitCount_23 rfl (Nat.le_of_ble_eq_true rfl) rfl rfl ?_
  refine x_iload_n d_J_bitCount_24 rfl 0 rfl ?_
  refine x_iload_n d_J_bitCount_25 rfl 0 rfl ?_
  refine x_iconst d_J_bitCount_26 ic_4 ?_
  refine x_iushr d_J_bitCount_27 ?_
  refine x_iadd d_J_bitCount_28 ?_
  refine x_ldcw d_J_bitCount_29 kc_15_267 ?_
  refine x_iand d_J_bitCount_32 ?_
  obtain ⟨v5, e6, h⟩ := lt_inv h
  refine y_istore_n (L1 := [(0, .int v5)]) e6 d_J_bitCount_33 rfl (Nat.le_of_ble_eq_true rfl) rfl rfl ?_
  refine x_iload_n d_J_bitCount_34 rfl 0 rfl ?_
  refine x_iload_n d_J_bitCount_35 rfl 0 rfl ?_
  refine x_bipush d_J_bitCount_36 bp_8 ?_
  refine x_iushr d_J_bitCount_38 ?_
  refine x_iadd d_J_bitCount_39 ?_
  obtain ⟨v7, e8, h⟩ := lt_inv h
  refine y_istore_n (L1 := [(0, .int v7)]) e8 d_J_bitCount_40 rfl (Nat.le_of_ble_eq_true rfl) rfl rfl ?_
  refine x_iload_n d_J_bitCount_41 rfl 0 rfl ?_
  refine x_iload_n d_J_bitCount_42 rfl 0 rfl ?_
  refine x_bipush d_J_bitCount_43 bp_16 ?_
  refine x_iushr d_J_bitCount_45 ?_
  refine x_iadd d_J_bitCount_46 ?_
  obtain ⟨v9, e10, h⟩ := lt_inv h
  refine y_istore_n (L1 := [(0, .int v9)]) e10 d_J_bitCount_47 rfl (Nat.le_of_ble_eq_true rfl) rfl rfl ?_
  refine x_iload_n d_J_bitCount_48 rfl 0 rfl ?_
  refine x_bipush d_J_bitCount_49 bp_63 ?_
  refine x_iand d_J_bitCount_51 ?_
  obtain rfl := Option.some.inj h
  exact x_ret (r := some (.int (v9 &&& (63 : Int32)))) d_J_bitCount_52 ⟨_, rfl, rfl⟩
/-! NinetyPlayers$Formula.isTold -/
def fF_isTold (F G : Nat) (S : St) (o : Nat) : Option (Int32) :=
  gd (isFo o) (if (S.1 o 1) ≤ 0 then some (0 : Int32) else some (1 : Int32))
set_option maxRecDepth 100000 in
set_option maxHeartbeats 4000000 in
theorem c_F_isTold {X : Nat × (Nat → Int32)} {D F G : Nat} (hD : 0 ≤ D) {S : St} {o : Nat} {res : Int32} (h : fF_isTold F G S o = some res) : Ek X (D) mF_isTold 0 [(0, .ref o)] [] S (some (.int res)) S := by
  unfold fF_isTold at h
  obtain ⟨gg0, h⟩ := gd_inv h
  refine x_aload_n d_F_isTold_0 rfl 0 rfl ?_
  refine y_getI d_F_isTold_1 fl_3_25 rfl (ksFo gg0) ?_
  refine x_if_le (tgt := 11) d_F_isTold_4 rfl (fun c1 => ?_) (fun c1 => ?_)
  · replace h := ite_t c1 h
    refine x_iconst d_F_isTold_11 ic_0 ?_
    obtain rfl := Option.some.inj h
    exact x_ret (r := some (.int (0 : Int32))) d_F_isTold_12 ⟨_, rfl, rfl⟩
  · replace h := ite_f c1 h
    refine x_iconst d_F_isTold_7 ic_1 ?_
    refine x_goto (tgt := 12) d_F_isTold_8 rfl ?_
    obtain rfl := Option.some.inj h
    exact x_ret (r := some (.int (1 : Int32))) d_F_isTold_12 ⟨_, rfl, rfl⟩
/-! NinetyPlayers$Formula.push -/
def fF_push (F G : Nat) (S : St) (o : Nat) (p1 : Int32) : Option (St) :=
  gd (isFo o) (if (Int32.ofNat 31) ≤ (S.1 o 5) then some S else gd (inB (S.1 o 5) 31) (lt (sI S (o + 2) (S.1 o 5).toNatClampNeg p1) fun S3 => lt (sI S3 o 5 ((S3.1 o 5) + (1 : Int32))) fun S5 => some S5))
set_option maxRecDepth 100000 in
set_option maxHeartbeats 4000000 in
theorem c_F_push {X : Nat × (Nat → Int32)} {D F G : Nat} (hD : 0 ≤ D) {S : St} {o : Nat} {p1 : Int32} {res : St} (h : fF_push F G S o p1 = some res) : Ek X (D) mF_push 0 [(0, .ref o), (1, .int p1)] [] S none res := by
  unfold fF_push at h
  obtain ⟨gg0, h⟩ := gd_inv h
  refine x_aload_n d_F_push_0 rfl 0 rfl ?_
  refine y_getI d_F_push_1 fl_3_28 rfl (ksFo gg0) ?_
  refine x_aload_n d_F_push_4 rfl 0 rfl ?_
  refine y_getR d_F_push_5 fl_3_13 rfl (ksFo gg0) (rrFo_3 gg0) ?_
  refine x_alen1 d_F_push_8 (ksFo_2 gg0) ?_
  refine x_icmp_ge (tgt := 32) d_F_push_9 rfl (fun c1 => ?_) (fun c1 => ?_)
  · replace h := ite_t c1 h
    obtain rfl := Option.some.inj h
    exact x_ret (r := none) d_F_push_32 rfl
  · replace h := ite_f c1 h
    refine x_aload_n d_F_push_12 rfl 0 rfl ?_
    refine y_getR d_F_push_13 fl_3_13 rfl (ksFo gg0) (rrFo_3 gg0) ?_
    refine x_aload_n d_F_push_16 rfl 0 rfl ?_
    refine y_getI d_F_push_17 fl_3_28 rfl (ksFo gg0) ?_
    refine x_iload_n d_F_push_20 rfl 1 rfl ?_
    obtain ⟨g2, h⟩ := gd_inv h
    obtain ⟨S3, e4, h⟩ := lt_inv h
    refine y_iast e4 d_F_push_21 (ksFo_2 gg0) g2 ?_
    refine x_aload_n d_F_push_22 rfl 0 rfl ?_
    refine x_dup d_F_push_23 rfl ?_
    refine y_getI d_F_push_24 fl_3_28 rfl (ksFo gg0) ?_
    refine x_iconst d_F_push_27 ic_1 ?_
    refine x_iadd d_F_push_28 ?_
    obtain ⟨S5, e6, h⟩ := lt_inv h
    refine y_putI e6 d_F_push_29 fl_3_28 rfl rfl (ksFo gg0) rfl rfl ?_
    obtain rfl := Option.some.inj h
    exact x_ret (r := none) d_F_push_32 rfl
/-! NinetyPlayers$Formula.joined -/
def fF_joined (F G : Nat) (S : St) (p1 : Int32) (p2 : Int32) (p3 : Int32) : Option (Int32) :=
  if p1 = 12 then if p2 = 0 then if p3 = 0 then some (0 : Int32) else some (1 : Int32) else some (1 : Int32) else if p1 = 13 then if p2 = 0 then some (0 : Int32) else if p3 = 0 then some (0 : Int32) else some (1 : Int32) else if p1 = 37 then if p3 = 0 then some (0 : Int32) else gd (nz p3) (some (p2 - p2 / p3 * p3)) else if p1 = 42 then some (p2 * p3) else if p1 = 43 then some (p2 + p3) else if p1 = 45 then some (p2 - p3) else if p1 = 47 then if p3 = 0 then some (0 : Int32) else gd (nz p3) (some (p2 / p3)) else if p1 = 60 then if p3 ≤ p2 then some (0 : Int32) else some (1 : Int32) else if p1 = 61 then if p2 = p3 then some (1 : Int32) else some (0 : Int32) else if p1 = 62 then if p2 ≤ p3 then some (0 : Int32) else some (1 : Int32) else some (0 : Int32)
set_option maxRecDepth 100000 in
set_option maxHeartbeats 4000000 in
theorem c_F_joined {X : Nat × (Nat → Int32)} {D F G : Nat} (hD : 0 ≤ D) {S : St} {p1 : Int32} {p2 : Int32} {p3 : Int32} {res : Int32} (h : fF_joined F G S p1 p2 p3 = some res) : Ek X (D) mF_joined 0 [(0, .int p1), (1, .int p2), (2, .int p3)] [] S (some (.int res)) S := by
  unfold fF_joined at h
  refine x_iload_n d_F_joined_0 rfl 0 rfl ?_
  by_cases c1 : p1 = 12
  · replace h := ite_t c1 h
    refine x_look (tgt := 175) d_F_joined_1 (by decide +kernel) (by rw [c1] <;> rfl) rfl ?_
    refine x_iload_n d_F_joined_175 rfl 1 rfl ?_
    refine x_if_ne (tgt := 183) d_F_joined_176 rfl (fun c2 => ?_) (fun c2 => ?_)
    · replace h := ite_f c2 h
      refine x_iconst d_F_joined_183 ic_1 ?_
      refine x_goto (tgt := 188) d_F_joined_184 rfl ?_
      obtain rfl := Option.some.inj h
      exact x_ret (r := some (.int (1 : Int32))) d_F_joined_188 ⟨_, rfl, rfl⟩
    · replace h := ite_t c2 h
      refine x_iload_n d_F_joined_179 rfl 2 rfl ?_
      refine x_if_eq (tgt := 187) d_F_joined_180 rfl (fun c3 => ?_) (fun c3 => ?_)
      · replace h := ite_t c3 h
        refine x_iconst d_F_joined_187 ic_0 ?_
        obtain rfl := Option.some.inj h
        exact x_ret (r := some (.int (0 : Int32))) d_F_joined_188 ⟨_, rfl, rfl⟩
      · replace h := ite_f c3 h
        refine x_iconst d_F_joined_183 ic_1 ?_
        refine x_goto (tgt := 188) d_F_joined_184 rfl ?_
        obtain rfl := Option.some.inj h
        exact x_ret (r := some (.int (1 : Int32))) d_F_joined_188 ⟨_, rfl, rfl⟩
  replace h := ite_f c1 h
  by_cases c4 : p1 = 13
  · replace h := ite_t c4 h
    refine x_look (tgt := 161) d_F_joined_1 (by decide +kernel) (by rw [c4] <;> rfl) rfl ?_
    refine x_iload_n d_F_joined_161 rfl 1 rfl ?_
    refine x_if_eq (tgt := 173) d_F_joined_162 rfl (fun c5 => ?_) (fun c5 => ?_)
    · replace h := ite_t c5 h
      refine x_iconst d_F_joined_173 ic_0 ?_
      obtain rfl := Option.some.inj h
      exact x_ret (r := some (.int (0 : Int32))) d_F_joined_174 ⟨_, rfl, rfl⟩
    · replace h := ite_f c5 h
      refine x_iload_n d_F_joined_165 rfl 2 rfl ?_
      refine x_if_eq (tgt := 173) d_F_joined_166 rfl (fun c6 => ?_) (fun c6 => ?_)
      · replace h := ite_t c6 h
        refine x_iconst d_F_joined_173 ic_0 ?_
        obtain rfl := Option.some.inj h
        exact x_ret (r := some (.int (0 : Int32))) d_F_joined_174 ⟨_, rfl, rfl⟩
      · replace h := ite_f c6 h
        refine x_iconst d_F_joined_169 ic_1 ?_
        refine x_goto (tgt := 174) d_F_joined_170 rfl ?_
        obtain rfl := Option.some.inj h
        exact x_ret (r := some (.int (1 : Int32))) d_F_joined_174 ⟨_, rfl, rfl⟩
  replace h := ite_f c4 h
  by_cases c7 : p1 = 37
  · replace h := ite_t c7 h
    refine x_look (tgt := 116) d_F_joined_1 (by decide +kernel) (by rw [c7] <;> rfl) rfl ?_
    refine x_iload_n d_F_joined_116 rfl 2 rfl ?_
    refine x_if_ne (tgt := 124) d_F_joined_117 rfl (fun c8 => ?_) (fun c8 => ?_)
    · replace h := ite_f c8 h
      refine x_iload_n d_F_joined_124 rfl 1 rfl ?_
      refine x_iload_n d_F_joined_125 rfl 2 rfl ?_
      obtain ⟨g9, h⟩ := gd_inv h
      refine x_irem d_F_joined_126 (nz_ne g9) ?_
      obtain rfl := Option.some.inj h
      exact x_ret (r := some (.int (p2 - p2 / p3 * p3))) d_F_joined_127 ⟨_, rfl, rfl⟩
    · replace h := ite_t c8 h
      refine x_iconst d_F_joined_120 ic_0 ?_
      refine x_goto (tgt := 127) d_F_joined_121 rfl ?_
      obtain rfl := Option.some.inj h
      exact x_ret (r := some (.int (0 : Int32))) d_F_joined_127 ⟨_, rfl, rfl⟩
  replace h := ite_f c7 h
  by_cases c10 : p1 = 42
  · replace h := ite_t c10 h
    refine x_look (tgt := 100) d_F_joined_1 (by decide +kernel) (by rw [c10] <;> rfl) rfl ?_
    refine x_iload_n d_F_joined_100 rfl 1 rfl ?_
    refine x_iload_n d_F_joined_101 rfl 2 rfl ?_
    refine x_imul d_F_joined_102 ?_
    obtain rfl := Option.some.inj h
    exact x_ret (r := some (.int (p2 * p3))) d_F_joined_103 ⟨_, rfl, rfl⟩
  replace h := ite_f c10 h
  by_cases c11 : p1 = 43
  · replace h := ite_t c11 h
    refine x_look (tgt := 92) d_F_joined_1 (by decide +kernel) (by rw [c11] <;> rfl) rfl ?_
    refine x_iload_n d_F_joined_92 rfl 1 rfl ?_
    refine x_iload_n d_F_joined_93 rfl 2 rfl ?_
    refine x_iadd d_F_joined_94 ?_
    obtain rfl := Option.some.inj h
    exact x_ret (r := some (.int (p2 + p3))) d_F_joined_95 ⟨_, rfl, rfl⟩
  replace h := ite_f c11 h
  by_cases c12 : p1 = 45
  · replace h := ite_t c12 h
    refine x_look (tgt := 96) d_F_joined_1 (by decide +kernel) (by rw [c12] <;> rfl) rfl ?_
    refine x_iload_n d_F_joined_96 rfl 1 rfl ?_
    refine x_iload_n d_F_joined_97 rfl 2 rfl ?_
    refine x_isub d_F_joined_98 ?_
    obtain rfl := Option.some.inj h
    exact x_ret (r := some (.int (p2 - p3))) d_F_joined_99 ⟨_, rfl, rfl⟩
  replace h := ite_f c12 h
  by_cases c13 : p1 = 47
  · replace h := ite_t c13 h
    refine x_look (tgt := 104) d_F_joined_1 (by decide +kernel) (by rw [c13] <;> rfl) rfl ?_
    refine x_iload_n d_F_joined_104 rfl 2 rfl ?_
    refine x_if_ne (tgt := 112) d_F_joined_105 rfl (fun c14 => ?_) (fun c14 => ?_)
    · replace h := ite_f c14 h
      refine x_iload_n d_F_joined_112 rfl 1 rfl ?_
      refine x_iload_n d_F_joined_113 rfl 2 rfl ?_
      obtain ⟨g15, h⟩ := gd_inv h
      refine x_idiv d_F_joined_114 (nz_ne g15) ?_
      obtain rfl := Option.some.inj h
      exact x_ret (r := some (.int (p2 / p3))) d_F_joined_115 ⟨_, rfl, rfl⟩
    · replace h := ite_t c14 h
      refine x_iconst d_F_joined_108 ic_0 ?_
      refine x_goto (tgt := 115) d_F_joined_109 rfl ?_
      obtain rfl := Option.some.inj h
      exact x_ret (r := some (.int (0 : Int32))) d_F_joined_115 ⟨_, rfl, rfl⟩
  replace h := ite_f c13 h
  by_cases c16 : p1 = 60
  · replace h := ite_t c16 h
    refine x_look (tgt := 128) d_F_joined_1 (by decide +kernel) (by rw [c16] <;> rfl) rfl ?_
    refine x_iload_n d_F_joined_128 rfl 1 rfl ?_
    refine x_iload_n d_F_joined_129 rfl 2 rfl ?_
    refine x_icmp_ge (tgt := 137) d_F_joined_130 rfl (fun c17 => ?_) (fun c17 => ?_)
    · replace h := ite_t c17 h
      refine x_iconst d_F_joined_137 ic_0 ?_
      obtain rfl := Option.some.inj h
      exact x_ret (r := some (.int (0 : Int32))) d_F_joined_138 ⟨_, rfl, rfl⟩
    · replace h := ite_f c17 h
      refine x_iconst d_F_joined_133 ic_1 ?_
      refine x_goto (tgt := 138) d_F_joined_134 rfl ?_
      obtain rfl := Option.some.inj h
      exact x_ret (r := some (.int (1 : Int32))) d_F_joined_138 ⟨_, rfl, rfl⟩
  replace h := ite_f c16 h
  by_cases c18 : p1 = 61
  · replace h := ite_t c18 h
    refine x_look (tgt := 150) d_F_joined_1 (by decide +kernel) (by rw [c18] <;> rfl) rfl ?_
    refine x_iload_n d_F_joined_150 rfl 1 rfl ?_
    refine x_iload_n d_F_joined_151 rfl 2 rfl ?_
    refine x_icmp_ne (tgt := 159) d_F_joined_152 rfl (fun c19 => ?_) (fun c19 => ?_)
    · replace h := ite_f c19 h
      refine x_iconst d_F_joined_159 ic_0 ?_
      obtain rfl := Option.some.inj h
      exact x_ret (r := some (.int (0 : Int32))) d_F_joined_160 ⟨_, rfl, rfl⟩
    · replace h := ite_t c19 h
      refine x_iconst d_F_joined_155 ic_1 ?_
      refine x_goto (tgt := 160) d_F_joined_156 rfl ?_
      obtain rfl := Option.some.inj h
      exact x_ret (r := some (.int (1 : Int32))) d_F_joined_160 ⟨_, rfl, rfl⟩
  replace h := ite_f c18 h
  by_cases c20 : p1 = 62
  · replace h := ite_t c20 h
    refine x_look (tgt := 139) d_F_joined_1 (by decide +kernel) (by rw [c20] <;> rfl) rfl ?_
    refine x_iload_n d_F_joined_139 rfl 1 rfl ?_
    refine x_iload_n d_F_joined_140 rfl 2 rfl ?_
    refine x_icmp_le (tgt := 148) d_F_joined_141 rfl (fun c21 => ?_) (fun c21 => ?_)
    · replace h := ite_t c21 h
      refine x_iconst d_F_joined_148 ic_0 ?_
      obtain rfl := Option.some.inj h
      exact x_ret (r := some (.int (0 : Int32))) d_F_joined_149 ⟨_, rfl, rfl⟩
    · replace h := ite_f c21 h
      refine x_iconst d_F_joined_144 ic_1 ?_
      refine x_goto (tgt := 149) d_F_joined_145 rfl ?_
      obtain rfl := Option.some.inj h
      exact x_ret (r := some (.int (1 : Int32))) d_F_joined_149 ⟨_, rfl, rfl⟩
  replace h := ite_f c20 h
  refine x_look (off := 188) (tgt := 189) d_F_joined_1 (by decide +kernel) (by show Op.lookupswitch.offset [(12, 174), (13, 160), (37, 115), (42, 99), (43, 91), (45, 95), (47, 103), (60, 127), (61, 149), (62, 138)] 188 _ = _; rw [lv_osw (a := 12) c1 (by decide), lv_osw (a := 13) c4 (by decide), lv_osw (a := 37) c7 (by decide), lv_osw (a := 42) c10 (by decide), lv_osw (a := 43) c11 (by decide), lv_osw (a := 45) c12 (by decide), lv_osw (a := 47) c13 (by decide), lv_osw (a := 60) c16 (by decide), lv_osw (a := 61) c18 (by decide), lv_osw (a := 62) c20 (by decide)]; rfl) rfl ?_
  refine x_iconst d_F_joined_189 ic_0 ?_
  obtain rfl := Option.some.inj h
  exact x_ret (r := some (.int (0 : Int32))) d_F_joined_190 ⟨_, rfl, rfl⟩
/-! NinetyPlayers$Formula.step -/
def j_F_step_89 (F G : Nat) (o : Nat) (S : St) (y2 : Int32) : Option (St) :=
  if (S.1 o 5) ≤ (1 : Int32) then some S else lt (sI S o 5 ((S.1 o 5) - (1 : Int32))) fun S22 => gd (inB ((S22.1 o 5) - (1 : Int32)) 31) (gd (inB (S22.1 o 5) 31) (bd (fF_joined F G S22 y2 (S22.1 (o + 2) ((S22.1 o 5) - (1 : Int32)).toNatClampNeg) (S22.1 (o + 2) (S22.1 o 5).toNatClampNeg)) fun v27 => gd (inB ((S22.1 o 5) - (1 : Int32)) 31) (lt (sI S22 (o + 2) ((S22.1 o 5) - (1 : Int32)).toNatClampNeg v27) fun S29 => some S29)))
def j_F_step_43 (F G : Nat) (o : Nat) (S : St) (y2 : Int32) : Option (St) :=
  if y2 = (14 : Int32) then if (S.1 o 5) ≤ 0 then j_F_step_89 F G o  S y2 else gd (inB ((S.1 o 5) - (1 : Int32)) 31) (if (S.1 (o + 2) ((S.1 o 5) - (1 : Int32)).toNatClampNeg) = 0 then gd (inB ((S.1 o 5) - (1 : Int32)) 31) (lt (sI S (o + 2) ((S.1 o 5) - (1 : Int32)).toNatClampNeg (1 : Int32)) fun S19 => some S19) else gd (inB ((S.1 o 5) - (1 : Int32)) 31) (lt (sI S (o + 2) ((S.1 o 5) - (1 : Int32)).toNatClampNeg (0 : Int32)) fun S16 => some S16)) else j_F_step_89 F G o  S y2
def fF_step (F G : Nat) (S : St) (o : Nat) (p1 : Int32) : Option (St) :=
  gd (isFo o) (lt (-p1) fun v1 => if p1 < 0 then if v1 < (15 : Int32) then j_F_step_43 F G o  S v1 else if (20 : Int32) < v1 then j_F_step_43 F G o  S v1 else gd (inB (v1 - (15 : Int32)) 6) (bd (fF_push F G S o (S.1 (o + 3) (v1 - (15 : Int32)).toNatClampNeg)) fun S8 => some S8) else bd (fF_push F G S o p1) fun S10 => some S10)
set_option maxRecDepth 100000 in
set_option maxHeartbeats 4000000 in
theorem c_F_step {X : Nat × (Nat → Int32)} {D F G : Nat} (hD : 1 ≤ D) {S : St} {o : Nat} {p1 : Int32} {res : St} (h : fF_step F G S o p1 = some res) : Ek X (D) mF_step 0 [(0, .ref o), (1, .int p1)] [] S none res := by
  obtain ⟨D, rfl⟩ : ∃ E, D = E + 1 := ⟨D - 1, by omega⟩
  unfold fF_step at h
  obtain ⟨gg0, h⟩ := gd_inv h
  have J89 : ∀ (S : St) (y2 : Int32) (res : St), j_F_step_89 F G o S y2 = some res → Ek X (D + 1) mF_step 89 [(0, .ref o), (2, .int y2)] [] S none res := by
    intro S y2 res h
    unfold j_F_step_89 at h
    refine x_aload_n d_F_step_89 rfl 0 rfl ?_
    refine y_getI d_F_step_90 fl_3_28 rfl (ksFo gg0) ?_
    refine x_iconst d_F_step_93 ic_1 ?_
    refine x_icmp_le (tgt := 142) d_F_step_94 rfl (fun c21 => ?_) (fun c21 => ?_)
    · replace h := ite_t c21 h
      obtain rfl := Option.some.inj h
      exact x_ret (r := none) d_F_step_142 rfl
    · replace h := ite_f c21 h
      refine x_aload_n d_F_step_97 rfl 0 rfl ?_
      refine x_dup d_F_step_98 rfl ?_
      refine y_getI d_F_step_99 fl_3_28 rfl (ksFo gg0) ?_
      refine x_iconst d_F_step_102 ic_1 ?_
      refine x_isub d_F_step_103 ?_
      obtain ⟨S22, e23, h⟩ := lt_inv h
      refine y_putI e23 d_F_step_104 fl_3_28 rfl rfl (ksFo gg0) rfl rfl ?_
      refine x_aload_n d_F_step_107 rfl 0 rfl ?_
      refine y_getR d_F_step_108 fl_3_13 rfl (ksFo gg0) (rrFo_3 gg0) ?_
      refine x_aload_n d_F_step_111 rfl 0 rfl ?_
      refine y_getI d_F_step_112 fl_3_28 rfl (ksFo gg0) ?_
      refine x_iconst d_F_step_115 ic_1 ?_
      refine x_isub d_F_step_116 ?_
      refine x_iload_n d_F_step_117 rfl 1 rfl ?_
      refine x_aload_n d_F_step_118 rfl 0 rfl ?_
      refine y_getR d_F_step_119 fl_3_13 rfl (ksFo gg0) (rrFo_3 gg0) ?_
      refine x_aload_n d_F_step_122 rfl 0 rfl ?_
      refine y_getI d_F_step_123 fl_3_28 rfl (ksFo gg0) ?_
      refine x_iconst d_F_step_126 ic_1 ?_
      refine x_isub d_F_step_127 ?_
      obtain ⟨g24, h⟩ := gd_inv h
      refine y_iald d_F_step_128 (ksFo_2 gg0) g24 ?_
      refine x_aload_n d_F_step_129 rfl 0 rfl ?_
      refine y_getR d_F_step_130 fl_3_13 rfl (ksFo gg0) (rrFo_3 gg0) ?_
      refine x_aload_n d_F_step_133 rfl 0 rfl ?_
      refine y_getI d_F_step_134 fl_3_28 rfl (ksFo gg0) ?_
      obtain ⟨g25, h⟩ := gd_inv h
      refine y_iald d_F_step_137 (ksFo_2 gg0) g25 ?_
      obtain ⟨v27, q26, h⟩ := bd_inv h
      refine y_S3i (v := v27) (S1 := S22) d_F_step_138 ml_3_38 (Nat.le_of_ble_eq_true rfl) (Nat.le_of_ble_eq_true rfl) (c_F_joined (by omega) q26) ?_
      obtain ⟨g28, h⟩ := gd_inv h
      obtain ⟨S29, e30, h⟩ := lt_inv h
      refine y_iast e30 d_F_step_141 (ksFo_2 gg0) g28 ?_
      obtain rfl := Option.some.inj h
      exact x_ret (r := none) d_F_step_142 rfl
  have J43 : ∀ (S : St) (y2 : Int32) (res : St), j_F_step_43 F G o S y2 = some res → Ek X (D + 1) mF_step 43 [(0, .ref o), (2, .int y2)] [] S none res := by
    intro S y2 res h
    unfold j_F_step_43 at h
    refine x_iload_n d_F_step_43 rfl 1 rfl ?_
    refine x_bipush d_F_step_44 bp_14 ?_
    refine x_icmp_ne (tgt := 89) d_F_step_46 rfl (fun c11 => ?_) (fun c11 => ?_)
    · replace h := ite_f c11 h
      exact J89 S y2 _ h
    · replace h := ite_t c11 h
      refine x_aload_n d_F_step_49 rfl 0 rfl ?_
      refine y_getI d_F_step_50 fl_3_28 rfl (ksFo gg0) ?_
      refine x_if_le (tgt := 89) d_F_step_53 rfl (fun c12 => ?_) (fun c12 => ?_)
      · replace h := ite_t c12 h
        exact J89 S y2 _ h
      · replace h := ite_f c12 h
        refine x_aload_n d_F_step_56 rfl 0 rfl ?_
        refine y_getR d_F_step_57 fl_3_13 rfl (ksFo gg0) (rrFo_3 gg0) ?_
        refine x_aload_n d_F_step_60 rfl 0 rfl ?_
        refine y_getI d_F_step_61 fl_3_28 rfl (ksFo gg0) ?_
        refine x_iconst d_F_step_64 ic_1 ?_
        refine x_isub d_F_step_65 ?_
        refine x_aload_n d_F_step_66 rfl 0 rfl ?_
        refine y_getR d_F_step_67 fl_3_13 rfl (ksFo gg0) (rrFo_3 gg0) ?_
        refine x_aload_n d_F_step_70 rfl 0 rfl ?_
        refine y_getI d_F_step_71 fl_3_28 rfl (ksFo gg0) ?_
        refine x_iconst d_F_step_74 ic_1 ?_
        refine x_isub d_F_step_75 ?_
        obtain ⟨g13, h⟩ := gd_inv h
        refine y_iald d_F_step_76 (ksFo_2 gg0) g13 ?_
        refine x_if_ne (tgt := 84) d_F_step_77 rfl (fun c14 => ?_) (fun c14 => ?_)
        · replace h := ite_f c14 h
          refine x_iconst d_F_step_84 ic_0 ?_
          obtain ⟨g15, h⟩ := gd_inv h
          obtain ⟨S16, e17, h⟩ := lt_inv h
          refine y_iast e17 d_F_step_85 (ksFo_2 gg0) g15 ?_
          refine x_goto (tgt := 142) d_F_step_86 rfl ?_
          obtain rfl := Option.some.inj h
          exact x_ret (r := none) d_F_step_142 rfl
        · replace h := ite_t c14 h
          refine x_iconst d_F_step_80 ic_1 ?_
          refine x_goto (tgt := 85) d_F_step_81 rfl ?_
          obtain ⟨g18, h⟩ := gd_inv h
          obtain ⟨S19, e20, h⟩ := lt_inv h
          refine y_iast e20 d_F_step_85 (ksFo_2 gg0) g18 ?_
          refine x_goto (tgt := 142) d_F_step_86 rfl ?_
          obtain rfl := Option.some.inj h
          exact x_ret (r := none) d_F_step_142 rfl
  refine x_iload_n d_F_step_0 rfl 1 rfl ?_
  refine x_ineg d_F_step_1 ?_
  obtain ⟨v1, e2, h⟩ := lt_inv h
  refine y_istore_n (L1 := [(0, .ref o), (1, .int p1), (2, .int v1)]) e2 d_F_step_2 rfl (Nat.le_of_ble_eq_true rfl) rfl rfl ?_
  refine x_iload_n d_F_step_3 rfl 1 rfl ?_
  refine x_if_lt (tgt := 15) d_F_step_4 rfl (fun c3 => ?_) (fun c3 => ?_)
  · replace h := ite_t c3 h
    refine x_iload_n d_F_step_15 rfl 2 rfl ?_
    refine x_bipush d_F_step_16 bp_15 ?_
    refine x_icmp_lt (tgt := 43) d_F_step_18 rfl (fun c4 => ?_) (fun c4 => ?_)
    · replace h := ite_t c4 h
      refine y_pick (L1 := [(0, .ref o), (2, .int v1)]) [0, 2] rfl ?_
      exact J43 S v1 _ h
    · replace h := ite_f c4 h
      refine x_iload_n d_F_step_21 rfl 2 rfl ?_
      refine x_bipush d_F_step_22 bp_20 ?_
      refine x_icmp_gt (tgt := 43) d_F_step_24 rfl (fun c5 => ?_) (fun c5 => ?_)
      · replace h := ite_t c5 h
        refine y_pick (L1 := [(0, .ref o), (2, .int v1)]) [0, 2] rfl ?_
        exact J43 S v1 _ h
      · replace h := ite_f c5 h
        refine x_aload_n d_F_step_27 rfl 0 rfl ?_
        refine x_aload_n d_F_step_28 rfl 0 rfl ?_
        refine y_getR d_F_step_29 fl_3_18 rfl (ksFo gg0) (rrFo_4 gg0) ?_
        refine x_iload_n d_F_step_32 rfl 2 rfl ?_
        refine x_bipush d_F_step_33 bp_15 ?_
        refine x_isub d_F_step_35 ?_
        obtain ⟨g6, h⟩ := gd_inv h
        refine y_iald d_F_step_36 (ksFo_3 gg0) g6 ?_
        obtain ⟨S8, q7, h⟩ := bd_inv h
        refine y_V1v (S1 := S8) d_F_step_37 ml_3_35 (ksFo gg0) rfl (Nat.le_of_ble_eq_true rfl) (Nat.le_of_ble_eq_true rfl) (c_F_push (by omega) q7) ?_
        refine x_goto (tgt := 142) d_F_step_40 rfl ?_
        obtain rfl := Option.some.inj h
        exact x_ret (r := none) d_F_step_142 rfl
  · replace h := ite_f c3 h
    refine x_aload_n d_F_step_7 rfl 0 rfl ?_
    refine x_iload_n d_F_step_8 rfl 1 rfl ?_
    obtain ⟨S10, q9, h⟩ := bd_inv h
    refine y_V1v (S1 := S10) d_F_step_9 ml_3_35 (ksFo gg0) rfl (Nat.le_of_ble_eq_true rfl) (Nat.le_of_ble_eq_true rfl) (c_F_push (by omega) q9) ?_
    refine x_goto (tgt := 142) d_F_step_12 rfl ?_
    obtain rfl := Option.some.inj h
    exact x_ret (r := none) d_F_step_142 rfl
/-! NinetyPlayers$Formula.valueOf -/
def b_F_valueOf_53 (F G : Nat) (z0 : Nat) (rec : Int32 → St → Option (Int32 × St)) (w7 : Int32) (S : St) : Option (Int32 × St) :=
  if (S.1 z0 1) ≤ w7 then if (S.1 z0 5) ≤ 0 then some ((0 : Int32), S) else gd (inB (0 : Int32) 31) (some (S.1 (z0 + 2) (0 : Int32).toNatClampNeg, S)) else gd (inB w7 270) (bd (fF_step F G S z0 (S.1 (z0 + 1) w7.toNatClampNeg)) fun S26 => lt (w7 + 1) fun v27 => rec v27 S26)
def fF_valueOf (F G : Nat) (S : St) (o : Nat) (p1 : Int32) (p2 : Int32) (p3 : Int32) (p4 : Int32) (p5 : Int32) (p6 : Int32) : Option (Int32 × St) :=
  gd (isFo o) (gd (inB (0 : Int32) 6) (lt (sI S (o + 3) (0 : Int32).toNatClampNeg p1) fun S2 => gd (inB (1 : Int32) 6) (lt (sI S2 (o + 3) (1 : Int32).toNatClampNeg p2) fun S5 => gd (inB (2 : Int32) 6) (lt (sI S5 (o + 3) (2 : Int32).toNatClampNeg p3) fun S8 => gd (inB (3 : Int32) 6) (lt (sI S8 (o + 3) (3 : Int32).toNatClampNeg p4) fun S11 => gd (inB (4 : Int32) 6) (lt (sI S11 (o + 3) (4 : Int32).toNatClampNeg p5) fun S14 => gd (inB (5 : Int32) 6) (lt (sI S14 (o + 3) (5 : Int32).toNatClampNeg p6) fun S17 => lt (sI S17 o 5 (0 : Int32)) fun S19 => fx2 (b_F_valueOf_53 F G o) F (0 : Int32) S19)))))))
set_option maxRecDepth 100000 in
set_option maxHeartbeats 4000000 in
theorem T_F_valueOf_53 {X : Nat × (Nat → Int32)} {D F G : Nat} (hD : 2 ≤ D + 1) {z0 : Nat} (hz0 : isFo z0 = true) : ∀ (f : Nat) (w7 : Int32) (S : St) (res : Int32 × St), fx2 (b_F_valueOf_53 F G z0 ) f w7 S = some res → Ek X (D + 1) mF_valueOf 53 [(0, .ref z0), (7, .int w7)] [] S (some (.int res.1)) res.2 := by
  refine fx2_ind ?_
  intro rec ih w7 S res h
  unfold b_F_valueOf_53 at h
  refine x_iload d_F_valueOf_53 1 rfl ?_
  refine x_aload_n d_F_valueOf_55 rfl 0 rfl ?_
  refine y_getI d_F_valueOf_56 fl_3_25 rfl (ksFo hz0) ?_
  refine x_icmp_ge (tgt := 79) d_F_valueOf_59 rfl (fun c21 => ?_) (fun c21 => ?_)
  · replace h := ite_t c21 h
    refine x_aload_n d_F_valueOf_79 rfl 0 rfl ?_
    refine y_getI d_F_valueOf_80 fl_3_28 rfl (ksFo hz0) ?_
    refine x_if_le (tgt := 95) d_F_valueOf_83 rfl (fun c22 => ?_) (fun c22 => ?_)
    · replace h := ite_t c22 h
      refine x_iconst d_F_valueOf_95 ic_0 ?_
      obtain rfl := Option.some.inj h
      exact x_ret (r := some (.int (0 : Int32))) d_F_valueOf_96 ⟨_, rfl, rfl⟩
    · replace h := ite_f c22 h
      refine x_aload_n d_F_valueOf_86 rfl 0 rfl ?_
      refine y_getR d_F_valueOf_87 fl_3_13 rfl (ksFo hz0) (rrFo_3 hz0) ?_
      refine x_iconst d_F_valueOf_90 ic_0 ?_
      obtain ⟨g23, h⟩ := gd_inv h
      refine y_iald d_F_valueOf_91 (ksFo_2 hz0) g23 ?_
      refine x_goto (tgt := 96) d_F_valueOf_92 rfl ?_
      obtain rfl := Option.some.inj h
      exact x_ret (r := some (.int (S.1 (z0 + 2) (0 : Int32).toNatClampNeg))) d_F_valueOf_96 ⟨_, rfl, rfl⟩
  · replace h := ite_f c21 h
    refine x_aload_n d_F_valueOf_62 rfl 0 rfl ?_
    refine x_aload_n d_F_valueOf_63 rfl 0 rfl ?_
    refine y_getR d_F_valueOf_64 fl_3_9 rfl (ksFo hz0) (rrFo_2 hz0) ?_
    refine x_iload d_F_valueOf_67 1 rfl ?_
    obtain ⟨g24, h⟩ := gd_inv h
    refine y_iald d_F_valueOf_69 (ksFo_1 hz0) g24 ?_
    obtain ⟨S26, q25, h⟩ := bd_inv h
    refine y_V1v (S1 := S26) d_F_valueOf_70 ml_3_31 (ksFo hz0) rfl (Nat.le_of_ble_eq_true rfl) (Nat.le_of_ble_eq_true rfl) (c_F_step (by omega) q25) ?_
    obtain ⟨v27, e28, h⟩ := lt_inv h
    refine y_iinc (L1 := [(0, .ref z0), (7, .int v27)]) e28 ic_1 d_F_valueOf_73 1 rfl (Nat.le_of_ble_eq_true rfl) rfl rfl ?_
    refine x_goto (tgt := 53) d_F_valueOf_76 rfl ?_
    exact ih v27 S26 _ h
set_option maxRecDepth 100000 in
set_option maxHeartbeats 4000000 in
theorem c_F_valueOf {X : Nat × (Nat → Int32)} {D F G : Nat} (hD : 2 ≤ D) {S : St} {o : Nat} {p1 : Int32} {p2 : Int32} {p3 : Int32} {p4 : Int32} {p5 : Int32} {p6 : Int32} {res : Int32 × St} (h : fF_valueOf F G S o p1 p2 p3 p4 p5 p6 = some res) : Ek X (D) mF_valueOf 0 [(0, .ref o), (1, .int p1), (2, .int p2), (3, .int p3), (4, .int p4), (5, .int p5), (6, .int p6)] [] S (some (.int res.1)) res.2 := by
  obtain ⟨D, rfl⟩ : ∃ E, D = E + 1 := ⟨D - 1, by omega⟩
  unfold fF_valueOf at h
  obtain ⟨gg0, h⟩ := gd_inv h
  refine x_aload_n d_F_valueOf_0 rfl 0 rfl ?_
  refine y_getR d_F_valueOf_1 fl_3_18 rfl (ksFo gg0) (rrFo_4 gg0) ?_
  refine x_iconst d_F_valueOf_4 ic_0 ?_
  refine x_iload_n d_F_valueOf_5 rfl 1 rfl ?_
  obtain ⟨g1, h⟩ := gd_inv h
  obtain ⟨S2, e3, h⟩ := lt_inv h
  refine y_iast e3 d_F_valueOf_6 (ksFo_3 gg0) g1 ?_
  refine x_aload_n d_F_valueOf_7 rfl 0 rfl ?_
  refine y_getR d_F_valueOf_8 fl_3_18 rfl (ksFo gg0) (rrFo_4 gg0) ?_
  refine x_iconst d_F_valueOf_11 ic_1 ?_
  refine x_iload_n d_F_valueOf_12 rfl 2 rfl ?_
  obtain ⟨g4, h⟩ := gd_inv h
  obtain ⟨S5, e6, h⟩ := lt_inv h
  refine y_iast e6 d_F_valueOf_13 (ksFo_3 gg0) g4 ?_
  refine x_aload_n d_F_valueOf_14 rfl 0 rfl ?_
  refine y_getR d_F_valueOf_15 fl_3_18 rfl (ksFo gg0) (rrFo_4 gg0) ?_
  refine x_iconst d_F_valueOf_18 ic_2 ?_
  refine x_iload_n d_F_valueOf_19 rfl 3 rfl ?_
  obtain ⟨g7, h⟩ := gd_inv h
  obtain ⟨S8, e9, h⟩ := lt_inv h
  refine y_iast e9 d_F_valueOf_20 (ksFo_3 gg0) g7 ?_
  refine x_aload_n d_F_valueOf_21 rfl 0 rfl ?_
  refine y_getR d_F_valueOf_22 fl_3_18 rfl (ksFo gg0) (rrFo_4 gg0) ?_
  refine x_iconst d_F_valueOf_25 ic_3 ?_
  refine x_iload d_F_valueOf_26 4 rfl ?_
  obtain ⟨g10, h⟩ := gd_inv h
  obtain ⟨S11, e12, h⟩ := lt_inv h
  refine y_iast e12 d_F_valueOf_28 (ksFo_3 gg0) g10 ?_
  refine x_aload_n d_F_valueOf_29 rfl 0 rfl ?_
  refine y_getR d_F_valueOf_30 fl_3_18 rfl (ksFo gg0) (rrFo_4 gg0) ?_
  refine x_iconst d_F_valueOf_33 ic_4 ?_
  refine x_iload d_F_valueOf_34 5 rfl ?_
  obtain ⟨g13, h⟩ := gd_inv h
  obtain ⟨S14, e15, h⟩ := lt_inv h
  refine y_iast e15 d_F_valueOf_36 (ksFo_3 gg0) g13 ?_
  refine x_aload_n d_F_valueOf_37 rfl 0 rfl ?_
  refine y_getR d_F_valueOf_38 fl_3_18 rfl (ksFo gg0) (rrFo_4 gg0) ?_
  refine x_iconst d_F_valueOf_41 ic_5 ?_
  refine x_iload d_F_valueOf_42 6 rfl ?_
  obtain ⟨g16, h⟩ := gd_inv h
  obtain ⟨S17, e18, h⟩ := lt_inv h
  refine y_iast e18 d_F_valueOf_44 (ksFo_3 gg0) g16 ?_
  refine x_aload_n d_F_valueOf_45 rfl 0 rfl ?_
  refine x_iconst d_F_valueOf_46 ic_0 ?_
  obtain ⟨S19, e20, h⟩ := lt_inv h
  refine y_putI e20 d_F_valueOf_47 fl_3_28 rfl rfl (ksFo gg0) rfl rfl ?_
  refine x_iconst d_F_valueOf_50 ic_0 ?_
  refine x_istore (L1 := [(0, .ref o), (1, .int p1), (2, .int p2), (3, .int p3), (4, .int p4), (5, .int p5), (6, .int p6), (7, .int (0 : Int32))]) d_F_valueOf_51 (Nat.le_of_ble_eq_true rfl) rfl rfl ?_
  refine y_pick (L1 := [(0, .ref o), (7, .int (0 : Int32))]) [0, 7] rfl ?_
  refine T_F_valueOf_53 (by omega) gg0  F (0 : Int32) S19 _ h
/-! NinetyPlayers.missedOf -/
def j_N_missedOf_95 (F G : Nat) (S : St) (y5 : Int32) : Option (Int32 × St) :=
  some (if (0 : Int32) < (if y5 < (999 : Int32) then y5 else (999 : Int32)) then (if y5 < (999 : Int32) then y5 else (999 : Int32)) else (0 : Int32), S)
def fN_missedOf (F G : Nat) (S : St) (p1 : Int32) : Option (Int32 × St) :=
  gd (isSc S.2.2.1) (bd (fS_roleOf F G S S.2.2.1 p1) fun v3 => gd (inB p1 10) (lt (S.1 34 p1.toNatClampNeg) fun v5 => bd (fN_doublesOf F G S p1) fun v8 => bd (fJ_bitCount F G S v8) fun v10 => lt ((v5 + (v3 * (5 : Int32))) - v10) fun v11 => bd (fF_isTold F G S (S.2.2.1 + 9)) fun v14 => if v14 = 0 then j_N_missedOf_95 F G  S v11 else gd (inB p1 10) (gd (inB p1 10) (gd (inB p1 10) (bd2 (fF_valueOf F G S (S.2.2.1 + 9) v3 (S.1 32 p1.toNatClampNeg) (S.1 33 p1.toNatClampNeg) v5 v10 (S.1 (S.2.2.1 + 5) p1.toNatClampNeg)) fun v20 S21 => j_N_missedOf_95 F G  S21 v20)))))
set_option maxRecDepth 100000 in
set_option maxHeartbeats 4000000 in
theorem c_N_missedOf {X : Nat × (Nat → Int32)} {D F G : Nat} (hD : 3 ≤ D) {S : St} {p1 : Int32} {res : Int32 × St} (h : fN_missedOf F G S p1 = some res) : Ek X (D) mN_missedOf 0 [(0, .ref 0), (1, .int p1)] [] S (some (.int res.1)) res.2 := by
  obtain ⟨D, rfl⟩ : ∃ E, D = E + 1 := ⟨D - 1, by omega⟩
  unfold fN_missedOf at h
  have J95 : ∀ (S : St) (y5 : Int32) (res : Int32 × St), j_N_missedOf_95 F G S y5 = some res → Ek X (D + 1) mN_missedOf 95 [(5, .int y5)] [] S (some (.int res.1)) res.2 := by
    intro S y5 res h
    unfold j_N_missedOf_95 at h
    refine x_iconst d_N_missedOf_95 ic_0 ?_
    refine x_sipush d_N_missedOf_96 sp_999 ?_
    refine x_iload d_N_missedOf_99 0 rfl ?_
    refine y_mmin d_N_missedOf_101 ml_0_229 (Nat.le_of_ble_eq_true rfl) ?_
    refine y_mmax d_N_missedOf_104 ml_0_234 (Nat.le_of_ble_eq_true rfl) ?_
    obtain rfl := Option.some.inj h
    exact x_ret (r := some (.int (if (0 : Int32) < (if y5 < (999 : Int32) then y5 else (999 : Int32)) then (if y5 < (999 : Int32) then y5 else (999 : Int32)) else (0 : Int32)))) d_N_missedOf_107 ⟨_, rfl, rfl⟩
  refine x_aload_n d_N_missedOf_0 rfl 0 rfl ?_
  refine y_getR d_N_missedOf_1 fl_0_24 rfl kd_0 rr_told ?_
  obtain ⟨g1, h⟩ := gd_inv h
  refine x_iload_n d_N_missedOf_4 rfl 1 rfl ?_
  obtain ⟨v3, q2, h⟩ := bd_inv h
  refine y_V1i (v := v3) (S1 := S) d_N_missedOf_5 ml_0_208 (ksSc g1) rfl (Nat.le_of_ble_eq_true rfl) (Nat.le_of_ble_eq_true rfl) (c_S_roleOf (by omega) q2) ?_
  refine x_istore_n (L1 := [(0, .ref 0), (1, .int p1), (2, .int v3)]) d_N_missedOf_8 rfl (Nat.le_of_ble_eq_true rfl) rfl rfl ?_
  refine x_aload_n d_N_missedOf_9 rfl 0 rfl ?_
  refine y_getR d_N_missedOf_10 fl_0_31 rfl kd_0 rr_0_3 ?_
  refine y_getR d_N_missedOf_13 fl_0_144 rfl kd_30 rr_30_5 ?_
  refine x_iload_n d_N_missedOf_16 rfl 1 rfl ?_
  obtain ⟨g4, h⟩ := gd_inv h
  refine y_iald d_N_missedOf_17 kd_34 g4 ?_
  obtain ⟨v5, e6, h⟩ := lt_inv h
  refine y_istore_n (L1 := [(0, .ref 0), (1, .int p1), (2, .int v3), (3, .int v5)]) e6 d_N_missedOf_18 rfl (Nat.le_of_ble_eq_true rfl) rfl rfl ?_
  refine x_aload_n d_N_missedOf_19 rfl 0 rfl ?_
  refine x_iload_n d_N_missedOf_20 rfl 1 rfl ?_
  obtain ⟨v8, q7, h⟩ := bd_inv h
  refine y_V1i (v := v8) (S1 := S) d_N_missedOf_21 ml_0_154 kd_0 rfl (Nat.le_of_ble_eq_true rfl) (Nat.le_of_ble_eq_true rfl) (c_N_doublesOf (by omega) q7) ?_
  obtain ⟨v10, q9, h⟩ := bd_inv h
  refine y_S1i (v := v10) (S1 := S) d_N_missedOf_24 ml_0_211 (Nat.le_of_ble_eq_true rfl) (Nat.le_of_ble_eq_true rfl) (c_J_bitCount (by omega) q9) ?_
  refine x_istore (L1 := [(0, .ref 0), (1, .int p1), (2, .int v3), (3, .int v5), (4, .int v10)]) d_N_missedOf_27 (Nat.le_of_ble_eq_true rfl) rfl rfl ?_
  refine x_iload_n d_N_missedOf_29 rfl 3 rfl ?_
  refine x_iload_n d_N_missedOf_30 rfl 2 rfl ?_
  refine x_iconst d_N_missedOf_31 ic_5 ?_
  refine x_imul d_N_missedOf_32 ?_
  refine x_iadd d_N_missedOf_33 ?_
  refine x_iload d_N_missedOf_34 4 rfl ?_
  refine x_isub d_N_missedOf_36 ?_
  obtain ⟨v11, e12, h⟩ := lt_inv h
  refine y_istore (L1 := [(0, .ref 0), (1, .int p1), (2, .int v3), (3, .int v5), (4, .int v10), (5, .int v11)]) e12 d_N_missedOf_37 (Nat.le_of_ble_eq_true rfl) rfl rfl ?_
  refine x_aload_n d_N_missedOf_39 rfl 0 rfl ?_
  refine y_getR d_N_missedOf_40 fl_0_24 rfl kd_0 rr_told ?_
  refine y_getR d_N_missedOf_43 fl_0_216 rfl (ksSc g1) (rrSc_15 g1) ?_
  obtain ⟨v14, q13, h⟩ := bd_inv h
  refine y_V0i (v := v14) (S1 := S) d_N_missedOf_46 ml_0_220 (ksFo (isFo_of g1)) rfl (Nat.le_of_ble_eq_true rfl) (Nat.le_of_ble_eq_true rfl) (c_F_isTold (by omega) q13) ?_
  refine x_if_eq (tgt := 95) d_N_missedOf_49 rfl (fun c15 => ?_) (fun c15 => ?_)
  · replace h := ite_t c15 h
    refine y_pick (L1 := [(5, .int v11)]) [5] rfl ?_
    exact J95 S v11 _ h
  · replace h := ite_f c15 h
    refine x_aload_n d_N_missedOf_52 rfl 0 rfl ?_
    refine y_getR d_N_missedOf_53 fl_0_24 rfl kd_0 rr_told ?_
    refine y_getR d_N_missedOf_56 fl_0_216 rfl (ksSc g1) (rrSc_15 g1) ?_
    refine x_iload_n d_N_missedOf_59 rfl 2 rfl ?_
    refine x_aload_n d_N_missedOf_60 rfl 0 rfl ?_
    refine y_getR d_N_missedOf_61 fl_0_31 rfl kd_0 rr_0_3 ?_
    refine y_getR d_N_missedOf_64 fl_0_138 rfl kd_30 rr_30_3 ?_
    refine x_iload_n d_N_missedOf_67 rfl 1 rfl ?_
    obtain ⟨g16, h⟩ := gd_inv h
    refine y_iald d_N_missedOf_68 kd_32 g16 ?_
    refine x_aload_n d_N_missedOf_69 rfl 0 rfl ?_
    refine y_getR d_N_missedOf_70 fl_0_31 rfl kd_0 rr_0_3 ?_
    refine y_getR d_N_missedOf_73 fl_0_141 rfl kd_30 rr_30_4 ?_
    refine x_iload_n d_N_missedOf_76 rfl 1 rfl ?_
    obtain ⟨g17, h⟩ := gd_inv h
    refine y_iald d_N_missedOf_77 kd_33 g17 ?_
    refine x_iload_n d_N_missedOf_78 rfl 3 rfl ?_
    refine x_iload d_N_missedOf_79 4 rfl ?_
    refine x_aload_n d_N_missedOf_81 rfl 0 rfl ?_
    refine y_getR d_N_missedOf_82 fl_0_24 rfl kd_0 rr_told ?_
    refine y_getR d_N_missedOf_85 fl_0_135 rfl (ksSc g1) (rrSc_11 g1) ?_
    refine x_iload_n d_N_missedOf_88 rfl 1 rfl ?_
    obtain ⟨g18, h⟩ := gd_inv h
    refine y_iald d_N_missedOf_89 (ksSc_5 g1) g18 ?_
    obtain ⟨v20, S21, q19, h⟩ := bd2_inv h
    refine y_V6i (v := v20) (S1 := S21) d_N_missedOf_90 ml_0_225 (ksFo (isFo_of g1)) rfl (Nat.le_of_ble_eq_true rfl) (Nat.le_of_ble_eq_true rfl) (c_F_valueOf (by omega) q19) ?_
    refine x_istore (L1 := [(0, .ref 0), (1, .int p1), (2, .int v3), (3, .int v5), (4, .int v10), (5, .int v20)]) d_N_missedOf_93 (Nat.le_of_ble_eq_true rfl) rfl rfl ?_
    refine y_pick (L1 := [(5, .int v20)]) [5] rfl ?_
    exact J95 S21 v20 _ h
/-! NinetyPlayers.note -/
def fN_note (F G : Nat) (S : St) (p1 : Int32) (p2 : Int32) : Option (Int32 × St) :=
  bd (fN_isNote F G S p1) fun v2 => if v2 = 0 then some ((-1 : Int32), S) else if p2 = 0 then gd (isSc S.2.2.1) (gd (inB p1 10) (some (S.1 (S.2.2.1 + 4) p1.toNatClampNeg, S))) else if p2 = 1 then gd (isSc S.2.2.1) (gd (inB p1 10) (some (S.1 (S.2.2.1 + 5) p1.toNatClampNeg, S))) else if p2 = 2 then gd (inB p1 10) (some (S.1 32 p1.toNatClampNeg, S)) else if p2 = 3 then gd (inB p1 10) (some (S.1 33 p1.toNatClampNeg, S)) else if p2 = 4 then gd (inB p1 10) (some (S.1 34 p1.toNatClampNeg, S)) else if p2 = 5 then gd (inB p1 10) (some (S.1 31 p1.toNatClampNeg, S)) else if p2 = 6 then bd2 (fN_missedOf F G S p1) fun v20 S21 => some (v20, S21) else if p2 = 7 then bd (fN_doublesOf F G S p1) fun v24 => some (v24, S) else some ((-1 : Int32), S)
set_option maxRecDepth 100000 in
set_option maxHeartbeats 4000000 in
theorem c_N_note {X : Nat × (Nat → Int32)} {D F G : Nat} (hD : 4 ≤ D) {S : St} {p1 : Int32} {p2 : Int32} {res : Int32 × St} (h : fN_note F G S p1 p2 = some res) : Ek X (D) mN_note 0 [(0, .ref 0), (1, .int p1), (2, .int p2)] [] S (some (.int res.1)) res.2 := by
  obtain ⟨D, rfl⟩ : ∃ E, D = E + 1 := ⟨D - 1, by omega⟩
  unfold fN_note at h
  refine x_aload_n d_N_note_0 rfl 0 rfl ?_
  refine x_iload_n d_N_note_1 rfl 1 rfl ?_
  obtain ⟨v2, q1, h⟩ := bd_inv h
  refine y_V1i (v := v2) (S1 := S) d_N_note_2 ml_0_128 kd_0 rfl (Nat.le_of_ble_eq_true rfl) (Nat.le_of_ble_eq_true rfl) (c_N_isNote (by omega) q1) ?_
  refine x_if_ne (tgt := 10) d_N_note_5 rfl (fun c3 => ?_) (fun c3 => ?_)
  · replace h := ite_f c3 h
    refine x_iload_n d_N_note_10 rfl 2 rfl ?_
    by_cases c4 : p2 = 0
    · replace h := ite_t c4 h
      refine x_tabC (tgt := 56) 0 d_N_note_11 (by rw [c4]; rfl) (by decide) rfl rfl ?_
      refine x_aload_n d_N_note_56 rfl 0 rfl ?_
      refine y_getR d_N_note_57 fl_0_24 rfl kd_0 rr_told ?_
      obtain ⟨g5, h⟩ := gd_inv h
      refine y_getR d_N_note_60 fl_0_132 rfl (ksSc g5) (rrSc_10 g5) ?_
      refine x_iload_n d_N_note_63 rfl 1 rfl ?_
      obtain ⟨g6, h⟩ := gd_inv h
      refine y_iald d_N_note_64 (ksSc_4 g5) g6 ?_
      obtain rfl := Option.some.inj h
      exact x_ret (r := some (.int (S.1 (S.2.2.1 + 4) p1.toNatClampNeg))) d_N_note_65 ⟨_, rfl, rfl⟩
    replace h := ite_f c4 h
    by_cases c7 : p2 = 1
    · replace h := ite_t c7 h
      refine x_tabC (tgt := 66) 1 d_N_note_11 (by rw [c7]; rfl) (by decide) rfl rfl ?_
      refine x_aload_n d_N_note_66 rfl 0 rfl ?_
      refine y_getR d_N_note_67 fl_0_24 rfl kd_0 rr_told ?_
      obtain ⟨g8, h⟩ := gd_inv h
      refine y_getR d_N_note_70 fl_0_135 rfl (ksSc g8) (rrSc_11 g8) ?_
      refine x_iload_n d_N_note_73 rfl 1 rfl ?_
      obtain ⟨g9, h⟩ := gd_inv h
      refine y_iald d_N_note_74 (ksSc_5 g8) g9 ?_
      obtain rfl := Option.some.inj h
      exact x_ret (r := some (.int (S.1 (S.2.2.1 + 5) p1.toNatClampNeg))) d_N_note_75 ⟨_, rfl, rfl⟩
    replace h := ite_f c7 h
    by_cases c10 : p2 = 2
    · replace h := ite_t c10 h
      refine x_tabC (tgt := 76) 2 d_N_note_11 (by rw [c10]; rfl) (by decide) rfl rfl ?_
      refine x_aload_n d_N_note_76 rfl 0 rfl ?_
      refine y_getR d_N_note_77 fl_0_31 rfl kd_0 rr_0_3 ?_
      refine y_getR d_N_note_80 fl_0_138 rfl kd_30 rr_30_3 ?_
      refine x_iload_n d_N_note_83 rfl 1 rfl ?_
      obtain ⟨g11, h⟩ := gd_inv h
      refine y_iald d_N_note_84 kd_32 g11 ?_
      obtain rfl := Option.some.inj h
      exact x_ret (r := some (.int (S.1 32 p1.toNatClampNeg))) d_N_note_85 ⟨_, rfl, rfl⟩
    replace h := ite_f c10 h
    by_cases c12 : p2 = 3
    · replace h := ite_t c12 h
      refine x_tabC (tgt := 86) 3 d_N_note_11 (by rw [c12]; rfl) (by decide) rfl rfl ?_
      refine x_aload_n d_N_note_86 rfl 0 rfl ?_
      refine y_getR d_N_note_87 fl_0_31 rfl kd_0 rr_0_3 ?_
      refine y_getR d_N_note_90 fl_0_141 rfl kd_30 rr_30_4 ?_
      refine x_iload_n d_N_note_93 rfl 1 rfl ?_
      obtain ⟨g13, h⟩ := gd_inv h
      refine y_iald d_N_note_94 kd_33 g13 ?_
      obtain rfl := Option.some.inj h
      exact x_ret (r := some (.int (S.1 33 p1.toNatClampNeg))) d_N_note_95 ⟨_, rfl, rfl⟩
    replace h := ite_f c12 h
    by_cases c14 : p2 = 4
    · replace h := ite_t c14 h
      refine x_tabC (tgt := 96) 4 d_N_note_11 (by rw [c14]; rfl) (by decide) rfl rfl ?_
      refine x_aload_n d_N_note_96 rfl 0 rfl ?_
      refine y_getR d_N_note_97 fl_0_31 rfl kd_0 rr_0_3 ?_
      refine y_getR d_N_note_100 fl_0_144 rfl kd_30 rr_30_5 ?_
      refine x_iload_n d_N_note_103 rfl 1 rfl ?_
      obtain ⟨g15, h⟩ := gd_inv h
      refine y_iald d_N_note_104 kd_34 g15 ?_
      obtain rfl := Option.some.inj h
      exact x_ret (r := some (.int (S.1 34 p1.toNatClampNeg))) d_N_note_105 ⟨_, rfl, rfl⟩
    replace h := ite_f c14 h
    by_cases c16 : p2 = 5
    · replace h := ite_t c16 h
      refine x_tabC (tgt := 106) 5 d_N_note_11 (by rw [c16]; rfl) (by decide) rfl rfl ?_
      refine x_aload_n d_N_note_106 rfl 0 rfl ?_
      refine y_getR d_N_note_107 fl_0_31 rfl kd_0 rr_0_3 ?_
      refine y_getR d_N_note_110 fl_0_147 rfl kd_30 rr_30_2 ?_
      refine x_iload_n d_N_note_113 rfl 1 rfl ?_
      obtain ⟨g17, h⟩ := gd_inv h
      refine y_iald d_N_note_114 kd_31 g17 ?_
      obtain rfl := Option.some.inj h
      exact x_ret (r := some (.int (S.1 31 p1.toNatClampNeg))) d_N_note_115 ⟨_, rfl, rfl⟩
    replace h := ite_f c16 h
    by_cases c18 : p2 = 6
    · replace h := ite_t c18 h
      refine x_tabC (tgt := 116) 6 d_N_note_11 (by rw [c18]; rfl) (by decide) rfl rfl ?_
      refine x_aload_n d_N_note_116 rfl 0 rfl ?_
      refine x_iload_n d_N_note_117 rfl 1 rfl ?_
      obtain ⟨v20, S21, q19, h⟩ := bd2_inv h
      refine y_V1i (v := v20) (S1 := S21) d_N_note_118 ml_0_150 kd_0 rfl (Nat.le_of_ble_eq_true rfl) (Nat.le_of_ble_eq_true rfl) (c_N_missedOf (by omega) q19) ?_
      obtain rfl := Option.some.inj h
      exact x_ret (r := some (.int v20)) d_N_note_121 ⟨_, rfl, rfl⟩
    replace h := ite_f c18 h
    by_cases c22 : p2 = 7
    · replace h := ite_t c22 h
      refine x_tabC (tgt := 122) 7 d_N_note_11 (by rw [c22]; rfl) (by decide) rfl rfl ?_
      refine x_aload_n d_N_note_122 rfl 0 rfl ?_
      refine x_iload_n d_N_note_123 rfl 1 rfl ?_
      obtain ⟨v24, q23, h⟩ := bd_inv h
      refine y_V1i (v := v24) (S1 := S) d_N_note_124 ml_0_154 kd_0 rfl (Nat.le_of_ble_eq_true rfl) (Nat.le_of_ble_eq_true rfl) (c_N_doublesOf (by omega) q23) ?_
      obtain rfl := Option.some.inj h
      exact x_ret (r := some (.int v24)) d_N_note_127 ⟨_, rfl, rfl⟩
    replace h := ite_f c22 h
    refine x_tabD (tgt := 128) d_N_note_11 (by have := lv_neT c4 (show (0 : Int32).toInt = 0 from rfl); have := lv_neT c7 (show (1 : Int32).toInt = 1 from rfl); have := lv_neT c10 (show (2 : Int32).toInt = 2 from rfl); have := lv_neT c12 (show (3 : Int32).toInt = 3 from rfl); have := lv_neT c14 (show (4 : Int32).toInt = 4 from rfl); have := lv_neT c16 (show (5 : Int32).toInt = 5 from rfl); have := lv_neT c18 (show (6 : Int32).toInt = 6 from rfl); have := lv_neT c22 (show (7 : Int32).toInt = 7 from rfl); omega) rfl ?_
    refine x_iconst d_N_note_128 ic_m1 ?_
    obtain rfl := Option.some.inj h
    exact x_ret (r := some (.int (-1 : Int32))) d_N_note_129 ⟨_, rfl, rfl⟩
  · replace h := ite_t c3 h
    refine x_iconst d_N_note_8 ic_m1 ?_
    obtain rfl := Option.some.inj h
    exact x_ret (r := some (.int (-1 : Int32))) d_N_note_9 ⟨_, rfl, rfl⟩
/-! NinetyPlayersModel.isIn -/
def fM_isIn (F G : Nat) (S : St) (p1 : Int32) (p2 : Int32) (p3 : Int32) : Option (Int32) :=
  if p1 < p2 then some (0 : Int32) else if p3 < p1 then some (0 : Int32) else some (1 : Int32)
set_option maxRecDepth 100000 in
set_option maxHeartbeats 4000000 in
theorem c_M_isIn {X : Nat × (Nat → Int32)} {D F G : Nat} (hD : 0 ≤ D) {S : St} {p1 : Int32} {p2 : Int32} {p3 : Int32} {res : Int32} (h : fM_isIn F G S p1 p2 p3 = some res) : Ek X (D) mM_isIn 0 [(0, .int p1), (1, .int p2), (2, .int p3)] [] S (some (.int res)) S := by
  unfold fM_isIn at h
  refine x_iload_n d_M_isIn_0 rfl 0 rfl ?_
  refine x_iload_n d_M_isIn_1 rfl 1 rfl ?_
  refine x_icmp_lt (tgt := 14) d_M_isIn_2 rfl (fun c1 => ?_) (fun c1 => ?_)
  · replace h := ite_t c1 h
    refine x_iconst d_M_isIn_14 ic_0 ?_
    obtain rfl := Option.some.inj h
    exact x_ret (r := some (.int (0 : Int32))) d_M_isIn_15 ⟨_, rfl, rfl⟩
  · replace h := ite_f c1 h
    refine x_iload_n d_M_isIn_5 rfl 0 rfl ?_
    refine x_iload_n d_M_isIn_6 rfl 2 rfl ?_
    refine x_icmp_gt (tgt := 14) d_M_isIn_7 rfl (fun c2 => ?_) (fun c2 => ?_)
    · replace h := ite_t c2 h
      refine x_iconst d_M_isIn_14 ic_0 ?_
      obtain rfl := Option.some.inj h
      exact x_ret (r := some (.int (0 : Int32))) d_M_isIn_15 ⟨_, rfl, rfl⟩
    · replace h := ite_f c2 h
      refine x_iconst d_M_isIn_10 ic_1 ?_
      refine x_goto (tgt := 15) d_M_isIn_11 rfl ?_
      obtain rfl := Option.some.inj h
      exact x_ret (r := some (.int (1 : Int32))) d_M_isIn_15 ⟨_, rfl, rfl⟩
/-! NinetyPlayersModel.isNote -/
def fM_isNote (F G : Nat) (S : St) (p1 : Int32) : Option (Int32) :=
  bd (fM_isIn F G S p1 (0 : Int32) ((S.1 78 48) - (1 : Int32))) fun v2 => gd (isB v2) (some v2)
set_option maxRecDepth 100000 in
set_option maxHeartbeats 4000000 in
theorem c_M_isNote {X : Nat × (Nat → Int32)} {D F G : Nat} (hD : 1 ≤ D) {S : St} {p1 : Int32} {res : Int32} (h : fM_isNote F G S p1 = some res) : Ek X (D) mM_isNote 0 [(0, .ref 78), (1, .int p1)] [] S (some (.int res)) S := by
  obtain ⟨D, rfl⟩ : ∃ E, D = E + 1 := ⟨D - 1, by omega⟩
  unfold fM_isNote at h
  refine x_iload_n d_M_isNote_0 rfl 1 rfl ?_
  refine x_iconst d_M_isNote_1 ic_0 ?_
  refine x_aload_n d_M_isNote_2 rfl 0 rfl ?_
  refine y_getI d_M_isNote_3 fl_11_322 rfl kd_78 ?_
  refine x_iconst d_M_isNote_6 ic_1 ?_
  refine x_isub d_M_isNote_7 ?_
  obtain ⟨v2, q1, h⟩ := bd_inv h
  refine y_S3i (v := v2) (S1 := S) d_M_isNote_8 ml_11_429 (Nat.le_of_ble_eq_true rfl) (Nat.le_of_ble_eq_true rfl) (c_M_isIn (by omega) q1) ?_
  obtain ⟨g3, h⟩ := gd_inv h
  obtain rfl := Option.some.inj h
  exact x_ret (r := some (.int v2)) d_M_isNote_11 ⟨_, rfl, isB_nar g3⟩
/-! NinetyPlayersModel.layHold -/
def b_M_layHold_2 (F G : Nat) (k21 : St → Option (St)) (rec : Int32 → St → Option (St)) (w1 : Int32) (S : St) : Option (St) :=
  if (12 : Int32) ≤ w1 then k21 S else gd (inB w1 12) (lt (sI S 102 w1.toNatClampNeg (0 : Int32)) fun S3 => lt (w1 + 1) fun v5 => rec v5 S3)
def j_M_layHold_101 (F G : Nat) (z1 : Int32) (k124 : St → Option (St)) (rec : Int32 → Int32 → St → Option (St)) (S : St) (y3 : Int32) (s0 : Int32) : Option (St) :=
  if s0 = 0 then lt (y3 + 1) fun v22 => rec s0 v22 S else gd (inB y3 12) (gd (inB y3 12) (lt (sI S 102 y3.toNatClampNeg ((S.1 102 y3.toNatClampNeg) ||| ((1 : Int32) <<< (z1 &&& 31)))) fun S26 => lt (y3 + 1) fun v28 => rec s0 v28 S26))
def j_M_layHold_100 (F G : Nat) (z1 : Int32) (k124 : St → Option (St)) (rec : Int32 → Int32 → St → Option (St)) (S : St) (y3 : Int32) : Option (St) :=
  j_M_layHold_101 F G z1 k124 rec  S y3 (0 : Int32)
def j_M_layHold_96 (F G : Nat) (z1 : Int32) (k124 : St → Option (St)) (rec : Int32 → Int32 → St → Option (St)) (S : St) (y3 : Int32) : Option (St) :=
  j_M_layHold_101 F G z1 k124 rec  S y3 (1 : Int32)
def b_M_layHold_40 (F G : Nat) (z1 : Int32) (k124 : St → Option (St)) (rec : Int32 → Int32 → St → Option (St)) (w2 : Int32) (w3 : Int32) (S : St) : Option (St) :=
  if (S.1 78 46) ≤ w3 then k124 S else if w2 = 0 then k124 S else gd (inB z1 10) (gd (inB ((20 : Int32) + z1) 41) (if ((S.1 96 z1.toNatClampNeg) + (S.1 101 ((20 : Int32) + z1).toNatClampNeg)) ≤ w3 then j_M_layHold_100 F G z1 k124 rec  S w3 else gd (inB z1 10) (if w3 = (S.1 96 z1.toNatClampNeg) then j_M_layHold_96 F G z1 k124 rec  S w3 else gd (inB (40 : Int32) 41) (if (((S.1 101 (40 : Int32).toNatClampNeg) >>> (w3 &&& 31)) &&& (1 : Int32)) = 0 then j_M_layHold_96 F G z1 k124 rec  S w3 else j_M_layHold_100 F G z1 k124 rec  S w3))))
def b_M_layHold_23 (F G : Nat) (rec : Int32 → St → Option (St)) (w1 : Int32) (S : St) : Option (St) :=
  if (S.1 78 48) ≤ w1 then some S else gd (inB w1 10) (lt (S.1 96 w1.toNatClampNeg) fun v10 => fx3 (b_M_layHold_40 F G w1 (fun S30 => lt (w1 + 1) fun v31 => rec v31 S30)) F (1 : Int32) v10 S)
def fM_layHold (F G : Nat) (S : St) : Option (St) :=
  fx2 (b_M_layHold_2 F G  (fun S7 => fx2 (b_M_layHold_23 F G ) F (0 : Int32) S7)) F (0 : Int32) S
set_option maxRecDepth 100000 in
set_option maxHeartbeats 4000000 in
theorem T_M_layHold_2 {X : Nat × (Nat → Int32)} {D F G : Nat} (hD : 0 ≤ D) {k21 : St → Option (St)} (hk21 : ∀ (S1 : St) (res : St), k21 S1 = some res → Ek X (D) mM_layHold 21 [(0, .ref 78)] [] S1 none res) : ∀ (f : Nat) (w1 : Int32) (S : St) (res : St), fx2 (b_M_layHold_2 F G k21 ) f w1 S = some res → Ek X (D) mM_layHold 2 [(0, .ref 78), (1, .int w1)] [] S none res := by
  refine fx2_ind ?_
  intro rec ih w1 S res h
  unfold b_M_layHold_2 at h
  refine x_iload_n d_M_layHold_2 rfl 1 rfl ?_
  refine x_bipush d_M_layHold_3 bp_12 ?_
  refine x_icmp_ge (tgt := 21) d_M_layHold_5 rfl (fun c1 => ?_) (fun c1 => ?_)
  · replace h := ite_t c1 h
    refine y_pick (L1 := [(0, .ref 78)]) [0] rfl ?_
    exact hk21 S _ h
  · replace h := ite_f c1 h
    refine x_aload_n d_M_layHold_8 rfl 0 rfl ?_
    refine y_getR d_M_layHold_9 fl_11_99 rfl kd_78 rr_78_60 ?_
    refine x_iload_n d_M_layHold_12 rfl 1 rfl ?_
    refine x_iconst d_M_layHold_13 ic_0 ?_
    obtain ⟨g2, h⟩ := gd_inv h
    obtain ⟨S3, e4, h⟩ := lt_inv h
    refine y_iast e4 d_M_layHold_14 kd_102 g2 ?_
    obtain ⟨v5, e6, h⟩ := lt_inv h
    refine y_iinc (L1 := [(0, .ref 78), (1, .int v5)]) e6 ic_1 d_M_layHold_15 1 rfl (Nat.le_of_ble_eq_true rfl) rfl rfl ?_
    refine x_goto (tgt := 2) d_M_layHold_18 rfl ?_
    exact ih v5 S3 _ h
set_option maxRecDepth 100000 in
set_option maxHeartbeats 4000000 in
theorem T_M_layHold_40 {X : Nat × (Nat → Int32)} {D F G : Nat} (hD : 0 ≤ D) {z1 : Int32} {k124 : St → Option (St)} (hk124 : ∀ (S1 : St) (res : St), k124 S1 = some res → Ek X (D) mM_layHold 124 [(0, .ref 78), (1, .int z1)] [] S1 none res) : ∀ (f : Nat) (w2 : Int32) (w3 : Int32) (S : St) (res : St), fx3 (b_M_layHold_40 F G z1 k124 ) f w2 w3 S = some res → Ek X (D) mM_layHold 40 [(0, .ref 78), (1, .int z1), (2, .int w2), (3, .int w3)] [] S none res := by
  refine fx3_ind ?_
  intro rec ih w2 w3 S res h
  unfold b_M_layHold_40 at h
  have J101 : ∀ (S : St) (y3 : Int32) (s0 : Int32) (res : St), j_M_layHold_101 F G z1 k124 rec S y3 s0 = some res → Ek X (D) mM_layHold 101 [(0, .ref 78), (1, .int z1), (3, .int y3)] [.int s0] S none res := by
    intro S y3 s0 res h
    unfold j_M_layHold_101 at h
    refine x_istore_n (L1 := [(0, .ref 78), (1, .int z1), (2, .int s0), (3, .int y3)]) d_M_layHold_101 rfl (Nat.le_of_ble_eq_true rfl) rfl rfl ?_
    refine x_iload_n d_M_layHold_102 rfl 2 rfl ?_
    refine x_if_eq (tgt := 118) d_M_layHold_103 rfl (fun c21 => ?_) (fun c21 => ?_)
    · replace h := ite_t c21 h
      obtain ⟨v22, e23, h⟩ := lt_inv h
      refine y_iinc (L1 := [(0, .ref 78), (1, .int z1), (2, .int s0), (3, .int v22)]) e23 ic_1 d_M_layHold_118 3 rfl (Nat.le_of_ble_eq_true rfl) rfl rfl ?_
      refine x_goto (tgt := 40) d_M_layHold_121 rfl ?_
      exact ih s0 v22 S _ h
    · replace h := ite_f c21 h
      refine x_aload_n d_M_layHold_106 rfl 0 rfl ?_
      refine y_getR d_M_layHold_107 fl_11_99 rfl kd_78 rr_78_60 ?_
      refine x_iload_n d_M_layHold_110 rfl 3 rfl ?_
      refine x_dup2 d_M_layHold_111 rfl rfl ?_
      obtain ⟨g24, h⟩ := gd_inv h
      refine y_iald d_M_layHold_112 kd_102 g24 ?_
      refine x_iconst d_M_layHold_113 ic_1 ?_
      refine x_iload_n d_M_layHold_114 rfl 1 rfl ?_
      refine x_ishl d_M_layHold_115 ?_
      refine x_ior d_M_layHold_116 ?_
      obtain ⟨g25, h⟩ := gd_inv h
      obtain ⟨S26, e27, h⟩ := lt_inv h
      refine y_iast e27 d_M_layHold_117 kd_102 g25 ?_
      obtain ⟨v28, e29, h⟩ := lt_inv h
      refine y_iinc (L1 := [(0, .ref 78), (1, .int z1), (2, .int s0), (3, .int v28)]) e29 ic_1 d_M_layHold_118 3 rfl (Nat.le_of_ble_eq_true rfl) rfl rfl ?_
      refine x_goto (tgt := 40) d_M_layHold_121 rfl ?_
      exact ih s0 v28 S26 _ h
  have J100 : ∀ (S : St) (y3 : Int32) (res : St), j_M_layHold_100 F G z1 k124 rec S y3 = some res → Ek X (D) mM_layHold 100 [(0, .ref 78), (1, .int z1), (3, .int y3)] [] S none res := by
    intro S y3 res h
    unfold j_M_layHold_100 at h
    refine x_iconst d_M_layHold_100 ic_0 ?_
    exact J101 S y3 (0 : Int32) _ h
  have J96 : ∀ (S : St) (y3 : Int32) (res : St), j_M_layHold_96 F G z1 k124 rec S y3 = some res → Ek X (D) mM_layHold 96 [(0, .ref 78), (1, .int z1), (3, .int y3)] [] S none res := by
    intro S y3 res h
    unfold j_M_layHold_96 at h
    refine x_iconst d_M_layHold_96 ic_1 ?_
    refine x_goto (tgt := 101) d_M_layHold_97 rfl ?_
    exact J101 S y3 (1 : Int32) _ h
  refine x_iload_n d_M_layHold_40 rfl 3 rfl ?_
  refine x_aload_n d_M_layHold_41 rfl 0 rfl ?_
  refine y_getI d_M_layHold_42 fl_11_78 rfl kd_78 ?_
  refine x_icmp_ge (tgt := 124) d_M_layHold_45 rfl (fun c12 => ?_) (fun c12 => ?_)
  · replace h := ite_t c12 h
    refine y_pick (L1 := [(0, .ref 78), (1, .int z1)]) [0, 1] rfl ?_
    exact hk124 S _ h
  · replace h := ite_f c12 h
    refine x_iload_n d_M_layHold_48 rfl 2 rfl ?_
    refine x_if_eq (tgt := 124) d_M_layHold_49 rfl (fun c13 => ?_) (fun c13 => ?_)
    · replace h := ite_t c13 h
      refine y_pick (L1 := [(0, .ref 78), (1, .int z1)]) [0, 1] rfl ?_
      exact hk124 S _ h
    · replace h := ite_f c13 h
      refine x_iload_n d_M_layHold_52 rfl 3 rfl ?_
      refine x_aload_n d_M_layHold_53 rfl 0 rfl ?_
      refine y_getR d_M_layHold_54 fl_11_66 rfl kd_78 rr_78_35 ?_
      refine x_iload_n d_M_layHold_57 rfl 1 rfl ?_
      obtain ⟨g14, h⟩ := gd_inv h
      refine y_iald d_M_layHold_58 kd_96 g14 ?_
      refine x_aload_n d_M_layHold_59 rfl 0 rfl ?_
      refine y_getR d_M_layHold_60 fl_11_96 rfl kd_78 rr_78_59 ?_
      refine x_bipush d_M_layHold_63 bp_20 ?_
      refine x_iload_n d_M_layHold_65 rfl 1 rfl ?_
      refine x_iadd d_M_layHold_66 ?_
      obtain ⟨g15, h⟩ := gd_inv h
      refine y_iald d_M_layHold_67 kd_101 g15 ?_
      refine x_iadd d_M_layHold_68 ?_
      refine x_icmp_ge (tgt := 100) d_M_layHold_69 rfl (fun c16 => ?_) (fun c16 => ?_)
      · replace h := ite_t c16 h
        refine y_pick (L1 := [(0, .ref 78), (1, .int z1), (3, .int w3)]) [0, 1, 3] rfl ?_
        exact J100 S w3 _ h
      · replace h := ite_f c16 h
        refine x_iload_n d_M_layHold_72 rfl 3 rfl ?_
        refine x_aload_n d_M_layHold_73 rfl 0 rfl ?_
        refine y_getR d_M_layHold_74 fl_11_66 rfl kd_78 rr_78_35 ?_
        refine x_iload_n d_M_layHold_77 rfl 1 rfl ?_
        obtain ⟨g17, h⟩ := gd_inv h
        refine y_iald d_M_layHold_78 kd_96 g17 ?_
        refine x_icmp_eq (tgt := 96) d_M_layHold_79 rfl (fun c18 => ?_) (fun c18 => ?_)
        · replace h := ite_t c18 h
          refine y_pick (L1 := [(0, .ref 78), (1, .int z1), (3, .int w3)]) [0, 1, 3] rfl ?_
          exact J96 S w3 _ h
        · replace h := ite_f c18 h
          refine x_aload_n d_M_layHold_82 rfl 0 rfl ?_
          refine y_getR d_M_layHold_83 fl_11_96 rfl kd_78 rr_78_59 ?_
          refine x_bipush d_M_layHold_86 bp_40 ?_
          obtain ⟨g19, h⟩ := gd_inv h
          refine y_iald d_M_layHold_88 kd_101 g19 ?_
          refine x_iload_n d_M_layHold_89 rfl 3 rfl ?_
          refine x_ishr d_M_layHold_90 ?_
          refine x_iconst d_M_layHold_91 ic_1 ?_
          refine x_iand d_M_layHold_92 ?_
          refine x_if_ne (tgt := 100) d_M_layHold_93 rfl (fun c20 => ?_) (fun c20 => ?_)
          · replace h := ite_f c20 h
            refine y_pick (L1 := [(0, .ref 78), (1, .int z1), (3, .int w3)]) [0, 1, 3] rfl ?_
            exact J100 S w3 _ h
          · replace h := ite_t c20 h
            refine y_pick (L1 := [(0, .ref 78), (1, .int z1), (3, .int w3)]) [0, 1, 3] rfl ?_
            exact J96 S w3 _ h
set_option maxRecDepth 100000 in
set_option maxHeartbeats 4000000 in
theorem T_M_layHold_23 {X : Nat × (Nat → Int32)} {D F G : Nat} (hD : 0 ≤ D) : ∀ (f : Nat) (w1 : Int32) (S : St) (res : St), fx2 (b_M_layHold_23 F G ) f w1 S = some res → Ek X (D) mM_layHold 23 [(0, .ref 78), (1, .int w1)] [] S none res := by
  refine fx2_ind ?_
  intro rec ih w1 S res h
  unfold b_M_layHold_23 at h
  refine x_iload_n d_M_layHold_23 rfl 1 rfl ?_
  refine x_aload_n d_M_layHold_24 rfl 0 rfl ?_
  refine y_getI d_M_layHold_25 fl_11_322 rfl kd_78 ?_
  refine x_icmp_ge (tgt := 130) d_M_layHold_28 rfl (fun c8 => ?_) (fun c8 => ?_)
  · replace h := ite_t c8 h
    obtain rfl := Option.some.inj h
    exact x_ret (r := none) d_M_layHold_130 rfl
  · replace h := ite_f c8 h
    refine x_iconst d_M_layHold_31 ic_1 ?_
    refine x_istore_n (L1 := [(0, .ref 78), (1, .int w1), (2, .int (1 : Int32))]) d_M_layHold_32 rfl (Nat.le_of_ble_eq_true rfl) rfl rfl ?_
    refine x_aload_n d_M_layHold_33 rfl 0 rfl ?_
    refine y_getR d_M_layHold_34 fl_11_66 rfl kd_78 rr_78_35 ?_
    refine x_iload_n d_M_layHold_37 rfl 1 rfl ?_
    obtain ⟨g9, h⟩ := gd_inv h
    refine y_iald d_M_layHold_38 kd_96 g9 ?_
    obtain ⟨v10, e11, h⟩ := lt_inv h
    refine y_istore_n (L1 := [(0, .ref 78), (1, .int w1), (2, .int (1 : Int32)), (3, .int v10)]) e11 d_M_layHold_39 rfl (Nat.le_of_ble_eq_true rfl) rfl rfl ?_
    refine T_M_layHold_40 (by omega)  ?_ F (1 : Int32) v10 S _ h
    · intro S30 res h
      obtain ⟨v31, e32, h⟩ := lt_inv h
      refine y_iinc (L1 := [(0, .ref 78), (1, .int v31)]) e32 ic_1 d_M_layHold_124 1 rfl (Nat.le_of_ble_eq_true rfl) rfl rfl ?_
      refine x_goto (tgt := 23) d_M_layHold_127 rfl ?_
      exact ih v31 S30 _ h
set_option maxRecDepth 100000 in
set_option maxHeartbeats 4000000 in
theorem c_M_layHold {X : Nat × (Nat → Int32)} {D F G : Nat} (hD : 0 ≤ D) {S : St} {res : St} (h : fM_layHold F G S  = some res) : Ek X (D) mM_layHold 0 [(0, .ref 78)] [] S none res := by
  unfold fM_layHold at h
  refine x_iconst d_M_layHold_0 ic_0 ?_
  refine x_istore_n (L1 := [(0, .ref 78), (1, .int (0 : Int32))]) d_M_layHold_1 rfl (Nat.le_of_ble_eq_true rfl) rfl rfl ?_
  refine T_M_layHold_2 (by omega)  ?_ F (0 : Int32) S _ h
  · intro S7 res h
    refine x_iconst d_M_layHold_21 ic_0 ?_
    refine x_istore_n (L1 := [(0, .ref 78), (1, .int (0 : Int32))]) d_M_layHold_22 rfl (Nat.le_of_ble_eq_true rfl) rfl rfl ?_
    refine T_M_layHold_23 (by omega)   F (0 : Int32) S7 _ h
/-! NinetyPlayersModel.fill -/
def b_M_fill_2 (F G : Nat) (k26 : St → Option (St)) (rec : Int32 → St → Option (St)) (w1 : Int32) (S : St) : Option (St) :=
  if (41 : Int32) ≤ w1 then k26 S else gd (inB w1 41) (gd (inB w1 41) (lt (sI S 101 w1.toNatClampNeg (S.1 100 w1.toNatClampNeg)) fun S4 => lt (w1 + 1) fun v6 => rec v6 S4))
def fM_fill (F G : Nat) (S : St) : Option (St) :=
  fx2 (b_M_fill_2 F G  (fun S8 => bd (fM_layHold F G S8 ) fun S10 => some S10)) F (0 : Int32) S
set_option maxRecDepth 100000 in
set_option maxHeartbeats 4000000 in
theorem T_M_fill_2 {X : Nat × (Nat → Int32)} {D F G : Nat} (hD : 1 ≤ D + 1) {k26 : St → Option (St)} (hk26 : ∀ (S1 : St) (res : St), k26 S1 = some res → Ek X (D + 1) mM_fill 26 [(0, .ref 78)] [] S1 none res) : ∀ (f : Nat) (w1 : Int32) (S : St) (res : St), fx2 (b_M_fill_2 F G k26 ) f w1 S = some res → Ek X (D + 1) mM_fill 2 [(0, .ref 78), (1, .int w1)] [] S none res := by
  refine fx2_ind ?_
  intro rec ih w1 S res h
  unfold b_M_fill_2 at h
  refine x_iload_n d_M_fill_2 rfl 1 rfl ?_
  refine x_bipush d_M_fill_3 bp_41 ?_
  refine x_icmp_ge (tgt := 26) d_M_fill_5 rfl (fun c1 => ?_) (fun c1 => ?_)
  · replace h := ite_t c1 h
    refine y_pick (L1 := [(0, .ref 78)]) [0] rfl ?_
    exact hk26 S _ h
  · replace h := ite_f c1 h
    refine x_aload_n d_M_fill_8 rfl 0 rfl ?_
    refine y_getR d_M_fill_9 fl_11_96 rfl kd_78 rr_78_59 ?_
    refine x_iload_n d_M_fill_12 rfl 1 rfl ?_
    refine x_aload_n d_M_fill_13 rfl 0 rfl ?_
    refine y_getR d_M_fill_14 fl_11_93 rfl kd_78 rr_78_58 ?_
    refine x_iload_n d_M_fill_17 rfl 1 rfl ?_
    obtain ⟨g2, h⟩ := gd_inv h
    refine y_iald d_M_fill_18 kd_100 g2 ?_
    obtain ⟨g3, h⟩ := gd_inv h
    obtain ⟨S4, e5, h⟩ := lt_inv h
    refine y_iast e5 d_M_fill_19 kd_101 g3 ?_
    obtain ⟨v6, e7, h⟩ := lt_inv h
    refine y_iinc (L1 := [(0, .ref 78), (1, .int v6)]) e7 ic_1 d_M_fill_20 1 rfl (Nat.le_of_ble_eq_true rfl) rfl rfl ?_
    refine x_goto (tgt := 2) d_M_fill_23 rfl ?_
    exact ih v6 S4 _ h
set_option maxRecDepth 100000 in
set_option maxHeartbeats 4000000 in
theorem c_M_fill {X : Nat × (Nat → Int32)} {D F G : Nat} (hD : 1 ≤ D) {S : St} {res : St} (h : fM_fill F G S  = some res) : Ek X (D) mM_fill 0 [(0, .ref 78)] [] S none res := by
  obtain ⟨D, rfl⟩ : ∃ E, D = E + 1 := ⟨D - 1, by omega⟩
  unfold fM_fill at h
  refine x_iconst d_M_fill_0 ic_0 ?_
  refine x_istore_n (L1 := [(0, .ref 78), (1, .int (0 : Int32))]) d_M_fill_1 rfl (Nat.le_of_ble_eq_true rfl) rfl rfl ?_
  refine T_M_fill_2 (by omega)  ?_ F (0 : Int32) S _ h
  · intro S8 res h
    refine x_aload_n d_M_fill_26 rfl 0 rfl ?_
    obtain ⟨S10, q9, h⟩ := bd_inv h
    refine y_V0v (S1 := S10) d_M_fill_27 ml_11_433 kd_78 rfl (Nat.le_of_ble_eq_true rfl) (Nat.le_of_ble_eq_true rfl) (c_M_layHold (by omega) q9) ?_
    obtain rfl := Option.some.inj h
    exact x_ret (r := none) d_M_fill_30 rfl
/-! NinetyPlayersModel.plain -/
def fM_plain (F G : Nat) (S : St) (p1 : Int32) : Option (Int32) :=
  if 0 ≤ p1 then some p1 else some (-p1)
set_option maxRecDepth 100000 in
set_option maxHeartbeats 4000000 in
theorem c_M_plain {X : Nat × (Nat → Int32)} {D F G : Nat} (hD : 0 ≤ D) {S : St} {p1 : Int32} {res : Int32} (h : fM_plain F G S p1 = some res) : Ek X (D) mM_plain 0 [(0, .int p1)] [] S (some (.int res)) S := by
  unfold fM_plain at h
  refine x_iload_n d_M_plain_0 rfl 0 rfl ?_
  refine x_if_ge (tgt := 9) d_M_plain_1 rfl (fun c1 => ?_) (fun c1 => ?_)
  · replace h := ite_t c1 h
    refine x_iload_n d_M_plain_9 rfl 0 rfl ?_
    obtain rfl := Option.some.inj h
    exact x_ret (r := some (.int p1)) d_M_plain_10 ⟨_, rfl, rfl⟩
  · replace h := ite_f c1 h
    refine x_iload_n d_M_plain_4 rfl 0 rfl ?_
    refine x_ineg d_M_plain_5 ?_
    refine x_goto (tgt := 10) d_M_plain_6 rfl ?_
    obtain rfl := Option.some.inj h
    exact x_ret (r := some (.int (-p1))) d_M_plain_10 ⟨_, rfl, rfl⟩
/-! NinetyPlayersModel.doubles -/
def j_M_doubles_66 (F G : Nat) (S : St) (z1 : Int32) (rec : Int32 → Int32 → Option (Int32)) (_ : St) (y3 : Int32) (s0 : Int32) (s1 : Int32) : Option (Int32) :=
  bd (fM_truth F G S s1) fun v12 => lt (s0 ||| (v12 <<< (y3 &&& 31))) fun v13 => lt (y3 + 1) fun v15 => rec v13 v15
def j_M_doubles_65 (F G : Nat) (S : St) (z1 : Int32) (rec : Int32 → Int32 → Option (Int32)) (_ : St) (y3 : Int32) (s0 : Int32) : Option (Int32) :=
  j_M_doubles_66 F G S z1 rec  S y3 s0 (0 : Int32)
def b_M_doubles_4 (F G : Nat) (S : St) (z1 : Int32) (rec : Int32 → Int32 → Option (Int32)) (w2 : Int32) (w3 : Int32) : Option (Int32) :=
  if (S.1 78 48) ≤ w3 then some w2 else if w3 = z1 then j_M_doubles_65 F G S z1 rec  S w3 w2 else gd (inB w3 10) (gd (inB z1 10) (if (S.1 96 w3.toNatClampNeg) = (S.1 96 z1.toNatClampNeg) then gd (inB ((10 : Int32) + w3) 41) (gd (inB ((10 : Int32) + z1) 41) (bd (fM_plain F G S ((S.1 101 ((10 : Int32) + w3).toNatClampNeg) - (S.1 101 ((10 : Int32) + z1).toNatClampNeg))) fun v9 => if (v9 - v9 / (12 : Int32) * (12 : Int32)) = 0 then j_M_doubles_66 F G S z1 rec  S w3 w2 (1 : Int32) else j_M_doubles_65 F G S z1 rec  S w3 w2)) else j_M_doubles_65 F G S z1 rec  S w3 w2))
def fM_doubles (F G : Nat) (S : St) (p1 : Int32) : Option (Int32) :=
  fx2 (b_M_doubles_4 F G S p1) F (0 : Int32) (0 : Int32)
set_option maxRecDepth 100000 in
set_option maxHeartbeats 4000000 in
theorem T_M_doubles_4 {X : Nat × (Nat → Int32)} {D F G : Nat} (hD : 1 ≤ D + 1) {S : St} {z1 : Int32} : ∀ (f : Nat) (w2 : Int32) (w3 : Int32) (res : Int32), fx2 (b_M_doubles_4 F G S z1 ) f w2 w3 = some res → Ek X (D + 1) mM_doubles 4 [(0, .ref 78), (1, .int z1), (2, .int w2), (3, .int w3)] [] S (some (.int res)) S := by
  refine fx2_ind ?_
  intro rec ih w2 w3 res h
  unfold b_M_doubles_4 at h
  have J66 : ∀ (y3 : Int32) (s0 : Int32) (s1 : Int32) (res : Int32), j_M_doubles_66 F G S z1 rec S y3 s0 s1 = some res → Ek X (D + 1) mM_doubles 66 [(0, .ref 78), (1, .int z1), (3, .int y3)] [.int s1, .int s0] S (some (.int res)) S := by
    intro y3 s0 s1 res h
    unfold j_M_doubles_66 at h
    obtain ⟨v12, q11, h⟩ := bd_inv h
    refine y_S1i (v := v12) (S1 := S) d_M_doubles_66 ml_11_318 (Nat.le_of_ble_eq_true rfl) (Nat.le_of_ble_eq_true rfl) (c_M_truth (by omega) q11) ?_
    refine x_iload_n d_M_doubles_69 rfl 2 rfl ?_
    refine x_ishl d_M_doubles_70 ?_
    refine x_ior d_M_doubles_71 ?_
    obtain ⟨v13, e14, h⟩ := lt_inv h
    refine y_istore_n (L1 := [(0, .ref 78), (1, .int z1), (2, .int v13), (3, .int y3)]) e14 d_M_doubles_72 rfl (Nat.le_of_ble_eq_true rfl) rfl rfl ?_
    obtain ⟨v15, e16, h⟩ := lt_inv h
    refine y_iinc (L1 := [(0, .ref 78), (1, .int z1), (2, .int v13), (3, .int v15)]) e16 ic_1 d_M_doubles_73 3 rfl (Nat.le_of_ble_eq_true rfl) rfl rfl ?_
    refine x_goto (tgt := 4) d_M_doubles_76 rfl ?_
    exact ih v13 v15 _ h
  have J65 : ∀ (y3 : Int32) (s0 : Int32) (res : Int32), j_M_doubles_65 F G S z1 rec S y3 s0 = some res → Ek X (D + 1) mM_doubles 65 [(0, .ref 78), (1, .int z1), (3, .int y3)] [.int s0] S (some (.int res)) S := by
    intro y3 s0 res h
    unfold j_M_doubles_65 at h
    refine x_iconst d_M_doubles_65 ic_0 ?_
    exact J66 y3 s0 (0 : Int32) _ h
  refine x_iload_n d_M_doubles_4 rfl 3 rfl ?_
  refine x_aload_n d_M_doubles_5 rfl 0 rfl ?_
  refine y_getI d_M_doubles_6 fl_11_322 rfl kd_78 ?_
  refine x_icmp_ge (tgt := 79) d_M_doubles_9 rfl (fun c1 => ?_) (fun c1 => ?_)
  · replace h := ite_t c1 h
    refine x_iload_n d_M_doubles_79 rfl 2 rfl ?_
    obtain rfl := Option.some.inj h
    exact x_ret (r := some (.int w2)) d_M_doubles_80 ⟨_, rfl, rfl⟩
  · replace h := ite_f c1 h
    refine x_iload_n d_M_doubles_12 rfl 2 rfl ?_
    refine x_iload_n d_M_doubles_13 rfl 3 rfl ?_
    refine x_iload_n d_M_doubles_14 rfl 1 rfl ?_
    refine x_icmp_eq (tgt := 65) d_M_doubles_15 rfl (fun c2 => ?_) (fun c2 => ?_)
    · replace h := ite_t c2 h
      refine y_pick (L1 := [(0, .ref 78), (1, .int z1), (3, .int w3)]) [0, 1, 3] rfl ?_
      exact J65 w3 w2 _ h
    · replace h := ite_f c2 h
      refine x_aload_n d_M_doubles_18 rfl 0 rfl ?_
      refine y_getR d_M_doubles_19 fl_11_66 rfl kd_78 rr_78_35 ?_
      refine x_iload_n d_M_doubles_22 rfl 3 rfl ?_
      obtain ⟨g3, h⟩ := gd_inv h
      refine y_iald d_M_doubles_23 kd_96 g3 ?_
      refine x_aload_n d_M_doubles_24 rfl 0 rfl ?_
      refine y_getR d_M_doubles_25 fl_11_66 rfl kd_78 rr_78_35 ?_
      refine x_iload_n d_M_doubles_28 rfl 1 rfl ?_
      obtain ⟨g4, h⟩ := gd_inv h
      refine y_iald d_M_doubles_29 kd_96 g4 ?_
      refine x_icmp_ne (tgt := 65) d_M_doubles_30 rfl (fun c5 => ?_) (fun c5 => ?_)
      · replace h := ite_f c5 h
        refine y_pick (L1 := [(0, .ref 78), (1, .int z1), (3, .int w3)]) [0, 1, 3] rfl ?_
        exact J65 w3 w2 _ h
      · replace h := ite_t c5 h
        refine x_aload_n d_M_doubles_33 rfl 0 rfl ?_
        refine y_getR d_M_doubles_34 fl_11_96 rfl kd_78 rr_78_59 ?_
        refine x_bipush d_M_doubles_37 bp_10 ?_
        refine x_iload_n d_M_doubles_39 rfl 3 rfl ?_
        refine x_iadd d_M_doubles_40 ?_
        obtain ⟨g6, h⟩ := gd_inv h
        refine y_iald d_M_doubles_41 kd_101 g6 ?_
        refine x_aload_n d_M_doubles_42 rfl 0 rfl ?_
        refine y_getR d_M_doubles_43 fl_11_96 rfl kd_78 rr_78_59 ?_
        refine x_bipush d_M_doubles_46 bp_10 ?_
        refine x_iload_n d_M_doubles_48 rfl 1 rfl ?_
        refine x_iadd d_M_doubles_49 ?_
        obtain ⟨g7, h⟩ := gd_inv h
        refine y_iald d_M_doubles_50 kd_101 g7 ?_
        refine x_isub d_M_doubles_51 ?_
        obtain ⟨v9, q8, h⟩ := bd_inv h
        refine y_S1i (v := v9) (S1 := S) d_M_doubles_52 ml_11_325 (Nat.le_of_ble_eq_true rfl) (Nat.le_of_ble_eq_true rfl) (c_M_plain (by omega) q8) ?_
        refine x_bipush d_M_doubles_55 bp_12 ?_
        refine x_irem d_M_doubles_57 (by decide) ?_
        refine x_if_ne (tgt := 65) d_M_doubles_58 rfl (fun c10 => ?_) (fun c10 => ?_)
        · replace h := ite_f c10 h
          refine y_pick (L1 := [(0, .ref 78), (1, .int z1), (3, .int w3)]) [0, 1, 3] rfl ?_
          exact J65 w3 w2 _ h
        · replace h := ite_t c10 h
          refine x_iconst d_M_doubles_61 ic_1 ?_
          refine x_goto (tgt := 66) d_M_doubles_62 rfl ?_
          refine y_pick (L1 := [(0, .ref 78), (1, .int z1), (3, .int w3)]) [0, 1, 3] rfl ?_
          exact J66 w3 w2 (1 : Int32) _ h
set_option maxRecDepth 100000 in
set_option maxHeartbeats 4000000 in
theorem c_M_doubles {X : Nat × (Nat → Int32)} {D F G : Nat} (hD : 1 ≤ D) {S : St} {p1 : Int32} {res : Int32} (h : fM_doubles F G S p1 = some res) : Ek X (D) mM_doubles 0 [(0, .ref 78), (1, .int p1)] [] S (some (.int res)) S := by
  obtain ⟨D, rfl⟩ : ∃ E, D = E + 1 := ⟨D - 1, by omega⟩
  unfold fM_doubles at h
  refine x_iconst d_M_doubles_0 ic_0 ?_
  refine x_istore_n (L1 := [(0, .ref 78), (1, .int p1), (2, .int (0 : Int32))]) d_M_doubles_1 rfl (Nat.le_of_ble_eq_true rfl) rfl rfl ?_
  refine x_iconst d_M_doubles_2 ic_0 ?_
  refine x_istore_n (L1 := [(0, .ref 78), (1, .int p1), (2, .int (0 : Int32)), (3, .int (0 : Int32))]) d_M_doubles_3 rfl (Nat.le_of_ble_eq_true rfl) rfl rfl ?_
  refine T_M_doubles_4 (by omega)   F (0 : Int32) (0 : Int32) _ h
/-! NinetyPlayersModel.members -/
def b_M_members_4 (F G : Nat) (S : St) (z0 : Int32) (rec : Int32 → Int32 → Option (Int32)) (w1 : Int32) (w2 : Int32) : Option (Int32) :=
  if (12 : Int32) ≤ w2 then some w1 else lt (w1 + ((z0 >>> (w2 &&& 31)) &&& (1 : Int32))) fun v2 => lt (w2 + 1) fun v4 => rec v2 v4
def fM_members (F G : Nat) (S : St) (p1 : Int32) : Option (Int32) :=
  fx2 (b_M_members_4 F G S p1) F (0 : Int32) (0 : Int32)
set_option maxRecDepth 100000 in
set_option maxHeartbeats 4000000 in
theorem T_M_members_4 {X : Nat × (Nat → Int32)} {D F G : Nat} (hD : 0 ≤ D) {S : St} {z0 : Int32} : ∀ (f : Nat) (w1 : Int32) (w2 : Int32) (res : Int32), fx2 (b_M_members_4 F G S z0 ) f w1 w2 = some res → Ek X (D) mM_members 4 [(0, .int z0), (1, .int w1), (2, .int w2)] [] S (some (.int res)) S := by
  refine fx2_ind ?_
  intro rec ih w1 w2 res h
  unfold b_M_members_4 at h
  refine x_iload_n d_M_members_4 rfl 2 rfl ?_
  refine x_bipush d_M_members_5 bp_12 ?_
  refine x_icmp_ge (tgt := 24) d_M_members_7 rfl (fun c1 => ?_) (fun c1 => ?_)
  · replace h := ite_t c1 h
    refine x_iload_n d_M_members_24 rfl 1 rfl ?_
    obtain rfl := Option.some.inj h
    exact x_ret (r := some (.int w1)) d_M_members_25 ⟨_, rfl, rfl⟩
  · replace h := ite_f c1 h
    refine x_iload_n d_M_members_10 rfl 1 rfl ?_
    refine x_iload_n d_M_members_11 rfl 0 rfl ?_
    refine x_iload_n d_M_members_12 rfl 2 rfl ?_
    refine x_ishr d_M_members_13 ?_
    refine x_iconst d_M_members_14 ic_1 ?_
    refine x_iand d_M_members_15 ?_
    refine x_iadd d_M_members_16 ?_
    obtain ⟨v2, e3, h⟩ := lt_inv h
    refine y_istore_n (L1 := [(0, .int z0), (1, .int v2), (2, .int w2)]) e3 d_M_members_17 rfl (Nat.le_of_ble_eq_true rfl) rfl rfl ?_
    obtain ⟨v4, e5, h⟩ := lt_inv h
    refine y_iinc (L1 := [(0, .int z0), (1, .int v2), (2, .int v4)]) e5 ic_1 d_M_members_18 2 rfl (Nat.le_of_ble_eq_true rfl) rfl rfl ?_
    refine x_goto (tgt := 4) d_M_members_21 rfl ?_
    exact ih v2 v4 _ h
set_option maxRecDepth 100000 in
set_option maxHeartbeats 4000000 in
theorem c_M_members {X : Nat × (Nat → Int32)} {D F G : Nat} (hD : 0 ≤ D) {S : St} {p1 : Int32} {res : Int32} (h : fM_members F G S p1 = some res) : Ek X (D) mM_members 0 [(0, .int p1)] [] S (some (.int res)) S := by
  unfold fM_members at h
  refine x_iconst d_M_members_0 ic_0 ?_
  refine x_istore_n (L1 := [(0, .int p1), (1, .int (0 : Int32))]) d_M_members_1 rfl (Nat.le_of_ble_eq_true rfl) rfl rfl ?_
  refine x_iconst d_M_members_2 ic_0 ?_
  refine x_istore_n (L1 := [(0, .int p1), (1, .int (0 : Int32)), (2, .int (0 : Int32))]) d_M_members_3 rfl (Nat.le_of_ble_eq_true rfl) rfl rfl ?_
  refine T_M_members_4 (by omega)   F (0 : Int32) (0 : Int32) _ h
/-! NinetyPlayersModel.within -/
def fM_within (F G : Nat) (S : St) (p1 : Int32) (p2 : Int32) : Option (Int32) :=
  if 0 ≤ p1 then if p1 ≤ p2 then some p1 else some p2 else some (0 : Int32)
set_option maxRecDepth 100000 in
set_option maxHeartbeats 4000000 in
theorem c_M_within {X : Nat × (Nat → Int32)} {D F G : Nat} (hD : 0 ≤ D) {S : St} {p1 : Int32} {p2 : Int32} {res : Int32} (h : fM_within F G S p1 p2 = some res) : Ek X (D) mM_within 0 [(0, .int p1), (1, .int p2)] [] S (some (.int res)) S := by
  unfold fM_within at h
  refine x_iload_n d_M_within_0 rfl 0 rfl ?_
  refine x_if_ge (tgt := 8) d_M_within_1 rfl (fun c1 => ?_) (fun c1 => ?_)
  · replace h := ite_t c1 h
    refine x_iload_n d_M_within_8 rfl 0 rfl ?_
    refine x_iload_n d_M_within_9 rfl 1 rfl ?_
    refine x_icmp_le (tgt := 17) d_M_within_10 rfl (fun c2 => ?_) (fun c2 => ?_)
    · replace h := ite_t c2 h
      refine x_iload_n d_M_within_17 rfl 0 rfl ?_
      obtain rfl := Option.some.inj h
      exact x_ret (r := some (.int p1)) d_M_within_18 ⟨_, rfl, rfl⟩
    · replace h := ite_f c2 h
      refine x_iload_n d_M_within_13 rfl 1 rfl ?_
      refine x_goto (tgt := 18) d_M_within_14 rfl ?_
      obtain rfl := Option.some.inj h
      exact x_ret (r := some (.int p2)) d_M_within_18 ⟨_, rfl, rfl⟩
  · replace h := ite_f c1 h
    refine x_iconst d_M_within_4 ic_0 ?_
    refine x_goto (tgt := 18) d_M_within_5 rfl ?_
    obtain rfl := Option.some.inj h
    exact x_ret (r := some (.int (0 : Int32))) d_M_within_18 ⟨_, rfl, rfl⟩
/-! NinetyPlayersModel.done -/
def fM_done (F G : Nat) (S : St) (p1 : Int32) (p2 : Int32) (p3 : Int32) : Option (Int32) :=
  if p1 = 37 then if p3 = 0 then some (0 : Int32) else gd (nz p3) (some (p2 - p2 / p3 * p3)) else if p1 = 38 then if p2 = 0 then bd (fM_truth F G S (0 : Int32)) fun v7 => some v7 else if p3 = 0 then bd (fM_truth F G S (0 : Int32)) fun v10 => some v10 else bd (fM_truth F G S (1 : Int32)) fun v12 => some v12 else if p1 = 42 then some (p2 * p3) else if p1 = 43 then some (p2 + p3) else if p1 = 45 then some (p2 - p3) else if p1 = 47 then if p3 = 0 then some (0 : Int32) else gd (nz p3) (some (p2 / p3)) else if p1 = 60 then if p3 ≤ p2 then bd (fM_truth F G S (0 : Int32)) fun v22 => some v22 else bd (fM_truth F G S (1 : Int32)) fun v24 => some v24 else if p1 = 61 then if p2 = p3 then bd (fM_truth F G S (1 : Int32)) fun v30 => some v30 else bd (fM_truth F G S (0 : Int32)) fun v28 => some v28 else if p1 = 62 then if p2 ≤ p3 then bd (fM_truth F G S (0 : Int32)) fun v34 => some v34 else bd (fM_truth F G S (1 : Int32)) fun v36 => some v36 else if p2 = 0 then if p3 = 0 then bd (fM_truth F G S (0 : Int32)) fun v42 => some v42 else bd (fM_truth F G S (1 : Int32)) fun v44 => some v44 else bd (fM_truth F G S (1 : Int32)) fun v39 => some v39
set_option maxRecDepth 100000 in
set_option maxHeartbeats 4000000 in
theorem c_M_done {X : Nat × (Nat → Int32)} {D F G : Nat} (hD : 1 ≤ D) {S : St} {p1 : Int32} {p2 : Int32} {p3 : Int32} {res : Int32} (h : fM_done F G S p1 p2 p3 = some res) : Ek X (D) mM_done 0 [(0, .int p1), (1, .int p2), (2, .int p3)] [] S (some (.int res)) S := by
  obtain ⟨D, rfl⟩ : ∃ E, D = E + 1 := ⟨D - 1, by omega⟩
  unfold fM_done at h
  refine x_iload_n d_M_done_0 rfl 0 rfl ?_
  by_cases c1 : p1 = 37
  · replace h := ite_t c1 h
    refine x_tabC (tgt := 144) 37 d_M_done_1 (by rw [c1]; rfl) (by decide) rfl rfl ?_
    refine x_iload_n d_M_done_144 rfl 2 rfl ?_
    refine x_if_ne (tgt := 152) d_M_done_145 rfl (fun c2 => ?_) (fun c2 => ?_)
    · replace h := ite_f c2 h
      refine x_iload_n d_M_done_152 rfl 1 rfl ?_
      refine x_iload_n d_M_done_153 rfl 2 rfl ?_
      obtain ⟨g3, h⟩ := gd_inv h
      refine x_irem d_M_done_154 (nz_ne g3) ?_
      obtain rfl := Option.some.inj h
      exact x_ret (r := some (.int (p2 - p2 / p3 * p3))) d_M_done_155 ⟨_, rfl, rfl⟩
    · replace h := ite_t c2 h
      refine x_iconst d_M_done_148 ic_0 ?_
      refine x_goto (tgt := 155) d_M_done_149 rfl ?_
      obtain rfl := Option.some.inj h
      exact x_ret (r := some (.int (0 : Int32))) d_M_done_155 ⟨_, rfl, rfl⟩
  replace h := ite_f c1 h
  by_cases c4 : p1 = 38
  · replace h := ite_t c4 h
    refine x_tabC (tgt := 198) 38 d_M_done_1 (by rw [c4]; rfl) (by decide) rfl rfl ?_
    refine x_iload_n d_M_done_198 rfl 1 rfl ?_
    refine x_if_eq (tgt := 210) d_M_done_199 rfl (fun c5 => ?_) (fun c5 => ?_)
    · replace h := ite_t c5 h
      refine x_iconst d_M_done_210 ic_0 ?_
      obtain ⟨v7, q6, h⟩ := bd_inv h
      refine y_S1i (v := v7) (S1 := S) d_M_done_211 ml_11_318 (Nat.le_of_ble_eq_true rfl) (Nat.le_of_ble_eq_true rfl) (c_M_truth (by omega) q6) ?_
      obtain rfl := Option.some.inj h
      exact x_ret (r := some (.int v7)) d_M_done_214 ⟨_, rfl, rfl⟩
    · replace h := ite_f c5 h
      refine x_iload_n d_M_done_202 rfl 2 rfl ?_
      refine x_if_eq (tgt := 210) d_M_done_203 rfl (fun c8 => ?_) (fun c8 => ?_)
      · replace h := ite_t c8 h
        refine x_iconst d_M_done_210 ic_0 ?_
        obtain ⟨v10, q9, h⟩ := bd_inv h
        refine y_S1i (v := v10) (S1 := S) d_M_done_211 ml_11_318 (Nat.le_of_ble_eq_true rfl) (Nat.le_of_ble_eq_true rfl) (c_M_truth (by omega) q9) ?_
        obtain rfl := Option.some.inj h
        exact x_ret (r := some (.int v10)) d_M_done_214 ⟨_, rfl, rfl⟩
      · replace h := ite_f c8 h
        refine x_iconst d_M_done_206 ic_1 ?_
        refine x_goto (tgt := 211) d_M_done_207 rfl ?_
        obtain ⟨v12, q11, h⟩ := bd_inv h
        refine y_S1i (v := v12) (S1 := S) d_M_done_211 ml_11_318 (Nat.le_of_ble_eq_true rfl) (Nat.le_of_ble_eq_true rfl) (c_M_truth (by omega) q11) ?_
        obtain rfl := Option.some.inj h
        exact x_ret (r := some (.int v12)) d_M_done_214 ⟨_, rfl, rfl⟩
  replace h := ite_f c4 h
  by_cases c13 : p1 = 42
  · replace h := ite_t c13 h
    refine x_tabC (tgt := 128) 42 d_M_done_1 (by rw [c13]; rfl) (by decide) rfl rfl ?_
    refine x_iload_n d_M_done_128 rfl 1 rfl ?_
    refine x_iload_n d_M_done_129 rfl 2 rfl ?_
    refine x_imul d_M_done_130 ?_
    obtain rfl := Option.some.inj h
    exact x_ret (r := some (.int (p2 * p3))) d_M_done_131 ⟨_, rfl, rfl⟩
  replace h := ite_f c13 h
  by_cases c14 : p1 = 43
  · replace h := ite_t c14 h
    refine x_tabC (tgt := 120) 43 d_M_done_1 (by rw [c14]; rfl) (by decide) rfl rfl ?_
    refine x_iload_n d_M_done_120 rfl 1 rfl ?_
    refine x_iload_n d_M_done_121 rfl 2 rfl ?_
    refine x_iadd d_M_done_122 ?_
    obtain rfl := Option.some.inj h
    exact x_ret (r := some (.int (p2 + p3))) d_M_done_123 ⟨_, rfl, rfl⟩
  replace h := ite_f c14 h
  by_cases c15 : p1 = 45
  · replace h := ite_t c15 h
    refine x_tabC (tgt := 124) 45 d_M_done_1 (by rw [c15]; rfl) (by decide) rfl rfl ?_
    refine x_iload_n d_M_done_124 rfl 1 rfl ?_
    refine x_iload_n d_M_done_125 rfl 2 rfl ?_
    refine x_isub d_M_done_126 ?_
    obtain rfl := Option.some.inj h
    exact x_ret (r := some (.int (p2 - p3))) d_M_done_127 ⟨_, rfl, rfl⟩
  replace h := ite_f c15 h
  by_cases c16 : p1 = 47
  · replace h := ite_t c16 h
    refine x_tabC (tgt := 132) 47 d_M_done_1 (by rw [c16]; rfl) (by decide) rfl rfl ?_
    refine x_iload_n d_M_done_132 rfl 2 rfl ?_
    refine x_if_ne (tgt := 140) d_M_done_133 rfl (fun c17 => ?_) (fun c17 => ?_)
    · replace h := ite_f c17 h
      refine x_iload_n d_M_done_140 rfl 1 rfl ?_
      refine x_iload_n d_M_done_141 rfl 2 rfl ?_
      obtain ⟨g18, h⟩ := gd_inv h
      refine x_idiv d_M_done_142 (nz_ne g18) ?_
      obtain rfl := Option.some.inj h
      exact x_ret (r := some (.int (p2 / p3))) d_M_done_143 ⟨_, rfl, rfl⟩
    · replace h := ite_t c17 h
      refine x_iconst d_M_done_136 ic_0 ?_
      refine x_goto (tgt := 143) d_M_done_137 rfl ?_
      obtain rfl := Option.some.inj h
      exact x_ret (r := some (.int (0 : Int32))) d_M_done_143 ⟨_, rfl, rfl⟩
  replace h := ite_f c16 h
  by_cases c19 : p1 = 60
  · replace h := ite_t c19 h
    refine x_tabC (tgt := 156) 60 d_M_done_1 (by rw [c19]; rfl) (by decide) rfl rfl ?_
    refine x_iload_n d_M_done_156 rfl 1 rfl ?_
    refine x_iload_n d_M_done_157 rfl 2 rfl ?_
    refine x_icmp_ge (tgt := 165) d_M_done_158 rfl (fun c20 => ?_) (fun c20 => ?_)
    · replace h := ite_t c20 h
      refine x_iconst d_M_done_165 ic_0 ?_
      obtain ⟨v22, q21, h⟩ := bd_inv h
      refine y_S1i (v := v22) (S1 := S) d_M_done_166 ml_11_318 (Nat.le_of_ble_eq_true rfl) (Nat.le_of_ble_eq_true rfl) (c_M_truth (by omega) q21) ?_
      obtain rfl := Option.some.inj h
      exact x_ret (r := some (.int v22)) d_M_done_169 ⟨_, rfl, rfl⟩
    · replace h := ite_f c20 h
      refine x_iconst d_M_done_161 ic_1 ?_
      refine x_goto (tgt := 166) d_M_done_162 rfl ?_
      obtain ⟨v24, q23, h⟩ := bd_inv h
      refine y_S1i (v := v24) (S1 := S) d_M_done_166 ml_11_318 (Nat.le_of_ble_eq_true rfl) (Nat.le_of_ble_eq_true rfl) (c_M_truth (by omega) q23) ?_
      obtain rfl := Option.some.inj h
      exact x_ret (r := some (.int v24)) d_M_done_169 ⟨_, rfl, rfl⟩
  replace h := ite_f c19 h
  by_cases c25 : p1 = 61
  · replace h := ite_t c25 h
    refine x_tabC (tgt := 184) 61 d_M_done_1 (by rw [c25]; rfl) (by decide) rfl rfl ?_
    refine x_iload_n d_M_done_184 rfl 1 rfl ?_
    refine x_iload_n d_M_done_185 rfl 2 rfl ?_
    refine x_icmp_ne (tgt := 193) d_M_done_186 rfl (fun c26 => ?_) (fun c26 => ?_)
    · replace h := ite_f c26 h
      refine x_iconst d_M_done_193 ic_0 ?_
      obtain ⟨v28, q27, h⟩ := bd_inv h
      refine y_S1i (v := v28) (S1 := S) d_M_done_194 ml_11_318 (Nat.le_of_ble_eq_true rfl) (Nat.le_of_ble_eq_true rfl) (c_M_truth (by omega) q27) ?_
      obtain rfl := Option.some.inj h
      exact x_ret (r := some (.int v28)) d_M_done_197 ⟨_, rfl, rfl⟩
    · replace h := ite_t c26 h
      refine x_iconst d_M_done_189 ic_1 ?_
      refine x_goto (tgt := 194) d_M_done_190 rfl ?_
      obtain ⟨v30, q29, h⟩ := bd_inv h
      refine y_S1i (v := v30) (S1 := S) d_M_done_194 ml_11_318 (Nat.le_of_ble_eq_true rfl) (Nat.le_of_ble_eq_true rfl) (c_M_truth (by omega) q29) ?_
      obtain rfl := Option.some.inj h
      exact x_ret (r := some (.int v30)) d_M_done_197 ⟨_, rfl, rfl⟩
  replace h := ite_f c25 h
  by_cases c31 : p1 = 62
  · replace h := ite_t c31 h
    refine x_tabC (tgt := 170) 62 d_M_done_1 (by rw [c31]; rfl) (by decide) rfl rfl ?_
    refine x_iload_n d_M_done_170 rfl 1 rfl ?_
    refine x_iload_n d_M_done_171 rfl 2 rfl ?_
    refine x_icmp_le (tgt := 179) d_M_done_172 rfl (fun c32 => ?_) (fun c32 => ?_)
    · replace h := ite_t c32 h
      refine x_iconst d_M_done_179 ic_0 ?_
      obtain ⟨v34, q33, h⟩ := bd_inv h
      refine y_S1i (v := v34) (S1 := S) d_M_done_180 ml_11_318 (Nat.le_of_ble_eq_true rfl) (Nat.le_of_ble_eq_true rfl) (c_M_truth (by omega) q33) ?_
      obtain rfl := Option.some.inj h
      exact x_ret (r := some (.int v34)) d_M_done_183 ⟨_, rfl, rfl⟩
    · replace h := ite_f c32 h
      refine x_iconst d_M_done_175 ic_1 ?_
      refine x_goto (tgt := 180) d_M_done_176 rfl ?_
      obtain ⟨v36, q35, h⟩ := bd_inv h
      refine y_S1i (v := v36) (S1 := S) d_M_done_180 ml_11_318 (Nat.le_of_ble_eq_true rfl) (Nat.le_of_ble_eq_true rfl) (c_M_truth (by omega) q35) ?_
      obtain rfl := Option.some.inj h
      exact x_ret (r := some (.int v36)) d_M_done_183 ⟨_, rfl, rfl⟩
  replace h := ite_f c31 h
  have K : Ek X (D + 1) mM_done 215 [(0, .int p1), (1, .int p2), (2, .int p3)] [] S (some (.int res)) S := by
    refine x_iload_n d_M_done_215 rfl 1 rfl ?_
    refine x_if_ne (tgt := 223) d_M_done_216 rfl (fun c37 => ?_) (fun c37 => ?_)
    · replace h := ite_f c37 h
      refine x_iconst d_M_done_223 ic_1 ?_
      refine x_goto (tgt := 228) d_M_done_224 rfl ?_
      obtain ⟨v39, q38, h⟩ := bd_inv h
      refine y_S1i (v := v39) (S1 := S) d_M_done_228 ml_11_318 (Nat.le_of_ble_eq_true rfl) (Nat.le_of_ble_eq_true rfl) (c_M_truth (by omega) q38) ?_
      obtain rfl := Option.some.inj h
      exact x_ret (r := some (.int v39)) d_M_done_231 ⟨_, rfl, rfl⟩
    · replace h := ite_t c37 h
      refine x_iload_n d_M_done_219 rfl 2 rfl ?_
      refine x_if_eq (tgt := 227) d_M_done_220 rfl (fun c40 => ?_) (fun c40 => ?_)
      · replace h := ite_t c40 h
        refine x_iconst d_M_done_227 ic_0 ?_
        obtain ⟨v42, q41, h⟩ := bd_inv h
        refine y_S1i (v := v42) (S1 := S) d_M_done_228 ml_11_318 (Nat.le_of_ble_eq_true rfl) (Nat.le_of_ble_eq_true rfl) (c_M_truth (by omega) q41) ?_
        obtain rfl := Option.some.inj h
        exact x_ret (r := some (.int v42)) d_M_done_231 ⟨_, rfl, rfl⟩
      · replace h := ite_f c40 h
        refine x_iconst d_M_done_223 ic_1 ?_
        refine x_goto (tgt := 228) d_M_done_224 rfl ?_
        obtain ⟨v44, q43, h⟩ := bd_inv h
        refine y_S1i (v := v44) (S1 := S) d_M_done_228 ml_11_318 (Nat.le_of_ble_eq_true rfl) (Nat.le_of_ble_eq_true rfl) (c_M_truth (by omega) q43) ?_
        obtain rfl := Option.some.inj h
        exact x_ret (r := some (.int v44)) d_M_done_231 ⟨_, rfl, rfl⟩
  by_cases c45 : p1 = 39
  · exact x_tabC (tgt := 215) 39 d_M_done_1 (by rw [c45]; rfl) (by decide) rfl rfl K
  by_cases c46 : p1 = 40
  · exact x_tabC (tgt := 215) 40 d_M_done_1 (by rw [c46]; rfl) (by decide) rfl rfl K
  by_cases c47 : p1 = 41
  · exact x_tabC (tgt := 215) 41 d_M_done_1 (by rw [c47]; rfl) (by decide) rfl rfl K
  by_cases c48 : p1 = 44
  · exact x_tabC (tgt := 215) 44 d_M_done_1 (by rw [c48]; rfl) (by decide) rfl rfl K
  by_cases c49 : p1 = 46
  · exact x_tabC (tgt := 215) 46 d_M_done_1 (by rw [c49]; rfl) (by decide) rfl rfl K
  by_cases c50 : p1 = 48
  · exact x_tabC (tgt := 215) 48 d_M_done_1 (by rw [c50]; rfl) (by decide) rfl rfl K
  by_cases c51 : p1 = 49
  · exact x_tabC (tgt := 215) 49 d_M_done_1 (by rw [c51]; rfl) (by decide) rfl rfl K
  by_cases c52 : p1 = 50
  · exact x_tabC (tgt := 215) 50 d_M_done_1 (by rw [c52]; rfl) (by decide) rfl rfl K
  by_cases c53 : p1 = 51
  · exact x_tabC (tgt := 215) 51 d_M_done_1 (by rw [c53]; rfl) (by decide) rfl rfl K
  by_cases c54 : p1 = 52
  · exact x_tabC (tgt := 215) 52 d_M_done_1 (by rw [c54]; rfl) (by decide) rfl rfl K
  by_cases c55 : p1 = 53
  · exact x_tabC (tgt := 215) 53 d_M_done_1 (by rw [c55]; rfl) (by decide) rfl rfl K
  by_cases c56 : p1 = 54
  · exact x_tabC (tgt := 215) 54 d_M_done_1 (by rw [c56]; rfl) (by decide) rfl rfl K
  by_cases c57 : p1 = 55
  · exact x_tabC (tgt := 215) 55 d_M_done_1 (by rw [c57]; rfl) (by decide) rfl rfl K
  by_cases c58 : p1 = 56
  · exact x_tabC (tgt := 215) 56 d_M_done_1 (by rw [c58]; rfl) (by decide) rfl rfl K
  by_cases c59 : p1 = 57
  · exact x_tabC (tgt := 215) 57 d_M_done_1 (by rw [c59]; rfl) (by decide) rfl rfl K
  by_cases c60 : p1 = 58
  · exact x_tabC (tgt := 215) 58 d_M_done_1 (by rw [c60]; rfl) (by decide) rfl rfl K
  by_cases c61 : p1 = 59
  · exact x_tabC (tgt := 215) 59 d_M_done_1 (by rw [c61]; rfl) (by decide) rfl rfl K
  refine x_tabD (tgt := 215) d_M_done_1 (by have := lv_neT c1 (show (37 : Int32).toInt = 37 from rfl); have := lv_neT c4 (show (38 : Int32).toInt = 38 from rfl); have := lv_neT c13 (show (42 : Int32).toInt = 42 from rfl); have := lv_neT c14 (show (43 : Int32).toInt = 43 from rfl); have := lv_neT c15 (show (45 : Int32).toInt = 45 from rfl); have := lv_neT c16 (show (47 : Int32).toInt = 47 from rfl); have := lv_neT c19 (show (60 : Int32).toInt = 60 from rfl); have := lv_neT c25 (show (61 : Int32).toInt = 61 from rfl); have := lv_neT c31 (show (62 : Int32).toInt = 62 from rfl); have := lv_neT c45 (show (39 : Int32).toInt = 39 from rfl); have := lv_neT c46 (show (40 : Int32).toInt = 40 from rfl); have := lv_neT c47 (show (41 : Int32).toInt = 41 from rfl); have := lv_neT c48 (show (44 : Int32).toInt = 44 from rfl); have := lv_neT c49 (show (46 : Int32).toInt = 46 from rfl); have := lv_neT c50 (show (48 : Int32).toInt = 48 from rfl); have := lv_neT c51 (show (49 : Int32).toInt = 49 from rfl); have := lv_neT c52 (show (50 : Int32).toInt = 50 from rfl); have := lv_neT c53 (show (51 : Int32).toInt = 51 from rfl); have := lv_neT c54 (show (52 : Int32).toInt = 52 from rfl); have := lv_neT c55 (show (53 : Int32).toInt = 53 from rfl); have := lv_neT c56 (show (54 : Int32).toInt = 54 from rfl); have := lv_neT c57 (show (55 : Int32).toInt = 55 from rfl); have := lv_neT c58 (show (56 : Int32).toInt = 56 from rfl); have := lv_neT c59 (show (57 : Int32).toInt = 57 from rfl); have := lv_neT c60 (show (58 : Int32).toInt = 58 from rfl); have := lv_neT c61 (show (59 : Int32).toInt = 59 from rfl); omega) rfl ?_
  exact K
/-! NinetyPlayersModel.missedOf -/
def j_M_missedOf_155 (F G : Nat) (k276 : St → Option (Int32 × St)) (rec : Int32 → Int32 → St → Option (Int32 × St)) (S : St) (y2 : Int32) (y3 : Int32) : Option (Int32 × St) :=
  gd (inB y3 320) (if (S.1 83 y3.toNatClampNeg) = 0 then gd (inB y3 320) (gd (inB y2 64) (lt (sI S 86 y2.toNatClampNeg (S.1 84 y3.toNatClampNeg)) fun S78 => lt (y2 + 1) fun v80 => lt (y3 + 1) fun v82 => rec v80 v82 S78)) else gd (inB y3 320) (gd (inB (S.1 84 y3.toNatClampNeg) 6) (gd (inB y2 64) (lt (sI S 86 y2.toNatClampNeg (S.1 87 (S.1 84 y3.toNatClampNeg).toNatClampNeg)) fun S70 => lt (y2 + 1) fun v72 => lt (y3 + 1) fun v74 => rec v72 v74 S70))))
def b_M_missedOf_128 (F G : Nat) (k276 : St → Option (Int32 × St)) (rec : Int32 → Int32 → St → Option (Int32 × St)) (w2 : Int32) (w3 : Int32) (S : St) : Option (Int32 × St) :=
  if (S.1 78 18) ≤ w3 then k276 S else gd (inB w3 320) (if (S.1 83 w3.toNatClampNeg) = 0 then j_M_missedOf_155 F G k276 rec  S w2 w3 else gd (inB w3 320) (if (S.1 83 w3.toNatClampNeg) = (1 : Int32) then j_M_missedOf_155 F G k276 rec  S w2 w3 else gd (inB w3 320) (if (S.1 83 w3.toNatClampNeg) = (2 : Int32) then gd (inB (w2 - (1 : Int32)) 64) (if (S.1 86 (w2 - (1 : Int32)).toNatClampNeg) = 0 then bd (fM_truth F G S (1 : Int32)) fun v59 => gd (inB (w2 - (1 : Int32)) 64) (lt (sI S 86 (w2 - (1 : Int32)).toNatClampNeg v59) fun S61 => lt (w3 + 1) fun v63 => rec w2 v63 S61) else bd (fM_truth F G S (0 : Int32)) fun v52 => gd (inB (w2 - (1 : Int32)) 64) (lt (sI S 86 (w2 - (1 : Int32)).toNatClampNeg v52) fun S54 => lt (w3 + 1) fun v56 => rec w2 v56 S54)) else lt (w2 + (-1)) fun v37 => gd (inB w3 320) (gd (inB (v37 - (1 : Int32)) 64) (gd (inB v37 64) (bd (fM_done F G S (S.1 84 w3.toNatClampNeg) (S.1 86 (v37 - (1 : Int32)).toNatClampNeg) (S.1 86 v37.toNatClampNeg)) fun v43 => gd (inB (v37 - (1 : Int32)) 64) (lt (sI S 86 (v37 - (1 : Int32)).toNatClampNeg v43) fun S45 => lt (w3 + 1) fun v47 => rec v37 v47 S45)))))))
def fM_missedOf (F G : Nat) (S : St) (p1 : Int32) : Option (Int32 × St) :=
  gd (inB p1 10) (gd (inB (S.1 95 p1.toNatClampNeg) 4) (gd (inB (0 : Int32) 6) (lt (sI S 87 (0 : Int32).toNatClampNeg (S.1 94 (S.1 95 p1.toNatClampNeg).toNatClampNeg)) fun S4 => gd (inB ((10 : Int32) + p1) 41) (gd (inB (1 : Int32) 6) (lt (sI S4 87 (1 : Int32).toNatClampNeg (S4.1 101 ((10 : Int32) + p1).toNatClampNeg)) fun S8 => gd (inB ((20 : Int32) + p1) 41) (gd (inB (2 : Int32) 6) (lt (sI S8 87 (2 : Int32).toNatClampNeg (S8.1 101 ((20 : Int32) + p1).toNatClampNeg)) fun S12 => gd (inB ((30 : Int32) + p1) 41) (gd (inB (3 : Int32) 6) (lt (sI S12 87 (3 : Int32).toNatClampNeg (S12.1 101 ((30 : Int32) + p1).toNatClampNeg)) fun S16 => bd (fM_doubles F G S16 p1) fun v19 => bd (fM_members F G S16 v19) fun v21 => gd (inB (4 : Int32) 6) (lt (sI S16 87 (4 : Int32).toNatClampNeg v21) fun S23 => gd (inB p1 10) (gd (inB (5 : Int32) 6) (lt (sI S23 87 (5 : Int32).toNatClampNeg (S23.1 96 p1.toNatClampNeg)) fun S27 => if (S27.1 78 25) = 0 then gd (inB (3 : Int32) 6) (gd (inB (0 : Int32) 6) (gd (inB (4 : Int32) 6) (bd (fM_within F G S27 (((S27.1 87 (3 : Int32).toNatClampNeg) + ((5 : Int32) * (S27.1 87 (0 : Int32).toNatClampNeg))) - (S27.1 87 (4 : Int32).toNatClampNeg)) (999 : Int32)) fun v92 => some (v92, S27)))) else fx3 (b_M_missedOf_128 F G  (fun S84 => gd (inB (0 : Int32) 64) (bd (fM_within F G S84 (S84.1 86 (0 : Int32).toNatClampNeg) (999 : Int32)) fun v87 => some (v87, S84)))) F (0 : Int32) (0 : Int32) S27))))))))))))
set_option maxRecDepth 100000 in
set_option maxHeartbeats 4000000 in
theorem T_M_missedOf_128 {X : Nat × (Nat → Int32)} {D F G : Nat} (hD : 2 ≤ D + 1) {k276 : St → Option (Int32 × St)} (hk276 : ∀ (S1 : St) (res : Int32 × St), k276 S1 = some res → Ek X (D + 1) mM_missedOf 276 [(0, .ref 78)] [] S1 (some (.int res.1)) res.2) : ∀ (f : Nat) (w2 : Int32) (w3 : Int32) (S : St) (res : Int32 × St), fx3 (b_M_missedOf_128 F G k276 ) f w2 w3 S = some res → Ek X (D + 1) mM_missedOf 128 [(0, .ref 78), (2, .int w2), (3, .int w3)] [] S (some (.int res.1)) res.2 := by
  refine fx3_ind ?_
  intro rec ih w2 w3 S res h
  unfold b_M_missedOf_128 at h
  have J155 : ∀ (S : St) (y2 : Int32) (y3 : Int32) (res : Int32 × St), j_M_missedOf_155 F G k276 rec S y2 y3 = some res → Ek X (D + 1) mM_missedOf 155 [(0, .ref 78), (2, .int y2), (3, .int y3)] [] S (some (.int res.1)) res.2 := by
    intro S y2 y3 res h
    unfold j_M_missedOf_155 at h
    refine x_aload_n d_M_missedOf_155 rfl 0 rfl ?_
    refine y_getR d_M_missedOf_156 fl_11_36 rfl kd_78 rr_78_16 ?_
    refine x_iload_n d_M_missedOf_159 rfl 1 rfl ?_
    refine x_aload_n d_M_missedOf_160 rfl 0 rfl ?_
    refine y_getR d_M_missedOf_161 fl_11_27 rfl kd_78 rr_78_13 ?_
    refine x_iload_n d_M_missedOf_164 rfl 2 rfl ?_
    obtain ⟨g65, h⟩ := gd_inv h
    refine y_iald d_M_missedOf_165 kd_83 g65 ?_
    refine x_if_ne (tgt := 178) d_M_missedOf_166 rfl (fun c66 => ?_) (fun c66 => ?_)
    · replace h := ite_f c66 h
      refine x_aload_n d_M_missedOf_178 rfl 0 rfl ?_
      refine y_getR d_M_missedOf_179 fl_11_39 rfl kd_78 rr_78_26 ?_
      refine x_aload_n d_M_missedOf_182 rfl 0 rfl ?_
      refine y_getR d_M_missedOf_183 fl_11_30 rfl kd_78 rr_78_14 ?_
      refine x_iload_n d_M_missedOf_186 rfl 2 rfl ?_
      obtain ⟨g67, h⟩ := gd_inv h
      refine y_iald d_M_missedOf_187 kd_84 g67 ?_
      obtain ⟨g68, h⟩ := gd_inv h
      refine y_iald d_M_missedOf_188 kd_87 g68 ?_
      obtain ⟨g69, h⟩ := gd_inv h
      obtain ⟨S70, e71, h⟩ := lt_inv h
      refine y_iast e71 d_M_missedOf_189 kd_86 g69 ?_
      obtain ⟨v72, e73, h⟩ := lt_inv h
      refine y_iinc (L1 := [(0, .ref 78), (2, .int v72), (3, .int y3)]) e73 ic_1 d_M_missedOf_190 1 rfl (Nat.le_of_ble_eq_true rfl) rfl rfl ?_
      refine x_goto (tgt := 270) d_M_missedOf_193 rfl ?_
      obtain ⟨v74, e75, h⟩ := lt_inv h
      refine y_iinc (L1 := [(0, .ref 78), (2, .int v72), (3, .int v74)]) e75 ic_1 d_M_missedOf_270 2 rfl (Nat.le_of_ble_eq_true rfl) rfl rfl ?_
      refine x_goto (tgt := 128) d_M_missedOf_273 rfl ?_
      exact ih v72 v74 S70 _ h
    · replace h := ite_t c66 h
      refine x_aload_n d_M_missedOf_169 rfl 0 rfl ?_
      refine y_getR d_M_missedOf_170 fl_11_30 rfl kd_78 rr_78_14 ?_
      refine x_iload_n d_M_missedOf_173 rfl 2 rfl ?_
      obtain ⟨g76, h⟩ := gd_inv h
      refine y_iald d_M_missedOf_174 kd_84 g76 ?_
      refine x_goto (tgt := 189) d_M_missedOf_175 rfl ?_
      obtain ⟨g77, h⟩ := gd_inv h
      obtain ⟨S78, e79, h⟩ := lt_inv h
      refine y_iast e79 d_M_missedOf_189 kd_86 g77 ?_
      obtain ⟨v80, e81, h⟩ := lt_inv h
      refine y_iinc (L1 := [(0, .ref 78), (2, .int v80), (3, .int y3)]) e81 ic_1 d_M_missedOf_190 1 rfl (Nat.le_of_ble_eq_true rfl) rfl rfl ?_
      refine x_goto (tgt := 270) d_M_missedOf_193 rfl ?_
      obtain ⟨v82, e83, h⟩ := lt_inv h
      refine y_iinc (L1 := [(0, .ref 78), (2, .int v80), (3, .int v82)]) e83 ic_1 d_M_missedOf_270 2 rfl (Nat.le_of_ble_eq_true rfl) rfl rfl ?_
      refine x_goto (tgt := 128) d_M_missedOf_273 rfl ?_
      exact ih v80 v82 S78 _ h
  refine x_iload_n d_M_missedOf_128 rfl 2 rfl ?_
  refine x_aload_n d_M_missedOf_129 rfl 0 rfl ?_
  refine y_getI d_M_missedOf_130 fl_11_340 rfl kd_78 ?_
  refine x_icmp_ge (tgt := 276) d_M_missedOf_133 rfl (fun c30 => ?_) (fun c30 => ?_)
  · replace h := ite_t c30 h
    refine y_pick (L1 := [(0, .ref 78)]) [0] rfl ?_
    exact hk276 S _ h
  · replace h := ite_f c30 h
    refine x_aload_n d_M_missedOf_136 rfl 0 rfl ?_
    refine y_getR d_M_missedOf_137 fl_11_27 rfl kd_78 rr_78_13 ?_
    refine x_iload_n d_M_missedOf_140 rfl 2 rfl ?_
    obtain ⟨g31, h⟩ := gd_inv h
    refine y_iald d_M_missedOf_141 kd_83 g31 ?_
    refine x_if_eq (tgt := 155) d_M_missedOf_142 rfl (fun c32 => ?_) (fun c32 => ?_)
    · replace h := ite_t c32 h
      exact J155 S w2 w3 _ h
    · replace h := ite_f c32 h
      refine x_aload_n d_M_missedOf_145 rfl 0 rfl ?_
      refine y_getR d_M_missedOf_146 fl_11_27 rfl kd_78 rr_78_13 ?_
      refine x_iload_n d_M_missedOf_149 rfl 2 rfl ?_
      obtain ⟨g33, h⟩ := gd_inv h
      refine y_iald d_M_missedOf_150 kd_83 g33 ?_
      refine x_iconst d_M_missedOf_151 ic_1 ?_
      refine x_icmp_ne (tgt := 196) d_M_missedOf_152 rfl (fun c34 => ?_) (fun c34 => ?_)
      · replace h := ite_f c34 h
        refine x_aload_n d_M_missedOf_196 rfl 0 rfl ?_
        refine y_getR d_M_missedOf_197 fl_11_27 rfl kd_78 rr_78_13 ?_
        refine x_iload_n d_M_missedOf_200 rfl 2 rfl ?_
        obtain ⟨g35, h⟩ := gd_inv h
        refine y_iald d_M_missedOf_201 kd_83 g35 ?_
        refine x_iconst d_M_missedOf_202 ic_2 ?_
        refine x_icmp_ne (tgt := 236) d_M_missedOf_203 rfl (fun c36 => ?_) (fun c36 => ?_)
        · replace h := ite_f c36 h
          obtain ⟨v37, e38, h⟩ := lt_inv h
          refine y_iinc (L1 := [(0, .ref 78), (2, .int v37), (3, .int w3)]) e38 ic_m1 d_M_missedOf_236 1 rfl (Nat.le_of_ble_eq_true rfl) rfl rfl ?_
          refine x_aload_n d_M_missedOf_239 rfl 0 rfl ?_
          refine y_getR d_M_missedOf_240 fl_11_36 rfl kd_78 rr_78_16 ?_
          refine x_iload_n d_M_missedOf_243 rfl 1 rfl ?_
          refine x_iconst d_M_missedOf_244 ic_1 ?_
          refine x_isub d_M_missedOf_245 ?_
          refine x_aload_n d_M_missedOf_246 rfl 0 rfl ?_
          refine y_getR d_M_missedOf_247 fl_11_30 rfl kd_78 rr_78_14 ?_
          refine x_iload_n d_M_missedOf_250 rfl 2 rfl ?_
          obtain ⟨g39, h⟩ := gd_inv h
          refine y_iald d_M_missedOf_251 kd_84 g39 ?_
          refine x_aload_n d_M_missedOf_252 rfl 0 rfl ?_
          refine y_getR d_M_missedOf_253 fl_11_36 rfl kd_78 rr_78_16 ?_
          refine x_iload_n d_M_missedOf_256 rfl 1 rfl ?_
          refine x_iconst d_M_missedOf_257 ic_1 ?_
          refine x_isub d_M_missedOf_258 ?_
          obtain ⟨g40, h⟩ := gd_inv h
          refine y_iald d_M_missedOf_259 kd_86 g40 ?_
          refine x_aload_n d_M_missedOf_260 rfl 0 rfl ?_
          refine y_getR d_M_missedOf_261 fl_11_36 rfl kd_78 rr_78_16 ?_
          refine x_iload_n d_M_missedOf_264 rfl 1 rfl ?_
          obtain ⟨g41, h⟩ := gd_inv h
          refine y_iald d_M_missedOf_265 kd_86 g41 ?_
          obtain ⟨v43, q42, h⟩ := bd_inv h
          refine y_S3i (v := v43) (S1 := S) d_M_missedOf_266 ml_11_343 (Nat.le_of_ble_eq_true rfl) (Nat.le_of_ble_eq_true rfl) (c_M_done (by omega) q42) ?_
          obtain ⟨g44, h⟩ := gd_inv h
          obtain ⟨S45, e46, h⟩ := lt_inv h
          refine y_iast e46 d_M_missedOf_269 kd_86 g44 ?_
          obtain ⟨v47, e48, h⟩ := lt_inv h
          refine y_iinc (L1 := [(0, .ref 78), (2, .int v37), (3, .int v47)]) e48 ic_1 d_M_missedOf_270 2 rfl (Nat.le_of_ble_eq_true rfl) rfl rfl ?_
          refine x_goto (tgt := 128) d_M_missedOf_273 rfl ?_
          exact ih v37 v47 S45 _ h
        · replace h := ite_t c36 h
          refine x_aload_n d_M_missedOf_206 rfl 0 rfl ?_
          refine y_getR d_M_missedOf_207 fl_11_36 rfl kd_78 rr_78_16 ?_
          refine x_iload_n d_M_missedOf_210 rfl 1 rfl ?_
          refine x_iconst d_M_missedOf_211 ic_1 ?_
          refine x_isub d_M_missedOf_212 ?_
          refine x_aload_n d_M_missedOf_213 rfl 0 rfl ?_
          refine y_getR d_M_missedOf_214 fl_11_36 rfl kd_78 rr_78_16 ?_
          refine x_iload_n d_M_missedOf_217 rfl 1 rfl ?_
          refine x_iconst d_M_missedOf_218 ic_1 ?_
          refine x_isub d_M_missedOf_219 ?_
          obtain ⟨g49, h⟩ := gd_inv h
          refine y_iald d_M_missedOf_220 kd_86 g49 ?_
          refine x_if_ne (tgt := 228) d_M_missedOf_221 rfl (fun c50 => ?_) (fun c50 => ?_)
          · replace h := ite_f c50 h
            refine x_iconst d_M_missedOf_228 ic_0 ?_
            obtain ⟨v52, q51, h⟩ := bd_inv h
            refine y_S1i (v := v52) (S1 := S) d_M_missedOf_229 ml_11_318 (Nat.le_of_ble_eq_true rfl) (Nat.le_of_ble_eq_true rfl) (c_M_truth (by omega) q51) ?_
            obtain ⟨g53, h⟩ := gd_inv h
            obtain ⟨S54, e55, h⟩ := lt_inv h
            refine y_iast e55 d_M_missedOf_232 kd_86 g53 ?_
            refine x_goto (tgt := 270) d_M_missedOf_233 rfl ?_
            obtain ⟨v56, e57, h⟩ := lt_inv h
            refine y_iinc (L1 := [(0, .ref 78), (2, .int w2), (3, .int v56)]) e57 ic_1 d_M_missedOf_270 2 rfl (Nat.le_of_ble_eq_true rfl) rfl rfl ?_
            refine x_goto (tgt := 128) d_M_missedOf_273 rfl ?_
            exact ih w2 v56 S54 _ h
          · replace h := ite_t c50 h
            refine x_iconst d_M_missedOf_224 ic_1 ?_
            refine x_goto (tgt := 229) d_M_missedOf_225 rfl ?_
            obtain ⟨v59, q58, h⟩ := bd_inv h
            refine y_S1i (v := v59) (S1 := S) d_M_missedOf_229 ml_11_318 (Nat.le_of_ble_eq_true rfl) (Nat.le_of_ble_eq_true rfl) (c_M_truth (by omega) q58) ?_
            obtain ⟨g60, h⟩ := gd_inv h
            obtain ⟨S61, e62, h⟩ := lt_inv h
            refine y_iast e62 d_M_missedOf_232 kd_86 g60 ?_
            refine x_goto (tgt := 270) d_M_missedOf_233 rfl ?_
            obtain ⟨v63, e64, h⟩ := lt_inv h
            refine y_iinc (L1 := [(0, .ref 78), (2, .int w2), (3, .int v63)]) e64 ic_1 d_M_missedOf_270 2 rfl (Nat.le_of_ble_eq_true rfl) rfl rfl ?_
            refine x_goto (tgt := 128) d_M_missedOf_273 rfl ?_
            exact ih w2 v63 S61 _ h
      · replace h := ite_t c34 h
        exact J155 S w2 w3 _ h
set_option maxRecDepth 100000 in
set_option maxHeartbeats 4000000 in
theorem c_M_missedOf {X : Nat × (Nat → Int32)} {D F G : Nat} (hD : 2 ≤ D) {S : St} {p1 : Int32} {res : Int32 × St} (h : fM_missedOf F G S p1 = some res) : Ek X (D) mM_missedOf 0 [(0, .ref 78), (1, .int p1)] [] S (some (.int res.1)) res.2 := by
  obtain ⟨D, rfl⟩ : ∃ E, D = E + 1 := ⟨D - 1, by omega⟩
  unfold fM_missedOf at h
  refine x_aload_n d_M_missedOf_0 rfl 0 rfl ?_
  refine y_getR d_M_missedOf_1 fl_11_39 rfl kd_78 rr_78_26 ?_
  refine x_iconst d_M_missedOf_4 ic_0 ?_
  refine x_aload_n d_M_missedOf_5 rfl 0 rfl ?_
  refine y_getR d_M_missedOf_6 fl_11_60 rfl kd_78 rr_78_33 ?_
  refine x_aload_n d_M_missedOf_9 rfl 0 rfl ?_
  refine y_getR d_M_missedOf_10 fl_11_63 rfl kd_78 rr_78_34 ?_
  refine x_iload_n d_M_missedOf_13 rfl 1 rfl ?_
  obtain ⟨g1, h⟩ := gd_inv h
  refine y_iald d_M_missedOf_14 kd_95 g1 ?_
  obtain ⟨g2, h⟩ := gd_inv h
  refine y_iald d_M_missedOf_15 kd_94 g2 ?_
  obtain ⟨g3, h⟩ := gd_inv h
  obtain ⟨S4, e5, h⟩ := lt_inv h
  refine y_iast e5 d_M_missedOf_16 kd_87 g3 ?_
  refine x_aload_n d_M_missedOf_17 rfl 0 rfl ?_
  refine y_getR d_M_missedOf_18 fl_11_39 rfl kd_78 rr_78_26 ?_
  refine x_iconst d_M_missedOf_21 ic_1 ?_
  refine x_aload_n d_M_missedOf_22 rfl 0 rfl ?_
  refine y_getR d_M_missedOf_23 fl_11_96 rfl kd_78 rr_78_59 ?_
  refine x_bipush d_M_missedOf_26 bp_10 ?_
  refine x_iload_n d_M_missedOf_28 rfl 1 rfl ?_
  refine x_iadd d_M_missedOf_29 ?_
  obtain ⟨g6, h⟩ := gd_inv h
  refine y_iald d_M_missedOf_30 kd_101 g6 ?_
  obtain ⟨g7, h⟩ := gd_inv h
  obtain ⟨S8, e9, h⟩ := lt_inv h
  refine y_iast e9 d_M_missedOf_31 kd_87 g7 ?_
  refine x_aload_n d_M_missedOf_32 rfl 0 rfl ?_
  refine y_getR d_M_missedOf_33 fl_11_39 rfl kd_78 rr_78_26 ?_
  refine x_iconst d_M_missedOf_36 ic_2 ?_
  refine x_aload_n d_M_missedOf_37 rfl 0 rfl ?_
  refine y_getR d_M_missedOf_38 fl_11_96 rfl kd_78 rr_78_59 ?_
  refine x_bipush d_M_missedOf_41 bp_20 ?_
  refine x_iload_n d_M_missedOf_43 rfl 1 rfl ?_
  refine x_iadd d_M_missedOf_44 ?_
  obtain ⟨g10, h⟩ := gd_inv h
  refine y_iald d_M_missedOf_45 kd_101 g10 ?_
  obtain ⟨g11, h⟩ := gd_inv h
  obtain ⟨S12, e13, h⟩ := lt_inv h
  refine y_iast e13 d_M_missedOf_46 kd_87 g11 ?_
  refine x_aload_n d_M_missedOf_47 rfl 0 rfl ?_
  refine y_getR d_M_missedOf_48 fl_11_39 rfl kd_78 rr_78_26 ?_
  refine x_iconst d_M_missedOf_51 ic_3 ?_
  refine x_aload_n d_M_missedOf_52 rfl 0 rfl ?_
  refine y_getR d_M_missedOf_53 fl_11_96 rfl kd_78 rr_78_59 ?_
  refine x_bipush d_M_missedOf_56 bp_30 ?_
  refine x_iload_n d_M_missedOf_58 rfl 1 rfl ?_
  refine x_iadd d_M_missedOf_59 ?_
  obtain ⟨g14, h⟩ := gd_inv h
  refine y_iald d_M_missedOf_60 kd_101 g14 ?_
  obtain ⟨g15, h⟩ := gd_inv h
  obtain ⟨S16, e17, h⟩ := lt_inv h
  refine y_iast e17 d_M_missedOf_61 kd_87 g15 ?_
  refine x_aload_n d_M_missedOf_62 rfl 0 rfl ?_
  refine y_getR d_M_missedOf_63 fl_11_39 rfl kd_78 rr_78_26 ?_
  refine x_iconst d_M_missedOf_66 ic_4 ?_
  refine x_aload_n d_M_missedOf_67 rfl 0 rfl ?_
  refine x_iload_n d_M_missedOf_68 rfl 1 rfl ?_
  obtain ⟨v19, q18, h⟩ := bd_inv h
  refine y_V1i (v := v19) (S1 := S16) d_M_missedOf_69 ml_11_328 kd_78 rfl (Nat.le_of_ble_eq_true rfl) (Nat.le_of_ble_eq_true rfl) (c_M_doubles (by omega) q18) ?_
  obtain ⟨v21, q20, h⟩ := bd_inv h
  refine y_S1i (v := v21) (S1 := S16) d_M_missedOf_72 ml_11_331 (Nat.le_of_ble_eq_true rfl) (Nat.le_of_ble_eq_true rfl) (c_M_members (by omega) q20) ?_
  obtain ⟨g22, h⟩ := gd_inv h
  obtain ⟨S23, e24, h⟩ := lt_inv h
  refine y_iast e24 d_M_missedOf_75 kd_87 g22 ?_
  refine x_aload_n d_M_missedOf_76 rfl 0 rfl ?_
  refine y_getR d_M_missedOf_77 fl_11_39 rfl kd_78 rr_78_26 ?_
  refine x_iconst d_M_missedOf_80 ic_5 ?_
  refine x_aload_n d_M_missedOf_81 rfl 0 rfl ?_
  refine y_getR d_M_missedOf_82 fl_11_66 rfl kd_78 rr_78_35 ?_
  refine x_iload_n d_M_missedOf_85 rfl 1 rfl ?_
  obtain ⟨g25, h⟩ := gd_inv h
  refine y_iald d_M_missedOf_86 kd_96 g25 ?_
  obtain ⟨g26, h⟩ := gd_inv h
  obtain ⟨S27, e28, h⟩ := lt_inv h
  refine y_iast e28 d_M_missedOf_87 kd_87 g26 ?_
  refine x_aload_n d_M_missedOf_88 rfl 0 rfl ?_
  refine y_getI d_M_missedOf_89 fl_11_334 rfl kd_78 ?_
  refine x_if_ne (tgt := 124) d_M_missedOf_92 rfl (fun c29 => ?_) (fun c29 => ?_)
  · replace h := ite_f c29 h
    refine x_iconst d_M_missedOf_124 ic_0 ?_
    refine x_istore_n (L1 := [(0, .ref 78), (1, .int p1), (2, .int (0 : Int32))]) d_M_missedOf_125 rfl (Nat.le_of_ble_eq_true rfl) rfl rfl ?_
    refine x_iconst d_M_missedOf_126 ic_0 ?_
    refine x_istore_n (L1 := [(0, .ref 78), (1, .int p1), (2, .int (0 : Int32)), (3, .int (0 : Int32))]) d_M_missedOf_127 rfl (Nat.le_of_ble_eq_true rfl) rfl rfl ?_
    refine y_pick (L1 := [(0, .ref 78), (2, .int (0 : Int32)), (3, .int (0 : Int32))]) [0, 2, 3] rfl ?_
    refine T_M_missedOf_128 (by omega)  ?_ F (0 : Int32) (0 : Int32) S27 _ h
    · intro S84 res h
      refine x_aload_n d_M_missedOf_276 rfl 0 rfl ?_
      refine y_getR d_M_missedOf_277 fl_11_36 rfl kd_78 rr_78_16 ?_
      refine x_iconst d_M_missedOf_280 ic_0 ?_
      obtain ⟨g85, h⟩ := gd_inv h
      refine y_iald d_M_missedOf_281 kd_86 g85 ?_
      refine x_sipush d_M_missedOf_282 sp_999 ?_
      obtain ⟨v87, q86, h⟩ := bd_inv h
      refine y_S2i (v := v87) (S1 := S84) d_M_missedOf_285 ml_11_337 (Nat.le_of_ble_eq_true rfl) (Nat.le_of_ble_eq_true rfl) (c_M_within (by omega) q86) ?_
      obtain rfl := Option.some.inj h
      exact x_ret (r := some (.int v87)) d_M_missedOf_288 ⟨_, rfl, rfl⟩
  · replace h := ite_t c29 h
    refine x_aload_n d_M_missedOf_95 rfl 0 rfl ?_
    refine y_getR d_M_missedOf_96 fl_11_39 rfl kd_78 rr_78_26 ?_
    refine x_iconst d_M_missedOf_99 ic_3 ?_
    obtain ⟨g88, h⟩ := gd_inv h
    refine y_iald d_M_missedOf_100 kd_87 g88 ?_
    refine x_iconst d_M_missedOf_101 ic_5 ?_
    refine x_aload_n d_M_missedOf_102 rfl 0 rfl ?_
    refine y_getR d_M_missedOf_103 fl_11_39 rfl kd_78 rr_78_26 ?_
    refine x_iconst d_M_missedOf_106 ic_0 ?_
    obtain ⟨g89, h⟩ := gd_inv h
    refine y_iald d_M_missedOf_107 kd_87 g89 ?_
    refine x_imul d_M_missedOf_108 ?_
    refine x_iadd d_M_missedOf_109 ?_
    refine x_aload_n d_M_missedOf_110 rfl 0 rfl ?_
    refine y_getR d_M_missedOf_111 fl_11_39 rfl kd_78 rr_78_26 ?_
    refine x_iconst d_M_missedOf_114 ic_4 ?_
    obtain ⟨g90, h⟩ := gd_inv h
    refine y_iald d_M_missedOf_115 kd_87 g90 ?_
    refine x_isub d_M_missedOf_116 ?_
    refine x_sipush d_M_missedOf_117 sp_999 ?_
    obtain ⟨v92, q91, h⟩ := bd_inv h
    refine y_S2i (v := v92) (S1 := S27) d_M_missedOf_120 ml_11_337 (Nat.le_of_ble_eq_true rfl) (Nat.le_of_ble_eq_true rfl) (c_M_within (by omega) q91) ?_
    obtain rfl := Option.some.inj h
    exact x_ret (r := some (.int v92)) d_M_missedOf_123 ⟨_, rfl, rfl⟩
/-! NinetyPlayersModel.note -/
def fM_note (F G : Nat) (S : St) (p1 : Int32) (p2 : Int32) : Option (Int32 × St) :=
  bd (fM_isNote F G S p1) fun v2 => if v2 = 0 then some ((-1 : Int32), S) else bd (fM_fill F G S ) fun S5 => if p2 = 0 then gd (inB p1 10) (some (S5.1 95 p1.toNatClampNeg, S5)) else if p2 = 1 then gd (inB p1 10) (some (S5.1 96 p1.toNatClampNeg, S5)) else if p2 = 2 then gd (inB ((10 : Int32) + p1) 41) (some (S5.1 101 ((10 : Int32) + p1).toNatClampNeg, S5)) else if p2 = 3 then gd (inB ((20 : Int32) + p1) 41) (some (S5.1 101 ((20 : Int32) + p1).toNatClampNeg, S5)) else if p2 = 4 then gd (inB ((30 : Int32) + p1) 41) (some (S5.1 101 ((30 : Int32) + p1).toNatClampNeg, S5)) else if p2 = 5 then gd (inB p1 41) (some (S5.1 101 p1.toNatClampNeg, S5)) else if p2 = 6 then bd2 (fM_missedOf F G S5 p1) fun v20 S21 => some (v20, S21) else if p2 = 7 then bd (fM_doubles F G S5 p1) fun v24 => some (v24, S5) else some ((-1 : Int32), S5)
set_option maxRecDepth 100000 in
set_option maxHeartbeats 4000000 in
theorem c_M_note {X : Nat × (Nat → Int32)} {D F G : Nat} (hD : 3 ≤ D) {S : St} {p1 : Int32} {p2 : Int32} {res : Int32 × St} (h : fM_note F G S p1 p2 = some res) : Ek X (D) mM_note 0 [(0, .ref 78), (1, .int p1), (2, .int p2)] [] S (some (.int res.1)) res.2 := by
  obtain ⟨D, rfl⟩ : ∃ E, D = E + 1 := ⟨D - 1, by omega⟩
  unfold fM_note at h
  refine x_aload_n d_M_note_0 rfl 0 rfl ?_
  refine x_iload_n d_M_note_1 rfl 1 rfl ?_
  obtain ⟨v2, q1, h⟩ := bd_inv h
  refine y_V1i (v := v2) (S1 := S) d_M_note_2 ml_11_461 kd_78 rfl (Nat.le_of_ble_eq_true rfl) (Nat.le_of_ble_eq_true rfl) (c_M_isNote (by omega) q1) ?_
  refine x_if_ne (tgt := 10) d_M_note_5 rfl (fun c3 => ?_) (fun c3 => ?_)
  · replace h := ite_f c3 h
    refine x_aload_n d_M_note_10 rfl 0 rfl ?_
    obtain ⟨S5, q4, h⟩ := bd_inv h
    refine y_V0v (S1 := S5) d_M_note_11 ml_11_464 kd_78 rfl (Nat.le_of_ble_eq_true rfl) (Nat.le_of_ble_eq_true rfl) (c_M_fill (by omega) q4) ?_
    refine x_iload_n d_M_note_14 rfl 2 rfl ?_
    by_cases c6 : p2 = 0
    · replace h := ite_t c6 h
      refine x_tabC (tgt := 60) 0 d_M_note_15 (by rw [c6]; rfl) (by decide) rfl rfl ?_
      refine x_aload_n d_M_note_60 rfl 0 rfl ?_
      refine y_getR d_M_note_61 fl_11_63 rfl kd_78 rr_78_34 ?_
      refine x_iload_n d_M_note_64 rfl 1 rfl ?_
      obtain ⟨g7, h⟩ := gd_inv h
      refine y_iald d_M_note_65 kd_95 g7 ?_
      obtain rfl := Option.some.inj h
      exact x_ret (r := some (.int (S5.1 95 p1.toNatClampNeg))) d_M_note_66 ⟨_, rfl, rfl⟩
    replace h := ite_f c6 h
    by_cases c8 : p2 = 1
    · replace h := ite_t c8 h
      refine x_tabC (tgt := 67) 1 d_M_note_15 (by rw [c8]; rfl) (by decide) rfl rfl ?_
      refine x_aload_n d_M_note_67 rfl 0 rfl ?_
      refine y_getR d_M_note_68 fl_11_66 rfl kd_78 rr_78_35 ?_
      refine x_iload_n d_M_note_71 rfl 1 rfl ?_
      obtain ⟨g9, h⟩ := gd_inv h
      refine y_iald d_M_note_72 kd_96 g9 ?_
      obtain rfl := Option.some.inj h
      exact x_ret (r := some (.int (S5.1 96 p1.toNatClampNeg))) d_M_note_73 ⟨_, rfl, rfl⟩
    replace h := ite_f c8 h
    by_cases c10 : p2 = 2
    · replace h := ite_t c10 h
      refine x_tabC (tgt := 74) 2 d_M_note_15 (by rw [c10]; rfl) (by decide) rfl rfl ?_
      refine x_aload_n d_M_note_74 rfl 0 rfl ?_
      refine y_getR d_M_note_75 fl_11_96 rfl kd_78 rr_78_59 ?_
      refine x_bipush d_M_note_78 bp_10 ?_
      refine x_iload_n d_M_note_80 rfl 1 rfl ?_
      refine x_iadd d_M_note_81 ?_
      obtain ⟨g11, h⟩ := gd_inv h
      refine y_iald d_M_note_82 kd_101 g11 ?_
      obtain rfl := Option.some.inj h
      exact x_ret (r := some (.int (S5.1 101 ((10 : Int32) + p1).toNatClampNeg))) d_M_note_83 ⟨_, rfl, rfl⟩
    replace h := ite_f c10 h
    by_cases c12 : p2 = 3
    · replace h := ite_t c12 h
      refine x_tabC (tgt := 84) 3 d_M_note_15 (by rw [c12]; rfl) (by decide) rfl rfl ?_
      refine x_aload_n d_M_note_84 rfl 0 rfl ?_
      refine y_getR d_M_note_85 fl_11_96 rfl kd_78 rr_78_59 ?_
      refine x_bipush d_M_note_88 bp_20 ?_
      refine x_iload_n d_M_note_90 rfl 1 rfl ?_
      refine x_iadd d_M_note_91 ?_
      obtain ⟨g13, h⟩ := gd_inv h
      refine y_iald d_M_note_92 kd_101 g13 ?_
      obtain rfl := Option.some.inj h
      exact x_ret (r := some (.int (S5.1 101 ((20 : Int32) + p1).toNatClampNeg))) d_M_note_93 ⟨_, rfl, rfl⟩
    replace h := ite_f c12 h
    by_cases c14 : p2 = 4
    · replace h := ite_t c14 h
      refine x_tabC (tgt := 94) 4 d_M_note_15 (by rw [c14]; rfl) (by decide) rfl rfl ?_
      refine x_aload_n d_M_note_94 rfl 0 rfl ?_
      refine y_getR d_M_note_95 fl_11_96 rfl kd_78 rr_78_59 ?_
      refine x_bipush d_M_note_98 bp_30 ?_
      refine x_iload_n d_M_note_100 rfl 1 rfl ?_
      refine x_iadd d_M_note_101 ?_
      obtain ⟨g15, h⟩ := gd_inv h
      refine y_iald d_M_note_102 kd_101 g15 ?_
      obtain rfl := Option.some.inj h
      exact x_ret (r := some (.int (S5.1 101 ((30 : Int32) + p1).toNatClampNeg))) d_M_note_103 ⟨_, rfl, rfl⟩
    replace h := ite_f c14 h
    by_cases c16 : p2 = 5
    · replace h := ite_t c16 h
      refine x_tabC (tgt := 104) 5 d_M_note_15 (by rw [c16]; rfl) (by decide) rfl rfl ?_
      refine x_aload_n d_M_note_104 rfl 0 rfl ?_
      refine y_getR d_M_note_105 fl_11_96 rfl kd_78 rr_78_59 ?_
      refine x_iload_n d_M_note_108 rfl 1 rfl ?_
      obtain ⟨g17, h⟩ := gd_inv h
      refine y_iald d_M_note_109 kd_101 g17 ?_
      obtain rfl := Option.some.inj h
      exact x_ret (r := some (.int (S5.1 101 p1.toNatClampNeg))) d_M_note_110 ⟨_, rfl, rfl⟩
    replace h := ite_f c16 h
    by_cases c18 : p2 = 6
    · replace h := ite_t c18 h
      refine x_tabC (tgt := 111) 6 d_M_note_15 (by rw [c18]; rfl) (by decide) rfl rfl ?_
      refine x_aload_n d_M_note_111 rfl 0 rfl ?_
      refine x_iload_n d_M_note_112 rfl 1 rfl ?_
      obtain ⟨v20, S21, q19, h⟩ := bd2_inv h
      refine y_V1i (v := v20) (S1 := S21) d_M_note_113 ml_11_467 kd_78 rfl (Nat.le_of_ble_eq_true rfl) (Nat.le_of_ble_eq_true rfl) (c_M_missedOf (by omega) q19) ?_
      obtain rfl := Option.some.inj h
      exact x_ret (r := some (.int v20)) d_M_note_116 ⟨_, rfl, rfl⟩
    replace h := ite_f c18 h
    by_cases c22 : p2 = 7
    · replace h := ite_t c22 h
      refine x_tabC (tgt := 117) 7 d_M_note_15 (by rw [c22]; rfl) (by decide) rfl rfl ?_
      refine x_aload_n d_M_note_117 rfl 0 rfl ?_
      refine x_iload_n d_M_note_118 rfl 1 rfl ?_
      obtain ⟨v24, q23, h⟩ := bd_inv h
      refine y_V1i (v := v24) (S1 := S5) d_M_note_119 ml_11_328 kd_78 rfl (Nat.le_of_ble_eq_true rfl) (Nat.le_of_ble_eq_true rfl) (c_M_doubles (by omega) q23) ?_
      obtain rfl := Option.some.inj h
      exact x_ret (r := some (.int v24)) d_M_note_122 ⟨_, rfl, rfl⟩
    replace h := ite_f c22 h
    refine x_tabD (tgt := 123) d_M_note_15 (by have := lv_neT c6 (show (0 : Int32).toInt = 0 from rfl); have := lv_neT c8 (show (1 : Int32).toInt = 1 from rfl); have := lv_neT c10 (show (2 : Int32).toInt = 2 from rfl); have := lv_neT c12 (show (3 : Int32).toInt = 3 from rfl); have := lv_neT c14 (show (4 : Int32).toInt = 4 from rfl); have := lv_neT c16 (show (5 : Int32).toInt = 5 from rfl); have := lv_neT c18 (show (6 : Int32).toInt = 6 from rfl); have := lv_neT c22 (show (7 : Int32).toInt = 7 from rfl); omega) rfl ?_
    refine x_iconst d_M_note_123 ic_m1 ?_
    obtain rfl := Option.some.inj h
    exact x_ret (r := some (.int (-1 : Int32))) d_M_note_124 ⟨_, rfl, rfl⟩
  · replace h := ite_t c3 h
    refine x_iconst d_M_note_8 ic_m1 ?_
    obtain rfl := Option.some.inj h
    exact x_ret (r := some (.int (-1 : Int32))) d_M_note_9 ⟨_, rfl, rfl⟩
/-! NinetyPlayers$Score.notesOf -/
def b_S_notesOf_4 (F G : Nat) (S : St) (z0 : Nat) (z1 : Int32) (rec : Int32 → Int32 → Option (Int32)) (w2 : Int32) (w3 : Int32) : Option (Int32) :=
  if (S.1 z0 6) ≤ w3 then some w2 else gd (inB w3 10) (if (S.1 (z0 + 4) w3.toNatClampNeg) = z1 then lt (w2 ||| ((1 : Int32) <<< (w3 &&& 31))) fun v6 => lt (w3 + 1) fun v8 => rec v6 v8 else lt (w3 + 1) fun v4 => rec w2 v4)
def fS_notesOf (F G : Nat) (S : St) (o : Nat) (p1 : Int32) : Option (Int32) :=
  gd (isSc o) (fx2 (b_S_notesOf_4 F G S o p1) F (0 : Int32) (0 : Int32))
set_option maxRecDepth 100000 in
set_option maxHeartbeats 4000000 in
theorem T_S_notesOf_4 {X : Nat × (Nat → Int32)} {D F G : Nat} (hD : 0 ≤ D) {S : St} {z0 : Nat} {z1 : Int32} (hz0 : isSc z0 = true) : ∀ (f : Nat) (w2 : Int32) (w3 : Int32) (res : Int32), fx2 (b_S_notesOf_4 F G S z0 z1 ) f w2 w3 = some res → Ek X (D) mS_notesOf 4 [(0, .ref z0), (1, .int z1), (2, .int w2), (3, .int w3)] [] S (some (.int res)) S := by
  refine fx2_ind ?_
  intro rec ih w2 w3 res h
  unfold b_S_notesOf_4 at h
  refine x_iload_n d_S_notesOf_4 rfl 3 rfl ?_
  refine x_aload_n d_S_notesOf_5 rfl 0 rfl ?_
  refine y_getI d_S_notesOf_6 fl_2_66 rfl (ksSc hz0) ?_
  refine x_icmp_ge (tgt := 34) d_S_notesOf_9 rfl (fun c1 => ?_) (fun c1 => ?_)
  · replace h := ite_t c1 h
    refine x_iload_n d_S_notesOf_34 rfl 2 rfl ?_
    obtain rfl := Option.some.inj h
    exact x_ret (r := some (.int w2)) d_S_notesOf_35 ⟨_, rfl, rfl⟩
  · replace h := ite_f c1 h
    refine x_aload_n d_S_notesOf_12 rfl 0 rfl ?_
    refine y_getR d_S_notesOf_13 fl_2_22 rfl (ksSc hz0) (rrSc_10 hz0) ?_
    refine x_iload_n d_S_notesOf_16 rfl 3 rfl ?_
    obtain ⟨g2, h⟩ := gd_inv h
    refine y_iald d_S_notesOf_17 (ksSc_4 hz0) g2 ?_
    refine x_iload_n d_S_notesOf_18 rfl 1 rfl ?_
    refine x_icmp_ne (tgt := 28) d_S_notesOf_19 rfl (fun c3 => ?_) (fun c3 => ?_)
    · replace h := ite_f c3 h
      obtain ⟨v4, e5, h⟩ := lt_inv h
      refine y_iinc (L1 := [(0, .ref z0), (1, .int z1), (2, .int w2), (3, .int v4)]) e5 ic_1 d_S_notesOf_28 3 rfl (Nat.le_of_ble_eq_true rfl) rfl rfl ?_
      refine x_goto (tgt := 4) d_S_notesOf_31 rfl ?_
      exact ih w2 v4 _ h
    · replace h := ite_t c3 h
      refine x_iload_n d_S_notesOf_22 rfl 2 rfl ?_
      refine x_iconst d_S_notesOf_23 ic_1 ?_
      refine x_iload_n d_S_notesOf_24 rfl 3 rfl ?_
      refine x_ishl d_S_notesOf_25 ?_
      refine x_ior d_S_notesOf_26 ?_
      obtain ⟨v6, e7, h⟩ := lt_inv h
      refine y_istore_n (L1 := [(0, .ref z0), (1, .int z1), (2, .int v6), (3, .int w3)]) e7 d_S_notesOf_27 rfl (Nat.le_of_ble_eq_true rfl) rfl rfl ?_
      obtain ⟨v8, e9, h⟩ := lt_inv h
      refine y_iinc (L1 := [(0, .ref z0), (1, .int z1), (2, .int v6), (3, .int v8)]) e9 ic_1 d_S_notesOf_28 3 rfl (Nat.le_of_ble_eq_true rfl) rfl rfl ?_
      refine x_goto (tgt := 4) d_S_notesOf_31 rfl ?_
      exact ih v6 v8 _ h
set_option maxRecDepth 100000 in
set_option maxHeartbeats 4000000 in
theorem c_S_notesOf {X : Nat × (Nat → Int32)} {D F G : Nat} (hD : 0 ≤ D) {S : St} {o : Nat} {p1 : Int32} {res : Int32} (h : fS_notesOf F G S o p1 = some res) : Ek X (D) mS_notesOf 0 [(0, .ref o), (1, .int p1)] [] S (some (.int res)) S := by
  unfold fS_notesOf at h
  obtain ⟨gg0, h⟩ := gd_inv h
  refine x_iconst d_S_notesOf_0 ic_0 ?_
  refine x_istore_n (L1 := [(0, .ref o), (1, .int p1), (2, .int (0 : Int32))]) d_S_notesOf_1 rfl (Nat.le_of_ble_eq_true rfl) rfl rfl ?_
  refine x_iconst d_S_notesOf_2 ic_0 ?_
  refine x_istore_n (L1 := [(0, .ref o), (1, .int p1), (2, .int (0 : Int32)), (3, .int (0 : Int32))]) d_S_notesOf_3 rfl (Nat.le_of_ble_eq_true rfl) rfl rfl ?_
  refine T_S_notesOf_4 (by omega) gg0  F (0 : Int32) (0 : Int32) _ h
/-! NinetyPlayers$Laying.setOf -/
def b_L_setOf_4 (F G : Nat) (S : St) (z0 : Nat) (z1 : Int32) (rec : Int32 → Int32 → Option (Int32)) (w2 : Int32) (w3 : Int32) : Option (Int32) :=
  if (10 : Int32) ≤ w3 then some w2 else gd (inB w3 10) (if (S.1 (z0 + 1) w3.toNatClampNeg) = z1 then lt (w2 ||| ((1 : Int32) <<< (w3 &&& 31))) fun v6 => lt (w3 + 1) fun v8 => rec v6 v8 else lt (w3 + 1) fun v4 => rec w2 v4)
def fL_setOf (F G : Nat) (S : St) (o : Nat) (p1 : Int32) : Option (Int32) :=
  gd (isLa o) (fx2 (b_L_setOf_4 F G S o p1) F (0 : Int32) (0 : Int32))
set_option maxRecDepth 100000 in
set_option maxHeartbeats 4000000 in
theorem T_L_setOf_4 {X : Nat × (Nat → Int32)} {D F G : Nat} (hD : 0 ≤ D) {S : St} {z0 : Nat} {z1 : Int32} (hz0 : isLa z0 = true) : ∀ (f : Nat) (w2 : Int32) (w3 : Int32) (res : Int32), fx2 (b_L_setOf_4 F G S z0 z1 ) f w2 w3 = some res → Ek X (D) mL_setOf 4 [(0, .ref z0), (1, .int z1), (2, .int w2), (3, .int w3)] [] S (some (.int res)) S := by
  refine fx2_ind ?_
  intro rec ih w2 w3 res h
  unfold b_L_setOf_4 at h
  refine x_iload_n d_L_setOf_4 rfl 3 rfl ?_
  refine x_bipush d_L_setOf_5 bp_10 ?_
  refine x_icmp_ge (tgt := 32) d_L_setOf_7 rfl (fun c1 => ?_) (fun c1 => ?_)
  · replace h := ite_t c1 h
    refine x_iload_n d_L_setOf_32 rfl 2 rfl ?_
    obtain rfl := Option.some.inj h
    exact x_ret (r := some (.int w2)) d_L_setOf_33 ⟨_, rfl, rfl⟩
  · replace h := ite_f c1 h
    refine x_aload_n d_L_setOf_10 rfl 0 rfl ?_
    refine y_getR d_L_setOf_11 fl_5_9 rfl (ksLa hz0) (rrLa_2 hz0) ?_
    refine x_iload_n d_L_setOf_14 rfl 3 rfl ?_
    obtain ⟨g2, h⟩ := gd_inv h
    refine y_iald d_L_setOf_15 (ksLa_1 hz0) g2 ?_
    refine x_iload_n d_L_setOf_16 rfl 1 rfl ?_
    refine x_icmp_ne (tgt := 26) d_L_setOf_17 rfl (fun c3 => ?_) (fun c3 => ?_)
    · replace h := ite_f c3 h
      obtain ⟨v4, e5, h⟩ := lt_inv h
      refine y_iinc (L1 := [(0, .ref z0), (1, .int z1), (2, .int w2), (3, .int v4)]) e5 ic_1 d_L_setOf_26 3 rfl (Nat.le_of_ble_eq_true rfl) rfl rfl ?_
      refine x_goto (tgt := 4) d_L_setOf_29 rfl ?_
      exact ih w2 v4 _ h
    · replace h := ite_t c3 h
      refine x_iload_n d_L_setOf_20 rfl 2 rfl ?_
      refine x_iconst d_L_setOf_21 ic_1 ?_
      refine x_iload_n d_L_setOf_22 rfl 3 rfl ?_
      refine x_ishl d_L_setOf_23 ?_
      refine x_ior d_L_setOf_24 ?_
      obtain ⟨v6, e7, h⟩ := lt_inv h
      refine y_istore_n (L1 := [(0, .ref z0), (1, .int z1), (2, .int v6), (3, .int w3)]) e7 d_L_setOf_25 rfl (Nat.le_of_ble_eq_true rfl) rfl rfl ?_
      obtain ⟨v8, e9, h⟩ := lt_inv h
      refine y_iinc (L1 := [(0, .ref z0), (1, .int z1), (2, .int v6), (3, .int v8)]) e9 ic_1 d_L_setOf_26 3 rfl (Nat.le_of_ble_eq_true rfl) rfl rfl ?_
      refine x_goto (tgt := 4) d_L_setOf_29 rfl ?_
      exact ih v6 v8 _ h
set_option maxRecDepth 100000 in
set_option maxHeartbeats 4000000 in
theorem c_L_setOf {X : Nat × (Nat → Int32)} {D F G : Nat} (hD : 0 ≤ D) {S : St} {o : Nat} {p1 : Int32} {res : Int32} (h : fL_setOf F G S o p1 = some res) : Ek X (D) mL_setOf 0 [(0, .ref o), (1, .int p1)] [] S (some (.int res)) S := by
  unfold fL_setOf at h
  obtain ⟨gg0, h⟩ := gd_inv h
  refine x_iconst d_L_setOf_0 ic_0 ?_
  refine x_istore_n (L1 := [(0, .ref o), (1, .int p1), (2, .int (0 : Int32))]) d_L_setOf_1 rfl (Nat.le_of_ble_eq_true rfl) rfl rfl ?_
  refine x_iconst d_L_setOf_2 ic_0 ?_
  refine x_istore_n (L1 := [(0, .ref o), (1, .int p1), (2, .int (0 : Int32)), (3, .int (0 : Int32))]) d_L_setOf_3 rfl (Nat.le_of_ble_eq_true rfl) rfl rfl ?_
  refine T_L_setOf_4 (by omega) gg0  F (0 : Int32) (0 : Int32) _ h
/-! NinetyPlayers.givenSet -/
def fN_givenSet (F G : Nat) (S : St) : Option (Int32) :=
  bd (fL_setOf F G S 30 (1 : Int32)) fun v2 => bd (fL_setOf F G S 30 (2 : Int32)) fun v4 => some (v2 ||| v4)
set_option maxRecDepth 100000 in
set_option maxHeartbeats 4000000 in
theorem c_N_givenSet {X : Nat × (Nat → Int32)} {D F G : Nat} (hD : 1 ≤ D) {S : St} {res : Int32} (h : fN_givenSet F G S  = some res) : Ek X (D) mN_givenSet 0 [(0, .ref 0)] [] S (some (.int res)) S := by
  obtain ⟨D, rfl⟩ : ∃ E, D = E + 1 := ⟨D - 1, by omega⟩
  unfold fN_givenSet at h
  refine x_aload_n d_N_givenSet_0 rfl 0 rfl ?_
  refine y_getR d_N_givenSet_1 fl_0_31 rfl kd_0 rr_0_3 ?_
  refine x_iconst d_N_givenSet_4 ic_1 ?_
  obtain ⟨v2, q1, h⟩ := bd_inv h
  refine y_V1i (v := v2) (S1 := S) d_N_givenSet_5 ml_0_205 kd_30 rfl (Nat.le_of_ble_eq_true rfl) (Nat.le_of_ble_eq_true rfl) (c_L_setOf (by omega) q1) ?_
  refine x_aload_n d_N_givenSet_8 rfl 0 rfl ?_
  refine y_getR d_N_givenSet_9 fl_0_31 rfl kd_0 rr_0_3 ?_
  refine x_iconst d_N_givenSet_12 ic_2 ?_
  obtain ⟨v4, q3, h⟩ := bd_inv h
  refine y_V1i (v := v4) (S1 := S) d_N_givenSet_13 ml_0_205 kd_30 rfl (Nat.le_of_ble_eq_true rfl) (Nat.le_of_ble_eq_true rfl) (c_L_setOf (by omega) q3) ?_
  refine x_ior d_N_givenSet_16 ?_
  obtain rfl := Option.some.inj h
  exact x_ret (r := some (.int (v2 ||| v4))) d_N_givenSet_17 ⟨_, rfl, rfl⟩
/-! NinetyPlayers.part -/
def fN_part (F G : Nat) (S : St) (p1 : Int32) (p2 : Int32) : Option (Int32) :=
  if p1 < 0 then some (-1 : Int32) else gd (isSc S.2.2.1) (if p1 < (S.1 S.2.2.1 5) then if p2 = 0 then gd (inB p1 4) (some (S.1 (S.2.2.1 + 2) p1.toNatClampNeg)) else if p2 = 1 then bd (fS_notesOf F G S S.2.2.1 p1) fun v8 => some v8 else if p2 = 2 then bd (fS_notesOf F G S S.2.2.1 p1) fun v11 => bd (fN_givenSet F G S) fun v13 => some (v11 &&& v13) else some (-1 : Int32) else some (-1 : Int32))
set_option maxRecDepth 100000 in
set_option maxHeartbeats 4000000 in
theorem c_N_part {X : Nat × (Nat → Int32)} {D F G : Nat} (hD : 2 ≤ D) {S : St} {p1 : Int32} {p2 : Int32} {res : Int32} (h : fN_part F G S p1 p2 = some res) : Ek X (D) mN_part 0 [(0, .ref 0), (1, .int p1), (2, .int p2)] [] S (some (.int res)) S := by
  obtain ⟨D, rfl⟩ : ∃ E, D = E + 1 := ⟨D - 1, by omega⟩
  unfold fN_part at h
  refine x_iload_n d_N_part_0 rfl 1 rfl ?_
  refine x_if_lt (tgt := 15) d_N_part_1 rfl (fun c1 => ?_) (fun c1 => ?_)
  · replace h := ite_t c1 h
    refine x_iconst d_N_part_15 ic_m1 ?_
    obtain rfl := Option.some.inj h
    exact x_ret (r := some (.int (-1 : Int32))) d_N_part_16 ⟨_, rfl, rfl⟩
  · replace h := ite_f c1 h
    refine x_iload_n d_N_part_4 rfl 1 rfl ?_
    refine x_aload_n d_N_part_5 rfl 0 rfl ?_
    refine y_getR d_N_part_6 fl_0_24 rfl kd_0 rr_told ?_
    obtain ⟨g2, h⟩ := gd_inv h
    refine y_getI d_N_part_9 fl_0_157 rfl (ksSc g2) ?_
    refine x_icmp_lt (tgt := 17) d_N_part_12 rfl (fun c3 => ?_) (fun c3 => ?_)
    · replace h := ite_t c3 h
      refine x_iload_n d_N_part_17 rfl 2 rfl ?_
      by_cases c4 : p2 = 0
      · replace h := ite_t c4 h
        refine x_tabC (tgt := 44) 0 d_N_part_18 (by rw [c4]; rfl) (by decide) rfl rfl ?_
        refine x_aload_n d_N_part_44 rfl 0 rfl ?_
        refine y_getR d_N_part_45 fl_0_24 rfl kd_0 rr_told ?_
        refine y_getR d_N_part_48 fl_0_160 rfl (ksSc g2) (rrSc_8 g2) ?_
        refine x_iload_n d_N_part_51 rfl 1 rfl ?_
        obtain ⟨g5, h⟩ := gd_inv h
        refine y_iald d_N_part_52 (ksSc_2 g2) g5 ?_
        obtain rfl := Option.some.inj h
        exact x_ret (r := some (.int (S.1 (S.2.2.1 + 2) p1.toNatClampNeg))) d_N_part_53 ⟨_, rfl, rfl⟩
      replace h := ite_f c4 h
      by_cases c6 : p2 = 1
      · replace h := ite_t c6 h
        refine x_tabC (tgt := 54) 1 d_N_part_18 (by rw [c6]; rfl) (by decide) rfl rfl ?_
        refine x_aload_n d_N_part_54 rfl 0 rfl ?_
        refine y_getR d_N_part_55 fl_0_24 rfl kd_0 rr_told ?_
        refine x_iload_n d_N_part_58 rfl 1 rfl ?_
        obtain ⟨v8, q7, h⟩ := bd_inv h
        refine y_V1i (v := v8) (S1 := S) d_N_part_59 ml_0_163 (ksSc g2) rfl (Nat.le_of_ble_eq_true rfl) (Nat.le_of_ble_eq_true rfl) (c_S_notesOf (by omega) q7) ?_
        obtain rfl := Option.some.inj h
        exact x_ret (r := some (.int v8)) d_N_part_62 ⟨_, rfl, rfl⟩
      replace h := ite_f c6 h
      by_cases c9 : p2 = 2
      · replace h := ite_t c9 h
        refine x_tabC (tgt := 63) 2 d_N_part_18 (by rw [c9]; rfl) (by decide) rfl rfl ?_
        refine x_aload_n d_N_part_63 rfl 0 rfl ?_
        refine y_getR d_N_part_64 fl_0_24 rfl kd_0 rr_told ?_
        refine x_iload_n d_N_part_67 rfl 1 rfl ?_
        obtain ⟨v11, q10, h⟩ := bd_inv h
        refine y_V1i (v := v11) (S1 := S) d_N_part_68 ml_0_163 (ksSc g2) rfl (Nat.le_of_ble_eq_true rfl) (Nat.le_of_ble_eq_true rfl) (c_S_notesOf (by omega) q10) ?_
        refine x_aload_n d_N_part_71 rfl 0 rfl ?_
        obtain ⟨v13, q12, h⟩ := bd_inv h
        refine y_V0i (v := v13) (S1 := S) d_N_part_72 ml_0_166 kd_0 rfl (Nat.le_of_ble_eq_true rfl) (Nat.le_of_ble_eq_true rfl) (c_N_givenSet (by omega) q12) ?_
        refine x_iand d_N_part_75 ?_
        obtain rfl := Option.some.inj h
        exact x_ret (r := some (.int (v11 &&& v13))) d_N_part_76 ⟨_, rfl, rfl⟩
      replace h := ite_f c9 h
      refine x_tabD (tgt := 77) d_N_part_18 (by have := lv_neT c4 (show (0 : Int32).toInt = 0 from rfl); have := lv_neT c6 (show (1 : Int32).toInt = 1 from rfl); have := lv_neT c9 (show (2 : Int32).toInt = 2 from rfl); omega) rfl ?_
      refine x_iconst d_N_part_77 ic_m1 ?_
      obtain rfl := Option.some.inj h
      exact x_ret (r := some (.int (-1 : Int32))) d_N_part_78 ⟨_, rfl, rfl⟩
    · replace h := ite_f c3 h
      refine x_iconst d_N_part_15 ic_m1 ?_
      obtain rfl := Option.some.inj h
      exact x_ret (r := some (.int (-1 : Int32))) d_N_part_16 ⟨_, rfl, rfl⟩
/-! NinetyPlayersModel.notesOf -/
def j_M_notesOf_28 (F G : Nat) (S : St) (z1 : Int32) (rec : Int32 → Int32 → Option (Int32)) (_ : St) (y3 : Int32) (s0 : Int32) (s1 : Int32) : Option (Int32) :=
  bd (fM_truth F G S s1) fun v5 => lt (s0 ||| (v5 <<< (y3 &&& 31))) fun v6 => lt (y3 + 1) fun v8 => rec v6 v8
def b_M_notesOf_4 (F G : Nat) (S : St) (z1 : Int32) (rec : Int32 → Int32 → Option (Int32)) (w2 : Int32) (w3 : Int32) : Option (Int32) :=
  if (S.1 78 48) ≤ w3 then some w2 else gd (inB w3 10) (if (S.1 95 w3.toNatClampNeg) = z1 then j_M_notesOf_28 F G S z1 rec  S w3 w2 (1 : Int32) else j_M_notesOf_28 F G S z1 rec  S w3 w2 (0 : Int32))
def fM_notesOf (F G : Nat) (S : St) (p1 : Int32) : Option (Int32) :=
  fx2 (b_M_notesOf_4 F G S p1) F (0 : Int32) (0 : Int32)
set_option maxRecDepth 100000 in
set_option maxHeartbeats 4000000 in
theorem T_M_notesOf_4 {X : Nat × (Nat → Int32)} {D F G : Nat} (hD : 1 ≤ D + 1) {S : St} {z1 : Int32} : ∀ (f : Nat) (w2 : Int32) (w3 : Int32) (res : Int32), fx2 (b_M_notesOf_4 F G S z1 ) f w2 w3 = some res → Ek X (D + 1) mM_notesOf 4 [(0, .ref 78), (1, .int z1), (2, .int w2), (3, .int w3)] [] S (some (.int res)) S := by
  refine fx2_ind ?_
  intro rec ih w2 w3 res h
  unfold b_M_notesOf_4 at h
  have J28 : ∀ (y3 : Int32) (s0 : Int32) (s1 : Int32) (res : Int32), j_M_notesOf_28 F G S z1 rec S y3 s0 s1 = some res → Ek X (D + 1) mM_notesOf 28 [(0, .ref 78), (1, .int z1), (3, .int y3)] [.int s1, .int s0] S (some (.int res)) S := by
    intro y3 s0 s1 res h
    unfold j_M_notesOf_28 at h
    obtain ⟨v5, q4, h⟩ := bd_inv h
    refine y_S1i (v := v5) (S1 := S) d_M_notesOf_28 ml_11_318 (Nat.le_of_ble_eq_true rfl) (Nat.le_of_ble_eq_true rfl) (c_M_truth (by omega) q4) ?_
    refine x_iload_n d_M_notesOf_31 rfl 2 rfl ?_
    refine x_ishl d_M_notesOf_32 ?_
    refine x_ior d_M_notesOf_33 ?_
    obtain ⟨v6, e7, h⟩ := lt_inv h
    refine y_istore_n (L1 := [(0, .ref 78), (1, .int z1), (2, .int v6), (3, .int y3)]) e7 d_M_notesOf_34 rfl (Nat.le_of_ble_eq_true rfl) rfl rfl ?_
    obtain ⟨v8, e9, h⟩ := lt_inv h
    refine y_iinc (L1 := [(0, .ref 78), (1, .int z1), (2, .int v6), (3, .int v8)]) e9 ic_1 d_M_notesOf_35 3 rfl (Nat.le_of_ble_eq_true rfl) rfl rfl ?_
    refine x_goto (tgt := 4) d_M_notesOf_38 rfl ?_
    exact ih v6 v8 _ h
  refine x_iload_n d_M_notesOf_4 rfl 3 rfl ?_
  refine x_aload_n d_M_notesOf_5 rfl 0 rfl ?_
  refine y_getI d_M_notesOf_6 fl_11_322 rfl kd_78 ?_
  refine x_icmp_ge (tgt := 41) d_M_notesOf_9 rfl (fun c1 => ?_) (fun c1 => ?_)
  · replace h := ite_t c1 h
    refine x_iload_n d_M_notesOf_41 rfl 2 rfl ?_
    obtain rfl := Option.some.inj h
    exact x_ret (r := some (.int w2)) d_M_notesOf_42 ⟨_, rfl, rfl⟩
  · replace h := ite_f c1 h
    refine x_iload_n d_M_notesOf_12 rfl 2 rfl ?_
    refine x_aload_n d_M_notesOf_13 rfl 0 rfl ?_
    refine y_getR d_M_notesOf_14 fl_11_63 rfl kd_78 rr_78_34 ?_
    refine x_iload_n d_M_notesOf_17 rfl 3 rfl ?_
    obtain ⟨g2, h⟩ := gd_inv h
    refine y_iald d_M_notesOf_18 kd_95 g2 ?_
    refine x_iload_n d_M_notesOf_19 rfl 1 rfl ?_
    refine x_icmp_ne (tgt := 27) d_M_notesOf_20 rfl (fun c3 => ?_) (fun c3 => ?_)
    · replace h := ite_f c3 h
      refine x_iconst d_M_notesOf_27 ic_0 ?_
      refine y_pick (L1 := [(0, .ref 78), (1, .int z1), (3, .int w3)]) [0, 1, 3] rfl ?_
      exact J28 w3 w2 (0 : Int32) _ h
    · replace h := ite_t c3 h
      refine x_iconst d_M_notesOf_23 ic_1 ?_
      refine x_goto (tgt := 28) d_M_notesOf_24 rfl ?_
      refine y_pick (L1 := [(0, .ref 78), (1, .int z1), (3, .int w3)]) [0, 1, 3] rfl ?_
      exact J28 w3 w2 (1 : Int32) _ h
set_option maxRecDepth 100000 in
set_option maxHeartbeats 4000000 in
theorem c_M_notesOf {X : Nat × (Nat → Int32)} {D F G : Nat} (hD : 1 ≤ D) {S : St} {p1 : Int32} {res : Int32} (h : fM_notesOf F G S p1 = some res) : Ek X (D) mM_notesOf 0 [(0, .ref 78), (1, .int p1)] [] S (some (.int res)) S := by
  obtain ⟨D, rfl⟩ : ∃ E, D = E + 1 := ⟨D - 1, by omega⟩
  unfold fM_notesOf at h
  refine x_iconst d_M_notesOf_0 ic_0 ?_
  refine x_istore_n (L1 := [(0, .ref 78), (1, .int p1), (2, .int (0 : Int32))]) d_M_notesOf_1 rfl (Nat.le_of_ble_eq_true rfl) rfl rfl ?_
  refine x_iconst d_M_notesOf_2 ic_0 ?_
  refine x_istore_n (L1 := [(0, .ref 78), (1, .int p1), (2, .int (0 : Int32)), (3, .int (0 : Int32))]) d_M_notesOf_3 rfl (Nat.le_of_ble_eq_true rfl) rfl rfl ?_
  refine T_M_notesOf_4 (by omega)   F (0 : Int32) (0 : Int32) _ h
/-! NinetyPlayersModel.given -/
def j_M_given_28 (F G : Nat) (S : St) (z1 : Int32) (rec : Int32 → Int32 → Option (Int32)) (_ : St) (y3 : Int32) (s0 : Int32) (s1 : Int32) : Option (Int32) :=
  bd (fM_truth F G S s1) fun v5 => lt (s0 ||| (v5 <<< (y3 &&& 31))) fun v6 => lt (y3 + 1) fun v8 => rec v6 v8
def b_M_given_4 (F G : Nat) (S : St) (z1 : Int32) (rec : Int32 → Int32 → Option (Int32)) (w2 : Int32) (w3 : Int32) : Option (Int32) :=
  if (S.1 78 48) ≤ w3 then some w2 else gd (inB w3 41) (if (S.1 101 w3.toNatClampNeg) = z1 then j_M_given_28 F G S z1 rec  S w3 w2 (1 : Int32) else j_M_given_28 F G S z1 rec  S w3 w2 (0 : Int32))
def fM_given (F G : Nat) (S : St) (p1 : Int32) : Option (Int32) :=
  fx2 (b_M_given_4 F G S p1) F (0 : Int32) (0 : Int32)
set_option maxRecDepth 100000 in
set_option maxHeartbeats 4000000 in
theorem T_M_given_4 {X : Nat × (Nat → Int32)} {D F G : Nat} (hD : 1 ≤ D + 1) {S : St} {z1 : Int32} : ∀ (f : Nat) (w2 : Int32) (w3 : Int32) (res : Int32), fx2 (b_M_given_4 F G S z1 ) f w2 w3 = some res → Ek X (D + 1) mM_given 4 [(0, .ref 78), (1, .int z1), (2, .int w2), (3, .int w3)] [] S (some (.int res)) S := by
  refine fx2_ind ?_
  intro rec ih w2 w3 res h
  unfold b_M_given_4 at h
  have J28 : ∀ (y3 : Int32) (s0 : Int32) (s1 : Int32) (res : Int32), j_M_given_28 F G S z1 rec S y3 s0 s1 = some res → Ek X (D + 1) mM_given 28 [(0, .ref 78), (1, .int z1), (3, .int y3)] [.int s1, .int s0] S (some (.int res)) S := by
    intro y3 s0 s1 res h
    unfold j_M_given_28 at h
    obtain ⟨v5, q4, h⟩ := bd_inv h
    refine y_S1i (v := v5) (S1 := S) d_M_given_28 ml_11_318 (Nat.le_of_ble_eq_true rfl) (Nat.le_of_ble_eq_true rfl) (c_M_truth (by omega) q4) ?_
    refine x_iload_n d_M_given_31 rfl 2 rfl ?_
    refine x_ishl d_M_given_32 ?_
    refine x_ior d_M_given_33 ?_
    obtain ⟨v6, e7, h⟩ := lt_inv h
    refine y_istore_n (L1 := [(0, .ref 78), (1, .int z1), (2, .int v6), (3, .int y3)]) e7 d_M_given_34 rfl (Nat.le_of_ble_eq_true rfl) rfl rfl ?_
    obtain ⟨v8, e9, h⟩ := lt_inv h
    refine y_iinc (L1 := [(0, .ref 78), (1, .int z1), (2, .int v6), (3, .int v8)]) e9 ic_1 d_M_given_35 3 rfl (Nat.le_of_ble_eq_true rfl) rfl rfl ?_
    refine x_goto (tgt := 4) d_M_given_38 rfl ?_
    exact ih v6 v8 _ h
  refine x_iload_n d_M_given_4 rfl 3 rfl ?_
  refine x_aload_n d_M_given_5 rfl 0 rfl ?_
  refine y_getI d_M_given_6 fl_11_322 rfl kd_78 ?_
  refine x_icmp_ge (tgt := 41) d_M_given_9 rfl (fun c1 => ?_) (fun c1 => ?_)
  · replace h := ite_t c1 h
    refine x_iload_n d_M_given_41 rfl 2 rfl ?_
    obtain rfl := Option.some.inj h
    exact x_ret (r := some (.int w2)) d_M_given_42 ⟨_, rfl, rfl⟩
  · replace h := ite_f c1 h
    refine x_iload_n d_M_given_12 rfl 2 rfl ?_
    refine x_aload_n d_M_given_13 rfl 0 rfl ?_
    refine y_getR d_M_given_14 fl_11_96 rfl kd_78 rr_78_59 ?_
    refine x_iload_n d_M_given_17 rfl 3 rfl ?_
    obtain ⟨g2, h⟩ := gd_inv h
    refine y_iald d_M_given_18 kd_101 g2 ?_
    refine x_iload_n d_M_given_19 rfl 1 rfl ?_
    refine x_icmp_ne (tgt := 27) d_M_given_20 rfl (fun c3 => ?_) (fun c3 => ?_)
    · replace h := ite_f c3 h
      refine x_iconst d_M_given_27 ic_0 ?_
      refine y_pick (L1 := [(0, .ref 78), (1, .int z1), (3, .int w3)]) [0, 1, 3] rfl ?_
      exact J28 w3 w2 (0 : Int32) _ h
    · replace h := ite_t c3 h
      refine x_iconst d_M_given_23 ic_1 ?_
      refine x_goto (tgt := 28) d_M_given_24 rfl ?_
      refine y_pick (L1 := [(0, .ref 78), (1, .int z1), (3, .int w3)]) [0, 1, 3] rfl ?_
      exact J28 w3 w2 (1 : Int32) _ h
set_option maxRecDepth 100000 in
set_option maxHeartbeats 4000000 in
theorem c_M_given {X : Nat × (Nat → Int32)} {D F G : Nat} (hD : 1 ≤ D) {S : St} {p1 : Int32} {res : Int32} (h : fM_given F G S p1 = some res) : Ek X (D) mM_given 0 [(0, .ref 78), (1, .int p1)] [] S (some (.int res)) S := by
  obtain ⟨D, rfl⟩ : ∃ E, D = E + 1 := ⟨D - 1, by omega⟩
  unfold fM_given at h
  refine x_iconst d_M_given_0 ic_0 ?_
  refine x_istore_n (L1 := [(0, .ref 78), (1, .int p1), (2, .int (0 : Int32))]) d_M_given_1 rfl (Nat.le_of_ble_eq_true rfl) rfl rfl ?_
  refine x_iconst d_M_given_2 ic_0 ?_
  refine x_istore_n (L1 := [(0, .ref 78), (1, .int p1), (2, .int (0 : Int32)), (3, .int (0 : Int32))]) d_M_given_3 rfl (Nat.le_of_ble_eq_true rfl) rfl rfl ?_
  refine T_M_given_4 (by omega)   F (0 : Int32) (0 : Int32) _ h
