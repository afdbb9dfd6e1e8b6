/-! NinetyPlayers.version -/
def fN_version (F G : Nat) (S : St) (p1 : Int32) : Option (Int32 × St) :=
  gd (isSc S.2.2.1) (bd (fN_layLeastMissed F G S (S.1 S.2.2.1 2) (S.1 S.2.2.1 1)) fun S3 => if p1 = 0 then some (S3.1 56 2, S3) else if p1 = 1 then bd (fJ_bitCount F G S3 ((S3.1 56 3) ||| (S3.1 56 4))) fun v7 => some (v7, S3) else some ((-1 : Int32), S3))
set_option maxRecDepth 100000 in
set_option maxHeartbeats 4000000 in
theorem c_N_version {X : Nat × (Nat → Int32)} {D F G : Nat} (hD : 6 + G ≤ D) {S : St} {p1 : Int32} {res : Int32 × St} (h : fN_version F G S p1 = some res) : Ek X (D) mN_version 0 [(0, .ref 0), (1, .int p1)] [] S (some (.int res.1)) res.2 := by
  obtain ⟨D, rfl⟩ : ∃ E, D = E + 1 := ⟨D - 1, by omega⟩
  unfold fN_version at h
  refine x_aload_n d_N_version_0 rfl 0 rfl ?_
  refine x_aload_n d_N_version_1 rfl 0 rfl ?_
  refine y_getR d_N_version_2 fl_0_24 rfl kd_0 rr_told ?_
  obtain ⟨g1, h⟩ := gd_inv h
  refine y_getI d_N_version_5 fl_0_260 rfl (ksSc g1) ?_
  refine x_aload_n d_N_version_8 rfl 0 rfl ?_
  refine y_getR d_N_version_9 fl_0_24 rfl kd_0 rr_told ?_
  refine y_getI d_N_version_12 fl_0_263 rfl (ksSc g1) ?_
  obtain ⟨S3, q2, h⟩ := bd_inv h
  refine y_V2v (S1 := S3) d_N_version_15 ml_0_266 kd_0 rfl (Nat.le_of_ble_eq_true rfl) (Nat.le_of_ble_eq_true rfl) (c_N_layLeastMissed (by omega) q2) ?_
  refine x_iload_n d_N_version_18 rfl 1 rfl ?_
  by_cases c4 : p1 = 0
  · replace h := ite_t c4 h
    refine x_look (tgt := 44) d_N_version_19 (by decide +kernel) (by rw [c4] <;> rfl) rfl ?_
    refine x_aload_n d_N_version_44 rfl 0 rfl ?_
    refine y_getR d_N_version_45 fl_0_49 rfl kd_0 rr_0_6 ?_
    refine y_getI d_N_version_48 fl_0_270 rfl kd_56 ?_
    obtain rfl := Option.some.inj h
    exact x_ret (r := some (.int (S3.1 56 2))) d_N_version_51 ⟨_, rfl, rfl⟩
  replace h := ite_f c4 h
  by_cases c5 : p1 = 1
  · replace h := ite_t c5 h
    refine x_look (tgt := 52) d_N_version_19 (by decide +kernel) (by rw [c5] <;> rfl) rfl ?_
    refine x_aload_n d_N_version_52 rfl 0 rfl ?_
    refine y_getR d_N_version_53 fl_0_49 rfl kd_0 rr_0_6 ?_
    refine y_getI d_N_version_56 fl_0_273 rfl kd_56 ?_
    refine x_aload_n d_N_version_59 rfl 0 rfl ?_
    refine y_getR d_N_version_60 fl_0_49 rfl kd_0 rr_0_6 ?_
    refine y_getI d_N_version_63 fl_0_274 rfl kd_56 ?_
    refine x_ior d_N_version_66 ?_
    obtain ⟨v7, q6, h⟩ := bd_inv h
    refine y_S1i (v := v7) (S1 := S3) d_N_version_67 ml_0_211 (Nat.le_of_ble_eq_true rfl) (Nat.le_of_ble_eq_true rfl) (c_J_bitCount (by omega) q6) ?_
    obtain rfl := Option.some.inj h
    exact x_ret (r := some (.int v7)) d_N_version_70 ⟨_, rfl, rfl⟩
  replace h := ite_f c5 h
  refine x_look (off := 52) (tgt := 71) d_N_version_19 (by decide +kernel) (by show Op.lookupswitch.offset [(0, 25), (1, 33)] 52 _ = _; rw [lv_osw (a := 0) c4 (by decide), lv_osw (a := 1) c5 (by decide)]; rfl) rfl ?_
  refine x_iconst d_N_version_71 ic_m1 ?_
  obtain rfl := Option.some.inj h
  exact x_ret (r := some (.int (-1 : Int32))) d_N_version_72 ⟨_, rfl, rfl⟩
/-! NinetyPlayersModel.power -/
def b_M_power_4 (F G : Nat) (S : St) (z0 : Int32) (z1 : Int32) (rec : Int32 → Int32 → Option (Int32)) (w2 : Int32) (w3 : Int32) : Option (Int32) :=
  if z1 ≤ w3 then some w2 else lt (w2 * z0) fun v2 => lt (w3 + 1) fun v4 => rec v2 v4
def fM_power (F G : Nat) (S : St) (p1 : Int32) (p2 : Int32) : Option (Int32) :=
  fx2 (b_M_power_4 F G S p1 p2) F (1 : Int32) (0 : Int32)
set_option maxRecDepth 100000 in
set_option maxHeartbeats 4000000 in
theorem T_M_power_4 {X : Nat × (Nat → Int32)} {D F G : Nat} (hD : 0 ≤ D) {S : St} {z0 : Int32} {z1 : Int32} : ∀ (f : Nat) (w2 : Int32) (w3 : Int32) (res : Int32), fx2 (b_M_power_4 F G S z0 z1 ) f w2 w3 = some res → Ek X (D) mM_power 4 [(0, .int z0), (1, .int z1), (2, .int w2), (3, .int w3)] [] S (some (.int res)) S := by
  refine fx2_ind ?_
  intro rec ih w2 w3 res h
  unfold b_M_power_4 at h
  refine x_iload_n d_M_power_4 rfl 3 rfl ?_
  refine x_iload_n d_M_power_5 rfl 1 rfl ?_
  refine x_icmp_ge (tgt := 19) d_M_power_6 rfl (fun c1 => ?_) (fun c1 => ?_)
  · replace h := ite_t c1 h
    refine x_iload_n d_M_power_19 rfl 2 rfl ?_
    obtain rfl := Option.some.inj h
    exact x_ret (r := some (.int w2)) d_M_power_20 ⟨_, rfl, rfl⟩
  · replace h := ite_f c1 h
    refine x_iload_n d_M_power_9 rfl 2 rfl ?_
    refine x_iload_n d_M_power_10 rfl 0 rfl ?_
    refine x_imul d_M_power_11 ?_
    obtain ⟨v2, e3, h⟩ := lt_inv h
    refine y_istore_n (L1 := [(0, .int z0), (1, .int z1), (2, .int v2), (3, .int w3)]) e3 d_M_power_12 rfl (Nat.le_of_ble_eq_true rfl) rfl rfl ?_
    obtain ⟨v4, e5, h⟩ := lt_inv h
    refine y_iinc (L1 := [(0, .int z0), (1, .int z1), (2, .int v2), (3, .int v4)]) e5 ic_1 d_M_power_13 3 rfl (Nat.le_of_ble_eq_true rfl) rfl rfl ?_
    refine x_goto (tgt := 4) d_M_power_16 rfl ?_
    exact ih v2 v4 _ h
set_option maxRecDepth 100000 in
set_option maxHeartbeats 4000000 in
theorem c_M_power {X : Nat × (Nat → Int32)} {D F G : Nat} (hD : 0 ≤ D) {S : St} {p1 : Int32} {p2 : Int32} {res : Int32} (h : fM_power F G S p1 p2 = some res) : Ek X (D) mM_power 0 [(0, .int p1), (1, .int p2)] [] S (some (.int res)) S := by
  unfold fM_power at h
  refine x_iconst d_M_power_0 ic_1 ?_
  refine x_istore_n (L1 := [(0, .int p1), (1, .int p2), (2, .int (1 : Int32))]) d_M_power_1 rfl (Nat.le_of_ble_eq_true rfl) rfl rfl ?_
  refine x_iconst d_M_power_2 ic_0 ?_
  refine x_istore_n (L1 := [(0, .int p1), (1, .int p2), (2, .int (1 : Int32)), (3, .int (0 : Int32))]) d_M_power_3 rfl (Nat.le_of_ble_eq_true rfl) rfl rfl ?_
  refine T_M_power_4 (by omega)   F (1 : Int32) (0 : Int32) _ h
/-! NinetyPlayersModel.layVersion -/
def b_M_layVersion_12 (F G : Nat) (rec : Int32 → Int32 → Int32 → St → Option (Int32 × St)) (w2 : Int32) (w3 : Int32) (w4 : Int32) (S : St) : Option (Int32 × St) :=
  if w4 < 0 then some (w3, S) else gd (inB w4 10) (lt (sI S 106 w4.toNatClampNeg (((w2 - w2 / (3 : Int32) * (3 : Int32)) + (1 : Int32)) - ((w2 - w2 / (3 : Int32) * (3 : Int32)) + (1 : Int32)) / (3 : Int32) * (3 : Int32))) fun S5 => lt (w2 / (3 : Int32)) fun v7 => gd (inB w4 10) (if (S5.1 106 w4.toNatClampNeg) = 0 then gd (inB w4 10) (lt (w3 + (S5.1 107 w4.toNatClampNeg)) fun v16 => lt (w4 + (-1)) fun v18 => rec v7 v16 v18 S5) else lt (w3 + (0 : Int32)) fun v11 => lt (w4 + (-1)) fun v13 => rec v7 v11 v13 S5))
def fM_layVersion (F G : Nat) (S : St) (p1 : Int32) : Option (Int32 × St) :=
  lt ((S.1 78 48) - (1 : Int32)) fun v1 => fx4 (b_M_layVersion_12 F G ) F p1 (0 : Int32) v1 S
set_option maxRecDepth 100000 in
set_option maxHeartbeats 4000000 in
theorem T_M_layVersion_12 {X : Nat × (Nat → Int32)} {D F G : Nat} (hD : 0 ≤ D) : ∀ (f : Nat) (w2 : Int32) (w3 : Int32) (w4 : Int32) (S : St) (res : Int32 × St), fx4 (b_M_layVersion_12 F G ) f w2 w3 w4 S = some res → Ek X (D) mM_layVersion 12 [(0, .ref 78), (2, .int w2), (3, .int w3), (4, .int w4)] [] S (some (.int res.1)) res.2 := by
  refine fx4_ind ?_
  intro rec ih w2 w3 w4 S res h
  unfold b_M_layVersion_12 at h
  refine x_iload d_M_layVersion_12 3 rfl ?_
  refine x_if_lt (tgt := 65) d_M_layVersion_14 rfl (fun c3 => ?_) (fun c3 => ?_)
  · replace h := ite_t c3 h
    refine x_iload_n d_M_layVersion_65 rfl 2 rfl ?_
    obtain rfl := Option.some.inj h
    exact x_ret (r := some (.int w3)) d_M_layVersion_66 ⟨_, rfl, rfl⟩
  · replace h := ite_f c3 h
    refine x_aload_n d_M_layVersion_17 rfl 0 rfl ?_
    refine y_getR d_M_layVersion_18 fl_11_111 rfl kd_78 rr_78_66 ?_
    refine x_iload d_M_layVersion_21 3 rfl ?_
    refine x_iload_n d_M_layVersion_23 rfl 1 rfl ?_
    refine x_iconst d_M_layVersion_24 ic_3 ?_
    refine x_irem d_M_layVersion_25 (by decide) ?_
    refine x_iconst d_M_layVersion_26 ic_1 ?_
    refine x_iadd d_M_layVersion_27 ?_
    refine x_iconst d_M_layVersion_28 ic_3 ?_
    refine x_irem d_M_layVersion_29 (by decide) ?_
    obtain ⟨g4, h⟩ := gd_inv h
    obtain ⟨S5, e6, h⟩ := lt_inv h
    refine y_iast e6 d_M_layVersion_30 kd_106 g4 ?_
    refine x_iload_n d_M_layVersion_31 rfl 1 rfl ?_
    refine x_iconst d_M_layVersion_32 ic_3 ?_
    refine x_idiv d_M_layVersion_33 (by decide) ?_
    obtain ⟨v7, e8, h⟩ := lt_inv h
    refine y_istore_n (L1 := [(0, .ref 78), (2, .int v7), (3, .int w3), (4, .int w4)]) e8 d_M_layVersion_34 rfl (Nat.le_of_ble_eq_true rfl) rfl rfl ?_
    refine x_iload_n d_M_layVersion_35 rfl 2 rfl ?_
    refine x_aload_n d_M_layVersion_36 rfl 0 rfl ?_
    refine y_getR d_M_layVersion_37 fl_11_111 rfl kd_78 rr_78_66 ?_
    refine x_iload d_M_layVersion_40 3 rfl ?_
    obtain ⟨g9, h⟩ := gd_inv h
    refine y_iald d_M_layVersion_42 kd_106 g9 ?_
    refine x_if_ne (tgt := 56) d_M_layVersion_43 rfl (fun c10 => ?_) (fun c10 => ?_)
    · replace h := ite_f c10 h
      refine x_iconst d_M_layVersion_56 ic_0 ?_
      refine x_iadd d_M_layVersion_57 ?_
      obtain ⟨v11, e12, h⟩ := lt_inv h
      refine y_istore_n (L1 := [(0, .ref 78), (2, .int v7), (3, .int v11), (4, .int w4)]) e12 d_M_layVersion_58 rfl (Nat.le_of_ble_eq_true rfl) rfl rfl ?_
      obtain ⟨v13, e14, h⟩ := lt_inv h
      refine y_iinc (L1 := [(0, .ref 78), (2, .int v7), (3, .int v11), (4, .int v13)]) e14 ic_m1 d_M_layVersion_59 3 rfl (Nat.le_of_ble_eq_true rfl) rfl rfl ?_
      refine x_goto (tgt := 12) d_M_layVersion_62 rfl ?_
      exact ih v7 v11 v13 S5 _ h
    · replace h := ite_t c10 h
      refine x_aload_n d_M_layVersion_46 rfl 0 rfl ?_
      refine y_getR d_M_layVersion_47 fl_11_114 rfl kd_78 rr_78_67 ?_
      refine x_iload d_M_layVersion_50 3 rfl ?_
      obtain ⟨g15, h⟩ := gd_inv h
      refine y_iald d_M_layVersion_52 kd_107 g15 ?_
      refine x_goto (tgt := 57) d_M_layVersion_53 rfl ?_
      refine x_iadd d_M_layVersion_57 ?_
      obtain ⟨v16, e17, h⟩ := lt_inv h
      refine y_istore_n (L1 := [(0, .ref 78), (2, .int v7), (3, .int v16), (4, .int w4)]) e17 d_M_layVersion_58 rfl (Nat.le_of_ble_eq_true rfl) rfl rfl ?_
      obtain ⟨v18, e19, h⟩ := lt_inv h
      refine y_iinc (L1 := [(0, .ref 78), (2, .int v7), (3, .int v16), (4, .int v18)]) e19 ic_m1 d_M_layVersion_59 3 rfl (Nat.le_of_ble_eq_true rfl) rfl rfl ?_
      refine x_goto (tgt := 12) d_M_layVersion_62 rfl ?_
      exact ih v7 v16 v18 S5 _ h
set_option maxRecDepth 100000 in
set_option maxHeartbeats 4000000 in
theorem c_M_layVersion {X : Nat × (Nat → Int32)} {D F G : Nat} (hD : 0 ≤ D) {S : St} {p1 : Int32} {res : Int32 × St} (h : fM_layVersion F G S p1 = some res) : Ek X (D) mM_layVersion 0 [(0, .ref 78), (1, .int p1)] [] S (some (.int res.1)) res.2 := by
  unfold fM_layVersion at h
  refine x_iload_n d_M_layVersion_0 rfl 1 rfl ?_
  refine x_istore_n (L1 := [(0, .ref 78), (1, .int p1), (2, .int p1)]) d_M_layVersion_1 rfl (Nat.le_of_ble_eq_true rfl) rfl rfl ?_
  refine x_iconst d_M_layVersion_2 ic_0 ?_
  refine x_istore_n (L1 := [(0, .ref 78), (1, .int p1), (2, .int p1), (3, .int (0 : Int32))]) d_M_layVersion_3 rfl (Nat.le_of_ble_eq_true rfl) rfl rfl ?_
  refine x_aload_n d_M_layVersion_4 rfl 0 rfl ?_
  refine y_getI d_M_layVersion_5 fl_11_322 rfl kd_78 ?_
  refine x_iconst d_M_layVersion_8 ic_1 ?_
  refine x_isub d_M_layVersion_9 ?_
  obtain ⟨v1, e2, h⟩ := lt_inv h
  refine y_istore (L1 := [(0, .ref 78), (1, .int p1), (2, .int p1), (3, .int (0 : Int32)), (4, .int v1)]) e2 d_M_layVersion_10 (Nat.le_of_ble_eq_true rfl) rfl rfl ?_
  refine y_pick (L1 := [(0, .ref 78), (2, .int p1), (3, .int (0 : Int32)), (4, .int v1)]) [0, 2, 3, 4] rfl ?_
  refine T_M_layVersion_12 (by omega)   F p1 (0 : Int32) v1 S _ h
/-! NinetyPlayersModel.rowOf -/
def j_M_rowOf_28 (F G : Nat) (S : St) (z1 : Int32) (rec : Int32 → Int32 → Option (Int32)) (_ : St) (y3 : Int32) (s0 : Int32) (s1 : Int32) : Option (Int32) :=
  bd (fM_truth F G S s1) fun v5 => lt (s0 ||| (v5 <<< (y3 &&& 31))) fun v6 => lt (y3 + 1) fun v8 => rec v6 v8
def b_M_rowOf_4 (F G : Nat) (S : St) (z1 : Int32) (rec : Int32 → Int32 → Option (Int32)) (w2 : Int32) (w3 : Int32) : Option (Int32) :=
  if (S.1 78 48) ≤ w3 then some w2 else gd (inB w3 10) (if (S.1 106 w3.toNatClampNeg) = z1 then j_M_rowOf_28 F G S z1 rec  S w3 w2 (1 : Int32) else j_M_rowOf_28 F G S z1 rec  S w3 w2 (0 : Int32))
def fM_rowOf (F G : Nat) (S : St) (p1 : Int32) : Option (Int32) :=
  fx2 (b_M_rowOf_4 F G S p1) F (0 : Int32) (0 : Int32)
set_option maxRecDepth 100000 in
set_option maxHeartbeats 4000000 in
theorem T_M_rowOf_4 {X : Nat × (Nat → Int32)} {D F G : Nat} (hD : 1 ≤ D + 1) {S : St} {z1 : Int32} : ∀ (f : Nat) (w2 : Int32) (w3 : Int32) (res : Int32), fx2 (b_M_rowOf_4 F G S z1 ) f w2 w3 = some res → Ek X (D + 1) mM_rowOf 4 [(0, .ref 78), (1, .int z1), (2, .int w2), (3, .int w3)] [] S (some (.int res)) S := by
  refine fx2_ind ?_
  intro rec ih w2 w3 res h
  unfold b_M_rowOf_4 at h
  have J28 : ∀ (y3 : Int32) (s0 : Int32) (s1 : Int32) (res : Int32), j_M_rowOf_28 F G S z1 rec S y3 s0 s1 = some res → Ek X (D + 1) mM_rowOf 28 [(0, .ref 78), (1, .int z1), (3, .int y3)] [.int s1, .int s0] S (some (.int res)) S := by
    intro y3 s0 s1 res h
    unfold j_M_rowOf_28 at h
    obtain ⟨v5, q4, h⟩ := bd_inv h
    refine y_S1i (v := v5) (S1 := S) d_M_rowOf_28 ml_11_318 (Nat.le_of_ble_eq_true rfl) (Nat.le_of_ble_eq_true rfl) (c_M_truth (by omega) q4) ?_
    refine x_iload_n d_M_rowOf_31 rfl 2 rfl ?_
    refine x_ishl d_M_rowOf_32 ?_
    refine x_ior d_M_rowOf_33 ?_
    obtain ⟨v6, e7, h⟩ := lt_inv h
    refine y_istore_n (L1 := [(0, .ref 78), (1, .int z1), (2, .int v6), (3, .int y3)]) e7 d_M_rowOf_34 rfl (Nat.le_of_ble_eq_true rfl) rfl rfl ?_
    obtain ⟨v8, e9, h⟩ := lt_inv h
    refine y_iinc (L1 := [(0, .ref 78), (1, .int z1), (2, .int v6), (3, .int v8)]) e9 ic_1 d_M_rowOf_35 3 rfl (Nat.le_of_ble_eq_true rfl) rfl rfl ?_
    refine x_goto (tgt := 4) d_M_rowOf_38 rfl ?_
    exact ih v6 v8 _ h
  refine x_iload_n d_M_rowOf_4 rfl 3 rfl ?_
  refine x_aload_n d_M_rowOf_5 rfl 0 rfl ?_
  refine y_getI d_M_rowOf_6 fl_11_322 rfl kd_78 ?_
  refine x_icmp_ge (tgt := 41) d_M_rowOf_9 rfl (fun c1 => ?_) (fun c1 => ?_)
  · replace h := ite_t c1 h
    refine x_iload_n d_M_rowOf_41 rfl 2 rfl ?_
    obtain rfl := Option.some.inj h
    exact x_ret (r := some (.int w2)) d_M_rowOf_42 ⟨_, rfl, rfl⟩
  · replace h := ite_f c1 h
    refine x_iload_n d_M_rowOf_12 rfl 2 rfl ?_
    refine x_aload_n d_M_rowOf_13 rfl 0 rfl ?_
    refine y_getR d_M_rowOf_14 fl_11_111 rfl kd_78 rr_78_66 ?_
    refine x_iload_n d_M_rowOf_17 rfl 3 rfl ?_
    obtain ⟨g2, h⟩ := gd_inv h
    refine y_iald d_M_rowOf_18 kd_106 g2 ?_
    refine x_iload_n d_M_rowOf_19 rfl 1 rfl ?_
    refine x_icmp_ne (tgt := 27) d_M_rowOf_20 rfl (fun c3 => ?_) (fun c3 => ?_)
    · replace h := ite_f c3 h
      refine x_iconst d_M_rowOf_27 ic_0 ?_
      refine y_pick (L1 := [(0, .ref 78), (1, .int z1), (3, .int w3)]) [0, 1, 3] rfl ?_
      exact J28 w3 w2 (0 : Int32) _ h
    · replace h := ite_t c3 h
      refine x_iconst d_M_rowOf_23 ic_1 ?_
      refine x_goto (tgt := 28) d_M_rowOf_24 rfl ?_
      refine y_pick (L1 := [(0, .ref 78), (1, .int z1), (3, .int w3)]) [0, 1, 3] rfl ?_
      exact J28 w3 w2 (1 : Int32) _ h
set_option maxRecDepth 100000 in
set_option maxHeartbeats 4000000 in
theorem c_M_rowOf {X : Nat × (Nat → Int32)} {D F G : Nat} (hD : 1 ≤ D) {S : St} {p1 : Int32} {res : Int32} (h : fM_rowOf F G S p1 = some res) : Ek X (D) mM_rowOf 0 [(0, .ref 78), (1, .int p1)] [] S (some (.int res)) S := by
  obtain ⟨D, rfl⟩ : ∃ E, D = E + 1 := ⟨D - 1, by omega⟩
  unfold fM_rowOf at h
  refine x_iconst d_M_rowOf_0 ic_0 ?_
  refine x_istore_n (L1 := [(0, .ref 78), (1, .int p1), (2, .int (0 : Int32))]) d_M_rowOf_1 rfl (Nat.le_of_ble_eq_true rfl) rfl rfl ?_
  refine x_iconst d_M_rowOf_2 ic_0 ?_
  refine x_istore_n (L1 := [(0, .ref 78), (1, .int p1), (2, .int (0 : Int32)), (3, .int (0 : Int32))]) d_M_rowOf_3 rfl (Nat.le_of_ble_eq_true rfl) rfl rfl ?_
  refine T_M_rowOf_4 (by omega)   F (0 : Int32) (0 : Int32) _ h
/-! NinetyPlayersModel.canBePlayed -/
def b_M_canBePlayed_6 (F G : Nat) (S : St) (z1 : Int32) (z2 : Int32) (z3 : Int32) (z4 : Int32) (rec : Int32 → Int32 → Option (Int32)) (w5 : Int32) (w6 : Int32) : Option (Int32) :=
  if (S.1 78 46) ≤ w6 then gd (isB w5) (some w5) else if w5 = 0 then gd (isB w5) (some w5) else bd (fM_clashBy F G S w6 z1 z2 z3 z4) fun v6 => if v6 = 0 then lt (w6 + 1) fun v10 => rec (1 : Int32) v10 else lt (w6 + 1) fun v8 => rec (0 : Int32) v8
def fM_canBePlayed (F G : Nat) (S : St) (p1 : Int32) (p2 : Int32) (p3 : Int32) (p4 : Int32) : Option (Int32) :=
  fx2 (b_M_canBePlayed_6 F G S p1 p2 p3 p4) F (1 : Int32) (0 : Int32)
set_option maxRecDepth 100000 in
set_option maxHeartbeats 4000000 in
theorem T_M_canBePlayed_6 {X : Nat × (Nat → Int32)} {D F G : Nat} (hD : 3 ≤ D + 1) {S : St} {z1 : Int32} {z2 : Int32} {z3 : Int32} {z4 : Int32} : ∀ (f : Nat) (w5 : Int32) (w6 : Int32) (res : Int32), fx2 (b_M_canBePlayed_6 F G S z1 z2 z3 z4 ) f w5 w6 = some res → Ek X (D + 1) mM_canBePlayed 6 [(0, .ref 78), (1, .int z1), (2, .int z2), (3, .int z3), (4, .int z4), (5, .int w5), (6, .int w6)] [] S (some (.int res)) S := by
  refine fx2_ind ?_
  intro rec ih w5 w6 res h
  unfold b_M_canBePlayed_6 at h
  refine x_iload d_M_canBePlayed_6 6 rfl ?_
  refine x_aload_n d_M_canBePlayed_8 rfl 0 rfl ?_
  refine y_getI d_M_canBePlayed_9 fl_11_78 rfl kd_78 ?_
  refine x_icmp_ge (tgt := 47) d_M_canBePlayed_12 rfl (fun c1 => ?_) (fun c1 => ?_)
  · replace h := ite_t c1 h
    refine x_iload d_M_canBePlayed_47 5 rfl ?_
    obtain ⟨g2, h⟩ := gd_inv h
    obtain rfl := Option.some.inj h
    exact x_ret (r := some (.int w5)) d_M_canBePlayed_49 ⟨_, rfl, isB_nar g2⟩
  · replace h := ite_f c1 h
    refine x_iload d_M_canBePlayed_15 5 rfl ?_
    refine x_if_eq (tgt := 47) d_M_canBePlayed_17 rfl (fun c3 => ?_) (fun c3 => ?_)
    · replace h := ite_t c3 h
      refine x_iload d_M_canBePlayed_47 5 rfl ?_
      obtain ⟨g4, h⟩ := gd_inv h
      obtain rfl := Option.some.inj h
      exact x_ret (r := some (.int w5)) d_M_canBePlayed_49 ⟨_, rfl, isB_nar g4⟩
    · replace h := ite_f c3 h
      refine x_aload_n d_M_canBePlayed_20 rfl 0 rfl ?_
      refine x_iload d_M_canBePlayed_21 6 rfl ?_
      refine x_iload_n d_M_canBePlayed_23 rfl 1 rfl ?_
      refine x_iload_n d_M_canBePlayed_24 rfl 2 rfl ?_
      refine x_iload_n d_M_canBePlayed_25 rfl 3 rfl ?_
      refine x_iload d_M_canBePlayed_26 4 rfl ?_
      obtain ⟨v6, q5, h⟩ := bd_inv h
      refine y_V5i (v := v6) (S1 := S) d_M_canBePlayed_28 ml_11_450 kd_78 rfl (Nat.le_of_ble_eq_true rfl) (Nat.le_of_ble_eq_true rfl) (c_M_clashBy (by omega) q5) ?_
      refine x_if_ne (tgt := 38) d_M_canBePlayed_31 rfl (fun c7 => ?_) (fun c7 => ?_)
      · replace h := ite_f c7 h
        refine x_iconst d_M_canBePlayed_38 ic_0 ?_
        refine x_istore (L1 := [(0, .ref 78), (1, .int z1), (2, .int z2), (3, .int z3), (4, .int z4), (5, .int (0 : Int32)), (6, .int w6)]) d_M_canBePlayed_39 (Nat.le_of_ble_eq_true rfl) rfl rfl ?_
        obtain ⟨v8, e9, h⟩ := lt_inv h
        refine y_iinc (L1 := [(0, .ref 78), (1, .int z1), (2, .int z2), (3, .int z3), (4, .int z4), (5, .int (0 : Int32)), (6, .int v8)]) e9 ic_1 d_M_canBePlayed_41 6 rfl (Nat.le_of_ble_eq_true rfl) rfl rfl ?_
        refine x_goto (tgt := 6) d_M_canBePlayed_44 rfl ?_
        exact ih (0 : Int32) v8 _ h
      · replace h := ite_t c7 h
        refine x_iconst d_M_canBePlayed_34 ic_1 ?_
        refine x_goto (tgt := 39) d_M_canBePlayed_35 rfl ?_
        refine x_istore (L1 := [(0, .ref 78), (1, .int z1), (2, .int z2), (3, .int z3), (4, .int z4), (5, .int (1 : Int32)), (6, .int w6)]) d_M_canBePlayed_39 (Nat.le_of_ble_eq_true rfl) rfl rfl ?_
        obtain ⟨v10, e11, h⟩ := lt_inv h
        refine y_iinc (L1 := [(0, .ref 78), (1, .int z1), (2, .int z2), (3, .int z3), (4, .int z4), (5, .int (1 : Int32)), (6, .int v10)]) e11 ic_1 d_M_canBePlayed_41 6 rfl (Nat.le_of_ble_eq_true rfl) rfl rfl ?_
        refine x_goto (tgt := 6) d_M_canBePlayed_44 rfl ?_
        exact ih (1 : Int32) v10 _ h
set_option maxRecDepth 100000 in
set_option maxHeartbeats 4000000 in
theorem c_M_canBePlayed {X : Nat × (Nat → Int32)} {D F G : Nat} (hD : 3 ≤ D) {S : St} {p1 : Int32} {p2 : Int32} {p3 : Int32} {p4 : Int32} {res : Int32} (h : fM_canBePlayed F G S p1 p2 p3 p4 = some res) : Ek X (D) mM_canBePlayed 0 [(0, .ref 78), (1, .int p1), (2, .int p2), (3, .int p3), (4, .int p4)] [] S (some (.int res)) S := by
  obtain ⟨D, rfl⟩ : ∃ E, D = E + 1 := ⟨D - 1, by omega⟩
  unfold fM_canBePlayed at h
  refine x_iconst d_M_canBePlayed_0 ic_1 ?_
  refine x_istore (L1 := [(0, .ref 78), (1, .int p1), (2, .int p2), (3, .int p3), (4, .int p4), (5, .int (1 : Int32))]) d_M_canBePlayed_1 (Nat.le_of_ble_eq_true rfl) rfl rfl ?_
  refine x_iconst d_M_canBePlayed_3 ic_0 ?_
  refine x_istore (L1 := [(0, .ref 78), (1, .int p1), (2, .int p2), (3, .int p3), (4, .int p4), (5, .int (1 : Int32)), (6, .int (0 : Int32))]) d_M_canBePlayed_4 (Nat.le_of_ble_eq_true rfl) rfl rfl ?_
  refine T_M_canBePlayed_6 (by omega)   F (1 : Int32) (0 : Int32) _ h
/-! NinetyPlayersModel.best -/
def b_M_best_70 (F G : Nat) (z1 : Int32) (z2 : Int32) (z3 : Int32) (z4 : Int32) (k99 : St → Option (Int32 × St)) (rec : Int32 → St → Option (Int32 × St)) (w6 : Int32) (S : St) : Option (Int32 × St) :=
  if (S.1 78 48) ≤ w6 then k99 S else gd (inB w6 10) (gd (inB w6 10) (lt (sI S 105 w6.toNatClampNeg (S.1 106 w6.toNatClampNeg)) fun S26 => lt (w6 + 1) fun v28 => rec v28 S26))
def b_M_best_15 (F G : Nat) (z1 : Int32) (z2 : Int32) (rec : Int32 → Int32 → St → Option (Int32 × St)) (w3 : Int32) (w4 : Int32) (S : St) : Option (Int32 × St) :=
  bd (fM_power F G S (3 : Int32) (S.1 78 48)) fun v6 => if v6 ≤ w4 then lt (sI S 78 68 (S.1 78 48)) fun S8 => some (w3, S8) else bd2 (fM_layVersion F G S w4) fun v11 S12 => if w3 ≤ v11 then lt (w4 + 1) fun v14 => rec w3 v14 S12 else bd (fM_rowOf F G S12 (1 : Int32)) fun v17 => bd (fM_rowOf F G S12 (2 : Int32)) fun v19 => bd (fM_canBePlayed F G S12 v17 v19 z1 z2) fun v21 => if v21 = 0 then lt (w4 + 1) fun v33 => rec w3 v33 S12 else fx2 (b_M_best_70 F G z1 z2 v11 w4 (fun S30 => lt (w4 + 1) fun v31 => rec v11 v31 S30)) F (0 : Int32) S12
def fM_best (F G : Nat) (S : St) (p1 : Int32) (p2 : Int32) : Option (Int32 × St) :=
  bd (fM_fill F G S ) fun S2 => bd (fM_layMissed F G S2 ) fun S4 => fx3 (b_M_best_15 F G p1 p2) F (1000000 : Int32) (0 : Int32) S4
set_option maxRecDepth 100000 in
set_option maxHeartbeats 4000000 in
theorem T_M_best_70 {X : Nat × (Nat → Int32)} {D F G : Nat} (hD : 4 ≤ D + 1) {z1 : Int32} {z2 : Int32} {z3 : Int32} {z4 : Int32} {k99 : St → Option (Int32 × St)} (hk99 : ∀ (S1 : St) (res : Int32 × St), k99 S1 = some res → Ek X (D + 1) mM_best 99 [(0, .ref 78), (1, .int z1), (2, .int z2), (3, .int z3), (4, .int z4)] [] S1 (some (.int res.1)) res.2) : ∀ (f : Nat) (w6 : Int32) (S : St) (res : Int32 × St), fx2 (b_M_best_70 F G z1 z2 z3 z4 k99 ) f w6 S = some res → Ek X (D + 1) mM_best 70 [(0, .ref 78), (1, .int z1), (2, .int z2), (3, .int z3), (4, .int z4), (6, .int w6)] [] S (some (.int res.1)) res.2 := by
  refine fx2_ind ?_
  intro rec ih w6 S res h
  unfold b_M_best_70 at h
  refine x_iload d_M_best_70 5 rfl ?_
  refine x_aload_n d_M_best_72 rfl 0 rfl ?_
  refine y_getI d_M_best_73 fl_11_322 rfl kd_78 ?_
  refine x_icmp_ge (tgt := 99) d_M_best_76 rfl (fun c23 => ?_) (fun c23 => ?_)
  · replace h := ite_t c23 h
    refine y_pick (L1 := [(0, .ref 78), (1, .int z1), (2, .int z2), (3, .int z3), (4, .int z4)]) [0, 1, 2, 3, 4] rfl ?_
    exact hk99 S _ h
  · replace h := ite_f c23 h
    refine x_aload_n d_M_best_79 rfl 0 rfl ?_
    refine y_getR d_M_best_80 fl_11_108 rfl kd_78 rr_78_65 ?_
    refine x_iload d_M_best_83 5 rfl ?_
    refine x_aload_n d_M_best_85 rfl 0 rfl ?_
    refine y_getR d_M_best_86 fl_11_111 rfl kd_78 rr_78_66 ?_
    refine x_iload d_M_best_89 5 rfl ?_
    obtain ⟨g24, h⟩ := gd_inv h
    refine y_iald d_M_best_91 kd_106 g24 ?_
    obtain ⟨g25, h⟩ := gd_inv h
    obtain ⟨S26, e27, h⟩ := lt_inv h
    refine y_iast e27 d_M_best_92 kd_105 g25 ?_
    obtain ⟨v28, e29, h⟩ := lt_inv h
    refine y_iinc (L1 := [(0, .ref 78), (1, .int z1), (2, .int z2), (3, .int z3), (4, .int z4), (6, .int v28)]) e29 ic_1 d_M_best_93 5 rfl (Nat.le_of_ble_eq_true rfl) rfl rfl ?_
    refine x_goto (tgt := 70) d_M_best_96 rfl ?_
    exact ih v28 S26 _ h
set_option maxRecDepth 100000 in
set_option maxHeartbeats 4000000 in
theorem T_M_best_15 {X : Nat × (Nat → Int32)} {D F G : Nat} (hD : 4 ≤ D + 1) {z1 : Int32} {z2 : Int32} : ∀ (f : Nat) (w3 : Int32) (w4 : Int32) (S : St) (res : Int32 × St), fx3 (b_M_best_15 F G z1 z2 ) f w3 w4 S = some res → Ek X (D + 1) mM_best 15 [(0, .ref 78), (1, .int z1), (2, .int z2), (3, .int w3), (4, .int w4)] [] S (some (.int res.1)) res.2 := by
  refine fx3_ind ?_
  intro rec ih w3 w4 S res h
  unfold b_M_best_15 at h
  refine x_iload d_M_best_15 4 rfl ?_
  refine x_iconst d_M_best_17 ic_3 ?_
  refine x_aload_n d_M_best_18 rfl 0 rfl ?_
  refine y_getI d_M_best_19 fl_11_322 rfl kd_78 ?_
  obtain ⟨v6, q5, h⟩ := bd_inv h
  refine y_S2i (v := v6) (S1 := S) d_M_best_22 ml_11_503 (Nat.le_of_ble_eq_true rfl) (Nat.le_of_ble_eq_true rfl) (c_M_power (by omega) q5) ?_
  refine x_icmp_ge (tgt := 105) d_M_best_25 rfl (fun c7 => ?_) (fun c7 => ?_)
  · replace h := ite_t c7 h
    refine x_aload_n d_M_best_105 rfl 0 rfl ?_
    refine x_aload_n d_M_best_106 rfl 0 rfl ?_
    refine y_getI d_M_best_107 fl_11_322 rfl kd_78 ?_
    obtain ⟨S8, e9, h⟩ := lt_inv h
    refine y_putI e9 d_M_best_110 fl_11_426 rfl rfl kd_78 rfl rfl ?_
    refine x_iload_n d_M_best_113 rfl 3 rfl ?_
    obtain rfl := Option.some.inj h
    exact x_ret (r := some (.int w3)) d_M_best_114 ⟨_, rfl, rfl⟩
  · replace h := ite_f c7 h
    refine x_aload_n d_M_best_28 rfl 0 rfl ?_
    refine x_iload d_M_best_29 4 rfl ?_
    obtain ⟨v11, S12, q10, h⟩ := bd2_inv h
    refine y_V1i (v := v11) (S1 := S12) d_M_best_31 ml_11_506 kd_78 rfl (Nat.le_of_ble_eq_true rfl) (Nat.le_of_ble_eq_true rfl) (c_M_layVersion (by omega) q10) ?_
    refine x_istore (L1 := [(0, .ref 78), (1, .int z1), (2, .int z2), (3, .int w3), (4, .int w4), (5, .int v11)]) d_M_best_34 (Nat.le_of_ble_eq_true rfl) rfl rfl ?_
    refine x_iload d_M_best_36 5 rfl ?_
    refine x_iload_n d_M_best_38 rfl 3 rfl ?_
    refine x_icmp_ge (tgt := 99) d_M_best_39 rfl (fun c13 => ?_) (fun c13 => ?_)
    · replace h := ite_t c13 h
      obtain ⟨v14, e15, h⟩ := lt_inv h
      refine y_iinc (L1 := [(0, .ref 78), (1, .int z1), (2, .int z2), (3, .int w3), (4, .int v14), (5, .int v11)]) e15 ic_1 d_M_best_99 4 rfl (Nat.le_of_ble_eq_true rfl) rfl rfl ?_
      refine x_goto (tgt := 15) d_M_best_102 rfl ?_
      refine y_pick (L1 := [(0, .ref 78), (1, .int z1), (2, .int z2), (3, .int w3), (4, .int v14)]) [0, 1, 2, 3, 4] rfl ?_
      exact ih w3 v14 S12 _ h
    · replace h := ite_f c13 h
      refine x_aload_n d_M_best_42 rfl 0 rfl ?_
      refine x_aload_n d_M_best_43 rfl 0 rfl ?_
      refine x_iconst d_M_best_44 ic_1 ?_
      obtain ⟨v17, q16, h⟩ := bd_inv h
      refine y_V1i (v := v17) (S1 := S12) d_M_best_45 ml_11_509 kd_78 rfl (Nat.le_of_ble_eq_true rfl) (Nat.le_of_ble_eq_true rfl) (c_M_rowOf (by omega) q16) ?_
      refine x_aload_n d_M_best_48 rfl 0 rfl ?_
      refine x_iconst d_M_best_49 ic_2 ?_
      obtain ⟨v19, q18, h⟩ := bd_inv h
      refine y_V1i (v := v19) (S1 := S12) d_M_best_50 ml_11_509 kd_78 rfl (Nat.le_of_ble_eq_true rfl) (Nat.le_of_ble_eq_true rfl) (c_M_rowOf (by omega) q18) ?_
      refine x_iload_n d_M_best_53 rfl 1 rfl ?_
      refine x_iload_n d_M_best_54 rfl 2 rfl ?_
      obtain ⟨v21, q20, h⟩ := bd_inv h
      refine y_V4i (v := v21) (S1 := S12) d_M_best_55 ml_11_457 kd_78 rfl (Nat.le_of_ble_eq_true rfl) (Nat.le_of_ble_eq_true rfl) (c_M_canBePlayed (by omega) q20) ?_
      refine x_if_ne (tgt := 64) d_M_best_58 rfl (fun c22 => ?_) (fun c22 => ?_)
      · replace h := ite_f c22 h
        refine x_iload d_M_best_64 5 rfl ?_
        refine x_istore_n (L1 := [(0, .ref 78), (1, .int z1), (2, .int z2), (3, .int v11), (4, .int w4), (5, .int v11)]) d_M_best_66 rfl (Nat.le_of_ble_eq_true rfl) rfl rfl ?_
        refine x_iconst d_M_best_67 ic_0 ?_
        refine x_istore (L1 := [(0, .ref 78), (1, .int z1), (2, .int z2), (3, .int v11), (4, .int w4), (5, .int v11), (6, .int (0 : Int32))]) d_M_best_68 (Nat.le_of_ble_eq_true rfl) rfl rfl ?_
        refine y_pick (L1 := [(0, .ref 78), (1, .int z1), (2, .int z2), (3, .int v11), (4, .int w4), (6, .int (0 : Int32))]) [0, 1, 2, 3, 4, 6] rfl ?_
        refine T_M_best_70 (by omega)  ?_ F (0 : Int32) S12 _ h
        · intro S30 res h
          obtain ⟨v31, e32, h⟩ := lt_inv h
          refine y_iinc (L1 := [(0, .ref 78), (1, .int z1), (2, .int z2), (3, .int v11), (4, .int v31)]) e32 ic_1 d_M_best_99 4 rfl (Nat.le_of_ble_eq_true rfl) rfl rfl ?_
          refine x_goto (tgt := 15) d_M_best_102 rfl ?_
          exact ih v11 v31 S30 _ h
      · replace h := ite_t c22 h
        refine x_goto (tgt := 99) d_M_best_61 rfl ?_
        obtain ⟨v33, e34, h⟩ := lt_inv h
        refine y_iinc (L1 := [(0, .ref 78), (1, .int z1), (2, .int z2), (3, .int w3), (4, .int v33), (5, .int v11)]) e34 ic_1 d_M_best_99 4 rfl (Nat.le_of_ble_eq_true rfl) rfl rfl ?_
        refine x_goto (tgt := 15) d_M_best_102 rfl ?_
        refine y_pick (L1 := [(0, .ref 78), (1, .int z1), (2, .int z2), (3, .int w3), (4, .int v33)]) [0, 1, 2, 3, 4] rfl ?_
        exact ih w3 v33 S12 _ h
set_option maxRecDepth 100000 in
set_option maxHeartbeats 4000000 in
theorem c_M_best {X : Nat × (Nat → Int32)} {D F G : Nat} (hD : 4 ≤ D) {S : St} {p1 : Int32} {p2 : Int32} {res : Int32 × St} (h : fM_best F G S p1 p2 = some res) : Ek X (D) mM_best 0 [(0, .ref 78), (1, .int p1), (2, .int p2)] [] S (some (.int res.1)) res.2 := by
  obtain ⟨D, rfl⟩ : ∃ E, D = E + 1 := ⟨D - 1, by omega⟩
  unfold fM_best at h
  refine x_aload_n d_M_best_0 rfl 0 rfl ?_
  obtain ⟨S2, q1, h⟩ := bd_inv h
  refine y_V0v (S1 := S2) d_M_best_1 ml_11_464 kd_78 rfl (Nat.le_of_ble_eq_true rfl) (Nat.le_of_ble_eq_true rfl) (c_M_fill (by omega) q1) ?_
  refine x_aload_n d_M_best_4 rfl 0 rfl ?_
  obtain ⟨S4, q3, h⟩ := bd_inv h
  refine y_V0v (S1 := S4) d_M_best_5 ml_11_497 kd_78 rfl (Nat.le_of_ble_eq_true rfl) (Nat.le_of_ble_eq_true rfl) (c_M_layMissed (by omega) q3) ?_
  refine x_ldcw d_M_best_8 kc_11_436 ?_
  refine x_istore_n (L1 := [(0, .ref 78), (1, .int p1), (2, .int p2), (3, .int (1000000 : Int32))]) d_M_best_11 rfl (Nat.le_of_ble_eq_true rfl) rfl rfl ?_
  refine x_iconst d_M_best_12 ic_0 ?_
  refine x_istore (L1 := [(0, .ref 78), (1, .int p1), (2, .int p2), (3, .int (1000000 : Int32)), (4, .int (0 : Int32))]) d_M_best_13 (Nat.le_of_ble_eq_true rfl) rfl rfl ?_
  refine T_M_best_15 (by omega)   F (1000000 : Int32) (0 : Int32) S4 _ h
/-! NinetyPlayersModel.version -/
def b_M_version_35 (F G : Nat) (S : St) (rec : Int32 → Int32 → Option (Int32 × St)) (w3 : Int32) (w4 : Int32) : Option (Int32 × St) :=
  if (S.1 78 48) ≤ w4 then some (w3, S) else gd (inB w4 10) (if (S.1 105 w4.toNatClampNeg) ≤ 0 then bd (fM_truth F G S (0 : Int32)) fun v12 => lt (w3 + v12) fun v13 => lt (w4 + 1) fun v15 => rec v13 v15 else bd (fM_truth F G S (1 : Int32)) fun v18 => lt (w3 + v18) fun v19 => lt (w4 + 1) fun v21 => rec v19 v21)
def fM_version (F G : Nat) (S : St) (p1 : Int32) : Option (Int32 × St) :=
  bd (fM_isIn F G S p1 (0 : Int32) (1 : Int32)) fun v2 => if v2 = 0 then some ((-1 : Int32), S) else bd2 (fM_best F G S (S.1 78 50) (S.1 78 49)) fun v5 S6 => if p1 = 0 then some (v5, S6) else fx2 (b_M_version_35 F G S6) F (0 : Int32) (0 : Int32)
set_option maxRecDepth 100000 in
set_option maxHeartbeats 4000000 in
theorem T_M_version_35 {X : Nat × (Nat → Int32)} {D F G : Nat} (hD : 5 ≤ D + 1) {S : St} : ∀ (f : Nat) (w3 : Int32) (w4 : Int32) (res : Int32 × St), fx2 (b_M_version_35 F G S ) f w3 w4 = some res → Ek X (D + 1) mM_version 35 [(0, .ref 78), (3, .int w3), (4, .int w4)] [] S (some (.int res.1)) res.2 := by
  refine fx2_ind ?_
  intro rec ih w3 w4 res h
  unfold b_M_version_35 at h
  refine x_iload d_M_version_35 2 rfl ?_
  refine x_aload_n d_M_version_37 rfl 0 rfl ?_
  refine y_getI d_M_version_38 fl_11_322 rfl kd_78 ?_
  refine x_icmp_ge (tgt := 71) d_M_version_41 rfl (fun c8 => ?_) (fun c8 => ?_)
  · replace h := ite_t c8 h
    refine x_iload_n d_M_version_71 rfl 1 rfl ?_
    obtain rfl := Option.some.inj h
    exact x_ret (r := some (.int w3)) d_M_version_72 ⟨_, rfl, rfl⟩
  · replace h := ite_f c8 h
    refine x_iload_n d_M_version_44 rfl 1 rfl ?_
    refine x_aload_n d_M_version_45 rfl 0 rfl ?_
    refine y_getR d_M_version_46 fl_11_108 rfl kd_78 rr_78_65 ?_
    refine x_iload d_M_version_49 2 rfl ?_
    obtain ⟨g9, h⟩ := gd_inv h
    refine y_iald d_M_version_51 kd_105 g9 ?_
    refine x_if_le (tgt := 59) d_M_version_52 rfl (fun c10 => ?_) (fun c10 => ?_)
    · replace h := ite_t c10 h
      refine x_iconst d_M_version_59 ic_0 ?_
      obtain ⟨v12, q11, h⟩ := bd_inv h
      refine y_S1i (v := v12) (S1 := S) d_M_version_60 ml_11_318 (Nat.le_of_ble_eq_true rfl) (Nat.le_of_ble_eq_true rfl) (c_M_truth (by omega) q11) ?_
      refine x_iadd d_M_version_63 ?_
      obtain ⟨v13, e14, h⟩ := lt_inv h
      refine y_istore_n (L1 := [(0, .ref 78), (3, .int v13), (4, .int w4)]) e14 d_M_version_64 rfl (Nat.le_of_ble_eq_true rfl) rfl rfl ?_
      obtain ⟨v15, e16, h⟩ := lt_inv h
      refine y_iinc (L1 := [(0, .ref 78), (3, .int v13), (4, .int v15)]) e16 ic_1 d_M_version_65 2 rfl (Nat.le_of_ble_eq_true rfl) rfl rfl ?_
      refine x_goto (tgt := 35) d_M_version_68 rfl ?_
      exact ih v13 v15 _ h
    · replace h := ite_f c10 h
      refine x_iconst d_M_version_55 ic_1 ?_
      refine x_goto (tgt := 60) d_M_version_56 rfl ?_
      obtain ⟨v18, q17, h⟩ := bd_inv h
      refine y_S1i (v := v18) (S1 := S) d_M_version_60 ml_11_318 (Nat.le_of_ble_eq_true rfl) (Nat.le_of_ble_eq_true rfl) (c_M_truth (by omega) q17) ?_
      refine x_iadd d_M_version_63 ?_
      obtain ⟨v19, e20, h⟩ := lt_inv h
      refine y_istore_n (L1 := [(0, .ref 78), (3, .int v19), (4, .int w4)]) e20 d_M_version_64 rfl (Nat.le_of_ble_eq_true rfl) rfl rfl ?_
      obtain ⟨v21, e22, h⟩ := lt_inv h
      refine y_iinc (L1 := [(0, .ref 78), (3, .int v19), (4, .int v21)]) e22 ic_1 d_M_version_65 2 rfl (Nat.le_of_ble_eq_true rfl) rfl rfl ?_
      refine x_goto (tgt := 35) d_M_version_68 rfl ?_
      exact ih v19 v21 _ h
set_option maxRecDepth 100000 in
set_option maxHeartbeats 4000000 in
theorem c_M_version {X : Nat × (Nat → Int32)} {D F G : Nat} (hD : 5 ≤ D) {S : St} {p1 : Int32} {res : Int32 × St} (h : fM_version F G S p1 = some res) : Ek X (D) mM_version 0 [(0, .ref 78), (1, .int p1)] [] S (some (.int res.1)) res.2 := by
  obtain ⟨D, rfl⟩ : ∃ E, D = E + 1 := ⟨D - 1, by omega⟩
  unfold fM_version at h
  refine x_iload_n d_M_version_0 rfl 1 rfl ?_
  refine x_iconst d_M_version_1 ic_0 ?_
  refine x_iconst d_M_version_2 ic_1 ?_
  obtain ⟨v2, q1, h⟩ := bd_inv h
  refine y_S3i (v := v2) (S1 := S) d_M_version_3 ml_11_429 (Nat.le_of_ble_eq_true rfl) (Nat.le_of_ble_eq_true rfl) (c_M_isIn (by omega) q1) ?_
  refine x_if_ne (tgt := 11) d_M_version_6 rfl (fun c3 => ?_) (fun c3 => ?_)
  · replace h := ite_f c3 h
    refine x_aload_n d_M_version_11 rfl 0 rfl ?_
    refine x_aload_n d_M_version_12 rfl 0 rfl ?_
    refine y_getI d_M_version_13 fl_11_84 rfl kd_78 ?_
    refine x_aload_n d_M_version_16 rfl 0 rfl ?_
    refine y_getI d_M_version_17 fl_11_81 rfl kd_78 ?_
    obtain ⟨v5, S6, q4, h⟩ := bd2_inv h
    refine y_V2i (v := v5) (S1 := S6) d_M_version_20 ml_11_512 kd_78 rfl (Nat.le_of_ble_eq_true rfl) (Nat.le_of_ble_eq_true rfl) (c_M_best (by omega) q4) ?_
    refine x_istore_n (L1 := [(0, .ref 78), (1, .int p1), (2, .int v5)]) d_M_version_23 rfl (Nat.le_of_ble_eq_true rfl) rfl rfl ?_
    refine x_iload_n d_M_version_24 rfl 1 rfl ?_
    refine x_if_ne (tgt := 30) d_M_version_25 rfl (fun c7 => ?_) (fun c7 => ?_)
    · replace h := ite_f c7 h
      refine x_iconst d_M_version_30 ic_0 ?_
      refine x_istore_n (L1 := [(0, .ref 78), (1, .int p1), (2, .int v5), (3, .int (0 : Int32))]) d_M_version_31 rfl (Nat.le_of_ble_eq_true rfl) rfl rfl ?_
      refine x_iconst d_M_version_32 ic_0 ?_
      refine x_istore (L1 := [(0, .ref 78), (1, .int p1), (2, .int v5), (3, .int (0 : Int32)), (4, .int (0 : Int32))]) d_M_version_33 (Nat.le_of_ble_eq_true rfl) rfl rfl ?_
      refine y_pick (L1 := [(0, .ref 78), (3, .int (0 : Int32)), (4, .int (0 : Int32))]) [0, 3, 4] rfl ?_
      refine T_M_version_35 (by omega)   F (0 : Int32) (0 : Int32) _ h
    · replace h := ite_t c7 h
      refine x_iload_n d_M_version_28 rfl 2 rfl ?_
      obtain rfl := Option.some.inj h
      exact x_ret (r := some (.int v5)) d_M_version_29 ⟨_, rfl, rfl⟩
  · replace h := ite_t c3 h
    refine x_iconst d_M_version_9 ic_m1 ?_
    obtain rfl := Option.some.inj h
    exact x_ret (r := some (.int (-1 : Int32))) d_M_version_10 ⟨_, rfl, rfl⟩
/-! NinetyPlayers.child -/
def fN_child (F G : Nat) (S : St) (p1 : Int32) (p2 : Int32) : Option (Int32 × St) :=
  if p1 < (1 : Int32) then lt (sI S 0 12 (0 : Int32)) fun S2 => some ((-1 : Int32), S2) else if (5 : Int32) < p1 then lt (sI S 0 12 (0 : Int32)) fun S5 => some ((-1 : Int32), S5) else bd (fN_isKey F G S p2) fun v8 => if v8 = 0 then lt (sI S 0 12 (0 : Int32)) fun S12 => some ((-1 : Int32), S12) else bd (fN_layLeastMissed F G S p1 p2) fun S11 => some (S11.1 56 2, S11)
set_option maxRecDepth 100000 in
set_option maxHeartbeats 4000000 in
theorem c_N_child {X : Nat × (Nat → Int32)} {D F G : Nat} (hD : 6 + G ≤ D) {S : St} {p1 : Int32} {p2 : Int32} {res : Int32 × St} (h : fN_child F G S p1 p2 = some res) : Ek X (D) mN_child 0 [(0, .ref 0), (1, .int p1), (2, .int p2)] [] S (some (.int res.1)) res.2 := by
  obtain ⟨D, rfl⟩ : ∃ E, D = E + 1 := ⟨D - 1, by omega⟩
  unfold fN_child at h
  refine x_iload_n d_N_child_0 rfl 1 rfl ?_
  refine x_iconst d_N_child_1 ic_1 ?_
  refine x_icmp_lt (tgt := 17) d_N_child_2 rfl (fun c1 => ?_) (fun c1 => ?_)
  · replace h := ite_t c1 h
    refine x_aload_n d_N_child_17 rfl 0 rfl ?_
    refine x_iconst d_N_child_18 ic_0 ?_
    obtain ⟨S2, e3, h⟩ := lt_inv h
    refine y_putI e3 d_N_child_19 fl_0_115 rfl rfl kd_0 rfl rfl ?_
    refine x_iconst d_N_child_22 ic_m1 ?_
    obtain rfl := Option.some.inj h
    exact x_ret (r := some (.int (-1 : Int32))) d_N_child_23 ⟨_, rfl, rfl⟩
  · replace h := ite_f c1 h
    refine x_iload_n d_N_child_5 rfl 1 rfl ?_
    refine x_iconst d_N_child_6 ic_5 ?_
    refine x_icmp_gt (tgt := 17) d_N_child_7 rfl (fun c4 => ?_) (fun c4 => ?_)
    · replace h := ite_t c4 h
      refine x_aload_n d_N_child_17 rfl 0 rfl ?_
      refine x_iconst d_N_child_18 ic_0 ?_
      obtain ⟨S5, e6, h⟩ := lt_inv h
      refine y_putI e6 d_N_child_19 fl_0_115 rfl rfl kd_0 rfl rfl ?_
      refine x_iconst d_N_child_22 ic_m1 ?_
      obtain rfl := Option.some.inj h
      exact x_ret (r := some (.int (-1 : Int32))) d_N_child_23 ⟨_, rfl, rfl⟩
    · replace h := ite_f c4 h
      refine x_iload_n d_N_child_10 rfl 2 rfl ?_
      obtain ⟨v8, q7, h⟩ := bd_inv h
      refine y_S1i (v := v8) (S1 := S) d_N_child_11 ml_0_244 (Nat.le_of_ble_eq_true rfl) (Nat.le_of_ble_eq_true rfl) (c_N_isKey (by omega) q7) ?_
      refine x_if_ne (tgt := 24) d_N_child_14 rfl (fun c9 => ?_) (fun c9 => ?_)
      · replace h := ite_f c9 h
        refine x_aload_n d_N_child_24 rfl 0 rfl ?_
        refine x_iload_n d_N_child_25 rfl 1 rfl ?_
        refine x_iload_n d_N_child_26 rfl 2 rfl ?_
        obtain ⟨S11, q10, h⟩ := bd_inv h
        refine y_V2v (S1 := S11) d_N_child_27 ml_0_266 kd_0 rfl (Nat.le_of_ble_eq_true rfl) (Nat.le_of_ble_eq_true rfl) (c_N_layLeastMissed (by omega) q10) ?_
        refine x_aload_n d_N_child_30 rfl 0 rfl ?_
        refine y_getR d_N_child_31 fl_0_49 rfl kd_0 rr_0_6 ?_
        refine y_getI d_N_child_34 fl_0_270 rfl kd_56 ?_
        obtain rfl := Option.some.inj h
        exact x_ret (r := some (.int (S11.1 56 2))) d_N_child_37 ⟨_, rfl, rfl⟩
      · replace h := ite_t c9 h
        refine x_aload_n d_N_child_17 rfl 0 rfl ?_
        refine x_iconst d_N_child_18 ic_0 ?_
        obtain ⟨S12, e13, h⟩ := lt_inv h
        refine y_putI e13 d_N_child_19 fl_0_115 rfl rfl kd_0 rfl rfl ?_
        refine x_iconst d_N_child_22 ic_m1 ?_
        obtain rfl := Option.some.inj h
        exact x_ret (r := some (.int (-1 : Int32))) d_N_child_23 ⟨_, rfl, rfl⟩
/-! NinetyPlayersModel.child -/
def fM_child (F G : Nat) (S : St) (p1 : Int32) (p2 : Int32) : Option (Int32 × St) :=
  lt (sI S 78 68 (0 : Int32)) fun S1 => bd (fM_isIn F G S1 p1 (1 : Int32) (5 : Int32)) fun v4 => if v4 = 0 then some ((-1 : Int32), S1) else bd (fM_isIn F G S1 p2 (0 : Int32) (87 : Int32)) fun v7 => if v7 = 0 then some ((-1 : Int32), S1) else bd2 (fM_best F G S1 p1 p2) fun v10 S11 => some (v10, S11)
set_option maxRecDepth 100000 in
set_option maxHeartbeats 4000000 in
theorem c_M_child {X : Nat × (Nat → Int32)} {D F G : Nat} (hD : 5 ≤ D) {S : St} {p1 : Int32} {p2 : Int32} {res : Int32 × St} (h : fM_child F G S p1 p2 = some res) : Ek X (D) mM_child 0 [(0, .ref 78), (1, .int p1), (2, .int p2)] [] S (some (.int res.1)) res.2 := by
  obtain ⟨D, rfl⟩ : ∃ E, D = E + 1 := ⟨D - 1, by omega⟩
  unfold fM_child at h
  refine x_aload_n d_M_child_0 rfl 0 rfl ?_
  refine x_iconst d_M_child_1 ic_0 ?_
  obtain ⟨S1, e2, h⟩ := lt_inv h
  refine y_putI e2 d_M_child_2 fl_11_426 rfl rfl kd_78 rfl rfl ?_
  refine x_iload_n d_M_child_5 rfl 1 rfl ?_
  refine x_iconst d_M_child_6 ic_1 ?_
  refine x_iconst d_M_child_7 ic_5 ?_
  obtain ⟨v4, q3, h⟩ := bd_inv h
  refine y_S3i (v := v4) (S1 := S1) d_M_child_8 ml_11_429 (Nat.le_of_ble_eq_true rfl) (Nat.le_of_ble_eq_true rfl) (c_M_isIn (by omega) q3) ?_
  refine x_if_eq (tgt := 33) d_M_child_11 rfl (fun c5 => ?_) (fun c5 => ?_)
  · replace h := ite_t c5 h
    refine x_iconst d_M_child_33 ic_m1 ?_
    obtain rfl := Option.some.inj h
    exact x_ret (r := some (.int (-1 : Int32))) d_M_child_34 ⟨_, rfl, rfl⟩
  · replace h := ite_f c5 h
    refine x_iload_n d_M_child_14 rfl 2 rfl ?_
    refine x_iconst d_M_child_15 ic_0 ?_
    refine x_bipush d_M_child_16 bp_87 ?_
    obtain ⟨v7, q6, h⟩ := bd_inv h
    refine y_S3i (v := v7) (S1 := S1) d_M_child_18 ml_11_429 (Nat.le_of_ble_eq_true rfl) (Nat.le_of_ble_eq_true rfl) (c_M_isIn (by omega) q6) ?_
    refine x_if_eq (tgt := 33) d_M_child_21 rfl (fun c8 => ?_) (fun c8 => ?_)
    · replace h := ite_t c8 h
      refine x_iconst d_M_child_33 ic_m1 ?_
      obtain rfl := Option.some.inj h
      exact x_ret (r := some (.int (-1 : Int32))) d_M_child_34 ⟨_, rfl, rfl⟩
    · replace h := ite_f c8 h
      refine x_aload_n d_M_child_24 rfl 0 rfl ?_
      refine x_iload_n d_M_child_25 rfl 1 rfl ?_
      refine x_iload_n d_M_child_26 rfl 2 rfl ?_
      obtain ⟨v10, S11, q9, h⟩ := bd2_inv h
      refine y_V2i (v := v10) (S1 := S11) d_M_child_27 ml_11_512 kd_78 rfl (Nat.le_of_ble_eq_true rfl) (Nat.le_of_ble_eq_true rfl) (c_M_best (by omega) q9) ?_
      refine x_goto (tgt := 34) d_M_child_30 rfl ?_
      obtain rfl := Option.some.inj h
      exact x_ret (r := some (.int v10)) d_M_child_34 ⟨_, rfl, rfl⟩
/-! NinetyPlayers.isLeftOut -/
def fN_isLeftOut (F G : Nat) (S : St) (p1 : Int32) : Option (Int32) :=
  bd (fN_isNote F G S p1) fun v2 => if v2 = 0 then some (0 : Int32) else gd (inB p1 10) (if (S.1 31 p1.toNatClampNeg) = 0 then some (1 : Int32) else some (0 : Int32))
set_option maxRecDepth 100000 in
set_option maxHeartbeats 4000000 in
theorem c_N_isLeftOut {X : Nat × (Nat → Int32)} {D F G : Nat} (hD : 1 ≤ D) {S : St} {p1 : Int32} {res : Int32} (h : fN_isLeftOut F G S p1 = some res) : Ek X (D) mN_isLeftOut 0 [(0, .ref 0), (1, .int p1)] [] S (some (.int res)) S := by
  obtain ⟨D, rfl⟩ : ∃ E, D = E + 1 := ⟨D - 1, by omega⟩
  unfold fN_isLeftOut at h
  refine x_aload_n d_N_isLeftOut_0 rfl 0 rfl ?_
  refine x_iload_n d_N_isLeftOut_1 rfl 1 rfl ?_
  obtain ⟨v2, q1, h⟩ := bd_inv h
  refine y_V1i (v := v2) (S1 := S) d_N_isLeftOut_2 ml_0_128 kd_0 rfl (Nat.le_of_ble_eq_true rfl) (Nat.le_of_ble_eq_true rfl) (c_N_isNote (by omega) q1) ?_
  refine x_if_eq (tgt := 24) d_N_isLeftOut_5 rfl (fun c3 => ?_) (fun c3 => ?_)
  · replace h := ite_t c3 h
    refine x_iconst d_N_isLeftOut_24 ic_0 ?_
    obtain rfl := Option.some.inj h
    exact x_ret (r := some (.int (0 : Int32))) d_N_isLeftOut_25 ⟨_, rfl, rfl⟩
  · replace h := ite_f c3 h
    refine x_aload_n d_N_isLeftOut_8 rfl 0 rfl ?_
    refine y_getR d_N_isLeftOut_9 fl_0_31 rfl kd_0 rr_0_3 ?_
    refine y_getR d_N_isLeftOut_12 fl_0_147 rfl kd_30 rr_30_2 ?_
    refine x_iload_n d_N_isLeftOut_15 rfl 1 rfl ?_
    obtain ⟨g4, h⟩ := gd_inv h
    refine y_iald d_N_isLeftOut_16 kd_31 g4 ?_
    refine x_if_ne (tgt := 24) d_N_isLeftOut_17 rfl (fun c5 => ?_) (fun c5 => ?_)
    · replace h := ite_f c5 h
      refine x_iconst d_N_isLeftOut_24 ic_0 ?_
      obtain rfl := Option.some.inj h
      exact x_ret (r := some (.int (0 : Int32))) d_N_isLeftOut_25 ⟨_, rfl, rfl⟩
    · replace h := ite_t c5 h
      refine x_iconst d_N_isLeftOut_20 ic_1 ?_
      refine x_goto (tgt := 25) d_N_isLeftOut_21 rfl ?_
      obtain rfl := Option.some.inj h
      exact x_ret (r := some (.int (1 : Int32))) d_N_isLeftOut_25 ⟨_, rfl, rfl⟩
/-! NinetyPlayers$Keyboard.newClashesWith -/
def b_K_newClashesWith_49 (F G : Nat) (S : St) (z3 : Int32) (z4 : Int32) (rec : Int32 → Int32 → Option (Int32)) (w5 : Int32) (w6 : Int32) : Option (Int32) :=
  if (S.1 57 0) ≤ w6 then some w5 else bd (fK_clashesAt F G S z3 z4 w6) fun v7 => bd (fK_clashesAt F G S (S.1 57 5) (S.1 57 6) w6) fun v9 => lt (w5 ||| (v7 &&& (v9 ^^^ (-1 : Int32)))) fun v10 => lt (w6 + 1) fun v12 => rec v10 v12
def j_K_newClashesWith_20 (F G : Nat) (S : St) (y1 : Int32) (y2 : Int32) (s0 : Int32) : Option (Int32) :=
  if y2 = (2 : Int32) then lt ((S.1 57 6) ||| ((1 : Int32) <<< (y1 &&& 31))) fun v14 => fx2 (b_K_newClashesWith_49 F G S s0 v14) F (0 : Int32) (0 : Int32) else lt (S.1 57 6) fun v3 => fx2 (b_K_newClashesWith_49 F G S s0 v3) F (0 : Int32) (0 : Int32)
def fK_newClashesWith (F G : Nat) (S : St) (p1 : Int32) (p2 : Int32) : Option (Int32) :=
  if p2 = (1 : Int32) then j_K_newClashesWith_20 F G  S p1 p2 ((S.1 57 5) ||| ((1 : Int32) <<< (p1 &&& 31))) else j_K_newClashesWith_20 F G  S p1 p2 (S.1 57 5)
set_option maxRecDepth 100000 in
set_option maxHeartbeats 4000000 in
theorem T_K_newClashesWith_49 {X : Nat × (Nat → Int32)} {D F G : Nat} (hD : 4 ≤ D + 1) {S : St} {z3 : Int32} {z4 : Int32} : ∀ (f : Nat) (w5 : Int32) (w6 : Int32) (res : Int32), fx2 (b_K_newClashesWith_49 F G S z3 z4 ) f w5 w6 = some res → Ek X (D + 1) mK_newClashesWith 49 [(0, .ref 57), (3, .int z3), (4, .int z4), (5, .int w5), (6, .int w6)] [] S (some (.int res)) S := by
  refine fx2_ind ?_
  intro rec ih w5 w6 res h
  unfold b_K_newClashesWith_49 at h
  refine x_iload d_K_newClashesWith_49 4 rfl ?_
  refine x_aload_n d_K_newClashesWith_51 rfl 0 rfl ?_
  refine y_getI d_K_newClashesWith_52 fl_7_30 rfl kd_57 ?_
  refine x_icmp_ge (tgt := 95) d_K_newClashesWith_55 rfl (fun c5 => ?_) (fun c5 => ?_)
  · replace h := ite_t c5 h
    refine x_iload d_K_newClashesWith_95 3 rfl ?_
    obtain rfl := Option.some.inj h
    exact x_ret (r := some (.int w5)) d_K_newClashesWith_97 ⟨_, rfl, rfl⟩
  · replace h := ite_f c5 h
    refine x_iload d_K_newClashesWith_58 3 rfl ?_
    refine x_aload_n d_K_newClashesWith_60 rfl 0 rfl ?_
    refine x_iload_n d_K_newClashesWith_61 rfl 1 rfl ?_
    refine x_iload d_K_newClashesWith_62 2 rfl ?_
    refine x_iload d_K_newClashesWith_64 4 rfl ?_
    obtain ⟨v7, q6, h⟩ := bd_inv h
    refine y_V3i (v := v7) (S1 := S) d_K_newClashesWith_66 ml_7_104 kd_57 rfl (Nat.le_of_ble_eq_true rfl) (Nat.le_of_ble_eq_true rfl) (c_K_clashesAt (by omega) q6) ?_
    refine x_aload_n d_K_newClashesWith_69 rfl 0 rfl ?_
    refine x_aload_n d_K_newClashesWith_70 rfl 0 rfl ?_
    refine y_getI d_K_newClashesWith_71 fl_7_53 rfl kd_57 ?_
    refine x_aload_n d_K_newClashesWith_74 rfl 0 rfl ?_
    refine y_getI d_K_newClashesWith_75 fl_7_56 rfl kd_57 ?_
    refine x_iload d_K_newClashesWith_78 4 rfl ?_
    obtain ⟨v9, q8, h⟩ := bd_inv h
    refine y_V3i (v := v9) (S1 := S) d_K_newClashesWith_80 ml_7_104 kd_57 rfl (Nat.le_of_ble_eq_true rfl) (Nat.le_of_ble_eq_true rfl) (c_K_clashesAt (by omega) q8) ?_
    refine x_iconst d_K_newClashesWith_83 ic_m1 ?_
    refine x_ixor d_K_newClashesWith_84 ?_
    refine x_iand d_K_newClashesWith_85 ?_
    refine x_ior d_K_newClashesWith_86 ?_
    obtain ⟨v10, e11, h⟩ := lt_inv h
    refine y_istore (L1 := [(0, .ref 57), (3, .int z3), (4, .int z4), (5, .int v10), (6, .int w6)]) e11 d_K_newClashesWith_87 (Nat.le_of_ble_eq_true rfl) rfl rfl ?_
    obtain ⟨v12, e13, h⟩ := lt_inv h
    refine y_iinc (L1 := [(0, .ref 57), (3, .int z3), (4, .int z4), (5, .int v10), (6, .int v12)]) e13 ic_1 d_K_newClashesWith_89 4 rfl (Nat.le_of_ble_eq_true rfl) rfl rfl ?_
    refine x_goto (tgt := 49) d_K_newClashesWith_92 rfl ?_
    exact ih v10 v12 _ h
set_option maxRecDepth 100000 in
set_option maxHeartbeats 4000000 in
theorem c_K_newClashesWith {X : Nat × (Nat → Int32)} {D F G : Nat} (hD : 4 ≤ D) {S : St} {p1 : Int32} {p2 : Int32} {res : Int32} (h : fK_newClashesWith F G S p1 p2 = some res) : Ek X (D) mK_newClashesWith 0 [(0, .ref 57), (1, .int p1), (2, .int p2)] [] S (some (.int res)) S := by
  obtain ⟨D, rfl⟩ : ∃ E, D = E + 1 := ⟨D - 1, by omega⟩
  unfold fK_newClashesWith at h
  have J20 : ∀ (y1 : Int32) (y2 : Int32) (s0 : Int32) (res : Int32), j_K_newClashesWith_20 F G S y1 y2 s0 = some res → Ek X (D + 1) mK_newClashesWith 20 [(0, .ref 57), (1, .int y1), (2, .int y2)] [.int s0] S (some (.int res)) S := by
    intro y1 y2 s0 res h
    unfold j_K_newClashesWith_20 at h
    refine x_istore_n (L1 := [(0, .ref 57), (1, .int y1), (2, .int y2), (3, .int s0)]) d_K_newClashesWith_20 rfl (Nat.le_of_ble_eq_true rfl) rfl rfl ?_
    refine x_iload_n d_K_newClashesWith_21 rfl 2 rfl ?_
    refine x_iconst d_K_newClashesWith_22 ic_2 ?_
    refine x_icmp_ne (tgt := 37) d_K_newClashesWith_23 rfl (fun c2 => ?_) (fun c2 => ?_)
    · replace h := ite_f c2 h
      refine x_aload_n d_K_newClashesWith_37 rfl 0 rfl ?_
      refine y_getI d_K_newClashesWith_38 fl_7_56 rfl kd_57 ?_
      obtain ⟨v3, e4, h⟩ := lt_inv h
      refine y_istore (L1 := [(0, .ref 57), (1, .int y1), (2, .int y2), (3, .int s0), (4, .int v3)]) e4 d_K_newClashesWith_41 (Nat.le_of_ble_eq_true rfl) rfl rfl ?_
      refine x_iconst d_K_newClashesWith_43 ic_0 ?_
      refine x_istore (L1 := [(0, .ref 57), (1, .int y1), (2, .int y2), (3, .int s0), (4, .int v3), (5, .int (0 : Int32))]) d_K_newClashesWith_44 (Nat.le_of_ble_eq_true rfl) rfl rfl ?_
      refine x_iconst d_K_newClashesWith_46 ic_0 ?_
      refine x_istore (L1 := [(0, .ref 57), (1, .int y1), (2, .int y2), (3, .int s0), (4, .int v3), (5, .int (0 : Int32)), (6, .int (0 : Int32))]) d_K_newClashesWith_47 (Nat.le_of_ble_eq_true rfl) rfl rfl ?_
      refine y_pick (L1 := [(0, .ref 57), (3, .int s0), (4, .int v3), (5, .int (0 : Int32)), (6, .int (0 : Int32))]) [0, 3, 4, 5, 6] rfl ?_
      refine T_K_newClashesWith_49 (by omega)   F (0 : Int32) (0 : Int32) _ h
    · replace h := ite_t c2 h
      refine x_aload_n d_K_newClashesWith_26 rfl 0 rfl ?_
      refine y_getI d_K_newClashesWith_27 fl_7_56 rfl kd_57 ?_
      refine x_iconst d_K_newClashesWith_30 ic_1 ?_
      refine x_iload_n d_K_newClashesWith_31 rfl 1 rfl ?_
      refine x_ishl d_K_newClashesWith_32 ?_
      refine x_ior d_K_newClashesWith_33 ?_
      refine x_goto (tgt := 41) d_K_newClashesWith_34 rfl ?_
      obtain ⟨v14, e15, h⟩ := lt_inv h
      refine y_istore (L1 := [(0, .ref 57), (1, .int y1), (2, .int y2), (3, .int s0), (4, .int v14)]) e15 d_K_newClashesWith_41 (Nat.le_of_ble_eq_true rfl) rfl rfl ?_
      refine x_iconst d_K_newClashesWith_43 ic_0 ?_
      refine x_istore (L1 := [(0, .ref 57), (1, .int y1), (2, .int y2), (3, .int s0), (4, .int v14), (5, .int (0 : Int32))]) d_K_newClashesWith_44 (Nat.le_of_ble_eq_true rfl) rfl rfl ?_
      refine x_iconst d_K_newClashesWith_46 ic_0 ?_
      refine x_istore (L1 := [(0, .ref 57), (1, .int y1), (2, .int y2), (3, .int s0), (4, .int v14), (5, .int (0 : Int32)), (6, .int (0 : Int32))]) d_K_newClashesWith_47 (Nat.le_of_ble_eq_true rfl) rfl rfl ?_
      refine y_pick (L1 := [(0, .ref 57), (3, .int s0), (4, .int v14), (5, .int (0 : Int32)), (6, .int (0 : Int32))]) [0, 3, 4, 5, 6] rfl ?_
      refine T_K_newClashesWith_49 (by omega)   F (0 : Int32) (0 : Int32) _ h
  refine x_iload_n d_K_newClashesWith_0 rfl 2 rfl ?_
  refine x_iconst d_K_newClashesWith_1 ic_1 ?_
  refine x_icmp_ne (tgt := 16) d_K_newClashesWith_2 rfl (fun c1 => ?_) (fun c1 => ?_)
  · replace h := ite_f c1 h
    refine x_aload_n d_K_newClashesWith_16 rfl 0 rfl ?_
    refine y_getI d_K_newClashesWith_17 fl_7_53 rfl kd_57 ?_
    exact J20 p1 p2 (S.1 57 5) _ h
  · replace h := ite_t c1 h
    refine x_aload_n d_K_newClashesWith_5 rfl 0 rfl ?_
    refine y_getI d_K_newClashesWith_6 fl_7_53 rfl kd_57 ?_
    refine x_iconst d_K_newClashesWith_9 ic_1 ?_
    refine x_iload_n d_K_newClashesWith_10 rfl 1 rfl ?_
    refine x_ishl d_K_newClashesWith_11 ?_
    refine x_ior d_K_newClashesWith_12 ?_
    refine x_goto (tgt := 20) d_K_newClashesWith_13 rfl ?_
    exact J20 p1 p2 ((S.1 57 5) ||| ((1 : Int32) <<< (p1 &&& 31))) _ h
/-! NinetyPlayers.forbids -/
def fN_forbids (F G : Nat) (S : St) (p1 : Int32) (p2 : Int32) : Option (Int32 × St) :=
  bd (fN_isLeftOut F G S p1) fun v2 => if v2 = 0 then some ((-1 : Int32), S) else bd (fN_isHand F G S p2) fun v5 => if v5 = 0 then some ((-1 : Int32), S) else bd (fN_lookAtKeys F G S ) fun S8 => bd (fK_newClashesWith F G S8 p1 p2) fun v10 => some (v10, S8)
set_option maxRecDepth 100000 in
set_option maxHeartbeats 4000000 in
theorem c_N_forbids {X : Nat × (Nat → Int32)} {D F G : Nat} (hD : 5 ≤ D) {S : St} {p1 : Int32} {p2 : Int32} {res : Int32 × St} (h : fN_forbids F G S p1 p2 = some res) : Ek X (D) mN_forbids 0 [(0, .ref 0), (1, .int p1), (2, .int p2)] [] S (some (.int res.1)) res.2 := by
  obtain ⟨D, rfl⟩ : ∃ E, D = E + 1 := ⟨D - 1, by omega⟩
  unfold fN_forbids at h
  refine x_aload_n d_N_forbids_0 rfl 0 rfl ?_
  refine x_iload_n d_N_forbids_1 rfl 1 rfl ?_
  obtain ⟨v2, q1, h⟩ := bd_inv h
  refine y_V1i (v := v2) (S1 := S) d_N_forbids_2 ml_0_286 kd_0 rfl (Nat.le_of_ble_eq_true rfl) (Nat.le_of_ble_eq_true rfl) (c_N_isLeftOut (by omega) q1) ?_
  refine x_if_eq (tgt := 15) d_N_forbids_5 rfl (fun c3 => ?_) (fun c3 => ?_)
  · replace h := ite_t c3 h
    refine x_iconst d_N_forbids_15 ic_m1 ?_
    obtain rfl := Option.some.inj h
    exact x_ret (r := some (.int (-1 : Int32))) d_N_forbids_16 ⟨_, rfl, rfl⟩
  · replace h := ite_f c3 h
    refine x_iload_n d_N_forbids_8 rfl 2 rfl ?_
    obtain ⟨v5, q4, h⟩ := bd_inv h
    refine y_S1i (v := v5) (S1 := S) d_N_forbids_9 ml_0_173 (Nat.le_of_ble_eq_true rfl) (Nat.le_of_ble_eq_true rfl) (c_N_isHand (by omega) q4) ?_
    refine x_if_ne (tgt := 17) d_N_forbids_12 rfl (fun c6 => ?_) (fun c6 => ?_)
    · replace h := ite_f c6 h
      refine x_aload_n d_N_forbids_17 rfl 0 rfl ?_
      obtain ⟨S8, q7, h⟩ := bd_inv h
      refine y_V0v (S1 := S8) d_N_forbids_18 ml_0_176 kd_0 rfl (Nat.le_of_ble_eq_true rfl) (Nat.le_of_ble_eq_true rfl) (c_N_lookAtKeys (by omega) q7) ?_
      refine x_aload_n d_N_forbids_21 rfl 0 rfl ?_
      refine y_getR d_N_forbids_22 fl_0_57 rfl kd_0 rr_0_7 ?_
      refine x_iload_n d_N_forbids_25 rfl 1 rfl ?_
      refine x_iload_n d_N_forbids_26 rfl 2 rfl ?_
      obtain ⟨v10, q9, h⟩ := bd_inv h
      refine y_V2i (v := v10) (S1 := S8) d_N_forbids_27 ml_0_289 kd_57 rfl (Nat.le_of_ble_eq_true rfl) (Nat.le_of_ble_eq_true rfl) (c_K_newClashesWith (by omega) q9) ?_
      obtain rfl := Option.some.inj h
      exact x_ret (r := some (.int v10)) d_N_forbids_30 ⟨_, rfl, rfl⟩
    · replace h := ite_t c6 h
      refine x_iconst d_N_forbids_15 ic_m1 ?_
      obtain rfl := Option.some.inj h
      exact x_ret (r := some (.int (-1 : Int32))) d_N_forbids_16 ⟨_, rfl, rfl⟩
/-! NinetyPlayersModel.isOut -/
def fM_isOut (F G : Nat) (S : St) (p1 : Int32) : Option (Int32) :=
  bd (fM_isNote F G S p1) fun v2 => if v2 = 0 then some (0 : Int32) else gd (inB p1 41) (if (S.1 100 p1.toNatClampNeg) = 0 then some (1 : Int32) else some (0 : Int32))
set_option maxRecDepth 100000 in
set_option maxHeartbeats 4000000 in
theorem c_M_isOut {X : Nat × (Nat → Int32)} {D F G : Nat} (hD : 2 ≤ D) {S : St} {p1 : Int32} {res : Int32} (h : fM_isOut F G S p1 = some res) : Ek X (D) mM_isOut 0 [(0, .ref 78), (1, .int p1)] [] S (some (.int res)) S := by
  obtain ⟨D, rfl⟩ : ∃ E, D = E + 1 := ⟨D - 1, by omega⟩
  unfold fM_isOut at h
  refine x_aload_n d_M_isOut_0 rfl 0 rfl ?_
  refine x_iload_n d_M_isOut_1 rfl 1 rfl ?_
  obtain ⟨v2, q1, h⟩ := bd_inv h
  refine y_V1i (v := v2) (S1 := S) d_M_isOut_2 ml_11_461 kd_78 rfl (Nat.le_of_ble_eq_true rfl) (Nat.le_of_ble_eq_true rfl) (c_M_isNote (by omega) q1) ?_
  refine x_if_eq (tgt := 21) d_M_isOut_5 rfl (fun c3 => ?_) (fun c3 => ?_)
  · replace h := ite_t c3 h
    refine x_iconst d_M_isOut_21 ic_0 ?_
    obtain rfl := Option.some.inj h
    exact x_ret (r := some (.int (0 : Int32))) d_M_isOut_22 ⟨_, rfl, rfl⟩
  · replace h := ite_f c3 h
    refine x_aload_n d_M_isOut_8 rfl 0 rfl ?_
    refine y_getR d_M_isOut_9 fl_11_93 rfl kd_78 rr_78_58 ?_
    refine x_iload_n d_M_isOut_12 rfl 1 rfl ?_
    obtain ⟨g4, h⟩ := gd_inv h
    refine y_iald d_M_isOut_13 kd_100 g4 ?_
    refine x_if_ne (tgt := 21) d_M_isOut_14 rfl (fun c5 => ?_) (fun c5 => ?_)
    · replace h := ite_f c5 h
      refine x_iconst d_M_isOut_21 ic_0 ?_
      obtain rfl := Option.some.inj h
      exact x_ret (r := some (.int (0 : Int32))) d_M_isOut_22 ⟨_, rfl, rfl⟩
    · replace h := ite_t c5 h
      refine x_iconst d_M_isOut_17 ic_1 ?_
      refine x_goto (tgt := 22) d_M_isOut_18 rfl ?_
      obtain rfl := Option.some.inj h
      exact x_ret (r := some (.int (1 : Int32))) d_M_isOut_22 ⟨_, rfl, rfl⟩
/-! NinetyPlayersModel.forbidden -/
def j_M_forbidden_104 (F G : Nat) (S : St) (z2 : Int32) (z3 : Int32) (z4 : Int32) (z5 : Int32) (rec : Int32 → Int32 → Option (Int32 × St)) (_ : St) (y6 : Int32) (y7 : Int32) (y8 : Int32) (s0 : Int32) : Option (Int32 × St) :=
  lt (y6 ||| (s0 &&& (y8 ^^^ (-1 : Int32)))) fun v17 => lt (y7 + 1) fun v19 => rec v17 v19
def b_M_forbidden_28 (F G : Nat) (S : St) (z2 : Int32) (z3 : Int32) (z4 : Int32) (z5 : Int32) (rec : Int32 → Int32 → Option (Int32 × St)) (w6 : Int32) (w7 : Int32) : Option (Int32 × St) :=
  if (S.1 78 46) ≤ w7 then some (w6, S) else bd (fM_clashBy F G S w7 z3 z4 (S.1 78 50) (S.1 78 49)) fun v11 => if z2 = (1 : Int32) then bd (fM_clashBy F G S w7 (z3 ||| z5) z4 (S.1 78 50) (S.1 78 49)) fun v16 => j_M_forbidden_104 F G S z2 z3 z4 z5 rec  S w6 w7 v11 v16 else bd (fM_clashBy F G S w7 z3 (z4 ||| z5) (S.1 78 50) (S.1 78 49)) fun v14 => j_M_forbidden_104 F G S z2 z3 z4 z5 rec  S w6 w7 v11 v14
def fM_forbidden (F G : Nat) (S : St) (p1 : Int32) (p2 : Int32) : Option (Int32 × St) :=
  bd (fM_fill F G S ) fun S2 => bd (fM_given F G S2 (1 : Int32)) fun v4 => bd (fM_given F G S2 (2 : Int32)) fun v6 => lt ((1 : Int32) <<< (p1 &&& 31)) fun v7 => fx2 (b_M_forbidden_28 F G S2 p2 v4 v6 v7) F (0 : Int32) (0 : Int32)
set_option maxRecDepth 100000 in
set_option maxHeartbeats 4000000 in
theorem T_M_forbidden_28 {X : Nat × (Nat → Int32)} {D F G : Nat} (hD : 3 ≤ D + 1) {S : St} {z2 : Int32} {z3 : Int32} {z4 : Int32} {z5 : Int32} : ∀ (f : Nat) (w6 : Int32) (w7 : Int32) (res : Int32 × St), fx2 (b_M_forbidden_28 F G S z2 z3 z4 z5 ) f w6 w7 = some res → Ek X (D + 1) mM_forbidden 28 [(0, .ref 78), (2, .int z2), (3, .int z3), (4, .int z4), (5, .int z5), (6, .int w6), (7, .int w7)] [] S (some (.int res.1)) res.2 := by
  refine fx2_ind ?_
  intro rec ih w6 w7 res h
  unfold b_M_forbidden_28 at h
  have J104 : ∀ (y6 : Int32) (y7 : Int32) (y8 : Int32) (s0 : Int32) (res : Int32 × St), j_M_forbidden_104 F G S z2 z3 z4 z5 rec S y6 y7 y8 s0 = some res → Ek X (D + 1) mM_forbidden 104 [(0, .ref 78), (2, .int z2), (3, .int z3), (4, .int z4), (5, .int z5), (6, .int y6), (7, .int y7), (8, .int y8)] [.int s0] S (some (.int res.1)) res.2 := by
    intro y6 y7 y8 s0 res h
    unfold j_M_forbidden_104 at h
    refine x_istore (L1 := [(0, .ref 78), (2, .int z2), (3, .int z3), (4, .int z4), (5, .int z5), (6, .int y6), (7, .int y7), (8, .int y8), (9, .int s0)]) d_M_forbidden_104 (Nat.le_of_ble_eq_true rfl) rfl rfl ?_
    refine x_iload d_M_forbidden_106 5 rfl ?_
    refine x_iload d_M_forbidden_108 8 rfl ?_
    refine x_iload d_M_forbidden_110 7 rfl ?_
    refine x_iconst d_M_forbidden_112 ic_m1 ?_
    refine x_ixor d_M_forbidden_113 ?_
    refine x_iand d_M_forbidden_114 ?_
    refine x_ior d_M_forbidden_115 ?_
    obtain ⟨v17, e18, h⟩ := lt_inv h
    refine y_istore (L1 := [(0, .ref 78), (2, .int z2), (3, .int z3), (4, .int z4), (5, .int z5), (6, .int v17), (7, .int y7), (8, .int y8), (9, .int s0)]) e18 d_M_forbidden_116 (Nat.le_of_ble_eq_true rfl) rfl rfl ?_
    obtain ⟨v19, e20, h⟩ := lt_inv h
    refine y_iinc (L1 := [(0, .ref 78), (2, .int z2), (3, .int z3), (4, .int z4), (5, .int z5), (6, .int v17), (7, .int v19), (8, .int y8), (9, .int s0)]) e20 ic_1 d_M_forbidden_118 6 rfl (Nat.le_of_ble_eq_true rfl) rfl rfl ?_
    refine x_goto (tgt := 28) d_M_forbidden_121 rfl ?_
    refine y_pick (L1 := [(0, .ref 78), (2, .int z2), (3, .int z3), (4, .int z4), (5, .int z5), (6, .int v17), (7, .int v19)]) [0, 1, 2, 3, 4, 5, 6] rfl ?_
    exact ih v17 v19 _ h
  refine x_iload d_M_forbidden_28 6 rfl ?_
  refine x_aload_n d_M_forbidden_30 rfl 0 rfl ?_
  refine y_getI d_M_forbidden_31 fl_11_78 rfl kd_78 ?_
  refine x_icmp_ge (tgt := 124) d_M_forbidden_34 rfl (fun c9 => ?_) (fun c9 => ?_)
  · replace h := ite_t c9 h
    refine x_iload d_M_forbidden_124 5 rfl ?_
    obtain rfl := Option.some.inj h
    exact x_ret (r := some (.int w6)) d_M_forbidden_126 ⟨_, rfl, rfl⟩
  · replace h := ite_f c9 h
    refine x_aload_n d_M_forbidden_37 rfl 0 rfl ?_
    refine x_iload d_M_forbidden_38 6 rfl ?_
    refine x_iload_n d_M_forbidden_40 rfl 2 rfl ?_
    refine x_iload d_M_forbidden_41 3 rfl ?_
    refine x_aload_n d_M_forbidden_43 rfl 0 rfl ?_
    refine y_getI d_M_forbidden_44 fl_11_84 rfl kd_78 ?_
    refine x_aload_n d_M_forbidden_47 rfl 0 rfl ?_
    refine y_getI d_M_forbidden_48 fl_11_81 rfl kd_78 ?_
    obtain ⟨v11, q10, h⟩ := bd_inv h
    refine y_V5i (v := v11) (S1 := S) d_M_forbidden_51 ml_11_450 kd_78 rfl (Nat.le_of_ble_eq_true rfl) (Nat.le_of_ble_eq_true rfl) (c_M_clashBy (by omega) q10) ?_
    refine x_istore (L1 := [(0, .ref 78), (2, .int z2), (3, .int z3), (4, .int z4), (5, .int z5), (6, .int w6), (7, .int w7), (8, .int v11)]) d_M_forbidden_54 (Nat.le_of_ble_eq_true rfl) rfl rfl ?_
    refine x_iload_n d_M_forbidden_56 rfl 1 rfl ?_
    refine x_iconst d_M_forbidden_57 ic_1 ?_
    refine x_icmp_ne (tgt := 84) d_M_forbidden_58 rfl (fun c12 => ?_) (fun c12 => ?_)
    · replace h := ite_f c12 h
      refine x_aload_n d_M_forbidden_84 rfl 0 rfl ?_
      refine x_iload d_M_forbidden_85 6 rfl ?_
      refine x_iload_n d_M_forbidden_87 rfl 2 rfl ?_
      refine x_iload d_M_forbidden_88 3 rfl ?_
      refine x_iload d_M_forbidden_90 4 rfl ?_
      refine x_ior d_M_forbidden_92 ?_
      refine x_aload_n d_M_forbidden_93 rfl 0 rfl ?_
      refine y_getI d_M_forbidden_94 fl_11_84 rfl kd_78 ?_
      refine x_aload_n d_M_forbidden_97 rfl 0 rfl ?_
      refine y_getI d_M_forbidden_98 fl_11_81 rfl kd_78 ?_
      obtain ⟨v14, q13, h⟩ := bd_inv h
      refine y_V5i (v := v14) (S1 := S) d_M_forbidden_101 ml_11_450 kd_78 rfl (Nat.le_of_ble_eq_true rfl) (Nat.le_of_ble_eq_true rfl) (c_M_clashBy (by omega) q13) ?_
      exact J104 w6 w7 v11 v14 _ h
    · replace h := ite_t c12 h
      refine x_aload_n d_M_forbidden_61 rfl 0 rfl ?_
      refine x_iload d_M_forbidden_62 6 rfl ?_
      refine x_iload_n d_M_forbidden_64 rfl 2 rfl ?_
      refine x_iload d_M_forbidden_65 4 rfl ?_
      refine x_ior d_M_forbidden_67 ?_
      refine x_iload d_M_forbidden_68 3 rfl ?_
      refine x_aload_n d_M_forbidden_70 rfl 0 rfl ?_
      refine y_getI d_M_forbidden_71 fl_11_84 rfl kd_78 ?_
      refine x_aload_n d_M_forbidden_74 rfl 0 rfl ?_
      refine y_getI d_M_forbidden_75 fl_11_81 rfl kd_78 ?_
      obtain ⟨v16, q15, h⟩ := bd_inv h
      refine y_V5i (v := v16) (S1 := S) d_M_forbidden_78 ml_11_450 kd_78 rfl (Nat.le_of_ble_eq_true rfl) (Nat.le_of_ble_eq_true rfl) (c_M_clashBy (by omega) q15) ?_
      refine x_goto (tgt := 104) d_M_forbidden_81 rfl ?_
      exact J104 w6 w7 v11 v16 _ h
set_option maxRecDepth 100000 in
set_option maxHeartbeats 4000000 in
theorem c_M_forbidden {X : Nat × (Nat → Int32)} {D F G : Nat} (hD : 3 ≤ D) {S : St} {p1 : Int32} {p2 : Int32} {res : Int32 × St} (h : fM_forbidden F G S p1 p2 = some res) : Ek X (D) mM_forbidden 0 [(0, .ref 78), (1, .int p1), (2, .int p2)] [] S (some (.int res.1)) res.2 := by
  obtain ⟨D, rfl⟩ : ∃ E, D = E + 1 := ⟨D - 1, by omega⟩
  unfold fM_forbidden at h
  refine x_aload_n d_M_forbidden_0 rfl 0 rfl ?_
  obtain ⟨S2, q1, h⟩ := bd_inv h
  refine y_V0v (S1 := S2) d_M_forbidden_1 ml_11_464 kd_78 rfl (Nat.le_of_ble_eq_true rfl) (Nat.le_of_ble_eq_true rfl) (c_M_fill (by omega) q1) ?_
  refine x_aload_n d_M_forbidden_4 rfl 0 rfl ?_
  refine x_iconst d_M_forbidden_5 ic_1 ?_
  obtain ⟨v4, q3, h⟩ := bd_inv h
  refine y_V1i (v := v4) (S1 := S2) d_M_forbidden_6 ml_11_454 kd_78 rfl (Nat.le_of_ble_eq_true rfl) (Nat.le_of_ble_eq_true rfl) (c_M_given (by omega) q3) ?_
  refine x_istore_n (L1 := [(0, .ref 78), (1, .int p1), (2, .int p2), (3, .int v4)]) d_M_forbidden_9 rfl (Nat.le_of_ble_eq_true rfl) rfl rfl ?_
  refine x_aload_n d_M_forbidden_10 rfl 0 rfl ?_
  refine x_iconst d_M_forbidden_11 ic_2 ?_
  obtain ⟨v6, q5, h⟩ := bd_inv h
  refine y_V1i (v := v6) (S1 := S2) d_M_forbidden_12 ml_11_454 kd_78 rfl (Nat.le_of_ble_eq_true rfl) (Nat.le_of_ble_eq_true rfl) (c_M_given (by omega) q5) ?_
  refine x_istore (L1 := [(0, .ref 78), (1, .int p1), (2, .int p2), (3, .int v4), (4, .int v6)]) d_M_forbidden_15 (Nat.le_of_ble_eq_true rfl) rfl rfl ?_
  refine x_iconst d_M_forbidden_17 ic_1 ?_
  refine x_iload_n d_M_forbidden_18 rfl 1 rfl ?_
  refine x_ishl d_M_forbidden_19 ?_
  obtain ⟨v7, e8, h⟩ := lt_inv h
  refine y_istore (L1 := [(0, .ref 78), (1, .int p1), (2, .int p2), (3, .int v4), (4, .int v6), (5, .int v7)]) e8 d_M_forbidden_20 (Nat.le_of_ble_eq_true rfl) rfl rfl ?_
  refine x_iconst d_M_forbidden_22 ic_0 ?_
  refine x_istore (L1 := [(0, .ref 78), (1, .int p1), (2, .int p2), (3, .int v4), (4, .int v6), (5, .int v7), (6, .int (0 : Int32))]) d_M_forbidden_23 (Nat.le_of_ble_eq_true rfl) rfl rfl ?_
  refine x_iconst d_M_forbidden_25 ic_0 ?_
  refine x_istore (L1 := [(0, .ref 78), (1, .int p1), (2, .int p2), (3, .int v4), (4, .int v6), (5, .int v7), (6, .int (0 : Int32)), (7, .int (0 : Int32))]) d_M_forbidden_26 (Nat.le_of_ble_eq_true rfl) rfl rfl ?_
  refine y_pick (L1 := [(0, .ref 78), (2, .int p2), (3, .int v4), (4, .int v6), (5, .int v7), (6, .int (0 : Int32)), (7, .int (0 : Int32))]) [0, 2, 3, 4, 5, 6, 7] rfl ?_
  refine T_M_forbidden_28 (by omega)   F (0 : Int32) (0 : Int32) _ h
/-! NinetyPlayersModel.forbids -/
def fM_forbids (F G : Nat) (S : St) (p1 : Int32) (p2 : Int32) : Option (Int32 × St) :=
  bd (fM_isOut F G S p1) fun v2 => if v2 = 0 then some ((-1 : Int32), S) else bd (fM_isHand F G S p2) fun v5 => if v5 = 0 then some ((-1 : Int32), S) else bd2 (fM_forbidden F G S p1 p2) fun v8 S9 => some (v8, S9)
set_option maxRecDepth 100000 in
set_option maxHeartbeats 4000000 in
theorem c_M_forbids {X : Nat × (Nat → Int32)} {D F G : Nat} (hD : 4 ≤ D) {S : St} {p1 : Int32} {p2 : Int32} {res : Int32 × St} (h : fM_forbids F G S p1 p2 = some res) : Ek X (D) mM_forbids 0 [(0, .ref 78), (1, .int p1), (2, .int p2)] [] S (some (.int res.1)) res.2 := by
  obtain ⟨D, rfl⟩ : ∃ E, D = E + 1 := ⟨D - 1, by omega⟩
  unfold fM_forbids at h
  refine x_aload_n d_M_forbids_0 rfl 0 rfl ?_
  refine x_iload_n d_M_forbids_1 rfl 1 rfl ?_
  obtain ⟨v2, q1, h⟩ := bd_inv h
  refine y_V1i (v := v2) (S1 := S) d_M_forbids_2 ml_11_515 kd_78 rfl (Nat.le_of_ble_eq_true rfl) (Nat.le_of_ble_eq_true rfl) (c_M_isOut (by omega) q1) ?_
  refine x_if_eq (tgt := 24) d_M_forbids_5 rfl (fun c3 => ?_) (fun c3 => ?_)
  · replace h := ite_t c3 h
    refine x_iconst d_M_forbids_24 ic_m1 ?_
    obtain rfl := Option.some.inj h
    exact x_ret (r := some (.int (-1 : Int32))) d_M_forbids_25 ⟨_, rfl, rfl⟩
  · replace h := ite_f c3 h
    refine x_iload_n d_M_forbids_8 rfl 2 rfl ?_
    obtain ⟨v5, q4, h⟩ := bd_inv h
    refine y_S1i (v := v5) (S1 := S) d_M_forbids_9 ml_11_476 (Nat.le_of_ble_eq_true rfl) (Nat.le_of_ble_eq_true rfl) (c_M_isHand (by omega) q4) ?_
    refine x_if_eq (tgt := 24) d_M_forbids_12 rfl (fun c6 => ?_) (fun c6 => ?_)
    · replace h := ite_t c6 h
      refine x_iconst d_M_forbids_24 ic_m1 ?_
      obtain rfl := Option.some.inj h
      exact x_ret (r := some (.int (-1 : Int32))) d_M_forbids_25 ⟨_, rfl, rfl⟩
    · replace h := ite_f c6 h
      refine x_aload_n d_M_forbids_15 rfl 0 rfl ?_
      refine x_iload_n d_M_forbids_16 rfl 1 rfl ?_
      refine x_iload_n d_M_forbids_17 rfl 2 rfl ?_
      obtain ⟨v8, S9, q7, h⟩ := bd2_inv h
      refine y_V2i (v := v8) (S1 := S9) d_M_forbids_18 ml_11_518 kd_78 rfl (Nat.le_of_ble_eq_true rfl) (Nat.le_of_ble_eq_true rfl) (c_M_forbidden (by omega) q7) ?_
      refine x_goto (tgt := 25) d_M_forbids_21 rfl ?_
      obtain rfl := Option.some.inj h
      exact x_ret (r := some (.int v8)) d_M_forbids_25 ⟨_, rfl, rfl⟩
/-! NinetyPlayers$Arranger.missedTogether -/
def b_A_missedTogether_4 (F G : Nat) (S : St) (z1 : Int32) (rec : Int32 → Int32 → Option (Int32)) (w2 : Int32) (w3 : Int32) : Option (Int32) :=
  if (S.1 57 1) ≤ w3 then some w2 else if ((z1 >>> (w3 &&& 31)) &&& (1 : Int32)) = 0 then lt (w2 + (0 : Int32)) fun v3 => lt (w3 + 1) fun v5 => rec v3 v5 else gd (inB w3 10) (lt (w2 + (S.1 62 w3.toNatClampNeg)) fun v8 => lt (w3 + 1) fun v10 => rec v8 v10)
def fA_missedTogether (F G : Nat) (S : St) (p1 : Int32) : Option (Int32) :=
  fx2 (b_A_missedTogether_4 F G S p1) F (0 : Int32) (0 : Int32)
set_option maxRecDepth 100000 in
set_option maxHeartbeats 4000000 in
theorem T_A_missedTogether_4 {X : Nat × (Nat → Int32)} {D F G : Nat} (hD : 0 ≤ D) {S : St} {z1 : Int32} : ∀ (f : Nat) (w2 : Int32) (w3 : Int32) (res : Int32), fx2 (b_A_missedTogether_4 F G S z1 ) f w2 w3 = some res → Ek X (D) mA_missedTogether 4 [(0, .ref 56), (1, .int z1), (2, .int w2), (3, .int w3)] [] S (some (.int res)) S := by
  refine fx2_ind ?_
  intro rec ih w2 w3 res h
  unfold b_A_missedTogether_4 at h
  refine x_iload_n d_A_missedTogether_4 rfl 3 rfl ?_
  refine x_aload_n d_A_missedTogether_5 rfl 0 rfl ?_
  refine y_getR d_A_missedTogether_6 fl_8_12 rfl kd_56 rr_56_0 ?_
  refine y_getI d_A_missedTogether_9 fl_8_41 rfl kd_57 ?_
  refine x_icmp_ge (tgt := 42) d_A_missedTogether_12 rfl (fun c1 => ?_) (fun c1 => ?_)
  · replace h := ite_t c1 h
    refine x_iload_n d_A_missedTogether_42 rfl 2 rfl ?_
    obtain rfl := Option.some.inj h
    exact x_ret (r := some (.int w2)) d_A_missedTogether_43 ⟨_, rfl, rfl⟩
  · replace h := ite_f c1 h
    refine x_iload_n d_A_missedTogether_15 rfl 2 rfl ?_
    refine x_iload_n d_A_missedTogether_16 rfl 1 rfl ?_
    refine x_iload_n d_A_missedTogether_17 rfl 3 rfl ?_
    refine x_ishr d_A_missedTogether_18 ?_
    refine x_iconst d_A_missedTogether_19 ic_1 ?_
    refine x_iand d_A_missedTogether_20 ?_
    refine x_if_eq (tgt := 33) d_A_missedTogether_21 rfl (fun c2 => ?_) (fun c2 => ?_)
    · replace h := ite_t c2 h
      refine x_iconst d_A_missedTogether_33 ic_0 ?_
      refine x_iadd d_A_missedTogether_34 ?_
      obtain ⟨v3, e4, h⟩ := lt_inv h
      refine y_istore_n (L1 := [(0, .ref 56), (1, .int z1), (2, .int v3), (3, .int w3)]) e4 d_A_missedTogether_35 rfl (Nat.le_of_ble_eq_true rfl) rfl rfl ?_
      obtain ⟨v5, e6, h⟩ := lt_inv h
      refine y_iinc (L1 := [(0, .ref 56), (1, .int z1), (2, .int v3), (3, .int v5)]) e6 ic_1 d_A_missedTogether_36 3 rfl (Nat.le_of_ble_eq_true rfl) rfl rfl ?_
      refine x_goto (tgt := 4) d_A_missedTogether_39 rfl ?_
      exact ih v3 v5 _ h
    · replace h := ite_f c2 h
      refine x_aload_n d_A_missedTogether_24 rfl 0 rfl ?_
      refine y_getR d_A_missedTogether_25 fl_8_18 rfl kd_56 rr_56_1 ?_
      refine x_iload_n d_A_missedTogether_28 rfl 3 rfl ?_
      obtain ⟨g7, h⟩ := gd_inv h
      refine y_iald d_A_missedTogether_29 kd_62 g7 ?_
      refine x_goto (tgt := 34) d_A_missedTogether_30 rfl ?_
      refine x_iadd d_A_missedTogether_34 ?_
      obtain ⟨v8, e9, h⟩ := lt_inv h
      refine y_istore_n (L1 := [(0, .ref 56), (1, .int z1), (2, .int v8), (3, .int w3)]) e9 d_A_missedTogether_35 rfl (Nat.le_of_ble_eq_true rfl) rfl rfl ?_
      obtain ⟨v10, e11, h⟩ := lt_inv h
      refine y_iinc (L1 := [(0, .ref 56), (1, .int z1), (2, .int v8), (3, .int v10)]) e11 ic_1 d_A_missedTogether_36 3 rfl (Nat.le_of_ble_eq_true rfl) rfl rfl ?_
      refine x_goto (tgt := 4) d_A_missedTogether_39 rfl ?_
      exact ih v8 v10 _ h
set_option maxRecDepth 100000 in
set_option maxHeartbeats 4000000 in
theorem c_A_missedTogether {X : Nat × (Nat → Int32)} {D F G : Nat} (hD : 0 ≤ D) {S : St} {p1 : Int32} {res : Int32} (h : fA_missedTogether F G S p1 = some res) : Ek X (D) mA_missedTogether 0 [(0, .ref 56), (1, .int p1)] [] S (some (.int res)) S := by
  unfold fA_missedTogether at h
  refine x_iconst d_A_missedTogether_0 ic_0 ?_
  refine x_istore_n (L1 := [(0, .ref 56), (1, .int p1), (2, .int (0 : Int32))]) d_A_missedTogether_1 rfl (Nat.le_of_ble_eq_true rfl) rfl rfl ?_
  refine x_iconst d_A_missedTogether_2 ic_0 ?_
  refine x_istore_n (L1 := [(0, .ref 56), (1, .int p1), (2, .int (0 : Int32)), (3, .int (0 : Int32))]) d_A_missedTogether_3 rfl (Nat.le_of_ble_eq_true rfl) rfl rfl ?_
  refine T_A_missedTogether_4 (by omega)   F (0 : Int32) (0 : Int32) _ h
/-! NinetyPlayers$Arranger.isLessMissed -/
def fA_isLessMissed (F G : Nat) (S : St) (p1 : Int32) (p2 : Int32) : Option (Int32) :=
  bd (fJ_bitCount F G S p1) fun v2 => bd (fJ_bitCount F G S p2) fun v4 => if v2 < v4 then some (1 : Int32) else if v2 = v4 then bd (fA_missedTogether F G S p1) fun v8 => bd (fA_missedTogether F G S p2) fun v10 => if v10 ≤ v8 then some (0 : Int32) else some (1 : Int32) else some (0 : Int32)
set_option maxRecDepth 100000 in
set_option maxHeartbeats 4000000 in
theorem c_A_isLessMissed {X : Nat × (Nat → Int32)} {D F G : Nat} (hD : 1 ≤ D) {S : St} {p1 : Int32} {p2 : Int32} {res : Int32} (h : fA_isLessMissed F G S p1 p2 = some res) : Ek X (D) mA_isLessMissed 0 [(0, .ref 56), (1, .int p1), (2, .int p2)] [] S (some (.int res)) S := by
  obtain ⟨D, rfl⟩ : ∃ E, D = E + 1 := ⟨D - 1, by omega⟩
  unfold fA_isLessMissed at h
  refine x_iload_n d_A_isLessMissed_0 rfl 1 rfl ?_
  obtain ⟨v2, q1, h⟩ := bd_inv h
  refine y_S1i (v := v2) (S1 := S) d_A_isLessMissed_1 ml_8_90 (Nat.le_of_ble_eq_true rfl) (Nat.le_of_ble_eq_true rfl) (c_J_bitCount (by omega) q1) ?_
  refine x_istore_n (L1 := [(0, .ref 56), (1, .int p1), (2, .int p2), (3, .int v2)]) d_A_isLessMissed_4 rfl (Nat.le_of_ble_eq_true rfl) rfl rfl ?_
  refine x_iload_n d_A_isLessMissed_5 rfl 2 rfl ?_
  obtain ⟨v4, q3, h⟩ := bd_inv h
  refine y_S1i (v := v4) (S1 := S) d_A_isLessMissed_6 ml_8_90 (Nat.le_of_ble_eq_true rfl) (Nat.le_of_ble_eq_true rfl) (c_J_bitCount (by omega) q3) ?_
  refine x_istore (L1 := [(0, .ref 56), (1, .int p1), (2, .int p2), (3, .int v2), (4, .int v4)]) d_A_isLessMissed_9 (Nat.le_of_ble_eq_true rfl) rfl rfl ?_
  refine x_iload_n d_A_isLessMissed_11 rfl 3 rfl ?_
  refine x_iload d_A_isLessMissed_12 4 rfl ?_
  refine x_icmp_lt (tgt := 36) d_A_isLessMissed_14 rfl (fun c5 => ?_) (fun c5 => ?_)
  · replace h := ite_t c5 h
    refine x_iconst d_A_isLessMissed_36 ic_1 ?_
    refine x_goto (tgt := 41) d_A_isLessMissed_37 rfl ?_
    obtain rfl := Option.some.inj h
    exact x_ret (r := some (.int (1 : Int32))) d_A_isLessMissed_41 ⟨_, rfl, rfl⟩
  · replace h := ite_f c5 h
    refine x_iload_n d_A_isLessMissed_17 rfl 3 rfl ?_
    refine x_iload d_A_isLessMissed_18 4 rfl ?_
    refine x_icmp_ne (tgt := 40) d_A_isLessMissed_20 rfl (fun c6 => ?_) (fun c6 => ?_)
    · replace h := ite_f c6 h
      refine x_iconst d_A_isLessMissed_40 ic_0 ?_
      obtain rfl := Option.some.inj h
      exact x_ret (r := some (.int (0 : Int32))) d_A_isLessMissed_41 ⟨_, rfl, rfl⟩
    · replace h := ite_t c6 h
      refine x_aload_n d_A_isLessMissed_23 rfl 0 rfl ?_
      refine x_iload_n d_A_isLessMissed_24 rfl 1 rfl ?_
      obtain ⟨v8, q7, h⟩ := bd_inv h
      refine y_V1i (v := v8) (S1 := S) d_A_isLessMissed_25 ml_8_113 kd_56 rfl (Nat.le_of_ble_eq_true rfl) (Nat.le_of_ble_eq_true rfl) (c_A_missedTogether (by omega) q7) ?_
      refine x_aload_n d_A_isLessMissed_28 rfl 0 rfl ?_
      refine x_iload_n d_A_isLessMissed_29 rfl 2 rfl ?_
      obtain ⟨v10, q9, h⟩ := bd_inv h
      refine y_V1i (v := v10) (S1 := S) d_A_isLessMissed_30 ml_8_113 kd_56 rfl (Nat.le_of_ble_eq_true rfl) (Nat.le_of_ble_eq_true rfl) (c_A_missedTogether (by omega) q9) ?_
      refine x_icmp_ge (tgt := 40) d_A_isLessMissed_33 rfl (fun c11 => ?_) (fun c11 => ?_)
      · replace h := ite_t c11 h
        refine x_iconst d_A_isLessMissed_40 ic_0 ?_
        obtain rfl := Option.some.inj h
        exact x_ret (r := some (.int (0 : Int32))) d_A_isLessMissed_41 ⟨_, rfl, rfl⟩
      · replace h := ite_f c11 h
        refine x_iconst d_A_isLessMissed_36 ic_1 ?_
        refine x_goto (tgt := 41) d_A_isLessMissed_37 rfl ?_
        obtain rfl := Option.some.inj h
        exact x_ret (r := some (.int (1 : Int32))) d_A_isLessMissed_41 ⟨_, rfl, rfl⟩
/-! NinetyPlayers$Keyboard.canBePlayed -/
def b_K_canBePlayed_2 (F G : Nat) (S : St) (z1 : Int32) (z2 : Int32) (rec : Int32 → Option (Int32)) (w3 : Int32) : Option (Int32) :=
  if (S.1 57 0) ≤ w3 then some (1 : Int32) else bd (fK_clashesAt F G S z1 z2 w3) fun v3 => if v3 = 0 then lt (w3 + 1) fun v5 => rec v5 else some (0 : Int32)
def fK_canBePlayed (F G : Nat) (S : St) (p1 : Int32) (p2 : Int32) : Option (Int32) :=
  fx1 (b_K_canBePlayed_2 F G S p1 p2) F (0 : Int32)
set_option maxRecDepth 100000 in
set_option maxHeartbeats 4000000 in
theorem T_K_canBePlayed_2 {X : Nat × (Nat → Int32)} {D F G : Nat} (hD : 4 ≤ D + 1) {S : St} {z1 : Int32} {z2 : Int32} : ∀ (f : Nat) (w3 : Int32) (res : Int32), fx1 (b_K_canBePlayed_2 F G S z1 z2 ) f w3 = some res → Ek X (D + 1) mK_canBePlayed 2 [(0, .ref 57), (1, .int z1), (2, .int z2), (3, .int w3)] [] S (some (.int res)) S := by
  refine fx1_ind ?_
  intro rec ih w3 res h
  unfold b_K_canBePlayed_2 at h
  refine x_iload_n d_K_canBePlayed_2 rfl 3 rfl ?_
  refine x_aload_n d_K_canBePlayed_3 rfl 0 rfl ?_
  refine y_getI d_K_canBePlayed_4 fl_7_30 rfl kd_57 ?_
  refine x_icmp_ge (tgt := 28) d_K_canBePlayed_7 rfl (fun c1 => ?_) (fun c1 => ?_)
  · replace h := ite_t c1 h
    refine x_iconst d_K_canBePlayed_28 ic_1 ?_
    obtain rfl := Option.some.inj h
    exact x_ret (r := some (.int (1 : Int32))) d_K_canBePlayed_29 ⟨_, rfl, rfl⟩
  · replace h := ite_f c1 h
    refine x_aload_n d_K_canBePlayed_10 rfl 0 rfl ?_
    refine x_iload_n d_K_canBePlayed_11 rfl 1 rfl ?_
    refine x_iload_n d_K_canBePlayed_12 rfl 2 rfl ?_
    refine x_iload_n d_K_canBePlayed_13 rfl 3 rfl ?_
    obtain ⟨v3, q2, h⟩ := bd_inv h
    refine y_V3i (v := v3) (S1 := S) d_K_canBePlayed_14 ml_7_104 kd_57 rfl (Nat.le_of_ble_eq_true rfl) (Nat.le_of_ble_eq_true rfl) (c_K_clashesAt (by omega) q2) ?_
    refine x_if_eq (tgt := 22) d_K_canBePlayed_17 rfl (fun c4 => ?_) (fun c4 => ?_)
    · replace h := ite_t c4 h
      obtain ⟨v5, e6, h⟩ := lt_inv h
      refine y_iinc (L1 := [(0, .ref 57), (1, .int z1), (2, .int z2), (3, .int v5)]) e6 ic_1 d_K_canBePlayed_22 3 rfl (Nat.le_of_ble_eq_true rfl) rfl rfl ?_
      refine x_goto (tgt := 2) d_K_canBePlayed_25 rfl ?_
      exact ih v5 _ h
    · replace h := ite_f c4 h
      refine x_iconst d_K_canBePlayed_20 ic_0 ?_
      obtain rfl := Option.some.inj h
      exact x_ret (r := some (.int (0 : Int32))) d_K_canBePlayed_21 ⟨_, rfl, rfl⟩
set_option maxRecDepth 100000 in
set_option maxHeartbeats 4000000 in
theorem c_K_canBePlayed {X : Nat × (Nat → Int32)} {D F G : Nat} (hD : 4 ≤ D) {S : St} {p1 : Int32} {p2 : Int32} {res : Int32} (h : fK_canBePlayed F G S p1 p2 = some res) : Ek X (D) mK_canBePlayed 0 [(0, .ref 57), (1, .int p1), (2, .int p2)] [] S (some (.int res)) S := by
  obtain ⟨D, rfl⟩ : ∃ E, D = E + 1 := ⟨D - 1, by omega⟩
  unfold fK_canBePlayed at h
  refine x_iconst d_K_canBePlayed_0 ic_0 ?_
  refine x_istore_n (L1 := [(0, .ref 57), (1, .int p1), (2, .int p2), (3, .int (0 : Int32))]) d_K_canBePlayed_1 rfl (Nat.le_of_ble_eq_true rfl) rfl rfl ?_
  refine T_K_canBePlayed_2 (by omega)   F (0 : Int32) _ h
/-! NinetyPlayers$Arranger.fewestInTheWay -/
def j_A_fewestInTheWay_112 (F G : Nat) (S : St) (z3 : Int32) (z4 : Int32) (z5 : Int32) (rec : Int32 → Int32 → Option (Int32)) (_ : St) (y6 : Int32) (y7 : Int32) (s0 : Int32) : Option (Int32) :=
  if s0 = 0 then lt (y7 + 1) fun v16 => rec y6 v16 else bd (fK_canBePlayed F G S (z3 &&& (y7 ^^^ (-1 : Int32))) (z4 &&& (y7 ^^^ (-1 : Int32)))) fun v19 => if v19 = 0 then lt (y7 + 1) fun v21 => rec y6 v21 else lt (y7 + 1) fun v23 => rec y7 v23
def j_A_fewestInTheWay_111 (F G : Nat) (S : St) (z3 : Int32) (z4 : Int32) (z5 : Int32) (rec : Int32 → Int32 → Option (Int32)) (_ : St) (y6 : Int32) (y7 : Int32) : Option (Int32) :=
  j_A_fewestInTheWay_112 F G S z3 z4 z5 rec  S y6 y7 (0 : Int32)
def j_A_fewestInTheWay_107 (F G : Nat) (S : St) (z3 : Int32) (z4 : Int32) (z5 : Int32) (rec : Int32 → Int32 → Option (Int32)) (_ : St) (y6 : Int32) (y7 : Int32) : Option (Int32) :=
  j_A_fewestInTheWay_112 F G S z3 z4 z5 rec  S y6 y7 (1 : Int32)
def b_A_fewestInTheWay_66 (F G : Nat) (S : St) (z3 : Int32) (z4 : Int32) (z5 : Int32) (rec : Int32 → Int32 → Option (Int32)) (w6 : Int32) (w7 : Int32) : Option (Int32) :=
  if ((1 : Int32) <<< ((S.1 57 1) &&& 31)) ≤ w7 then some w6 else if (w7 &&& (z5 ^^^ (-1 : Int32))) = 0 then if w6 = (-1 : Int32) then j_A_fewestInTheWay_107 F G S z3 z4 z5 rec  S w6 w7 else bd (fA_isLessMissed F G S w7 w6) fun v13 => if v13 = 0 then j_A_fewestInTheWay_111 F G S z3 z4 z5 rec  S w6 w7 else j_A_fewestInTheWay_107 F G S z3 z4 z5 rec  S w6 w7 else j_A_fewestInTheWay_111 F G S z3 z4 z5 rec  S w6 w7
def j_A_fewestInTheWay_40 (F G : Nat) (S : St) (y3 : Int32) (s0 : Int32) (s1 : Int32) : Option (Int32) :=
  lt (s0 ||| s1) fun v5 => lt ((S.1 57 5) ||| (S.1 57 6)) fun v7 => fx2 (b_A_fewestInTheWay_66 F G S y3 v5 v7) F (-1 : Int32) (0 : Int32)
def j_A_fewestInTheWay_19 (F G : Nat) (S : St) (y1 : Int32) (y2 : Int32) (s0 : Int32) (s1 : Int32) : Option (Int32) :=
  lt (s0 ||| s1) fun v2 => if y2 = (2 : Int32) then j_A_fewestInTheWay_40 F G  S v2 (S.1 57 6) ((1 : Int32) <<< (y1 &&& 31)) else j_A_fewestInTheWay_40 F G  S v2 (S.1 57 6) (0 : Int32)
def fA_fewestInTheWay (F G : Nat) (S : St) (p1 : Int32) (p2 : Int32) : Option (Int32) :=
  if p2 = (1 : Int32) then j_A_fewestInTheWay_19 F G  S p1 p2 (S.1 57 5) ((1 : Int32) <<< (p1 &&& 31)) else j_A_fewestInTheWay_19 F G  S p1 p2 (S.1 57 5) (0 : Int32)
set_option maxRecDepth 100000 in
set_option maxHeartbeats 4000000 in
theorem T_A_fewestInTheWay_66 {X : Nat × (Nat → Int32)} {D F G : Nat} (hD : 5 ≤ D + 1) {S : St} {z3 : Int32} {z4 : Int32} {z5 : Int32} : ∀ (f : Nat) (w6 : Int32) (w7 : Int32) (res : Int32), fx2 (b_A_fewestInTheWay_66 F G S z3 z4 z5 ) f w6 w7 = some res → Ek X (D + 1) mA_fewestInTheWay 66 [(0, .ref 56), (3, .int z3), (4, .int z4), (5, .int z5), (6, .int w6), (7, .int w7)] [] S (some (.int res)) S := by
  refine fx2_ind ?_
  intro rec ih w6 w7 res h
  unfold b_A_fewestInTheWay_66 at h
  have J112 : ∀ (y6 : Int32) (y7 : Int32) (s0 : Int32) (res : Int32), j_A_fewestInTheWay_112 F G S z3 z4 z5 rec S y6 y7 s0 = some res → Ek X (D + 1) mA_fewestInTheWay 112 [(0, .ref 56), (3, .int z3), (4, .int z4), (5, .int z5), (6, .int y6), (7, .int y7)] [.int s0] S (some (.int res)) S := by
    intro y6 y7 s0 res h
    unfold j_A_fewestInTheWay_112 at h
    refine x_istore (L1 := [(0, .ref 56), (3, .int z3), (4, .int z4), (5, .int z5), (6, .int y6), (7, .int y7), (8, .int s0)]) d_A_fewestInTheWay_112 (Nat.le_of_ble_eq_true rfl) rfl rfl ?_
    refine x_iload d_A_fewestInTheWay_114 6 rfl ?_
    refine x_if_eq (tgt := 146) d_A_fewestInTheWay_116 rfl (fun c15 => ?_) (fun c15 => ?_)
    · replace h := ite_t c15 h
      obtain ⟨v16, e17, h⟩ := lt_inv h
      refine y_iinc (L1 := [(0, .ref 56), (3, .int z3), (4, .int z4), (5, .int z5), (6, .int y6), (7, .int v16), (8, .int s0)]) e17 ic_1 d_A_fewestInTheWay_146 5 rfl (Nat.le_of_ble_eq_true rfl) rfl rfl ?_
      refine x_goto (tgt := 66) d_A_fewestInTheWay_149 rfl ?_
      refine y_pick (L1 := [(0, .ref 56), (3, .int z3), (4, .int z4), (5, .int z5), (6, .int y6), (7, .int v16)]) [0, 1, 2, 3, 4, 5] rfl ?_
      exact ih y6 v16 _ h
    · replace h := ite_f c15 h
      refine x_aload_n d_A_fewestInTheWay_119 rfl 0 rfl ?_
      refine y_getR d_A_fewestInTheWay_120 fl_8_12 rfl kd_56 rr_56_0 ?_
      refine x_iload_n d_A_fewestInTheWay_123 rfl 1 rfl ?_
      refine x_iload d_A_fewestInTheWay_124 5 rfl ?_
      refine x_iconst d_A_fewestInTheWay_126 ic_m1 ?_
      refine x_ixor d_A_fewestInTheWay_127 ?_
      refine x_iand d_A_fewestInTheWay_128 ?_
      refine x_iload d_A_fewestInTheWay_129 2 rfl ?_
      refine x_iload d_A_fewestInTheWay_131 5 rfl ?_
      refine x_iconst d_A_fewestInTheWay_133 ic_m1 ?_
      refine x_ixor d_A_fewestInTheWay_134 ?_
      refine x_iand d_A_fewestInTheWay_135 ?_
      obtain ⟨v19, q18, h⟩ := bd_inv h
      refine y_V2i (v := v19) (S1 := S) d_A_fewestInTheWay_136 ml_8_110 kd_57 rfl (Nat.le_of_ble_eq_true rfl) (Nat.le_of_ble_eq_true rfl) (c_K_canBePlayed (by omega) q18) ?_
      refine x_if_eq (tgt := 146) d_A_fewestInTheWay_139 rfl (fun c20 => ?_) (fun c20 => ?_)
      · replace h := ite_t c20 h
        obtain ⟨v21, e22, h⟩ := lt_inv h
        refine y_iinc (L1 := [(0, .ref 56), (3, .int z3), (4, .int z4), (5, .int z5), (6, .int y6), (7, .int v21), (8, .int s0)]) e22 ic_1 d_A_fewestInTheWay_146 5 rfl (Nat.le_of_ble_eq_true rfl) rfl rfl ?_
        refine x_goto (tgt := 66) d_A_fewestInTheWay_149 rfl ?_
        refine y_pick (L1 := [(0, .ref 56), (3, .int z3), (4, .int z4), (5, .int z5), (6, .int y6), (7, .int v21)]) [0, 1, 2, 3, 4, 5] rfl ?_
        exact ih y6 v21 _ h
      · replace h := ite_f c20 h
        refine x_iload d_A_fewestInTheWay_142 5 rfl ?_
        refine x_istore (L1 := [(0, .ref 56), (3, .int z3), (4, .int z4), (5, .int z5), (6, .int y7), (7, .int y7), (8, .int s0)]) d_A_fewestInTheWay_144 (Nat.le_of_ble_eq_true rfl) rfl rfl ?_
        obtain ⟨v23, e24, h⟩ := lt_inv h
        refine y_iinc (L1 := [(0, .ref 56), (3, .int z3), (4, .int z4), (5, .int z5), (6, .int y7), (7, .int v23), (8, .int s0)]) e24 ic_1 d_A_fewestInTheWay_146 5 rfl (Nat.le_of_ble_eq_true rfl) rfl rfl ?_
        refine x_goto (tgt := 66) d_A_fewestInTheWay_149 rfl ?_
        refine y_pick (L1 := [(0, .ref 56), (3, .int z3), (4, .int z4), (5, .int z5), (6, .int y7), (7, .int v23)]) [0, 1, 2, 3, 4, 5] rfl ?_
        exact ih y7 v23 _ h
  have J111 : ∀ (y6 : Int32) (y7 : Int32) (res : Int32), j_A_fewestInTheWay_111 F G S z3 z4 z5 rec S y6 y7 = some res → Ek X (D + 1) mA_fewestInTheWay 111 [(0, .ref 56), (3, .int z3), (4, .int z4), (5, .int z5), (6, .int y6), (7, .int y7)] [] S (some (.int res)) S := by
    intro y6 y7 res h
    unfold j_A_fewestInTheWay_111 at h
    refine x_iconst d_A_fewestInTheWay_111 ic_0 ?_
    exact J112 y6 y7 (0 : Int32) _ h
  have J107 : ∀ (y6 : Int32) (y7 : Int32) (res : Int32), j_A_fewestInTheWay_107 F G S z3 z4 z5 rec S y6 y7 = some res → Ek X (D + 1) mA_fewestInTheWay 107 [(0, .ref 56), (3, .int z3), (4, .int z4), (5, .int z5), (6, .int y6), (7, .int y7)] [] S (some (.int res)) S := by
    intro y6 y7 res h
    unfold j_A_fewestInTheWay_107 at h
    refine x_iconst d_A_fewestInTheWay_107 ic_1 ?_
    refine x_goto (tgt := 112) d_A_fewestInTheWay_108 rfl ?_
    exact J112 y6 y7 (1 : Int32) _ h
  refine x_iload d_A_fewestInTheWay_66 5 rfl ?_
  refine x_iconst d_A_fewestInTheWay_68 ic_1 ?_
  refine x_aload_n d_A_fewestInTheWay_69 rfl 0 rfl ?_
  refine y_getR d_A_fewestInTheWay_70 fl_8_12 rfl kd_56 rr_56_0 ?_
  refine y_getI d_A_fewestInTheWay_73 fl_8_41 rfl kd_57 ?_
  refine x_ishl d_A_fewestInTheWay_76 ?_
  refine x_icmp_ge (tgt := 152) d_A_fewestInTheWay_77 rfl (fun c9 => ?_) (fun c9 => ?_)
  · replace h := ite_t c9 h
    refine x_iload d_A_fewestInTheWay_152 4 rfl ?_
    obtain rfl := Option.some.inj h
    exact x_ret (r := some (.int w6)) d_A_fewestInTheWay_154 ⟨_, rfl, rfl⟩
  · replace h := ite_f c9 h
    refine x_iload d_A_fewestInTheWay_80 5 rfl ?_
    refine x_iload d_A_fewestInTheWay_82 3 rfl ?_
    refine x_iconst d_A_fewestInTheWay_84 ic_m1 ?_
    refine x_ixor d_A_fewestInTheWay_85 ?_
    refine x_iand d_A_fewestInTheWay_86 ?_
    refine x_if_ne (tgt := 111) d_A_fewestInTheWay_87 rfl (fun c10 => ?_) (fun c10 => ?_)
    · replace h := ite_f c10 h
      exact J111 w6 w7 _ h
    · replace h := ite_t c10 h
      refine x_iload d_A_fewestInTheWay_90 4 rfl ?_
      refine x_iconst d_A_fewestInTheWay_92 ic_m1 ?_
      refine x_icmp_eq (tgt := 107) d_A_fewestInTheWay_93 rfl (fun c11 => ?_) (fun c11 => ?_)
      · replace h := ite_t c11 h
        exact J107 w6 w7 _ h
      · replace h := ite_f c11 h
        refine x_aload_n d_A_fewestInTheWay_96 rfl 0 rfl ?_
        refine x_iload d_A_fewestInTheWay_97 5 rfl ?_
        refine x_iload d_A_fewestInTheWay_99 4 rfl ?_
        obtain ⟨v13, q12, h⟩ := bd_inv h
        refine y_V2i (v := v13) (S1 := S) d_A_fewestInTheWay_101 ml_8_107 kd_56 rfl (Nat.le_of_ble_eq_true rfl) (Nat.le_of_ble_eq_true rfl) (c_A_isLessMissed (by omega) q12) ?_
        refine x_if_eq (tgt := 111) d_A_fewestInTheWay_104 rfl (fun c14 => ?_) (fun c14 => ?_)
        · replace h := ite_t c14 h
          exact J111 w6 w7 _ h
        · replace h := ite_f c14 h
          exact J107 w6 w7 _ h
set_option maxRecDepth 100000 in
set_option maxHeartbeats 4000000 in
theorem c_A_fewestInTheWay {X : Nat × (Nat → Int32)} {D F G : Nat} (hD : 5 ≤ D) {S : St} {p1 : Int32} {p2 : Int32} {res : Int32} (h : fA_fewestInTheWay F G S p1 p2 = some res) : Ek X (D) mA_fewestInTheWay 0 [(0, .ref 56), (1, .int p1), (2, .int p2)] [] S (some (.int res)) S := by
  obtain ⟨D, rfl⟩ : ∃ E, D = E + 1 := ⟨D - 1, by omega⟩
  unfold fA_fewestInTheWay at h
  have J40 : ∀ (y3 : Int32) (s0 : Int32) (s1 : Int32) (res : Int32), j_A_fewestInTheWay_40 F G S y3 s0 s1 = some res → Ek X (D + 1) mA_fewestInTheWay 40 [(0, .ref 56), (3, .int y3)] [.int s1, .int s0] S (some (.int res)) S := by
    intro y3 s0 s1 res h
    unfold j_A_fewestInTheWay_40 at h
    refine x_ior d_A_fewestInTheWay_40 ?_
    obtain ⟨v5, e6, h⟩ := lt_inv h
    refine y_istore (L1 := [(0, .ref 56), (3, .int y3), (4, .int v5)]) e6 d_A_fewestInTheWay_41 (Nat.le_of_ble_eq_true rfl) rfl rfl ?_
    refine x_aload_n d_A_fewestInTheWay_43 rfl 0 rfl ?_
    refine y_getR d_A_fewestInTheWay_44 fl_8_12 rfl kd_56 rr_56_0 ?_
    refine y_getI d_A_fewestInTheWay_47 fl_8_105 rfl kd_57 ?_
    refine x_aload_n d_A_fewestInTheWay_50 rfl 0 rfl ?_
    refine y_getR d_A_fewestInTheWay_51 fl_8_12 rfl kd_56 rr_56_0 ?_
    refine y_getI d_A_fewestInTheWay_54 fl_8_106 rfl kd_57 ?_
    refine x_ior d_A_fewestInTheWay_57 ?_
    obtain ⟨v7, e8, h⟩ := lt_inv h
    refine y_istore (L1 := [(0, .ref 56), (3, .int y3), (4, .int v5), (5, .int v7)]) e8 d_A_fewestInTheWay_58 (Nat.le_of_ble_eq_true rfl) rfl rfl ?_
    refine x_iconst d_A_fewestInTheWay_60 ic_m1 ?_
    refine x_istore (L1 := [(0, .ref 56), (3, .int y3), (4, .int v5), (5, .int v7), (6, .int (-1 : Int32))]) d_A_fewestInTheWay_61 (Nat.le_of_ble_eq_true rfl) rfl rfl ?_
    refine x_iconst d_A_fewestInTheWay_63 ic_0 ?_
    refine x_istore (L1 := [(0, .ref 56), (3, .int y3), (4, .int v5), (5, .int v7), (6, .int (-1 : Int32)), (7, .int (0 : Int32))]) d_A_fewestInTheWay_64 (Nat.le_of_ble_eq_true rfl) rfl rfl ?_
    refine T_A_fewestInTheWay_66 (by omega)   F (-1 : Int32) (0 : Int32) _ h
  have J19 : ∀ (y1 : Int32) (y2 : Int32) (s0 : Int32) (s1 : Int32) (res : Int32), j_A_fewestInTheWay_19 F G S y1 y2 s0 s1 = some res → Ek X (D + 1) mA_fewestInTheWay 19 [(0, .ref 56), (1, .int y1), (2, .int y2)] [.int s1, .int s0] S (some (.int res)) S := by
    intro y1 y2 s0 s1 res h
    unfold j_A_fewestInTheWay_19 at h
    refine x_ior d_A_fewestInTheWay_19 ?_
    obtain ⟨v2, e3, h⟩ := lt_inv h
    refine y_istore_n (L1 := [(0, .ref 56), (1, .int y1), (2, .int y2), (3, .int v2)]) e3 d_A_fewestInTheWay_20 rfl (Nat.le_of_ble_eq_true rfl) rfl rfl ?_
    refine x_aload_n d_A_fewestInTheWay_21 rfl 0 rfl ?_
    refine y_getR d_A_fewestInTheWay_22 fl_8_12 rfl kd_56 rr_56_0 ?_
    refine y_getI d_A_fewestInTheWay_25 fl_8_106 rfl kd_57 ?_
    refine x_iload_n d_A_fewestInTheWay_28 rfl 2 rfl ?_
    refine x_iconst d_A_fewestInTheWay_29 ic_2 ?_
    refine x_icmp_ne (tgt := 39) d_A_fewestInTheWay_30 rfl (fun c4 => ?_) (fun c4 => ?_)
    · replace h := ite_f c4 h
      refine x_iconst d_A_fewestInTheWay_39 ic_0 ?_
      refine y_pick (L1 := [(0, .ref 56), (3, .int v2)]) [0, 3] rfl ?_
      exact J40 v2 (S.1 57 6) (0 : Int32) _ h
    · replace h := ite_t c4 h
      refine x_iconst d_A_fewestInTheWay_33 ic_1 ?_
      refine x_iload_n d_A_fewestInTheWay_34 rfl 1 rfl ?_
      refine x_ishl d_A_fewestInTheWay_35 ?_
      refine x_goto (tgt := 40) d_A_fewestInTheWay_36 rfl ?_
      refine y_pick (L1 := [(0, .ref 56), (3, .int v2)]) [0, 3] rfl ?_
      exact J40 v2 (S.1 57 6) ((1 : Int32) <<< (y1 &&& 31)) _ h
  refine x_aload_n d_A_fewestInTheWay_0 rfl 0 rfl ?_
  refine y_getR d_A_fewestInTheWay_1 fl_8_12 rfl kd_56 rr_56_0 ?_
  refine y_getI d_A_fewestInTheWay_4 fl_8_105 rfl kd_57 ?_
  refine x_iload_n d_A_fewestInTheWay_7 rfl 2 rfl ?_
  refine x_iconst d_A_fewestInTheWay_8 ic_1 ?_
  refine x_icmp_ne (tgt := 18) d_A_fewestInTheWay_9 rfl (fun c1 => ?_) (fun c1 => ?_)
  · replace h := ite_f c1 h
    refine x_iconst d_A_fewestInTheWay_18 ic_0 ?_
    exact J19 p1 p2 (S.1 57 5) (0 : Int32) _ h
  · replace h := ite_t c1 h
    refine x_iconst d_A_fewestInTheWay_12 ic_1 ?_
    refine x_iload_n d_A_fewestInTheWay_13 rfl 1 rfl ?_
    refine x_ishl d_A_fewestInTheWay_14 ?_
    refine x_goto (tgt := 19) d_A_fewestInTheWay_15 rfl ?_
    exact J19 p1 p2 (S.1 57 5) ((1 : Int32) <<< (p1 &&& 31)) _ h
/-! NinetyPlayers.giveway -/
def fN_giveway (F G : Nat) (S : St) (p1 : Int32) (p2 : Int32) (p3 : Int32) : Option (Int32 × St) :=
  bd (fN_isLeftOut F G S p1) fun v2 => if v2 = 0 then some ((-1 : Int32), S) else bd (fN_isHand F G S p2) fun v5 => if v5 = 0 then some ((-1 : Int32), S) else if p3 < 0 then some ((-1 : Int32), S) else if p3 ≤ (1 : Int32) then bd (fN_lookAtKeys F G S ) fun S10 => bd (fN_weighAll F G S10 ) fun S12 => bd (fA_fewestInTheWay F G S12 p1 p2) fun v14 => if p3 = 0 then if v14 = (-1 : Int32) then some (v14, S12) else bd (fJ_bitCount F G S12 v14) fun v18 => some (v18, S12) else some (v14, S12) else some ((-1 : Int32), S)
set_option maxRecDepth 100000 in
set_option maxHeartbeats 4000000 in
theorem c_N_giveway {X : Nat × (Nat → Int32)} {D F G : Nat} (hD : 6 ≤ D) {S : St} {p1 : Int32} {p2 : Int32} {p3 : Int32} {res : Int32 × St} (h : fN_giveway F G S p1 p2 p3 = some res) : Ek X (D) mN_giveway 0 [(0, .ref 0), (1, .int p1), (2, .int p2), (3, .int p3)] [] S (some (.int res.1)) res.2 := by
  obtain ⟨D, rfl⟩ : ∃ E, D = E + 1 := ⟨D - 1, by omega⟩
  unfold fN_giveway at h
  refine x_aload_n d_N_giveway_0 rfl 0 rfl ?_
  refine x_iload_n d_N_giveway_1 rfl 1 rfl ?_
  obtain ⟨v2, q1, h⟩ := bd_inv h
  refine y_V1i (v := v2) (S1 := S) d_N_giveway_2 ml_0_286 kd_0 rfl (Nat.le_of_ble_eq_true rfl) (Nat.le_of_ble_eq_true rfl) (c_N_isLeftOut (by omega) q1) ?_
  refine x_if_eq (tgt := 24) d_N_giveway_5 rfl (fun c3 => ?_) (fun c3 => ?_)
  · replace h := ite_t c3 h
    refine x_iconst d_N_giveway_24 ic_m1 ?_
    obtain rfl := Option.some.inj h
    exact x_ret (r := some (.int (-1 : Int32))) d_N_giveway_25 ⟨_, rfl, rfl⟩
  · replace h := ite_f c3 h
    refine x_iload_n d_N_giveway_8 rfl 2 rfl ?_
    obtain ⟨v5, q4, h⟩ := bd_inv h
    refine y_S1i (v := v5) (S1 := S) d_N_giveway_9 ml_0_173 (Nat.le_of_ble_eq_true rfl) (Nat.le_of_ble_eq_true rfl) (c_N_isHand (by omega) q4) ?_
    refine x_if_eq (tgt := 24) d_N_giveway_12 rfl (fun c6 => ?_) (fun c6 => ?_)
    · replace h := ite_t c6 h
      refine x_iconst d_N_giveway_24 ic_m1 ?_
      obtain rfl := Option.some.inj h
      exact x_ret (r := some (.int (-1 : Int32))) d_N_giveway_25 ⟨_, rfl, rfl⟩
    · replace h := ite_f c6 h
      refine x_iload_n d_N_giveway_15 rfl 3 rfl ?_
      refine x_if_lt (tgt := 24) d_N_giveway_16 rfl (fun c7 => ?_) (fun c7 => ?_)
      · replace h := ite_t c7 h
        refine x_iconst d_N_giveway_24 ic_m1 ?_
        obtain rfl := Option.some.inj h
        exact x_ret (r := some (.int (-1 : Int32))) d_N_giveway_25 ⟨_, rfl, rfl⟩
      · replace h := ite_f c7 h
        refine x_iload_n d_N_giveway_19 rfl 3 rfl ?_
        refine x_iconst d_N_giveway_20 ic_1 ?_
        refine x_icmp_le (tgt := 26) d_N_giveway_21 rfl (fun c8 => ?_) (fun c8 => ?_)
        · replace h := ite_t c8 h
          refine x_aload_n d_N_giveway_26 rfl 0 rfl ?_
          obtain ⟨S10, q9, h⟩ := bd_inv h
          refine y_V0v (S1 := S10) d_N_giveway_27 ml_0_176 kd_0 rfl (Nat.le_of_ble_eq_true rfl) (Nat.le_of_ble_eq_true rfl) (c_N_lookAtKeys (by omega) q9) ?_
          refine x_aload_n d_N_giveway_30 rfl 0 rfl ?_
          obtain ⟨S12, q11, h⟩ := bd_inv h
          refine y_V0v (S1 := S12) d_N_giveway_31 ml_0_275 kd_0 rfl (Nat.le_of_ble_eq_true rfl) (Nat.le_of_ble_eq_true rfl) (c_N_weighAll (by omega) q11) ?_
          refine x_aload_n d_N_giveway_34 rfl 0 rfl ?_
          refine y_getR d_N_giveway_35 fl_0_49 rfl kd_0 rr_0_6 ?_
          refine x_iload_n d_N_giveway_38 rfl 1 rfl ?_
          refine x_iload_n d_N_giveway_39 rfl 2 rfl ?_
          obtain ⟨v14, q13, h⟩ := bd_inv h
          refine y_V2i (v := v14) (S1 := S12) d_N_giveway_40 ml_0_292 kd_56 rfl (Nat.le_of_ble_eq_true rfl) (Nat.le_of_ble_eq_true rfl) (c_A_fewestInTheWay (by omega) q13) ?_
          refine x_istore (L1 := [(0, .ref 0), (1, .int p1), (2, .int p2), (3, .int p3), (4, .int v14)]) d_N_giveway_43 (Nat.le_of_ble_eq_true rfl) rfl rfl ?_
          refine x_iload_n d_N_giveway_45 rfl 3 rfl ?_
          refine x_if_ne (tgt := 63) d_N_giveway_46 rfl (fun c15 => ?_) (fun c15 => ?_)
          · replace h := ite_f c15 h
            refine x_iload d_N_giveway_63 4 rfl ?_
            obtain rfl := Option.some.inj h
            exact x_ret (r := some (.int v14)) d_N_giveway_65 ⟨_, rfl, rfl⟩
          · replace h := ite_t c15 h
            refine x_iload d_N_giveway_49 4 rfl ?_
            refine x_iconst d_N_giveway_51 ic_m1 ?_
            refine x_icmp_eq (tgt := 63) d_N_giveway_52 rfl (fun c16 => ?_) (fun c16 => ?_)
            · replace h := ite_t c16 h
              refine x_iload d_N_giveway_63 4 rfl ?_
              obtain rfl := Option.some.inj h
              exact x_ret (r := some (.int v14)) d_N_giveway_65 ⟨_, rfl, rfl⟩
            · replace h := ite_f c16 h
              refine x_iload d_N_giveway_55 4 rfl ?_
              obtain ⟨v18, q17, h⟩ := bd_inv h
              refine y_S1i (v := v18) (S1 := S12) d_N_giveway_57 ml_0_211 (Nat.le_of_ble_eq_true rfl) (Nat.le_of_ble_eq_true rfl) (c_J_bitCount (by omega) q17) ?_
              refine x_goto (tgt := 65) d_N_giveway_60 rfl ?_
              obtain rfl := Option.some.inj h
              exact x_ret (r := some (.int v18)) d_N_giveway_65 ⟨_, rfl, rfl⟩
        · replace h := ite_f c8 h
          refine x_iconst d_N_giveway_24 ic_m1 ?_
          obtain rfl := Option.some.inj h
          exact x_ret (r := some (.int (-1 : Int32))) d_N_giveway_25 ⟨_, rfl, rfl⟩
/-! NinetyPlayersModel.giveway -/
def j_M_giveway_140 (F G : Nat) (S : St) (z3 : Int32) (z4 : Int32) (z5 : Int32) (z6 : Int32) (k179 : Int32 → Option (Int32 × St)) (rec : Int32 → Int32 → Option (Int32 × St)) (_ : St) (y7 : Int32) (y8 : Int32) : Option (Int32 × St) :=
  bd (fM_canBePlayed F G S (z4 &&& (y8 ^^^ (-1 : Int32))) (z5 &&& (y8 ^^^ (-1 : Int32))) (S.1 78 50) (S.1 78 49)) fun v48 => if v48 = 0 then lt (y8 + 1) fun v50 => rec y7 v50 else lt (y8 + 1) fun v52 => rec y8 v52
def b_M_giveway_74 (F G : Nat) (S : St) (z3 : Int32) (z4 : Int32) (z5 : Int32) (z6 : Int32) (k179 : Int32 → Option (Int32 × St)) (rec : Int32 → Int32 → Option (Int32 × St)) (w7 : Int32) (w8 : Int32) : Option (Int32 × St) :=
  if z6 < w8 then k179 w7 else if (w8 &&& (z6 ^^^ (-1 : Int32))) = 0 then if w7 < 0 then j_M_giveway_140 F G S z3 z4 z5 z6 k179 rec  S w7 w8 else bd (fM_members F G S w8) fun v29 => bd (fM_members F G S w7) fun v31 => if v31 < v29 then lt (w8 + 1) fun v33 => rec w7 v33 else bd (fM_members F G S w8) fun v36 => bd (fM_members F G S w7) fun v38 => if v36 = v38 then bd (fM_missedBy F G S w8) fun v41 => bd (fM_missedBy F G S w7) fun v43 => if v41 < v43 then j_M_giveway_140 F G S z3 z4 z5 z6 k179 rec  S w7 w8 else lt (w8 + 1) fun v45 => rec w7 v45 else j_M_giveway_140 F G S z3 z4 z5 z6 k179 rec  S w7 w8 else lt (w8 + 1) fun v25 => rec w7 v25
def fM_giveway (F G : Nat) (S : St) (p1 : Int32) (p2 : Int32) (p3 : Int32) : Option (Int32 × St) :=
  bd (fM_isOut F G S p1) fun v2 => if v2 = 0 then some ((-1 : Int32), S) else bd (fM_isHand F G S p2) fun v5 => if v5 = 0 then some ((-1 : Int32), S) else bd (fM_isIn F G S p3 (0 : Int32) (1 : Int32)) fun v8 => if v8 = 0 then some ((-1 : Int32), S) else bd (fM_fill F G S ) fun S11 => bd (fM_layMissed F G S11 ) fun S13 => gd (inB p1 41) (lt (sI S13 101 p1.toNatClampNeg p2) fun S15 => bd (fM_given F G S15 (1 : Int32)) fun v18 => bd (fM_given F G S15 (2 : Int32)) fun v20 => lt ((v18 ||| v20) &&& (((1 : Int32) <<< (p1 &&& 31)) ^^^ (-1 : Int32))) fun v21 => fx2 (b_M_giveway_74 F G S15 p3 v18 v20 v21 (fun v54 => if 0 ≤ v54 then if p3 = 0 then bd (fM_members F G S15 v54) fun v58 => some (v58, S15) else some (v54, S15) else some ((-1 : Int32), S15))) F (-1 : Int32) (0 : Int32))
set_option maxRecDepth 100000 in
set_option maxHeartbeats 4000000 in
theorem T_M_giveway_74 {X : Nat × (Nat → Int32)} {D F G : Nat} (hD : 4 ≤ D + 1) {S : St} {z3 : Int32} {z4 : Int32} {z5 : Int32} {z6 : Int32} {k179 : Int32 → Option (Int32 × St)} (hk179 : ∀ (u7 : Int32) (res : Int32 × St), k179 u7 = some res → Ek X (D + 1) mM_giveway 179 [(3, .int z3), (7, .int u7)] [] S (some (.int res.1)) res.2) : ∀ (f : Nat) (w7 : Int32) (w8 : Int32) (res : Int32 × St), fx2 (b_M_giveway_74 F G S z3 z4 z5 z6 k179 ) f w7 w8 = some res → Ek X (D + 1) mM_giveway 74 [(0, .ref 78), (3, .int z3), (4, .int z4), (5, .int z5), (6, .int z6), (7, .int w7), (8, .int w8)] [] S (some (.int res.1)) res.2 := by
  refine fx2_ind ?_
  intro rec ih w7 w8 res h
  unfold b_M_giveway_74 at h
  have J140 : ∀ (y7 : Int32) (y8 : Int32) (res : Int32 × St), j_M_giveway_140 F G S z3 z4 z5 z6 k179 rec S y7 y8 = some res → Ek X (D + 1) mM_giveway 140 [(0, .ref 78), (3, .int z3), (4, .int z4), (5, .int z5), (6, .int z6), (7, .int y7), (8, .int y8)] [] S (some (.int res.1)) res.2 := by
    intro y7 y8 res h
    unfold j_M_giveway_140 at h
    refine x_aload_n d_M_giveway_140 rfl 0 rfl ?_
    refine x_iload d_M_giveway_141 2 rfl ?_
    refine x_iload d_M_giveway_143 6 rfl ?_
    refine x_iconst d_M_giveway_145 ic_m1 ?_
    refine x_ixor d_M_giveway_146 ?_
    refine x_iand d_M_giveway_147 ?_
    refine x_iload d_M_giveway_148 3 rfl ?_
    refine x_iload d_M_giveway_150 6 rfl ?_
    refine x_iconst d_M_giveway_152 ic_m1 ?_
    refine x_ixor d_M_giveway_153 ?_
    refine x_iand d_M_giveway_154 ?_
    refine x_aload_n d_M_giveway_155 rfl 0 rfl ?_
    refine y_getI d_M_giveway_156 fl_11_84 rfl kd_78 ?_
    refine x_aload_n d_M_giveway_159 rfl 0 rfl ?_
    refine y_getI d_M_giveway_160 fl_11_81 rfl kd_78 ?_
    obtain ⟨v48, q47, h⟩ := bd_inv h
    refine y_V4i (v := v48) (S1 := S) d_M_giveway_163 ml_11_457 kd_78 rfl (Nat.le_of_ble_eq_true rfl) (Nat.le_of_ble_eq_true rfl) (c_M_canBePlayed (by omega) q47) ?_
    refine x_if_eq (tgt := 173) d_M_giveway_166 rfl (fun c49 => ?_) (fun c49 => ?_)
    · replace h := ite_t c49 h
      obtain ⟨v50, e51, h⟩ := lt_inv h
      refine y_iinc (L1 := [(0, .ref 78), (3, .int z3), (4, .int z4), (5, .int z5), (6, .int z6), (7, .int y7), (8, .int v50)]) e51 ic_1 d_M_giveway_173 6 rfl (Nat.le_of_ble_eq_true rfl) rfl rfl ?_
      refine x_goto (tgt := 74) d_M_giveway_176 rfl ?_
      exact ih y7 v50 _ h
    · replace h := ite_f c49 h
      refine x_iload d_M_giveway_169 6 rfl ?_
      refine x_istore (L1 := [(0, .ref 78), (3, .int z3), (4, .int z4), (5, .int z5), (6, .int z6), (7, .int y8), (8, .int y8)]) d_M_giveway_171 (Nat.le_of_ble_eq_true rfl) rfl rfl ?_
      obtain ⟨v52, e53, h⟩ := lt_inv h
      refine y_iinc (L1 := [(0, .ref 78), (3, .int z3), (4, .int z4), (5, .int z5), (6, .int z6), (7, .int y8), (8, .int v52)]) e53 ic_1 d_M_giveway_173 6 rfl (Nat.le_of_ble_eq_true rfl) rfl rfl ?_
      refine x_goto (tgt := 74) d_M_giveway_176 rfl ?_
      exact ih y8 v52 _ h
  refine x_iload d_M_giveway_74 6 rfl ?_
  refine x_iload d_M_giveway_76 4 rfl ?_
  refine x_icmp_gt (tgt := 179) d_M_giveway_78 rfl (fun c23 => ?_) (fun c23 => ?_)
  · replace h := ite_t c23 h
    refine y_pick (L1 := [(3, .int z3), (7, .int w7)]) [1, 5] rfl ?_
    exact hk179 w7 _ h
  · replace h := ite_f c23 h
    refine x_iload d_M_giveway_81 6 rfl ?_
    refine x_iload d_M_giveway_83 4 rfl ?_
    refine x_iconst d_M_giveway_85 ic_m1 ?_
    refine x_ixor d_M_giveway_86 ?_
    refine x_iand d_M_giveway_87 ?_
    refine x_if_ne (tgt := 173) d_M_giveway_88 rfl (fun c24 => ?_) (fun c24 => ?_)
    · replace h := ite_f c24 h
      obtain ⟨v25, e26, h⟩ := lt_inv h
      refine y_iinc (L1 := [(0, .ref 78), (3, .int z3), (4, .int z4), (5, .int z5), (6, .int z6), (7, .int w7), (8, .int v25)]) e26 ic_1 d_M_giveway_173 6 rfl (Nat.le_of_ble_eq_true rfl) rfl rfl ?_
      refine x_goto (tgt := 74) d_M_giveway_176 rfl ?_
      exact ih w7 v25 _ h
    · replace h := ite_t c24 h
      refine x_iload d_M_giveway_91 5 rfl ?_
      refine x_if_lt (tgt := 140) d_M_giveway_93 rfl (fun c27 => ?_) (fun c27 => ?_)
      · replace h := ite_t c27 h
        exact J140 w7 w8 _ h
      · replace h := ite_f c27 h
        refine x_iload d_M_giveway_96 6 rfl ?_
        obtain ⟨v29, q28, h⟩ := bd_inv h
        refine y_S1i (v := v29) (S1 := S) d_M_giveway_98 ml_11_331 (Nat.le_of_ble_eq_true rfl) (Nat.le_of_ble_eq_true rfl) (c_M_members (by omega) q28) ?_
        refine x_iload d_M_giveway_101 5 rfl ?_
        obtain ⟨v31, q30, h⟩ := bd_inv h
        refine y_S1i (v := v31) (S1 := S) d_M_giveway_103 ml_11_331 (Nat.le_of_ble_eq_true rfl) (Nat.le_of_ble_eq_true rfl) (c_M_members (by omega) q30) ?_
        refine x_icmp_gt (tgt := 173) d_M_giveway_106 rfl (fun c32 => ?_) (fun c32 => ?_)
        · replace h := ite_t c32 h
          obtain ⟨v33, e34, h⟩ := lt_inv h
          refine y_iinc (L1 := [(0, .ref 78), (3, .int z3), (4, .int z4), (5, .int z5), (6, .int z6), (7, .int w7), (8, .int v33)]) e34 ic_1 d_M_giveway_173 6 rfl (Nat.le_of_ble_eq_true rfl) rfl rfl ?_
          refine x_goto (tgt := 74) d_M_giveway_176 rfl ?_
          exact ih w7 v33 _ h
        · replace h := ite_f c32 h
          refine x_iload d_M_giveway_109 6 rfl ?_
          obtain ⟨v36, q35, h⟩ := bd_inv h
          refine y_S1i (v := v36) (S1 := S) d_M_giveway_111 ml_11_331 (Nat.le_of_ble_eq_true rfl) (Nat.le_of_ble_eq_true rfl) (c_M_members (by omega) q35) ?_
          refine x_iload d_M_giveway_114 5 rfl ?_
          obtain ⟨v38, q37, h⟩ := bd_inv h
          refine y_S1i (v := v38) (S1 := S) d_M_giveway_116 ml_11_331 (Nat.le_of_ble_eq_true rfl) (Nat.le_of_ble_eq_true rfl) (c_M_members (by omega) q37) ?_
          refine x_icmp_ne (tgt := 140) d_M_giveway_119 rfl (fun c39 => ?_) (fun c39 => ?_)
          · replace h := ite_f c39 h
            exact J140 w7 w8 _ h
          · replace h := ite_t c39 h
            refine x_aload_n d_M_giveway_122 rfl 0 rfl ?_
            refine x_iload d_M_giveway_123 6 rfl ?_
            obtain ⟨v41, q40, h⟩ := bd_inv h
            refine y_V1i (v := v41) (S1 := S) d_M_giveway_125 ml_11_500 kd_78 rfl (Nat.le_of_ble_eq_true rfl) (Nat.le_of_ble_eq_true rfl) (c_M_missedBy (by omega) q40) ?_
            refine x_aload_n d_M_giveway_128 rfl 0 rfl ?_
            refine x_iload d_M_giveway_129 5 rfl ?_
            obtain ⟨v43, q42, h⟩ := bd_inv h
            refine y_V1i (v := v43) (S1 := S) d_M_giveway_131 ml_11_500 kd_78 rfl (Nat.le_of_ble_eq_true rfl) (Nat.le_of_ble_eq_true rfl) (c_M_missedBy (by omega) q42) ?_
            refine x_icmp_lt (tgt := 140) d_M_giveway_134 rfl (fun c44 => ?_) (fun c44 => ?_)
            · replace h := ite_t c44 h
              exact J140 w7 w8 _ h
            · replace h := ite_f c44 h
              refine x_goto (tgt := 173) d_M_giveway_137 rfl ?_
              obtain ⟨v45, e46, h⟩ := lt_inv h
              refine y_iinc (L1 := [(0, .ref 78), (3, .int z3), (4, .int z4), (5, .int z5), (6, .int z6), (7, .int w7), (8, .int v45)]) e46 ic_1 d_M_giveway_173 6 rfl (Nat.le_of_ble_eq_true rfl) rfl rfl ?_
              refine x_goto (tgt := 74) d_M_giveway_176 rfl ?_
              exact ih w7 v45 _ h
set_option maxRecDepth 100000 in
set_option maxHeartbeats 4000000 in
theorem c_M_giveway {X : Nat × (Nat → Int32)} {D F G : Nat} (hD : 4 ≤ D) {S : St} {p1 : Int32} {p2 : Int32} {p3 : Int32} {res : Int32 × St} (h : fM_giveway F G S p1 p2 p3 = some res) : Ek X (D) mM_giveway 0 [(0, .ref 78), (1, .int p1), (2, .int p2), (3, .int p3)] [] S (some (.int res.1)) res.2 := by
  obtain ⟨D, rfl⟩ : ∃ E, D = E + 1 := ⟨D - 1, by omega⟩
  unfold fM_giveway at h
  refine x_aload_n d_M_giveway_0 rfl 0 rfl ?_
  refine x_iload_n d_M_giveway_1 rfl 1 rfl ?_
  obtain ⟨v2, q1, h⟩ := bd_inv h
  refine y_V1i (v := v2) (S1 := S) d_M_giveway_2 ml_11_515 kd_78 rfl (Nat.le_of_ble_eq_true rfl) (Nat.le_of_ble_eq_true rfl) (c_M_isOut (by omega) q1) ?_
  refine x_if_eq (tgt := 24) d_M_giveway_5 rfl (fun c3 => ?_) (fun c3 => ?_)
  · replace h := ite_t c3 h
    refine x_iconst d_M_giveway_24 ic_m1 ?_
    obtain rfl := Option.some.inj h
    exact x_ret (r := some (.int (-1 : Int32))) d_M_giveway_25 ⟨_, rfl, rfl⟩
  · replace h := ite_f c3 h
    refine x_iload_n d_M_giveway_8 rfl 2 rfl ?_
    obtain ⟨v5, q4, h⟩ := bd_inv h
    refine y_S1i (v := v5) (S1 := S) d_M_giveway_9 ml_11_476 (Nat.le_of_ble_eq_true rfl) (Nat.le_of_ble_eq_true rfl) (c_M_isHand (by omega) q4) ?_
    refine x_if_eq (tgt := 24) d_M_giveway_12 rfl (fun c6 => ?_) (fun c6 => ?_)
    · replace h := ite_t c6 h
      refine x_iconst d_M_giveway_24 ic_m1 ?_
      obtain rfl := Option.some.inj h
      exact x_ret (r := some (.int (-1 : Int32))) d_M_giveway_25 ⟨_, rfl, rfl⟩
    · replace h := ite_f c6 h
      refine x_iload_n d_M_giveway_15 rfl 3 rfl ?_
      refine x_iconst d_M_giveway_16 ic_0 ?_
      refine x_iconst d_M_giveway_17 ic_1 ?_
      obtain ⟨v8, q7, h⟩ := bd_inv h
      refine y_S3i (v := v8) (S1 := S) d_M_giveway_18 ml_11_429 (Nat.le_of_ble_eq_true rfl) (Nat.le_of_ble_eq_true rfl) (c_M_isIn (by omega) q7) ?_
      refine x_if_ne (tgt := 26) d_M_giveway_21 rfl (fun c9 => ?_) (fun c9 => ?_)
      · replace h := ite_f c9 h
        refine x_aload_n d_M_giveway_26 rfl 0 rfl ?_
        obtain ⟨S11, q10, h⟩ := bd_inv h
        refine y_V0v (S1 := S11) d_M_giveway_27 ml_11_464 kd_78 rfl (Nat.le_of_ble_eq_true rfl) (Nat.le_of_ble_eq_true rfl) (c_M_fill (by omega) q10) ?_
        refine x_aload_n d_M_giveway_30 rfl 0 rfl ?_
        obtain ⟨S13, q12, h⟩ := bd_inv h
        refine y_V0v (S1 := S13) d_M_giveway_31 ml_11_497 kd_78 rfl (Nat.le_of_ble_eq_true rfl) (Nat.le_of_ble_eq_true rfl) (c_M_layMissed (by omega) q12) ?_
        refine x_aload_n d_M_giveway_34 rfl 0 rfl ?_
        refine y_getR d_M_giveway_35 fl_11_96 rfl kd_78 rr_78_59 ?_
        refine x_iload_n d_M_giveway_38 rfl 1 rfl ?_
        refine x_iload_n d_M_giveway_39 rfl 2 rfl ?_
        obtain ⟨g14, h⟩ := gd_inv h
        obtain ⟨S15, e16, h⟩ := lt_inv h
        refine y_iast e16 d_M_giveway_40 kd_101 g14 ?_
        refine x_aload_n d_M_giveway_41 rfl 0 rfl ?_
        refine x_iconst d_M_giveway_42 ic_1 ?_
        obtain ⟨v18, q17, h⟩ := bd_inv h
        refine y_V1i (v := v18) (S1 := S15) d_M_giveway_43 ml_11_454 kd_78 rfl (Nat.le_of_ble_eq_true rfl) (Nat.le_of_ble_eq_true rfl) (c_M_given (by omega) q17) ?_
        refine x_istore (L1 := [(0, .ref 78), (1, .int p1), (2, .int p2), (3, .int p3), (4, .int v18)]) d_M_giveway_46 (Nat.le_of_ble_eq_true rfl) rfl rfl ?_
        refine x_aload_n d_M_giveway_48 rfl 0 rfl ?_
        refine x_iconst d_M_giveway_49 ic_2 ?_
        obtain ⟨v20, q19, h⟩ := bd_inv h
        refine y_V1i (v := v20) (S1 := S15) d_M_giveway_50 ml_11_454 kd_78 rfl (Nat.le_of_ble_eq_true rfl) (Nat.le_of_ble_eq_true rfl) (c_M_given (by omega) q19) ?_
        refine x_istore (L1 := [(0, .ref 78), (1, .int p1), (2, .int p2), (3, .int p3), (4, .int v18), (5, .int v20)]) d_M_giveway_53 (Nat.le_of_ble_eq_true rfl) rfl rfl ?_
        refine x_iload d_M_giveway_55 4 rfl ?_
        refine x_iload d_M_giveway_57 5 rfl ?_
        refine x_ior d_M_giveway_59 ?_
        refine x_iconst d_M_giveway_60 ic_1 ?_
        refine x_iload_n d_M_giveway_61 rfl 1 rfl ?_
        refine x_ishl d_M_giveway_62 ?_
        refine x_iconst d_M_giveway_63 ic_m1 ?_
        refine x_ixor d_M_giveway_64 ?_
        refine x_iand d_M_giveway_65 ?_
        obtain ⟨v21, e22, h⟩ := lt_inv h
        refine y_istore (L1 := [(0, .ref 78), (1, .int p1), (2, .int p2), (3, .int p3), (4, .int v18), (5, .int v20), (6, .int v21)]) e22 d_M_giveway_66 (Nat.le_of_ble_eq_true rfl) rfl rfl ?_
        refine x_iconst d_M_giveway_68 ic_m1 ?_
        refine x_istore (L1 := [(0, .ref 78), (1, .int p1), (2, .int p2), (3, .int p3), (4, .int v18), (5, .int v20), (6, .int v21), (7, .int (-1 : Int32))]) d_M_giveway_69 (Nat.le_of_ble_eq_true rfl) rfl rfl ?_
        refine x_iconst d_M_giveway_71 ic_0 ?_
        refine x_istore (L1 := [(0, .ref 78), (1, .int p1), (2, .int p2), (3, .int p3), (4, .int v18), (5, .int v20), (6, .int v21), (7, .int (-1 : Int32)), (8, .int (0 : Int32))]) d_M_giveway_72 (Nat.le_of_ble_eq_true rfl) rfl rfl ?_
        refine y_pick (L1 := [(0, .ref 78), (3, .int p3), (4, .int v18), (5, .int v20), (6, .int v21), (7, .int (-1 : Int32)), (8, .int (0 : Int32))]) [0, 3, 4, 5, 6, 7, 8] rfl ?_
        refine T_M_giveway_74 (by omega)  ?_ F (-1 : Int32) (0 : Int32) _ h
        · intro v54 res h
          refine x_iload d_M_giveway_179 1 rfl ?_
          refine x_if_ge (tgt := 188) d_M_giveway_181 rfl (fun c55 => ?_) (fun c55 => ?_)
          · replace h := ite_t c55 h
            refine x_iload_n d_M_giveway_188 rfl 0 rfl ?_
            refine x_if_ne (tgt := 200) d_M_giveway_189 rfl (fun c56 => ?_) (fun c56 => ?_)
            · replace h := ite_f c56 h
              refine x_iload d_M_giveway_200 1 rfl ?_
              obtain rfl := Option.some.inj h
              exact x_ret (r := some (.int v54)) d_M_giveway_202 ⟨_, rfl, rfl⟩
            · replace h := ite_t c56 h
              refine x_iload d_M_giveway_192 1 rfl ?_
              obtain ⟨v58, q57, h⟩ := bd_inv h
              refine y_S1i (v := v58) (S1 := S15) d_M_giveway_194 ml_11_331 (Nat.le_of_ble_eq_true rfl) (Nat.le_of_ble_eq_true rfl) (c_M_members (by omega) q57) ?_
              refine x_goto (tgt := 202) d_M_giveway_197 rfl ?_
              obtain rfl := Option.some.inj h
              exact x_ret (r := some (.int v58)) d_M_giveway_202 ⟨_, rfl, rfl⟩
          · replace h := ite_f c55 h
            refine x_iconst d_M_giveway_184 ic_m1 ?_
            refine x_goto (tgt := 202) d_M_giveway_185 rfl ?_
            obtain rfl := Option.some.inj h
            exact x_ret (r := some (.int (-1 : Int32))) d_M_giveway_202 ⟨_, rfl, rfl⟩
      · replace h := ite_t c9 h
        refine x_iconst d_M_giveway_24 ic_m1 ?_
        obtain rfl := Option.some.inj h
        exact x_ret (r := some (.int (-1 : Int32))) d_M_giveway_25 ⟨_, rfl, rfl⟩
/-! NinetyPlayers$Keyboard.handForShifted -/
def j_K_handForShifted_83 (F G : Nat) (S : St) (y1 : Int32) (y3 : Int32) (s0 : Int32) : Option (Int32 × St) :=
  gd (inB y1 10) (lt (sI S 58 y1.toNatClampNeg y3) fun S21 => some (s0, S21))
def fK_handForShifted (F G : Nat) (S : St) (p1 : Int32) (p2 : Int32) : Option (Int32 × St) :=
  gd (inB p1 10) (lt (S.1 58 p1.toNatClampNeg) fun v2 => lt (v2 + (p2 * (12 : Int32))) fun v4 => bd (fN_isKey F G S v4) fun v7 => if v7 = 0 then some ((0 : Int32), S) else lt ((1 : Int32) <<< (p1 &&& 31)) fun v9 => gd (inB p1 10) (lt (sI S 58 p1.toNatClampNeg v4) fun S12 => bd (fK_canBePlayed F G S12 ((S12.1 57 5) ||| v9) (S12.1 57 6)) fun v15 => if v15 = 0 then bd (fK_canBePlayed F G S12 (S12.1 57 5) ((S12.1 57 6) ||| v9)) fun v18 => if v18 = 0 then j_K_handForShifted_83 F G  S12 p1 v2 (0 : Int32) else j_K_handForShifted_83 F G  S12 p1 v2 (2 : Int32) else j_K_handForShifted_83 F G  S12 p1 v2 (1 : Int32)))
set_option maxRecDepth 100000 in
set_option maxHeartbeats 4000000 in
theorem c_K_handForShifted {X : Nat × (Nat → Int32)} {D F G : Nat} (hD : 5 ≤ D) {S : St} {p1 : Int32} {p2 : Int32} {res : Int32 × St} (h : fK_handForShifted F G S p1 p2 = some res) : Ek X (D) mK_handForShifted 0 [(0, .ref 57), (1, .int p1), (2, .int p2)] [] S (some (.int res.1)) res.2 := by
  obtain ⟨D, rfl⟩ : ∃ E, D = E + 1 := ⟨D - 1, by omega⟩
  unfold fK_handForShifted at h
  have J83 : ∀ (S : St) (y1 : Int32) (y3 : Int32) (s0 : Int32) (res : Int32 × St), j_K_handForShifted_83 F G S y1 y3 s0 = some res → Ek X (D + 1) mK_handForShifted 83 [(0, .ref 57), (1, .int y1), (3, .int y3)] [.int s0] S (some (.int res.1)) res.2 := by
    intro S y1 y3 s0 res h
    unfold j_K_handForShifted_83 at h
    refine x_istore (L1 := [(0, .ref 57), (1, .int y1), (3, .int y3), (6, .int s0)]) d_K_handForShifted_83 (Nat.le_of_ble_eq_true rfl) rfl rfl ?_
    refine x_aload_n d_K_handForShifted_85 rfl 0 rfl ?_
    refine y_getR d_K_handForShifted_86 fl_7_9 rfl kd_57 rr_57_8 ?_
    refine x_iload_n d_K_handForShifted_89 rfl 1 rfl ?_
    refine x_iload_n d_K_handForShifted_90 rfl 2 rfl ?_
    obtain ⟨g20, h⟩ := gd_inv h
    obtain ⟨S21, e22, h⟩ := lt_inv h
    refine y_iast e22 d_K_handForShifted_91 kd_58 g20 ?_
    refine x_iload d_K_handForShifted_92 3 rfl ?_
    obtain rfl := Option.some.inj h
    exact x_ret (r := some (.int s0)) d_K_handForShifted_94 ⟨_, rfl, rfl⟩
  refine x_aload_n d_K_handForShifted_0 rfl 0 rfl ?_
  refine y_getR d_K_handForShifted_1 fl_7_9 rfl kd_57 rr_57_8 ?_
  refine x_iload_n d_K_handForShifted_4 rfl 1 rfl ?_
  obtain ⟨g1, h⟩ := gd_inv h
  refine y_iald d_K_handForShifted_5 kd_58 g1 ?_
  obtain ⟨v2, e3, h⟩ := lt_inv h
  refine y_istore_n (L1 := [(0, .ref 57), (1, .int p1), (2, .int p2), (3, .int v2)]) e3 d_K_handForShifted_6 rfl (Nat.le_of_ble_eq_true rfl) rfl rfl ?_
  refine x_iload_n d_K_handForShifted_7 rfl 3 rfl ?_
  refine x_iload_n d_K_handForShifted_8 rfl 2 rfl ?_
  refine x_bipush d_K_handForShifted_9 bp_12 ?_
  refine x_imul d_K_handForShifted_11 ?_
  refine x_iadd d_K_handForShifted_12 ?_
  obtain ⟨v4, e5, h⟩ := lt_inv h
  refine y_istore (L1 := [(0, .ref 57), (1, .int p1), (2, .int p2), (3, .int v2), (4, .int v4)]) e5 d_K_handForShifted_13 (Nat.le_of_ble_eq_true rfl) rfl rfl ?_
  refine x_iload d_K_handForShifted_15 4 rfl ?_
  obtain ⟨v7, q6, h⟩ := bd_inv h
  refine y_SN1i (host := "NinetyPlayers") (v := v7) (S1 := S) d_K_handForShifted_17 ml_7_108 (by decide +kernel) (Nat.le_of_ble_eq_true rfl) (Nat.le_of_ble_eq_true rfl) (c_N_isKey (by omega) q6) ?_
  refine x_if_ne (tgt := 25) d_K_handForShifted_20 rfl (fun c8 => ?_) (fun c8 => ?_)
  · replace h := ite_f c8 h
    refine x_iconst d_K_handForShifted_25 ic_1 ?_
    refine x_iload_n d_K_handForShifted_26 rfl 1 rfl ?_
    refine x_ishl d_K_handForShifted_27 ?_
    obtain ⟨v9, e10, h⟩ := lt_inv h
    refine y_istore (L1 := [(0, .ref 57), (1, .int p1), (2, .int p2), (3, .int v2), (4, .int v4), (5, .int v9)]) e10 d_K_handForShifted_28 (Nat.le_of_ble_eq_true rfl) rfl rfl ?_
    refine x_aload_n d_K_handForShifted_30 rfl 0 rfl ?_
    refine y_getR d_K_handForShifted_31 fl_7_9 rfl kd_57 rr_57_8 ?_
    refine x_iload_n d_K_handForShifted_34 rfl 1 rfl ?_
    refine x_iload d_K_handForShifted_35 4 rfl ?_
    obtain ⟨g11, h⟩ := gd_inv h
    obtain ⟨S12, e13, h⟩ := lt_inv h
    refine y_iast e13 d_K_handForShifted_37 kd_58 g11 ?_
    refine x_aload_n d_K_handForShifted_38 rfl 0 rfl ?_
    refine x_aload_n d_K_handForShifted_39 rfl 0 rfl ?_
    refine y_getI d_K_handForShifted_40 fl_7_53 rfl kd_57 ?_
    refine x_iload d_K_handForShifted_43 5 rfl ?_
    refine x_ior d_K_handForShifted_45 ?_
    refine x_aload_n d_K_handForShifted_46 rfl 0 rfl ?_
    refine y_getI d_K_handForShifted_47 fl_7_56 rfl kd_57 ?_
    obtain ⟨v15, q14, h⟩ := bd_inv h
    refine y_V2i (v := v15) (S1 := S12) d_K_handForShifted_50 ml_7_111 kd_57 rfl (Nat.le_of_ble_eq_true rfl) (Nat.le_of_ble_eq_true rfl) (c_K_canBePlayed (by omega) q14) ?_
    refine x_if_eq (tgt := 60) d_K_handForShifted_53 rfl (fun c16 => ?_) (fun c16 => ?_)
    · replace h := ite_t c16 h
      refine x_aload_n d_K_handForShifted_60 rfl 0 rfl ?_
      refine x_aload_n d_K_handForShifted_61 rfl 0 rfl ?_
      refine y_getI d_K_handForShifted_62 fl_7_53 rfl kd_57 ?_
      refine x_aload_n d_K_handForShifted_65 rfl 0 rfl ?_
      refine y_getI d_K_handForShifted_66 fl_7_56 rfl kd_57 ?_
      refine x_iload d_K_handForShifted_69 5 rfl ?_
      refine x_ior d_K_handForShifted_71 ?_
      obtain ⟨v18, q17, h⟩ := bd_inv h
      refine y_V2i (v := v18) (S1 := S12) d_K_handForShifted_72 ml_7_111 kd_57 rfl (Nat.le_of_ble_eq_true rfl) (Nat.le_of_ble_eq_true rfl) (c_K_canBePlayed (by omega) q17) ?_
      refine x_if_eq (tgt := 82) d_K_handForShifted_75 rfl (fun c19 => ?_) (fun c19 => ?_)
      · replace h := ite_t c19 h
        refine x_iconst d_K_handForShifted_82 ic_0 ?_
        refine y_pick (L1 := [(0, .ref 57), (1, .int p1), (3, .int v2)]) [0, 1, 3] rfl ?_
        exact J83 S12 p1 v2 (0 : Int32) _ h
      · replace h := ite_f c19 h
        refine x_iconst d_K_handForShifted_78 ic_2 ?_
        refine x_goto (tgt := 83) d_K_handForShifted_79 rfl ?_
        refine y_pick (L1 := [(0, .ref 57), (1, .int p1), (3, .int v2)]) [0, 1, 3] rfl ?_
        exact J83 S12 p1 v2 (2 : Int32) _ h
    · replace h := ite_f c16 h
      refine x_iconst d_K_handForShifted_56 ic_1 ?_
      refine x_goto (tgt := 83) d_K_handForShifted_57 rfl ?_
      refine y_pick (L1 := [(0, .ref 57), (1, .int p1), (3, .int v2)]) [0, 1, 3] rfl ?_
      exact J83 S12 p1 v2 (1 : Int32) _ h
  · replace h := ite_t c8 h
    refine x_iconst d_K_handForShifted_23 ic_0 ?_
    obtain rfl := Option.some.inj h
    exact x_ret (r := some (.int (0 : Int32))) d_K_handForShifted_24 ⟨_, rfl, rfl⟩
/-! NinetyPlayers.letin -/
def b_N_letin_26 (F G : Nat) (z1 : Int32) (z2 : Int32) (rec : Int32 → St → Option (Int32 × St)) (w3 : Int32) (S : St) : Option (Int32 × St) :=
  if (7 : Int32) < w3 then some ((-100 : Int32), S) else bd2 (fK_handForShifted F G S z1 w3) fun v10 S11 => if v10 = 0 then bd2 (fK_handForShifted F G S11 z1 (-w3)) fun v14 S15 => if v14 = 0 then lt (w3 + 1) fun v17 => rec v17 S15 else if z2 = 0 then some (-w3, S15) else some (v14, S15) else if z2 = 0 then some (w3, S11) else some (v10, S11)
def fN_letin (F G : Nat) (S : St) (p1 : Int32) (p2 : Int32) : Option (Int32 × St) :=
  bd (fN_isLeftOut F G S p1) fun v2 => if v2 = 0 then some ((-100 : Int32), S) else if p2 < 0 then some ((-100 : Int32), S) else if p2 ≤ (1 : Int32) then bd (fN_lookAtKeys F G S ) fun S7 => fx2 (b_N_letin_26 F G p1 p2) F (0 : Int32) S7 else some ((-100 : Int32), S)
set_option maxRecDepth 100000 in
set_option maxHeartbeats 4000000 in
theorem T_N_letin_26 {X : Nat × (Nat → Int32)} {D F G : Nat} (hD : 6 ≤ D + 1) {z1 : Int32} {z2 : Int32} : ∀ (f : Nat) (w3 : Int32) (S : St) (res : Int32 × St), fx2 (b_N_letin_26 F G z1 z2 ) f w3 S = some res → Ek X (D + 1) mN_letin 26 [(0, .ref 0), (1, .int z1), (2, .int z2), (3, .int w3)] [] S (some (.int res.1)) res.2 := by
  refine fx2_ind ?_
  intro rec ih w3 S res h
  unfold b_N_letin_26 at h
  refine x_iload_n d_N_letin_26 rfl 3 rfl ?_
  refine x_bipush d_N_letin_27 bp_7 ?_
  refine x_icmp_gt (tgt := 94) d_N_letin_29 rfl (fun c8 => ?_) (fun c8 => ?_)
  · replace h := ite_t c8 h
    refine x_bipush d_N_letin_94 bp_m100 ?_
    obtain rfl := Option.some.inj h
    exact x_ret (r := some (.int (-100 : Int32))) d_N_letin_96 ⟨_, rfl, rfl⟩
  · replace h := ite_f c8 h
    refine x_aload_n d_N_letin_32 rfl 0 rfl ?_
    refine y_getR d_N_letin_33 fl_0_57 rfl kd_0 rr_0_7 ?_
    refine x_iload_n d_N_letin_36 rfl 1 rfl ?_
    refine x_iload_n d_N_letin_37 rfl 3 rfl ?_
    obtain ⟨v10, S11, q9, h⟩ := bd2_inv h
    refine y_V2i (v := v10) (S1 := S11) d_N_letin_38 ml_0_295 kd_57 rfl (Nat.le_of_ble_eq_true rfl) (Nat.le_of_ble_eq_true rfl) (c_K_handForShifted (by omega) q9) ?_
    refine x_istore (L1 := [(0, .ref 0), (1, .int z1), (2, .int z2), (3, .int w3), (4, .int v10)]) d_N_letin_41 (Nat.le_of_ble_eq_true rfl) rfl rfl ?_
    refine x_iload d_N_letin_43 4 rfl ?_
    refine x_if_eq (tgt := 59) d_N_letin_45 rfl (fun c12 => ?_) (fun c12 => ?_)
    · replace h := ite_t c12 h
      refine x_aload_n d_N_letin_59 rfl 0 rfl ?_
      refine y_getR d_N_letin_60 fl_0_57 rfl kd_0 rr_0_7 ?_
      refine x_iload_n d_N_letin_63 rfl 1 rfl ?_
      refine x_iload_n d_N_letin_64 rfl 3 rfl ?_
      refine x_ineg d_N_letin_65 ?_
      obtain ⟨v14, S15, q13, h⟩ := bd2_inv h
      refine y_V2i (v := v14) (S1 := S15) d_N_letin_66 ml_0_295 kd_57 rfl (Nat.le_of_ble_eq_true rfl) (Nat.le_of_ble_eq_true rfl) (c_K_handForShifted (by omega) q13) ?_
      refine x_istore (L1 := [(0, .ref 0), (1, .int z1), (2, .int z2), (3, .int w3), (4, .int v10), (5, .int v14)]) d_N_letin_69 (Nat.le_of_ble_eq_true rfl) rfl rfl ?_
      refine x_iload d_N_letin_71 5 rfl ?_
      refine x_if_eq (tgt := 88) d_N_letin_73 rfl (fun c16 => ?_) (fun c16 => ?_)
      · replace h := ite_t c16 h
        obtain ⟨v17, e18, h⟩ := lt_inv h
        refine y_iinc (L1 := [(0, .ref 0), (1, .int z1), (2, .int z2), (3, .int v17), (4, .int v10), (5, .int v14)]) e18 ic_1 d_N_letin_88 3 rfl (Nat.le_of_ble_eq_true rfl) rfl rfl ?_
        refine x_goto (tgt := 26) d_N_letin_91 rfl ?_
        refine y_pick (L1 := [(0, .ref 0), (1, .int z1), (2, .int z2), (3, .int v17)]) [0, 1, 2, 3] rfl ?_
        exact ih v17 S15 _ h
      · replace h := ite_f c16 h
        refine x_iload_n d_N_letin_76 rfl 2 rfl ?_
        refine x_if_ne (tgt := 85) d_N_letin_77 rfl (fun c19 => ?_) (fun c19 => ?_)
        · replace h := ite_f c19 h
          refine x_iload d_N_letin_85 5 rfl ?_
          obtain rfl := Option.some.inj h
          exact x_ret (r := some (.int v14)) d_N_letin_87 ⟨_, rfl, rfl⟩
        · replace h := ite_t c19 h
          refine x_iload_n d_N_letin_80 rfl 3 rfl ?_
          refine x_ineg d_N_letin_81 ?_
          refine x_goto (tgt := 87) d_N_letin_82 rfl ?_
          obtain rfl := Option.some.inj h
          exact x_ret (r := some (.int (-w3))) d_N_letin_87 ⟨_, rfl, rfl⟩
    · replace h := ite_f c12 h
      refine x_iload_n d_N_letin_48 rfl 2 rfl ?_
      refine x_if_ne (tgt := 56) d_N_letin_49 rfl (fun c20 => ?_) (fun c20 => ?_)
      · replace h := ite_f c20 h
        refine x_iload d_N_letin_56 4 rfl ?_
        obtain rfl := Option.some.inj h
        exact x_ret (r := some (.int v10)) d_N_letin_58 ⟨_, rfl, rfl⟩
      · replace h := ite_t c20 h
        refine x_iload_n d_N_letin_52 rfl 3 rfl ?_
        refine x_goto (tgt := 58) d_N_letin_53 rfl ?_
        obtain rfl := Option.some.inj h
        exact x_ret (r := some (.int w3)) d_N_letin_58 ⟨_, rfl, rfl⟩
set_option maxRecDepth 100000 in
set_option maxHeartbeats 4000000 in
theorem c_N_letin {X : Nat × (Nat → Int32)} {D F G : Nat} (hD : 6 ≤ D) {S : St} {p1 : Int32} {p2 : Int32} {res : Int32 × St} (h : fN_letin F G S p1 p2 = some res) : Ek X (D) mN_letin 0 [(0, .ref 0), (1, .int p1), (2, .int p2)] [] S (some (.int res.1)) res.2 := by
  obtain ⟨D, rfl⟩ : ∃ E, D = E + 1 := ⟨D - 1, by omega⟩
  unfold fN_letin at h
  refine x_aload_n d_N_letin_0 rfl 0 rfl ?_
  refine x_iload_n d_N_letin_1 rfl 1 rfl ?_
  obtain ⟨v2, q1, h⟩ := bd_inv h
  refine y_V1i (v := v2) (S1 := S) d_N_letin_2 ml_0_286 kd_0 rfl (Nat.le_of_ble_eq_true rfl) (Nat.le_of_ble_eq_true rfl) (c_N_isLeftOut (by omega) q1) ?_
  refine x_if_eq (tgt := 17) d_N_letin_5 rfl (fun c3 => ?_) (fun c3 => ?_)
  · replace h := ite_t c3 h
    refine x_bipush d_N_letin_17 bp_m100 ?_
    obtain rfl := Option.some.inj h
    exact x_ret (r := some (.int (-100 : Int32))) d_N_letin_19 ⟨_, rfl, rfl⟩
  · replace h := ite_f c3 h
    refine x_iload_n d_N_letin_8 rfl 2 rfl ?_
    refine x_if_lt (tgt := 17) d_N_letin_9 rfl (fun c4 => ?_) (fun c4 => ?_)
    · replace h := ite_t c4 h
      refine x_bipush d_N_letin_17 bp_m100 ?_
      obtain rfl := Option.some.inj h
      exact x_ret (r := some (.int (-100 : Int32))) d_N_letin_19 ⟨_, rfl, rfl⟩
    · replace h := ite_f c4 h
      refine x_iload_n d_N_letin_12 rfl 2 rfl ?_
      refine x_iconst d_N_letin_13 ic_1 ?_
      refine x_icmp_le (tgt := 20) d_N_letin_14 rfl (fun c5 => ?_) (fun c5 => ?_)
      · replace h := ite_t c5 h
        refine x_aload_n d_N_letin_20 rfl 0 rfl ?_
        obtain ⟨S7, q6, h⟩ := bd_inv h
        refine y_V0v (S1 := S7) d_N_letin_21 ml_0_176 kd_0 rfl (Nat.le_of_ble_eq_true rfl) (Nat.le_of_ble_eq_true rfl) (c_N_lookAtKeys (by omega) q6) ?_
        refine x_iconst d_N_letin_24 ic_0 ?_
        refine x_istore_n (L1 := [(0, .ref 0), (1, .int p1), (2, .int p2), (3, .int (0 : Int32))]) d_N_letin_25 rfl (Nat.le_of_ble_eq_true rfl) rfl rfl ?_
        refine T_N_letin_26 (by omega)   F (0 : Int32) S7 _ h
      · replace h := ite_f c5 h
        refine x_bipush d_N_letin_17 bp_m100 ?_
        obtain rfl := Option.some.inj h
        exact x_ret (r := some (.int (-100 : Int32))) d_N_letin_19 ⟨_, rfl, rfl⟩
/-! NinetyPlayersModel.canBePlayedSo -/
def fM_canBePlayedSo (F G : Nat) (S : St) : Option (Int32) :=
  bd (fM_given F G S (1 : Int32)) fun v2 => bd (fM_given F G S (2 : Int32)) fun v4 => bd (fM_canBePlayed F G S v2 v4 (S.1 78 50) (S.1 78 49)) fun v6 => gd (isB v6) (some v6)
set_option maxRecDepth 100000 in
set_option maxHeartbeats 4000000 in
theorem c_M_canBePlayedSo {X : Nat × (Nat → Int32)} {D F G : Nat} (hD : 4 ≤ D) {S : St} {res : Int32} (h : fM_canBePlayedSo F G S  = some res) : Ek X (D) mM_canBePlayedSo 0 [(0, .ref 78)] [] S (some (.int res)) S := by
  obtain ⟨D, rfl⟩ : ∃ E, D = E + 1 := ⟨D - 1, by omega⟩
  unfold fM_canBePlayedSo at h
  refine x_aload_n d_M_canBePlayedSo_0 rfl 0 rfl ?_
  refine x_aload_n d_M_canBePlayedSo_1 rfl 0 rfl ?_
  refine x_iconst d_M_canBePlayedSo_2 ic_1 ?_
  obtain ⟨v2, q1, h⟩ := bd_inv h
  refine y_V1i (v := v2) (S1 := S) d_M_canBePlayedSo_3 ml_11_454 kd_78 rfl (Nat.le_of_ble_eq_true rfl) (Nat.le_of_ble_eq_true rfl) (c_M_given (by omega) q1) ?_
  refine x_aload_n d_M_canBePlayedSo_6 rfl 0 rfl ?_
  refine x_iconst d_M_canBePlayedSo_7 ic_2 ?_
  obtain ⟨v4, q3, h⟩ := bd_inv h
  refine y_V1i (v := v4) (S1 := S) d_M_canBePlayedSo_8 ml_11_454 kd_78 rfl (Nat.le_of_ble_eq_true rfl) (Nat.le_of_ble_eq_true rfl) (c_M_given (by omega) q3) ?_
  refine x_aload_n d_M_canBePlayedSo_11 rfl 0 rfl ?_
  refine y_getI d_M_canBePlayedSo_12 fl_11_84 rfl kd_78 ?_
  refine x_aload_n d_M_canBePlayedSo_15 rfl 0 rfl ?_
  refine y_getI d_M_canBePlayedSo_16 fl_11_81 rfl kd_78 ?_
  obtain ⟨v6, q5, h⟩ := bd_inv h
  refine y_V4i (v := v6) (S1 := S) d_M_canBePlayedSo_19 ml_11_457 kd_78 rfl (Nat.le_of_ble_eq_true rfl) (Nat.le_of_ble_eq_true rfl) (c_M_canBePlayed (by omega) q5) ?_
  obtain ⟨g7, h⟩ := gd_inv h
  obtain rfl := Option.some.inj h
  exact x_ret (r := some (.int v6)) d_M_canBePlayedSo_22 ⟨_, rfl, isB_nar g7⟩
/-! NinetyPlayersModel.letsIn -/
def fM_letsIn (F G : Nat) (S : St) (p1 : Int32) (p2 : Int32) (p3 : Int32) : Option (Int32 × St) :=
  gd (inB ((10 : Int32) + p1) 41) (lt ((S.1 100 ((10 : Int32) + p1).toNatClampNeg) + ((12 : Int32) * p2)) fun v2 => bd (fM_isIn F G S v2 (0 : Int32) (87 : Int32)) fun v5 => if v5 = 0 then some ((0 : Int32), S) else bd (fM_fill F G S ) fun S8 => gd (inB ((10 : Int32) + p1) 41) (lt (sI S8 101 ((10 : Int32) + p1).toNatClampNeg v2) fun S10 => gd (inB p1 41) (lt (sI S10 101 p1.toNatClampNeg p3) fun S13 => bd (fM_canBePlayedSo F G S13) fun v16 => gd (isB v16) (some (v16, S13)))))
set_option maxRecDepth 100000 in
set_option maxHeartbeats 4000000 in
theorem c_M_letsIn {X : Nat × (Nat → Int32)} {D F G : Nat} (hD : 5 ≤ D) {S : St} {p1 : Int32} {p2 : Int32} {p3 : Int32} {res : Int32 × St} (h : fM_letsIn F G S p1 p2 p3 = some res) : Ek X (D) mM_letsIn 0 [(0, .ref 78), (1, .int p1), (2, .int p2), (3, .int p3)] [] S (some (.int res.1)) res.2 := by
  obtain ⟨D, rfl⟩ : ∃ E, D = E + 1 := ⟨D - 1, by omega⟩
  unfold fM_letsIn at h
  refine x_aload_n d_M_letsIn_0 rfl 0 rfl ?_
  refine y_getR d_M_letsIn_1 fl_11_93 rfl kd_78 rr_78_58 ?_
  refine x_bipush d_M_letsIn_4 bp_10 ?_
  refine x_iload_n d_M_letsIn_6 rfl 1 rfl ?_
  refine x_iadd d_M_letsIn_7 ?_
  obtain ⟨g1, h⟩ := gd_inv h
  refine y_iald d_M_letsIn_8 kd_100 g1 ?_
  refine x_bipush d_M_letsIn_9 bp_12 ?_
  refine x_iload_n d_M_letsIn_11 rfl 2 rfl ?_
  refine x_imul d_M_letsIn_12 ?_
  refine x_iadd d_M_letsIn_13 ?_
  obtain ⟨v2, e3, h⟩ := lt_inv h
  refine y_istore (L1 := [(0, .ref 78), (1, .int p1), (2, .int p2), (3, .int p3), (4, .int v2)]) e3 d_M_letsIn_14 (Nat.le_of_ble_eq_true rfl) rfl rfl ?_
  refine x_iload d_M_letsIn_16 4 rfl ?_
  refine x_iconst d_M_letsIn_18 ic_0 ?_
  refine x_bipush d_M_letsIn_19 bp_87 ?_
  obtain ⟨v5, q4, h⟩ := bd_inv h
  refine y_S3i (v := v5) (S1 := S) d_M_letsIn_21 ml_11_429 (Nat.le_of_ble_eq_true rfl) (Nat.le_of_ble_eq_true rfl) (c_M_isIn (by omega) q4) ?_
  refine x_if_ne (tgt := 29) d_M_letsIn_24 rfl (fun c6 => ?_) (fun c6 => ?_)
  · replace h := ite_f c6 h
    refine x_aload_n d_M_letsIn_29 rfl 0 rfl ?_
    obtain ⟨S8, q7, h⟩ := bd_inv h
    refine y_V0v (S1 := S8) d_M_letsIn_30 ml_11_464 kd_78 rfl (Nat.le_of_ble_eq_true rfl) (Nat.le_of_ble_eq_true rfl) (c_M_fill (by omega) q7) ?_
    refine x_aload_n d_M_letsIn_33 rfl 0 rfl ?_
    refine y_getR d_M_letsIn_34 fl_11_96 rfl kd_78 rr_78_59 ?_
    refine x_bipush d_M_letsIn_37 bp_10 ?_
    refine x_iload_n d_M_letsIn_39 rfl 1 rfl ?_
    refine x_iadd d_M_letsIn_40 ?_
    refine x_iload d_M_letsIn_41 4 rfl ?_
    obtain ⟨g9, h⟩ := gd_inv h
    obtain ⟨S10, e11, h⟩ := lt_inv h
    refine y_iast e11 d_M_letsIn_43 kd_101 g9 ?_
    refine x_aload_n d_M_letsIn_44 rfl 0 rfl ?_
    refine y_getR d_M_letsIn_45 fl_11_96 rfl kd_78 rr_78_59 ?_
    refine x_iload_n d_M_letsIn_48 rfl 1 rfl ?_
    refine x_iload_n d_M_letsIn_49 rfl 3 rfl ?_
    obtain ⟨g12, h⟩ := gd_inv h
    obtain ⟨S13, e14, h⟩ := lt_inv h
    refine y_iast e14 d_M_letsIn_50 kd_101 g12 ?_
    refine x_aload_n d_M_letsIn_51 rfl 0 rfl ?_
    obtain ⟨v16, q15, h⟩ := bd_inv h
    refine y_V0i (v := v16) (S1 := S13) d_M_letsIn_52 ml_11_521 kd_78 rfl (Nat.le_of_ble_eq_true rfl) (Nat.le_of_ble_eq_true rfl) (c_M_canBePlayedSo (by omega) q15) ?_
    obtain ⟨g17, h⟩ := gd_inv h
    obtain rfl := Option.some.inj h
    exact x_ret (r := some (.int v16)) d_M_letsIn_55 ⟨_, rfl, isB_nar g17⟩
  · replace h := ite_t c6 h
    refine x_iconst d_M_letsIn_27 ic_0 ?_
    obtain rfl := Option.some.inj h
    exact x_ret (r := some (.int (0 : Int32))) d_M_letsIn_28 ⟨_, rfl, rfl⟩
/-! NinetyPlayersModel.letin -/
def b_M_letin_52 (F G : Nat) (z1 : Int32) (z2 : Int32) (z3 : Int32) (z4 : Int32) (k88 : St → Option (Int32 × St)) (rec : Int32 → St → Option (Int32 × St)) (w5 : Int32) (S : St) : Option (Int32 × St) :=
  if (2 : Int32) < w5 then k88 S else bd2 (fM_letsIn F G S z1 z4 w5) fun v13 S14 => if v13 = 0 then lt (w5 + 1) fun v16 => rec v16 S14 else if z2 = 0 then some (z4, S14) else some (w5, S14)
def b_M_letin_22 (F G : Nat) (z1 : Int32) (z2 : Int32) (rec : Int32 → St → Option (Int32 × St)) (w3 : Int32) (S : St) : Option (Int32 × St) :=
  if (14 : Int32) < w3 then some ((-100 : Int32), S) else if (w3 - w3 / (2 : Int32) * (2 : Int32)) = (1 : Int32) then lt ((w3 + (1 : Int32)) / (2 : Int32)) fun v22 => fx2 (b_M_letin_52 F G z1 z2 w3 v22 (fun S24 => lt (w3 + 1) fun v25 => rec v25 S24)) F (1 : Int32) S else lt (-(w3 / (2 : Int32))) fun v9 => fx2 (b_M_letin_52 F G z1 z2 w3 v9 (fun S19 => lt (w3 + 1) fun v20 => rec v20 S19)) F (1 : Int32) S
def fM_letin (F G : Nat) (S : St) (p1 : Int32) (p2 : Int32) : Option (Int32 × St) :=
  bd (fM_isOut F G S p1) fun v2 => if v2 = 0 then some ((-100 : Int32), S) else bd (fM_isIn F G S p2 (0 : Int32) (1 : Int32)) fun v5 => if v5 = 0 then some ((-100 : Int32), S) else fx2 (b_M_letin_22 F G p1 p2) F (0 : Int32) S
set_option maxRecDepth 100000 in
set_option maxHeartbeats 4000000 in
theorem T_M_letin_52 {X : Nat × (Nat → Int32)} {D F G : Nat} (hD : 6 ≤ D + 1) {z1 : Int32} {z2 : Int32} {z3 : Int32} {z4 : Int32} {k88 : St → Option (Int32 × St)} (hk88 : ∀ (S1 : St) (res : Int32 × St), k88 S1 = some res → Ek X (D + 1) mM_letin 88 [(0, .ref 78), (1, .int z1), (2, .int z2), (3, .int z3)] [] S1 (some (.int res.1)) res.2) : ∀ (f : Nat) (w5 : Int32) (S : St) (res : Int32 × St), fx2 (b_M_letin_52 F G z1 z2 z3 z4 k88 ) f w5 S = some res → Ek X (D + 1) mM_letin 52 [(0, .ref 78), (1, .int z1), (2, .int z2), (3, .int z3), (4, .int z4), (5, .int w5)] [] S (some (.int res.1)) res.2 := by
  refine fx2_ind ?_
  intro rec ih w5 S res h
  unfold b_M_letin_52 at h
  refine x_iload d_M_letin_52 5 rfl ?_
  refine x_iconst d_M_letin_54 ic_2 ?_
  refine x_icmp_gt (tgt := 88) d_M_letin_55 rfl (fun c11 => ?_) (fun c11 => ?_)
  · replace h := ite_t c11 h
    refine y_pick (L1 := [(0, .ref 78), (1, .int z1), (2, .int z2), (3, .int z3)]) [0, 1, 2, 3] rfl ?_
    exact hk88 S _ h
  · replace h := ite_f c11 h
    refine x_aload_n d_M_letin_58 rfl 0 rfl ?_
    refine x_iload_n d_M_letin_59 rfl 1 rfl ?_
    refine x_iload d_M_letin_60 4 rfl ?_
    refine x_iload d_M_letin_62 5 rfl ?_
    obtain ⟨v13, S14, q12, h⟩ := bd2_inv h
    refine y_V3i (v := v13) (S1 := S14) d_M_letin_64 ml_11_524 kd_78 rfl (Nat.le_of_ble_eq_true rfl) (Nat.le_of_ble_eq_true rfl) (c_M_letsIn (by omega) q12) ?_
    refine x_if_eq (tgt := 82) d_M_letin_67 rfl (fun c15 => ?_) (fun c15 => ?_)
    · replace h := ite_t c15 h
      obtain ⟨v16, e17, h⟩ := lt_inv h
      refine y_iinc (L1 := [(0, .ref 78), (1, .int z1), (2, .int z2), (3, .int z3), (4, .int z4), (5, .int v16)]) e17 ic_1 d_M_letin_82 5 rfl (Nat.le_of_ble_eq_true rfl) rfl rfl ?_
      refine x_goto (tgt := 52) d_M_letin_85 rfl ?_
      exact ih v16 S14 _ h
    · replace h := ite_f c15 h
      refine x_iload_n d_M_letin_70 rfl 2 rfl ?_
      refine x_if_ne (tgt := 79) d_M_letin_71 rfl (fun c18 => ?_) (fun c18 => ?_)
      · replace h := ite_f c18 h
        refine x_iload d_M_letin_79 5 rfl ?_
        obtain rfl := Option.some.inj h
        exact x_ret (r := some (.int w5)) d_M_letin_81 ⟨_, rfl, rfl⟩
      · replace h := ite_t c18 h
        refine x_iload d_M_letin_74 4 rfl ?_
        refine x_goto (tgt := 81) d_M_letin_76 rfl ?_
        obtain rfl := Option.some.inj h
        exact x_ret (r := some (.int z4)) d_M_letin_81 ⟨_, rfl, rfl⟩
set_option maxRecDepth 100000 in
set_option maxHeartbeats 4000000 in
theorem T_M_letin_22 {X : Nat × (Nat → Int32)} {D F G : Nat} (hD : 6 ≤ D + 1) {z1 : Int32} {z2 : Int32} : ∀ (f : Nat) (w3 : Int32) (S : St) (res : Int32 × St), fx2 (b_M_letin_22 F G z1 z2 ) f w3 S = some res → Ek X (D + 1) mM_letin 22 [(0, .ref 78), (1, .int z1), (2, .int z2), (3, .int w3)] [] S (some (.int res.1)) res.2 := by
  refine fx2_ind ?_
  intro rec ih w3 S res h
  unfold b_M_letin_22 at h
  refine x_iload_n d_M_letin_22 rfl 3 rfl ?_
  refine x_bipush d_M_letin_23 bp_14 ?_
  refine x_icmp_gt (tgt := 94) d_M_letin_25 rfl (fun c7 => ?_) (fun c7 => ?_)
  · replace h := ite_t c7 h
    refine x_bipush d_M_letin_94 bp_m100 ?_
    obtain rfl := Option.some.inj h
    exact x_ret (r := some (.int (-100 : Int32))) d_M_letin_96 ⟨_, rfl, rfl⟩
  · replace h := ite_f c7 h
    refine x_iload_n d_M_letin_28 rfl 3 rfl ?_
    refine x_iconst d_M_letin_29 ic_2 ?_
    refine x_irem d_M_letin_30 (by decide) ?_
    refine x_iconst d_M_letin_31 ic_1 ?_
    refine x_icmp_ne (tgt := 43) d_M_letin_32 rfl (fun c8 => ?_) (fun c8 => ?_)
    · replace h := ite_f c8 h
      refine x_iload_n d_M_letin_43 rfl 3 rfl ?_
      refine x_iconst d_M_letin_44 ic_2 ?_
      refine x_idiv d_M_letin_45 (by decide) ?_
      refine x_ineg d_M_letin_46 ?_
      obtain ⟨v9, e10, h⟩ := lt_inv h
      refine y_istore (L1 := [(0, .ref 78), (1, .int z1), (2, .int z2), (3, .int w3), (4, .int v9)]) e10 d_M_letin_47 (Nat.le_of_ble_eq_true rfl) rfl rfl ?_
      refine x_iconst d_M_letin_49 ic_1 ?_
      refine x_istore (L1 := [(0, .ref 78), (1, .int z1), (2, .int z2), (3, .int w3), (4, .int v9), (5, .int (1 : Int32))]) d_M_letin_50 (Nat.le_of_ble_eq_true rfl) rfl rfl ?_
      refine T_M_letin_52 (by omega)  ?_ F (1 : Int32) S _ h
      · intro S19 res h
        obtain ⟨v20, e21, h⟩ := lt_inv h
        refine y_iinc (L1 := [(0, .ref 78), (1, .int z1), (2, .int z2), (3, .int v20)]) e21 ic_1 d_M_letin_88 3 rfl (Nat.le_of_ble_eq_true rfl) rfl rfl ?_
        refine x_goto (tgt := 22) d_M_letin_91 rfl ?_
        exact ih v20 S19 _ h
    · replace h := ite_t c8 h
      refine x_iload_n d_M_letin_35 rfl 3 rfl ?_
      refine x_iconst d_M_letin_36 ic_1 ?_
      refine x_iadd d_M_letin_37 ?_
      refine x_iconst d_M_letin_38 ic_2 ?_
      refine x_idiv d_M_letin_39 (by decide) ?_
      refine x_goto (tgt := 47) d_M_letin_40 rfl ?_
      obtain ⟨v22, e23, h⟩ := lt_inv h
      refine y_istore (L1 := [(0, .ref 78), (1, .int z1), (2, .int z2), (3, .int w3), (4, .int v22)]) e23 d_M_letin_47 (Nat.le_of_ble_eq_true rfl) rfl rfl ?_
      refine x_iconst d_M_letin_49 ic_1 ?_
      refine x_istore (L1 := [(0, .ref 78), (1, .int z1), (2, .int z2), (3, .int w3), (4, .int v22), (5, .int (1 : Int32))]) d_M_letin_50 (Nat.le_of_ble_eq_true rfl) rfl rfl ?_
      refine T_M_letin_52 (by omega)  ?_ F (1 : Int32) S _ h
      · intro S24 res h
        obtain ⟨v25, e26, h⟩ := lt_inv h
        refine y_iinc (L1 := [(0, .ref 78), (1, .int z1), (2, .int z2), (3, .int v25)]) e26 ic_1 d_M_letin_88 3 rfl (Nat.le_of_ble_eq_true rfl) rfl rfl ?_
        refine x_goto (tgt := 22) d_M_letin_91 rfl ?_
        exact ih v25 S24 _ h
set_option maxRecDepth 100000 in
set_option maxHeartbeats 4000000 in
theorem c_M_letin {X : Nat × (Nat → Int32)} {D F G : Nat} (hD : 6 ≤ D) {S : St} {p1 : Int32} {p2 : Int32} {res : Int32 × St} (h : fM_letin F G S p1 p2 = some res) : Ek X (D) mM_letin 0 [(0, .ref 78), (1, .int p1), (2, .int p2)] [] S (some (.int res.1)) res.2 := by
  obtain ⟨D, rfl⟩ : ∃ E, D = E + 1 := ⟨D - 1, by omega⟩
  unfold fM_letin at h
  refine x_aload_n d_M_letin_0 rfl 0 rfl ?_
  refine x_iload_n d_M_letin_1 rfl 1 rfl ?_
  obtain ⟨v2, q1, h⟩ := bd_inv h
  refine y_V1i (v := v2) (S1 := S) d_M_letin_2 ml_11_515 kd_78 rfl (Nat.le_of_ble_eq_true rfl) (Nat.le_of_ble_eq_true rfl) (c_M_isOut (by omega) q1) ?_
  refine x_if_eq (tgt := 17) d_M_letin_5 rfl (fun c3 => ?_) (fun c3 => ?_)
  · replace h := ite_t c3 h
    refine x_bipush d_M_letin_17 bp_m100 ?_
    obtain rfl := Option.some.inj h
    exact x_ret (r := some (.int (-100 : Int32))) d_M_letin_19 ⟨_, rfl, rfl⟩
  · replace h := ite_f c3 h
    refine x_iload_n d_M_letin_8 rfl 2 rfl ?_
    refine x_iconst d_M_letin_9 ic_0 ?_
    refine x_iconst d_M_letin_10 ic_1 ?_
    obtain ⟨v5, q4, h⟩ := bd_inv h
    refine y_S3i (v := v5) (S1 := S) d_M_letin_11 ml_11_429 (Nat.le_of_ble_eq_true rfl) (Nat.le_of_ble_eq_true rfl) (c_M_isIn (by omega) q4) ?_
    refine x_if_ne (tgt := 20) d_M_letin_14 rfl (fun c6 => ?_) (fun c6 => ?_)
    · replace h := ite_f c6 h
      refine x_iconst d_M_letin_20 ic_0 ?_
      refine x_istore_n (L1 := [(0, .ref 78), (1, .int p1), (2, .int p2), (3, .int (0 : Int32))]) d_M_letin_21 rfl (Nat.le_of_ble_eq_true rfl) rfl rfl ?_
      refine T_M_letin_22 (by omega)   F (0 : Int32) S _ h
    · replace h := ite_t c6 h
      refine x_bipush d_M_letin_17 bp_m100 ?_
      obtain rfl := Option.some.inj h
      exact x_ret (r := some (.int (-100 : Int32))) d_M_letin_19 ⟨_, rfl, rfl⟩
/-! NinetyPlayers$Pedaller.isFree -/
def fP_isFree (F G : Nat) (S : St) (p1 : Int32) (p2 : Int32) (p3 : Int32) : Option (Int32) :=
  bd (fK_timelySince F G S p2 (p1 - (1 : Int32))) fun v2 => bd (fK_timelySince F G S p3 p1) fun v4 => bd (fK_clashesBetween F G S (S.1 57 5) (S.1 57 6) v2 v4) fun v6 => if v6 = 0 then some (1 : Int32) else some (0 : Int32)
set_option maxRecDepth 100000 in
set_option maxHeartbeats 4000000 in
theorem c_P_isFree {X : Nat × (Nat → Int32)} {D F G : Nat} (hD : 3 ≤ D) {S : St} {p1 : Int32} {p2 : Int32} {p3 : Int32} {res : Int32} (h : fP_isFree F G S p1 p2 p3 = some res) : Ek X (D) mP_isFree 0 [(0, .ref 57), (1, .int p1), (2, .int p2), (3, .int p3)] [] S (some (.int res)) S := by
  obtain ⟨D, rfl⟩ : ∃ E, D = E + 1 := ⟨D - 1, by omega⟩
  unfold fP_isFree at h
  refine x_aload_n d_P_isFree_0 rfl 0 rfl ?_
  refine x_iload_n d_P_isFree_1 rfl 2 rfl ?_
  refine x_iload_n d_P_isFree_2 rfl 1 rfl ?_
  refine x_iconst d_P_isFree_3 ic_1 ?_
  refine x_isub d_P_isFree_4 ?_
  obtain ⟨v2, q1, h⟩ := bd_inv h
  refine y_V2i (v := v2) (S1 := S) d_P_isFree_5 ml_9_33 kd_57 rfl (Nat.le_of_ble_eq_true rfl) (Nat.le_of_ble_eq_true rfl) (c_K_timelySince (by omega) q1) ?_
  refine x_istore (L1 := [(0, .ref 57), (1, .int p1), (2, .int p2), (3, .int p3), (4, .int v2)]) d_P_isFree_8 (Nat.le_of_ble_eq_true rfl) rfl rfl ?_
  refine x_aload_n d_P_isFree_10 rfl 0 rfl ?_
  refine x_iload_n d_P_isFree_11 rfl 3 rfl ?_
  refine x_iload_n d_P_isFree_12 rfl 1 rfl ?_
  obtain ⟨v4, q3, h⟩ := bd_inv h
  refine y_V2i (v := v4) (S1 := S) d_P_isFree_13 ml_9_33 kd_57 rfl (Nat.le_of_ble_eq_true rfl) (Nat.le_of_ble_eq_true rfl) (c_K_timelySince (by omega) q3) ?_
  refine x_istore (L1 := [(0, .ref 57), (1, .int p1), (2, .int p2), (3, .int p3), (4, .int v2), (5, .int v4)]) d_P_isFree_16 (Nat.le_of_ble_eq_true rfl) rfl rfl ?_
  refine x_aload_n d_P_isFree_18 rfl 0 rfl ?_
  refine x_aload_n d_P_isFree_19 rfl 0 rfl ?_
  refine y_getI d_P_isFree_20 fl_9_36 rfl kd_57 ?_
  refine x_aload_n d_P_isFree_23 rfl 0 rfl ?_
  refine y_getI d_P_isFree_24 fl_9_39 rfl kd_57 ?_
  refine x_iload d_P_isFree_27 4 rfl ?_
  refine x_iload d_P_isFree_29 5 rfl ?_
  obtain ⟨v6, q5, h⟩ := bd_inv h
  refine y_V4i (v := v6) (S1 := S) d_P_isFree_31 ml_9_42 kd_57 rfl (Nat.le_of_ble_eq_true rfl) (Nat.le_of_ble_eq_true rfl) (c_K_clashesBetween (by omega) q5) ?_
  refine x_if_ne (tgt := 41) d_P_isFree_34 rfl (fun c7 => ?_) (fun c7 => ?_)
  · replace h := ite_f c7 h
    refine x_iconst d_P_isFree_41 ic_0 ?_
    obtain rfl := Option.some.inj h
    exact x_ret (r := some (.int (0 : Int32))) d_P_isFree_42 ⟨_, rfl, rfl⟩
  · replace h := ite_t c7 h
    refine x_iconst d_P_isFree_37 ic_1 ?_
    refine x_goto (tgt := 42) d_P_isFree_38 rfl ?_
    obtain rfl := Option.some.inj h
    exact x_ret (r := some (.int (1 : Int32))) d_P_isFree_42 ⟨_, rfl, rfl⟩
/-! NinetyPlayers$Pedaller.better -/
def j_P_better_10 (F G : Nat) (S : St) (y0 : Int32) (y1 : Int32) : Option (Int32) :=
  if y0 = (-1 : Int32) then some y1 else some y0
def fP_better (F G : Nat) (S : St) (p1 : Int32) (p2 : Int32) : Option (Int32) :=
  if p1 = (-1 : Int32) then j_P_better_10 F G  S p1 p2 else if p2 = (-1 : Int32) then j_P_better_10 F G  S p1 p2 else bd (fJ_bitCount F G S p1) fun v4 => bd (fJ_bitCount F G S p2) fun v6 => lt (v4 - v6) fun v7 => if v7 < 0 then some p1 else if v7 = 0 then if p2 ≤ p1 then some p2 else some p1 else some p2
set_option maxRecDepth 100000 in
set_option maxHeartbeats 4000000 in
theorem c_P_better {X : Nat × (Nat → Int32)} {D F G : Nat} (hD : 1 ≤ D) {S : St} {p1 : Int32} {p2 : Int32} {res : Int32} (h : fP_better F G S p1 p2 = some res) : Ek X (D) mP_better 0 [(0, .int p1), (1, .int p2)] [] S (some (.int res)) S := by
  obtain ⟨D, rfl⟩ : ∃ E, D = E + 1 := ⟨D - 1, by omega⟩
  unfold fP_better at h
  have J10 : ∀ (y0 : Int32) (y1 : Int32) (res : Int32), j_P_better_10 F G S y0 y1 = some res → Ek X (D + 1) mP_better 10 [(0, .int y0), (1, .int y1)] [] S (some (.int res)) S := by
    intro y0 y1 res h
    unfold j_P_better_10 at h
    refine x_iload_n d_P_better_10 rfl 0 rfl ?_
    refine x_iconst d_P_better_11 ic_m1 ?_
    refine x_icmp_ne (tgt := 19) d_P_better_12 rfl (fun c12 => ?_) (fun c12 => ?_)
    · replace h := ite_f c12 h
      refine x_iload_n d_P_better_19 rfl 0 rfl ?_
      obtain rfl := Option.some.inj h
      exact x_ret (r := some (.int y0)) d_P_better_20 ⟨_, rfl, rfl⟩
    · replace h := ite_t c12 h
      refine x_iload_n d_P_better_15 rfl 1 rfl ?_
      refine x_goto (tgt := 20) d_P_better_16 rfl ?_
      obtain rfl := Option.some.inj h
      exact x_ret (r := some (.int y1)) d_P_better_20 ⟨_, rfl, rfl⟩
  refine x_iload_n d_P_better_0 rfl 0 rfl ?_
  refine x_iconst d_P_better_1 ic_m1 ?_
  refine x_icmp_eq (tgt := 10) d_P_better_2 rfl (fun c1 => ?_) (fun c1 => ?_)
  · replace h := ite_t c1 h
    exact J10 p1 p2 _ h
  · replace h := ite_f c1 h
    refine x_iload_n d_P_better_5 rfl 1 rfl ?_
    refine x_iconst d_P_better_6 ic_m1 ?_
    refine x_icmp_ne (tgt := 21) d_P_better_7 rfl (fun c2 => ?_) (fun c2 => ?_)
    · replace h := ite_f c2 h
      refine x_iload_n d_P_better_21 rfl 0 rfl ?_
      obtain ⟨v4, q3, h⟩ := bd_inv h
      refine y_S1i (v := v4) (S1 := S) d_P_better_22 ml_9_46 (Nat.le_of_ble_eq_true rfl) (Nat.le_of_ble_eq_true rfl) (c_J_bitCount (by omega) q3) ?_
      refine x_iload_n d_P_better_25 rfl 1 rfl ?_
      obtain ⟨v6, q5, h⟩ := bd_inv h
      refine y_S1i (v := v6) (S1 := S) d_P_better_26 ml_9_46 (Nat.le_of_ble_eq_true rfl) (Nat.le_of_ble_eq_true rfl) (c_J_bitCount (by omega) q5) ?_
      refine x_isub d_P_better_29 ?_
      obtain ⟨v7, e8, h⟩ := lt_inv h
      refine y_istore_n (L1 := [(0, .int p1), (1, .int p2), (2, .int v7)]) e8 d_P_better_30 rfl (Nat.le_of_ble_eq_true rfl) rfl rfl ?_
      refine x_iload_n d_P_better_31 rfl 2 rfl ?_
      refine x_if_lt (tgt := 44) d_P_better_32 rfl (fun c9 => ?_) (fun c9 => ?_)
      · replace h := ite_t c9 h
        refine x_iload_n d_P_better_44 rfl 0 rfl ?_
        refine x_goto (tgt := 49) d_P_better_45 rfl ?_
        obtain rfl := Option.some.inj h
        exact x_ret (r := some (.int p1)) d_P_better_49 ⟨_, rfl, rfl⟩
      · replace h := ite_f c9 h
        refine x_iload_n d_P_better_35 rfl 2 rfl ?_
        refine x_if_ne (tgt := 48) d_P_better_36 rfl (fun c10 => ?_) (fun c10 => ?_)
        · replace h := ite_f c10 h
          refine x_iload_n d_P_better_48 rfl 1 rfl ?_
          obtain rfl := Option.some.inj h
          exact x_ret (r := some (.int p2)) d_P_better_49 ⟨_, rfl, rfl⟩
        · replace h := ite_t c10 h
          refine x_iload_n d_P_better_39 rfl 0 rfl ?_
          refine x_iload_n d_P_better_40 rfl 1 rfl ?_
          refine x_icmp_ge (tgt := 48) d_P_better_41 rfl (fun c11 => ?_) (fun c11 => ?_)
          · replace h := ite_t c11 h
            refine x_iload_n d_P_better_48 rfl 1 rfl ?_
            obtain rfl := Option.some.inj h
            exact x_ret (r := some (.int p2)) d_P_better_49 ⟨_, rfl, rfl⟩
          · replace h := ite_f c11 h
            refine x_iload_n d_P_better_44 rfl 0 rfl ?_
            refine x_goto (tgt := 49) d_P_better_45 rfl ?_
            obtain rfl := Option.some.inj h
            exact x_ret (r := some (.int p1)) d_P_better_49 ⟨_, rfl, rfl⟩
    · replace h := ite_t c2 h
      exact J10 p1 p2 _ h
