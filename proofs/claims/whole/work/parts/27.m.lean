/-! NinetyPlayersModel.loss -/
def fM_loss (F G : Nat) (S : St) : Option (Int32 × St) :=
  bd (fM_fill F G S ) fun S2 => bd (fM_layMissed F G S2 ) fun S4 => bd (fM_given F G S4 (0 : Int32)) fun v6 => bd (fM_missedBy F G S4 v6) fun v8 => some (v8, S4)
set_option maxRecDepth 100000 in
set_option maxHeartbeats 4000000 in
theorem c_285 {X : Nat × (Nat → Int32)} {D F G : Nat} (hD : 4 ≤ D) {S : St} {res : Int32 × St} (h : fM_loss F G S  = some res) : Ek X (D) m285 0 [(0, .ref 78)] [] S (some (.int res.1)) res.2 := by
  obtain ⟨D, rfl⟩ : ∃ E, D = E + 1 := ⟨D - 1, by omega⟩
  unfold fM_loss at h
  refine x_aload_n d_285_0 rfl 0 rfl ?_
  obtain ⟨S2, q1, h⟩ := bd_inv h
  refine y_V0v (S1 := S2) d_285_1 ml_11_464 kd_78 rfl (Nat.le_of_ble_eq_true rfl) (Nat.le_of_ble_eq_true rfl) (c_251 (by omega) q1) ?_
  refine x_aload_n d_285_4 rfl 0 rfl ?_
  obtain ⟨S4, q3, h⟩ := bd_inv h
  refine y_V0v (S1 := S4) d_285_5 ml_11_497 kd_78 rfl (Nat.le_of_ble_eq_true rfl) (Nat.le_of_ble_eq_true rfl) (c_286 (by omega) q3) ?_
  refine x_aload_n d_285_8 rfl 0 rfl ?_
  refine x_aload_n d_285_9 rfl 0 rfl ?_
  refine x_iconst d_285_10 ic_0 ?_
  obtain ⟨v6, q5, h⟩ := bd_inv h
  refine y_V1i (v := v6) (S1 := S4) d_285_11 ml_11_454 kd_78 rfl (Nat.le_of_ble_eq_true rfl) (Nat.le_of_ble_eq_true rfl) (c_261 (by omega) q5) ?_
  obtain ⟨v8, q7, h⟩ := bd_inv h
  refine y_V1i (v := v8) (S1 := S4) d_285_14 ml_11_500 kd_78 rfl (Nat.le_of_ble_eq_true rfl) (Nat.le_of_ble_eq_true rfl) (c_287 (by omega) q7) ?_
  obtain rfl := Option.some.inj h
  exact x_ret (r := some (.int v8)) d_285_17 ⟨_, rfl, rfl⟩
/-! NinetyPlayersModel.power -/
def b_290_4 (F G : Nat) (S : St) (z0 : Int32) (z1 : Int32) (rec : Int32 → Int32 → Option (Int32)) (w2 : Int32) (w3 : Int32) : Option (Int32) :=
  if z1 ≤ w3 then some w2 else lt (w2 * z0) fun v2 => lt (w3 + 1) fun v4 => rec v2 v4
def fM_power (F G : Nat) (S : St) (p1 : Int32) (p2 : Int32) : Option (Int32) :=
  fx2 (b_290_4 F G S p1 p2) F (1 : Int32) (0 : Int32)
set_option maxRecDepth 100000 in
set_option maxHeartbeats 4000000 in
theorem T_290_4 {X : Nat × (Nat → Int32)} {D F G : Nat} (hD : 0 ≤ D) {S : St} {z0 : Int32} {z1 : Int32} : ∀ (f : Nat) (w2 : Int32) (w3 : Int32) (res : Int32), fx2 (b_290_4 F G S z0 z1 ) f w2 w3 = some res → Ek X (D) m290 4 [(0, .int z0), (1, .int z1), (2, .int w2), (3, .int w3)] [] S (some (.int res)) S := by
  refine fx2_ind ?_
  intro rec ih w2 w3 res h
  unfold b_290_4 at h
  refine x_iload_n d_290_4 rfl 3 rfl ?_
  refine x_iload_n d_290_5 rfl 1 rfl ?_
  refine x_icmp_ge (tgt := 19) d_290_6 rfl (fun c1 => ?_) (fun c1 => ?_)
  · replace h := ite_t c1 h
    refine x_iload_n d_290_19 rfl 2 rfl ?_
    obtain rfl := Option.some.inj h
    exact x_ret (r := some (.int w2)) d_290_20 ⟨_, rfl, rfl⟩
  · replace h := ite_f c1 h
    refine x_iload_n d_290_9 rfl 2 rfl ?_
    refine x_iload_n d_290_10 rfl 0 rfl ?_
    refine x_imul d_290_11 ?_
    obtain ⟨v2, e3, h⟩ := lt_inv h
    refine y_istore_n (L1 := [(0, .int z0), (1, .int z1), (2, .int v2), (3, .int w3)]) e3 d_290_12 rfl (Nat.le_of_ble_eq_true rfl) rfl rfl ?_
    obtain ⟨v4, e5, h⟩ := lt_inv h
    refine y_iinc (L1 := [(0, .int z0), (1, .int z1), (2, .int v2), (3, .int v4)]) e5 ic_1 d_290_13 3 rfl (Nat.le_of_ble_eq_true rfl) rfl rfl ?_
    refine x_goto (tgt := 4) d_290_16 rfl ?_
    exact ih v2 v4 _ h
set_option maxRecDepth 100000 in
set_option maxHeartbeats 4000000 in
theorem c_290 {X : Nat × (Nat → Int32)} {D F G : Nat} (hD : 0 ≤ D) {S : St} {p1 : Int32} {p2 : Int32} {res : Int32} (h : fM_power F G S p1 p2 = some res) : Ek X (D) m290 0 [(0, .int p1), (1, .int p2)] [] S (some (.int res)) S := by
  unfold fM_power at h
  refine x_iconst d_290_0 ic_1 ?_
  refine x_istore_n (L1 := [(0, .int p1), (1, .int p2), (2, .int (1 : Int32))]) d_290_1 rfl (Nat.le_of_ble_eq_true rfl) rfl rfl ?_
  refine x_iconst d_290_2 ic_0 ?_
  refine x_istore_n (L1 := [(0, .int p1), (1, .int p2), (2, .int (1 : Int32)), (3, .int (0 : Int32))]) d_290_3 rfl (Nat.le_of_ble_eq_true rfl) rfl rfl ?_
  refine T_290_4 (by omega)   F (1 : Int32) (0 : Int32) _ h
/-! NinetyPlayersModel.layVersion -/
def b_291_12 (F G : Nat) (rec : Int32 → Int32 → Int32 → St → Option (Int32 × St)) (w2 : Int32) (w3 : Int32) (w4 : Int32) (S : St) : Option (Int32 × St) :=
  if w4 < 0 then some (w3, S) else gd (inB w4 10) (lt (sI S 106 w4.toNatClampNeg (((w2 - w2 / (3 : Int32) * (3 : Int32)) + (1 : Int32)) - ((w2 - w2 / (3 : Int32) * (3 : Int32)) + (1 : Int32)) / (3 : Int32) * (3 : Int32))) fun S5 => lt (w2 / (3 : Int32)) fun v7 => gd (inB w4 10) (if (S5.1 106 w4.toNatClampNeg) = 0 then gd (inB w4 10) (lt (w3 + (S5.1 107 w4.toNatClampNeg)) fun v16 => lt (w4 + (-1)) fun v18 => rec v7 v16 v18 S5) else lt (w3 + (0 : Int32)) fun v11 => lt (w4 + (-1)) fun v13 => rec v7 v11 v13 S5))
def fM_layVersion (F G : Nat) (S : St) (p1 : Int32) : Option (Int32 × St) :=
  lt ((S.1 78 48) - (1 : Int32)) fun v1 => fx4 (b_291_12 F G ) F p1 (0 : Int32) v1 S
set_option maxRecDepth 100000 in
set_option maxHeartbeats 4000000 in
theorem T_291_12 {X : Nat × (Nat → Int32)} {D F G : Nat} (hD : 0 ≤ D) : ∀ (f : Nat) (w2 : Int32) (w3 : Int32) (w4 : Int32) (S : St) (res : Int32 × St), fx4 (b_291_12 F G ) f w2 w3 w4 S = some res → Ek X (D) m291 12 [(0, .ref 78), (2, .int w2), (3, .int w3), (4, .int w4)] [] S (some (.int res.1)) res.2 := by
  refine fx4_ind ?_
  intro rec ih w2 w3 w4 S res h
  unfold b_291_12 at h
  refine x_iload d_291_12 3 rfl ?_
  refine x_if_lt (tgt := 65) d_291_14 rfl (fun c3 => ?_) (fun c3 => ?_)
  · replace h := ite_t c3 h
    refine x_iload_n d_291_65 rfl 2 rfl ?_
    obtain rfl := Option.some.inj h
    exact x_ret (r := some (.int w3)) d_291_66 ⟨_, rfl, rfl⟩
  · replace h := ite_f c3 h
    refine x_aload_n d_291_17 rfl 0 rfl ?_
    refine y_getR d_291_18 fl_11_111 rfl kd_78 rr_78_66 ?_
    refine x_iload d_291_21 3 rfl ?_
    refine x_iload_n d_291_23 rfl 1 rfl ?_
    refine x_iconst d_291_24 ic_3 ?_
    refine x_irem d_291_25 (by decide) ?_
    refine x_iconst d_291_26 ic_1 ?_
    refine x_iadd d_291_27 ?_
    refine x_iconst d_291_28 ic_3 ?_
    refine x_irem d_291_29 (by decide) ?_
    obtain ⟨g4, h⟩ := gd_inv h
    obtain ⟨S5, e6, h⟩ := lt_inv h
    refine y_iast e6 d_291_30 kd_106 g4 ?_
    refine x_iload_n d_291_31 rfl 1 rfl ?_
    refine x_iconst d_291_32 ic_3 ?_
    refine x_idiv d_291_33 (by decide) ?_
    obtain ⟨v7, e8, h⟩ := lt_inv h
    refine y_istore_n (L1 := [(0, .ref 78), (2, .int v7), (3, .int w3), (4, .int w4)]) e8 d_291_34 rfl (Nat.le_of_ble_eq_true rfl) rfl rfl ?_
    refine x_iload_n d_291_35 rfl 2 rfl ?_
    refine x_aload_n d_291_36 rfl 0 rfl ?_
    refine y_getR d_291_37 fl_11_111 rfl kd_78 rr_78_66 ?_
    refine x_iload d_291_40 3 rfl ?_
    obtain ⟨g9, h⟩ := gd_inv h
    refine y_iald d_291_42 kd_106 g9 ?_
    refine x_if_ne (tgt := 56) d_291_43 rfl (fun c10 => ?_) (fun c10 => ?_)
    · replace h := ite_f c10 h
      refine x_iconst d_291_56 ic_0 ?_
      refine x_iadd d_291_57 ?_
      obtain ⟨v11, e12, h⟩ := lt_inv h
      refine y_istore_n (L1 := [(0, .ref 78), (2, .int v7), (3, .int v11), (4, .int w4)]) e12 d_291_58 rfl (Nat.le_of_ble_eq_true rfl) rfl rfl ?_
      obtain ⟨v13, e14, h⟩ := lt_inv h
      refine y_iinc (L1 := [(0, .ref 78), (2, .int v7), (3, .int v11), (4, .int v13)]) e14 ic_m1 d_291_59 3 rfl (Nat.le_of_ble_eq_true rfl) rfl rfl ?_
      refine x_goto (tgt := 12) d_291_62 rfl ?_
      exact ih v7 v11 v13 S5 _ h
    · replace h := ite_t c10 h
      refine x_aload_n d_291_46 rfl 0 rfl ?_
      refine y_getR d_291_47 fl_11_114 rfl kd_78 rr_78_67 ?_
      refine x_iload d_291_50 3 rfl ?_
      obtain ⟨g15, h⟩ := gd_inv h
      refine y_iald d_291_52 kd_107 g15 ?_
      refine x_goto (tgt := 57) d_291_53 rfl ?_
      refine x_iadd d_291_57 ?_
      obtain ⟨v16, e17, h⟩ := lt_inv h
      refine y_istore_n (L1 := [(0, .ref 78), (2, .int v7), (3, .int v16), (4, .int w4)]) e17 d_291_58 rfl (Nat.le_of_ble_eq_true rfl) rfl rfl ?_
      obtain ⟨v18, e19, h⟩ := lt_inv h
      refine y_iinc (L1 := [(0, .ref 78), (2, .int v7), (3, .int v16), (4, .int v18)]) e19 ic_m1 d_291_59 3 rfl (Nat.le_of_ble_eq_true rfl) rfl rfl ?_
      refine x_goto (tgt := 12) d_291_62 rfl ?_
      exact ih v7 v16 v18 S5 _ h
set_option maxRecDepth 100000 in
set_option maxHeartbeats 4000000 in
theorem c_291 {X : Nat × (Nat → Int32)} {D F G : Nat} (hD : 0 ≤ D) {S : St} {p1 : Int32} {res : Int32 × St} (h : fM_layVersion F G S p1 = some res) : Ek X (D) m291 0 [(0, .ref 78), (1, .int p1)] [] S (some (.int res.1)) res.2 := by
  unfold fM_layVersion at h
  refine x_iload_n d_291_0 rfl 1 rfl ?_
  refine x_istore_n (L1 := [(0, .ref 78), (1, .int p1), (2, .int p1)]) d_291_1 rfl (Nat.le_of_ble_eq_true rfl) rfl rfl ?_
  refine x_iconst d_291_2 ic_0 ?_
  refine x_istore_n (L1 := [(0, .ref 78), (1, .int p1), (2, .int p1), (3, .int (0 : Int32))]) d_291_3 rfl (Nat.le_of_ble_eq_true rfl) rfl rfl ?_
  refine x_aload_n d_291_4 rfl 0 rfl ?_
  refine y_getI d_291_5 fl_11_322 rfl kd_78 ?_
  refine x_iconst d_291_8 ic_1 ?_
  refine x_isub d_291_9 ?_
  obtain ⟨v1, e2, h⟩ := lt_inv h
  refine y_istore (L1 := [(0, .ref 78), (1, .int p1), (2, .int p1), (3, .int (0 : Int32)), (4, .int v1)]) e2 d_291_10 (Nat.le_of_ble_eq_true rfl) rfl rfl ?_
  refine y_pick (L1 := [(0, .ref 78), (2, .int p1), (3, .int (0 : Int32)), (4, .int v1)]) [0, 2, 3, 4] rfl ?_
  refine T_291_12 (by omega)   F p1 (0 : Int32) v1 S _ h
/-! NinetyPlayersModel.rowOf -/
def j_292_28 (F G : Nat) (S : St) (z1 : Int32) (rec : Int32 → Int32 → Option (Int32)) (_ : St) (y3 : Int32) (s0 : Int32) (s1 : Int32) : Option (Int32) :=
  bd (fM_truth F G S s1) fun v5 => lt (s0 ||| (v5 <<< (y3 &&& 31))) fun v6 => lt (y3 + 1) fun v8 => rec v6 v8
def b_292_4 (F G : Nat) (S : St) (z1 : Int32) (rec : Int32 → Int32 → Option (Int32)) (w2 : Int32) (w3 : Int32) : Option (Int32) :=
  if (S.1 78 48) ≤ w3 then some w2 else gd (inB w3 10) (if (S.1 106 w3.toNatClampNeg) = z1 then j_292_28 F G S z1 rec  S w3 w2 (1 : Int32) else j_292_28 F G S z1 rec  S w3 w2 (0 : Int32))
def fM_rowOf (F G : Nat) (S : St) (p1 : Int32) : Option (Int32) :=
  fx2 (b_292_4 F G S p1) F (0 : Int32) (0 : Int32)
set_option maxRecDepth 100000 in
set_option maxHeartbeats 4000000 in
theorem T_292_4 {X : Nat × (Nat → Int32)} {D F G : Nat} (hD : 1 ≤ D + 1) {S : St} {z1 : Int32} : ∀ (f : Nat) (w2 : Int32) (w3 : Int32) (res : Int32), fx2 (b_292_4 F G S z1 ) f w2 w3 = some res → Ek X (D + 1) m292 4 [(0, .ref 78), (1, .int z1), (2, .int w2), (3, .int w3)] [] S (some (.int res)) S := by
  refine fx2_ind ?_
  intro rec ih w2 w3 res h
  unfold b_292_4 at h
  have J28 : ∀ (y3 : Int32) (s0 : Int32) (s1 : Int32) (res : Int32), j_292_28 F G S z1 rec S y3 s0 s1 = some res → Ek X (D + 1) m292 28 [(0, .ref 78), (1, .int z1), (3, .int y3)] [.int s1, .int s0] S (some (.int res)) S := by
    intro y3 s0 s1 res h
    unfold j_292_28 at h
    obtain ⟨v5, q4, h⟩ := bd_inv h
    refine y_S1i (v := v5) (S1 := S) d_292_28 ml_11_318 (Nat.le_of_ble_eq_true rfl) (Nat.le_of_ble_eq_true rfl) (c_229 (by omega) q4) ?_
    refine x_iload_n d_292_31 rfl 2 rfl ?_
    refine x_ishl d_292_32 ?_
    refine x_ior d_292_33 ?_
    obtain ⟨v6, e7, h⟩ := lt_inv h
    refine y_istore_n (L1 := [(0, .ref 78), (1, .int z1), (2, .int v6), (3, .int y3)]) e7 d_292_34 rfl (Nat.le_of_ble_eq_true rfl) rfl rfl ?_
    obtain ⟨v8, e9, h⟩ := lt_inv h
    refine y_iinc (L1 := [(0, .ref 78), (1, .int z1), (2, .int v6), (3, .int v8)]) e9 ic_1 d_292_35 3 rfl (Nat.le_of_ble_eq_true rfl) rfl rfl ?_
    refine x_goto (tgt := 4) d_292_38 rfl ?_
    exact ih v6 v8 _ h
  refine x_iload_n d_292_4 rfl 3 rfl ?_
  refine x_aload_n d_292_5 rfl 0 rfl ?_
  refine y_getI d_292_6 fl_11_322 rfl kd_78 ?_
  refine x_icmp_ge (tgt := 41) d_292_9 rfl (fun c1 => ?_) (fun c1 => ?_)
  · replace h := ite_t c1 h
    refine x_iload_n d_292_41 rfl 2 rfl ?_
    obtain rfl := Option.some.inj h
    exact x_ret (r := some (.int w2)) d_292_42 ⟨_, rfl, rfl⟩
  · replace h := ite_f c1 h
    refine x_iload_n d_292_12 rfl 2 rfl ?_
    refine x_aload_n d_292_13 rfl 0 rfl ?_
    refine y_getR d_292_14 fl_11_111 rfl kd_78 rr_78_66 ?_
    refine x_iload_n d_292_17 rfl 3 rfl ?_
    obtain ⟨g2, h⟩ := gd_inv h
    refine y_iald d_292_18 kd_106 g2 ?_
    refine x_iload_n d_292_19 rfl 1 rfl ?_
    refine x_icmp_ne (tgt := 27) d_292_20 rfl (fun c3 => ?_) (fun c3 => ?_)
    · replace h := ite_f c3 h
      refine x_iconst d_292_27 ic_0 ?_
      refine y_pick (L1 := [(0, .ref 78), (1, .int z1), (3, .int w3)]) [0, 1, 3] rfl ?_
      exact J28 w3 w2 (0 : Int32) _ h
    · replace h := ite_t c3 h
      refine x_iconst d_292_23 ic_1 ?_
      refine x_goto (tgt := 28) d_292_24 rfl ?_
      refine y_pick (L1 := [(0, .ref 78), (1, .int z1), (3, .int w3)]) [0, 1, 3] rfl ?_
      exact J28 w3 w2 (1 : Int32) _ h
set_option maxRecDepth 100000 in
set_option maxHeartbeats 4000000 in
theorem c_292 {X : Nat × (Nat → Int32)} {D F G : Nat} (hD : 1 ≤ D) {S : St} {p1 : Int32} {res : Int32} (h : fM_rowOf F G S p1 = some res) : Ek X (D) m292 0 [(0, .ref 78), (1, .int p1)] [] S (some (.int res)) S := by
  obtain ⟨D, rfl⟩ : ∃ E, D = E + 1 := ⟨D - 1, by omega⟩
  unfold fM_rowOf at h
  refine x_iconst d_292_0 ic_0 ?_
  refine x_istore_n (L1 := [(0, .ref 78), (1, .int p1), (2, .int (0 : Int32))]) d_292_1 rfl (Nat.le_of_ble_eq_true rfl) rfl rfl ?_
  refine x_iconst d_292_2 ic_0 ?_
  refine x_istore_n (L1 := [(0, .ref 78), (1, .int p1), (2, .int (0 : Int32)), (3, .int (0 : Int32))]) d_292_3 rfl (Nat.le_of_ble_eq_true rfl) rfl rfl ?_
  refine T_292_4 (by omega)   F (0 : Int32) (0 : Int32) _ h
/-! NinetyPlayersModel.canBePlayed -/
def b_293_6 (F G : Nat) (S : St) (z1 : Int32) (z2 : Int32) (z3 : Int32) (z4 : Int32) (rec : Int32 → Int32 → Option (Int32)) (w5 : Int32) (w6 : Int32) : Option (Int32) :=
  if (S.1 78 46) ≤ w6 then gd (isB w5) (some w5) else if w5 = 0 then gd (isB w5) (some w5) else bd (fM_clashBy F G S w6 z1 z2 z3 z4) fun v6 => if v6 = 0 then lt (w6 + 1) fun v10 => rec (1 : Int32) v10 else lt (w6 + 1) fun v8 => rec (0 : Int32) v8
def fM_canBePlayed (F G : Nat) (S : St) (p1 : Int32) (p2 : Int32) (p3 : Int32) (p4 : Int32) : Option (Int32) :=
  fx2 (b_293_6 F G S p1 p2 p3 p4) F (1 : Int32) (0 : Int32)
set_option maxRecDepth 100000 in
set_option maxHeartbeats 4000000 in
theorem T_293_6 {X : Nat × (Nat → Int32)} {D F G : Nat} (hD : 3 ≤ D + 1) {S : St} {z1 : Int32} {z2 : Int32} {z3 : Int32} {z4 : Int32} : ∀ (f : Nat) (w5 : Int32) (w6 : Int32) (res : Int32), fx2 (b_293_6 F G S z1 z2 z3 z4 ) f w5 w6 = some res → Ek X (D + 1) m293 6 [(0, .ref 78), (1, .int z1), (2, .int z2), (3, .int z3), (4, .int z4), (5, .int w5), (6, .int w6)] [] S (some (.int res)) S := by
  refine fx2_ind ?_
  intro rec ih w5 w6 res h
  unfold b_293_6 at h
  refine x_iload d_293_6 6 rfl ?_
  refine x_aload_n d_293_8 rfl 0 rfl ?_
  refine y_getI d_293_9 fl_11_78 rfl kd_78 ?_
  refine x_icmp_ge (tgt := 47) d_293_12 rfl (fun c1 => ?_) (fun c1 => ?_)
  · replace h := ite_t c1 h
    refine x_iload d_293_47 5 rfl ?_
    obtain ⟨g2, h⟩ := gd_inv h
    obtain rfl := Option.some.inj h
    exact x_ret (r := some (.int w5)) d_293_49 ⟨_, rfl, isB_nar g2⟩
  · replace h := ite_f c1 h
    refine x_iload d_293_15 5 rfl ?_
    refine x_if_eq (tgt := 47) d_293_17 rfl (fun c3 => ?_) (fun c3 => ?_)
    · replace h := ite_t c3 h
      refine x_iload d_293_47 5 rfl ?_
      obtain ⟨g4, h⟩ := gd_inv h
      obtain rfl := Option.some.inj h
      exact x_ret (r := some (.int w5)) d_293_49 ⟨_, rfl, isB_nar g4⟩
    · replace h := ite_f c3 h
      refine x_aload_n d_293_20 rfl 0 rfl ?_
      refine x_iload d_293_21 6 rfl ?_
      refine x_iload_n d_293_23 rfl 1 rfl ?_
      refine x_iload_n d_293_24 rfl 2 rfl ?_
      refine x_iload_n d_293_25 rfl 3 rfl ?_
      refine x_iload d_293_26 4 rfl ?_
      obtain ⟨v6, q5, h⟩ := bd_inv h
      refine y_V5i (v := v6) (S1 := S) d_293_28 ml_11_450 kd_78 rfl (Nat.le_of_ble_eq_true rfl) (Nat.le_of_ble_eq_true rfl) (c_268 (by omega) q5) ?_
      refine x_if_ne (tgt := 38) d_293_31 rfl (fun c7 => ?_) (fun c7 => ?_)
      · replace h := ite_f c7 h
        refine x_iconst d_293_38 ic_0 ?_
        refine x_istore (L1 := [(0, .ref 78), (1, .int z1), (2, .int z2), (3, .int z3), (4, .int z4), (5, .int (0 : Int32)), (6, .int w6)]) d_293_39 (Nat.le_of_ble_eq_true rfl) rfl rfl ?_
        obtain ⟨v8, e9, h⟩ := lt_inv h
        refine y_iinc (L1 := [(0, .ref 78), (1, .int z1), (2, .int z2), (3, .int z3), (4, .int z4), (5, .int (0 : Int32)), (6, .int v8)]) e9 ic_1 d_293_41 6 rfl (Nat.le_of_ble_eq_true rfl) rfl rfl ?_
        refine x_goto (tgt := 6) d_293_44 rfl ?_
        exact ih (0 : Int32) v8 _ h
      · replace h := ite_t c7 h
        refine x_iconst d_293_34 ic_1 ?_
        refine x_goto (tgt := 39) d_293_35 rfl ?_
        refine x_istore (L1 := [(0, .ref 78), (1, .int z1), (2, .int z2), (3, .int z3), (4, .int z4), (5, .int (1 : Int32)), (6, .int w6)]) d_293_39 (Nat.le_of_ble_eq_true rfl) rfl rfl ?_
        obtain ⟨v10, e11, h⟩ := lt_inv h
        refine y_iinc (L1 := [(0, .ref 78), (1, .int z1), (2, .int z2), (3, .int z3), (4, .int z4), (5, .int (1 : Int32)), (6, .int v10)]) e11 ic_1 d_293_41 6 rfl (Nat.le_of_ble_eq_true rfl) rfl rfl ?_
        refine x_goto (tgt := 6) d_293_44 rfl ?_
        exact ih (1 : Int32) v10 _ h
set_option maxRecDepth 100000 in
set_option maxHeartbeats 4000000 in
theorem c_293 {X : Nat × (Nat → Int32)} {D F G : Nat} (hD : 3 ≤ D) {S : St} {p1 : Int32} {p2 : Int32} {p3 : Int32} {p4 : Int32} {res : Int32} (h : fM_canBePlayed F G S p1 p2 p3 p4 = some res) : Ek X (D) m293 0 [(0, .ref 78), (1, .int p1), (2, .int p2), (3, .int p3), (4, .int p4)] [] S (some (.int res)) S := by
  obtain ⟨D, rfl⟩ : ∃ E, D = E + 1 := ⟨D - 1, by omega⟩
  unfold fM_canBePlayed at h
  refine x_iconst d_293_0 ic_1 ?_
  refine x_istore (L1 := [(0, .ref 78), (1, .int p1), (2, .int p2), (3, .int p3), (4, .int p4), (5, .int (1 : Int32))]) d_293_1 (Nat.le_of_ble_eq_true rfl) rfl rfl ?_
  refine x_iconst d_293_3 ic_0 ?_
  refine x_istore (L1 := [(0, .ref 78), (1, .int p1), (2, .int p2), (3, .int p3), (4, .int p4), (5, .int (1 : Int32)), (6, .int (0 : Int32))]) d_293_4 (Nat.le_of_ble_eq_true rfl) rfl rfl ?_
  refine T_293_6 (by omega)   F (1 : Int32) (0 : Int32) _ h
/-! NinetyPlayersModel.best -/
def b_289_70 (F G : Nat) (z1 : Int32) (z2 : Int32) (z3 : Int32) (z4 : Int32) (k99 : St → Option (Int32 × St)) (rec : Int32 → St → Option (Int32 × St)) (w6 : Int32) (S : St) : Option (Int32 × St) :=
  if (S.1 78 48) ≤ w6 then k99 S else gd (inB w6 10) (gd (inB w6 10) (lt (sI S 105 w6.toNatClampNeg (S.1 106 w6.toNatClampNeg)) fun S26 => lt (w6 + 1) fun v28 => rec v28 S26))
def b_289_15 (F G : Nat) (z1 : Int32) (z2 : Int32) (rec : Int32 → Int32 → St → Option (Int32 × St)) (w3 : Int32) (w4 : Int32) (S : St) : Option (Int32 × St) :=
  bd (fM_power F G S (3 : Int32) (S.1 78 48)) fun v6 => if v6 ≤ w4 then lt (sI S 78 68 (S.1 78 48)) fun S8 => some (w3, S8) else bd2 (fM_layVersion F G S w4) fun v11 S12 => if w3 ≤ v11 then lt (w4 + 1) fun v14 => rec w3 v14 S12 else bd (fM_rowOf F G S12 (1 : Int32)) fun v17 => bd (fM_rowOf F G S12 (2 : Int32)) fun v19 => bd (fM_canBePlayed F G S12 v17 v19 z1 z2) fun v21 => if v21 = 0 then lt (w4 + 1) fun v33 => rec w3 v33 S12 else fx2 (b_289_70 F G z1 z2 v11 w4 (fun S30 => lt (w4 + 1) fun v31 => rec v11 v31 S30)) F (0 : Int32) S12
def fM_best (F G : Nat) (S : St) (p1 : Int32) (p2 : Int32) : Option (Int32 × St) :=
  bd (fM_fill F G S ) fun S2 => bd (fM_layMissed F G S2 ) fun S4 => fx3 (b_289_15 F G p1 p2) F (1000000 : Int32) (0 : Int32) S4
set_option maxRecDepth 100000 in
set_option maxHeartbeats 4000000 in
theorem T_289_70 {X : Nat × (Nat → Int32)} {D F G : Nat} (hD : 4 ≤ D + 1) {z1 : Int32} {z2 : Int32} {z3 : Int32} {z4 : Int32} {k99 : St → Option (Int32 × St)} (hk99 : ∀ (S1 : St) (res : Int32 × St), k99 S1 = some res → Ek X (D + 1) m289 99 [(0, .ref 78), (1, .int z1), (2, .int z2), (3, .int z3), (4, .int z4)] [] S1 (some (.int res.1)) res.2) : ∀ (f : Nat) (w6 : Int32) (S : St) (res : Int32 × St), fx2 (b_289_70 F G z1 z2 z3 z4 k99 ) f w6 S = some res → Ek X (D + 1) m289 70 [(0, .ref 78), (1, .int z1), (2, .int z2), (3, .int z3), (4, .int z4), (6, .int w6)] [] S (some (.int res.1)) res.2 := by
  refine fx2_ind ?_
  intro rec ih w6 S res h
  unfold b_289_70 at h
  refine x_iload d_289_70 5 rfl ?_
  refine x_aload_n d_289_72 rfl 0 rfl ?_
  refine y_getI d_289_73 fl_11_322 rfl kd_78 ?_
  refine x_icmp_ge (tgt := 99) d_289_76 rfl (fun c23 => ?_) (fun c23 => ?_)
  · replace h := ite_t c23 h
    refine y_pick (L1 := [(0, .ref 78), (1, .int z1), (2, .int z2), (3, .int z3), (4, .int z4)]) [0, 1, 2, 3, 4] rfl ?_
    exact hk99 S _ h
  · replace h := ite_f c23 h
    refine x_aload_n d_289_79 rfl 0 rfl ?_
    refine y_getR d_289_80 fl_11_108 rfl kd_78 rr_78_65 ?_
    refine x_iload d_289_83 5 rfl ?_
    refine x_aload_n d_289_85 rfl 0 rfl ?_
    refine y_getR d_289_86 fl_11_111 rfl kd_78 rr_78_66 ?_
    refine x_iload d_289_89 5 rfl ?_
    obtain ⟨g24, h⟩ := gd_inv h
    refine y_iald d_289_91 kd_106 g24 ?_
    obtain ⟨g25, h⟩ := gd_inv h
    obtain ⟨S26, e27, h⟩ := lt_inv h
    refine y_iast e27 d_289_92 kd_105 g25 ?_
    obtain ⟨v28, e29, h⟩ := lt_inv h
    refine y_iinc (L1 := [(0, .ref 78), (1, .int z1), (2, .int z2), (3, .int z3), (4, .int z4), (6, .int v28)]) e29 ic_1 d_289_93 5 rfl (Nat.le_of_ble_eq_true rfl) rfl rfl ?_
    refine x_goto (tgt := 70) d_289_96 rfl ?_
    exact ih v28 S26 _ h
set_option maxRecDepth 100000 in
set_option maxHeartbeats 4000000 in
theorem T_289_15 {X : Nat × (Nat → Int32)} {D F G : Nat} (hD : 4 ≤ D + 1) {z1 : Int32} {z2 : Int32} : ∀ (f : Nat) (w3 : Int32) (w4 : Int32) (S : St) (res : Int32 × St), fx3 (b_289_15 F G z1 z2 ) f w3 w4 S = some res → Ek X (D + 1) m289 15 [(0, .ref 78), (1, .int z1), (2, .int z2), (3, .int w3), (4, .int w4)] [] S (some (.int res.1)) res.2 := by
  refine fx3_ind ?_
  intro rec ih w3 w4 S res h
  unfold b_289_15 at h
  refine x_iload d_289_15 4 rfl ?_
  refine x_iconst d_289_17 ic_3 ?_
  refine x_aload_n d_289_18 rfl 0 rfl ?_
  refine y_getI d_289_19 fl_11_322 rfl kd_78 ?_
  obtain ⟨v6, q5, h⟩ := bd_inv h
  refine y_S2i (v := v6) (S1 := S) d_289_22 ml_11_503 (Nat.le_of_ble_eq_true rfl) (Nat.le_of_ble_eq_true rfl) (c_290 (by omega) q5) ?_
  refine x_icmp_ge (tgt := 105) d_289_25 rfl (fun c7 => ?_) (fun c7 => ?_)
  · replace h := ite_t c7 h
    refine x_aload_n d_289_105 rfl 0 rfl ?_
    refine x_aload_n d_289_106 rfl 0 rfl ?_
    refine y_getI d_289_107 fl_11_322 rfl kd_78 ?_
    obtain ⟨S8, e9, h⟩ := lt_inv h
    refine y_putI e9 d_289_110 fl_11_426 rfl rfl kd_78 rfl rfl ?_
    refine x_iload_n d_289_113 rfl 3 rfl ?_
    obtain rfl := Option.some.inj h
    exact x_ret (r := some (.int w3)) d_289_114 ⟨_, rfl, rfl⟩
  · replace h := ite_f c7 h
    refine x_aload_n d_289_28 rfl 0 rfl ?_
    refine x_iload d_289_29 4 rfl ?_
    obtain ⟨v11, S12, q10, h⟩ := bd2_inv h
    refine y_V1i (v := v11) (S1 := S12) d_289_31 ml_11_506 kd_78 rfl (Nat.le_of_ble_eq_true rfl) (Nat.le_of_ble_eq_true rfl) (c_291 (by omega) q10) ?_
    refine x_istore (L1 := [(0, .ref 78), (1, .int z1), (2, .int z2), (3, .int w3), (4, .int w4), (5, .int v11)]) d_289_34 (Nat.le_of_ble_eq_true rfl) rfl rfl ?_
    refine x_iload d_289_36 5 rfl ?_
    refine x_iload_n d_289_38 rfl 3 rfl ?_
    refine x_icmp_ge (tgt := 99) d_289_39 rfl (fun c13 => ?_) (fun c13 => ?_)
    · replace h := ite_t c13 h
      obtain ⟨v14, e15, h⟩ := lt_inv h
      refine y_iinc (L1 := [(0, .ref 78), (1, .int z1), (2, .int z2), (3, .int w3), (4, .int v14), (5, .int v11)]) e15 ic_1 d_289_99 4 rfl (Nat.le_of_ble_eq_true rfl) rfl rfl ?_
      refine x_goto (tgt := 15) d_289_102 rfl ?_
      refine y_pick (L1 := [(0, .ref 78), (1, .int z1), (2, .int z2), (3, .int w3), (4, .int v14)]) [0, 1, 2, 3, 4] rfl ?_
      exact ih w3 v14 S12 _ h
    · replace h := ite_f c13 h
      refine x_aload_n d_289_42 rfl 0 rfl ?_
      refine x_aload_n d_289_43 rfl 0 rfl ?_
      refine x_iconst d_289_44 ic_1 ?_
      obtain ⟨v17, q16, h⟩ := bd_inv h
      refine y_V1i (v := v17) (S1 := S12) d_289_45 ml_11_509 kd_78 rfl (Nat.le_of_ble_eq_true rfl) (Nat.le_of_ble_eq_true rfl) (c_292 (by omega) q16) ?_
      refine x_aload_n d_289_48 rfl 0 rfl ?_
      refine x_iconst d_289_49 ic_2 ?_
      obtain ⟨v19, q18, h⟩ := bd_inv h
      refine y_V1i (v := v19) (S1 := S12) d_289_50 ml_11_509 kd_78 rfl (Nat.le_of_ble_eq_true rfl) (Nat.le_of_ble_eq_true rfl) (c_292 (by omega) q18) ?_
      refine x_iload_n d_289_53 rfl 1 rfl ?_
      refine x_iload_n d_289_54 rfl 2 rfl ?_
      obtain ⟨v21, q20, h⟩ := bd_inv h
      refine y_V4i (v := v21) (S1 := S12) d_289_55 ml_11_457 kd_78 rfl (Nat.le_of_ble_eq_true rfl) (Nat.le_of_ble_eq_true rfl) (c_293 (by omega) q20) ?_
      refine x_if_ne (tgt := 64) d_289_58 rfl (fun c22 => ?_) (fun c22 => ?_)
      · replace h := ite_f c22 h
        refine x_iload d_289_64 5 rfl ?_
        refine x_istore_n (L1 := [(0, .ref 78), (1, .int z1), (2, .int z2), (3, .int v11), (4, .int w4), (5, .int v11)]) d_289_66 rfl (Nat.le_of_ble_eq_true rfl) rfl rfl ?_
        refine x_iconst d_289_67 ic_0 ?_
        refine x_istore (L1 := [(0, .ref 78), (1, .int z1), (2, .int z2), (3, .int v11), (4, .int w4), (5, .int v11), (6, .int (0 : Int32))]) d_289_68 (Nat.le_of_ble_eq_true rfl) rfl rfl ?_
        refine y_pick (L1 := [(0, .ref 78), (1, .int z1), (2, .int z2), (3, .int v11), (4, .int w4), (6, .int (0 : Int32))]) [0, 1, 2, 3, 4, 6] rfl ?_
        refine T_289_70 (by omega)  ?_ F (0 : Int32) S12 _ h
        · intro S30 res h
          obtain ⟨v31, e32, h⟩ := lt_inv h
          refine y_iinc (L1 := [(0, .ref 78), (1, .int z1), (2, .int z2), (3, .int v11), (4, .int v31)]) e32 ic_1 d_289_99 4 rfl (Nat.le_of_ble_eq_true rfl) rfl rfl ?_
          refine x_goto (tgt := 15) d_289_102 rfl ?_
          exact ih v11 v31 S30 _ h
      · replace h := ite_t c22 h
        refine x_goto (tgt := 99) d_289_61 rfl ?_
        obtain ⟨v33, e34, h⟩ := lt_inv h
        refine y_iinc (L1 := [(0, .ref 78), (1, .int z1), (2, .int z2), (3, .int w3), (4, .int v33), (5, .int v11)]) e34 ic_1 d_289_99 4 rfl (Nat.le_of_ble_eq_true rfl) rfl rfl ?_
        refine x_goto (tgt := 15) d_289_102 rfl ?_
        refine y_pick (L1 := [(0, .ref 78), (1, .int z1), (2, .int z2), (3, .int w3), (4, .int v33)]) [0, 1, 2, 3, 4] rfl ?_
        exact ih w3 v33 S12 _ h
set_option maxRecDepth 100000 in
set_option maxHeartbeats 4000000 in
theorem c_289 {X : Nat × (Nat → Int32)} {D F G : Nat} (hD : 4 ≤ D) {S : St} {p1 : Int32} {p2 : Int32} {res : Int32 × St} (h : fM_best F G S p1 p2 = some res) : Ek X (D) m289 0 [(0, .ref 78), (1, .int p1), (2, .int p2)] [] S (some (.int res.1)) res.2 := by
  obtain ⟨D, rfl⟩ : ∃ E, D = E + 1 := ⟨D - 1, by omega⟩
  unfold fM_best at h
  refine x_aload_n d_289_0 rfl 0 rfl ?_
  obtain ⟨S2, q1, h⟩ := bd_inv h
  refine y_V0v (S1 := S2) d_289_1 ml_11_464 kd_78 rfl (Nat.le_of_ble_eq_true rfl) (Nat.le_of_ble_eq_true rfl) (c_251 (by omega) q1) ?_
  refine x_aload_n d_289_4 rfl 0 rfl ?_
  obtain ⟨S4, q3, h⟩ := bd_inv h
  refine y_V0v (S1 := S4) d_289_5 ml_11_497 kd_78 rfl (Nat.le_of_ble_eq_true rfl) (Nat.le_of_ble_eq_true rfl) (c_286 (by omega) q3) ?_
  refine x_ldcw d_289_8 kc_11_436 ?_
  refine x_istore_n (L1 := [(0, .ref 78), (1, .int p1), (2, .int p2), (3, .int (1000000 : Int32))]) d_289_11 rfl (Nat.le_of_ble_eq_true rfl) rfl rfl ?_
  refine x_iconst d_289_12 ic_0 ?_
  refine x_istore (L1 := [(0, .ref 78), (1, .int p1), (2, .int p2), (3, .int (1000000 : Int32)), (4, .int (0 : Int32))]) d_289_13 (Nat.le_of_ble_eq_true rfl) rfl rfl ?_
  refine T_289_15 (by omega)   F (1000000 : Int32) (0 : Int32) S4 _ h
/-! NinetyPlayersModel.version -/
def b_288_35 (F G : Nat) (S : St) (rec : Int32 → Int32 → Option (Int32 × St)) (w3 : Int32) (w4 : Int32) : Option (Int32 × St) :=
  if (S.1 78 48) ≤ w4 then some (w3, S) else gd (inB w4 10) (if (S.1 105 w4.toNatClampNeg) ≤ 0 then bd (fM_truth F G S (0 : Int32)) fun v12 => lt (w3 + v12) fun v13 => lt (w4 + 1) fun v15 => rec v13 v15 else bd (fM_truth F G S (1 : Int32)) fun v18 => lt (w3 + v18) fun v19 => lt (w4 + 1) fun v21 => rec v19 v21)
def fM_version (F G : Nat) (S : St) (p1 : Int32) : Option (Int32 × St) :=
  bd (fM_isIn F G S p1 (0 : Int32) (1 : Int32)) fun v2 => if v2 = 0 then some ((-1 : Int32), S) else bd2 (fM_best F G S (S.1 78 50) (S.1 78 49)) fun v5 S6 => if p1 = 0 then some (v5, S6) else fx2 (b_288_35 F G S6) F (0 : Int32) (0 : Int32)
set_option maxRecDepth 100000 in
set_option maxHeartbeats 4000000 in
theorem T_288_35 {X : Nat × (Nat → Int32)} {D F G : Nat} (hD : 5 ≤ D + 1) {S : St} : ∀ (f : Nat) (w3 : Int32) (w4 : Int32) (res : Int32 × St), fx2 (b_288_35 F G S ) f w3 w4 = some res → Ek X (D + 1) m288 35 [(0, .ref 78), (3, .int w3), (4, .int w4)] [] S (some (.int res.1)) res.2 := by
  refine fx2_ind ?_
  intro rec ih w3 w4 res h
  unfold b_288_35 at h
  refine x_iload d_288_35 2 rfl ?_
  refine x_aload_n d_288_37 rfl 0 rfl ?_
  refine y_getI d_288_38 fl_11_322 rfl kd_78 ?_
  refine x_icmp_ge (tgt := 71) d_288_41 rfl (fun c8 => ?_) (fun c8 => ?_)
  · replace h := ite_t c8 h
    refine x_iload_n d_288_71 rfl 1 rfl ?_
    obtain rfl := Option.some.inj h
    exact x_ret (r := some (.int w3)) d_288_72 ⟨_, rfl, rfl⟩
  · replace h := ite_f c8 h
    refine x_iload_n d_288_44 rfl 1 rfl ?_
    refine x_aload_n d_288_45 rfl 0 rfl ?_
    refine y_getR d_288_46 fl_11_108 rfl kd_78 rr_78_65 ?_
    refine x_iload d_288_49 2 rfl ?_
    obtain ⟨g9, h⟩ := gd_inv h
    refine y_iald d_288_51 kd_105 g9 ?_
    refine x_if_le (tgt := 59) d_288_52 rfl (fun c10 => ?_) (fun c10 => ?_)
    · replace h := ite_t c10 h
      refine x_iconst d_288_59 ic_0 ?_
      obtain ⟨v12, q11, h⟩ := bd_inv h
      refine y_S1i (v := v12) (S1 := S) d_288_60 ml_11_318 (Nat.le_of_ble_eq_true rfl) (Nat.le_of_ble_eq_true rfl) (c_229 (by omega) q11) ?_
      refine x_iadd d_288_63 ?_
      obtain ⟨v13, e14, h⟩ := lt_inv h
      refine y_istore_n (L1 := [(0, .ref 78), (3, .int v13), (4, .int w4)]) e14 d_288_64 rfl (Nat.le_of_ble_eq_true rfl) rfl rfl ?_
      obtain ⟨v15, e16, h⟩ := lt_inv h
      refine y_iinc (L1 := [(0, .ref 78), (3, .int v13), (4, .int v15)]) e16 ic_1 d_288_65 2 rfl (Nat.le_of_ble_eq_true rfl) rfl rfl ?_
      refine x_goto (tgt := 35) d_288_68 rfl ?_
      exact ih v13 v15 _ h
    · replace h := ite_f c10 h
      refine x_iconst d_288_55 ic_1 ?_
      refine x_goto (tgt := 60) d_288_56 rfl ?_
      obtain ⟨v18, q17, h⟩ := bd_inv h
      refine y_S1i (v := v18) (S1 := S) d_288_60 ml_11_318 (Nat.le_of_ble_eq_true rfl) (Nat.le_of_ble_eq_true rfl) (c_229 (by omega) q17) ?_
      refine x_iadd d_288_63 ?_
      obtain ⟨v19, e20, h⟩ := lt_inv h
      refine y_istore_n (L1 := [(0, .ref 78), (3, .int v19), (4, .int w4)]) e20 d_288_64 rfl (Nat.le_of_ble_eq_true rfl) rfl rfl ?_
      obtain ⟨v21, e22, h⟩ := lt_inv h
      refine y_iinc (L1 := [(0, .ref 78), (3, .int v19), (4, .int v21)]) e22 ic_1 d_288_65 2 rfl (Nat.le_of_ble_eq_true rfl) rfl rfl ?_
      refine x_goto (tgt := 35) d_288_68 rfl ?_
      exact ih v19 v21 _ h
set_option maxRecDepth 100000 in
set_option maxHeartbeats 4000000 in
theorem c_288 {X : Nat × (Nat → Int32)} {D F G : Nat} (hD : 5 ≤ D) {S : St} {p1 : Int32} {res : Int32 × St} (h : fM_version F G S p1 = some res) : Ek X (D) m288 0 [(0, .ref 78), (1, .int p1)] [] S (some (.int res.1)) res.2 := by
  obtain ⟨D, rfl⟩ : ∃ E, D = E + 1 := ⟨D - 1, by omega⟩
  unfold fM_version at h
  refine x_iload_n d_288_0 rfl 1 rfl ?_
  refine x_iconst d_288_1 ic_0 ?_
  refine x_iconst d_288_2 ic_1 ?_
  obtain ⟨v2, q1, h⟩ := bd_inv h
  refine y_S3i (v := v2) (S1 := S) d_288_3 ml_11_429 (Nat.le_of_ble_eq_true rfl) (Nat.le_of_ble_eq_true rfl) (c_250 (by omega) q1) ?_
  refine x_if_ne (tgt := 11) d_288_6 rfl (fun c3 => ?_) (fun c3 => ?_)
  · replace h := ite_f c3 h
    refine x_aload_n d_288_11 rfl 0 rfl ?_
    refine x_aload_n d_288_12 rfl 0 rfl ?_
    refine y_getI d_288_13 fl_11_84 rfl kd_78 ?_
    refine x_aload_n d_288_16 rfl 0 rfl ?_
    refine y_getI d_288_17 fl_11_81 rfl kd_78 ?_
    obtain ⟨v5, S6, q4, h⟩ := bd2_inv h
    refine y_V2i (v := v5) (S1 := S6) d_288_20 ml_11_512 kd_78 rfl (Nat.le_of_ble_eq_true rfl) (Nat.le_of_ble_eq_true rfl) (c_289 (by omega) q4) ?_
    refine x_istore_n (L1 := [(0, .ref 78), (1, .int p1), (2, .int v5)]) d_288_23 rfl (Nat.le_of_ble_eq_true rfl) rfl rfl ?_
    refine x_iload_n d_288_24 rfl 1 rfl ?_
    refine x_if_ne (tgt := 30) d_288_25 rfl (fun c7 => ?_) (fun c7 => ?_)
    · replace h := ite_f c7 h
      refine x_iconst d_288_30 ic_0 ?_
      refine x_istore_n (L1 := [(0, .ref 78), (1, .int p1), (2, .int v5), (3, .int (0 : Int32))]) d_288_31 rfl (Nat.le_of_ble_eq_true rfl) rfl rfl ?_
      refine x_iconst d_288_32 ic_0 ?_
      refine x_istore (L1 := [(0, .ref 78), (1, .int p1), (2, .int v5), (3, .int (0 : Int32)), (4, .int (0 : Int32))]) d_288_33 (Nat.le_of_ble_eq_true rfl) rfl rfl ?_
      refine y_pick (L1 := [(0, .ref 78), (3, .int (0 : Int32)), (4, .int (0 : Int32))]) [0, 3, 4] rfl ?_
      refine T_288_35 (by omega)   F (0 : Int32) (0 : Int32) _ h
    · replace h := ite_t c7 h
      refine x_iload_n d_288_28 rfl 2 rfl ?_
      obtain rfl := Option.some.inj h
      exact x_ret (r := some (.int v5)) d_288_29 ⟨_, rfl, rfl⟩
  · replace h := ite_t c3 h
    refine x_iconst d_288_9 ic_m1 ?_
    obtain rfl := Option.some.inj h
    exact x_ret (r := some (.int (-1 : Int32))) d_288_10 ⟨_, rfl, rfl⟩
/-! NinetyPlayersModel.child -/
def fM_child (F G : Nat) (S : St) (p1 : Int32) (p2 : Int32) : Option (Int32 × St) :=
  lt (sI S 78 68 (0 : Int32)) fun S1 => bd (fM_isIn F G S1 p1 (1 : Int32) (5 : Int32)) fun v4 => if v4 = 0 then some ((-1 : Int32), S1) else bd (fM_isIn F G S1 p2 (0 : Int32) (87 : Int32)) fun v7 => if v7 = 0 then some ((-1 : Int32), S1) else bd2 (fM_best F G S1 p1 p2) fun v10 S11 => some (v10, S11)
set_option maxRecDepth 100000 in
set_option maxHeartbeats 4000000 in
theorem c_294 {X : Nat × (Nat → Int32)} {D F G : Nat} (hD : 5 ≤ D) {S : St} {p1 : Int32} {p2 : Int32} {res : Int32 × St} (h : fM_child F G S p1 p2 = some res) : Ek X (D) m294 0 [(0, .ref 78), (1, .int p1), (2, .int p2)] [] S (some (.int res.1)) res.2 := by
  obtain ⟨D, rfl⟩ : ∃ E, D = E + 1 := ⟨D - 1, by omega⟩
  unfold fM_child at h
  refine x_aload_n d_294_0 rfl 0 rfl ?_
  refine x_iconst d_294_1 ic_0 ?_
  obtain ⟨S1, e2, h⟩ := lt_inv h
  refine y_putI e2 d_294_2 fl_11_426 rfl rfl kd_78 rfl rfl ?_
  refine x_iload_n d_294_5 rfl 1 rfl ?_
  refine x_iconst d_294_6 ic_1 ?_
  refine x_iconst d_294_7 ic_5 ?_
  obtain ⟨v4, q3, h⟩ := bd_inv h
  refine y_S3i (v := v4) (S1 := S1) d_294_8 ml_11_429 (Nat.le_of_ble_eq_true rfl) (Nat.le_of_ble_eq_true rfl) (c_250 (by omega) q3) ?_
  refine x_if_eq (tgt := 33) d_294_11 rfl (fun c5 => ?_) (fun c5 => ?_)
  · replace h := ite_t c5 h
    refine x_iconst d_294_33 ic_m1 ?_
    obtain rfl := Option.some.inj h
    exact x_ret (r := some (.int (-1 : Int32))) d_294_34 ⟨_, rfl, rfl⟩
  · replace h := ite_f c5 h
    refine x_iload_n d_294_14 rfl 2 rfl ?_
    refine x_iconst d_294_15 ic_0 ?_
    refine x_bipush d_294_16 bp_87 ?_
    obtain ⟨v7, q6, h⟩ := bd_inv h
    refine y_S3i (v := v7) (S1 := S1) d_294_18 ml_11_429 (Nat.le_of_ble_eq_true rfl) (Nat.le_of_ble_eq_true rfl) (c_250 (by omega) q6) ?_
    refine x_if_eq (tgt := 33) d_294_21 rfl (fun c8 => ?_) (fun c8 => ?_)
    · replace h := ite_t c8 h
      refine x_iconst d_294_33 ic_m1 ?_
      obtain rfl := Option.some.inj h
      exact x_ret (r := some (.int (-1 : Int32))) d_294_34 ⟨_, rfl, rfl⟩
    · replace h := ite_f c8 h
      refine x_aload_n d_294_24 rfl 0 rfl ?_
      refine x_iload_n d_294_25 rfl 1 rfl ?_
      refine x_iload_n d_294_26 rfl 2 rfl ?_
      obtain ⟨v10, S11, q9, h⟩ := bd2_inv h
      refine y_V2i (v := v10) (S1 := S11) d_294_27 ml_11_512 kd_78 rfl (Nat.le_of_ble_eq_true rfl) (Nat.le_of_ble_eq_true rfl) (c_289 (by omega) q9) ?_
      refine x_goto (tgt := 34) d_294_30 rfl ?_
      obtain rfl := Option.some.inj h
      exact x_ret (r := some (.int v10)) d_294_34 ⟨_, rfl, rfl⟩
/-! NinetyPlayersModel.isOut -/
def fM_isOut (F G : Nat) (S : St) (p1 : Int32) : Option (Int32) :=
  bd (fM_isNote F G S p1) fun v2 => if v2 = 0 then some (0 : Int32) else gd (inB p1 41) (if (S.1 100 p1.toNatClampNeg) = 0 then some (1 : Int32) else some (0 : Int32))
set_option maxRecDepth 100000 in
set_option maxHeartbeats 4000000 in
theorem c_296 {X : Nat × (Nat → Int32)} {D F G : Nat} (hD : 2 ≤ D) {S : St} {p1 : Int32} {res : Int32} (h : fM_isOut F G S p1 = some res) : Ek X (D) m296 0 [(0, .ref 78), (1, .int p1)] [] S (some (.int res)) S := by
  obtain ⟨D, rfl⟩ : ∃ E, D = E + 1 := ⟨D - 1, by omega⟩
  unfold fM_isOut at h
  refine x_aload_n d_296_0 rfl 0 rfl ?_
  refine x_iload_n d_296_1 rfl 1 rfl ?_
  obtain ⟨v2, q1, h⟩ := bd_inv h
  refine y_V1i (v := v2) (S1 := S) d_296_2 ml_11_461 kd_78 rfl (Nat.le_of_ble_eq_true rfl) (Nat.le_of_ble_eq_true rfl) (c_249 (by omega) q1) ?_
  refine x_if_eq (tgt := 21) d_296_5 rfl (fun c3 => ?_) (fun c3 => ?_)
  · replace h := ite_t c3 h
    refine x_iconst d_296_21 ic_0 ?_
    obtain rfl := Option.some.inj h
    exact x_ret (r := some (.int (0 : Int32))) d_296_22 ⟨_, rfl, rfl⟩
  · replace h := ite_f c3 h
    refine x_aload_n d_296_8 rfl 0 rfl ?_
    refine y_getR d_296_9 fl_11_93 rfl kd_78 rr_78_58 ?_
    refine x_iload_n d_296_12 rfl 1 rfl ?_
    obtain ⟨g4, h⟩ := gd_inv h
    refine y_iald d_296_13 kd_100 g4 ?_
    refine x_if_ne (tgt := 21) d_296_14 rfl (fun c5 => ?_) (fun c5 => ?_)
    · replace h := ite_f c5 h
      refine x_iconst d_296_21 ic_0 ?_
      obtain rfl := Option.some.inj h
      exact x_ret (r := some (.int (0 : Int32))) d_296_22 ⟨_, rfl, rfl⟩
    · replace h := ite_t c5 h
      refine x_iconst d_296_17 ic_1 ?_
      refine x_goto (tgt := 22) d_296_18 rfl ?_
      obtain rfl := Option.some.inj h
      exact x_ret (r := some (.int (1 : Int32))) d_296_22 ⟨_, rfl, rfl⟩
/-! NinetyPlayersModel.forbidden -/
def j_297_104 (F G : Nat) (S : St) (z2 : Int32) (z3 : Int32) (z4 : Int32) (z5 : Int32) (rec : Int32 → Int32 → Option (Int32 × St)) (_ : St) (y6 : Int32) (y7 : Int32) (y8 : Int32) (s0 : Int32) : Option (Int32 × St) :=
  lt (y6 ||| (s0 &&& (y8 ^^^ (-1 : Int32)))) fun v17 => lt (y7 + 1) fun v19 => rec v17 v19
def b_297_28 (F G : Nat) (S : St) (z2 : Int32) (z3 : Int32) (z4 : Int32) (z5 : Int32) (rec : Int32 → Int32 → Option (Int32 × St)) (w6 : Int32) (w7 : Int32) : Option (Int32 × St) :=
  if (S.1 78 46) ≤ w7 then some (w6, S) else bd (fM_clashBy F G S w7 z3 z4 (S.1 78 50) (S.1 78 49)) fun v11 => if z2 = (1 : Int32) then bd (fM_clashBy F G S w7 (z3 ||| z5) z4 (S.1 78 50) (S.1 78 49)) fun v16 => j_297_104 F G S z2 z3 z4 z5 rec  S w6 w7 v11 v16 else bd (fM_clashBy F G S w7 z3 (z4 ||| z5) (S.1 78 50) (S.1 78 49)) fun v14 => j_297_104 F G S z2 z3 z4 z5 rec  S w6 w7 v11 v14
def fM_forbidden (F G : Nat) (S : St) (p1 : Int32) (p2 : Int32) : Option (Int32 × St) :=
  bd (fM_fill F G S ) fun S2 => bd (fM_given F G S2 (1 : Int32)) fun v4 => bd (fM_given F G S2 (2 : Int32)) fun v6 => lt ((1 : Int32) <<< (p1 &&& 31)) fun v7 => fx2 (b_297_28 F G S2 p2 v4 v6 v7) F (0 : Int32) (0 : Int32)
set_option maxRecDepth 100000 in
set_option maxHeartbeats 4000000 in
theorem T_297_28 {X : Nat × (Nat → Int32)} {D F G : Nat} (hD : 3 ≤ D + 1) {S : St} {z2 : Int32} {z3 : Int32} {z4 : Int32} {z5 : Int32} : ∀ (f : Nat) (w6 : Int32) (w7 : Int32) (res : Int32 × St), fx2 (b_297_28 F G S z2 z3 z4 z5 ) f w6 w7 = some res → Ek X (D + 1) m297 28 [(0, .ref 78), (2, .int z2), (3, .int z3), (4, .int z4), (5, .int z5), (6, .int w6), (7, .int w7)] [] S (some (.int res.1)) res.2 := by
  refine fx2_ind ?_
  intro rec ih w6 w7 res h
  unfold b_297_28 at h
  have J104 : ∀ (y6 : Int32) (y7 : Int32) (y8 : Int32) (s0 : Int32) (res : Int32 × St), j_297_104 F G S z2 z3 z4 z5 rec S y6 y7 y8 s0 = some res → Ek X (D + 1) m297 104 [(0, .ref 78), (2, .int z2), (3, .int z3), (4, .int z4), (5, .int z5), (6, .int y6), (7, .int y7), (8, .int y8)] [.int s0] S (some (.int res.1)) res.2 := by
    intro y6 y7 y8 s0 res h
    unfold j_297_104 at h
    refine x_istore (L1 := [(0, .ref 78), (2, .int z2), (3, .int z3), (4, .int z4), (5, .int z5), (6, .int y6), (7, .int y7), (8, .int y8), (9, .int s0)]) d_297_104 (Nat.le_of_ble_eq_true rfl) rfl rfl ?_
    refine x_iload d_297_106 5 rfl ?_
    refine x_iload d_297_108 8 rfl ?_
    refine x_iload d_297_110 7 rfl ?_
    refine x_iconst d_297_112 ic_m1 ?_
    refine x_ixor d_297_113 ?_
    refine x_iand d_297_114 ?_
    refine x_ior d_297_115 ?_
    obtain ⟨v17, e18, h⟩ := lt_inv h
    refine y_istore (L1 := [(0, .ref 78), (2, .int z2), (3, .int z3), (4, .int z4), (5, .int z5), (6, .int v17), (7, .int y7), (8, .int y8), (9, .int s0)]) e18 d_297_116 (Nat.le_of_ble_eq_true rfl) rfl rfl ?_
    obtain ⟨v19, e20, h⟩ := lt_inv h
    refine y_iinc (L1 := [(0, .ref 78), (2, .int z2), (3, .int z3), (4, .int z4), (5, .int z5), (6, .int v17), (7, .int v19), (8, .int y8), (9, .int s0)]) e20 ic_1 d_297_118 6 rfl (Nat.le_of_ble_eq_true rfl) rfl rfl ?_
    refine x_goto (tgt := 28) d_297_121 rfl ?_
    refine y_pick (L1 := [(0, .ref 78), (2, .int z2), (3, .int z3), (4, .int z4), (5, .int z5), (6, .int v17), (7, .int v19)]) [0, 1, 2, 3, 4, 5, 6] rfl ?_
    exact ih v17 v19 _ h
  refine x_iload d_297_28 6 rfl ?_
  refine x_aload_n d_297_30 rfl 0 rfl ?_
  refine y_getI d_297_31 fl_11_78 rfl kd_78 ?_
  refine x_icmp_ge (tgt := 124) d_297_34 rfl (fun c9 => ?_) (fun c9 => ?_)
  · replace h := ite_t c9 h
    refine x_iload d_297_124 5 rfl ?_
    obtain rfl := Option.some.inj h
    exact x_ret (r := some (.int w6)) d_297_126 ⟨_, rfl, rfl⟩
  · replace h := ite_f c9 h
    refine x_aload_n d_297_37 rfl 0 rfl ?_
    refine x_iload d_297_38 6 rfl ?_
    refine x_iload_n d_297_40 rfl 2 rfl ?_
    refine x_iload d_297_41 3 rfl ?_
    refine x_aload_n d_297_43 rfl 0 rfl ?_
    refine y_getI d_297_44 fl_11_84 rfl kd_78 ?_
    refine x_aload_n d_297_47 rfl 0 rfl ?_
    refine y_getI d_297_48 fl_11_81 rfl kd_78 ?_
    obtain ⟨v11, q10, h⟩ := bd_inv h
    refine y_V5i (v := v11) (S1 := S) d_297_51 ml_11_450 kd_78 rfl (Nat.le_of_ble_eq_true rfl) (Nat.le_of_ble_eq_true rfl) (c_268 (by omega) q10) ?_
    refine x_istore (L1 := [(0, .ref 78), (2, .int z2), (3, .int z3), (4, .int z4), (5, .int z5), (6, .int w6), (7, .int w7), (8, .int v11)]) d_297_54 (Nat.le_of_ble_eq_true rfl) rfl rfl ?_
    refine x_iload_n d_297_56 rfl 1 rfl ?_
    refine x_iconst d_297_57 ic_1 ?_
    refine x_icmp_ne (tgt := 84) d_297_58 rfl (fun c12 => ?_) (fun c12 => ?_)
    · replace h := ite_f c12 h
      refine x_aload_n d_297_84 rfl 0 rfl ?_
      refine x_iload d_297_85 6 rfl ?_
      refine x_iload_n d_297_87 rfl 2 rfl ?_
      refine x_iload d_297_88 3 rfl ?_
      refine x_iload d_297_90 4 rfl ?_
      refine x_ior d_297_92 ?_
      refine x_aload_n d_297_93 rfl 0 rfl ?_
      refine y_getI d_297_94 fl_11_84 rfl kd_78 ?_
      refine x_aload_n d_297_97 rfl 0 rfl ?_
      refine y_getI d_297_98 fl_11_81 rfl kd_78 ?_
      obtain ⟨v14, q13, h⟩ := bd_inv h
      refine y_V5i (v := v14) (S1 := S) d_297_101 ml_11_450 kd_78 rfl (Nat.le_of_ble_eq_true rfl) (Nat.le_of_ble_eq_true rfl) (c_268 (by omega) q13) ?_
      exact J104 w6 w7 v11 v14 _ h
    · replace h := ite_t c12 h
      refine x_aload_n d_297_61 rfl 0 rfl ?_
      refine x_iload d_297_62 6 rfl ?_
      refine x_iload_n d_297_64 rfl 2 rfl ?_
      refine x_iload d_297_65 4 rfl ?_
      refine x_ior d_297_67 ?_
      refine x_iload d_297_68 3 rfl ?_
      refine x_aload_n d_297_70 rfl 0 rfl ?_
      refine y_getI d_297_71 fl_11_84 rfl kd_78 ?_
      refine x_aload_n d_297_74 rfl 0 rfl ?_
      refine y_getI d_297_75 fl_11_81 rfl kd_78 ?_
      obtain ⟨v16, q15, h⟩ := bd_inv h
      refine y_V5i (v := v16) (S1 := S) d_297_78 ml_11_450 kd_78 rfl (Nat.le_of_ble_eq_true rfl) (Nat.le_of_ble_eq_true rfl) (c_268 (by omega) q15) ?_
      refine x_goto (tgt := 104) d_297_81 rfl ?_
      exact J104 w6 w7 v11 v16 _ h
set_option maxRecDepth 100000 in
set_option maxHeartbeats 4000000 in
theorem c_297 {X : Nat × (Nat → Int32)} {D F G : Nat} (hD : 3 ≤ D) {S : St} {p1 : Int32} {p2 : Int32} {res : Int32 × St} (h : fM_forbidden F G S p1 p2 = some res) : Ek X (D) m297 0 [(0, .ref 78), (1, .int p1), (2, .int p2)] [] S (some (.int res.1)) res.2 := by
  obtain ⟨D, rfl⟩ : ∃ E, D = E + 1 := ⟨D - 1, by omega⟩
  unfold fM_forbidden at h
  refine x_aload_n d_297_0 rfl 0 rfl ?_
  obtain ⟨S2, q1, h⟩ := bd_inv h
  refine y_V0v (S1 := S2) d_297_1 ml_11_464 kd_78 rfl (Nat.le_of_ble_eq_true rfl) (Nat.le_of_ble_eq_true rfl) (c_251 (by omega) q1) ?_
  refine x_aload_n d_297_4 rfl 0 rfl ?_
  refine x_iconst d_297_5 ic_1 ?_
  obtain ⟨v4, q3, h⟩ := bd_inv h
  refine y_V1i (v := v4) (S1 := S2) d_297_6 ml_11_454 kd_78 rfl (Nat.le_of_ble_eq_true rfl) (Nat.le_of_ble_eq_true rfl) (c_261 (by omega) q3) ?_
  refine x_istore_n (L1 := [(0, .ref 78), (1, .int p1), (2, .int p2), (3, .int v4)]) d_297_9 rfl (Nat.le_of_ble_eq_true rfl) rfl rfl ?_
  refine x_aload_n d_297_10 rfl 0 rfl ?_
  refine x_iconst d_297_11 ic_2 ?_
  obtain ⟨v6, q5, h⟩ := bd_inv h
  refine y_V1i (v := v6) (S1 := S2) d_297_12 ml_11_454 kd_78 rfl (Nat.le_of_ble_eq_true rfl) (Nat.le_of_ble_eq_true rfl) (c_261 (by omega) q5) ?_
  refine x_istore (L1 := [(0, .ref 78), (1, .int p1), (2, .int p2), (3, .int v4), (4, .int v6)]) d_297_15 (Nat.le_of_ble_eq_true rfl) rfl rfl ?_
  refine x_iconst d_297_17 ic_1 ?_
  refine x_iload_n d_297_18 rfl 1 rfl ?_
  refine x_ishl d_297_19 ?_
  obtain ⟨v7, e8, h⟩ := lt_inv h
  refine y_istore (L1 := [(0, .ref 78), (1, .int p1), (2, .int p2), (3, .int v4), (4, .int v6), (5, .int v7)]) e8 d_297_20 (Nat.le_of_ble_eq_true rfl) rfl rfl ?_
  refine x_iconst d_297_22 ic_0 ?_
  refine x_istore (L1 := [(0, .ref 78), (1, .int p1), (2, .int p2), (3, .int v4), (4, .int v6), (5, .int v7), (6, .int (0 : Int32))]) d_297_23 (Nat.le_of_ble_eq_true rfl) rfl rfl ?_
  refine x_iconst d_297_25 ic_0 ?_
  refine x_istore (L1 := [(0, .ref 78), (1, .int p1), (2, .int p2), (3, .int v4), (4, .int v6), (5, .int v7), (6, .int (0 : Int32)), (7, .int (0 : Int32))]) d_297_26 (Nat.le_of_ble_eq_true rfl) rfl rfl ?_
  refine y_pick (L1 := [(0, .ref 78), (2, .int p2), (3, .int v4), (4, .int v6), (5, .int v7), (6, .int (0 : Int32)), (7, .int (0 : Int32))]) [0, 2, 3, 4, 5, 6, 7] rfl ?_
  refine T_297_28 (by omega)   F (0 : Int32) (0 : Int32) _ h
/-! NinetyPlayersModel.forbids -/
def fM_forbids (F G : Nat) (S : St) (p1 : Int32) (p2 : Int32) : Option (Int32 × St) :=
  bd (fM_isOut F G S p1) fun v2 => if v2 = 0 then some ((-1 : Int32), S) else bd (fM_isHand F G S p2) fun v5 => if v5 = 0 then some ((-1 : Int32), S) else bd2 (fM_forbidden F G S p1 p2) fun v8 S9 => some (v8, S9)
set_option maxRecDepth 100000 in
set_option maxHeartbeats 4000000 in
theorem c_295 {X : Nat × (Nat → Int32)} {D F G : Nat} (hD : 4 ≤ D) {S : St} {p1 : Int32} {p2 : Int32} {res : Int32 × St} (h : fM_forbids F G S p1 p2 = some res) : Ek X (D) m295 0 [(0, .ref 78), (1, .int p1), (2, .int p2)] [] S (some (.int res.1)) res.2 := by
  obtain ⟨D, rfl⟩ : ∃ E, D = E + 1 := ⟨D - 1, by omega⟩
  unfold fM_forbids at h
  refine x_aload_n d_295_0 rfl 0 rfl ?_
  refine x_iload_n d_295_1 rfl 1 rfl ?_
  obtain ⟨v2, q1, h⟩ := bd_inv h
  refine y_V1i (v := v2) (S1 := S) d_295_2 ml_11_515 kd_78 rfl (Nat.le_of_ble_eq_true rfl) (Nat.le_of_ble_eq_true rfl) (c_296 (by omega) q1) ?_
  refine x_if_eq (tgt := 24) d_295_5 rfl (fun c3 => ?_) (fun c3 => ?_)
  · replace h := ite_t c3 h
    refine x_iconst d_295_24 ic_m1 ?_
    obtain rfl := Option.some.inj h
    exact x_ret (r := some (.int (-1 : Int32))) d_295_25 ⟨_, rfl, rfl⟩
  · replace h := ite_f c3 h
    refine x_iload_n d_295_8 rfl 2 rfl ?_
    obtain ⟨v5, q4, h⟩ := bd_inv h
    refine y_S1i (v := v5) (S1 := S) d_295_9 ml_11_476 (Nat.le_of_ble_eq_true rfl) (Nat.le_of_ble_eq_true rfl) (c_264 (by omega) q4) ?_
    refine x_if_eq (tgt := 24) d_295_12 rfl (fun c6 => ?_) (fun c6 => ?_)
    · replace h := ite_t c6 h
      refine x_iconst d_295_24 ic_m1 ?_
      obtain rfl := Option.some.inj h
      exact x_ret (r := some (.int (-1 : Int32))) d_295_25 ⟨_, rfl, rfl⟩
    · replace h := ite_f c6 h
      refine x_aload_n d_295_15 rfl 0 rfl ?_
      refine x_iload_n d_295_16 rfl 1 rfl ?_
      refine x_iload_n d_295_17 rfl 2 rfl ?_
      obtain ⟨v8, S9, q7, h⟩ := bd2_inv h
      refine y_V2i (v := v8) (S1 := S9) d_295_18 ml_11_518 kd_78 rfl (Nat.le_of_ble_eq_true rfl) (Nat.le_of_ble_eq_true rfl) (c_297 (by omega) q7) ?_
      refine x_goto (tgt := 25) d_295_21 rfl ?_
      obtain rfl := Option.some.inj h
      exact x_ret (r := some (.int v8)) d_295_25 ⟨_, rfl, rfl⟩
/-! NinetyPlayersModel.could -/
def b_298_13 (F G : Nat) (z1 : Int32) (rec : Int32 → Int32 → St → Option (Int32 × St)) (w2 : Int32) (w3 : Int32) (S : St) : Option (Int32 × St) :=
  if (S.1 78 48) ≤ w3 then some (w2, S) else bd (fM_isOut F G S w3) fun v6 => if v6 = 0 then lt (w3 + 1) fun v8 => rec w2 v8 S else bd2 (fM_forbidden F G S w3 z1) fun v11 S12 => if v11 = 0 then lt (w2 ||| ((1 : Int32) <<< (w3 &&& 31))) fun v16 => lt (w3 + 1) fun v18 => rec v16 v18 S12 else lt (w3 + 1) fun v14 => rec w2 v14 S12
def fM_could (F G : Nat) (S : St) (p1 : Int32) : Option (Int32 × St) :=
  bd (fM_isHand F G S p1) fun v2 => if v2 = 0 then some ((-1 : Int32), S) else fx3 (b_298_13 F G p1) F (0 : Int32) (0 : Int32) S
set_option maxRecDepth 100000 in
set_option maxHeartbeats 4000000 in
theorem T_298_13 {X : Nat × (Nat → Int32)} {D F G : Nat} (hD : 4 ≤ D + 1) {z1 : Int32} : ∀ (f : Nat) (w2 : Int32) (w3 : Int32) (S : St) (res : Int32 × St), fx3 (b_298_13 F G z1 ) f w2 w3 S = some res → Ek X (D + 1) m298 13 [(0, .ref 78), (1, .int z1), (2, .int w2), (3, .int w3)] [] S (some (.int res.1)) res.2 := by
  refine fx3_ind ?_
  intro rec ih w2 w3 S res h
  unfold b_298_13 at h
  refine x_iload_n d_298_13 rfl 3 rfl ?_
  refine x_aload_n d_298_14 rfl 0 rfl ?_
  refine y_getI d_298_15 fl_11_322 rfl kd_78 ?_
  refine x_icmp_ge (tgt := 50) d_298_18 rfl (fun c4 => ?_) (fun c4 => ?_)
  · replace h := ite_t c4 h
    refine x_iload_n d_298_50 rfl 2 rfl ?_
    obtain rfl := Option.some.inj h
    exact x_ret (r := some (.int w2)) d_298_51 ⟨_, rfl, rfl⟩
  · replace h := ite_f c4 h
    refine x_aload_n d_298_21 rfl 0 rfl ?_
    refine x_iload_n d_298_22 rfl 3 rfl ?_
    obtain ⟨v6, q5, h⟩ := bd_inv h
    refine y_V1i (v := v6) (S1 := S) d_298_23 ml_11_515 kd_78 rfl (Nat.le_of_ble_eq_true rfl) (Nat.le_of_ble_eq_true rfl) (c_296 (by omega) q5) ?_
    refine x_if_eq (tgt := 44) d_298_26 rfl (fun c7 => ?_) (fun c7 => ?_)
    · replace h := ite_t c7 h
      obtain ⟨v8, e9, h⟩ := lt_inv h
      refine y_iinc (L1 := [(0, .ref 78), (1, .int z1), (2, .int w2), (3, .int v8)]) e9 ic_1 d_298_44 3 rfl (Nat.le_of_ble_eq_true rfl) rfl rfl ?_
      refine x_goto (tgt := 13) d_298_47 rfl ?_
      exact ih w2 v8 S _ h
    · replace h := ite_f c7 h
      refine x_aload_n d_298_29 rfl 0 rfl ?_
      refine x_iload_n d_298_30 rfl 3 rfl ?_
      refine x_iload_n d_298_31 rfl 1 rfl ?_
      obtain ⟨v11, S12, q10, h⟩ := bd2_inv h
      refine y_V2i (v := v11) (S1 := S12) d_298_32 ml_11_518 kd_78 rfl (Nat.le_of_ble_eq_true rfl) (Nat.le_of_ble_eq_true rfl) (c_297 (by omega) q10) ?_
      refine x_if_ne (tgt := 44) d_298_35 rfl (fun c13 => ?_) (fun c13 => ?_)
      · replace h := ite_f c13 h
        obtain ⟨v14, e15, h⟩ := lt_inv h
        refine y_iinc (L1 := [(0, .ref 78), (1, .int z1), (2, .int w2), (3, .int v14)]) e15 ic_1 d_298_44 3 rfl (Nat.le_of_ble_eq_true rfl) rfl rfl ?_
        refine x_goto (tgt := 13) d_298_47 rfl ?_
        exact ih w2 v14 S12 _ h
      · replace h := ite_t c13 h
        refine x_iload_n d_298_38 rfl 2 rfl ?_
        refine x_iconst d_298_39 ic_1 ?_
        refine x_iload_n d_298_40 rfl 3 rfl ?_
        refine x_ishl d_298_41 ?_
        refine x_ior d_298_42 ?_
        obtain ⟨v16, e17, h⟩ := lt_inv h
        refine y_istore_n (L1 := [(0, .ref 78), (1, .int z1), (2, .int v16), (3, .int w3)]) e17 d_298_43 rfl (Nat.le_of_ble_eq_true rfl) rfl rfl ?_
        obtain ⟨v18, e19, h⟩ := lt_inv h
        refine y_iinc (L1 := [(0, .ref 78), (1, .int z1), (2, .int v16), (3, .int v18)]) e19 ic_1 d_298_44 3 rfl (Nat.le_of_ble_eq_true rfl) rfl rfl ?_
        refine x_goto (tgt := 13) d_298_47 rfl ?_
        exact ih v16 v18 S12 _ h
set_option maxRecDepth 100000 in
set_option maxHeartbeats 4000000 in
theorem c_298 {X : Nat × (Nat → Int32)} {D F G : Nat} (hD : 4 ≤ D) {S : St} {p1 : Int32} {res : Int32 × St} (h : fM_could F G S p1 = some res) : Ek X (D) m298 0 [(0, .ref 78), (1, .int p1)] [] S (some (.int res.1)) res.2 := by
  obtain ⟨D, rfl⟩ : ∃ E, D = E + 1 := ⟨D - 1, by omega⟩
  unfold fM_could at h
  refine x_iload_n d_298_0 rfl 1 rfl ?_
  obtain ⟨v2, q1, h⟩ := bd_inv h
  refine y_S1i (v := v2) (S1 := S) d_298_1 ml_11_476 (Nat.le_of_ble_eq_true rfl) (Nat.le_of_ble_eq_true rfl) (c_264 (by omega) q1) ?_
  refine x_if_ne (tgt := 9) d_298_4 rfl (fun c3 => ?_) (fun c3 => ?_)
  · replace h := ite_f c3 h
    refine x_iconst d_298_9 ic_0 ?_
    refine x_istore_n (L1 := [(0, .ref 78), (1, .int p1), (2, .int (0 : Int32))]) d_298_10 rfl (Nat.le_of_ble_eq_true rfl) rfl rfl ?_
    refine x_iconst d_298_11 ic_0 ?_
    refine x_istore_n (L1 := [(0, .ref 78), (1, .int p1), (2, .int (0 : Int32)), (3, .int (0 : Int32))]) d_298_12 rfl (Nat.le_of_ble_eq_true rfl) rfl rfl ?_
    refine T_298_13 (by omega)   F (0 : Int32) (0 : Int32) S _ h
  · replace h := ite_t c3 h
    refine x_iconst d_298_7 ic_m1 ?_
    obtain rfl := Option.some.inj h
    exact x_ret (r := some (.int (-1 : Int32))) d_298_8 ⟨_, rfl, rfl⟩
/-! NinetyPlayersModel.giveway -/
def j_299_140 (F G : Nat) (S : St) (z3 : Int32) (z4 : Int32) (z5 : Int32) (z6 : Int32) (k179 : Int32 → Option (Int32 × St)) (rec : Int32 → Int32 → Option (Int32 × St)) (_ : St) (y7 : Int32) (y8 : Int32) : Option (Int32 × St) :=
  bd (fM_canBePlayed F G S (z4 &&& (y8 ^^^ (-1 : Int32))) (z5 &&& (y8 ^^^ (-1 : Int32))) (S.1 78 50) (S.1 78 49)) fun v48 => if v48 = 0 then lt (y8 + 1) fun v50 => rec y7 v50 else lt (y8 + 1) fun v52 => rec y8 v52
def b_299_74 (F G : Nat) (S : St) (z3 : Int32) (z4 : Int32) (z5 : Int32) (z6 : Int32) (k179 : Int32 → Option (Int32 × St)) (rec : Int32 → Int32 → Option (Int32 × St)) (w7 : Int32) (w8 : Int32) : Option (Int32 × St) :=
  if z6 < w8 then k179 w7 else if (w8 &&& (z6 ^^^ (-1 : Int32))) = 0 then if w7 < 0 then j_299_140 F G S z3 z4 z5 z6 k179 rec  S w7 w8 else bd (fM_members F G S w8) fun v29 => bd (fM_members F G S w7) fun v31 => if v31 < v29 then lt (w8 + 1) fun v33 => rec w7 v33 else bd (fM_members F G S w8) fun v36 => bd (fM_members F G S w7) fun v38 => if v36 = v38 then bd (fM_missedBy F G S w8) fun v41 => bd (fM_missedBy F G S w7) fun v43 => if v41 < v43 then j_299_140 F G S z3 z4 z5 z6 k179 rec  S w7 w8 else lt (w8 + 1) fun v45 => rec w7 v45 else j_299_140 F G S z3 z4 z5 z6 k179 rec  S w7 w8 else lt (w8 + 1) fun v25 => rec w7 v25
def fM_giveway (F G : Nat) (S : St) (p1 : Int32) (p2 : Int32) (p3 : Int32) : Option (Int32 × St) :=
  bd (fM_isOut F G S p1) fun v2 => if v2 = 0 then some ((-1 : Int32), S) else bd (fM_isHand F G S p2) fun v5 => if v5 = 0 then some ((-1 : Int32), S) else bd (fM_isIn F G S p3 (0 : Int32) (1 : Int32)) fun v8 => if v8 = 0 then some ((-1 : Int32), S) else bd (fM_fill F G S ) fun S11 => bd (fM_layMissed F G S11 ) fun S13 => gd (inB p1 41) (lt (sI S13 101 p1.toNatClampNeg p2) fun S15 => bd (fM_given F G S15 (1 : Int32)) fun v18 => bd (fM_given F G S15 (2 : Int32)) fun v20 => lt ((v18 ||| v20) &&& (((1 : Int32) <<< (p1 &&& 31)) ^^^ (-1 : Int32))) fun v21 => fx2 (b_299_74 F G S15 p3 v18 v20 v21 (fun v54 => if 0 ≤ v54 then if p3 = 0 then bd (fM_members F G S15 v54) fun v58 => some (v58, S15) else some (v54, S15) else some ((-1 : Int32), S15))) F (-1 : Int32) (0 : Int32))
set_option maxRecDepth 100000 in
set_option maxHeartbeats 4000000 in
theorem T_299_74 {X : Nat × (Nat → Int32)} {D F G : Nat} (hD : 4 ≤ D + 1) {S : St} {z3 : Int32} {z4 : Int32} {z5 : Int32} {z6 : Int32} {k179 : Int32 → Option (Int32 × St)} (hk179 : ∀ (u7 : Int32) (res : Int32 × St), k179 u7 = some res → Ek X (D + 1) m299 179 [(3, .int z3), (7, .int u7)] [] S (some (.int res.1)) res.2) : ∀ (f : Nat) (w7 : Int32) (w8 : Int32) (res : Int32 × St), fx2 (b_299_74 F G S z3 z4 z5 z6 k179 ) f w7 w8 = some res → Ek X (D + 1) m299 74 [(0, .ref 78), (3, .int z3), (4, .int z4), (5, .int z5), (6, .int z6), (7, .int w7), (8, .int w8)] [] S (some (.int res.1)) res.2 := by
  refine fx2_ind ?_
  intro rec ih w7 w8 res h
  unfold b_299_74 at h
  have J140 : ∀ (y7 : Int32) (y8 : Int32) (res : Int32 × St), j_299_140 F G S z3 z4 z5 z6 k179 rec S y7 y8 = some res → Ek X (D + 1) m299 140 [(0, .ref 78), (3, .int z3), (4, .int z4), (5, .int z5), (6, .int z6), (7, .int y7), (8, .int y8)] [] S (some (.int res.1)) res.2 := by
    intro y7 y8 res h
    unfold j_299_140 at h
    refine x_aload_n d_299_140 rfl 0 rfl ?_
    refine x_iload d_299_141 2 rfl ?_
    refine x_iload d_299_143 6 rfl ?_
    refine x_iconst d_299_145 ic_m1 ?_
    refine x_ixor d_299_146 ?_
    refine x_iand d_299_147 ?_
    refine x_iload d_299_148 3 rfl ?_
    refine x_iload d_299_150 6 rfl ?_
    refine x_iconst d_299_152 ic_m1 ?_
    refine x_ixor d_299_153 ?_
    refine x_iand d_299_154 ?_
    refine x_aload_n d_299_155 rfl 0 rfl ?_
    refine y_getI d_299_156 fl_11_84 rfl kd_78 ?_
    refine x_aload_n d_299_159 rfl 0 rfl ?_
    refine y_getI d_299_160 fl_11_81 rfl kd_78 ?_
    obtain ⟨v48, q47, h⟩ := bd_inv h
    refine y_V4i (v := v48) (S1 := S) d_299_163 ml_11_457 kd_78 rfl (Nat.le_of_ble_eq_true rfl) (Nat.le_of_ble_eq_true rfl) (c_293 (by omega) q47) ?_
    refine x_if_eq (tgt := 173) d_299_166 rfl (fun c49 => ?_) (fun c49 => ?_)
    · replace h := ite_t c49 h
      obtain ⟨v50, e51, h⟩ := lt_inv h
      refine y_iinc (L1 := [(0, .ref 78), (3, .int z3), (4, .int z4), (5, .int z5), (6, .int z6), (7, .int y7), (8, .int v50)]) e51 ic_1 d_299_173 6 rfl (Nat.le_of_ble_eq_true rfl) rfl rfl ?_
      refine x_goto (tgt := 74) d_299_176 rfl ?_
      exact ih y7 v50 _ h
    · replace h := ite_f c49 h
      refine x_iload d_299_169 6 rfl ?_
      refine x_istore (L1 := [(0, .ref 78), (3, .int z3), (4, .int z4), (5, .int z5), (6, .int z6), (7, .int y8), (8, .int y8)]) d_299_171 (Nat.le_of_ble_eq_true rfl) rfl rfl ?_
      obtain ⟨v52, e53, h⟩ := lt_inv h
      refine y_iinc (L1 := [(0, .ref 78), (3, .int z3), (4, .int z4), (5, .int z5), (6, .int z6), (7, .int y8), (8, .int v52)]) e53 ic_1 d_299_173 6 rfl (Nat.le_of_ble_eq_true rfl) rfl rfl ?_
      refine x_goto (tgt := 74) d_299_176 rfl ?_
      exact ih y8 v52 _ h
  refine x_iload d_299_74 6 rfl ?_
  refine x_iload d_299_76 4 rfl ?_
  refine x_icmp_gt (tgt := 179) d_299_78 rfl (fun c23 => ?_) (fun c23 => ?_)
  · replace h := ite_t c23 h
    refine y_pick (L1 := [(3, .int z3), (7, .int w7)]) [1, 5] rfl ?_
    exact hk179 w7 _ h
  · replace h := ite_f c23 h
    refine x_iload d_299_81 6 rfl ?_
    refine x_iload d_299_83 4 rfl ?_
    refine x_iconst d_299_85 ic_m1 ?_
    refine x_ixor d_299_86 ?_
    refine x_iand d_299_87 ?_
    refine x_if_ne (tgt := 173) d_299_88 rfl (fun c24 => ?_) (fun c24 => ?_)
    · replace h := ite_f c24 h
      obtain ⟨v25, e26, h⟩ := lt_inv h
      refine y_iinc (L1 := [(0, .ref 78), (3, .int z3), (4, .int z4), (5, .int z5), (6, .int z6), (7, .int w7), (8, .int v25)]) e26 ic_1 d_299_173 6 rfl (Nat.le_of_ble_eq_true rfl) rfl rfl ?_
      refine x_goto (tgt := 74) d_299_176 rfl ?_
      exact ih w7 v25 _ h
    · replace h := ite_t c24 h
      refine x_iload d_299_91 5 rfl ?_
      refine x_if_lt (tgt := 140) d_299_93 rfl (fun c27 => ?_) (fun c27 => ?_)
      · replace h := ite_t c27 h
        exact J140 w7 w8 _ h
      · replace h := ite_f c27 h
        refine x_iload d_299_96 6 rfl ?_
        obtain ⟨v29, q28, h⟩ := bd_inv h
        refine y_S1i (v := v29) (S1 := S) d_299_98 ml_11_331 (Nat.le_of_ble_eq_true rfl) (Nat.le_of_ble_eq_true rfl) (c_256 (by omega) q28) ?_
        refine x_iload d_299_101 5 rfl ?_
        obtain ⟨v31, q30, h⟩ := bd_inv h
        refine y_S1i (v := v31) (S1 := S) d_299_103 ml_11_331 (Nat.le_of_ble_eq_true rfl) (Nat.le_of_ble_eq_true rfl) (c_256 (by omega) q30) ?_
        refine x_icmp_gt (tgt := 173) d_299_106 rfl (fun c32 => ?_) (fun c32 => ?_)
        · replace h := ite_t c32 h
          obtain ⟨v33, e34, h⟩ := lt_inv h
          refine y_iinc (L1 := [(0, .ref 78), (3, .int z3), (4, .int z4), (5, .int z5), (6, .int z6), (7, .int w7), (8, .int v33)]) e34 ic_1 d_299_173 6 rfl (Nat.le_of_ble_eq_true rfl) rfl rfl ?_
          refine x_goto (tgt := 74) d_299_176 rfl ?_
          exact ih w7 v33 _ h
        · replace h := ite_f c32 h
          refine x_iload d_299_109 6 rfl ?_
          obtain ⟨v36, q35, h⟩ := bd_inv h
          refine y_S1i (v := v36) (S1 := S) d_299_111 ml_11_331 (Nat.le_of_ble_eq_true rfl) (Nat.le_of_ble_eq_true rfl) (c_256 (by omega) q35) ?_
          refine x_iload d_299_114 5 rfl ?_
          obtain ⟨v38, q37, h⟩ := bd_inv h
          refine y_S1i (v := v38) (S1 := S) d_299_116 ml_11_331 (Nat.le_of_ble_eq_true rfl) (Nat.le_of_ble_eq_true rfl) (c_256 (by omega) q37) ?_
          refine x_icmp_ne (tgt := 140) d_299_119 rfl (fun c39 => ?_) (fun c39 => ?_)
          · replace h := ite_f c39 h
            exact J140 w7 w8 _ h
          · replace h := ite_t c39 h
            refine x_aload_n d_299_122 rfl 0 rfl ?_
            refine x_iload d_299_123 6 rfl ?_
            obtain ⟨v41, q40, h⟩ := bd_inv h
            refine y_V1i (v := v41) (S1 := S) d_299_125 ml_11_500 kd_78 rfl (Nat.le_of_ble_eq_true rfl) (Nat.le_of_ble_eq_true rfl) (c_287 (by omega) q40) ?_
            refine x_aload_n d_299_128 rfl 0 rfl ?_
            refine x_iload d_299_129 5 rfl ?_
            obtain ⟨v43, q42, h⟩ := bd_inv h
            refine y_V1i (v := v43) (S1 := S) d_299_131 ml_11_500 kd_78 rfl (Nat.le_of_ble_eq_true rfl) (Nat.le_of_ble_eq_true rfl) (c_287 (by omega) q42) ?_
            refine x_icmp_lt (tgt := 140) d_299_134 rfl (fun c44 => ?_) (fun c44 => ?_)
            · replace h := ite_t c44 h
              exact J140 w7 w8 _ h
            · replace h := ite_f c44 h
              refine x_goto (tgt := 173) d_299_137 rfl ?_
              obtain ⟨v45, e46, h⟩ := lt_inv h
              refine y_iinc (L1 := [(0, .ref 78), (3, .int z3), (4, .int z4), (5, .int z5), (6, .int z6), (7, .int w7), (8, .int v45)]) e46 ic_1 d_299_173 6 rfl (Nat.le_of_ble_eq_true rfl) rfl rfl ?_
              refine x_goto (tgt := 74) d_299_176 rfl ?_
              exact ih w7 v45 _ h
set_option maxRecDepth 100000 in
set_option maxHeartbeats 4000000 in
theorem c_299 {X : Nat × (Nat → Int32)} {D F G : Nat} (hD : 4 ≤ D) {S : St} {p1 : Int32} {p2 : Int32} {p3 : Int32} {res : Int32 × St} (h : fM_giveway F G S p1 p2 p3 = some res) : Ek X (D) m299 0 [(0, .ref 78), (1, .int p1), (2, .int p2), (3, .int p3)] [] S (some (.int res.1)) res.2 := by
  obtain ⟨D, rfl⟩ : ∃ E, D = E + 1 := ⟨D - 1, by omega⟩
  unfold fM_giveway at h
  refine x_aload_n d_299_0 rfl 0 rfl ?_
  refine x_iload_n d_299_1 rfl 1 rfl ?_
  obtain ⟨v2, q1, h⟩ := bd_inv h
  refine y_V1i (v := v2) (S1 := S) d_299_2 ml_11_515 kd_78 rfl (Nat.le_of_ble_eq_true rfl) (Nat.le_of_ble_eq_true rfl) (c_296 (by omega) q1) ?_
  refine x_if_eq (tgt := 24) d_299_5 rfl (fun c3 => ?_) (fun c3 => ?_)
  · replace h := ite_t c3 h
    refine x_iconst d_299_24 ic_m1 ?_
    obtain rfl := Option.some.inj h
    exact x_ret (r := some (.int (-1 : Int32))) d_299_25 ⟨_, rfl, rfl⟩
  · replace h := ite_f c3 h
    refine x_iload_n d_299_8 rfl 2 rfl ?_
    obtain ⟨v5, q4, h⟩ := bd_inv h
    refine y_S1i (v := v5) (S1 := S) d_299_9 ml_11_476 (Nat.le_of_ble_eq_true rfl) (Nat.le_of_ble_eq_true rfl) (c_264 (by omega) q4) ?_
    refine x_if_eq (tgt := 24) d_299_12 rfl (fun c6 => ?_) (fun c6 => ?_)
    · replace h := ite_t c6 h
      refine x_iconst d_299_24 ic_m1 ?_
      obtain rfl := Option.some.inj h
      exact x_ret (r := some (.int (-1 : Int32))) d_299_25 ⟨_, rfl, rfl⟩
    · replace h := ite_f c6 h
      refine x_iload_n d_299_15 rfl 3 rfl ?_
      refine x_iconst d_299_16 ic_0 ?_
      refine x_iconst d_299_17 ic_1 ?_
      obtain ⟨v8, q7, h⟩ := bd_inv h
      refine y_S3i (v := v8) (S1 := S) d_299_18 ml_11_429 (Nat.le_of_ble_eq_true rfl) (Nat.le_of_ble_eq_true rfl) (c_250 (by omega) q7) ?_
      refine x_if_ne (tgt := 26) d_299_21 rfl (fun c9 => ?_) (fun c9 => ?_)
      · replace h := ite_f c9 h
        refine x_aload_n d_299_26 rfl 0 rfl ?_
        obtain ⟨S11, q10, h⟩ := bd_inv h
        refine y_V0v (S1 := S11) d_299_27 ml_11_464 kd_78 rfl (Nat.le_of_ble_eq_true rfl) (Nat.le_of_ble_eq_true rfl) (c_251 (by omega) q10) ?_
        refine x_aload_n d_299_30 rfl 0 rfl ?_
        obtain ⟨S13, q12, h⟩ := bd_inv h
        refine y_V0v (S1 := S13) d_299_31 ml_11_497 kd_78 rfl (Nat.le_of_ble_eq_true rfl) (Nat.le_of_ble_eq_true rfl) (c_286 (by omega) q12) ?_
        refine x_aload_n d_299_34 rfl 0 rfl ?_
        refine y_getR d_299_35 fl_11_96 rfl kd_78 rr_78_59 ?_
        refine x_iload_n d_299_38 rfl 1 rfl ?_
        refine x_iload_n d_299_39 rfl 2 rfl ?_
        obtain ⟨g14, h⟩ := gd_inv h
        obtain ⟨S15, e16, h⟩ := lt_inv h
        refine y_iast e16 d_299_40 kd_101 g14 ?_
        refine x_aload_n d_299_41 rfl 0 rfl ?_
        refine x_iconst d_299_42 ic_1 ?_
        obtain ⟨v18, q17, h⟩ := bd_inv h
        refine y_V1i (v := v18) (S1 := S15) d_299_43 ml_11_454 kd_78 rfl (Nat.le_of_ble_eq_true rfl) (Nat.le_of_ble_eq_true rfl) (c_261 (by omega) q17) ?_
        refine x_istore (L1 := [(0, .ref 78), (1, .int p1), (2, .int p2), (3, .int p3), (4, .int v18)]) d_299_46 (Nat.le_of_ble_eq_true rfl) rfl rfl ?_
        refine x_aload_n d_299_48 rfl 0 rfl ?_
        refine x_iconst d_299_49 ic_2 ?_
        obtain ⟨v20, q19, h⟩ := bd_inv h
        refine y_V1i (v := v20) (S1 := S15) d_299_50 ml_11_454 kd_78 rfl (Nat.le_of_ble_eq_true rfl) (Nat.le_of_ble_eq_true rfl) (c_261 (by omega) q19) ?_
        refine x_istore (L1 := [(0, .ref 78), (1, .int p1), (2, .int p2), (3, .int p3), (4, .int v18), (5, .int v20)]) d_299_53 (Nat.le_of_ble_eq_true rfl) rfl rfl ?_
        refine x_iload d_299_55 4 rfl ?_
        refine x_iload d_299_57 5 rfl ?_
        refine x_ior d_299_59 ?_
        refine x_iconst d_299_60 ic_1 ?_
        refine x_iload_n d_299_61 rfl 1 rfl ?_
        refine x_ishl d_299_62 ?_
        refine x_iconst d_299_63 ic_m1 ?_
        refine x_ixor d_299_64 ?_
        refine x_iand d_299_65 ?_
        obtain ⟨v21, e22, h⟩ := lt_inv h
        refine y_istore (L1 := [(0, .ref 78), (1, .int p1), (2, .int p2), (3, .int p3), (4, .int v18), (5, .int v20), (6, .int v21)]) e22 d_299_66 (Nat.le_of_ble_eq_true rfl) rfl rfl ?_
        refine x_iconst d_299_68 ic_m1 ?_
        refine x_istore (L1 := [(0, .ref 78), (1, .int p1), (2, .int p2), (3, .int p3), (4, .int v18), (5, .int v20), (6, .int v21), (7, .int (-1 : Int32))]) d_299_69 (Nat.le_of_ble_eq_true rfl) rfl rfl ?_
        refine x_iconst d_299_71 ic_0 ?_
        refine x_istore (L1 := [(0, .ref 78), (1, .int p1), (2, .int p2), (3, .int p3), (4, .int v18), (5, .int v20), (6, .int v21), (7, .int (-1 : Int32)), (8, .int (0 : Int32))]) d_299_72 (Nat.le_of_ble_eq_true rfl) rfl rfl ?_
        refine y_pick (L1 := [(0, .ref 78), (3, .int p3), (4, .int v18), (5, .int v20), (6, .int v21), (7, .int (-1 : Int32)), (8, .int (0 : Int32))]) [0, 3, 4, 5, 6, 7, 8] rfl ?_
        refine T_299_74 (by omega)  ?_ F (-1 : Int32) (0 : Int32) _ h
        · intro v54 res h
          refine x_iload d_299_179 1 rfl ?_
          refine x_if_ge (tgt := 188) d_299_181 rfl (fun c55 => ?_) (fun c55 => ?_)
          · replace h := ite_t c55 h
            refine x_iload_n d_299_188 rfl 0 rfl ?_
            refine x_if_ne (tgt := 200) d_299_189 rfl (fun c56 => ?_) (fun c56 => ?_)
            · replace h := ite_f c56 h
              refine x_iload d_299_200 1 rfl ?_
              obtain rfl := Option.some.inj h
              exact x_ret (r := some (.int v54)) d_299_202 ⟨_, rfl, rfl⟩
            · replace h := ite_t c56 h
              refine x_iload d_299_192 1 rfl ?_
              obtain ⟨v58, q57, h⟩ := bd_inv h
              refine y_S1i (v := v58) (S1 := S15) d_299_194 ml_11_331 (Nat.le_of_ble_eq_true rfl) (Nat.le_of_ble_eq_true rfl) (c_256 (by omega) q57) ?_
              refine x_goto (tgt := 202) d_299_197 rfl ?_
              obtain rfl := Option.some.inj h
              exact x_ret (r := some (.int v58)) d_299_202 ⟨_, rfl, rfl⟩
          · replace h := ite_f c55 h
            refine x_iconst d_299_184 ic_m1 ?_
            refine x_goto (tgt := 202) d_299_185 rfl ?_
            obtain rfl := Option.some.inj h
            exact x_ret (r := some (.int (-1 : Int32))) d_299_202 ⟨_, rfl, rfl⟩
      · replace h := ite_t c9 h
        refine x_iconst d_299_24 ic_m1 ?_
        obtain rfl := Option.some.inj h
        exact x_ret (r := some (.int (-1 : Int32))) d_299_25 ⟨_, rfl, rfl⟩
/-! NinetyPlayersModel.canBePlayedSo -/
def fM_canBePlayedSo (F G : Nat) (S : St) : Option (Int32) :=
  bd (fM_given F G S (1 : Int32)) fun v2 => bd (fM_given F G S (2 : Int32)) fun v4 => bd (fM_canBePlayed F G S v2 v4 (S.1 78 50) (S.1 78 49)) fun v6 => gd (isB v6) (some v6)
set_option maxRecDepth 100000 in
set_option maxHeartbeats 4000000 in
theorem c_302 {X : Nat × (Nat → Int32)} {D F G : Nat} (hD : 4 ≤ D) {S : St} {res : Int32} (h : fM_canBePlayedSo F G S  = some res) : Ek X (D) m302 0 [(0, .ref 78)] [] S (some (.int res)) S := by
  obtain ⟨D, rfl⟩ : ∃ E, D = E + 1 := ⟨D - 1, by omega⟩
  unfold fM_canBePlayedSo at h
  refine x_aload_n d_302_0 rfl 0 rfl ?_
  refine x_aload_n d_302_1 rfl 0 rfl ?_
  refine x_iconst d_302_2 ic_1 ?_
  obtain ⟨v2, q1, h⟩ := bd_inv h
  refine y_V1i (v := v2) (S1 := S) d_302_3 ml_11_454 kd_78 rfl (Nat.le_of_ble_eq_true rfl) (Nat.le_of_ble_eq_true rfl) (c_261 (by omega) q1) ?_
  refine x_aload_n d_302_6 rfl 0 rfl ?_
  refine x_iconst d_302_7 ic_2 ?_
  obtain ⟨v4, q3, h⟩ := bd_inv h
  refine y_V1i (v := v4) (S1 := S) d_302_8 ml_11_454 kd_78 rfl (Nat.le_of_ble_eq_true rfl) (Nat.le_of_ble_eq_true rfl) (c_261 (by omega) q3) ?_
  refine x_aload_n d_302_11 rfl 0 rfl ?_
  refine y_getI d_302_12 fl_11_84 rfl kd_78 ?_
  refine x_aload_n d_302_15 rfl 0 rfl ?_
  refine y_getI d_302_16 fl_11_81 rfl kd_78 ?_
  obtain ⟨v6, q5, h⟩ := bd_inv h
  refine y_V4i (v := v6) (S1 := S) d_302_19 ml_11_457 kd_78 rfl (Nat.le_of_ble_eq_true rfl) (Nat.le_of_ble_eq_true rfl) (c_293 (by omega) q5) ?_
  obtain ⟨g7, h⟩ := gd_inv h
  obtain rfl := Option.some.inj h
  exact x_ret (r := some (.int v6)) d_302_22 ⟨_, rfl, isB_nar g7⟩
/-! NinetyPlayersModel.letsIn -/
def fM_letsIn (F G : Nat) (S : St) (p1 : Int32) (p2 : Int32) (p3 : Int32) : Option (Int32 × St) :=
  gd (inB ((10 : Int32) + p1) 41) (lt ((S.1 100 ((10 : Int32) + p1).toNatClampNeg) + ((12 : Int32) * p2)) fun v2 => bd (fM_isIn F G S v2 (0 : Int32) (87 : Int32)) fun v5 => if v5 = 0 then some ((0 : Int32), S) else bd (fM_fill F G S ) fun S8 => gd (inB ((10 : Int32) + p1) 41) (lt (sI S8 101 ((10 : Int32) + p1).toNatClampNeg v2) fun S10 => gd (inB p1 41) (lt (sI S10 101 p1.toNatClampNeg p3) fun S13 => bd (fM_canBePlayedSo F G S13) fun v16 => gd (isB v16) (some (v16, S13)))))
set_option maxRecDepth 100000 in
set_option maxHeartbeats 4000000 in
theorem c_301 {X : Nat × (Nat → Int32)} {D F G : Nat} (hD : 5 ≤ D) {S : St} {p1 : Int32} {p2 : Int32} {p3 : Int32} {res : Int32 × St} (h : fM_letsIn F G S p1 p2 p3 = some res) : Ek X (D) m301 0 [(0, .ref 78), (1, .int p1), (2, .int p2), (3, .int p3)] [] S (some (.int res.1)) res.2 := by
  obtain ⟨D, rfl⟩ : ∃ E, D = E + 1 := ⟨D - 1, by omega⟩
  unfold fM_letsIn at h
  refine x_aload_n d_301_0 rfl 0 rfl ?_
  refine y_getR d_301_1 fl_11_93 rfl kd_78 rr_78_58 ?_
  refine x_bipush d_301_4 bp_10 ?_
  refine x_iload_n d_301_6 rfl 1 rfl ?_
  refine x_iadd d_301_7 ?_
  obtain ⟨g1, h⟩ := gd_inv h
  refine y_iald d_301_8 kd_100 g1 ?_
  refine x_bipush d_301_9 bp_12 ?_
  refine x_iload_n d_301_11 rfl 2 rfl ?_
  refine x_imul d_301_12 ?_
  refine x_iadd d_301_13 ?_
  obtain ⟨v2, e3, h⟩ := lt_inv h
  refine y_istore (L1 := [(0, .ref 78), (1, .int p1), (2, .int p2), (3, .int p3), (4, .int v2)]) e3 d_301_14 (Nat.le_of_ble_eq_true rfl) rfl rfl ?_
  refine x_iload d_301_16 4 rfl ?_
  refine x_iconst d_301_18 ic_0 ?_
  refine x_bipush d_301_19 bp_87 ?_
  obtain ⟨v5, q4, h⟩ := bd_inv h
  refine y_S3i (v := v5) (S1 := S) d_301_21 ml_11_429 (Nat.le_of_ble_eq_true rfl) (Nat.le_of_ble_eq_true rfl) (c_250 (by omega) q4) ?_
  refine x_if_ne (tgt := 29) d_301_24 rfl (fun c6 => ?_) (fun c6 => ?_)
  · replace h := ite_f c6 h
    refine x_aload_n d_301_29 rfl 0 rfl ?_
    obtain ⟨S8, q7, h⟩ := bd_inv h
    refine y_V0v (S1 := S8) d_301_30 ml_11_464 kd_78 rfl (Nat.le_of_ble_eq_true rfl) (Nat.le_of_ble_eq_true rfl) (c_251 (by omega) q7) ?_
    refine x_aload_n d_301_33 rfl 0 rfl ?_
    refine y_getR d_301_34 fl_11_96 rfl kd_78 rr_78_59 ?_
    refine x_bipush d_301_37 bp_10 ?_
    refine x_iload_n d_301_39 rfl 1 rfl ?_
    refine x_iadd d_301_40 ?_
    refine x_iload d_301_41 4 rfl ?_
    obtain ⟨g9, h⟩ := gd_inv h
    obtain ⟨S10, e11, h⟩ := lt_inv h
    refine y_iast e11 d_301_43 kd_101 g9 ?_
    refine x_aload_n d_301_44 rfl 0 rfl ?_
    refine y_getR d_301_45 fl_11_96 rfl kd_78 rr_78_59 ?_
    refine x_iload_n d_301_48 rfl 1 rfl ?_
    refine x_iload_n d_301_49 rfl 3 rfl ?_
    obtain ⟨g12, h⟩ := gd_inv h
    obtain ⟨S13, e14, h⟩ := lt_inv h
    refine y_iast e14 d_301_50 kd_101 g12 ?_
    refine x_aload_n d_301_51 rfl 0 rfl ?_
    obtain ⟨v16, q15, h⟩ := bd_inv h
    refine y_V0i (v := v16) (S1 := S13) d_301_52 ml_11_521 kd_78 rfl (Nat.le_of_ble_eq_true rfl) (Nat.le_of_ble_eq_true rfl) (c_302 (by omega) q15) ?_
    obtain ⟨g17, h⟩ := gd_inv h
    obtain rfl := Option.some.inj h
    exact x_ret (r := some (.int v16)) d_301_55 ⟨_, rfl, isB_nar g17⟩
  · replace h := ite_t c6 h
    refine x_iconst d_301_27 ic_0 ?_
    obtain rfl := Option.some.inj h
    exact x_ret (r := some (.int (0 : Int32))) d_301_28 ⟨_, rfl, rfl⟩
/-! NinetyPlayersModel.letin -/
def b_300_52 (F G : Nat) (z1 : Int32) (z2 : Int32) (z3 : Int32) (z4 : Int32) (k88 : St → Option (Int32 × St)) (rec : Int32 → St → Option (Int32 × St)) (w5 : Int32) (S : St) : Option (Int32 × St) :=
  if (2 : Int32) < w5 then k88 S else bd2 (fM_letsIn F G S z1 z4 w5) fun v13 S14 => if v13 = 0 then lt (w5 + 1) fun v16 => rec v16 S14 else if z2 = 0 then some (z4, S14) else some (w5, S14)
def b_300_22 (F G : Nat) (z1 : Int32) (z2 : Int32) (rec : Int32 → St → Option (Int32 × St)) (w3 : Int32) (S : St) : Option (Int32 × St) :=
  if (14 : Int32) < w3 then some ((-100 : Int32), S) else if (w3 - w3 / (2 : Int32) * (2 : Int32)) = (1 : Int32) then lt ((w3 + (1 : Int32)) / (2 : Int32)) fun v22 => fx2 (b_300_52 F G z1 z2 w3 v22 (fun S24 => lt (w3 + 1) fun v25 => rec v25 S24)) F (1 : Int32) S else lt (-(w3 / (2 : Int32))) fun v9 => fx2 (b_300_52 F G z1 z2 w3 v9 (fun S19 => lt (w3 + 1) fun v20 => rec v20 S19)) F (1 : Int32) S
def fM_letin (F G : Nat) (S : St) (p1 : Int32) (p2 : Int32) : Option (Int32 × St) :=
  bd (fM_isOut F G S p1) fun v2 => if v2 = 0 then some ((-100 : Int32), S) else bd (fM_isIn F G S p2 (0 : Int32) (1 : Int32)) fun v5 => if v5 = 0 then some ((-100 : Int32), S) else fx2 (b_300_22 F G p1 p2) F (0 : Int32) S
set_option maxRecDepth 100000 in
set_option maxHeartbeats 4000000 in
theorem T_300_52 {X : Nat × (Nat → Int32)} {D F G : Nat} (hD : 6 ≤ D + 1) {z1 : Int32} {z2 : Int32} {z3 : Int32} {z4 : Int32} {k88 : St → Option (Int32 × St)} (hk88 : ∀ (S1 : St) (res : Int32 × St), k88 S1 = some res → Ek X (D + 1) m300 88 [(0, .ref 78), (1, .int z1), (2, .int z2), (3, .int z3)] [] S1 (some (.int res.1)) res.2) : ∀ (f : Nat) (w5 : Int32) (S : St) (res : Int32 × St), fx2 (b_300_52 F G z1 z2 z3 z4 k88 ) f w5 S = some res → Ek X (D + 1) m300 52 [(0, .ref 78), (1, .int z1), (2, .int z2), (3, .int z3), (4, .int z4), (5, .int w5)] [] S (some (.int res.1)) res.2 := by
  refine fx2_ind ?_
  intro rec ih w5 S res h
  unfold b_300_52 at h
  refine x_iload d_300_52 5 rfl ?_
  refine x_iconst d_300_54 ic_2 ?_
  refine x_icmp_gt (tgt := 88) d_300_55 rfl (fun c11 => ?_) (fun c11 => ?_)
  · replace h := ite_t c11 h
    refine y_pick (L1 := [(0, .ref 78), (1, .int z1), (2, .int z2), (3, .int z3)]) [0, 1, 2, 3] rfl ?_
    exact hk88 S _ h
  · replace h := ite_f c11 h
    refine x_aload_n d_300_58 rfl 0 rfl ?_
    refine x_iload_n d_300_59 rfl 1 rfl ?_
    refine x_iload d_300_60 4 rfl ?_
    refine x_iload d_300_62 5 rfl ?_
    obtain ⟨v13, S14, q12, h⟩ := bd2_inv h
    refine y_V3i (v := v13) (S1 := S14) d_300_64 ml_11_524 kd_78 rfl (Nat.le_of_ble_eq_true rfl) (Nat.le_of_ble_eq_true rfl) (c_301 (by omega) q12) ?_
    refine x_if_eq (tgt := 82) d_300_67 rfl (fun c15 => ?_) (fun c15 => ?_)
    · replace h := ite_t c15 h
      obtain ⟨v16, e17, h⟩ := lt_inv h
      refine y_iinc (L1 := [(0, .ref 78), (1, .int z1), (2, .int z2), (3, .int z3), (4, .int z4), (5, .int v16)]) e17 ic_1 d_300_82 5 rfl (Nat.le_of_ble_eq_true rfl) rfl rfl ?_
      refine x_goto (tgt := 52) d_300_85 rfl ?_
      exact ih v16 S14 _ h
    · replace h := ite_f c15 h
      refine x_iload_n d_300_70 rfl 2 rfl ?_
      refine x_if_ne (tgt := 79) d_300_71 rfl (fun c18 => ?_) (fun c18 => ?_)
      · replace h := ite_f c18 h
        refine x_iload d_300_79 5 rfl ?_
        obtain rfl := Option.some.inj h
        exact x_ret (r := some (.int w5)) d_300_81 ⟨_, rfl, rfl⟩
      · replace h := ite_t c18 h
        refine x_iload d_300_74 4 rfl ?_
        refine x_goto (tgt := 81) d_300_76 rfl ?_
        obtain rfl := Option.some.inj h
        exact x_ret (r := some (.int z4)) d_300_81 ⟨_, rfl, rfl⟩
set_option maxRecDepth 100000 in
set_option maxHeartbeats 4000000 in
theorem T_300_22 {X : Nat × (Nat → Int32)} {D F G : Nat} (hD : 6 ≤ D + 1) {z1 : Int32} {z2 : Int32} : ∀ (f : Nat) (w3 : Int32) (S : St) (res : Int32 × St), fx2 (b_300_22 F G z1 z2 ) f w3 S = some res → Ek X (D + 1) m300 22 [(0, .ref 78), (1, .int z1), (2, .int z2), (3, .int w3)] [] S (some (.int res.1)) res.2 := by
  refine fx2_ind ?_
  intro rec ih w3 S res h
  unfold b_300_22 at h
  refine x_iload_n d_300_22 rfl 3 rfl ?_
  refine x_bipush d_300_23 bp_14 ?_
  refine x_icmp_gt (tgt := 94) d_300_25 rfl (fun c7 => ?_) (fun c7 => ?_)
  · replace h := ite_t c7 h
    refine x_bipush d_300_94 bp_m100 ?_
    obtain rfl := Option.some.inj h
    exact x_ret (r := some (.int (-100 : Int32))) d_300_96 ⟨_, rfl, rfl⟩
  · replace h := ite_f c7 h
    refine x_iload_n d_300_28 rfl 3 rfl ?_
    refine x_iconst d_300_29 ic_2 ?_
    refine x_irem d_300_30 (by decide) ?_
    refine x_iconst d_300_31 ic_1 ?_
    refine x_icmp_ne (tgt := 43) d_300_32 rfl (fun c8 => ?_) (fun c8 => ?_)
    · replace h := ite_f c8 h
      refine x_iload_n d_300_43 rfl 3 rfl ?_
      refine x_iconst d_300_44 ic_2 ?_
      refine x_idiv d_300_45 (by decide) ?_
      refine x_ineg d_300_46 ?_
      obtain ⟨v9, e10, h⟩ := lt_inv h
      refine y_istore (L1 := [(0, .ref 78), (1, .int z1), (2, .int z2), (3, .int w3), (4, .int v9)]) e10 d_300_47 (Nat.le_of_ble_eq_true rfl) rfl rfl ?_
      refine x_iconst d_300_49 ic_1 ?_
      refine x_istore (L1 := [(0, .ref 78), (1, .int z1), (2, .int z2), (3, .int w3), (4, .int v9), (5, .int (1 : Int32))]) d_300_50 (Nat.le_of_ble_eq_true rfl) rfl rfl ?_
      refine T_300_52 (by omega)  ?_ F (1 : Int32) S _ h
      · intro S19 res h
        obtain ⟨v20, e21, h⟩ := lt_inv h
        refine y_iinc (L1 := [(0, .ref 78), (1, .int z1), (2, .int z2), (3, .int v20)]) e21 ic_1 d_300_88 3 rfl (Nat.le_of_ble_eq_true rfl) rfl rfl ?_
        refine x_goto (tgt := 22) d_300_91 rfl ?_
        exact ih v20 S19 _ h
    · replace h := ite_t c8 h
      refine x_iload_n d_300_35 rfl 3 rfl ?_
      refine x_iconst d_300_36 ic_1 ?_
      refine x_iadd d_300_37 ?_
      refine x_iconst d_300_38 ic_2 ?_
      refine x_idiv d_300_39 (by decide) ?_
      refine x_goto (tgt := 47) d_300_40 rfl ?_
      obtain ⟨v22, e23, h⟩ := lt_inv h
      refine y_istore (L1 := [(0, .ref 78), (1, .int z1), (2, .int z2), (3, .int w3), (4, .int v22)]) e23 d_300_47 (Nat.le_of_ble_eq_true rfl) rfl rfl ?_
      refine x_iconst d_300_49 ic_1 ?_
      refine x_istore (L1 := [(0, .ref 78), (1, .int z1), (2, .int z2), (3, .int w3), (4, .int v22), (5, .int (1 : Int32))]) d_300_50 (Nat.le_of_ble_eq_true rfl) rfl rfl ?_
      refine T_300_52 (by omega)  ?_ F (1 : Int32) S _ h
      · intro S24 res h
        obtain ⟨v25, e26, h⟩ := lt_inv h
        refine y_iinc (L1 := [(0, .ref 78), (1, .int z1), (2, .int z2), (3, .int v25)]) e26 ic_1 d_300_88 3 rfl (Nat.le_of_ble_eq_true rfl) rfl rfl ?_
        refine x_goto (tgt := 22) d_300_91 rfl ?_
        exact ih v25 S24 _ h
set_option maxRecDepth 100000 in
set_option maxHeartbeats 4000000 in
theorem c_300 {X : Nat × (Nat → Int32)} {D F G : Nat} (hD : 6 ≤ D) {S : St} {p1 : Int32} {p2 : Int32} {res : Int32 × St} (h : fM_letin F G S p1 p2 = some res) : Ek X (D) m300 0 [(0, .ref 78), (1, .int p1), (2, .int p2)] [] S (some (.int res.1)) res.2 := by
  obtain ⟨D, rfl⟩ : ∃ E, D = E + 1 := ⟨D - 1, by omega⟩
  unfold fM_letin at h
  refine x_aload_n d_300_0 rfl 0 rfl ?_
  refine x_iload_n d_300_1 rfl 1 rfl ?_
  obtain ⟨v2, q1, h⟩ := bd_inv h
  refine y_V1i (v := v2) (S1 := S) d_300_2 ml_11_515 kd_78 rfl (Nat.le_of_ble_eq_true rfl) (Nat.le_of_ble_eq_true rfl) (c_296 (by omega) q1) ?_
  refine x_if_eq (tgt := 17) d_300_5 rfl (fun c3 => ?_) (fun c3 => ?_)
  · replace h := ite_t c3 h
    refine x_bipush d_300_17 bp_m100 ?_
    obtain rfl := Option.some.inj h
    exact x_ret (r := some (.int (-100 : Int32))) d_300_19 ⟨_, rfl, rfl⟩
  · replace h := ite_f c3 h
    refine x_iload_n d_300_8 rfl 2 rfl ?_
    refine x_iconst d_300_9 ic_0 ?_
    refine x_iconst d_300_10 ic_1 ?_
    obtain ⟨v5, q4, h⟩ := bd_inv h
    refine y_S3i (v := v5) (S1 := S) d_300_11 ml_11_429 (Nat.le_of_ble_eq_true rfl) (Nat.le_of_ble_eq_true rfl) (c_250 (by omega) q4) ?_
    refine x_if_ne (tgt := 20) d_300_14 rfl (fun c6 => ?_) (fun c6 => ?_)
    · replace h := ite_f c6 h
      refine x_iconst d_300_20 ic_0 ?_
      refine x_istore_n (L1 := [(0, .ref 78), (1, .int p1), (2, .int p2), (3, .int (0 : Int32))]) d_300_21 rfl (Nat.le_of_ble_eq_true rfl) rfl rfl ?_
      refine T_300_22 (by omega)   F (0 : Int32) S _ h
    · replace h := ite_t c6 h
      refine x_bipush d_300_17 bp_m100 ?_
      obtain rfl := Option.some.inj h
      exact x_ret (r := some (.int (-100 : Int32))) d_300_19 ⟨_, rfl, rfl⟩
/-! NinetyPlayersModel.pedals -/
def j_303_65 (F G : Nat) (z1 : Int32) (z2 : Int32) (z3 : Int32) (k105 : Int32 → St → Option (Int32 × St)) (rec : Int32 → Int32 → St → Option (Int32 × St)) (S : St) (y4 : Int32) (y5 : Int32) : Option (Int32 × St) :=
  gd (inB (40 : Int32) 41) (lt (sI S 101 (40 : Int32).toNatClampNeg y5) fun S20 => bd (fM_layHold F G S20 ) fun S23 => bd (fM_canBePlayed F G S23 z2 z3 (S23.1 78 50) (S23.1 78 49)) fun v25 => if v25 = 0 then lt (y5 + 1) fun v27 => rec y4 v27 S23 else lt (y5 + 1) fun v29 => rec y5 v29 S23)
def b_303_33 (F G : Nat) (z1 : Int32) (z2 : Int32) (z3 : Int32) (k105 : Int32 → St → Option (Int32 × St)) (rec : Int32 → Int32 → St → Option (Int32 × St)) (w4 : Int32) (w5 : Int32) (S : St) : Option (Int32 × St) :=
  if ((1 : Int32) <<< ((S.1 78 46) &&& 31)) ≤ w5 then k105 w4 S else if w4 < 0 then j_303_65 F G z1 z2 z3 k105 rec  S w4 w5 else bd (fM_members F G S w5) fun v13 => bd (fM_members F G S w4) fun v15 => if v13 < v15 then j_303_65 F G z1 z2 z3 k105 rec  S w4 w5 else lt (w5 + 1) fun v17 => rec w4 v17 S
def fM_pedals (F G : Nat) (S : St) (p1 : Int32) : Option (Int32 × St) :=
  bd (fM_isIn F G S p1 (0 : Int32) (1 : Int32)) fun v2 => if v2 = 0 then some ((-1 : Int32), S) else bd (fM_fill F G S ) fun S5 => bd (fM_given F G S5 (1 : Int32)) fun v7 => bd (fM_given F G S5 (2 : Int32)) fun v9 => fx3 (b_303_33 F G p1 v7 v9 (fun v31 S32 => if 0 ≤ v31 then if p1 = 0 then bd (fM_members F G S32 v31) fun v36 => some (v36, S32) else some (v31, S32) else some ((-1 : Int32), S32))) F (-1 : Int32) (0 : Int32) S5
set_option maxRecDepth 100000 in
set_option maxHeartbeats 4000000 in
theorem T_303_33 {X : Nat × (Nat → Int32)} {D F G : Nat} (hD : 4 ≤ D + 1) {z1 : Int32} {z2 : Int32} {z3 : Int32} {k105 : Int32 → St → Option (Int32 × St)} (hk105 : ∀ (u4 : Int32) (S1 : St) (res : Int32 × St), k105 u4 S1 = some res → Ek X (D + 1) m303 105 [(1, .int z1), (4, .int u4)] [] S1 (some (.int res.1)) res.2) : ∀ (f : Nat) (w4 : Int32) (w5 : Int32) (S : St) (res : Int32 × St), fx3 (b_303_33 F G z1 z2 z3 k105 ) f w4 w5 S = some res → Ek X (D + 1) m303 33 [(0, .ref 78), (1, .int z1), (2, .int z2), (3, .int z3), (4, .int w4), (5, .int w5)] [] S (some (.int res.1)) res.2 := by
  refine fx3_ind ?_
  intro rec ih w4 w5 S res h
  unfold b_303_33 at h
  have J65 : ∀ (S : St) (y4 : Int32) (y5 : Int32) (res : Int32 × St), j_303_65 F G z1 z2 z3 k105 rec S y4 y5 = some res → Ek X (D + 1) m303 65 [(0, .ref 78), (1, .int z1), (2, .int z2), (3, .int z3), (4, .int y4), (5, .int y5)] [] S (some (.int res.1)) res.2 := by
    intro S y4 y5 res h
    unfold j_303_65 at h
    refine x_aload_n d_303_65 rfl 0 rfl ?_
    refine y_getR d_303_66 fl_11_96 rfl kd_78 rr_78_59 ?_
    refine x_bipush d_303_69 bp_40 ?_
    refine x_iload d_303_71 5 rfl ?_
    obtain ⟨g19, h⟩ := gd_inv h
    obtain ⟨S20, e21, h⟩ := lt_inv h
    refine y_iast e21 d_303_73 kd_101 g19 ?_
    refine x_aload_n d_303_74 rfl 0 rfl ?_
    obtain ⟨S23, q22, h⟩ := bd_inv h
    refine y_V0v (S1 := S23) d_303_75 ml_11_433 kd_78 rfl (Nat.le_of_ble_eq_true rfl) (Nat.le_of_ble_eq_true rfl) (c_252 (by omega) q22) ?_
    refine x_aload_n d_303_78 rfl 0 rfl ?_
    refine x_iload_n d_303_79 rfl 2 rfl ?_
    refine x_iload_n d_303_80 rfl 3 rfl ?_
    refine x_aload_n d_303_81 rfl 0 rfl ?_
    refine y_getI d_303_82 fl_11_84 rfl kd_78 ?_
    refine x_aload_n d_303_85 rfl 0 rfl ?_
    refine y_getI d_303_86 fl_11_81 rfl kd_78 ?_
    obtain ⟨v25, q24, h⟩ := bd_inv h
    refine y_V4i (v := v25) (S1 := S23) d_303_89 ml_11_457 kd_78 rfl (Nat.le_of_ble_eq_true rfl) (Nat.le_of_ble_eq_true rfl) (c_293 (by omega) q24) ?_
    refine x_if_eq (tgt := 99) d_303_92 rfl (fun c26 => ?_) (fun c26 => ?_)
    · replace h := ite_t c26 h
      obtain ⟨v27, e28, h⟩ := lt_inv h
      refine y_iinc (L1 := [(0, .ref 78), (1, .int z1), (2, .int z2), (3, .int z3), (4, .int y4), (5, .int v27)]) e28 ic_1 d_303_99 5 rfl (Nat.le_of_ble_eq_true rfl) rfl rfl ?_
      refine x_goto (tgt := 33) d_303_102 rfl ?_
      exact ih y4 v27 S23 _ h
    · replace h := ite_f c26 h
      refine x_iload d_303_95 5 rfl ?_
      refine x_istore (L1 := [(0, .ref 78), (1, .int z1), (2, .int z2), (3, .int z3), (4, .int y5), (5, .int y5)]) d_303_97 (Nat.le_of_ble_eq_true rfl) rfl rfl ?_
      obtain ⟨v29, e30, h⟩ := lt_inv h
      refine y_iinc (L1 := [(0, .ref 78), (1, .int z1), (2, .int z2), (3, .int z3), (4, .int y5), (5, .int v29)]) e30 ic_1 d_303_99 5 rfl (Nat.le_of_ble_eq_true rfl) rfl rfl ?_
      refine x_goto (tgt := 33) d_303_102 rfl ?_
      exact ih y5 v29 S23 _ h
  refine x_iload d_303_33 5 rfl ?_
  refine x_iconst d_303_35 ic_1 ?_
  refine x_aload_n d_303_36 rfl 0 rfl ?_
  refine y_getI d_303_37 fl_11_78 rfl kd_78 ?_
  refine x_ishl d_303_40 ?_
  refine x_icmp_ge (tgt := 105) d_303_41 rfl (fun c10 => ?_) (fun c10 => ?_)
  · replace h := ite_t c10 h
    refine y_pick (L1 := [(1, .int z1), (4, .int w4)]) [1, 4] rfl ?_
    exact hk105 w4 S _ h
  · replace h := ite_f c10 h
    refine x_iload d_303_44 4 rfl ?_
    refine x_if_lt (tgt := 65) d_303_46 rfl (fun c11 => ?_) (fun c11 => ?_)
    · replace h := ite_t c11 h
      exact J65 S w4 w5 _ h
    · replace h := ite_f c11 h
      refine x_iload d_303_49 5 rfl ?_
      obtain ⟨v13, q12, h⟩ := bd_inv h
      refine y_S1i (v := v13) (S1 := S) d_303_51 ml_11_331 (Nat.le_of_ble_eq_true rfl) (Nat.le_of_ble_eq_true rfl) (c_256 (by omega) q12) ?_
      refine x_iload d_303_54 4 rfl ?_
      obtain ⟨v15, q14, h⟩ := bd_inv h
      refine y_S1i (v := v15) (S1 := S) d_303_56 ml_11_331 (Nat.le_of_ble_eq_true rfl) (Nat.le_of_ble_eq_true rfl) (c_256 (by omega) q14) ?_
      refine x_icmp_lt (tgt := 65) d_303_59 rfl (fun c16 => ?_) (fun c16 => ?_)
      · replace h := ite_t c16 h
        exact J65 S w4 w5 _ h
      · replace h := ite_f c16 h
        refine x_goto (tgt := 99) d_303_62 rfl ?_
        obtain ⟨v17, e18, h⟩ := lt_inv h
        refine y_iinc (L1 := [(0, .ref 78), (1, .int z1), (2, .int z2), (3, .int z3), (4, .int w4), (5, .int v17)]) e18 ic_1 d_303_99 5 rfl (Nat.le_of_ble_eq_true rfl) rfl rfl ?_
        refine x_goto (tgt := 33) d_303_102 rfl ?_
        exact ih w4 v17 S _ h
set_option maxRecDepth 100000 in
set_option maxHeartbeats 4000000 in
theorem c_303 {X : Nat × (Nat → Int32)} {D F G : Nat} (hD : 4 ≤ D) {S : St} {p1 : Int32} {res : Int32 × St} (h : fM_pedals F G S p1 = some res) : Ek X (D) m303 0 [(0, .ref 78), (1, .int p1)] [] S (some (.int res.1)) res.2 := by
  obtain ⟨D, rfl⟩ : ∃ E, D = E + 1 := ⟨D - 1, by omega⟩
  unfold fM_pedals at h
  refine x_iload_n d_303_0 rfl 1 rfl ?_
  refine x_iconst d_303_1 ic_0 ?_
  refine x_iconst d_303_2 ic_1 ?_
  obtain ⟨v2, q1, h⟩ := bd_inv h
  refine y_S3i (v := v2) (S1 := S) d_303_3 ml_11_429 (Nat.le_of_ble_eq_true rfl) (Nat.le_of_ble_eq_true rfl) (c_250 (by omega) q1) ?_
  refine x_if_ne (tgt := 11) d_303_6 rfl (fun c3 => ?_) (fun c3 => ?_)
  · replace h := ite_f c3 h
    refine x_aload_n d_303_11 rfl 0 rfl ?_
    obtain ⟨S5, q4, h⟩ := bd_inv h
    refine y_V0v (S1 := S5) d_303_12 ml_11_464 kd_78 rfl (Nat.le_of_ble_eq_true rfl) (Nat.le_of_ble_eq_true rfl) (c_251 (by omega) q4) ?_
    refine x_aload_n d_303_15 rfl 0 rfl ?_
    refine x_iconst d_303_16 ic_1 ?_
    obtain ⟨v7, q6, h⟩ := bd_inv h
    refine y_V1i (v := v7) (S1 := S5) d_303_17 ml_11_454 kd_78 rfl (Nat.le_of_ble_eq_true rfl) (Nat.le_of_ble_eq_true rfl) (c_261 (by omega) q6) ?_
    refine x_istore_n (L1 := [(0, .ref 78), (1, .int p1), (2, .int v7)]) d_303_20 rfl (Nat.le_of_ble_eq_true rfl) rfl rfl ?_
    refine x_aload_n d_303_21 rfl 0 rfl ?_
    refine x_iconst d_303_22 ic_2 ?_
    obtain ⟨v9, q8, h⟩ := bd_inv h
    refine y_V1i (v := v9) (S1 := S5) d_303_23 ml_11_454 kd_78 rfl (Nat.le_of_ble_eq_true rfl) (Nat.le_of_ble_eq_true rfl) (c_261 (by omega) q8) ?_
    refine x_istore_n (L1 := [(0, .ref 78), (1, .int p1), (2, .int v7), (3, .int v9)]) d_303_26 rfl (Nat.le_of_ble_eq_true rfl) rfl rfl ?_
    refine x_iconst d_303_27 ic_m1 ?_
    refine x_istore (L1 := [(0, .ref 78), (1, .int p1), (2, .int v7), (3, .int v9), (4, .int (-1 : Int32))]) d_303_28 (Nat.le_of_ble_eq_true rfl) rfl rfl ?_
    refine x_iconst d_303_30 ic_0 ?_
    refine x_istore (L1 := [(0, .ref 78), (1, .int p1), (2, .int v7), (3, .int v9), (4, .int (-1 : Int32)), (5, .int (0 : Int32))]) d_303_31 (Nat.le_of_ble_eq_true rfl) rfl rfl ?_
    refine T_303_33 (by omega)  ?_ F (-1 : Int32) (0 : Int32) S5 _ h
    · intro v31 S32 res h
      refine x_iload d_303_105 1 rfl ?_
      refine x_if_ge (tgt := 114) d_303_107 rfl (fun c33 => ?_) (fun c33 => ?_)
      · replace h := ite_t c33 h
        refine x_iload_n d_303_114 rfl 0 rfl ?_
        refine x_if_ne (tgt := 126) d_303_115 rfl (fun c34 => ?_) (fun c34 => ?_)
        · replace h := ite_f c34 h
          refine x_iload d_303_126 1 rfl ?_
          obtain rfl := Option.some.inj h
          exact x_ret (r := some (.int v31)) d_303_128 ⟨_, rfl, rfl⟩
        · replace h := ite_t c34 h
          refine x_iload d_303_118 1 rfl ?_
          obtain ⟨v36, q35, h⟩ := bd_inv h
          refine y_S1i (v := v36) (S1 := S32) d_303_120 ml_11_331 (Nat.le_of_ble_eq_true rfl) (Nat.le_of_ble_eq_true rfl) (c_256 (by omega) q35) ?_
          refine x_goto (tgt := 128) d_303_123 rfl ?_
          obtain rfl := Option.some.inj h
          exact x_ret (r := some (.int v36)) d_303_128 ⟨_, rfl, rfl⟩
      · replace h := ite_f c33 h
        refine x_iconst d_303_110 ic_m1 ?_
        refine x_goto (tgt := 128) d_303_111 rfl ?_
        obtain rfl := Option.some.inj h
        exact x_ret (r := some (.int (-1 : Int32))) d_303_128 ⟨_, rfl, rfl⟩
  · replace h := ite_t c3 h
    refine x_iconst d_303_9 ic_m1 ?_
    obtain rfl := Option.some.inj h
    exact x_ret (r := some (.int (-1 : Int32))) d_303_10 ⟨_, rfl, rfl⟩
/-! NinetyPlayersModel.greater -/
def fM_greater (F G : Nat) (S : St) (p1 : Int32) (p2 : Int32) : Option (Int32) :=
  if p1 ≤ p2 then some p2 else some p1
set_option maxRecDepth 100000 in
set_option maxHeartbeats 4000000 in
theorem c_305 {X : Nat × (Nat → Int32)} {D F G : Nat} (hD : 0 ≤ D) {S : St} {p1 : Int32} {p2 : Int32} {res : Int32} (h : fM_greater F G S p1 p2 = some res) : Ek X (D) m305 0 [(0, .int p1), (1, .int p2)] [] S (some (.int res)) S := by
  unfold fM_greater at h
  refine x_iload_n d_305_0 rfl 0 rfl ?_
  refine x_iload_n d_305_1 rfl 1 rfl ?_
  refine x_icmp_le (tgt := 9) d_305_2 rfl (fun c1 => ?_) (fun c1 => ?_)
  · replace h := ite_t c1 h
    refine x_iload_n d_305_9 rfl 1 rfl ?_
    obtain rfl := Option.some.inj h
    exact x_ret (r := some (.int p2)) d_305_10 ⟨_, rfl, rfl⟩
  · replace h := ite_f c1 h
    refine x_iload_n d_305_5 rfl 0 rfl ?_
    refine x_goto (tgt := 10) d_305_6 rfl ?_
    obtain rfl := Option.some.inj h
    exact x_ret (r := some (.int p1)) d_305_10 ⟨_, rfl, rfl⟩
/-! NinetyPlayersModel.spread -/
def b_304_17 (F G : Nat) (S : St) (z1 : Int32) (rec : Int32 → Int32 → Option (Int32 × St)) (w2 : Int32) (w3 : Int32) : Option (Int32 × St) :=
  if (S.1 78 46) ≤ w3 then some (w2, S) else bd (fM_given F G S z1) fun v8 => gd (inB w3 12) (lt (v8 &&& (S.1 102 w3.toNatClampNeg)) fun v10 => if v10 = 0 then lt (w3 + 1) fun v13 => rec w2 v13 else bd (fM_highest F G S v10) fun v16 => bd (fM_lowest F G S v10) fun v18 => bd (fM_greater F G S w2 (v16 - v18)) fun v20 => lt (w3 + 1) fun v21 => rec v20 v21)
def fM_spread (F G : Nat) (S : St) (p1 : Int32) : Option (Int32 × St) :=
  bd (fM_isHand F G S p1) fun v2 => if v2 = 0 then some ((-1 : Int32), S) else bd (fM_fill F G S ) fun S5 => fx2 (b_304_17 F G S5 p1) F (0 : Int32) (0 : Int32)
set_option maxRecDepth 100000 in
set_option maxHeartbeats 4000000 in
theorem T_304_17 {X : Nat × (Nat → Int32)} {D F G : Nat} (hD : 2 ≤ D + 1) {S : St} {z1 : Int32} : ∀ (f : Nat) (w2 : Int32) (w3 : Int32) (res : Int32 × St), fx2 (b_304_17 F G S z1 ) f w2 w3 = some res → Ek X (D + 1) m304 17 [(0, .ref 78), (1, .int z1), (2, .int w2), (3, .int w3)] [] S (some (.int res.1)) res.2 := by
  refine fx2_ind ?_
  intro rec ih w2 w3 res h
  unfold b_304_17 at h
  refine x_iload_n d_304_17 rfl 3 rfl ?_
  refine x_aload_n d_304_18 rfl 0 rfl ?_
  refine y_getI d_304_19 fl_11_78 rfl kd_78 ?_
  refine x_icmp_ge (tgt := 68) d_304_22 rfl (fun c6 => ?_) (fun c6 => ?_)
  · replace h := ite_t c6 h
    refine x_iload_n d_304_68 rfl 2 rfl ?_
    obtain rfl := Option.some.inj h
    exact x_ret (r := some (.int w2)) d_304_69 ⟨_, rfl, rfl⟩
  · replace h := ite_f c6 h
    refine x_aload_n d_304_25 rfl 0 rfl ?_
    refine x_iload_n d_304_26 rfl 1 rfl ?_
    obtain ⟨v8, q7, h⟩ := bd_inv h
    refine y_V1i (v := v8) (S1 := S) d_304_27 ml_11_454 kd_78 rfl (Nat.le_of_ble_eq_true rfl) (Nat.le_of_ble_eq_true rfl) (c_261 (by omega) q7) ?_
    refine x_aload_n d_304_30 rfl 0 rfl ?_
    refine y_getR d_304_31 fl_11_99 rfl kd_78 rr_78_60 ?_
    refine x_iload_n d_304_34 rfl 3 rfl ?_
    obtain ⟨g9, h⟩ := gd_inv h
    refine y_iald d_304_35 kd_102 g9 ?_
    refine x_iand d_304_36 ?_
    obtain ⟨v10, e11, h⟩ := lt_inv h
    refine y_istore (L1 := [(0, .ref 78), (1, .int z1), (2, .int w2), (3, .int w3), (4, .int v10)]) e11 d_304_37 (Nat.le_of_ble_eq_true rfl) rfl rfl ?_
    refine x_iload d_304_39 4 rfl ?_
    refine x_if_eq (tgt := 62) d_304_41 rfl (fun c12 => ?_) (fun c12 => ?_)
    · replace h := ite_t c12 h
      obtain ⟨v13, e14, h⟩ := lt_inv h
      refine y_iinc (L1 := [(0, .ref 78), (1, .int z1), (2, .int w2), (3, .int v13), (4, .int v10)]) e14 ic_1 d_304_62 3 rfl (Nat.le_of_ble_eq_true rfl) rfl rfl ?_
      refine x_goto (tgt := 17) d_304_65 rfl ?_
      refine y_pick (L1 := [(0, .ref 78), (1, .int z1), (2, .int w2), (3, .int v13)]) [0, 1, 2, 3] rfl ?_
      exact ih w2 v13 _ h
    · replace h := ite_f c12 h
      refine x_iload_n d_304_44 rfl 2 rfl ?_
      refine x_aload_n d_304_45 rfl 0 rfl ?_
      refine x_iload d_304_46 4 rfl ?_
      obtain ⟨v16, q15, h⟩ := bd_inv h
      refine y_V1i (v := v16) (S1 := S) d_304_48 ml_11_440 kd_78 rfl (Nat.le_of_ble_eq_true rfl) (Nat.le_of_ble_eq_true rfl) (c_271 (by omega) q15) ?_
      refine x_aload_n d_304_51 rfl 0 rfl ?_
      refine x_iload d_304_52 4 rfl ?_
      obtain ⟨v18, q17, h⟩ := bd_inv h
      refine y_V1i (v := v18) (S1 := S) d_304_54 ml_11_437 kd_78 rfl (Nat.le_of_ble_eq_true rfl) (Nat.le_of_ble_eq_true rfl) (c_270 (by omega) q17) ?_
      refine x_isub d_304_57 ?_
      obtain ⟨v20, q19, h⟩ := bd_inv h
      refine y_S2i (v := v20) (S1 := S) d_304_58 ml_11_527 (Nat.le_of_ble_eq_true rfl) (Nat.le_of_ble_eq_true rfl) (c_305 (by omega) q19) ?_
      refine x_istore_n (L1 := [(0, .ref 78), (1, .int z1), (2, .int v20), (3, .int w3), (4, .int v10)]) d_304_61 rfl (Nat.le_of_ble_eq_true rfl) rfl rfl ?_
      obtain ⟨v21, e22, h⟩ := lt_inv h
      refine y_iinc (L1 := [(0, .ref 78), (1, .int z1), (2, .int v20), (3, .int v21), (4, .int v10)]) e22 ic_1 d_304_62 3 rfl (Nat.le_of_ble_eq_true rfl) rfl rfl ?_
      refine x_goto (tgt := 17) d_304_65 rfl ?_
      refine y_pick (L1 := [(0, .ref 78), (1, .int z1), (2, .int v20), (3, .int v21)]) [0, 1, 2, 3] rfl ?_
      exact ih v20 v21 _ h
set_option maxRecDepth 100000 in
set_option maxHeartbeats 4000000 in
theorem c_304 {X : Nat × (Nat → Int32)} {D F G : Nat} (hD : 2 ≤ D) {S : St} {p1 : Int32} {res : Int32 × St} (h : fM_spread F G S p1 = some res) : Ek X (D) m304 0 [(0, .ref 78), (1, .int p1)] [] S (some (.int res.1)) res.2 := by
  obtain ⟨D, rfl⟩ : ∃ E, D = E + 1 := ⟨D - 1, by omega⟩
  unfold fM_spread at h
  refine x_iload_n d_304_0 rfl 1 rfl ?_
  obtain ⟨v2, q1, h⟩ := bd_inv h
  refine y_S1i (v := v2) (S1 := S) d_304_1 ml_11_476 (Nat.le_of_ble_eq_true rfl) (Nat.le_of_ble_eq_true rfl) (c_264 (by omega) q1) ?_
  refine x_if_ne (tgt := 9) d_304_4 rfl (fun c3 => ?_) (fun c3 => ?_)
  · replace h := ite_f c3 h
    refine x_aload_n d_304_9 rfl 0 rfl ?_
    obtain ⟨S5, q4, h⟩ := bd_inv h
    refine y_V0v (S1 := S5) d_304_10 ml_11_464 kd_78 rfl (Nat.le_of_ble_eq_true rfl) (Nat.le_of_ble_eq_true rfl) (c_251 (by omega) q4) ?_
    refine x_iconst d_304_13 ic_0 ?_
    refine x_istore_n (L1 := [(0, .ref 78), (1, .int p1), (2, .int (0 : Int32))]) d_304_14 rfl (Nat.le_of_ble_eq_true rfl) rfl rfl ?_
    refine x_iconst d_304_15 ic_0 ?_
    refine x_istore_n (L1 := [(0, .ref 78), (1, .int p1), (2, .int (0 : Int32)), (3, .int (0 : Int32))]) d_304_16 rfl (Nat.le_of_ble_eq_true rfl) rfl rfl ?_
    refine T_304_17 (by omega)   F (0 : Int32) (0 : Int32) _ h
  · replace h := ite_t c3 h
    refine x_iconst d_304_7 ic_m1 ?_
    obtain rfl := Option.some.inj h
    exact x_ret (r := some (.int (-1 : Int32))) d_304_8 ⟨_, rfl, rfl⟩
/-! NinetyPlayersModel.leaps -/
def b_306_17 (F G : Nat) (S : St) (z1 : Int32) (rec : Int32 → Int32 → Option (Int32 × St)) (w2 : Int32) (w3 : Int32) : Option (Int32 × St) :=
  if (S.1 78 46) ≤ w3 then some (w2, S) else bd (fM_given F G S z1) fun v8 => gd (inB w3 12) (lt (v8 &&& (S.1 102 w3.toNatClampNeg)) fun v10 => bd (fM_given F G S z1) fun v13 => gd (inB (w3 - (1 : Int32)) 12) (lt (v13 &&& (S.1 102 (w3 - (1 : Int32)).toNatClampNeg)) fun v15 => if v10 = 0 then lt (w3 + 1) fun v18 => rec w2 v18 else if v15 = 0 then lt (w3 + 1) fun v21 => rec w2 v21 else bd (fM_lowest F G S v10) fun v24 => bd (fM_lowest F G S v15) fun v26 => bd (fM_plain F G S (v24 - v26)) fun v28 => bd (fM_greater F G S w2 v28) fun v30 => lt (w3 + 1) fun v31 => rec v30 v31))
def fM_leaps (F G : Nat) (S : St) (p1 : Int32) : Option (Int32 × St) :=
  bd (fM_isHand F G S p1) fun v2 => if v2 = 0 then some ((-1 : Int32), S) else bd (fM_fill F G S ) fun S5 => fx2 (b_306_17 F G S5 p1) F (0 : Int32) (1 : Int32)
set_option maxRecDepth 100000 in
set_option maxHeartbeats 4000000 in
theorem T_306_17 {X : Nat × (Nat → Int32)} {D F G : Nat} (hD : 2 ≤ D + 1) {S : St} {z1 : Int32} : ∀ (f : Nat) (w2 : Int32) (w3 : Int32) (res : Int32 × St), fx2 (b_306_17 F G S z1 ) f w2 w3 = some res → Ek X (D + 1) m306 17 [(0, .ref 78), (1, .int z1), (2, .int w2), (3, .int w3)] [] S (some (.int res.1)) res.2 := by
  refine fx2_ind ?_
  intro rec ih w2 w3 res h
  unfold b_306_17 at h
  refine x_iload_n d_306_17 rfl 3 rfl ?_
  refine x_aload_n d_306_18 rfl 0 rfl ?_
  refine y_getI d_306_19 fl_11_78 rfl kd_78 ?_
  refine x_icmp_ge (tgt := 92) d_306_22 rfl (fun c6 => ?_) (fun c6 => ?_)
  · replace h := ite_t c6 h
    refine x_iload_n d_306_92 rfl 2 rfl ?_
    obtain rfl := Option.some.inj h
    exact x_ret (r := some (.int w2)) d_306_93 ⟨_, rfl, rfl⟩
  · replace h := ite_f c6 h
    refine x_aload_n d_306_25 rfl 0 rfl ?_
    refine x_iload_n d_306_26 rfl 1 rfl ?_
    obtain ⟨v8, q7, h⟩ := bd_inv h
    refine y_V1i (v := v8) (S1 := S) d_306_27 ml_11_454 kd_78 rfl (Nat.le_of_ble_eq_true rfl) (Nat.le_of_ble_eq_true rfl) (c_261 (by omega) q7) ?_
    refine x_aload_n d_306_30 rfl 0 rfl ?_
    refine y_getR d_306_31 fl_11_99 rfl kd_78 rr_78_60 ?_
    refine x_iload_n d_306_34 rfl 3 rfl ?_
    obtain ⟨g9, h⟩ := gd_inv h
    refine y_iald d_306_35 kd_102 g9 ?_
    refine x_iand d_306_36 ?_
    obtain ⟨v10, e11, h⟩ := lt_inv h
    refine y_istore (L1 := [(0, .ref 78), (1, .int z1), (2, .int w2), (3, .int w3), (4, .int v10)]) e11 d_306_37 (Nat.le_of_ble_eq_true rfl) rfl rfl ?_
    refine x_aload_n d_306_39 rfl 0 rfl ?_
    refine x_iload_n d_306_40 rfl 1 rfl ?_
    obtain ⟨v13, q12, h⟩ := bd_inv h
    refine y_V1i (v := v13) (S1 := S) d_306_41 ml_11_454 kd_78 rfl (Nat.le_of_ble_eq_true rfl) (Nat.le_of_ble_eq_true rfl) (c_261 (by omega) q12) ?_
    refine x_aload_n d_306_44 rfl 0 rfl ?_
    refine y_getR d_306_45 fl_11_99 rfl kd_78 rr_78_60 ?_
    refine x_iload_n d_306_48 rfl 3 rfl ?_
    refine x_iconst d_306_49 ic_1 ?_
    refine x_isub d_306_50 ?_
    obtain ⟨g14, h⟩ := gd_inv h
    refine y_iald d_306_51 kd_102 g14 ?_
    refine x_iand d_306_52 ?_
    obtain ⟨v15, e16, h⟩ := lt_inv h
    refine y_istore (L1 := [(0, .ref 78), (1, .int z1), (2, .int w2), (3, .int w3), (4, .int v10), (5, .int v15)]) e16 d_306_53 (Nat.le_of_ble_eq_true rfl) rfl rfl ?_
    refine x_iload d_306_55 4 rfl ?_
    refine x_if_eq (tgt := 86) d_306_57 rfl (fun c17 => ?_) (fun c17 => ?_)
    · replace h := ite_t c17 h
      obtain ⟨v18, e19, h⟩ := lt_inv h
      refine y_iinc (L1 := [(0, .ref 78), (1, .int z1), (2, .int w2), (3, .int v18), (4, .int v10), (5, .int v15)]) e19 ic_1 d_306_86 3 rfl (Nat.le_of_ble_eq_true rfl) rfl rfl ?_
      refine x_goto (tgt := 17) d_306_89 rfl ?_
      refine y_pick (L1 := [(0, .ref 78), (1, .int z1), (2, .int w2), (3, .int v18)]) [0, 1, 2, 3] rfl ?_
      exact ih w2 v18 _ h
    · replace h := ite_f c17 h
      refine x_iload d_306_60 5 rfl ?_
      refine x_if_eq (tgt := 86) d_306_62 rfl (fun c20 => ?_) (fun c20 => ?_)
      · replace h := ite_t c20 h
        obtain ⟨v21, e22, h⟩ := lt_inv h
        refine y_iinc (L1 := [(0, .ref 78), (1, .int z1), (2, .int w2), (3, .int v21), (4, .int v10), (5, .int v15)]) e22 ic_1 d_306_86 3 rfl (Nat.le_of_ble_eq_true rfl) rfl rfl ?_
        refine x_goto (tgt := 17) d_306_89 rfl ?_
        refine y_pick (L1 := [(0, .ref 78), (1, .int z1), (2, .int w2), (3, .int v21)]) [0, 1, 2, 3] rfl ?_
        exact ih w2 v21 _ h
      · replace h := ite_f c20 h
        refine x_iload_n d_306_65 rfl 2 rfl ?_
        refine x_aload_n d_306_66 rfl 0 rfl ?_
        refine x_iload d_306_67 4 rfl ?_
        obtain ⟨v24, q23, h⟩ := bd_inv h
        refine y_V1i (v := v24) (S1 := S) d_306_69 ml_11_437 kd_78 rfl (Nat.le_of_ble_eq_true rfl) (Nat.le_of_ble_eq_true rfl) (c_270 (by omega) q23) ?_
        refine x_aload_n d_306_72 rfl 0 rfl ?_
        refine x_iload d_306_73 5 rfl ?_
        obtain ⟨v26, q25, h⟩ := bd_inv h
        refine y_V1i (v := v26) (S1 := S) d_306_75 ml_11_437 kd_78 rfl (Nat.le_of_ble_eq_true rfl) (Nat.le_of_ble_eq_true rfl) (c_270 (by omega) q25) ?_
        refine x_isub d_306_78 ?_
        obtain ⟨v28, q27, h⟩ := bd_inv h
        refine y_S1i (v := v28) (S1 := S) d_306_79 ml_11_325 (Nat.le_of_ble_eq_true rfl) (Nat.le_of_ble_eq_true rfl) (c_255 (by omega) q27) ?_
        obtain ⟨v30, q29, h⟩ := bd_inv h
        refine y_S2i (v := v30) (S1 := S) d_306_82 ml_11_527 (Nat.le_of_ble_eq_true rfl) (Nat.le_of_ble_eq_true rfl) (c_305 (by omega) q29) ?_
        refine x_istore_n (L1 := [(0, .ref 78), (1, .int z1), (2, .int v30), (3, .int w3), (4, .int v10), (5, .int v15)]) d_306_85 rfl (Nat.le_of_ble_eq_true rfl) rfl rfl ?_
        obtain ⟨v31, e32, h⟩ := lt_inv h
        refine y_iinc (L1 := [(0, .ref 78), (1, .int z1), (2, .int v30), (3, .int v31), (4, .int v10), (5, .int v15)]) e32 ic_1 d_306_86 3 rfl (Nat.le_of_ble_eq_true rfl) rfl rfl ?_
        refine x_goto (tgt := 17) d_306_89 rfl ?_
        refine y_pick (L1 := [(0, .ref 78), (1, .int z1), (2, .int v30), (3, .int v31)]) [0, 1, 2, 3] rfl ?_
        exact ih v30 v31 _ h
set_option maxRecDepth 100000 in
set_option maxHeartbeats 4000000 in
theorem c_306 {X : Nat × (Nat → Int32)} {D F G : Nat} (hD : 2 ≤ D) {S : St} {p1 : Int32} {res : Int32 × St} (h : fM_leaps F G S p1 = some res) : Ek X (D) m306 0 [(0, .ref 78), (1, .int p1)] [] S (some (.int res.1)) res.2 := by
  obtain ⟨D, rfl⟩ : ∃ E, D = E + 1 := ⟨D - 1, by omega⟩
  unfold fM_leaps at h
  refine x_iload_n d_306_0 rfl 1 rfl ?_
  obtain ⟨v2, q1, h⟩ := bd_inv h
  refine y_S1i (v := v2) (S1 := S) d_306_1 ml_11_476 (Nat.le_of_ble_eq_true rfl) (Nat.le_of_ble_eq_true rfl) (c_264 (by omega) q1) ?_
  refine x_if_ne (tgt := 9) d_306_4 rfl (fun c3 => ?_) (fun c3 => ?_)
  · replace h := ite_f c3 h
    refine x_aload_n d_306_9 rfl 0 rfl ?_
    obtain ⟨S5, q4, h⟩ := bd_inv h
    refine y_V0v (S1 := S5) d_306_10 ml_11_464 kd_78 rfl (Nat.le_of_ble_eq_true rfl) (Nat.le_of_ble_eq_true rfl) (c_251 (by omega) q4) ?_
    refine x_iconst d_306_13 ic_0 ?_
    refine x_istore_n (L1 := [(0, .ref 78), (1, .int p1), (2, .int (0 : Int32))]) d_306_14 rfl (Nat.le_of_ble_eq_true rfl) rfl rfl ?_
    refine x_iconst d_306_15 ic_1 ?_
    refine x_istore_n (L1 := [(0, .ref 78), (1, .int p1), (2, .int (0 : Int32)), (3, .int (1 : Int32))]) d_306_16 rfl (Nat.le_of_ble_eq_true rfl) rfl rfl ?_
    refine T_306_17 (by omega)   F (0 : Int32) (1 : Int32) _ h
  · replace h := ite_t c3 h
    refine x_iconst d_306_7 ic_m1 ?_
    obtain rfl := Option.some.inj h
    exact x_ret (r := some (.int (-1 : Int32))) d_306_8 ⟨_, rfl, rfl⟩
/-! NinetyPlayersModel.busiest -/
def b_307_17 (F G : Nat) (S : St) (z1 : Int32) (rec : Int32 → Int32 → Option (Int32 × St)) (w2 : Int32) (w3 : Int32) : Option (Int32 × St) :=
  if (S.1 78 46) ≤ w3 then some (w2, S) else bd (fM_given F G S z1) fun v8 => gd (inB w3 12) (bd (fM_members F G S (v8 &&& (S.1 102 w3.toNatClampNeg))) fun v11 => bd (fM_given F G S z1) fun v13 => gd (inB w2 12) (bd (fM_members F G S (v13 &&& (S.1 102 w2.toNatClampNeg))) fun v16 => if v11 ≤ v16 then lt (w3 + 1) fun v18 => rec w2 v18 else lt (w3 + 1) fun v20 => rec w3 v20))
def fM_busiest (F G : Nat) (S : St) (p1 : Int32) : Option (Int32 × St) :=
  bd (fM_isHand F G S p1) fun v2 => if v2 = 0 then some ((-1 : Int32), S) else bd (fM_fill F G S ) fun S5 => fx2 (b_307_17 F G S5 p1) F (0 : Int32) (1 : Int32)
set_option maxRecDepth 100000 in
set_option maxHeartbeats 4000000 in
theorem T_307_17 {X : Nat × (Nat → Int32)} {D F G : Nat} (hD : 2 ≤ D + 1) {S : St} {z1 : Int32} : ∀ (f : Nat) (w2 : Int32) (w3 : Int32) (res : Int32 × St), fx2 (b_307_17 F G S z1 ) f w2 w3 = some res → Ek X (D + 1) m307 17 [(0, .ref 78), (1, .int z1), (2, .int w2), (3, .int w3)] [] S (some (.int res.1)) res.2 := by
  refine fx2_ind ?_
  intro rec ih w2 w3 res h
  unfold b_307_17 at h
  refine x_iload_n d_307_17 rfl 3 rfl ?_
  refine x_aload_n d_307_18 rfl 0 rfl ?_
  refine y_getI d_307_19 fl_11_78 rfl kd_78 ?_
  refine x_icmp_ge (tgt := 70) d_307_22 rfl (fun c6 => ?_) (fun c6 => ?_)
  · replace h := ite_t c6 h
    refine x_iload_n d_307_70 rfl 2 rfl ?_
    obtain rfl := Option.some.inj h
    exact x_ret (r := some (.int w2)) d_307_71 ⟨_, rfl, rfl⟩
  · replace h := ite_f c6 h
    refine x_aload_n d_307_25 rfl 0 rfl ?_
    refine x_iload_n d_307_26 rfl 1 rfl ?_
    obtain ⟨v8, q7, h⟩ := bd_inv h
    refine y_V1i (v := v8) (S1 := S) d_307_27 ml_11_454 kd_78 rfl (Nat.le_of_ble_eq_true rfl) (Nat.le_of_ble_eq_true rfl) (c_261 (by omega) q7) ?_
    refine x_aload_n d_307_30 rfl 0 rfl ?_
    refine y_getR d_307_31 fl_11_99 rfl kd_78 rr_78_60 ?_
    refine x_iload_n d_307_34 rfl 3 rfl ?_
    obtain ⟨g9, h⟩ := gd_inv h
    refine y_iald d_307_35 kd_102 g9 ?_
    refine x_iand d_307_36 ?_
    obtain ⟨v11, q10, h⟩ := bd_inv h
    refine y_S1i (v := v11) (S1 := S) d_307_37 ml_11_331 (Nat.le_of_ble_eq_true rfl) (Nat.le_of_ble_eq_true rfl) (c_256 (by omega) q10) ?_
    refine x_aload_n d_307_40 rfl 0 rfl ?_
    refine x_iload_n d_307_41 rfl 1 rfl ?_
    obtain ⟨v13, q12, h⟩ := bd_inv h
    refine y_V1i (v := v13) (S1 := S) d_307_42 ml_11_454 kd_78 rfl (Nat.le_of_ble_eq_true rfl) (Nat.le_of_ble_eq_true rfl) (c_261 (by omega) q12) ?_
    refine x_aload_n d_307_45 rfl 0 rfl ?_
    refine y_getR d_307_46 fl_11_99 rfl kd_78 rr_78_60 ?_
    refine x_iload_n d_307_49 rfl 2 rfl ?_
    obtain ⟨g14, h⟩ := gd_inv h
    refine y_iald d_307_50 kd_102 g14 ?_
    refine x_iand d_307_51 ?_
    obtain ⟨v16, q15, h⟩ := bd_inv h
    refine y_S1i (v := v16) (S1 := S) d_307_52 ml_11_331 (Nat.le_of_ble_eq_true rfl) (Nat.le_of_ble_eq_true rfl) (c_256 (by omega) q15) ?_
    refine x_icmp_le (tgt := 62) d_307_55 rfl (fun c17 => ?_) (fun c17 => ?_)
    · replace h := ite_t c17 h
      refine x_iload_n d_307_62 rfl 2 rfl ?_
      refine x_istore_n (L1 := [(0, .ref 78), (1, .int z1), (2, .int w2), (3, .int w3)]) d_307_63 rfl (Nat.le_of_ble_eq_true rfl) rfl rfl ?_
      obtain ⟨v18, e19, h⟩ := lt_inv h
      refine y_iinc (L1 := [(0, .ref 78), (1, .int z1), (2, .int w2), (3, .int v18)]) e19 ic_1 d_307_64 3 rfl (Nat.le_of_ble_eq_true rfl) rfl rfl ?_
      refine x_goto (tgt := 17) d_307_67 rfl ?_
      exact ih w2 v18 _ h
    · replace h := ite_f c17 h
      refine x_iload_n d_307_58 rfl 3 rfl ?_
      refine x_goto (tgt := 63) d_307_59 rfl ?_
      refine x_istore_n (L1 := [(0, .ref 78), (1, .int z1), (2, .int w3), (3, .int w3)]) d_307_63 rfl (Nat.le_of_ble_eq_true rfl) rfl rfl ?_
      obtain ⟨v20, e21, h⟩ := lt_inv h
      refine y_iinc (L1 := [(0, .ref 78), (1, .int z1), (2, .int w3), (3, .int v20)]) e21 ic_1 d_307_64 3 rfl (Nat.le_of_ble_eq_true rfl) rfl rfl ?_
      refine x_goto (tgt := 17) d_307_67 rfl ?_
      exact ih w3 v20 _ h
set_option maxRecDepth 100000 in
set_option maxHeartbeats 4000000 in
theorem c_307 {X : Nat × (Nat → Int32)} {D F G : Nat} (hD : 2 ≤ D) {S : St} {p1 : Int32} {res : Int32 × St} (h : fM_busiest F G S p1 = some res) : Ek X (D) m307 0 [(0, .ref 78), (1, .int p1)] [] S (some (.int res.1)) res.2 := by
  obtain ⟨D, rfl⟩ : ∃ E, D = E + 1 := ⟨D - 1, by omega⟩
  unfold fM_busiest at h
  refine x_iload_n d_307_0 rfl 1 rfl ?_
  obtain ⟨v2, q1, h⟩ := bd_inv h
  refine y_S1i (v := v2) (S1 := S) d_307_1 ml_11_476 (Nat.le_of_ble_eq_true rfl) (Nat.le_of_ble_eq_true rfl) (c_264 (by omega) q1) ?_
  refine x_if_ne (tgt := 9) d_307_4 rfl (fun c3 => ?_) (fun c3 => ?_)
  · replace h := ite_f c3 h
    refine x_aload_n d_307_9 rfl 0 rfl ?_
    obtain ⟨S5, q4, h⟩ := bd_inv h
    refine y_V0v (S1 := S5) d_307_10 ml_11_464 kd_78 rfl (Nat.le_of_ble_eq_true rfl) (Nat.le_of_ble_eq_true rfl) (c_251 (by omega) q4) ?_
    refine x_iconst d_307_13 ic_0 ?_
    refine x_istore_n (L1 := [(0, .ref 78), (1, .int p1), (2, .int (0 : Int32))]) d_307_14 rfl (Nat.le_of_ble_eq_true rfl) rfl rfl ?_
    refine x_iconst d_307_15 ic_1 ?_
    refine x_istore_n (L1 := [(0, .ref 78), (1, .int p1), (2, .int (0 : Int32)), (3, .int (1 : Int32))]) d_307_16 rfl (Nat.le_of_ble_eq_true rfl) rfl rfl ?_
    refine T_307_17 (by omega)   F (0 : Int32) (1 : Int32) _ h
  · replace h := ite_t c3 h
    refine x_iconst d_307_7 ic_m1 ?_
    obtain rfl := Option.some.inj h
    exact x_ret (r := some (.int (-1 : Int32))) d_307_8 ⟨_, rfl, rfl⟩
/-! NinetyPlayersModel.blurs -/
def j_309_64 (F G : Nat) (S : St) (y1 : Int32) (y2 : Int32) (y3 : Int32) : Option (Int32) :=
  gd (inB y1 12) (if (((S.1 102 y1.toNatClampNeg) >>> (y2 &&& 31)) &&& (1 : Int32)) = (1 : Int32) then gd (inB y1 12) (if (((S.1 102 y1.toNatClampNeg) >>> (y3 &&& 31)) &&& (1 : Int32)) = (1 : Int32) then some (0 : Int32) else some (1 : Int32)) else some (1 : Int32))
def fM_blurs (F G : Nat) (S : St) (p1 : Int32) (p2 : Int32) (p3 : Int32) : Option (Int32) :=
  gd (inB p1 12) (if (((S.1 103 p1.toNatClampNeg) >>> (p2 &&& 31)) &&& (1 : Int32)) = 0 then some (0 : Int32) else gd (inB p1 12) (if (((S.1 103 p1.toNatClampNeg) >>> (p3 &&& 31)) &&& (1 : Int32)) = 0 then some (0 : Int32) else gd (inB ((10 : Int32) + p2) 41) (gd (inB ((10 : Int32) + p3) 41) (bd (fM_plain F G S ((S.1 101 ((10 : Int32) + p2).toNatClampNeg) - (S.1 101 ((10 : Int32) + p3).toNatClampNeg))) fun v8 => if v8 = (1 : Int32) then j_309_64 F G  S p1 p2 p3 else if v8 = (2 : Int32) then j_309_64 F G  S p1 p2 p3 else some (0 : Int32)))))
set_option maxRecDepth 100000 in
set_option maxHeartbeats 4000000 in
theorem c_309 {X : Nat × (Nat → Int32)} {D F G : Nat} (hD : 1 ≤ D) {S : St} {p1 : Int32} {p2 : Int32} {p3 : Int32} {res : Int32} (h : fM_blurs F G S p1 p2 p3 = some res) : Ek X (D) m309 0 [(0, .ref 78), (1, .int p1), (2, .int p2), (3, .int p3)] [] S (some (.int res)) S := by
  obtain ⟨D, rfl⟩ : ∃ E, D = E + 1 := ⟨D - 1, by omega⟩
  unfold fM_blurs at h
  have J64 : ∀ (y1 : Int32) (y2 : Int32) (y3 : Int32) (res : Int32), j_309_64 F G S y1 y2 y3 = some res → Ek X (D + 1) m309 64 [(0, .ref 78), (1, .int y1), (2, .int y2), (3, .int y3)] [] S (some (.int res)) S := by
    intro y1 y2 y3 res h
    unfold j_309_64 at h
    refine x_aload_n d_309_64 rfl 0 rfl ?_
    refine y_getR d_309_65 fl_11_99 rfl kd_78 rr_78_60 ?_
    refine x_iload_n d_309_68 rfl 1 rfl ?_
    obtain ⟨g11, h⟩ := gd_inv h
    refine y_iald d_309_69 kd_102 g11 ?_
    refine x_iload_n d_309_70 rfl 2 rfl ?_
    refine x_ishr d_309_71 ?_
    refine x_iconst d_309_72 ic_1 ?_
    refine x_iand d_309_73 ?_
    refine x_iconst d_309_74 ic_1 ?_
    refine x_icmp_ne (tgt := 92) d_309_75 rfl (fun c12 => ?_) (fun c12 => ?_)
    · replace h := ite_f c12 h
      refine x_iconst d_309_92 ic_1 ?_
      refine x_goto (tgt := 97) d_309_93 rfl ?_
      obtain rfl := Option.some.inj h
      exact x_ret (r := some (.int (1 : Int32))) d_309_97 ⟨_, rfl, rfl⟩
    · replace h := ite_t c12 h
      refine x_aload_n d_309_78 rfl 0 rfl ?_
      refine y_getR d_309_79 fl_11_99 rfl kd_78 rr_78_60 ?_
      refine x_iload_n d_309_82 rfl 1 rfl ?_
      obtain ⟨g13, h⟩ := gd_inv h
      refine y_iald d_309_83 kd_102 g13 ?_
      refine x_iload_n d_309_84 rfl 3 rfl ?_
      refine x_ishr d_309_85 ?_
      refine x_iconst d_309_86 ic_1 ?_
      refine x_iand d_309_87 ?_
      refine x_iconst d_309_88 ic_1 ?_
      refine x_icmp_eq (tgt := 96) d_309_89 rfl (fun c14 => ?_) (fun c14 => ?_)
      · replace h := ite_t c14 h
        refine x_iconst d_309_96 ic_0 ?_
        obtain rfl := Option.some.inj h
        exact x_ret (r := some (.int (0 : Int32))) d_309_97 ⟨_, rfl, rfl⟩
      · replace h := ite_f c14 h
        refine x_iconst d_309_92 ic_1 ?_
        refine x_goto (tgt := 97) d_309_93 rfl ?_
        obtain rfl := Option.some.inj h
        exact x_ret (r := some (.int (1 : Int32))) d_309_97 ⟨_, rfl, rfl⟩
  refine x_aload_n d_309_0 rfl 0 rfl ?_
  refine y_getR d_309_1 fl_11_102 rfl kd_78 rr_78_61 ?_
  refine x_iload_n d_309_4 rfl 1 rfl ?_
  obtain ⟨g1, h⟩ := gd_inv h
  refine y_iald d_309_5 kd_103 g1 ?_
  refine x_iload_n d_309_6 rfl 2 rfl ?_
  refine x_ishr d_309_7 ?_
  refine x_iconst d_309_8 ic_1 ?_
  refine x_iand d_309_9 ?_
  refine x_if_eq (tgt := 26) d_309_10 rfl (fun c2 => ?_) (fun c2 => ?_)
  · replace h := ite_t c2 h
    refine x_iconst d_309_26 ic_0 ?_
    obtain rfl := Option.some.inj h
    exact x_ret (r := some (.int (0 : Int32))) d_309_27 ⟨_, rfl, rfl⟩
  · replace h := ite_f c2 h
    refine x_aload_n d_309_13 rfl 0 rfl ?_
    refine y_getR d_309_14 fl_11_102 rfl kd_78 rr_78_61 ?_
    refine x_iload_n d_309_17 rfl 1 rfl ?_
    obtain ⟨g3, h⟩ := gd_inv h
    refine y_iald d_309_18 kd_103 g3 ?_
    refine x_iload_n d_309_19 rfl 3 rfl ?_
    refine x_ishr d_309_20 ?_
    refine x_iconst d_309_21 ic_1 ?_
    refine x_iand d_309_22 ?_
    refine x_if_ne (tgt := 28) d_309_23 rfl (fun c4 => ?_) (fun c4 => ?_)
    · replace h := ite_f c4 h
      refine x_aload_n d_309_28 rfl 0 rfl ?_
      refine y_getR d_309_29 fl_11_96 rfl kd_78 rr_78_59 ?_
      refine x_bipush d_309_32 bp_10 ?_
      refine x_iload_n d_309_34 rfl 2 rfl ?_
      refine x_iadd d_309_35 ?_
      obtain ⟨g5, h⟩ := gd_inv h
      refine y_iald d_309_36 kd_101 g5 ?_
      refine x_aload_n d_309_37 rfl 0 rfl ?_
      refine y_getR d_309_38 fl_11_96 rfl kd_78 rr_78_59 ?_
      refine x_bipush d_309_41 bp_10 ?_
      refine x_iload_n d_309_43 rfl 3 rfl ?_
      refine x_iadd d_309_44 ?_
      obtain ⟨g6, h⟩ := gd_inv h
      refine y_iald d_309_45 kd_101 g6 ?_
      refine x_isub d_309_46 ?_
      obtain ⟨v8, q7, h⟩ := bd_inv h
      refine y_S1i (v := v8) (S1 := S) d_309_47 ml_11_325 (Nat.le_of_ble_eq_true rfl) (Nat.le_of_ble_eq_true rfl) (c_255 (by omega) q7) ?_
      refine x_istore (L1 := [(0, .ref 78), (1, .int p1), (2, .int p2), (3, .int p3), (4, .int v8)]) d_309_50 (Nat.le_of_ble_eq_true rfl) rfl rfl ?_
      refine x_iload d_309_52 4 rfl ?_
      refine x_iconst d_309_54 ic_1 ?_
      refine x_icmp_eq (tgt := 64) d_309_55 rfl (fun c9 => ?_) (fun c9 => ?_)
      · replace h := ite_t c9 h
        refine y_pick (L1 := [(0, .ref 78), (1, .int p1), (2, .int p2), (3, .int p3)]) [0, 1, 2, 3] rfl ?_
        exact J64 p1 p2 p3 _ h
      · replace h := ite_f c9 h
        refine x_iload d_309_58 4 rfl ?_
        refine x_iconst d_309_60 ic_2 ?_
        refine x_icmp_ne (tgt := 96) d_309_61 rfl (fun c10 => ?_) (fun c10 => ?_)
        · replace h := ite_f c10 h
          refine x_iconst d_309_96 ic_0 ?_
          obtain rfl := Option.some.inj h
          exact x_ret (r := some (.int (0 : Int32))) d_309_97 ⟨_, rfl, rfl⟩
        · replace h := ite_t c10 h
          refine y_pick (L1 := [(0, .ref 78), (1, .int p1), (2, .int p2), (3, .int p3)]) [0, 1, 2, 3] rfl ?_
          exact J64 p1 p2 p3 _ h
    · replace h := ite_t c4 h
      refine x_iconst d_309_26 ic_0 ?_
      obtain rfl := Option.some.inj h
      exact x_ret (r := some (.int (0 : Int32))) d_309_27 ⟨_, rfl, rfl⟩
/-! NinetyPlayersModel.blur -/
def b_308_33 (F G : Nat) (S : St) (z2 : Int32) (z3 : Int32) (k59 : Int32 → Option (Int32 × St)) (rec : Int32 → Int32 → Option (Int32 × St)) (w1 : Int32) (w4 : Int32) : Option (Int32 × St) :=
  if z3 ≤ w4 then k59 w1 else bd (fM_blurs F G S z2 z3 w4) fun v9 => bd (fM_truth F G S v9) fun v11 => lt (w1 + v11) fun v12 => lt (w4 + 1) fun v14 => rec v12 v14
def b_308_22 (F G : Nat) (S : St) (z2 : Int32) (k65 : Int32 → Option (Int32 × St)) (rec : Int32 → Int32 → Option (Int32 × St)) (w1 : Int32) (w3 : Int32) : Option (Int32 × St) :=
  if (S.1 78 48) ≤ w3 then k65 w1 else fx2 (b_308_33 F G S z2 w3 (fun v16 => lt (w3 + 1) fun v17 => rec v16 v17)) F w1 (0 : Int32)
def b_308_12 (F G : Nat) (S : St) (rec : Int32 → Int32 → Option (Int32 × St)) (w1 : Int32) (w2 : Int32) : Option (Int32 × St) :=
  if (S.1 78 46) ≤ w2 then some (w1, S) else fx2 (b_308_22 F G S w2 (fun v19 => lt (w2 + 1) fun v20 => rec v19 v20)) F w1 (0 : Int32)
def fM_blur (F G : Nat) (S : St) : Option (Int32 × St) :=
  bd (fM_fill F G S ) fun S2 => bd (fM_laySound F G S2 ) fun S4 => fx2 (b_308_12 F G S4) F (0 : Int32) (0 : Int32)
set_option maxRecDepth 100000 in
set_option maxHeartbeats 4000000 in
theorem T_308_33 {X : Nat × (Nat → Int32)} {D F G : Nat} (hD : 3 ≤ D + 1) {S : St} {z2 : Int32} {z3 : Int32} {k59 : Int32 → Option (Int32 × St)} (hk59 : ∀ (u1 : Int32) (res : Int32 × St), k59 u1 = some res → Ek X (D + 1) m308 59 [(0, .ref 78), (1, .int u1), (2, .int z2), (3, .int z3)] [] S (some (.int res.1)) res.2) : ∀ (f : Nat) (w1 : Int32) (w4 : Int32) (res : Int32 × St), fx2 (b_308_33 F G S z2 z3 k59 ) f w1 w4 = some res → Ek X (D + 1) m308 33 [(0, .ref 78), (1, .int w1), (2, .int z2), (3, .int z3), (4, .int w4)] [] S (some (.int res.1)) res.2 := by
  refine fx2_ind ?_
  intro rec ih w1 w4 res h
  unfold b_308_33 at h
  refine x_iload d_308_33 4 rfl ?_
  refine x_iload_n d_308_35 rfl 3 rfl ?_
  refine x_icmp_ge (tgt := 59) d_308_36 rfl (fun c7 => ?_) (fun c7 => ?_)
  · replace h := ite_t c7 h
    refine y_pick (L1 := [(0, .ref 78), (1, .int w1), (2, .int z2), (3, .int z3)]) [0, 1, 2, 3] rfl ?_
    exact hk59 w1 _ h
  · replace h := ite_f c7 h
    refine x_iload_n d_308_39 rfl 1 rfl ?_
    refine x_aload_n d_308_40 rfl 0 rfl ?_
    refine x_iload_n d_308_41 rfl 2 rfl ?_
    refine x_iload_n d_308_42 rfl 3 rfl ?_
    refine x_iload d_308_43 4 rfl ?_
    obtain ⟨v9, q8, h⟩ := bd_inv h
    refine y_V3i (v := v9) (S1 := S) d_308_45 ml_11_530 kd_78 rfl (Nat.le_of_ble_eq_true rfl) (Nat.le_of_ble_eq_true rfl) (c_309 (by omega) q8) ?_
    obtain ⟨v11, q10, h⟩ := bd_inv h
    refine y_S1i (v := v11) (S1 := S) d_308_48 ml_11_318 (Nat.le_of_ble_eq_true rfl) (Nat.le_of_ble_eq_true rfl) (c_229 (by omega) q10) ?_
    refine x_iadd d_308_51 ?_
    obtain ⟨v12, e13, h⟩ := lt_inv h
    refine y_istore_n (L1 := [(0, .ref 78), (1, .int v12), (2, .int z2), (3, .int z3), (4, .int w4)]) e13 d_308_52 rfl (Nat.le_of_ble_eq_true rfl) rfl rfl ?_
    obtain ⟨v14, e15, h⟩ := lt_inv h
    refine y_iinc (L1 := [(0, .ref 78), (1, .int v12), (2, .int z2), (3, .int z3), (4, .int v14)]) e15 ic_1 d_308_53 4 rfl (Nat.le_of_ble_eq_true rfl) rfl rfl ?_
    refine x_goto (tgt := 33) d_308_56 rfl ?_
    exact ih v12 v14 _ h
set_option maxRecDepth 100000 in
set_option maxHeartbeats 4000000 in
theorem T_308_22 {X : Nat × (Nat → Int32)} {D F G : Nat} (hD : 3 ≤ D + 1) {S : St} {z2 : Int32} {k65 : Int32 → Option (Int32 × St)} (hk65 : ∀ (u1 : Int32) (res : Int32 × St), k65 u1 = some res → Ek X (D + 1) m308 65 [(0, .ref 78), (1, .int u1), (2, .int z2)] [] S (some (.int res.1)) res.2) : ∀ (f : Nat) (w1 : Int32) (w3 : Int32) (res : Int32 × St), fx2 (b_308_22 F G S z2 k65 ) f w1 w3 = some res → Ek X (D + 1) m308 22 [(0, .ref 78), (1, .int w1), (2, .int z2), (3, .int w3)] [] S (some (.int res.1)) res.2 := by
  refine fx2_ind ?_
  intro rec ih w1 w3 res h
  unfold b_308_22 at h
  refine x_iload_n d_308_22 rfl 3 rfl ?_
  refine x_aload_n d_308_23 rfl 0 rfl ?_
  refine y_getI d_308_24 fl_11_322 rfl kd_78 ?_
  refine x_icmp_ge (tgt := 65) d_308_27 rfl (fun c6 => ?_) (fun c6 => ?_)
  · replace h := ite_t c6 h
    refine y_pick (L1 := [(0, .ref 78), (1, .int w1), (2, .int z2)]) [0, 1, 2] rfl ?_
    exact hk65 w1 _ h
  · replace h := ite_f c6 h
    refine x_iconst d_308_30 ic_0 ?_
    refine x_istore (L1 := [(0, .ref 78), (1, .int w1), (2, .int z2), (3, .int w3), (4, .int (0 : Int32))]) d_308_31 (Nat.le_of_ble_eq_true rfl) rfl rfl ?_
    refine T_308_33 (by omega)  ?_ F w1 (0 : Int32) _ h
    · intro v16 res h
      obtain ⟨v17, e18, h⟩ := lt_inv h
      refine y_iinc (L1 := [(0, .ref 78), (1, .int v16), (2, .int z2), (3, .int v17)]) e18 ic_1 d_308_59 3 rfl (Nat.le_of_ble_eq_true rfl) rfl rfl ?_
      refine x_goto (tgt := 22) d_308_62 rfl ?_
      exact ih v16 v17 _ h
set_option maxRecDepth 100000 in
set_option maxHeartbeats 4000000 in
theorem T_308_12 {X : Nat × (Nat → Int32)} {D F G : Nat} (hD : 3 ≤ D + 1) {S : St} : ∀ (f : Nat) (w1 : Int32) (w2 : Int32) (res : Int32 × St), fx2 (b_308_12 F G S ) f w1 w2 = some res → Ek X (D + 1) m308 12 [(0, .ref 78), (1, .int w1), (2, .int w2)] [] S (some (.int res.1)) res.2 := by
  refine fx2_ind ?_
  intro rec ih w1 w2 res h
  unfold b_308_12 at h
  refine x_iload_n d_308_12 rfl 2 rfl ?_
  refine x_aload_n d_308_13 rfl 0 rfl ?_
  refine y_getI d_308_14 fl_11_78 rfl kd_78 ?_
  refine x_icmp_ge (tgt := 71) d_308_17 rfl (fun c5 => ?_) (fun c5 => ?_)
  · replace h := ite_t c5 h
    refine x_iload_n d_308_71 rfl 1 rfl ?_
    obtain rfl := Option.some.inj h
    exact x_ret (r := some (.int w1)) d_308_72 ⟨_, rfl, rfl⟩
  · replace h := ite_f c5 h
    refine x_iconst d_308_20 ic_0 ?_
    refine x_istore_n (L1 := [(0, .ref 78), (1, .int w1), (2, .int w2), (3, .int (0 : Int32))]) d_308_21 rfl (Nat.le_of_ble_eq_true rfl) rfl rfl ?_
    refine T_308_22 (by omega)  ?_ F w1 (0 : Int32) _ h
    · intro v19 res h
      obtain ⟨v20, e21, h⟩ := lt_inv h
      refine y_iinc (L1 := [(0, .ref 78), (1, .int v19), (2, .int v20)]) e21 ic_1 d_308_65 2 rfl (Nat.le_of_ble_eq_true rfl) rfl rfl ?_
      refine x_goto (tgt := 12) d_308_68 rfl ?_
      exact ih v19 v20 _ h
set_option maxRecDepth 100000 in
set_option maxHeartbeats 4000000 in
theorem c_308 {X : Nat × (Nat → Int32)} {D F G : Nat} (hD : 3 ≤ D) {S : St} {res : Int32 × St} (h : fM_blur F G S  = some res) : Ek X (D) m308 0 [(0, .ref 78)] [] S (some (.int res.1)) res.2 := by
  obtain ⟨D, rfl⟩ : ∃ E, D = E + 1 := ⟨D - 1, by omega⟩
  unfold fM_blur at h
  refine x_aload_n d_308_0 rfl 0 rfl ?_
  obtain ⟨S2, q1, h⟩ := bd_inv h
  refine y_V0v (S1 := S2) d_308_1 ml_11_464 kd_78 rfl (Nat.le_of_ble_eq_true rfl) (Nat.le_of_ble_eq_true rfl) (c_251 (by omega) q1) ?_
  refine x_aload_n d_308_4 rfl 0 rfl ?_
  obtain ⟨S4, q3, h⟩ := bd_inv h
  refine y_V0v (S1 := S4) d_308_5 ml_11_479 kd_78 rfl (Nat.le_of_ble_eq_true rfl) (Nat.le_of_ble_eq_true rfl) (c_266 (by omega) q3) ?_
  refine x_iconst d_308_8 ic_0 ?_
  refine x_istore_n (L1 := [(0, .ref 78), (1, .int (0 : Int32))]) d_308_9 rfl (Nat.le_of_ble_eq_true rfl) rfl rfl ?_
  refine x_iconst d_308_10 ic_0 ?_
  refine x_istore_n (L1 := [(0, .ref 78), (1, .int (0 : Int32)), (2, .int (0 : Int32))]) d_308_11 rfl (Nat.le_of_ble_eq_true rfl) rfl rfl ?_
  refine T_308_12 (by omega)   F (0 : Int32) (0 : Int32) _ h
/-! NinetyPlayersModel.openAt -/
def b_311_36 (F G : Nat) (S : St) (z1 : Int32) (z2 : Int32) (z3 : Int32) (k104 : Int32 → Option (Int32)) (rec : Int32 → Int32 → Option (Int32)) (w4 : Int32) (w5 : Int32) : Option (Int32) :=
  if (S.1 78 48) ≤ w5 then k104 w4 else if w4 = 0 then k104 w4 else gd (inB z1 12) (if (((S.1 103 z1.toNatClampNeg) >>> (w5 &&& 31)) &&& (1 : Int32)) = 0 then lt (w5 + 1) fun v8 => rec (1 : Int32) v8 else gd (inB ((30 : Int32) + w5) 41) (gd (inB ((30 : Int32) + z3) 41) (if (S.1 78 52) < ((S.1 101 ((30 : Int32) + w5).toNatClampNeg) - (S.1 101 ((30 : Int32) + z3).toNatClampNeg)) then lt (w5 + 1) fun v13 => rec (0 : Int32) v13 else lt (w5 + 1) fun v15 => rec (1 : Int32) v15)))
def j_311_104 (F G : Nat) (S : St) (z1 : Int32) (rec : Int32 → Int32 → Option (Int32)) (_ : St) (y2 : Int32) (y3 : Int32) (y4 : Int32) : Option (Int32) :=
  bd (fM_truth F G S y4) fun v20 => lt (y2 ||| (v20 <<< (y3 &&& 31))) fun v21 => lt (y3 + 1) fun v23 => rec v21 v23
def b_311_4 (F G : Nat) (S : St) (z1 : Int32) (rec : Int32 → Int32 → Option (Int32)) (w2 : Int32) (w3 : Int32) : Option (Int32) :=
  if (S.1 78 48) ≤ w3 then some w2 else gd (inB z1 12) (if (((S.1 103 z1.toNatClampNeg) >>> (w3 &&& 31)) &&& (1 : Int32)) = (1 : Int32) then fx2 (b_311_36 F G S z1 w2 w3 (fun v18 => j_311_104 F G S z1 rec  S w2 w3 v18)) F (1 : Int32) (0 : Int32) else fx2 (b_311_36 F G S z1 w2 w3 (fun v17 => j_311_104 F G S z1 rec  S w2 w3 v17)) F (0 : Int32) (0 : Int32))
def fM_openAt (F G : Nat) (S : St) (p1 : Int32) : Option (Int32) :=
  fx2 (b_311_4 F G S p1) F (0 : Int32) (0 : Int32)
set_option maxRecDepth 100000 in
set_option maxHeartbeats 4000000 in
theorem T_311_36 {X : Nat × (Nat → Int32)} {D F G : Nat} (hD : 1 ≤ D + 1) {S : St} {z1 : Int32} {z2 : Int32} {z3 : Int32} {k104 : Int32 → Option (Int32)} (hk104 : ∀ (u4 : Int32) (res : Int32), k104 u4 = some res → Ek X (D + 1) m311 104 [(0, .ref 78), (1, .int z1), (2, .int z2), (3, .int z3), (4, .int u4)] [] S (some (.int res)) S) : ∀ (f : Nat) (w4 : Int32) (w5 : Int32) (res : Int32), fx2 (b_311_36 F G S z1 z2 z3 k104 ) f w4 w5 = some res → Ek X (D + 1) m311 36 [(0, .ref 78), (1, .int z1), (2, .int z2), (3, .int z3), (4, .int w4), (5, .int w5)] [] S (some (.int res)) S := by
  refine fx2_ind ?_
  intro rec ih w4 w5 res h
  unfold b_311_36 at h
  refine x_iload d_311_36 5 rfl ?_
  refine x_aload_n d_311_38 rfl 0 rfl ?_
  refine y_getI d_311_39 fl_11_322 rfl kd_78 ?_
  refine x_icmp_ge (tgt := 104) d_311_42 rfl (fun c4 => ?_) (fun c4 => ?_)
  · replace h := ite_t c4 h
    refine y_pick (L1 := [(0, .ref 78), (1, .int z1), (2, .int z2), (3, .int z3), (4, .int w4)]) [0, 1, 2, 3, 4] rfl ?_
    exact hk104 w4 _ h
  · replace h := ite_f c4 h
    refine x_iload d_311_45 4 rfl ?_
    refine x_if_eq (tgt := 104) d_311_47 rfl (fun c5 => ?_) (fun c5 => ?_)
    · replace h := ite_t c5 h
      refine y_pick (L1 := [(0, .ref 78), (1, .int z1), (2, .int z2), (3, .int z3), (4, .int w4)]) [0, 1, 2, 3, 4] rfl ?_
      exact hk104 w4 _ h
    · replace h := ite_f c5 h
      refine x_aload_n d_311_50 rfl 0 rfl ?_
      refine y_getR d_311_51 fl_11_102 rfl kd_78 rr_78_61 ?_
      refine x_iload_n d_311_54 rfl 1 rfl ?_
      obtain ⟨g6, h⟩ := gd_inv h
      refine y_iald d_311_55 kd_103 g6 ?_
      refine x_iload d_311_56 5 rfl ?_
      refine x_ishr d_311_58 ?_
      refine x_iconst d_311_59 ic_1 ?_
      refine x_iand d_311_60 ?_
      refine x_if_eq (tgt := 91) d_311_61 rfl (fun c7 => ?_) (fun c7 => ?_)
      · replace h := ite_t c7 h
        refine x_iconst d_311_91 ic_1 ?_
        refine x_goto (tgt := 96) d_311_92 rfl ?_
        refine x_istore (L1 := [(0, .ref 78), (1, .int z1), (2, .int z2), (3, .int z3), (4, .int (1 : Int32)), (5, .int w5)]) d_311_96 (Nat.le_of_ble_eq_true rfl) rfl rfl ?_
        obtain ⟨v8, e9, h⟩ := lt_inv h
        refine y_iinc (L1 := [(0, .ref 78), (1, .int z1), (2, .int z2), (3, .int z3), (4, .int (1 : Int32)), (5, .int v8)]) e9 ic_1 d_311_98 5 rfl (Nat.le_of_ble_eq_true rfl) rfl rfl ?_
        refine x_goto (tgt := 36) d_311_101 rfl ?_
        exact ih (1 : Int32) v8 _ h
      · replace h := ite_f c7 h
        refine x_aload_n d_311_64 rfl 0 rfl ?_
        refine y_getR d_311_65 fl_11_96 rfl kd_78 rr_78_59 ?_
        refine x_bipush d_311_68 bp_30 ?_
        refine x_iload d_311_70 5 rfl ?_
        refine x_iadd d_311_72 ?_
        obtain ⟨g10, h⟩ := gd_inv h
        refine y_iald d_311_73 kd_101 g10 ?_
        refine x_aload_n d_311_74 rfl 0 rfl ?_
        refine y_getR d_311_75 fl_11_96 rfl kd_78 rr_78_59 ?_
        refine x_bipush d_311_78 bp_30 ?_
        refine x_iload_n d_311_80 rfl 3 rfl ?_
        refine x_iadd d_311_81 ?_
        obtain ⟨g11, h⟩ := gd_inv h
        refine y_iald d_311_82 kd_101 g11 ?_
        refine x_isub d_311_83 ?_
        refine x_aload_n d_311_84 rfl 0 rfl ?_
        refine y_getI d_311_85 fl_11_90 rfl kd_78 ?_
        refine x_icmp_gt (tgt := 95) d_311_88 rfl (fun c12 => ?_) (fun c12 => ?_)
        · replace h := ite_t c12 h
          refine x_iconst d_311_95 ic_0 ?_
          refine x_istore (L1 := [(0, .ref 78), (1, .int z1), (2, .int z2), (3, .int z3), (4, .int (0 : Int32)), (5, .int w5)]) d_311_96 (Nat.le_of_ble_eq_true rfl) rfl rfl ?_
          obtain ⟨v13, e14, h⟩ := lt_inv h
          refine y_iinc (L1 := [(0, .ref 78), (1, .int z1), (2, .int z2), (3, .int z3), (4, .int (0 : Int32)), (5, .int v13)]) e14 ic_1 d_311_98 5 rfl (Nat.le_of_ble_eq_true rfl) rfl rfl ?_
          refine x_goto (tgt := 36) d_311_101 rfl ?_
          exact ih (0 : Int32) v13 _ h
        · replace h := ite_f c12 h
          refine x_iconst d_311_91 ic_1 ?_
          refine x_goto (tgt := 96) d_311_92 rfl ?_
          refine x_istore (L1 := [(0, .ref 78), (1, .int z1), (2, .int z2), (3, .int z3), (4, .int (1 : Int32)), (5, .int w5)]) d_311_96 (Nat.le_of_ble_eq_true rfl) rfl rfl ?_
          obtain ⟨v15, e16, h⟩ := lt_inv h
          refine y_iinc (L1 := [(0, .ref 78), (1, .int z1), (2, .int z2), (3, .int z3), (4, .int (1 : Int32)), (5, .int v15)]) e16 ic_1 d_311_98 5 rfl (Nat.le_of_ble_eq_true rfl) rfl rfl ?_
          refine x_goto (tgt := 36) d_311_101 rfl ?_
          exact ih (1 : Int32) v15 _ h
set_option maxRecDepth 100000 in
set_option maxHeartbeats 4000000 in
theorem T_311_4 {X : Nat × (Nat → Int32)} {D F G : Nat} (hD : 1 ≤ D + 1) {S : St} {z1 : Int32} : ∀ (f : Nat) (w2 : Int32) (w3 : Int32) (res : Int32), fx2 (b_311_4 F G S z1 ) f w2 w3 = some res → Ek X (D + 1) m311 4 [(0, .ref 78), (1, .int z1), (2, .int w2), (3, .int w3)] [] S (some (.int res)) S := by
  refine fx2_ind ?_
  intro rec ih w2 w3 res h
  unfold b_311_4 at h
  have J104 : ∀ (y2 : Int32) (y3 : Int32) (y4 : Int32) (res : Int32), j_311_104 F G S z1 rec S y2 y3 y4 = some res → Ek X (D + 1) m311 104 [(0, .ref 78), (1, .int z1), (2, .int y2), (3, .int y3), (4, .int y4)] [] S (some (.int res)) S := by
    intro y2 y3 y4 res h
    unfold j_311_104 at h
    refine x_iload_n d_311_104 rfl 2 rfl ?_
    refine x_iload d_311_105 4 rfl ?_
    obtain ⟨v20, q19, h⟩ := bd_inv h
    refine y_S1i (v := v20) (S1 := S) d_311_107 ml_11_318 (Nat.le_of_ble_eq_true rfl) (Nat.le_of_ble_eq_true rfl) (c_229 (by omega) q19) ?_
    refine x_iload_n d_311_110 rfl 3 rfl ?_
    refine x_ishl d_311_111 ?_
    refine x_ior d_311_112 ?_
    obtain ⟨v21, e22, h⟩ := lt_inv h
    refine y_istore_n (L1 := [(0, .ref 78), (1, .int z1), (2, .int v21), (3, .int y3), (4, .int y4)]) e22 d_311_113 rfl (Nat.le_of_ble_eq_true rfl) rfl rfl ?_
    obtain ⟨v23, e24, h⟩ := lt_inv h
    refine y_iinc (L1 := [(0, .ref 78), (1, .int z1), (2, .int v21), (3, .int v23), (4, .int y4)]) e24 ic_1 d_311_114 3 rfl (Nat.le_of_ble_eq_true rfl) rfl rfl ?_
    refine x_goto (tgt := 4) d_311_117 rfl ?_
    refine y_pick (L1 := [(0, .ref 78), (1, .int z1), (2, .int v21), (3, .int v23)]) [0, 1, 2, 3] rfl ?_
    exact ih v21 v23 _ h
  refine x_iload_n d_311_4 rfl 3 rfl ?_
  refine x_aload_n d_311_5 rfl 0 rfl ?_
  refine y_getI d_311_6 fl_11_322 rfl kd_78 ?_
  refine x_icmp_ge (tgt := 120) d_311_9 rfl (fun c1 => ?_) (fun c1 => ?_)
  · replace h := ite_t c1 h
    refine x_iload_n d_311_120 rfl 2 rfl ?_
    obtain rfl := Option.some.inj h
    exact x_ret (r := some (.int w2)) d_311_121 ⟨_, rfl, rfl⟩
  · replace h := ite_f c1 h
    refine x_aload_n d_311_12 rfl 0 rfl ?_
    refine y_getR d_311_13 fl_11_102 rfl kd_78 rr_78_61 ?_
    refine x_iload_n d_311_16 rfl 1 rfl ?_
    obtain ⟨g2, h⟩ := gd_inv h
    refine y_iald d_311_17 kd_103 g2 ?_
    refine x_iload_n d_311_18 rfl 3 rfl ?_
    refine x_ishr d_311_19 ?_
    refine x_iconst d_311_20 ic_1 ?_
    refine x_iand d_311_21 ?_
    refine x_iconst d_311_22 ic_1 ?_
    refine x_icmp_ne (tgt := 30) d_311_23 rfl (fun c3 => ?_) (fun c3 => ?_)
    · replace h := ite_f c3 h
      refine x_iconst d_311_30 ic_0 ?_
      refine x_istore (L1 := [(0, .ref 78), (1, .int z1), (2, .int w2), (3, .int w3), (4, .int (0 : Int32))]) d_311_31 (Nat.le_of_ble_eq_true rfl) rfl rfl ?_
      refine x_iconst d_311_33 ic_0 ?_
      refine x_istore (L1 := [(0, .ref 78), (1, .int z1), (2, .int w2), (3, .int w3), (4, .int (0 : Int32)), (5, .int (0 : Int32))]) d_311_34 (Nat.le_of_ble_eq_true rfl) rfl rfl ?_
      refine T_311_36 (by omega)  ?_ F (0 : Int32) (0 : Int32) _ h
      · intro v17 res h
        exact J104 w2 w3 v17 _ h
    · replace h := ite_t c3 h
      refine x_iconst d_311_26 ic_1 ?_
      refine x_goto (tgt := 31) d_311_27 rfl ?_
      refine x_istore (L1 := [(0, .ref 78), (1, .int z1), (2, .int w2), (3, .int w3), (4, .int (1 : Int32))]) d_311_31 (Nat.le_of_ble_eq_true rfl) rfl rfl ?_
      refine x_iconst d_311_33 ic_0 ?_
      refine x_istore (L1 := [(0, .ref 78), (1, .int z1), (2, .int w2), (3, .int w3), (4, .int (1 : Int32)), (5, .int (0 : Int32))]) d_311_34 (Nat.le_of_ble_eq_true rfl) rfl rfl ?_
      refine T_311_36 (by omega)  ?_ F (1 : Int32) (0 : Int32) _ h
      · intro v18 res h
        exact J104 w2 w3 v18 _ h
set_option maxRecDepth 100000 in
set_option maxHeartbeats 4000000 in
theorem c_311 {X : Nat × (Nat → Int32)} {D F G : Nat} (hD : 1 ≤ D) {S : St} {p1 : Int32} {res : Int32} (h : fM_openAt F G S p1 = some res) : Ek X (D) m311 0 [(0, .ref 78), (1, .int p1)] [] S (some (.int res)) S := by
  obtain ⟨D, rfl⟩ : ∃ E, D = E + 1 := ⟨D - 1, by omega⟩
  unfold fM_openAt at h
  refine x_iconst d_311_0 ic_0 ?_
  refine x_istore_n (L1 := [(0, .ref 78), (1, .int p1), (2, .int (0 : Int32))]) d_311_1 rfl (Nat.le_of_ble_eq_true rfl) rfl rfl ?_
  refine x_iconst d_311_2 ic_0 ?_
  refine x_istore_n (L1 := [(0, .ref 78), (1, .int p1), (2, .int (0 : Int32)), (3, .int (0 : Int32))]) d_311_3 rfl (Nat.le_of_ble_eq_true rfl) rfl rfl ?_
  refine T_311_4 (by omega)   F (0 : Int32) (0 : Int32) _ h
/-! NinetyPlayersModel.open -/
def fM_open (F G : Nat) (S : St) (p1 : Int32) : Option (Int32 × St) :=
  bd (fM_isBeat F G S p1) fun v2 => if v2 = 0 then some ((-1 : Int32), S) else bd (fM_fill F G S ) fun S5 => bd (fM_laySound F G S5 ) fun S7 => bd (fM_openAt F G S7 p1) fun v9 => some (v9, S7)
set_option maxRecDepth 100000 in
set_option maxHeartbeats 4000000 in
theorem c_310 {X : Nat × (Nat → Int32)} {D F G : Nat} (hD : 3 ≤ D) {S : St} {p1 : Int32} {res : Int32 × St} (h : fM_open F G S p1 = some res) : Ek X (D) m310 0 [(0, .ref 78), (1, .int p1)] [] S (some (.int res.1)) res.2 := by
  obtain ⟨D, rfl⟩ : ∃ E, D = E + 1 := ⟨D - 1, by omega⟩
  unfold fM_open at h
  refine x_aload_n d_310_0 rfl 0 rfl ?_
  refine x_iload_n d_310_1 rfl 1 rfl ?_
  obtain ⟨v2, q1, h⟩ := bd_inv h
  refine y_V1i (v := v2) (S1 := S) d_310_2 ml_11_473 kd_78 rfl (Nat.le_of_ble_eq_true rfl) (Nat.le_of_ble_eq_true rfl) (c_263 (by omega) q1) ?_
  refine x_if_ne (tgt := 10) d_310_5 rfl (fun c3 => ?_) (fun c3 => ?_)
  · replace h := ite_f c3 h
    refine x_aload_n d_310_10 rfl 0 rfl ?_
    obtain ⟨S5, q4, h⟩ := bd_inv h
    refine y_V0v (S1 := S5) d_310_11 ml_11_464 kd_78 rfl (Nat.le_of_ble_eq_true rfl) (Nat.le_of_ble_eq_true rfl) (c_251 (by omega) q4) ?_
    refine x_aload_n d_310_14 rfl 0 rfl ?_
    obtain ⟨S7, q6, h⟩ := bd_inv h
    refine y_V0v (S1 := S7) d_310_15 ml_11_479 kd_78 rfl (Nat.le_of_ble_eq_true rfl) (Nat.le_of_ble_eq_true rfl) (c_266 (by omega) q6) ?_
    refine x_aload_n d_310_18 rfl 0 rfl ?_
    refine x_iload_n d_310_19 rfl 1 rfl ?_
    obtain ⟨v9, q8, h⟩ := bd_inv h
    refine y_V1i (v := v9) (S1 := S7) d_310_20 ml_11_533 kd_78 rfl (Nat.le_of_ble_eq_true rfl) (Nat.le_of_ble_eq_true rfl) (c_311 (by omega) q8) ?_
    obtain rfl := Option.some.inj h
    exact x_ret (r := some (.int v9)) d_310_23 ⟨_, rfl, rfl⟩
  · replace h := ite_t c3 h
    refine x_iconst d_310_8 ic_m1 ?_
    obtain rfl := Option.some.inj h
    exact x_ret (r := some (.int (-1 : Int32))) d_310_9 ⟨_, rfl, rfl⟩
/-! NinetyPlayersModel.tunes -/
def j_313_33 (F G : Nat) (S : St) (rec : Int32 → Int32 → Option (Int32)) (_ : St) (y2 : Int32) (s0 : Int32) (s1 : Int32) : Option (Int32) :=
  bd (fM_truth F G S s1) fun v6 => lt (s0 ||| (v6 <<< (y2 &&& 31))) fun v7 => lt (y2 + 1) fun v9 => rec v7 v9
def b_313_4 (F G : Nat) (S : St) (rec : Int32 → Int32 → Option (Int32)) (w1 : Int32) (w2 : Int32) : Option (Int32) :=
  if (S.1 78 48) ≤ w2 then some w1 else gd (inB w2 10) (gd (inB (S.1 95 w2.toNatClampNeg) 4) (if (S.1 94 (S.1 95 w2.toNatClampNeg).toNatClampNeg) = (2 : Int32) then j_313_33 F G S rec  S w2 w1 (1 : Int32) else j_313_33 F G S rec  S w2 w1 (0 : Int32)))
def fM_tunes (F G : Nat) (S : St) : Option (Int32) :=
  fx2 (b_313_4 F G S) F (0 : Int32) (0 : Int32)
set_option maxRecDepth 100000 in
set_option maxHeartbeats 4000000 in
theorem T_313_4 {X : Nat × (Nat → Int32)} {D F G : Nat} (hD : 1 ≤ D + 1) {S : St} : ∀ (f : Nat) (w1 : Int32) (w2 : Int32) (res : Int32), fx2 (b_313_4 F G S ) f w1 w2 = some res → Ek X (D + 1) m313 4 [(0, .ref 78), (1, .int w1), (2, .int w2)] [] S (some (.int res)) S := by
  refine fx2_ind ?_
  intro rec ih w1 w2 res h
  unfold b_313_4 at h
  have J33 : ∀ (y2 : Int32) (s0 : Int32) (s1 : Int32) (res : Int32), j_313_33 F G S rec S y2 s0 s1 = some res → Ek X (D + 1) m313 33 [(0, .ref 78), (2, .int y2)] [.int s1, .int s0] S (some (.int res)) S := by
    intro y2 s0 s1 res h
    unfold j_313_33 at h
    obtain ⟨v6, q5, h⟩ := bd_inv h
    refine y_S1i (v := v6) (S1 := S) d_313_33 ml_11_318 (Nat.le_of_ble_eq_true rfl) (Nat.le_of_ble_eq_true rfl) (c_229 (by omega) q5) ?_
    refine x_iload_n d_313_36 rfl 1 rfl ?_
    refine x_ishl d_313_37 ?_
    refine x_ior d_313_38 ?_
    obtain ⟨v7, e8, h⟩ := lt_inv h
    refine y_istore_n (L1 := [(0, .ref 78), (1, .int v7), (2, .int y2)]) e8 d_313_39 rfl (Nat.le_of_ble_eq_true rfl) rfl rfl ?_
    obtain ⟨v9, e10, h⟩ := lt_inv h
    refine y_iinc (L1 := [(0, .ref 78), (1, .int v7), (2, .int v9)]) e10 ic_1 d_313_40 2 rfl (Nat.le_of_ble_eq_true rfl) rfl rfl ?_
    refine x_goto (tgt := 4) d_313_43 rfl ?_
    exact ih v7 v9 _ h
  refine x_iload_n d_313_4 rfl 2 rfl ?_
  refine x_aload_n d_313_5 rfl 0 rfl ?_
  refine y_getI d_313_6 fl_11_322 rfl kd_78 ?_
  refine x_icmp_ge (tgt := 46) d_313_9 rfl (fun c1 => ?_) (fun c1 => ?_)
  · replace h := ite_t c1 h
    refine x_iload_n d_313_46 rfl 1 rfl ?_
    obtain rfl := Option.some.inj h
    exact x_ret (r := some (.int w1)) d_313_47 ⟨_, rfl, rfl⟩
  · replace h := ite_f c1 h
    refine x_iload_n d_313_12 rfl 1 rfl ?_
    refine x_aload_n d_313_13 rfl 0 rfl ?_
    refine y_getR d_313_14 fl_11_60 rfl kd_78 rr_78_33 ?_
    refine x_aload_n d_313_17 rfl 0 rfl ?_
    refine y_getR d_313_18 fl_11_63 rfl kd_78 rr_78_34 ?_
    refine x_iload_n d_313_21 rfl 2 rfl ?_
    obtain ⟨g2, h⟩ := gd_inv h
    refine y_iald d_313_22 kd_95 g2 ?_
    obtain ⟨g3, h⟩ := gd_inv h
    refine y_iald d_313_23 kd_94 g3 ?_
    refine x_iconst d_313_24 ic_2 ?_
    refine x_icmp_ne (tgt := 32) d_313_25 rfl (fun c4 => ?_) (fun c4 => ?_)
    · replace h := ite_f c4 h
      refine x_iconst d_313_32 ic_0 ?_
      refine y_pick (L1 := [(0, .ref 78), (2, .int w2)]) [0, 2] rfl ?_
      exact J33 w2 w1 (0 : Int32) _ h
    · replace h := ite_t c4 h
      refine x_iconst d_313_28 ic_1 ?_
      refine x_goto (tgt := 33) d_313_29 rfl ?_
      refine y_pick (L1 := [(0, .ref 78), (2, .int w2)]) [0, 2] rfl ?_
      exact J33 w2 w1 (1 : Int32) _ h
set_option maxRecDepth 100000 in
set_option maxHeartbeats 4000000 in
theorem c_313 {X : Nat × (Nat → Int32)} {D F G : Nat} (hD : 1 ≤ D) {S : St} {res : Int32} (h : fM_tunes F G S  = some res) : Ek X (D) m313 0 [(0, .ref 78)] [] S (some (.int res)) S := by
  obtain ⟨D, rfl⟩ : ∃ E, D = E + 1 := ⟨D - 1, by omega⟩
  unfold fM_tunes at h
  refine x_iconst d_313_0 ic_0 ?_
  refine x_istore_n (L1 := [(0, .ref 78), (1, .int (0 : Int32))]) d_313_1 rfl (Nat.le_of_ble_eq_true rfl) rfl rfl ?_
  refine x_iconst d_313_2 ic_0 ?_
  refine x_istore_n (L1 := [(0, .ref 78), (1, .int (0 : Int32)), (2, .int (0 : Int32))]) d_313_3 rfl (Nat.le_of_ble_eq_true rfl) rfl rfl ?_
  refine T_313_4 (by omega)   F (0 : Int32) (0 : Int32) _ h
/-! NinetyPlayersModel.lost -/
def j_312_58 (F G : Nat) (S : St) (rec : Int32 → Int32 → Option (Int32 × St)) (_ : St) (y2 : Int32) (s0 : Int32) (s1 : Int32) : Option (Int32 × St) :=
  bd (fM_truth F G S s1) fun v15 => lt (s0 ||| (v15 <<< (y2 &&& 31))) fun v16 => lt (y2 + 1) fun v18 => rec v16 v18
def b_312_12 (F G : Nat) (S : St) (rec : Int32 → Int32 → Option (Int32 × St)) (w1 : Int32) (w2 : Int32) : Option (Int32 × St) :=
  if (S.1 78 48) ≤ w2 then some (w1, S) else bd (fM_tunes F G S) fun v7 => bd (fM_given F G S (0 : Int32)) fun v9 => gd (inB w2 10) (bd (fM_openAt F G S (S.1 96 w2.toNatClampNeg)) fun v12 => if (((v7 &&& (v9 ^^^ (-1 : Int32))) &&& (v12 ^^^ (-1 : Int32))) &&& ((1 : Int32) <<< (w2 &&& 31))) = 0 then j_312_58 F G S rec  S w2 w1 (0 : Int32) else j_312_58 F G S rec  S w2 w1 (1 : Int32))
def fM_lost (F G : Nat) (S : St) : Option (Int32 × St) :=
  bd (fM_fill F G S ) fun S2 => bd (fM_laySound F G S2 ) fun S4 => fx2 (b_312_12 F G S4) F (0 : Int32) (0 : Int32)
set_option maxRecDepth 100000 in
set_option maxHeartbeats 4000000 in
theorem T_312_12 {X : Nat × (Nat → Int32)} {D F G : Nat} (hD : 3 ≤ D + 1) {S : St} : ∀ (f : Nat) (w1 : Int32) (w2 : Int32) (res : Int32 × St), fx2 (b_312_12 F G S ) f w1 w2 = some res → Ek X (D + 1) m312 12 [(0, .ref 78), (1, .int w1), (2, .int w2)] [] S (some (.int res.1)) res.2 := by
  refine fx2_ind ?_
  intro rec ih w1 w2 res h
  unfold b_312_12 at h
  have J58 : ∀ (y2 : Int32) (s0 : Int32) (s1 : Int32) (res : Int32 × St), j_312_58 F G S rec S y2 s0 s1 = some res → Ek X (D + 1) m312 58 [(0, .ref 78), (2, .int y2)] [.int s1, .int s0] S (some (.int res.1)) res.2 := by
    intro y2 s0 s1 res h
    unfold j_312_58 at h
    obtain ⟨v15, q14, h⟩ := bd_inv h
    refine y_S1i (v := v15) (S1 := S) d_312_58 ml_11_318 (Nat.le_of_ble_eq_true rfl) (Nat.le_of_ble_eq_true rfl) (c_229 (by omega) q14) ?_
    refine x_iload_n d_312_61 rfl 1 rfl ?_
    refine x_ishl d_312_62 ?_
    refine x_ior d_312_63 ?_
    obtain ⟨v16, e17, h⟩ := lt_inv h
    refine y_istore_n (L1 := [(0, .ref 78), (1, .int v16), (2, .int y2)]) e17 d_312_64 rfl (Nat.le_of_ble_eq_true rfl) rfl rfl ?_
    obtain ⟨v18, e19, h⟩ := lt_inv h
    refine y_iinc (L1 := [(0, .ref 78), (1, .int v16), (2, .int v18)]) e19 ic_1 d_312_65 2 rfl (Nat.le_of_ble_eq_true rfl) rfl rfl ?_
    refine x_goto (tgt := 12) d_312_68 rfl ?_
    exact ih v16 v18 _ h
  refine x_iload_n d_312_12 rfl 2 rfl ?_
  refine x_aload_n d_312_13 rfl 0 rfl ?_
  refine y_getI d_312_14 fl_11_322 rfl kd_78 ?_
  refine x_icmp_ge (tgt := 71) d_312_17 rfl (fun c5 => ?_) (fun c5 => ?_)
  · replace h := ite_t c5 h
    refine x_iload_n d_312_71 rfl 1 rfl ?_
    obtain rfl := Option.some.inj h
    exact x_ret (r := some (.int w1)) d_312_72 ⟨_, rfl, rfl⟩
  · replace h := ite_f c5 h
    refine x_iload_n d_312_20 rfl 1 rfl ?_
    refine x_aload_n d_312_21 rfl 0 rfl ?_
    obtain ⟨v7, q6, h⟩ := bd_inv h
    refine y_V0i (v := v7) (S1 := S) d_312_22 ml_11_536 kd_78 rfl (Nat.le_of_ble_eq_true rfl) (Nat.le_of_ble_eq_true rfl) (c_313 (by omega) q6) ?_
    refine x_aload_n d_312_25 rfl 0 rfl ?_
    refine x_iconst d_312_26 ic_0 ?_
    obtain ⟨v9, q8, h⟩ := bd_inv h
    refine y_V1i (v := v9) (S1 := S) d_312_27 ml_11_454 kd_78 rfl (Nat.le_of_ble_eq_true rfl) (Nat.le_of_ble_eq_true rfl) (c_261 (by omega) q8) ?_
    refine x_iconst d_312_30 ic_m1 ?_
    refine x_ixor d_312_31 ?_
    refine x_iand d_312_32 ?_
    refine x_aload_n d_312_33 rfl 0 rfl ?_
    refine x_aload_n d_312_34 rfl 0 rfl ?_
    refine y_getR d_312_35 fl_11_66 rfl kd_78 rr_78_35 ?_
    refine x_iload_n d_312_38 rfl 2 rfl ?_
    obtain ⟨g10, h⟩ := gd_inv h
    refine y_iald d_312_39 kd_96 g10 ?_
    obtain ⟨v12, q11, h⟩ := bd_inv h
    refine y_V1i (v := v12) (S1 := S) d_312_40 ml_11_533 kd_78 rfl (Nat.le_of_ble_eq_true rfl) (Nat.le_of_ble_eq_true rfl) (c_311 (by omega) q11) ?_
    refine x_iconst d_312_43 ic_m1 ?_
    refine x_ixor d_312_44 ?_
    refine x_iand d_312_45 ?_
    refine x_iconst d_312_46 ic_1 ?_
    refine x_iload_n d_312_47 rfl 2 rfl ?_
    refine x_ishl d_312_48 ?_
    refine x_iand d_312_49 ?_
    refine x_if_eq (tgt := 57) d_312_50 rfl (fun c13 => ?_) (fun c13 => ?_)
    · replace h := ite_t c13 h
      refine x_iconst d_312_57 ic_0 ?_
      refine y_pick (L1 := [(0, .ref 78), (2, .int w2)]) [0, 2] rfl ?_
      exact J58 w2 w1 (0 : Int32) _ h
    · replace h := ite_f c13 h
      refine x_iconst d_312_53 ic_1 ?_
      refine x_goto (tgt := 58) d_312_54 rfl ?_
      refine y_pick (L1 := [(0, .ref 78), (2, .int w2)]) [0, 2] rfl ?_
      exact J58 w2 w1 (1 : Int32) _ h
set_option maxRecDepth 100000 in
set_option maxHeartbeats 4000000 in
theorem c_312 {X : Nat × (Nat → Int32)} {D F G : Nat} (hD : 3 ≤ D) {S : St} {res : Int32 × St} (h : fM_lost F G S  = some res) : Ek X (D) m312 0 [(0, .ref 78)] [] S (some (.int res.1)) res.2 := by
  obtain ⟨D, rfl⟩ : ∃ E, D = E + 1 := ⟨D - 1, by omega⟩
  unfold fM_lost at h
  refine x_aload_n d_312_0 rfl 0 rfl ?_
  obtain ⟨S2, q1, h⟩ := bd_inv h
  refine y_V0v (S1 := S2) d_312_1 ml_11_464 kd_78 rfl (Nat.le_of_ble_eq_true rfl) (Nat.le_of_ble_eq_true rfl) (c_251 (by omega) q1) ?_
  refine x_aload_n d_312_4 rfl 0 rfl ?_
  obtain ⟨S4, q3, h⟩ := bd_inv h
  refine y_V0v (S1 := S4) d_312_5 ml_11_479 kd_78 rfl (Nat.le_of_ble_eq_true rfl) (Nat.le_of_ble_eq_true rfl) (c_266 (by omega) q3) ?_
  refine x_iconst d_312_8 ic_0 ?_
  refine x_istore_n (L1 := [(0, .ref 78), (1, .int (0 : Int32))]) d_312_9 rfl (Nat.le_of_ble_eq_true rfl) rfl rfl ?_
  refine x_iconst d_312_10 ic_0 ?_
  refine x_istore_n (L1 := [(0, .ref 78), (1, .int (0 : Int32)), (2, .int (0 : Int32))]) d_312_11 rfl (Nat.le_of_ble_eq_true rfl) rfl rfl ?_
  refine T_312_12 (by omega)   F (0 : Int32) (0 : Int32) _ h
/-! NinetyPlayersModel.gaps -/
def j_314_40 (F G : Nat) (S : St) (rec : Int32 → Int32 → Option (Int32 × St)) (_ : St) (y2 : Int32) (s0 : Int32) (s1 : Int32) : Option (Int32 × St) :=
  bd (fM_truth F G S s1) fun v11 => lt (s0 ||| (v11 <<< (y2 &&& 31))) fun v12 => lt (y2 + 1) fun v14 => rec v12 v14
def b_314_12 (F G : Nat) (S : St) (rec : Int32 → Int32 → Option (Int32 × St)) (w1 : Int32) (w2 : Int32) : Option (Int32 × St) :=
  if (S.1 78 46) ≤ w2 then some (w1, S) else gd (inB w2 12) (bd (fM_tunes F G S) fun v8 => if ((S.1 103 w2.toNatClampNeg) &&& v8) = 0 then j_314_40 F G S rec  S w2 w1 (1 : Int32) else j_314_40 F G S rec  S w2 w1 (0 : Int32))
def fM_gaps (F G : Nat) (S : St) : Option (Int32 × St) :=
  bd (fM_fill F G S ) fun S2 => bd (fM_laySound F G S2 ) fun S4 => fx2 (b_314_12 F G S4) F (0 : Int32) (0 : Int32)
set_option maxRecDepth 100000 in
set_option maxHeartbeats 4000000 in
theorem T_314_12 {X : Nat × (Nat → Int32)} {D F G : Nat} (hD : 3 ≤ D + 1) {S : St} : ∀ (f : Nat) (w1 : Int32) (w2 : Int32) (res : Int32 × St), fx2 (b_314_12 F G S ) f w1 w2 = some res → Ek X (D + 1) m314 12 [(0, .ref 78), (1, .int w1), (2, .int w2)] [] S (some (.int res.1)) res.2 := by
  refine fx2_ind ?_
  intro rec ih w1 w2 res h
  unfold b_314_12 at h
  have J40 : ∀ (y2 : Int32) (s0 : Int32) (s1 : Int32) (res : Int32 × St), j_314_40 F G S rec S y2 s0 s1 = some res → Ek X (D + 1) m314 40 [(0, .ref 78), (2, .int y2)] [.int s1, .int s0] S (some (.int res.1)) res.2 := by
    intro y2 s0 s1 res h
    unfold j_314_40 at h
    obtain ⟨v11, q10, h⟩ := bd_inv h
    refine y_S1i (v := v11) (S1 := S) d_314_40 ml_11_318 (Nat.le_of_ble_eq_true rfl) (Nat.le_of_ble_eq_true rfl) (c_229 (by omega) q10) ?_
    refine x_iload_n d_314_43 rfl 1 rfl ?_
    refine x_ishl d_314_44 ?_
    refine x_ior d_314_45 ?_
    obtain ⟨v12, e13, h⟩ := lt_inv h
    refine y_istore_n (L1 := [(0, .ref 78), (1, .int v12), (2, .int y2)]) e13 d_314_46 rfl (Nat.le_of_ble_eq_true rfl) rfl rfl ?_
    obtain ⟨v14, e15, h⟩ := lt_inv h
    refine y_iinc (L1 := [(0, .ref 78), (1, .int v12), (2, .int v14)]) e15 ic_1 d_314_47 2 rfl (Nat.le_of_ble_eq_true rfl) rfl rfl ?_
    refine x_goto (tgt := 12) d_314_50 rfl ?_
    exact ih v12 v14 _ h
  refine x_iload_n d_314_12 rfl 2 rfl ?_
  refine x_aload_n d_314_13 rfl 0 rfl ?_
  refine y_getI d_314_14 fl_11_78 rfl kd_78 ?_
  refine x_icmp_ge (tgt := 53) d_314_17 rfl (fun c5 => ?_) (fun c5 => ?_)
  · replace h := ite_t c5 h
    refine x_iload_n d_314_53 rfl 1 rfl ?_
    obtain rfl := Option.some.inj h
    exact x_ret (r := some (.int w1)) d_314_54 ⟨_, rfl, rfl⟩
  · replace h := ite_f c5 h
    refine x_iload_n d_314_20 rfl 1 rfl ?_
    refine x_aload_n d_314_21 rfl 0 rfl ?_
    refine y_getR d_314_22 fl_11_102 rfl kd_78 rr_78_61 ?_
    refine x_iload_n d_314_25 rfl 2 rfl ?_
    obtain ⟨g6, h⟩ := gd_inv h
    refine y_iald d_314_26 kd_103 g6 ?_
    refine x_aload_n d_314_27 rfl 0 rfl ?_
    obtain ⟨v8, q7, h⟩ := bd_inv h
    refine y_V0i (v := v8) (S1 := S) d_314_28 ml_11_536 kd_78 rfl (Nat.le_of_ble_eq_true rfl) (Nat.le_of_ble_eq_true rfl) (c_313 (by omega) q7) ?_
    refine x_iand d_314_31 ?_
    refine x_if_ne (tgt := 39) d_314_32 rfl (fun c9 => ?_) (fun c9 => ?_)
    · replace h := ite_f c9 h
      refine x_iconst d_314_39 ic_0 ?_
      refine y_pick (L1 := [(0, .ref 78), (2, .int w2)]) [0, 2] rfl ?_
      exact J40 w2 w1 (0 : Int32) _ h
    · replace h := ite_t c9 h
      refine x_iconst d_314_35 ic_1 ?_
      refine x_goto (tgt := 40) d_314_36 rfl ?_
      refine y_pick (L1 := [(0, .ref 78), (2, .int w2)]) [0, 2] rfl ?_
      exact J40 w2 w1 (1 : Int32) _ h
set_option maxRecDepth 100000 in
set_option maxHeartbeats 4000000 in
theorem c_314 {X : Nat × (Nat → Int32)} {D F G : Nat} (hD : 3 ≤ D) {S : St} {res : Int32 × St} (h : fM_gaps F G S  = some res) : Ek X (D) m314 0 [(0, .ref 78)] [] S (some (.int res.1)) res.2 := by
  obtain ⟨D, rfl⟩ : ∃ E, D = E + 1 := ⟨D - 1, by omega⟩
  unfold fM_gaps at h
  refine x_aload_n d_314_0 rfl 0 rfl ?_
  obtain ⟨S2, q1, h⟩ := bd_inv h
  refine y_V0v (S1 := S2) d_314_1 ml_11_464 kd_78 rfl (Nat.le_of_ble_eq_true rfl) (Nat.le_of_ble_eq_true rfl) (c_251 (by omega) q1) ?_
  refine x_aload_n d_314_4 rfl 0 rfl ?_
  obtain ⟨S4, q3, h⟩ := bd_inv h
  refine y_V0v (S1 := S4) d_314_5 ml_11_479 kd_78 rfl (Nat.le_of_ble_eq_true rfl) (Nat.le_of_ble_eq_true rfl) (c_266 (by omega) q3) ?_
  refine x_iconst d_314_8 ic_0 ?_
  refine x_istore_n (L1 := [(0, .ref 78), (1, .int (0 : Int32))]) d_314_9 rfl (Nat.le_of_ble_eq_true rfl) rfl rfl ?_
  refine x_iconst d_314_10 ic_0 ?_
  refine x_istore_n (L1 := [(0, .ref 78), (1, .int (0 : Int32)), (2, .int (0 : Int32))]) d_314_11 rfl (Nat.le_of_ble_eq_true rfl) rfl rfl ?_
  refine T_314_12 (by omega)   F (0 : Int32) (0 : Int32) _ h
