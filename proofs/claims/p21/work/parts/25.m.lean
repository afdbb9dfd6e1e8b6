/-! NinetyPlayers.give -/
def fN_give (F G : Nat) (S : St) (p1 : Int32) (p2 : Int32) : Option (Int32 × St) :=
  bd (fN_isNote F G S p1) fun v2 => if v2 = 0 then some ((-1 : Int32), S) else if p2 < 0 then some ((-1 : Int32), S) else if (2 : Int32) < p2 then some ((-1 : Int32), S) else gd (inB p1 10) (if (S.1 31 p1.toNatClampNeg) = p2 then some ((-1 : Int32), S) else bd (fC_act F G S 30 (0 : Int32) p1 p2) fun S9 => bd2 (fN_clashes F G S9) fun v11 S12 => some (v11, S12))
set_option maxRecDepth 100000 in
set_option maxHeartbeats 4000000 in
theorem c_N_give {X : Nat × (Nat → Int32)} {D F G : Nat} (hD : 6 ≤ D) {S : St} {p1 : Int32} {p2 : Int32} {res : Int32 × St} (h : fN_give F G S p1 p2 = some res) : Ek X (D) mN_give 0 [(0, .ref 0), (1, .int p1), (2, .int p2)] [] S (some (.int res.1)) res.2 := by
  obtain ⟨D, rfl⟩ : ∃ E, D = E + 1 := ⟨D - 1, by omega⟩
  unfold fN_give at h
  refine x_aload_n d_N_give_0 rfl 0 rfl ?_
  refine x_iload_n d_N_give_1 rfl 1 rfl ?_
  obtain ⟨v2, q1, h⟩ := bd_inv h
  refine y_V1i (v := v2) (S1 := S) d_N_give_2 ml_0_128 kd_0 rfl (Nat.le_of_ble_eq_true rfl) (Nat.le_of_ble_eq_true rfl) (c_N_isNote (by omega) q1) ?_
  refine x_if_eq (tgt := 30) d_N_give_5 rfl (fun c3 => ?_) (fun c3 => ?_)
  · replace h := ite_t c3 h
    refine x_iconst d_N_give_30 ic_m1 ?_
    obtain rfl := Option.some.inj h
    exact x_ret (r := some (.int (-1 : Int32))) d_N_give_31 ⟨_, rfl, rfl⟩
  · replace h := ite_f c3 h
    refine x_iload_n d_N_give_8 rfl 2 rfl ?_
    refine x_if_lt (tgt := 30) d_N_give_9 rfl (fun c4 => ?_) (fun c4 => ?_)
    · replace h := ite_t c4 h
      refine x_iconst d_N_give_30 ic_m1 ?_
      obtain rfl := Option.some.inj h
      exact x_ret (r := some (.int (-1 : Int32))) d_N_give_31 ⟨_, rfl, rfl⟩
    · replace h := ite_f c4 h
      refine x_iload_n d_N_give_12 rfl 2 rfl ?_
      refine x_iconst d_N_give_13 ic_2 ?_
      refine x_icmp_gt (tgt := 30) d_N_give_14 rfl (fun c5 => ?_) (fun c5 => ?_)
      · replace h := ite_t c5 h
        refine x_iconst d_N_give_30 ic_m1 ?_
        obtain rfl := Option.some.inj h
        exact x_ret (r := some (.int (-1 : Int32))) d_N_give_31 ⟨_, rfl, rfl⟩
      · replace h := ite_f c5 h
        refine x_aload_n d_N_give_17 rfl 0 rfl ?_
        refine y_getR d_N_give_18 fl_0_31 rfl kd_0 rr_0_3 ?_
        refine y_getR d_N_give_21 fl_0_147 rfl kd_30 rr_30_2 ?_
        refine x_iload_n d_N_give_24 rfl 1 rfl ?_
        obtain ⟨g6, h⟩ := gd_inv h
        refine y_iald d_N_give_25 kd_31 g6 ?_
        refine x_iload_n d_N_give_26 rfl 2 rfl ?_
        refine x_icmp_ne (tgt := 32) d_N_give_27 rfl (fun c7 => ?_) (fun c7 => ?_)
        · replace h := ite_f c7 h
          refine x_aload_n d_N_give_32 rfl 0 rfl ?_
          refine y_getR d_N_give_33 fl_0_42 rfl kd_0 rr_0_5 ?_
          refine x_aload_n d_N_give_36 rfl 0 rfl ?_
          refine y_getR d_N_give_37 fl_0_31 rfl kd_0 rr_0_3 ?_
          refine x_iconst d_N_give_40 ic_0 ?_
          refine x_iload_n d_N_give_41 rfl 1 rfl ?_
          refine x_iload_n d_N_give_42 rfl 2 rfl ?_
          obtain ⟨S9, q8, h⟩ := bd_inv h
          refine y_V4v (S1 := S9) d_N_give_43 ml_0_237 kd_51 rfl (Nat.le_of_ble_eq_true rfl) (Nat.le_of_ble_eq_true rfl) (c_C_act (by omega) q8) ?_
          refine x_aload_n d_N_give_46 rfl 0 rfl ?_
          obtain ⟨v11, S12, q10, h⟩ := bd2_inv h
          refine y_V0i (v := v11) (S1 := S12) d_N_give_47 ml_0_241 kd_0 rfl (Nat.le_of_ble_eq_true rfl) (Nat.le_of_ble_eq_true rfl) (c_N_clashes (by omega) q10) ?_
          obtain rfl := Option.some.inj h
          exact x_ret (r := some (.int v11)) d_N_give_50 ⟨_, rfl, rfl⟩
        · replace h := ite_t c7 h
          refine x_iconst d_N_give_30 ic_m1 ?_
          obtain rfl := Option.some.inj h
          exact x_ret (r := some (.int (-1 : Int32))) d_N_give_31 ⟨_, rfl, rfl⟩
/-! NinetyPlayersModel.act -/
def b_M_act_51 (F G : Nat) (rec : Int32 → St → Option (St)) (w1 : Int32) (S : St) : Option (St) :=
  if (41 : Int32) ≤ w1 then lt (sI S 78 63 ((S.1 78 63) + (1 : Int32))) fun S3 => lt (sI S3 78 64 (0 : Int32)) fun S5 => some S5 else gd (inB w1 41) (gd (inB (((41 : Int32) * (S.1 78 63)) + w1) 1640) (lt (sI S 104 (((41 : Int32) * (S.1 78 63)) + w1).toNatClampNeg (S.1 100 w1.toNatClampNeg)) fun S9 => lt (w1 + 1) fun v11 => rec v11 S9))
def b_M_act_11 (F G : Nat) (k39 : St → Option (St)) (rec : Int32 → St → Option (St)) (w1 : Int32) (S : St) : Option (St) :=
  if (1599 : Int32) ≤ w1 then k39 S else gd (inB ((41 : Int32) + w1) 1640) (gd (inB w1 1640) (lt (sI S 104 w1.toNatClampNeg (S.1 104 ((41 : Int32) + w1).toNatClampNeg)) fun S16 => lt (w1 + 1) fun v18 => rec v18 S16))
def fM_act (F G : Nat) (S : St) : Option (St) :=
  if (S.1 78 63) = (40 : Int32) then fx2 (b_M_act_11 F G  (fun S20 => lt (sI S20 78 63 ((S20.1 78 63) - (1 : Int32))) fun S21 => fx2 (b_M_act_51 F G ) F (0 : Int32) S21)) F (0 : Int32) S else fx2 (b_M_act_51 F G ) F (0 : Int32) S
set_option maxRecDepth 100000 in
set_option maxHeartbeats 4000000 in
theorem T_M_act_51 {X : Nat × (Nat → Int32)} {D F G : Nat} (hD : 0 ≤ D) : ∀ (f : Nat) (w1 : Int32) (S : St) (res : St), fx2 (b_M_act_51 F G ) f w1 S = some res → Ek X (D) mM_act 51 [(0, .ref 78), (1, .int w1)] [] S none res := by
  refine fx2_ind ?_
  intro rec ih w1 S res h
  unfold b_M_act_51 at h
  refine x_iload_n d_M_act_51 rfl 1 rfl ?_
  refine x_bipush d_M_act_52 bp_41 ?_
  refine x_icmp_ge (tgt := 83) d_M_act_54 rfl (fun c2 => ?_) (fun c2 => ?_)
  · replace h := ite_t c2 h
    refine x_aload_n d_M_act_83 rfl 0 rfl ?_
    refine x_dup d_M_act_84 rfl ?_
    refine y_getI d_M_act_85 fl_11_417 rfl kd_78 ?_
    refine x_iconst d_M_act_88 ic_1 ?_
    refine x_iadd d_M_act_89 ?_
    obtain ⟨S3, e4, h⟩ := lt_inv h
    refine y_putI e4 d_M_act_90 fl_11_417 rfl rfl kd_78 rfl rfl ?_
    refine x_aload_n d_M_act_93 rfl 0 rfl ?_
    refine x_iconst d_M_act_94 ic_0 ?_
    obtain ⟨S5, e6, h⟩ := lt_inv h
    refine y_putI e6 d_M_act_95 fl_11_420 rfl rfl kd_78 rfl rfl ?_
    obtain rfl := Option.some.inj h
    exact x_ret (r := none) d_M_act_98 rfl
  · replace h := ite_f c2 h
    refine x_aload_n d_M_act_57 rfl 0 rfl ?_
    refine y_getR d_M_act_58 fl_11_105 rfl kd_78 rr_78_62 ?_
    refine x_bipush d_M_act_61 bp_41 ?_
    refine x_aload_n d_M_act_63 rfl 0 rfl ?_
    refine y_getI d_M_act_64 fl_11_417 rfl kd_78 ?_
    refine x_imul d_M_act_67 ?_
    refine x_iload_n d_M_act_68 rfl 1 rfl ?_
    refine x_iadd d_M_act_69 ?_
    refine x_aload_n d_M_act_70 rfl 0 rfl ?_
    refine y_getR d_M_act_71 fl_11_93 rfl kd_78 rr_78_58 ?_
    refine x_iload_n d_M_act_74 rfl 1 rfl ?_
    obtain ⟨g7, h⟩ := gd_inv h
    refine y_iald d_M_act_75 kd_100 g7 ?_
    obtain ⟨g8, h⟩ := gd_inv h
    obtain ⟨S9, e10, h⟩ := lt_inv h
    refine y_iast e10 d_M_act_76 kd_104 g8 ?_
    obtain ⟨v11, e12, h⟩ := lt_inv h
    refine y_iinc (L1 := [(0, .ref 78), (1, .int v11)]) e12 ic_1 d_M_act_77 1 rfl (Nat.le_of_ble_eq_true rfl) rfl rfl ?_
    refine x_goto (tgt := 51) d_M_act_80 rfl ?_
    exact ih v11 S9 _ h
set_option maxRecDepth 100000 in
set_option maxHeartbeats 4000000 in
theorem T_M_act_11 {X : Nat × (Nat → Int32)} {D F G : Nat} (hD : 0 ≤ D) {k39 : St → Option (St)} (hk39 : ∀ (S1 : St) (res : St), k39 S1 = some res → Ek X (D) mM_act 39 [(0, .ref 78)] [] S1 none res) : ∀ (f : Nat) (w1 : Int32) (S : St) (res : St), fx2 (b_M_act_11 F G k39 ) f w1 S = some res → Ek X (D) mM_act 11 [(0, .ref 78), (1, .int w1)] [] S none res := by
  refine fx2_ind ?_
  intro rec ih w1 S res h
  unfold b_M_act_11 at h
  refine x_iload_n d_M_act_11 rfl 1 rfl ?_
  refine x_sipush d_M_act_12 sp_1599 ?_
  refine x_icmp_ge (tgt := 39) d_M_act_15 rfl (fun c13 => ?_) (fun c13 => ?_)
  · replace h := ite_t c13 h
    refine y_pick (L1 := [(0, .ref 78)]) [0] rfl ?_
    exact hk39 S _ h
  · replace h := ite_f c13 h
    refine x_aload_n d_M_act_18 rfl 0 rfl ?_
    refine y_getR d_M_act_19 fl_11_105 rfl kd_78 rr_78_62 ?_
    refine x_iload_n d_M_act_22 rfl 1 rfl ?_
    refine x_aload_n d_M_act_23 rfl 0 rfl ?_
    refine y_getR d_M_act_24 fl_11_105 rfl kd_78 rr_78_62 ?_
    refine x_bipush d_M_act_27 bp_41 ?_
    refine x_iload_n d_M_act_29 rfl 1 rfl ?_
    refine x_iadd d_M_act_30 ?_
    obtain ⟨g14, h⟩ := gd_inv h
    refine y_iald d_M_act_31 kd_104 g14 ?_
    obtain ⟨g15, h⟩ := gd_inv h
    obtain ⟨S16, e17, h⟩ := lt_inv h
    refine y_iast e17 d_M_act_32 kd_104 g15 ?_
    obtain ⟨v18, e19, h⟩ := lt_inv h
    refine y_iinc (L1 := [(0, .ref 78), (1, .int v18)]) e19 ic_1 d_M_act_33 1 rfl (Nat.le_of_ble_eq_true rfl) rfl rfl ?_
    refine x_goto (tgt := 11) d_M_act_36 rfl ?_
    exact ih v18 S16 _ h
set_option maxRecDepth 100000 in
set_option maxHeartbeats 4000000 in
theorem c_M_act {X : Nat × (Nat → Int32)} {D F G : Nat} (hD : 0 ≤ D) {S : St} {res : St} (h : fM_act F G S  = some res) : Ek X (D) mM_act 0 [(0, .ref 78)] [] S none res := by
  unfold fM_act at h
  refine x_aload_n d_M_act_0 rfl 0 rfl ?_
  refine y_getI d_M_act_1 fl_11_417 rfl kd_78 ?_
  refine x_bipush d_M_act_4 bp_40 ?_
  refine x_icmp_ne (tgt := 49) d_M_act_6 rfl (fun c1 => ?_) (fun c1 => ?_)
  · replace h := ite_f c1 h
    refine x_iconst d_M_act_49 ic_0 ?_
    refine x_istore_n (L1 := [(0, .ref 78), (1, .int (0 : Int32))]) d_M_act_50 rfl (Nat.le_of_ble_eq_true rfl) rfl rfl ?_
    refine T_M_act_51 (by omega)   F (0 : Int32) S _ h
  · replace h := ite_t c1 h
    refine x_iconst d_M_act_9 ic_0 ?_
    refine x_istore_n (L1 := [(0, .ref 78), (1, .int (0 : Int32))]) d_M_act_10 rfl (Nat.le_of_ble_eq_true rfl) rfl rfl ?_
    refine T_M_act_11 (by omega)  ?_ F (0 : Int32) S _ h
    · intro S20 res h
      refine x_aload_n d_M_act_39 rfl 0 rfl ?_
      refine x_dup d_M_act_40 rfl ?_
      refine y_getI d_M_act_41 fl_11_417 rfl kd_78 ?_
      refine x_iconst d_M_act_44 ic_1 ?_
      refine x_isub d_M_act_45 ?_
      obtain ⟨S21, e22, h⟩ := lt_inv h
      refine y_putI e22 d_M_act_46 fl_11_417 rfl rfl kd_78 rfl rfl ?_
      refine x_iconst d_M_act_49 ic_0 ?_
      refine x_istore_n (L1 := [(0, .ref 78), (1, .int (0 : Int32))]) d_M_act_50 rfl (Nat.le_of_ble_eq_true rfl) rfl rfl ?_
      refine T_M_act_51 (by omega)   F (0 : Int32) S21 _ h
/-! NinetyPlayersModel.clashBeats -/
def j_M_clashBeats_41 (F G : Nat) (S : St) (z1 : Int32) (rec : Int32 → Int32 → Option (Int32)) (_ : St) (y3 : Int32) (s0 : Int32) (s1 : Int32) : Option (Int32) :=
  bd (fM_truth F G S s1) fun v10 => lt (s0 ||| (v10 <<< (y3 &&& 31))) fun v11 => lt (y3 + 1) fun v13 => rec v11 v13
def b_M_clashBeats_4 (F G : Nat) (S : St) (z1 : Int32) (rec : Int32 → Int32 → Option (Int32)) (w2 : Int32) (w3 : Int32) : Option (Int32) :=
  if (S.1 78 46) ≤ w3 then some w2 else bd (fM_given F G S (1 : Int32)) fun v3 => bd (fM_given F G S (2 : Int32)) fun v5 => bd (fM_clashBy F G S w3 v3 v5 (S.1 78 50) z1) fun v7 => if v7 = 0 then j_M_clashBeats_41 F G S z1 rec  S w3 w2 (0 : Int32) else j_M_clashBeats_41 F G S z1 rec  S w3 w2 (1 : Int32)
def fM_clashBeats (F G : Nat) (S : St) (p1 : Int32) : Option (Int32) :=
  fx2 (b_M_clashBeats_4 F G S p1) F (0 : Int32) (0 : Int32)
set_option maxRecDepth 100000 in
set_option maxHeartbeats 4000000 in
theorem T_M_clashBeats_4 {X : Nat × (Nat → Int32)} {D F G : Nat} (hD : 3 ≤ D + 1) {S : St} {z1 : Int32} : ∀ (f : Nat) (w2 : Int32) (w3 : Int32) (res : Int32), fx2 (b_M_clashBeats_4 F G S z1 ) f w2 w3 = some res → Ek X (D + 1) mM_clashBeats 4 [(0, .ref 78), (1, .int z1), (2, .int w2), (3, .int w3)] [] S (some (.int res)) S := by
  refine fx2_ind ?_
  intro rec ih w2 w3 res h
  unfold b_M_clashBeats_4 at h
  have J41 : ∀ (y3 : Int32) (s0 : Int32) (s1 : Int32) (res : Int32), j_M_clashBeats_41 F G S z1 rec S y3 s0 s1 = some res → Ek X (D + 1) mM_clashBeats 41 [(0, .ref 78), (1, .int z1), (3, .int y3)] [.int s1, .int s0] S (some (.int res)) S := by
    intro y3 s0 s1 res h
    unfold j_M_clashBeats_41 at h
    obtain ⟨v10, q9, h⟩ := bd_inv h
    refine y_S1i (v := v10) (S1 := S) d_M_clashBeats_41 ml_11_318 (Nat.le_of_ble_eq_true rfl) (Nat.le_of_ble_eq_true rfl) (c_M_truth (by omega) q9) ?_
    refine x_iload_n d_M_clashBeats_44 rfl 2 rfl ?_
    refine x_ishl d_M_clashBeats_45 ?_
    refine x_ior d_M_clashBeats_46 ?_
    obtain ⟨v11, e12, h⟩ := lt_inv h
    refine y_istore_n (L1 := [(0, .ref 78), (1, .int z1), (2, .int v11), (3, .int y3)]) e12 d_M_clashBeats_47 rfl (Nat.le_of_ble_eq_true rfl) rfl rfl ?_
    obtain ⟨v13, e14, h⟩ := lt_inv h
    refine y_iinc (L1 := [(0, .ref 78), (1, .int z1), (2, .int v11), (3, .int v13)]) e14 ic_1 d_M_clashBeats_48 3 rfl (Nat.le_of_ble_eq_true rfl) rfl rfl ?_
    refine x_goto (tgt := 4) d_M_clashBeats_51 rfl ?_
    exact ih v11 v13 _ h
  refine x_iload_n d_M_clashBeats_4 rfl 3 rfl ?_
  refine x_aload_n d_M_clashBeats_5 rfl 0 rfl ?_
  refine y_getI d_M_clashBeats_6 fl_11_78 rfl kd_78 ?_
  refine x_icmp_ge (tgt := 54) d_M_clashBeats_9 rfl (fun c1 => ?_) (fun c1 => ?_)
  · replace h := ite_t c1 h
    refine x_iload_n d_M_clashBeats_54 rfl 2 rfl ?_
    obtain rfl := Option.some.inj h
    exact x_ret (r := some (.int w2)) d_M_clashBeats_55 ⟨_, rfl, rfl⟩
  · replace h := ite_f c1 h
    refine x_iload_n d_M_clashBeats_12 rfl 2 rfl ?_
    refine x_aload_n d_M_clashBeats_13 rfl 0 rfl ?_
    refine x_iload_n d_M_clashBeats_14 rfl 3 rfl ?_
    refine x_aload_n d_M_clashBeats_15 rfl 0 rfl ?_
    refine x_iconst d_M_clashBeats_16 ic_1 ?_
    obtain ⟨v3, q2, h⟩ := bd_inv h
    refine y_V1i (v := v3) (S1 := S) d_M_clashBeats_17 ml_11_454 kd_78 rfl (Nat.le_of_ble_eq_true rfl) (Nat.le_of_ble_eq_true rfl) (c_M_given (by omega) q2) ?_
    refine x_aload_n d_M_clashBeats_20 rfl 0 rfl ?_
    refine x_iconst d_M_clashBeats_21 ic_2 ?_
    obtain ⟨v5, q4, h⟩ := bd_inv h
    refine y_V1i (v := v5) (S1 := S) d_M_clashBeats_22 ml_11_454 kd_78 rfl (Nat.le_of_ble_eq_true rfl) (Nat.le_of_ble_eq_true rfl) (c_M_given (by omega) q4) ?_
    refine x_aload_n d_M_clashBeats_25 rfl 0 rfl ?_
    refine y_getI d_M_clashBeats_26 fl_11_84 rfl kd_78 ?_
    refine x_iload_n d_M_clashBeats_29 rfl 1 rfl ?_
    obtain ⟨v7, q6, h⟩ := bd_inv h
    refine y_V5i (v := v7) (S1 := S) d_M_clashBeats_30 ml_11_450 kd_78 rfl (Nat.le_of_ble_eq_true rfl) (Nat.le_of_ble_eq_true rfl) (c_M_clashBy (by omega) q6) ?_
    refine x_if_eq (tgt := 40) d_M_clashBeats_33 rfl (fun c8 => ?_) (fun c8 => ?_)
    · replace h := ite_t c8 h
      refine x_iconst d_M_clashBeats_40 ic_0 ?_
      refine y_pick (L1 := [(0, .ref 78), (1, .int z1), (3, .int w3)]) [0, 1, 3] rfl ?_
      exact J41 w3 w2 (0 : Int32) _ h
    · replace h := ite_f c8 h
      refine x_iconst d_M_clashBeats_36 ic_1 ?_
      refine x_goto (tgt := 41) d_M_clashBeats_37 rfl ?_
      refine y_pick (L1 := [(0, .ref 78), (1, .int z1), (3, .int w3)]) [0, 1, 3] rfl ?_
      exact J41 w3 w2 (1 : Int32) _ h
set_option maxRecDepth 100000 in
set_option maxHeartbeats 4000000 in
theorem c_M_clashBeats {X : Nat × (Nat → Int32)} {D F G : Nat} (hD : 3 ≤ D) {S : St} {p1 : Int32} {res : Int32} (h : fM_clashBeats F G S p1 = some res) : Ek X (D) mM_clashBeats 0 [(0, .ref 78), (1, .int p1)] [] S (some (.int res)) S := by
  obtain ⟨D, rfl⟩ : ∃ E, D = E + 1 := ⟨D - 1, by omega⟩
  unfold fM_clashBeats at h
  refine x_iconst d_M_clashBeats_0 ic_0 ?_
  refine x_istore_n (L1 := [(0, .ref 78), (1, .int p1), (2, .int (0 : Int32))]) d_M_clashBeats_1 rfl (Nat.le_of_ble_eq_true rfl) rfl rfl ?_
  refine x_iconst d_M_clashBeats_2 ic_0 ?_
  refine x_istore_n (L1 := [(0, .ref 78), (1, .int p1), (2, .int (0 : Int32)), (3, .int (0 : Int32))]) d_M_clashBeats_3 rfl (Nat.le_of_ble_eq_true rfl) rfl rfl ?_
  refine T_M_clashBeats_4 (by omega)   F (0 : Int32) (0 : Int32) _ h
/-! NinetyPlayersModel.clashes -/
def fM_clashes (F G : Nat) (S : St) : Option (Int32 × St) :=
  bd (fM_fill F G S ) fun S2 => bd (fM_clashBeats F G S2 (S2.1 78 49)) fun v4 => some (v4, S2)
set_option maxRecDepth 100000 in
set_option maxHeartbeats 4000000 in
theorem c_M_clashes {X : Nat × (Nat → Int32)} {D F G : Nat} (hD : 4 ≤ D) {S : St} {res : Int32 × St} (h : fM_clashes F G S  = some res) : Ek X (D) mM_clashes 0 [(0, .ref 78)] [] S (some (.int res.1)) res.2 := by
  obtain ⟨D, rfl⟩ : ∃ E, D = E + 1 := ⟨D - 1, by omega⟩
  unfold fM_clashes at h
  refine x_aload_n d_M_clashes_0 rfl 0 rfl ?_
  obtain ⟨S2, q1, h⟩ := bd_inv h
  refine y_V0v (S1 := S2) d_M_clashes_1 ml_11_464 kd_78 rfl (Nat.le_of_ble_eq_true rfl) (Nat.le_of_ble_eq_true rfl) (c_M_fill (by omega) q1) ?_
  refine x_aload_n d_M_clashes_4 rfl 0 rfl ?_
  refine x_aload_n d_M_clashes_5 rfl 0 rfl ?_
  refine y_getI d_M_clashes_6 fl_11_81 rfl kd_78 ?_
  obtain ⟨v4, q3, h⟩ := bd_inv h
  refine y_V1i (v := v4) (S1 := S2) d_M_clashes_9 ml_11_482 kd_78 rfl (Nat.le_of_ble_eq_true rfl) (Nat.le_of_ble_eq_true rfl) (c_M_clashBeats (by omega) q3) ?_
  obtain rfl := Option.some.inj h
  exact x_ret (r := some (.int v4)) d_M_clashes_12 ⟨_, rfl, rfl⟩
/-! NinetyPlayersModel.give -/
def fM_give (F G : Nat) (S : St) (p1 : Int32) (p2 : Int32) : Option (Int32 × St) :=
  bd (fM_isNote F G S p1) fun v2 => if v2 = 0 then some ((-1 : Int32), S) else bd (fM_isIn F G S p2 (0 : Int32) (2 : Int32)) fun v5 => if v5 = 0 then some ((-1 : Int32), S) else gd (inB p1 41) (if (S.1 100 p1.toNatClampNeg) = p2 then some ((-1 : Int32), S) else bd (fM_act F G S ) fun S10 => gd (inB p1 41) (lt (sI S10 100 p1.toNatClampNeg p2) fun S12 => bd2 (fM_clashes F G S12) fun v15 S16 => some (v15, S16)))
set_option maxRecDepth 100000 in
set_option maxHeartbeats 4000000 in
theorem c_M_give {X : Nat × (Nat → Int32)} {D F G : Nat} (hD : 5 ≤ D) {S : St} {p1 : Int32} {p2 : Int32} {res : Int32 × St} (h : fM_give F G S p1 p2 = some res) : Ek X (D) mM_give 0 [(0, .ref 78), (1, .int p1), (2, .int p2)] [] S (some (.int res.1)) res.2 := by
  obtain ⟨D, rfl⟩ : ∃ E, D = E + 1 := ⟨D - 1, by omega⟩
  unfold fM_give at h
  refine x_aload_n d_M_give_0 rfl 0 rfl ?_
  refine x_iload_n d_M_give_1 rfl 1 rfl ?_
  obtain ⟨v2, q1, h⟩ := bd_inv h
  refine y_V1i (v := v2) (S1 := S) d_M_give_2 ml_11_461 kd_78 rfl (Nat.le_of_ble_eq_true rfl) (Nat.le_of_ble_eq_true rfl) (c_M_isNote (by omega) q1) ?_
  refine x_if_eq (tgt := 27) d_M_give_5 rfl (fun c3 => ?_) (fun c3 => ?_)
  · replace h := ite_t c3 h
    refine x_iconst d_M_give_27 ic_m1 ?_
    obtain rfl := Option.some.inj h
    exact x_ret (r := some (.int (-1 : Int32))) d_M_give_28 ⟨_, rfl, rfl⟩
  · replace h := ite_f c3 h
    refine x_iload_n d_M_give_8 rfl 2 rfl ?_
    refine x_iconst d_M_give_9 ic_0 ?_
    refine x_iconst d_M_give_10 ic_2 ?_
    obtain ⟨v5, q4, h⟩ := bd_inv h
    refine y_S3i (v := v5) (S1 := S) d_M_give_11 ml_11_429 (Nat.le_of_ble_eq_true rfl) (Nat.le_of_ble_eq_true rfl) (c_M_isIn (by omega) q4) ?_
    refine x_if_eq (tgt := 27) d_M_give_14 rfl (fun c6 => ?_) (fun c6 => ?_)
    · replace h := ite_t c6 h
      refine x_iconst d_M_give_27 ic_m1 ?_
      obtain rfl := Option.some.inj h
      exact x_ret (r := some (.int (-1 : Int32))) d_M_give_28 ⟨_, rfl, rfl⟩
    · replace h := ite_f c6 h
      refine x_aload_n d_M_give_17 rfl 0 rfl ?_
      refine y_getR d_M_give_18 fl_11_93 rfl kd_78 rr_78_58 ?_
      refine x_iload_n d_M_give_21 rfl 1 rfl ?_
      obtain ⟨g7, h⟩ := gd_inv h
      refine y_iald d_M_give_22 kd_100 g7 ?_
      refine x_iload_n d_M_give_23 rfl 2 rfl ?_
      refine x_icmp_ne (tgt := 29) d_M_give_24 rfl (fun c8 => ?_) (fun c8 => ?_)
      · replace h := ite_f c8 h
        refine x_aload_n d_M_give_29 rfl 0 rfl ?_
        obtain ⟨S10, q9, h⟩ := bd_inv h
        refine y_V0v (S1 := S10) d_M_give_30 ml_11_485 kd_78 rfl (Nat.le_of_ble_eq_true rfl) (Nat.le_of_ble_eq_true rfl) (c_M_act (by omega) q9) ?_
        refine x_aload_n d_M_give_33 rfl 0 rfl ?_
        refine y_getR d_M_give_34 fl_11_93 rfl kd_78 rr_78_58 ?_
        refine x_iload_n d_M_give_37 rfl 1 rfl ?_
        refine x_iload_n d_M_give_38 rfl 2 rfl ?_
        obtain ⟨g11, h⟩ := gd_inv h
        obtain ⟨S12, e13, h⟩ := lt_inv h
        refine y_iast e13 d_M_give_39 kd_100 g11 ?_
        refine x_aload_n d_M_give_40 rfl 0 rfl ?_
        obtain ⟨v15, S16, q14, h⟩ := bd2_inv h
        refine y_V0i (v := v15) (S1 := S16) d_M_give_41 ml_11_488 kd_78 rfl (Nat.le_of_ble_eq_true rfl) (Nat.le_of_ble_eq_true rfl) (c_M_clashes (by omega) q14) ?_
        obtain rfl := Option.some.inj h
        exact x_ret (r := some (.int v15)) d_M_give_44 ⟨_, rfl, rfl⟩
      · replace h := ite_t c8 h
        refine x_iconst d_M_give_27 ic_m1 ?_
        obtain rfl := Option.some.inj h
        exact x_ret (r := some (.int (-1 : Int32))) d_M_give_28 ⟨_, rfl, rfl⟩
/-! NinetyPlayers.isKey -/
def fN_isKey (F G : Nat) (S : St) (p1 : Int32) : Option (Int32) :=
  if p1 < 0 then some (0 : Int32) else if (87 : Int32) < p1 then some (0 : Int32) else some (1 : Int32)
set_option maxRecDepth 100000 in
set_option maxHeartbeats 4000000 in
theorem c_N_isKey {X : Nat × (Nat → Int32)} {D F G : Nat} (hD : 0 ≤ D) {S : St} {p1 : Int32} {res : Int32} (h : fN_isKey F G S p1 = some res) : Ek X (D) mN_isKey 0 [(0, .int p1)] [] S (some (.int res)) S := by
  unfold fN_isKey at h
  refine x_iload_n d_N_isKey_0 rfl 0 rfl ?_
  refine x_if_lt (tgt := 14) d_N_isKey_1 rfl (fun c1 => ?_) (fun c1 => ?_)
  · replace h := ite_t c1 h
    refine x_iconst d_N_isKey_14 ic_0 ?_
    obtain rfl := Option.some.inj h
    exact x_ret (r := some (.int (0 : Int32))) d_N_isKey_15 ⟨_, rfl, rfl⟩
  · replace h := ite_f c1 h
    refine x_iload_n d_N_isKey_4 rfl 0 rfl ?_
    refine x_bipush d_N_isKey_5 bp_87 ?_
    refine x_icmp_gt (tgt := 14) d_N_isKey_7 rfl (fun c2 => ?_) (fun c2 => ?_)
    · replace h := ite_t c2 h
      refine x_iconst d_N_isKey_14 ic_0 ?_
      obtain rfl := Option.some.inj h
      exact x_ret (r := some (.int (0 : Int32))) d_N_isKey_15 ⟨_, rfl, rfl⟩
    · replace h := ite_f c2 h
      refine x_iconst d_N_isKey_10 ic_1 ?_
      refine x_goto (tgt := 15) d_N_isKey_11 rfl ?_
      obtain rfl := Option.some.inj h
      exact x_ret (r := some (.int (1 : Int32))) d_N_isKey_15 ⟨_, rfl, rfl⟩
/-! NinetyPlayers.shift -/
def fN_shift (F G : Nat) (S : St) (p1 : Int32) (p2 : Int32) : Option (Int32 × St) :=
  bd (fN_isNote F G S p1) fun v2 => if v2 = 0 then some ((-1 : Int32), S) else if p2 < (-7 : Int32) then some ((-1 : Int32), S) else if (7 : Int32) < p2 then some ((-1 : Int32), S) else if p2 = 0 then some ((-1 : Int32), S) else gd (inB p1 10) (lt ((S.1 32 p1.toNatClampNeg) + (p2 * (12 : Int32))) fun v8 => bd (fN_isKey F G S v8) fun v11 => if v11 = 0 then some ((-1 : Int32), S) else bd (fC_act F G S 30 (1 : Int32) p1 v8) fun S14 => some (v8, S14))
set_option maxRecDepth 100000 in
set_option maxHeartbeats 4000000 in
theorem c_N_shift {X : Nat × (Nat → Int32)} {D F G : Nat} (hD : 3 ≤ D) {S : St} {p1 : Int32} {p2 : Int32} {res : Int32 × St} (h : fN_shift F G S p1 p2 = some res) : Ek X (D) mN_shift 0 [(0, .ref 0), (1, .int p1), (2, .int p2)] [] S (some (.int res.1)) res.2 := by
  obtain ⟨D, rfl⟩ : ∃ E, D = E + 1 := ⟨D - 1, by omega⟩
  unfold fN_shift at h
  refine x_aload_n d_N_shift_0 rfl 0 rfl ?_
  refine x_iload_n d_N_shift_1 rfl 1 rfl ?_
  obtain ⟨v2, q1, h⟩ := bd_inv h
  refine y_V1i (v := v2) (S1 := S) d_N_shift_2 ml_0_128 kd_0 rfl (Nat.le_of_ble_eq_true rfl) (Nat.le_of_ble_eq_true rfl) (c_N_isNote (by omega) q1) ?_
  refine x_if_eq (tgt := 24) d_N_shift_5 rfl (fun c3 => ?_) (fun c3 => ?_)
  · replace h := ite_t c3 h
    refine x_iconst d_N_shift_24 ic_m1 ?_
    obtain rfl := Option.some.inj h
    exact x_ret (r := some (.int (-1 : Int32))) d_N_shift_25 ⟨_, rfl, rfl⟩
  · replace h := ite_f c3 h
    refine x_iload_n d_N_shift_8 rfl 2 rfl ?_
    refine x_bipush d_N_shift_9 bp_m7 ?_
    refine x_icmp_lt (tgt := 24) d_N_shift_11 rfl (fun c4 => ?_) (fun c4 => ?_)
    · replace h := ite_t c4 h
      refine x_iconst d_N_shift_24 ic_m1 ?_
      obtain rfl := Option.some.inj h
      exact x_ret (r := some (.int (-1 : Int32))) d_N_shift_25 ⟨_, rfl, rfl⟩
    · replace h := ite_f c4 h
      refine x_iload_n d_N_shift_14 rfl 2 rfl ?_
      refine x_bipush d_N_shift_15 bp_7 ?_
      refine x_icmp_gt (tgt := 24) d_N_shift_17 rfl (fun c5 => ?_) (fun c5 => ?_)
      · replace h := ite_t c5 h
        refine x_iconst d_N_shift_24 ic_m1 ?_
        obtain rfl := Option.some.inj h
        exact x_ret (r := some (.int (-1 : Int32))) d_N_shift_25 ⟨_, rfl, rfl⟩
      · replace h := ite_f c5 h
        refine x_iload_n d_N_shift_20 rfl 2 rfl ?_
        refine x_if_ne (tgt := 26) d_N_shift_21 rfl (fun c6 => ?_) (fun c6 => ?_)
        · replace h := ite_f c6 h
          refine x_aload_n d_N_shift_26 rfl 0 rfl ?_
          refine y_getR d_N_shift_27 fl_0_31 rfl kd_0 rr_0_3 ?_
          refine y_getR d_N_shift_30 fl_0_138 rfl kd_30 rr_30_3 ?_
          refine x_iload_n d_N_shift_33 rfl 1 rfl ?_
          obtain ⟨g7, h⟩ := gd_inv h
          refine y_iald d_N_shift_34 kd_32 g7 ?_
          refine x_iload_n d_N_shift_35 rfl 2 rfl ?_
          refine x_bipush d_N_shift_36 bp_12 ?_
          refine x_imul d_N_shift_38 ?_
          refine x_iadd d_N_shift_39 ?_
          obtain ⟨v8, e9, h⟩ := lt_inv h
          refine y_istore_n (L1 := [(0, .ref 0), (1, .int p1), (2, .int p2), (3, .int v8)]) e9 d_N_shift_40 rfl (Nat.le_of_ble_eq_true rfl) rfl rfl ?_
          refine x_iload_n d_N_shift_41 rfl 3 rfl ?_
          obtain ⟨v11, q10, h⟩ := bd_inv h
          refine y_S1i (v := v11) (S1 := S) d_N_shift_42 ml_0_244 (Nat.le_of_ble_eq_true rfl) (Nat.le_of_ble_eq_true rfl) (c_N_isKey (by omega) q10) ?_
          refine x_if_ne (tgt := 50) d_N_shift_45 rfl (fun c12 => ?_) (fun c12 => ?_)
          · replace h := ite_f c12 h
            refine x_aload_n d_N_shift_50 rfl 0 rfl ?_
            refine y_getR d_N_shift_51 fl_0_42 rfl kd_0 rr_0_5 ?_
            refine x_aload_n d_N_shift_54 rfl 0 rfl ?_
            refine y_getR d_N_shift_55 fl_0_31 rfl kd_0 rr_0_3 ?_
            refine x_iconst d_N_shift_58 ic_1 ?_
            refine x_iload_n d_N_shift_59 rfl 1 rfl ?_
            refine x_iload_n d_N_shift_60 rfl 3 rfl ?_
            obtain ⟨S14, q13, h⟩ := bd_inv h
            refine y_V4v (S1 := S14) d_N_shift_61 ml_0_237 kd_51 rfl (Nat.le_of_ble_eq_true rfl) (Nat.le_of_ble_eq_true rfl) (c_C_act (by omega) q13) ?_
            refine x_iload_n d_N_shift_64 rfl 3 rfl ?_
            obtain rfl := Option.some.inj h
            exact x_ret (r := some (.int v8)) d_N_shift_65 ⟨_, rfl, rfl⟩
          · replace h := ite_t c12 h
            refine x_iconst d_N_shift_48 ic_m1 ?_
            obtain rfl := Option.some.inj h
            exact x_ret (r := some (.int (-1 : Int32))) d_N_shift_49 ⟨_, rfl, rfl⟩
        · replace h := ite_t c6 h
          refine x_iconst d_N_shift_24 ic_m1 ?_
          obtain rfl := Option.some.inj h
          exact x_ret (r := some (.int (-1 : Int32))) d_N_shift_25 ⟨_, rfl, rfl⟩
/-! NinetyPlayersModel.shift -/
def fM_shift (F G : Nat) (S : St) (p1 : Int32) (p2 : Int32) : Option (Int32 × St) :=
  bd (fM_isNote F G S p1) fun v2 => if v2 = 0 then some ((-1 : Int32), S) else if p2 = 0 then some ((-1 : Int32), S) else bd (fM_isIn F G S p2 (-7 : Int32) (7 : Int32)) fun v6 => if v6 = 0 then some ((-1 : Int32), S) else gd (inB ((10 : Int32) + p1) 41) (bd (fM_isIn F G S ((S.1 100 ((10 : Int32) + p1).toNatClampNeg) + ((12 : Int32) * p2)) (0 : Int32) (87 : Int32)) fun v10 => if v10 = 0 then some ((-1 : Int32), S) else bd (fM_act F G S ) fun S13 => gd (inB ((10 : Int32) + p1) 41) (gd (inB ((10 : Int32) + p1) 41) (lt (sI S13 100 ((10 : Int32) + p1).toNatClampNeg ((S13.1 100 ((10 : Int32) + p1).toNatClampNeg) + ((12 : Int32) * p2))) fun S16 => gd (inB ((10 : Int32) + p1) 41) (some (S16.1 100 ((10 : Int32) + p1).toNatClampNeg, S16)))))
set_option maxRecDepth 100000 in
set_option maxHeartbeats 4000000 in
theorem c_M_shift {X : Nat × (Nat → Int32)} {D F G : Nat} (hD : 2 ≤ D) {S : St} {p1 : Int32} {p2 : Int32} {res : Int32 × St} (h : fM_shift F G S p1 p2 = some res) : Ek X (D) mM_shift 0 [(0, .ref 78), (1, .int p1), (2, .int p2)] [] S (some (.int res.1)) res.2 := by
  obtain ⟨D, rfl⟩ : ∃ E, D = E + 1 := ⟨D - 1, by omega⟩
  unfold fM_shift at h
  refine x_aload_n d_M_shift_0 rfl 0 rfl ?_
  refine x_iload_n d_M_shift_1 rfl 1 rfl ?_
  obtain ⟨v2, q1, h⟩ := bd_inv h
  refine y_V1i (v := v2) (S1 := S) d_M_shift_2 ml_11_461 kd_78 rfl (Nat.le_of_ble_eq_true rfl) (Nat.le_of_ble_eq_true rfl) (c_M_isNote (by omega) q1) ?_
  refine x_if_eq (tgt := 46) d_M_shift_5 rfl (fun c3 => ?_) (fun c3 => ?_)
  · replace h := ite_t c3 h
    refine x_iconst d_M_shift_46 ic_m1 ?_
    obtain rfl := Option.some.inj h
    exact x_ret (r := some (.int (-1 : Int32))) d_M_shift_47 ⟨_, rfl, rfl⟩
  · replace h := ite_f c3 h
    refine x_iload_n d_M_shift_8 rfl 2 rfl ?_
    refine x_if_eq (tgt := 46) d_M_shift_9 rfl (fun c4 => ?_) (fun c4 => ?_)
    · replace h := ite_t c4 h
      refine x_iconst d_M_shift_46 ic_m1 ?_
      obtain rfl := Option.some.inj h
      exact x_ret (r := some (.int (-1 : Int32))) d_M_shift_47 ⟨_, rfl, rfl⟩
    · replace h := ite_f c4 h
      refine x_iload_n d_M_shift_12 rfl 2 rfl ?_
      refine x_bipush d_M_shift_13 bp_m7 ?_
      refine x_bipush d_M_shift_15 bp_7 ?_
      obtain ⟨v6, q5, h⟩ := bd_inv h
      refine y_S3i (v := v6) (S1 := S) d_M_shift_17 ml_11_429 (Nat.le_of_ble_eq_true rfl) (Nat.le_of_ble_eq_true rfl) (c_M_isIn (by omega) q5) ?_
      refine x_if_eq (tgt := 46) d_M_shift_20 rfl (fun c7 => ?_) (fun c7 => ?_)
      · replace h := ite_t c7 h
        refine x_iconst d_M_shift_46 ic_m1 ?_
        obtain rfl := Option.some.inj h
        exact x_ret (r := some (.int (-1 : Int32))) d_M_shift_47 ⟨_, rfl, rfl⟩
      · replace h := ite_f c7 h
        refine x_aload_n d_M_shift_23 rfl 0 rfl ?_
        refine y_getR d_M_shift_24 fl_11_93 rfl kd_78 rr_78_58 ?_
        refine x_bipush d_M_shift_27 bp_10 ?_
        refine x_iload_n d_M_shift_29 rfl 1 rfl ?_
        refine x_iadd d_M_shift_30 ?_
        obtain ⟨g8, h⟩ := gd_inv h
        refine y_iald d_M_shift_31 kd_100 g8 ?_
        refine x_bipush d_M_shift_32 bp_12 ?_
        refine x_iload_n d_M_shift_34 rfl 2 rfl ?_
        refine x_imul d_M_shift_35 ?_
        refine x_iadd d_M_shift_36 ?_
        refine x_iconst d_M_shift_37 ic_0 ?_
        refine x_bipush d_M_shift_38 bp_87 ?_
        obtain ⟨v10, q9, h⟩ := bd_inv h
        refine y_S3i (v := v10) (S1 := S) d_M_shift_40 ml_11_429 (Nat.le_of_ble_eq_true rfl) (Nat.le_of_ble_eq_true rfl) (c_M_isIn (by omega) q9) ?_
        refine x_if_ne (tgt := 48) d_M_shift_43 rfl (fun c11 => ?_) (fun c11 => ?_)
        · replace h := ite_f c11 h
          refine x_aload_n d_M_shift_48 rfl 0 rfl ?_
          obtain ⟨S13, q12, h⟩ := bd_inv h
          refine y_V0v (S1 := S13) d_M_shift_49 ml_11_485 kd_78 rfl (Nat.le_of_ble_eq_true rfl) (Nat.le_of_ble_eq_true rfl) (c_M_act (by omega) q12) ?_
          refine x_aload_n d_M_shift_52 rfl 0 rfl ?_
          refine y_getR d_M_shift_53 fl_11_93 rfl kd_78 rr_78_58 ?_
          refine x_bipush d_M_shift_56 bp_10 ?_
          refine x_iload_n d_M_shift_58 rfl 1 rfl ?_
          refine x_iadd d_M_shift_59 ?_
          refine x_dup2 d_M_shift_60 rfl rfl ?_
          obtain ⟨g14, h⟩ := gd_inv h
          refine y_iald d_M_shift_61 kd_100 g14 ?_
          refine x_bipush d_M_shift_62 bp_12 ?_
          refine x_iload_n d_M_shift_64 rfl 2 rfl ?_
          refine x_imul d_M_shift_65 ?_
          refine x_iadd d_M_shift_66 ?_
          obtain ⟨g15, h⟩ := gd_inv h
          obtain ⟨S16, e17, h⟩ := lt_inv h
          refine y_iast e17 d_M_shift_67 kd_100 g15 ?_
          refine x_aload_n d_M_shift_68 rfl 0 rfl ?_
          refine y_getR d_M_shift_69 fl_11_93 rfl kd_78 rr_78_58 ?_
          refine x_bipush d_M_shift_72 bp_10 ?_
          refine x_iload_n d_M_shift_74 rfl 1 rfl ?_
          refine x_iadd d_M_shift_75 ?_
          obtain ⟨g18, h⟩ := gd_inv h
          refine y_iald d_M_shift_76 kd_100 g18 ?_
          obtain rfl := Option.some.inj h
          exact x_ret (r := some (.int (S16.1 100 ((10 : Int32) + p1).toNatClampNeg))) d_M_shift_77 ⟨_, rfl, rfl⟩
        · replace h := ite_t c11 h
          refine x_iconst d_M_shift_46 ic_m1 ?_
          obtain rfl := Option.some.inj h
          exact x_ret (r := some (.int (-1 : Int32))) d_M_shift_47 ⟨_, rfl, rfl⟩
/-! NinetyPlayers.louder -/
def fN_louder (F G : Nat) (S : St) (p1 : Int32) (p2 : Int32) : Option (Int32 × St) :=
  bd (fN_isNote F G S p1) fun v2 => if v2 = 0 then some ((-1 : Int32), S) else if p2 < (1 : Int32) then some ((-1 : Int32), S) else if (9 : Int32) < p2 then some ((-1 : Int32), S) else gd (inB p1 10) (if (S.1 34 p1.toNatClampNeg) = p2 then some ((-1 : Int32), S) else gd (inB p1 10) (lt (S.1 34 p1.toNatClampNeg) fun v9 => bd (fC_act F G S 30 (3 : Int32) p1 p2) fun S12 => some (v9, S12)))
set_option maxRecDepth 100000 in
set_option maxHeartbeats 4000000 in
theorem c_N_louder {X : Nat × (Nat → Int32)} {D F G : Nat} (hD : 3 ≤ D) {S : St} {p1 : Int32} {p2 : Int32} {res : Int32 × St} (h : fN_louder F G S p1 p2 = some res) : Ek X (D) mN_louder 0 [(0, .ref 0), (1, .int p1), (2, .int p2)] [] S (some (.int res.1)) res.2 := by
  obtain ⟨D, rfl⟩ : ∃ E, D = E + 1 := ⟨D - 1, by omega⟩
  unfold fN_louder at h
  refine x_aload_n d_N_louder_0 rfl 0 rfl ?_
  refine x_iload_n d_N_louder_1 rfl 1 rfl ?_
  obtain ⟨v2, q1, h⟩ := bd_inv h
  refine y_V1i (v := v2) (S1 := S) d_N_louder_2 ml_0_128 kd_0 rfl (Nat.le_of_ble_eq_true rfl) (Nat.le_of_ble_eq_true rfl) (c_N_isNote (by omega) q1) ?_
  refine x_if_eq (tgt := 32) d_N_louder_5 rfl (fun c3 => ?_) (fun c3 => ?_)
  · replace h := ite_t c3 h
    refine x_iconst d_N_louder_32 ic_m1 ?_
    obtain rfl := Option.some.inj h
    exact x_ret (r := some (.int (-1 : Int32))) d_N_louder_33 ⟨_, rfl, rfl⟩
  · replace h := ite_f c3 h
    refine x_iload_n d_N_louder_8 rfl 2 rfl ?_
    refine x_iconst d_N_louder_9 ic_1 ?_
    refine x_icmp_lt (tgt := 32) d_N_louder_10 rfl (fun c4 => ?_) (fun c4 => ?_)
    · replace h := ite_t c4 h
      refine x_iconst d_N_louder_32 ic_m1 ?_
      obtain rfl := Option.some.inj h
      exact x_ret (r := some (.int (-1 : Int32))) d_N_louder_33 ⟨_, rfl, rfl⟩
    · replace h := ite_f c4 h
      refine x_iload_n d_N_louder_13 rfl 2 rfl ?_
      refine x_bipush d_N_louder_14 bp_9 ?_
      refine x_icmp_gt (tgt := 32) d_N_louder_16 rfl (fun c5 => ?_) (fun c5 => ?_)
      · replace h := ite_t c5 h
        refine x_iconst d_N_louder_32 ic_m1 ?_
        obtain rfl := Option.some.inj h
        exact x_ret (r := some (.int (-1 : Int32))) d_N_louder_33 ⟨_, rfl, rfl⟩
      · replace h := ite_f c5 h
        refine x_aload_n d_N_louder_19 rfl 0 rfl ?_
        refine y_getR d_N_louder_20 fl_0_31 rfl kd_0 rr_0_3 ?_
        refine y_getR d_N_louder_23 fl_0_144 rfl kd_30 rr_30_5 ?_
        refine x_iload_n d_N_louder_26 rfl 1 rfl ?_
        obtain ⟨g6, h⟩ := gd_inv h
        refine y_iald d_N_louder_27 kd_34 g6 ?_
        refine x_iload_n d_N_louder_28 rfl 2 rfl ?_
        refine x_icmp_ne (tgt := 34) d_N_louder_29 rfl (fun c7 => ?_) (fun c7 => ?_)
        · replace h := ite_f c7 h
          refine x_aload_n d_N_louder_34 rfl 0 rfl ?_
          refine y_getR d_N_louder_35 fl_0_31 rfl kd_0 rr_0_3 ?_
          refine y_getR d_N_louder_38 fl_0_144 rfl kd_30 rr_30_5 ?_
          refine x_iload_n d_N_louder_41 rfl 1 rfl ?_
          obtain ⟨g8, h⟩ := gd_inv h
          refine y_iald d_N_louder_42 kd_34 g8 ?_
          obtain ⟨v9, e10, h⟩ := lt_inv h
          refine y_istore_n (L1 := [(0, .ref 0), (1, .int p1), (2, .int p2), (3, .int v9)]) e10 d_N_louder_43 rfl (Nat.le_of_ble_eq_true rfl) rfl rfl ?_
          refine x_aload_n d_N_louder_44 rfl 0 rfl ?_
          refine y_getR d_N_louder_45 fl_0_42 rfl kd_0 rr_0_5 ?_
          refine x_aload_n d_N_louder_48 rfl 0 rfl ?_
          refine y_getR d_N_louder_49 fl_0_31 rfl kd_0 rr_0_3 ?_
          refine x_iconst d_N_louder_52 ic_3 ?_
          refine x_iload_n d_N_louder_53 rfl 1 rfl ?_
          refine x_iload_n d_N_louder_54 rfl 2 rfl ?_
          obtain ⟨S12, q11, h⟩ := bd_inv h
          refine y_V4v (S1 := S12) d_N_louder_55 ml_0_237 kd_51 rfl (Nat.le_of_ble_eq_true rfl) (Nat.le_of_ble_eq_true rfl) (c_C_act (by omega) q11) ?_
          refine x_iload_n d_N_louder_58 rfl 3 rfl ?_
          obtain rfl := Option.some.inj h
          exact x_ret (r := some (.int v9)) d_N_louder_59 ⟨_, rfl, rfl⟩
        · replace h := ite_t c7 h
          refine x_iconst d_N_louder_32 ic_m1 ?_
          obtain rfl := Option.some.inj h
          exact x_ret (r := some (.int (-1 : Int32))) d_N_louder_33 ⟨_, rfl, rfl⟩
/-! NinetyPlayersModel.change -/
def fM_change (F G : Nat) (S : St) (p1 : Int32) (p2 : Int32) : Option (Int32 × St) :=
  bd (fM_act F G S ) fun S2 => gd (inB p1 41) (lt (S2.1 100 p1.toNatClampNeg) fun v4 => gd (inB p1 41) (lt (sI S2 100 p1.toNatClampNeg p2) fun S7 => some (v4, S7)))
set_option maxRecDepth 100000 in
set_option maxHeartbeats 4000000 in
theorem c_M_change {X : Nat × (Nat → Int32)} {D F G : Nat} (hD : 1 ≤ D) {S : St} {p1 : Int32} {p2 : Int32} {res : Int32 × St} (h : fM_change F G S p1 p2 = some res) : Ek X (D) mM_change 0 [(0, .ref 78), (1, .int p1), (2, .int p2)] [] S (some (.int res.1)) res.2 := by
  obtain ⟨D, rfl⟩ : ∃ E, D = E + 1 := ⟨D - 1, by omega⟩
  unfold fM_change at h
  refine x_aload_n d_M_change_0 rfl 0 rfl ?_
  obtain ⟨S2, q1, h⟩ := bd_inv h
  refine y_V0v (S1 := S2) d_M_change_1 ml_11_485 kd_78 rfl (Nat.le_of_ble_eq_true rfl) (Nat.le_of_ble_eq_true rfl) (c_M_act (by omega) q1) ?_
  refine x_aload_n d_M_change_4 rfl 0 rfl ?_
  refine y_getR d_M_change_5 fl_11_93 rfl kd_78 rr_78_58 ?_
  refine x_iload_n d_M_change_8 rfl 1 rfl ?_
  obtain ⟨g3, h⟩ := gd_inv h
  refine y_iald d_M_change_9 kd_100 g3 ?_
  obtain ⟨v4, e5, h⟩ := lt_inv h
  refine y_istore_n (L1 := [(0, .ref 78), (1, .int p1), (2, .int p2), (3, .int v4)]) e5 d_M_change_10 rfl (Nat.le_of_ble_eq_true rfl) rfl rfl ?_
  refine x_aload_n d_M_change_11 rfl 0 rfl ?_
  refine y_getR d_M_change_12 fl_11_93 rfl kd_78 rr_78_58 ?_
  refine x_iload_n d_M_change_15 rfl 1 rfl ?_
  refine x_iload_n d_M_change_16 rfl 2 rfl ?_
  obtain ⟨g6, h⟩ := gd_inv h
  obtain ⟨S7, e8, h⟩ := lt_inv h
  refine y_iast e8 d_M_change_17 kd_100 g6 ?_
  refine x_iload_n d_M_change_18 rfl 3 rfl ?_
  obtain rfl := Option.some.inj h
  exact x_ret (r := some (.int v4)) d_M_change_19 ⟨_, rfl, rfl⟩
/-! NinetyPlayersModel.louder -/
def fM_louder (F G : Nat) (S : St) (p1 : Int32) (p2 : Int32) : Option (Int32 × St) :=
  bd (fM_isNote F G S p1) fun v2 => if v2 = 0 then some ((-1 : Int32), S) else bd (fM_isIn F G S p2 (1 : Int32) (9 : Int32)) fun v5 => if v5 = 0 then some ((-1 : Int32), S) else gd (inB ((30 : Int32) + p1) 41) (if (S.1 100 ((30 : Int32) + p1).toNatClampNeg) = p2 then some ((-1 : Int32), S) else bd2 (fM_change F G S ((30 : Int32) + p1) p2) fun v10 S11 => some (v10, S11))
set_option maxRecDepth 100000 in
set_option maxHeartbeats 4000000 in
theorem c_M_louder {X : Nat × (Nat → Int32)} {D F G : Nat} (hD : 2 ≤ D) {S : St} {p1 : Int32} {p2 : Int32} {res : Int32 × St} (h : fM_louder F G S p1 p2 = some res) : Ek X (D) mM_louder 0 [(0, .ref 78), (1, .int p1), (2, .int p2)] [] S (some (.int res.1)) res.2 := by
  obtain ⟨D, rfl⟩ : ∃ E, D = E + 1 := ⟨D - 1, by omega⟩
  unfold fM_louder at h
  refine x_aload_n d_M_louder_0 rfl 0 rfl ?_
  refine x_iload_n d_M_louder_1 rfl 1 rfl ?_
  obtain ⟨v2, q1, h⟩ := bd_inv h
  refine y_V1i (v := v2) (S1 := S) d_M_louder_2 ml_11_461 kd_78 rfl (Nat.le_of_ble_eq_true rfl) (Nat.le_of_ble_eq_true rfl) (c_M_isNote (by omega) q1) ?_
  refine x_if_eq (tgt := 43) d_M_louder_5 rfl (fun c3 => ?_) (fun c3 => ?_)
  · replace h := ite_t c3 h
    refine x_iconst d_M_louder_43 ic_m1 ?_
    obtain rfl := Option.some.inj h
    exact x_ret (r := some (.int (-1 : Int32))) d_M_louder_44 ⟨_, rfl, rfl⟩
  · replace h := ite_f c3 h
    refine x_iload_n d_M_louder_8 rfl 2 rfl ?_
    refine x_iconst d_M_louder_9 ic_1 ?_
    refine x_bipush d_M_louder_10 bp_9 ?_
    obtain ⟨v5, q4, h⟩ := bd_inv h
    refine y_S3i (v := v5) (S1 := S) d_M_louder_12 ml_11_429 (Nat.le_of_ble_eq_true rfl) (Nat.le_of_ble_eq_true rfl) (c_M_isIn (by omega) q4) ?_
    refine x_if_eq (tgt := 43) d_M_louder_15 rfl (fun c6 => ?_) (fun c6 => ?_)
    · replace h := ite_t c6 h
      refine x_iconst d_M_louder_43 ic_m1 ?_
      obtain rfl := Option.some.inj h
      exact x_ret (r := some (.int (-1 : Int32))) d_M_louder_44 ⟨_, rfl, rfl⟩
    · replace h := ite_f c6 h
      refine x_aload_n d_M_louder_18 rfl 0 rfl ?_
      refine y_getR d_M_louder_19 fl_11_93 rfl kd_78 rr_78_58 ?_
      refine x_bipush d_M_louder_22 bp_30 ?_
      refine x_iload_n d_M_louder_24 rfl 1 rfl ?_
      refine x_iadd d_M_louder_25 ?_
      obtain ⟨g7, h⟩ := gd_inv h
      refine y_iald d_M_louder_26 kd_100 g7 ?_
      refine x_iload_n d_M_louder_27 rfl 2 rfl ?_
      refine x_icmp_eq (tgt := 43) d_M_louder_28 rfl (fun c8 => ?_) (fun c8 => ?_)
      · replace h := ite_t c8 h
        refine x_iconst d_M_louder_43 ic_m1 ?_
        obtain rfl := Option.some.inj h
        exact x_ret (r := some (.int (-1 : Int32))) d_M_louder_44 ⟨_, rfl, rfl⟩
      · replace h := ite_f c8 h
        refine x_aload_n d_M_louder_31 rfl 0 rfl ?_
        refine x_bipush d_M_louder_32 bp_30 ?_
        refine x_iload_n d_M_louder_34 rfl 1 rfl ?_
        refine x_iadd d_M_louder_35 ?_
        refine x_iload_n d_M_louder_36 rfl 2 rfl ?_
        obtain ⟨v10, S11, q9, h⟩ := bd2_inv h
        refine y_V2i (v := v10) (S1 := S11) d_M_louder_37 ml_11_491 kd_78 rfl (Nat.le_of_ble_eq_true rfl) (Nat.le_of_ble_eq_true rfl) (c_M_change (by omega) q9) ?_
        refine x_goto (tgt := 44) d_M_louder_40 rfl ?_
        obtain rfl := Option.some.inj h
        exact x_ret (r := some (.int v10)) d_M_louder_44 ⟨_, rfl, rfl⟩
/-! NinetyPlayers.last -/
def fN_last (F G : Nat) (S : St) (p1 : Int32) (p2 : Int32) : Option (Int32 × St) :=
  bd (fN_isNote F G S p1) fun v2 => if v2 = 0 then some ((-1 : Int32), S) else if p2 < (1 : Int32) then some ((-1 : Int32), S) else if (12 : Int32) < p2 then some ((-1 : Int32), S) else gd (inB p1 10) (if (S.1 33 p1.toNatClampNeg) = p2 then some ((-1 : Int32), S) else gd (inB p1 10) (lt (S.1 33 p1.toNatClampNeg) fun v9 => bd (fC_act F G S 30 (2 : Int32) p1 p2) fun S12 => some (v9, S12)))
set_option maxRecDepth 100000 in
set_option maxHeartbeats 4000000 in
theorem c_N_last {X : Nat × (Nat → Int32)} {D F G : Nat} (hD : 3 ≤ D) {S : St} {p1 : Int32} {p2 : Int32} {res : Int32 × St} (h : fN_last F G S p1 p2 = some res) : Ek X (D) mN_last 0 [(0, .ref 0), (1, .int p1), (2, .int p2)] [] S (some (.int res.1)) res.2 := by
  obtain ⟨D, rfl⟩ : ∃ E, D = E + 1 := ⟨D - 1, by omega⟩
  unfold fN_last at h
  refine x_aload_n d_N_last_0 rfl 0 rfl ?_
  refine x_iload_n d_N_last_1 rfl 1 rfl ?_
  obtain ⟨v2, q1, h⟩ := bd_inv h
  refine y_V1i (v := v2) (S1 := S) d_N_last_2 ml_0_128 kd_0 rfl (Nat.le_of_ble_eq_true rfl) (Nat.le_of_ble_eq_true rfl) (c_N_isNote (by omega) q1) ?_
  refine x_if_eq (tgt := 32) d_N_last_5 rfl (fun c3 => ?_) (fun c3 => ?_)
  · replace h := ite_t c3 h
    refine x_iconst d_N_last_32 ic_m1 ?_
    obtain rfl := Option.some.inj h
    exact x_ret (r := some (.int (-1 : Int32))) d_N_last_33 ⟨_, rfl, rfl⟩
  · replace h := ite_f c3 h
    refine x_iload_n d_N_last_8 rfl 2 rfl ?_
    refine x_iconst d_N_last_9 ic_1 ?_
    refine x_icmp_lt (tgt := 32) d_N_last_10 rfl (fun c4 => ?_) (fun c4 => ?_)
    · replace h := ite_t c4 h
      refine x_iconst d_N_last_32 ic_m1 ?_
      obtain rfl := Option.some.inj h
      exact x_ret (r := some (.int (-1 : Int32))) d_N_last_33 ⟨_, rfl, rfl⟩
    · replace h := ite_f c4 h
      refine x_iload_n d_N_last_13 rfl 2 rfl ?_
      refine x_bipush d_N_last_14 bp_12 ?_
      refine x_icmp_gt (tgt := 32) d_N_last_16 rfl (fun c5 => ?_) (fun c5 => ?_)
      · replace h := ite_t c5 h
        refine x_iconst d_N_last_32 ic_m1 ?_
        obtain rfl := Option.some.inj h
        exact x_ret (r := some (.int (-1 : Int32))) d_N_last_33 ⟨_, rfl, rfl⟩
      · replace h := ite_f c5 h
        refine x_aload_n d_N_last_19 rfl 0 rfl ?_
        refine y_getR d_N_last_20 fl_0_31 rfl kd_0 rr_0_3 ?_
        refine y_getR d_N_last_23 fl_0_141 rfl kd_30 rr_30_4 ?_
        refine x_iload_n d_N_last_26 rfl 1 rfl ?_
        obtain ⟨g6, h⟩ := gd_inv h
        refine y_iald d_N_last_27 kd_33 g6 ?_
        refine x_iload_n d_N_last_28 rfl 2 rfl ?_
        refine x_icmp_ne (tgt := 34) d_N_last_29 rfl (fun c7 => ?_) (fun c7 => ?_)
        · replace h := ite_f c7 h
          refine x_aload_n d_N_last_34 rfl 0 rfl ?_
          refine y_getR d_N_last_35 fl_0_31 rfl kd_0 rr_0_3 ?_
          refine y_getR d_N_last_38 fl_0_141 rfl kd_30 rr_30_4 ?_
          refine x_iload_n d_N_last_41 rfl 1 rfl ?_
          obtain ⟨g8, h⟩ := gd_inv h
          refine y_iald d_N_last_42 kd_33 g8 ?_
          obtain ⟨v9, e10, h⟩ := lt_inv h
          refine y_istore_n (L1 := [(0, .ref 0), (1, .int p1), (2, .int p2), (3, .int v9)]) e10 d_N_last_43 rfl (Nat.le_of_ble_eq_true rfl) rfl rfl ?_
          refine x_aload_n d_N_last_44 rfl 0 rfl ?_
          refine y_getR d_N_last_45 fl_0_42 rfl kd_0 rr_0_5 ?_
          refine x_aload_n d_N_last_48 rfl 0 rfl ?_
          refine y_getR d_N_last_49 fl_0_31 rfl kd_0 rr_0_3 ?_
          refine x_iconst d_N_last_52 ic_2 ?_
          refine x_iload_n d_N_last_53 rfl 1 rfl ?_
          refine x_iload_n d_N_last_54 rfl 2 rfl ?_
          obtain ⟨S12, q11, h⟩ := bd_inv h
          refine y_V4v (S1 := S12) d_N_last_55 ml_0_237 kd_51 rfl (Nat.le_of_ble_eq_true rfl) (Nat.le_of_ble_eq_true rfl) (c_C_act (by omega) q11) ?_
          refine x_iload_n d_N_last_58 rfl 3 rfl ?_
          obtain rfl := Option.some.inj h
          exact x_ret (r := some (.int v9)) d_N_last_59 ⟨_, rfl, rfl⟩
        · replace h := ite_t c7 h
          refine x_iconst d_N_last_32 ic_m1 ?_
          obtain rfl := Option.some.inj h
          exact x_ret (r := some (.int (-1 : Int32))) d_N_last_33 ⟨_, rfl, rfl⟩
/-! NinetyPlayersModel.last -/
def fM_last (F G : Nat) (S : St) (p1 : Int32) (p2 : Int32) : Option (Int32 × St) :=
  bd (fM_isNote F G S p1) fun v2 => if v2 = 0 then some ((-1 : Int32), S) else bd (fM_isIn F G S p2 (1 : Int32) (12 : Int32)) fun v5 => if v5 = 0 then some ((-1 : Int32), S) else gd (inB ((20 : Int32) + p1) 41) (if (S.1 100 ((20 : Int32) + p1).toNatClampNeg) = p2 then some ((-1 : Int32), S) else bd2 (fM_change F G S ((20 : Int32) + p1) p2) fun v10 S11 => some (v10, S11))
set_option maxRecDepth 100000 in
set_option maxHeartbeats 4000000 in
theorem c_M_last {X : Nat × (Nat → Int32)} {D F G : Nat} (hD : 2 ≤ D) {S : St} {p1 : Int32} {p2 : Int32} {res : Int32 × St} (h : fM_last F G S p1 p2 = some res) : Ek X (D) mM_last 0 [(0, .ref 78), (1, .int p1), (2, .int p2)] [] S (some (.int res.1)) res.2 := by
  obtain ⟨D, rfl⟩ : ∃ E, D = E + 1 := ⟨D - 1, by omega⟩
  unfold fM_last at h
  refine x_aload_n d_M_last_0 rfl 0 rfl ?_
  refine x_iload_n d_M_last_1 rfl 1 rfl ?_
  obtain ⟨v2, q1, h⟩ := bd_inv h
  refine y_V1i (v := v2) (S1 := S) d_M_last_2 ml_11_461 kd_78 rfl (Nat.le_of_ble_eq_true rfl) (Nat.le_of_ble_eq_true rfl) (c_M_isNote (by omega) q1) ?_
  refine x_if_eq (tgt := 43) d_M_last_5 rfl (fun c3 => ?_) (fun c3 => ?_)
  · replace h := ite_t c3 h
    refine x_iconst d_M_last_43 ic_m1 ?_
    obtain rfl := Option.some.inj h
    exact x_ret (r := some (.int (-1 : Int32))) d_M_last_44 ⟨_, rfl, rfl⟩
  · replace h := ite_f c3 h
    refine x_iload_n d_M_last_8 rfl 2 rfl ?_
    refine x_iconst d_M_last_9 ic_1 ?_
    refine x_bipush d_M_last_10 bp_12 ?_
    obtain ⟨v5, q4, h⟩ := bd_inv h
    refine y_S3i (v := v5) (S1 := S) d_M_last_12 ml_11_429 (Nat.le_of_ble_eq_true rfl) (Nat.le_of_ble_eq_true rfl) (c_M_isIn (by omega) q4) ?_
    refine x_if_eq (tgt := 43) d_M_last_15 rfl (fun c6 => ?_) (fun c6 => ?_)
    · replace h := ite_t c6 h
      refine x_iconst d_M_last_43 ic_m1 ?_
      obtain rfl := Option.some.inj h
      exact x_ret (r := some (.int (-1 : Int32))) d_M_last_44 ⟨_, rfl, rfl⟩
    · replace h := ite_f c6 h
      refine x_aload_n d_M_last_18 rfl 0 rfl ?_
      refine y_getR d_M_last_19 fl_11_93 rfl kd_78 rr_78_58 ?_
      refine x_bipush d_M_last_22 bp_20 ?_
      refine x_iload_n d_M_last_24 rfl 1 rfl ?_
      refine x_iadd d_M_last_25 ?_
      obtain ⟨g7, h⟩ := gd_inv h
      refine y_iald d_M_last_26 kd_100 g7 ?_
      refine x_iload_n d_M_last_27 rfl 2 rfl ?_
      refine x_icmp_eq (tgt := 43) d_M_last_28 rfl (fun c8 => ?_) (fun c8 => ?_)
      · replace h := ite_t c8 h
        refine x_iconst d_M_last_43 ic_m1 ?_
        obtain rfl := Option.some.inj h
        exact x_ret (r := some (.int (-1 : Int32))) d_M_last_44 ⟨_, rfl, rfl⟩
      · replace h := ite_f c8 h
        refine x_aload_n d_M_last_31 rfl 0 rfl ?_
        refine x_bipush d_M_last_32 bp_20 ?_
        refine x_iload_n d_M_last_34 rfl 1 rfl ?_
        refine x_iadd d_M_last_35 ?_
        refine x_iload_n d_M_last_36 rfl 2 rfl ?_
        obtain ⟨v10, S11, q9, h⟩ := bd2_inv h
        refine y_V2i (v := v10) (S1 := S11) d_M_last_37 ml_11_491 kd_78 rfl (Nat.le_of_ble_eq_true rfl) (Nat.le_of_ble_eq_true rfl) (c_M_change (by omega) q9) ?_
        refine x_goto (tgt := 44) d_M_last_40 rfl ?_
        obtain rfl := Option.some.inj h
        exact x_ret (r := some (.int v10)) d_M_last_44 ⟨_, rfl, rfl⟩
/-! NinetyPlayers.pedal -/
def fN_pedal (F G : Nat) (S : St) (p1 : Int32) : Option (Int32 × St) :=
  bd (fN_isBeat F G S p1) fun v2 => if v2 = 0 then some ((-1 : Int32), S) else bd (fC_act F G S 30 (4 : Int32) p1 ((S.1 30 1) ^^^ ((1 : Int32) <<< (p1 &&& 31)))) fun S5 => some (S5.1 30 1, S5)
set_option maxRecDepth 100000 in
set_option maxHeartbeats 4000000 in
theorem c_N_pedal {X : Nat × (Nat → Int32)} {D F G : Nat} (hD : 3 ≤ D) {S : St} {p1 : Int32} {res : Int32 × St} (h : fN_pedal F G S p1 = some res) : Ek X (D) mN_pedal 0 [(0, .ref 0), (1, .int p1)] [] S (some (.int res.1)) res.2 := by
  obtain ⟨D, rfl⟩ : ∃ E, D = E + 1 := ⟨D - 1, by omega⟩
  unfold fN_pedal at h
  refine x_aload_n d_N_pedal_0 rfl 0 rfl ?_
  refine x_iload_n d_N_pedal_1 rfl 1 rfl ?_
  obtain ⟨v2, q1, h⟩ := bd_inv h
  refine y_V1i (v := v2) (S1 := S) d_N_pedal_2 ml_0_170 kd_0 rfl (Nat.le_of_ble_eq_true rfl) (Nat.le_of_ble_eq_true rfl) (c_N_isBeat (by omega) q1) ?_
  refine x_if_ne (tgt := 10) d_N_pedal_5 rfl (fun c3 => ?_) (fun c3 => ?_)
  · replace h := ite_f c3 h
    refine x_aload_n d_N_pedal_10 rfl 0 rfl ?_
    refine y_getR d_N_pedal_11 fl_0_42 rfl kd_0 rr_0_5 ?_
    refine x_aload_n d_N_pedal_14 rfl 0 rfl ?_
    refine y_getR d_N_pedal_15 fl_0_31 rfl kd_0 rr_0_3 ?_
    refine x_iconst d_N_pedal_18 ic_4 ?_
    refine x_iload_n d_N_pedal_19 rfl 1 rfl ?_
    refine x_aload_n d_N_pedal_20 rfl 0 rfl ?_
    refine y_getR d_N_pedal_21 fl_0_31 rfl kd_0 rr_0_3 ?_
    refine y_getI d_N_pedal_24 fl_0_247 rfl kd_30 ?_
    refine x_iconst d_N_pedal_27 ic_1 ?_
    refine x_iload_n d_N_pedal_28 rfl 1 rfl ?_
    refine x_ishl d_N_pedal_29 ?_
    refine x_ixor d_N_pedal_30 ?_
    obtain ⟨S5, q4, h⟩ := bd_inv h
    refine y_V4v (S1 := S5) d_N_pedal_31 ml_0_237 kd_51 rfl (Nat.le_of_ble_eq_true rfl) (Nat.le_of_ble_eq_true rfl) (c_C_act (by omega) q4) ?_
    refine x_aload_n d_N_pedal_34 rfl 0 rfl ?_
    refine y_getR d_N_pedal_35 fl_0_31 rfl kd_0 rr_0_3 ?_
    refine y_getI d_N_pedal_38 fl_0_247 rfl kd_30 ?_
    obtain rfl := Option.some.inj h
    exact x_ret (r := some (.int (S5.1 30 1))) d_N_pedal_41 ⟨_, rfl, rfl⟩
  · replace h := ite_t c3 h
    refine x_iconst d_N_pedal_8 ic_m1 ?_
    obtain rfl := Option.some.inj h
    exact x_ret (r := some (.int (-1 : Int32))) d_N_pedal_9 ⟨_, rfl, rfl⟩
/-! NinetyPlayersModel.pedal -/
def fM_pedal (F G : Nat) (S : St) (p1 : Int32) : Option (Int32 × St) :=
  bd (fM_isBeat F G S p1) fun v2 => if v2 = 0 then some ((-1 : Int32), S) else bd (fM_act F G S ) fun S5 => gd (inB (40 : Int32) 41) (gd (inB (40 : Int32) 41) (lt (sI S5 100 (40 : Int32).toNatClampNeg ((S5.1 100 (40 : Int32).toNatClampNeg) ^^^ ((1 : Int32) <<< (p1 &&& 31)))) fun S8 => gd (inB (40 : Int32) 41) (some (S8.1 100 (40 : Int32).toNatClampNeg, S8))))
set_option maxRecDepth 100000 in
set_option maxHeartbeats 4000000 in
theorem c_M_pedal {X : Nat × (Nat → Int32)} {D F G : Nat} (hD : 2 ≤ D) {S : St} {p1 : Int32} {res : Int32 × St} (h : fM_pedal F G S p1 = some res) : Ek X (D) mM_pedal 0 [(0, .ref 78), (1, .int p1)] [] S (some (.int res.1)) res.2 := by
  obtain ⟨D, rfl⟩ : ∃ E, D = E + 1 := ⟨D - 1, by omega⟩
  unfold fM_pedal at h
  refine x_aload_n d_M_pedal_0 rfl 0 rfl ?_
  refine x_iload_n d_M_pedal_1 rfl 1 rfl ?_
  obtain ⟨v2, q1, h⟩ := bd_inv h
  refine y_V1i (v := v2) (S1 := S) d_M_pedal_2 ml_11_473 kd_78 rfl (Nat.le_of_ble_eq_true rfl) (Nat.le_of_ble_eq_true rfl) (c_M_isBeat (by omega) q1) ?_
  refine x_if_ne (tgt := 10) d_M_pedal_5 rfl (fun c3 => ?_) (fun c3 => ?_)
  · replace h := ite_f c3 h
    refine x_aload_n d_M_pedal_10 rfl 0 rfl ?_
    obtain ⟨S5, q4, h⟩ := bd_inv h
    refine y_V0v (S1 := S5) d_M_pedal_11 ml_11_485 kd_78 rfl (Nat.le_of_ble_eq_true rfl) (Nat.le_of_ble_eq_true rfl) (c_M_act (by omega) q4) ?_
    refine x_aload_n d_M_pedal_14 rfl 0 rfl ?_
    refine y_getR d_M_pedal_15 fl_11_93 rfl kd_78 rr_78_58 ?_
    refine x_bipush d_M_pedal_18 bp_40 ?_
    refine x_dup2 d_M_pedal_20 rfl rfl ?_
    obtain ⟨g6, h⟩ := gd_inv h
    refine y_iald d_M_pedal_21 kd_100 g6 ?_
    refine x_iconst d_M_pedal_22 ic_1 ?_
    refine x_iload_n d_M_pedal_23 rfl 1 rfl ?_
    refine x_ishl d_M_pedal_24 ?_
    refine x_ixor d_M_pedal_25 ?_
    obtain ⟨g7, h⟩ := gd_inv h
    obtain ⟨S8, e9, h⟩ := lt_inv h
    refine y_iast e9 d_M_pedal_26 kd_100 g7 ?_
    refine x_aload_n d_M_pedal_27 rfl 0 rfl ?_
    refine y_getR d_M_pedal_28 fl_11_93 rfl kd_78 rr_78_58 ?_
    refine x_bipush d_M_pedal_31 bp_40 ?_
    obtain ⟨g10, h⟩ := gd_inv h
    refine y_iald d_M_pedal_33 kd_100 g10 ?_
    obtain rfl := Option.some.inj h
    exact x_ret (r := some (.int (S8.1 100 (40 : Int32).toNatClampNeg))) d_M_pedal_34 ⟨_, rfl, rfl⟩
  · replace h := ite_t c3 h
    refine x_iconst d_M_pedal_8 ic_m1 ?_
    obtain rfl := Option.some.inj h
    exact x_ret (r := some (.int (-1 : Int32))) d_M_pedal_9 ⟨_, rfl, rfl⟩
/-! NinetyPlayers$Acts.takeBack -/
def fC_takeBack (F G : Nat) (S : St) (o2 : Nat) : Option (Int32 × St) :=
  gd (isLa o2) (if 0 < (S.1 51 0) then lt (sI S 51 0 ((S.1 51 0) - (1 : Int32))) fun S2 => gd (inB (S2.1 51 0) 40) (gd (inB (S2.1 51 0) 40) (gd (inB (S2.1 51 0) 40) (bd (fL_put F G S2 o2 (S2.1 52 (S2.1 51 0).toNatClampNeg) (S2.1 53 (S2.1 51 0).toNatClampNeg) (S2.1 54 (S2.1 51 0).toNatClampNeg)) fun S8 => some ((1 : Int32), S8)))) else some ((0 : Int32), S))
set_option maxRecDepth 100000 in
set_option maxHeartbeats 4000000 in
theorem c_C_takeBack {X : Nat × (Nat → Int32)} {D F G : Nat} (hD : 2 ≤ D) {S : St} {o2 : Nat} {res : Int32 × St} (h : fC_takeBack F G S o2 = some res) : Ek X (D) mC_takeBack 0 [(0, .ref 51), (1, .ref o2)] [] S (some (.int res.1)) res.2 := by
  obtain ⟨D, rfl⟩ : ∃ E, D = E + 1 := ⟨D - 1, by omega⟩
  unfold fC_takeBack at h
  obtain ⟨gg0, h⟩ := gd_inv h
  refine x_aload_n d_C_takeBack_0 rfl 0 rfl ?_
  refine y_getI d_C_takeBack_1 fl_6_24 rfl kd_51 ?_
  refine x_if_gt (tgt := 9) d_C_takeBack_4 rfl (fun c1 => ?_) (fun c1 => ?_)
  · replace h := ite_t c1 h
    refine x_aload_n d_C_takeBack_9 rfl 0 rfl ?_
    refine x_dup d_C_takeBack_10 rfl ?_
    refine y_getI d_C_takeBack_11 fl_6_24 rfl kd_51 ?_
    refine x_iconst d_C_takeBack_14 ic_1 ?_
    refine x_isub d_C_takeBack_15 ?_
    obtain ⟨S2, e3, h⟩ := lt_inv h
    refine y_putI e3 d_C_takeBack_16 fl_6_24 rfl rfl kd_51 rfl rfl ?_
    refine x_aload_n d_C_takeBack_19 rfl 1 rfl ?_
    refine x_aload_n d_C_takeBack_20 rfl 0 rfl ?_
    refine y_getR d_C_takeBack_21 fl_6_9 rfl kd_51 rr_51_2 ?_
    refine x_aload_n d_C_takeBack_24 rfl 0 rfl ?_
    refine y_getI d_C_takeBack_25 fl_6_24 rfl kd_51 ?_
    obtain ⟨g4, h⟩ := gd_inv h
    refine y_iald d_C_takeBack_28 kd_52 g4 ?_
    refine x_aload_n d_C_takeBack_29 rfl 0 rfl ?_
    refine y_getR d_C_takeBack_30 fl_6_15 rfl kd_51 rr_51_3 ?_
    refine x_aload_n d_C_takeBack_33 rfl 0 rfl ?_
    refine y_getI d_C_takeBack_34 fl_6_24 rfl kd_51 ?_
    obtain ⟨g5, h⟩ := gd_inv h
    refine y_iald d_C_takeBack_37 kd_53 g5 ?_
    refine x_aload_n d_C_takeBack_38 rfl 0 rfl ?_
    refine y_getR d_C_takeBack_39 fl_6_18 rfl kd_51 rr_51_4 ?_
    refine x_aload_n d_C_takeBack_42 rfl 0 rfl ?_
    refine y_getI d_C_takeBack_43 fl_6_24 rfl kd_51 ?_
    obtain ⟨g6, h⟩ := gd_inv h
    refine y_iald d_C_takeBack_46 kd_54 g6 ?_
    obtain ⟨S8, q7, h⟩ := bd_inv h
    refine y_V3v (S1 := S8) d_C_takeBack_47 ml_6_40 (ksLa gg0) rfl (Nat.le_of_ble_eq_true rfl) (Nat.le_of_ble_eq_true rfl) (c_L_put (by omega) q7) ?_
    refine x_iconst d_C_takeBack_50 ic_1 ?_
    obtain rfl := Option.some.inj h
    exact x_ret (r := some (.int (1 : Int32))) d_C_takeBack_51 ⟨_, rfl, rfl⟩
  · replace h := ite_f c1 h
    refine x_iconst d_C_takeBack_7 ic_0 ?_
    obtain rfl := Option.some.inj h
    exact x_ret (r := some (.int (0 : Int32))) d_C_takeBack_8 ⟨_, rfl, rfl⟩
/-! NinetyPlayers.undo -/
def fN_undo (F G : Nat) (S : St) : Option (Int32 × St) :=
  bd2 (fC_takeBack F G S 30) fun v2 S3 => gd (isB v2) (some (v2, S3))
set_option maxRecDepth 100000 in
set_option maxHeartbeats 4000000 in
theorem c_N_undo {X : Nat × (Nat → Int32)} {D F G : Nat} (hD : 3 ≤ D) {S : St} {res : Int32 × St} (h : fN_undo F G S  = some res) : Ek X (D) mN_undo 0 [(0, .ref 0)] [] S (some (.int res.1)) res.2 := by
  obtain ⟨D, rfl⟩ : ∃ E, D = E + 1 := ⟨D - 1, by omega⟩
  unfold fN_undo at h
  refine x_aload_n d_N_undo_0 rfl 0 rfl ?_
  refine y_getR d_N_undo_1 fl_0_42 rfl kd_0 rr_0_5 ?_
  refine x_aload_n d_N_undo_4 rfl 0 rfl ?_
  refine y_getR d_N_undo_5 fl_0_31 rfl kd_0 rr_0_3 ?_
  obtain ⟨v2, S3, q1, h⟩ := bd2_inv h
  refine y_V1i (v := v2) (S1 := S3) d_N_undo_8 ml_0_250 kd_51 rfl (Nat.le_of_ble_eq_true rfl) (Nat.le_of_ble_eq_true rfl) (c_C_takeBack (by omega) q1) ?_
  obtain ⟨g4, h⟩ := gd_inv h
  obtain rfl := Option.some.inj h
  exact x_ret (r := some (.int v2)) d_N_undo_11 ⟨_, rfl, isB_nar g4⟩
/-! NinetyPlayersModel.exchange -/
def b_M_exchange_2 (F G : Nat) (z1 : Int32) (rec : Int32 → St → Option (St)) (w2 : Int32) (S : St) : Option (St) :=
  if (41 : Int32) ≤ w2 then some S else gd (inB (z1 + w2) 1640) (lt (S.1 104 (z1 + w2).toNatClampNeg) fun v3 => gd (inB w2 41) (gd (inB (z1 + w2) 1640) (lt (sI S 104 (z1 + w2).toNatClampNeg (S.1 100 w2.toNatClampNeg)) fun S7 => gd (inB w2 41) (lt (sI S7 100 w2.toNatClampNeg v3) fun S10 => lt (w2 + 1) fun v12 => rec v12 S10))))
def fM_exchange (F G : Nat) (S : St) (p1 : Int32) : Option (St) :=
  fx2 (b_M_exchange_2 F G p1) F (0 : Int32) S
set_option maxRecDepth 100000 in
set_option maxHeartbeats 4000000 in
theorem T_M_exchange_2 {X : Nat × (Nat → Int32)} {D F G : Nat} (hD : 0 ≤ D) {z1 : Int32} : ∀ (f : Nat) (w2 : Int32) (S : St) (res : St), fx2 (b_M_exchange_2 F G z1 ) f w2 S = some res → Ek X (D) mM_exchange 2 [(0, .ref 78), (1, .int z1), (2, .int w2)] [] S none res := by
  refine fx2_ind ?_
  intro rec ih w2 S res h
  unfold b_M_exchange_2 at h
  refine x_iload_n d_M_exchange_2 rfl 2 rfl ?_
  refine x_bipush d_M_exchange_3 bp_41 ?_
  refine x_icmp_ge (tgt := 44) d_M_exchange_5 rfl (fun c1 => ?_) (fun c1 => ?_)
  · replace h := ite_t c1 h
    obtain rfl := Option.some.inj h
    exact x_ret (r := none) d_M_exchange_44 rfl
  · replace h := ite_f c1 h
    refine x_aload_n d_M_exchange_8 rfl 0 rfl ?_
    refine y_getR d_M_exchange_9 fl_11_105 rfl kd_78 rr_78_62 ?_
    refine x_iload_n d_M_exchange_12 rfl 1 rfl ?_
    refine x_iload_n d_M_exchange_13 rfl 2 rfl ?_
    refine x_iadd d_M_exchange_14 ?_
    obtain ⟨g2, h⟩ := gd_inv h
    refine y_iald d_M_exchange_15 kd_104 g2 ?_
    obtain ⟨v3, e4, h⟩ := lt_inv h
    refine y_istore_n (L1 := [(0, .ref 78), (1, .int z1), (2, .int w2), (3, .int v3)]) e4 d_M_exchange_16 rfl (Nat.le_of_ble_eq_true rfl) rfl rfl ?_
    refine x_aload_n d_M_exchange_17 rfl 0 rfl ?_
    refine y_getR d_M_exchange_18 fl_11_105 rfl kd_78 rr_78_62 ?_
    refine x_iload_n d_M_exchange_21 rfl 1 rfl ?_
    refine x_iload_n d_M_exchange_22 rfl 2 rfl ?_
    refine x_iadd d_M_exchange_23 ?_
    refine x_aload_n d_M_exchange_24 rfl 0 rfl ?_
    refine y_getR d_M_exchange_25 fl_11_93 rfl kd_78 rr_78_58 ?_
    refine x_iload_n d_M_exchange_28 rfl 2 rfl ?_
    obtain ⟨g5, h⟩ := gd_inv h
    refine y_iald d_M_exchange_29 kd_100 g5 ?_
    obtain ⟨g6, h⟩ := gd_inv h
    obtain ⟨S7, e8, h⟩ := lt_inv h
    refine y_iast e8 d_M_exchange_30 kd_104 g6 ?_
    refine x_aload_n d_M_exchange_31 rfl 0 rfl ?_
    refine y_getR d_M_exchange_32 fl_11_93 rfl kd_78 rr_78_58 ?_
    refine x_iload_n d_M_exchange_35 rfl 2 rfl ?_
    refine x_iload_n d_M_exchange_36 rfl 3 rfl ?_
    obtain ⟨g9, h⟩ := gd_inv h
    obtain ⟨S10, e11, h⟩ := lt_inv h
    refine y_iast e11 d_M_exchange_37 kd_100 g9 ?_
    obtain ⟨v12, e13, h⟩ := lt_inv h
    refine y_iinc (L1 := [(0, .ref 78), (1, .int z1), (2, .int v12), (3, .int v3)]) e13 ic_1 d_M_exchange_38 2 rfl (Nat.le_of_ble_eq_true rfl) rfl rfl ?_
    refine x_goto (tgt := 2) d_M_exchange_41 rfl ?_
    refine y_pick (L1 := [(0, .ref 78), (1, .int z1), (2, .int v12)]) [0, 1, 2] rfl ?_
    exact ih v12 S10 _ h
set_option maxRecDepth 100000 in
set_option maxHeartbeats 4000000 in
theorem c_M_exchange {X : Nat × (Nat → Int32)} {D F G : Nat} (hD : 0 ≤ D) {S : St} {p1 : Int32} {res : St} (h : fM_exchange F G S p1 = some res) : Ek X (D) mM_exchange 0 [(0, .ref 78), (1, .int p1)] [] S none res := by
  unfold fM_exchange at h
  refine x_iconst d_M_exchange_0 ic_0 ?_
  refine x_istore_n (L1 := [(0, .ref 78), (1, .int p1), (2, .int (0 : Int32))]) d_M_exchange_1 rfl (Nat.le_of_ble_eq_true rfl) rfl rfl ?_
  refine T_M_exchange_2 (by omega)   F (0 : Int32) S _ h
/-! NinetyPlayersModel.undo -/
def fM_undo (F G : Nat) (S : St) : Option (Int32 × St) :=
  if (S.1 78 63) = 0 then some ((0 : Int32), S) else lt (sI S 78 63 ((S.1 78 63) - (1 : Int32))) fun S2 => lt (sI S2 78 64 ((S2.1 78 64) + (1 : Int32))) fun S4 => bd (fM_exchange F G S4 ((41 : Int32) * (S4.1 78 63))) fun S7 => some ((1 : Int32), S7)
set_option maxRecDepth 100000 in
set_option maxHeartbeats 4000000 in
theorem c_M_undo {X : Nat × (Nat → Int32)} {D F G : Nat} (hD : 1 ≤ D) {S : St} {res : Int32 × St} (h : fM_undo F G S  = some res) : Ek X (D) mM_undo 0 [(0, .ref 78)] [] S (some (.int res.1)) res.2 := by
  obtain ⟨D, rfl⟩ : ∃ E, D = E + 1 := ⟨D - 1, by omega⟩
  unfold fM_undo at h
  refine x_aload_n d_M_undo_0 rfl 0 rfl ?_
  refine y_getI d_M_undo_1 fl_11_417 rfl kd_78 ?_
  refine x_if_ne (tgt := 9) d_M_undo_4 rfl (fun c1 => ?_) (fun c1 => ?_)
  · replace h := ite_f c1 h
    refine x_aload_n d_M_undo_9 rfl 0 rfl ?_
    refine x_dup d_M_undo_10 rfl ?_
    refine y_getI d_M_undo_11 fl_11_417 rfl kd_78 ?_
    refine x_iconst d_M_undo_14 ic_1 ?_
    refine x_isub d_M_undo_15 ?_
    obtain ⟨S2, e3, h⟩ := lt_inv h
    refine y_putI e3 d_M_undo_16 fl_11_417 rfl rfl kd_78 rfl rfl ?_
    refine x_aload_n d_M_undo_19 rfl 0 rfl ?_
    refine x_dup d_M_undo_20 rfl ?_
    refine y_getI d_M_undo_21 fl_11_420 rfl kd_78 ?_
    refine x_iconst d_M_undo_24 ic_1 ?_
    refine x_iadd d_M_undo_25 ?_
    obtain ⟨S4, e5, h⟩ := lt_inv h
    refine y_putI e5 d_M_undo_26 fl_11_420 rfl rfl kd_78 rfl rfl ?_
    refine x_aload_n d_M_undo_29 rfl 0 rfl ?_
    refine x_bipush d_M_undo_30 bp_41 ?_
    refine x_aload_n d_M_undo_32 rfl 0 rfl ?_
    refine y_getI d_M_undo_33 fl_11_417 rfl kd_78 ?_
    refine x_imul d_M_undo_36 ?_
    obtain ⟨S7, q6, h⟩ := bd_inv h
    refine y_V1v (S1 := S7) d_M_undo_37 ml_11_494 kd_78 rfl (Nat.le_of_ble_eq_true rfl) (Nat.le_of_ble_eq_true rfl) (c_M_exchange (by omega) q6) ?_
    refine x_iconst d_M_undo_40 ic_1 ?_
    obtain rfl := Option.some.inj h
    exact x_ret (r := some (.int (1 : Int32))) d_M_undo_41 ⟨_, rfl, rfl⟩
  · replace h := ite_t c1 h
    refine x_iconst d_M_undo_7 ic_0 ?_
    obtain rfl := Option.some.inj h
    exact x_ret (r := some (.int (0 : Int32))) d_M_undo_8 ⟨_, rfl, rfl⟩
/-! NinetyPlayers$Acts.doAgain -/
def fC_doAgain (F G : Nat) (S : St) (o2 : Nat) : Option (Int32 × St) :=
  gd (isLa o2) (if (S.1 51 0) < (S.1 51 1) then gd (inB (S.1 51 0) 40) (gd (inB (S.1 51 0) 40) (gd (inB (S.1 51 0) 40) (bd (fL_put F G S o2 (S.1 52 (S.1 51 0).toNatClampNeg) (S.1 53 (S.1 51 0).toNatClampNeg) (S.1 55 (S.1 51 0).toNatClampNeg)) fun S6 => lt (sI S6 51 0 ((S6.1 51 0) + (1 : Int32))) fun S7 => some ((1 : Int32), S7)))) else some ((0 : Int32), S))
set_option maxRecDepth 100000 in
set_option maxHeartbeats 4000000 in
theorem c_C_doAgain {X : Nat × (Nat → Int32)} {D F G : Nat} (hD : 2 ≤ D) {S : St} {o2 : Nat} {res : Int32 × St} (h : fC_doAgain F G S o2 = some res) : Ek X (D) mC_doAgain 0 [(0, .ref 51), (1, .ref o2)] [] S (some (.int res.1)) res.2 := by
  obtain ⟨D, rfl⟩ : ∃ E, D = E + 1 := ⟨D - 1, by omega⟩
  unfold fC_doAgain at h
  obtain ⟨gg0, h⟩ := gd_inv h
  refine x_aload_n d_C_doAgain_0 rfl 0 rfl ?_
  refine y_getI d_C_doAgain_1 fl_6_24 rfl kd_51 ?_
  refine x_aload_n d_C_doAgain_4 rfl 0 rfl ?_
  refine y_getI d_C_doAgain_5 fl_6_28 rfl kd_51 ?_
  refine x_icmp_lt (tgt := 13) d_C_doAgain_8 rfl (fun c1 => ?_) (fun c1 => ?_)
  · replace h := ite_t c1 h
    refine x_aload_n d_C_doAgain_13 rfl 1 rfl ?_
    refine x_aload_n d_C_doAgain_14 rfl 0 rfl ?_
    refine y_getR d_C_doAgain_15 fl_6_9 rfl kd_51 rr_51_2 ?_
    refine x_aload_n d_C_doAgain_18 rfl 0 rfl ?_
    refine y_getI d_C_doAgain_19 fl_6_24 rfl kd_51 ?_
    obtain ⟨g2, h⟩ := gd_inv h
    refine y_iald d_C_doAgain_22 kd_52 g2 ?_
    refine x_aload_n d_C_doAgain_23 rfl 0 rfl ?_
    refine y_getR d_C_doAgain_24 fl_6_15 rfl kd_51 rr_51_3 ?_
    refine x_aload_n d_C_doAgain_27 rfl 0 rfl ?_
    refine y_getI d_C_doAgain_28 fl_6_24 rfl kd_51 ?_
    obtain ⟨g3, h⟩ := gd_inv h
    refine y_iald d_C_doAgain_31 kd_53 g3 ?_
    refine x_aload_n d_C_doAgain_32 rfl 0 rfl ?_
    refine y_getR d_C_doAgain_33 fl_6_21 rfl kd_51 rr_51_5 ?_
    refine x_aload_n d_C_doAgain_36 rfl 0 rfl ?_
    refine y_getI d_C_doAgain_37 fl_6_24 rfl kd_51 ?_
    obtain ⟨g4, h⟩ := gd_inv h
    refine y_iald d_C_doAgain_40 kd_55 g4 ?_
    obtain ⟨S6, q5, h⟩ := bd_inv h
    refine y_V3v (S1 := S6) d_C_doAgain_41 ml_6_40 (ksLa gg0) rfl (Nat.le_of_ble_eq_true rfl) (Nat.le_of_ble_eq_true rfl) (c_L_put (by omega) q5) ?_
    refine x_aload_n d_C_doAgain_44 rfl 0 rfl ?_
    refine x_dup d_C_doAgain_45 rfl ?_
    refine y_getI d_C_doAgain_46 fl_6_24 rfl kd_51 ?_
    refine x_iconst d_C_doAgain_49 ic_1 ?_
    refine x_iadd d_C_doAgain_50 ?_
    obtain ⟨S7, e8, h⟩ := lt_inv h
    refine y_putI e8 d_C_doAgain_51 fl_6_24 rfl rfl kd_51 rfl rfl ?_
    refine x_iconst d_C_doAgain_54 ic_1 ?_
    obtain rfl := Option.some.inj h
    exact x_ret (r := some (.int (1 : Int32))) d_C_doAgain_55 ⟨_, rfl, rfl⟩
  · replace h := ite_f c1 h
    refine x_iconst d_C_doAgain_11 ic_0 ?_
    obtain rfl := Option.some.inj h
    exact x_ret (r := some (.int (0 : Int32))) d_C_doAgain_12 ⟨_, rfl, rfl⟩
/-! NinetyPlayers.redo -/
def fN_redo (F G : Nat) (S : St) : Option (Int32 × St) :=
  bd2 (fC_doAgain F G S 30) fun v2 S3 => gd (isB v2) (some (v2, S3))
set_option maxRecDepth 100000 in
set_option maxHeartbeats 4000000 in
theorem c_N_redo {X : Nat × (Nat → Int32)} {D F G : Nat} (hD : 3 ≤ D) {S : St} {res : Int32 × St} (h : fN_redo F G S  = some res) : Ek X (D) mN_redo 0 [(0, .ref 0)] [] S (some (.int res.1)) res.2 := by
  obtain ⟨D, rfl⟩ : ∃ E, D = E + 1 := ⟨D - 1, by omega⟩
  unfold fN_redo at h
  refine x_aload_n d_N_redo_0 rfl 0 rfl ?_
  refine y_getR d_N_redo_1 fl_0_42 rfl kd_0 rr_0_5 ?_
  refine x_aload_n d_N_redo_4 rfl 0 rfl ?_
  refine y_getR d_N_redo_5 fl_0_31 rfl kd_0 rr_0_3 ?_
  obtain ⟨v2, S3, q1, h⟩ := bd2_inv h
  refine y_V1i (v := v2) (S1 := S3) d_N_redo_8 ml_0_254 kd_51 rfl (Nat.le_of_ble_eq_true rfl) (Nat.le_of_ble_eq_true rfl) (c_C_doAgain (by omega) q1) ?_
  obtain ⟨g4, h⟩ := gd_inv h
  obtain rfl := Option.some.inj h
  exact x_ret (r := some (.int v2)) d_N_redo_11 ⟨_, rfl, isB_nar g4⟩
/-! NinetyPlayersModel.redo -/
def fM_redo (F G : Nat) (S : St) : Option (Int32 × St) :=
  if (S.1 78 64) = 0 then some ((0 : Int32), S) else bd (fM_exchange F G S ((41 : Int32) * (S.1 78 63))) fun S3 => lt (sI S3 78 63 ((S3.1 78 63) + (1 : Int32))) fun S4 => lt (sI S4 78 64 ((S4.1 78 64) - (1 : Int32))) fun S6 => some ((1 : Int32), S6)
set_option maxRecDepth 100000 in
set_option maxHeartbeats 4000000 in
theorem c_M_redo {X : Nat × (Nat → Int32)} {D F G : Nat} (hD : 1 ≤ D) {S : St} {res : Int32 × St} (h : fM_redo F G S  = some res) : Ek X (D) mM_redo 0 [(0, .ref 78)] [] S (some (.int res.1)) res.2 := by
  obtain ⟨D, rfl⟩ : ∃ E, D = E + 1 := ⟨D - 1, by omega⟩
  unfold fM_redo at h
  refine x_aload_n d_M_redo_0 rfl 0 rfl ?_
  refine y_getI d_M_redo_1 fl_11_420 rfl kd_78 ?_
  refine x_if_ne (tgt := 9) d_M_redo_4 rfl (fun c1 => ?_) (fun c1 => ?_)
  · replace h := ite_f c1 h
    refine x_aload_n d_M_redo_9 rfl 0 rfl ?_
    refine x_bipush d_M_redo_10 bp_41 ?_
    refine x_aload_n d_M_redo_12 rfl 0 rfl ?_
    refine y_getI d_M_redo_13 fl_11_417 rfl kd_78 ?_
    refine x_imul d_M_redo_16 ?_
    obtain ⟨S3, q2, h⟩ := bd_inv h
    refine y_V1v (S1 := S3) d_M_redo_17 ml_11_494 kd_78 rfl (Nat.le_of_ble_eq_true rfl) (Nat.le_of_ble_eq_true rfl) (c_M_exchange (by omega) q2) ?_
    refine x_aload_n d_M_redo_20 rfl 0 rfl ?_
    refine x_dup d_M_redo_21 rfl ?_
    refine y_getI d_M_redo_22 fl_11_417 rfl kd_78 ?_
    refine x_iconst d_M_redo_25 ic_1 ?_
    refine x_iadd d_M_redo_26 ?_
    obtain ⟨S4, e5, h⟩ := lt_inv h
    refine y_putI e5 d_M_redo_27 fl_11_417 rfl rfl kd_78 rfl rfl ?_
    refine x_aload_n d_M_redo_30 rfl 0 rfl ?_
    refine x_dup d_M_redo_31 rfl ?_
    refine y_getI d_M_redo_32 fl_11_420 rfl kd_78 ?_
    refine x_iconst d_M_redo_35 ic_1 ?_
    refine x_isub d_M_redo_36 ?_
    obtain ⟨S6, e7, h⟩ := lt_inv h
    refine y_putI e7 d_M_redo_37 fl_11_420 rfl rfl kd_78 rfl rfl ?_
    refine x_iconst d_M_redo_40 ic_1 ?_
    obtain rfl := Option.some.inj h
    exact x_ret (r := some (.int (1 : Int32))) d_M_redo_41 ⟨_, rfl, rfl⟩
  · replace h := ite_t c1 h
    refine x_iconst d_M_redo_7 ic_0 ?_
    obtain rfl := Option.some.inj h
    exact x_ret (r := some (.int (0 : Int32))) d_M_redo_8 ⟨_, rfl, rfl⟩
/-! NinetyPlayers.loss -/
def b_N_loss_4 (F G : Nat) (rec : Int32 → Int32 → St → Option (Int32 × St)) (w1 : Int32) (w2 : Int32) (S : St) : Option (Int32 × St) :=
  gd (isSc S.2.2.1) (if (S.1 S.2.2.1 6) ≤ w2 then some (w1, S) else gd (inB w2 10) (if (S.1 31 w2.toNatClampNeg) = 0 then bd2 (fN_missedOf F G S w2) fun v8 S9 => lt (w1 + v8) fun v10 => lt (w2 + 1) fun v12 => rec v10 v12 S9 else lt (w2 + 1) fun v5 => rec w1 v5 S))
def fN_loss (F G : Nat) (S : St) : Option (Int32 × St) :=
  fx3 (b_N_loss_4 F G ) F (0 : Int32) (0 : Int32) S
set_option maxRecDepth 100000 in
set_option maxHeartbeats 4000000 in
theorem T_N_loss_4 {X : Nat × (Nat → Int32)} {D F G : Nat} (hD : 4 ≤ D + 1) : ∀ (f : Nat) (w1 : Int32) (w2 : Int32) (S : St) (res : Int32 × St), fx3 (b_N_loss_4 F G ) f w1 w2 S = some res → Ek X (D + 1) mN_loss 4 [(0, .ref 0), (1, .int w1), (2, .int w2)] [] S (some (.int res.1)) res.2 := by
  refine fx3_ind ?_
  intro rec ih w1 w2 S res h
  unfold b_N_loss_4 at h
  refine x_iload_n d_N_loss_4 rfl 2 rfl ?_
  refine x_aload_n d_N_loss_5 rfl 0 rfl ?_
  refine y_getR d_N_loss_6 fl_0_24 rfl kd_0 rr_told ?_
  obtain ⟨g1, h⟩ := gd_inv h
  refine y_getI d_N_loss_9 fl_0_122 rfl (ksSc g1) ?_
  refine x_icmp_ge (tgt := 41) d_N_loss_12 rfl (fun c2 => ?_) (fun c2 => ?_)
  · replace h := ite_t c2 h
    refine x_iload_n d_N_loss_41 rfl 1 rfl ?_
    obtain rfl := Option.some.inj h
    exact x_ret (r := some (.int w1)) d_N_loss_42 ⟨_, rfl, rfl⟩
  · replace h := ite_f c2 h
    refine x_aload_n d_N_loss_15 rfl 0 rfl ?_
    refine y_getR d_N_loss_16 fl_0_31 rfl kd_0 rr_0_3 ?_
    refine y_getR d_N_loss_19 fl_0_147 rfl kd_30 rr_30_2 ?_
    refine x_iload_n d_N_loss_22 rfl 2 rfl ?_
    obtain ⟨g3, h⟩ := gd_inv h
    refine y_iald d_N_loss_23 kd_31 g3 ?_
    refine x_if_ne (tgt := 35) d_N_loss_24 rfl (fun c4 => ?_) (fun c4 => ?_)
    · replace h := ite_f c4 h
      obtain ⟨v5, e6, h⟩ := lt_inv h
      refine y_iinc (L1 := [(0, .ref 0), (1, .int w1), (2, .int v5)]) e6 ic_1 d_N_loss_35 2 rfl (Nat.le_of_ble_eq_true rfl) rfl rfl ?_
      refine x_goto (tgt := 4) d_N_loss_38 rfl ?_
      exact ih w1 v5 S _ h
    · replace h := ite_t c4 h
      refine x_iload_n d_N_loss_27 rfl 1 rfl ?_
      refine x_aload_n d_N_loss_28 rfl 0 rfl ?_
      refine x_iload_n d_N_loss_29 rfl 2 rfl ?_
      obtain ⟨v8, S9, q7, h⟩ := bd2_inv h
      refine y_V1i (v := v8) (S1 := S9) d_N_loss_30 ml_0_150 kd_0 rfl (Nat.le_of_ble_eq_true rfl) (Nat.le_of_ble_eq_true rfl) (c_N_missedOf (by omega) q7) ?_
      refine x_iadd d_N_loss_33 ?_
      obtain ⟨v10, e11, h⟩ := lt_inv h
      refine y_istore_n (L1 := [(0, .ref 0), (1, .int v10), (2, .int w2)]) e11 d_N_loss_34 rfl (Nat.le_of_ble_eq_true rfl) rfl rfl ?_
      obtain ⟨v12, e13, h⟩ := lt_inv h
      refine y_iinc (L1 := [(0, .ref 0), (1, .int v10), (2, .int v12)]) e13 ic_1 d_N_loss_35 2 rfl (Nat.le_of_ble_eq_true rfl) rfl rfl ?_
      refine x_goto (tgt := 4) d_N_loss_38 rfl ?_
      exact ih v10 v12 S9 _ h
set_option maxRecDepth 100000 in
set_option maxHeartbeats 4000000 in
theorem c_N_loss {X : Nat × (Nat → Int32)} {D F G : Nat} (hD : 4 ≤ D) {S : St} {res : Int32 × St} (h : fN_loss F G S  = some res) : Ek X (D) mN_loss 0 [(0, .ref 0)] [] S (some (.int res.1)) res.2 := by
  obtain ⟨D, rfl⟩ : ∃ E, D = E + 1 := ⟨D - 1, by omega⟩
  unfold fN_loss at h
  refine x_iconst d_N_loss_0 ic_0 ?_
  refine x_istore_n (L1 := [(0, .ref 0), (1, .int (0 : Int32))]) d_N_loss_1 rfl (Nat.le_of_ble_eq_true rfl) rfl rfl ?_
  refine x_iconst d_N_loss_2 ic_0 ?_
  refine x_istore_n (L1 := [(0, .ref 0), (1, .int (0 : Int32)), (2, .int (0 : Int32))]) d_N_loss_3 rfl (Nat.le_of_ble_eq_true rfl) rfl rfl ?_
  refine T_N_loss_4 (by omega)   F (0 : Int32) (0 : Int32) S _ h
/-! NinetyPlayersModel.layMissed -/
def b_M_layMissed_2 (F G : Nat) (rec : Int32 → St → Option (St)) (w1 : Int32) (S : St) : Option (St) :=
  if (S.1 78 48) ≤ w1 then some S else bd2 (fM_missedOf F G S w1) fun v3 S4 => gd (inB w1 10) (lt (sI S4 107 w1.toNatClampNeg v3) fun S6 => lt (w1 + 1) fun v8 => rec v8 S6)
def fM_layMissed (F G : Nat) (S : St) : Option (St) :=
  fx2 (b_M_layMissed_2 F G ) F (0 : Int32) S
set_option maxRecDepth 100000 in
set_option maxHeartbeats 4000000 in
theorem T_M_layMissed_2 {X : Nat × (Nat → Int32)} {D F G : Nat} (hD : 3 ≤ D + 1) : ∀ (f : Nat) (w1 : Int32) (S : St) (res : St), fx2 (b_M_layMissed_2 F G ) f w1 S = some res → Ek X (D + 1) mM_layMissed 2 [(0, .ref 78), (1, .int w1)] [] S none res := by
  refine fx2_ind ?_
  intro rec ih w1 S res h
  unfold b_M_layMissed_2 at h
  refine x_iload_n d_M_layMissed_2 rfl 1 rfl ?_
  refine x_aload_n d_M_layMissed_3 rfl 0 rfl ?_
  refine y_getI d_M_layMissed_4 fl_11_322 rfl kd_78 ?_
  refine x_icmp_ge (tgt := 27) d_M_layMissed_7 rfl (fun c1 => ?_) (fun c1 => ?_)
  · replace h := ite_t c1 h
    obtain rfl := Option.some.inj h
    exact x_ret (r := none) d_M_layMissed_27 rfl
  · replace h := ite_f c1 h
    refine x_aload_n d_M_layMissed_10 rfl 0 rfl ?_
    refine y_getR d_M_layMissed_11 fl_11_114 rfl kd_78 rr_78_67 ?_
    refine x_iload_n d_M_layMissed_14 rfl 1 rfl ?_
    refine x_aload_n d_M_layMissed_15 rfl 0 rfl ?_
    refine x_iload_n d_M_layMissed_16 rfl 1 rfl ?_
    obtain ⟨v3, S4, q2, h⟩ := bd2_inv h
    refine y_V1i (v := v3) (S1 := S4) d_M_layMissed_17 ml_11_467 kd_78 rfl (Nat.le_of_ble_eq_true rfl) (Nat.le_of_ble_eq_true rfl) (c_M_missedOf (by omega) q2) ?_
    obtain ⟨g5, h⟩ := gd_inv h
    obtain ⟨S6, e7, h⟩ := lt_inv h
    refine y_iast e7 d_M_layMissed_20 kd_107 g5 ?_
    obtain ⟨v8, e9, h⟩ := lt_inv h
    refine y_iinc (L1 := [(0, .ref 78), (1, .int v8)]) e9 ic_1 d_M_layMissed_21 1 rfl (Nat.le_of_ble_eq_true rfl) rfl rfl ?_
    refine x_goto (tgt := 2) d_M_layMissed_24 rfl ?_
    exact ih v8 S6 _ h
set_option maxRecDepth 100000 in
set_option maxHeartbeats 4000000 in
theorem c_M_layMissed {X : Nat × (Nat → Int32)} {D F G : Nat} (hD : 3 ≤ D) {S : St} {res : St} (h : fM_layMissed F G S  = some res) : Ek X (D) mM_layMissed 0 [(0, .ref 78)] [] S none res := by
  obtain ⟨D, rfl⟩ : ∃ E, D = E + 1 := ⟨D - 1, by omega⟩
  unfold fM_layMissed at h
  refine x_iconst d_M_layMissed_0 ic_0 ?_
  refine x_istore_n (L1 := [(0, .ref 78), (1, .int (0 : Int32))]) d_M_layMissed_1 rfl (Nat.le_of_ble_eq_true rfl) rfl rfl ?_
  refine T_M_layMissed_2 (by omega)   F (0 : Int32) S _ h
/-! NinetyPlayersModel.missedBy -/
def b_M_missedBy_4 (F G : Nat) (S : St) (z1 : Int32) (rec : Int32 → Int32 → Option (Int32)) (w2 : Int32) (w3 : Int32) : Option (Int32) :=
  if (S.1 78 48) ≤ w3 then some w2 else if ((z1 >>> (w3 &&& 31)) &&& (1 : Int32)) = (1 : Int32) then gd (inB w3 10) (lt (w2 + (S.1 107 w3.toNatClampNeg)) fun v8 => lt (w3 + 1) fun v10 => rec v8 v10) else lt (w2 + (0 : Int32)) fun v3 => lt (w3 + 1) fun v5 => rec v3 v5
def fM_missedBy (F G : Nat) (S : St) (p1 : Int32) : Option (Int32) :=
  fx2 (b_M_missedBy_4 F G S p1) F (0 : Int32) (0 : Int32)
set_option maxRecDepth 100000 in
set_option maxHeartbeats 4000000 in
theorem T_M_missedBy_4 {X : Nat × (Nat → Int32)} {D F G : Nat} (hD : 0 ≤ D) {S : St} {z1 : Int32} : ∀ (f : Nat) (w2 : Int32) (w3 : Int32) (res : Int32), fx2 (b_M_missedBy_4 F G S z1 ) f w2 w3 = some res → Ek X (D) mM_missedBy 4 [(0, .ref 78), (1, .int z1), (2, .int w2), (3, .int w3)] [] S (some (.int res)) S := by
  refine fx2_ind ?_
  intro rec ih w2 w3 res h
  unfold b_M_missedBy_4 at h
  refine x_iload_n d_M_missedBy_4 rfl 3 rfl ?_
  refine x_aload_n d_M_missedBy_5 rfl 0 rfl ?_
  refine y_getI d_M_missedBy_6 fl_11_322 rfl kd_78 ?_
  refine x_icmp_ge (tgt := 40) d_M_missedBy_9 rfl (fun c1 => ?_) (fun c1 => ?_)
  · replace h := ite_t c1 h
    refine x_iload_n d_M_missedBy_40 rfl 2 rfl ?_
    obtain rfl := Option.some.inj h
    exact x_ret (r := some (.int w2)) d_M_missedBy_41 ⟨_, rfl, rfl⟩
  · replace h := ite_f c1 h
    refine x_iload_n d_M_missedBy_12 rfl 2 rfl ?_
    refine x_iload_n d_M_missedBy_13 rfl 1 rfl ?_
    refine x_iload_n d_M_missedBy_14 rfl 3 rfl ?_
    refine x_ishr d_M_missedBy_15 ?_
    refine x_iconst d_M_missedBy_16 ic_1 ?_
    refine x_iand d_M_missedBy_17 ?_
    refine x_iconst d_M_missedBy_18 ic_1 ?_
    refine x_icmp_ne (tgt := 31) d_M_missedBy_19 rfl (fun c2 => ?_) (fun c2 => ?_)
    · replace h := ite_f c2 h
      refine x_iconst d_M_missedBy_31 ic_0 ?_
      refine x_iadd d_M_missedBy_32 ?_
      obtain ⟨v3, e4, h⟩ := lt_inv h
      refine y_istore_n (L1 := [(0, .ref 78), (1, .int z1), (2, .int v3), (3, .int w3)]) e4 d_M_missedBy_33 rfl (Nat.le_of_ble_eq_true rfl) rfl rfl ?_
      obtain ⟨v5, e6, h⟩ := lt_inv h
      refine y_iinc (L1 := [(0, .ref 78), (1, .int z1), (2, .int v3), (3, .int v5)]) e6 ic_1 d_M_missedBy_34 3 rfl (Nat.le_of_ble_eq_true rfl) rfl rfl ?_
      refine x_goto (tgt := 4) d_M_missedBy_37 rfl ?_
      exact ih v3 v5 _ h
    · replace h := ite_t c2 h
      refine x_aload_n d_M_missedBy_22 rfl 0 rfl ?_
      refine y_getR d_M_missedBy_23 fl_11_114 rfl kd_78 rr_78_67 ?_
      refine x_iload_n d_M_missedBy_26 rfl 3 rfl ?_
      obtain ⟨g7, h⟩ := gd_inv h
      refine y_iald d_M_missedBy_27 kd_107 g7 ?_
      refine x_goto (tgt := 32) d_M_missedBy_28 rfl ?_
      refine x_iadd d_M_missedBy_32 ?_
      obtain ⟨v8, e9, h⟩ := lt_inv h
      refine y_istore_n (L1 := [(0, .ref 78), (1, .int z1), (2, .int v8), (3, .int w3)]) e9 d_M_missedBy_33 rfl (Nat.le_of_ble_eq_true rfl) rfl rfl ?_
      obtain ⟨v10, e11, h⟩ := lt_inv h
      refine y_iinc (L1 := [(0, .ref 78), (1, .int z1), (2, .int v8), (3, .int v10)]) e11 ic_1 d_M_missedBy_34 3 rfl (Nat.le_of_ble_eq_true rfl) rfl rfl ?_
      refine x_goto (tgt := 4) d_M_missedBy_37 rfl ?_
      exact ih v8 v10 _ h
set_option maxRecDepth 100000 in
set_option maxHeartbeats 4000000 in
theorem c_M_missedBy {X : Nat × (Nat → Int32)} {D F G : Nat} (hD : 0 ≤ D) {S : St} {p1 : Int32} {res : Int32} (h : fM_missedBy F G S p1 = some res) : Ek X (D) mM_missedBy 0 [(0, .ref 78), (1, .int p1)] [] S (some (.int res)) S := by
  unfold fM_missedBy at h
  refine x_iconst d_M_missedBy_0 ic_0 ?_
  refine x_istore_n (L1 := [(0, .ref 78), (1, .int p1), (2, .int (0 : Int32))]) d_M_missedBy_1 rfl (Nat.le_of_ble_eq_true rfl) rfl rfl ?_
  refine x_iconst d_M_missedBy_2 ic_0 ?_
  refine x_istore_n (L1 := [(0, .ref 78), (1, .int p1), (2, .int (0 : Int32)), (3, .int (0 : Int32))]) d_M_missedBy_3 rfl (Nat.le_of_ble_eq_true rfl) rfl rfl ?_
  refine T_M_missedBy_4 (by omega)   F (0 : Int32) (0 : Int32) _ h
/-! NinetyPlayersModel.loss -/
def fM_loss (F G : Nat) (S : St) : Option (Int32 × St) :=
  bd (fM_fill F G S ) fun S2 => bd (fM_layMissed F G S2 ) fun S4 => bd (fM_given F G S4 (0 : Int32)) fun v6 => bd (fM_missedBy F G S4 v6) fun v8 => some (v8, S4)
set_option maxRecDepth 100000 in
set_option maxHeartbeats 4000000 in
theorem c_M_loss {X : Nat × (Nat → Int32)} {D F G : Nat} (hD : 4 ≤ D) {S : St} {res : Int32 × St} (h : fM_loss F G S  = some res) : Ek X (D) mM_loss 0 [(0, .ref 78)] [] S (some (.int res.1)) res.2 := by
  obtain ⟨D, rfl⟩ : ∃ E, D = E + 1 := ⟨D - 1, by omega⟩
  unfold fM_loss at h
  refine x_aload_n d_M_loss_0 rfl 0 rfl ?_
  obtain ⟨S2, q1, h⟩ := bd_inv h
  refine y_V0v (S1 := S2) d_M_loss_1 ml_11_464 kd_78 rfl (Nat.le_of_ble_eq_true rfl) (Nat.le_of_ble_eq_true rfl) (c_M_fill (by omega) q1) ?_
  refine x_aload_n d_M_loss_4 rfl 0 rfl ?_
  obtain ⟨S4, q3, h⟩ := bd_inv h
  refine y_V0v (S1 := S4) d_M_loss_5 ml_11_497 kd_78 rfl (Nat.le_of_ble_eq_true rfl) (Nat.le_of_ble_eq_true rfl) (c_M_layMissed (by omega) q3) ?_
  refine x_aload_n d_M_loss_8 rfl 0 rfl ?_
  refine x_aload_n d_M_loss_9 rfl 0 rfl ?_
  refine x_iconst d_M_loss_10 ic_0 ?_
  obtain ⟨v6, q5, h⟩ := bd_inv h
  refine y_V1i (v := v6) (S1 := S4) d_M_loss_11 ml_11_454 kd_78 rfl (Nat.le_of_ble_eq_true rfl) (Nat.le_of_ble_eq_true rfl) (c_M_given (by omega) q5) ?_
  obtain ⟨v8, q7, h⟩ := bd_inv h
  refine y_V1i (v := v8) (S1 := S4) d_M_loss_14 ml_11_500 kd_78 rfl (Nat.le_of_ble_eq_true rfl) (Nat.le_of_ble_eq_true rfl) (c_M_missedBy (by omega) q7) ?_
  obtain rfl := Option.some.inj h
  exact x_ret (r := some (.int v8)) d_M_loss_17 ⟨_, rfl, rfl⟩
/-! NinetyPlayers.weighAll -/
def b_N_weighAll_2 (F G : Nat) (rec : Int32 → St → Option (St)) (w1 : Int32) (S : St) : Option (St) :=
  gd (isSc S.2.2.1) (if (S.1 S.2.2.1 6) ≤ w1 then some S else bd2 (fN_missedOf F G S w1) fun v4 S5 => gd (inB w1 10) (lt (sI S5 62 w1.toNatClampNeg v4) fun S7 => lt (w1 + 1) fun v9 => rec v9 S7))
def fN_weighAll (F G : Nat) (S : St) : Option (St) :=
  fx2 (b_N_weighAll_2 F G ) F (0 : Int32) S
set_option maxRecDepth 100000 in
set_option maxHeartbeats 4000000 in
theorem T_N_weighAll_2 {X : Nat × (Nat → Int32)} {D F G : Nat} (hD : 4 ≤ D + 1) : ∀ (f : Nat) (w1 : Int32) (S : St) (res : St), fx2 (b_N_weighAll_2 F G ) f w1 S = some res → Ek X (D + 1) mN_weighAll 2 [(0, .ref 0), (1, .int w1)] [] S none res := by
  refine fx2_ind ?_
  intro rec ih w1 S res h
  unfold b_N_weighAll_2 at h
  refine x_iload_n d_N_weighAll_2 rfl 1 rfl ?_
  refine x_aload_n d_N_weighAll_3 rfl 0 rfl ?_
  refine y_getR d_N_weighAll_4 fl_0_24 rfl kd_0 rr_told ?_
  obtain ⟨g1, h⟩ := gd_inv h
  refine y_getI d_N_weighAll_7 fl_0_122 rfl (ksSc g1) ?_
  refine x_icmp_ge (tgt := 30) d_N_weighAll_10 rfl (fun c2 => ?_) (fun c2 => ?_)
  · replace h := ite_t c2 h
    obtain rfl := Option.some.inj h
    exact x_ret (r := none) d_N_weighAll_30 rfl
  · replace h := ite_f c2 h
    refine x_aload_n d_N_weighAll_13 rfl 0 rfl ?_
    refine y_getR d_N_weighAll_14 fl_0_62 rfl kd_0 rr_0_8 ?_
    refine x_iload_n d_N_weighAll_17 rfl 1 rfl ?_
    refine x_aload_n d_N_weighAll_18 rfl 0 rfl ?_
    refine x_iload_n d_N_weighAll_19 rfl 1 rfl ?_
    obtain ⟨v4, S5, q3, h⟩ := bd2_inv h
    refine y_V1i (v := v4) (S1 := S5) d_N_weighAll_20 ml_0_150 kd_0 rfl (Nat.le_of_ble_eq_true rfl) (Nat.le_of_ble_eq_true rfl) (c_N_missedOf (by omega) q3) ?_
    obtain ⟨g6, h⟩ := gd_inv h
    obtain ⟨S7, e8, h⟩ := lt_inv h
    refine y_iast e8 d_N_weighAll_23 kd_62 g6 ?_
    obtain ⟨v9, e10, h⟩ := lt_inv h
    refine y_iinc (L1 := [(0, .ref 0), (1, .int v9)]) e10 ic_1 d_N_weighAll_24 1 rfl (Nat.le_of_ble_eq_true rfl) rfl rfl ?_
    refine x_goto (tgt := 2) d_N_weighAll_27 rfl ?_
    exact ih v9 S7 _ h
set_option maxRecDepth 100000 in
set_option maxHeartbeats 4000000 in
theorem c_N_weighAll {X : Nat × (Nat → Int32)} {D F G : Nat} (hD : 4 ≤ D) {S : St} {res : St} (h : fN_weighAll F G S  = some res) : Ek X (D) mN_weighAll 0 [(0, .ref 0)] [] S none res := by
  obtain ⟨D, rfl⟩ : ∃ E, D = E + 1 := ⟨D - 1, by omega⟩
  unfold fN_weighAll at h
  refine x_iconst d_N_weighAll_0 ic_0 ?_
  refine x_istore_n (L1 := [(0, .ref 0), (1, .int (0 : Int32))]) d_N_weighAll_1 rfl (Nat.le_of_ble_eq_true rfl) rfl rfl ?_
  refine T_N_weighAll_2 (by omega)   F (0 : Int32) S _ h
/-! NinetyPlayers$Arranger.findBars -/
def b_A_findBars_4 (F G : Nat) (S : St) (z1 : Int32) (k49 : Int32 → Option (St)) (rec : Int32 → Int32 → Option (St)) (w2 : Int32) (w3 : Int32) : Option (St) :=
  if (S.1 57 0) ≤ w3 then k49 w2 else bd (fK_timelyAt F G S w3) fun v3 => if ((v3 >>> (z1 &&& 31)) &&& (1 : Int32)) = 0 then lt (w2 ||| (0 : Int32)) fun v5 => lt (w3 + 1) fun v7 => rec v5 v7 else lt (w2 ||| v3) fun v9 => lt (w3 + 1) fun v11 => rec v9 v11
def j_A_findBars_172 (F G : Nat) (z1 : Int32) (z2 : Int32) (rec : Int32 → St → Option (St)) (S : St) (y3 : Int32) (y4 : Int32) (s1 : Int32) (s2 : Int32) (s3 : Int32) : Option (St) :=
  gd (inB s1 10) (lt (sI S 64 s1.toNatClampNeg (s2 ||| s3)) fun S43 => gd (inB z1 10) (if y4 < 0 then gd (inB z1 10) (lt (sI S43 65 z1.toNatClampNeg ((S43.1 65 z1.toNatClampNeg) ||| (0 : Int32))) fun S48 => lt (y3 + 1) fun v50 => rec v50 S48) else gd (inB z1 10) (lt (sI S43 65 z1.toNatClampNeg ((S43.1 65 z1.toNatClampNeg) ||| ((1 : Int32) <<< (y3 &&& 31)))) fun S53 => lt (y3 + 1) fun v55 => rec v55 S53)))
def j_A_findBars_151 (F G : Nat) (z1 : Int32) (z2 : Int32) (rec : Int32 → St → Option (St)) (S : St) (y3 : Int32) (y4 : Int32) (s1 : Int32) (s2 : Int32) (s3 : Int32) : Option (St) :=
  gd (inB s1 10) (lt (sI S 63 s1.toNatClampNeg (s2 ||| s3)) fun S38 => gd (inB z1 10) (if 0 < y4 then j_A_findBars_172 F G z1 z2 rec  S38 y3 y4 z1 (S38.1 64 z1.toNatClampNeg) (0 : Int32) else j_A_findBars_172 F G z1 z2 rec  S38 y3 y4 z1 (S38.1 64 z1.toNatClampNeg) ((1 : Int32) <<< (y3 &&& 31))))
def j_A_findBars_144 (F G : Nat) (z1 : Int32) (z2 : Int32) (rec : Int32 → St → Option (St)) (S : St) (y3 : Int32) (y4 : Int32) (s1 : Int32) (s2 : Int32) : Option (St) :=
  j_A_findBars_151 F G z1 z2 rec  S y3 y4 s1 s2 ((1 : Int32) <<< (y3 &&& 31))
def b_A_findBars_72 (F G : Nat) (z1 : Int32) (z2 : Int32) (rec : Int32 → St → Option (St)) (w3 : Int32) (S : St) : Option (St) :=
  if (S.1 57 1) ≤ w3 then some S else if w3 = z1 then lt (w3 + 1) fun v25 => rec v25 S else if ((z2 >>> (w3 &&& 31)) &&& (1 : Int32)) = 0 then lt (w3 + 1) fun v28 => rec v28 S else gd (inB w3 10) (gd (inB z1 10) (lt ((S.1 58 w3.toNatClampNeg) - (S.1 58 z1.toNatClampNeg)) fun v32 => gd (inB z1 10) (if v32 = 0 then j_A_findBars_144 F G z1 z2 rec  S w3 v32 z1 (S.1 63 z1.toNatClampNeg) else if (if 0 ≤ v32 then v32 else 0 - v32) ≤ (S.1 57 2) then j_A_findBars_151 F G z1 z2 rec  S w3 v32 z1 (S.1 63 z1.toNatClampNeg) (0 : Int32) else j_A_findBars_144 F G z1 z2 rec  S w3 v32 z1 (S.1 63 z1.toNatClampNeg))))
def fA_findBars (F G : Nat) (S : St) (p1 : Int32) : Option (St) :=
  fx2 (b_A_findBars_4 F G S p1 (fun v13 => gd (inB p1 10) (lt (sI S 63 p1.toNatClampNeg (0 : Int32)) fun S15 => gd (inB p1 10) (lt (sI S15 64 p1.toNatClampNeg (0 : Int32)) fun S18 => gd (inB p1 10) (lt (sI S18 65 p1.toNatClampNeg (0 : Int32)) fun S21 => fx2 (b_A_findBars_72 F G p1 v13) F (0 : Int32) S21))))) F (0 : Int32) (0 : Int32)
set_option maxRecDepth 100000 in
set_option maxHeartbeats 4000000 in
theorem T_A_findBars_4 {X : Nat × (Nat → Int32)} {D F G : Nat} (hD : 1 ≤ D + 1) {S : St} {z1 : Int32} {k49 : Int32 → Option (St)} (hk49 : ∀ (u2 : Int32) (res : St), k49 u2 = some res → Ek X (D + 1) mA_findBars 49 [(0, .ref 56), (1, .int z1), (2, .int u2)] [] S none res) : ∀ (f : Nat) (w2 : Int32) (w3 : Int32) (res : St), fx2 (b_A_findBars_4 F G S z1 k49 ) f w2 w3 = some res → Ek X (D + 1) mA_findBars 4 [(0, .ref 56), (1, .int z1), (2, .int w2), (3, .int w3)] [] S none res := by
  refine fx2_ind ?_
  intro rec ih w2 w3 res h
  unfold b_A_findBars_4 at h
  refine x_iload_n d_A_findBars_4 rfl 3 rfl ?_
  refine x_aload_n d_A_findBars_5 rfl 0 rfl ?_
  refine y_getR d_A_findBars_6 fl_8_12 rfl kd_56 rr_56_0 ?_
  refine y_getI d_A_findBars_9 fl_8_58 rfl kd_57 ?_
  refine x_icmp_ge (tgt := 49) d_A_findBars_12 rfl (fun c1 => ?_) (fun c1 => ?_)
  · replace h := ite_t c1 h
    refine y_pick (L1 := [(0, .ref 56), (1, .int z1), (2, .int w2)]) [0, 1, 2] rfl ?_
    exact hk49 w2 _ h
  · replace h := ite_f c1 h
    refine x_aload_n d_A_findBars_15 rfl 0 rfl ?_
    refine y_getR d_A_findBars_16 fl_8_12 rfl kd_56 rr_56_0 ?_
    refine x_iload_n d_A_findBars_19 rfl 3 rfl ?_
    obtain ⟨v3, q2, h⟩ := bd_inv h
    refine y_V1i (v := v3) (S1 := S) d_A_findBars_20 ml_8_61 kd_57 rfl (Nat.le_of_ble_eq_true rfl) (Nat.le_of_ble_eq_true rfl) (c_K_timelyAt (by omega) q2) ?_
    refine x_istore (L1 := [(0, .ref 56), (1, .int z1), (2, .int w2), (3, .int w3), (4, .int v3)]) d_A_findBars_23 (Nat.le_of_ble_eq_true rfl) rfl rfl ?_
    refine x_iload_n d_A_findBars_25 rfl 2 rfl ?_
    refine x_iload d_A_findBars_26 4 rfl ?_
    refine x_iload_n d_A_findBars_28 rfl 1 rfl ?_
    refine x_ishr d_A_findBars_29 ?_
    refine x_iconst d_A_findBars_30 ic_1 ?_
    refine x_iand d_A_findBars_31 ?_
    refine x_if_eq (tgt := 40) d_A_findBars_32 rfl (fun c4 => ?_) (fun c4 => ?_)
    · replace h := ite_t c4 h
      refine x_iconst d_A_findBars_40 ic_0 ?_
      refine x_ior d_A_findBars_41 ?_
      obtain ⟨v5, e6, h⟩ := lt_inv h
      refine y_istore_n (L1 := [(0, .ref 56), (1, .int z1), (2, .int v5), (3, .int w3), (4, .int v3)]) e6 d_A_findBars_42 rfl (Nat.le_of_ble_eq_true rfl) rfl rfl ?_
      obtain ⟨v7, e8, h⟩ := lt_inv h
      refine y_iinc (L1 := [(0, .ref 56), (1, .int z1), (2, .int v5), (3, .int v7), (4, .int v3)]) e8 ic_1 d_A_findBars_43 3 rfl (Nat.le_of_ble_eq_true rfl) rfl rfl ?_
      refine x_goto (tgt := 4) d_A_findBars_46 rfl ?_
      refine y_pick (L1 := [(0, .ref 56), (1, .int z1), (2, .int v5), (3, .int v7)]) [0, 1, 2, 3] rfl ?_
      exact ih v5 v7 _ h
    · replace h := ite_f c4 h
      refine x_iload d_A_findBars_35 4 rfl ?_
      refine x_goto (tgt := 41) d_A_findBars_37 rfl ?_
      refine x_ior d_A_findBars_41 ?_
      obtain ⟨v9, e10, h⟩ := lt_inv h
      refine y_istore_n (L1 := [(0, .ref 56), (1, .int z1), (2, .int v9), (3, .int w3), (4, .int v3)]) e10 d_A_findBars_42 rfl (Nat.le_of_ble_eq_true rfl) rfl rfl ?_
      obtain ⟨v11, e12, h⟩ := lt_inv h
      refine y_iinc (L1 := [(0, .ref 56), (1, .int z1), (2, .int v9), (3, .int v11), (4, .int v3)]) e12 ic_1 d_A_findBars_43 3 rfl (Nat.le_of_ble_eq_true rfl) rfl rfl ?_
      refine x_goto (tgt := 4) d_A_findBars_46 rfl ?_
      refine y_pick (L1 := [(0, .ref 56), (1, .int z1), (2, .int v9), (3, .int v11)]) [0, 1, 2, 3] rfl ?_
      exact ih v9 v11 _ h
set_option maxRecDepth 100000 in
set_option maxHeartbeats 4000000 in
theorem T_A_findBars_72 {X : Nat × (Nat → Int32)} {D F G : Nat} (hD : 1 ≤ D + 1) {z1 : Int32} {z2 : Int32} : ∀ (f : Nat) (w3 : Int32) (S : St) (res : St), fx2 (b_A_findBars_72 F G z1 z2 ) f w3 S = some res → Ek X (D + 1) mA_findBars 72 [(0, .ref 56), (1, .int z1), (2, .int z2), (3, .int w3)] [] S none res := by
  refine fx2_ind ?_
  intro rec ih w3 S res h
  unfold b_A_findBars_72 at h
  have J172 : ∀ (S : St) (y3 : Int32) (y4 : Int32) (s1 : Int32) (s2 : Int32) (s3 : Int32) (res : St), j_A_findBars_172 F G z1 z2 rec S y3 y4 s1 s2 s3 = some res → Ek X (D + 1) mA_findBars 172 [(0, .ref 56), (1, .int z1), (2, .int z2), (3, .int y3), (4, .int y4)] [.int s3, .int s2, .int s1, .ref 64] S none res := by
    intro S y3 y4 s1 s2 s3 res h
    unfold j_A_findBars_172 at h
    refine x_ior d_A_findBars_172 ?_
    obtain ⟨g42, h⟩ := gd_inv h
    obtain ⟨S43, e44, h⟩ := lt_inv h
    refine y_iast e44 d_A_findBars_173 kd_64 g42 ?_
    refine x_aload_n d_A_findBars_174 rfl 0 rfl ?_
    refine y_getR d_A_findBars_175 fl_8_28 rfl kd_56 rr_56_7 ?_
    refine x_iload_n d_A_findBars_178 rfl 1 rfl ?_
    refine x_dup2 d_A_findBars_179 rfl rfl ?_
    obtain ⟨g45, h⟩ := gd_inv h
    refine y_iald d_A_findBars_180 kd_65 g45 ?_
    refine x_iload d_A_findBars_181 4 rfl ?_
    refine x_if_lt (tgt := 192) d_A_findBars_183 rfl (fun c46 => ?_) (fun c46 => ?_)
    · replace h := ite_t c46 h
      refine x_iconst d_A_findBars_192 ic_0 ?_
      refine x_ior d_A_findBars_193 ?_
      obtain ⟨g47, h⟩ := gd_inv h
      obtain ⟨S48, e49, h⟩ := lt_inv h
      refine y_iast e49 d_A_findBars_194 kd_65 g47 ?_
      obtain ⟨v50, e51, h⟩ := lt_inv h
      refine y_iinc (L1 := [(0, .ref 56), (1, .int z1), (2, .int z2), (3, .int v50), (4, .int y4)]) e51 ic_1 d_A_findBars_195 3 rfl (Nat.le_of_ble_eq_true rfl) rfl rfl ?_
      refine x_goto (tgt := 72) d_A_findBars_198 rfl ?_
      refine y_pick (L1 := [(0, .ref 56), (1, .int z1), (2, .int z2), (3, .int v50)]) [0, 1, 2, 3] rfl ?_
      exact ih v50 S48 _ h
    · replace h := ite_f c46 h
      refine x_iconst d_A_findBars_186 ic_1 ?_
      refine x_iload_n d_A_findBars_187 rfl 3 rfl ?_
      refine x_ishl d_A_findBars_188 ?_
      refine x_goto (tgt := 193) d_A_findBars_189 rfl ?_
      refine x_ior d_A_findBars_193 ?_
      obtain ⟨g52, h⟩ := gd_inv h
      obtain ⟨S53, e54, h⟩ := lt_inv h
      refine y_iast e54 d_A_findBars_194 kd_65 g52 ?_
      obtain ⟨v55, e56, h⟩ := lt_inv h
      refine y_iinc (L1 := [(0, .ref 56), (1, .int z1), (2, .int z2), (3, .int v55), (4, .int y4)]) e56 ic_1 d_A_findBars_195 3 rfl (Nat.le_of_ble_eq_true rfl) rfl rfl ?_
      refine x_goto (tgt := 72) d_A_findBars_198 rfl ?_
      refine y_pick (L1 := [(0, .ref 56), (1, .int z1), (2, .int z2), (3, .int v55)]) [0, 1, 2, 3] rfl ?_
      exact ih v55 S53 _ h
  have J151 : ∀ (S : St) (y3 : Int32) (y4 : Int32) (s1 : Int32) (s2 : Int32) (s3 : Int32) (res : St), j_A_findBars_151 F G z1 z2 rec S y3 y4 s1 s2 s3 = some res → Ek X (D + 1) mA_findBars 151 [(0, .ref 56), (1, .int z1), (2, .int z2), (3, .int y3), (4, .int y4)] [.int s3, .int s2, .int s1, .ref 63] S none res := by
    intro S y3 y4 s1 s2 s3 res h
    unfold j_A_findBars_151 at h
    refine x_ior d_A_findBars_151 ?_
    obtain ⟨g37, h⟩ := gd_inv h
    obtain ⟨S38, e39, h⟩ := lt_inv h
    refine y_iast e39 d_A_findBars_152 kd_63 g37 ?_
    refine x_aload_n d_A_findBars_153 rfl 0 rfl ?_
    refine y_getR d_A_findBars_154 fl_8_25 rfl kd_56 rr_56_6 ?_
    refine x_iload_n d_A_findBars_157 rfl 1 rfl ?_
    refine x_dup2 d_A_findBars_158 rfl rfl ?_
    obtain ⟨g40, h⟩ := gd_inv h
    refine y_iald d_A_findBars_159 kd_64 g40 ?_
    refine x_iload d_A_findBars_160 4 rfl ?_
    refine x_if_gt (tgt := 171) d_A_findBars_162 rfl (fun c41 => ?_) (fun c41 => ?_)
    · replace h := ite_t c41 h
      refine x_iconst d_A_findBars_171 ic_0 ?_
      exact J172 S38 y3 y4 z1 (S38.1 64 z1.toNatClampNeg) (0 : Int32) _ h
    · replace h := ite_f c41 h
      refine x_iconst d_A_findBars_165 ic_1 ?_
      refine x_iload_n d_A_findBars_166 rfl 3 rfl ?_
      refine x_ishl d_A_findBars_167 ?_
      refine x_goto (tgt := 172) d_A_findBars_168 rfl ?_
      exact J172 S38 y3 y4 z1 (S38.1 64 z1.toNatClampNeg) ((1 : Int32) <<< (y3 &&& 31)) _ h
  have J144 : ∀ (S : St) (y3 : Int32) (y4 : Int32) (s1 : Int32) (s2 : Int32) (res : St), j_A_findBars_144 F G z1 z2 rec S y3 y4 s1 s2 = some res → Ek X (D + 1) mA_findBars 144 [(0, .ref 56), (1, .int z1), (2, .int z2), (3, .int y3), (4, .int y4)] [.int s2, .int s1, .ref 63] S none res := by
    intro S y3 y4 s1 s2 res h
    unfold j_A_findBars_144 at h
    refine x_iconst d_A_findBars_144 ic_1 ?_
    refine x_iload_n d_A_findBars_145 rfl 3 rfl ?_
    refine x_ishl d_A_findBars_146 ?_
    refine x_goto (tgt := 151) d_A_findBars_147 rfl ?_
    exact J151 S y3 y4 s1 s2 ((1 : Int32) <<< (y3 &&& 31)) _ h
  refine x_iload_n d_A_findBars_72 rfl 3 rfl ?_
  refine x_aload_n d_A_findBars_73 rfl 0 rfl ?_
  refine y_getR d_A_findBars_74 fl_8_12 rfl kd_56 rr_56_0 ?_
  refine y_getI d_A_findBars_77 fl_8_41 rfl kd_57 ?_
  refine x_icmp_ge (tgt := 201) d_A_findBars_80 rfl (fun c23 => ?_) (fun c23 => ?_)
  · replace h := ite_t c23 h
    obtain rfl := Option.some.inj h
    exact x_ret (r := none) d_A_findBars_201 rfl
  · replace h := ite_f c23 h
    refine x_iload_n d_A_findBars_83 rfl 3 rfl ?_
    refine x_iload_n d_A_findBars_84 rfl 1 rfl ?_
    refine x_icmp_eq (tgt := 195) d_A_findBars_85 rfl (fun c24 => ?_) (fun c24 => ?_)
    · replace h := ite_t c24 h
      obtain ⟨v25, e26, h⟩ := lt_inv h
      refine y_iinc (L1 := [(0, .ref 56), (1, .int z1), (2, .int z2), (3, .int v25)]) e26 ic_1 d_A_findBars_195 3 rfl (Nat.le_of_ble_eq_true rfl) rfl rfl ?_
      refine x_goto (tgt := 72) d_A_findBars_198 rfl ?_
      exact ih v25 S _ h
    · replace h := ite_f c24 h
      refine x_iload_n d_A_findBars_88 rfl 2 rfl ?_
      refine x_iload_n d_A_findBars_89 rfl 3 rfl ?_
      refine x_ishr d_A_findBars_90 ?_
      refine x_iconst d_A_findBars_91 ic_1 ?_
      refine x_iand d_A_findBars_92 ?_
      refine x_if_eq (tgt := 195) d_A_findBars_93 rfl (fun c27 => ?_) (fun c27 => ?_)
      · replace h := ite_t c27 h
        obtain ⟨v28, e29, h⟩ := lt_inv h
        refine y_iinc (L1 := [(0, .ref 56), (1, .int z1), (2, .int z2), (3, .int v28)]) e29 ic_1 d_A_findBars_195 3 rfl (Nat.le_of_ble_eq_true rfl) rfl rfl ?_
        refine x_goto (tgt := 72) d_A_findBars_198 rfl ?_
        exact ih v28 S _ h
      · replace h := ite_f c27 h
        refine x_aload_n d_A_findBars_96 rfl 0 rfl ?_
        refine y_getR d_A_findBars_97 fl_8_12 rfl kd_56 rr_56_0 ?_
        refine y_getR d_A_findBars_100 fl_8_65 rfl kd_57 rr_57_8 ?_
        refine x_iload_n d_A_findBars_103 rfl 3 rfl ?_
        obtain ⟨g30, h⟩ := gd_inv h
        refine y_iald d_A_findBars_104 kd_58 g30 ?_
        refine x_aload_n d_A_findBars_105 rfl 0 rfl ?_
        refine y_getR d_A_findBars_106 fl_8_12 rfl kd_56 rr_56_0 ?_
        refine y_getR d_A_findBars_109 fl_8_65 rfl kd_57 rr_57_8 ?_
        refine x_iload_n d_A_findBars_112 rfl 1 rfl ?_
        obtain ⟨g31, h⟩ := gd_inv h
        refine y_iald d_A_findBars_113 kd_58 g31 ?_
        refine x_isub d_A_findBars_114 ?_
        obtain ⟨v32, e33, h⟩ := lt_inv h
        refine y_istore (L1 := [(0, .ref 56), (1, .int z1), (2, .int z2), (3, .int w3), (4, .int v32)]) e33 d_A_findBars_115 (Nat.le_of_ble_eq_true rfl) rfl rfl ?_
        refine x_aload_n d_A_findBars_117 rfl 0 rfl ?_
        refine y_getR d_A_findBars_118 fl_8_22 rfl kd_56 rr_56_5 ?_
        refine x_iload_n d_A_findBars_121 rfl 1 rfl ?_
        refine x_dup2 d_A_findBars_122 rfl rfl ?_
        obtain ⟨g34, h⟩ := gd_inv h
        refine y_iald d_A_findBars_123 kd_63 g34 ?_
        refine x_iload d_A_findBars_124 4 rfl ?_
        refine x_if_eq (tgt := 144) d_A_findBars_126 rfl (fun c35 => ?_) (fun c35 => ?_)
        · replace h := ite_t c35 h
          exact J144 S w3 v32 z1 (S.1 63 z1.toNatClampNeg) _ h
        · replace h := ite_f c35 h
          refine x_iload d_A_findBars_129 4 rfl ?_
          refine y_mabs d_A_findBars_131 ml_8_68 (Nat.le_of_ble_eq_true rfl) ?_
          refine x_aload_n d_A_findBars_134 rfl 0 rfl ?_
          refine y_getR d_A_findBars_135 fl_8_12 rfl kd_56 rr_56_0 ?_
          refine y_getI d_A_findBars_138 fl_8_73 rfl kd_57 ?_
          refine x_icmp_le (tgt := 150) d_A_findBars_141 rfl (fun c36 => ?_) (fun c36 => ?_)
          · replace h := ite_t c36 h
            refine x_iconst d_A_findBars_150 ic_0 ?_
            exact J151 S w3 v32 z1 (S.1 63 z1.toNatClampNeg) (0 : Int32) _ h
          · replace h := ite_f c36 h
            exact J144 S w3 v32 z1 (S.1 63 z1.toNatClampNeg) _ h
set_option maxRecDepth 100000 in
set_option maxHeartbeats 4000000 in
theorem c_A_findBars {X : Nat × (Nat → Int32)} {D F G : Nat} (hD : 1 ≤ D) {S : St} {p1 : Int32} {res : St} (h : fA_findBars F G S p1 = some res) : Ek X (D) mA_findBars 0 [(0, .ref 56), (1, .int p1)] [] S none res := by
  obtain ⟨D, rfl⟩ : ∃ E, D = E + 1 := ⟨D - 1, by omega⟩
  unfold fA_findBars at h
  refine x_iconst d_A_findBars_0 ic_0 ?_
  refine x_istore_n (L1 := [(0, .ref 56), (1, .int p1), (2, .int (0 : Int32))]) d_A_findBars_1 rfl (Nat.le_of_ble_eq_true rfl) rfl rfl ?_
  refine x_iconst d_A_findBars_2 ic_0 ?_
  refine x_istore_n (L1 := [(0, .ref 56), (1, .int p1), (2, .int (0 : Int32)), (3, .int (0 : Int32))]) d_A_findBars_3 rfl (Nat.le_of_ble_eq_true rfl) rfl rfl ?_
  refine T_A_findBars_4 (by omega)  ?_ F (0 : Int32) (0 : Int32) _ h
  · intro v13 res h
    refine x_aload_n d_A_findBars_49 rfl 0 rfl ?_
    refine y_getR d_A_findBars_50 fl_8_22 rfl kd_56 rr_56_5 ?_
    refine x_iload_n d_A_findBars_53 rfl 1 rfl ?_
    refine x_iconst d_A_findBars_54 ic_0 ?_
    obtain ⟨g14, h⟩ := gd_inv h
    obtain ⟨S15, e16, h⟩ := lt_inv h
    refine y_iast e16 d_A_findBars_55 kd_63 g14 ?_
    refine x_aload_n d_A_findBars_56 rfl 0 rfl ?_
    refine y_getR d_A_findBars_57 fl_8_25 rfl kd_56 rr_56_6 ?_
    refine x_iload_n d_A_findBars_60 rfl 1 rfl ?_
    refine x_iconst d_A_findBars_61 ic_0 ?_
    obtain ⟨g17, h⟩ := gd_inv h
    obtain ⟨S18, e19, h⟩ := lt_inv h
    refine y_iast e19 d_A_findBars_62 kd_64 g17 ?_
    refine x_aload_n d_A_findBars_63 rfl 0 rfl ?_
    refine y_getR d_A_findBars_64 fl_8_28 rfl kd_56 rr_56_7 ?_
    refine x_iload_n d_A_findBars_67 rfl 1 rfl ?_
    refine x_iconst d_A_findBars_68 ic_0 ?_
    obtain ⟨g20, h⟩ := gd_inv h
    obtain ⟨S21, e22, h⟩ := lt_inv h
    refine y_iast e22 d_A_findBars_69 kd_65 g20 ?_
    refine x_iconst d_A_findBars_70 ic_0 ?_
    refine x_istore_n (L1 := [(0, .ref 56), (1, .int p1), (2, .int v13), (3, .int (0 : Int32))]) d_A_findBars_71 rfl (Nat.le_of_ble_eq_true rfl) rfl rfl ?_
    refine T_A_findBars_72 (by omega)   F (0 : Int32) S21 _ h
/-! NinetyPlayers$Arranger.findSettledLeaps -/
def b_A_findSettledLeaps_9 (F G : Nat) (z1 : Int32) (rec : Int32 → St → Option (St)) (w2 : Int32) (S : St) : Option (St) :=
  if (S.1 57 0) ≤ w2 then some S else bd (fK_timelyAt F G S (w2 - (1 : Int32))) fun v6 => bd (fK_timelyAt F G S w2) fun v8 => lt (v6 ||| v8) fun v9 => gd (inB z1 10) (if (v9 >>> (z1 &&& 31)) = (1 : Int32) then gd (inB z1 10) (lt (sI S 66 z1.toNatClampNeg ((S.1 66 z1.toNatClampNeg) ||| ((1 : Int32) <<< (w2 &&& 31)))) fun S19 => lt (w2 + 1) fun v21 => rec v21 S19) else gd (inB z1 10) (lt (sI S 66 z1.toNatClampNeg ((S.1 66 z1.toNatClampNeg) ||| (0 : Int32))) fun S14 => lt (w2 + 1) fun v16 => rec v16 S14))
def fA_findSettledLeaps (F G : Nat) (S : St) (p1 : Int32) : Option (St) :=
  gd (inB p1 10) (lt (sI S 66 p1.toNatClampNeg (0 : Int32)) fun S2 => fx2 (b_A_findSettledLeaps_9 F G p1) F (1 : Int32) S2)
set_option maxRecDepth 100000 in
set_option maxHeartbeats 4000000 in
theorem T_A_findSettledLeaps_9 {X : Nat × (Nat → Int32)} {D F G : Nat} (hD : 1 ≤ D + 1) {z1 : Int32} : ∀ (f : Nat) (w2 : Int32) (S : St) (res : St), fx2 (b_A_findSettledLeaps_9 F G z1 ) f w2 S = some res → Ek X (D + 1) mA_findSettledLeaps 9 [(0, .ref 56), (1, .int z1), (2, .int w2)] [] S none res := by
  refine fx2_ind ?_
  intro rec ih w2 S res h
  unfold b_A_findSettledLeaps_9 at h
  refine x_iload_n d_A_findSettledLeaps_9 rfl 2 rfl ?_
  refine x_aload_n d_A_findSettledLeaps_10 rfl 0 rfl ?_
  refine y_getR d_A_findSettledLeaps_11 fl_8_12 rfl kd_56 rr_56_0 ?_
  refine y_getI d_A_findSettledLeaps_14 fl_8_58 rfl kd_57 ?_
  refine x_icmp_ge (tgt := 69) d_A_findSettledLeaps_17 rfl (fun c4 => ?_) (fun c4 => ?_)
  · replace h := ite_t c4 h
    obtain rfl := Option.some.inj h
    exact x_ret (r := none) d_A_findSettledLeaps_69 rfl
  · replace h := ite_f c4 h
    refine x_aload_n d_A_findSettledLeaps_20 rfl 0 rfl ?_
    refine y_getR d_A_findSettledLeaps_21 fl_8_12 rfl kd_56 rr_56_0 ?_
    refine x_iload_n d_A_findSettledLeaps_24 rfl 2 rfl ?_
    refine x_iconst d_A_findSettledLeaps_25 ic_1 ?_
    refine x_isub d_A_findSettledLeaps_26 ?_
    obtain ⟨v6, q5, h⟩ := bd_inv h
    refine y_V1i (v := v6) (S1 := S) d_A_findSettledLeaps_27 ml_8_61 kd_57 rfl (Nat.le_of_ble_eq_true rfl) (Nat.le_of_ble_eq_true rfl) (c_K_timelyAt (by omega) q5) ?_
    refine x_aload_n d_A_findSettledLeaps_30 rfl 0 rfl ?_
    refine y_getR d_A_findSettledLeaps_31 fl_8_12 rfl kd_56 rr_56_0 ?_
    refine x_iload_n d_A_findSettledLeaps_34 rfl 2 rfl ?_
    obtain ⟨v8, q7, h⟩ := bd_inv h
    refine y_V1i (v := v8) (S1 := S) d_A_findSettledLeaps_35 ml_8_61 kd_57 rfl (Nat.le_of_ble_eq_true rfl) (Nat.le_of_ble_eq_true rfl) (c_K_timelyAt (by omega) q7) ?_
    refine x_ior d_A_findSettledLeaps_38 ?_
    obtain ⟨v9, e10, h⟩ := lt_inv h
    refine y_istore_n (L1 := [(0, .ref 56), (1, .int z1), (2, .int w2), (3, .int v9)]) e10 d_A_findSettledLeaps_39 rfl (Nat.le_of_ble_eq_true rfl) rfl rfl ?_
    refine x_aload_n d_A_findSettledLeaps_40 rfl 0 rfl ?_
    refine y_getR d_A_findSettledLeaps_41 fl_8_31 rfl kd_56 rr_56_8 ?_
    refine x_iload_n d_A_findSettledLeaps_44 rfl 1 rfl ?_
    refine x_dup2 d_A_findSettledLeaps_45 rfl rfl ?_
    obtain ⟨g11, h⟩ := gd_inv h
    refine y_iald d_A_findSettledLeaps_46 kd_66 g11 ?_
    refine x_iload_n d_A_findSettledLeaps_47 rfl 3 rfl ?_
    refine x_iload_n d_A_findSettledLeaps_48 rfl 1 rfl ?_
    refine x_ishr d_A_findSettledLeaps_49 ?_
    refine x_iconst d_A_findSettledLeaps_50 ic_1 ?_
    refine x_icmp_ne (tgt := 60) d_A_findSettledLeaps_51 rfl (fun c12 => ?_) (fun c12 => ?_)
    · replace h := ite_f c12 h
      refine x_iconst d_A_findSettledLeaps_60 ic_0 ?_
      refine x_ior d_A_findSettledLeaps_61 ?_
      obtain ⟨g13, h⟩ := gd_inv h
      obtain ⟨S14, e15, h⟩ := lt_inv h
      refine y_iast e15 d_A_findSettledLeaps_62 kd_66 g13 ?_
      obtain ⟨v16, e17, h⟩ := lt_inv h
      refine y_iinc (L1 := [(0, .ref 56), (1, .int z1), (2, .int v16), (3, .int v9)]) e17 ic_1 d_A_findSettledLeaps_63 2 rfl (Nat.le_of_ble_eq_true rfl) rfl rfl ?_
      refine x_goto (tgt := 9) d_A_findSettledLeaps_66 rfl ?_
      refine y_pick (L1 := [(0, .ref 56), (1, .int z1), (2, .int v16)]) [0, 1, 2] rfl ?_
      exact ih v16 S14 _ h
    · replace h := ite_t c12 h
      refine x_iconst d_A_findSettledLeaps_54 ic_1 ?_
      refine x_iload_n d_A_findSettledLeaps_55 rfl 2 rfl ?_
      refine x_ishl d_A_findSettledLeaps_56 ?_
      refine x_goto (tgt := 61) d_A_findSettledLeaps_57 rfl ?_
      refine x_ior d_A_findSettledLeaps_61 ?_
      obtain ⟨g18, h⟩ := gd_inv h
      obtain ⟨S19, e20, h⟩ := lt_inv h
      refine y_iast e20 d_A_findSettledLeaps_62 kd_66 g18 ?_
      obtain ⟨v21, e22, h⟩ := lt_inv h
      refine y_iinc (L1 := [(0, .ref 56), (1, .int z1), (2, .int v21), (3, .int v9)]) e22 ic_1 d_A_findSettledLeaps_63 2 rfl (Nat.le_of_ble_eq_true rfl) rfl rfl ?_
      refine x_goto (tgt := 9) d_A_findSettledLeaps_66 rfl ?_
      refine y_pick (L1 := [(0, .ref 56), (1, .int z1), (2, .int v21)]) [0, 1, 2] rfl ?_
      exact ih v21 S19 _ h
set_option maxRecDepth 100000 in
set_option maxHeartbeats 4000000 in
theorem c_A_findSettledLeaps {X : Nat × (Nat → Int32)} {D F G : Nat} (hD : 1 ≤ D) {S : St} {p1 : Int32} {res : St} (h : fA_findSettledLeaps F G S p1 = some res) : Ek X (D) mA_findSettledLeaps 0 [(0, .ref 56), (1, .int p1)] [] S none res := by
  obtain ⟨D, rfl⟩ : ∃ E, D = E + 1 := ⟨D - 1, by omega⟩
  unfold fA_findSettledLeaps at h
  refine x_aload_n d_A_findSettledLeaps_0 rfl 0 rfl ?_
  refine y_getR d_A_findSettledLeaps_1 fl_8_31 rfl kd_56 rr_56_8 ?_
  refine x_iload_n d_A_findSettledLeaps_4 rfl 1 rfl ?_
  refine x_iconst d_A_findSettledLeaps_5 ic_0 ?_
  obtain ⟨g1, h⟩ := gd_inv h
  obtain ⟨S2, e3, h⟩ := lt_inv h
  refine y_iast e3 d_A_findSettledLeaps_6 kd_66 g1 ?_
  refine x_iconst d_A_findSettledLeaps_7 ic_1 ?_
  refine x_istore_n (L1 := [(0, .ref 56), (1, .int p1), (2, .int (1 : Int32))]) d_A_findSettledLeaps_8 rfl (Nat.le_of_ble_eq_true rfl) rfl rfl ?_
  refine T_A_findSettledLeaps_9 (by omega)   F (1 : Int32) S2 _ h
/-! NinetyPlayers$Arranger.isFreeLeft -/
def fA_isFreeLeft (F G : Nat) (S : St) (p1 : Int32) (p2 : Int32) (p3 : Int32) : Option (Int32) :=
  gd (inB p1 10) (gd (inB p1 10) (if ((p2 &&& (S.1 63 p1.toNatClampNeg)) ||| (p3 &&& (S.1 64 p1.toNatClampNeg))) = 0 then some (1 : Int32) else some (0 : Int32)))
set_option maxRecDepth 100000 in
set_option maxHeartbeats 4000000 in
theorem c_A_isFreeLeft {X : Nat × (Nat → Int32)} {D F G : Nat} (hD : 0 ≤ D) {S : St} {p1 : Int32} {p2 : Int32} {p3 : Int32} {res : Int32} (h : fA_isFreeLeft F G S p1 p2 p3 = some res) : Ek X (D) mA_isFreeLeft 0 [(0, .ref 56), (1, .int p1), (2, .int p2), (3, .int p3)] [] S (some (.int res)) S := by
  unfold fA_isFreeLeft at h
  refine x_iload_n d_A_isFreeLeft_0 rfl 2 rfl ?_
  refine x_aload_n d_A_isFreeLeft_1 rfl 0 rfl ?_
  refine y_getR d_A_isFreeLeft_2 fl_8_22 rfl kd_56 rr_56_5 ?_
  refine x_iload_n d_A_isFreeLeft_5 rfl 1 rfl ?_
  obtain ⟨g1, h⟩ := gd_inv h
  refine y_iald d_A_isFreeLeft_6 kd_63 g1 ?_
  refine x_iand d_A_isFreeLeft_7 ?_
  refine x_iload_n d_A_isFreeLeft_8 rfl 3 rfl ?_
  refine x_aload_n d_A_isFreeLeft_9 rfl 0 rfl ?_
  refine y_getR d_A_isFreeLeft_10 fl_8_25 rfl kd_56 rr_56_6 ?_
  refine x_iload_n d_A_isFreeLeft_13 rfl 1 rfl ?_
  obtain ⟨g2, h⟩ := gd_inv h
  refine y_iald d_A_isFreeLeft_14 kd_64 g2 ?_
  refine x_iand d_A_isFreeLeft_15 ?_
  refine x_ior d_A_isFreeLeft_16 ?_
  refine x_if_ne (tgt := 24) d_A_isFreeLeft_17 rfl (fun c3 => ?_) (fun c3 => ?_)
  · replace h := ite_f c3 h
    refine x_iconst d_A_isFreeLeft_24 ic_0 ?_
    obtain rfl := Option.some.inj h
    exact x_ret (r := some (.int (0 : Int32))) d_A_isFreeLeft_25 ⟨_, rfl, rfl⟩
  · replace h := ite_t c3 h
    refine x_iconst d_A_isFreeLeft_20 ic_1 ?_
    refine x_goto (tgt := 25) d_A_isFreeLeft_21 rfl ?_
    obtain rfl := Option.some.inj h
    exact x_ret (r := some (.int (1 : Int32))) d_A_isFreeLeft_25 ⟨_, rfl, rfl⟩
/-! NinetyPlayers$Arranger.fingersReach -/
def b_A_fingersReach_23 (F G : Nat) (S : St) (z1 : Int32) (z2 : Int32) (z3 : Int32) (rec : Int32 → Option (Int32)) (w4 : Int32) : Option (Int32) :=
  if z3 = 0 then if (S.1 57 0) ≤ w4 then some (1 : Int32) else bd (fK_timelyAt F G S w4) fun v7 => if ((v7 >>> (z1 &&& 31)) &&& (1 : Int32)) = 0 then lt (w4 + 1) fun v9 => rec v9 else bd (fJ_bitCount F G S (v7 &&& z2)) fun v12 => if v12 ≤ (S.1 57 3) then lt (w4 + 1) fun v14 => rec v14 else some (0 : Int32) else some (1 : Int32)
def fA_fingersReach (F G : Nat) (S : St) (p1 : Int32) (p2 : Int32) : Option (Int32) :=
  bd (fJ_bitCount F G S p2) fun v2 => if (S.1 57 3) < v2 then fx1 (b_A_fingersReach_23 F G S p1 p2 (0 : Int32)) F (0 : Int32) else fx1 (b_A_fingersReach_23 F G S p1 p2 (1 : Int32)) F (0 : Int32)
set_option maxRecDepth 100000 in
set_option maxHeartbeats 4000000 in
theorem T_A_fingersReach_23 {X : Nat × (Nat → Int32)} {D F G : Nat} (hD : 1 ≤ D + 1) {S : St} {z1 : Int32} {z2 : Int32} {z3 : Int32} : ∀ (f : Nat) (w4 : Int32) (res : Int32), fx1 (b_A_fingersReach_23 F G S z1 z2 z3 ) f w4 = some res → Ek X (D + 1) mA_fingersReach 23 [(0, .ref 56), (1, .int z1), (2, .int z2), (3, .int z3), (4, .int w4)] [] S (some (.int res)) S := by
  refine fx1_ind ?_
  intro rec ih w4 res h
  unfold b_A_fingersReach_23 at h
  refine x_iload_n d_A_fingersReach_23 rfl 3 rfl ?_
  refine x_if_ne (tgt := 84) d_A_fingersReach_24 rfl (fun c4 => ?_) (fun c4 => ?_)
  · replace h := ite_f c4 h
    refine x_iconst d_A_fingersReach_84 ic_1 ?_
    obtain rfl := Option.some.inj h
    exact x_ret (r := some (.int (1 : Int32))) d_A_fingersReach_85 ⟨_, rfl, rfl⟩
  · replace h := ite_t c4 h
    refine x_iload d_A_fingersReach_27 4 rfl ?_
    refine x_aload_n d_A_fingersReach_29 rfl 0 rfl ?_
    refine y_getR d_A_fingersReach_30 fl_8_12 rfl kd_56 rr_56_0 ?_
    refine y_getI d_A_fingersReach_33 fl_8_58 rfl kd_57 ?_
    refine x_icmp_ge (tgt := 84) d_A_fingersReach_36 rfl (fun c5 => ?_) (fun c5 => ?_)
    · replace h := ite_t c5 h
      refine x_iconst d_A_fingersReach_84 ic_1 ?_
      obtain rfl := Option.some.inj h
      exact x_ret (r := some (.int (1 : Int32))) d_A_fingersReach_85 ⟨_, rfl, rfl⟩
    · replace h := ite_f c5 h
      refine x_aload_n d_A_fingersReach_39 rfl 0 rfl ?_
      refine y_getR d_A_fingersReach_40 fl_8_12 rfl kd_56 rr_56_0 ?_
      refine x_iload d_A_fingersReach_43 4 rfl ?_
      obtain ⟨v7, q6, h⟩ := bd_inv h
      refine y_V1i (v := v7) (S1 := S) d_A_fingersReach_45 ml_8_61 kd_57 rfl (Nat.le_of_ble_eq_true rfl) (Nat.le_of_ble_eq_true rfl) (c_K_timelyAt (by omega) q6) ?_
      refine x_istore (L1 := [(0, .ref 56), (1, .int z1), (2, .int z2), (3, .int z3), (4, .int w4), (5, .int v7)]) d_A_fingersReach_48 (Nat.le_of_ble_eq_true rfl) rfl rfl ?_
      refine x_iload d_A_fingersReach_50 5 rfl ?_
      refine x_iload_n d_A_fingersReach_52 rfl 1 rfl ?_
      refine x_ishr d_A_fingersReach_53 ?_
      refine x_iconst d_A_fingersReach_54 ic_1 ?_
      refine x_iand d_A_fingersReach_55 ?_
      refine x_if_eq (tgt := 78) d_A_fingersReach_56 rfl (fun c8 => ?_) (fun c8 => ?_)
      · replace h := ite_t c8 h
        obtain ⟨v9, e10, h⟩ := lt_inv h
        refine y_iinc (L1 := [(0, .ref 56), (1, .int z1), (2, .int z2), (3, .int z3), (4, .int v9), (5, .int v7)]) e10 ic_1 d_A_fingersReach_78 4 rfl (Nat.le_of_ble_eq_true rfl) rfl rfl ?_
        refine x_goto (tgt := 23) d_A_fingersReach_81 rfl ?_
        refine y_pick (L1 := [(0, .ref 56), (1, .int z1), (2, .int z2), (3, .int z3), (4, .int v9)]) [0, 1, 2, 3, 4] rfl ?_
        exact ih v9 _ h
      · replace h := ite_f c8 h
        refine x_iload d_A_fingersReach_59 5 rfl ?_
        refine x_iload_n d_A_fingersReach_61 rfl 2 rfl ?_
        refine x_iand d_A_fingersReach_62 ?_
        obtain ⟨v12, q11, h⟩ := bd_inv h
        refine y_S1i (v := v12) (S1 := S) d_A_fingersReach_63 ml_8_90 (Nat.le_of_ble_eq_true rfl) (Nat.le_of_ble_eq_true rfl) (c_J_bitCount (by omega) q11) ?_
        refine x_aload_n d_A_fingersReach_66 rfl 0 rfl ?_
        refine y_getR d_A_fingersReach_67 fl_8_12 rfl kd_56 rr_56_0 ?_
        refine y_getI d_A_fingersReach_70 fl_8_95 rfl kd_57 ?_
        refine x_icmp_le (tgt := 78) d_A_fingersReach_73 rfl (fun c13 => ?_) (fun c13 => ?_)
        · replace h := ite_t c13 h
          obtain ⟨v14, e15, h⟩ := lt_inv h
          refine y_iinc (L1 := [(0, .ref 56), (1, .int z1), (2, .int z2), (3, .int z3), (4, .int v14), (5, .int v7)]) e15 ic_1 d_A_fingersReach_78 4 rfl (Nat.le_of_ble_eq_true rfl) rfl rfl ?_
          refine x_goto (tgt := 23) d_A_fingersReach_81 rfl ?_
          refine y_pick (L1 := [(0, .ref 56), (1, .int z1), (2, .int z2), (3, .int z3), (4, .int v14)]) [0, 1, 2, 3, 4] rfl ?_
          exact ih v14 _ h
        · replace h := ite_f c13 h
          refine x_iconst d_A_fingersReach_76 ic_0 ?_
          obtain rfl := Option.some.inj h
          exact x_ret (r := some (.int (0 : Int32))) d_A_fingersReach_77 ⟨_, rfl, rfl⟩
set_option maxRecDepth 100000 in
set_option maxHeartbeats 4000000 in
theorem c_A_fingersReach {X : Nat × (Nat → Int32)} {D F G : Nat} (hD : 1 ≤ D) {S : St} {p1 : Int32} {p2 : Int32} {res : Int32} (h : fA_fingersReach F G S p1 p2 = some res) : Ek X (D) mA_fingersReach 0 [(0, .ref 56), (1, .int p1), (2, .int p2)] [] S (some (.int res)) S := by
  obtain ⟨D, rfl⟩ : ∃ E, D = E + 1 := ⟨D - 1, by omega⟩
  unfold fA_fingersReach at h
  refine x_iload_n d_A_fingersReach_0 rfl 2 rfl ?_
  obtain ⟨v2, q1, h⟩ := bd_inv h
  refine y_S1i (v := v2) (S1 := S) d_A_fingersReach_1 ml_8_90 (Nat.le_of_ble_eq_true rfl) (Nat.le_of_ble_eq_true rfl) (c_J_bitCount (by omega) q1) ?_
  refine x_aload_n d_A_fingersReach_4 rfl 0 rfl ?_
  refine y_getR d_A_fingersReach_5 fl_8_12 rfl kd_56 rr_56_0 ?_
  refine y_getI d_A_fingersReach_8 fl_8_95 rfl kd_57 ?_
  refine x_icmp_gt (tgt := 18) d_A_fingersReach_11 rfl (fun c3 => ?_) (fun c3 => ?_)
  · replace h := ite_t c3 h
    refine x_iconst d_A_fingersReach_18 ic_0 ?_
    refine x_istore_n (L1 := [(0, .ref 56), (1, .int p1), (2, .int p2), (3, .int (0 : Int32))]) d_A_fingersReach_19 rfl (Nat.le_of_ble_eq_true rfl) rfl rfl ?_
    refine x_iconst d_A_fingersReach_20 ic_0 ?_
    refine x_istore (L1 := [(0, .ref 56), (1, .int p1), (2, .int p2), (3, .int (0 : Int32)), (4, .int (0 : Int32))]) d_A_fingersReach_21 (Nat.le_of_ble_eq_true rfl) rfl rfl ?_
    refine T_A_fingersReach_23 (by omega)   F (0 : Int32) _ h
  · replace h := ite_f c3 h
    refine x_iconst d_A_fingersReach_14 ic_1 ?_
    refine x_goto (tgt := 19) d_A_fingersReach_15 rfl ?_
    refine x_istore_n (L1 := [(0, .ref 56), (1, .int p1), (2, .int p2), (3, .int (1 : Int32))]) d_A_fingersReach_19 rfl (Nat.le_of_ble_eq_true rfl) rfl rfl ?_
    refine x_iconst d_A_fingersReach_20 ic_0 ?_
    refine x_istore (L1 := [(0, .ref 56), (1, .int p1), (2, .int p2), (3, .int (1 : Int32)), (4, .int (0 : Int32))]) d_A_fingersReach_21 (Nat.le_of_ble_eq_true rfl) rfl rfl ?_
    refine T_A_fingersReach_23 (by omega)   F (0 : Int32) _ h
/-! NinetyPlayers$Keyboard.leapBetween -/
def fK_leapBetween (F G : Nat) (S : St) (p1 : Int32) (p2 : Int32) : Option (Int32) :=
  if p1 = 0 then some (0 : Int32) else if p2 = 0 then some (0 : Int32) else bd (fK_lowest F G S p2) fun v4 => bd (fK_lowest F G S p1) fun v6 => some (if 0 ≤ (v4 - v6) then (v4 - v6) else 0 - (v4 - v6))
set_option maxRecDepth 100000 in
set_option maxHeartbeats 4000000 in
theorem c_K_leapBetween {X : Nat × (Nat → Int32)} {D F G : Nat} (hD : 1 ≤ D) {S : St} {p1 : Int32} {p2 : Int32} {res : Int32} (h : fK_leapBetween F G S p1 p2 = some res) : Ek X (D) mK_leapBetween 0 [(0, .ref 57), (1, .int p1), (2, .int p2)] [] S (some (.int res)) S := by
  obtain ⟨D, rfl⟩ : ∃ E, D = E + 1 := ⟨D - 1, by omega⟩
  unfold fK_leapBetween at h
  refine x_iload_n d_K_leapBetween_0 rfl 1 rfl ?_
  refine x_if_eq (tgt := 8) d_K_leapBetween_1 rfl (fun c1 => ?_) (fun c1 => ?_)
  · replace h := ite_t c1 h
    refine x_iconst d_K_leapBetween_8 ic_0 ?_
    refine x_goto (tgt := 26) d_K_leapBetween_9 rfl ?_
    obtain rfl := Option.some.inj h
    exact x_ret (r := some (.int (0 : Int32))) d_K_leapBetween_26 ⟨_, rfl, rfl⟩
  · replace h := ite_f c1 h
    refine x_iload_n d_K_leapBetween_4 rfl 2 rfl ?_
    refine x_if_ne (tgt := 12) d_K_leapBetween_5 rfl (fun c2 => ?_) (fun c2 => ?_)
    · replace h := ite_f c2 h
      refine x_aload_n d_K_leapBetween_12 rfl 0 rfl ?_
      refine x_iload_n d_K_leapBetween_13 rfl 2 rfl ?_
      obtain ⟨v4, q3, h⟩ := bd_inv h
      refine y_V1i (v := v4) (S1 := S) d_K_leapBetween_14 ml_7_81 kd_57 rfl (Nat.le_of_ble_eq_true rfl) (Nat.le_of_ble_eq_true rfl) (c_K_lowest (by omega) q3) ?_
      refine x_aload_n d_K_leapBetween_17 rfl 0 rfl ?_
      refine x_iload_n d_K_leapBetween_18 rfl 1 rfl ?_
      obtain ⟨v6, q5, h⟩ := bd_inv h
      refine y_V1i (v := v6) (S1 := S) d_K_leapBetween_19 ml_7_81 kd_57 rfl (Nat.le_of_ble_eq_true rfl) (Nat.le_of_ble_eq_true rfl) (c_K_lowest (by omega) q5) ?_
      refine x_isub d_K_leapBetween_22 ?_
      refine y_mabs d_K_leapBetween_23 ml_7_84 (Nat.le_of_ble_eq_true rfl) ?_
      obtain rfl := Option.some.inj h
      exact x_ret (r := some (.int (if 0 ≤ (v4 - v6) then (v4 - v6) else 0 - (v4 - v6)))) d_K_leapBetween_26 ⟨_, rfl, rfl⟩
    · replace h := ite_t c2 h
      refine x_iconst d_K_leapBetween_8 ic_0 ?_
      refine x_goto (tgt := 26) d_K_leapBetween_9 rfl ?_
      obtain rfl := Option.some.inj h
      exact x_ret (r := some (.int (0 : Int32))) d_K_leapBetween_26 ⟨_, rfl, rfl⟩
/-! NinetyPlayers$Arranger.leapsFit -/
def b_A_leapsFit_11 (F G : Nat) (S : St) (z2 : Int32) (z3 : Int32) (z4 : Int32) (rec : Int32 → Option (Int32)) (w5 : Int32) : Option (Int32) :=
  if z4 = 0 then some (1 : Int32) else if (S.1 57 0) ≤ w5 then some (1 : Int32) else if ((z4 >>> (w5 &&& 31)) &&& (1 : Int32)) = 0 then lt (w5 + 1) fun v7 => rec v7 else bd (fK_timelyAt F G S (w5 - (1 : Int32))) fun v10 => bd (fK_timelyAt F G S w5) fun v12 => bd (fK_leapBetween F G S (z2 &&& v10) (z2 &&& v12)) fun v14 => bd (fK_leapBetween F G S (z3 &&& v10) (z3 &&& v12)) fun v16 => if (S.1 57 4) < v14 then some (0 : Int32) else if v16 ≤ (S.1 57 4) then lt (w5 + 1) fun v19 => rec v19 else some (0 : Int32)
def fA_leapsFit (F G : Nat) (S : St) (p1 : Int32) (p2 : Int32) (p3 : Int32) : Option (Int32) :=
  gd (inB p1 10) (lt (S.1 66 p1.toNatClampNeg) fun v2 => fx1 (b_A_leapsFit_11 F G S p2 p3 v2) F (1 : Int32))
set_option maxRecDepth 100000 in
set_option maxHeartbeats 4000000 in
theorem T_A_leapsFit_11 {X : Nat × (Nat → Int32)} {D F G : Nat} (hD : 2 ≤ D + 1) {S : St} {z2 : Int32} {z3 : Int32} {z4 : Int32} : ∀ (f : Nat) (w5 : Int32) (res : Int32), fx1 (b_A_leapsFit_11 F G S z2 z3 z4 ) f w5 = some res → Ek X (D + 1) mA_leapsFit 11 [(0, .ref 56), (2, .int z2), (3, .int z3), (4, .int z4), (5, .int w5)] [] S (some (.int res)) S := by
  refine fx1_ind ?_
  intro rec ih w5 res h
  unfold b_A_leapsFit_11 at h
  refine x_iload d_A_leapsFit_11 3 rfl ?_
  refine x_if_eq (tgt := 128) d_A_leapsFit_13 rfl (fun c4 => ?_) (fun c4 => ?_)
  · replace h := ite_t c4 h
    refine x_iconst d_A_leapsFit_128 ic_1 ?_
    obtain rfl := Option.some.inj h
    exact x_ret (r := some (.int (1 : Int32))) d_A_leapsFit_129 ⟨_, rfl, rfl⟩
  · replace h := ite_f c4 h
    refine x_iload d_A_leapsFit_16 4 rfl ?_
    refine x_aload_n d_A_leapsFit_18 rfl 0 rfl ?_
    refine y_getR d_A_leapsFit_19 fl_8_12 rfl kd_56 rr_56_0 ?_
    refine y_getI d_A_leapsFit_22 fl_8_58 rfl kd_57 ?_
    refine x_icmp_ge (tgt := 128) d_A_leapsFit_25 rfl (fun c5 => ?_) (fun c5 => ?_)
    · replace h := ite_t c5 h
      refine x_iconst d_A_leapsFit_128 ic_1 ?_
      obtain rfl := Option.some.inj h
      exact x_ret (r := some (.int (1 : Int32))) d_A_leapsFit_129 ⟨_, rfl, rfl⟩
    · replace h := ite_f c5 h
      refine x_iload d_A_leapsFit_28 3 rfl ?_
      refine x_iload d_A_leapsFit_30 4 rfl ?_
      refine x_ishr d_A_leapsFit_32 ?_
      refine x_iconst d_A_leapsFit_33 ic_1 ?_
      refine x_iand d_A_leapsFit_34 ?_
      refine x_if_eq (tgt := 122) d_A_leapsFit_35 rfl (fun c6 => ?_) (fun c6 => ?_)
      · replace h := ite_t c6 h
        obtain ⟨v7, e8, h⟩ := lt_inv h
        refine y_iinc (L1 := [(0, .ref 56), (2, .int z2), (3, .int z3), (4, .int z4), (5, .int v7)]) e8 ic_1 d_A_leapsFit_122 4 rfl (Nat.le_of_ble_eq_true rfl) rfl rfl ?_
        refine x_goto (tgt := 11) d_A_leapsFit_125 rfl ?_
        exact ih v7 _ h
      · replace h := ite_f c6 h
        refine x_aload_n d_A_leapsFit_38 rfl 0 rfl ?_
        refine y_getR d_A_leapsFit_39 fl_8_12 rfl kd_56 rr_56_0 ?_
        refine x_iload d_A_leapsFit_42 4 rfl ?_
        refine x_iconst d_A_leapsFit_44 ic_1 ?_
        refine x_isub d_A_leapsFit_45 ?_
        obtain ⟨v10, q9, h⟩ := bd_inv h
        refine y_V1i (v := v10) (S1 := S) d_A_leapsFit_46 ml_8_61 kd_57 rfl (Nat.le_of_ble_eq_true rfl) (Nat.le_of_ble_eq_true rfl) (c_K_timelyAt (by omega) q9) ?_
        refine x_istore (L1 := [(0, .ref 56), (2, .int z2), (3, .int z3), (4, .int z4), (5, .int w5), (6, .int v10)]) d_A_leapsFit_49 (Nat.le_of_ble_eq_true rfl) rfl rfl ?_
        refine x_aload_n d_A_leapsFit_51 rfl 0 rfl ?_
        refine y_getR d_A_leapsFit_52 fl_8_12 rfl kd_56 rr_56_0 ?_
        refine x_iload d_A_leapsFit_55 4 rfl ?_
        obtain ⟨v12, q11, h⟩ := bd_inv h
        refine y_V1i (v := v12) (S1 := S) d_A_leapsFit_57 ml_8_61 kd_57 rfl (Nat.le_of_ble_eq_true rfl) (Nat.le_of_ble_eq_true rfl) (c_K_timelyAt (by omega) q11) ?_
        refine x_istore (L1 := [(0, .ref 56), (2, .int z2), (3, .int z3), (4, .int z4), (5, .int w5), (6, .int v10), (7, .int v12)]) d_A_leapsFit_60 (Nat.le_of_ble_eq_true rfl) rfl rfl ?_
        refine x_aload_n d_A_leapsFit_62 rfl 0 rfl ?_
        refine y_getR d_A_leapsFit_63 fl_8_12 rfl kd_56 rr_56_0 ?_
        refine x_iload_n d_A_leapsFit_66 rfl 1 rfl ?_
        refine x_iload d_A_leapsFit_67 5 rfl ?_
        refine x_iand d_A_leapsFit_69 ?_
        refine x_iload_n d_A_leapsFit_70 rfl 1 rfl ?_
        refine x_iload d_A_leapsFit_71 6 rfl ?_
        refine x_iand d_A_leapsFit_73 ?_
        obtain ⟨v14, q13, h⟩ := bd_inv h
        refine y_V2i (v := v14) (S1 := S) d_A_leapsFit_74 ml_8_98 kd_57 rfl (Nat.le_of_ble_eq_true rfl) (Nat.le_of_ble_eq_true rfl) (c_K_leapBetween (by omega) q13) ?_
        refine x_istore (L1 := [(0, .ref 56), (2, .int z2), (3, .int z3), (4, .int z4), (5, .int w5), (6, .int v10), (7, .int v12), (8, .int v14)]) d_A_leapsFit_77 (Nat.le_of_ble_eq_true rfl) rfl rfl ?_
        refine x_aload_n d_A_leapsFit_79 rfl 0 rfl ?_
        refine y_getR d_A_leapsFit_80 fl_8_12 rfl kd_56 rr_56_0 ?_
        refine x_iload_n d_A_leapsFit_83 rfl 2 rfl ?_
        refine x_iload d_A_leapsFit_84 5 rfl ?_
        refine x_iand d_A_leapsFit_86 ?_
        refine x_iload_n d_A_leapsFit_87 rfl 2 rfl ?_
        refine x_iload d_A_leapsFit_88 6 rfl ?_
        refine x_iand d_A_leapsFit_90 ?_
        obtain ⟨v16, q15, h⟩ := bd_inv h
        refine y_V2i (v := v16) (S1 := S) d_A_leapsFit_91 ml_8_98 kd_57 rfl (Nat.le_of_ble_eq_true rfl) (Nat.le_of_ble_eq_true rfl) (c_K_leapBetween (by omega) q15) ?_
        refine x_istore (L1 := [(0, .ref 56), (2, .int z2), (3, .int z3), (4, .int z4), (5, .int w5), (6, .int v10), (7, .int v12), (8, .int v14), (9, .int v16)]) d_A_leapsFit_94 (Nat.le_of_ble_eq_true rfl) rfl rfl ?_
        refine x_iload d_A_leapsFit_96 7 rfl ?_
        refine x_aload_n d_A_leapsFit_98 rfl 0 rfl ?_
        refine y_getR d_A_leapsFit_99 fl_8_12 rfl kd_56 rr_56_0 ?_
        refine y_getI d_A_leapsFit_102 fl_8_102 rfl kd_57 ?_
        refine x_icmp_gt (tgt := 120) d_A_leapsFit_105 rfl (fun c17 => ?_) (fun c17 => ?_)
        · replace h := ite_t c17 h
          refine x_iconst d_A_leapsFit_120 ic_0 ?_
          obtain rfl := Option.some.inj h
          exact x_ret (r := some (.int (0 : Int32))) d_A_leapsFit_121 ⟨_, rfl, rfl⟩
        · replace h := ite_f c17 h
          refine x_iload d_A_leapsFit_108 8 rfl ?_
          refine x_aload_n d_A_leapsFit_110 rfl 0 rfl ?_
          refine y_getR d_A_leapsFit_111 fl_8_12 rfl kd_56 rr_56_0 ?_
          refine y_getI d_A_leapsFit_114 fl_8_102 rfl kd_57 ?_
          refine x_icmp_le (tgt := 122) d_A_leapsFit_117 rfl (fun c18 => ?_) (fun c18 => ?_)
          · replace h := ite_t c18 h
            obtain ⟨v19, e20, h⟩ := lt_inv h
            refine y_iinc (L1 := [(0, .ref 56), (2, .int z2), (3, .int z3), (4, .int z4), (5, .int v19), (6, .int v10), (7, .int v12), (8, .int v14), (9, .int v16)]) e20 ic_1 d_A_leapsFit_122 4 rfl (Nat.le_of_ble_eq_true rfl) rfl rfl ?_
            refine x_goto (tgt := 11) d_A_leapsFit_125 rfl ?_
            refine y_pick (L1 := [(0, .ref 56), (2, .int z2), (3, .int z3), (4, .int z4), (5, .int v19)]) [0, 1, 2, 3, 4] rfl ?_
            exact ih v19 _ h
          · replace h := ite_f c18 h
            refine x_iconst d_A_leapsFit_120 ic_0 ?_
            obtain rfl := Option.some.inj h
            exact x_ret (r := some (.int (0 : Int32))) d_A_leapsFit_121 ⟨_, rfl, rfl⟩
set_option maxRecDepth 100000 in
set_option maxHeartbeats 4000000 in
theorem c_A_leapsFit {X : Nat × (Nat → Int32)} {D F G : Nat} (hD : 2 ≤ D) {S : St} {p1 : Int32} {p2 : Int32} {p3 : Int32} {res : Int32} (h : fA_leapsFit F G S p1 p2 p3 = some res) : Ek X (D) mA_leapsFit 0 [(0, .ref 56), (1, .int p1), (2, .int p2), (3, .int p3)] [] S (some (.int res)) S := by
  obtain ⟨D, rfl⟩ : ∃ E, D = E + 1 := ⟨D - 1, by omega⟩
  unfold fA_leapsFit at h
  refine x_aload_n d_A_leapsFit_0 rfl 0 rfl ?_
  refine y_getR d_A_leapsFit_1 fl_8_31 rfl kd_56 rr_56_8 ?_
  refine x_iload_n d_A_leapsFit_4 rfl 1 rfl ?_
  obtain ⟨g1, h⟩ := gd_inv h
  refine y_iald d_A_leapsFit_5 kd_66 g1 ?_
  obtain ⟨v2, e3, h⟩ := lt_inv h
  refine y_istore (L1 := [(0, .ref 56), (1, .int p1), (2, .int p2), (3, .int p3), (4, .int v2)]) e3 d_A_leapsFit_6 (Nat.le_of_ble_eq_true rfl) rfl rfl ?_
  refine x_iconst d_A_leapsFit_8 ic_1 ?_
  refine x_istore (L1 := [(0, .ref 56), (1, .int p1), (2, .int p2), (3, .int p3), (4, .int v2), (5, .int (1 : Int32))]) d_A_leapsFit_9 (Nat.le_of_ble_eq_true rfl) rfl rfl ?_
  refine y_pick (L1 := [(0, .ref 56), (2, .int p2), (3, .int p3), (4, .int v2), (5, .int (1 : Int32))]) [0, 2, 3, 4, 5] rfl ?_
  refine T_A_leapsFit_11 (by omega)   F (1 : Int32) _ h
/-! NinetyPlayers$Arranger.isFreeRight -/
def fA_isFreeRight (F G : Nat) (S : St) (p1 : Int32) (p2 : Int32) (p3 : Int32) : Option (Int32) :=
  gd (inB p1 10) (gd (inB p1 10) (if ((p3 &&& (S.1 63 p1.toNatClampNeg)) ||| (p2 &&& (S.1 65 p1.toNatClampNeg))) = 0 then some (1 : Int32) else some (0 : Int32)))
set_option maxRecDepth 100000 in
set_option maxHeartbeats 4000000 in
theorem c_A_isFreeRight {X : Nat × (Nat → Int32)} {D F G : Nat} (hD : 0 ≤ D) {S : St} {p1 : Int32} {p2 : Int32} {p3 : Int32} {res : Int32} (h : fA_isFreeRight F G S p1 p2 p3 = some res) : Ek X (D) mA_isFreeRight 0 [(0, .ref 56), (1, .int p1), (2, .int p2), (3, .int p3)] [] S (some (.int res)) S := by
  unfold fA_isFreeRight at h
  refine x_iload_n d_A_isFreeRight_0 rfl 3 rfl ?_
  refine x_aload_n d_A_isFreeRight_1 rfl 0 rfl ?_
  refine y_getR d_A_isFreeRight_2 fl_8_22 rfl kd_56 rr_56_5 ?_
  refine x_iload_n d_A_isFreeRight_5 rfl 1 rfl ?_
  obtain ⟨g1, h⟩ := gd_inv h
  refine y_iald d_A_isFreeRight_6 kd_63 g1 ?_
  refine x_iand d_A_isFreeRight_7 ?_
  refine x_iload_n d_A_isFreeRight_8 rfl 2 rfl ?_
  refine x_aload_n d_A_isFreeRight_9 rfl 0 rfl ?_
  refine y_getR d_A_isFreeRight_10 fl_8_28 rfl kd_56 rr_56_7 ?_
  refine x_iload_n d_A_isFreeRight_13 rfl 1 rfl ?_
  obtain ⟨g2, h⟩ := gd_inv h
  refine y_iald d_A_isFreeRight_14 kd_65 g2 ?_
  refine x_iand d_A_isFreeRight_15 ?_
  refine x_ior d_A_isFreeRight_16 ?_
  refine x_if_ne (tgt := 24) d_A_isFreeRight_17 rfl (fun c3 => ?_) (fun c3 => ?_)
  · replace h := ite_f c3 h
    refine x_iconst d_A_isFreeRight_24 ic_0 ?_
    obtain rfl := Option.some.inj h
    exact x_ret (r := some (.int (0 : Int32))) d_A_isFreeRight_25 ⟨_, rfl, rfl⟩
  · replace h := ite_t c3 h
    refine x_iconst d_A_isFreeRight_20 ic_1 ?_
    refine x_goto (tgt := 25) d_A_isFreeRight_21 rfl ?_
    obtain rfl := Option.some.inj h
    exact x_ret (r := some (.int (1 : Int32))) d_A_isFreeRight_25 ⟨_, rfl, rfl⟩
/-! NinetyPlayers$Arranger.search -/
def j_A_search_141 (F G : Nat) (P : Nat → Int32 → Int32 → Int32 → Int32 → St → Option St) (S : St) (y1 : Int32) (y2 : Int32) (y3 : Int32) (y4 : Int32) : Option (St) :=
  bd (fA_leapsFit F G S y1 y2 y3) fun v34 => if v34 = 0 then some S else gd (inB y1 10) (bd (P 0 (y1 + (1 : Int32)) y2 y3 (y4 + (S.1 62 y1.toNatClampNeg)) S) fun S38 => some S38)
def j_A_search_92 (F G : Nat) (P : Nat → Int32 → Int32 → Int32 → Int32 → St → Option St) (S : St) (y1 : Int32) (y2 : Int32) (y3 : Int32) (y4 : Int32) (y5 : Int32) : Option (St) :=
  bd (fA_isFreeRight F G S y1 y2 y3) fun v23 => if v23 = 0 then j_A_search_141 F G P  S y1 y2 y3 y4 else bd (fA_fingersReach F G S y1 (y3 ||| y5)) fun v26 => if v26 = 0 then j_A_search_141 F G P  S y1 y2 y3 y4 else bd (fA_leapsFit F G S y1 y2 (y3 ||| y5)) fun v29 => if v29 = 0 then j_A_search_141 F G P  S y1 y2 y3 y4 else bd (P 0 (y1 + (1 : Int32)) y2 (y3 ||| y5) y4 S) fun S32 => j_A_search_141 F G P  S32 y1 y2 y3 y4
def fA_search (F G : Nat) (P : Nat → Int32 → Int32 → Int32 → Int32 → St → Option St) (p1 : Int32) (p2 : Int32) (p3 : Int32) (p4 : Int32) (S : St) : Option (St) :=
  if p4 < (S.1 56 2) then if p1 < (S.1 57 1) then lt ((1 : Int32) <<< (p1 &&& 31)) fun v3 => bd (fA_isFreeLeft F G S p1 p2 p3) fun v6 => if v6 = 0 then j_A_search_92 F G P  S p1 p2 p3 p4 v3 else bd (fA_fingersReach F G S p1 (p2 ||| v3)) fun v9 => if v9 = 0 then j_A_search_92 F G P  S p1 p2 p3 p4 v3 else bd (fA_leapsFit F G S p1 (p2 ||| v3) p3) fun v12 => if v12 = 0 then j_A_search_92 F G P  S p1 p2 p3 p4 v3 else bd (P 0 (p1 + (1 : Int32)) (p2 ||| v3) p3 p4 S) fun S15 => j_A_search_92 F G P  S15 p1 p2 p3 p4 v3 else lt (sI S 56 2 p4) fun S16 => lt (sI S16 56 3 p2) fun S18 => lt (sI S18 56 4 p3) fun S20 => some S20 else some S
def fA_find (F G : Nat) : Nat → Nat → Int32 → Int32 → Int32 → Int32 → St → Option St
  | 0, _, _, _, _, _, _ => none
  | n + 1, l, p1, p2, p3, p4, S => if l = 0 then fA_search F G (fA_find F G n) p1 p2 p3 p4 S else none
set_option maxRecDepth 100000 in
set_option maxHeartbeats 4000000 in
theorem cb_A_search {X : Nat × (Nat → Int32)} {D F G : Nat} (hD : 3 ≤ D) {P : Nat → Int32 → Int32 → Int32 → Int32 → St → Option St} (hP0 : ∀ (a1 : Int32) (a2 : Int32) (a3 : Int32) (a4 : Int32) (S S1 : St), P 0 a1 a2 a3 a4 S = some S1 → Ek X D mA_search 0 [(0, .ref 56), (1, .int a1), (2, .int a2), (3, .int a3), (4, .int a4)] [] S none S1) {S : St} {p1 : Int32} {p2 : Int32} {p3 : Int32} {p4 : Int32} {res : St} (h : fA_search F G P p1 p2 p3 p4 S = some res) : Ek X (D + 1) mA_search 0 [(0, .ref 56), (1, .int p1), (2, .int p2), (3, .int p3), (4, .int p4)] [] S none res := by
  unfold fA_search at h
  have J141 : ∀ (S : St) (y1 : Int32) (y2 : Int32) (y3 : Int32) (y4 : Int32) (res : St), j_A_search_141 F G P S y1 y2 y3 y4 = some res → Ek X (D + 1) mA_search 141 [(0, .ref 56), (1, .int y1), (2, .int y2), (3, .int y3), (4, .int y4)] [] S none res := by
    intro S y1 y2 y3 y4 res h
    unfold j_A_search_141 at h
    refine x_aload_n d_A_search_141 rfl 0 rfl ?_
    refine x_iload_n d_A_search_142 rfl 1 rfl ?_
    refine x_iload_n d_A_search_143 rfl 2 rfl ?_
    refine x_iload_n d_A_search_144 rfl 3 rfl ?_
    obtain ⟨v34, q33, h⟩ := bd_inv h
    refine y_V3i (v := v34) (S1 := S) d_A_search_145 ml_8_84 kd_56 rfl (Nat.le_of_ble_eq_true rfl) (Nat.le_of_ble_eq_true rfl) (c_A_leapsFit (by omega) q33) ?_
    refine x_if_eq (tgt := 169) d_A_search_148 rfl (fun c35 => ?_) (fun c35 => ?_)
    · replace h := ite_t c35 h
      obtain rfl := Option.some.inj h
      exact x_ret (r := none) d_A_search_169 rfl
    · replace h := ite_f c35 h
      refine x_aload_n d_A_search_151 rfl 0 rfl ?_
      refine x_iload_n d_A_search_152 rfl 1 rfl ?_
      refine x_iconst d_A_search_153 ic_1 ?_
      refine x_iadd d_A_search_154 ?_
      refine x_iload_n d_A_search_155 rfl 2 rfl ?_
      refine x_iload_n d_A_search_156 rfl 3 rfl ?_
      refine x_iload d_A_search_157 4 rfl ?_
      refine x_aload_n d_A_search_159 rfl 0 rfl ?_
      refine y_getR d_A_search_160 fl_8_18 rfl kd_56 rr_56_1 ?_
      refine x_iload_n d_A_search_163 rfl 1 rfl ?_
      obtain ⟨g36, h⟩ := gd_inv h
      refine y_iald d_A_search_164 kd_62 g36 ?_
      refine x_iadd d_A_search_165 ?_
      obtain ⟨S38, q37, h⟩ := bd_inv h
      refine y_V4v (S1 := S38) d_A_search_166 ml_8_54 kd_56 rfl (Nat.le_of_ble_eq_true rfl) (Nat.le_of_ble_eq_true rfl) (hP0 _ _ _ _ _ _ q37) ?_
      obtain rfl := Option.some.inj h
      exact x_ret (r := none) d_A_search_169 rfl
  have J92 : ∀ (S : St) (y1 : Int32) (y2 : Int32) (y3 : Int32) (y4 : Int32) (y5 : Int32) (res : St), j_A_search_92 F G P S y1 y2 y3 y4 y5 = some res → Ek X (D + 1) mA_search 92 [(0, .ref 56), (1, .int y1), (2, .int y2), (3, .int y3), (4, .int y4), (5, .int y5)] [] S none res := by
    intro S y1 y2 y3 y4 y5 res h
    unfold j_A_search_92 at h
    refine x_aload_n d_A_search_92 rfl 0 rfl ?_
    refine x_iload_n d_A_search_93 rfl 1 rfl ?_
    refine x_iload_n d_A_search_94 rfl 2 rfl ?_
    refine x_iload_n d_A_search_95 rfl 3 rfl ?_
    obtain ⟨v23, q22, h⟩ := bd_inv h
    refine y_V3i (v := v23) (S1 := S) d_A_search_96 ml_8_87 kd_56 rfl (Nat.le_of_ble_eq_true rfl) (Nat.le_of_ble_eq_true rfl) (c_A_isFreeRight (by omega) q22) ?_
    refine x_if_eq (tgt := 141) d_A_search_99 rfl (fun c24 => ?_) (fun c24 => ?_)
    · replace h := ite_t c24 h
      refine y_pick (L1 := [(0, .ref 56), (1, .int y1), (2, .int y2), (3, .int y3), (4, .int y4)]) [0, 1, 2, 3, 4] rfl ?_
      exact J141 S y1 y2 y3 y4 _ h
    · replace h := ite_f c24 h
      refine x_aload_n d_A_search_102 rfl 0 rfl ?_
      refine x_iload_n d_A_search_103 rfl 1 rfl ?_
      refine x_iload_n d_A_search_104 rfl 3 rfl ?_
      refine x_iload d_A_search_105 5 rfl ?_
      refine x_ior d_A_search_107 ?_
      obtain ⟨v26, q25, h⟩ := bd_inv h
      refine y_V2i (v := v26) (S1 := S) d_A_search_108 ml_8_80 kd_56 rfl (Nat.le_of_ble_eq_true rfl) (Nat.le_of_ble_eq_true rfl) (c_A_fingersReach (by omega) q25) ?_
      refine x_if_eq (tgt := 141) d_A_search_111 rfl (fun c27 => ?_) (fun c27 => ?_)
      · replace h := ite_t c27 h
        refine y_pick (L1 := [(0, .ref 56), (1, .int y1), (2, .int y2), (3, .int y3), (4, .int y4)]) [0, 1, 2, 3, 4] rfl ?_
        exact J141 S y1 y2 y3 y4 _ h
      · replace h := ite_f c27 h
        refine x_aload_n d_A_search_114 rfl 0 rfl ?_
        refine x_iload_n d_A_search_115 rfl 1 rfl ?_
        refine x_iload_n d_A_search_116 rfl 2 rfl ?_
        refine x_iload_n d_A_search_117 rfl 3 rfl ?_
        refine x_iload d_A_search_118 5 rfl ?_
        refine x_ior d_A_search_120 ?_
        obtain ⟨v29, q28, h⟩ := bd_inv h
        refine y_V3i (v := v29) (S1 := S) d_A_search_121 ml_8_84 kd_56 rfl (Nat.le_of_ble_eq_true rfl) (Nat.le_of_ble_eq_true rfl) (c_A_leapsFit (by omega) q28) ?_
        refine x_if_eq (tgt := 141) d_A_search_124 rfl (fun c30 => ?_) (fun c30 => ?_)
        · replace h := ite_t c30 h
          refine y_pick (L1 := [(0, .ref 56), (1, .int y1), (2, .int y2), (3, .int y3), (4, .int y4)]) [0, 1, 2, 3, 4] rfl ?_
          exact J141 S y1 y2 y3 y4 _ h
        · replace h := ite_f c30 h
          refine x_aload_n d_A_search_127 rfl 0 rfl ?_
          refine x_iload_n d_A_search_128 rfl 1 rfl ?_
          refine x_iconst d_A_search_129 ic_1 ?_
          refine x_iadd d_A_search_130 ?_
          refine x_iload_n d_A_search_131 rfl 2 rfl ?_
          refine x_iload_n d_A_search_132 rfl 3 rfl ?_
          refine x_iload d_A_search_133 5 rfl ?_
          refine x_ior d_A_search_135 ?_
          refine x_iload d_A_search_136 4 rfl ?_
          obtain ⟨S32, q31, h⟩ := bd_inv h
          refine y_V4v (S1 := S32) d_A_search_138 ml_8_54 kd_56 rfl (Nat.le_of_ble_eq_true rfl) (Nat.le_of_ble_eq_true rfl) (hP0 _ _ _ _ _ _ q31) ?_
          refine y_pick (L1 := [(0, .ref 56), (1, .int y1), (2, .int y2), (3, .int y3), (4, .int y4)]) [0, 1, 2, 3, 4] rfl ?_
          exact J141 S32 y1 y2 y3 y4 _ h
  refine x_iload d_A_search_0 4 rfl ?_
  refine x_aload_n d_A_search_2 rfl 0 rfl ?_
  refine y_getI d_A_search_3 fl_8_51 rfl kd_56 ?_
  refine x_icmp_lt (tgt := 10) d_A_search_6 rfl (fun c1 => ?_) (fun c1 => ?_)
  · replace h := ite_t c1 h
    refine x_iload_n d_A_search_10 rfl 1 rfl ?_
    refine x_aload_n d_A_search_11 rfl 0 rfl ?_
    refine y_getR d_A_search_12 fl_8_12 rfl kd_56 rr_56_0 ?_
    refine y_getI d_A_search_15 fl_8_41 rfl kd_57 ?_
    refine x_icmp_lt (tgt := 38) d_A_search_18 rfl (fun c2 => ?_) (fun c2 => ?_)
    · replace h := ite_t c2 h
      refine x_iconst d_A_search_38 ic_1 ?_
      refine x_iload_n d_A_search_39 rfl 1 rfl ?_
      refine x_ishl d_A_search_40 ?_
      obtain ⟨v3, e4, h⟩ := lt_inv h
      refine y_istore (L1 := [(0, .ref 56), (1, .int p1), (2, .int p2), (3, .int p3), (4, .int p4), (5, .int v3)]) e4 d_A_search_41 (Nat.le_of_ble_eq_true rfl) rfl rfl ?_
      refine x_aload_n d_A_search_43 rfl 0 rfl ?_
      refine x_iload_n d_A_search_44 rfl 1 rfl ?_
      refine x_iload_n d_A_search_45 rfl 2 rfl ?_
      refine x_iload_n d_A_search_46 rfl 3 rfl ?_
      obtain ⟨v6, q5, h⟩ := bd_inv h
      refine y_V3i (v := v6) (S1 := S) d_A_search_47 ml_8_76 kd_56 rfl (Nat.le_of_ble_eq_true rfl) (Nat.le_of_ble_eq_true rfl) (c_A_isFreeLeft (by omega) q5) ?_
      refine x_if_eq (tgt := 92) d_A_search_50 rfl (fun c7 => ?_) (fun c7 => ?_)
      · replace h := ite_t c7 h
        exact J92 S p1 p2 p3 p4 v3 _ h
      · replace h := ite_f c7 h
        refine x_aload_n d_A_search_53 rfl 0 rfl ?_
        refine x_iload_n d_A_search_54 rfl 1 rfl ?_
        refine x_iload_n d_A_search_55 rfl 2 rfl ?_
        refine x_iload d_A_search_56 5 rfl ?_
        refine x_ior d_A_search_58 ?_
        obtain ⟨v9, q8, h⟩ := bd_inv h
        refine y_V2i (v := v9) (S1 := S) d_A_search_59 ml_8_80 kd_56 rfl (Nat.le_of_ble_eq_true rfl) (Nat.le_of_ble_eq_true rfl) (c_A_fingersReach (by omega) q8) ?_
        refine x_if_eq (tgt := 92) d_A_search_62 rfl (fun c10 => ?_) (fun c10 => ?_)
        · replace h := ite_t c10 h
          exact J92 S p1 p2 p3 p4 v3 _ h
        · replace h := ite_f c10 h
          refine x_aload_n d_A_search_65 rfl 0 rfl ?_
          refine x_iload_n d_A_search_66 rfl 1 rfl ?_
          refine x_iload_n d_A_search_67 rfl 2 rfl ?_
          refine x_iload d_A_search_68 5 rfl ?_
          refine x_ior d_A_search_70 ?_
          refine x_iload_n d_A_search_71 rfl 3 rfl ?_
          obtain ⟨v12, q11, h⟩ := bd_inv h
          refine y_V3i (v := v12) (S1 := S) d_A_search_72 ml_8_84 kd_56 rfl (Nat.le_of_ble_eq_true rfl) (Nat.le_of_ble_eq_true rfl) (c_A_leapsFit (by omega) q11) ?_
          refine x_if_eq (tgt := 92) d_A_search_75 rfl (fun c13 => ?_) (fun c13 => ?_)
          · replace h := ite_t c13 h
            exact J92 S p1 p2 p3 p4 v3 _ h
          · replace h := ite_f c13 h
            refine x_aload_n d_A_search_78 rfl 0 rfl ?_
            refine x_iload_n d_A_search_79 rfl 1 rfl ?_
            refine x_iconst d_A_search_80 ic_1 ?_
            refine x_iadd d_A_search_81 ?_
            refine x_iload_n d_A_search_82 rfl 2 rfl ?_
            refine x_iload d_A_search_83 5 rfl ?_
            refine x_ior d_A_search_85 ?_
            refine x_iload_n d_A_search_86 rfl 3 rfl ?_
            refine x_iload d_A_search_87 4 rfl ?_
            obtain ⟨S15, q14, h⟩ := bd_inv h
            refine y_V4v (S1 := S15) d_A_search_89 ml_8_54 kd_56 rfl (Nat.le_of_ble_eq_true rfl) (Nat.le_of_ble_eq_true rfl) (hP0 _ _ _ _ _ _ q14) ?_
            exact J92 S15 p1 p2 p3 p4 v3 _ h
    · replace h := ite_f c2 h
      refine x_aload_n d_A_search_21 rfl 0 rfl ?_
      refine x_iload d_A_search_22 4 rfl ?_
      obtain ⟨S16, e17, h⟩ := lt_inv h
      refine y_putI e17 d_A_search_24 fl_8_51 rfl rfl kd_56 rfl rfl ?_
      refine x_aload_n d_A_search_27 rfl 0 rfl ?_
      refine x_iload_n d_A_search_28 rfl 2 rfl ?_
      obtain ⟨S18, e19, h⟩ := lt_inv h
      refine y_putI e19 d_A_search_29 fl_8_34 rfl rfl kd_56 rfl rfl ?_
      refine x_aload_n d_A_search_32 rfl 0 rfl ?_
      refine x_iload_n d_A_search_33 rfl 3 rfl ?_
      obtain ⟨S20, e21, h⟩ := lt_inv h
      refine y_putI e21 d_A_search_34 fl_8_38 rfl rfl kd_56 rfl rfl ?_
      obtain rfl := Option.some.inj h
      exact x_ret (r := none) d_A_search_37 rfl
  · replace h := ite_f c1 h
    obtain rfl := Option.some.inj h
    exact x_ret (r := none) d_A_search_9 rfl
theorem cg_1 {X : Nat × (Nat → Int32)} {F G : Nat} (n : Nat) : (∀ (D : Nat), 3 + n ≤ D → ∀ (p1 : Int32) (p2 : Int32) (p3 : Int32) (p4 : Int32) (S S1 : St), fA_find F G n 0 p1 p2 p3 p4 S = some S1 → Ek X D mA_search 0 [(0, .ref 56), (1, .int p1), (2, .int p2), (3, .int p3), (4, .int p4)] [] S none S1) := by
  induction n with
  | zero => exact (fun _ _ _ _ _ _ _ _ h => (by cases h))
  | succ n ih =>
    have i0 := ih
    skip
    · intro D hD p1 p2 p3 p4 S S1 h
      obtain ⟨D, rfl⟩ : ∃ E, D = E + 1 := ⟨D - 1, by omega⟩
      have h : fA_search F G (fA_find F G n) p1 p2 p3 p4 S = some S1 := h
      exact cb_A_search (by omega) (i0 D (by omega)) h
theorem c_A_search {X : Nat × (Nat → Int32)} {D F G : Nat} (hD : 3 + G ≤ D) {S : St} {p1 : Int32} {p2 : Int32} {p3 : Int32} {p4 : Int32} {res : St} (h : fA_find F G G 0 p1 p2 p3 p4 S = some res) : Ek X D mA_search 0 [(0, .ref 56), (1, .int p1), (2, .int p2), (3, .int p3), (4, .int p4)] [] S none res := (cg_1 G) D hD p1 p2 p3 p4 S res h
/-! NinetyPlayers$Arranger.arrange -/
def b_A_arrange_2 (F G : Nat) (k29 : St → Option (St)) (rec : Int32 → St → Option (St)) (w1 : Int32) (S : St) : Option (St) :=
  if (S.1 57 1) ≤ w1 then k29 S else bd (fA_findBars F G S w1) fun S3 => bd (fA_findSettledLeaps F G S3 w1) fun S5 => lt (w1 + 1) fun v6 => rec v6 S5
def fA_arrange (F G : Nat) (S : St) : Option (St) :=
  fx2 (b_A_arrange_2 F G  (fun S8 => lt (sI S8 56 2 (9991 : Int32)) fun S9 => lt (sI S9 56 3 (0 : Int32)) fun S11 => lt (sI S11 56 4 (0 : Int32)) fun S13 => bd (fA_find F G G 0 (0 : Int32) (0 : Int32) (0 : Int32) (0 : Int32) S13) fun S16 => some S16)) F (0 : Int32) S
set_option maxRecDepth 100000 in
set_option maxHeartbeats 4000000 in
theorem T_A_arrange_2 {X : Nat × (Nat → Int32)} {D F G : Nat} (hD : 4 + G ≤ D + 1) {k29 : St → Option (St)} (hk29 : ∀ (S1 : St) (res : St), k29 S1 = some res → Ek X (D + 1) mA_arrange 29 [(0, .ref 56)] [] S1 none res) : ∀ (f : Nat) (w1 : Int32) (S : St) (res : St), fx2 (b_A_arrange_2 F G k29 ) f w1 S = some res → Ek X (D + 1) mA_arrange 2 [(0, .ref 56), (1, .int w1)] [] S none res := by
  refine fx2_ind ?_
  intro rec ih w1 S res h
  unfold b_A_arrange_2 at h
  refine x_iload_n d_A_arrange_2 rfl 1 rfl ?_
  refine x_aload_n d_A_arrange_3 rfl 0 rfl ?_
  refine y_getR d_A_arrange_4 fl_8_12 rfl kd_56 rr_56_0 ?_
  refine y_getI d_A_arrange_7 fl_8_41 rfl kd_57 ?_
  refine x_icmp_ge (tgt := 29) d_A_arrange_10 rfl (fun c1 => ?_) (fun c1 => ?_)
  · replace h := ite_t c1 h
    refine y_pick (L1 := [(0, .ref 56)]) [0] rfl ?_
    exact hk29 S _ h
  · replace h := ite_f c1 h
    refine x_aload_n d_A_arrange_13 rfl 0 rfl ?_
    refine x_iload_n d_A_arrange_14 rfl 1 rfl ?_
    obtain ⟨S3, q2, h⟩ := bd_inv h
    refine y_V1v (S1 := S3) d_A_arrange_15 ml_8_44 kd_56 rfl (Nat.le_of_ble_eq_true rfl) (Nat.le_of_ble_eq_true rfl) (c_A_findBars (by omega) q2) ?_
    refine x_aload_n d_A_arrange_18 rfl 0 rfl ?_
    refine x_iload_n d_A_arrange_19 rfl 1 rfl ?_
    obtain ⟨S5, q4, h⟩ := bd_inv h
    refine y_V1v (S1 := S5) d_A_arrange_20 ml_8_48 kd_56 rfl (Nat.le_of_ble_eq_true rfl) (Nat.le_of_ble_eq_true rfl) (c_A_findSettledLeaps (by omega) q4) ?_
    obtain ⟨v6, e7, h⟩ := lt_inv h
    refine y_iinc (L1 := [(0, .ref 56), (1, .int v6)]) e7 ic_1 d_A_arrange_23 1 rfl (Nat.le_of_ble_eq_true rfl) rfl rfl ?_
    refine x_goto (tgt := 2) d_A_arrange_26 rfl ?_
    exact ih v6 S5 _ h
set_option maxRecDepth 100000 in
set_option maxHeartbeats 4000000 in
theorem c_A_arrange {X : Nat × (Nat → Int32)} {D F G : Nat} (hD : 4 + G ≤ D) {S : St} {res : St} (h : fA_arrange F G S  = some res) : Ek X (D) mA_arrange 0 [(0, .ref 56)] [] S none res := by
  obtain ⟨D, rfl⟩ : ∃ E, D = E + 1 := ⟨D - 1, by omega⟩
  unfold fA_arrange at h
  refine x_iconst d_A_arrange_0 ic_0 ?_
  refine x_istore_n (L1 := [(0, .ref 56), (1, .int (0 : Int32))]) d_A_arrange_1 rfl (Nat.le_of_ble_eq_true rfl) rfl rfl ?_
  refine T_A_arrange_2 (by omega)  ?_ F (0 : Int32) S _ h
  · intro S8 res h
    refine x_aload_n d_A_arrange_29 rfl 0 rfl ?_
    refine x_sipush d_A_arrange_30 sp_9991 ?_
    obtain ⟨S9, e10, h⟩ := lt_inv h
    refine y_putI e10 d_A_arrange_33 fl_8_51 rfl rfl kd_56 rfl rfl ?_
    refine x_aload_n d_A_arrange_36 rfl 0 rfl ?_
    refine x_iconst d_A_arrange_37 ic_0 ?_
    obtain ⟨S11, e12, h⟩ := lt_inv h
    refine y_putI e12 d_A_arrange_38 fl_8_34 rfl rfl kd_56 rfl rfl ?_
    refine x_aload_n d_A_arrange_41 rfl 0 rfl ?_
    refine x_iconst d_A_arrange_42 ic_0 ?_
    obtain ⟨S13, e14, h⟩ := lt_inv h
    refine y_putI e14 d_A_arrange_43 fl_8_38 rfl rfl kd_56 rfl rfl ?_
    refine x_aload_n d_A_arrange_46 rfl 0 rfl ?_
    refine x_iconst d_A_arrange_47 ic_0 ?_
    refine x_iconst d_A_arrange_48 ic_0 ?_
    refine x_iconst d_A_arrange_49 ic_0 ?_
    refine x_iconst d_A_arrange_50 ic_0 ?_
    obtain ⟨S16, q15, h⟩ := bd_inv h
    refine y_V4v (S1 := S16) d_A_arrange_51 ml_8_54 kd_56 rfl (Nat.le_of_ble_eq_true rfl) (Nat.le_of_ble_eq_true rfl) (c_A_search (by omega) q15) ?_
    obtain rfl := Option.some.inj h
    exact x_ret (r := none) d_A_arrange_54 rfl
/-! NinetyPlayers$Arranger.handOf -/
def fA_handOf (F G : Nat) (S : St) (p1 : Int32) : Option (Int32) :=
  if (((S.1 56 3) >>> (p1 &&& 31)) &&& (1 : Int32)) = 0 then if (((S.1 56 4) >>> (p1 &&& 31)) &&& (1 : Int32)) = 0 then some (0 : Int32) else some (2 : Int32) else some (1 : Int32)
set_option maxRecDepth 100000 in
set_option maxHeartbeats 4000000 in
theorem c_A_handOf {X : Nat × (Nat → Int32)} {D F G : Nat} (hD : 0 ≤ D) {S : St} {p1 : Int32} {res : Int32} (h : fA_handOf F G S p1 = some res) : Ek X (D) mA_handOf 0 [(0, .ref 56), (1, .int p1)] [] S (some (.int res)) S := by
  unfold fA_handOf at h
  refine x_aload_n d_A_handOf_0 rfl 0 rfl ?_
  refine y_getI d_A_handOf_1 fl_8_34 rfl kd_56 ?_
  refine x_iload_n d_A_handOf_4 rfl 1 rfl ?_
  refine x_ishr d_A_handOf_5 ?_
  refine x_iconst d_A_handOf_6 ic_1 ?_
  refine x_iand d_A_handOf_7 ?_
  refine x_if_eq (tgt := 15) d_A_handOf_8 rfl (fun c1 => ?_) (fun c1 => ?_)
  · replace h := ite_t c1 h
    refine x_aload_n d_A_handOf_15 rfl 0 rfl ?_
    refine y_getI d_A_handOf_16 fl_8_38 rfl kd_56 ?_
    refine x_iload_n d_A_handOf_19 rfl 1 rfl ?_
    refine x_ishr d_A_handOf_20 ?_
    refine x_iconst d_A_handOf_21 ic_1 ?_
    refine x_iand d_A_handOf_22 ?_
    refine x_if_eq (tgt := 30) d_A_handOf_23 rfl (fun c2 => ?_) (fun c2 => ?_)
    · replace h := ite_t c2 h
      refine x_iconst d_A_handOf_30 ic_0 ?_
      obtain rfl := Option.some.inj h
      exact x_ret (r := some (.int (0 : Int32))) d_A_handOf_31 ⟨_, rfl, rfl⟩
    · replace h := ite_f c2 h
      refine x_iconst d_A_handOf_26 ic_2 ?_
      refine x_goto (tgt := 31) d_A_handOf_27 rfl ?_
      obtain rfl := Option.some.inj h
      exact x_ret (r := some (.int (2 : Int32))) d_A_handOf_31 ⟨_, rfl, rfl⟩
  · replace h := ite_f c1 h
    refine x_iconst d_A_handOf_11 ic_1 ?_
    refine x_goto (tgt := 31) d_A_handOf_12 rfl ?_
    obtain rfl := Option.some.inj h
    exact x_ret (r := some (.int (1 : Int32))) d_A_handOf_31 ⟨_, rfl, rfl⟩
/-! NinetyPlayers.layLeastMissed -/
def b_N_layLeastMissed_33 (F G : Nat) (rec : Int32 → St → Option (St)) (w3 : Int32) (S : St) : Option (St) :=
  gd (isSc S.2.2.1) (if (S.1 S.2.2.1 6) ≤ w3 then lt (sI S 0 12 (S.1 S.2.2.1 6)) fun S13 => some S13 else bd (fA_handOf F G S w3) fun v16 => gd (inB w3 10) (lt (sI S 77 w3.toNatClampNeg v16) fun S18 => lt (w3 + 1) fun v20 => rec v20 S18))
def fN_layLeastMissed (F G : Nat) (S : St) (p1 : Int32) (p2 : Int32) : Option (St) :=
  bd (fN_lookAtKeys F G S ) fun S2 => bd (fN_weighAll F G S2 ) fun S4 => lt (sI S4 57 3 p1) fun S5 => lt (sI S5 57 2 p2) fun S7 => bd (fA_arrange F G S7 ) fun S10 => fx2 (b_N_layLeastMissed_33 F G ) F (0 : Int32) S10
set_option maxRecDepth 100000 in
set_option maxHeartbeats 4000000 in
theorem T_N_layLeastMissed_33 {X : Nat × (Nat → Int32)} {D F G : Nat} (hD : 5 + G ≤ D + 1) : ∀ (f : Nat) (w3 : Int32) (S : St) (res : St), fx2 (b_N_layLeastMissed_33 F G ) f w3 S = some res → Ek X (D + 1) mN_layLeastMissed 33 [(0, .ref 0), (3, .int w3)] [] S none res := by
  refine fx2_ind ?_
  intro rec ih w3 S res h
  unfold b_N_layLeastMissed_33 at h
  refine x_iload_n d_N_layLeastMissed_33 rfl 1 rfl ?_
  refine x_aload_n d_N_layLeastMissed_34 rfl 0 rfl ?_
  refine y_getR d_N_layLeastMissed_35 fl_0_24 rfl kd_0 rr_told ?_
  obtain ⟨g11, h⟩ := gd_inv h
  refine y_getI d_N_layLeastMissed_38 fl_0_122 rfl (ksSc g11) ?_
  refine x_icmp_ge (tgt := 64) d_N_layLeastMissed_41 rfl (fun c12 => ?_) (fun c12 => ?_)
  · replace h := ite_t c12 h
    refine x_aload_n d_N_layLeastMissed_64 rfl 0 rfl ?_
    refine x_aload_n d_N_layLeastMissed_65 rfl 0 rfl ?_
    refine y_getR d_N_layLeastMissed_66 fl_0_24 rfl kd_0 rr_told ?_
    refine y_getI d_N_layLeastMissed_69 fl_0_122 rfl (ksSc g11) ?_
    obtain ⟨S13, e14, h⟩ := lt_inv h
    refine y_putI e14 d_N_layLeastMissed_72 fl_0_115 rfl rfl kd_0 rfl rfl ?_
    obtain rfl := Option.some.inj h
    exact x_ret (r := none) d_N_layLeastMissed_75 rfl
  · replace h := ite_f c12 h
    refine x_aload_n d_N_layLeastMissed_44 rfl 0 rfl ?_
    refine y_getR d_N_layLeastMissed_45 fl_0_77 rfl kd_0 rr_0_11 ?_
    refine x_iload_n d_N_layLeastMissed_48 rfl 1 rfl ?_
    refine x_aload_n d_N_layLeastMissed_49 rfl 0 rfl ?_
    refine y_getR d_N_layLeastMissed_50 fl_0_49 rfl kd_0 rr_0_6 ?_
    refine x_iload_n d_N_layLeastMissed_53 rfl 1 rfl ?_
    obtain ⟨v16, q15, h⟩ := bd_inv h
    refine y_V1i (v := v16) (S1 := S) d_N_layLeastMissed_54 ml_0_283 kd_56 rfl (Nat.le_of_ble_eq_true rfl) (Nat.le_of_ble_eq_true rfl) (c_A_handOf (by omega) q15) ?_
    obtain ⟨g17, h⟩ := gd_inv h
    obtain ⟨S18, e19, h⟩ := lt_inv h
    refine y_iast e19 d_N_layLeastMissed_57 kd_77 g17 ?_
    obtain ⟨v20, e21, h⟩ := lt_inv h
    refine y_iinc (L1 := [(0, .ref 0), (3, .int v20)]) e21 ic_1 d_N_layLeastMissed_58 1 rfl (Nat.le_of_ble_eq_true rfl) rfl rfl ?_
    refine x_goto (tgt := 33) d_N_layLeastMissed_61 rfl ?_
    exact ih v20 S18 _ h
set_option maxRecDepth 100000 in
set_option maxHeartbeats 4000000 in
theorem c_N_layLeastMissed {X : Nat × (Nat → Int32)} {D F G : Nat} (hD : 5 + G ≤ D) {S : St} {p1 : Int32} {p2 : Int32} {res : St} (h : fN_layLeastMissed F G S p1 p2 = some res) : Ek X (D) mN_layLeastMissed 0 [(0, .ref 0), (1, .int p1), (2, .int p2)] [] S none res := by
  obtain ⟨D, rfl⟩ : ∃ E, D = E + 1 := ⟨D - 1, by omega⟩
  unfold fN_layLeastMissed at h
  refine x_aload_n d_N_layLeastMissed_0 rfl 0 rfl ?_
  obtain ⟨S2, q1, h⟩ := bd_inv h
  refine y_V0v (S1 := S2) d_N_layLeastMissed_1 ml_0_176 kd_0 rfl (Nat.le_of_ble_eq_true rfl) (Nat.le_of_ble_eq_true rfl) (c_N_lookAtKeys (by omega) q1) ?_
  refine x_aload_n d_N_layLeastMissed_4 rfl 0 rfl ?_
  obtain ⟨S4, q3, h⟩ := bd_inv h
  refine y_V0v (S1 := S4) d_N_layLeastMissed_5 ml_0_275 kd_0 rfl (Nat.le_of_ble_eq_true rfl) (Nat.le_of_ble_eq_true rfl) (c_N_weighAll (by omega) q3) ?_
  refine x_aload_n d_N_layLeastMissed_8 rfl 0 rfl ?_
  refine y_getR d_N_layLeastMissed_9 fl_0_57 rfl kd_0 rr_0_7 ?_
  refine x_iload_n d_N_layLeastMissed_12 rfl 1 rfl ?_
  obtain ⟨S5, e6, h⟩ := lt_inv h
  refine y_putI e6 d_N_layLeastMissed_13 fl_0_278 rfl rfl kd_57 rfl rfl ?_
  refine x_aload_n d_N_layLeastMissed_16 rfl 0 rfl ?_
  refine y_getR d_N_layLeastMissed_17 fl_0_57 rfl kd_0 rr_0_7 ?_
  refine x_iload_n d_N_layLeastMissed_20 rfl 2 rfl ?_
  obtain ⟨S7, e8, h⟩ := lt_inv h
  refine y_putI e8 d_N_layLeastMissed_21 fl_0_279 rfl rfl kd_57 rfl rfl ?_
  refine x_aload_n d_N_layLeastMissed_24 rfl 0 rfl ?_
  refine y_getR d_N_layLeastMissed_25 fl_0_49 rfl kd_0 rr_0_6 ?_
  obtain ⟨S10, q9, h⟩ := bd_inv h
  refine y_V0v (S1 := S10) d_N_layLeastMissed_28 ml_0_280 kd_56 rfl (Nat.le_of_ble_eq_true rfl) (Nat.le_of_ble_eq_true rfl) (c_A_arrange (by omega) q9) ?_
  refine x_iconst d_N_layLeastMissed_31 ic_0 ?_
  refine x_istore_n (L1 := [(0, .ref 0), (1, .int p1), (2, .int p2), (3, .int (0 : Int32))]) d_N_layLeastMissed_32 rfl (Nat.le_of_ble_eq_true rfl) rfl rfl ?_
  refine y_pick (L1 := [(0, .ref 0), (3, .int (0 : Int32))]) [0, 3] rfl ?_
  refine T_N_layLeastMissed_33 (by omega)   F (0 : Int32) S10 _ h
