/-! NinetyPlayersModel.isIn -/
def fM_isIn (F G : Nat) (S : St) (p1 : Int32) (p2 : Int32) (p3 : Int32) : Option (Int32) :=
  if p1 < p2 then some (0 : Int32) else if p3 < p1 then some (0 : Int32) else some (1 : Int32)
set_option maxRecDepth 100000 in
set_option maxHeartbeats 4000000 in
theorem c_M_isIn {X : Nat × (Nat → Int32)} {D F G : Nat} (hD : 0 ≤ D) {S : St} {p1 : Int32} {p2 : Int32} {p3 : Int32} {res : Int32} (h : fM_isIn F G S p1 p2 p3 = some res) : Ek X (D) mM_isIn 0 [(0, .int p1), (1, .int p2), (2, .int p3)] [] S (some (.int res)) S := by
  unfold fM_isIn at h
  refine x_iload_n d_M_isIn_0 rfl 0 rfl ?_
  refine x_iload_n d_M_isIn_1 rfl 1 rfl ?_
  refine x_icmp_lt (tgt := 14) d_M_isIn_2 rfl (fun c1 => ?_) (fun c1 => ?_)
  · replace h := ite_t c1 h
    refine x_iconst d_M_isIn_14 ic_0 ?_
    obtain rfl := Option.some.inj h
    exact x_ret (r := some (.int (0 : Int32))) d_M_isIn_15 ⟨_, rfl, rfl⟩
  · replace h := ite_f c1 h
    refine x_iload_n d_M_isIn_5 rfl 0 rfl ?_
    refine x_iload_n d_M_isIn_6 rfl 2 rfl ?_
    refine x_icmp_gt (tgt := 14) d_M_isIn_7 rfl (fun c2 => ?_) (fun c2 => ?_)
    · replace h := ite_t c2 h
      refine x_iconst d_M_isIn_14 ic_0 ?_
      obtain rfl := Option.some.inj h
      exact x_ret (r := some (.int (0 : Int32))) d_M_isIn_15 ⟨_, rfl, rfl⟩
    · replace h := ite_f c2 h
      refine x_iconst d_M_isIn_10 ic_1 ?_
      refine x_goto (tgt := 15) d_M_isIn_11 rfl ?_
      obtain rfl := Option.some.inj h
      exact x_ret (r := some (.int (1 : Int32))) d_M_isIn_15 ⟨_, rfl, rfl⟩
/-! NinetyPlayersModel.isNote -/
def fM_isNote (F G : Nat) (S : St) (p1 : Int32) : Option (Int32) :=
  bd (fM_isIn F G S p1 (0 : Int32) ((S.1 78 48) - (1 : Int32))) fun v2 => gd (isB v2) (some v2)
set_option maxRecDepth 100000 in
set_option maxHeartbeats 4000000 in
theorem c_M_isNote {X : Nat × (Nat → Int32)} {D F G : Nat} (hD : 1 ≤ D) {S : St} {p1 : Int32} {res : Int32} (h : fM_isNote F G S p1 = some res) : Ek X (D) mM_isNote 0 [(0, .ref 78), (1, .int p1)] [] S (some (.int res)) S := by
  obtain ⟨D, rfl⟩ : ∃ E, D = E + 1 := ⟨D - 1, by omega⟩
  unfold fM_isNote at h
  refine x_iload_n d_M_isNote_0 rfl 1 rfl ?_
  refine x_iconst d_M_isNote_1 ic_0 ?_
  refine x_aload_n d_M_isNote_2 rfl 0 rfl ?_
  refine y_getI d_M_isNote_3 fl_11_322 rfl kd_78 ?_
  refine x_iconst d_M_isNote_6 ic_1 ?_
  refine x_isub d_M_isNote_7 ?_
  obtain ⟨v2, q1, h⟩ := bd_inv h
  refine y_S3i (v := v2) (S1 := S) d_M_isNote_8 ml_11_429 (Nat.le_of_ble_eq_true rfl) (Nat.le_of_ble_eq_true rfl) (c_M_isIn (by omega) q1) ?_
  obtain ⟨g3, h⟩ := gd_inv h
  obtain rfl := Option.some.inj h
  exact x_ret (r := some (.int v2)) d_M_isNote_11 ⟨_, rfl, isB_nar g3⟩
/-! NinetyPlayersModel.layHold -/
def b_M_layHold_2 (F G : Nat) (k21 : St → Option (St)) (rec : Int32 → St → Option (St)) (w1 : Int32) (S : St) : Option (St) :=
  if (12 : Int32) ≤ w1 then k21 S else gd (inB w1 12) (lt (sI S 102 w1.toNatClampNeg (0 : Int32)) fun S3 => lt (w1 + 1) fun v5 => rec v5 S3)
def j_M_layHold_101 (F G : Nat) (z1 : Int32) (k124 : St → Option (St)) (rec : Int32 → Int32 → St → Option (St)) (S : St) (y3 : Int32) (s0 : Int32) : Option (St) :=
  if s0 = 0 then lt (y3 + 1) fun v22 => rec s0 v22 S else gd (inB y3 12) (gd (inB y3 12) (lt (sI S 102 y3.toNatClampNeg ((S.1 102 y3.toNatClampNeg) ||| ((1 : Int32) <<< (z1 &&& 31)))) fun S26 => lt (y3 + 1) fun v28 => rec s0 v28 S26))
def j_M_layHold_100 (F G : Nat) (z1 : Int32) (k124 : St → Option (St)) (rec : Int32 → Int32 → St → Option (St)) (S : St) (y3 : Int32) : Option (St) :=
  j_M_layHold_101 F G z1 k124 rec  S y3 (0 : Int32)
def j_M_layHold_96 (F G : Nat) (z1 : Int32) (k124 : St → Option (St)) (rec : Int32 → Int32 → St → Option (St)) (S : St) (y3 : Int32) : Option (St) :=
  j_M_layHold_101 F G z1 k124 rec  S y3 (1 : Int32)
def b_M_layHold_40 (F G : Nat) (z1 : Int32) (k124 : St → Option (St)) (rec : Int32 → Int32 → St → Option (St)) (w2 : Int32) (w3 : Int32) (S : St) : Option (St) :=
  if (S.1 78 46) ≤ w3 then k124 S else if w2 = 0 then k124 S else gd (inB z1 10) (gd (inB ((20 : Int32) + z1) 41) (if ((S.1 96 z1.toNatClampNeg) + (S.1 101 ((20 : Int32) + z1).toNatClampNeg)) ≤ w3 then j_M_layHold_100 F G z1 k124 rec  S w3 else gd (inB z1 10) (if w3 = (S.1 96 z1.toNatClampNeg) then j_M_layHold_96 F G z1 k124 rec  S w3 else gd (inB (40 : Int32) 41) (if (((S.1 101 (40 : Int32).toNatClampNeg) >>> (w3 &&& 31)) &&& (1 : Int32)) = 0 then j_M_layHold_96 F G z1 k124 rec  S w3 else j_M_layHold_100 F G z1 k124 rec  S w3))))
def b_M_layHold_23 (F G : Nat) (rec : Int32 → St → Option (St)) (w1 : Int32) (S : St) : Option (St) :=
  if (S.1 78 48) ≤ w1 then some S else gd (inB w1 10) (lt (S.1 96 w1.toNatClampNeg) fun v10 => fx3 (b_M_layHold_40 F G w1 (fun S30 => lt (w1 + 1) fun v31 => rec v31 S30)) F (1 : Int32) v10 S)
def fM_layHold (F G : Nat) (S : St) : Option (St) :=
  fx2 (b_M_layHold_2 F G  (fun S7 => fx2 (b_M_layHold_23 F G ) F (0 : Int32) S7)) F (0 : Int32) S
set_option maxRecDepth 100000 in
set_option maxHeartbeats 4000000 in
theorem T_M_layHold_2 {X : Nat × (Nat → Int32)} {D F G : Nat} (hD : 0 ≤ D) {k21 : St → Option (St)} (hk21 : ∀ (S1 : St) (res : St), k21 S1 = some res → Ek X (D) mM_layHold 21 [(0, .ref 78)] [] S1 none res) : ∀ (f : Nat) (w1 : Int32) (S : St) (res : St), fx2 (b_M_layHold_2 F G k21 ) f w1 S = some res → Ek X (D) mM_layHold 2 [(0, .ref 78), (1, .int w1)] [] S none res := by
  refine fx2_ind ?_
  intro rec ih w1 S res h
  unfold b_M_layHold_2 at h
  refine x_iload_n d_M_layHold_2 rfl 1 rfl ?_
  refine x_bipush d_M_layHold_3 bp_12 ?_
  refine x_icmp_ge (tgt := 21) d_M_layHold_5 rfl (fun c1 => ?_) (fun c1 => ?_)
  · replace h := ite_t c1 h
    refine y_pick (L1 := [(0, .ref 78)]) [0] rfl ?_
    exact hk21 S _ h
  · replace h := ite_f c1 h
    refine x_aload_n d_M_layHold_8 rfl 0 rfl ?_
    refine y_getR d_M_layHold_9 fl_11_99 rfl kd_78 rr_78_60 ?_
    refine x_iload_n d_M_layHold_12 rfl 1 rfl ?_
    refine x_iconst d_M_layHold_13 ic_0 ?_
    obtain ⟨g2, h⟩ := gd_inv h
    obtain ⟨S3, e4, h⟩ := lt_inv h
    refine y_iast e4 d_M_layHold_14 kd_102 g2 ?_
    obtain ⟨v5, e6, h⟩ := lt_inv h
    refine y_iinc (L1 := [(0, .ref 78), (1, .int v5)]) e6 ic_1 d_M_layHold_15 1 rfl (Nat.le_of_ble_eq_true rfl) rfl rfl ?_
    refine x_goto (tgt := 2) d_M_layHold_18 rfl ?_
    exact ih v5 S3 _ h
set_option maxRecDepth 100000 in
set_option maxHeartbeats 4000000 in
theorem T_M_layHold_40 {X : Nat × (Nat → Int32)} {D F G : Nat} (hD : 0 ≤ D) {z1 : Int32} {k124 : St → Option (St)} (hk124 : ∀ (S1 : St) (res : St), k124 S1 = some res → Ek X (D) mM_layHold 124 [(0, .ref 78), (1, .int z1)] [] S1 none res) : ∀ (f : Nat) (w2 : Int32) (w3 : Int32) (S : St) (res : St), fx3 (b_M_layHold_40 F G z1 k124 ) f w2 w3 S = some res → Ek X (D) mM_layHold 40 [(0, .ref 78), (1, .int z1), (2, .int w2), (3, .int w3)] [] S none res := by
  refine fx3_ind ?_
  intro rec ih w2 w3 S res h
  unfold b_M_layHold_40 at h
  have J101 : ∀ (S : St) (y3 : Int32) (s0 : Int32) (res : St), j_M_layHold_101 F G z1 k124 rec S y3 s0 = some res → Ek X (D) mM_layHold 101 [(0, .ref 78), (1, .int z1), (3, .int y3)] [.int s0] S none res := by
    intro S y3 s0 res h
    unfold j_M_layHold_101 at h
    refine x_istore_n (L1 := [(0, .ref 78), (1, .int z1), (2, .int s0), (3, .int y3)]) d_M_layHold_101 rfl (Nat.le_of_ble_eq_true rfl) rfl rfl ?_
    refine x_iload_n d_M_layHold_102 rfl 2 rfl ?_
    refine x_if_eq (tgt := 118) d_M_layHold_103 rfl (fun c21 => ?_) (fun c21 => ?_)
    · replace h := ite_t c21 h
      obtain ⟨v22, e23, h⟩ := lt_inv h
      refine y_iinc (L1 := [(0, .ref 78), (1, .int z1), (2, .int s0), (3, .int v22)]) e23 ic_1 d_M_layHold_118 3 rfl (Nat.le_of_ble_eq_true rfl) rfl rfl ?_
      refine x_goto (tgt := 40) d_M_layHold_121 rfl ?_
      exact ih s0 v22 S _ h
    · replace h := ite_f c21 h
      refine x_aload_n d_M_layHold_106 rfl 0 rfl ?_
      refine y_getR d_M_layHold_107 fl_11_99 rfl kd_78 rr_78_60 ?_
      refine x_iload_n d_M_layHold_110 rfl 3 rfl ?_
      refine x_dup2 d_M_layHold_111 rfl rfl ?_
      obtain ⟨g24, h⟩ := gd_inv h
      refine y_iald d_M_layHold_112 kd_102 g24 ?_
      refine x_iconst d_M_layHold_113 ic_1 ?_
      refine x_iload_n d_M_layHold_114 rfl 1 rfl ?_
      refine x_ishl d_M_layHold_115 ?_
      refine x_ior d_M_layHold_116 ?_
      obtain ⟨g25, h⟩ := gd_inv h
      obtain ⟨S26, e27, h⟩ := lt_inv h
      refine y_iast e27 d_M_layHold_117 kd_102 g25 ?_
      obtain ⟨v28, e29, h⟩ := lt_inv h
      refine y_iinc (L1 := [(0, .ref 78), (1, .int z1), (2, .int s0), (3, .int v28)]) e29 ic_1 d_M_layHold_118 3 rfl (Nat.le_of_ble_eq_true rfl) rfl rfl ?_
      refine x_goto (tgt := 40) d_M_layHold_121 rfl ?_
      exact ih s0 v28 S26 _ h
  have J100 : ∀ (S : St) (y3 : Int32) (res : St), j_M_layHold_100 F G z1 k124 rec S y3 = some res → Ek X (D) mM_layHold 100 [(0, .ref 78), (1, .int z1), (3, .int y3)] [] S none res := by
    intro S y3 res h
    unfold j_M_layHold_100 at h
    refine x_iconst d_M_layHold_100 ic_0 ?_
    exact J101 S y3 (0 : Int32) _ h
  have J96 : ∀ (S : St) (y3 : Int32) (res : St), j_M_layHold_96 F G z1 k124 rec S y3 = some res → Ek X (D) mM_layHold 96 [(0, .ref 78), (1, .int z1), (3, .int y3)] [] S none res := by
    intro S y3 res h
    unfold j_M_layHold_96 at h
    refine x_iconst d_M_layHold_96 ic_1 ?_
    refine x_goto (tgt := 101) d_M_layHold_97 rfl ?_
    exact J101 S y3 (1 : Int32) _ h
  refine x_iload_n d_M_layHold_40 rfl 3 rfl ?_
  refine x_aload_n d_M_layHold_41 rfl 0 rfl ?_
  refine y_getI d_M_layHold_42 fl_11_78 rfl kd_78 ?_
  refine x_icmp_ge (tgt := 124) d_M_layHold_45 rfl (fun c12 => ?_) (fun c12 => ?_)
  · replace h := ite_t c12 h
    refine y_pick (L1 := [(0, .ref 78), (1, .int z1)]) [0, 1] rfl ?_
    exact hk124 S _ h
  · replace h := ite_f c12 h
    refine x_iload_n d_M_layHold_48 rfl 2 rfl ?_
    refine x_if_eq (tgt := 124) d_M_layHold_49 rfl (fun c13 => ?_) (fun c13 => ?_)
    · replace h := ite_t c13 h
      refine y_pick (L1 := [(0, .ref 78), (1, .int z1)]) [0, 1] rfl ?_
      exact hk124 S _ h
    · replace h := ite_f c13 h
      refine x_iload_n d_M_layHold_52 rfl 3 rfl ?_
      refine x_aload_n d_M_layHold_53 rfl 0 rfl ?_
      refine y_getR d_M_layHold_54 fl_11_66 rfl kd_78 rr_78_35 ?_
      refine x_iload_n d_M_layHold_57 rfl 1 rfl ?_
      obtain ⟨g14, h⟩ := gd_inv h
      refine y_iald d_M_layHold_58 kd_96 g14 ?_
      refine x_aload_n d_M_layHold_59 rfl 0 rfl ?_
      refine y_getR d_M_layHold_60 fl_11_96 rfl kd_78 rr_78_59 ?_
      refine x_bipush d_M_layHold_63 bp_20 ?_
      refine x_iload_n d_M_layHold_65 rfl 1 rfl ?_
      refine x_iadd d_M_layHold_66 ?_
      obtain ⟨g15, h⟩ := gd_inv h
      refine y_iald d_M_layHold_67 kd_101 g15 ?_
      refine x_iadd d_M_layHold_68 ?_
      refine x_icmp_ge (tgt := 100) d_M_layHold_69 rfl (fun c16 => ?_) (fun c16 => ?_)
      · replace h := ite_t c16 h
        refine y_pick (L1 := [(0, .ref 78), (1, .int z1), (3, .int w3)]) [0, 1, 3] rfl ?_
        exact J100 S w3 _ h
      · replace h := ite_f c16 h
        refine x_iload_n d_M_layHold_72 rfl 3 rfl ?_
        refine x_aload_n d_M_layHold_73 rfl 0 rfl ?_
        refine y_getR d_M_layHold_74 fl_11_66 rfl kd_78 rr_78_35 ?_
        refine x_iload_n d_M_layHold_77 rfl 1 rfl ?_
        obtain ⟨g17, h⟩ := gd_inv h
        refine y_iald d_M_layHold_78 kd_96 g17 ?_
        refine x_icmp_eq (tgt := 96) d_M_layHold_79 rfl (fun c18 => ?_) (fun c18 => ?_)
        · replace h := ite_t c18 h
          refine y_pick (L1 := [(0, .ref 78), (1, .int z1), (3, .int w3)]) [0, 1, 3] rfl ?_
          exact J96 S w3 _ h
        · replace h := ite_f c18 h
          refine x_aload_n d_M_layHold_82 rfl 0 rfl ?_
          refine y_getR d_M_layHold_83 fl_11_96 rfl kd_78 rr_78_59 ?_
          refine x_bipush d_M_layHold_86 bp_40 ?_
          obtain ⟨g19, h⟩ := gd_inv h
          refine y_iald d_M_layHold_88 kd_101 g19 ?_
          refine x_iload_n d_M_layHold_89 rfl 3 rfl ?_
          refine x_ishr d_M_layHold_90 ?_
          refine x_iconst d_M_layHold_91 ic_1 ?_
          refine x_iand d_M_layHold_92 ?_
          refine x_if_ne (tgt := 100) d_M_layHold_93 rfl (fun c20 => ?_) (fun c20 => ?_)
          · replace h := ite_f c20 h
            refine y_pick (L1 := [(0, .ref 78), (1, .int z1), (3, .int w3)]) [0, 1, 3] rfl ?_
            exact J100 S w3 _ h
          · replace h := ite_t c20 h
            refine y_pick (L1 := [(0, .ref 78), (1, .int z1), (3, .int w3)]) [0, 1, 3] rfl ?_
            exact J96 S w3 _ h
set_option maxRecDepth 100000 in
set_option maxHeartbeats 4000000 in
theorem T_M_layHold_23 {X : Nat × (Nat → Int32)} {D F G : Nat} (hD : 0 ≤ D) : ∀ (f : Nat) (w1 : Int32) (S : St) (res : St), fx2 (b_M_layHold_23 F G ) f w1 S = some res → Ek X (D) mM_layHold 23 [(0, .ref 78), (1, .int w1)] [] S none res := by
  refine fx2_ind ?_
  intro rec ih w1 S res h
  unfold b_M_layHold_23 at h
  refine x_iload_n d_M_layHold_23 rfl 1 rfl ?_
  refine x_aload_n d_M_layHold_24 rfl 0 rfl ?_
  refine y_getI d_M_layHold_25 fl_11_322 rfl kd_78 ?_
  refine x_icmp_ge (tgt := 130) d_M_layHold_28 rfl (fun c8 => ?_) (fun c8 => ?_)
  · replace h := ite_t c8 h
    obtain rfl := Option.some.inj h
    exact x_ret (r := none) d_M_layHold_130 rfl
  · replace h := ite_f c8 h
    refine x_iconst d_M_layHold_31 ic_1 ?_
    refine x_istore_n (L1 := [(0, .ref 78), (1, .int w1), (2, .int (1 : Int32))]) d_M_layHold_32 rfl (Nat.le_of_ble_eq_true rfl) rfl rfl ?_
    refine x_aload_n d_M_layHold_33 rfl 0 rfl ?_
    refine y_getR d_M_layHold_34 fl_11_66 rfl kd_78 rr_78_35 ?_
    refine x_iload_n d_M_layHold_37 rfl 1 rfl ?_
    obtain ⟨g9, h⟩ := gd_inv h
    refine y_iald d_M_layHold_38 kd_96 g9 ?_
    obtain ⟨v10, e11, h⟩ := lt_inv h
    refine y_istore_n (L1 := [(0, .ref 78), (1, .int w1), (2, .int (1 : Int32)), (3, .int v10)]) e11 d_M_layHold_39 rfl (Nat.le_of_ble_eq_true rfl) rfl rfl ?_
    refine T_M_layHold_40 (by omega)  ?_ F (1 : Int32) v10 S _ h
    · intro S30 res h
      obtain ⟨v31, e32, h⟩ := lt_inv h
      refine y_iinc (L1 := [(0, .ref 78), (1, .int v31)]) e32 ic_1 d_M_layHold_124 1 rfl (Nat.le_of_ble_eq_true rfl) rfl rfl ?_
      refine x_goto (tgt := 23) d_M_layHold_127 rfl ?_
      exact ih v31 S30 _ h
set_option maxRecDepth 100000 in
set_option maxHeartbeats 4000000 in
theorem c_M_layHold {X : Nat × (Nat → Int32)} {D F G : Nat} (hD : 0 ≤ D) {S : St} {res : St} (h : fM_layHold F G S  = some res) : Ek X (D) mM_layHold 0 [(0, .ref 78)] [] S none res := by
  unfold fM_layHold at h
  refine x_iconst d_M_layHold_0 ic_0 ?_
  refine x_istore_n (L1 := [(0, .ref 78), (1, .int (0 : Int32))]) d_M_layHold_1 rfl (Nat.le_of_ble_eq_true rfl) rfl rfl ?_
  refine T_M_layHold_2 (by omega)  ?_ F (0 : Int32) S _ h
  · intro S7 res h
    refine x_iconst d_M_layHold_21 ic_0 ?_
    refine x_istore_n (L1 := [(0, .ref 78), (1, .int (0 : Int32))]) d_M_layHold_22 rfl (Nat.le_of_ble_eq_true rfl) rfl rfl ?_
    refine T_M_layHold_23 (by omega)   F (0 : Int32) S7 _ h
/-! NinetyPlayersModel.fill -/
def b_M_fill_2 (F G : Nat) (k26 : St → Option (St)) (rec : Int32 → St → Option (St)) (w1 : Int32) (S : St) : Option (St) :=
  if (41 : Int32) ≤ w1 then k26 S else gd (inB w1 41) (gd (inB w1 41) (lt (sI S 101 w1.toNatClampNeg (S.1 100 w1.toNatClampNeg)) fun S4 => lt (w1 + 1) fun v6 => rec v6 S4))
def fM_fill (F G : Nat) (S : St) : Option (St) :=
  fx2 (b_M_fill_2 F G  (fun S8 => bd (fM_layHold F G S8 ) fun S10 => some S10)) F (0 : Int32) S
set_option maxRecDepth 100000 in
set_option maxHeartbeats 4000000 in
theorem T_M_fill_2 {X : Nat × (Nat → Int32)} {D F G : Nat} (hD : 1 ≤ D + 1) {k26 : St → Option (St)} (hk26 : ∀ (S1 : St) (res : St), k26 S1 = some res → Ek X (D + 1) mM_fill 26 [(0, .ref 78)] [] S1 none res) : ∀ (f : Nat) (w1 : Int32) (S : St) (res : St), fx2 (b_M_fill_2 F G k26 ) f w1 S = some res → Ek X (D + 1) mM_fill 2 [(0, .ref 78), (1, .int w1)] [] S none res := by
  refine fx2_ind ?_
  intro rec ih w1 S res h
  unfold b_M_fill_2 at h
  refine x_iload_n d_M_fill_2 rfl 1 rfl ?_
  refine x_bipush d_M_fill_3 bp_41 ?_
  refine x_icmp_ge (tgt := 26) d_M_fill_5 rfl (fun c1 => ?_) (fun c1 => ?_)
  · replace h := ite_t c1 h
    refine y_pick (L1 := [(0, .ref 78)]) [0] rfl ?_
    exact hk26 S _ h
  · replace h := ite_f c1 h
    refine x_aload_n d_M_fill_8 rfl 0 rfl ?_
    refine y_getR d_M_fill_9 fl_11_96 rfl kd_78 rr_78_59 ?_
    refine x_iload_n d_M_fill_12 rfl 1 rfl ?_
    refine x_aload_n d_M_fill_13 rfl 0 rfl ?_
    refine y_getR d_M_fill_14 fl_11_93 rfl kd_78 rr_78_58 ?_
    refine x_iload_n d_M_fill_17 rfl 1 rfl ?_
    obtain ⟨g2, h⟩ := gd_inv h
    refine y_iald d_M_fill_18 kd_100 g2 ?_
    obtain ⟨g3, h⟩ := gd_inv h
    obtain ⟨S4, e5, h⟩ := lt_inv h
    refine y_iast e5 d_M_fill_19 kd_101 g3 ?_
    obtain ⟨v6, e7, h⟩ := lt_inv h
    refine y_iinc (L1 := [(0, .ref 78), (1, .int v6)]) e7 ic_1 d_M_fill_20 1 rfl (Nat.le_of_ble_eq_true rfl) rfl rfl ?_
    refine x_goto (tgt := 2) d_M_fill_23 rfl ?_
    exact ih v6 S4 _ h
set_option maxRecDepth 100000 in
set_option maxHeartbeats 4000000 in
theorem c_M_fill {X : Nat × (Nat → Int32)} {D F G : Nat} (hD : 1 ≤ D) {S : St} {res : St} (h : fM_fill F G S  = some res) : Ek X (D) mM_fill 0 [(0, .ref 78)] [] S none res := by
  obtain ⟨D, rfl⟩ : ∃ E, D = E + 1 := ⟨D - 1, by omega⟩
  unfold fM_fill at h
  refine x_iconst d_M_fill_0 ic_0 ?_
  refine x_istore_n (L1 := [(0, .ref 78), (1, .int (0 : Int32))]) d_M_fill_1 rfl (Nat.le_of_ble_eq_true rfl) rfl rfl ?_
  refine T_M_fill_2 (by omega)  ?_ F (0 : Int32) S _ h
  · intro S8 res h
    refine x_aload_n d_M_fill_26 rfl 0 rfl ?_
    obtain ⟨S10, q9, h⟩ := bd_inv h
    refine y_V0v (S1 := S10) d_M_fill_27 ml_11_433 kd_78 rfl (Nat.le_of_ble_eq_true rfl) (Nat.le_of_ble_eq_true rfl) (c_M_layHold (by omega) q9) ?_
    obtain rfl := Option.some.inj h
    exact x_ret (r := none) d_M_fill_30 rfl
/-! NinetyPlayersModel.plain -/
def fM_plain (F G : Nat) (S : St) (p1 : Int32) : Option (Int32) :=
  if 0 ≤ p1 then some p1 else some (-p1)
set_option maxRecDepth 100000 in
set_option maxHeartbeats 4000000 in
theorem c_M_plain {X : Nat × (Nat → Int32)} {D F G : Nat} (hD : 0 ≤ D) {S : St} {p1 : Int32} {res : Int32} (h : fM_plain F G S p1 = some res) : Ek X (D) mM_plain 0 [(0, .int p1)] [] S (some (.int res)) S := by
  unfold fM_plain at h
  refine x_iload_n d_M_plain_0 rfl 0 rfl ?_
  refine x_if_ge (tgt := 9) d_M_plain_1 rfl (fun c1 => ?_) (fun c1 => ?_)
  · replace h := ite_t c1 h
    refine x_iload_n d_M_plain_9 rfl 0 rfl ?_
    obtain rfl := Option.some.inj h
    exact x_ret (r := some (.int p1)) d_M_plain_10 ⟨_, rfl, rfl⟩
  · replace h := ite_f c1 h
    refine x_iload_n d_M_plain_4 rfl 0 rfl ?_
    refine x_ineg d_M_plain_5 ?_
    refine x_goto (tgt := 10) d_M_plain_6 rfl ?_
    obtain rfl := Option.some.inj h
    exact x_ret (r := some (.int (-p1))) d_M_plain_10 ⟨_, rfl, rfl⟩
/-! NinetyPlayersModel.doubles -/
def j_M_doubles_66 (F G : Nat) (S : St) (z1 : Int32) (rec : Int32 → Int32 → Option (Int32)) (_ : St) (y3 : Int32) (s0 : Int32) (s1 : Int32) : Option (Int32) :=
  bd (fM_truth F G S s1) fun v12 => lt (s0 ||| (v12 <<< (y3 &&& 31))) fun v13 => lt (y3 + 1) fun v15 => rec v13 v15
def j_M_doubles_65 (F G : Nat) (S : St) (z1 : Int32) (rec : Int32 → Int32 → Option (Int32)) (_ : St) (y3 : Int32) (s0 : Int32) : Option (Int32) :=
  j_M_doubles_66 F G S z1 rec  S y3 s0 (0 : Int32)
def b_M_doubles_4 (F G : Nat) (S : St) (z1 : Int32) (rec : Int32 → Int32 → Option (Int32)) (w2 : Int32) (w3 : Int32) : Option (Int32) :=
  if (S.1 78 48) ≤ w3 then some w2 else if w3 = z1 then j_M_doubles_65 F G S z1 rec  S w3 w2 else gd (inB w3 10) (gd (inB z1 10) (if (S.1 96 w3.toNatClampNeg) = (S.1 96 z1.toNatClampNeg) then gd (inB ((10 : Int32) + w3) 41) (gd (inB ((10 : Int32) + z1) 41) (bd (fM_plain F G S ((S.1 101 ((10 : Int32) + w3).toNatClampNeg) - (S.1 101 ((10 : Int32) + z1).toNatClampNeg))) fun v9 => if (v9 - v9 / (12 : Int32) * (12 : Int32)) = 0 then j_M_doubles_66 F G S z1 rec  S w3 w2 (1 : Int32) else j_M_doubles_65 F G S z1 rec  S w3 w2)) else j_M_doubles_65 F G S z1 rec  S w3 w2))
def fM_doubles (F G : Nat) (S : St) (p1 : Int32) : Option (Int32) :=
  fx2 (b_M_doubles_4 F G S p1) F (0 : Int32) (0 : Int32)
set_option maxRecDepth 100000 in
set_option maxHeartbeats 4000000 in
theorem T_M_doubles_4 {X : Nat × (Nat → Int32)} {D F G : Nat} (hD : 1 ≤ D + 1) {S : St} {z1 : Int32} : ∀ (f : Nat) (w2 : Int32) (w3 : Int32) (res : Int32), fx2 (b_M_doubles_4 F G S z1 ) f w2 w3 = some res → Ek X (D + 1) mM_doubles 4 [(0, .ref 78), (1, .int z1), (2, .int w2), (3, .int w3)] [] S (some (.int res)) S := by
  refine fx2_ind ?_
  intro rec ih w2 w3 res h
  unfold b_M_doubles_4 at h
  have J66 : ∀ (y3 : Int32) (s0 : Int32) (s1 : Int32) (res : Int32), j_M_doubles_66 F G S z1 rec S y3 s0 s1 = some res → Ek X (D + 1) mM_doubles 66 [(0, .ref 78), (1, .int z1), (3, .int y3)] [.int s1, .int s0] S (some (.int res)) S := by
    intro y3 s0 s1 res h
    unfold j_M_doubles_66 at h
    obtain ⟨v12, q11, h⟩ := bd_inv h
    refine y_S1i (v := v12) (S1 := S) d_M_doubles_66 ml_11_318 (Nat.le_of_ble_eq_true rfl) (Nat.le_of_ble_eq_true rfl) (c_M_truth (by omega) q11) ?_
    refine x_iload_n d_M_doubles_69 rfl 2 rfl ?_
    refine x_ishl d_M_doubles_70 ?_
    refine x_ior d_M_doubles_71 ?_
    obtain ⟨v13, e14, h⟩ := lt_inv h
    refine y_istore_n (L1 := [(0, .ref 78), (1, .int z1), (2, .int v13), (3, .int y3)]) e14 d_M_doubles_72 rfl (Nat.le_of_ble_eq_true rfl) rfl rfl ?_
    obtain ⟨v15, e16, h⟩ := lt_inv h
    refine y_iinc (L1 := [(0, .ref 78), (1, .int z1), (2, .int v13), (3, .int v15)]) e16 ic_1 d_M_doubles_73 3 rfl (Nat.le_of_ble_eq_true rfl) rfl rfl ?_
    refine x_goto (tgt := 4) d_M_doubles_76 rfl ?_
    exact ih v13 v15 _ h
  have J65 : ∀ (y3 : Int32) (s0 : Int32) (res : Int32), j_M_doubles_65 F G S z1 rec S y3 s0 = some res → Ek X (D + 1) mM_doubles 65 [(0, .ref 78), (1, .int z1), (3, .int y3)] [.int s0] S (some (.int res)) S := by
    intro y3 s0 res h
    unfold j_M_doubles_65 at h
    refine x_iconst d_M_doubles_65 ic_0 ?_
    exact J66 y3 s0 (0 : Int32) _ h
  refine x_iload_n d_M_doubles_4 rfl 3 rfl ?_
  refine x_aload_n d_M_doubles_5 rfl 0 rfl ?_
  refine y_getI d_M_doubles_6 fl_11_322 rfl kd_78 ?_
  refine x_icmp_ge (tgt := 79) d_M_doubles_9 rfl (fun c1 => ?_) (fun c1 => ?_)
  · replace h := ite_t c1 h
    refine x_iload_n d_M_doubles_79 rfl 2 rfl ?_
    obtain rfl := Option.some.inj h
    exact x_ret (r := some (.int w2)) d_M_doubles_80 ⟨_, rfl, rfl⟩
  · replace h := ite_f c1 h
    refine x_iload_n d_M_doubles_12 rfl 2 rfl ?_
    refine x_iload_n d_M_doubles_13 rfl 3 rfl ?_
    refine x_iload_n d_M_doubles_14 rfl 1 rfl ?_
    refine x_icmp_eq (tgt := 65) d_M_doubles_15 rfl (fun c2 => ?_) (fun c2 => ?_)
    · replace h := ite_t c2 h
      refine y_pick (L1 := [(0, .ref 78), (1, .int z1), (3, .int w3)]) [0, 1, 3] rfl ?_
      exact J65 w3 w2 _ h
    · replace h := ite_f c2 h
      refine x_aload_n d_M_doubles_18 rfl 0 rfl ?_
      refine y_getR d_M_doubles_19 fl_11_66 rfl kd_78 rr_78_35 ?_
      refine x_iload_n d_M_doubles_22 rfl 3 rfl ?_
      obtain ⟨g3, h⟩ := gd_inv h
      refine y_iald d_M_doubles_23 kd_96 g3 ?_
      refine x_aload_n d_M_doubles_24 rfl 0 rfl ?_
      refine y_getR d_M_doubles_25 fl_11_66 rfl kd_78 rr_78_35 ?_
      refine x_iload_n d_M_doubles_28 rfl 1 rfl ?_
      obtain ⟨g4, h⟩ := gd_inv h
      refine y_iald d_M_doubles_29 kd_96 g4 ?_
      refine x_icmp_ne (tgt := 65) d_M_doubles_30 rfl (fun c5 => ?_) (fun c5 => ?_)
      · replace h := ite_f c5 h
        refine y_pick (L1 := [(0, .ref 78), (1, .int z1), (3, .int w3)]) [0, 1, 3] rfl ?_
        exact J65 w3 w2 _ h
      · replace h := ite_t c5 h
        refine x_aload_n d_M_doubles_33 rfl 0 rfl ?_
        refine y_getR d_M_doubles_34 fl_11_96 rfl kd_78 rr_78_59 ?_
        refine x_bipush d_M_doubles_37 bp_10 ?_
        refine x_iload_n d_M_doubles_39 rfl 3 rfl ?_
        refine x_iadd d_M_doubles_40 ?_
        obtain ⟨g6, h⟩ := gd_inv h
        refine y_iald d_M_doubles_41 kd_101 g6 ?_
        refine x_aload_n d_M_doubles_42 rfl 0 rfl ?_
        refine y_getR d_M_doubles_43 fl_11_96 rfl kd_78 rr_78_59 ?_
        refine x_bipush d_M_doubles_46 bp_10 ?_
        refine x_iload_n d_M_doubles_48 rfl 1 rfl ?_
        refine x_iadd d_M_doubles_49 ?_
        obtain ⟨g7, h⟩ := gd_inv h
        refine y_iald d_M_doubles_50 kd_101 g7 ?_
        refine x_isub d_M_doubles_51 ?_
        obtain ⟨v9, q8, h⟩ := bd_inv h
        refine y_S1i (v := v9) (S1 := S) d_M_doubles_52 ml_11_325 (Nat.le_of_ble_eq_true rfl) (Nat.le_of_ble_eq_true rfl) (c_M_plain (by omega) q8) ?_
        refine x_bipush d_M_doubles_55 bp_12 ?_
        refine x_irem d_M_doubles_57 (by decide) ?_
        refine x_if_ne (tgt := 65) d_M_doubles_58 rfl (fun c10 => ?_) (fun c10 => ?_)
        · replace h := ite_f c10 h
          refine y_pick (L1 := [(0, .ref 78), (1, .int z1), (3, .int w3)]) [0, 1, 3] rfl ?_
          exact J65 w3 w2 _ h
        · replace h := ite_t c10 h
          refine x_iconst d_M_doubles_61 ic_1 ?_
          refine x_goto (tgt := 66) d_M_doubles_62 rfl ?_
          refine y_pick (L1 := [(0, .ref 78), (1, .int z1), (3, .int w3)]) [0, 1, 3] rfl ?_
          exact J66 w3 w2 (1 : Int32) _ h
set_option maxRecDepth 100000 in
set_option maxHeartbeats 4000000 in
theorem c_M_doubles {X : Nat × (Nat → Int32)} {D F G : Nat} (hD : 1 ≤ D) {S : St} {p1 : Int32} {res : Int32} (h : fM_doubles F G S p1 = some res) : Ek X (D) mM_doubles 0 [(0, .ref 78), (1, .int p1)] [] S (some (.int res)) S := by
  obtain ⟨D, rfl⟩ : ∃ E, D = E + 1 := ⟨D - 1, by omega⟩
  unfold fM_doubles at h
  refine x_iconst d_M_doubles_0 ic_0 ?_
  refine x_istore_n (L1 := [(0, .ref 78), (1, .int p1), (2, .int (0 : Int32))]) d_M_doubles_1 rfl (Nat.le_of_ble_eq_true rfl) rfl rfl ?_
  refine x_iconst d_M_doubles_2 ic_0 ?_
  refine x_istore_n (L1 := [(0, .ref 78), (1, .int p1), (2, .int (0 : Int32)), (3, .int (0 : Int32))]) d_M_doubles_3 rfl (Nat.le_of_ble_eq_true rfl) rfl rfl ?_
  refine T_M_doubles_4 (by omega)   F (0 : Int32) (0 : Int32) _ h
/-! NinetyPlayersModel.members -/
def b_M_members_4 (F G : Nat) (S : St) (z0 : Int32) (rec : Int32 → Int32 → Option (Int32)) (w1 : Int32) (w2 : Int32) : Option (Int32) :=
  if (12 : Int32) ≤ w2 then some w1 else lt (w1 + ((z0 >>> (w2 &&& 31)) &&& (1 : Int32))) fun v2 => lt (w2 + 1) fun v4 => rec v2 v4
def fM_members (F G : Nat) (S : St) (p1 : Int32) : Option (Int32) :=
  fx2 (b_M_members_4 F G S p1) F (0 : Int32) (0 : Int32)
set_option maxRecDepth 100000 in
set_option maxHeartbeats 4000000 in
theorem T_M_members_4 {X : Nat × (Nat → Int32)} {D F G : Nat} (hD : 0 ≤ D) {S : St} {z0 : Int32} : ∀ (f : Nat) (w1 : Int32) (w2 : Int32) (res : Int32), fx2 (b_M_members_4 F G S z0 ) f w1 w2 = some res → Ek X (D) mM_members 4 [(0, .int z0), (1, .int w1), (2, .int w2)] [] S (some (.int res)) S := by
  refine fx2_ind ?_
  intro rec ih w1 w2 res h
  unfold b_M_members_4 at h
  refine x_iload_n d_M_members_4 rfl 2 rfl ?_
  refine x_bipush d_M_members_5 bp_12 ?_
  refine x_icmp_ge (tgt := 24) d_M_members_7 rfl (fun c1 => ?_) (fun c1 => ?_)
  · replace h := ite_t c1 h
    refine x_iload_n d_M_members_24 rfl 1 rfl ?_
    obtain rfl := Option.some.inj h
    exact x_ret (r := some (.int w1)) d_M_members_25 ⟨_, rfl, rfl⟩
  · replace h := ite_f c1 h
    refine x_iload_n d_M_members_10 rfl 1 rfl ?_
    refine x_iload_n d_M_members_11 rfl 0 rfl ?_
    refine x_iload_n d_M_members_12 rfl 2 rfl ?_
    refine x_ishr d_M_members_13 ?_
    refine x_iconst d_M_members_14 ic_1 ?_
    refine x_iand d_M_members_15 ?_
    refine x_iadd d_M_members_16 ?_
    obtain ⟨v2, e3, h⟩ := lt_inv h
    refine y_istore_n (L1 := [(0, .int z0), (1, .int v2), (2, .int w2)]) e3 d_M_members_17 rfl (Nat.le_of_ble_eq_true rfl) rfl rfl ?_
    obtain ⟨v4, e5, h⟩ := lt_inv h
    refine y_iinc (L1 := [(0, .int z0), (1, .int v2), (2, .int v4)]) e5 ic_1 d_M_members_18 2 rfl (Nat.le_of_ble_eq_true rfl) rfl rfl ?_
    refine x_goto (tgt := 4) d_M_members_21 rfl ?_
    exact ih v2 v4 _ h
set_option maxRecDepth 100000 in
set_option maxHeartbeats 4000000 in
theorem c_M_members {X : Nat × (Nat → Int32)} {D F G : Nat} (hD : 0 ≤ D) {S : St} {p1 : Int32} {res : Int32} (h : fM_members F G S p1 = some res) : Ek X (D) mM_members 0 [(0, .int p1)] [] S (some (.int res)) S := by
  unfold fM_members at h
  refine x_iconst d_M_members_0 ic_0 ?_
  refine x_istore_n (L1 := [(0, .int p1), (1, .int (0 : Int32))]) d_M_members_1 rfl (Nat.le_of_ble_eq_true rfl) rfl rfl ?_
  refine x_iconst d_M_members_2 ic_0 ?_
  refine x_istore_n (L1 := [(0, .int p1), (1, .int (0 : Int32)), (2, .int (0 : Int32))]) d_M_members_3 rfl (Nat.le_of_ble_eq_true rfl) rfl rfl ?_
  refine T_M_members_4 (by omega)   F (0 : Int32) (0 : Int32) _ h
/-! NinetyPlayersModel.within -/
def fM_within (F G : Nat) (S : St) (p1 : Int32) (p2 : Int32) : Option (Int32) :=
  if 0 ≤ p1 then if p1 ≤ p2 then some p1 else some p2 else some (0 : Int32)
set_option maxRecDepth 100000 in
set_option maxHeartbeats 4000000 in
theorem c_M_within {X : Nat × (Nat → Int32)} {D F G : Nat} (hD : 0 ≤ D) {S : St} {p1 : Int32} {p2 : Int32} {res : Int32} (h : fM_within F G S p1 p2 = some res) : Ek X (D) mM_within 0 [(0, .int p1), (1, .int p2)] [] S (some (.int res)) S := by
  unfold fM_within at h
  refine x_iload_n d_M_within_0 rfl 0 rfl ?_
  refine x_if_ge (tgt := 8) d_M_within_1 rfl (fun c1 => ?_) (fun c1 => ?_)
  · replace h := ite_t c1 h
    refine x_iload_n d_M_within_8 rfl 0 rfl ?_
    refine x_iload_n d_M_within_9 rfl 1 rfl ?_
    refine x_icmp_le (tgt := 17) d_M_within_10 rfl (fun c2 => ?_) (fun c2 => ?_)
    · replace h := ite_t c2 h
      refine x_iload_n d_M_within_17 rfl 0 rfl ?_
      obtain rfl := Option.some.inj h
      exact x_ret (r := some (.int p1)) d_M_within_18 ⟨_, rfl, rfl⟩
    · replace h := ite_f c2 h
      refine x_iload_n d_M_within_13 rfl 1 rfl ?_
      refine x_goto (tgt := 18) d_M_within_14 rfl ?_
      obtain rfl := Option.some.inj h
      exact x_ret (r := some (.int p2)) d_M_within_18 ⟨_, rfl, rfl⟩
  · replace h := ite_f c1 h
    refine x_iconst d_M_within_4 ic_0 ?_
    refine x_goto (tgt := 18) d_M_within_5 rfl ?_
    obtain rfl := Option.some.inj h
    exact x_ret (r := some (.int (0 : Int32))) d_M_within_18 ⟨_, rfl, rfl⟩
/-! NinetyPlayersModel.done -/
def fM_done (F G : Nat) (S : St) (p1 : Int32) (p2 : Int32) (p3 : Int32) : Option (Int32) :=
  if p1 = 37 then if p3 = 0 then some (0 : Int32) else gd (nz p3) (some (p2 - p2 / p3 * p3)) else if p1 = 38 then if p2 = 0 then bd (fM_truth F G S (0 : Int32)) fun v7 => some v7 else if p3 = 0 then bd (fM_truth F G S (0 : Int32)) fun v10 => some v10 else bd (fM_truth F G S (1 : Int32)) fun v12 => some v12 else if p1 = 42 then some (p2 * p3) else if p1 = 43 then some (p2 + p3) else if p1 = 45 then some (p2 - p3) else if p1 = 47 then if p3 = 0 then some (0 : Int32) else gd (nz p3) (some (p2 / p3)) else if p1 = 60 then if p3 ≤ p2 then bd (fM_truth F G S (0 : Int32)) fun v22 => some v22 else bd (fM_truth F G S (1 : Int32)) fun v24 => some v24 else if p1 = 61 then if p2 = p3 then bd (fM_truth F G S (1 : Int32)) fun v30 => some v30 else bd (fM_truth F G S (0 : Int32)) fun v28 => some v28 else if p1 = 62 then if p2 ≤ p3 then bd (fM_truth F G S (0 : Int32)) fun v34 => some v34 else bd (fM_truth F G S (1 : Int32)) fun v36 => some v36 else if p2 = 0 then if p3 = 0 then bd (fM_truth F G S (0 : Int32)) fun v42 => some v42 else bd (fM_truth F G S (1 : Int32)) fun v44 => some v44 else bd (fM_truth F G S (1 : Int32)) fun v39 => some v39
set_option maxRecDepth 100000 in
set_option maxHeartbeats 4000000 in
theorem c_M_done {X : Nat × (Nat → Int32)} {D F G : Nat} (hD : 1 ≤ D) {S : St} {p1 : Int32} {p2 : Int32} {p3 : Int32} {res : Int32} (h : fM_done F G S p1 p2 p3 = some res) : Ek X (D) mM_done 0 [(0, .int p1), (1, .int p2), (2, .int p3)] [] S (some (.int res)) S := by
  obtain ⟨D, rfl⟩ : ∃ E, D = E + 1 := ⟨D - 1, by omega⟩
  unfold fM_done at h
  refine x_iload_n d_M_done_0 rfl 0 rfl ?_
  by_cases c1 : p1 = 37
  · replace h := ite_t c1 h
    refine x_tabC (tgt := 144) 37 d_M_done_1 (by rw [c1]; rfl) (by decide) rfl rfl ?_
    refine x_iload_n d_M_done_144 rfl 2 rfl ?_
    refine x_if_ne (tgt := 152) d_M_done_145 rfl (fun c2 => ?_) (fun c2 => ?_)
    · replace h := ite_f c2 h
      refine x_iload_n d_M_done_152 rfl 1 rfl ?_
      refine x_iload_n d_M_done_153 rfl 2 rfl ?_
      obtain ⟨g3, h⟩ := gd_inv h
      refine x_irem d_M_done_154 (nz_ne g3) ?_
      obtain rfl := Option.some.inj h
      exact x_ret (r := some (.int (p2 - p2 / p3 * p3))) d_M_done_155 ⟨_, rfl, rfl⟩
    · replace h := ite_t c2 h
      refine x_iconst d_M_done_148 ic_0 ?_
      refine x_goto (tgt := 155) d_M_done_149 rfl ?_
      obtain rfl := Option.some.inj h
      exact x_ret (r := some (.int (0 : Int32))) d_M_done_155 ⟨_, rfl, rfl⟩
  replace h := ite_f c1 h
  by_cases c4 : p1 = 38
  · replace h := ite_t c4 h
    refine x_tabC (tgt := 198) 38 d_M_done_1 (by rw [c4]; rfl) (by decide) rfl rfl ?_
    refine x_iload_n d_M_done_198 rfl 1 rfl ?_
    refine x_if_eq (tgt := 210) d_M_done_199 rfl (fun c5 => ?_) (fun c5 => ?_)
    · replace h := ite_t c5 h
      refine x_iconst d_M_done_210 ic_0 ?_
      obtain ⟨v7, q6, h⟩ := bd_inv h
      refine y_S1i (v := v7) (S1 := S) d_M_done_211 ml_11_318 (Nat.le_of_ble_eq_true rfl) (Nat.le_of_ble_eq_true rfl) (c_M_truth (by omega) q6) ?_
      obtain rfl := Option.some.inj h
      exact x_ret (r := some (.int v7)) d_M_done_214 ⟨_, rfl, rfl⟩
    · replace h := ite_f c5 h
      refine x_iload_n d_M_done_202 rfl 2 rfl ?_
      refine x_if_eq (tgt := 210) d_M_done_203 rfl (fun c8 => ?_) (fun c8 => ?_)
      · replace h := ite_t c8 h
        refine x_iconst d_M_done_210 ic_0 ?_
        obtain ⟨v10, q9, h⟩ := bd_inv h
        refine y_S1i (v := v10) (S1 := S) d_M_done_211 ml_11_318 (Nat.le_of_ble_eq_true rfl) (Nat.le_of_ble_eq_true rfl) (c_M_truth (by omega) q9) ?_
        obtain rfl := Option.some.inj h
        exact x_ret (r := some (.int v10)) d_M_done_214 ⟨_, rfl, rfl⟩
      · replace h := ite_f c8 h
        refine x_iconst d_M_done_206 ic_1 ?_
        refine x_goto (tgt := 211) d_M_done_207 rfl ?_
        obtain ⟨v12, q11, h⟩ := bd_inv h
        refine y_S1i (v := v12) (S1 := S) d_M_done_211 ml_11_318 (Nat.le_of_ble_eq_true rfl) (Nat.le_of_ble_eq_true rfl) (c_M_truth (by omega) q11) ?_
        obtain rfl := Option.some.inj h
        exact x_ret (r := some (.int v12)) d_M_done_214 ⟨_, rfl, rfl⟩
  replace h := ite_f c4 h
  by_cases c13 : p1 = 42
  · replace h := ite_t c13 h
    refine x_tabC (tgt := 128) 42 d_M_done_1 (by rw [c13]; rfl) (by decide) rfl rfl ?_
    refine x_iload_n d_M_done_128 rfl 1 rfl ?_
    refine x_iload_n d_M_done_129 rfl 2 rfl ?_
    refine x_imul d_M_done_130 ?_
    obtain rfl := Option.some.inj h
    exact x_ret (r := some (.int (p2 * p3))) d_M_done_131 ⟨_, rfl, rfl⟩
  replace h := ite_f c13 h
  by_cases c14 : p1 = 43
  · replace h := ite_t c14 h
    refine x_tabC (tgt := 120) 43 d_M_done_1 (by rw [c14]; rfl) (by decide) rfl rfl ?_
    refine x_iload_n d_M_done_120 rfl 1 rfl ?_
    refine x_iload_n d_M_done_121 rfl 2 rfl ?_
    refine x_iadd d_M_done_122 ?_
    obtain rfl := Option.some.inj h
    exact x_ret (r := some (.int (p2 + p3))) d_M_done_123 ⟨_, rfl, rfl⟩
  replace h := ite_f c14 h
  by_cases c15 : p1 = 45
  · replace h := ite_t c15 h
    refine x_tabC (tgt := 124) 45 d_M_done_1 (by rw [c15]; rfl) (by decide) rfl rfl ?_
    refine x_iload_n d_M_done_124 rfl 1 rfl ?_
    refine x_iload_n d_M_done_125 rfl 2 rfl ?_
    refine x_isub d_M_done_126 ?_
    obtain rfl := Option.some.inj h
    exact x_ret (r := some (.int (p2 - p3))) d_M_done_127 ⟨_, rfl, rfl⟩
  replace h := ite_f c15 h
  by_cases c16 : p1 = 47
  · replace h := ite_t c16 h
    refine x_tabC (tgt := 132) 47 d_M_done_1 (by rw [c16]; rfl) (by decide) rfl rfl ?_
    refine x_iload_n d_M_done_132 rfl 2 rfl ?_
    refine x_if_ne (tgt := 140) d_M_done_133 rfl (fun c17 => ?_) (fun c17 => ?_)
    · replace h := ite_f c17 h
      refine x_iload_n d_M_done_140 rfl 1 rfl ?_
      refine x_iload_n d_M_done_141 rfl 2 rfl ?_
      obtain ⟨g18, h⟩ := gd_inv h
      refine x_idiv d_M_done_142 (nz_ne g18) ?_
      obtain rfl := Option.some.inj h
      exact x_ret (r := some (.int (p2 / p3))) d_M_done_143 ⟨_, rfl, rfl⟩
    · replace h := ite_t c17 h
      refine x_iconst d_M_done_136 ic_0 ?_
      refine x_goto (tgt := 143) d_M_done_137 rfl ?_
      obtain rfl := Option.some.inj h
      exact x_ret (r := some (.int (0 : Int32))) d_M_done_143 ⟨_, rfl, rfl⟩
  replace h := ite_f c16 h
  by_cases c19 : p1 = 60
  · replace h := ite_t c19 h
    refine x_tabC (tgt := 156) 60 d_M_done_1 (by rw [c19]; rfl) (by decide) rfl rfl ?_
    refine x_iload_n d_M_done_156 rfl 1 rfl ?_
    refine x_iload_n d_M_done_157 rfl 2 rfl ?_
    refine x_icmp_ge (tgt := 165) d_M_done_158 rfl (fun c20 => ?_) (fun c20 => ?_)
    · replace h := ite_t c20 h
      refine x_iconst d_M_done_165 ic_0 ?_
      obtain ⟨v22, q21, h⟩ := bd_inv h
      refine y_S1i (v := v22) (S1 := S) d_M_done_166 ml_11_318 (Nat.le_of_ble_eq_true rfl) (Nat.le_of_ble_eq_true rfl) (c_M_truth (by omega) q21) ?_
      obtain rfl := Option.some.inj h
      exact x_ret (r := some (.int v22)) d_M_done_169 ⟨_, rfl, rfl⟩
    · replace h := ite_f c20 h
      refine x_iconst d_M_done_161 ic_1 ?_
      refine x_goto (tgt := 166) d_M_done_162 rfl ?_
      obtain ⟨v24, q23, h⟩ := bd_inv h
      refine y_S1i (v := v24) (S1 := S) d_M_done_166 ml_11_318 (Nat.le_of_ble_eq_true rfl) (Nat.le_of_ble_eq_true rfl) (c_M_truth (by omega) q23) ?_
      obtain rfl := Option.some.inj h
      exact x_ret (r := some (.int v24)) d_M_done_169 ⟨_, rfl, rfl⟩
  replace h := ite_f c19 h
  by_cases c25 : p1 = 61
  · replace h := ite_t c25 h
    refine x_tabC (tgt := 184) 61 d_M_done_1 (by rw [c25]; rfl) (by decide) rfl rfl ?_
    refine x_iload_n d_M_done_184 rfl 1 rfl ?_
    refine x_iload_n d_M_done_185 rfl 2 rfl ?_
    refine x_icmp_ne (tgt := 193) d_M_done_186 rfl (fun c26 => ?_) (fun c26 => ?_)
    · replace h := ite_f c26 h
      refine x_iconst d_M_done_193 ic_0 ?_
      obtain ⟨v28, q27, h⟩ := bd_inv h
      refine y_S1i (v := v28) (S1 := S) d_M_done_194 ml_11_318 (Nat.le_of_ble_eq_true rfl) (Nat.le_of_ble_eq_true rfl) (c_M_truth (by omega) q27) ?_
      obtain rfl := Option.some.inj h
      exact x_ret (r := some (.int v28)) d_M_done_197 ⟨_, rfl, rfl⟩
    · replace h := ite_t c26 h
      refine x_iconst d_M_done_189 ic_1 ?_
      refine x_goto (tgt := 194) d_M_done_190 rfl ?_
      obtain ⟨v30, q29, h⟩ := bd_inv h
      refine y_S1i (v := v30) (S1 := S) d_M_done_194 ml_11_318 (Nat.le_of_ble_eq_true rfl) (Nat.le_of_ble_eq_true rfl) (c_M_truth (by omega) q29) ?_
      obtain rfl := Option.some.inj h
      exact x_ret (r := some (.int v30)) d_M_done_197 ⟨_, rfl, rfl⟩
  replace h := ite_f c25 h
  by_cases c31 : p1 = 62
  · replace h := ite_t c31 h
    refine x_tabC (tgt := 170) 62 d_M_done_1 (by rw [c31]; rfl) (by decide) rfl rfl ?_
    refine x_iload_n d_M_done_170 rfl 1 rfl ?_
    refine x_iload_n d_M_done_171 rfl 2 rfl ?_
    refine x_icmp_le (tgt := 179) d_M_done_172 rfl (fun c32 => ?_) (fun c32 => ?_)
    · replace h := ite_t c32 h
      refine x_iconst d_M_done_179 ic_0 ?_
      obtain ⟨v34, q33, h⟩ := bd_inv h
      refine y_S1i (v := v34) (S1 := S) d_M_done_180 ml_11_318 (Nat.le_of_ble_eq_true rfl) (Nat.le_of_ble_eq_true rfl) (c_M_truth (by omega) q33) ?_
      obtain rfl := Option.some.inj h
      exact x_ret (r := some (.int v34)) d_M_done_183 ⟨_, rfl, rfl⟩
    · replace h := ite_f c32 h
      refine x_iconst d_M_done_175 ic_1 ?_
      refine x_goto (tgt := 180) d_M_done_176 rfl ?_
      obtain ⟨v36, q35, h⟩ := bd_inv h
      refine y_S1i (v := v36) (S1 := S) d_M_done_180 ml_11_318 (Nat.le_of_ble_eq_true rfl) (Nat.le_of_ble_eq_true rfl) (c_M_truth (by omega) q35) ?_
      obtain rfl := Option.some.inj h
      exact x_ret (r := some (.int v36)) d_M_done_183 ⟨_, rfl, rfl⟩
  replace h := ite_f c31 h
  have K : Ek X (D + 1) mM_done 215 [(0, .int p1), (1, .int p2), (2, .int p3)] [] S (some (.int res)) S := by
    refine x_iload_n d_M_done_215 rfl 1 rfl ?_
    refine x_if_ne (tgt := 223) d_M_done_216 rfl (fun c37 => ?_) (fun c37 => ?_)
    · replace h := ite_f c37 h
      refine x_iconst d_M_done_223 ic_1 ?_
      refine x_goto (tgt := 228) d_M_done_224 rfl ?_
      obtain ⟨v39, q38, h⟩ := bd_inv h
      refine y_S1i (v := v39) (S1 := S) d_M_done_228 ml_11_318 (Nat.le_of_ble_eq_true rfl) (Nat.le_of_ble_eq_true rfl) (c_M_truth (by omega) q38) ?_
      obtain rfl := Option.some.inj h
      exact x_ret (r := some (.int v39)) d_M_done_231 ⟨_, rfl, rfl⟩
    · replace h := ite_t c37 h
      refine x_iload_n d_M_done_219 rfl 2 rfl ?_
      refine x_if_eq (tgt := 227) d_M_done_220 rfl (fun c40 => ?_) (fun c40 => ?_)
      · replace h := ite_t c40 h
        refine x_iconst d_M_done_227 ic_0 ?_
        obtain ⟨v42, q41, h⟩ := bd_inv h
        refine y_S1i (v := v42) (S1 := S) d_M_done_228 ml_11_318 (Nat.le_of_ble_eq_true rfl) (Nat.le_of_ble_eq_true rfl) (c_M_truth (by omega) q41) ?_
        obtain rfl := Option.some.inj h
        exact x_ret (r := some (.int v42)) d_M_done_231 ⟨_, rfl, rfl⟩
      · replace h := ite_f c40 h
        refine x_iconst d_M_done_223 ic_1 ?_
        refine x_goto (tgt := 228) d_M_done_224 rfl ?_
        obtain ⟨v44, q43, h⟩ := bd_inv h
        refine y_S1i (v := v44) (S1 := S) d_M_done_228 ml_11_318 (Nat.le_of_ble_eq_true rfl) (Nat.le_of_ble_eq_true rfl) (c_M_truth (by omega) q43) ?_
        obtain rfl := Option.some.inj h
        exact x_ret (r := some (.int v44)) d_M_done_231 ⟨_, rfl, rfl⟩
  by_cases c45 : p1 = 39
  · exact x_tabC (tgt := 215) 39 d_M_done_1 (by rw [c45]; rfl) (by decide) rfl rfl K
  by_cases c46 : p1 = 40
  · exact x_tabC (tgt := 215) 40 d_M_done_1 (by rw [c46]; rfl) (by decide) rfl rfl K
  by_cases c47 : p1 = 41
  · exact x_tabC (tgt := 215) 41 d_M_done_1 (by rw [c47]; rfl) (by decide) rfl rfl K
  by_cases c48 : p1 = 44
  · exact x_tabC (tgt := 215) 44 d_M_done_1 (by rw [c48]; rfl) (by decide) rfl rfl K
  by_cases c49 : p1 = 46
  · exact x_tabC (tgt := 215) 46 d_M_done_1 (by rw [c49]; rfl) (by decide) rfl rfl K
  by_cases c50 : p1 = 48
  · exact x_tabC (tgt := 215) 48 d_M_done_1 (by rw [c50]; rfl) (by decide) rfl rfl K
  by_cases c51 : p1 = 49
  · exact x_tabC (tgt := 215) 49 d_M_done_1 (by rw [c51]; rfl) (by decide) rfl rfl K
  by_cases c52 : p1 = 50
  · exact x_tabC (tgt := 215) 50 d_M_done_1 (by rw [c52]; rfl) (by decide) rfl rfl K
  by_cases c53 : p1 = 51
  · exact x_tabC (tgt := 215) 51 d_M_done_1 (by rw [c53]; rfl) (by decide) rfl rfl K
  by_cases c54 : p1 = 52
  · exact x_tabC (tgt := 215) 52 d_M_done_1 (by rw [c54]; rfl) (by decide) rfl rfl K
  by_cases c55 : p1 = 53
  · exact x_tabC (tgt := 215) 53 d_M_done_1 (by rw [c55]; rfl) (by decide) rfl rfl K
  by_cases c56 : p1 = 54
  · exact x_tabC (tgt := 215) 54 d_M_done_1 (by rw [c56]; rfl) (by decide) rfl rfl K
  by_cases c57 : p1 = 55
  · exact x_tabC (tgt := 215) 55 d_M_done_1 (by rw [c57]; rfl) (by decide) rfl rfl K
  by_cases c58 : p1 = 56
  · exact x_tabC (tgt := 215) 56 d_M_done_1 (by rw [c58]; rfl) (by decide) rfl rfl K
  by_cases c59 : p1 = 57
  · exact x_tabC (tgt := 215) 57 d_M_done_1 (by rw [c59]; rfl) (by decide) rfl rfl K
  by_cases c60 : p1 = 58
  · exact x_tabC (tgt := 215) 58 d_M_done_1 (by rw [c60]; rfl) (by decide) rfl rfl K
  by_cases c61 : p1 = 59
  · exact x_tabC (tgt := 215) 59 d_M_done_1 (by rw [c61]; rfl) (by decide) rfl rfl K
  refine x_tabD (tgt := 215) d_M_done_1 (by have := lv_neT c1 (show (37 : Int32).toInt = 37 from rfl); have := lv_neT c4 (show (38 : Int32).toInt = 38 from rfl); have := lv_neT c13 (show (42 : Int32).toInt = 42 from rfl); have := lv_neT c14 (show (43 : Int32).toInt = 43 from rfl); have := lv_neT c15 (show (45 : Int32).toInt = 45 from rfl); have := lv_neT c16 (show (47 : Int32).toInt = 47 from rfl); have := lv_neT c19 (show (60 : Int32).toInt = 60 from rfl); have := lv_neT c25 (show (61 : Int32).toInt = 61 from rfl); have := lv_neT c31 (show (62 : Int32).toInt = 62 from rfl); have := lv_neT c45 (show (39 : Int32).toInt = 39 from rfl); have := lv_neT c46 (show (40 : Int32).toInt = 40 from rfl); have := lv_neT c47 (show (41 : Int32).toInt = 41 from rfl); have := lv_neT c48 (show (44 : Int32).toInt = 44 from rfl); have := lv_neT c49 (show (46 : Int32).toInt = 46 from rfl); have := lv_neT c50 (show (48 : Int32).toInt = 48 from rfl); have := lv_neT c51 (show (49 : Int32).toInt = 49 from rfl); have := lv_neT c52 (show (50 : Int32).toInt = 50 from rfl); have := lv_neT c53 (show (51 : Int32).toInt = 51 from rfl); have := lv_neT c54 (show (52 : Int32).toInt = 52 from rfl); have := lv_neT c55 (show (53 : Int32).toInt = 53 from rfl); have := lv_neT c56 (show (54 : Int32).toInt = 54 from rfl); have := lv_neT c57 (show (55 : Int32).toInt = 55 from rfl); have := lv_neT c58 (show (56 : Int32).toInt = 56 from rfl); have := lv_neT c59 (show (57 : Int32).toInt = 57 from rfl); have := lv_neT c60 (show (58 : Int32).toInt = 58 from rfl); have := lv_neT c61 (show (59 : Int32).toInt = 59 from rfl); omega) rfl ?_
  exact K
/-! NinetyPlayersModel.missedOf -/
def j_M_missedOf_155 (F G : Nat) (k276 : St → Option (Int32 × St)) (rec : Int32 → Int32 → St → Option (Int32 × St)) (S : St) (y2 : Int32) (y3 : Int32) : Option (Int32 × St) :=
  gd (inB y3 320) (if (S.1 83 y3.toNatClampNeg) = 0 then gd (inB y3 320) (gd (inB y2 64) (lt (sI S 86 y2.toNatClampNeg (S.1 84 y3.toNatClampNeg)) fun S78 => lt (y2 + 1) fun v80 => lt (y3 + 1) fun v82 => rec v80 v82 S78)) else gd (inB y3 320) (gd (inB (S.1 84 y3.toNatClampNeg) 6) (gd (inB y2 64) (lt (sI S 86 y2.toNatClampNeg (S.1 87 (S.1 84 y3.toNatClampNeg).toNatClampNeg)) fun S70 => lt (y2 + 1) fun v72 => lt (y3 + 1) fun v74 => rec v72 v74 S70))))
def b_M_missedOf_128 (F G : Nat) (k276 : St → Option (Int32 × St)) (rec : Int32 → Int32 → St → Option (Int32 × St)) (w2 : Int32) (w3 : Int32) (S : St) : Option (Int32 × St) :=
  if (S.1 78 18) ≤ w3 then k276 S else gd (inB w3 320) (if (S.1 83 w3.toNatClampNeg) = 0 then j_M_missedOf_155 F G k276 rec  S w2 w3 else gd (inB w3 320) (if (S.1 83 w3.toNatClampNeg) = (1 : Int32) then j_M_missedOf_155 F G k276 rec  S w2 w3 else gd (inB w3 320) (if (S.1 83 w3.toNatClampNeg) = (2 : Int32) then gd (inB (w2 - (1 : Int32)) 64) (if (S.1 86 (w2 - (1 : Int32)).toNatClampNeg) = 0 then bd (fM_truth F G S (1 : Int32)) fun v59 => gd (inB (w2 - (1 : Int32)) 64) (lt (sI S 86 (w2 - (1 : Int32)).toNatClampNeg v59) fun S61 => lt (w3 + 1) fun v63 => rec w2 v63 S61) else bd (fM_truth F G S (0 : Int32)) fun v52 => gd (inB (w2 - (1 : Int32)) 64) (lt (sI S 86 (w2 - (1 : Int32)).toNatClampNeg v52) fun S54 => lt (w3 + 1) fun v56 => rec w2 v56 S54)) else lt (w2 + (-1)) fun v37 => gd (inB w3 320) (gd (inB (v37 - (1 : Int32)) 64) (gd (inB v37 64) (bd (fM_done F G S (S.1 84 w3.toNatClampNeg) (S.1 86 (v37 - (1 : Int32)).toNatClampNeg) (S.1 86 v37.toNatClampNeg)) fun v43 => gd (inB (v37 - (1 : Int32)) 64) (lt (sI S 86 (v37 - (1 : Int32)).toNatClampNeg v43) fun S45 => lt (w3 + 1) fun v47 => rec v37 v47 S45)))))))
def fM_missedOf (F G : Nat) (S : St) (p1 : Int32) : Option (Int32 × St) :=
  gd (inB p1 10) (gd (inB (S.1 95 p1.toNatClampNeg) 4) (gd (inB (0 : Int32) 6) (lt (sI S 87 (0 : Int32).toNatClampNeg (S.1 94 (S.1 95 p1.toNatClampNeg).toNatClampNeg)) fun S4 => gd (inB ((10 : Int32) + p1) 41) (gd (inB (1 : Int32) 6) (lt (sI S4 87 (1 : Int32).toNatClampNeg (S4.1 101 ((10 : Int32) + p1).toNatClampNeg)) fun S8 => gd (inB ((20 : Int32) + p1) 41) (gd (inB (2 : Int32) 6) (lt (sI S8 87 (2 : Int32).toNatClampNeg (S8.1 101 ((20 : Int32) + p1).toNatClampNeg)) fun S12 => gd (inB ((30 : Int32) + p1) 41) (gd (inB (3 : Int32) 6) (lt (sI S12 87 (3 : Int32).toNatClampNeg (S12.1 101 ((30 : Int32) + p1).toNatClampNeg)) fun S16 => bd (fM_doubles F G S16 p1) fun v19 => bd (fM_members F G S16 v19) fun v21 => gd (inB (4 : Int32) 6) (lt (sI S16 87 (4 : Int32).toNatClampNeg v21) fun S23 => gd (inB p1 10) (gd (inB (5 : Int32) 6) (lt (sI S23 87 (5 : Int32).toNatClampNeg (S23.1 96 p1.toNatClampNeg)) fun S27 => if (S27.1 78 25) = 0 then gd (inB (3 : Int32) 6) (gd (inB (0 : Int32) 6) (gd (inB (4 : Int32) 6) (bd (fM_within F G S27 (((S27.1 87 (3 : Int32).toNatClampNeg) + ((5 : Int32) * (S27.1 87 (0 : Int32).toNatClampNeg))) - (S27.1 87 (4 : Int32).toNatClampNeg)) (999 : Int32)) fun v92 => some (v92, S27)))) else fx3 (b_M_missedOf_128 F G  (fun S84 => gd (inB (0 : Int32) 64) (bd (fM_within F G S84 (S84.1 86 (0 : Int32).toNatClampNeg) (999 : Int32)) fun v87 => some (v87, S84)))) F (0 : Int32) (0 : Int32) S27))))))))))))
set_option maxRecDepth 100000 in
set_option maxHeartbeats 4000000 in
theorem T_M_missedOf_128 {X : Nat × (Nat → Int32)} {D F G : Nat} (hD : 2 ≤ D + 1) {k276 : St → Option (Int32 × St)} (hk276 : ∀ (S1 : St) (res : Int32 × St), k276 S1 = some res → Ek X (D + 1) mM_missedOf 276 [(0, .ref 78)] [] S1 (some (.int res.1)) res.2) : ∀ (f : Nat) (w2 : Int32) (w3 : Int32) (S : St) (res : Int32 × St), fx3 (b_M_missedOf_128 F G k276 ) f w2 w3 S = some res → Ek X (D + 1) mM_missedOf 128 [(0, .ref 78), (2, .int w2), (3, .int w3)] [] S (some (.int res.1)) res.2 := by
  refine fx3_ind ?_
  intro rec ih w2 w3 S res h
  unfold b_M_missedOf_128 at h
  have J155 : ∀ (S : St) (y2 : Int32) (y3 : Int32) (res : Int32 × St), j_M_missedOf_155 F G k276 rec S y2 y3 = some res → Ek X (D + 1) mM_missedOf 155 [(0, .ref 78), (2, .int y2), (3, .int y3)] [] S (some (.int res.1)) res.2 := by
    intro S y2 y3 res h
    unfold j_M_missedOf_155 at h
    refine x_aload_n d_M_missedOf_155 rfl 0 rfl ?_
    refine y_getR d_M_missedOf_156 fl_11_36 rfl kd_78 rr_78_16 ?_
    refine x_iload_n d_M_missedOf_159 rfl 1 rfl ?_
    refine x_aload_n d_M_missedOf_160 rfl 0 rfl ?_
    refine y_getR d_M_missedOf_161 fl_11_27 rfl kd_78 rr_78_13 ?_
    refine x_iload_n d_M_missedOf_164 rfl 2 rfl ?_
    obtain ⟨g65, h⟩ := gd_inv h
    refine y_iald d_M_missedOf_165 kd_83 g65 ?_
    refine x_if_ne (tgt := 178) d_M_missedOf_166 rfl (fun c66 => ?_) (fun c66 => ?_)
    · replace h := ite_f c66 h
      refine x_aload_n d_M_missedOf_178 rfl 0 rfl ?_
      refine y_getR d_M_missedOf_179 fl_11_39 rfl kd_78 rr_78_26 ?_
      refine x_aload_n d_M_missedOf_182 rfl 0 rfl ?_
      refine y_getR d_M_missedOf_183 fl_11_30 rfl kd_78 rr_78_14 ?_
      refine x_iload_n d_M_missedOf_186 rfl 2 rfl ?_
      obtain ⟨g67, h⟩ := gd_inv h
      refine y_iald d_M_missedOf_187 kd_84 g67 ?_
      obtain ⟨g68, h⟩ := gd_inv h
      refine y_iald d_M_missedOf_188 kd_87 g68 ?_
      obtain ⟨g69, h⟩ := gd_inv h
      obtain ⟨S70, e71, h⟩ := lt_inv h
      refine y_iast e71 d_M_missedOf_189 kd_86 g69 ?_
      obtain ⟨v72, e73, h⟩ := lt_inv h
      refine y_iinc (L1 := [(0, .ref 78), (2, .int v72), (3, .int y3)]) e73 ic_1 d_M_missedOf_190 1 rfl (Nat.le_of_ble_eq_true rfl) rfl rfl ?_
      refine x_goto (tgt := 270) d_M_missedOf_193 rfl ?_
      obtain ⟨v74, e75, h⟩ := lt_inv h
      refine y_iinc (L1 := [(0, .ref 78), (2, .int v72), (3, .int v74)]) e75 ic_1 d_M_missedOf_270 2 rfl (Nat.le_of_ble_eq_true rfl) rfl rfl ?_
      refine x_goto (tgt := 128) d_M_missedOf_273 rfl ?_
      exact ih v72 v74 S70 _ h
    · replace h := ite_t c66 h
      refine x_aload_n d_M_missedOf_169 rfl 0 rfl ?_
      refine y_getR d_M_missedOf_170 fl_11_30 rfl kd_78 rr_78_14 ?_
      refine x_iload_n d_M_missedOf_173 rfl 2 rfl ?_
      obtain ⟨g76, h⟩ := gd_inv h
      refine y_iald d_M_missedOf_174 kd_84 g76 ?_
      refine x_goto (tgt := 189) d_M_missedOf_175 rfl ?_
      obtain ⟨g77, h⟩ := gd_inv h
      obtain ⟨S78, e79, h⟩ := lt_inv h
      refine y_iast e79 d_M_missedOf_189 kd_86 g77 ?_
      obtain ⟨v80, e81, h⟩ := lt_inv h
      refine y_iinc (L1 := [(0, .ref 78), (2, .int v80), (3, .int y3)]) e81 ic_1 d_M_missedOf_190 1 rfl (Nat.le_of_ble_eq_true rfl) rfl rfl ?_
      refine x_goto (tgt := 270) d_M_missedOf_193 rfl ?_
      obtain ⟨v82, e83, h⟩ := lt_inv h
      refine y_iinc (L1 := [(0, .ref 78), (2, .int v80), (3, .int v82)]) e83 ic_1 d_M_missedOf_270 2 rfl (Nat.le_of_ble_eq_true rfl) rfl rfl ?_
      refine x_goto (tgt := 128) d_M_missedOf_273 rfl ?_
      exact ih v80 v82 S78 _ h
  refine x_iload_n d_M_missedOf_128 rfl 2 rfl ?_
  refine x_aload_n d_M_missedOf_129 rfl 0 rfl ?_
  refine y_getI d_M_missedOf_130 fl_11_340 rfl kd_78 ?_
  refine x_icmp_ge (tgt := 276) d_M_missedOf_133 rfl (fun c30 => ?_) (fun c30 => ?_)
  · replace h := ite_t c30 h
    refine y_pick (L1 := [(0, .ref 78)]) [0] rfl ?_
    exact hk276 S _ h
  · replace h := ite_f c30 h
    refine x_aload_n d_M_missedOf_136 rfl 0 rfl ?_
    refine y_getR d_M_missedOf_137 fl_11_27 rfl kd_78 rr_78_13 ?_
    refine x_iload_n d_M_missedOf_140 rfl 2 rfl ?_
    obtain ⟨g31, h⟩ := gd_inv h
    refine y_iald d_M_missedOf_141 kd_83 g31 ?_
    refine x_if_eq (tgt := 155) d_M_missedOf_142 rfl (fun c32 => ?_) (fun c32 => ?_)
    · replace h := ite_t c32 h
      exact J155 S w2 w3 _ h
    · replace h := ite_f c32 h
      refine x_aload_n d_M_missedOf_145 rfl 0 rfl ?_
      refine y_getR d_M_missedOf_146 fl_11_27 rfl kd_78 rr_78_13 ?_
      refine x_iload_n d_M_missedOf_149 rfl 2 rfl ?_
      obtain ⟨g33, h⟩ := gd_inv h
      refine y_iald d_M_missedOf_150 kd_83 g33 ?_
      refine x_iconst d_M_missedOf_151 ic_1 ?_
      refine x_icmp_ne (tgt := 196) d_M_missedOf_152 rfl (fun c34 => ?_) (fun c34 => ?_)
      · replace h := ite_f c34 h
        refine x_aload_n d_M_missedOf_196 rfl 0 rfl ?_
        refine y_getR d_M_missedOf_197 fl_11_27 rfl kd_78 rr_78_13 ?_
        refine x_iload_n d_M_missedOf_200 rfl 2 rfl ?_
        obtain ⟨g35, h⟩ := gd_inv h
        refine y_iald d_M_missedOf_201 kd_83 g35 ?_
        refine x_iconst d_M_missedOf_202 ic_2 ?_
        refine x_icmp_ne (tgt := 236) d_M_missedOf_203 rfl (fun c36 => ?_) (fun c36 => ?_)
        · replace h := ite_f c36 h
          obtain ⟨v37, e38, h⟩ := lt_inv h
          refine y_iinc (L1 := [(0, .ref 78), (2, .int v37), (3, .int w3)]) e38 ic_m1 d_M_missedOf_236 1 rfl (Nat.le_of_ble_eq_true rfl) rfl rfl ?_
          refine x_aload_n d_M_missedOf_239 rfl 0 rfl ?_
          refine y_getR d_M_missedOf_240 fl_11_36 rfl kd_78 rr_78_16 ?_
          refine x_iload_n d_M_missedOf_243 rfl 1 rfl ?_
          refine x_iconst d_M_missedOf_244 ic_1 ?_
          refine x_isub d_M_missedOf_245 ?_
          refine x_aload_n d_M_missedOf_246 rfl 0 rfl ?_
          refine y_getR d_M_missedOf_247 fl_11_30 rfl kd_78 rr_78_14 ?_
          refine x_iload_n d_M_missedOf_250 rfl 2 rfl ?_
          obtain ⟨g39, h⟩ := gd_inv h
          refine y_iald d_M_missedOf_251 kd_84 g39 ?_
          refine x_aload_n d_M_missedOf_252 rfl 0 rfl ?_
          refine y_getR d_M_missedOf_253 fl_11_36 rfl kd_78 rr_78_16 ?_
          refine x_iload_n d_M_missedOf_256 rfl 1 rfl ?_
          refine x_iconst d_M_missedOf_257 ic_1 ?_
          refine x_isub d_M_missedOf_258 ?_
          obtain ⟨g40, h⟩ := gd_inv h
          refine y_iald d_M_missedOf_259 kd_86 g40 ?_
          refine x_aload_n d_M_missedOf_260 rfl 0 rfl ?_
          refine y_getR d_M_missedOf_261 fl_11_36 rfl kd_78 rr_78_16 ?_
          refine x_iload_n d_M_missedOf_264 rfl 1 rfl ?_
          obtain ⟨g41, h⟩ := gd_inv h
          refine y_iald d_M_missedOf_265 kd_86 g41 ?_
          obtain ⟨v43, q42, h⟩ := bd_inv h
          refine y_S3i (v := v43) (S1 := S) d_M_missedOf_266 ml_11_343 (Nat.le_of_ble_eq_true rfl) (Nat.le_of_ble_eq_true rfl) (c_M_done (by omega) q42) ?_
          obtain ⟨g44, h⟩ := gd_inv h
          obtain ⟨S45, e46, h⟩ := lt_inv h
          refine y_iast e46 d_M_missedOf_269 kd_86 g44 ?_
          obtain ⟨v47, e48, h⟩ := lt_inv h
          refine y_iinc (L1 := [(0, .ref 78), (2, .int v37), (3, .int v47)]) e48 ic_1 d_M_missedOf_270 2 rfl (Nat.le_of_ble_eq_true rfl) rfl rfl ?_
          refine x_goto (tgt := 128) d_M_missedOf_273 rfl ?_
          exact ih v37 v47 S45 _ h
        · replace h := ite_t c36 h
          refine x_aload_n d_M_missedOf_206 rfl 0 rfl ?_
          refine y_getR d_M_missedOf_207 fl_11_36 rfl kd_78 rr_78_16 ?_
          refine x_iload_n d_M_missedOf_210 rfl 1 rfl ?_
          refine x_iconst d_M_missedOf_211 ic_1 ?_
          refine x_isub d_M_missedOf_212 ?_
          refine x_aload_n d_M_missedOf_213 rfl 0 rfl ?_
          refine y_getR d_M_missedOf_214 fl_11_36 rfl kd_78 rr_78_16 ?_
          refine x_iload_n d_M_missedOf_217 rfl 1 rfl ?_
          refine x_iconst d_M_missedOf_218 ic_1 ?_
          refine x_isub d_M_missedOf_219 ?_
          obtain ⟨g49, h⟩ := gd_inv h
          refine y_iald d_M_missedOf_220 kd_86 g49 ?_
          refine x_if_ne (tgt := 228) d_M_missedOf_221 rfl (fun c50 => ?_) (fun c50 => ?_)
          · replace h := ite_f c50 h
            refine x_iconst d_M_missedOf_228 ic_0 ?_
            obtain ⟨v52, q51, h⟩ := bd_inv h
            refine y_S1i (v := v52) (S1 := S) d_M_missedOf_229 ml_11_318 (Nat.le_of_ble_eq_true rfl) (Nat.le_of_ble_eq_true rfl) (c_M_truth (by omega) q51) ?_
            obtain ⟨g53, h⟩ := gd_inv h
            obtain ⟨S54, e55, h⟩ := lt_inv h
            refine y_iast e55 d_M_missedOf_232 kd_86 g53 ?_
            refine x_goto (tgt := 270) d_M_missedOf_233 rfl ?_
            obtain ⟨v56, e57, h⟩ := lt_inv h
            refine y_iinc (L1 := [(0, .ref 78), (2, .int w2), (3, .int v56)]) e57 ic_1 d_M_missedOf_270 2 rfl (Nat.le_of_ble_eq_true rfl) rfl rfl ?_
            refine x_goto (tgt := 128) d_M_missedOf_273 rfl ?_
            exact ih w2 v56 S54 _ h
          · replace h := ite_t c50 h
            refine x_iconst d_M_missedOf_224 ic_1 ?_
            refine x_goto (tgt := 229) d_M_missedOf_225 rfl ?_
            obtain ⟨v59, q58, h⟩ := bd_inv h
            refine y_S1i (v := v59) (S1 := S) d_M_missedOf_229 ml_11_318 (Nat.le_of_ble_eq_true rfl) (Nat.le_of_ble_eq_true rfl) (c_M_truth (by omega) q58) ?_
            obtain ⟨g60, h⟩ := gd_inv h
            obtain ⟨S61, e62, h⟩ := lt_inv h
            refine y_iast e62 d_M_missedOf_232 kd_86 g60 ?_
            refine x_goto (tgt := 270) d_M_missedOf_233 rfl ?_
            obtain ⟨v63, e64, h⟩ := lt_inv h
            refine y_iinc (L1 := [(0, .ref 78), (2, .int w2), (3, .int v63)]) e64 ic_1 d_M_missedOf_270 2 rfl (Nat.le_of_ble_eq_true rfl) rfl rfl ?_
            refine x_goto (tgt := 128) d_M_missedOf_273 rfl ?_
            exact ih w2 v63 S61 _ h
      · replace h := ite_t c34 h
        exact J155 S w2 w3 _ h
set_option maxRecDepth 100000 in
set_option maxHeartbeats 4000000 in
theorem c_M_missedOf {X : Nat × (Nat → Int32)} {D F G : Nat} (hD : 2 ≤ D) {S : St} {p1 : Int32} {res : Int32 × St} (h : fM_missedOf F G S p1 = some res) : Ek X (D) mM_missedOf 0 [(0, .ref 78), (1, .int p1)] [] S (some (.int res.1)) res.2 := by
  obtain ⟨D, rfl⟩ : ∃ E, D = E + 1 := ⟨D - 1, by omega⟩
  unfold fM_missedOf at h
  refine x_aload_n d_M_missedOf_0 rfl 0 rfl ?_
  refine y_getR d_M_missedOf_1 fl_11_39 rfl kd_78 rr_78_26 ?_
  refine x_iconst d_M_missedOf_4 ic_0 ?_
  refine x_aload_n d_M_missedOf_5 rfl 0 rfl ?_
  refine y_getR d_M_missedOf_6 fl_11_60 rfl kd_78 rr_78_33 ?_
  refine x_aload_n d_M_missedOf_9 rfl 0 rfl ?_
  refine y_getR d_M_missedOf_10 fl_11_63 rfl kd_78 rr_78_34 ?_
  refine x_iload_n d_M_missedOf_13 rfl 1 rfl ?_
  obtain ⟨g1, h⟩ := gd_inv h
  refine y_iald d_M_missedOf_14 kd_95 g1 ?_
  obtain ⟨g2, h⟩ := gd_inv h
  refine y_iald d_M_missedOf_15 kd_94 g2 ?_
  obtain ⟨g3, h⟩ := gd_inv h
  obtain ⟨S4, e5, h⟩ := lt_inv h
  refine y_iast e5 d_M_missedOf_16 kd_87 g3 ?_
  refine x_aload_n d_M_missedOf_17 rfl 0 rfl ?_
  refine y_getR d_M_missedOf_18 fl_11_39 rfl kd_78 rr_78_26 ?_
  refine x_iconst d_M_missedOf_21 ic_1 ?_
  refine x_aload_n d_M_missedOf_22 rfl 0 rfl ?_
  refine y_getR d_M_missedOf_23 fl_11_96 rfl kd_78 rr_78_59 ?_
  refine x_bipush d_M_missedOf_26 bp_10 ?_
  refine x_iload_n d_M_missedOf_28 rfl 1 rfl ?_
  refine x_iadd d_M_missedOf_29 ?_
  obtain ⟨g6, h⟩ := gd_inv h
  refine y_iald d_M_missedOf_30 kd_101 g6 ?_
  obtain ⟨g7, h⟩ := gd_inv h
  obtain ⟨S8, e9, h⟩ := lt_inv h
  refine y_iast e9 d_M_missedOf_31 kd_87 g7 ?_
  refine x_aload_n d_M_missedOf_32 rfl 0 rfl ?_
  refine y_getR d_M_missedOf_33 fl_11_39 rfl kd_78 rr_78_26 ?_
  refine x_iconst d_M_missedOf_36 ic_2 ?_
  refine x_aload_n d_M_missedOf_37 rfl 0 rfl ?_
  refine y_getR d_M_missedOf_38 fl_11_96 rfl kd_78 rr_78_59 ?_
  refine x_bipush d_M_missedOf_41 bp_20 ?_
  refine x_iload_n d_M_missedOf_43 rfl 1 rfl ?_
  refine x_iadd d_M_missedOf_44 ?_
  obtain ⟨g10, h⟩ := gd_inv h
  refine y_iald d_M_missedOf_45 kd_101 g10 ?_
  obtain ⟨g11, h⟩ := gd_inv h
  obtain ⟨S12, e13, h⟩ := lt_inv h
  refine y_iast e13 d_M_missedOf_46 kd_87 g11 ?_
  refine x_aload_n d_M_missedOf_47 rfl 0 rfl ?_
  refine y_getR d_M_missedOf_48 fl_11_39 rfl kd_78 rr_78_26 ?_
  refine x_iconst d_M_missedOf_51 ic_3 ?_
  refine x_aload_n d_M_missedOf_52 rfl 0 rfl ?_
  refine y_getR d_M_missedOf_53 fl_11_96 rfl kd_78 rr_78_59 ?_
  refine x_bipush d_M_missedOf_56 bp_30 ?_
  refine x_iload_n d_M_missedOf_58 rfl 1 rfl ?_
  refine x_iadd d_M_missedOf_59 ?_
  obtain ⟨g14, h⟩ := gd_inv h
  refine y_iald d_M_missedOf_60 kd_101 g14 ?_
  obtain ⟨g15, h⟩ := gd_inv h
  obtain ⟨S16, e17, h⟩ := lt_inv h
  refine y_iast e17 d_M_missedOf_61 kd_87 g15 ?_
  refine x_aload_n d_M_missedOf_62 rfl 0 rfl ?_
  refine y_getR d_M_missedOf_63 fl_11_39 rfl kd_78 rr_78_26 ?_
  refine x_iconst d_M_missedOf_66 ic_4 ?_
  refine x_aload_n d_M_missedOf_67 rfl 0 rfl ?_
  refine x_iload_n d_M_missedOf_68 rfl 1 rfl ?_
  obtain ⟨v19, q18, h⟩ := bd_inv h
  refine y_V1i (v := v19) (S1 := S16) d_M_missedOf_69 ml_11_328 kd_78 rfl (Nat.le_of_ble_eq_true rfl) (Nat.le_of_ble_eq_true rfl) (c_M_doubles (by omega) q18) ?_
  obtain ⟨v21, q20, h⟩ := bd_inv h
  refine y_S1i (v := v21) (S1 := S16) d_M_missedOf_72 ml_11_331 (Nat.le_of_ble_eq_true rfl) (Nat.le_of_ble_eq_true rfl) (c_M_members (by omega) q20) ?_
  obtain ⟨g22, h⟩ := gd_inv h
  obtain ⟨S23, e24, h⟩ := lt_inv h
  refine y_iast e24 d_M_missedOf_75 kd_87 g22 ?_
  refine x_aload_n d_M_missedOf_76 rfl 0 rfl ?_
  refine y_getR d_M_missedOf_77 fl_11_39 rfl kd_78 rr_78_26 ?_
  refine x_iconst d_M_missedOf_80 ic_5 ?_
  refine x_aload_n d_M_missedOf_81 rfl 0 rfl ?_
  refine y_getR d_M_missedOf_82 fl_11_66 rfl kd_78 rr_78_35 ?_
  refine x_iload_n d_M_missedOf_85 rfl 1 rfl ?_
  obtain ⟨g25, h⟩ := gd_inv h
  refine y_iald d_M_missedOf_86 kd_96 g25 ?_
  obtain ⟨g26, h⟩ := gd_inv h
  obtain ⟨S27, e28, h⟩ := lt_inv h
  refine y_iast e28 d_M_missedOf_87 kd_87 g26 ?_
  refine x_aload_n d_M_missedOf_88 rfl 0 rfl ?_
  refine y_getI d_M_missedOf_89 fl_11_334 rfl kd_78 ?_
  refine x_if_ne (tgt := 124) d_M_missedOf_92 rfl (fun c29 => ?_) (fun c29 => ?_)
  · replace h := ite_f c29 h
    refine x_iconst d_M_missedOf_124 ic_0 ?_
    refine x_istore_n (L1 := [(0, .ref 78), (1, .int p1), (2, .int (0 : Int32))]) d_M_missedOf_125 rfl (Nat.le_of_ble_eq_true rfl) rfl rfl ?_
    refine x_iconst d_M_missedOf_126 ic_0 ?_
    refine x_istore_n (L1 := [(0, .ref 78), (1, .int p1), (2, .int (0 : Int32)), (3, .int (0 : Int32))]) d_M_missedOf_127 rfl (Nat.le_of_ble_eq_true rfl) rfl rfl ?_
    refine y_pick (L1 := [(0, .ref 78), (2, .int (0 : Int32)), (3, .int (0 : Int32))]) [0, 2, 3] rfl ?_
    refine T_M_missedOf_128 (by omega)  ?_ F (0 : Int32) (0 : Int32) S27 _ h
    · intro S84 res h
      refine x_aload_n d_M_missedOf_276 rfl 0 rfl ?_
      refine y_getR d_M_missedOf_277 fl_11_36 rfl kd_78 rr_78_16 ?_
      refine x_iconst d_M_missedOf_280 ic_0 ?_
      obtain ⟨g85, h⟩ := gd_inv h
      refine y_iald d_M_missedOf_281 kd_86 g85 ?_
      refine x_sipush d_M_missedOf_282 sp_999 ?_
      obtain ⟨v87, q86, h⟩ := bd_inv h
      refine y_S2i (v := v87) (S1 := S84) d_M_missedOf_285 ml_11_337 (Nat.le_of_ble_eq_true rfl) (Nat.le_of_ble_eq_true rfl) (c_M_within (by omega) q86) ?_
      obtain rfl := Option.some.inj h
      exact x_ret (r := some (.int v87)) d_M_missedOf_288 ⟨_, rfl, rfl⟩
  · replace h := ite_t c29 h
    refine x_aload_n d_M_missedOf_95 rfl 0 rfl ?_
    refine y_getR d_M_missedOf_96 fl_11_39 rfl kd_78 rr_78_26 ?_
    refine x_iconst d_M_missedOf_99 ic_3 ?_
    obtain ⟨g88, h⟩ := gd_inv h
    refine y_iald d_M_missedOf_100 kd_87 g88 ?_
    refine x_iconst d_M_missedOf_101 ic_5 ?_
    refine x_aload_n d_M_missedOf_102 rfl 0 rfl ?_
    refine y_getR d_M_missedOf_103 fl_11_39 rfl kd_78 rr_78_26 ?_
    refine x_iconst d_M_missedOf_106 ic_0 ?_
    obtain ⟨g89, h⟩ := gd_inv h
    refine y_iald d_M_missedOf_107 kd_87 g89 ?_
    refine x_imul d_M_missedOf_108 ?_
    refine x_iadd d_M_missedOf_109 ?_
    refine x_aload_n d_M_missedOf_110 rfl 0 rfl ?_
    refine y_getR d_M_missedOf_111 fl_11_39 rfl kd_78 rr_78_26 ?_
    refine x_iconst d_M_missedOf_114 ic_4 ?_
    obtain ⟨g90, h⟩ := gd_inv h
    refine y_iald d_M_missedOf_115 kd_87 g90 ?_
    refine x_isub d_M_missedOf_116 ?_
    refine x_sipush d_M_missedOf_117 sp_999 ?_
    obtain ⟨v92, q91, h⟩ := bd_inv h
    refine y_S2i (v := v92) (S1 := S27) d_M_missedOf_120 ml_11_337 (Nat.le_of_ble_eq_true rfl) (Nat.le_of_ble_eq_true rfl) (c_M_within (by omega) q91) ?_
    obtain rfl := Option.some.inj h
    exact x_ret (r := some (.int v92)) d_M_missedOf_123 ⟨_, rfl, rfl⟩
/-! NinetyPlayersModel.note -/
def fM_note (F G : Nat) (S : St) (p1 : Int32) (p2 : Int32) : Option (Int32 × St) :=
  bd (fM_isNote F G S p1) fun v2 => if v2 = 0 then some ((-1 : Int32), S) else bd (fM_fill F G S ) fun S5 => if p2 = 0 then gd (inB p1 10) (some (S5.1 95 p1.toNatClampNeg, S5)) else if p2 = 1 then gd (inB p1 10) (some (S5.1 96 p1.toNatClampNeg, S5)) else if p2 = 2 then gd (inB ((10 : Int32) + p1) 41) (some (S5.1 101 ((10 : Int32) + p1).toNatClampNeg, S5)) else if p2 = 3 then gd (inB ((20 : Int32) + p1) 41) (some (S5.1 101 ((20 : Int32) + p1).toNatClampNeg, S5)) else if p2 = 4 then gd (inB ((30 : Int32) + p1) 41) (some (S5.1 101 ((30 : Int32) + p1).toNatClampNeg, S5)) else if p2 = 5 then gd (inB p1 41) (some (S5.1 101 p1.toNatClampNeg, S5)) else if p2 = 6 then bd2 (fM_missedOf F G S5 p1) fun v20 S21 => some (v20, S21) else if p2 = 7 then bd (fM_doubles F G S5 p1) fun v24 => some (v24, S5) else some ((-1 : Int32), S5)
set_option maxRecDepth 100000 in
set_option maxHeartbeats 4000000 in
theorem c_M_note {X : Nat × (Nat → Int32)} {D F G : Nat} (hD : 3 ≤ D) {S : St} {p1 : Int32} {p2 : Int32} {res : Int32 × St} (h : fM_note F G S p1 p2 = some res) : Ek X (D) mM_note 0 [(0, .ref 78), (1, .int p1), (2, .int p2)] [] S (some (.int res.1)) res.2 := by
  obtain ⟨D, rfl⟩ : ∃ E, D = E + 1 := ⟨D - 1, by omega⟩
  unfold fM_note at h
  refine x_aload_n d_M_note_0 rfl 0 rfl ?_
  refine x_iload_n d_M_note_1 rfl 1 rfl ?_
  obtain ⟨v2, q1, h⟩ := bd_inv h
  refine y_V1i (v := v2) (S1 := S) d_M_note_2 ml_11_461 kd_78 rfl (Nat.le_of_ble_eq_true rfl) (Nat.le_of_ble_eq_true rfl) (c_M_isNote (by omega) q1) ?_
  refine x_if_ne (tgt := 10) d_M_note_5 rfl (fun c3 => ?_) (fun c3 => ?_)
  · replace h := ite_f c3 h
    refine x_aload_n d_M_note_10 rfl 0 rfl ?_
    obtain ⟨S5, q4, h⟩ := bd_inv h
    refine y_V0v (S1 := S5) d_M_note_11 ml_11_464 kd_78 rfl (Nat.le_of_ble_eq_true rfl) (Nat.le_of_ble_eq_true rfl) (c_M_fill (by omega) q4) ?_
    refine x_iload_n d_M_note_14 rfl 2 rfl ?_
    by_cases c6 : p2 = 0
    · replace h := ite_t c6 h
      refine x_tabC (tgt := 60) 0 d_M_note_15 (by rw [c6]; rfl) (by decide) rfl rfl ?_
      refine x_aload_n d_M_note_60 rfl 0 rfl ?_
      refine y_getR d_M_note_61 fl_11_63 rfl kd_78 rr_78_34 ?_
      refine x_iload_n d_M_note_64 rfl 1 rfl ?_
      obtain ⟨g7, h⟩ := gd_inv h
      refine y_iald d_M_note_65 kd_95 g7 ?_
      obtain rfl := Option.some.inj h
      exact x_ret (r := some (.int (S5.1 95 p1.toNatClampNeg))) d_M_note_66 ⟨_, rfl, rfl⟩
    replace h := ite_f c6 h
    by_cases c8 : p2 = 1
    · replace h := ite_t c8 h
      refine x_tabC (tgt := 67) 1 d_M_note_15 (by rw [c8]; rfl) (by decide) rfl rfl ?_
      refine x_aload_n d_M_note_67 rfl 0 rfl ?_
      refine y_getR d_M_note_68 fl_11_66 rfl kd_78 rr_78_35 ?_
      refine x_iload_n d_M_note_71 rfl 1 rfl ?_
      obtain ⟨g9, h⟩ := gd_inv h
      refine y_iald d_M_note_72 kd_96 g9 ?_
      obtain rfl := Option.some.inj h
      exact x_ret (r := some (.int (S5.1 96 p1.toNatClampNeg))) d_M_note_73 ⟨_, rfl, rfl⟩
    replace h := ite_f c8 h
    by_cases c10 : p2 = 2
    · replace h := ite_t c10 h
      refine x_tabC (tgt := 74) 2 d_M_note_15 (by rw [c10]; rfl) (by decide) rfl rfl ?_
      refine x_aload_n d_M_note_74 rfl 0 rfl ?_
      refine y_getR d_M_note_75 fl_11_96 rfl kd_78 rr_78_59 ?_
      refine x_bipush d_M_note_78 bp_10 ?_
      refine x_iload_n d_M_note_80 rfl 1 rfl ?_
      refine x_iadd d_M_note_81 ?_
      obtain ⟨g11, h⟩ := gd_inv h
      refine y_iald d_M_note_82 kd_101 g11 ?_
      obtain rfl := Option.some.inj h
      exact x_ret (r := some (.int (S5.1 101 ((10 : Int32) + p1).toNatClampNeg))) d_M_note_83 ⟨_, rfl, rfl⟩
    replace h := ite_f c10 h
    by_cases c12 : p2 = 3
    · replace h := ite_t c12 h
      refine x_tabC (tgt := 84) 3 d_M_note_15 (by rw [c12]; rfl) (by decide) rfl rfl ?_
      refine x_aload_n d_M_note_84 rfl 0 rfl ?_
      refine y_getR d_M_note_85 fl_11_96 rfl kd_78 rr_78_59 ?_
      refine x_bipush d_M_note_88 bp_20 ?_
      refine x_iload_n d_M_note_90 rfl 1 rfl ?_
      refine x_iadd d_M_note_91 ?_
      obtain ⟨g13, h⟩ := gd_inv h
      refine y_iald d_M_note_92 kd_101 g13 ?_
      obtain rfl := Option.some.inj h
      exact x_ret (r := some (.int (S5.1 101 ((20 : Int32) + p1).toNatClampNeg))) d_M_note_93 ⟨_, rfl, rfl⟩
    replace h := ite_f c12 h
    by_cases c14 : p2 = 4
    · replace h := ite_t c14 h
      refine x_tabC (tgt := 94) 4 d_M_note_15 (by rw [c14]; rfl) (by decide) rfl rfl ?_
      refine x_aload_n d_M_note_94 rfl 0 rfl ?_
      refine y_getR d_M_note_95 fl_11_96 rfl kd_78 rr_78_59 ?_
      refine x_bipush d_M_note_98 bp_30 ?_
      refine x_iload_n d_M_note_100 rfl 1 rfl ?_
      refine x_iadd d_M_note_101 ?_
      obtain ⟨g15, h⟩ := gd_inv h
      refine y_iald d_M_note_102 kd_101 g15 ?_
      obtain rfl := Option.some.inj h
      exact x_ret (r := some (.int (S5.1 101 ((30 : Int32) + p1).toNatClampNeg))) d_M_note_103 ⟨_, rfl, rfl⟩
    replace h := ite_f c14 h
    by_cases c16 : p2 = 5
    · replace h := ite_t c16 h
      refine x_tabC (tgt := 104) 5 d_M_note_15 (by rw [c16]; rfl) (by decide) rfl rfl ?_
      refine x_aload_n d_M_note_104 rfl 0 rfl ?_
      refine y_getR d_M_note_105 fl_11_96 rfl kd_78 rr_78_59 ?_
      refine x_iload_n d_M_note_108 rfl 1 rfl ?_
      obtain ⟨g17, h⟩ := gd_inv h
      refine y_iald d_M_note_109 kd_101 g17 ?_
      obtain rfl := Option.some.inj h
      exact x_ret (r := some (.int (S5.1 101 p1.toNatClampNeg))) d_M_note_110 ⟨_, rfl, rfl⟩
    replace h := ite_f c16 h
    by_cases c18 : p2 = 6
    · replace h := ite_t c18 h
      refine x_tabC (tgt := 111) 6 d_M_note_15 (by rw [c18]; rfl) (by decide) rfl rfl ?_
      refine x_aload_n d_M_note_111 rfl 0 rfl ?_
      refine x_iload_n d_M_note_112 rfl 1 rfl ?_
      obtain ⟨v20, S21, q19, h⟩ := bd2_inv h
      refine y_V1i (v := v20) (S1 := S21) d_M_note_113 ml_11_467 kd_78 rfl (Nat.le_of_ble_eq_true rfl) (Nat.le_of_ble_eq_true rfl) (c_M_missedOf (by omega) q19) ?_
      obtain rfl := Option.some.inj h
      exact x_ret (r := some (.int v20)) d_M_note_116 ⟨_, rfl, rfl⟩
    replace h := ite_f c18 h
    by_cases c22 : p2 = 7
    · replace h := ite_t c22 h
      refine x_tabC (tgt := 117) 7 d_M_note_15 (by rw [c22]; rfl) (by decide) rfl rfl ?_
      refine x_aload_n d_M_note_117 rfl 0 rfl ?_
      refine x_iload_n d_M_note_118 rfl 1 rfl ?_
      obtain ⟨v24, q23, h⟩ := bd_inv h
      refine y_V1i (v := v24) (S1 := S5) d_M_note_119 ml_11_328 kd_78 rfl (Nat.le_of_ble_eq_true rfl) (Nat.le_of_ble_eq_true rfl) (c_M_doubles (by omega) q23) ?_
      obtain rfl := Option.some.inj h
      exact x_ret (r := some (.int v24)) d_M_note_122 ⟨_, rfl, rfl⟩
    replace h := ite_f c22 h
    refine x_tabD (tgt := 123) d_M_note_15 (by have := lv_neT c6 (show (0 : Int32).toInt = 0 from rfl); have := lv_neT c8 (show (1 : Int32).toInt = 1 from rfl); have := lv_neT c10 (show (2 : Int32).toInt = 2 from rfl); have := lv_neT c12 (show (3 : Int32).toInt = 3 from rfl); have := lv_neT c14 (show (4 : Int32).toInt = 4 from rfl); have := lv_neT c16 (show (5 : Int32).toInt = 5 from rfl); have := lv_neT c18 (show (6 : Int32).toInt = 6 from rfl); have := lv_neT c22 (show (7 : Int32).toInt = 7 from rfl); omega) rfl ?_
    refine x_iconst d_M_note_123 ic_m1 ?_
    obtain rfl := Option.some.inj h
    exact x_ret (r := some (.int (-1 : Int32))) d_M_note_124 ⟨_, rfl, rfl⟩
  · replace h := ite_t c3 h
    refine x_iconst d_M_note_8 ic_m1 ?_
    obtain rfl := Option.some.inj h
    exact x_ret (r := some (.int (-1 : Int32))) d_M_note_9 ⟨_, rfl, rfl⟩
/-! NinetyPlayers$Score.notesOf -/
def b_S_notesOf_4 (F G : Nat) (S : St) (z0 : Nat) (z1 : Int32) (rec : Int32 → Int32 → Option (Int32)) (w2 : Int32) (w3 : Int32) : Option (Int32) :=
  if (S.1 z0 6) ≤ w3 then some w2 else gd (inB w3 10) (if (S.1 (z0 + 4) w3.toNatClampNeg) = z1 then lt (w2 ||| ((1 : Int32) <<< (w3 &&& 31))) fun v6 => lt (w3 + 1) fun v8 => rec v6 v8 else lt (w3 + 1) fun v4 => rec w2 v4)
def fS_notesOf (F G : Nat) (S : St) (o : Nat) (p1 : Int32) : Option (Int32) :=
  gd (isSc o) (fx2 (b_S_notesOf_4 F G S o p1) F (0 : Int32) (0 : Int32))
set_option maxRecDepth 100000 in
set_option maxHeartbeats 4000000 in
theorem T_S_notesOf_4 {X : Nat × (Nat → Int32)} {D F G : Nat} (hD : 0 ≤ D) {S : St} {z0 : Nat} {z1 : Int32} (hz0 : isSc z0 = true) : ∀ (f : Nat) (w2 : Int32) (w3 : Int32) (res : Int32), fx2 (b_S_notesOf_4 F G S z0 z1 ) f w2 w3 = some res → Ek X (D) mS_notesOf 4 [(0, .ref z0), (1, .int z1), (2, .int w2), (3, .int w3)] [] S (some (.int res)) S := by
  refine fx2_ind ?_
  intro rec ih w2 w3 res h
  unfold b_S_notesOf_4 at h
  refine x_iload_n d_S_notesOf_4 rfl 3 rfl ?_
  refine x_aload_n d_S_notesOf_5 rfl 0 rfl ?_
  refine y_getI d_S_notesOf_6 fl_2_66 rfl (ksSc hz0) ?_
  refine x_icmp_ge (tgt := 34) d_S_notesOf_9 rfl (fun c1 => ?_) (fun c1 => ?_)
  · replace h := ite_t c1 h
    refine x_iload_n d_S_notesOf_34 rfl 2 rfl ?_
    obtain rfl := Option.some.inj h
    exact x_ret (r := some (.int w2)) d_S_notesOf_35 ⟨_, rfl, rfl⟩
  · replace h := ite_f c1 h
    refine x_aload_n d_S_notesOf_12 rfl 0 rfl ?_
    refine y_getR d_S_notesOf_13 fl_2_22 rfl (ksSc hz0) (rrSc_10 hz0) ?_
    refine x_iload_n d_S_notesOf_16 rfl 3 rfl ?_
    obtain ⟨g2, h⟩ := gd_inv h
    refine y_iald d_S_notesOf_17 (ksSc_4 hz0) g2 ?_
    refine x_iload_n d_S_notesOf_18 rfl 1 rfl ?_
    refine x_icmp_ne (tgt := 28) d_S_notesOf_19 rfl (fun c3 => ?_) (fun c3 => ?_)
    · replace h := ite_f c3 h
      obtain ⟨v4, e5, h⟩ := lt_inv h
      refine y_iinc (L1 := [(0, .ref z0), (1, .int z1), (2, .int w2), (3, .int v4)]) e5 ic_1 d_S_notesOf_28 3 rfl (Nat.le_of_ble_eq_true rfl) rfl rfl ?_
      refine x_goto (tgt := 4) d_S_notesOf_31 rfl ?_
      exact ih w2 v4 _ h
    · replace h := ite_t c3 h
      refine x_iload_n d_S_notesOf_22 rfl 2 rfl ?_
      refine x_iconst d_S_notesOf_23 ic_1 ?_
      refine x_iload_n d_S_notesOf_24 rfl 3 rfl ?_
      refine x_ishl d_S_notesOf_25 ?_
      refine x_ior d_S_notesOf_26 ?_
      obtain ⟨v6, e7, h⟩ := lt_inv h
      refine y_istore_n (L1 := [(0, .ref z0), (1, .int z1), (2, .int v6), (3, .int w3)]) e7 d_S_notesOf_27 rfl (Nat.le_of_ble_eq_true rfl) rfl rfl ?_
      obtain ⟨v8, e9, h⟩ := lt_inv h
      refine y_iinc (L1 := [(0, .ref z0), (1, .int z1), (2, .int v6), (3, .int v8)]) e9 ic_1 d_S_notesOf_28 3 rfl (Nat.le_of_ble_eq_true rfl) rfl rfl ?_
      refine x_goto (tgt := 4) d_S_notesOf_31 rfl ?_
      exact ih v6 v8 _ h
set_option maxRecDepth 100000 in
set_option maxHeartbeats 4000000 in
theorem c_S_notesOf {X : Nat × (Nat → Int32)} {D F G : Nat} (hD : 0 ≤ D) {S : St} {o : Nat} {p1 : Int32} {res : Int32} (h : fS_notesOf F G S o p1 = some res) : Ek X (D) mS_notesOf 0 [(0, .ref o), (1, .int p1)] [] S (some (.int res)) S := by
  unfold fS_notesOf at h
  obtain ⟨gg0, h⟩ := gd_inv h
  refine x_iconst d_S_notesOf_0 ic_0 ?_
  refine x_istore_n (L1 := [(0, .ref o), (1, .int p1), (2, .int (0 : Int32))]) d_S_notesOf_1 rfl (Nat.le_of_ble_eq_true rfl) rfl rfl ?_
  refine x_iconst d_S_notesOf_2 ic_0 ?_
  refine x_istore_n (L1 := [(0, .ref o), (1, .int p1), (2, .int (0 : Int32)), (3, .int (0 : Int32))]) d_S_notesOf_3 rfl (Nat.le_of_ble_eq_true rfl) rfl rfl ?_
  refine T_S_notesOf_4 (by omega) gg0  F (0 : Int32) (0 : Int32) _ h
/-! NinetyPlayers$Laying.setOf -/
def b_L_setOf_4 (F G : Nat) (S : St) (z0 : Nat) (z1 : Int32) (rec : Int32 → Int32 → Option (Int32)) (w2 : Int32) (w3 : Int32) : Option (Int32) :=
  if (10 : Int32) ≤ w3 then some w2 else gd (inB w3 10) (if (S.1 (z0 + 1) w3.toNatClampNeg) = z1 then lt (w2 ||| ((1 : Int32) <<< (w3 &&& 31))) fun v6 => lt (w3 + 1) fun v8 => rec v6 v8 else lt (w3 + 1) fun v4 => rec w2 v4)
def fL_setOf (F G : Nat) (S : St) (o : Nat) (p1 : Int32) : Option (Int32) :=
  gd (isLa o) (fx2 (b_L_setOf_4 F G S o p1) F (0 : Int32) (0 : Int32))
set_option maxRecDepth 100000 in
set_option maxHeartbeats 4000000 in
theorem T_L_setOf_4 {X : Nat × (Nat → Int32)} {D F G : Nat} (hD : 0 ≤ D) {S : St} {z0 : Nat} {z1 : Int32} (hz0 : isLa z0 = true) : ∀ (f : Nat) (w2 : Int32) (w3 : Int32) (res : Int32), fx2 (b_L_setOf_4 F G S z0 z1 ) f w2 w3 = some res → Ek X (D) mL_setOf 4 [(0, .ref z0), (1, .int z1), (2, .int w2), (3, .int w3)] [] S (some (.int res)) S := by
  refine fx2_ind ?_
  intro rec ih w2 w3 res h
  unfold b_L_setOf_4 at h
  refine x_iload_n d_L_setOf_4 rfl 3 rfl ?_
  refine x_bipush d_L_setOf_5 bp_10 ?_
  refine x_icmp_ge (tgt := 32) d_L_setOf_7 rfl (fun c1 => ?_) (fun c1 => ?_)
  · replace h := ite_t c1 h
    refine x_iload_n d_L_setOf_32 rfl 2 rfl ?_
    obtain rfl := Option.some.inj h
    exact x_ret (r := some (.int w2)) d_L_setOf_33 ⟨_, rfl, rfl⟩
  · replace h := ite_f c1 h
    refine x_aload_n d_L_setOf_10 rfl 0 rfl ?_
    refine y_getR d_L_setOf_11 fl_5_9 rfl (ksLa hz0) (rrLa_2 hz0) ?_
    refine x_iload_n d_L_setOf_14 rfl 3 rfl ?_
    obtain ⟨g2, h⟩ := gd_inv h
    refine y_iald d_L_setOf_15 (ksLa_1 hz0) g2 ?_
    refine x_iload_n d_L_setOf_16 rfl 1 rfl ?_
    refine x_icmp_ne (tgt := 26) d_L_setOf_17 rfl (fun c3 => ?_) (fun c3 => ?_)
    · replace h := ite_f c3 h
      obtain ⟨v4, e5, h⟩ := lt_inv h
      refine y_iinc (L1 := [(0, .ref z0), (1, .int z1), (2, .int w2), (3, .int v4)]) e5 ic_1 d_L_setOf_26 3 rfl (Nat.le_of_ble_eq_true rfl) rfl rfl ?_
      refine x_goto (tgt := 4) d_L_setOf_29 rfl ?_
      exact ih w2 v4 _ h
    · replace h := ite_t c3 h
      refine x_iload_n d_L_setOf_20 rfl 2 rfl ?_
      refine x_iconst d_L_setOf_21 ic_1 ?_
      refine x_iload_n d_L_setOf_22 rfl 3 rfl ?_
      refine x_ishl d_L_setOf_23 ?_
      refine x_ior d_L_setOf_24 ?_
      obtain ⟨v6, e7, h⟩ := lt_inv h
      refine y_istore_n (L1 := [(0, .ref z0), (1, .int z1), (2, .int v6), (3, .int w3)]) e7 d_L_setOf_25 rfl (Nat.le_of_ble_eq_true rfl) rfl rfl ?_
      obtain ⟨v8, e9, h⟩ := lt_inv h
      refine y_iinc (L1 := [(0, .ref z0), (1, .int z1), (2, .int v6), (3, .int v8)]) e9 ic_1 d_L_setOf_26 3 rfl (Nat.le_of_ble_eq_true rfl) rfl rfl ?_
      refine x_goto (tgt := 4) d_L_setOf_29 rfl ?_
      exact ih v6 v8 _ h
set_option maxRecDepth 100000 in
set_option maxHeartbeats 4000000 in
theorem c_L_setOf {X : Nat × (Nat → Int32)} {D F G : Nat} (hD : 0 ≤ D) {S : St} {o : Nat} {p1 : Int32} {res : Int32} (h : fL_setOf F G S o p1 = some res) : Ek X (D) mL_setOf 0 [(0, .ref o), (1, .int p1)] [] S (some (.int res)) S := by
  unfold fL_setOf at h
  obtain ⟨gg0, h⟩ := gd_inv h
  refine x_iconst d_L_setOf_0 ic_0 ?_
  refine x_istore_n (L1 := [(0, .ref o), (1, .int p1), (2, .int (0 : Int32))]) d_L_setOf_1 rfl (Nat.le_of_ble_eq_true rfl) rfl rfl ?_
  refine x_iconst d_L_setOf_2 ic_0 ?_
  refine x_istore_n (L1 := [(0, .ref o), (1, .int p1), (2, .int (0 : Int32)), (3, .int (0 : Int32))]) d_L_setOf_3 rfl (Nat.le_of_ble_eq_true rfl) rfl rfl ?_
  refine T_L_setOf_4 (by omega) gg0  F (0 : Int32) (0 : Int32) _ h
/-! NinetyPlayers.givenSet -/
def fN_givenSet (F G : Nat) (S : St) : Option (Int32) :=
  bd (fL_setOf F G S 30 (1 : Int32)) fun v2 => bd (fL_setOf F G S 30 (2 : Int32)) fun v4 => some (v2 ||| v4)
set_option maxRecDepth 100000 in
set_option maxHeartbeats 4000000 in
theorem c_N_givenSet {X : Nat × (Nat → Int32)} {D F G : Nat} (hD : 1 ≤ D) {S : St} {res : Int32} (h : fN_givenSet F G S  = some res) : Ek X (D) mN_givenSet 0 [(0, .ref 0)] [] S (some (.int res)) S := by
  obtain ⟨D, rfl⟩ : ∃ E, D = E + 1 := ⟨D - 1, by omega⟩
  unfold fN_givenSet at h
  refine x_aload_n d_N_givenSet_0 rfl 0 rfl ?_
  refine y_getR d_N_givenSet_1 fl_0_32 rfl kd_0 rr_0_4 ?_
  refine x_iconst d_N_givenSet_4 ic_1 ?_
  obtain ⟨v2, q1, h⟩ := bd_inv h
  refine y_V1i (v := v2) (S1 := S) d_N_givenSet_5 ml_0_200 kd_30 rfl (Nat.le_of_ble_eq_true rfl) (Nat.le_of_ble_eq_true rfl) (c_L_setOf (by omega) q1) ?_
  refine x_aload_n d_N_givenSet_8 rfl 0 rfl ?_
  refine y_getR d_N_givenSet_9 fl_0_32 rfl kd_0 rr_0_4 ?_
  refine x_iconst d_N_givenSet_12 ic_2 ?_
  obtain ⟨v4, q3, h⟩ := bd_inv h
  refine y_V1i (v := v4) (S1 := S) d_N_givenSet_13 ml_0_200 kd_30 rfl (Nat.le_of_ble_eq_true rfl) (Nat.le_of_ble_eq_true rfl) (c_L_setOf (by omega) q3) ?_
  refine x_ior d_N_givenSet_16 ?_
  obtain rfl := Option.some.inj h
  exact x_ret (r := some (.int (v2 ||| v4))) d_N_givenSet_17 ⟨_, rfl, rfl⟩
/-! NinetyPlayers.part -/
def fN_part (F G : Nat) (S : St) (p1 : Int32) (p2 : Int32) : Option (Int32) :=
  if p1 < 0 then some (-1 : Int32) else gd (isSc S.2.2.1) (if p1 < (S.1 S.2.2.1 5) then if p2 = 0 then gd (inB p1 4) (some (S.1 (S.2.2.1 + 2) p1.toNatClampNeg)) else if p2 = 1 then bd (fS_notesOf F G S S.2.2.1 p1) fun v8 => some v8 else if p2 = 2 then bd (fS_notesOf F G S S.2.2.1 p1) fun v11 => bd (fN_givenSet F G S) fun v13 => some (v11 &&& v13) else some (-1 : Int32) else some (-1 : Int32))
set_option maxRecDepth 100000 in
set_option maxHeartbeats 4000000 in
theorem c_N_part {X : Nat × (Nat → Int32)} {D F G : Nat} (hD : 2 ≤ D) {S : St} {p1 : Int32} {p2 : Int32} {res : Int32} (h : fN_part F G S p1 p2 = some res) : Ek X (D) mN_part 0 [(0, .ref 0), (1, .int p1), (2, .int p2)] [] S (some (.int res)) S := by
  obtain ⟨D, rfl⟩ : ∃ E, D = E + 1 := ⟨D - 1, by omega⟩
  unfold fN_part at h
  refine x_iload_n d_N_part_0 rfl 1 rfl ?_
  refine x_if_lt (tgt := 15) d_N_part_1 rfl (fun c1 => ?_) (fun c1 => ?_)
  · replace h := ite_t c1 h
    refine x_iconst d_N_part_15 ic_m1 ?_
    obtain rfl := Option.some.inj h
    exact x_ret (r := some (.int (-1 : Int32))) d_N_part_16 ⟨_, rfl, rfl⟩
  · replace h := ite_f c1 h
    refine x_iload_n d_N_part_4 rfl 1 rfl ?_
    refine x_aload_n d_N_part_5 rfl 0 rfl ?_
    refine y_getR d_N_part_6 fl_0_25 rfl kd_0 rr_told ?_
    obtain ⟨g2, h⟩ := gd_inv h
    refine y_getI d_N_part_9 fl_0_154 rfl (ksSc g2) ?_
    refine x_icmp_lt (tgt := 17) d_N_part_12 rfl (fun c3 => ?_) (fun c3 => ?_)
    · replace h := ite_t c3 h
      refine x_iload_n d_N_part_17 rfl 2 rfl ?_
      by_cases c4 : p2 = 0
      · replace h := ite_t c4 h
        refine x_tabC (tgt := 44) 0 d_N_part_18 (by rw [c4]; rfl) (by decide) rfl rfl ?_
        refine x_aload_n d_N_part_44 rfl 0 rfl ?_
        refine y_getR d_N_part_45 fl_0_25 rfl kd_0 rr_told ?_
        refine y_getR d_N_part_48 fl_0_157 rfl (ksSc g2) (rrSc_8 g2) ?_
        refine x_iload_n d_N_part_51 rfl 1 rfl ?_
        obtain ⟨g5, h⟩ := gd_inv h
        refine y_iald d_N_part_52 (ksSc_2 g2) g5 ?_
        obtain rfl := Option.some.inj h
        exact x_ret (r := some (.int (S.1 (S.2.2.1 + 2) p1.toNatClampNeg))) d_N_part_53 ⟨_, rfl, rfl⟩
      replace h := ite_f c4 h
      by_cases c6 : p2 = 1
      · replace h := ite_t c6 h
        refine x_tabC (tgt := 54) 1 d_N_part_18 (by rw [c6]; rfl) (by decide) rfl rfl ?_
        refine x_aload_n d_N_part_54 rfl 0 rfl ?_
        refine y_getR d_N_part_55 fl_0_25 rfl kd_0 rr_told ?_
        refine x_iload_n d_N_part_58 rfl 1 rfl ?_
        obtain ⟨v8, q7, h⟩ := bd_inv h
        refine y_V1i (v := v8) (S1 := S) d_N_part_59 ml_0_160 (ksSc g2) rfl (Nat.le_of_ble_eq_true rfl) (Nat.le_of_ble_eq_true rfl) (c_S_notesOf (by omega) q7) ?_
        obtain rfl := Option.some.inj h
        exact x_ret (r := some (.int v8)) d_N_part_62 ⟨_, rfl, rfl⟩
      replace h := ite_f c6 h
      by_cases c9 : p2 = 2
      · replace h := ite_t c9 h
        refine x_tabC (tgt := 63) 2 d_N_part_18 (by rw [c9]; rfl) (by decide) rfl rfl ?_
        refine x_aload_n d_N_part_63 rfl 0 rfl ?_
        refine y_getR d_N_part_64 fl_0_25 rfl kd_0 rr_told ?_
        refine x_iload_n d_N_part_67 rfl 1 rfl ?_
        obtain ⟨v11, q10, h⟩ := bd_inv h
        refine y_V1i (v := v11) (S1 := S) d_N_part_68 ml_0_160 (ksSc g2) rfl (Nat.le_of_ble_eq_true rfl) (Nat.le_of_ble_eq_true rfl) (c_S_notesOf (by omega) q10) ?_
        refine x_aload_n d_N_part_71 rfl 0 rfl ?_
        obtain ⟨v13, q12, h⟩ := bd_inv h
        refine y_V0i (v := v13) (S1 := S) d_N_part_72 ml_0_163 kd_0 rfl (Nat.le_of_ble_eq_true rfl) (Nat.le_of_ble_eq_true rfl) (c_N_givenSet (by omega) q12) ?_
        refine x_iand d_N_part_75 ?_
        obtain rfl := Option.some.inj h
        exact x_ret (r := some (.int (v11 &&& v13))) d_N_part_76 ⟨_, rfl, rfl⟩
      replace h := ite_f c9 h
      refine x_tabD (tgt := 77) d_N_part_18 (by have := lv_neT c4 (show (0 : Int32).toInt = 0 from rfl); have := lv_neT c6 (show (1 : Int32).toInt = 1 from rfl); have := lv_neT c9 (show (2 : Int32).toInt = 2 from rfl); omega) rfl ?_
      refine x_iconst d_N_part_77 ic_m1 ?_
      obtain rfl := Option.some.inj h
      exact x_ret (r := some (.int (-1 : Int32))) d_N_part_78 ⟨_, rfl, rfl⟩
    · replace h := ite_f c3 h
      refine x_iconst d_N_part_15 ic_m1 ?_
      obtain rfl := Option.some.inj h
      exact x_ret (r := some (.int (-1 : Int32))) d_N_part_16 ⟨_, rfl, rfl⟩
/-! NinetyPlayersModel.notesOf -/
def j_M_notesOf_28 (F G : Nat) (S : St) (z1 : Int32) (rec : Int32 → Int32 → Option (Int32)) (_ : St) (y3 : Int32) (s0 : Int32) (s1 : Int32) : Option (Int32) :=
  bd (fM_truth F G S s1) fun v5 => lt (s0 ||| (v5 <<< (y3 &&& 31))) fun v6 => lt (y3 + 1) fun v8 => rec v6 v8
def b_M_notesOf_4 (F G : Nat) (S : St) (z1 : Int32) (rec : Int32 → Int32 → Option (Int32)) (w2 : Int32) (w3 : Int32) : Option (Int32) :=
  if (S.1 78 48) ≤ w3 then some w2 else gd (inB w3 10) (if (S.1 95 w3.toNatClampNeg) = z1 then j_M_notesOf_28 F G S z1 rec  S w3 w2 (1 : Int32) else j_M_notesOf_28 F G S z1 rec  S w3 w2 (0 : Int32))
def fM_notesOf (F G : Nat) (S : St) (p1 : Int32) : Option (Int32) :=
  fx2 (b_M_notesOf_4 F G S p1) F (0 : Int32) (0 : Int32)
set_option maxRecDepth 100000 in
set_option maxHeartbeats 4000000 in
theorem T_M_notesOf_4 {X : Nat × (Nat → Int32)} {D F G : Nat} (hD : 1 ≤ D + 1) {S : St} {z1 : Int32} : ∀ (f : Nat) (w2 : Int32) (w3 : Int32) (res : Int32), fx2 (b_M_notesOf_4 F G S z1 ) f w2 w3 = some res → Ek X (D + 1) mM_notesOf 4 [(0, .ref 78), (1, .int z1), (2, .int w2), (3, .int w3)] [] S (some (.int res)) S := by
  refine fx2_ind ?_
  intro rec ih w2 w3 res h
  unfold b_M_notesOf_4 at h
  have J28 : ∀ (y3 : Int32) (s0 : Int32) (s1 : Int32) (res : Int32), j_M_notesOf_28 F G S z1 rec S y3 s0 s1 = some res → Ek X (D + 1) mM_notesOf 28 [(0, .ref 78), (1, .int z1), (3, .int y3)] [.int s1, .int s0] S (some (.int res)) S := by
    intro y3 s0 s1 res h
    unfold j_M_notesOf_28 at h
    obtain ⟨v5, q4, h⟩ := bd_inv h
    refine y_S1i (v := v5) (S1 := S) d_M_notesOf_28 ml_11_318 (Nat.le_of_ble_eq_true rfl) (Nat.le_of_ble_eq_true rfl) (c_M_truth (by omega) q4) ?_
    refine x_iload_n d_M_notesOf_31 rfl 2 rfl ?_
    refine x_ishl d_M_notesOf_32 ?_
    refine x_ior d_M_notesOf_33 ?_
    obtain ⟨v6, e7, h⟩ := lt_inv h
    refine y_istore_n (L1 := [(0, .ref 78), (1, .int z1), (2, .int v6), (3, .int y3)]) e7 d_M_notesOf_34 rfl (Nat.le_of_ble_eq_true rfl) rfl rfl ?_
    obtain ⟨v8, e9, h⟩ := lt_inv h
    refine y_iinc (L1 := [(0, .ref 78), (1, .int z1), (2, .int v6), (3, .int v8)]) e9 ic_1 d_M_notesOf_35 3 rfl (Nat.le_of_ble_eq_true rfl) rfl rfl ?_
    refine x_goto (tgt := 4) d_M_notesOf_38 rfl ?_
    exact ih v6 v8 _ h
  refine x_iload_n d_M_notesOf_4 rfl 3 rfl ?_
  refine x_aload_n d_M_notesOf_5 rfl 0 rfl ?_
  refine y_getI d_M_notesOf_6 fl_11_322 rfl kd_78 ?_
  refine x_icmp_ge (tgt := 41) d_M_notesOf_9 rfl (fun c1 => ?_) (fun c1 => ?_)
  · replace h := ite_t c1 h
    refine x_iload_n d_M_notesOf_41 rfl 2 rfl ?_
    obtain rfl := Option.some.inj h
    exact x_ret (r := some (.int w2)) d_M_notesOf_42 ⟨_, rfl, rfl⟩
  · replace h := ite_f c1 h
    refine x_iload_n d_M_notesOf_12 rfl 2 rfl ?_
    refine x_aload_n d_M_notesOf_13 rfl 0 rfl ?_
    refine y_getR d_M_notesOf_14 fl_11_63 rfl kd_78 rr_78_34 ?_
    refine x_iload_n d_M_notesOf_17 rfl 3 rfl ?_
    obtain ⟨g2, h⟩ := gd_inv h
    refine y_iald d_M_notesOf_18 kd_95 g2 ?_
    refine x_iload_n d_M_notesOf_19 rfl 1 rfl ?_
    refine x_icmp_ne (tgt := 27) d_M_notesOf_20 rfl (fun c3 => ?_) (fun c3 => ?_)
    · replace h := ite_f c3 h
      refine x_iconst d_M_notesOf_27 ic_0 ?_
      refine y_pick (L1 := [(0, .ref 78), (1, .int z1), (3, .int w3)]) [0, 1, 3] rfl ?_
      exact J28 w3 w2 (0 : Int32) _ h
    · replace h := ite_t c3 h
      refine x_iconst d_M_notesOf_23 ic_1 ?_
      refine x_goto (tgt := 28) d_M_notesOf_24 rfl ?_
      refine y_pick (L1 := [(0, .ref 78), (1, .int z1), (3, .int w3)]) [0, 1, 3] rfl ?_
      exact J28 w3 w2 (1 : Int32) _ h
set_option maxRecDepth 100000 in
set_option maxHeartbeats 4000000 in
theorem c_M_notesOf {X : Nat × (Nat → Int32)} {D F G : Nat} (hD : 1 ≤ D) {S : St} {p1 : Int32} {res : Int32} (h : fM_notesOf F G S p1 = some res) : Ek X (D) mM_notesOf 0 [(0, .ref 78), (1, .int p1)] [] S (some (.int res)) S := by
  obtain ⟨D, rfl⟩ : ∃ E, D = E + 1 := ⟨D - 1, by omega⟩
  unfold fM_notesOf at h
  refine x_iconst d_M_notesOf_0 ic_0 ?_
  refine x_istore_n (L1 := [(0, .ref 78), (1, .int p1), (2, .int (0 : Int32))]) d_M_notesOf_1 rfl (Nat.le_of_ble_eq_true rfl) rfl rfl ?_
  refine x_iconst d_M_notesOf_2 ic_0 ?_
  refine x_istore_n (L1 := [(0, .ref 78), (1, .int p1), (2, .int (0 : Int32)), (3, .int (0 : Int32))]) d_M_notesOf_3 rfl (Nat.le_of_ble_eq_true rfl) rfl rfl ?_
  refine T_M_notesOf_4 (by omega)   F (0 : Int32) (0 : Int32) _ h
/-! NinetyPlayersModel.given -/
def j_M_given_28 (F G : Nat) (S : St) (z1 : Int32) (rec : Int32 → Int32 → Option (Int32)) (_ : St) (y3 : Int32) (s0 : Int32) (s1 : Int32) : Option (Int32) :=
  bd (fM_truth F G S s1) fun v5 => lt (s0 ||| (v5 <<< (y3 &&& 31))) fun v6 => lt (y3 + 1) fun v8 => rec v6 v8
def b_M_given_4 (F G : Nat) (S : St) (z1 : Int32) (rec : Int32 → Int32 → Option (Int32)) (w2 : Int32) (w3 : Int32) : Option (Int32) :=
  if (S.1 78 48) ≤ w3 then some w2 else gd (inB w3 41) (if (S.1 101 w3.toNatClampNeg) = z1 then j_M_given_28 F G S z1 rec  S w3 w2 (1 : Int32) else j_M_given_28 F G S z1 rec  S w3 w2 (0 : Int32))
def fM_given (F G : Nat) (S : St) (p1 : Int32) : Option (Int32) :=
  fx2 (b_M_given_4 F G S p1) F (0 : Int32) (0 : Int32)
set_option maxRecDepth 100000 in
set_option maxHeartbeats 4000000 in
theorem T_M_given_4 {X : Nat × (Nat → Int32)} {D F G : Nat} (hD : 1 ≤ D + 1) {S : St} {z1 : Int32} : ∀ (f : Nat) (w2 : Int32) (w3 : Int32) (res : Int32), fx2 (b_M_given_4 F G S z1 ) f w2 w3 = some res → Ek X (D + 1) mM_given 4 [(0, .ref 78), (1, .int z1), (2, .int w2), (3, .int w3)] [] S (some (.int res)) S := by
  refine fx2_ind ?_
  intro rec ih w2 w3 res h
  unfold b_M_given_4 at h
  have J28 : ∀ (y3 : Int32) (s0 : Int32) (s1 : Int32) (res : Int32), j_M_given_28 F G S z1 rec S y3 s0 s1 = some res → Ek X (D + 1) mM_given 28 [(0, .ref 78), (1, .int z1), (3, .int y3)] [.int s1, .int s0] S (some (.int res)) S := by
    intro y3 s0 s1 res h
    unfold j_M_given_28 at h
    obtain ⟨v5, q4, h⟩ := bd_inv h
    refine y_S1i (v := v5) (S1 := S) d_M_given_28 ml_11_318 (Nat.le_of_ble_eq_true rfl) (Nat.le_of_ble_eq_true rfl) (c_M_truth (by omega) q4) ?_
    refine x_iload_n d_M_given_31 rfl 2 rfl ?_
    refine x_ishl d_M_given_32 ?_
    refine x_ior d_M_given_33 ?_
    obtain ⟨v6, e7, h⟩ := lt_inv h
    refine y_istore_n (L1 := [(0, .ref 78), (1, .int z1), (2, .int v6), (3, .int y3)]) e7 d_M_given_34 rfl (Nat.le_of_ble_eq_true rfl) rfl rfl ?_
    obtain ⟨v8, e9, h⟩ := lt_inv h
    refine y_iinc (L1 := [(0, .ref 78), (1, .int z1), (2, .int v6), (3, .int v8)]) e9 ic_1 d_M_given_35 3 rfl (Nat.le_of_ble_eq_true rfl) rfl rfl ?_
    refine x_goto (tgt := 4) d_M_given_38 rfl ?_
    exact ih v6 v8 _ h
  refine x_iload_n d_M_given_4 rfl 3 rfl ?_
  refine x_aload_n d_M_given_5 rfl 0 rfl ?_
  refine y_getI d_M_given_6 fl_11_322 rfl kd_78 ?_
  refine x_icmp_ge (tgt := 41) d_M_given_9 rfl (fun c1 => ?_) (fun c1 => ?_)
  · replace h := ite_t c1 h
    refine x_iload_n d_M_given_41 rfl 2 rfl ?_
    obtain rfl := Option.some.inj h
    exact x_ret (r := some (.int w2)) d_M_given_42 ⟨_, rfl, rfl⟩
  · replace h := ite_f c1 h
    refine x_iload_n d_M_given_12 rfl 2 rfl ?_
    refine x_aload_n d_M_given_13 rfl 0 rfl ?_
    refine y_getR d_M_given_14 fl_11_96 rfl kd_78 rr_78_59 ?_
    refine x_iload_n d_M_given_17 rfl 3 rfl ?_
    obtain ⟨g2, h⟩ := gd_inv h
    refine y_iald d_M_given_18 kd_101 g2 ?_
    refine x_iload_n d_M_given_19 rfl 1 rfl ?_
    refine x_icmp_ne (tgt := 27) d_M_given_20 rfl (fun c3 => ?_) (fun c3 => ?_)
    · replace h := ite_f c3 h
      refine x_iconst d_M_given_27 ic_0 ?_
      refine y_pick (L1 := [(0, .ref 78), (1, .int z1), (3, .int w3)]) [0, 1, 3] rfl ?_
      exact J28 w3 w2 (0 : Int32) _ h
    · replace h := ite_t c3 h
      refine x_iconst d_M_given_23 ic_1 ?_
      refine x_goto (tgt := 28) d_M_given_24 rfl ?_
      refine y_pick (L1 := [(0, .ref 78), (1, .int z1), (3, .int w3)]) [0, 1, 3] rfl ?_
      exact J28 w3 w2 (1 : Int32) _ h
set_option maxRecDepth 100000 in
set_option maxHeartbeats 4000000 in
theorem c_M_given {X : Nat × (Nat → Int32)} {D F G : Nat} (hD : 1 ≤ D) {S : St} {p1 : Int32} {res : Int32} (h : fM_given F G S p1 = some res) : Ek X (D) mM_given 0 [(0, .ref 78), (1, .int p1)] [] S (some (.int res)) S := by
  obtain ⟨D, rfl⟩ : ∃ E, D = E + 1 := ⟨D - 1, by omega⟩
  unfold fM_given at h
  refine x_iconst d_M_given_0 ic_0 ?_
  refine x_istore_n (L1 := [(0, .ref 78), (1, .int p1), (2, .int (0 : Int32))]) d_M_given_1 rfl (Nat.le_of_ble_eq_true rfl) rfl rfl ?_
  refine x_iconst d_M_given_2 ic_0 ?_
  refine x_istore_n (L1 := [(0, .ref 78), (1, .int p1), (2, .int (0 : Int32)), (3, .int (0 : Int32))]) d_M_given_3 rfl (Nat.le_of_ble_eq_true rfl) rfl rfl ?_
  refine T_M_given_4 (by omega)   F (0 : Int32) (0 : Int32) _ h
/-! NinetyPlayersModel.part -/
def fM_part (F G : Nat) (S : St) (p1 : Int32) (p2 : Int32) : Option (Int32 × St) :=
  bd (fM_isIn F G S p1 (0 : Int32) ((S.1 78 47) - (1 : Int32))) fun v2 => if v2 = 0 then some ((-1 : Int32), S) else bd (fM_fill F G S ) fun S5 => if p2 = 0 then gd (inB p1 4) (some (S5.1 94 p1.toNatClampNeg, S5)) else if p2 = (1 : Int32) then bd (fM_notesOf F G S5 p1) fun v14 => some (v14, S5) else if p2 = (2 : Int32) then bd (fM_notesOf F G S5 p1) fun v10 => bd (fM_given F G S5 (0 : Int32)) fun v12 => some (v10 &&& (v12 ^^^ (-1 : Int32)), S5) else some ((-1 : Int32), S5)
set_option maxRecDepth 100000 in
set_option maxHeartbeats 4000000 in
theorem c_M_part {X : Nat × (Nat → Int32)} {D F G : Nat} (hD : 2 ≤ D) {S : St} {p1 : Int32} {p2 : Int32} {res : Int32 × St} (h : fM_part F G S p1 p2 = some res) : Ek X (D) mM_part 0 [(0, .ref 78), (1, .int p1), (2, .int p2)] [] S (some (.int res.1)) res.2 := by
  obtain ⟨D, rfl⟩ : ∃ E, D = E + 1 := ⟨D - 1, by omega⟩
  unfold fM_part at h
  refine x_iload_n d_M_part_0 rfl 1 rfl ?_
  refine x_iconst d_M_part_1 ic_0 ?_
  refine x_aload_n d_M_part_2 rfl 0 rfl ?_
  refine y_getI d_M_part_3 fl_11_405 rfl kd_78 ?_
  refine x_iconst d_M_part_6 ic_1 ?_
  refine x_isub d_M_part_7 ?_
  obtain ⟨v2, q1, h⟩ := bd_inv h
  refine y_S3i (v := v2) (S1 := S) d_M_part_8 ml_11_429 (Nat.le_of_ble_eq_true rfl) (Nat.le_of_ble_eq_true rfl) (c_M_isIn (by omega) q1) ?_
  refine x_if_ne (tgt := 16) d_M_part_11 rfl (fun c3 => ?_) (fun c3 => ?_)
  · replace h := ite_f c3 h
    refine x_aload_n d_M_part_16 rfl 0 rfl ?_
    obtain ⟨S5, q4, h⟩ := bd_inv h
    refine y_V0v (S1 := S5) d_M_part_17 ml_11_464 kd_78 rfl (Nat.le_of_ble_eq_true rfl) (Nat.le_of_ble_eq_true rfl) (c_M_fill (by omega) q4) ?_
    refine x_iload_n d_M_part_20 rfl 2 rfl ?_
    refine x_if_ne (tgt := 33) d_M_part_21 rfl (fun c6 => ?_) (fun c6 => ?_)
    · replace h := ite_f c6 h
      refine x_iload_n d_M_part_33 rfl 2 rfl ?_
      refine x_iconst d_M_part_34 ic_1 ?_
      refine x_icmp_ne (tgt := 46) d_M_part_35 rfl (fun c7 => ?_) (fun c7 => ?_)
      · replace h := ite_f c7 h
        refine x_iload_n d_M_part_46 rfl 2 rfl ?_
        refine x_iconst d_M_part_47 ic_2 ?_
        refine x_icmp_ne (tgt := 67) d_M_part_48 rfl (fun c8 => ?_) (fun c8 => ?_)
        · replace h := ite_f c8 h
          refine x_iconst d_M_part_67 ic_m1 ?_
          obtain rfl := Option.some.inj h
          exact x_ret (r := some (.int (-1 : Int32))) d_M_part_68 ⟨_, rfl, rfl⟩
        · replace h := ite_t c8 h
          refine x_aload_n d_M_part_51 rfl 0 rfl ?_
          refine x_iload_n d_M_part_52 rfl 1 rfl ?_
          obtain ⟨v10, q9, h⟩ := bd_inv h
          refine y_V1i (v := v10) (S1 := S5) d_M_part_53 ml_11_470 kd_78 rfl (Nat.le_of_ble_eq_true rfl) (Nat.le_of_ble_eq_true rfl) (c_M_notesOf (by omega) q9) ?_
          refine x_aload_n d_M_part_56 rfl 0 rfl ?_
          refine x_iconst d_M_part_57 ic_0 ?_
          obtain ⟨v12, q11, h⟩ := bd_inv h
          refine y_V1i (v := v12) (S1 := S5) d_M_part_58 ml_11_454 kd_78 rfl (Nat.le_of_ble_eq_true rfl) (Nat.le_of_ble_eq_true rfl) (c_M_given (by omega) q11) ?_
          refine x_iconst d_M_part_61 ic_m1 ?_
          refine x_ixor d_M_part_62 ?_
          refine x_iand d_M_part_63 ?_
          refine x_goto (tgt := 68) d_M_part_64 rfl ?_
          obtain rfl := Option.some.inj h
          exact x_ret (r := some (.int (v10 &&& (v12 ^^^ (-1 : Int32))))) d_M_part_68 ⟨_, rfl, rfl⟩
      · replace h := ite_t c7 h
        refine x_aload_n d_M_part_38 rfl 0 rfl ?_
        refine x_iload_n d_M_part_39 rfl 1 rfl ?_
        obtain ⟨v14, q13, h⟩ := bd_inv h
        refine y_V1i (v := v14) (S1 := S5) d_M_part_40 ml_11_470 kd_78 rfl (Nat.le_of_ble_eq_true rfl) (Nat.le_of_ble_eq_true rfl) (c_M_notesOf (by omega) q13) ?_
        refine x_goto (tgt := 68) d_M_part_43 rfl ?_
        obtain rfl := Option.some.inj h
        exact x_ret (r := some (.int v14)) d_M_part_68 ⟨_, rfl, rfl⟩
    · replace h := ite_t c6 h
      refine x_aload_n d_M_part_24 rfl 0 rfl ?_
      refine y_getR d_M_part_25 fl_11_60 rfl kd_78 rr_78_33 ?_
      refine x_iload_n d_M_part_28 rfl 1 rfl ?_
      obtain ⟨g15, h⟩ := gd_inv h
      refine y_iald d_M_part_29 kd_94 g15 ?_
      refine x_goto (tgt := 68) d_M_part_30 rfl ?_
      obtain rfl := Option.some.inj h
      exact x_ret (r := some (.int (S5.1 94 p1.toNatClampNeg))) d_M_part_68 ⟨_, rfl, rfl⟩
  · replace h := ite_t c3 h
    refine x_iconst d_M_part_14 ic_m1 ?_
    obtain rfl := Option.some.inj h
    exact x_ret (r := some (.int (-1 : Int32))) d_M_part_15 ⟨_, rfl, rfl⟩
/-! NinetyPlayers.isBeat -/
def fN_isBeat (F G : Nat) (S : St) (p1 : Int32) : Option (Int32) :=
  if p1 < 0 then some (0 : Int32) else gd (isSc S.2.2.1) (if (S.1 S.2.2.1 0) ≤ p1 then some (0 : Int32) else some (1 : Int32))
set_option maxRecDepth 100000 in
set_option maxHeartbeats 4000000 in
theorem c_N_isBeat {X : Nat × (Nat → Int32)} {D F G : Nat} (hD : 0 ≤ D) {S : St} {p1 : Int32} {res : Int32} (h : fN_isBeat F G S p1 = some res) : Ek X (D) mN_isBeat 0 [(0, .ref 0), (1, .int p1)] [] S (some (.int res)) S := by
  unfold fN_isBeat at h
  refine x_iload_n d_N_isBeat_0 rfl 1 rfl ?_
  refine x_if_lt (tgt := 19) d_N_isBeat_1 rfl (fun c1 => ?_) (fun c1 => ?_)
  · replace h := ite_t c1 h
    refine x_iconst d_N_isBeat_19 ic_0 ?_
    obtain rfl := Option.some.inj h
    exact x_ret (r := some (.int (0 : Int32))) d_N_isBeat_20 ⟨_, rfl, rfl⟩
  · replace h := ite_f c1 h
    refine x_iload_n d_N_isBeat_4 rfl 1 rfl ?_
    refine x_aload_n d_N_isBeat_5 rfl 0 rfl ?_
    refine y_getR d_N_isBeat_6 fl_0_25 rfl kd_0 rr_told ?_
    obtain ⟨g2, h⟩ := gd_inv h
    refine y_getI d_N_isBeat_9 fl_0_193 rfl (ksSc g2) ?_
    refine x_icmp_ge (tgt := 19) d_N_isBeat_12 rfl (fun c3 => ?_) (fun c3 => ?_)
    · replace h := ite_t c3 h
      refine x_iconst d_N_isBeat_19 ic_0 ?_
      obtain rfl := Option.some.inj h
      exact x_ret (r := some (.int (0 : Int32))) d_N_isBeat_20 ⟨_, rfl, rfl⟩
    · replace h := ite_f c3 h
      refine x_iconst d_N_isBeat_15 ic_1 ?_
      refine x_goto (tgt := 20) d_N_isBeat_16 rfl ?_
      obtain rfl := Option.some.inj h
      exact x_ret (r := some (.int (1 : Int32))) d_N_isBeat_20 ⟨_, rfl, rfl⟩
/-! NinetyPlayers.isHand -/
def fN_isHand (F G : Nat) (S : St) (p1 : Int32) : Option (Int32) :=
  if p1 = (1 : Int32) then some (1 : Int32) else if p1 = (2 : Int32) then some (1 : Int32) else some (0 : Int32)
set_option maxRecDepth 100000 in
set_option maxHeartbeats 4000000 in
theorem c_N_isHand {X : Nat × (Nat → Int32)} {D F G : Nat} (hD : 0 ≤ D) {S : St} {p1 : Int32} {res : Int32} (h : fN_isHand F G S p1 = some res) : Ek X (D) mN_isHand 0 [(0, .int p1)] [] S (some (.int res)) S := by
  unfold fN_isHand at h
  refine x_iload_n d_N_isHand_0 rfl 0 rfl ?_
  refine x_iconst d_N_isHand_1 ic_1 ?_
  refine x_icmp_eq (tgt := 10) d_N_isHand_2 rfl (fun c1 => ?_) (fun c1 => ?_)
  · replace h := ite_t c1 h
    refine x_iconst d_N_isHand_10 ic_1 ?_
    refine x_goto (tgt := 15) d_N_isHand_11 rfl ?_
    obtain rfl := Option.some.inj h
    exact x_ret (r := some (.int (1 : Int32))) d_N_isHand_15 ⟨_, rfl, rfl⟩
  · replace h := ite_f c1 h
    refine x_iload_n d_N_isHand_5 rfl 0 rfl ?_
    refine x_iconst d_N_isHand_6 ic_2 ?_
    refine x_icmp_ne (tgt := 14) d_N_isHand_7 rfl (fun c2 => ?_) (fun c2 => ?_)
    · replace h := ite_f c2 h
      refine x_iconst d_N_isHand_14 ic_0 ?_
      obtain rfl := Option.some.inj h
      exact x_ret (r := some (.int (0 : Int32))) d_N_isHand_15 ⟨_, rfl, rfl⟩
    · replace h := ite_t c2 h
      refine x_iconst d_N_isHand_10 ic_1 ?_
      refine x_goto (tgt := 15) d_N_isHand_11 rfl ?_
      obtain rfl := Option.some.inj h
      exact x_ret (r := some (.int (1 : Int32))) d_N_isHand_15 ⟨_, rfl, rfl⟩
/-! NinetyPlayers$Keyboard.hasPedal -/
def fK_hasPedal (F G : Nat) (S : St) (p1 : Int32) : Option (Int32) :=
  if (((S.1 56 7) >>> (p1 &&& 31)) &&& (1 : Int32)) = 0 then some (0 : Int32) else some (1 : Int32)
set_option maxRecDepth 100000 in
set_option maxHeartbeats 4000000 in
theorem c_K_hasPedal {X : Nat × (Nat → Int32)} {D F G : Nat} (hD : 0 ≤ D) {S : St} {p1 : Int32} {res : Int32} (h : fK_hasPedal F G S p1 = some res) : Ek X (D) mK_hasPedal 0 [(0, .ref 56), (1, .int p1)] [] S (some (.int res)) S := by
  unfold fK_hasPedal at h
  refine x_aload_n d_K_hasPedal_0 rfl 0 rfl ?_
  refine y_getI d_K_hasPedal_1 fl_7_62 rfl kd_56 ?_
  refine x_iload_n d_K_hasPedal_4 rfl 1 rfl ?_
  refine x_ishr d_K_hasPedal_5 ?_
  refine x_iconst d_K_hasPedal_6 ic_1 ?_
  refine x_iand d_K_hasPedal_7 ?_
  refine x_if_eq (tgt := 15) d_K_hasPedal_8 rfl (fun c1 => ?_) (fun c1 => ?_)
  · replace h := ite_t c1 h
    refine x_iconst d_K_hasPedal_15 ic_0 ?_
    obtain rfl := Option.some.inj h
    exact x_ret (r := some (.int (0 : Int32))) d_K_hasPedal_16 ⟨_, rfl, rfl⟩
  · replace h := ite_f c1 h
    refine x_iconst d_K_hasPedal_11 ic_1 ?_
    refine x_goto (tgt := 16) d_K_hasPedal_12 rfl ?_
    obtain rfl := Option.some.inj h
    exact x_ret (r := some (.int (1 : Int32))) d_K_hasPedal_16 ⟨_, rfl, rfl⟩
/-! NinetyPlayers$Keyboard.timelySince -/
def b_K_timelySince_5 (F G : Nat) (S : St) (z1 : Int32) (z2 : Int32) (rec : Int32 → Int32 → Option (Int32)) (w3 : Int32) (w4 : Int32) : Option (Int32) :=
  if (S.1 56 1) ≤ w4 then some w3 else gd (inB w4 10) (lt (S.1 58 w4.toNatClampNeg) fun v3 => if v3 < z1 then lt (w4 + 1) fun v6 => rec w3 v6 else if z2 < v3 then lt (w4 + 1) fun v9 => rec w3 v9 else gd (inB w4 10) (if (v3 + (S.1 59 w4.toNatClampNeg)) ≤ z2 then lt (w4 + 1) fun v13 => rec w3 v13 else lt (w3 ||| ((1 : Int32) <<< (w4 &&& 31))) fun v15 => lt (w4 + 1) fun v17 => rec v15 v17))
def fK_timelySince (F G : Nat) (S : St) (p1 : Int32) (p2 : Int32) : Option (Int32) :=
  fx2 (b_K_timelySince_5 F G S p1 p2) F (0 : Int32) (0 : Int32)
set_option maxRecDepth 100000 in
set_option maxHeartbeats 4000000 in
theorem T_K_timelySince_5 {X : Nat × (Nat → Int32)} {D F G : Nat} (hD : 0 ≤ D) {S : St} {z1 : Int32} {z2 : Int32} : ∀ (f : Nat) (w3 : Int32) (w4 : Int32) (res : Int32), fx2 (b_K_timelySince_5 F G S z1 z2 ) f w3 w4 = some res → Ek X (D) mK_timelySince 5 [(0, .ref 56), (1, .int z1), (2, .int z2), (3, .int w3), (4, .int w4)] [] S (some (.int res)) S := by
  refine fx2_ind ?_
  intro rec ih w3 w4 res h
  unfold b_K_timelySince_5 at h
  refine x_iload d_K_timelySince_5 4 rfl ?_
  refine x_aload_n d_K_timelySince_7 rfl 0 rfl ?_
  refine y_getI d_K_timelySince_8 fl_7_34 rfl kd_56 ?_
  refine x_icmp_ge (tgt := 62) d_K_timelySince_11 rfl (fun c1 => ?_) (fun c1 => ?_)
  · replace h := ite_t c1 h
    refine x_iload_n d_K_timelySince_62 rfl 3 rfl ?_
    obtain rfl := Option.some.inj h
    exact x_ret (r := some (.int w3)) d_K_timelySince_63 ⟨_, rfl, rfl⟩
  · replace h := ite_f c1 h
    refine x_aload_n d_K_timelySince_14 rfl 0 rfl ?_
    refine y_getR d_K_timelySince_15 fl_7_15 rfl kd_56 rr_56_9 ?_
    refine x_iload d_K_timelySince_18 4 rfl ?_
    obtain ⟨g2, h⟩ := gd_inv h
    refine y_iald d_K_timelySince_20 kd_58 g2 ?_
    obtain ⟨v3, e4, h⟩ := lt_inv h
    refine y_istore (L1 := [(0, .ref 56), (1, .int z1), (2, .int z2), (3, .int w3), (4, .int w4), (5, .int v3)]) e4 d_K_timelySince_21 (Nat.le_of_ble_eq_true rfl) rfl rfl ?_
    refine x_iload d_K_timelySince_23 5 rfl ?_
    refine x_iload_n d_K_timelySince_25 rfl 1 rfl ?_
    refine x_icmp_lt (tgt := 56) d_K_timelySince_26 rfl (fun c5 => ?_) (fun c5 => ?_)
    · replace h := ite_t c5 h
      obtain ⟨v6, e7, h⟩ := lt_inv h
      refine y_iinc (L1 := [(0, .ref 56), (1, .int z1), (2, .int z2), (3, .int w3), (4, .int v6), (5, .int v3)]) e7 ic_1 d_K_timelySince_56 4 rfl (Nat.le_of_ble_eq_true rfl) rfl rfl ?_
      refine x_goto (tgt := 5) d_K_timelySince_59 rfl ?_
      refine y_pick (L1 := [(0, .ref 56), (1, .int z1), (2, .int z2), (3, .int w3), (4, .int v6)]) [0, 1, 2, 3, 4] rfl ?_
      exact ih w3 v6 _ h
    · replace h := ite_f c5 h
      refine x_iload d_K_timelySince_29 5 rfl ?_
      refine x_iload_n d_K_timelySince_31 rfl 2 rfl ?_
      refine x_icmp_gt (tgt := 56) d_K_timelySince_32 rfl (fun c8 => ?_) (fun c8 => ?_)
      · replace h := ite_t c8 h
        obtain ⟨v9, e10, h⟩ := lt_inv h
        refine y_iinc (L1 := [(0, .ref 56), (1, .int z1), (2, .int z2), (3, .int w3), (4, .int v9), (5, .int v3)]) e10 ic_1 d_K_timelySince_56 4 rfl (Nat.le_of_ble_eq_true rfl) rfl rfl ?_
        refine x_goto (tgt := 5) d_K_timelySince_59 rfl ?_
        refine y_pick (L1 := [(0, .ref 56), (1, .int z1), (2, .int z2), (3, .int w3), (4, .int v9)]) [0, 1, 2, 3, 4] rfl ?_
        exact ih w3 v9 _ h
      · replace h := ite_f c8 h
        refine x_iload_n d_K_timelySince_35 rfl 2 rfl ?_
        refine x_iload d_K_timelySince_36 5 rfl ?_
        refine x_aload_n d_K_timelySince_38 rfl 0 rfl ?_
        refine y_getR d_K_timelySince_39 fl_7_18 rfl kd_56 rr_56_10 ?_
        refine x_iload d_K_timelySince_42 4 rfl ?_
        obtain ⟨g11, h⟩ := gd_inv h
        refine y_iald d_K_timelySince_44 kd_59 g11 ?_
        refine x_iadd d_K_timelySince_45 ?_
        refine x_icmp_ge (tgt := 56) d_K_timelySince_46 rfl (fun c12 => ?_) (fun c12 => ?_)
        · replace h := ite_t c12 h
          obtain ⟨v13, e14, h⟩ := lt_inv h
          refine y_iinc (L1 := [(0, .ref 56), (1, .int z1), (2, .int z2), (3, .int w3), (4, .int v13), (5, .int v3)]) e14 ic_1 d_K_timelySince_56 4 rfl (Nat.le_of_ble_eq_true rfl) rfl rfl ?_
          refine x_goto (tgt := 5) d_K_timelySince_59 rfl ?_
          refine y_pick (L1 := [(0, .ref 56), (1, .int z1), (2, .int z2), (3, .int w3), (4, .int v13)]) [0, 1, 2, 3, 4] rfl ?_
          exact ih w3 v13 _ h
        · replace h := ite_f c12 h
          refine x_iload_n d_K_timelySince_49 rfl 3 rfl ?_
          refine x_iconst d_K_timelySince_50 ic_1 ?_
          refine x_iload d_K_timelySince_51 4 rfl ?_
          refine x_ishl d_K_timelySince_53 ?_
          refine x_ior d_K_timelySince_54 ?_
          obtain ⟨v15, e16, h⟩ := lt_inv h
          refine y_istore_n (L1 := [(0, .ref 56), (1, .int z1), (2, .int z2), (3, .int v15), (4, .int w4), (5, .int v3)]) e16 d_K_timelySince_55 rfl (Nat.le_of_ble_eq_true rfl) rfl rfl ?_
          obtain ⟨v17, e18, h⟩ := lt_inv h
          refine y_iinc (L1 := [(0, .ref 56), (1, .int z1), (2, .int z2), (3, .int v15), (4, .int v17), (5, .int v3)]) e18 ic_1 d_K_timelySince_56 4 rfl (Nat.le_of_ble_eq_true rfl) rfl rfl ?_
          refine x_goto (tgt := 5) d_K_timelySince_59 rfl ?_
          refine y_pick (L1 := [(0, .ref 56), (1, .int z1), (2, .int z2), (3, .int v15), (4, .int v17)]) [0, 1, 2, 3, 4] rfl ?_
          exact ih v15 v17 _ h
set_option maxRecDepth 100000 in
set_option maxHeartbeats 4000000 in
theorem c_K_timelySince {X : Nat × (Nat → Int32)} {D F G : Nat} (hD : 0 ≤ D) {S : St} {p1 : Int32} {p2 : Int32} {res : Int32} (h : fK_timelySince F G S p1 p2 = some res) : Ek X (D) mK_timelySince 0 [(0, .ref 56), (1, .int p1), (2, .int p2)] [] S (some (.int res)) S := by
  unfold fK_timelySince at h
  refine x_iconst d_K_timelySince_0 ic_0 ?_
  refine x_istore_n (L1 := [(0, .ref 56), (1, .int p1), (2, .int p2), (3, .int (0 : Int32))]) d_K_timelySince_1 rfl (Nat.le_of_ble_eq_true rfl) rfl rfl ?_
  refine x_iconst d_K_timelySince_2 ic_0 ?_
  refine x_istore (L1 := [(0, .ref 56), (1, .int p1), (2, .int p2), (3, .int (0 : Int32)), (4, .int (0 : Int32))]) d_K_timelySince_3 (Nat.le_of_ble_eq_true rfl) rfl rfl ?_
  refine T_K_timelySince_5 (by omega)   F (0 : Int32) (0 : Int32) _ h
/-! NinetyPlayers$Keyboard.lay -/
def b_K_lay_68 (F G : Nat) (z1 : Nat) (z2 : Nat) (k118 : St → Option (St)) (rec : Int32 → St → Option (St)) (w3 : Int32) (S : St) : Option (St) :=
  if (S.1 56 1) ≤ w3 then k118 S else gd (inB w3 10) (gd (inB w3 10) (lt (sI S 57 w3.toNatClampNeg (S.1 (z2 + 2) w3.toNatClampNeg)) fun S24 => gd (inB w3 10) (gd (inB w3 10) (lt (sI S24 58 w3.toNatClampNeg (S24.1 (z1 + 5) w3.toNatClampNeg)) fun S28 => gd (inB w3 10) (gd (inB w3 10) (lt (sI S28 59 w3.toNatClampNeg (S28.1 (z2 + 3) w3.toNatClampNeg)) fun S32 => lt (w3 + 1) fun v34 => rec v34 S32))))))
def j_K_lay_147 (F G : Nat) (rec : Int32 → Int32 → St → Option (St)) (S : St) (y4 : Int32) (s0 : Int32) : Option (St) :=
  bd (fK_timelySince F G S s0 y4) fun v42 => gd (inB y4 12) (lt (sI S 60 y4.toNatClampNeg v42) fun S44 => lt (y4 + 1) fun v46 => rec s0 v46 S44)
def b_K_lay_123 (F G : Nat) (rec : Int32 → Int32 → St → Option (St)) (w3 : Int32) (w4 : Int32) (S : St) : Option (St) :=
  if (S.1 56 0) ≤ w4 then some S else bd (fK_hasPedal F G S w4) fun v39 => if v39 = 0 then j_K_lay_147 F G rec  S w4 w3 else j_K_lay_147 F G rec  S w4 w4
def fK_lay (F G : Nat) (S : St) (o2 : Nat) (o3 : Nat) : Option (St) :=
  gd (isSc o2) (gd (isLa o3) (lt (sI S 56 0 (S.1 o2 0)) fun S1 => lt (sI S1 56 1 (S1.1 o2 6)) fun S3 => lt (sI S3 56 2 (S3.1 o2 1)) fun S5 => lt (sI S5 56 3 (S5.1 o2 2)) fun S7 => lt (sI S7 56 4 (S7.1 o2 3)) fun S9 => bd (fL_setOf F G S9 o3 (1 : Int32)) fun v12 => lt (sI S9 56 5 v12) fun S13 => bd (fL_setOf F G S13 o3 (2 : Int32)) fun v16 => lt (sI S13 56 6 v16) fun S17 => lt (sI S17 56 7 (S17.1 o3 1)) fun S19 => fx2 (b_K_lay_68 F G o2 o3 (fun S36 => fx3 (b_K_lay_123 F G ) F (0 : Int32) (0 : Int32) S36)) F (0 : Int32) S19))
set_option maxRecDepth 100000 in
set_option maxHeartbeats 4000000 in
theorem T_K_lay_68 {X : Nat × (Nat → Int32)} {D F G : Nat} (hD : 1 ≤ D + 1) {z1 : Nat} {z2 : Nat} (hz1 : isSc z1 = true) (hz2 : isLa z2 = true) {k118 : St → Option (St)} (hk118 : ∀ (S1 : St) (res : St), k118 S1 = some res → Ek X (D + 1) mK_lay 118 [(0, .ref 56)] [] S1 none res) : ∀ (f : Nat) (w3 : Int32) (S : St) (res : St), fx2 (b_K_lay_68 F G z1 z2 k118 ) f w3 S = some res → Ek X (D + 1) mK_lay 68 [(0, .ref 56), (1, .ref z1), (2, .ref z2), (3, .int w3)] [] S none res := by
  refine fx2_ind ?_
  intro rec ih w3 S res h
  unfold b_K_lay_68 at h
  refine x_iload_n d_K_lay_68 rfl 3 rfl ?_
  refine x_aload_n d_K_lay_69 rfl 0 rfl ?_
  refine y_getI d_K_lay_70 fl_7_34 rfl kd_56 ?_
  refine x_icmp_ge (tgt := 118) d_K_lay_73 rfl (fun c21 => ?_) (fun c21 => ?_)
  · replace h := ite_t c21 h
    refine y_pick (L1 := [(0, .ref 56)]) [0] rfl ?_
    exact hk118 S _ h
  · replace h := ite_f c21 h
    refine x_aload_n d_K_lay_76 rfl 0 rfl ?_
    refine y_getR d_K_lay_77 fl_7_9 rfl kd_56 rr_56_8 ?_
    refine x_iload_n d_K_lay_80 rfl 3 rfl ?_
    refine x_aload_n d_K_lay_81 rfl 2 rfl ?_
    refine y_getR d_K_lay_82 fl_7_63 rfl (ksLa hz2) (rrLa_3 hz2) ?_
    refine x_iload_n d_K_lay_85 rfl 3 rfl ?_
    obtain ⟨g22, h⟩ := gd_inv h
    refine y_iald d_K_lay_86 (ksLa_2 hz2) g22 ?_
    obtain ⟨g23, h⟩ := gd_inv h
    obtain ⟨S24, e25, h⟩ := lt_inv h
    refine y_iast e25 d_K_lay_87 kd_57 g23 ?_
    refine x_aload_n d_K_lay_88 rfl 0 rfl ?_
    refine y_getR d_K_lay_89 fl_7_15 rfl kd_56 rr_56_9 ?_
    refine x_iload_n d_K_lay_92 rfl 3 rfl ?_
    refine x_aload_n d_K_lay_93 rfl 1 rfl ?_
    refine y_getR d_K_lay_94 fl_7_64 rfl (ksSc hz1) (rrSc_11 hz1) ?_
    refine x_iload_n d_K_lay_97 rfl 3 rfl ?_
    obtain ⟨g26, h⟩ := gd_inv h
    refine y_iald d_K_lay_98 (ksSc_5 hz1) g26 ?_
    obtain ⟨g27, h⟩ := gd_inv h
    obtain ⟨S28, e29, h⟩ := lt_inv h
    refine y_iast e29 d_K_lay_99 kd_58 g27 ?_
    refine x_aload_n d_K_lay_100 rfl 0 rfl ?_
    refine y_getR d_K_lay_101 fl_7_18 rfl kd_56 rr_56_10 ?_
    refine x_iload_n d_K_lay_104 rfl 3 rfl ?_
    refine x_aload_n d_K_lay_105 rfl 2 rfl ?_
    refine y_getR d_K_lay_106 fl_7_65 rfl (ksLa hz2) (rrLa_4 hz2) ?_
    refine x_iload_n d_K_lay_109 rfl 3 rfl ?_
    obtain ⟨g30, h⟩ := gd_inv h
    refine y_iald d_K_lay_110 (ksLa_3 hz2) g30 ?_
    obtain ⟨g31, h⟩ := gd_inv h
    obtain ⟨S32, e33, h⟩ := lt_inv h
    refine y_iast e33 d_K_lay_111 kd_59 g31 ?_
    obtain ⟨v34, e35, h⟩ := lt_inv h
    refine y_iinc (L1 := [(0, .ref 56), (1, .ref z1), (2, .ref z2), (3, .int v34)]) e35 ic_1 d_K_lay_112 3 rfl (Nat.le_of_ble_eq_true rfl) rfl rfl ?_
    refine x_goto (tgt := 68) d_K_lay_115 rfl ?_
    exact ih v34 S32 _ h
set_option maxRecDepth 100000 in
set_option maxHeartbeats 4000000 in
theorem T_K_lay_123 {X : Nat × (Nat → Int32)} {D F G : Nat} (hD : 1 ≤ D + 1) : ∀ (f : Nat) (w3 : Int32) (w4 : Int32) (S : St) (res : St), fx3 (b_K_lay_123 F G ) f w3 w4 S = some res → Ek X (D + 1) mK_lay 123 [(0, .ref 56), (3, .int w3), (4, .int w4)] [] S none res := by
  refine fx3_ind ?_
  intro rec ih w3 w4 S res h
  unfold b_K_lay_123 at h
  have J147 : ∀ (S : St) (y4 : Int32) (s0 : Int32) (res : St), j_K_lay_147 F G rec S y4 s0 = some res → Ek X (D + 1) mK_lay 147 [(0, .ref 56), (4, .int y4)] [.int s0] S none res := by
    intro S y4 s0 res h
    unfold j_K_lay_147 at h
    refine x_istore_n (L1 := [(0, .ref 56), (3, .int s0), (4, .int y4)]) d_K_lay_147 rfl (Nat.le_of_ble_eq_true rfl) rfl rfl ?_
    refine x_aload_n d_K_lay_148 rfl 0 rfl ?_
    refine y_getR d_K_lay_149 fl_7_21 rfl kd_56 rr_56_11 ?_
    refine x_iload d_K_lay_152 2 rfl ?_
    refine x_aload_n d_K_lay_154 rfl 0 rfl ?_
    refine x_iload_n d_K_lay_155 rfl 1 rfl ?_
    refine x_iload d_K_lay_156 2 rfl ?_
    obtain ⟨v42, q41, h⟩ := bd_inv h
    refine y_V2i (v := v42) (S1 := S) d_K_lay_158 ml_7_70 kd_56 rfl (Nat.le_of_ble_eq_true rfl) (Nat.le_of_ble_eq_true rfl) (c_K_timelySince (by omega) q41) ?_
    obtain ⟨g43, h⟩ := gd_inv h
    obtain ⟨S44, e45, h⟩ := lt_inv h
    refine y_iast e45 d_K_lay_161 kd_60 g43 ?_
    obtain ⟨v46, e47, h⟩ := lt_inv h
    refine y_iinc (L1 := [(0, .ref 56), (3, .int s0), (4, .int v46)]) e47 ic_1 d_K_lay_162 2 rfl (Nat.le_of_ble_eq_true rfl) rfl rfl ?_
    refine x_goto (tgt := 123) d_K_lay_165 rfl ?_
    exact ih s0 v46 S44 _ h
  refine x_iload d_K_lay_123 2 rfl ?_
  refine x_aload_n d_K_lay_125 rfl 0 rfl ?_
  refine y_getI d_K_lay_126 fl_7_30 rfl kd_56 ?_
  refine x_icmp_ge (tgt := 168) d_K_lay_129 rfl (fun c37 => ?_) (fun c37 => ?_)
  · replace h := ite_t c37 h
    obtain rfl := Option.some.inj h
    exact x_ret (r := none) d_K_lay_168 rfl
  · replace h := ite_f c37 h
    refine x_aload_n d_K_lay_132 rfl 0 rfl ?_
    refine x_iload d_K_lay_133 2 rfl ?_
    obtain ⟨v39, q38, h⟩ := bd_inv h
    refine y_V1i (v := v39) (S1 := S) d_K_lay_135 ml_7_66 kd_56 rfl (Nat.le_of_ble_eq_true rfl) (Nat.le_of_ble_eq_true rfl) (c_K_hasPedal (by omega) q38) ?_
    refine x_if_eq (tgt := 146) d_K_lay_138 rfl (fun c40 => ?_) (fun c40 => ?_)
    · replace h := ite_t c40 h
      refine x_iload_n d_K_lay_146 rfl 1 rfl ?_
      refine y_pick (L1 := [(0, .ref 56), (4, .int w4)]) [0, 2] rfl ?_
      exact J147 S w4 w3 _ h
    · replace h := ite_f c40 h
      refine x_iload d_K_lay_141 2 rfl ?_
      refine x_goto (tgt := 147) d_K_lay_143 rfl ?_
      refine y_pick (L1 := [(0, .ref 56), (4, .int w4)]) [0, 2] rfl ?_
      exact J147 S w4 w4 _ h
set_option maxRecDepth 100000 in
set_option maxHeartbeats 4000000 in
theorem c_K_lay {X : Nat × (Nat → Int32)} {D F G : Nat} (hD : 1 ≤ D) {S : St} {o2 : Nat} {o3 : Nat} {res : St} (h : fK_lay F G S o2 o3 = some res) : Ek X (D) mK_lay 0 [(0, .ref 56), (1, .ref o2), (2, .ref o3)] [] S none res := by
  obtain ⟨D, rfl⟩ : ∃ E, D = E + 1 := ⟨D - 1, by omega⟩
  unfold fK_lay at h
  obtain ⟨gg0, h⟩ := gd_inv h
  obtain ⟨gg1, h⟩ := gd_inv h
  refine x_aload_n d_K_lay_0 rfl 0 rfl ?_
  refine x_aload_n d_K_lay_1 rfl 1 rfl ?_
  refine y_getI d_K_lay_2 fl_7_24 rfl (ksSc gg0) ?_
  obtain ⟨S1, e2, h⟩ := lt_inv h
  refine y_putI e2 d_K_lay_5 fl_7_30 rfl rfl kd_56 rfl rfl ?_
  refine x_aload_n d_K_lay_8 rfl 0 rfl ?_
  refine x_aload_n d_K_lay_9 rfl 1 rfl ?_
  refine y_getI d_K_lay_10 fl_7_31 rfl (ksSc gg0) ?_
  obtain ⟨S3, e4, h⟩ := lt_inv h
  refine y_putI e4 d_K_lay_13 fl_7_34 rfl rfl kd_56 rfl rfl ?_
  refine x_aload_n d_K_lay_16 rfl 0 rfl ?_
  refine x_aload_n d_K_lay_17 rfl 1 rfl ?_
  refine y_getI d_K_lay_18 fl_7_35 rfl (ksSc gg0) ?_
  obtain ⟨S5, e6, h⟩ := lt_inv h
  refine y_putI e6 d_K_lay_21 fl_7_38 rfl rfl kd_56 rfl rfl ?_
  refine x_aload_n d_K_lay_24 rfl 0 rfl ?_
  refine x_aload_n d_K_lay_25 rfl 1 rfl ?_
  refine y_getI d_K_lay_26 fl_7_39 rfl (ksSc gg0) ?_
  obtain ⟨S7, e8, h⟩ := lt_inv h
  refine y_putI e8 d_K_lay_29 fl_7_42 rfl rfl kd_56 rfl rfl ?_
  refine x_aload_n d_K_lay_32 rfl 0 rfl ?_
  refine x_aload_n d_K_lay_33 rfl 1 rfl ?_
  refine y_getI d_K_lay_34 fl_7_43 rfl (ksSc gg0) ?_
  obtain ⟨S9, e10, h⟩ := lt_inv h
  refine y_putI e10 d_K_lay_37 fl_7_46 rfl rfl kd_56 rfl rfl ?_
  refine x_aload_n d_K_lay_40 rfl 0 rfl ?_
  refine x_aload_n d_K_lay_41 rfl 2 rfl ?_
  refine x_iconst d_K_lay_42 ic_1 ?_
  obtain ⟨v12, q11, h⟩ := bd_inv h
  refine y_V1i (v := v12) (S1 := S9) d_K_lay_43 ml_7_47 (ksLa gg1) rfl (Nat.le_of_ble_eq_true rfl) (Nat.le_of_ble_eq_true rfl) (c_L_setOf (by omega) q11) ?_
  obtain ⟨S13, e14, h⟩ := lt_inv h
  refine y_putI e14 d_K_lay_46 fl_7_53 rfl rfl kd_56 rfl rfl ?_
  refine x_aload_n d_K_lay_49 rfl 0 rfl ?_
  refine x_aload_n d_K_lay_50 rfl 2 rfl ?_
  refine x_iconst d_K_lay_51 ic_2 ?_
  obtain ⟨v16, q15, h⟩ := bd_inv h
  refine y_V1i (v := v16) (S1 := S13) d_K_lay_52 ml_7_47 (ksLa gg1) rfl (Nat.le_of_ble_eq_true rfl) (Nat.le_of_ble_eq_true rfl) (c_L_setOf (by omega) q15) ?_
  obtain ⟨S17, e18, h⟩ := lt_inv h
  refine y_putI e18 d_K_lay_55 fl_7_56 rfl rfl kd_56 rfl rfl ?_
  refine x_aload_n d_K_lay_58 rfl 0 rfl ?_
  refine x_aload_n d_K_lay_59 rfl 2 rfl ?_
  refine y_getI d_K_lay_60 fl_7_59 rfl (ksLa gg1) ?_
  obtain ⟨S19, e20, h⟩ := lt_inv h
  refine y_putI e20 d_K_lay_63 fl_7_62 rfl rfl kd_56 rfl rfl ?_
  refine x_iconst d_K_lay_66 ic_0 ?_
  refine x_istore_n (L1 := [(0, .ref 56), (1, .ref o2), (2, .ref o3), (3, .int (0 : Int32))]) d_K_lay_67 rfl (Nat.le_of_ble_eq_true rfl) rfl rfl ?_
  refine T_K_lay_68 (by omega) gg0 gg1 ?_ F (0 : Int32) S19 _ h
  · intro S36 res h
    refine x_iconst d_K_lay_118 ic_0 ?_
    refine x_istore_n (L1 := [(0, .ref 56), (3, .int (0 : Int32))]) d_K_lay_119 rfl (Nat.le_of_ble_eq_true rfl) rfl rfl ?_
    refine x_iconst d_K_lay_120 ic_0 ?_
    refine x_istore (L1 := [(0, .ref 56), (3, .int (0 : Int32)), (4, .int (0 : Int32))]) d_K_lay_121 (Nat.le_of_ble_eq_true rfl) rfl rfl ?_
    refine T_K_lay_123 (by omega)   F (0 : Int32) (0 : Int32) S36 _ h
/-! NinetyPlayers.lookAtKeys -/
def fN_lookAtKeys (F G : Nat) (S : St) : Option (St) :=
  gd (isSc S.2.2.1) (bd (fK_lay F G S S.2.2.1 30) fun S3 => some S3)
set_option maxRecDepth 100000 in
set_option maxHeartbeats 4000000 in
theorem c_N_lookAtKeys {X : Nat × (Nat → Int32)} {D F G : Nat} (hD : 2 ≤ D) {S : St} {res : St} (h : fN_lookAtKeys F G S  = some res) : Ek X (D) mN_lookAtKeys 0 [(0, .ref 0)] [] S none res := by
  obtain ⟨D, rfl⟩ : ∃ E, D = E + 1 := ⟨D - 1, by omega⟩
  unfold fN_lookAtKeys at h
  refine x_aload_n d_N_lookAtKeys_0 rfl 0 rfl ?_
  refine y_getR d_N_lookAtKeys_1 fl_0_50 rfl kd_0 rr_0_7 ?_
  refine x_aload_n d_N_lookAtKeys_4 rfl 0 rfl ?_
  refine y_getR d_N_lookAtKeys_5 fl_0_25 rfl kd_0 rr_told ?_
  obtain ⟨g1, h⟩ := gd_inv h
  refine x_aload_n d_N_lookAtKeys_8 rfl 0 rfl ?_
  refine y_getR d_N_lookAtKeys_9 fl_0_32 rfl kd_0 rr_0_4 ?_
  obtain ⟨S3, q2, h⟩ := bd_inv h
  refine y_V2v (S1 := S3) d_N_lookAtKeys_12 ml_0_196 kd_56 rfl (Nat.le_of_ble_eq_true rfl) (Nat.le_of_ble_eq_true rfl) (c_K_lay (by omega) q2) ?_
  obtain rfl := Option.some.inj h
  exact x_ret (r := none) d_N_lookAtKeys_15 rfl
/-! NinetyPlayers$Keyboard.setOf -/
def fK_setOf (F G : Nat) (S : St) (p1 : Int32) : Option (Int32) :=
  if p1 = (1 : Int32) then some (S.1 56 5) else some (S.1 56 6)
set_option maxRecDepth 100000 in
set_option maxHeartbeats 4000000 in
theorem c_K_setOf {X : Nat × (Nat → Int32)} {D F G : Nat} (hD : 0 ≤ D) {S : St} {p1 : Int32} {res : Int32} (h : fK_setOf F G S p1 = some res) : Ek X (D) mK_setOf 0 [(0, .ref 56), (1, .int p1)] [] S (some (.int res)) S := by
  unfold fK_setOf at h
  refine x_iload_n d_K_setOf_0 rfl 1 rfl ?_
  refine x_iconst d_K_setOf_1 ic_1 ?_
  refine x_icmp_ne (tgt := 12) d_K_setOf_2 rfl (fun c1 => ?_) (fun c1 => ?_)
  · replace h := ite_f c1 h
    refine x_aload_n d_K_setOf_12 rfl 0 rfl ?_
    refine y_getI d_K_setOf_13 fl_7_56 rfl kd_56 ?_
    obtain rfl := Option.some.inj h
    exact x_ret (r := some (.int (S.1 56 6))) d_K_setOf_16 ⟨_, rfl, rfl⟩
  · replace h := ite_t c1 h
    refine x_aload_n d_K_setOf_5 rfl 0 rfl ?_
    refine y_getI d_K_setOf_6 fl_7_53 rfl kd_56 ?_
    refine x_goto (tgt := 16) d_K_setOf_9 rfl ?_
    obtain rfl := Option.some.inj h
    exact x_ret (r := some (.int (S.1 56 5))) d_K_setOf_16 ⟨_, rfl, rfl⟩
/-! NinetyPlayers$Keyboard.timelyAt -/
def fK_timelyAt (F G : Nat) (S : St) (p1 : Int32) : Option (Int32) :=
  if p1 < 0 then some (0 : Int32) else if (S.1 56 0) ≤ p1 then some (0 : Int32) else if (12 : Int32) ≤ p1 then some (0 : Int32) else gd (inB p1 12) (some (S.1 60 p1.toNatClampNeg))
set_option maxRecDepth 100000 in
set_option maxHeartbeats 4000000 in
theorem c_K_timelyAt {X : Nat × (Nat → Int32)} {D F G : Nat} (hD : 0 ≤ D) {S : St} {p1 : Int32} {res : Int32} (h : fK_timelyAt F G S p1 = some res) : Ek X (D) mK_timelyAt 0 [(0, .ref 56), (1, .int p1)] [] S (some (.int res)) S := by
  unfold fK_timelyAt at h
  refine x_iload_n d_K_timelyAt_0 rfl 1 rfl ?_
  refine x_if_lt (tgt := 27) d_K_timelyAt_1 rfl (fun c1 => ?_) (fun c1 => ?_)
  · replace h := ite_t c1 h
    refine x_iconst d_K_timelyAt_27 ic_0 ?_
    obtain rfl := Option.some.inj h
    exact x_ret (r := some (.int (0 : Int32))) d_K_timelyAt_28 ⟨_, rfl, rfl⟩
  · replace h := ite_f c1 h
    refine x_iload_n d_K_timelyAt_4 rfl 1 rfl ?_
    refine x_aload_n d_K_timelyAt_5 rfl 0 rfl ?_
    refine y_getI d_K_timelyAt_6 fl_7_30 rfl kd_56 ?_
    refine x_icmp_ge (tgt := 27) d_K_timelyAt_9 rfl (fun c2 => ?_) (fun c2 => ?_)
    · replace h := ite_t c2 h
      refine x_iconst d_K_timelyAt_27 ic_0 ?_
      obtain rfl := Option.some.inj h
      exact x_ret (r := some (.int (0 : Int32))) d_K_timelyAt_28 ⟨_, rfl, rfl⟩
    · replace h := ite_f c2 h
      refine x_iload_n d_K_timelyAt_12 rfl 1 rfl ?_
      refine x_bipush d_K_timelyAt_13 bp_12 ?_
      refine x_icmp_ge (tgt := 27) d_K_timelyAt_15 rfl (fun c3 => ?_) (fun c3 => ?_)
      · replace h := ite_t c3 h
        refine x_iconst d_K_timelyAt_27 ic_0 ?_
        obtain rfl := Option.some.inj h
        exact x_ret (r := some (.int (0 : Int32))) d_K_timelyAt_28 ⟨_, rfl, rfl⟩
      · replace h := ite_f c3 h
        refine x_aload_n d_K_timelyAt_18 rfl 0 rfl ?_
        refine y_getR d_K_timelyAt_19 fl_7_21 rfl kd_56 rr_56_11 ?_
        refine x_iload_n d_K_timelyAt_22 rfl 1 rfl ?_
        obtain ⟨g4, h⟩ := gd_inv h
        refine y_iald d_K_timelyAt_23 kd_60 g4 ?_
        refine x_goto (tgt := 28) d_K_timelyAt_24 rfl ?_
        obtain rfl := Option.some.inj h
        exact x_ret (r := some (.int (S.1 60 p1.toNatClampNeg))) d_K_timelyAt_28 ⟨_, rfl, rfl⟩
/-! NinetyPlayers$Keyboard.heldBy -/
def fK_heldBy (F G : Nat) (S : St) (p1 : Int32) (p2 : Int32) : Option (Int32) :=
  bd (fK_setOf F G S p1) fun v2 => bd (fK_timelyAt F G S p2) fun v4 => some (v2 &&& v4)
set_option maxRecDepth 100000 in
set_option maxHeartbeats 4000000 in
theorem c_K_heldBy {X : Nat × (Nat → Int32)} {D F G : Nat} (hD : 1 ≤ D) {S : St} {p1 : Int32} {p2 : Int32} {res : Int32} (h : fK_heldBy F G S p1 p2 = some res) : Ek X (D) mK_heldBy 0 [(0, .ref 56), (1, .int p1), (2, .int p2)] [] S (some (.int res)) S := by
  obtain ⟨D, rfl⟩ : ∃ E, D = E + 1 := ⟨D - 1, by omega⟩
  unfold fK_heldBy at h
  refine x_aload_n d_K_heldBy_0 rfl 0 rfl ?_
  refine x_iload_n d_K_heldBy_1 rfl 1 rfl ?_
  obtain ⟨v2, q1, h⟩ := bd_inv h
  refine y_V1i (v := v2) (S1 := S) d_K_heldBy_2 ml_7_74 kd_56 rfl (Nat.le_of_ble_eq_true rfl) (Nat.le_of_ble_eq_true rfl) (c_K_setOf (by omega) q1) ?_
  refine x_aload_n d_K_heldBy_5 rfl 0 rfl ?_
  refine x_iload_n d_K_heldBy_6 rfl 2 rfl ?_
  obtain ⟨v4, q3, h⟩ := bd_inv h
  refine y_V1i (v := v4) (S1 := S) d_K_heldBy_7 ml_7_75 kd_56 rfl (Nat.le_of_ble_eq_true rfl) (Nat.le_of_ble_eq_true rfl) (c_K_timelyAt (by omega) q3) ?_
  refine x_iand d_K_heldBy_10 ?_
  obtain rfl := Option.some.inj h
  exact x_ret (r := some (.int (v2 &&& v4))) d_K_heldBy_11 ⟨_, rfl, rfl⟩
/-! NinetyPlayers.held -/
def fN_held (F G : Nat) (S : St) (p1 : Int32) (p2 : Int32) : Option (Int32 × St) :=
  bd (fN_isBeat F G S p1) fun v2 => if v2 = 0 then some ((-1 : Int32), S) else bd (fN_isHand F G S p2) fun v5 => if v5 = 0 then some ((-1 : Int32), S) else bd (fN_lookAtKeys F G S ) fun S8 => bd (fK_heldBy F G S8 p2 p1) fun v10 => some (v10, S8)
set_option maxRecDepth 100000 in
set_option maxHeartbeats 4000000 in
theorem c_N_held {X : Nat × (Nat → Int32)} {D F G : Nat} (hD : 3 ≤ D) {S : St} {p1 : Int32} {p2 : Int32} {res : Int32 × St} (h : fN_held F G S p1 p2 = some res) : Ek X (D) mN_held 0 [(0, .ref 0), (1, .int p1), (2, .int p2)] [] S (some (.int res.1)) res.2 := by
  obtain ⟨D, rfl⟩ : ∃ E, D = E + 1 := ⟨D - 1, by omega⟩
  unfold fN_held at h
  refine x_aload_n d_N_held_0 rfl 0 rfl ?_
  refine x_iload_n d_N_held_1 rfl 1 rfl ?_
  obtain ⟨v2, q1, h⟩ := bd_inv h
  refine y_V1i (v := v2) (S1 := S) d_N_held_2 ml_0_167 kd_0 rfl (Nat.le_of_ble_eq_true rfl) (Nat.le_of_ble_eq_true rfl) (c_N_isBeat (by omega) q1) ?_
  refine x_if_eq (tgt := 15) d_N_held_5 rfl (fun c3 => ?_) (fun c3 => ?_)
  · replace h := ite_t c3 h
    refine x_iconst d_N_held_15 ic_m1 ?_
    obtain rfl := Option.some.inj h
    exact x_ret (r := some (.int (-1 : Int32))) d_N_held_16 ⟨_, rfl, rfl⟩
  · replace h := ite_f c3 h
    refine x_iload_n d_N_held_8 rfl 2 rfl ?_
    obtain ⟨v5, q4, h⟩ := bd_inv h
    refine y_S1i (v := v5) (S1 := S) d_N_held_9 ml_0_170 (Nat.le_of_ble_eq_true rfl) (Nat.le_of_ble_eq_true rfl) (c_N_isHand (by omega) q4) ?_
    refine x_if_ne (tgt := 17) d_N_held_12 rfl (fun c6 => ?_) (fun c6 => ?_)
    · replace h := ite_f c6 h
      refine x_aload_n d_N_held_17 rfl 0 rfl ?_
      obtain ⟨S8, q7, h⟩ := bd_inv h
      refine y_V0v (S1 := S8) d_N_held_18 ml_0_173 kd_0 rfl (Nat.le_of_ble_eq_true rfl) (Nat.le_of_ble_eq_true rfl) (c_N_lookAtKeys (by omega) q7) ?_
      refine x_aload_n d_N_held_21 rfl 0 rfl ?_
      refine y_getR d_N_held_22 fl_0_50 rfl kd_0 rr_0_7 ?_
      refine x_iload_n d_N_held_25 rfl 2 rfl ?_
      refine x_iload_n d_N_held_26 rfl 1 rfl ?_
      obtain ⟨v10, q9, h⟩ := bd_inv h
      refine y_V2i (v := v10) (S1 := S8) d_N_held_27 ml_0_176 kd_56 rfl (Nat.le_of_ble_eq_true rfl) (Nat.le_of_ble_eq_true rfl) (c_K_heldBy (by omega) q9) ?_
      obtain rfl := Option.some.inj h
      exact x_ret (r := some (.int v10)) d_N_held_30 ⟨_, rfl, rfl⟩
    · replace h := ite_t c6 h
      refine x_iconst d_N_held_15 ic_m1 ?_
      obtain rfl := Option.some.inj h
      exact x_ret (r := some (.int (-1 : Int32))) d_N_held_16 ⟨_, rfl, rfl⟩
/-! NinetyPlayersModel.isBeat -/
def fM_isBeat (F G : Nat) (S : St) (p1 : Int32) : Option (Int32) :=
  bd (fM_isIn F G S p1 (0 : Int32) ((S.1 78 46) - (1 : Int32))) fun v2 => gd (isB v2) (some v2)
set_option maxRecDepth 100000 in
set_option maxHeartbeats 4000000 in
theorem c_M_isBeat {X : Nat × (Nat → Int32)} {D F G : Nat} (hD : 1 ≤ D) {S : St} {p1 : Int32} {res : Int32} (h : fM_isBeat F G S p1 = some res) : Ek X (D) mM_isBeat 0 [(0, .ref 78), (1, .int p1)] [] S (some (.int res)) S := by
  obtain ⟨D, rfl⟩ : ∃ E, D = E + 1 := ⟨D - 1, by omega⟩
  unfold fM_isBeat at h
  refine x_iload_n d_M_isBeat_0 rfl 1 rfl ?_
  refine x_iconst d_M_isBeat_1 ic_0 ?_
  refine x_aload_n d_M_isBeat_2 rfl 0 rfl ?_
  refine y_getI d_M_isBeat_3 fl_11_78 rfl kd_78 ?_
  refine x_iconst d_M_isBeat_6 ic_1 ?_
  refine x_isub d_M_isBeat_7 ?_
  obtain ⟨v2, q1, h⟩ := bd_inv h
  refine y_S3i (v := v2) (S1 := S) d_M_isBeat_8 ml_11_429 (Nat.le_of_ble_eq_true rfl) (Nat.le_of_ble_eq_true rfl) (c_M_isIn (by omega) q1) ?_
  obtain ⟨g3, h⟩ := gd_inv h
  obtain rfl := Option.some.inj h
  exact x_ret (r := some (.int v2)) d_M_isBeat_11 ⟨_, rfl, isB_nar g3⟩
/-! NinetyPlayersModel.isHand -/
def fM_isHand (F G : Nat) (S : St) (p1 : Int32) : Option (Int32) :=
  if p1 = (1 : Int32) then some (1 : Int32) else if p1 = (2 : Int32) then some (1 : Int32) else some (0 : Int32)
set_option maxRecDepth 100000 in
set_option maxHeartbeats 4000000 in
theorem c_M_isHand {X : Nat × (Nat → Int32)} {D F G : Nat} (hD : 0 ≤ D) {S : St} {p1 : Int32} {res : Int32} (h : fM_isHand F G S p1 = some res) : Ek X (D) mM_isHand 0 [(0, .int p1)] [] S (some (.int res)) S := by
  unfold fM_isHand at h
  refine x_iload_n d_M_isHand_0 rfl 0 rfl ?_
  refine x_iconst d_M_isHand_1 ic_1 ?_
  refine x_icmp_eq (tgt := 10) d_M_isHand_2 rfl (fun c1 => ?_) (fun c1 => ?_)
  · replace h := ite_t c1 h
    refine x_iconst d_M_isHand_10 ic_1 ?_
    refine x_goto (tgt := 15) d_M_isHand_11 rfl ?_
    obtain rfl := Option.some.inj h
    exact x_ret (r := some (.int (1 : Int32))) d_M_isHand_15 ⟨_, rfl, rfl⟩
  · replace h := ite_f c1 h
    refine x_iload_n d_M_isHand_5 rfl 0 rfl ?_
    refine x_iconst d_M_isHand_6 ic_2 ?_
    refine x_icmp_ne (tgt := 14) d_M_isHand_7 rfl (fun c2 => ?_) (fun c2 => ?_)
    · replace h := ite_f c2 h
      refine x_iconst d_M_isHand_14 ic_0 ?_
      obtain rfl := Option.some.inj h
      exact x_ret (r := some (.int (0 : Int32))) d_M_isHand_15 ⟨_, rfl, rfl⟩
    · replace h := ite_t c2 h
      refine x_iconst d_M_isHand_10 ic_1 ?_
      refine x_goto (tgt := 15) d_M_isHand_11 rfl ?_
      obtain rfl := Option.some.inj h
      exact x_ret (r := some (.int (1 : Int32))) d_M_isHand_15 ⟨_, rfl, rfl⟩
/-! NinetyPlayersModel.held -/
def fM_held (F G : Nat) (S : St) (p1 : Int32) (p2 : Int32) : Option (Int32 × St) :=
  bd (fM_fill F G S ) fun S2 => bd (fM_isBeat F G S2 p1) fun v4 => if v4 = 0 then some ((-1 : Int32), S2) else bd (fM_isHand F G S2 p2) fun v7 => if v7 = 0 then some ((-1 : Int32), S2) else bd (fM_given F G S2 p2) fun v10 => gd (inB p1 12) (some (v10 &&& (S2.1 102 p1.toNatClampNeg), S2))
set_option maxRecDepth 100000 in
set_option maxHeartbeats 4000000 in
theorem c_M_held {X : Nat × (Nat → Int32)} {D F G : Nat} (hD : 2 ≤ D) {S : St} {p1 : Int32} {p2 : Int32} {res : Int32 × St} (h : fM_held F G S p1 p2 = some res) : Ek X (D) mM_held 0 [(0, .ref 78), (1, .int p1), (2, .int p2)] [] S (some (.int res.1)) res.2 := by
  obtain ⟨D, rfl⟩ : ∃ E, D = E + 1 := ⟨D - 1, by omega⟩
  unfold fM_held at h
  refine x_aload_n d_M_held_0 rfl 0 rfl ?_
  obtain ⟨S2, q1, h⟩ := bd_inv h
  refine y_V0v (S1 := S2) d_M_held_1 ml_11_464 kd_78 rfl (Nat.le_of_ble_eq_true rfl) (Nat.le_of_ble_eq_true rfl) (c_M_fill (by omega) q1) ?_
  refine x_aload_n d_M_held_4 rfl 0 rfl ?_
  refine x_iload_n d_M_held_5 rfl 1 rfl ?_
  obtain ⟨v4, q3, h⟩ := bd_inv h
  refine y_V1i (v := v4) (S1 := S2) d_M_held_6 ml_11_473 kd_78 rfl (Nat.le_of_ble_eq_true rfl) (Nat.le_of_ble_eq_true rfl) (c_M_isBeat (by omega) q3) ?_
  refine x_if_eq (tgt := 34) d_M_held_9 rfl (fun c5 => ?_) (fun c5 => ?_)
  · replace h := ite_t c5 h
    refine x_iconst d_M_held_34 ic_m1 ?_
    obtain rfl := Option.some.inj h
    exact x_ret (r := some (.int (-1 : Int32))) d_M_held_35 ⟨_, rfl, rfl⟩
  · replace h := ite_f c5 h
    refine x_iload_n d_M_held_12 rfl 2 rfl ?_
    obtain ⟨v7, q6, h⟩ := bd_inv h
    refine y_S1i (v := v7) (S1 := S2) d_M_held_13 ml_11_476 (Nat.le_of_ble_eq_true rfl) (Nat.le_of_ble_eq_true rfl) (c_M_isHand (by omega) q6) ?_
    refine x_if_eq (tgt := 34) d_M_held_16 rfl (fun c8 => ?_) (fun c8 => ?_)
    · replace h := ite_t c8 h
      refine x_iconst d_M_held_34 ic_m1 ?_
      obtain rfl := Option.some.inj h
      exact x_ret (r := some (.int (-1 : Int32))) d_M_held_35 ⟨_, rfl, rfl⟩
    · replace h := ite_f c8 h
      refine x_aload_n d_M_held_19 rfl 0 rfl ?_
      refine x_iload_n d_M_held_20 rfl 2 rfl ?_
      obtain ⟨v10, q9, h⟩ := bd_inv h
      refine y_V1i (v := v10) (S1 := S2) d_M_held_21 ml_11_454 kd_78 rfl (Nat.le_of_ble_eq_true rfl) (Nat.le_of_ble_eq_true rfl) (c_M_given (by omega) q9) ?_
      refine x_aload_n d_M_held_24 rfl 0 rfl ?_
      refine y_getR d_M_held_25 fl_11_99 rfl kd_78 rr_78_60 ?_
      refine x_iload_n d_M_held_28 rfl 1 rfl ?_
      obtain ⟨g11, h⟩ := gd_inv h
      refine y_iald d_M_held_29 kd_102 g11 ?_
      refine x_iand d_M_held_30 ?_
      refine x_goto (tgt := 35) d_M_held_31 rfl ?_
      obtain rfl := Option.some.inj h
      exact x_ret (r := some (.int (v10 &&& (S2.1 102 p1.toNatClampNeg)))) d_M_held_35 ⟨_, rfl, rfl⟩
/-! NinetyPlayers$Keyboard.soundingAt -/
def b_K_soundingAt_4 (F G : Nat) (S : St) (z1 : Int32) (rec : Int32 → Int32 → Option (Int32)) (w2 : Int32) (w3 : Int32) : Option (Int32) :=
  if z1 < w3 then some (w2 &&& ((S.1 56 5) ||| (S.1 56 6))) else if (S.1 56 0) ≤ w3 then some (w2 &&& ((S.1 56 5) ||| (S.1 56 6))) else bd (fK_timelyAt F G S w3) fun v4 => bd (fK_hasPedal F G S w3) fun v6 => if v6 = 0 then lt (v4 ||| (0 : Int32)) fun v8 => lt (w3 + 1) fun v10 => rec v8 v10 else lt (v4 ||| w2) fun v12 => lt (w3 + 1) fun v14 => rec v12 v14
def fK_soundingAt (F G : Nat) (S : St) (p1 : Int32) : Option (Int32) :=
  fx2 (b_K_soundingAt_4 F G S p1) F (0 : Int32) (0 : Int32)
set_option maxRecDepth 100000 in
set_option maxHeartbeats 4000000 in
theorem T_K_soundingAt_4 {X : Nat × (Nat → Int32)} {D F G : Nat} (hD : 1 ≤ D + 1) {S : St} {z1 : Int32} : ∀ (f : Nat) (w2 : Int32) (w3 : Int32) (res : Int32), fx2 (b_K_soundingAt_4 F G S z1 ) f w2 w3 = some res → Ek X (D + 1) mK_soundingAt 4 [(0, .ref 56), (1, .int z1), (2, .int w2), (3, .int w3)] [] S (some (.int res)) S := by
  refine fx2_ind ?_
  intro rec ih w2 w3 res h
  unfold b_K_soundingAt_4 at h
  refine x_iload_n d_K_soundingAt_4 rfl 3 rfl ?_
  refine x_iload_n d_K_soundingAt_5 rfl 1 rfl ?_
  refine x_icmp_gt (tgt := 43) d_K_soundingAt_6 rfl (fun c1 => ?_) (fun c1 => ?_)
  · replace h := ite_t c1 h
    refine x_iload_n d_K_soundingAt_43 rfl 2 rfl ?_
    refine x_aload_n d_K_soundingAt_44 rfl 0 rfl ?_
    refine y_getI d_K_soundingAt_45 fl_7_53 rfl kd_56 ?_
    refine x_aload_n d_K_soundingAt_48 rfl 0 rfl ?_
    refine y_getI d_K_soundingAt_49 fl_7_56 rfl kd_56 ?_
    refine x_ior d_K_soundingAt_52 ?_
    refine x_iand d_K_soundingAt_53 ?_
    obtain rfl := Option.some.inj h
    exact x_ret (r := some (.int (w2 &&& ((S.1 56 5) ||| (S.1 56 6))))) d_K_soundingAt_54 ⟨_, rfl, rfl⟩
  · replace h := ite_f c1 h
    refine x_iload_n d_K_soundingAt_9 rfl 3 rfl ?_
    refine x_aload_n d_K_soundingAt_10 rfl 0 rfl ?_
    refine y_getI d_K_soundingAt_11 fl_7_30 rfl kd_56 ?_
    refine x_icmp_ge (tgt := 43) d_K_soundingAt_14 rfl (fun c2 => ?_) (fun c2 => ?_)
    · replace h := ite_t c2 h
      refine x_iload_n d_K_soundingAt_43 rfl 2 rfl ?_
      refine x_aload_n d_K_soundingAt_44 rfl 0 rfl ?_
      refine y_getI d_K_soundingAt_45 fl_7_53 rfl kd_56 ?_
      refine x_aload_n d_K_soundingAt_48 rfl 0 rfl ?_
      refine y_getI d_K_soundingAt_49 fl_7_56 rfl kd_56 ?_
      refine x_ior d_K_soundingAt_52 ?_
      refine x_iand d_K_soundingAt_53 ?_
      obtain rfl := Option.some.inj h
      exact x_ret (r := some (.int (w2 &&& ((S.1 56 5) ||| (S.1 56 6))))) d_K_soundingAt_54 ⟨_, rfl, rfl⟩
    · replace h := ite_f c2 h
      refine x_aload_n d_K_soundingAt_17 rfl 0 rfl ?_
      refine x_iload_n d_K_soundingAt_18 rfl 3 rfl ?_
      obtain ⟨v4, q3, h⟩ := bd_inv h
      refine y_V1i (v := v4) (S1 := S) d_K_soundingAt_19 ml_7_75 kd_56 rfl (Nat.le_of_ble_eq_true rfl) (Nat.le_of_ble_eq_true rfl) (c_K_timelyAt (by omega) q3) ?_
      refine x_aload_n d_K_soundingAt_22 rfl 0 rfl ?_
      refine x_iload_n d_K_soundingAt_23 rfl 3 rfl ?_
      obtain ⟨v6, q5, h⟩ := bd_inv h
      refine y_V1i (v := v6) (S1 := S) d_K_soundingAt_24 ml_7_66 kd_56 rfl (Nat.le_of_ble_eq_true rfl) (Nat.le_of_ble_eq_true rfl) (c_K_hasPedal (by omega) q5) ?_
      refine x_if_eq (tgt := 34) d_K_soundingAt_27 rfl (fun c7 => ?_) (fun c7 => ?_)
      · replace h := ite_t c7 h
        refine x_iconst d_K_soundingAt_34 ic_0 ?_
        refine x_ior d_K_soundingAt_35 ?_
        obtain ⟨v8, e9, h⟩ := lt_inv h
        refine y_istore_n (L1 := [(0, .ref 56), (1, .int z1), (2, .int v8), (3, .int w3)]) e9 d_K_soundingAt_36 rfl (Nat.le_of_ble_eq_true rfl) rfl rfl ?_
        obtain ⟨v10, e11, h⟩ := lt_inv h
        refine y_iinc (L1 := [(0, .ref 56), (1, .int z1), (2, .int v8), (3, .int v10)]) e11 ic_1 d_K_soundingAt_37 3 rfl (Nat.le_of_ble_eq_true rfl) rfl rfl ?_
        refine x_goto (tgt := 4) d_K_soundingAt_40 rfl ?_
        exact ih v8 v10 _ h
      · replace h := ite_f c7 h
        refine x_iload_n d_K_soundingAt_30 rfl 2 rfl ?_
        refine x_goto (tgt := 35) d_K_soundingAt_31 rfl ?_
        refine x_ior d_K_soundingAt_35 ?_
        obtain ⟨v12, e13, h⟩ := lt_inv h
        refine y_istore_n (L1 := [(0, .ref 56), (1, .int z1), (2, .int v12), (3, .int w3)]) e13 d_K_soundingAt_36 rfl (Nat.le_of_ble_eq_true rfl) rfl rfl ?_
        obtain ⟨v14, e15, h⟩ := lt_inv h
        refine y_iinc (L1 := [(0, .ref 56), (1, .int z1), (2, .int v12), (3, .int v14)]) e15 ic_1 d_K_soundingAt_37 3 rfl (Nat.le_of_ble_eq_true rfl) rfl rfl ?_
        refine x_goto (tgt := 4) d_K_soundingAt_40 rfl ?_
        exact ih v12 v14 _ h
set_option maxRecDepth 100000 in
set_option maxHeartbeats 4000000 in
theorem c_K_soundingAt {X : Nat × (Nat → Int32)} {D F G : Nat} (hD : 1 ≤ D) {S : St} {p1 : Int32} {res : Int32} (h : fK_soundingAt F G S p1 = some res) : Ek X (D) mK_soundingAt 0 [(0, .ref 56), (1, .int p1)] [] S (some (.int res)) S := by
  obtain ⟨D, rfl⟩ : ∃ E, D = E + 1 := ⟨D - 1, by omega⟩
  unfold fK_soundingAt at h
  refine x_iconst d_K_soundingAt_0 ic_0 ?_
  refine x_istore_n (L1 := [(0, .ref 56), (1, .int p1), (2, .int (0 : Int32))]) d_K_soundingAt_1 rfl (Nat.le_of_ble_eq_true rfl) rfl rfl ?_
  refine x_iconst d_K_soundingAt_2 ic_0 ?_
  refine x_istore_n (L1 := [(0, .ref 56), (1, .int p1), (2, .int (0 : Int32)), (3, .int (0 : Int32))]) d_K_soundingAt_3 rfl (Nat.le_of_ble_eq_true rfl) rfl rfl ?_
  refine T_K_soundingAt_4 (by omega)   F (0 : Int32) (0 : Int32) _ h
/-! NinetyPlayers.sounds -/
def fN_sounds (F G : Nat) (S : St) (p1 : Int32) : Option (Int32 × St) :=
  bd (fN_isBeat F G S p1) fun v2 => if v2 = 0 then some ((-1 : Int32), S) else bd (fN_lookAtKeys F G S ) fun S5 => bd (fK_soundingAt F G S5 p1) fun v7 => some (v7, S5)
set_option maxRecDepth 100000 in
set_option maxHeartbeats 4000000 in
theorem c_N_sounds {X : Nat × (Nat → Int32)} {D F G : Nat} (hD : 3 ≤ D) {S : St} {p1 : Int32} {res : Int32 × St} (h : fN_sounds F G S p1 = some res) : Ek X (D) mN_sounds 0 [(0, .ref 0), (1, .int p1)] [] S (some (.int res.1)) res.2 := by
  obtain ⟨D, rfl⟩ : ∃ E, D = E + 1 := ⟨D - 1, by omega⟩
  unfold fN_sounds at h
  refine x_aload_n d_N_sounds_0 rfl 0 rfl ?_
  refine x_iload_n d_N_sounds_1 rfl 1 rfl ?_
  obtain ⟨v2, q1, h⟩ := bd_inv h
  refine y_V1i (v := v2) (S1 := S) d_N_sounds_2 ml_0_167 kd_0 rfl (Nat.le_of_ble_eq_true rfl) (Nat.le_of_ble_eq_true rfl) (c_N_isBeat (by omega) q1) ?_
  refine x_if_ne (tgt := 10) d_N_sounds_5 rfl (fun c3 => ?_) (fun c3 => ?_)
  · replace h := ite_f c3 h
    refine x_aload_n d_N_sounds_10 rfl 0 rfl ?_
    obtain ⟨S5, q4, h⟩ := bd_inv h
    refine y_V0v (S1 := S5) d_N_sounds_11 ml_0_173 kd_0 rfl (Nat.le_of_ble_eq_true rfl) (Nat.le_of_ble_eq_true rfl) (c_N_lookAtKeys (by omega) q4) ?_
    refine x_aload_n d_N_sounds_14 rfl 0 rfl ?_
    refine y_getR d_N_sounds_15 fl_0_50 rfl kd_0 rr_0_7 ?_
    refine x_iload_n d_N_sounds_18 rfl 1 rfl ?_
    obtain ⟨v7, q6, h⟩ := bd_inv h
    refine y_V1i (v := v7) (S1 := S5) d_N_sounds_19 ml_0_180 kd_56 rfl (Nat.le_of_ble_eq_true rfl) (Nat.le_of_ble_eq_true rfl) (c_K_soundingAt (by omega) q6) ?_
    obtain rfl := Option.some.inj h
    exact x_ret (r := some (.int v7)) d_N_sounds_22 ⟨_, rfl, rfl⟩
  · replace h := ite_t c3 h
    refine x_iconst d_N_sounds_8 ic_m1 ?_
    obtain rfl := Option.some.inj h
    exact x_ret (r := some (.int (-1 : Int32))) d_N_sounds_9 ⟨_, rfl, rfl⟩
/-! NinetyPlayersModel.laySound -/
def b_M_laySound_14 (F G : Nat) (z1 : Int32) (rec : Int32 → St → Option (St)) (w2 : Int32) (S : St) : Option (St) :=
  if (S.1 78 46) ≤ w2 then some S else gd (inB w2 12) (gd (inB w2 12) (lt (sI S 103 w2.toNatClampNeg ((S.1 102 w2.toNatClampNeg) &&& z1)) fun S10 => if w2 ≤ 0 then lt (w2 + 1) fun v13 => rec v13 S10 else gd (inB (40 : Int32) 41) (if (((S10.1 101 (40 : Int32).toNatClampNeg) >>> (w2 &&& 31)) &&& (1 : Int32)) = (1 : Int32) then gd (inB w2 12) (gd (inB (w2 - (1 : Int32)) 12) (gd (inB w2 12) (lt (sI S10 103 w2.toNatClampNeg ((S10.1 103 w2.toNatClampNeg) ||| (S10.1 103 (w2 - (1 : Int32)).toNatClampNeg))) fun S22 => lt (w2 + 1) fun v24 => rec v24 S22))) else lt (w2 + 1) fun v17 => rec v17 S10)))
def fM_laySound (F G : Nat) (S : St) : Option (St) :=
  bd (fM_given F G S (1 : Int32)) fun v2 => bd (fM_given F G S (2 : Int32)) fun v4 => lt (v2 ||| v4) fun v5 => fx2 (b_M_laySound_14 F G v5) F (0 : Int32) S
set_option maxRecDepth 100000 in
set_option maxHeartbeats 4000000 in
theorem T_M_laySound_14 {X : Nat × (Nat → Int32)} {D F G : Nat} (hD : 2 ≤ D + 1) {z1 : Int32} : ∀ (f : Nat) (w2 : Int32) (S : St) (res : St), fx2 (b_M_laySound_14 F G z1 ) f w2 S = some res → Ek X (D + 1) mM_laySound 14 [(0, .ref 78), (1, .int z1), (2, .int w2)] [] S none res := by
  refine fx2_ind ?_
  intro rec ih w2 S res h
  unfold b_M_laySound_14 at h
  refine x_iload_n d_M_laySound_14 rfl 2 rfl ?_
  refine x_aload_n d_M_laySound_15 rfl 0 rfl ?_
  refine y_getI d_M_laySound_16 fl_11_78 rfl kd_78 ?_
  refine x_icmp_ge (tgt := 78) d_M_laySound_19 rfl (fun c7 => ?_) (fun c7 => ?_)
  · replace h := ite_t c7 h
    obtain rfl := Option.some.inj h
    exact x_ret (r := none) d_M_laySound_78 rfl
  · replace h := ite_f c7 h
    refine x_aload_n d_M_laySound_22 rfl 0 rfl ?_
    refine y_getR d_M_laySound_23 fl_11_102 rfl kd_78 rr_78_61 ?_
    refine x_iload_n d_M_laySound_26 rfl 2 rfl ?_
    refine x_aload_n d_M_laySound_27 rfl 0 rfl ?_
    refine y_getR d_M_laySound_28 fl_11_99 rfl kd_78 rr_78_60 ?_
    refine x_iload_n d_M_laySound_31 rfl 2 rfl ?_
    obtain ⟨g8, h⟩ := gd_inv h
    refine y_iald d_M_laySound_32 kd_102 g8 ?_
    refine x_iload_n d_M_laySound_33 rfl 1 rfl ?_
    refine x_iand d_M_laySound_34 ?_
    obtain ⟨g9, h⟩ := gd_inv h
    obtain ⟨S10, e11, h⟩ := lt_inv h
    refine y_iast e11 d_M_laySound_35 kd_103 g9 ?_
    refine x_iload_n d_M_laySound_36 rfl 2 rfl ?_
    refine x_if_le (tgt := 72) d_M_laySound_37 rfl (fun c12 => ?_) (fun c12 => ?_)
    · replace h := ite_t c12 h
      obtain ⟨v13, e14, h⟩ := lt_inv h
      refine y_iinc (L1 := [(0, .ref 78), (1, .int z1), (2, .int v13)]) e14 ic_1 d_M_laySound_72 2 rfl (Nat.le_of_ble_eq_true rfl) rfl rfl ?_
      refine x_goto (tgt := 14) d_M_laySound_75 rfl ?_
      exact ih v13 S10 _ h
    · replace h := ite_f c12 h
      refine x_aload_n d_M_laySound_40 rfl 0 rfl ?_
      refine y_getR d_M_laySound_41 fl_11_96 rfl kd_78 rr_78_59 ?_
      refine x_bipush d_M_laySound_44 bp_40 ?_
      obtain ⟨g15, h⟩ := gd_inv h
      refine y_iald d_M_laySound_46 kd_101 g15 ?_
      refine x_iload_n d_M_laySound_47 rfl 2 rfl ?_
      refine x_ishr d_M_laySound_48 ?_
      refine x_iconst d_M_laySound_49 ic_1 ?_
      refine x_iand d_M_laySound_50 ?_
      refine x_iconst d_M_laySound_51 ic_1 ?_
      refine x_icmp_ne (tgt := 72) d_M_laySound_52 rfl (fun c16 => ?_) (fun c16 => ?_)
      · replace h := ite_f c16 h
        obtain ⟨v17, e18, h⟩ := lt_inv h
        refine y_iinc (L1 := [(0, .ref 78), (1, .int z1), (2, .int v17)]) e18 ic_1 d_M_laySound_72 2 rfl (Nat.le_of_ble_eq_true rfl) rfl rfl ?_
        refine x_goto (tgt := 14) d_M_laySound_75 rfl ?_
        exact ih v17 S10 _ h
      · replace h := ite_t c16 h
        refine x_aload_n d_M_laySound_55 rfl 0 rfl ?_
        refine y_getR d_M_laySound_56 fl_11_102 rfl kd_78 rr_78_61 ?_
        refine x_iload_n d_M_laySound_59 rfl 2 rfl ?_
        refine x_dup2 d_M_laySound_60 rfl rfl ?_
        obtain ⟨g19, h⟩ := gd_inv h
        refine y_iald d_M_laySound_61 kd_103 g19 ?_
        refine x_aload_n d_M_laySound_62 rfl 0 rfl ?_
        refine y_getR d_M_laySound_63 fl_11_102 rfl kd_78 rr_78_61 ?_
        refine x_iload_n d_M_laySound_66 rfl 2 rfl ?_
        refine x_iconst d_M_laySound_67 ic_1 ?_
        refine x_isub d_M_laySound_68 ?_
        obtain ⟨g20, h⟩ := gd_inv h
        refine y_iald d_M_laySound_69 kd_103 g20 ?_
        refine x_ior d_M_laySound_70 ?_
        obtain ⟨g21, h⟩ := gd_inv h
        obtain ⟨S22, e23, h⟩ := lt_inv h
        refine y_iast e23 d_M_laySound_71 kd_103 g21 ?_
        obtain ⟨v24, e25, h⟩ := lt_inv h
        refine y_iinc (L1 := [(0, .ref 78), (1, .int z1), (2, .int v24)]) e25 ic_1 d_M_laySound_72 2 rfl (Nat.le_of_ble_eq_true rfl) rfl rfl ?_
        refine x_goto (tgt := 14) d_M_laySound_75 rfl ?_
        exact ih v24 S22 _ h
set_option maxRecDepth 100000 in
set_option maxHeartbeats 4000000 in
theorem c_M_laySound {X : Nat × (Nat → Int32)} {D F G : Nat} (hD : 2 ≤ D) {S : St} {res : St} (h : fM_laySound F G S  = some res) : Ek X (D) mM_laySound 0 [(0, .ref 78)] [] S none res := by
  obtain ⟨D, rfl⟩ : ∃ E, D = E + 1 := ⟨D - 1, by omega⟩
  unfold fM_laySound at h
  refine x_aload_n d_M_laySound_0 rfl 0 rfl ?_
  refine x_iconst d_M_laySound_1 ic_1 ?_
  obtain ⟨v2, q1, h⟩ := bd_inv h
  refine y_V1i (v := v2) (S1 := S) d_M_laySound_2 ml_11_454 kd_78 rfl (Nat.le_of_ble_eq_true rfl) (Nat.le_of_ble_eq_true rfl) (c_M_given (by omega) q1) ?_
  refine x_aload_n d_M_laySound_5 rfl 0 rfl ?_
  refine x_iconst d_M_laySound_6 ic_2 ?_
  obtain ⟨v4, q3, h⟩ := bd_inv h
  refine y_V1i (v := v4) (S1 := S) d_M_laySound_7 ml_11_454 kd_78 rfl (Nat.le_of_ble_eq_true rfl) (Nat.le_of_ble_eq_true rfl) (c_M_given (by omega) q3) ?_
  refine x_ior d_M_laySound_10 ?_
  obtain ⟨v5, e6, h⟩ := lt_inv h
  refine y_istore_n (L1 := [(0, .ref 78), (1, .int v5)]) e6 d_M_laySound_11 rfl (Nat.le_of_ble_eq_true rfl) rfl rfl ?_
  refine x_iconst d_M_laySound_12 ic_0 ?_
  refine x_istore_n (L1 := [(0, .ref 78), (1, .int v5), (2, .int (0 : Int32))]) d_M_laySound_13 rfl (Nat.le_of_ble_eq_true rfl) rfl rfl ?_
  refine T_M_laySound_14 (by omega)   F (0 : Int32) S _ h
/-! NinetyPlayersModel.sounds -/
def fM_sounds (F G : Nat) (S : St) (p1 : Int32) : Option (Int32 × St) :=
  bd (fM_isBeat F G S p1) fun v2 => if v2 = 0 then some ((-1 : Int32), S) else bd (fM_fill F G S ) fun S5 => bd (fM_laySound F G S5 ) fun S7 => gd (inB p1 12) (some (S7.1 103 p1.toNatClampNeg, S7))
set_option maxRecDepth 100000 in
set_option maxHeartbeats 4000000 in
theorem c_M_sounds {X : Nat × (Nat → Int32)} {D F G : Nat} (hD : 3 ≤ D) {S : St} {p1 : Int32} {res : Int32 × St} (h : fM_sounds F G S p1 = some res) : Ek X (D) mM_sounds 0 [(0, .ref 78), (1, .int p1)] [] S (some (.int res.1)) res.2 := by
  obtain ⟨D, rfl⟩ : ∃ E, D = E + 1 := ⟨D - 1, by omega⟩
  unfold fM_sounds at h
  refine x_aload_n d_M_sounds_0 rfl 0 rfl ?_
  refine x_iload_n d_M_sounds_1 rfl 1 rfl ?_
  obtain ⟨v2, q1, h⟩ := bd_inv h
  refine y_V1i (v := v2) (S1 := S) d_M_sounds_2 ml_11_473 kd_78 rfl (Nat.le_of_ble_eq_true rfl) (Nat.le_of_ble_eq_true rfl) (c_M_isBeat (by omega) q1) ?_
  refine x_if_ne (tgt := 10) d_M_sounds_5 rfl (fun c3 => ?_) (fun c3 => ?_)
  · replace h := ite_f c3 h
    refine x_aload_n d_M_sounds_10 rfl 0 rfl ?_
    obtain ⟨S5, q4, h⟩ := bd_inv h
    refine y_V0v (S1 := S5) d_M_sounds_11 ml_11_464 kd_78 rfl (Nat.le_of_ble_eq_true rfl) (Nat.le_of_ble_eq_true rfl) (c_M_fill (by omega) q4) ?_
    refine x_aload_n d_M_sounds_14 rfl 0 rfl ?_
    obtain ⟨S7, q6, h⟩ := bd_inv h
    refine y_V0v (S1 := S7) d_M_sounds_15 ml_11_479 kd_78 rfl (Nat.le_of_ble_eq_true rfl) (Nat.le_of_ble_eq_true rfl) (c_M_laySound (by omega) q6) ?_
    refine x_aload_n d_M_sounds_18 rfl 0 rfl ?_
    refine y_getR d_M_sounds_19 fl_11_102 rfl kd_78 rr_78_61 ?_
    refine x_iload_n d_M_sounds_22 rfl 1 rfl ?_
    obtain ⟨g8, h⟩ := gd_inv h
    refine y_iald d_M_sounds_23 kd_103 g8 ?_
    obtain rfl := Option.some.inj h
    exact x_ret (r := some (.int (S7.1 103 p1.toNatClampNeg))) d_M_sounds_24 ⟨_, rfl, rfl⟩
  · replace h := ite_t c3 h
    refine x_iconst d_M_sounds_8 ic_m1 ?_
    obtain rfl := Option.some.inj h
    exact x_ret (r := some (.int (-1 : Int32))) d_M_sounds_9 ⟨_, rfl, rfl⟩
/-! NinetyPlayers$Keyboard.lowest -/
def b_K_lowest_5 (F G : Nat) (S : St) (z1 : Int32) (rec : Int32 → Int32 → Option (Int32)) (w2 : Int32) (w3 : Int32) : Option (Int32) :=
  if (S.1 56 1) ≤ w3 then some w2 else if ((z1 >>> (w3 &&& 31)) &&& (1 : Int32)) = 0 then lt (w3 + 1) fun v3 => rec w2 v3 else gd (inB w3 10) (if w2 ≤ (S.1 57 w3.toNatClampNeg) then lt (w3 + 1) fun v7 => rec w2 v7 else gd (inB w3 10) (lt (S.1 57 w3.toNatClampNeg) fun v10 => lt (w3 + 1) fun v12 => rec v10 v12))
def fK_lowest (F G : Nat) (S : St) (p1 : Int32) : Option (Int32) :=
  fx2 (b_K_lowest_5 F G S p1) F (87 : Int32) (0 : Int32)
set_option maxRecDepth 100000 in
set_option maxHeartbeats 4000000 in
theorem T_K_lowest_5 {X : Nat × (Nat → Int32)} {D F G : Nat} (hD : 0 ≤ D) {S : St} {z1 : Int32} : ∀ (f : Nat) (w2 : Int32) (w3 : Int32) (res : Int32), fx2 (b_K_lowest_5 F G S z1 ) f w2 w3 = some res → Ek X (D) mK_lowest 5 [(0, .ref 56), (1, .int z1), (2, .int w2), (3, .int w3)] [] S (some (.int res)) S := by
  refine fx2_ind ?_
  intro rec ih w2 w3 res h
  unfold b_K_lowest_5 at h
  refine x_iload_n d_K_lowest_5 rfl 3 rfl ?_
  refine x_aload_n d_K_lowest_6 rfl 0 rfl ?_
  refine y_getI d_K_lowest_7 fl_7_34 rfl kd_56 ?_
  refine x_icmp_ge (tgt := 44) d_K_lowest_10 rfl (fun c1 => ?_) (fun c1 => ?_)
  · replace h := ite_t c1 h
    refine x_iload_n d_K_lowest_44 rfl 2 rfl ?_
    obtain rfl := Option.some.inj h
    exact x_ret (r := some (.int w2)) d_K_lowest_45 ⟨_, rfl, rfl⟩
  · replace h := ite_f c1 h
    refine x_iload_n d_K_lowest_13 rfl 1 rfl ?_
    refine x_iload_n d_K_lowest_14 rfl 3 rfl ?_
    refine x_ishr d_K_lowest_15 ?_
    refine x_iconst d_K_lowest_16 ic_1 ?_
    refine x_iand d_K_lowest_17 ?_
    refine x_if_eq (tgt := 38) d_K_lowest_18 rfl (fun c2 => ?_) (fun c2 => ?_)
    · replace h := ite_t c2 h
      obtain ⟨v3, e4, h⟩ := lt_inv h
      refine y_iinc (L1 := [(0, .ref 56), (1, .int z1), (2, .int w2), (3, .int v3)]) e4 ic_1 d_K_lowest_38 3 rfl (Nat.le_of_ble_eq_true rfl) rfl rfl ?_
      refine x_goto (tgt := 5) d_K_lowest_41 rfl ?_
      exact ih w2 v3 _ h
    · replace h := ite_f c2 h
      refine x_aload_n d_K_lowest_21 rfl 0 rfl ?_
      refine y_getR d_K_lowest_22 fl_7_9 rfl kd_56 rr_56_8 ?_
      refine x_iload_n d_K_lowest_25 rfl 3 rfl ?_
      obtain ⟨g5, h⟩ := gd_inv h
      refine y_iald d_K_lowest_26 kd_57 g5 ?_
      refine x_iload_n d_K_lowest_27 rfl 2 rfl ?_
      refine x_icmp_ge (tgt := 38) d_K_lowest_28 rfl (fun c6 => ?_) (fun c6 => ?_)
      · replace h := ite_t c6 h
        obtain ⟨v7, e8, h⟩ := lt_inv h
        refine y_iinc (L1 := [(0, .ref 56), (1, .int z1), (2, .int w2), (3, .int v7)]) e8 ic_1 d_K_lowest_38 3 rfl (Nat.le_of_ble_eq_true rfl) rfl rfl ?_
        refine x_goto (tgt := 5) d_K_lowest_41 rfl ?_
        exact ih w2 v7 _ h
      · replace h := ite_f c6 h
        refine x_aload_n d_K_lowest_31 rfl 0 rfl ?_
        refine y_getR d_K_lowest_32 fl_7_9 rfl kd_56 rr_56_8 ?_
        refine x_iload_n d_K_lowest_35 rfl 3 rfl ?_
        obtain ⟨g9, h⟩ := gd_inv h
        refine y_iald d_K_lowest_36 kd_57 g9 ?_
        obtain ⟨v10, e11, h⟩ := lt_inv h
        refine y_istore_n (L1 := [(0, .ref 56), (1, .int z1), (2, .int v10), (3, .int w3)]) e11 d_K_lowest_37 rfl (Nat.le_of_ble_eq_true rfl) rfl rfl ?_
        obtain ⟨v12, e13, h⟩ := lt_inv h
        refine y_iinc (L1 := [(0, .ref 56), (1, .int z1), (2, .int v10), (3, .int v12)]) e13 ic_1 d_K_lowest_38 3 rfl (Nat.le_of_ble_eq_true rfl) rfl rfl ?_
        refine x_goto (tgt := 5) d_K_lowest_41 rfl ?_
        exact ih v10 v12 _ h
set_option maxRecDepth 100000 in
set_option maxHeartbeats 4000000 in
theorem c_K_lowest {X : Nat × (Nat → Int32)} {D F G : Nat} (hD : 0 ≤ D) {S : St} {p1 : Int32} {res : Int32} (h : fK_lowest F G S p1 = some res) : Ek X (D) mK_lowest 0 [(0, .ref 56), (1, .int p1)] [] S (some (.int res)) S := by
  unfold fK_lowest at h
  refine x_bipush d_K_lowest_0 bp_87 ?_
  refine x_istore_n (L1 := [(0, .ref 56), (1, .int p1), (2, .int (87 : Int32))]) d_K_lowest_2 rfl (Nat.le_of_ble_eq_true rfl) rfl rfl ?_
  refine x_iconst d_K_lowest_3 ic_0 ?_
  refine x_istore_n (L1 := [(0, .ref 56), (1, .int p1), (2, .int (87 : Int32)), (3, .int (0 : Int32))]) d_K_lowest_4 rfl (Nat.le_of_ble_eq_true rfl) rfl rfl ?_
  refine T_K_lowest_5 (by omega)   F (87 : Int32) (0 : Int32) _ h
