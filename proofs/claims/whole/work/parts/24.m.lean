/-! NinetyPlayers$Witness.gather -/
def j_193_45 (F G : Nat) (z1 : Nat) (z2 : Int32) (rec : Int32 → St → Option (St)) (S : St) (y3 : Int32) (s0 : Int32) : Option (St) :=
  gd (inB y3 30) (if z2 < (S.1 74 y3.toNatClampNeg) then lt (y3 + 1) fun v12 => rec v12 S else if s0 = 0 then gd (inB y3 30) (gd (inB y3 30) (bd (fI_soundersOf F G S z1 (S.1 71 y3.toNatClampNeg) (S.1 72 y3.toNatClampNeg)) fun v20 => gd (inB y3 30) (if (S.1 73 y3.toNatClampNeg) = 0 then lt (sI S 69 11 ((S.1 69 11) ||| v20)) fun S23 => lt (y3 + 1) fun v25 => rec v25 S23 else gd (inB (S.1 69 10) 30) (lt (sI S 76 (S.1 69 10).toNatClampNeg v20) fun S28 => lt (sI S28 69 10 ((S28.1 69 10) + (1 : Int32))) fun S30 => lt (y3 + 1) fun v32 => rec v32 S30)))) else lt (y3 + 1) fun v15 => rec v15 S)
def j_193_44 (F G : Nat) (z1 : Nat) (z2 : Int32) (rec : Int32 → St → Option (St)) (S : St) (y3 : Int32) : Option (St) :=
  j_193_45 F G z1 z2 rec  S y3 (0 : Int32)
def b_193_12 (F G : Nat) (z1 : Nat) (z2 : Int32) (rec : Int32 → St → Option (St)) (w3 : Int32) (S : St) : Option (St) :=
  if (S.1 69 0) ≤ w3 then some S else gd (inB w3 30) (if (S.1 75 w3.toNatClampNeg) = (-1 : Int32) then j_193_44 F G z1 z2 rec  S w3 else gd (inB w3 30) (if z2 < (S.1 75 w3.toNatClampNeg) then j_193_44 F G z1 z2 rec  S w3 else j_193_45 F G z1 z2 rec  S w3 (1 : Int32)))
def fI_gather (F G : Nat) (S : St) (o2 : Nat) (p2 : Int32) : Option (St) :=
  gd (isSc o2) (lt (sI S 69 10 (0 : Int32)) fun S1 => lt (sI S1 69 11 (0 : Int32)) fun S3 => fx2 (b_193_12 F G o2 p2) F (0 : Int32) S3)
set_option maxRecDepth 100000 in
set_option maxHeartbeats 4000000 in
theorem T_193_12 {X : Nat × (Nat → Int32)} {D F G : Nat} (hD : 1 ≤ D + 1) {z1 : Nat} {z2 : Int32} (hz1 : isSc z1 = true) : ∀ (f : Nat) (w3 : Int32) (S : St) (res : St), fx2 (b_193_12 F G z1 z2 ) f w3 S = some res → Ek X (D + 1) m193 12 [(0, .ref 69), (1, .ref z1), (2, .int z2), (3, .int w3)] [] S none res := by
  refine fx2_ind ?_
  intro rec ih w3 S res h
  unfold b_193_12 at h
  have J45 : ∀ (S : St) (y3 : Int32) (s0 : Int32) (res : St), j_193_45 F G z1 z2 rec S y3 s0 = some res → Ek X (D + 1) m193 45 [(0, .ref 69), (1, .ref z1), (2, .int z2), (3, .int y3)] [.int s0] S none res := by
    intro S y3 s0 res h
    unfold j_193_45 at h
    refine x_istore (L1 := [(0, .ref 69), (1, .ref z1), (2, .int z2), (3, .int y3), (4, .int s0)]) d_193_45 (Nat.le_of_ble_eq_true rfl) rfl rfl ?_
    refine x_aload_n d_193_47 rfl 0 rfl ?_
    refine y_getR d_193_48 fl_10_25 rfl kd_69 rr_69_7 ?_
    refine x_iload_n d_193_51 rfl 3 rfl ?_
    obtain ⟨g10, h⟩ := gd_inv h
    refine y_iald d_193_52 kd_74 g10 ?_
    refine x_iload_n d_193_53 rfl 2 rfl ?_
    refine x_icmp_gt (tgt := 124) d_193_54 rfl (fun c11 => ?_) (fun c11 => ?_)
    · replace h := ite_t c11 h
      obtain ⟨v12, e13, h⟩ := lt_inv h
      refine y_iinc (L1 := [(0, .ref 69), (1, .ref z1), (2, .int z2), (3, .int v12), (4, .int s0)]) e13 ic_1 d_193_124 3 rfl (Nat.le_of_ble_eq_true rfl) rfl rfl ?_
      refine x_goto (tgt := 12) d_193_127 rfl ?_
      refine y_pick (L1 := [(0, .ref 69), (1, .ref z1), (2, .int z2), (3, .int v12)]) [0, 1, 2, 3] rfl ?_
      exact ih v12 S _ h
    · replace h := ite_f c11 h
      refine x_iload d_193_57 4 rfl ?_
      refine x_if_ne (tgt := 124) d_193_59 rfl (fun c14 => ?_) (fun c14 => ?_)
      · replace h := ite_f c14 h
        obtain ⟨v15, e16, h⟩ := lt_inv h
        refine y_iinc (L1 := [(0, .ref 69), (1, .ref z1), (2, .int z2), (3, .int v15), (4, .int s0)]) e16 ic_1 d_193_124 3 rfl (Nat.le_of_ble_eq_true rfl) rfl rfl ?_
        refine x_goto (tgt := 12) d_193_127 rfl ?_
        refine y_pick (L1 := [(0, .ref 69), (1, .ref z1), (2, .int z2), (3, .int v15)]) [0, 1, 2, 3] rfl ?_
        exact ih v15 S _ h
      · replace h := ite_t c14 h
        refine x_aload_n d_193_62 rfl 1 rfl ?_
        refine x_aload_n d_193_63 rfl 0 rfl ?_
        refine y_getR d_193_64 fl_10_15 rfl kd_69 rr_69_4 ?_
        refine x_iload_n d_193_67 rfl 3 rfl ?_
        obtain ⟨g17, h⟩ := gd_inv h
        refine y_iald d_193_68 kd_71 g17 ?_
        refine x_aload_n d_193_69 rfl 0 rfl ?_
        refine y_getR d_193_70 fl_10_18 rfl kd_69 rr_69_5 ?_
        refine x_iload_n d_193_73 rfl 3 rfl ?_
        obtain ⟨g18, h⟩ := gd_inv h
        refine y_iald d_193_74 kd_72 g18 ?_
        obtain ⟨v20, q19, h⟩ := bd_inv h
        refine y_S3i (v := v20) (S1 := S) d_193_75 ml_10_68 (Nat.le_of_ble_eq_true rfl) (Nat.le_of_ble_eq_true rfl) (c_194 (by omega) q19) ?_
        refine x_istore (L1 := [(0, .ref 69), (1, .ref z1), (2, .int z2), (3, .int y3), (4, .int s0), (5, .int v20)]) d_193_78 (Nat.le_of_ble_eq_true rfl) rfl rfl ?_
        refine x_aload_n d_193_80 rfl 0 rfl ?_
        refine y_getR d_193_81 fl_10_21 rfl kd_69 rr_69_6 ?_
        refine x_iload_n d_193_84 rfl 3 rfl ?_
        obtain ⟨g21, h⟩ := gd_inv h
        refine y_zald d_193_85 kd_73 g21 ?_
        refine x_if_eq (tgt := 113) d_193_86 rfl (fun c22 => ?_) (fun c22 => ?_)
        · replace h := ite_t c22 h
          refine x_aload_n d_193_113 rfl 0 rfl ?_
          refine x_dup d_193_114 rfl ?_
          refine y_getI d_193_115 fl_10_65 rfl kd_69 ?_
          refine x_iload d_193_118 5 rfl ?_
          refine x_ior d_193_120 ?_
          obtain ⟨S23, e24, h⟩ := lt_inv h
          refine y_putI e24 d_193_121 fl_10_65 rfl rfl kd_69 rfl rfl ?_
          obtain ⟨v25, e26, h⟩ := lt_inv h
          refine y_iinc (L1 := [(0, .ref 69), (1, .ref z1), (2, .int z2), (3, .int v25), (4, .int s0), (5, .int v20)]) e26 ic_1 d_193_124 3 rfl (Nat.le_of_ble_eq_true rfl) rfl rfl ?_
          refine x_goto (tgt := 12) d_193_127 rfl ?_
          refine y_pick (L1 := [(0, .ref 69), (1, .ref z1), (2, .int z2), (3, .int v25)]) [0, 1, 2, 3] rfl ?_
          exact ih v25 S23 _ h
        · replace h := ite_f c22 h
          refine x_aload_n d_193_89 rfl 0 rfl ?_
          refine y_getR d_193_90 fl_10_31 rfl kd_69 rr_69_9 ?_
          refine x_aload_n d_193_93 rfl 0 rfl ?_
          refine y_getI d_193_94 fl_10_62 rfl kd_69 ?_
          refine x_iload d_193_97 5 rfl ?_
          obtain ⟨g27, h⟩ := gd_inv h
          obtain ⟨S28, e29, h⟩ := lt_inv h
          refine y_iast e29 d_193_99 kd_76 g27 ?_
          refine x_aload_n d_193_100 rfl 0 rfl ?_
          refine x_dup d_193_101 rfl ?_
          refine y_getI d_193_102 fl_10_62 rfl kd_69 ?_
          refine x_iconst d_193_105 ic_1 ?_
          refine x_iadd d_193_106 ?_
          obtain ⟨S30, e31, h⟩ := lt_inv h
          refine y_putI e31 d_193_107 fl_10_62 rfl rfl kd_69 rfl rfl ?_
          refine x_goto (tgt := 124) d_193_110 rfl ?_
          obtain ⟨v32, e33, h⟩ := lt_inv h
          refine y_iinc (L1 := [(0, .ref 69), (1, .ref z1), (2, .int z2), (3, .int v32), (4, .int s0), (5, .int v20)]) e33 ic_1 d_193_124 3 rfl (Nat.le_of_ble_eq_true rfl) rfl rfl ?_
          refine x_goto (tgt := 12) d_193_127 rfl ?_
          refine y_pick (L1 := [(0, .ref 69), (1, .ref z1), (2, .int z2), (3, .int v32)]) [0, 1, 2, 3] rfl ?_
          exact ih v32 S30 _ h
  have J44 : ∀ (S : St) (y3 : Int32) (res : St), j_193_44 F G z1 z2 rec S y3 = some res → Ek X (D + 1) m193 44 [(0, .ref 69), (1, .ref z1), (2, .int z2), (3, .int y3)] [] S none res := by
    intro S y3 res h
    unfold j_193_44 at h
    refine x_iconst d_193_44 ic_0 ?_
    exact J45 S y3 (0 : Int32) _ h
  refine x_iload_n d_193_12 rfl 3 rfl ?_
  refine x_aload_n d_193_13 rfl 0 rfl ?_
  refine y_getI d_193_14 fl_10_34 rfl kd_69 ?_
  refine x_icmp_ge (tgt := 130) d_193_17 rfl (fun c5 => ?_) (fun c5 => ?_)
  · replace h := ite_t c5 h
    obtain rfl := Option.some.inj h
    exact x_ret (r := none) d_193_130 rfl
  · replace h := ite_f c5 h
    refine x_aload_n d_193_20 rfl 0 rfl ?_
    refine y_getR d_193_21 fl_10_28 rfl kd_69 rr_69_8 ?_
    refine x_iload_n d_193_24 rfl 3 rfl ?_
    obtain ⟨g6, h⟩ := gd_inv h
    refine y_iald d_193_25 kd_75 g6 ?_
    refine x_iconst d_193_26 ic_m1 ?_
    refine x_icmp_eq (tgt := 44) d_193_27 rfl (fun c7 => ?_) (fun c7 => ?_)
    · replace h := ite_t c7 h
      exact J44 S w3 _ h
    · replace h := ite_f c7 h
      refine x_aload_n d_193_30 rfl 0 rfl ?_
      refine y_getR d_193_31 fl_10_28 rfl kd_69 rr_69_8 ?_
      refine x_iload_n d_193_34 rfl 3 rfl ?_
      obtain ⟨g8, h⟩ := gd_inv h
      refine y_iald d_193_35 kd_75 g8 ?_
      refine x_iload_n d_193_36 rfl 2 rfl ?_
      refine x_icmp_gt (tgt := 44) d_193_37 rfl (fun c9 => ?_) (fun c9 => ?_)
      · replace h := ite_t c9 h
        exact J44 S w3 _ h
      · replace h := ite_f c9 h
        refine x_iconst d_193_40 ic_1 ?_
        refine x_goto (tgt := 45) d_193_41 rfl ?_
        exact J45 S w3 (1 : Int32) _ h
set_option maxRecDepth 100000 in
set_option maxHeartbeats 4000000 in
theorem c_193 {X : Nat × (Nat → Int32)} {D F G : Nat} (hD : 1 ≤ D) {S : St} {o2 : Nat} {p2 : Int32} {res : St} (h : fI_gather F G S o2 p2 = some res) : Ek X (D) m193 0 [(0, .ref 69), (1, .ref o2), (2, .int p2)] [] S none res := by
  obtain ⟨D, rfl⟩ : ∃ E, D = E + 1 := ⟨D - 1, by omega⟩
  unfold fI_gather at h
  obtain ⟨gg0, h⟩ := gd_inv h
  refine x_aload_n d_193_0 rfl 0 rfl ?_
  refine x_iconst d_193_1 ic_0 ?_
  obtain ⟨S1, e2, h⟩ := lt_inv h
  refine y_putI e2 d_193_2 fl_10_62 rfl rfl kd_69 rfl rfl ?_
  refine x_aload_n d_193_5 rfl 0 rfl ?_
  refine x_iconst d_193_6 ic_0 ?_
  obtain ⟨S3, e4, h⟩ := lt_inv h
  refine y_putI e4 d_193_7 fl_10_65 rfl rfl kd_69 rfl rfl ?_
  refine x_iconst d_193_10 ic_0 ?_
  refine x_istore_n (L1 := [(0, .ref 69), (1, .ref o2), (2, .int p2), (3, .int (0 : Int32))]) d_193_11 rfl (Nat.le_of_ble_eq_true rfl) rfl rfl ?_
  refine T_193_12 (by omega) gg0  F (0 : Int32) S3 _ h
/-! NinetyPlayers$Witness.isSo -/
def b_195_13 (F G : Nat) (S : St) (z1 : Int32) (rec : Int32 → Option (Int32)) (w2 : Int32) : Option (Int32) :=
  if (S.1 69 10) ≤ w2 then some (1 : Int32) else gd (inB w2 30) (if (z1 &&& (S.1 76 w2.toNatClampNeg)) = 0 then some (0 : Int32) else lt (w2 + 1) fun v5 => rec v5)
def fI_isSo (F G : Nat) (S : St) (p1 : Int32) : Option (Int32) :=
  if (p1 &&& (S.1 69 11)) = 0 then fx1 (b_195_13 F G S p1) F (0 : Int32) else some (0 : Int32)
set_option maxRecDepth 100000 in
set_option maxHeartbeats 4000000 in
theorem T_195_13 {X : Nat × (Nat → Int32)} {D F G : Nat} (hD : 0 ≤ D) {S : St} {z1 : Int32} : ∀ (f : Nat) (w2 : Int32) (res : Int32), fx1 (b_195_13 F G S z1 ) f w2 = some res → Ek X (D) m195 13 [(0, .ref 69), (1, .int z1), (2, .int w2)] [] S (some (.int res)) S := by
  refine fx1_ind ?_
  intro rec ih w2 res h
  unfold b_195_13 at h
  refine x_iload_n d_195_13 rfl 2 rfl ?_
  refine x_aload_n d_195_14 rfl 0 rfl ?_
  refine y_getI d_195_15 fl_10_62 rfl kd_69 ?_
  refine x_icmp_ge (tgt := 40) d_195_18 rfl (fun c2 => ?_) (fun c2 => ?_)
  · replace h := ite_t c2 h
    refine x_iconst d_195_40 ic_1 ?_
    obtain rfl := Option.some.inj h
    exact x_ret (r := some (.int (1 : Int32))) d_195_41 ⟨_, rfl, rfl⟩
  · replace h := ite_f c2 h
    refine x_iload_n d_195_21 rfl 1 rfl ?_
    refine x_aload_n d_195_22 rfl 0 rfl ?_
    refine y_getR d_195_23 fl_10_31 rfl kd_69 rr_69_9 ?_
    refine x_iload_n d_195_26 rfl 2 rfl ?_
    obtain ⟨g3, h⟩ := gd_inv h
    refine y_iald d_195_27 kd_76 g3 ?_
    refine x_iand d_195_28 ?_
    refine x_if_ne (tgt := 34) d_195_29 rfl (fun c4 => ?_) (fun c4 => ?_)
    · replace h := ite_f c4 h
      obtain ⟨v5, e6, h⟩ := lt_inv h
      refine y_iinc (L1 := [(0, .ref 69), (1, .int z1), (2, .int v5)]) e6 ic_1 d_195_34 2 rfl (Nat.le_of_ble_eq_true rfl) rfl rfl ?_
      refine x_goto (tgt := 13) d_195_37 rfl ?_
      exact ih v5 _ h
    · replace h := ite_t c4 h
      refine x_iconst d_195_32 ic_0 ?_
      obtain rfl := Option.some.inj h
      exact x_ret (r := some (.int (0 : Int32))) d_195_33 ⟨_, rfl, rfl⟩
set_option maxRecDepth 100000 in
set_option maxHeartbeats 4000000 in
theorem c_195 {X : Nat × (Nat → Int32)} {D F G : Nat} (hD : 0 ≤ D) {S : St} {p1 : Int32} {res : Int32} (h : fI_isSo F G S p1 = some res) : Ek X (D) m195 0 [(0, .ref 69), (1, .int p1)] [] S (some (.int res)) S := by
  unfold fI_isSo at h
  refine x_iload_n d_195_0 rfl 1 rfl ?_
  refine x_aload_n d_195_1 rfl 0 rfl ?_
  refine y_getI d_195_2 fl_10_65 rfl kd_69 ?_
  refine x_iand d_195_5 ?_
  refine x_if_eq (tgt := 11) d_195_6 rfl (fun c1 => ?_) (fun c1 => ?_)
  · replace h := ite_t c1 h
    refine x_iconst d_195_11 ic_0 ?_
    refine x_istore_n (L1 := [(0, .ref 69), (1, .int p1), (2, .int (0 : Int32))]) d_195_12 rfl (Nat.le_of_ble_eq_true rfl) rfl rfl ?_
    refine T_195_13 (by omega)   F (0 : Int32) _ h
  · replace h := ite_f c1 h
    refine x_iconst d_195_9 ic_0 ?_
    obtain rfl := Option.some.inj h
    exact x_ret (r := some (.int (0 : Int32))) d_195_10 ⟨_, rfl, rfl⟩
/-! NinetyPlayers$Witness.countIn -/
def b_196_12 (F G : Nat) (z1 : Int32) (rec : Int32 → St → Option (St)) (w2 : Int32) (S : St) : Option (St) :=
  if (10 : Int32) ≤ w2 then some S else gd (inB w2 10) (gd (inB w2 10) (lt (sI S 70 w2.toNatClampNeg ((S.1 70 w2.toNatClampNeg) + ((z1 >>> (w2 &&& 31)) &&& (1 : Int32)))) fun S6 => lt (w2 + 1) fun v8 => rec v8 S6))
def fI_countIn (F G : Nat) (S : St) (p1 : Int32) : Option (St) :=
  lt (sI S 69 2 ((S.1 69 2) + (1 : Int32))) fun S1 => fx2 (b_196_12 F G p1) F (0 : Int32) S1
set_option maxRecDepth 100000 in
set_option maxHeartbeats 4000000 in
theorem T_196_12 {X : Nat × (Nat → Int32)} {D F G : Nat} (hD : 0 ≤ D) {z1 : Int32} : ∀ (f : Nat) (w2 : Int32) (S : St) (res : St), fx2 (b_196_12 F G z1 ) f w2 S = some res → Ek X (D) m196 12 [(0, .ref 69), (1, .int z1), (2, .int w2)] [] S none res := by
  refine fx2_ind ?_
  intro rec ih w2 S res h
  unfold b_196_12 at h
  refine x_iload_n d_196_12 rfl 2 rfl ?_
  refine x_bipush d_196_13 bp_10 ?_
  refine x_icmp_ge (tgt := 38) d_196_15 rfl (fun c3 => ?_) (fun c3 => ?_)
  · replace h := ite_t c3 h
    obtain rfl := Option.some.inj h
    exact x_ret (r := none) d_196_38 rfl
  · replace h := ite_f c3 h
    refine x_aload_n d_196_18 rfl 0 rfl ?_
    refine y_getR d_196_19 fl_10_9 rfl kd_69 rr_69_3 ?_
    refine x_iload_n d_196_22 rfl 2 rfl ?_
    refine x_dup2 d_196_23 rfl rfl ?_
    obtain ⟨g4, h⟩ := gd_inv h
    refine y_iald d_196_24 kd_70 g4 ?_
    refine x_iload_n d_196_25 rfl 1 rfl ?_
    refine x_iload_n d_196_26 rfl 2 rfl ?_
    refine x_ishr d_196_27 ?_
    refine x_iconst d_196_28 ic_1 ?_
    refine x_iand d_196_29 ?_
    refine x_iadd d_196_30 ?_
    obtain ⟨g5, h⟩ := gd_inv h
    obtain ⟨S6, e7, h⟩ := lt_inv h
    refine y_iast e7 d_196_31 kd_70 g5 ?_
    obtain ⟨v8, e9, h⟩ := lt_inv h
    refine y_iinc (L1 := [(0, .ref 69), (1, .int z1), (2, .int v8)]) e9 ic_1 d_196_32 2 rfl (Nat.le_of_ble_eq_true rfl) rfl rfl ?_
    refine x_goto (tgt := 12) d_196_35 rfl ?_
    exact ih v8 S6 _ h
set_option maxRecDepth 100000 in
set_option maxHeartbeats 4000000 in
theorem c_196 {X : Nat × (Nat → Int32)} {D F G : Nat} (hD : 0 ≤ D) {S : St} {p1 : Int32} {res : St} (h : fI_countIn F G S p1 = some res) : Ek X (D) m196 0 [(0, .ref 69), (1, .int p1)] [] S none res := by
  unfold fI_countIn at h
  refine x_aload_n d_196_0 rfl 0 rfl ?_
  refine x_dup d_196_1 rfl ?_
  refine y_getI d_196_2 fl_10_46 rfl kd_69 ?_
  refine x_iconst d_196_5 ic_1 ?_
  refine x_iadd d_196_6 ?_
  obtain ⟨S1, e2, h⟩ := lt_inv h
  refine y_putI e2 d_196_7 fl_10_46 rfl rfl kd_69 rfl rfl ?_
  refine x_iconst d_196_10 ic_0 ?_
  refine x_istore_n (L1 := [(0, .ref 69), (1, .int p1), (2, .int (0 : Int32))]) d_196_11 rfl (Nat.le_of_ble_eq_true rfl) rfl rfl ?_
  refine T_196_12 (by omega)   F (0 : Int32) S1 _ h
/-! NinetyPlayers$Witness.count -/
def b_192_13 (F G : Nat) (z1 : Nat) (k32 : St → Option (St)) (rec : Int32 → St → Option (St)) (w3 : Int32) (S : St) : Option (St) :=
  if (10 : Int32) ≤ w3 then k32 S else gd (inB w3 10) (lt (sI S 70 w3.toNatClampNeg (0 : Int32)) fun S7 => lt (w3 + 1) fun v9 => rec v9 S7)
def b_192_34 (F G : Nat) (z1 : Nat) (rec : Int32 → St → Option (St)) (w3 : Int32) (S : St) : Option (St) :=
  if ((1 : Int32) <<< ((S.1 z1 6) &&& 31)) ≤ w3 then some S else bd (fI_isSo F G S w3) fun v14 => if v14 = 0 then lt (w3 + 1) fun v16 => rec v16 S else bd (fI_countIn F G S w3) fun S19 => lt (w3 + 1) fun v20 => rec v20 S19
def fI_count (F G : Nat) (S : St) (o2 : Nat) (p2 : Int32) : Option (St) :=
  gd (isSc o2) (bd (fI_gather F G S o2 p2) fun S2 => lt (sI S2 69 2 (0 : Int32)) fun S3 => fx2 (b_192_13 F G o2 (fun S11 => fx2 (b_192_34 F G o2) F (0 : Int32) S11)) F (0 : Int32) S3)
set_option maxRecDepth 100000 in
set_option maxHeartbeats 4000000 in
theorem T_192_13 {X : Nat × (Nat → Int32)} {D F G : Nat} (hD : 2 ≤ D + 1) {z1 : Nat} (hz1 : isSc z1 = true) {k32 : St → Option (St)} (hk32 : ∀ (S1 : St) (res : St), k32 S1 = some res → Ek X (D + 1) m192 32 [(0, .ref 69), (1, .ref z1)] [] S1 none res) : ∀ (f : Nat) (w3 : Int32) (S : St) (res : St), fx2 (b_192_13 F G z1 k32 ) f w3 S = some res → Ek X (D + 1) m192 13 [(0, .ref 69), (1, .ref z1), (3, .int w3)] [] S none res := by
  refine fx2_ind ?_
  intro rec ih w3 S res h
  unfold b_192_13 at h
  refine x_iload_n d_192_13 rfl 2 rfl ?_
  refine x_bipush d_192_14 bp_10 ?_
  refine x_icmp_ge (tgt := 32) d_192_16 rfl (fun c5 => ?_) (fun c5 => ?_)
  · replace h := ite_t c5 h
    refine y_pick (L1 := [(0, .ref 69), (1, .ref z1)]) [0, 1] rfl ?_
    exact hk32 S _ h
  · replace h := ite_f c5 h
    refine x_aload_n d_192_19 rfl 0 rfl ?_
    refine y_getR d_192_20 fl_10_9 rfl kd_69 rr_69_3 ?_
    refine x_iload_n d_192_23 rfl 2 rfl ?_
    refine x_iconst d_192_24 ic_0 ?_
    obtain ⟨g6, h⟩ := gd_inv h
    obtain ⟨S7, e8, h⟩ := lt_inv h
    refine y_iast e8 d_192_25 kd_70 g6 ?_
    obtain ⟨v9, e10, h⟩ := lt_inv h
    refine y_iinc (L1 := [(0, .ref 69), (1, .ref z1), (3, .int v9)]) e10 ic_1 d_192_26 2 rfl (Nat.le_of_ble_eq_true rfl) rfl rfl ?_
    refine x_goto (tgt := 13) d_192_29 rfl ?_
    exact ih v9 S7 _ h
set_option maxRecDepth 100000 in
set_option maxHeartbeats 4000000 in
theorem T_192_34 {X : Nat × (Nat → Int32)} {D F G : Nat} (hD : 2 ≤ D + 1) {z1 : Nat} (hz1 : isSc z1 = true) : ∀ (f : Nat) (w3 : Int32) (S : St) (res : St), fx2 (b_192_34 F G z1 ) f w3 S = some res → Ek X (D + 1) m192 34 [(0, .ref 69), (1, .ref z1), (3, .int w3)] [] S none res := by
  refine fx2_ind ?_
  intro rec ih w3 S res h
  unfold b_192_34 at h
  refine x_iload_n d_192_34 rfl 2 rfl ?_
  refine x_iconst d_192_35 ic_1 ?_
  refine x_aload_n d_192_36 rfl 1 rfl ?_
  refine y_getI d_192_37 fl_10_49 rfl (ksSc hz1) ?_
  refine x_ishl d_192_40 ?_
  refine x_icmp_ge (tgt := 63) d_192_41 rfl (fun c12 => ?_) (fun c12 => ?_)
  · replace h := ite_t c12 h
    obtain rfl := Option.some.inj h
    exact x_ret (r := none) d_192_63 rfl
  · replace h := ite_f c12 h
    refine x_aload_n d_192_44 rfl 0 rfl ?_
    refine x_iload_n d_192_45 rfl 2 rfl ?_
    obtain ⟨v14, q13, h⟩ := bd_inv h
    refine y_V1i (v := v14) (S1 := S) d_192_46 ml_10_54 kd_69 rfl (Nat.le_of_ble_eq_true rfl) (Nat.le_of_ble_eq_true rfl) (c_195 (by omega) q13) ?_
    refine x_if_eq (tgt := 57) d_192_49 rfl (fun c15 => ?_) (fun c15 => ?_)
    · replace h := ite_t c15 h
      obtain ⟨v16, e17, h⟩ := lt_inv h
      refine y_iinc (L1 := [(0, .ref 69), (1, .ref z1), (3, .int v16)]) e17 ic_1 d_192_57 2 rfl (Nat.le_of_ble_eq_true rfl) rfl rfl ?_
      refine x_goto (tgt := 34) d_192_60 rfl ?_
      exact ih v16 S _ h
    · replace h := ite_f c15 h
      refine x_aload_n d_192_52 rfl 0 rfl ?_
      refine x_iload_n d_192_53 rfl 2 rfl ?_
      obtain ⟨S19, q18, h⟩ := bd_inv h
      refine y_V1v (S1 := S19) d_192_54 ml_10_58 kd_69 rfl (Nat.le_of_ble_eq_true rfl) (Nat.le_of_ble_eq_true rfl) (c_196 (by omega) q18) ?_
      obtain ⟨v20, e21, h⟩ := lt_inv h
      refine y_iinc (L1 := [(0, .ref 69), (1, .ref z1), (3, .int v20)]) e21 ic_1 d_192_57 2 rfl (Nat.le_of_ble_eq_true rfl) rfl rfl ?_
      refine x_goto (tgt := 34) d_192_60 rfl ?_
      exact ih v20 S19 _ h
set_option maxRecDepth 100000 in
set_option maxHeartbeats 4000000 in
theorem c_192 {X : Nat × (Nat → Int32)} {D F G : Nat} (hD : 2 ≤ D) {S : St} {o2 : Nat} {p2 : Int32} {res : St} (h : fI_count F G S o2 p2 = some res) : Ek X (D) m192 0 [(0, .ref 69), (1, .ref o2), (2, .int p2)] [] S none res := by
  obtain ⟨D, rfl⟩ : ∃ E, D = E + 1 := ⟨D - 1, by omega⟩
  unfold fI_count at h
  obtain ⟨gg0, h⟩ := gd_inv h
  refine x_aload_n d_192_0 rfl 0 rfl ?_
  refine x_aload_n d_192_1 rfl 1 rfl ?_
  refine x_iload_n d_192_2 rfl 2 rfl ?_
  obtain ⟨S2, q1, h⟩ := bd_inv h
  refine y_V2v (S1 := S2) d_192_3 ml_10_42 kd_69 rfl (Nat.le_of_ble_eq_true rfl) (Nat.le_of_ble_eq_true rfl) (c_193 (by omega) q1) ?_
  refine x_aload_n d_192_6 rfl 0 rfl ?_
  refine x_iconst d_192_7 ic_0 ?_
  obtain ⟨S3, e4, h⟩ := lt_inv h
  refine y_putI e4 d_192_8 fl_10_46 rfl rfl kd_69 rfl rfl ?_
  refine x_iconst d_192_11 ic_0 ?_
  refine x_istore_n (L1 := [(0, .ref 69), (1, .ref o2), (2, .int p2), (3, .int (0 : Int32))]) d_192_12 rfl (Nat.le_of_ble_eq_true rfl) rfl rfl ?_
  refine y_pick (L1 := [(0, .ref 69), (1, .ref o2), (3, .int (0 : Int32))]) [0, 1, 3] rfl ?_
  refine T_192_13 (by omega) gg0 ?_ F (0 : Int32) S3 _ h
  · intro S11 res h
    refine x_iconst d_192_32 ic_0 ?_
    refine x_istore_n (L1 := [(0, .ref 69), (1, .ref o2), (3, .int (0 : Int32))]) d_192_33 rfl (Nat.le_of_ble_eq_true rfl) rfl rfl ?_
    refine T_192_34 (by omega) gg0  F (0 : Int32) S11 _ h
/-! NinetyPlayers.sets -/
def fN_sets (F G : Nat) (S : St) (p1 : Int32) : Option (Int32 × St) :=
  gd (isSc S.2.2.1) (bd (fI_count F G S S.2.2.1 p1) fun S3 => some (S3.1 69 2, S3))
set_option maxRecDepth 100000 in
set_option maxHeartbeats 4000000 in
theorem c_191 {X : Nat × (Nat → Int32)} {D F G : Nat} (hD : 3 ≤ D) {S : St} {p1 : Int32} {res : Int32 × St} (h : fN_sets F G S p1 = some res) : Ek X (D) m191 0 [(0, .ref 0), (1, .int p1)] [] S (some (.int res.1)) res.2 := by
  obtain ⟨D, rfl⟩ : ∃ E, D = E + 1 := ⟨D - 1, by omega⟩
  unfold fN_sets at h
  refine x_aload_n d_191_0 rfl 0 rfl ?_
  refine y_getR d_191_1 fl_0_79 rfl kd_0 rr_0_11 ?_
  refine x_aload_n d_191_4 rfl 0 rfl ?_
  refine y_getR d_191_5 fl_0_25 rfl kd_0 rr_told ?_
  obtain ⟨g1, h⟩ := gd_inv h
  refine x_iload_n d_191_8 rfl 1 rfl ?_
  obtain ⟨S3, q2, h⟩ := bd_inv h
  refine y_V2v (S1 := S3) d_191_9 ml_0_326 kd_69 rfl (Nat.le_of_ble_eq_true rfl) (Nat.le_of_ble_eq_true rfl) (c_192 (by omega) q2) ?_
  refine x_aload_n d_191_12 rfl 0 rfl ?_
  refine y_getR d_191_13 fl_0_79 rfl kd_0 rr_0_11 ?_
  refine y_getI d_191_16 fl_0_330 rfl kd_69 ?_
  obtain rfl := Option.some.inj h
  exact x_ret (r := some (.int (S3.1 69 2))) d_191_19 ⟨_, rfl, rfl⟩
/-! NinetyPlayers.sure -/
def fN_sure (F G : Nat) (S : St) (p1 : Int32) (p2 : Int32) : Option (Int32 × St) :=
  bd (fN_isNote F G S p1) fun v2 => if v2 = 0 then some ((-1 : Int32), S) else gd (isSc S.2.2.1) (bd (fI_count F G S S.2.2.1 p2) fun S6 => if (S6.1 69 2) = 0 then some ((-1 : Int32), S6) else gd (inB p1 10) (lt (S6.1 70 p1.toNatClampNeg) fun v9 => if v9 = (S6.1 69 2) then some ((1 : Int32), S6) else if v9 = 0 then some ((0 : Int32), S6) else some ((-2 : Int32), S6)))
set_option maxRecDepth 100000 in
set_option maxHeartbeats 4000000 in
theorem c_197 {X : Nat × (Nat → Int32)} {D F G : Nat} (hD : 3 ≤ D) {S : St} {p1 : Int32} {p2 : Int32} {res : Int32 × St} (h : fN_sure F G S p1 p2 = some res) : Ek X (D) m197 0 [(0, .ref 0), (1, .int p1), (2, .int p2)] [] S (some (.int res.1)) res.2 := by
  obtain ⟨D, rfl⟩ : ∃ E, D = E + 1 := ⟨D - 1, by omega⟩
  unfold fN_sure at h
  refine x_aload_n d_197_0 rfl 0 rfl ?_
  refine x_iload_n d_197_1 rfl 1 rfl ?_
  obtain ⟨v2, q1, h⟩ := bd_inv h
  refine y_V1i (v := v2) (S1 := S) d_197_2 ml_0_126 kd_0 rfl (Nat.le_of_ble_eq_true rfl) (Nat.le_of_ble_eq_true rfl) (c_87 (by omega) q1) ?_
  refine x_if_ne (tgt := 10) d_197_5 rfl (fun c3 => ?_) (fun c3 => ?_)
  · replace h := ite_f c3 h
    refine x_aload_n d_197_10 rfl 0 rfl ?_
    refine y_getR d_197_11 fl_0_79 rfl kd_0 rr_0_11 ?_
    refine x_aload_n d_197_14 rfl 0 rfl ?_
    refine y_getR d_197_15 fl_0_25 rfl kd_0 rr_told ?_
    obtain ⟨g4, h⟩ := gd_inv h
    refine x_iload_n d_197_18 rfl 2 rfl ?_
    obtain ⟨S6, q5, h⟩ := bd_inv h
    refine y_V2v (S1 := S6) d_197_19 ml_0_326 kd_69 rfl (Nat.le_of_ble_eq_true rfl) (Nat.le_of_ble_eq_true rfl) (c_192 (by omega) q5) ?_
    refine x_aload_n d_197_22 rfl 0 rfl ?_
    refine y_getR d_197_23 fl_0_79 rfl kd_0 rr_0_11 ?_
    refine y_getI d_197_26 fl_0_330 rfl kd_69 ?_
    refine x_if_ne (tgt := 34) d_197_29 rfl (fun c7 => ?_) (fun c7 => ?_)
    · replace h := ite_f c7 h
      refine x_aload_n d_197_34 rfl 0 rfl ?_
      refine y_getR d_197_35 fl_0_79 rfl kd_0 rr_0_11 ?_
      refine y_getR d_197_38 fl_0_333 rfl kd_69 rr_69_3 ?_
      refine x_iload_n d_197_41 rfl 1 rfl ?_
      obtain ⟨g8, h⟩ := gd_inv h
      refine y_iald d_197_42 kd_70 g8 ?_
      obtain ⟨v9, e10, h⟩ := lt_inv h
      refine y_istore_n (L1 := [(0, .ref 0), (1, .int p1), (2, .int p2), (3, .int v9)]) e10 d_197_43 rfl (Nat.le_of_ble_eq_true rfl) rfl rfl ?_
      refine x_iload_n d_197_44 rfl 3 rfl ?_
      refine x_aload_n d_197_45 rfl 0 rfl ?_
      refine y_getR d_197_46 fl_0_79 rfl kd_0 rr_0_11 ?_
      refine y_getI d_197_49 fl_0_330 rfl kd_69 ?_
      refine x_icmp_ne (tgt := 57) d_197_52 rfl (fun c11 => ?_) (fun c11 => ?_)
      · replace h := ite_f c11 h
        refine x_iload_n d_197_57 rfl 3 rfl ?_
        refine x_if_ne (tgt := 65) d_197_58 rfl (fun c12 => ?_) (fun c12 => ?_)
        · replace h := ite_f c12 h
          refine x_bipush d_197_65 bp_m2 ?_
          obtain rfl := Option.some.inj h
          exact x_ret (r := some (.int (-2 : Int32))) d_197_67 ⟨_, rfl, rfl⟩
        · replace h := ite_t c12 h
          refine x_iconst d_197_61 ic_0 ?_
          refine x_goto (tgt := 67) d_197_62 rfl ?_
          obtain rfl := Option.some.inj h
          exact x_ret (r := some (.int (0 : Int32))) d_197_67 ⟨_, rfl, rfl⟩
      · replace h := ite_t c11 h
        refine x_iconst d_197_55 ic_1 ?_
        obtain rfl := Option.some.inj h
        exact x_ret (r := some (.int (1 : Int32))) d_197_56 ⟨_, rfl, rfl⟩
    · replace h := ite_t c7 h
      refine x_iconst d_197_32 ic_m1 ?_
      obtain rfl := Option.some.inj h
      exact x_ret (r := some (.int (-1 : Int32))) d_197_33 ⟨_, rfl, rfl⟩
  · replace h := ite_t c3 h
    refine x_iconst d_197_8 ic_m1 ?_
    obtain rfl := Option.some.inj h
    exact x_ret (r := some (.int (-1 : Int32))) d_197_9 ⟨_, rfl, rfl⟩
/-! NinetyPlayers.ask -/
def b_198_39 (F G : Nat) (S : St) (z1 : Int32) (rec : Int32 → Int32 → Int32 → Option (Int32 × St)) (w3 : Int32) (w4 : Int32) (w5 : Int32) : Option (Int32 × St) :=
  gd (isSc S.2.2.1) (if (S.1 S.2.2.1 6) ≤ w5 then if z1 = 0 then some (w3, S) else if w3 = (-1 : Int32) then some (w3, S) else some (w4, S) else if (S.1 69 2) ≤ 0 then if z1 = 0 then some (w3, S) else if w3 = (-1 : Int32) then some (w3, S) else some (w4, S) else gd (inB w5 10) (gd (inB w5 10) (lt (if (S.1 70 w5.toNatClampNeg) < ((S.1 69 2) - (S.1 70 w5.toNatClampNeg)) then ((S.1 69 2) - (S.1 70 w5.toNatClampNeg)) else (S.1 70 w5.toNatClampNeg)) fun v17 => if w4 ≤ v17 then lt (w5 + 1) fun v20 => rec w3 w4 v20 else lt (w5 + 1) fun v22 => rec w5 v17 v22)))
def fN_ask (F G : Nat) (S : St) (p1 : Int32) (p2 : Int32) : Option (Int32 × St) :=
  if p1 < 0 then some ((-1 : Int32), S) else if p1 ≤ (1 : Int32) then gd (isSc S.2.2.1) (bd (fI_count F G S S.2.2.1 p2) fun S5 => lt ((S5.1 69 2) + (1 : Int32)) fun v6 => fx3 (b_198_39 F G S5 p1) F (-1 : Int32) v6 (0 : Int32)) else some ((-1 : Int32), S)
set_option maxRecDepth 100000 in
set_option maxHeartbeats 4000000 in
theorem T_198_39 {X : Nat × (Nat → Int32)} {D F G : Nat} (hD : 3 ≤ D + 1) {S : St} {z1 : Int32} : ∀ (f : Nat) (w3 : Int32) (w4 : Int32) (w5 : Int32) (res : Int32 × St), fx3 (b_198_39 F G S z1 ) f w3 w4 w5 = some res → Ek X (D + 1) m198 39 [(0, .ref 0), (1, .int z1), (3, .int w3), (4, .int w4), (5, .int w5)] [] S (some (.int res.1)) res.2 := by
  refine fx3_ind ?_
  intro rec ih w3 w4 w5 res h
  unfold b_198_39 at h
  refine x_iload d_198_39 4 rfl ?_
  refine x_aload_n d_198_41 rfl 0 rfl ?_
  refine y_getR d_198_42 fl_0_25 rfl kd_0 rr_told ?_
  obtain ⟨g8, h⟩ := gd_inv h
  refine y_getI d_198_45 fl_0_117 rfl (ksSc g8) ?_
  refine x_icmp_ge (tgt := 114) d_198_48 rfl (fun c9 => ?_) (fun c9 => ?_)
  · replace h := ite_t c9 h
    refine x_iload_n d_198_114 rfl 1 rfl ?_
    refine x_if_eq (tgt := 123) d_198_115 rfl (fun c10 => ?_) (fun c10 => ?_)
    · replace h := ite_t c10 h
      refine x_iload_n d_198_123 rfl 2 rfl ?_
      refine x_goto (tgt := 129) d_198_124 rfl ?_
      obtain rfl := Option.some.inj h
      exact x_ret (r := some (.int w3)) d_198_129 ⟨_, rfl, rfl⟩
    · replace h := ite_f c10 h
      refine x_iload_n d_198_118 rfl 2 rfl ?_
      refine x_iconst d_198_119 ic_m1 ?_
      refine x_icmp_ne (tgt := 127) d_198_120 rfl (fun c11 => ?_) (fun c11 => ?_)
      · replace h := ite_f c11 h
        refine x_iload d_198_127 3 rfl ?_
        obtain rfl := Option.some.inj h
        exact x_ret (r := some (.int w4)) d_198_129 ⟨_, rfl, rfl⟩
      · replace h := ite_t c11 h
        refine x_iload_n d_198_123 rfl 2 rfl ?_
        refine x_goto (tgt := 129) d_198_124 rfl ?_
        obtain rfl := Option.some.inj h
        exact x_ret (r := some (.int w3)) d_198_129 ⟨_, rfl, rfl⟩
  · replace h := ite_f c9 h
    refine x_aload_n d_198_51 rfl 0 rfl ?_
    refine y_getR d_198_52 fl_0_79 rfl kd_0 rr_0_11 ?_
    refine y_getI d_198_55 fl_0_330 rfl kd_69 ?_
    refine x_if_le (tgt := 114) d_198_58 rfl (fun c12 => ?_) (fun c12 => ?_)
    · replace h := ite_t c12 h
      refine x_iload_n d_198_114 rfl 1 rfl ?_
      refine x_if_eq (tgt := 123) d_198_115 rfl (fun c13 => ?_) (fun c13 => ?_)
      · replace h := ite_t c13 h
        refine x_iload_n d_198_123 rfl 2 rfl ?_
        refine x_goto (tgt := 129) d_198_124 rfl ?_
        obtain rfl := Option.some.inj h
        exact x_ret (r := some (.int w3)) d_198_129 ⟨_, rfl, rfl⟩
      · replace h := ite_f c13 h
        refine x_iload_n d_198_118 rfl 2 rfl ?_
        refine x_iconst d_198_119 ic_m1 ?_
        refine x_icmp_ne (tgt := 127) d_198_120 rfl (fun c14 => ?_) (fun c14 => ?_)
        · replace h := ite_f c14 h
          refine x_iload d_198_127 3 rfl ?_
          obtain rfl := Option.some.inj h
          exact x_ret (r := some (.int w4)) d_198_129 ⟨_, rfl, rfl⟩
        · replace h := ite_t c14 h
          refine x_iload_n d_198_123 rfl 2 rfl ?_
          refine x_goto (tgt := 129) d_198_124 rfl ?_
          obtain rfl := Option.some.inj h
          exact x_ret (r := some (.int w3)) d_198_129 ⟨_, rfl, rfl⟩
    · replace h := ite_f c12 h
      refine x_aload_n d_198_61 rfl 0 rfl ?_
      refine y_getR d_198_62 fl_0_79 rfl kd_0 rr_0_11 ?_
      refine y_getR d_198_65 fl_0_333 rfl kd_69 rr_69_3 ?_
      refine x_iload d_198_68 4 rfl ?_
      obtain ⟨g15, h⟩ := gd_inv h
      refine y_iald d_198_70 kd_70 g15 ?_
      refine x_aload_n d_198_71 rfl 0 rfl ?_
      refine y_getR d_198_72 fl_0_79 rfl kd_0 rr_0_11 ?_
      refine y_getI d_198_75 fl_0_330 rfl kd_69 ?_
      refine x_aload_n d_198_78 rfl 0 rfl ?_
      refine y_getR d_198_79 fl_0_79 rfl kd_0 rr_0_11 ?_
      refine y_getR d_198_82 fl_0_333 rfl kd_69 rr_69_3 ?_
      refine x_iload d_198_85 4 rfl ?_
      obtain ⟨g16, h⟩ := gd_inv h
      refine y_iald d_198_87 kd_70 g16 ?_
      refine x_isub d_198_88 ?_
      refine y_mmax d_198_89 ml_0_230 (Nat.le_of_ble_eq_true rfl) ?_
      obtain ⟨v17, e18, h⟩ := lt_inv h
      refine y_istore (L1 := [(0, .ref 0), (1, .int z1), (3, .int w3), (4, .int w4), (5, .int w5), (6, .int v17)]) e18 d_198_92 (Nat.le_of_ble_eq_true rfl) rfl rfl ?_
      refine x_iload d_198_94 5 rfl ?_
      refine x_iload d_198_96 3 rfl ?_
      refine x_icmp_ge (tgt := 108) d_198_98 rfl (fun c19 => ?_) (fun c19 => ?_)
      · replace h := ite_t c19 h
        obtain ⟨v20, e21, h⟩ := lt_inv h
        refine y_iinc (L1 := [(0, .ref 0), (1, .int z1), (3, .int w3), (4, .int w4), (5, .int v20), (6, .int v17)]) e21 ic_1 d_198_108 4 rfl (Nat.le_of_ble_eq_true rfl) rfl rfl ?_
        refine x_goto (tgt := 39) d_198_111 rfl ?_
        refine y_pick (L1 := [(0, .ref 0), (1, .int z1), (3, .int w3), (4, .int w4), (5, .int v20)]) [0, 1, 2, 3, 4] rfl ?_
        exact ih w3 w4 v20 _ h
      · replace h := ite_f c19 h
        refine x_iload d_198_101 5 rfl ?_
        refine x_istore (L1 := [(0, .ref 0), (1, .int z1), (3, .int w3), (4, .int v17), (5, .int w5), (6, .int v17)]) d_198_103 (Nat.le_of_ble_eq_true rfl) rfl rfl ?_
        refine x_iload d_198_105 4 rfl ?_
        refine x_istore_n (L1 := [(0, .ref 0), (1, .int z1), (3, .int w5), (4, .int v17), (5, .int w5), (6, .int v17)]) d_198_107 rfl (Nat.le_of_ble_eq_true rfl) rfl rfl ?_
        obtain ⟨v22, e23, h⟩ := lt_inv h
        refine y_iinc (L1 := [(0, .ref 0), (1, .int z1), (3, .int w5), (4, .int v17), (5, .int v22), (6, .int v17)]) e23 ic_1 d_198_108 4 rfl (Nat.le_of_ble_eq_true rfl) rfl rfl ?_
        refine x_goto (tgt := 39) d_198_111 rfl ?_
        refine y_pick (L1 := [(0, .ref 0), (1, .int z1), (3, .int w5), (4, .int v17), (5, .int v22)]) [0, 1, 2, 3, 4] rfl ?_
        exact ih w5 v17 v22 _ h
set_option maxRecDepth 100000 in
set_option maxHeartbeats 4000000 in
theorem c_198 {X : Nat × (Nat → Int32)} {D F G : Nat} (hD : 3 ≤ D) {S : St} {p1 : Int32} {p2 : Int32} {res : Int32 × St} (h : fN_ask F G S p1 p2 = some res) : Ek X (D) m198 0 [(0, .ref 0), (1, .int p1), (2, .int p2)] [] S (some (.int res.1)) res.2 := by
  obtain ⟨D, rfl⟩ : ∃ E, D = E + 1 := ⟨D - 1, by omega⟩
  unfold fN_ask at h
  refine x_iload_n d_198_0 rfl 1 rfl ?_
  refine x_if_lt (tgt := 9) d_198_1 rfl (fun c1 => ?_) (fun c1 => ?_)
  · replace h := ite_t c1 h
    refine x_iconst d_198_9 ic_m1 ?_
    obtain rfl := Option.some.inj h
    exact x_ret (r := some (.int (-1 : Int32))) d_198_10 ⟨_, rfl, rfl⟩
  · replace h := ite_f c1 h
    refine x_iload_n d_198_4 rfl 1 rfl ?_
    refine x_iconst d_198_5 ic_1 ?_
    refine x_icmp_le (tgt := 11) d_198_6 rfl (fun c2 => ?_) (fun c2 => ?_)
    · replace h := ite_t c2 h
      refine x_aload_n d_198_11 rfl 0 rfl ?_
      refine y_getR d_198_12 fl_0_79 rfl kd_0 rr_0_11 ?_
      refine x_aload_n d_198_15 rfl 0 rfl ?_
      refine y_getR d_198_16 fl_0_25 rfl kd_0 rr_told ?_
      obtain ⟨g3, h⟩ := gd_inv h
      refine x_iload_n d_198_19 rfl 2 rfl ?_
      obtain ⟨S5, q4, h⟩ := bd_inv h
      refine y_V2v (S1 := S5) d_198_20 ml_0_326 kd_69 rfl (Nat.le_of_ble_eq_true rfl) (Nat.le_of_ble_eq_true rfl) (c_192 (by omega) q4) ?_
      refine x_iconst d_198_23 ic_m1 ?_
      refine x_istore_n (L1 := [(0, .ref 0), (1, .int p1), (2, .int p2), (3, .int (-1 : Int32))]) d_198_24 rfl (Nat.le_of_ble_eq_true rfl) rfl rfl ?_
      refine x_aload_n d_198_25 rfl 0 rfl ?_
      refine y_getR d_198_26 fl_0_79 rfl kd_0 rr_0_11 ?_
      refine y_getI d_198_29 fl_0_330 rfl kd_69 ?_
      refine x_iconst d_198_32 ic_1 ?_
      refine x_iadd d_198_33 ?_
      obtain ⟨v6, e7, h⟩ := lt_inv h
      refine y_istore (L1 := [(0, .ref 0), (1, .int p1), (2, .int p2), (3, .int (-1 : Int32)), (4, .int v6)]) e7 d_198_34 (Nat.le_of_ble_eq_true rfl) rfl rfl ?_
      refine x_iconst d_198_36 ic_0 ?_
      refine x_istore (L1 := [(0, .ref 0), (1, .int p1), (2, .int p2), (3, .int (-1 : Int32)), (4, .int v6), (5, .int (0 : Int32))]) d_198_37 (Nat.le_of_ble_eq_true rfl) rfl rfl ?_
      refine y_pick (L1 := [(0, .ref 0), (1, .int p1), (3, .int (-1 : Int32)), (4, .int v6), (5, .int (0 : Int32))]) [0, 1, 3, 4, 5] rfl ?_
      refine T_198_39 (by omega)   F (-1 : Int32) v6 (0 : Int32) _ h
    · replace h := ite_f c2 h
      refine x_iconst d_198_9 ic_m1 ?_
      obtain rfl := Option.some.inj h
      exact x_ret (r := some (.int (-1 : Int32))) d_198_10 ⟨_, rfl, rfl⟩
/-! NinetyPlayers$Laying.copy -/
def b_200_10 (F G : Nat) (z0 : Nat) (z1 : Nat) (rec : Int32 → St → Option (St)) (w2 : Int32) (S : St) : Option (St) :=
  if (10 : Int32) ≤ w2 then some S else gd (inB w2 10) (gd (inB w2 10) (lt (sI S (z0 + 1) w2.toNatClampNeg (S.1 (z1 + 1) w2.toNatClampNeg)) fun S6 => gd (inB w2 10) (gd (inB w2 10) (lt (sI S6 (z0 + 2) w2.toNatClampNeg (S6.1 (z1 + 2) w2.toNatClampNeg)) fun S10 => gd (inB w2 10) (gd (inB w2 10) (lt (sI S10 (z0 + 3) w2.toNatClampNeg (S10.1 (z1 + 3) w2.toNatClampNeg)) fun S14 => gd (inB w2 10) (gd (inB w2 10) (lt (sI S14 (z0 + 4) w2.toNatClampNeg (S14.1 (z1 + 4) w2.toNatClampNeg)) fun S18 => lt (w2 + 1) fun v20 => rec v20 S18))))))))
def fL_copy (F G : Nat) (S : St) (o : Nat) (o2 : Nat) : Option (St) :=
  gd (isLa o) (gd (isLa o2) (lt (sI S o 1 (S.1 o2 1)) fun S1 => fx2 (b_200_10 F G o o2) F (0 : Int32) S1))
set_option maxRecDepth 100000 in
set_option maxHeartbeats 4000000 in
theorem T_200_10 {X : Nat × (Nat → Int32)} {D F G : Nat} (hD : 0 ≤ D) {z0 : Nat} {z1 : Nat} (hz0 : isLa z0 = true) (hz1 : isLa z1 = true) : ∀ (f : Nat) (w2 : Int32) (S : St) (res : St), fx2 (b_200_10 F G z0 z1 ) f w2 S = some res → Ek X (D) m200 10 [(0, .ref z0), (1, .ref z1), (2, .int w2)] [] S none res := by
  refine fx2_ind ?_
  intro rec ih w2 S res h
  unfold b_200_10 at h
  refine x_iload_n d_200_10 rfl 2 rfl ?_
  refine x_bipush d_200_11 bp_10 ?_
  refine x_icmp_ge (tgt := 70) d_200_13 rfl (fun c3 => ?_) (fun c3 => ?_)
  · replace h := ite_t c3 h
    obtain rfl := Option.some.inj h
    exact x_ret (r := none) d_200_70 rfl
  · replace h := ite_f c3 h
    refine x_aload_n d_200_16 rfl 0 rfl ?_
    refine y_getR d_200_17 fl_5_9 rfl (ksLa hz0) (rrLa_2 hz0) ?_
    refine x_iload_n d_200_20 rfl 2 rfl ?_
    refine x_aload_n d_200_21 rfl 1 rfl ?_
    refine y_getR d_200_22 fl_5_9 rfl (ksLa hz1) (rrLa_2 hz1) ?_
    refine x_iload_n d_200_25 rfl 2 rfl ?_
    obtain ⟨g4, h⟩ := gd_inv h
    refine y_iald d_200_26 (ksLa_1 hz1) g4 ?_
    obtain ⟨g5, h⟩ := gd_inv h
    obtain ⟨S6, e7, h⟩ := lt_inv h
    refine y_iast e7 d_200_27 (ksLa_1 hz0) g5 ?_
    refine x_aload_n d_200_28 rfl 0 rfl ?_
    refine y_getR d_200_29 fl_5_15 rfl (ksLa hz0) (rrLa_3 hz0) ?_
    refine x_iload_n d_200_32 rfl 2 rfl ?_
    refine x_aload_n d_200_33 rfl 1 rfl ?_
    refine y_getR d_200_34 fl_5_15 rfl (ksLa hz1) (rrLa_3 hz1) ?_
    refine x_iload_n d_200_37 rfl 2 rfl ?_
    obtain ⟨g8, h⟩ := gd_inv h
    refine y_iald d_200_38 (ksLa_2 hz1) g8 ?_
    obtain ⟨g9, h⟩ := gd_inv h
    obtain ⟨S10, e11, h⟩ := lt_inv h
    refine y_iast e11 d_200_39 (ksLa_2 hz0) g9 ?_
    refine x_aload_n d_200_40 rfl 0 rfl ?_
    refine y_getR d_200_41 fl_5_18 rfl (ksLa hz0) (rrLa_4 hz0) ?_
    refine x_iload_n d_200_44 rfl 2 rfl ?_
    refine x_aload_n d_200_45 rfl 1 rfl ?_
    refine y_getR d_200_46 fl_5_18 rfl (ksLa hz1) (rrLa_4 hz1) ?_
    refine x_iload_n d_200_49 rfl 2 rfl ?_
    obtain ⟨g12, h⟩ := gd_inv h
    refine y_iald d_200_50 (ksLa_3 hz1) g12 ?_
    obtain ⟨g13, h⟩ := gd_inv h
    obtain ⟨S14, e15, h⟩ := lt_inv h
    refine y_iast e15 d_200_51 (ksLa_3 hz0) g13 ?_
    refine x_aload_n d_200_52 rfl 0 rfl ?_
    refine y_getR d_200_53 fl_5_21 rfl (ksLa hz0) (rrLa_5 hz0) ?_
    refine x_iload_n d_200_56 rfl 2 rfl ?_
    refine x_aload_n d_200_57 rfl 1 rfl ?_
    refine y_getR d_200_58 fl_5_21 rfl (ksLa hz1) (rrLa_5 hz1) ?_
    refine x_iload_n d_200_61 rfl 2 rfl ?_
    obtain ⟨g16, h⟩ := gd_inv h
    refine y_iald d_200_62 (ksLa_4 hz1) g16 ?_
    obtain ⟨g17, h⟩ := gd_inv h
    obtain ⟨S18, e19, h⟩ := lt_inv h
    refine y_iast e19 d_200_63 (ksLa_4 hz0) g17 ?_
    obtain ⟨v20, e21, h⟩ := lt_inv h
    refine y_iinc (L1 := [(0, .ref z0), (1, .ref z1), (2, .int v20)]) e21 ic_1 d_200_64 2 rfl (Nat.le_of_ble_eq_true rfl) rfl rfl ?_
    refine x_goto (tgt := 10) d_200_67 rfl ?_
    exact ih v20 S18 _ h
set_option maxRecDepth 100000 in
set_option maxHeartbeats 4000000 in
theorem c_200 {X : Nat × (Nat → Int32)} {D F G : Nat} (hD : 0 ≤ D) {S : St} {o : Nat} {o2 : Nat} {res : St} (h : fL_copy F G S o o2 = some res) : Ek X (D) m200 0 [(0, .ref o), (1, .ref o2)] [] S none res := by
  unfold fL_copy at h
  obtain ⟨gg0, h⟩ := gd_inv h
  obtain ⟨gg1, h⟩ := gd_inv h
  refine x_aload_n d_200_0 rfl 0 rfl ?_
  refine x_aload_n d_200_1 rfl 1 rfl ?_
  refine y_getI d_200_2 fl_5_24 rfl (ksLa gg1) ?_
  obtain ⟨S1, e2, h⟩ := lt_inv h
  refine y_putI e2 d_200_5 fl_5_24 rfl rfl (ksLa gg0) rfl rfl ?_
  refine x_iconst d_200_8 ic_0 ?_
  refine x_istore_n (L1 := [(0, .ref o), (1, .ref o2), (2, .int (0 : Int32))]) d_200_9 rfl (Nat.le_of_ble_eq_true rfl) rfl rfl ?_
  refine T_200_10 (by omega) gg0 gg1  F (0 : Int32) S1 _ h
/-! NinetyPlayers.image -/
def fN_image (F G : Nat) (S : St) (p1 : Int32) : Option (Int32 × St) :=
  if p1 < 0 then some ((-1 : Int32), S) else if p1 < (Int32.ofNat 3) then gd (inB p1 3) (bd (fL_copy F G S (36 + 5 * p1.toNatClampNeg) 30) fun S5 => gd (inB p1 3) (lt (sI S5 (36 + 5 * p1.toNatClampNeg) 0 (1 : Int32)) fun S7 => bd (fN_givenSet F G S7) fun v10 => bd (fJ_bitCount F G S7 v10) fun v12 => some (v12, S7))) else some ((-1 : Int32), S)
set_option maxRecDepth 100000 in
set_option maxHeartbeats 4000000 in
theorem c_199 {X : Nat × (Nat → Int32)} {D F G : Nat} (hD : 2 ≤ D) {S : St} {p1 : Int32} {res : Int32 × St} (h : fN_image F G S p1 = some res) : Ek X (D) m199 0 [(0, .ref 0), (1, .int p1)] [] S (some (.int res.1)) res.2 := by
  obtain ⟨D, rfl⟩ : ∃ E, D = E + 1 := ⟨D - 1, by omega⟩
  unfold fN_image at h
  refine x_iload_n d_199_0 rfl 1 rfl ?_
  refine x_if_lt (tgt := 13) d_199_1 rfl (fun c1 => ?_) (fun c1 => ?_)
  · replace h := ite_t c1 h
    refine x_iconst d_199_13 ic_m1 ?_
    obtain rfl := Option.some.inj h
    exact x_ret (r := some (.int (-1 : Int32))) d_199_14 ⟨_, rfl, rfl⟩
  · replace h := ite_f c1 h
    refine x_iload_n d_199_4 rfl 1 rfl ?_
    refine x_aload_n d_199_5 rfl 0 rfl ?_
    refine y_getR d_199_6 fl_0_36 rfl kd_0 rr_0_5 ?_
    refine x_alen5 d_199_9 kd_35 ?_
    refine x_icmp_lt (tgt := 15) d_199_10 rfl (fun c2 => ?_) (fun c2 => ?_)
    · replace h := ite_t c2 h
      refine x_aload_n d_199_15 rfl 0 rfl ?_
      refine y_getR d_199_16 fl_0_36 rfl kd_0 rr_0_5 ?_
      refine x_iload_n d_199_19 rfl 1 rfl ?_
      obtain ⟨g3, h⟩ := gd_inv h
      refine y_aald d_199_20 g3 ?_
      refine x_aload_n d_199_21 rfl 0 rfl ?_
      refine y_getR d_199_22 fl_0_32 rfl kd_0 rr_0_4 ?_
      obtain ⟨S5, q4, h⟩ := bd_inv h
      refine y_V1v (S1 := S5) d_199_25 ml_0_336 (ksLa (isLa_box (inB_lt g3))) rfl (Nat.le_of_ble_eq_true rfl) (Nat.le_of_ble_eq_true rfl) (c_200 (by omega) q4) ?_
      refine x_aload_n d_199_28 rfl 0 rfl ?_
      refine y_getR d_199_29 fl_0_36 rfl kd_0 rr_0_5 ?_
      refine x_iload_n d_199_32 rfl 1 rfl ?_
      obtain ⟨g6, h⟩ := gd_inv h
      refine y_aald d_199_33 g6 ?_
      refine x_iconst d_199_34 ic_1 ?_
      obtain ⟨S7, e8, h⟩ := lt_inv h
      refine y_putI e8 d_199_35 fl_0_113 rfl rfl (ksLa (isLa_box (inB_lt g6))) rfl rfl ?_
      refine x_aload_n d_199_38 rfl 0 rfl ?_
      obtain ⟨v10, q9, h⟩ := bd_inv h
      refine y_V0i (v := v10) (S1 := S7) d_199_39 ml_0_163 kd_0 rfl (Nat.le_of_ble_eq_true rfl) (Nat.le_of_ble_eq_true rfl) (c_99 (by omega) q9) ?_
      obtain ⟨v12, q11, h⟩ := bd_inv h
      refine y_S1i (v := v12) (S1 := S7) d_199_42 ml_0_206 (Nat.le_of_ble_eq_true rfl) (Nat.le_of_ble_eq_true rfl) (c_91 (by omega) q11) ?_
      obtain rfl := Option.some.inj h
      exact x_ret (r := some (.int v12)) d_199_45 ⟨_, rfl, rfl⟩
    · replace h := ite_f c2 h
      refine x_iconst d_199_13 ic_m1 ?_
      obtain rfl := Option.some.inj h
      exact x_ret (r := some (.int (-1 : Int32))) d_199_14 ⟨_, rfl, rfl⟩
/-! NinetyPlayers.isKept -/
def fN_isKept (F G : Nat) (S : St) (p1 : Int32) : Option (Int32) :=
  if p1 < 0 then some (0 : Int32) else if (Int32.ofNat 3) ≤ p1 then some (0 : Int32) else gd (inB p1 3) (if (S.1 (36 + 5 * p1.toNatClampNeg) 0) = 0 then some (0 : Int32) else some (1 : Int32))
set_option maxRecDepth 100000 in
set_option maxHeartbeats 4000000 in
theorem c_202 {X : Nat × (Nat → Int32)} {D F G : Nat} (hD : 0 ≤ D) {S : St} {p1 : Int32} {res : Int32} (h : fN_isKept F G S p1 = some res) : Ek X (D) m202 0 [(0, .ref 0), (1, .int p1)] [] S (some (.int res)) S := by
  unfold fN_isKept at h
  refine x_iload_n d_202_0 rfl 1 rfl ?_
  refine x_if_lt (tgt := 29) d_202_1 rfl (fun c1 => ?_) (fun c1 => ?_)
  · replace h := ite_t c1 h
    refine x_iconst d_202_29 ic_0 ?_
    obtain rfl := Option.some.inj h
    exact x_ret (r := some (.int (0 : Int32))) d_202_30 ⟨_, rfl, rfl⟩
  · replace h := ite_f c1 h
    refine x_iload_n d_202_4 rfl 1 rfl ?_
    refine x_aload_n d_202_5 rfl 0 rfl ?_
    refine y_getR d_202_6 fl_0_36 rfl kd_0 rr_0_5 ?_
    refine x_alen5 d_202_9 kd_35 ?_
    refine x_icmp_ge (tgt := 29) d_202_10 rfl (fun c2 => ?_) (fun c2 => ?_)
    · replace h := ite_t c2 h
      refine x_iconst d_202_29 ic_0 ?_
      obtain rfl := Option.some.inj h
      exact x_ret (r := some (.int (0 : Int32))) d_202_30 ⟨_, rfl, rfl⟩
    · replace h := ite_f c2 h
      refine x_aload_n d_202_13 rfl 0 rfl ?_
      refine y_getR d_202_14 fl_0_36 rfl kd_0 rr_0_5 ?_
      refine x_iload_n d_202_17 rfl 1 rfl ?_
      obtain ⟨g3, h⟩ := gd_inv h
      refine y_aald d_202_18 g3 ?_
      refine y_getI d_202_19 fl_0_113 rfl (ksLa (isLa_box (inB_lt g3))) ?_
      refine x_if_eq (tgt := 29) d_202_22 rfl (fun c4 => ?_) (fun c4 => ?_)
      · replace h := ite_t c4 h
        refine x_iconst d_202_29 ic_0 ?_
        obtain rfl := Option.some.inj h
        exact x_ret (r := some (.int (0 : Int32))) d_202_30 ⟨_, rfl, rfl⟩
      · replace h := ite_f c4 h
        refine x_iconst d_202_25 ic_1 ?_
        refine x_goto (tgt := 30) d_202_26 rfl ?_
        obtain rfl := Option.some.inj h
        exact x_ret (r := some (.int (1 : Int32))) d_202_30 ⟨_, rfl, rfl⟩
/-! NinetyPlayers.back -/
def fN_back (F G : Nat) (S : St) (p1 : Int32) : Option (Int32 × St) :=
  bd (fN_isKept F G S p1) fun v2 => if v2 = 0 then some ((-1 : Int32), S) else gd (inB p1 3) (bd (fL_copy F G S 30 (36 + 5 * p1.toNatClampNeg)) fun S6 => bd (fC_forget F G S6 ) fun S8 => bd (fN_givenSet F G S8) fun v10 => bd (fJ_bitCount F G S8 v10) fun v12 => some (v12, S8))
set_option maxRecDepth 100000 in
set_option maxHeartbeats 4000000 in
theorem c_201 {X : Nat × (Nat → Int32)} {D F G : Nat} (hD : 2 ≤ D) {S : St} {p1 : Int32} {res : Int32 × St} (h : fN_back F G S p1 = some res) : Ek X (D) m201 0 [(0, .ref 0), (1, .int p1)] [] S (some (.int res.1)) res.2 := by
  obtain ⟨D, rfl⟩ : ∃ E, D = E + 1 := ⟨D - 1, by omega⟩
  unfold fN_back at h
  refine x_aload_n d_201_0 rfl 0 rfl ?_
  refine x_iload_n d_201_1 rfl 1 rfl ?_
  obtain ⟨v2, q1, h⟩ := bd_inv h
  refine y_V1i (v := v2) (S1 := S) d_201_2 ml_0_340 kd_0 rfl (Nat.le_of_ble_eq_true rfl) (Nat.le_of_ble_eq_true rfl) (c_202 (by omega) q1) ?_
  refine x_if_ne (tgt := 10) d_201_5 rfl (fun c3 => ?_) (fun c3 => ?_)
  · replace h := ite_f c3 h
    refine x_aload_n d_201_10 rfl 0 rfl ?_
    refine y_getR d_201_11 fl_0_32 rfl kd_0 rr_0_4 ?_
    refine x_aload_n d_201_14 rfl 0 rfl ?_
    refine y_getR d_201_15 fl_0_36 rfl kd_0 rr_0_5 ?_
    refine x_iload_n d_201_18 rfl 1 rfl ?_
    obtain ⟨g4, h⟩ := gd_inv h
    refine y_aald d_201_19 g4 ?_
    obtain ⟨S6, q5, h⟩ := bd_inv h
    refine y_V1v (S1 := S6) d_201_20 ml_0_336 kd_30 rfl (Nat.le_of_ble_eq_true rfl) (Nat.le_of_ble_eq_true rfl) (c_200 (by omega) q5) ?_
    refine x_aload_n d_201_23 rfl 0 rfl ?_
    refine y_getR d_201_24 fl_0_43 rfl kd_0 rr_0_6 ?_
    obtain ⟨S8, q7, h⟩ := bd_inv h
    refine y_V0v (S1 := S8) d_201_27 ml_0_106 kd_51 rfl (Nat.le_of_ble_eq_true rfl) (Nat.le_of_ble_eq_true rfl) (c_83 (by omega) q7) ?_
    refine x_aload_n d_201_30 rfl 0 rfl ?_
    obtain ⟨v10, q9, h⟩ := bd_inv h
    refine y_V0i (v := v10) (S1 := S8) d_201_31 ml_0_163 kd_0 rfl (Nat.le_of_ble_eq_true rfl) (Nat.le_of_ble_eq_true rfl) (c_99 (by omega) q9) ?_
    obtain ⟨v12, q11, h⟩ := bd_inv h
    refine y_S1i (v := v12) (S1 := S8) d_201_34 ml_0_206 (Nat.le_of_ble_eq_true rfl) (Nat.le_of_ble_eq_true rfl) (c_91 (by omega) q11) ?_
    obtain rfl := Option.some.inj h
    exact x_ret (r := some (.int v12)) d_201_37 ⟨_, rfl, rfl⟩
  · replace h := ite_t c3 h
    refine x_iconst d_201_8 ic_m1 ?_
    obtain rfl := Option.some.inj h
    exact x_ret (r := some (.int (-1 : Int32))) d_201_9 ⟨_, rfl, rfl⟩
/-! NinetyPlayers$Laying.differsAt -/
def fL_differsAt (F G : Nat) (S : St) (o : Nat) (p1 : Int32) (o3 : Nat) : Option (Int32) :=
  gd (isLa o) (gd (isLa o3) (gd (inB p1 10) (gd (inB p1 10) (if (S.1 (o + 1) p1.toNatClampNeg) = (S.1 (o3 + 1) p1.toNatClampNeg) then gd (inB p1 10) (gd (inB p1 10) (if (S.1 (o + 2) p1.toNatClampNeg) = (S.1 (o3 + 2) p1.toNatClampNeg) then gd (inB p1 10) (gd (inB p1 10) (if (S.1 (o + 3) p1.toNatClampNeg) = (S.1 (o3 + 3) p1.toNatClampNeg) then gd (inB p1 10) (gd (inB p1 10) (if (S.1 (o + 4) p1.toNatClampNeg) = (S.1 (o3 + 4) p1.toNatClampNeg) then some (0 : Int32) else some (1 : Int32))) else some (1 : Int32))) else some (1 : Int32))) else some (1 : Int32)))))
set_option maxRecDepth 100000 in
set_option maxHeartbeats 4000000 in
theorem c_204 {X : Nat × (Nat → Int32)} {D F G : Nat} (hD : 0 ≤ D) {S : St} {o : Nat} {p1 : Int32} {o3 : Nat} {res : Int32} (h : fL_differsAt F G S o p1 o3 = some res) : Ek X (D) m204 0 [(0, .ref o), (1, .int p1), (2, .ref o3)] [] S (some (.int res)) S := by
  unfold fL_differsAt at h
  obtain ⟨gg0, h⟩ := gd_inv h
  obtain ⟨gg1, h⟩ := gd_inv h
  refine x_aload_n d_204_0 rfl 0 rfl ?_
  refine y_getR d_204_1 fl_5_9 rfl (ksLa gg0) (rrLa_2 gg0) ?_
  refine x_iload_n d_204_4 rfl 1 rfl ?_
  obtain ⟨g1, h⟩ := gd_inv h
  refine y_iald d_204_5 (ksLa_1 gg0) g1 ?_
  refine x_aload_n d_204_6 rfl 2 rfl ?_
  refine y_getR d_204_7 fl_5_9 rfl (ksLa gg1) (rrLa_2 gg1) ?_
  refine x_iload_n d_204_10 rfl 1 rfl ?_
  obtain ⟨g2, h⟩ := gd_inv h
  refine y_iald d_204_11 (ksLa_1 gg1) g2 ?_
  refine x_icmp_ne (tgt := 60) d_204_12 rfl (fun c3 => ?_) (fun c3 => ?_)
  · replace h := ite_f c3 h
    refine x_iconst d_204_60 ic_1 ?_
    refine x_goto (tgt := 65) d_204_61 rfl ?_
    obtain rfl := Option.some.inj h
    exact x_ret (r := some (.int (1 : Int32))) d_204_65 ⟨_, rfl, rfl⟩
  · replace h := ite_t c3 h
    refine x_aload_n d_204_15 rfl 0 rfl ?_
    refine y_getR d_204_16 fl_5_15 rfl (ksLa gg0) (rrLa_3 gg0) ?_
    refine x_iload_n d_204_19 rfl 1 rfl ?_
    obtain ⟨g4, h⟩ := gd_inv h
    refine y_iald d_204_20 (ksLa_2 gg0) g4 ?_
    refine x_aload_n d_204_21 rfl 2 rfl ?_
    refine y_getR d_204_22 fl_5_15 rfl (ksLa gg1) (rrLa_3 gg1) ?_
    refine x_iload_n d_204_25 rfl 1 rfl ?_
    obtain ⟨g5, h⟩ := gd_inv h
    refine y_iald d_204_26 (ksLa_2 gg1) g5 ?_
    refine x_icmp_ne (tgt := 60) d_204_27 rfl (fun c6 => ?_) (fun c6 => ?_)
    · replace h := ite_f c6 h
      refine x_iconst d_204_60 ic_1 ?_
      refine x_goto (tgt := 65) d_204_61 rfl ?_
      obtain rfl := Option.some.inj h
      exact x_ret (r := some (.int (1 : Int32))) d_204_65 ⟨_, rfl, rfl⟩
    · replace h := ite_t c6 h
      refine x_aload_n d_204_30 rfl 0 rfl ?_
      refine y_getR d_204_31 fl_5_18 rfl (ksLa gg0) (rrLa_4 gg0) ?_
      refine x_iload_n d_204_34 rfl 1 rfl ?_
      obtain ⟨g7, h⟩ := gd_inv h
      refine y_iald d_204_35 (ksLa_3 gg0) g7 ?_
      refine x_aload_n d_204_36 rfl 2 rfl ?_
      refine y_getR d_204_37 fl_5_18 rfl (ksLa gg1) (rrLa_4 gg1) ?_
      refine x_iload_n d_204_40 rfl 1 rfl ?_
      obtain ⟨g8, h⟩ := gd_inv h
      refine y_iald d_204_41 (ksLa_3 gg1) g8 ?_
      refine x_icmp_ne (tgt := 60) d_204_42 rfl (fun c9 => ?_) (fun c9 => ?_)
      · replace h := ite_f c9 h
        refine x_iconst d_204_60 ic_1 ?_
        refine x_goto (tgt := 65) d_204_61 rfl ?_
        obtain rfl := Option.some.inj h
        exact x_ret (r := some (.int (1 : Int32))) d_204_65 ⟨_, rfl, rfl⟩
      · replace h := ite_t c9 h
        refine x_aload_n d_204_45 rfl 0 rfl ?_
        refine y_getR d_204_46 fl_5_21 rfl (ksLa gg0) (rrLa_5 gg0) ?_
        refine x_iload_n d_204_49 rfl 1 rfl ?_
        obtain ⟨g10, h⟩ := gd_inv h
        refine y_iald d_204_50 (ksLa_4 gg0) g10 ?_
        refine x_aload_n d_204_51 rfl 2 rfl ?_
        refine y_getR d_204_52 fl_5_21 rfl (ksLa gg1) (rrLa_5 gg1) ?_
        refine x_iload_n d_204_55 rfl 1 rfl ?_
        obtain ⟨g11, h⟩ := gd_inv h
        refine y_iald d_204_56 (ksLa_4 gg1) g11 ?_
        refine x_icmp_eq (tgt := 64) d_204_57 rfl (fun c12 => ?_) (fun c12 => ?_)
        · replace h := ite_t c12 h
          refine x_iconst d_204_64 ic_0 ?_
          obtain rfl := Option.some.inj h
          exact x_ret (r := some (.int (0 : Int32))) d_204_65 ⟨_, rfl, rfl⟩
        · replace h := ite_f c12 h
          refine x_iconst d_204_60 ic_1 ?_
          refine x_goto (tgt := 65) d_204_61 rfl ?_
          obtain rfl := Option.some.inj h
          exact x_ret (r := some (.int (1 : Int32))) d_204_65 ⟨_, rfl, rfl⟩
/-! NinetyPlayers.differ -/
def b_203_14 (F G : Nat) (S : St) (z1 : Int32) (rec : Int32 → Int32 → Option (Int32)) (w2 : Int32) (w3 : Int32) : Option (Int32) :=
  gd (isSc S.2.2.1) (if (S.1 S.2.2.1 6) ≤ w3 then some w2 else gd (inB z1 3) (bd (fL_differsAt F G S 30 w3 (36 + 5 * z1.toNatClampNeg)) fun v8 => if v8 = 0 then lt (w3 + 1) fun v10 => rec w2 v10 else lt (w2 ||| ((1 : Int32) <<< (w3 &&& 31))) fun v12 => lt (w3 + 1) fun v14 => rec v12 v14))
def fN_differ (F G : Nat) (S : St) (p1 : Int32) : Option (Int32) :=
  bd (fN_isKept F G S p1) fun v2 => if v2 = 0 then some (-1 : Int32) else fx2 (b_203_14 F G S p1) F (0 : Int32) (0 : Int32)
set_option maxRecDepth 100000 in
set_option maxHeartbeats 4000000 in
theorem T_203_14 {X : Nat × (Nat → Int32)} {D F G : Nat} (hD : 1 ≤ D + 1) {S : St} {z1 : Int32} : ∀ (f : Nat) (w2 : Int32) (w3 : Int32) (res : Int32), fx2 (b_203_14 F G S z1 ) f w2 w3 = some res → Ek X (D + 1) m203 14 [(0, .ref 0), (1, .int z1), (2, .int w2), (3, .int w3)] [] S (some (.int res)) S := by
  refine fx2_ind ?_
  intro rec ih w2 w3 res h
  unfold b_203_14 at h
  refine x_iload_n d_203_14 rfl 3 rfl ?_
  refine x_aload_n d_203_15 rfl 0 rfl ?_
  refine y_getR d_203_16 fl_0_25 rfl kd_0 rr_told ?_
  obtain ⟨g4, h⟩ := gd_inv h
  refine y_getI d_203_19 fl_0_117 rfl (ksSc g4) ?_
  refine x_icmp_ge (tgt := 54) d_203_22 rfl (fun c5 => ?_) (fun c5 => ?_)
  · replace h := ite_t c5 h
    refine x_iload_n d_203_54 rfl 2 rfl ?_
    obtain rfl := Option.some.inj h
    exact x_ret (r := some (.int w2)) d_203_55 ⟨_, rfl, rfl⟩
  · replace h := ite_f c5 h
    refine x_aload_n d_203_25 rfl 0 rfl ?_
    refine y_getR d_203_26 fl_0_32 rfl kd_0 rr_0_4 ?_
    refine x_iload_n d_203_29 rfl 3 rfl ?_
    refine x_aload_n d_203_30 rfl 0 rfl ?_
    refine y_getR d_203_31 fl_0_36 rfl kd_0 rr_0_5 ?_
    refine x_iload_n d_203_34 rfl 1 rfl ?_
    obtain ⟨g6, h⟩ := gd_inv h
    refine y_aald d_203_35 g6 ?_
    obtain ⟨v8, q7, h⟩ := bd_inv h
    refine y_V2i (v := v8) (S1 := S) d_203_36 ml_0_343 kd_30 rfl (Nat.le_of_ble_eq_true rfl) (Nat.le_of_ble_eq_true rfl) (c_204 (by omega) q7) ?_
    refine x_if_eq (tgt := 48) d_203_39 rfl (fun c9 => ?_) (fun c9 => ?_)
    · replace h := ite_t c9 h
      obtain ⟨v10, e11, h⟩ := lt_inv h
      refine y_iinc (L1 := [(0, .ref 0), (1, .int z1), (2, .int w2), (3, .int v10)]) e11 ic_1 d_203_48 3 rfl (Nat.le_of_ble_eq_true rfl) rfl rfl ?_
      refine x_goto (tgt := 14) d_203_51 rfl ?_
      exact ih w2 v10 _ h
    · replace h := ite_f c9 h
      refine x_iload_n d_203_42 rfl 2 rfl ?_
      refine x_iconst d_203_43 ic_1 ?_
      refine x_iload_n d_203_44 rfl 3 rfl ?_
      refine x_ishl d_203_45 ?_
      refine x_ior d_203_46 ?_
      obtain ⟨v12, e13, h⟩ := lt_inv h
      refine y_istore_n (L1 := [(0, .ref 0), (1, .int z1), (2, .int v12), (3, .int w3)]) e13 d_203_47 rfl (Nat.le_of_ble_eq_true rfl) rfl rfl ?_
      obtain ⟨v14, e15, h⟩ := lt_inv h
      refine y_iinc (L1 := [(0, .ref 0), (1, .int z1), (2, .int v12), (3, .int v14)]) e15 ic_1 d_203_48 3 rfl (Nat.le_of_ble_eq_true rfl) rfl rfl ?_
      refine x_goto (tgt := 14) d_203_51 rfl ?_
      exact ih v12 v14 _ h
set_option maxRecDepth 100000 in
set_option maxHeartbeats 4000000 in
theorem c_203 {X : Nat × (Nat → Int32)} {D F G : Nat} (hD : 1 ≤ D) {S : St} {p1 : Int32} {res : Int32} (h : fN_differ F G S p1 = some res) : Ek X (D) m203 0 [(0, .ref 0), (1, .int p1)] [] S (some (.int res)) S := by
  obtain ⟨D, rfl⟩ : ∃ E, D = E + 1 := ⟨D - 1, by omega⟩
  unfold fN_differ at h
  refine x_aload_n d_203_0 rfl 0 rfl ?_
  refine x_iload_n d_203_1 rfl 1 rfl ?_
  obtain ⟨v2, q1, h⟩ := bd_inv h
  refine y_V1i (v := v2) (S1 := S) d_203_2 ml_0_340 kd_0 rfl (Nat.le_of_ble_eq_true rfl) (Nat.le_of_ble_eq_true rfl) (c_202 (by omega) q1) ?_
  refine x_if_ne (tgt := 10) d_203_5 rfl (fun c3 => ?_) (fun c3 => ?_)
  · replace h := ite_f c3 h
    refine x_iconst d_203_10 ic_0 ?_
    refine x_istore_n (L1 := [(0, .ref 0), (1, .int p1), (2, .int (0 : Int32))]) d_203_11 rfl (Nat.le_of_ble_eq_true rfl) rfl rfl ?_
    refine x_iconst d_203_12 ic_0 ?_
    refine x_istore_n (L1 := [(0, .ref 0), (1, .int p1), (2, .int (0 : Int32)), (3, .int (0 : Int32))]) d_203_13 rfl (Nat.le_of_ble_eq_true rfl) rfl rfl ?_
    refine T_203_14 (by omega)   F (0 : Int32) (0 : Int32) _ h
  · replace h := ite_t c3 h
    refine x_iconst d_203_8 ic_m1 ?_
    obtain rfl := Option.some.inj h
    exact x_ret (r := some (.int (-1 : Int32))) d_203_9 ⟨_, rfl, rfl⟩
/-! NinetyPlayers.aboutTheRest -/
def fN_aboutTheRest (F G : Nat) (S : St) (p1 : Int32) : Option (Int32) :=
  if p1 = 8 then some (S.1 51 0) else if p1 = 9 then some ((S.1 51 1) - (S.1 51 0)) else if p1 = 10 then some (S.1 69 0) else if p1 = 11 then some (S.1 69 1) else if p1 = 12 then some (S.1 0 1) else if p1 = 13 then gd (isSc S.2.2.1) (some (S.1 (S.2.2.1 + 9) 0)) else if p1 = 14 then some (S.1 0 13) else if p1 = 15 then bd (fN_givenSet F G S) fun v11 => bd (fJ_bitCount F G S v11) fun v13 => some v13 else some (-1 : Int32)
set_option maxRecDepth 100000 in
set_option maxHeartbeats 4000000 in
theorem c_206 {X : Nat × (Nat → Int32)} {D F G : Nat} (hD : 2 ≤ D) {S : St} {p1 : Int32} {res : Int32} (h : fN_aboutTheRest F G S p1 = some res) : Ek X (D) m206 0 [(0, .ref 0), (1, .int p1)] [] S (some (.int res)) S := by
  obtain ⟨D, rfl⟩ : ∃ E, D = E + 1 := ⟨D - 1, by omega⟩
  unfold fN_aboutTheRest at h
  refine x_iload_n d_206_0 rfl 1 rfl ?_
  by_cases c1 : p1 = 8
  · replace h := ite_t c1 h
    refine x_tabC (tgt := 48) 8 d_206_1 (by rw [c1]; rfl) (by decide) rfl rfl ?_
    refine x_aload_n d_206_48 rfl 0 rfl ?_
    refine y_getR d_206_49 fl_0_43 rfl kd_0 rr_0_6 ?_
    refine y_getI d_206_52 fl_0_353 rfl kd_51 ?_
    obtain rfl := Option.some.inj h
    exact x_ret (r := some (.int (S.1 51 0))) d_206_55 ⟨_, rfl, rfl⟩
  replace h := ite_f c1 h
  by_cases c2 : p1 = 9
  · replace h := ite_t c2 h
    refine x_tabC (tgt := 56) 9 d_206_1 (by rw [c2]; rfl) (by decide) rfl rfl ?_
    refine x_aload_n d_206_56 rfl 0 rfl ?_
    refine y_getR d_206_57 fl_0_43 rfl kd_0 rr_0_6 ?_
    refine y_getI d_206_60 fl_0_356 rfl kd_51 ?_
    refine x_aload_n d_206_63 rfl 0 rfl ?_
    refine y_getR d_206_64 fl_0_43 rfl kd_0 rr_0_6 ?_
    refine y_getI d_206_67 fl_0_353 rfl kd_51 ?_
    refine x_isub d_206_70 ?_
    obtain rfl := Option.some.inj h
    exact x_ret (r := some (.int ((S.1 51 1) - (S.1 51 0)))) d_206_71 ⟨_, rfl, rfl⟩
  replace h := ite_f c2 h
  by_cases c3 : p1 = 10
  · replace h := ite_t c3 h
    refine x_tabC (tgt := 72) 10 d_206_1 (by rw [c3]; rfl) (by decide) rfl rfl ?_
    refine x_aload_n d_206_72 rfl 0 rfl ?_
    refine y_getR d_206_73 fl_0_79 rfl kd_0 rr_0_11 ?_
    refine y_getI d_206_76 fl_0_358 rfl kd_69 ?_
    obtain rfl := Option.some.inj h
    exact x_ret (r := some (.int (S.1 69 0))) d_206_79 ⟨_, rfl, rfl⟩
  replace h := ite_f c3 h
  by_cases c4 : p1 = 11
  · replace h := ite_t c4 h
    refine x_tabC (tgt := 80) 11 d_206_1 (by rw [c4]; rfl) (by decide) rfl rfl ?_
    refine x_aload_n d_206_80 rfl 0 rfl ?_
    refine y_getR d_206_81 fl_0_79 rfl kd_0 rr_0_11 ?_
    refine y_getI d_206_84 fl_0_361 rfl kd_69 ?_
    obtain rfl := Option.some.inj h
    exact x_ret (r := some (.int (S.1 69 1))) d_206_87 ⟨_, rfl, rfl⟩
  replace h := ite_f c4 h
  by_cases c5 : p1 = 12
  · replace h := ite_t c5 h
    refine x_tabC (tgt := 88) 12 d_206_1 (by rw [c5]; rfl) (by decide) rfl rfl ?_
    refine x_aload_n d_206_88 rfl 0 rfl ?_
    refine y_getI d_206_89 fl_0_90 rfl kd_0 ?_
    obtain rfl := Option.some.inj h
    exact x_ret (r := some (.int (S.1 0 1))) d_206_92 ⟨_, rfl, rfl⟩
  replace h := ite_f c5 h
  by_cases c6 : p1 = 13
  · replace h := ite_t c6 h
    refine x_tabC (tgt := 93) 13 d_206_1 (by rw [c6]; rfl) (by decide) rfl rfl ?_
    refine x_aload_n d_206_93 rfl 0 rfl ?_
    refine y_getR d_206_94 fl_0_25 rfl kd_0 rr_told ?_
    obtain ⟨g7, h⟩ := gd_inv h
    refine y_getR d_206_97 fl_0_211 rfl (ksSc g7) (rrSc_15 g7) ?_
    refine y_getI d_206_100 fl_0_364 rfl (ksFo (isFo_of g7)) ?_
    obtain rfl := Option.some.inj h
    exact x_ret (r := some (.int (S.1 (S.2.2.1 + 9) 0))) d_206_103 ⟨_, rfl, rfl⟩
  replace h := ite_f c6 h
  by_cases c8 : p1 = 14
  · replace h := ite_t c8 h
    refine x_tabC (tgt := 104) 14 d_206_1 (by rw [c8]; rfl) (by decide) rfl rfl ?_
    refine x_aload_n d_206_104 rfl 0 rfl ?_
    refine y_getI d_206_105 fl_0_110 rfl kd_0 ?_
    obtain rfl := Option.some.inj h
    exact x_ret (r := some (.int (S.1 0 13))) d_206_108 ⟨_, rfl, rfl⟩
  replace h := ite_f c8 h
  by_cases c9 : p1 = 15
  · replace h := ite_t c9 h
    refine x_tabC (tgt := 109) 15 d_206_1 (by rw [c9]; rfl) (by decide) rfl rfl ?_
    refine x_aload_n d_206_109 rfl 0 rfl ?_
    obtain ⟨v11, q10, h⟩ := bd_inv h
    refine y_V0i (v := v11) (S1 := S) d_206_110 ml_0_163 kd_0 rfl (Nat.le_of_ble_eq_true rfl) (Nat.le_of_ble_eq_true rfl) (c_99 (by omega) q10) ?_
    obtain ⟨v13, q12, h⟩ := bd_inv h
    refine y_S1i (v := v13) (S1 := S) d_206_113 ml_0_206 (Nat.le_of_ble_eq_true rfl) (Nat.le_of_ble_eq_true rfl) (c_91 (by omega) q12) ?_
    obtain rfl := Option.some.inj h
    exact x_ret (r := some (.int v13)) d_206_116 ⟨_, rfl, rfl⟩
  replace h := ite_f c9 h
  refine x_tabD (tgt := 117) d_206_1 (by have := lv_neT c1 (show (8 : Int32).toInt = 8 from rfl); have := lv_neT c2 (show (9 : Int32).toInt = 9 from rfl); have := lv_neT c3 (show (10 : Int32).toInt = 10 from rfl); have := lv_neT c4 (show (11 : Int32).toInt = 11 from rfl); have := lv_neT c5 (show (12 : Int32).toInt = 12 from rfl); have := lv_neT c6 (show (13 : Int32).toInt = 13 from rfl); have := lv_neT c8 (show (14 : Int32).toInt = 14 from rfl); have := lv_neT c9 (show (15 : Int32).toInt = 15 from rfl); omega) rfl ?_
  refine x_iconst d_206_117 ic_m1 ?_
  obtain rfl := Option.some.inj h
  exact x_ret (r := some (.int (-1 : Int32))) d_206_118 ⟨_, rfl, rfl⟩
/-! NinetyPlayers.about -/
def fN_about (F G : Nat) (S : St) (p1 : Int32) : Option (Int32) :=
  if p1 = 0 then gd (isSc S.2.2.1) (some (S.1 S.2.2.1 6)) else if p1 = 1 then gd (isSc S.2.2.1) (some (S.1 S.2.2.1 5)) else if p1 = 2 then gd (isSc S.2.2.1) (some (S.1 S.2.2.1 0)) else if p1 = 3 then gd (isSc S.2.2.1) (some (S.1 S.2.2.1 1)) else if p1 = 4 then gd (isSc S.2.2.1) (some (S.1 S.2.2.1 2)) else if p1 = 5 then gd (isSc S.2.2.1) (some (S.1 S.2.2.1 3)) else if p1 = 6 then gd (isSc S.2.2.1) (some (S.1 S.2.2.1 4)) else if p1 = 7 then some (S.1 30 1) else bd (fN_aboutTheRest F G S p1) fun v17 => some v17
set_option maxRecDepth 100000 in
set_option maxHeartbeats 4000000 in
theorem c_205 {X : Nat × (Nat → Int32)} {D F G : Nat} (hD : 3 ≤ D) {S : St} {p1 : Int32} {res : Int32} (h : fN_about F G S p1 = some res) : Ek X (D) m205 0 [(0, .ref 0), (1, .int p1)] [] S (some (.int res)) S := by
  obtain ⟨D, rfl⟩ : ∃ E, D = E + 1 := ⟨D - 1, by omega⟩
  unfold fN_about at h
  refine x_iload_n d_205_0 rfl 1 rfl ?_
  by_cases c1 : p1 = 0
  · replace h := ite_t c1 h
    refine x_tabC (tgt := 48) 0 d_205_1 (by rw [c1]; rfl) (by decide) rfl rfl ?_
    refine x_aload_n d_205_48 rfl 0 rfl ?_
    refine y_getR d_205_49 fl_0_25 rfl kd_0 rr_told ?_
    obtain ⟨g2, h⟩ := gd_inv h
    refine y_getI d_205_52 fl_0_117 rfl (ksSc g2) ?_
    obtain rfl := Option.some.inj h
    exact x_ret (r := some (.int (S.1 S.2.2.1 6))) d_205_55 ⟨_, rfl, rfl⟩
  replace h := ite_f c1 h
  by_cases c3 : p1 = 1
  · replace h := ite_t c3 h
    refine x_tabC (tgt := 56) 1 d_205_1 (by rw [c3]; rfl) (by decide) rfl rfl ?_
    refine x_aload_n d_205_56 rfl 0 rfl ?_
    refine y_getR d_205_57 fl_0_25 rfl kd_0 rr_told ?_
    obtain ⟨g4, h⟩ := gd_inv h
    refine y_getI d_205_60 fl_0_154 rfl (ksSc g4) ?_
    obtain rfl := Option.some.inj h
    exact x_ret (r := some (.int (S.1 S.2.2.1 5))) d_205_63 ⟨_, rfl, rfl⟩
  replace h := ite_f c3 h
  by_cases c5 : p1 = 2
  · replace h := ite_t c5 h
    refine x_tabC (tgt := 64) 2 d_205_1 (by rw [c5]; rfl) (by decide) rfl rfl ?_
    refine x_aload_n d_205_64 rfl 0 rfl ?_
    refine y_getR d_205_65 fl_0_25 rfl kd_0 rr_told ?_
    obtain ⟨g6, h⟩ := gd_inv h
    refine y_getI d_205_68 fl_0_193 rfl (ksSc g6) ?_
    obtain rfl := Option.some.inj h
    exact x_ret (r := some (.int (S.1 S.2.2.1 0))) d_205_71 ⟨_, rfl, rfl⟩
  replace h := ite_f c5 h
  by_cases c7 : p1 = 3
  · replace h := ite_t c7 h
    refine x_tabC (tgt := 72) 3 d_205_1 (by rw [c7]; rfl) (by decide) rfl rfl ?_
    refine x_aload_n d_205_72 rfl 0 rfl ?_
    refine y_getR d_205_73 fl_0_25 rfl kd_0 rr_told ?_
    obtain ⟨g8, h⟩ := gd_inv h
    refine y_getI d_205_76 fl_0_259 rfl (ksSc g8) ?_
    obtain rfl := Option.some.inj h
    exact x_ret (r := some (.int (S.1 S.2.2.1 1))) d_205_79 ⟨_, rfl, rfl⟩
  replace h := ite_f c7 h
  by_cases c9 : p1 = 4
  · replace h := ite_t c9 h
    refine x_tabC (tgt := 80) 4 d_205_1 (by rw [c9]; rfl) (by decide) rfl rfl ?_
    refine x_aload_n d_205_80 rfl 0 rfl ?_
    refine y_getR d_205_81 fl_0_25 rfl kd_0 rr_told ?_
    obtain ⟨g10, h⟩ := gd_inv h
    refine y_getI d_205_84 fl_0_256 rfl (ksSc g10) ?_
    obtain rfl := Option.some.inj h
    exact x_ret (r := some (.int (S.1 S.2.2.1 2))) d_205_87 ⟨_, rfl, rfl⟩
  replace h := ite_f c9 h
  by_cases c11 : p1 = 5
  · replace h := ite_t c11 h
    refine x_tabC (tgt := 88) 5 d_205_1 (by rw [c11]; rfl) (by decide) rfl rfl ?_
    refine x_aload_n d_205_88 rfl 0 rfl ?_
    refine y_getR d_205_89 fl_0_25 rfl kd_0 rr_told ?_
    obtain ⟨g12, h⟩ := gd_inv h
    refine y_getI d_205_92 fl_0_347 rfl (ksSc g12) ?_
    obtain rfl := Option.some.inj h
    exact x_ret (r := some (.int (S.1 S.2.2.1 3))) d_205_95 ⟨_, rfl, rfl⟩
  replace h := ite_f c11 h
  by_cases c13 : p1 = 6
  · replace h := ite_t c13 h
    refine x_tabC (tgt := 96) 6 d_205_1 (by rw [c13]; rfl) (by decide) rfl rfl ?_
    refine x_aload_n d_205_96 rfl 0 rfl ?_
    refine y_getR d_205_97 fl_0_25 rfl kd_0 rr_told ?_
    obtain ⟨g14, h⟩ := gd_inv h
    refine y_getI d_205_100 fl_0_309 rfl (ksSc g14) ?_
    obtain rfl := Option.some.inj h
    exact x_ret (r := some (.int (S.1 S.2.2.1 4))) d_205_103 ⟨_, rfl, rfl⟩
  replace h := ite_f c13 h
  by_cases c15 : p1 = 7
  · replace h := ite_t c15 h
    refine x_tabC (tgt := 104) 7 d_205_1 (by rw [c15]; rfl) (by decide) rfl rfl ?_
    refine x_aload_n d_205_104 rfl 0 rfl ?_
    refine y_getR d_205_105 fl_0_32 rfl kd_0 rr_0_4 ?_
    refine y_getI d_205_108 fl_0_243 rfl kd_30 ?_
    obtain rfl := Option.some.inj h
    exact x_ret (r := some (.int (S.1 30 1))) d_205_111 ⟨_, rfl, rfl⟩
  replace h := ite_f c15 h
  refine x_tabD (tgt := 112) d_205_1 (by have := lv_neT c1 (show (0 : Int32).toInt = 0 from rfl); have := lv_neT c3 (show (1 : Int32).toInt = 1 from rfl); have := lv_neT c5 (show (2 : Int32).toInt = 2 from rfl); have := lv_neT c7 (show (3 : Int32).toInt = 3 from rfl); have := lv_neT c9 (show (4 : Int32).toInt = 4 from rfl); have := lv_neT c11 (show (5 : Int32).toInt = 5 from rfl); have := lv_neT c13 (show (6 : Int32).toInt = 6 from rfl); have := lv_neT c15 (show (7 : Int32).toInt = 7 from rfl); omega) rfl ?_
  refine x_aload_n d_205_112 rfl 0 rfl ?_
  refine x_iload_n d_205_113 rfl 1 rfl ?_
  obtain ⟨v17, q16, h⟩ := bd_inv h
  refine y_V1i (v := v17) (S1 := S) d_205_114 ml_0_350 kd_0 rfl (Nat.le_of_ble_eq_true rfl) (Nat.le_of_ble_eq_true rfl) (c_206 (by omega) q16) ?_
  obtain rfl := Option.some.inj h
  exact x_ret (r := some (.int v17)) d_205_117 ⟨_, rfl, rfl⟩
/-! NinetyPlayersModel.four -/
def b_209_3 (F G : Nat) (z1 : Int32) (rec : Int32 → St → Option (St)) (w2 : Int32) (S : St) : Option (St) :=
  if w2 < 0 then some S else gd (inB (S.1 78 1) 1600) (lt (sI S 79 (S.1 78 1).toNatClampNeg ((z1 >>> (w2 &&& 31)) &&& (255 : Int32))) fun S3 => lt (sI S3 78 1 ((S3.1 78 1) + (1 : Int32))) fun S5 => lt (w2 + (-8)) fun v7 => rec v7 S5)
def fM_four (F G : Nat) (S : St) (p1 : Int32) : Option (St) :=
  fx2 (b_209_3 F G p1) F (24 : Int32) S
set_option maxRecDepth 100000 in
set_option maxHeartbeats 4000000 in
theorem T_209_3 {X : Nat × (Nat → Int32)} {D F G : Nat} (hD : 0 ≤ D) {z1 : Int32} : ∀ (f : Nat) (w2 : Int32) (S : St) (res : St), fx2 (b_209_3 F G z1 ) f w2 S = some res → Ek X (D) m209 3 [(0, .ref 78), (1, .int z1), (2, .int w2)] [] S none res := by
  refine fx2_ind ?_
  intro rec ih w2 S res h
  unfold b_209_3 at h
  refine x_iload_n d_209_3 rfl 2 rfl ?_
  refine x_if_lt (tgt := 39) d_209_4 rfl (fun c1 => ?_) (fun c1 => ?_)
  · replace h := ite_t c1 h
    obtain rfl := Option.some.inj h
    exact x_ret (r := none) d_209_39 rfl
  · replace h := ite_f c1 h
    refine x_aload_n d_209_7 rfl 0 rfl ?_
    refine y_getR d_209_8 fl_11_7 rfl kd_78 rr_78_0 ?_
    refine x_aload_n d_209_11 rfl 0 rfl ?_
    refine y_getI d_209_12 fl_11_145 rfl kd_78 ?_
    refine x_iload_n d_209_15 rfl 1 rfl ?_
    refine x_iload_n d_209_16 rfl 2 rfl ?_
    refine x_ishr d_209_17 ?_
    refine x_sipush d_209_18 sp_255 ?_
    refine x_iand d_209_21 ?_
    obtain ⟨g2, h⟩ := gd_inv h
    obtain ⟨S3, e4, h⟩ := lt_inv h
    refine y_iast e4 d_209_22 kd_79 g2 ?_
    refine x_aload_n d_209_23 rfl 0 rfl ?_
    refine x_dup d_209_24 rfl ?_
    refine y_getI d_209_25 fl_11_145 rfl kd_78 ?_
    refine x_iconst d_209_28 ic_1 ?_
    refine x_iadd d_209_29 ?_
    obtain ⟨S5, e6, h⟩ := lt_inv h
    refine y_putI e6 d_209_30 fl_11_145 rfl rfl kd_78 rfl rfl ?_
    obtain ⟨v7, e8, h⟩ := lt_inv h
    refine y_iinc (L1 := [(0, .ref 78), (1, .int z1), (2, .int v7)]) e8 ic_m8 d_209_33 2 rfl (Nat.le_of_ble_eq_true rfl) rfl rfl ?_
    refine x_goto (tgt := 3) d_209_36 rfl ?_
    exact ih v7 S5 _ h
set_option maxRecDepth 100000 in
set_option maxHeartbeats 4000000 in
theorem c_209 {X : Nat × (Nat → Int32)} {D F G : Nat} (hD : 0 ≤ D) {S : St} {p1 : Int32} {res : St} (h : fM_four F G S p1 = some res) : Ek X (D) m209 0 [(0, .ref 78), (1, .int p1)] [] S none res := by
  unfold fM_four at h
  refine x_bipush d_209_0 bp_24 ?_
  refine x_istore_n (L1 := [(0, .ref 78), (1, .int p1), (2, .int (24 : Int32))]) d_209_2 rfl (Nat.le_of_ble_eq_true rfl) rfl rfl ?_
  refine T_209_3 (by omega)   F (24 : Int32) S _ h
/-! NinetyPlayersModel.feed -/
def fM_feed (F G : Nat) (S : St) (p1 : Int32) (p2 : Int32) (p3 : Int32) (p4 : Int32) (p5 : Int32) : Option (Int32 × St) :=
  if ((S.1 78 1) + (20 : Int32)) ≤ (1600 : Int32) then bd (fM_four F G S p1) fun S3 => bd (fM_four F G S3 p2) fun S5 => bd (fM_four F G S5 p3) fun S7 => bd (fM_four F G S7 p4) fun S9 => bd (fM_four F G S9 p5) fun S11 => some (S11.1 78 1, S11) else some ((-1 : Int32), S)
set_option maxRecDepth 100000 in
set_option maxHeartbeats 4000000 in
theorem c_208 {X : Nat × (Nat → Int32)} {D F G : Nat} (hD : 1 ≤ D) {S : St} {p1 : Int32} {p2 : Int32} {p3 : Int32} {p4 : Int32} {p5 : Int32} {res : Int32 × St} (h : fM_feed F G S p1 p2 p3 p4 p5 = some res) : Ek X (D) m208 0 [(0, .ref 78), (1, .int p1), (2, .int p2), (3, .int p3), (4, .int p4), (5, .int p5)] [] S (some (.int res.1)) res.2 := by
  obtain ⟨D, rfl⟩ : ∃ E, D = E + 1 := ⟨D - 1, by omega⟩
  unfold fM_feed at h
  refine x_aload_n d_208_0 rfl 0 rfl ?_
  refine y_getI d_208_1 fl_11_145 rfl kd_78 ?_
  refine x_bipush d_208_4 bp_20 ?_
  refine x_iadd d_208_6 ?_
  refine x_sipush d_208_7 sp_1600 ?_
  refine x_icmp_le (tgt := 15) d_208_10 rfl (fun c1 => ?_) (fun c1 => ?_)
  · replace h := ite_t c1 h
    refine x_aload_n d_208_15 rfl 0 rfl ?_
    refine x_iload_n d_208_16 rfl 1 rfl ?_
    obtain ⟨S3, q2, h⟩ := bd_inv h
    refine y_V1v (S1 := S3) d_208_17 ml_11_148 kd_78 rfl (Nat.le_of_ble_eq_true rfl) (Nat.le_of_ble_eq_true rfl) (c_209 (by omega) q2) ?_
    refine x_aload_n d_208_20 rfl 0 rfl ?_
    refine x_iload_n d_208_21 rfl 2 rfl ?_
    obtain ⟨S5, q4, h⟩ := bd_inv h
    refine y_V1v (S1 := S5) d_208_22 ml_11_148 kd_78 rfl (Nat.le_of_ble_eq_true rfl) (Nat.le_of_ble_eq_true rfl) (c_209 (by omega) q4) ?_
    refine x_aload_n d_208_25 rfl 0 rfl ?_
    refine x_iload_n d_208_26 rfl 3 rfl ?_
    obtain ⟨S7, q6, h⟩ := bd_inv h
    refine y_V1v (S1 := S7) d_208_27 ml_11_148 kd_78 rfl (Nat.le_of_ble_eq_true rfl) (Nat.le_of_ble_eq_true rfl) (c_209 (by omega) q6) ?_
    refine x_aload_n d_208_30 rfl 0 rfl ?_
    refine x_iload d_208_31 4 rfl ?_
    obtain ⟨S9, q8, h⟩ := bd_inv h
    refine y_V1v (S1 := S9) d_208_33 ml_11_148 kd_78 rfl (Nat.le_of_ble_eq_true rfl) (Nat.le_of_ble_eq_true rfl) (c_209 (by omega) q8) ?_
    refine x_aload_n d_208_36 rfl 0 rfl ?_
    refine x_iload d_208_37 5 rfl ?_
    obtain ⟨S11, q10, h⟩ := bd_inv h
    refine y_V1v (S1 := S11) d_208_39 ml_11_148 kd_78 rfl (Nat.le_of_ble_eq_true rfl) (Nat.le_of_ble_eq_true rfl) (c_209 (by omega) q10) ?_
    refine x_aload_n d_208_42 rfl 0 rfl ?_
    refine y_getI d_208_43 fl_11_145 rfl kd_78 ?_
    obtain rfl := Option.some.inj h
    exact x_ret (r := some (.int (S11.1 78 1))) d_208_46 ⟨_, rfl, rfl⟩
  · replace h := ite_f c1 h
    refine x_iconst d_208_13 ic_m1 ?_
    obtain rfl := Option.some.inj h
    exact x_ret (r := some (.int (-1 : Int32))) d_208_14 ⟨_, rfl, rfl⟩
/-! NinetyPlayersModel.end -/
def fM_end (F G : Nat) (S : St) (p1 : Int32) : Option (Int32 × St) :=
  if p1 < 0 then some ((-1 : Int32), S) else if p1 ≤ (S.1 78 1) then lt (sI S 78 1 p1) fun S3 => some (p1, S3) else some ((-1 : Int32), S)
set_option maxRecDepth 100000 in
set_option maxHeartbeats 4000000 in
theorem c_210 {X : Nat × (Nat → Int32)} {D F G : Nat} (hD : 0 ≤ D) {S : St} {p1 : Int32} {res : Int32 × St} (h : fM_end F G S p1 = some res) : Ek X (D) m210 0 [(0, .ref 78), (1, .int p1)] [] S (some (.int res.1)) res.2 := by
  unfold fM_end at h
  refine x_iload_n d_210_0 rfl 1 rfl ?_
  refine x_if_lt (tgt := 12) d_210_1 rfl (fun c1 => ?_) (fun c1 => ?_)
  · replace h := ite_t c1 h
    refine x_iconst d_210_12 ic_m1 ?_
    obtain rfl := Option.some.inj h
    exact x_ret (r := some (.int (-1 : Int32))) d_210_13 ⟨_, rfl, rfl⟩
  · replace h := ite_f c1 h
    refine x_iload_n d_210_4 rfl 1 rfl ?_
    refine x_aload_n d_210_5 rfl 0 rfl ?_
    refine y_getI d_210_6 fl_11_145 rfl kd_78 ?_
    refine x_icmp_le (tgt := 14) d_210_9 rfl (fun c2 => ?_) (fun c2 => ?_)
    · replace h := ite_t c2 h
      refine x_aload_n d_210_14 rfl 0 rfl ?_
      refine x_iload_n d_210_15 rfl 1 rfl ?_
      obtain ⟨S3, e4, h⟩ := lt_inv h
      refine y_putI e4 d_210_16 fl_11_145 rfl rfl kd_78 rfl rfl ?_
      refine x_iload_n d_210_19 rfl 1 rfl ?_
      obtain rfl := Option.some.inj h
      exact x_ret (r := some (.int p1)) d_210_20 ⟨_, rfl, rfl⟩
    · replace h := ite_f c2 h
      refine x_iconst d_210_12 ic_m1 ?_
      obtain rfl := Option.some.inj h
      exact x_ret (r := some (.int (-1 : Int32))) d_210_13 ⟨_, rfl, rfl⟩
/-! NinetyPlayersModel.here -/
def fM_here (F G : Nat) (S : St) (p1 : Int32) : Option (Int32) :=
  if (S.1 78 5) ≤ ((S.1 78 4) + p1) then some (-1 : Int32) else gd (inB ((S.1 78 4) + p1) 1600) (some (S.1 79 ((S.1 78 4) + p1).toNatClampNeg))
set_option maxRecDepth 100000 in
set_option maxHeartbeats 4000000 in
theorem c_214 {X : Nat × (Nat → Int32)} {D F G : Nat} (hD : 0 ≤ D) {S : St} {p1 : Int32} {res : Int32} (h : fM_here F G S p1 = some res) : Ek X (D) m214 0 [(0, .ref 78), (1, .int p1)] [] S (some (.int res)) S := by
  unfold fM_here at h
  refine x_aload_n d_214_0 rfl 0 rfl ?_
  refine y_getI d_214_1 fl_11_152 rfl kd_78 ?_
  refine x_iload_n d_214_4 rfl 1 rfl ?_
  refine x_iadd d_214_5 ?_
  refine x_aload_n d_214_6 rfl 0 rfl ?_
  refine y_getI d_214_7 fl_11_155 rfl kd_78 ?_
  refine x_icmp_ge (tgt := 27) d_214_10 rfl (fun c1 => ?_) (fun c1 => ?_)
  · replace h := ite_t c1 h
    refine x_iconst d_214_27 ic_m1 ?_
    obtain rfl := Option.some.inj h
    exact x_ret (r := some (.int (-1 : Int32))) d_214_28 ⟨_, rfl, rfl⟩
  · replace h := ite_f c1 h
    refine x_aload_n d_214_13 rfl 0 rfl ?_
    refine y_getR d_214_14 fl_11_7 rfl kd_78 rr_78_0 ?_
    refine x_aload_n d_214_17 rfl 0 rfl ?_
    refine y_getI d_214_18 fl_11_152 rfl kd_78 ?_
    refine x_iload_n d_214_21 rfl 1 rfl ?_
    refine x_iadd d_214_22 ?_
    obtain ⟨g2, h⟩ := gd_inv h
    refine y_iald d_214_23 kd_79 g2 ?_
    refine x_goto (tgt := 28) d_214_24 rfl ?_
    obtain rfl := Option.some.inj h
    exact x_ret (r := some (.int (S.1 79 ((S.1 78 4) + p1).toNatClampNeg))) d_214_28 ⟨_, rfl, rfl⟩
/-! NinetyPlayersModel.isLetter -/
def fM_isLetter (F G : Nat) (S : St) (p1 : Int32) : Option (Int32) :=
  if p1 < (97 : Int32) then some (0 : Int32) else if (122 : Int32) < p1 then some (0 : Int32) else some (1 : Int32)
set_option maxRecDepth 100000 in
set_option maxHeartbeats 4000000 in
theorem c_215 {X : Nat × (Nat → Int32)} {D F G : Nat} (hD : 0 ≤ D) {S : St} {p1 : Int32} {res : Int32} (h : fM_isLetter F G S p1 = some res) : Ek X (D) m215 0 [(0, .int p1)] [] S (some (.int res)) S := by
  unfold fM_isLetter at h
  refine x_iload_n d_215_0 rfl 0 rfl ?_
  refine x_bipush d_215_1 bp_97 ?_
  refine x_icmp_lt (tgt := 16) d_215_3 rfl (fun c1 => ?_) (fun c1 => ?_)
  · replace h := ite_t c1 h
    refine x_iconst d_215_16 ic_0 ?_
    obtain rfl := Option.some.inj h
    exact x_ret (r := some (.int (0 : Int32))) d_215_17 ⟨_, rfl, rfl⟩
  · replace h := ite_f c1 h
    refine x_iload_n d_215_6 rfl 0 rfl ?_
    refine x_bipush d_215_7 bp_122 ?_
    refine x_icmp_gt (tgt := 16) d_215_9 rfl (fun c2 => ?_) (fun c2 => ?_)
    · replace h := ite_t c2 h
      refine x_iconst d_215_16 ic_0 ?_
      obtain rfl := Option.some.inj h
      exact x_ret (r := some (.int (0 : Int32))) d_215_17 ⟨_, rfl, rfl⟩
    · replace h := ite_f c2 h
      refine x_iconst d_215_12 ic_1 ?_
      refine x_goto (tgt := 17) d_215_13 rfl ?_
      obtain rfl := Option.some.inj h
      exact x_ret (r := some (.int (1 : Int32))) d_215_17 ⟨_, rfl, rfl⟩
/-! NinetyPlayersModel.isDigit -/
def fM_isDigit (F G : Nat) (S : St) (p1 : Int32) : Option (Int32) :=
  if p1 < (48 : Int32) then some (0 : Int32) else if (57 : Int32) < p1 then some (0 : Int32) else some (1 : Int32)
set_option maxRecDepth 100000 in
set_option maxHeartbeats 4000000 in
theorem c_216 {X : Nat × (Nat → Int32)} {D F G : Nat} (hD : 0 ≤ D) {S : St} {p1 : Int32} {res : Int32} (h : fM_isDigit F G S p1 = some res) : Ek X (D) m216 0 [(0, .int p1)] [] S (some (.int res)) S := by
  unfold fM_isDigit at h
  refine x_iload_n d_216_0 rfl 0 rfl ?_
  refine x_bipush d_216_1 bp_48 ?_
  refine x_icmp_lt (tgt := 16) d_216_3 rfl (fun c1 => ?_) (fun c1 => ?_)
  · replace h := ite_t c1 h
    refine x_iconst d_216_16 ic_0 ?_
    obtain rfl := Option.some.inj h
    exact x_ret (r := some (.int (0 : Int32))) d_216_17 ⟨_, rfl, rfl⟩
  · replace h := ite_f c1 h
    refine x_iload_n d_216_6 rfl 0 rfl ?_
    refine x_bipush d_216_7 bp_57 ?_
    refine x_icmp_gt (tgt := 16) d_216_9 rfl (fun c2 => ?_) (fun c2 => ?_)
    · replace h := ite_t c2 h
      refine x_iconst d_216_16 ic_0 ?_
      obtain rfl := Option.some.inj h
      exact x_ret (r := some (.int (0 : Int32))) d_216_17 ⟨_, rfl, rfl⟩
    · replace h := ite_f c2 h
      refine x_iconst d_216_12 ic_1 ?_
      refine x_goto (tgt := 17) d_216_13 rfl ?_
      obtain rfl := Option.some.inj h
      exact x_ret (r := some (.int (1 : Int32))) d_216_17 ⟨_, rfl, rfl⟩
/-! NinetyPlayersModel.isSign -/
def fM_isSign (F G : Nat) (S : St) (p1 : Int32) : Option (Int32) :=
  if p1 = (59 : Int32) then some (1 : Int32) else if p1 = (40 : Int32) then some (1 : Int32) else if p1 = (41 : Int32) then some (1 : Int32) else if p1 = (60 : Int32) then some (1 : Int32) else if p1 = (62 : Int32) then some (1 : Int32) else if p1 = (61 : Int32) then some (1 : Int32) else if p1 = (43 : Int32) then some (1 : Int32) else if p1 = (45 : Int32) then some (1 : Int32) else if p1 = (42 : Int32) then some (1 : Int32) else if p1 = (47 : Int32) then some (1 : Int32) else if p1 = (37 : Int32) then some (1 : Int32) else some (0 : Int32)
set_option maxRecDepth 100000 in
set_option maxHeartbeats 4000000 in
theorem c_217 {X : Nat × (Nat → Int32)} {D F G : Nat} (hD : 0 ≤ D) {S : St} {p1 : Int32} {res : Int32} (h : fM_isSign F G S p1 = some res) : Ek X (D) m217 0 [(0, .int p1)] [] S (some (.int res)) S := by
  unfold fM_isSign at h
  refine x_iload_n d_217_0 rfl 0 rfl ?_
  refine x_bipush d_217_1 bp_59 ?_
  refine x_icmp_eq (tgt := 66) d_217_3 rfl (fun c1 => ?_) (fun c1 => ?_)
  · replace h := ite_t c1 h
    refine x_iconst d_217_66 ic_1 ?_
    refine x_goto (tgt := 71) d_217_67 rfl ?_
    obtain rfl := Option.some.inj h
    exact x_ret (r := some (.int (1 : Int32))) d_217_71 ⟨_, rfl, rfl⟩
  · replace h := ite_f c1 h
    refine x_iload_n d_217_6 rfl 0 rfl ?_
    refine x_bipush d_217_7 bp_40 ?_
    refine x_icmp_eq (tgt := 66) d_217_9 rfl (fun c2 => ?_) (fun c2 => ?_)
    · replace h := ite_t c2 h
      refine x_iconst d_217_66 ic_1 ?_
      refine x_goto (tgt := 71) d_217_67 rfl ?_
      obtain rfl := Option.some.inj h
      exact x_ret (r := some (.int (1 : Int32))) d_217_71 ⟨_, rfl, rfl⟩
    · replace h := ite_f c2 h
      refine x_iload_n d_217_12 rfl 0 rfl ?_
      refine x_bipush d_217_13 bp_41 ?_
      refine x_icmp_eq (tgt := 66) d_217_15 rfl (fun c3 => ?_) (fun c3 => ?_)
      · replace h := ite_t c3 h
        refine x_iconst d_217_66 ic_1 ?_
        refine x_goto (tgt := 71) d_217_67 rfl ?_
        obtain rfl := Option.some.inj h
        exact x_ret (r := some (.int (1 : Int32))) d_217_71 ⟨_, rfl, rfl⟩
      · replace h := ite_f c3 h
        refine x_iload_n d_217_18 rfl 0 rfl ?_
        refine x_bipush d_217_19 bp_60 ?_
        refine x_icmp_eq (tgt := 66) d_217_21 rfl (fun c4 => ?_) (fun c4 => ?_)
        · replace h := ite_t c4 h
          refine x_iconst d_217_66 ic_1 ?_
          refine x_goto (tgt := 71) d_217_67 rfl ?_
          obtain rfl := Option.some.inj h
          exact x_ret (r := some (.int (1 : Int32))) d_217_71 ⟨_, rfl, rfl⟩
        · replace h := ite_f c4 h
          refine x_iload_n d_217_24 rfl 0 rfl ?_
          refine x_bipush d_217_25 bp_62 ?_
          refine x_icmp_eq (tgt := 66) d_217_27 rfl (fun c5 => ?_) (fun c5 => ?_)
          · replace h := ite_t c5 h
            refine x_iconst d_217_66 ic_1 ?_
            refine x_goto (tgt := 71) d_217_67 rfl ?_
            obtain rfl := Option.some.inj h
            exact x_ret (r := some (.int (1 : Int32))) d_217_71 ⟨_, rfl, rfl⟩
          · replace h := ite_f c5 h
            refine x_iload_n d_217_30 rfl 0 rfl ?_
            refine x_bipush d_217_31 bp_61 ?_
            refine x_icmp_eq (tgt := 66) d_217_33 rfl (fun c6 => ?_) (fun c6 => ?_)
            · replace h := ite_t c6 h
              refine x_iconst d_217_66 ic_1 ?_
              refine x_goto (tgt := 71) d_217_67 rfl ?_
              obtain rfl := Option.some.inj h
              exact x_ret (r := some (.int (1 : Int32))) d_217_71 ⟨_, rfl, rfl⟩
            · replace h := ite_f c6 h
              refine x_iload_n d_217_36 rfl 0 rfl ?_
              refine x_bipush d_217_37 bp_43 ?_
              refine x_icmp_eq (tgt := 66) d_217_39 rfl (fun c7 => ?_) (fun c7 => ?_)
              · replace h := ite_t c7 h
                refine x_iconst d_217_66 ic_1 ?_
                refine x_goto (tgt := 71) d_217_67 rfl ?_
                obtain rfl := Option.some.inj h
                exact x_ret (r := some (.int (1 : Int32))) d_217_71 ⟨_, rfl, rfl⟩
              · replace h := ite_f c7 h
                refine x_iload_n d_217_42 rfl 0 rfl ?_
                refine x_bipush d_217_43 bp_45 ?_
                refine x_icmp_eq (tgt := 66) d_217_45 rfl (fun c8 => ?_) (fun c8 => ?_)
                · replace h := ite_t c8 h
                  refine x_iconst d_217_66 ic_1 ?_
                  refine x_goto (tgt := 71) d_217_67 rfl ?_
                  obtain rfl := Option.some.inj h
                  exact x_ret (r := some (.int (1 : Int32))) d_217_71 ⟨_, rfl, rfl⟩
                · replace h := ite_f c8 h
                  refine x_iload_n d_217_48 rfl 0 rfl ?_
                  refine x_bipush d_217_49 bp_42 ?_
                  refine x_icmp_eq (tgt := 66) d_217_51 rfl (fun c9 => ?_) (fun c9 => ?_)
                  · replace h := ite_t c9 h
                    refine x_iconst d_217_66 ic_1 ?_
                    refine x_goto (tgt := 71) d_217_67 rfl ?_
                    obtain rfl := Option.some.inj h
                    exact x_ret (r := some (.int (1 : Int32))) d_217_71 ⟨_, rfl, rfl⟩
                  · replace h := ite_f c9 h
                    refine x_iload_n d_217_54 rfl 0 rfl ?_
                    refine x_bipush d_217_55 bp_47 ?_
                    refine x_icmp_eq (tgt := 66) d_217_57 rfl (fun c10 => ?_) (fun c10 => ?_)
                    · replace h := ite_t c10 h
                      refine x_iconst d_217_66 ic_1 ?_
                      refine x_goto (tgt := 71) d_217_67 rfl ?_
                      obtain rfl := Option.some.inj h
                      exact x_ret (r := some (.int (1 : Int32))) d_217_71 ⟨_, rfl, rfl⟩
                    · replace h := ite_f c10 h
                      refine x_iload_n d_217_60 rfl 0 rfl ?_
                      refine x_bipush d_217_61 bp_37 ?_
                      refine x_icmp_ne (tgt := 70) d_217_63 rfl (fun c11 => ?_) (fun c11 => ?_)
                      · replace h := ite_f c11 h
                        refine x_iconst d_217_70 ic_0 ?_
                        obtain rfl := Option.some.inj h
                        exact x_ret (r := some (.int (0 : Int32))) d_217_71 ⟨_, rfl, rfl⟩
                      · replace h := ite_t c11 h
                        refine x_iconst d_217_66 ic_1 ?_
                        refine x_goto (tgt := 71) d_217_67 rfl ?_
                        obtain rfl := Option.some.inj h
                        exact x_ret (r := some (.int (1 : Int32))) d_217_71 ⟨_, rfl, rfl⟩
/-! NinetyPlayersModel.token -/
def j_213_20 (F G : Nat) (k33 : St → Option (St)) (rec : St → Option (St)) (S : St) : Option (St) :=
  lt (sI S 78 4 ((S.1 78 4) + (1 : Int32))) fun S7 => rec S7
def b_213_0 (F G : Nat) (k33 : St → Option (St)) (rec : St → Option (St)) (S : St) : Option (St) :=
  bd (fM_here F G S (0 : Int32)) fun v2 => if v2 = (32 : Int32) then j_213_20 F G k33 rec  S  else bd (fM_here F G S (0 : Int32)) fun v5 => if v5 = (10 : Int32) then j_213_20 F G k33 rec  S  else k33 S
def b_213_144 (F G : Nat) (k186 : Int32 → St → Option (St)) (rec : Int32 → St → Option (St)) (w2 : Int32) (S : St) : Option (St) :=
  bd (fM_here F G S w2) fun v29 => bd (fM_isDigit F G S v29) fun v31 => if v31 = 0 then k186 w2 S else if (4 : Int32) ≤ w2 then lt (w2 + 1) fun v34 => rec v34 S else bd (fM_here F G S w2) fun v37 => lt (sI S 78 8 ((((10 : Int32) * (S.1 78 8)) + v37) - (48 : Int32))) fun S38 => lt (w2 + 1) fun v40 => rec v40 S38
def b_213_78 (F G : Nat) (k119 : Int32 → St → Option (St)) (rec : Int32 → St → Option (St)) (w2 : Int32) (S : St) : Option (St) :=
  bd (fM_here F G S w2) fun v51 => bd (fM_isLetter F G S v51) fun v53 => if v53 = 0 then k119 w2 S else if (8 : Int32) ≤ w2 then lt (w2 + 1) fun v56 => rec v56 S else bd (fM_here F G S w2) fun v59 => lt (sL S 78 9 (((S.2.1 78 9) <<< ((8 : Int32).toInt64 &&& 63)) ||| v59.toInt64)) fun S60 => lt (w2 + 1) fun v62 => rec v62 S60
def j_213_232 (F G : Nat) (S : St) (y2 : Int32) : Option (St) :=
  if (S.1 78 6) = (3 : Int32) then some S else lt (sI S 78 4 ((S.1 78 4) + y2)) fun S76 => some S76
def j_213_229 (F G : Nat) (S : St) (y2 : Int32) (s1 : Int32) : Option (St) :=
  lt (sI S 78 6 s1) fun S73 => j_213_232 F G  S73 y2
def j_213_208 (F G : Nat) (S : St) (y2 : Int32) (s1 : Int32) : Option (St) :=
  lt (sI S 78 6 s1) fun S71 => j_213_232 F G  S71 y2
def j_213_203 (F G : Nat) (S : St) (y2 : Int32) : Option (St) :=
  j_213_208 F G  S y2 (3 : Int32)
def j_213_131 (F G : Nat) (S : St) (y2 : Int32) (s1 : Int32) : Option (St) :=
  lt (sI S 78 6 s1) fun S69 => j_213_232 F G  S69 y2
def fM_token (F G : Nat) (S : St) : Option (St) :=
  fx1 (b_213_0 F G  (fun S9 => lt (sI S9 78 7 (S9.1 78 4)) fun S10 => bd (fM_here F G S10 (0 : Int32)) fun v13 => lt (sL S10 78 9 (0 : Int64)) fun S14 => lt (sI S14 78 8 (0 : Int32)) fun S16 => if 0 ≤ v13 then bd (fM_isLetter F G S16 v13) fun v20 => if v20 = 0 then bd (fM_isDigit F G S16 v13) fun v23 => if v23 = 0 then bd (fM_isSign F G S16 v13) fun v26 => if v26 = 0 then j_213_229 F G  S16 (1 : Int32) (3 : Int32) else j_213_229 F G  S16 (1 : Int32) v13 else fx2 (b_213_144 F G  (fun v42 S43 => if (4 : Int32) < v42 then j_213_203 F G  S43 v42 else bd (fM_here F G S43 v42) fun v46 => bd (fM_isLetter F G S43 v46) fun v48 => if v48 = 0 then j_213_208 F G  S43 v42 (2 : Int32) else j_213_203 F G  S43 v42)) F (0 : Int32) S16 else fx2 (b_213_78 F G  (fun v64 S65 => if v64 ≤ (8 : Int32) then j_213_131 F G  S65 v64 (1 : Int32) else j_213_131 F G  S65 v64 (3 : Int32))) F (0 : Int32) S16 else lt (sI S16 78 6 (0 : Int32)) fun S67 => j_213_232 F G  S67 (0 : Int32))) F S
set_option maxRecDepth 100000 in
set_option maxHeartbeats 4000000 in
theorem T_213_0 {X : Nat × (Nat → Int32)} {D F G : Nat} (hD : 1 ≤ D + 1) {k33 : St → Option (St)} (hk33 : ∀ (S1 : St) (res : St), k33 S1 = some res → Ek X (D + 1) m213 33 [(0, .ref 78)] [] S1 none res) : ∀ (f : Nat) (S : St) (res : St), fx1 (b_213_0 F G k33 ) f S = some res → Ek X (D + 1) m213 0 [(0, .ref 78)] [] S none res := by
  refine fx1_ind ?_
  intro rec ih S res h
  unfold b_213_0 at h
  have J20 : ∀ (S : St) (res : St), j_213_20 F G k33 rec S  = some res → Ek X (D + 1) m213 20 [(0, .ref 78)] [] S none res := by
    intro S  res h
    unfold j_213_20 at h
    refine x_aload_n d_213_20 rfl 0 rfl ?_
    refine x_dup d_213_21 rfl ?_
    refine y_getI d_213_22 fl_11_152 rfl kd_78 ?_
    refine x_iconst d_213_25 ic_1 ?_
    refine x_iadd d_213_26 ?_
    obtain ⟨S7, e8, h⟩ := lt_inv h
    refine y_putI e8 d_213_27 fl_11_152 rfl rfl kd_78 rfl rfl ?_
    refine x_goto (tgt := 0) d_213_30 rfl ?_
    exact ih S7 _ h
  refine x_aload_n d_213_0 rfl 0 rfl ?_
  refine x_iconst d_213_1 ic_0 ?_
  obtain ⟨v2, q1, h⟩ := bd_inv h
  refine y_V1i (v := v2) (S1 := S) d_213_2 ml_11_158 kd_78 rfl (Nat.le_of_ble_eq_true rfl) (Nat.le_of_ble_eq_true rfl) (c_214 (by omega) q1) ?_
  refine x_bipush d_213_5 bp_32 ?_
  refine x_icmp_eq (tgt := 20) d_213_7 rfl (fun c3 => ?_) (fun c3 => ?_)
  · replace h := ite_t c3 h
    exact J20 S  _ h
  · replace h := ite_f c3 h
    refine x_aload_n d_213_10 rfl 0 rfl ?_
    refine x_iconst d_213_11 ic_0 ?_
    obtain ⟨v5, q4, h⟩ := bd_inv h
    refine y_V1i (v := v5) (S1 := S) d_213_12 ml_11_158 kd_78 rfl (Nat.le_of_ble_eq_true rfl) (Nat.le_of_ble_eq_true rfl) (c_214 (by omega) q4) ?_
    refine x_bipush d_213_15 bp_10 ?_
    refine x_icmp_ne (tgt := 33) d_213_17 rfl (fun c6 => ?_) (fun c6 => ?_)
    · replace h := ite_f c6 h
      exact hk33 S _ h
    · replace h := ite_t c6 h
      exact J20 S  _ h
set_option maxRecDepth 100000 in
set_option maxHeartbeats 4000000 in
theorem T_213_144 {X : Nat × (Nat → Int32)} {D F G : Nat} (hD : 1 ≤ D + 1) {k186 : Int32 → St → Option (St)} (hk186 : ∀ (u2 : Int32) (S1 : St) (res : St), k186 u2 S1 = some res → Ek X (D + 1) m213 186 [(0, .ref 78), (2, .int u2)] [] S1 none res) : ∀ (f : Nat) (w2 : Int32) (S : St) (res : St), fx2 (b_213_144 F G k186 ) f w2 S = some res → Ek X (D + 1) m213 144 [(0, .ref 78), (2, .int w2)] [] S none res := by
  refine fx2_ind ?_
  intro rec ih w2 S res h
  unfold b_213_144 at h
  refine x_aload_n d_213_144 rfl 0 rfl ?_
  refine x_iload_n d_213_145 rfl 1 rfl ?_
  obtain ⟨v29, q28, h⟩ := bd_inv h
  refine y_V1i (v := v29) (S1 := S) d_213_146 ml_11_158 kd_78 rfl (Nat.le_of_ble_eq_true rfl) (Nat.le_of_ble_eq_true rfl) (c_214 (by omega) q28) ?_
  obtain ⟨v31, q30, h⟩ := bd_inv h
  refine y_S1i (v := v31) (S1 := S) d_213_149 ml_11_179 (Nat.le_of_ble_eq_true rfl) (Nat.le_of_ble_eq_true rfl) (c_216 (by omega) q30) ?_
  refine x_if_eq (tgt := 186) d_213_152 rfl (fun c32 => ?_) (fun c32 => ?_)
  · replace h := ite_t c32 h
    exact hk186 w2 S _ h
  · replace h := ite_f c32 h
    refine x_iload_n d_213_155 rfl 1 rfl ?_
    refine x_iconst d_213_156 ic_4 ?_
    refine x_icmp_ge (tgt := 180) d_213_157 rfl (fun c33 => ?_) (fun c33 => ?_)
    · replace h := ite_t c33 h
      obtain ⟨v34, e35, h⟩ := lt_inv h
      refine y_iinc (L1 := [(0, .ref 78), (2, .int v34)]) e35 ic_1 d_213_180 1 rfl (Nat.le_of_ble_eq_true rfl) rfl rfl ?_
      refine x_goto (tgt := 144) d_213_183 rfl ?_
      exact ih v34 S _ h
    · replace h := ite_f c33 h
      refine x_aload_n d_213_160 rfl 0 rfl ?_
      refine x_bipush d_213_161 bp_10 ?_
      refine x_aload_n d_213_163 rfl 0 rfl ?_
      refine y_getI d_213_164 fl_11_169 rfl kd_78 ?_
      refine x_imul d_213_167 ?_
      refine x_aload_n d_213_168 rfl 0 rfl ?_
      refine x_iload_n d_213_169 rfl 1 rfl ?_
      obtain ⟨v37, q36, h⟩ := bd_inv h
      refine y_V1i (v := v37) (S1 := S) d_213_170 ml_11_158 kd_78 rfl (Nat.le_of_ble_eq_true rfl) (Nat.le_of_ble_eq_true rfl) (c_214 (by omega) q36) ?_
      refine x_iadd d_213_173 ?_
      refine x_bipush d_213_174 bp_48 ?_
      refine x_isub d_213_176 ?_
      obtain ⟨S38, e39, h⟩ := lt_inv h
      refine y_putI e39 d_213_177 fl_11_169 rfl rfl kd_78 rfl rfl ?_
      obtain ⟨v40, e41, h⟩ := lt_inv h
      refine y_iinc (L1 := [(0, .ref 78), (2, .int v40)]) e41 ic_1 d_213_180 1 rfl (Nat.le_of_ble_eq_true rfl) rfl rfl ?_
      refine x_goto (tgt := 144) d_213_183 rfl ?_
      exact ih v40 S38 _ h
set_option maxRecDepth 100000 in
set_option maxHeartbeats 4000000 in
theorem T_213_78 {X : Nat × (Nat → Int32)} {D F G : Nat} (hD : 1 ≤ D + 1) {k119 : Int32 → St → Option (St)} (hk119 : ∀ (u2 : Int32) (S1 : St) (res : St), k119 u2 S1 = some res → Ek X (D + 1) m213 119 [(0, .ref 78), (2, .int u2)] [] S1 none res) : ∀ (f : Nat) (w2 : Int32) (S : St) (res : St), fx2 (b_213_78 F G k119 ) f w2 S = some res → Ek X (D + 1) m213 78 [(0, .ref 78), (2, .int w2)] [] S none res := by
  refine fx2_ind ?_
  intro rec ih w2 S res h
  unfold b_213_78 at h
  refine x_aload_n d_213_78 rfl 0 rfl ?_
  refine x_iload_n d_213_79 rfl 1 rfl ?_
  obtain ⟨v51, q50, h⟩ := bd_inv h
  refine y_V1i (v := v51) (S1 := S) d_213_80 ml_11_158 kd_78 rfl (Nat.le_of_ble_eq_true rfl) (Nat.le_of_ble_eq_true rfl) (c_214 (by omega) q50) ?_
  obtain ⟨v53, q52, h⟩ := bd_inv h
  refine y_S1i (v := v53) (S1 := S) d_213_83 ml_11_175 (Nat.le_of_ble_eq_true rfl) (Nat.le_of_ble_eq_true rfl) (c_215 (by omega) q52) ?_
  refine x_if_eq (tgt := 119) d_213_86 rfl (fun c54 => ?_) (fun c54 => ?_)
  · replace h := ite_t c54 h
    exact hk119 w2 S _ h
  · replace h := ite_f c54 h
    refine x_iload_n d_213_89 rfl 1 rfl ?_
    refine x_bipush d_213_90 bp_8 ?_
    refine x_icmp_ge (tgt := 113) d_213_92 rfl (fun c55 => ?_) (fun c55 => ?_)
    · replace h := ite_t c55 h
      obtain ⟨v56, e57, h⟩ := lt_inv h
      refine y_iinc (L1 := [(0, .ref 78), (2, .int v56)]) e57 ic_1 d_213_113 1 rfl (Nat.le_of_ble_eq_true rfl) rfl rfl ?_
      refine x_goto (tgt := 78) d_213_116 rfl ?_
      exact ih v56 S _ h
    · replace h := ite_f c55 h
      refine x_aload_n d_213_95 rfl 0 rfl ?_
      refine x_aload_n d_213_96 rfl 0 rfl ?_
      refine y_getL d_213_97 fl_11_165 rfl kd_78 ?_
      refine x_bipush d_213_100 bp_8 ?_
      refine x_lshl d_213_102 ?_
      refine x_aload_n d_213_103 rfl 0 rfl ?_
      refine x_iload_n d_213_104 rfl 1 rfl ?_
      obtain ⟨v59, q58, h⟩ := bd_inv h
      refine y_V1i (v := v59) (S1 := S) d_213_105 ml_11_158 kd_78 rfl (Nat.le_of_ble_eq_true rfl) (Nat.le_of_ble_eq_true rfl) (c_214 (by omega) q58) ?_
      refine x_i2l d_213_108 ?_
      refine x_lor d_213_109 ?_
      obtain ⟨S60, e61, h⟩ := lt_inv h
      refine y_putL e61 d_213_110 fl_11_165 rfl rfl kd_78 ?_
      obtain ⟨v62, e63, h⟩ := lt_inv h
      refine y_iinc (L1 := [(0, .ref 78), (2, .int v62)]) e63 ic_1 d_213_113 1 rfl (Nat.le_of_ble_eq_true rfl) rfl rfl ?_
      refine x_goto (tgt := 78) d_213_116 rfl ?_
      exact ih v62 S60 _ h
set_option maxRecDepth 100000 in
set_option maxHeartbeats 4000000 in
theorem c_213 {X : Nat × (Nat → Int32)} {D F G : Nat} (hD : 1 ≤ D) {S : St} {res : St} (h : fM_token F G S  = some res) : Ek X (D) m213 0 [(0, .ref 78)] [] S none res := by
  obtain ⟨D, rfl⟩ : ∃ E, D = E + 1 := ⟨D - 1, by omega⟩
  unfold fM_token at h
  have J232 : ∀ (S : St) (y2 : Int32) (res : St), j_213_232 F G S y2 = some res → Ek X (D + 1) m213 232 [(0, .ref 78), (2, .int y2)] [] S none res := by
    intro S y2 res h
    unfold j_213_232 at h
    refine x_aload_n d_213_232 rfl 0 rfl ?_
    refine y_getI d_213_233 fl_11_172 rfl kd_78 ?_
    refine x_iconst d_213_236 ic_3 ?_
    refine x_icmp_eq (tgt := 250) d_213_237 rfl (fun c75 => ?_) (fun c75 => ?_)
    · replace h := ite_t c75 h
      obtain rfl := Option.some.inj h
      exact x_ret (r := none) d_213_250 rfl
    · replace h := ite_f c75 h
      refine x_aload_n d_213_240 rfl 0 rfl ?_
      refine x_dup d_213_241 rfl ?_
      refine y_getI d_213_242 fl_11_152 rfl kd_78 ?_
      refine x_iload_n d_213_245 rfl 1 rfl ?_
      refine x_iadd d_213_246 ?_
      obtain ⟨S76, e77, h⟩ := lt_inv h
      refine y_putI e77 d_213_247 fl_11_152 rfl rfl kd_78 rfl rfl ?_
      obtain rfl := Option.some.inj h
      exact x_ret (r := none) d_213_250 rfl
  have J229 : ∀ (S : St) (y2 : Int32) (s1 : Int32) (res : St), j_213_229 F G S y2 s1 = some res → Ek X (D + 1) m213 229 [(0, .ref 78), (2, .int y2)] [.int s1, .ref 78] S none res := by
    intro S y2 s1 res h
    unfold j_213_229 at h
    obtain ⟨S73, e74, h⟩ := lt_inv h
    refine y_putI e74 d_213_229 fl_11_172 rfl rfl kd_78 rfl rfl ?_
    exact J232 S73 y2 _ h
  have J208 : ∀ (S : St) (y2 : Int32) (s1 : Int32) (res : St), j_213_208 F G S y2 s1 = some res → Ek X (D + 1) m213 208 [(0, .ref 78), (2, .int y2)] [.int s1, .ref 78] S none res := by
    intro S y2 s1 res h
    unfold j_213_208 at h
    obtain ⟨S71, e72, h⟩ := lt_inv h
    refine y_putI e72 d_213_208 fl_11_172 rfl rfl kd_78 rfl rfl ?_
    refine x_goto (tgt := 232) d_213_211 rfl ?_
    exact J232 S71 y2 _ h
  have J203 : ∀ (S : St) (y2 : Int32) (res : St), j_213_203 F G S y2 = some res → Ek X (D + 1) m213 203 [(0, .ref 78), (2, .int y2)] [.ref 78] S none res := by
    intro S y2 res h
    unfold j_213_203 at h
    refine x_iconst d_213_203 ic_3 ?_
    refine x_goto (tgt := 208) d_213_204 rfl ?_
    exact J208 S y2 (3 : Int32) _ h
  have J131 : ∀ (S : St) (y2 : Int32) (s1 : Int32) (res : St), j_213_131 F G S y2 s1 = some res → Ek X (D + 1) m213 131 [(0, .ref 78), (2, .int y2)] [.int s1, .ref 78] S none res := by
    intro S y2 s1 res h
    unfold j_213_131 at h
    obtain ⟨S69, e70, h⟩ := lt_inv h
    refine y_putI e70 d_213_131 fl_11_172 rfl rfl kd_78 rfl rfl ?_
    refine x_goto (tgt := 232) d_213_134 rfl ?_
    exact J232 S69 y2 _ h
  refine T_213_0 (by omega)  ?_ F S _ h
  · intro S9 res h
    refine x_aload_n d_213_33 rfl 0 rfl ?_
    refine x_aload_n d_213_34 rfl 0 rfl ?_
    refine y_getI d_213_35 fl_11_152 rfl kd_78 ?_
    obtain ⟨S10, e11, h⟩ := lt_inv h
    refine y_putI e11 d_213_38 fl_11_162 rfl rfl kd_78 rfl rfl ?_
    refine x_aload_n d_213_41 rfl 0 rfl ?_
    refine x_iconst d_213_42 ic_0 ?_
    obtain ⟨v13, q12, h⟩ := bd_inv h
    refine y_V1i (v := v13) (S1 := S10) d_213_43 ml_11_158 kd_78 rfl (Nat.le_of_ble_eq_true rfl) (Nat.le_of_ble_eq_true rfl) (c_214 (by omega) q12) ?_
    refine x_istore_n (L1 := [(0, .ref 78), (1, .int v13)]) d_213_46 rfl (Nat.le_of_ble_eq_true rfl) rfl rfl ?_
    refine x_iconst d_213_47 ic_0 ?_
    refine x_istore_n (L1 := [(0, .ref 78), (1, .int v13), (2, .int (0 : Int32))]) d_213_48 rfl (Nat.le_of_ble_eq_true rfl) rfl rfl ?_
    refine x_aload_n d_213_49 rfl 0 rfl ?_
    refine x_lconst (v := 0) d_213_50 rfl ?_
    obtain ⟨S14, e15, h⟩ := lt_inv h
    refine y_putL e15 d_213_51 fl_11_165 rfl rfl kd_78 ?_
    refine x_aload_n d_213_54 rfl 0 rfl ?_
    refine x_iconst d_213_55 ic_0 ?_
    obtain ⟨S16, e17, h⟩ := lt_inv h
    refine y_putI e17 d_213_56 fl_11_169 rfl rfl kd_78 rfl rfl ?_
    refine x_iload_n d_213_59 rfl 1 rfl ?_
    refine x_if_ge (tgt := 71) d_213_60 rfl (fun c18 => ?_) (fun c18 => ?_)
    · replace h := ite_t c18 h
      refine x_iload_n d_213_71 rfl 1 rfl ?_
      obtain ⟨v20, q19, h⟩ := bd_inv h
      refine y_S1i (v := v20) (S1 := S16) d_213_72 ml_11_175 (Nat.le_of_ble_eq_true rfl) (Nat.le_of_ble_eq_true rfl) (c_215 (by omega) q19) ?_
      refine x_if_eq (tgt := 137) d_213_75 rfl (fun c21 => ?_) (fun c21 => ?_)
      · replace h := ite_t c21 h
        refine x_iload_n d_213_137 rfl 1 rfl ?_
        obtain ⟨v23, q22, h⟩ := bd_inv h
        refine y_S1i (v := v23) (S1 := S16) d_213_138 ml_11_179 (Nat.le_of_ble_eq_true rfl) (Nat.le_of_ble_eq_true rfl) (c_216 (by omega) q22) ?_
        refine x_if_eq (tgt := 214) d_213_141 rfl (fun c24 => ?_) (fun c24 => ?_)
        · replace h := ite_t c24 h
          refine x_iconst d_213_214 ic_1 ?_
          refine x_istore_n (L1 := [(0, .ref 78), (1, .int v13), (2, .int (1 : Int32))]) d_213_215 rfl (Nat.le_of_ble_eq_true rfl) rfl rfl ?_
          refine x_aload_n d_213_216 rfl 0 rfl ?_
          refine x_iload_n d_213_217 rfl 1 rfl ?_
          obtain ⟨v26, q25, h⟩ := bd_inv h
          refine y_S1i (v := v26) (S1 := S16) d_213_218 ml_11_182 (Nat.le_of_ble_eq_true rfl) (Nat.le_of_ble_eq_true rfl) (c_217 (by omega) q25) ?_
          refine x_if_eq (tgt := 228) d_213_221 rfl (fun c27 => ?_) (fun c27 => ?_)
          · replace h := ite_t c27 h
            refine x_iconst d_213_228 ic_3 ?_
            refine y_pick (L1 := [(0, .ref 78), (2, .int (1 : Int32))]) [0, 2] rfl ?_
            exact J229 S16 (1 : Int32) (3 : Int32) _ h
          · replace h := ite_f c27 h
            refine x_iload_n d_213_224 rfl 1 rfl ?_
            refine x_goto (tgt := 229) d_213_225 rfl ?_
            refine y_pick (L1 := [(0, .ref 78), (2, .int (1 : Int32))]) [0, 2] rfl ?_
            exact J229 S16 (1 : Int32) v13 _ h
        · replace h := ite_f c24 h
          refine y_pick (L1 := [(0, .ref 78), (2, .int (0 : Int32))]) [0, 2] rfl ?_
          refine T_213_144 (by omega)  ?_ F (0 : Int32) S16 _ h
          · intro v42 S43 res h
            refine x_aload_n d_213_186 rfl 0 rfl ?_
            refine x_iload_n d_213_187 rfl 1 rfl ?_
            refine x_iconst d_213_188 ic_4 ?_
            refine x_icmp_gt (tgt := 203) d_213_189 rfl (fun c44 => ?_) (fun c44 => ?_)
            · replace h := ite_t c44 h
              exact J203 S43 v42 _ h
            · replace h := ite_f c44 h
              refine x_aload_n d_213_192 rfl 0 rfl ?_
              refine x_iload_n d_213_193 rfl 1 rfl ?_
              obtain ⟨v46, q45, h⟩ := bd_inv h
              refine y_V1i (v := v46) (S1 := S43) d_213_194 ml_11_158 kd_78 rfl (Nat.le_of_ble_eq_true rfl) (Nat.le_of_ble_eq_true rfl) (c_214 (by omega) q45) ?_
              obtain ⟨v48, q47, h⟩ := bd_inv h
              refine y_S1i (v := v48) (S1 := S43) d_213_197 ml_11_175 (Nat.le_of_ble_eq_true rfl) (Nat.le_of_ble_eq_true rfl) (c_215 (by omega) q47) ?_
              refine x_if_eq (tgt := 207) d_213_200 rfl (fun c49 => ?_) (fun c49 => ?_)
              · replace h := ite_t c49 h
                refine x_iconst d_213_207 ic_2 ?_
                exact J208 S43 v42 (2 : Int32) _ h
              · replace h := ite_f c49 h
                exact J203 S43 v42 _ h
      · replace h := ite_f c21 h
        refine y_pick (L1 := [(0, .ref 78), (2, .int (0 : Int32))]) [0, 2] rfl ?_
        refine T_213_78 (by omega)  ?_ F (0 : Int32) S16 _ h
        · intro v64 S65 res h
          refine x_aload_n d_213_119 rfl 0 rfl ?_
          refine x_iload_n d_213_120 rfl 1 rfl ?_
          refine x_bipush d_213_121 bp_8 ?_
          refine x_icmp_le (tgt := 130) d_213_123 rfl (fun c66 => ?_) (fun c66 => ?_)
          · replace h := ite_t c66 h
            refine x_iconst d_213_130 ic_1 ?_
            exact J131 S65 v64 (1 : Int32) _ h
          · replace h := ite_f c66 h
            refine x_iconst d_213_126 ic_3 ?_
            refine x_goto (tgt := 131) d_213_127 rfl ?_
            exact J131 S65 v64 (3 : Int32) _ h
    · replace h := ite_f c18 h
      refine x_aload_n d_213_63 rfl 0 rfl ?_
      refine x_iconst d_213_64 ic_0 ?_
      obtain ⟨S67, e68, h⟩ := lt_inv h
      refine y_putI e68 d_213_65 fl_11_172 rfl rfl kd_78 rfl rfl ?_
      refine x_goto (tgt := 232) d_213_68 rfl ?_
      refine y_pick (L1 := [(0, .ref 78), (2, .int (0 : Int32))]) [0, 2] rfl ?_
      exact J232 S67 (0 : Int32) _ h
/-! NinetyPlayersModel.isWord -/
def fM_isWord (F G : Nat) (S : St) (p1 : Int64) : Option (Int32) :=
  if (S.1 78 6) = (1 : Int32) then if (lg_cmp (S.2.1 78 9) p1) = 0 then some (1 : Int32) else some (0 : Int32) else some (0 : Int32)
set_option maxRecDepth 100000 in
set_option maxHeartbeats 4000000 in
theorem c_219 {X : Nat × (Nat → Int32)} {D F G : Nat} (hD : 0 ≤ D) {S : St} {p1 : Int64} {res : Int32} (h : fM_isWord F G S p1 = some res) : Ek X (D) m219 0 [(0, .ref 78), (1, .long p1)] [] S (some (.int res)) S := by
  unfold fM_isWord at h
  refine x_aload_n d_219_0 rfl 0 rfl ?_
  refine y_getI d_219_1 fl_11_172 rfl kd_78 ?_
  refine x_iconst d_219_4 ic_1 ?_
  refine x_icmp_ne (tgt := 21) d_219_5 rfl (fun c1 => ?_) (fun c1 => ?_)
  · replace h := ite_f c1 h
    refine x_iconst d_219_21 ic_0 ?_
    obtain rfl := Option.some.inj h
    exact x_ret (r := some (.int (0 : Int32))) d_219_22 ⟨_, rfl, rfl⟩
  · replace h := ite_t c1 h
    refine x_aload_n d_219_8 rfl 0 rfl ?_
    refine y_getL d_219_9 fl_11_165 rfl kd_78 ?_
    refine x_lload_n d_219_12 rfl 1 rfl ?_
    refine x_lcmp d_219_13 ?_
    refine x_if_ne (tgt := 21) d_219_14 rfl (fun c2 => ?_) (fun c2 => ?_)
    · replace h := ite_f c2 h
      refine x_iconst d_219_21 ic_0 ?_
      obtain rfl := Option.some.inj h
      exact x_ret (r := some (.int (0 : Int32))) d_219_22 ⟨_, rfl, rfl⟩
    · replace h := ite_t c2 h
      refine x_iconst d_219_17 ic_1 ?_
      refine x_goto (tgt := 22) d_219_18 rfl ?_
      obtain rfl := Option.some.inj h
      exact x_ret (r := some (.int (1 : Int32))) d_219_22 ⟨_, rfl, rfl⟩
/-! NinetyPlayersModel.wrong -/
def j_222_22 (F G : Nat) (S : St) (s1 : Int32) : Option (St) :=
  lt (sI S 78 2 s1) fun S3 => lt (sI S3 78 3 (S3.1 78 7)) fun S5 => some S5
def fM_wrong (F G : Nat) (S : St) (p1 : Int32) : Option (St) :=
  if (S.1 78 2) ≤ 0 then if (S.1 78 6) = (3 : Int32) then j_222_22 F G  S (1 : Int32) else j_222_22 F G  S p1 else some S
set_option maxRecDepth 100000 in
set_option maxHeartbeats 4000000 in
theorem c_222 {X : Nat × (Nat → Int32)} {D F G : Nat} (hD : 0 ≤ D) {S : St} {p1 : Int32} {res : St} (h : fM_wrong F G S p1 = some res) : Ek X (D) m222 0 [(0, .ref 78), (1, .int p1)] [] S none res := by
  unfold fM_wrong at h
  have J22 : ∀ (S : St) (s1 : Int32) (res : St), j_222_22 F G S s1 = some res → Ek X (D) m222 22 [(0, .ref 78)] [.int s1, .ref 78] S none res := by
    intro S s1 res h
    unfold j_222_22 at h
    obtain ⟨S3, e4, h⟩ := lt_inv h
    refine y_putI e4 d_222_22 fl_11_185 rfl rfl kd_78 rfl rfl ?_
    refine x_aload_n d_222_25 rfl 0 rfl ?_
    refine x_aload_n d_222_26 rfl 0 rfl ?_
    refine y_getI d_222_27 fl_11_162 rfl kd_78 ?_
    obtain ⟨S5, e6, h⟩ := lt_inv h
    refine y_putI e6 d_222_30 fl_11_13 rfl rfl kd_78 rfl rfl ?_
    obtain rfl := Option.some.inj h
    exact x_ret (r := none) d_222_33 rfl
  refine x_aload_n d_222_0 rfl 0 rfl ?_
  refine y_getI d_222_1 fl_11_185 rfl kd_78 ?_
  refine x_if_le (tgt := 8) d_222_4 rfl (fun c1 => ?_) (fun c1 => ?_)
  · replace h := ite_t c1 h
    refine x_aload_n d_222_8 rfl 0 rfl ?_
    refine x_aload_n d_222_9 rfl 0 rfl ?_
    refine y_getI d_222_10 fl_11_172 rfl kd_78 ?_
    refine x_iconst d_222_13 ic_3 ?_
    refine x_icmp_ne (tgt := 21) d_222_14 rfl (fun c2 => ?_) (fun c2 => ?_)
    · replace h := ite_f c2 h
      refine x_iload_n d_222_21 rfl 1 rfl ?_
      refine y_pick (L1 := [(0, .ref 78)]) [0] rfl ?_
      exact J22 S p1 _ h
    · replace h := ite_t c2 h
      refine x_iconst d_222_17 ic_1 ?_
      refine x_goto (tgt := 22) d_222_18 rfl ?_
      refine y_pick (L1 := [(0, .ref 78)]) [0] rfl ?_
      exact J22 S (1 : Int32) _ h
  · replace h := ite_f c1 h
    obtain rfl := Option.some.inj h
    exact x_ret (r := none) d_222_7 rfl
/-! NinetyPlayersModel.want -/
def fM_want (F G : Nat) (S : St) (p1 : Int64) : Option (St) :=
  if (S.1 78 2) ≤ 0 then bd (fM_isWord F G S p1) fun v3 => if v3 = 0 then bd (fM_wrong F G S (2 : Int32)) fun S8 => some S8 else bd (fM_token F G S ) fun S6 => some S6 else some S
set_option maxRecDepth 100000 in
set_option maxHeartbeats 4000000 in
theorem c_221 {X : Nat × (Nat → Int32)} {D F G : Nat} (hD : 2 ≤ D) {S : St} {p1 : Int64} {res : St} (h : fM_want F G S p1 = some res) : Ek X (D) m221 0 [(0, .ref 78), (1, .long p1)] [] S none res := by
  obtain ⟨D, rfl⟩ : ∃ E, D = E + 1 := ⟨D - 1, by omega⟩
  unfold fM_want at h
  refine x_aload_n d_221_0 rfl 0 rfl ?_
  refine y_getI d_221_1 fl_11_185 rfl kd_78 ?_
  refine x_if_le (tgt := 8) d_221_4 rfl (fun c1 => ?_) (fun c1 => ?_)
  · replace h := ite_t c1 h
    refine x_aload_n d_221_8 rfl 0 rfl ?_
    refine x_lload_n d_221_9 rfl 1 rfl ?_
    obtain ⟨v3, q2, h⟩ := bd_inv h
    refine y_V1i (v := v3) (S1 := S) d_221_10 ml_11_234 kd_78 rfl (Nat.le_of_ble_eq_true rfl) (Nat.le_of_ble_eq_true rfl) (c_219 (by omega) q2) ?_
    refine x_if_ne (tgt := 24) d_221_13 rfl (fun c4 => ?_) (fun c4 => ?_)
    · replace h := ite_f c4 h
      refine x_aload_n d_221_24 rfl 0 rfl ?_
      obtain ⟨S6, q5, h⟩ := bd_inv h
      refine y_V0v (S1 := S6) d_221_25 ml_11_241 kd_78 rfl (Nat.le_of_ble_eq_true rfl) (Nat.le_of_ble_eq_true rfl) (c_213 (by omega) q5) ?_
      obtain rfl := Option.some.inj h
      exact x_ret (r := none) d_221_28 rfl
    · replace h := ite_t c4 h
      refine x_aload_n d_221_16 rfl 0 rfl ?_
      refine x_iconst d_221_17 ic_2 ?_
      obtain ⟨S8, q7, h⟩ := bd_inv h
      refine y_V1v (S1 := S8) d_221_18 ml_11_238 kd_78 rfl (Nat.le_of_ble_eq_true rfl) (Nat.le_of_ble_eq_true rfl) (c_222 (by omega) q7) ?_
      refine x_goto (tgt := 28) d_221_21 rfl ?_
      obtain rfl := Option.some.inj h
      exact x_ret (r := none) d_221_28 rfl
  · replace h := ite_f c1 h
    obtain rfl := Option.some.inj h
    exact x_ret (r := none) d_221_7 rfl
/-! NinetyPlayersModel.toldNumber -/
def j_223_46 (F G : Nat) (S : St) : Option (Int32 × St) :=
  lt (S.1 78 8) fun v9 => if (S.1 78 2) = 0 then bd (fM_token F G S ) fun S13 => some (v9, S13) else some (v9, S)
def j_223_41 (F G : Nat) (S : St) : Option (Int32 × St) :=
  bd (fM_wrong F G S (4 : Int32)) fun S8 => j_223_46 F G  S8 
def fM_toldNumber (F G : Nat) (S : St) (p1 : Int32) (p2 : Int32) : Option (Int32 × St) :=
  if (S.1 78 2) ≤ 0 then if (S.1 78 6) = (2 : Int32) then if (S.1 78 8) < p1 then j_223_41 F G  S  else if (S.1 78 8) ≤ p2 then j_223_46 F G  S  else j_223_41 F G  S  else bd (fM_wrong F G S (2 : Int32)) fun S6 => j_223_46 F G  S6  else some ((0 : Int32), S)
set_option maxRecDepth 100000 in
set_option maxHeartbeats 4000000 in
theorem c_223 {X : Nat × (Nat → Int32)} {D F G : Nat} (hD : 2 ≤ D) {S : St} {p1 : Int32} {p2 : Int32} {res : Int32 × St} (h : fM_toldNumber F G S p1 p2 = some res) : Ek X (D) m223 0 [(0, .ref 78), (1, .int p1), (2, .int p2)] [] S (some (.int res.1)) res.2 := by
  obtain ⟨D, rfl⟩ : ∃ E, D = E + 1 := ⟨D - 1, by omega⟩
  unfold fM_toldNumber at h
  have J46 : ∀ (S : St) (res : Int32 × St), j_223_46 F G S  = some res → Ek X (D + 1) m223 46 [(0, .ref 78)] [] S (some (.int res.1)) res.2 := by
    intro S  res h
    unfold j_223_46 at h
    refine x_aload_n d_223_46 rfl 0 rfl ?_
    refine y_getI d_223_47 fl_11_169 rfl kd_78 ?_
    obtain ⟨v9, e10, h⟩ := lt_inv h
    refine y_istore_n (L1 := [(0, .ref 78), (3, .int v9)]) e10 d_223_50 rfl (Nat.le_of_ble_eq_true rfl) rfl rfl ?_
    refine x_aload_n d_223_51 rfl 0 rfl ?_
    refine y_getI d_223_52 fl_11_185 rfl kd_78 ?_
    refine x_if_ne (tgt := 62) d_223_55 rfl (fun c11 => ?_) (fun c11 => ?_)
    · replace h := ite_f c11 h
      refine x_iload_n d_223_62 rfl 1 rfl ?_
      obtain rfl := Option.some.inj h
      exact x_ret (r := some (.int v9)) d_223_63 ⟨_, rfl, rfl⟩
    · replace h := ite_t c11 h
      refine x_aload_n d_223_58 rfl 0 rfl ?_
      obtain ⟨S13, q12, h⟩ := bd_inv h
      refine y_V0v (S1 := S13) d_223_59 ml_11_241 kd_78 rfl (Nat.le_of_ble_eq_true rfl) (Nat.le_of_ble_eq_true rfl) (c_213 (by omega) q12) ?_
      refine x_iload_n d_223_62 rfl 1 rfl ?_
      obtain rfl := Option.some.inj h
      exact x_ret (r := some (.int v9)) d_223_63 ⟨_, rfl, rfl⟩
  have J41 : ∀ (S : St) (res : Int32 × St), j_223_41 F G S  = some res → Ek X (D + 1) m223 41 [(0, .ref 78)] [] S (some (.int res.1)) res.2 := by
    intro S  res h
    unfold j_223_41 at h
    refine x_aload_n d_223_41 rfl 0 rfl ?_
    refine x_iconst d_223_42 ic_4 ?_
    obtain ⟨S8, q7, h⟩ := bd_inv h
    refine y_V1v (S1 := S8) d_223_43 ml_11_238 kd_78 rfl (Nat.le_of_ble_eq_true rfl) (Nat.le_of_ble_eq_true rfl) (c_222 (by omega) q7) ?_
    exact J46 S8  _ h
  refine x_aload_n d_223_0 rfl 0 rfl ?_
  refine y_getI d_223_1 fl_11_185 rfl kd_78 ?_
  refine x_if_le (tgt := 9) d_223_4 rfl (fun c1 => ?_) (fun c1 => ?_)
  · replace h := ite_t c1 h
    refine x_aload_n d_223_9 rfl 0 rfl ?_
    refine y_getI d_223_10 fl_11_172 rfl kd_78 ?_
    refine x_iconst d_223_13 ic_2 ?_
    refine x_icmp_eq (tgt := 25) d_223_14 rfl (fun c2 => ?_) (fun c2 => ?_)
    · replace h := ite_t c2 h
      refine x_aload_n d_223_25 rfl 0 rfl ?_
      refine y_getI d_223_26 fl_11_169 rfl kd_78 ?_
      refine x_iload_n d_223_29 rfl 1 rfl ?_
      refine x_icmp_lt (tgt := 41) d_223_30 rfl (fun c3 => ?_) (fun c3 => ?_)
      · replace h := ite_t c3 h
        refine y_pick (L1 := [(0, .ref 78)]) [0] rfl ?_
        exact J41 S  _ h
      · replace h := ite_f c3 h
        refine x_aload_n d_223_33 rfl 0 rfl ?_
        refine y_getI d_223_34 fl_11_169 rfl kd_78 ?_
        refine x_iload_n d_223_37 rfl 2 rfl ?_
        refine x_icmp_le (tgt := 46) d_223_38 rfl (fun c4 => ?_) (fun c4 => ?_)
        · replace h := ite_t c4 h
          refine y_pick (L1 := [(0, .ref 78)]) [0] rfl ?_
          exact J46 S  _ h
        · replace h := ite_f c4 h
          refine y_pick (L1 := [(0, .ref 78)]) [0] rfl ?_
          exact J41 S  _ h
    · replace h := ite_f c2 h
      refine x_aload_n d_223_17 rfl 0 rfl ?_
      refine x_iconst d_223_18 ic_2 ?_
      obtain ⟨S6, q5, h⟩ := bd_inv h
      refine y_V1v (S1 := S6) d_223_19 ml_11_238 kd_78 rfl (Nat.le_of_ble_eq_true rfl) (Nat.le_of_ble_eq_true rfl) (c_222 (by omega) q5) ?_
      refine x_goto (tgt := 46) d_223_22 rfl ?_
      refine y_pick (L1 := [(0, .ref 78)]) [0] rfl ?_
      exact J46 S6  _ h
  · replace h := ite_f c1 h
    refine x_iconst d_223_7 ic_0 ?_
    obtain rfl := Option.some.inj h
    exact x_ret (r := some (.int (0 : Int32))) d_223_8 ⟨_, rfl, rfl⟩
/-! NinetyPlayersModel.told -/
def fM_told (F G : Nat) (S : St) (p1 : Int64) (p2 : Int32) (p3 : Int32) : Option (Int32 × St) :=
  bd (fM_want F G S p1) fun S2 => bd2 (fM_toldNumber F G S2 p2 p3) fun v4 S5 => some (v4, S5)
set_option maxRecDepth 100000 in
set_option maxHeartbeats 4000000 in
theorem c_220 {X : Nat × (Nat → Int32)} {D F G : Nat} (hD : 3 ≤ D) {S : St} {p1 : Int64} {p2 : Int32} {p3 : Int32} {res : Int32 × St} (h : fM_told F G S p1 p2 p3 = some res) : Ek X (D) m220 0 [(0, .ref 78), (1, .long p1), (3, .int p2), (4, .int p3)] [] S (some (.int res.1)) res.2 := by
  obtain ⟨D, rfl⟩ : ∃ E, D = E + 1 := ⟨D - 1, by omega⟩
  unfold fM_told at h
  refine x_aload_n d_220_0 rfl 0 rfl ?_
  refine x_lload_n d_220_1 rfl 1 rfl ?_
  obtain ⟨S2, q1, h⟩ := bd_inv h
  refine y_V1v (S1 := S2) d_220_2 ml_11_244 kd_78 rfl (Nat.le_of_ble_eq_true rfl) (Nat.le_of_ble_eq_true rfl) (c_221 (by omega) q1) ?_
  refine x_aload_n d_220_5 rfl 0 rfl ?_
  refine x_iload_n d_220_6 rfl 2 rfl ?_
  refine x_iload d_220_7 3 rfl ?_
  obtain ⟨v4, S5, q3, h⟩ := bd2_inv h
  refine y_V2i (v := v4) (S1 := S5) d_220_9 ml_11_248 kd_78 rfl (Nat.le_of_ble_eq_true rfl) (Nat.le_of_ble_eq_true rfl) (c_223 (by omega) q3) ?_
  obtain rfl := Option.some.inj h
  exact x_ret (r := some (.int v4)) d_220_12 ⟨_, rfl, rfl⟩
/-! NinetyPlayersModel.isOwn -/
def fM_isOwn (F G : Nat) (S : St) : Option (Int32) :=
  if (lg_cmp (S.2.1 78 9) (422607680627 : Int64)) = 0 then some (1 : Int32) else if (lg_cmp (S.2.1 78 9) (1885434484 : Int64)) = 0 then some (1 : Int32) else if (lg_cmp (S.2.1 78 9) (1953853029 : Int64)) = 0 then some (1 : Int32) else if (lg_cmp (S.2.1 78 9) (1650553715 : Int64)) = 0 then some (1 : Int32) else if (lg_cmp (S.2.1 78 9) (1852798053 : Int64)) = 0 then some (1 : Int32) else if (lg_cmp (S.2.1 78 9) (28518 : Int64)) = 0 then some (1 : Int32) else if (lg_cmp (S.2.1 78 9) (24948 : Int64)) = 0 then some (1 : Int32) else if (lg_cmp (S.2.1 78 9) (7038329 : Int64)) = 0 then some (1 : Int32) else if (lg_cmp (S.2.1 78 9) (1819242087 : Int64)) = 0 then some (1 : Int32) else if (lg_cmp (S.2.1 78 9) (1819243876 : Int64)) = 0 then some (1 : Int32) else if (lg_cmp (S.2.1 78 9) (120299675936100 : Int64)) = 0 then some (1 : Int32) else if (lg_cmp (S.2.1 78 9) (1936744814 : Int64)) = 0 then some (1 : Int32) else if (lg_cmp (S.2.1 78 9) (28826370526507635 : Int64)) = 0 then some (1 : Int32) else if (lg_cmp (S.2.1 78 9) (1818583408 : Int64)) = 0 then some (1 : Int32) else if (lg_cmp (S.2.1 78 9) (6644082 : Int64)) = 0 then some (1 : Int32) else if (lg_cmp (S.2.1 78 9) (1919904869 : Int64)) = 0 then some (1 : Int32) else if (lg_cmp (S.2.1 78 9) (28270047624193380 : Int64)) = 0 then some (1 : Int32) else if (lg_cmp (S.2.1 78 9) (1650811252 : Int64)) = 0 then some (1 : Int32) else if (lg_cmp (S.2.1 78 9) (6385252 : Int64)) = 0 then some (1 : Int32) else if (lg_cmp (S.2.1 78 9) (28530 : Int64)) = 0 then some (1 : Int32) else if (lg_cmp (S.2.1 78 9) (7237492 : Int64)) = 0 then some (1 : Int32) else some (0 : Int32)
set_option maxRecDepth 100000 in
set_option maxHeartbeats 4000000 in
theorem c_227 {X : Nat × (Nat → Int32)} {D F G : Nat} (hD : 0 ≤ D) {S : St} {res : Int32} (h : fM_isOwn F G S  = some res) : Ek X (D) m227 0 [(0, .ref 78)] [] S (some (.int res)) S := by
  unfold fM_isOwn at h
  refine x_aload_n d_227_0 rfl 0 rfl ?_
  refine y_getL d_227_1 fl_11_165 rfl kd_78 ?_
  refine x_ldc2 d_227_4 kc_11_188 ?_
  refine x_lcmp d_227_7 ?_
  refine x_if_eq (tgt := 231) d_227_8 rfl (fun c1 => ?_) (fun c1 => ?_)
  · replace h := ite_t c1 h
    refine x_iconst d_227_231 ic_1 ?_
    refine x_goto (tgt := 236) d_227_232 rfl ?_
    obtain rfl := Option.some.inj h
    exact x_ret (r := some (.int (1 : Int32))) d_227_236 ⟨_, rfl, rfl⟩
  · replace h := ite_f c1 h
    refine x_aload_n d_227_11 rfl 0 rfl ?_
    refine y_getL d_227_12 fl_11_165 rfl kd_78 ?_
    refine x_ldc2 d_227_15 kc_11_190 ?_
    refine x_lcmp d_227_18 ?_
    refine x_if_eq (tgt := 231) d_227_19 rfl (fun c2 => ?_) (fun c2 => ?_)
    · replace h := ite_t c2 h
      refine x_iconst d_227_231 ic_1 ?_
      refine x_goto (tgt := 236) d_227_232 rfl ?_
      obtain rfl := Option.some.inj h
      exact x_ret (r := some (.int (1 : Int32))) d_227_236 ⟨_, rfl, rfl⟩
    · replace h := ite_f c2 h
      refine x_aload_n d_227_22 rfl 0 rfl ?_
      refine y_getL d_227_23 fl_11_165 rfl kd_78 ?_
      refine x_ldc2 d_227_26 kc_11_192 ?_
      refine x_lcmp d_227_29 ?_
      refine x_if_eq (tgt := 231) d_227_30 rfl (fun c3 => ?_) (fun c3 => ?_)
      · replace h := ite_t c3 h
        refine x_iconst d_227_231 ic_1 ?_
        refine x_goto (tgt := 236) d_227_232 rfl ?_
        obtain rfl := Option.some.inj h
        exact x_ret (r := some (.int (1 : Int32))) d_227_236 ⟨_, rfl, rfl⟩
      · replace h := ite_f c3 h
        refine x_aload_n d_227_33 rfl 0 rfl ?_
        refine y_getL d_227_34 fl_11_165 rfl kd_78 ?_
        refine x_ldc2 d_227_37 kc_11_194 ?_
        refine x_lcmp d_227_40 ?_
        refine x_if_eq (tgt := 231) d_227_41 rfl (fun c4 => ?_) (fun c4 => ?_)
        · replace h := ite_t c4 h
          refine x_iconst d_227_231 ic_1 ?_
          refine x_goto (tgt := 236) d_227_232 rfl ?_
          obtain rfl := Option.some.inj h
          exact x_ret (r := some (.int (1 : Int32))) d_227_236 ⟨_, rfl, rfl⟩
        · replace h := ite_f c4 h
          refine x_aload_n d_227_44 rfl 0 rfl ?_
          refine y_getL d_227_45 fl_11_165 rfl kd_78 ?_
          refine x_ldc2 d_227_48 kc_11_196 ?_
          refine x_lcmp d_227_51 ?_
          refine x_if_eq (tgt := 231) d_227_52 rfl (fun c5 => ?_) (fun c5 => ?_)
          · replace h := ite_t c5 h
            refine x_iconst d_227_231 ic_1 ?_
            refine x_goto (tgt := 236) d_227_232 rfl ?_
            obtain rfl := Option.some.inj h
            exact x_ret (r := some (.int (1 : Int32))) d_227_236 ⟨_, rfl, rfl⟩
          · replace h := ite_f c5 h
            refine x_aload_n d_227_55 rfl 0 rfl ?_
            refine y_getL d_227_56 fl_11_165 rfl kd_78 ?_
            refine x_ldc2 d_227_59 kc_11_198 ?_
            refine x_lcmp d_227_62 ?_
            refine x_if_eq (tgt := 231) d_227_63 rfl (fun c6 => ?_) (fun c6 => ?_)
            · replace h := ite_t c6 h
              refine x_iconst d_227_231 ic_1 ?_
              refine x_goto (tgt := 236) d_227_232 rfl ?_
              obtain rfl := Option.some.inj h
              exact x_ret (r := some (.int (1 : Int32))) d_227_236 ⟨_, rfl, rfl⟩
            · replace h := ite_f c6 h
              refine x_aload_n d_227_66 rfl 0 rfl ?_
              refine y_getL d_227_67 fl_11_165 rfl kd_78 ?_
              refine x_ldc2 d_227_70 kc_11_200 ?_
              refine x_lcmp d_227_73 ?_
              refine x_if_eq (tgt := 231) d_227_74 rfl (fun c7 => ?_) (fun c7 => ?_)
              · replace h := ite_t c7 h
                refine x_iconst d_227_231 ic_1 ?_
                refine x_goto (tgt := 236) d_227_232 rfl ?_
                obtain rfl := Option.some.inj h
                exact x_ret (r := some (.int (1 : Int32))) d_227_236 ⟨_, rfl, rfl⟩
              · replace h := ite_f c7 h
                refine x_aload_n d_227_77 rfl 0 rfl ?_
                refine y_getL d_227_78 fl_11_165 rfl kd_78 ?_
                refine x_ldc2 d_227_81 kc_11_202 ?_
                refine x_lcmp d_227_84 ?_
                refine x_if_eq (tgt := 231) d_227_85 rfl (fun c8 => ?_) (fun c8 => ?_)
                · replace h := ite_t c8 h
                  refine x_iconst d_227_231 ic_1 ?_
                  refine x_goto (tgt := 236) d_227_232 rfl ?_
                  obtain rfl := Option.some.inj h
                  exact x_ret (r := some (.int (1 : Int32))) d_227_236 ⟨_, rfl, rfl⟩
                · replace h := ite_f c8 h
                  refine x_aload_n d_227_88 rfl 0 rfl ?_
                  refine y_getL d_227_89 fl_11_165 rfl kd_78 ?_
                  refine x_ldc2 d_227_92 kc_11_204 ?_
                  refine x_lcmp d_227_95 ?_
                  refine x_if_eq (tgt := 231) d_227_96 rfl (fun c9 => ?_) (fun c9 => ?_)
                  · replace h := ite_t c9 h
                    refine x_iconst d_227_231 ic_1 ?_
                    refine x_goto (tgt := 236) d_227_232 rfl ?_
                    obtain rfl := Option.some.inj h
                    exact x_ret (r := some (.int (1 : Int32))) d_227_236 ⟨_, rfl, rfl⟩
                  · replace h := ite_f c9 h
                    refine x_aload_n d_227_99 rfl 0 rfl ?_
                    refine y_getL d_227_100 fl_11_165 rfl kd_78 ?_
                    refine x_ldc2 d_227_103 kc_11_206 ?_
                    refine x_lcmp d_227_106 ?_
                    refine x_if_eq (tgt := 231) d_227_107 rfl (fun c10 => ?_) (fun c10 => ?_)
                    · replace h := ite_t c10 h
                      refine x_iconst d_227_231 ic_1 ?_
                      refine x_goto (tgt := 236) d_227_232 rfl ?_
                      obtain rfl := Option.some.inj h
                      exact x_ret (r := some (.int (1 : Int32))) d_227_236 ⟨_, rfl, rfl⟩
                    · replace h := ite_f c10 h
                      refine x_aload_n d_227_110 rfl 0 rfl ?_
                      refine y_getL d_227_111 fl_11_165 rfl kd_78 ?_
                      refine x_ldc2 d_227_114 kc_11_208 ?_
                      refine x_lcmp d_227_117 ?_
                      refine x_if_eq (tgt := 231) d_227_118 rfl (fun c11 => ?_) (fun c11 => ?_)
                      · replace h := ite_t c11 h
                        refine x_iconst d_227_231 ic_1 ?_
                        refine x_goto (tgt := 236) d_227_232 rfl ?_
                        obtain rfl := Option.some.inj h
                        exact x_ret (r := some (.int (1 : Int32))) d_227_236 ⟨_, rfl, rfl⟩
                      · replace h := ite_f c11 h
                        refine x_aload_n d_227_121 rfl 0 rfl ?_
                        refine y_getL d_227_122 fl_11_165 rfl kd_78 ?_
                        refine x_ldc2 d_227_125 kc_11_210 ?_
                        refine x_lcmp d_227_128 ?_
                        refine x_if_eq (tgt := 231) d_227_129 rfl (fun c12 => ?_) (fun c12 => ?_)
                        · replace h := ite_t c12 h
                          refine x_iconst d_227_231 ic_1 ?_
                          refine x_goto (tgt := 236) d_227_232 rfl ?_
                          obtain rfl := Option.some.inj h
                          exact x_ret (r := some (.int (1 : Int32))) d_227_236 ⟨_, rfl, rfl⟩
                        · replace h := ite_f c12 h
                          refine x_aload_n d_227_132 rfl 0 rfl ?_
                          refine y_getL d_227_133 fl_11_165 rfl kd_78 ?_
                          refine x_ldc2 d_227_136 kc_11_212 ?_
                          refine x_lcmp d_227_139 ?_
                          refine x_if_eq (tgt := 231) d_227_140 rfl (fun c13 => ?_) (fun c13 => ?_)
                          · replace h := ite_t c13 h
                            refine x_iconst d_227_231 ic_1 ?_
                            refine x_goto (tgt := 236) d_227_232 rfl ?_
                            obtain rfl := Option.some.inj h
                            exact x_ret (r := some (.int (1 : Int32))) d_227_236 ⟨_, rfl, rfl⟩
                          · replace h := ite_f c13 h
                            refine x_aload_n d_227_143 rfl 0 rfl ?_
                            refine y_getL d_227_144 fl_11_165 rfl kd_78 ?_
                            refine x_ldc2 d_227_147 kc_11_214 ?_
                            refine x_lcmp d_227_150 ?_
                            refine x_if_eq (tgt := 231) d_227_151 rfl (fun c14 => ?_) (fun c14 => ?_)
                            · replace h := ite_t c14 h
                              refine x_iconst d_227_231 ic_1 ?_
                              refine x_goto (tgt := 236) d_227_232 rfl ?_
                              obtain rfl := Option.some.inj h
                              exact x_ret (r := some (.int (1 : Int32))) d_227_236 ⟨_, rfl, rfl⟩
                            · replace h := ite_f c14 h
                              refine x_aload_n d_227_154 rfl 0 rfl ?_
                              refine y_getL d_227_155 fl_11_165 rfl kd_78 ?_
                              refine x_ldc2 d_227_158 kc_11_216 ?_
                              refine x_lcmp d_227_161 ?_
                              refine x_if_eq (tgt := 231) d_227_162 rfl (fun c15 => ?_) (fun c15 => ?_)
                              · replace h := ite_t c15 h
                                refine x_iconst d_227_231 ic_1 ?_
                                refine x_goto (tgt := 236) d_227_232 rfl ?_
                                obtain rfl := Option.some.inj h
                                exact x_ret (r := some (.int (1 : Int32))) d_227_236 ⟨_, rfl, rfl⟩
                              · replace h := ite_f c15 h
                                refine x_aload_n d_227_165 rfl 0 rfl ?_
                                refine y_getL d_227_166 fl_11_165 rfl kd_78 ?_
                                refine x_ldc2 d_227_169 kc_11_218 ?_
                                refine x_lcmp d_227_172 ?_
                                refine x_if_eq (tgt := 231) d_227_173 rfl (fun c16 => ?_) (fun c16 => ?_)
                                · replace h := ite_t c16 h
                                  refine x_iconst d_227_231 ic_1 ?_
                                  refine x_goto (tgt := 236) d_227_232 rfl ?_
                                  obtain rfl := Option.some.inj h
                                  exact x_ret (r := some (.int (1 : Int32))) d_227_236 ⟨_, rfl, rfl⟩
                                · replace h := ite_f c16 h
                                  refine x_aload_n d_227_176 rfl 0 rfl ?_
                                  refine y_getL d_227_177 fl_11_165 rfl kd_78 ?_
                                  refine x_ldc2 d_227_180 kc_11_220 ?_
                                  refine x_lcmp d_227_183 ?_
                                  refine x_if_eq (tgt := 231) d_227_184 rfl (fun c17 => ?_) (fun c17 => ?_)
                                  · replace h := ite_t c17 h
                                    refine x_iconst d_227_231 ic_1 ?_
                                    refine x_goto (tgt := 236) d_227_232 rfl ?_
                                    obtain rfl := Option.some.inj h
                                    exact x_ret (r := some (.int (1 : Int32))) d_227_236 ⟨_, rfl, rfl⟩
                                  · replace h := ite_f c17 h
                                    refine x_aload_n d_227_187 rfl 0 rfl ?_
                                    refine y_getL d_227_188 fl_11_165 rfl kd_78 ?_
                                    refine x_ldc2 d_227_191 kc_11_222 ?_
                                    refine x_lcmp d_227_194 ?_
                                    refine x_if_eq (tgt := 231) d_227_195 rfl (fun c18 => ?_) (fun c18 => ?_)
                                    · replace h := ite_t c18 h
                                      refine x_iconst d_227_231 ic_1 ?_
                                      refine x_goto (tgt := 236) d_227_232 rfl ?_
                                      obtain rfl := Option.some.inj h
                                      exact x_ret (r := some (.int (1 : Int32))) d_227_236 ⟨_, rfl, rfl⟩
                                    · replace h := ite_f c18 h
                                      refine x_aload_n d_227_198 rfl 0 rfl ?_
                                      refine y_getL d_227_199 fl_11_165 rfl kd_78 ?_
                                      refine x_ldc2 d_227_202 kc_11_224 ?_
                                      refine x_lcmp d_227_205 ?_
                                      refine x_if_eq (tgt := 231) d_227_206 rfl (fun c19 => ?_) (fun c19 => ?_)
                                      · replace h := ite_t c19 h
                                        refine x_iconst d_227_231 ic_1 ?_
                                        refine x_goto (tgt := 236) d_227_232 rfl ?_
                                        obtain rfl := Option.some.inj h
                                        exact x_ret (r := some (.int (1 : Int32))) d_227_236 ⟨_, rfl, rfl⟩
                                      · replace h := ite_f c19 h
                                        refine x_aload_n d_227_209 rfl 0 rfl ?_
                                        refine y_getL d_227_210 fl_11_165 rfl kd_78 ?_
                                        refine x_ldc2 d_227_213 kc_11_226 ?_
                                        refine x_lcmp d_227_216 ?_
                                        refine x_if_eq (tgt := 231) d_227_217 rfl (fun c20 => ?_) (fun c20 => ?_)
                                        · replace h := ite_t c20 h
                                          refine x_iconst d_227_231 ic_1 ?_
                                          refine x_goto (tgt := 236) d_227_232 rfl ?_
                                          obtain rfl := Option.some.inj h
                                          exact x_ret (r := some (.int (1 : Int32))) d_227_236 ⟨_, rfl, rfl⟩
                                        · replace h := ite_f c20 h
                                          refine x_aload_n d_227_220 rfl 0 rfl ?_
                                          refine y_getL d_227_221 fl_11_165 rfl kd_78 ?_
                                          refine x_ldc2 d_227_224 kc_11_228 ?_
                                          refine x_lcmp d_227_227 ?_
                                          refine x_if_ne (tgt := 235) d_227_228 rfl (fun c21 => ?_) (fun c21 => ?_)
                                          · replace h := ite_f c21 h
                                            refine x_iconst d_227_235 ic_0 ?_
                                            obtain rfl := Option.some.inj h
                                            exact x_ret (r := some (.int (0 : Int32))) d_227_236 ⟨_, rfl, rfl⟩
                                          · replace h := ite_t c21 h
                                            refine x_iconst d_227_231 ic_1 ?_
                                            refine x_goto (tgt := 236) d_227_232 rfl ?_
                                            obtain rfl := Option.some.inj h
                                            exact x_ret (r := some (.int (1 : Int32))) d_227_236 ⟨_, rfl, rfl⟩
/-! NinetyPlayersModel.isName -/
def fM_isName (F G : Nat) (S : St) : Option (Int32) :=
  if (S.1 78 6) = (1 : Int32) then bd (fM_isOwn F G S) fun v3 => if v3 = 0 then some (1 : Int32) else some (0 : Int32) else some (0 : Int32)
set_option maxRecDepth 100000 in
set_option maxHeartbeats 4000000 in
theorem c_226 {X : Nat × (Nat → Int32)} {D F G : Nat} (hD : 1 ≤ D) {S : St} {res : Int32} (h : fM_isName F G S  = some res) : Ek X (D) m226 0 [(0, .ref 78)] [] S (some (.int res)) S := by
  obtain ⟨D, rfl⟩ : ∃ E, D = E + 1 := ⟨D - 1, by omega⟩
  unfold fM_isName at h
  refine x_aload_n d_226_0 rfl 0 rfl ?_
  refine y_getI d_226_1 fl_11_172 rfl kd_78 ?_
  refine x_iconst d_226_4 ic_1 ?_
  refine x_icmp_ne (tgt := 19) d_226_5 rfl (fun c1 => ?_) (fun c1 => ?_)
  · replace h := ite_f c1 h
    refine x_iconst d_226_19 ic_0 ?_
    obtain rfl := Option.some.inj h
    exact x_ret (r := some (.int (0 : Int32))) d_226_20 ⟨_, rfl, rfl⟩
  · replace h := ite_t c1 h
    refine x_aload_n d_226_8 rfl 0 rfl ?_
    obtain ⟨v3, q2, h⟩ := bd_inv h
    refine y_V0i (v := v3) (S1 := S) d_226_9 ml_11_230 kd_78 rfl (Nat.le_of_ble_eq_true rfl) (Nat.le_of_ble_eq_true rfl) (c_227 (by omega) q2) ?_
    refine x_if_ne (tgt := 19) d_226_12 rfl (fun c4 => ?_) (fun c4 => ?_)
    · replace h := ite_f c4 h
      refine x_iconst d_226_19 ic_0 ?_
      obtain rfl := Option.some.inj h
      exact x_ret (r := some (.int (0 : Int32))) d_226_20 ⟨_, rfl, rfl⟩
    · replace h := ite_t c4 h
      refine x_iconst d_226_15 ic_1 ?_
      refine x_goto (tgt := 20) d_226_16 rfl ?_
      obtain rfl := Option.some.inj h
      exact x_ret (r := some (.int (1 : Int32))) d_226_20 ⟨_, rfl, rfl⟩
/-! NinetyPlayersModel.find -/
def b_228_5 (F G : Nat) (S : St) (z1 : Int32) (z2 : Int32) (rec : Int32 → Int32 → Option (Int32)) (w3 : Int32) (w4 : Int32) : Option (Int32) :=
  if z2 ≤ w4 then some w3 else gd (inB (z1 + w4) 14) (if (lg_cmp (S.2.1 80 (z1 + w4).toNatClampNeg) (S.2.1 78 9)) = 0 then lt (w4 + 1) fun v6 => rec w4 v6 else lt (w4 + 1) fun v4 => rec w3 v4)
def fM_find (F G : Nat) (S : St) (p1 : Int32) (p2 : Int32) : Option (Int32) :=
  fx2 (b_228_5 F G S p1 p2) F (-1 : Int32) (0 : Int32)
set_option maxRecDepth 100000 in
set_option maxHeartbeats 4000000 in
theorem T_228_5 {X : Nat × (Nat → Int32)} {D F G : Nat} (hD : 0 ≤ D) {S : St} {z1 : Int32} {z2 : Int32} : ∀ (f : Nat) (w3 : Int32) (w4 : Int32) (res : Int32), fx2 (b_228_5 F G S z1 z2 ) f w3 w4 = some res → Ek X (D) m228 5 [(0, .ref 78), (1, .int z1), (2, .int z2), (3, .int w3), (4, .int w4)] [] S (some (.int res)) S := by
  refine fx2_ind ?_
  intro rec ih w3 w4 res h
  unfold b_228_5 at h
  refine x_iload d_228_5 4 rfl ?_
  refine x_iload_n d_228_7 rfl 2 rfl ?_
  refine x_icmp_ge (tgt := 41) d_228_8 rfl (fun c1 => ?_) (fun c1 => ?_)
  · replace h := ite_t c1 h
    refine x_iload_n d_228_41 rfl 3 rfl ?_
    obtain rfl := Option.some.inj h
    exact x_ret (r := some (.int w3)) d_228_42 ⟨_, rfl, rfl⟩
  · replace h := ite_f c1 h
    refine x_aload_n d_228_11 rfl 0 rfl ?_
    refine y_getR d_228_12 fl_11_17 rfl kd_78 rr_78_10 ?_
    refine x_iload_n d_228_15 rfl 1 rfl ?_
    refine x_iload d_228_16 4 rfl ?_
    refine x_iadd d_228_18 ?_
    obtain ⟨g2, h⟩ := gd_inv h
    refine y_lald d_228_19 kd_80 g2 ?_
    refine x_aload_n d_228_20 rfl 0 rfl ?_
    refine y_getL d_228_21 fl_11_165 rfl kd_78 ?_
    refine x_lcmp d_228_24 ?_
    refine x_if_ne (tgt := 33) d_228_25 rfl (fun c3 => ?_) (fun c3 => ?_)
    · replace h := ite_f c3 h
      refine x_iload_n d_228_33 rfl 3 rfl ?_
      refine x_istore_n (L1 := [(0, .ref 78), (1, .int z1), (2, .int z2), (3, .int w3), (4, .int w4)]) d_228_34 rfl (Nat.le_of_ble_eq_true rfl) rfl rfl ?_
      obtain ⟨v4, e5, h⟩ := lt_inv h
      refine y_iinc (L1 := [(0, .ref 78), (1, .int z1), (2, .int z2), (3, .int w3), (4, .int v4)]) e5 ic_1 d_228_35 4 rfl (Nat.le_of_ble_eq_true rfl) rfl rfl ?_
      refine x_goto (tgt := 5) d_228_38 rfl ?_
      exact ih w3 v4 _ h
    · replace h := ite_t c3 h
      refine x_iload d_228_28 4 rfl ?_
      refine x_goto (tgt := 34) d_228_30 rfl ?_
      refine x_istore_n (L1 := [(0, .ref 78), (1, .int z1), (2, .int z2), (3, .int w4), (4, .int w4)]) d_228_34 rfl (Nat.le_of_ble_eq_true rfl) rfl rfl ?_
      obtain ⟨v6, e7, h⟩ := lt_inv h
      refine y_iinc (L1 := [(0, .ref 78), (1, .int z1), (2, .int z2), (3, .int w4), (4, .int v6)]) e7 ic_1 d_228_35 4 rfl (Nat.le_of_ble_eq_true rfl) rfl rfl ?_
      refine x_goto (tgt := 5) d_228_38 rfl ?_
      exact ih w4 v6 _ h
set_option maxRecDepth 100000 in
set_option maxHeartbeats 4000000 in
theorem c_228 {X : Nat × (Nat → Int32)} {D F G : Nat} (hD : 0 ≤ D) {S : St} {p1 : Int32} {p2 : Int32} {res : Int32} (h : fM_find F G S p1 p2 = some res) : Ek X (D) m228 0 [(0, .ref 78), (1, .int p1), (2, .int p2)] [] S (some (.int res)) S := by
  unfold fM_find at h
  refine x_iconst d_228_0 ic_m1 ?_
  refine x_istore_n (L1 := [(0, .ref 78), (1, .int p1), (2, .int p2), (3, .int (-1 : Int32))]) d_228_1 rfl (Nat.le_of_ble_eq_true rfl) rfl rfl ?_
  refine x_iconst d_228_2 ic_0 ?_
  refine x_istore (L1 := [(0, .ref 78), (1, .int p1), (2, .int p2), (3, .int (-1 : Int32)), (4, .int (0 : Int32))]) d_228_3 (Nat.le_of_ble_eq_true rfl) rfl rfl ?_
  refine T_228_5 (by omega)   F (-1 : Int32) (0 : Int32) _ h
/-! NinetyPlayersModel.newName -/
def j_225_33 (F G : Nat) (S : St) (y1 : Int32) (y2 : Int32) : Option (St) :=
  if (S.1 78 2) ≤ 0 then gd (inB (y1 + y2) 14) (lt (sL S 80 (y1 + y2).toNatClampNeg (S.2.1 78 9)) fun S15 => bd (fM_token F G S15 ) fun S18 => some S18) else some S
def fM_newName (F G : Nat) (S : St) (p1 : Int32) (p2 : Int32) : Option (St) :=
  bd (fM_token F G S ) fun S2 => bd (fM_isName F G S2) fun v4 => if v4 = 0 then bd (fM_wrong F G S2 (2 : Int32)) fun S12 => j_225_33 F G  S12 p1 p2 else bd (fM_find F G S2 p1 p2) fun v7 => if v7 < 0 then j_225_33 F G  S2 p1 p2 else bd (fM_wrong F G S2 (3 : Int32)) fun S10 => j_225_33 F G  S10 p1 p2
set_option maxRecDepth 100000 in
set_option maxHeartbeats 4000000 in
theorem c_225 {X : Nat × (Nat → Int32)} {D F G : Nat} (hD : 2 ≤ D) {S : St} {p1 : Int32} {p2 : Int32} {res : St} (h : fM_newName F G S p1 p2 = some res) : Ek X (D) m225 0 [(0, .ref 78), (1, .int p1), (2, .int p2)] [] S none res := by
  obtain ⟨D, rfl⟩ : ∃ E, D = E + 1 := ⟨D - 1, by omega⟩
  unfold fM_newName at h
  have J33 : ∀ (S : St) (y1 : Int32) (y2 : Int32) (res : St), j_225_33 F G S y1 y2 = some res → Ek X (D + 1) m225 33 [(0, .ref 78), (1, .int y1), (2, .int y2)] [] S none res := by
    intro S y1 y2 res h
    unfold j_225_33 at h
    refine x_aload_n d_225_33 rfl 0 rfl ?_
    refine y_getI d_225_34 fl_11_185 rfl kd_78 ?_
    refine x_if_le (tgt := 41) d_225_37 rfl (fun c13 => ?_) (fun c13 => ?_)
    · replace h := ite_t c13 h
      refine x_aload_n d_225_41 rfl 0 rfl ?_
      refine y_getR d_225_42 fl_11_17 rfl kd_78 rr_78_10 ?_
      refine x_iload_n d_225_45 rfl 1 rfl ?_
      refine x_iload_n d_225_46 rfl 2 rfl ?_
      refine x_iadd d_225_47 ?_
      refine x_aload_n d_225_48 rfl 0 rfl ?_
      refine y_getL d_225_49 fl_11_165 rfl kd_78 ?_
      obtain ⟨g14, h⟩ := gd_inv h
      obtain ⟨S15, e16, h⟩ := lt_inv h
      refine y_last e16 d_225_52 kd_80 g14 ?_
      refine x_aload_n d_225_53 rfl 0 rfl ?_
      obtain ⟨S18, q17, h⟩ := bd_inv h
      refine y_V0v (S1 := S18) d_225_54 ml_11_241 kd_78 rfl (Nat.le_of_ble_eq_true rfl) (Nat.le_of_ble_eq_true rfl) (c_213 (by omega) q17) ?_
      obtain rfl := Option.some.inj h
      exact x_ret (r := none) d_225_57 rfl
    · replace h := ite_f c13 h
      obtain rfl := Option.some.inj h
      exact x_ret (r := none) d_225_40 rfl
  refine x_aload_n d_225_0 rfl 0 rfl ?_
  obtain ⟨S2, q1, h⟩ := bd_inv h
  refine y_V0v (S1 := S2) d_225_1 ml_11_241 kd_78 rfl (Nat.le_of_ble_eq_true rfl) (Nat.le_of_ble_eq_true rfl) (c_213 (by omega) q1) ?_
  refine x_aload_n d_225_4 rfl 0 rfl ?_
  obtain ⟨v4, q3, h⟩ := bd_inv h
  refine y_V0i (v := v4) (S1 := S2) d_225_5 ml_11_252 kd_78 rfl (Nat.le_of_ble_eq_true rfl) (Nat.le_of_ble_eq_true rfl) (c_226 (by omega) q3) ?_
  refine x_if_ne (tgt := 19) d_225_8 rfl (fun c5 => ?_) (fun c5 => ?_)
  · replace h := ite_f c5 h
    refine x_aload_n d_225_19 rfl 0 rfl ?_
    refine x_iload_n d_225_20 rfl 1 rfl ?_
    refine x_iload_n d_225_21 rfl 2 rfl ?_
    obtain ⟨v7, q6, h⟩ := bd_inv h
    refine y_V2i (v := v7) (S1 := S2) d_225_22 ml_11_255 kd_78 rfl (Nat.le_of_ble_eq_true rfl) (Nat.le_of_ble_eq_true rfl) (c_228 (by omega) q6) ?_
    refine x_if_lt (tgt := 33) d_225_25 rfl (fun c8 => ?_) (fun c8 => ?_)
    · replace h := ite_t c8 h
      exact J33 S2 p1 p2 _ h
    · replace h := ite_f c8 h
      refine x_aload_n d_225_28 rfl 0 rfl ?_
      refine x_iconst d_225_29 ic_3 ?_
      obtain ⟨S10, q9, h⟩ := bd_inv h
      refine y_V1v (S1 := S10) d_225_30 ml_11_238 kd_78 rfl (Nat.le_of_ble_eq_true rfl) (Nat.le_of_ble_eq_true rfl) (c_222 (by omega) q9) ?_
      exact J33 S10 p1 p2 _ h
  · replace h := ite_t c5 h
    refine x_aload_n d_225_11 rfl 0 rfl ?_
    refine x_iconst d_225_12 ic_2 ?_
    obtain ⟨S12, q11, h⟩ := bd_inv h
    refine y_V1v (S1 := S12) d_225_13 ml_11_238 kd_78 rfl (Nat.le_of_ble_eq_true rfl) (Nat.le_of_ble_eq_true rfl) (c_222 (by omega) q11) ?_
    refine x_goto (tgt := 33) d_225_16 rfl ?_
    exact J33 S12 p1 p2 _ h
/-! NinetyPlayersModel.truth -/
def fM_truth (F G : Nat) (S : St) (p1 : Int32) : Option (Int32) :=
  if p1 = 0 then some (0 : Int32) else some (1 : Int32)
set_option maxRecDepth 100000 in
set_option maxHeartbeats 4000000 in
theorem c_229 {X : Nat × (Nat → Int32)} {D F G : Nat} (hD : 0 ≤ D) {S : St} {p1 : Int32} {res : Int32} (h : fM_truth F G S p1 = some res) : Ek X (D) m229 0 [(0, .int p1)] [] S (some (.int res)) S := by
  unfold fM_truth at h
  refine x_iload_n d_229_0 rfl 0 rfl ?_
  refine x_if_eq (tgt := 8) d_229_1 rfl (fun c1 => ?_) (fun c1 => ?_)
  · replace h := ite_t c1 h
    refine x_iconst d_229_8 ic_0 ?_
    obtain rfl := Option.some.inj h
    exact x_ret (r := some (.int (0 : Int32))) d_229_9 ⟨_, rfl, rfl⟩
  · replace h := ite_f c1 h
    refine x_iconst d_229_4 ic_1 ?_
    refine x_goto (tgt := 9) d_229_5 rfl ?_
    obtain rfl := Option.some.inj h
    exact x_ret (r := some (.int (1 : Int32))) d_229_9 ⟨_, rfl, rfl⟩
/-! NinetyPlayersModel.readPart -/
def j_224_76 (F G : Nat) (S : St) : Option (St) :=
  if (S.1 78 2) = 0 then lt (sI S 78 40 ((S.1 78 40) + (1 : Int32))) fun S20 => some S20 else some S
def j_224_52 (F G : Nat) (S : St) (s1 : Int32) (s2 : Int32) : Option (St) :=
  gd (inB s1 4) (lt (sI S 88 s1.toNatClampNeg s2) fun S12 => if (S12.1 78 2) = 0 then gd (inB (S12.1 78 40) 4) (if (S12.1 88 (S12.1 78 40).toNatClampNeg) ≤ 0 then j_224_76 F G  S12  else bd (fM_token F G S12 ) fun S18 => j_224_76 F G  S18 ) else j_224_76 F G  S12 )
def fM_readPart (F G : Nat) (S : St) : Option (St) :=
  bd (fM_newName F G S (0 : Int32) (S.1 78 40)) fun S2 => if (S2.1 78 2) ≤ 0 then bd (fM_isWord F G S2 (1953853029 : Int64)) fun v5 => if v5 = 0 then bd (fM_isWord F G S2 (1650553715 : Int64)) fun v8 => bd (fM_truth F G S2 v8) fun v10 => j_224_52 F G  S2 (S2.1 78 40) v10 else j_224_52 F G  S2 (S2.1 78 40) (2 : Int32) else j_224_52 F G  S2 (S2.1 78 40) (0 : Int32)
set_option maxRecDepth 100000 in
set_option maxHeartbeats 4000000 in
theorem c_224 {X : Nat × (Nat → Int32)} {D F G : Nat} (hD : 3 ≤ D) {S : St} {res : St} (h : fM_readPart F G S  = some res) : Ek X (D) m224 0 [(0, .ref 78)] [] S none res := by
  obtain ⟨D, rfl⟩ : ∃ E, D = E + 1 := ⟨D - 1, by omega⟩
  unfold fM_readPart at h
  have J76 : ∀ (S : St) (res : St), j_224_76 F G S  = some res → Ek X (D + 1) m224 76 [(0, .ref 78)] [] S none res := by
    intro S  res h
    unfold j_224_76 at h
    refine x_aload_n d_224_76 rfl 0 rfl ?_
    refine y_getI d_224_77 fl_11_185 rfl kd_78 ?_
    refine x_if_ne (tgt := 93) d_224_80 rfl (fun c19 => ?_) (fun c19 => ?_)
    · replace h := ite_f c19 h
      obtain rfl := Option.some.inj h
      exact x_ret (r := none) d_224_93 rfl
    · replace h := ite_t c19 h
      refine x_aload_n d_224_83 rfl 0 rfl ?_
      refine x_dup d_224_84 rfl ?_
      refine y_getI d_224_85 fl_11_258 rfl kd_78 ?_
      refine x_iconst d_224_88 ic_1 ?_
      refine x_iadd d_224_89 ?_
      obtain ⟨S20, e21, h⟩ := lt_inv h
      refine y_putI e21 d_224_90 fl_11_258 rfl rfl kd_78 rfl rfl ?_
      obtain rfl := Option.some.inj h
      exact x_ret (r := none) d_224_93 rfl
  have J52 : ∀ (S : St) (s1 : Int32) (s2 : Int32) (res : St), j_224_52 F G S s1 s2 = some res → Ek X (D + 1) m224 52 [(0, .ref 78)] [.int s2, .int s1, .ref 88] S none res := by
    intro S s1 s2 res h
    unfold j_224_52 at h
    obtain ⟨g11, h⟩ := gd_inv h
    obtain ⟨S12, e13, h⟩ := lt_inv h
    refine y_iast e13 d_224_52 kd_88 g11 ?_
    refine x_aload_n d_224_53 rfl 0 rfl ?_
    refine y_getI d_224_54 fl_11_185 rfl kd_78 ?_
    refine x_if_ne (tgt := 76) d_224_57 rfl (fun c14 => ?_) (fun c14 => ?_)
    · replace h := ite_f c14 h
      exact J76 S12  _ h
    · replace h := ite_t c14 h
      refine x_aload_n d_224_60 rfl 0 rfl ?_
      refine y_getR d_224_61 fl_11_42 rfl kd_78 rr_78_27 ?_
      refine x_aload_n d_224_64 rfl 0 rfl ?_
      refine y_getI d_224_65 fl_11_258 rfl kd_78 ?_
      obtain ⟨g15, h⟩ := gd_inv h
      refine y_iald d_224_68 kd_88 g15 ?_
      refine x_if_le (tgt := 76) d_224_69 rfl (fun c16 => ?_) (fun c16 => ?_)
      · replace h := ite_t c16 h
        exact J76 S12  _ h
      · replace h := ite_f c16 h
        refine x_aload_n d_224_72 rfl 0 rfl ?_
        obtain ⟨S18, q17, h⟩ := bd_inv h
        refine y_V0v (S1 := S18) d_224_73 ml_11_241 kd_78 rfl (Nat.le_of_ble_eq_true rfl) (Nat.le_of_ble_eq_true rfl) (c_213 (by omega) q17) ?_
        exact J76 S18  _ h
  refine x_aload_n d_224_0 rfl 0 rfl ?_
  refine x_iconst d_224_1 ic_0 ?_
  refine x_aload_n d_224_2 rfl 0 rfl ?_
  refine y_getI d_224_3 fl_11_258 rfl kd_78 ?_
  obtain ⟨S2, q1, h⟩ := bd_inv h
  refine y_V2v (S1 := S2) d_224_6 ml_11_347 kd_78 rfl (Nat.le_of_ble_eq_true rfl) (Nat.le_of_ble_eq_true rfl) (c_225 (by omega) q1) ?_
  refine x_aload_n d_224_9 rfl 0 rfl ?_
  refine y_getR d_224_10 fl_11_42 rfl kd_78 rr_78_27 ?_
  refine x_aload_n d_224_13 rfl 0 rfl ?_
  refine y_getI d_224_14 fl_11_258 rfl kd_78 ?_
  refine x_aload_n d_224_17 rfl 0 rfl ?_
  refine y_getI d_224_18 fl_11_185 rfl kd_78 ?_
  refine x_if_le (tgt := 28) d_224_21 rfl (fun c3 => ?_) (fun c3 => ?_)
  · replace h := ite_t c3 h
    refine x_aload_n d_224_28 rfl 0 rfl ?_
    refine x_ldc2 d_224_29 kc_11_192 ?_
    obtain ⟨v5, q4, h⟩ := bd_inv h
    refine y_V1i (v := v5) (S1 := S2) d_224_32 ml_11_234 kd_78 rfl (Nat.le_of_ble_eq_true rfl) (Nat.le_of_ble_eq_true rfl) (c_219 (by omega) q4) ?_
    refine x_if_eq (tgt := 42) d_224_35 rfl (fun c6 => ?_) (fun c6 => ?_)
    · replace h := ite_t c6 h
      refine x_aload_n d_224_42 rfl 0 rfl ?_
      refine x_ldc2 d_224_43 kc_11_194 ?_
      obtain ⟨v8, q7, h⟩ := bd_inv h
      refine y_V1i (v := v8) (S1 := S2) d_224_46 ml_11_234 kd_78 rfl (Nat.le_of_ble_eq_true rfl) (Nat.le_of_ble_eq_true rfl) (c_219 (by omega) q7) ?_
      obtain ⟨v10, q9, h⟩ := bd_inv h
      refine y_S1i (v := v10) (S1 := S2) d_224_49 ml_11_318 (Nat.le_of_ble_eq_true rfl) (Nat.le_of_ble_eq_true rfl) (c_229 (by omega) q9) ?_
      exact J52 S2 (S2.1 78 40) v10 _ h
    · replace h := ite_f c6 h
      refine x_iconst d_224_38 ic_2 ?_
      refine x_goto (tgt := 52) d_224_39 rfl ?_
      exact J52 S2 (S2.1 78 40) (2 : Int32) _ h
  · replace h := ite_f c3 h
    refine x_iconst d_224_24 ic_0 ?_
    refine x_goto (tgt := 52) d_224_25 rfl ?_
    exact J52 S2 (S2.1 78 40) (0 : Int32) _ h
/-! NinetyPlayersModel.oldPart -/
def j_231_41 (F G : Nat) (S : St) : Option (Int32 × St) :=
  bd (fM_find F G S (0 : Int32) (S.1 78 40)) fun v13 => if (S.1 78 2) = 0 then bd (fM_token F G S ) fun S16 => some (v13, S16) else some (v13, S)
def fM_oldPart (F G : Nat) (S : St) : Option (Int32 × St) :=
  if (S.1 78 2) ≤ 0 then bd (fM_isName F G S) fun v3 => if v3 = 0 then bd (fM_wrong F G S (2 : Int32)) fun S11 => j_231_41 F G  S11  else bd (fM_find F G S (0 : Int32) (S.1 78 40)) fun v6 => if 0 ≤ v6 then j_231_41 F G  S  else bd (fM_wrong F G S (5 : Int32)) fun S9 => j_231_41 F G  S9  else some ((0 : Int32), S)
set_option maxRecDepth 100000 in
set_option maxHeartbeats 4000000 in
theorem c_231 {X : Nat × (Nat → Int32)} {D F G : Nat} (hD : 2 ≤ D) {S : St} {res : Int32 × St} (h : fM_oldPart F G S  = some res) : Ek X (D) m231 0 [(0, .ref 78)] [] S (some (.int res.1)) res.2 := by
  obtain ⟨D, rfl⟩ : ∃ E, D = E + 1 := ⟨D - 1, by omega⟩
  unfold fM_oldPart at h
  have J41 : ∀ (S : St) (res : Int32 × St), j_231_41 F G S  = some res → Ek X (D + 1) m231 41 [(0, .ref 78)] [] S (some (.int res.1)) res.2 := by
    intro S  res h
    unfold j_231_41 at h
    refine x_aload_n d_231_41 rfl 0 rfl ?_
    refine x_iconst d_231_42 ic_0 ?_
    refine x_aload_n d_231_43 rfl 0 rfl ?_
    refine y_getI d_231_44 fl_11_258 rfl kd_78 ?_
    obtain ⟨v13, q12, h⟩ := bd_inv h
    refine y_V2i (v := v13) (S1 := S) d_231_47 ml_11_255 kd_78 rfl (Nat.le_of_ble_eq_true rfl) (Nat.le_of_ble_eq_true rfl) (c_228 (by omega) q12) ?_
    refine x_istore_n (L1 := [(0, .ref 78), (1, .int v13)]) d_231_50 rfl (Nat.le_of_ble_eq_true rfl) rfl rfl ?_
    refine x_aload_n d_231_51 rfl 0 rfl ?_
    refine y_getI d_231_52 fl_11_185 rfl kd_78 ?_
    refine x_if_ne (tgt := 62) d_231_55 rfl (fun c14 => ?_) (fun c14 => ?_)
    · replace h := ite_f c14 h
      refine x_iload_n d_231_62 rfl 1 rfl ?_
      obtain rfl := Option.some.inj h
      exact x_ret (r := some (.int v13)) d_231_63 ⟨_, rfl, rfl⟩
    · replace h := ite_t c14 h
      refine x_aload_n d_231_58 rfl 0 rfl ?_
      obtain ⟨S16, q15, h⟩ := bd_inv h
      refine y_V0v (S1 := S16) d_231_59 ml_11_241 kd_78 rfl (Nat.le_of_ble_eq_true rfl) (Nat.le_of_ble_eq_true rfl) (c_213 (by omega) q15) ?_
      refine x_iload_n d_231_62 rfl 1 rfl ?_
      obtain rfl := Option.some.inj h
      exact x_ret (r := some (.int v13)) d_231_63 ⟨_, rfl, rfl⟩
  refine x_aload_n d_231_0 rfl 0 rfl ?_
  refine y_getI d_231_1 fl_11_185 rfl kd_78 ?_
  refine x_if_le (tgt := 9) d_231_4 rfl (fun c1 => ?_) (fun c1 => ?_)
  · replace h := ite_t c1 h
    refine x_aload_n d_231_9 rfl 0 rfl ?_
    obtain ⟨v3, q2, h⟩ := bd_inv h
    refine y_V0i (v := v3) (S1 := S) d_231_10 ml_11_252 kd_78 rfl (Nat.le_of_ble_eq_true rfl) (Nat.le_of_ble_eq_true rfl) (c_226 (by omega) q2) ?_
    refine x_if_ne (tgt := 24) d_231_13 rfl (fun c4 => ?_) (fun c4 => ?_)
    · replace h := ite_f c4 h
      refine x_aload_n d_231_24 rfl 0 rfl ?_
      refine x_iconst d_231_25 ic_0 ?_
      refine x_aload_n d_231_26 rfl 0 rfl ?_
      refine y_getI d_231_27 fl_11_258 rfl kd_78 ?_
      obtain ⟨v6, q5, h⟩ := bd_inv h
      refine y_V2i (v := v6) (S1 := S) d_231_30 ml_11_255 kd_78 rfl (Nat.le_of_ble_eq_true rfl) (Nat.le_of_ble_eq_true rfl) (c_228 (by omega) q5) ?_
      refine x_if_ge (tgt := 41) d_231_33 rfl (fun c7 => ?_) (fun c7 => ?_)
      · replace h := ite_t c7 h
        exact J41 S  _ h
      · replace h := ite_f c7 h
        refine x_aload_n d_231_36 rfl 0 rfl ?_
        refine x_iconst d_231_37 ic_5 ?_
        obtain ⟨S9, q8, h⟩ := bd_inv h
        refine y_V1v (S1 := S9) d_231_38 ml_11_238 kd_78 rfl (Nat.le_of_ble_eq_true rfl) (Nat.le_of_ble_eq_true rfl) (c_222 (by omega) q8) ?_
        exact J41 S9  _ h
    · replace h := ite_t c4 h
      refine x_aload_n d_231_16 rfl 0 rfl ?_
      refine x_iconst d_231_17 ic_2 ?_
      obtain ⟨S11, q10, h⟩ := bd_inv h
      refine y_V1v (S1 := S11) d_231_18 ml_11_238 kd_78 rfl (Nat.le_of_ble_eq_true rfl) (Nat.le_of_ble_eq_true rfl) (c_222 (by omega) q10) ?_
      refine x_goto (tgt := 41) d_231_21 rfl ?_
      exact J41 S11  _ h
  · replace h := ite_f c1 h
    refine x_iconst d_231_7 ic_0 ?_
    obtain rfl := Option.some.inj h
    exact x_ret (r := some (.int (0 : Int32))) d_231_8 ⟨_, rfl, rfl⟩
