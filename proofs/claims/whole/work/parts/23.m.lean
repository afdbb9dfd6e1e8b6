/-! NinetyPlayers$Keyboard.canBePlayed -/
def b_160_2 (F G : Nat) (S : St) (z1 : Int32) (z2 : Int32) (rec : Int32 → Option (Int32)) (w3 : Int32) : Option (Int32) :=
  if (S.1 56 0) ≤ w3 then some (1 : Int32) else bd (fK_clashesAt F G S z1 z2 w3) fun v3 => if v3 = 0 then lt (w3 + 1) fun v5 => rec v5 else some (0 : Int32)
def fK_canBePlayed (F G : Nat) (S : St) (p1 : Int32) (p2 : Int32) : Option (Int32) :=
  fx1 (b_160_2 F G S p1 p2) F (0 : Int32)
set_option maxRecDepth 100000 in
set_option maxHeartbeats 4000000 in
theorem T_160_2 {X : Nat × (Nat → Int32)} {D F G : Nat} (hD : 4 ≤ D + 1) {S : St} {z1 : Int32} {z2 : Int32} : ∀ (f : Nat) (w3 : Int32) (res : Int32), fx1 (b_160_2 F G S z1 z2 ) f w3 = some res → Ek X (D + 1) m160 2 [(0, .ref 56), (1, .int z1), (2, .int z2), (3, .int w3)] [] S (some (.int res)) S := by
  refine fx1_ind ?_
  intro rec ih w3 res h
  unfold b_160_2 at h
  refine x_iload_n d_160_2 rfl 3 rfl ?_
  refine x_aload_n d_160_3 rfl 0 rfl ?_
  refine y_getI d_160_4 fl_7_30 rfl kd_56 ?_
  refine x_icmp_ge (tgt := 28) d_160_7 rfl (fun c1 => ?_) (fun c1 => ?_)
  · replace h := ite_t c1 h
    refine x_iconst d_160_28 ic_1 ?_
    obtain rfl := Option.some.inj h
    exact x_ret (r := some (.int (1 : Int32))) d_160_29 ⟨_, rfl, rfl⟩
  · replace h := ite_f c1 h
    refine x_aload_n d_160_10 rfl 0 rfl ?_
    refine x_iload_n d_160_11 rfl 1 rfl ?_
    refine x_iload_n d_160_12 rfl 2 rfl ?_
    refine x_iload_n d_160_13 rfl 3 rfl ?_
    obtain ⟨v3, q2, h⟩ := bd_inv h
    refine y_V3i (v := v3) (S1 := S) d_160_14 ml_7_104 kd_56 rfl (Nat.le_of_ble_eq_true rfl) (Nat.le_of_ble_eq_true rfl) (c_114 (by omega) q2) ?_
    refine x_if_eq (tgt := 22) d_160_17 rfl (fun c4 => ?_) (fun c4 => ?_)
    · replace h := ite_t c4 h
      obtain ⟨v5, e6, h⟩ := lt_inv h
      refine y_iinc (L1 := [(0, .ref 56), (1, .int z1), (2, .int z2), (3, .int v5)]) e6 ic_1 d_160_22 3 rfl (Nat.le_of_ble_eq_true rfl) rfl rfl ?_
      refine x_goto (tgt := 2) d_160_25 rfl ?_
      exact ih v5 _ h
    · replace h := ite_f c4 h
      refine x_iconst d_160_20 ic_0 ?_
      obtain rfl := Option.some.inj h
      exact x_ret (r := some (.int (0 : Int32))) d_160_21 ⟨_, rfl, rfl⟩
set_option maxRecDepth 100000 in
set_option maxHeartbeats 4000000 in
theorem c_160 {X : Nat × (Nat → Int32)} {D F G : Nat} (hD : 4 ≤ D) {S : St} {p1 : Int32} {p2 : Int32} {res : Int32} (h : fK_canBePlayed F G S p1 p2 = some res) : Ek X (D) m160 0 [(0, .ref 56), (1, .int p1), (2, .int p2)] [] S (some (.int res)) S := by
  obtain ⟨D, rfl⟩ : ∃ E, D = E + 1 := ⟨D - 1, by omega⟩
  unfold fK_canBePlayed at h
  refine x_iconst d_160_0 ic_0 ?_
  refine x_istore_n (L1 := [(0, .ref 56), (1, .int p1), (2, .int p2), (3, .int (0 : Int32))]) d_160_1 rfl (Nat.le_of_ble_eq_true rfl) rfl rfl ?_
  refine T_160_2 (by omega)   F (0 : Int32) _ h
/-! NinetyPlayers$Arranger.fewestInTheWay -/
def j_157_112 (F G : Nat) (S : St) (z3 : Int32) (z4 : Int32) (z5 : Int32) (rec : Int32 → Int32 → Option (Int32)) (_ : St) (y6 : Int32) (y7 : Int32) (s0 : Int32) : Option (Int32) :=
  if s0 = 0 then lt (y7 + 1) fun v16 => rec y6 v16 else bd (fK_canBePlayed F G S (z3 &&& (y7 ^^^ (-1 : Int32))) (z4 &&& (y7 ^^^ (-1 : Int32)))) fun v19 => if v19 = 0 then lt (y7 + 1) fun v21 => rec y6 v21 else lt (y7 + 1) fun v23 => rec y7 v23
def j_157_111 (F G : Nat) (S : St) (z3 : Int32) (z4 : Int32) (z5 : Int32) (rec : Int32 → Int32 → Option (Int32)) (_ : St) (y6 : Int32) (y7 : Int32) : Option (Int32) :=
  j_157_112 F G S z3 z4 z5 rec  S y6 y7 (0 : Int32)
def j_157_107 (F G : Nat) (S : St) (z3 : Int32) (z4 : Int32) (z5 : Int32) (rec : Int32 → Int32 → Option (Int32)) (_ : St) (y6 : Int32) (y7 : Int32) : Option (Int32) :=
  j_157_112 F G S z3 z4 z5 rec  S y6 y7 (1 : Int32)
def b_157_66 (F G : Nat) (S : St) (z3 : Int32) (z4 : Int32) (z5 : Int32) (rec : Int32 → Int32 → Option (Int32)) (w6 : Int32) (w7 : Int32) : Option (Int32) :=
  if ((1 : Int32) <<< ((S.1 56 1) &&& 31)) ≤ w7 then some w6 else if (w7 &&& (z5 ^^^ (-1 : Int32))) = 0 then if w6 = (-1 : Int32) then j_157_107 F G S z3 z4 z5 rec  S w6 w7 else bd (fA_isLessMissed F G S w7 w6) fun v13 => if v13 = 0 then j_157_111 F G S z3 z4 z5 rec  S w6 w7 else j_157_107 F G S z3 z4 z5 rec  S w6 w7 else j_157_111 F G S z3 z4 z5 rec  S w6 w7
def j_157_40 (F G : Nat) (S : St) (y3 : Int32) (s0 : Int32) (s1 : Int32) : Option (Int32) :=
  lt (s0 ||| s1) fun v5 => lt ((S.1 56 5) ||| (S.1 56 6)) fun v7 => fx2 (b_157_66 F G S y3 v5 v7) F (-1 : Int32) (0 : Int32)
def j_157_19 (F G : Nat) (S : St) (y1 : Int32) (y2 : Int32) (s0 : Int32) (s1 : Int32) : Option (Int32) :=
  lt (s0 ||| s1) fun v2 => if y2 = (2 : Int32) then j_157_40 F G  S v2 (S.1 56 6) ((1 : Int32) <<< (y1 &&& 31)) else j_157_40 F G  S v2 (S.1 56 6) (0 : Int32)
def fA_fewestInTheWay (F G : Nat) (S : St) (p1 : Int32) (p2 : Int32) : Option (Int32) :=
  if p2 = (1 : Int32) then j_157_19 F G  S p1 p2 (S.1 56 5) ((1 : Int32) <<< (p1 &&& 31)) else j_157_19 F G  S p1 p2 (S.1 56 5) (0 : Int32)
set_option maxRecDepth 100000 in
set_option maxHeartbeats 4000000 in
theorem T_157_66 {X : Nat × (Nat → Int32)} {D F G : Nat} (hD : 5 ≤ D + 1) {S : St} {z3 : Int32} {z4 : Int32} {z5 : Int32} : ∀ (f : Nat) (w6 : Int32) (w7 : Int32) (res : Int32), fx2 (b_157_66 F G S z3 z4 z5 ) f w6 w7 = some res → Ek X (D + 1) m157 66 [(0, .ref 62), (3, .int z3), (4, .int z4), (5, .int z5), (6, .int w6), (7, .int w7)] [] S (some (.int res)) S := by
  refine fx2_ind ?_
  intro rec ih w6 w7 res h
  unfold b_157_66 at h
  have J112 : ∀ (y6 : Int32) (y7 : Int32) (s0 : Int32) (res : Int32), j_157_112 F G S z3 z4 z5 rec S y6 y7 s0 = some res → Ek X (D + 1) m157 112 [(0, .ref 62), (3, .int z3), (4, .int z4), (5, .int z5), (6, .int y6), (7, .int y7)] [.int s0] S (some (.int res)) S := by
    intro y6 y7 s0 res h
    unfold j_157_112 at h
    refine x_istore (L1 := [(0, .ref 62), (3, .int z3), (4, .int z4), (5, .int z5), (6, .int y6), (7, .int y7), (8, .int s0)]) d_157_112 (Nat.le_of_ble_eq_true rfl) rfl rfl ?_
    refine x_iload d_157_114 6 rfl ?_
    refine x_if_eq (tgt := 146) d_157_116 rfl (fun c15 => ?_) (fun c15 => ?_)
    · replace h := ite_t c15 h
      obtain ⟨v16, e17, h⟩ := lt_inv h
      refine y_iinc (L1 := [(0, .ref 62), (3, .int z3), (4, .int z4), (5, .int z5), (6, .int y6), (7, .int v16), (8, .int s0)]) e17 ic_1 d_157_146 5 rfl (Nat.le_of_ble_eq_true rfl) rfl rfl ?_
      refine x_goto (tgt := 66) d_157_149 rfl ?_
      refine y_pick (L1 := [(0, .ref 62), (3, .int z3), (4, .int z4), (5, .int z5), (6, .int y6), (7, .int v16)]) [0, 1, 2, 3, 4, 5] rfl ?_
      exact ih y6 v16 _ h
    · replace h := ite_f c15 h
      refine x_aload_n d_157_119 rfl 0 rfl ?_
      refine y_getR d_157_120 fl_8_24 rfl kd_62 rr_62_0 ?_
      refine x_iload_n d_157_123 rfl 1 rfl ?_
      refine x_iload d_157_124 5 rfl ?_
      refine x_iconst d_157_126 ic_m1 ?_
      refine x_ixor d_157_127 ?_
      refine x_iand d_157_128 ?_
      refine x_iload d_157_129 2 rfl ?_
      refine x_iload d_157_131 5 rfl ?_
      refine x_iconst d_157_133 ic_m1 ?_
      refine x_ixor d_157_134 ?_
      refine x_iand d_157_135 ?_
      obtain ⟨v19, q18, h⟩ := bd_inv h
      refine y_V2i (v := v19) (S1 := S) d_157_136 ml_8_109 kd_56 rfl (Nat.le_of_ble_eq_true rfl) (Nat.le_of_ble_eq_true rfl) (c_160 (by omega) q18) ?_
      refine x_if_eq (tgt := 146) d_157_139 rfl (fun c20 => ?_) (fun c20 => ?_)
      · replace h := ite_t c20 h
        obtain ⟨v21, e22, h⟩ := lt_inv h
        refine y_iinc (L1 := [(0, .ref 62), (3, .int z3), (4, .int z4), (5, .int z5), (6, .int y6), (7, .int v21), (8, .int s0)]) e22 ic_1 d_157_146 5 rfl (Nat.le_of_ble_eq_true rfl) rfl rfl ?_
        refine x_goto (tgt := 66) d_157_149 rfl ?_
        refine y_pick (L1 := [(0, .ref 62), (3, .int z3), (4, .int z4), (5, .int z5), (6, .int y6), (7, .int v21)]) [0, 1, 2, 3, 4, 5] rfl ?_
        exact ih y6 v21 _ h
      · replace h := ite_f c20 h
        refine x_iload d_157_142 5 rfl ?_
        refine x_istore (L1 := [(0, .ref 62), (3, .int z3), (4, .int z4), (5, .int z5), (6, .int y7), (7, .int y7), (8, .int s0)]) d_157_144 (Nat.le_of_ble_eq_true rfl) rfl rfl ?_
        obtain ⟨v23, e24, h⟩ := lt_inv h
        refine y_iinc (L1 := [(0, .ref 62), (3, .int z3), (4, .int z4), (5, .int z5), (6, .int y7), (7, .int v23), (8, .int s0)]) e24 ic_1 d_157_146 5 rfl (Nat.le_of_ble_eq_true rfl) rfl rfl ?_
        refine x_goto (tgt := 66) d_157_149 rfl ?_
        refine y_pick (L1 := [(0, .ref 62), (3, .int z3), (4, .int z4), (5, .int z5), (6, .int y7), (7, .int v23)]) [0, 1, 2, 3, 4, 5] rfl ?_
        exact ih y7 v23 _ h
  have J111 : ∀ (y6 : Int32) (y7 : Int32) (res : Int32), j_157_111 F G S z3 z4 z5 rec S y6 y7 = some res → Ek X (D + 1) m157 111 [(0, .ref 62), (3, .int z3), (4, .int z4), (5, .int z5), (6, .int y6), (7, .int y7)] [] S (some (.int res)) S := by
    intro y6 y7 res h
    unfold j_157_111 at h
    refine x_iconst d_157_111 ic_0 ?_
    exact J112 y6 y7 (0 : Int32) _ h
  have J107 : ∀ (y6 : Int32) (y7 : Int32) (res : Int32), j_157_107 F G S z3 z4 z5 rec S y6 y7 = some res → Ek X (D + 1) m157 107 [(0, .ref 62), (3, .int z3), (4, .int z4), (5, .int z5), (6, .int y6), (7, .int y7)] [] S (some (.int res)) S := by
    intro y6 y7 res h
    unfold j_157_107 at h
    refine x_iconst d_157_107 ic_1 ?_
    refine x_goto (tgt := 112) d_157_108 rfl ?_
    exact J112 y6 y7 (1 : Int32) _ h
  refine x_iload d_157_66 5 rfl ?_
  refine x_iconst d_157_68 ic_1 ?_
  refine x_aload_n d_157_69 rfl 0 rfl ?_
  refine y_getR d_157_70 fl_8_24 rfl kd_62 rr_62_0 ?_
  refine y_getI d_157_73 fl_8_38 rfl kd_56 ?_
  refine x_ishl d_157_76 ?_
  refine x_icmp_ge (tgt := 152) d_157_77 rfl (fun c9 => ?_) (fun c9 => ?_)
  · replace h := ite_t c9 h
    refine x_iload d_157_152 4 rfl ?_
    obtain rfl := Option.some.inj h
    exact x_ret (r := some (.int w6)) d_157_154 ⟨_, rfl, rfl⟩
  · replace h := ite_f c9 h
    refine x_iload d_157_80 5 rfl ?_
    refine x_iload d_157_82 3 rfl ?_
    refine x_iconst d_157_84 ic_m1 ?_
    refine x_ixor d_157_85 ?_
    refine x_iand d_157_86 ?_
    refine x_if_ne (tgt := 111) d_157_87 rfl (fun c10 => ?_) (fun c10 => ?_)
    · replace h := ite_f c10 h
      exact J111 w6 w7 _ h
    · replace h := ite_t c10 h
      refine x_iload d_157_90 4 rfl ?_
      refine x_iconst d_157_92 ic_m1 ?_
      refine x_icmp_eq (tgt := 107) d_157_93 rfl (fun c11 => ?_) (fun c11 => ?_)
      · replace h := ite_t c11 h
        exact J107 w6 w7 _ h
      · replace h := ite_f c11 h
        refine x_aload_n d_157_96 rfl 0 rfl ?_
        refine x_iload d_157_97 5 rfl ?_
        refine x_iload d_157_99 4 rfl ?_
        obtain ⟨v13, q12, h⟩ := bd_inv h
        refine y_V2i (v := v13) (S1 := S) d_157_101 ml_8_106 kd_62 rfl (Nat.le_of_ble_eq_true rfl) (Nat.le_of_ble_eq_true rfl) (c_158 (by omega) q12) ?_
        refine x_if_eq (tgt := 111) d_157_104 rfl (fun c14 => ?_) (fun c14 => ?_)
        · replace h := ite_t c14 h
          exact J111 w6 w7 _ h
        · replace h := ite_f c14 h
          exact J107 w6 w7 _ h
set_option maxRecDepth 100000 in
set_option maxHeartbeats 4000000 in
theorem c_157 {X : Nat × (Nat → Int32)} {D F G : Nat} (hD : 5 ≤ D) {S : St} {p1 : Int32} {p2 : Int32} {res : Int32} (h : fA_fewestInTheWay F G S p1 p2 = some res) : Ek X (D) m157 0 [(0, .ref 62), (1, .int p1), (2, .int p2)] [] S (some (.int res)) S := by
  obtain ⟨D, rfl⟩ : ∃ E, D = E + 1 := ⟨D - 1, by omega⟩
  unfold fA_fewestInTheWay at h
  have J40 : ∀ (y3 : Int32) (s0 : Int32) (s1 : Int32) (res : Int32), j_157_40 F G S y3 s0 s1 = some res → Ek X (D + 1) m157 40 [(0, .ref 62), (3, .int y3)] [.int s1, .int s0] S (some (.int res)) S := by
    intro y3 s0 s1 res h
    unfold j_157_40 at h
    refine x_ior d_157_40 ?_
    obtain ⟨v5, e6, h⟩ := lt_inv h
    refine y_istore (L1 := [(0, .ref 62), (3, .int y3), (4, .int v5)]) e6 d_157_41 (Nat.le_of_ble_eq_true rfl) rfl rfl ?_
    refine x_aload_n d_157_43 rfl 0 rfl ?_
    refine y_getR d_157_44 fl_8_24 rfl kd_62 rr_62_0 ?_
    refine y_getI d_157_47 fl_8_104 rfl kd_56 ?_
    refine x_aload_n d_157_50 rfl 0 rfl ?_
    refine y_getR d_157_51 fl_8_24 rfl kd_62 rr_62_0 ?_
    refine y_getI d_157_54 fl_8_105 rfl kd_56 ?_
    refine x_ior d_157_57 ?_
    obtain ⟨v7, e8, h⟩ := lt_inv h
    refine y_istore (L1 := [(0, .ref 62), (3, .int y3), (4, .int v5), (5, .int v7)]) e8 d_157_58 (Nat.le_of_ble_eq_true rfl) rfl rfl ?_
    refine x_iconst d_157_60 ic_m1 ?_
    refine x_istore (L1 := [(0, .ref 62), (3, .int y3), (4, .int v5), (5, .int v7), (6, .int (-1 : Int32))]) d_157_61 (Nat.le_of_ble_eq_true rfl) rfl rfl ?_
    refine x_iconst d_157_63 ic_0 ?_
    refine x_istore (L1 := [(0, .ref 62), (3, .int y3), (4, .int v5), (5, .int v7), (6, .int (-1 : Int32)), (7, .int (0 : Int32))]) d_157_64 (Nat.le_of_ble_eq_true rfl) rfl rfl ?_
    refine T_157_66 (by omega)   F (-1 : Int32) (0 : Int32) _ h
  have J19 : ∀ (y1 : Int32) (y2 : Int32) (s0 : Int32) (s1 : Int32) (res : Int32), j_157_19 F G S y1 y2 s0 s1 = some res → Ek X (D + 1) m157 19 [(0, .ref 62), (1, .int y1), (2, .int y2)] [.int s1, .int s0] S (some (.int res)) S := by
    intro y1 y2 s0 s1 res h
    unfold j_157_19 at h
    refine x_ior d_157_19 ?_
    obtain ⟨v2, e3, h⟩ := lt_inv h
    refine y_istore_n (L1 := [(0, .ref 62), (1, .int y1), (2, .int y2), (3, .int v2)]) e3 d_157_20 rfl (Nat.le_of_ble_eq_true rfl) rfl rfl ?_
    refine x_aload_n d_157_21 rfl 0 rfl ?_
    refine y_getR d_157_22 fl_8_24 rfl kd_62 rr_62_0 ?_
    refine y_getI d_157_25 fl_8_105 rfl kd_56 ?_
    refine x_iload_n d_157_28 rfl 2 rfl ?_
    refine x_iconst d_157_29 ic_2 ?_
    refine x_icmp_ne (tgt := 39) d_157_30 rfl (fun c4 => ?_) (fun c4 => ?_)
    · replace h := ite_f c4 h
      refine x_iconst d_157_39 ic_0 ?_
      refine y_pick (L1 := [(0, .ref 62), (3, .int v2)]) [0, 3] rfl ?_
      exact J40 v2 (S.1 56 6) (0 : Int32) _ h
    · replace h := ite_t c4 h
      refine x_iconst d_157_33 ic_1 ?_
      refine x_iload_n d_157_34 rfl 1 rfl ?_
      refine x_ishl d_157_35 ?_
      refine x_goto (tgt := 40) d_157_36 rfl ?_
      refine y_pick (L1 := [(0, .ref 62), (3, .int v2)]) [0, 3] rfl ?_
      exact J40 v2 (S.1 56 6) ((1 : Int32) <<< (y1 &&& 31)) _ h
  refine x_aload_n d_157_0 rfl 0 rfl ?_
  refine y_getR d_157_1 fl_8_24 rfl kd_62 rr_62_0 ?_
  refine y_getI d_157_4 fl_8_104 rfl kd_56 ?_
  refine x_iload_n d_157_7 rfl 2 rfl ?_
  refine x_iconst d_157_8 ic_1 ?_
  refine x_icmp_ne (tgt := 18) d_157_9 rfl (fun c1 => ?_) (fun c1 => ?_)
  · replace h := ite_f c1 h
    refine x_iconst d_157_18 ic_0 ?_
    exact J19 p1 p2 (S.1 56 5) (0 : Int32) _ h
  · replace h := ite_t c1 h
    refine x_iconst d_157_12 ic_1 ?_
    refine x_iload_n d_157_13 rfl 1 rfl ?_
    refine x_ishl d_157_14 ?_
    refine x_goto (tgt := 19) d_157_15 rfl ?_
    exact J19 p1 p2 (S.1 56 5) ((1 : Int32) <<< (p1 &&& 31)) _ h
/-! NinetyPlayers.giveway -/
def fN_giveway (F G : Nat) (S : St) (p1 : Int32) (p2 : Int32) (p3 : Int32) : Option (Int32 × St) :=
  bd (fN_isLeftOut F G S p1) fun v2 => if v2 = 0 then some ((-1 : Int32), S) else bd (fN_isHand F G S p2) fun v5 => if v5 = 0 then some ((-1 : Int32), S) else if p3 < 0 then some ((-1 : Int32), S) else if p3 ≤ (1 : Int32) then bd (fN_lookAtKeys F G S ) fun S10 => bd (fN_weighAll F G S10 ) fun S12 => bd (fA_fewestInTheWay F G S12 p1 p2) fun v14 => if p3 = 0 then if v14 = (-1 : Int32) then some (v14, S12) else bd (fJ_bitCount F G S12 v14) fun v18 => some (v18, S12) else some (v14, S12) else some ((-1 : Int32), S)
set_option maxRecDepth 100000 in
set_option maxHeartbeats 4000000 in
theorem c_156 {X : Nat × (Nat → Int32)} {D F G : Nat} (hD : 6 ≤ D) {S : St} {p1 : Int32} {p2 : Int32} {p3 : Int32} {res : Int32 × St} (h : fN_giveway F G S p1 p2 p3 = some res) : Ek X (D) m156 0 [(0, .ref 0), (1, .int p1), (2, .int p2), (3, .int p3)] [] S (some (.int res.1)) res.2 := by
  obtain ⟨D, rfl⟩ : ∃ E, D = E + 1 := ⟨D - 1, by omega⟩
  unfold fN_giveway at h
  refine x_aload_n d_156_0 rfl 0 rfl ?_
  refine x_iload_n d_156_1 rfl 1 rfl ?_
  obtain ⟨v2, q1, h⟩ := bd_inv h
  refine y_V1i (v := v2) (S1 := S) d_156_2 ml_0_282 kd_0 rfl (Nat.le_of_ble_eq_true rfl) (Nat.le_of_ble_eq_true rfl) (c_154 (by omega) q1) ?_
  refine x_if_eq (tgt := 24) d_156_5 rfl (fun c3 => ?_) (fun c3 => ?_)
  · replace h := ite_t c3 h
    refine x_iconst d_156_24 ic_m1 ?_
    obtain rfl := Option.some.inj h
    exact x_ret (r := some (.int (-1 : Int32))) d_156_25 ⟨_, rfl, rfl⟩
  · replace h := ite_f c3 h
    refine x_iload_n d_156_8 rfl 2 rfl ?_
    obtain ⟨v5, q4, h⟩ := bd_inv h
    refine y_S1i (v := v5) (S1 := S) d_156_9 ml_0_170 (Nat.le_of_ble_eq_true rfl) (Nat.le_of_ble_eq_true rfl) (c_103 (by omega) q4) ?_
    refine x_if_eq (tgt := 24) d_156_12 rfl (fun c6 => ?_) (fun c6 => ?_)
    · replace h := ite_t c6 h
      refine x_iconst d_156_24 ic_m1 ?_
      obtain rfl := Option.some.inj h
      exact x_ret (r := some (.int (-1 : Int32))) d_156_25 ⟨_, rfl, rfl⟩
    · replace h := ite_f c6 h
      refine x_iload_n d_156_15 rfl 3 rfl ?_
      refine x_if_lt (tgt := 24) d_156_16 rfl (fun c7 => ?_) (fun c7 => ?_)
      · replace h := ite_t c7 h
        refine x_iconst d_156_24 ic_m1 ?_
        obtain rfl := Option.some.inj h
        exact x_ret (r := some (.int (-1 : Int32))) d_156_25 ⟨_, rfl, rfl⟩
      · replace h := ite_f c7 h
        refine x_iload_n d_156_19 rfl 3 rfl ?_
        refine x_iconst d_156_20 ic_1 ?_
        refine x_icmp_le (tgt := 26) d_156_21 rfl (fun c8 => ?_) (fun c8 => ?_)
        · replace h := ite_t c8 h
          refine x_aload_n d_156_26 rfl 0 rfl ?_
          obtain ⟨S10, q9, h⟩ := bd_inv h
          refine y_V0v (S1 := S10) d_156_27 ml_0_173 kd_0 rfl (Nat.le_of_ble_eq_true rfl) (Nat.le_of_ble_eq_true rfl) (c_104 (by omega) q9) ?_
          refine x_aload_n d_156_30 rfl 0 rfl ?_
          obtain ⟨S12, q11, h⟩ := bd_inv h
          refine y_V0v (S1 := S12) d_156_31 ml_0_271 kd_0 rfl (Nat.le_of_ble_eq_true rfl) (Nat.le_of_ble_eq_true rfl) (c_141 (by omega) q11) ?_
          refine x_aload_n d_156_34 rfl 0 rfl ?_
          refine y_getR d_156_35 fl_0_63 rfl kd_0 rr_0_9 ?_
          refine x_iload_n d_156_38 rfl 1 rfl ?_
          refine x_iload_n d_156_39 rfl 2 rfl ?_
          obtain ⟨v14, q13, h⟩ := bd_inv h
          refine y_V2i (v := v14) (S1 := S12) d_156_40 ml_0_288 kd_62 rfl (Nat.le_of_ble_eq_true rfl) (Nat.le_of_ble_eq_true rfl) (c_157 (by omega) q13) ?_
          refine x_istore (L1 := [(0, .ref 0), (1, .int p1), (2, .int p2), (3, .int p3), (4, .int v14)]) d_156_43 (Nat.le_of_ble_eq_true rfl) rfl rfl ?_
          refine x_iload_n d_156_45 rfl 3 rfl ?_
          refine x_if_ne (tgt := 63) d_156_46 rfl (fun c15 => ?_) (fun c15 => ?_)
          · replace h := ite_f c15 h
            refine x_iload d_156_63 4 rfl ?_
            obtain rfl := Option.some.inj h
            exact x_ret (r := some (.int v14)) d_156_65 ⟨_, rfl, rfl⟩
          · replace h := ite_t c15 h
            refine x_iload d_156_49 4 rfl ?_
            refine x_iconst d_156_51 ic_m1 ?_
            refine x_icmp_eq (tgt := 63) d_156_52 rfl (fun c16 => ?_) (fun c16 => ?_)
            · replace h := ite_t c16 h
              refine x_iload d_156_63 4 rfl ?_
              obtain rfl := Option.some.inj h
              exact x_ret (r := some (.int v14)) d_156_65 ⟨_, rfl, rfl⟩
            · replace h := ite_f c16 h
              refine x_iload d_156_55 4 rfl ?_
              obtain ⟨v18, q17, h⟩ := bd_inv h
              refine y_S1i (v := v18) (S1 := S12) d_156_57 ml_0_206 (Nat.le_of_ble_eq_true rfl) (Nat.le_of_ble_eq_true rfl) (c_91 (by omega) q17) ?_
              refine x_goto (tgt := 65) d_156_60 rfl ?_
              obtain rfl := Option.some.inj h
              exact x_ret (r := some (.int v18)) d_156_65 ⟨_, rfl, rfl⟩
        · replace h := ite_f c8 h
          refine x_iconst d_156_24 ic_m1 ?_
          obtain rfl := Option.some.inj h
          exact x_ret (r := some (.int (-1 : Int32))) d_156_25 ⟨_, rfl, rfl⟩
/-! NinetyPlayers$Keyboard.handForShifted -/
def j_162_83 (F G : Nat) (S : St) (y1 : Int32) (y3 : Int32) (s0 : Int32) : Option (Int32 × St) :=
  gd (inB y1 10) (lt (sI S 57 y1.toNatClampNeg y3) fun S21 => some (s0, S21))
def fK_handForShifted (F G : Nat) (S : St) (p1 : Int32) (p2 : Int32) : Option (Int32 × St) :=
  gd (inB p1 10) (lt (S.1 57 p1.toNatClampNeg) fun v2 => lt (v2 + (p2 * (12 : Int32))) fun v4 => bd (fN_isKey F G S v4) fun v7 => if v7 = 0 then some ((0 : Int32), S) else lt ((1 : Int32) <<< (p1 &&& 31)) fun v9 => gd (inB p1 10) (lt (sI S 57 p1.toNatClampNeg v4) fun S12 => bd (fK_canBePlayed F G S12 ((S12.1 56 5) ||| v9) (S12.1 56 6)) fun v15 => if v15 = 0 then bd (fK_canBePlayed F G S12 (S12.1 56 5) ((S12.1 56 6) ||| v9)) fun v18 => if v18 = 0 then j_162_83 F G  S12 p1 v2 (0 : Int32) else j_162_83 F G  S12 p1 v2 (2 : Int32) else j_162_83 F G  S12 p1 v2 (1 : Int32)))
set_option maxRecDepth 100000 in
set_option maxHeartbeats 4000000 in
theorem c_162 {X : Nat × (Nat → Int32)} {D F G : Nat} (hD : 5 ≤ D) {S : St} {p1 : Int32} {p2 : Int32} {res : Int32 × St} (h : fK_handForShifted F G S p1 p2 = some res) : Ek X (D) m162 0 [(0, .ref 56), (1, .int p1), (2, .int p2)] [] S (some (.int res.1)) res.2 := by
  obtain ⟨D, rfl⟩ : ∃ E, D = E + 1 := ⟨D - 1, by omega⟩
  unfold fK_handForShifted at h
  have J83 : ∀ (S : St) (y1 : Int32) (y3 : Int32) (s0 : Int32) (res : Int32 × St), j_162_83 F G S y1 y3 s0 = some res → Ek X (D + 1) m162 83 [(0, .ref 56), (1, .int y1), (3, .int y3)] [.int s0] S (some (.int res.1)) res.2 := by
    intro S y1 y3 s0 res h
    unfold j_162_83 at h
    refine x_istore (L1 := [(0, .ref 56), (1, .int y1), (3, .int y3), (6, .int s0)]) d_162_83 (Nat.le_of_ble_eq_true rfl) rfl rfl ?_
    refine x_aload_n d_162_85 rfl 0 rfl ?_
    refine y_getR d_162_86 fl_7_9 rfl kd_56 rr_56_8 ?_
    refine x_iload_n d_162_89 rfl 1 rfl ?_
    refine x_iload_n d_162_90 rfl 2 rfl ?_
    obtain ⟨g20, h⟩ := gd_inv h
    obtain ⟨S21, e22, h⟩ := lt_inv h
    refine y_iast e22 d_162_91 kd_57 g20 ?_
    refine x_iload d_162_92 3 rfl ?_
    obtain rfl := Option.some.inj h
    exact x_ret (r := some (.int s0)) d_162_94 ⟨_, rfl, rfl⟩
  refine x_aload_n d_162_0 rfl 0 rfl ?_
  refine y_getR d_162_1 fl_7_9 rfl kd_56 rr_56_8 ?_
  refine x_iload_n d_162_4 rfl 1 rfl ?_
  obtain ⟨g1, h⟩ := gd_inv h
  refine y_iald d_162_5 kd_57 g1 ?_
  obtain ⟨v2, e3, h⟩ := lt_inv h
  refine y_istore_n (L1 := [(0, .ref 56), (1, .int p1), (2, .int p2), (3, .int v2)]) e3 d_162_6 rfl (Nat.le_of_ble_eq_true rfl) rfl rfl ?_
  refine x_iload_n d_162_7 rfl 3 rfl ?_
  refine x_iload_n d_162_8 rfl 2 rfl ?_
  refine x_bipush d_162_9 bp_12 ?_
  refine x_imul d_162_11 ?_
  refine x_iadd d_162_12 ?_
  obtain ⟨v4, e5, h⟩ := lt_inv h
  refine y_istore (L1 := [(0, .ref 56), (1, .int p1), (2, .int p2), (3, .int v2), (4, .int v4)]) e5 d_162_13 (Nat.le_of_ble_eq_true rfl) rfl rfl ?_
  refine x_iload d_162_15 4 rfl ?_
  obtain ⟨v7, q6, h⟩ := bd_inv h
  refine y_SN1i (host := "NinetyPlayers") (v := v7) (S1 := S) d_162_17 ml_7_108 (by decide +kernel) (Nat.le_of_ble_eq_true rfl) (Nat.le_of_ble_eq_true rfl) (c_130 (by omega) q6) ?_
  refine x_if_ne (tgt := 25) d_162_20 rfl (fun c8 => ?_) (fun c8 => ?_)
  · replace h := ite_f c8 h
    refine x_iconst d_162_25 ic_1 ?_
    refine x_iload_n d_162_26 rfl 1 rfl ?_
    refine x_ishl d_162_27 ?_
    obtain ⟨v9, e10, h⟩ := lt_inv h
    refine y_istore (L1 := [(0, .ref 56), (1, .int p1), (2, .int p2), (3, .int v2), (4, .int v4), (5, .int v9)]) e10 d_162_28 (Nat.le_of_ble_eq_true rfl) rfl rfl ?_
    refine x_aload_n d_162_30 rfl 0 rfl ?_
    refine y_getR d_162_31 fl_7_9 rfl kd_56 rr_56_8 ?_
    refine x_iload_n d_162_34 rfl 1 rfl ?_
    refine x_iload d_162_35 4 rfl ?_
    obtain ⟨g11, h⟩ := gd_inv h
    obtain ⟨S12, e13, h⟩ := lt_inv h
    refine y_iast e13 d_162_37 kd_57 g11 ?_
    refine x_aload_n d_162_38 rfl 0 rfl ?_
    refine x_aload_n d_162_39 rfl 0 rfl ?_
    refine y_getI d_162_40 fl_7_53 rfl kd_56 ?_
    refine x_iload d_162_43 5 rfl ?_
    refine x_ior d_162_45 ?_
    refine x_aload_n d_162_46 rfl 0 rfl ?_
    refine y_getI d_162_47 fl_7_56 rfl kd_56 ?_
    obtain ⟨v15, q14, h⟩ := bd_inv h
    refine y_V2i (v := v15) (S1 := S12) d_162_50 ml_7_111 kd_56 rfl (Nat.le_of_ble_eq_true rfl) (Nat.le_of_ble_eq_true rfl) (c_160 (by omega) q14) ?_
    refine x_if_eq (tgt := 60) d_162_53 rfl (fun c16 => ?_) (fun c16 => ?_)
    · replace h := ite_t c16 h
      refine x_aload_n d_162_60 rfl 0 rfl ?_
      refine x_aload_n d_162_61 rfl 0 rfl ?_
      refine y_getI d_162_62 fl_7_53 rfl kd_56 ?_
      refine x_aload_n d_162_65 rfl 0 rfl ?_
      refine y_getI d_162_66 fl_7_56 rfl kd_56 ?_
      refine x_iload d_162_69 5 rfl ?_
      refine x_ior d_162_71 ?_
      obtain ⟨v18, q17, h⟩ := bd_inv h
      refine y_V2i (v := v18) (S1 := S12) d_162_72 ml_7_111 kd_56 rfl (Nat.le_of_ble_eq_true rfl) (Nat.le_of_ble_eq_true rfl) (c_160 (by omega) q17) ?_
      refine x_if_eq (tgt := 82) d_162_75 rfl (fun c19 => ?_) (fun c19 => ?_)
      · replace h := ite_t c19 h
        refine x_iconst d_162_82 ic_0 ?_
        refine y_pick (L1 := [(0, .ref 56), (1, .int p1), (3, .int v2)]) [0, 1, 3] rfl ?_
        exact J83 S12 p1 v2 (0 : Int32) _ h
      · replace h := ite_f c19 h
        refine x_iconst d_162_78 ic_2 ?_
        refine x_goto (tgt := 83) d_162_79 rfl ?_
        refine y_pick (L1 := [(0, .ref 56), (1, .int p1), (3, .int v2)]) [0, 1, 3] rfl ?_
        exact J83 S12 p1 v2 (2 : Int32) _ h
    · replace h := ite_f c16 h
      refine x_iconst d_162_56 ic_1 ?_
      refine x_goto (tgt := 83) d_162_57 rfl ?_
      refine y_pick (L1 := [(0, .ref 56), (1, .int p1), (3, .int v2)]) [0, 1, 3] rfl ?_
      exact J83 S12 p1 v2 (1 : Int32) _ h
  · replace h := ite_t c8 h
    refine x_iconst d_162_23 ic_0 ?_
    obtain rfl := Option.some.inj h
    exact x_ret (r := some (.int (0 : Int32))) d_162_24 ⟨_, rfl, rfl⟩
/-! NinetyPlayers.letin -/
def b_161_26 (F G : Nat) (z1 : Int32) (z2 : Int32) (rec : Int32 → St → Option (Int32 × St)) (w3 : Int32) (S : St) : Option (Int32 × St) :=
  if (7 : Int32) < w3 then some ((-100 : Int32), S) else bd2 (fK_handForShifted F G S z1 w3) fun v10 S11 => if v10 = 0 then bd2 (fK_handForShifted F G S11 z1 (-w3)) fun v14 S15 => if v14 = 0 then lt (w3 + 1) fun v17 => rec v17 S15 else if z2 = 0 then some (-w3, S15) else some (v14, S15) else if z2 = 0 then some (w3, S11) else some (v10, S11)
def fN_letin (F G : Nat) (S : St) (p1 : Int32) (p2 : Int32) : Option (Int32 × St) :=
  bd (fN_isLeftOut F G S p1) fun v2 => if v2 = 0 then some ((-100 : Int32), S) else if p2 < 0 then some ((-100 : Int32), S) else if p2 ≤ (1 : Int32) then bd (fN_lookAtKeys F G S ) fun S7 => fx2 (b_161_26 F G p1 p2) F (0 : Int32) S7 else some ((-100 : Int32), S)
set_option maxRecDepth 100000 in
set_option maxHeartbeats 4000000 in
theorem T_161_26 {X : Nat × (Nat → Int32)} {D F G : Nat} (hD : 6 ≤ D + 1) {z1 : Int32} {z2 : Int32} : ∀ (f : Nat) (w3 : Int32) (S : St) (res : Int32 × St), fx2 (b_161_26 F G z1 z2 ) f w3 S = some res → Ek X (D + 1) m161 26 [(0, .ref 0), (1, .int z1), (2, .int z2), (3, .int w3)] [] S (some (.int res.1)) res.2 := by
  refine fx2_ind ?_
  intro rec ih w3 S res h
  unfold b_161_26 at h
  refine x_iload_n d_161_26 rfl 3 rfl ?_
  refine x_bipush d_161_27 bp_7 ?_
  refine x_icmp_gt (tgt := 94) d_161_29 rfl (fun c8 => ?_) (fun c8 => ?_)
  · replace h := ite_t c8 h
    refine x_bipush d_161_94 bp_m100 ?_
    obtain rfl := Option.some.inj h
    exact x_ret (r := some (.int (-100 : Int32))) d_161_96 ⟨_, rfl, rfl⟩
  · replace h := ite_f c8 h
    refine x_aload_n d_161_32 rfl 0 rfl ?_
    refine y_getR d_161_33 fl_0_50 rfl kd_0 rr_0_7 ?_
    refine x_iload_n d_161_36 rfl 1 rfl ?_
    refine x_iload_n d_161_37 rfl 3 rfl ?_
    obtain ⟨v10, S11, q9, h⟩ := bd2_inv h
    refine y_V2i (v := v10) (S1 := S11) d_161_38 ml_0_291 kd_56 rfl (Nat.le_of_ble_eq_true rfl) (Nat.le_of_ble_eq_true rfl) (c_162 (by omega) q9) ?_
    refine x_istore (L1 := [(0, .ref 0), (1, .int z1), (2, .int z2), (3, .int w3), (4, .int v10)]) d_161_41 (Nat.le_of_ble_eq_true rfl) rfl rfl ?_
    refine x_iload d_161_43 4 rfl ?_
    refine x_if_eq (tgt := 59) d_161_45 rfl (fun c12 => ?_) (fun c12 => ?_)
    · replace h := ite_t c12 h
      refine x_aload_n d_161_59 rfl 0 rfl ?_
      refine y_getR d_161_60 fl_0_50 rfl kd_0 rr_0_7 ?_
      refine x_iload_n d_161_63 rfl 1 rfl ?_
      refine x_iload_n d_161_64 rfl 3 rfl ?_
      refine x_ineg d_161_65 ?_
      obtain ⟨v14, S15, q13, h⟩ := bd2_inv h
      refine y_V2i (v := v14) (S1 := S15) d_161_66 ml_0_291 kd_56 rfl (Nat.le_of_ble_eq_true rfl) (Nat.le_of_ble_eq_true rfl) (c_162 (by omega) q13) ?_
      refine x_istore (L1 := [(0, .ref 0), (1, .int z1), (2, .int z2), (3, .int w3), (4, .int v10), (5, .int v14)]) d_161_69 (Nat.le_of_ble_eq_true rfl) rfl rfl ?_
      refine x_iload d_161_71 5 rfl ?_
      refine x_if_eq (tgt := 88) d_161_73 rfl (fun c16 => ?_) (fun c16 => ?_)
      · replace h := ite_t c16 h
        obtain ⟨v17, e18, h⟩ := lt_inv h
        refine y_iinc (L1 := [(0, .ref 0), (1, .int z1), (2, .int z2), (3, .int v17), (4, .int v10), (5, .int v14)]) e18 ic_1 d_161_88 3 rfl (Nat.le_of_ble_eq_true rfl) rfl rfl ?_
        refine x_goto (tgt := 26) d_161_91 rfl ?_
        refine y_pick (L1 := [(0, .ref 0), (1, .int z1), (2, .int z2), (3, .int v17)]) [0, 1, 2, 3] rfl ?_
        exact ih v17 S15 _ h
      · replace h := ite_f c16 h
        refine x_iload_n d_161_76 rfl 2 rfl ?_
        refine x_if_ne (tgt := 85) d_161_77 rfl (fun c19 => ?_) (fun c19 => ?_)
        · replace h := ite_f c19 h
          refine x_iload d_161_85 5 rfl ?_
          obtain rfl := Option.some.inj h
          exact x_ret (r := some (.int v14)) d_161_87 ⟨_, rfl, rfl⟩
        · replace h := ite_t c19 h
          refine x_iload_n d_161_80 rfl 3 rfl ?_
          refine x_ineg d_161_81 ?_
          refine x_goto (tgt := 87) d_161_82 rfl ?_
          obtain rfl := Option.some.inj h
          exact x_ret (r := some (.int (-w3))) d_161_87 ⟨_, rfl, rfl⟩
    · replace h := ite_f c12 h
      refine x_iload_n d_161_48 rfl 2 rfl ?_
      refine x_if_ne (tgt := 56) d_161_49 rfl (fun c20 => ?_) (fun c20 => ?_)
      · replace h := ite_f c20 h
        refine x_iload d_161_56 4 rfl ?_
        obtain rfl := Option.some.inj h
        exact x_ret (r := some (.int v10)) d_161_58 ⟨_, rfl, rfl⟩
      · replace h := ite_t c20 h
        refine x_iload_n d_161_52 rfl 3 rfl ?_
        refine x_goto (tgt := 58) d_161_53 rfl ?_
        obtain rfl := Option.some.inj h
        exact x_ret (r := some (.int w3)) d_161_58 ⟨_, rfl, rfl⟩
set_option maxRecDepth 100000 in
set_option maxHeartbeats 4000000 in
theorem c_161 {X : Nat × (Nat → Int32)} {D F G : Nat} (hD : 6 ≤ D) {S : St} {p1 : Int32} {p2 : Int32} {res : Int32 × St} (h : fN_letin F G S p1 p2 = some res) : Ek X (D) m161 0 [(0, .ref 0), (1, .int p1), (2, .int p2)] [] S (some (.int res.1)) res.2 := by
  obtain ⟨D, rfl⟩ : ∃ E, D = E + 1 := ⟨D - 1, by omega⟩
  unfold fN_letin at h
  refine x_aload_n d_161_0 rfl 0 rfl ?_
  refine x_iload_n d_161_1 rfl 1 rfl ?_
  obtain ⟨v2, q1, h⟩ := bd_inv h
  refine y_V1i (v := v2) (S1 := S) d_161_2 ml_0_282 kd_0 rfl (Nat.le_of_ble_eq_true rfl) (Nat.le_of_ble_eq_true rfl) (c_154 (by omega) q1) ?_
  refine x_if_eq (tgt := 17) d_161_5 rfl (fun c3 => ?_) (fun c3 => ?_)
  · replace h := ite_t c3 h
    refine x_bipush d_161_17 bp_m100 ?_
    obtain rfl := Option.some.inj h
    exact x_ret (r := some (.int (-100 : Int32))) d_161_19 ⟨_, rfl, rfl⟩
  · replace h := ite_f c3 h
    refine x_iload_n d_161_8 rfl 2 rfl ?_
    refine x_if_lt (tgt := 17) d_161_9 rfl (fun c4 => ?_) (fun c4 => ?_)
    · replace h := ite_t c4 h
      refine x_bipush d_161_17 bp_m100 ?_
      obtain rfl := Option.some.inj h
      exact x_ret (r := some (.int (-100 : Int32))) d_161_19 ⟨_, rfl, rfl⟩
    · replace h := ite_f c4 h
      refine x_iload_n d_161_12 rfl 2 rfl ?_
      refine x_iconst d_161_13 ic_1 ?_
      refine x_icmp_le (tgt := 20) d_161_14 rfl (fun c5 => ?_) (fun c5 => ?_)
      · replace h := ite_t c5 h
        refine x_aload_n d_161_20 rfl 0 rfl ?_
        obtain ⟨S7, q6, h⟩ := bd_inv h
        refine y_V0v (S1 := S7) d_161_21 ml_0_173 kd_0 rfl (Nat.le_of_ble_eq_true rfl) (Nat.le_of_ble_eq_true rfl) (c_104 (by omega) q6) ?_
        refine x_iconst d_161_24 ic_0 ?_
        refine x_istore_n (L1 := [(0, .ref 0), (1, .int p1), (2, .int p2), (3, .int (0 : Int32))]) d_161_25 rfl (Nat.le_of_ble_eq_true rfl) rfl rfl ?_
        refine T_161_26 (by omega)   F (0 : Int32) S7 _ h
      · replace h := ite_f c5 h
        refine x_bipush d_161_17 bp_m100 ?_
        obtain rfl := Option.some.inj h
        exact x_ret (r := some (.int (-100 : Int32))) d_161_19 ⟨_, rfl, rfl⟩
/-! NinetyPlayers$Pedaller.isFree -/
def fP_isFree (F G : Nat) (S : St) (p1 : Int32) (p2 : Int32) (p3 : Int32) : Option (Int32) :=
  bd (fK_timelySince F G S p2 (p1 - (1 : Int32))) fun v2 => bd (fK_timelySince F G S p3 p1) fun v4 => bd (fK_clashesBetween F G S (S.1 56 5) (S.1 56 6) v2 v4) fun v6 => if v6 = 0 then some (1 : Int32) else some (0 : Int32)
set_option maxRecDepth 100000 in
set_option maxHeartbeats 4000000 in
theorem c_165 {X : Nat × (Nat → Int32)} {D F G : Nat} (hD : 3 ≤ D) {S : St} {p1 : Int32} {p2 : Int32} {p3 : Int32} {res : Int32} (h : fP_isFree F G S p1 p2 p3 = some res) : Ek X (D) m165 0 [(0, .ref 67), (1, .int p1), (2, .int p2), (3, .int p3)] [] S (some (.int res)) S := by
  obtain ⟨D, rfl⟩ : ∃ E, D = E + 1 := ⟨D - 1, by omega⟩
  unfold fP_isFree at h
  refine x_aload_n d_165_0 rfl 0 rfl ?_
  refine y_getR d_165_1 fl_9_15 rfl kd_67 rr_67_0 ?_
  refine x_iload_n d_165_4 rfl 2 rfl ?_
  refine x_iload_n d_165_5 rfl 1 rfl ?_
  refine x_iconst d_165_6 ic_1 ?_
  refine x_isub d_165_7 ?_
  obtain ⟨v2, q1, h⟩ := bd_inv h
  refine y_V2i (v := v2) (S1 := S) d_165_8 ml_9_37 kd_56 rfl (Nat.le_of_ble_eq_true rfl) (Nat.le_of_ble_eq_true rfl) (c_107 (by omega) q1) ?_
  refine x_istore (L1 := [(0, .ref 67), (1, .int p1), (2, .int p2), (3, .int p3), (4, .int v2)]) d_165_11 (Nat.le_of_ble_eq_true rfl) rfl rfl ?_
  refine x_aload_n d_165_13 rfl 0 rfl ?_
  refine y_getR d_165_14 fl_9_15 rfl kd_67 rr_67_0 ?_
  refine x_iload_n d_165_17 rfl 3 rfl ?_
  refine x_iload_n d_165_18 rfl 1 rfl ?_
  obtain ⟨v4, q3, h⟩ := bd_inv h
  refine y_V2i (v := v4) (S1 := S) d_165_19 ml_9_37 kd_56 rfl (Nat.le_of_ble_eq_true rfl) (Nat.le_of_ble_eq_true rfl) (c_107 (by omega) q3) ?_
  refine x_istore (L1 := [(0, .ref 67), (1, .int p1), (2, .int p2), (3, .int p3), (4, .int v2), (5, .int v4)]) d_165_22 (Nat.le_of_ble_eq_true rfl) rfl rfl ?_
  refine x_aload_n d_165_24 rfl 0 rfl ?_
  refine y_getR d_165_25 fl_9_15 rfl kd_67 rr_67_0 ?_
  refine x_aload_n d_165_28 rfl 0 rfl ?_
  refine y_getR d_165_29 fl_9_15 rfl kd_67 rr_67_0 ?_
  refine y_getI d_165_32 fl_9_40 rfl kd_56 ?_
  refine x_aload_n d_165_35 rfl 0 rfl ?_
  refine y_getR d_165_36 fl_9_15 rfl kd_67 rr_67_0 ?_
  refine y_getI d_165_39 fl_9_43 rfl kd_56 ?_
  refine x_iload d_165_42 4 rfl ?_
  refine x_iload d_165_44 5 rfl ?_
  obtain ⟨v6, q5, h⟩ := bd_inv h
  refine y_V4i (v := v6) (S1 := S) d_165_46 ml_9_46 kd_56 rfl (Nat.le_of_ble_eq_true rfl) (Nat.le_of_ble_eq_true rfl) (c_115 (by omega) q5) ?_
  refine x_if_ne (tgt := 56) d_165_49 rfl (fun c7 => ?_) (fun c7 => ?_)
  · replace h := ite_f c7 h
    refine x_iconst d_165_56 ic_0 ?_
    obtain rfl := Option.some.inj h
    exact x_ret (r := some (.int (0 : Int32))) d_165_57 ⟨_, rfl, rfl⟩
  · replace h := ite_t c7 h
    refine x_iconst d_165_52 ic_1 ?_
    refine x_goto (tgt := 57) d_165_53 rfl ?_
    obtain rfl := Option.some.inj h
    exact x_ret (r := some (.int (1 : Int32))) d_165_57 ⟨_, rfl, rfl⟩
/-! NinetyPlayers$Pedaller.better -/
def j_167_10 (F G : Nat) (S : St) (y0 : Int32) (y1 : Int32) : Option (Int32) :=
  if y0 = (-1 : Int32) then some y1 else some y0
def fP_better (F G : Nat) (S : St) (p1 : Int32) (p2 : Int32) : Option (Int32) :=
  if p1 = (-1 : Int32) then j_167_10 F G  S p1 p2 else if p2 = (-1 : Int32) then j_167_10 F G  S p1 p2 else bd (fJ_bitCount F G S p1) fun v4 => bd (fJ_bitCount F G S p2) fun v6 => lt (v4 - v6) fun v7 => if v7 < 0 then some p1 else if v7 = 0 then if p2 ≤ p1 then some p2 else some p1 else some p2
set_option maxRecDepth 100000 in
set_option maxHeartbeats 4000000 in
theorem c_167 {X : Nat × (Nat → Int32)} {D F G : Nat} (hD : 1 ≤ D) {S : St} {p1 : Int32} {p2 : Int32} {res : Int32} (h : fP_better F G S p1 p2 = some res) : Ek X (D) m167 0 [(0, .int p1), (1, .int p2)] [] S (some (.int res)) S := by
  obtain ⟨D, rfl⟩ : ∃ E, D = E + 1 := ⟨D - 1, by omega⟩
  unfold fP_better at h
  have J10 : ∀ (y0 : Int32) (y1 : Int32) (res : Int32), j_167_10 F G S y0 y1 = some res → Ek X (D + 1) m167 10 [(0, .int y0), (1, .int y1)] [] S (some (.int res)) S := by
    intro y0 y1 res h
    unfold j_167_10 at h
    refine x_iload_n d_167_10 rfl 0 rfl ?_
    refine x_iconst d_167_11 ic_m1 ?_
    refine x_icmp_ne (tgt := 19) d_167_12 rfl (fun c12 => ?_) (fun c12 => ?_)
    · replace h := ite_f c12 h
      refine x_iload_n d_167_19 rfl 0 rfl ?_
      obtain rfl := Option.some.inj h
      exact x_ret (r := some (.int y0)) d_167_20 ⟨_, rfl, rfl⟩
    · replace h := ite_t c12 h
      refine x_iload_n d_167_15 rfl 1 rfl ?_
      refine x_goto (tgt := 20) d_167_16 rfl ?_
      obtain rfl := Option.some.inj h
      exact x_ret (r := some (.int y1)) d_167_20 ⟨_, rfl, rfl⟩
  refine x_iload_n d_167_0 rfl 0 rfl ?_
  refine x_iconst d_167_1 ic_m1 ?_
  refine x_icmp_eq (tgt := 10) d_167_2 rfl (fun c1 => ?_) (fun c1 => ?_)
  · replace h := ite_t c1 h
    exact J10 p1 p2 _ h
  · replace h := ite_f c1 h
    refine x_iload_n d_167_5 rfl 1 rfl ?_
    refine x_iconst d_167_6 ic_m1 ?_
    refine x_icmp_ne (tgt := 21) d_167_7 rfl (fun c2 => ?_) (fun c2 => ?_)
    · replace h := ite_f c2 h
      refine x_iload_n d_167_21 rfl 0 rfl ?_
      obtain ⟨v4, q3, h⟩ := bd_inv h
      refine y_S1i (v := v4) (S1 := S) d_167_22 ml_9_50 (Nat.le_of_ble_eq_true rfl) (Nat.le_of_ble_eq_true rfl) (c_91 (by omega) q3) ?_
      refine x_iload_n d_167_25 rfl 1 rfl ?_
      obtain ⟨v6, q5, h⟩ := bd_inv h
      refine y_S1i (v := v6) (S1 := S) d_167_26 ml_9_50 (Nat.le_of_ble_eq_true rfl) (Nat.le_of_ble_eq_true rfl) (c_91 (by omega) q5) ?_
      refine x_isub d_167_29 ?_
      obtain ⟨v7, e8, h⟩ := lt_inv h
      refine y_istore_n (L1 := [(0, .int p1), (1, .int p2), (2, .int v7)]) e8 d_167_30 rfl (Nat.le_of_ble_eq_true rfl) rfl rfl ?_
      refine x_iload_n d_167_31 rfl 2 rfl ?_
      refine x_if_lt (tgt := 44) d_167_32 rfl (fun c9 => ?_) (fun c9 => ?_)
      · replace h := ite_t c9 h
        refine x_iload_n d_167_44 rfl 0 rfl ?_
        refine x_goto (tgt := 49) d_167_45 rfl ?_
        obtain rfl := Option.some.inj h
        exact x_ret (r := some (.int p1)) d_167_49 ⟨_, rfl, rfl⟩
      · replace h := ite_f c9 h
        refine x_iload_n d_167_35 rfl 2 rfl ?_
        refine x_if_ne (tgt := 48) d_167_36 rfl (fun c10 => ?_) (fun c10 => ?_)
        · replace h := ite_f c10 h
          refine x_iload_n d_167_48 rfl 1 rfl ?_
          obtain rfl := Option.some.inj h
          exact x_ret (r := some (.int p2)) d_167_49 ⟨_, rfl, rfl⟩
        · replace h := ite_t c10 h
          refine x_iload_n d_167_39 rfl 0 rfl ?_
          refine x_iload_n d_167_40 rfl 1 rfl ?_
          refine x_icmp_ge (tgt := 48) d_167_41 rfl (fun c11 => ?_) (fun c11 => ?_)
          · replace h := ite_t c11 h
            refine x_iload_n d_167_48 rfl 1 rfl ?_
            obtain rfl := Option.some.inj h
            exact x_ret (r := some (.int p2)) d_167_49 ⟨_, rfl, rfl⟩
          · replace h := ite_f c11 h
            refine x_iload_n d_167_44 rfl 0 rfl ?_
            refine x_goto (tgt := 49) d_167_45 rfl ?_
            obtain rfl := Option.some.inj h
            exact x_ret (r := some (.int p1)) d_167_49 ⟨_, rfl, rfl⟩
    · replace h := ite_t c2 h
      exact J10 p1 p2 _ h
/-! NinetyPlayers$Pedaller.bestWithPedalAt -/
def b_166_4 (F G : Nat) (S : St) (z1 : Int32) (rec : Int32 → Int32 → Option (Int32)) (w2 : Int32) (w3 : Int32) : Option (Int32) :=
  if z1 ≤ w3 then some w2 else gd (inB w3 12) (if (S.1 68 w3.toNatClampNeg) = (-1 : Int32) then lt (w3 + 1) fun v4 => rec w2 v4 else bd (fP_isFree F G S z1 w3 z1) fun v7 => if v7 = 0 then lt (w3 + 1) fun v9 => rec w2 v9 else gd (inB w3 12) (bd (fP_better F G S w2 ((S.1 68 w3.toNatClampNeg) ||| ((1 : Int32) <<< (z1 &&& 31)))) fun v13 => lt (w3 + 1) fun v14 => rec v13 v14))
def fP_bestWithPedalAt (F G : Nat) (S : St) (p1 : Int32) : Option (Int32) :=
  fx2 (b_166_4 F G S p1) F (-1 : Int32) (0 : Int32)
set_option maxRecDepth 100000 in
set_option maxHeartbeats 4000000 in
theorem T_166_4 {X : Nat × (Nat → Int32)} {D F G : Nat} (hD : 4 ≤ D + 1) {S : St} {z1 : Int32} : ∀ (f : Nat) (w2 : Int32) (w3 : Int32) (res : Int32), fx2 (b_166_4 F G S z1 ) f w2 w3 = some res → Ek X (D + 1) m166 4 [(0, .ref 67), (1, .int z1), (2, .int w2), (3, .int w3)] [] S (some (.int res)) S := by
  refine fx2_ind ?_
  intro rec ih w2 w3 res h
  unfold b_166_4 at h
  refine x_iload_n d_166_4 rfl 3 rfl ?_
  refine x_iload_n d_166_5 rfl 1 rfl ?_
  refine x_icmp_ge (tgt := 50) d_166_6 rfl (fun c1 => ?_) (fun c1 => ?_)
  · replace h := ite_t c1 h
    refine x_iload_n d_166_50 rfl 2 rfl ?_
    obtain rfl := Option.some.inj h
    exact x_ret (r := some (.int w2)) d_166_51 ⟨_, rfl, rfl⟩
  · replace h := ite_f c1 h
    refine x_aload_n d_166_9 rfl 0 rfl ?_
    refine y_getR d_166_10 fl_9_9 rfl kd_67 rr_67_1 ?_
    refine x_iload_n d_166_13 rfl 3 rfl ?_
    obtain ⟨g2, h⟩ := gd_inv h
    refine y_iald d_166_14 kd_68 g2 ?_
    refine x_iconst d_166_15 ic_m1 ?_
    refine x_icmp_eq (tgt := 44) d_166_16 rfl (fun c3 => ?_) (fun c3 => ?_)
    · replace h := ite_t c3 h
      obtain ⟨v4, e5, h⟩ := lt_inv h
      refine y_iinc (L1 := [(0, .ref 67), (1, .int z1), (2, .int w2), (3, .int v4)]) e5 ic_1 d_166_44 3 rfl (Nat.le_of_ble_eq_true rfl) rfl rfl ?_
      refine x_goto (tgt := 4) d_166_47 rfl ?_
      exact ih w2 v4 _ h
    · replace h := ite_f c3 h
      refine x_aload_n d_166_19 rfl 0 rfl ?_
      refine x_iload_n d_166_20 rfl 1 rfl ?_
      refine x_iload_n d_166_21 rfl 3 rfl ?_
      refine x_iload_n d_166_22 rfl 1 rfl ?_
      obtain ⟨v7, q6, h⟩ := bd_inv h
      refine y_V3i (v := v7) (S1 := S) d_166_23 ml_9_19 kd_67 rfl (Nat.le_of_ble_eq_true rfl) (Nat.le_of_ble_eq_true rfl) (c_165 (by omega) q6) ?_
      refine x_if_eq (tgt := 44) d_166_26 rfl (fun c8 => ?_) (fun c8 => ?_)
      · replace h := ite_t c8 h
        obtain ⟨v9, e10, h⟩ := lt_inv h
        refine y_iinc (L1 := [(0, .ref 67), (1, .int z1), (2, .int w2), (3, .int v9)]) e10 ic_1 d_166_44 3 rfl (Nat.le_of_ble_eq_true rfl) rfl rfl ?_
        refine x_goto (tgt := 4) d_166_47 rfl ?_
        exact ih w2 v9 _ h
      · replace h := ite_f c8 h
        refine x_iload_n d_166_29 rfl 2 rfl ?_
        refine x_aload_n d_166_30 rfl 0 rfl ?_
        refine y_getR d_166_31 fl_9_9 rfl kd_67 rr_67_1 ?_
        refine x_iload_n d_166_34 rfl 3 rfl ?_
        obtain ⟨g11, h⟩ := gd_inv h
        refine y_iald d_166_35 kd_68 g11 ?_
        refine x_iconst d_166_36 ic_1 ?_
        refine x_iload_n d_166_37 rfl 1 rfl ?_
        refine x_ishl d_166_38 ?_
        refine x_ior d_166_39 ?_
        obtain ⟨v13, q12, h⟩ := bd_inv h
        refine y_S2i (v := v13) (S1 := S) d_166_40 ml_9_33 (Nat.le_of_ble_eq_true rfl) (Nat.le_of_ble_eq_true rfl) (c_167 (by omega) q12) ?_
        refine x_istore_n (L1 := [(0, .ref 67), (1, .int z1), (2, .int v13), (3, .int w3)]) d_166_43 rfl (Nat.le_of_ble_eq_true rfl) rfl rfl ?_
        obtain ⟨v14, e15, h⟩ := lt_inv h
        refine y_iinc (L1 := [(0, .ref 67), (1, .int z1), (2, .int v13), (3, .int v14)]) e15 ic_1 d_166_44 3 rfl (Nat.le_of_ble_eq_true rfl) rfl rfl ?_
        refine x_goto (tgt := 4) d_166_47 rfl ?_
        exact ih v13 v14 _ h
set_option maxRecDepth 100000 in
set_option maxHeartbeats 4000000 in
theorem c_166 {X : Nat × (Nat → Int32)} {D F G : Nat} (hD : 4 ≤ D) {S : St} {p1 : Int32} {res : Int32} (h : fP_bestWithPedalAt F G S p1 = some res) : Ek X (D) m166 0 [(0, .ref 67), (1, .int p1)] [] S (some (.int res)) S := by
  obtain ⟨D, rfl⟩ : ∃ E, D = E + 1 := ⟨D - 1, by omega⟩
  unfold fP_bestWithPedalAt at h
  refine x_iconst d_166_0 ic_m1 ?_
  refine x_istore_n (L1 := [(0, .ref 67), (1, .int p1), (2, .int (-1 : Int32))]) d_166_1 rfl (Nat.le_of_ble_eq_true rfl) rfl rfl ?_
  refine x_iconst d_166_2 ic_0 ?_
  refine x_istore_n (L1 := [(0, .ref 67), (1, .int p1), (2, .int (-1 : Int32)), (3, .int (0 : Int32))]) d_166_3 rfl (Nat.le_of_ble_eq_true rfl) rfl rfl ?_
  refine T_166_4 (by omega)   F (-1 : Int32) (0 : Int32) _ h
/-! NinetyPlayers$Pedaller.fewest -/
def b_164_47 (F G : Nat) (z1 : Int32) (k75 : St → Option (Int32 × St)) (rec : Int32 → St → Option (Int32 × St)) (w2 : Int32) (S : St) : Option (Int32 × St) :=
  if z1 ≤ w2 then k75 S else bd (fP_isFree F G S z1 w2 w2) fun v15 => if v15 = 0 then gd (inB w2 12) (lt (sI S 68 w2.toNatClampNeg (-1 : Int32)) fun S20 => lt (w2 + 1) fun v22 => rec v22 S20) else lt (w2 + 1) fun v17 => rec v17 S
def b_164_23 (F G : Nat) (k81 : St → Option (Int32 × St)) (rec : Int32 → St → Option (Int32 × St)) (w1 : Int32) (S : St) : Option (Int32 × St) :=
  if (S.1 56 0) ≤ w1 then k81 S else bd (fP_bestWithPedalAt F G S w1) fun v9 => gd (inB w1 12) (lt (sI S 68 w1.toNatClampNeg v9) fun S11 => fx2 (b_164_47 F G w1 (fun S24 => lt (w1 + 1) fun v25 => rec v25 S24)) F (0 : Int32) S11)
def b_164_85 (F G : Nat) (S : St) (rec : Int32 → Int32 → Option (Int32 × St)) (w1 : Int32) (w2 : Int32) : Option (Int32 × St) :=
  if (S.1 56 0) ≤ w2 then some (w1, S) else gd (inB w2 12) (bd (fP_better F G S w1 (S.1 68 w2.toNatClampNeg)) fun v31 => lt (w2 + 1) fun v32 => rec v31 v32)
def fP_fewest (F G : Nat) (S : St) : Option (Int32 × St) :=
  bd (fP_isFree F G S (0 : Int32) (0 : Int32) (0 : Int32)) fun v2 => if v2 = 0 then gd (inB (0 : Int32) 12) (lt (sI S 68 (0 : Int32).toNatClampNeg (-1 : Int32)) fun S5 => fx2 (b_164_23 F G  (fun S27 => fx2 (b_164_85 F G S27) F (-1 : Int32) (0 : Int32))) F (1 : Int32) S5) else gd (inB (0 : Int32) 12) (lt (sI S 68 (0 : Int32).toNatClampNeg (0 : Int32)) fun S35 => fx2 (b_164_23 F G  (fun S37 => fx2 (b_164_85 F G S37) F (-1 : Int32) (0 : Int32))) F (1 : Int32) S35)
set_option maxRecDepth 100000 in
set_option maxHeartbeats 4000000 in
theorem T_164_47 {X : Nat × (Nat → Int32)} {D F G : Nat} (hD : 5 ≤ D + 1) {z1 : Int32} {k75 : St → Option (Int32 × St)} (hk75 : ∀ (S1 : St) (res : Int32 × St), k75 S1 = some res → Ek X (D + 1) m164 75 [(0, .ref 67), (1, .int z1)] [] S1 (some (.int res.1)) res.2) : ∀ (f : Nat) (w2 : Int32) (S : St) (res : Int32 × St), fx2 (b_164_47 F G z1 k75 ) f w2 S = some res → Ek X (D + 1) m164 47 [(0, .ref 67), (1, .int z1), (2, .int w2)] [] S (some (.int res.1)) res.2 := by
  refine fx2_ind ?_
  intro rec ih w2 S res h
  unfold b_164_47 at h
  refine x_iload_n d_164_47 rfl 2 rfl ?_
  refine x_iload_n d_164_48 rfl 1 rfl ?_
  refine x_icmp_ge (tgt := 75) d_164_49 rfl (fun c13 => ?_) (fun c13 => ?_)
  · replace h := ite_t c13 h
    refine y_pick (L1 := [(0, .ref 67), (1, .int z1)]) [0, 1] rfl ?_
    exact hk75 S _ h
  · replace h := ite_f c13 h
    refine x_aload_n d_164_52 rfl 0 rfl ?_
    refine x_iload_n d_164_53 rfl 1 rfl ?_
    refine x_iload_n d_164_54 rfl 2 rfl ?_
    refine x_iload_n d_164_55 rfl 2 rfl ?_
    obtain ⟨v15, q14, h⟩ := bd_inv h
    refine y_V3i (v := v15) (S1 := S) d_164_56 ml_9_19 kd_67 rfl (Nat.le_of_ble_eq_true rfl) (Nat.le_of_ble_eq_true rfl) (c_165 (by omega) q14) ?_
    refine x_if_ne (tgt := 69) d_164_59 rfl (fun c16 => ?_) (fun c16 => ?_)
    · replace h := ite_f c16 h
      obtain ⟨v17, e18, h⟩ := lt_inv h
      refine y_iinc (L1 := [(0, .ref 67), (1, .int z1), (2, .int v17)]) e18 ic_1 d_164_69 2 rfl (Nat.le_of_ble_eq_true rfl) rfl rfl ?_
      refine x_goto (tgt := 47) d_164_72 rfl ?_
      exact ih v17 S _ h
    · replace h := ite_t c16 h
      refine x_aload_n d_164_62 rfl 0 rfl ?_
      refine y_getR d_164_63 fl_9_9 rfl kd_67 rr_67_1 ?_
      refine x_iload_n d_164_66 rfl 2 rfl ?_
      refine x_iconst d_164_67 ic_m1 ?_
      obtain ⟨g19, h⟩ := gd_inv h
      obtain ⟨S20, e21, h⟩ := lt_inv h
      refine y_iast e21 d_164_68 kd_68 g19 ?_
      obtain ⟨v22, e23, h⟩ := lt_inv h
      refine y_iinc (L1 := [(0, .ref 67), (1, .int z1), (2, .int v22)]) e23 ic_1 d_164_69 2 rfl (Nat.le_of_ble_eq_true rfl) rfl rfl ?_
      refine x_goto (tgt := 47) d_164_72 rfl ?_
      exact ih v22 S20 _ h
set_option maxRecDepth 100000 in
set_option maxHeartbeats 4000000 in
theorem T_164_23 {X : Nat × (Nat → Int32)} {D F G : Nat} (hD : 5 ≤ D + 1) {k81 : St → Option (Int32 × St)} (hk81 : ∀ (S1 : St) (res : Int32 × St), k81 S1 = some res → Ek X (D + 1) m164 81 [(0, .ref 67)] [] S1 (some (.int res.1)) res.2) : ∀ (f : Nat) (w1 : Int32) (S : St) (res : Int32 × St), fx2 (b_164_23 F G k81 ) f w1 S = some res → Ek X (D + 1) m164 23 [(0, .ref 67), (1, .int w1)] [] S (some (.int res.1)) res.2 := by
  refine fx2_ind ?_
  intro rec ih w1 S res h
  unfold b_164_23 at h
  refine x_iload_n d_164_23 rfl 1 rfl ?_
  refine x_aload_n d_164_24 rfl 0 rfl ?_
  refine y_getR d_164_25 fl_9_15 rfl kd_67 rr_67_0 ?_
  refine y_getI d_164_28 fl_9_23 rfl kd_56 ?_
  refine x_icmp_ge (tgt := 81) d_164_31 rfl (fun c7 => ?_) (fun c7 => ?_)
  · replace h := ite_t c7 h
    refine y_pick (L1 := [(0, .ref 67)]) [0] rfl ?_
    exact hk81 S _ h
  · replace h := ite_f c7 h
    refine x_aload_n d_164_34 rfl 0 rfl ?_
    refine y_getR d_164_35 fl_9_9 rfl kd_67 rr_67_1 ?_
    refine x_iload_n d_164_38 rfl 1 rfl ?_
    refine x_aload_n d_164_39 rfl 0 rfl ?_
    refine x_iload_n d_164_40 rfl 1 rfl ?_
    obtain ⟨v9, q8, h⟩ := bd_inv h
    refine y_V1i (v := v9) (S1 := S) d_164_41 ml_9_29 kd_67 rfl (Nat.le_of_ble_eq_true rfl) (Nat.le_of_ble_eq_true rfl) (c_166 (by omega) q8) ?_
    obtain ⟨g10, h⟩ := gd_inv h
    obtain ⟨S11, e12, h⟩ := lt_inv h
    refine y_iast e12 d_164_44 kd_68 g10 ?_
    refine x_iconst d_164_45 ic_0 ?_
    refine x_istore_n (L1 := [(0, .ref 67), (1, .int w1), (2, .int (0 : Int32))]) d_164_46 rfl (Nat.le_of_ble_eq_true rfl) rfl rfl ?_
    refine T_164_47 (by omega)  ?_ F (0 : Int32) S11 _ h
    · intro S24 res h
      obtain ⟨v25, e26, h⟩ := lt_inv h
      refine y_iinc (L1 := [(0, .ref 67), (1, .int v25)]) e26 ic_1 d_164_75 1 rfl (Nat.le_of_ble_eq_true rfl) rfl rfl ?_
      refine x_goto (tgt := 23) d_164_78 rfl ?_
      exact ih v25 S24 _ h
set_option maxRecDepth 100000 in
set_option maxHeartbeats 4000000 in
theorem T_164_85 {X : Nat × (Nat → Int32)} {D F G : Nat} (hD : 5 ≤ D + 1) {S : St} : ∀ (f : Nat) (w1 : Int32) (w2 : Int32) (res : Int32 × St), fx2 (b_164_85 F G S ) f w1 w2 = some res → Ek X (D + 1) m164 85 [(0, .ref 67), (1, .int w1), (2, .int w2)] [] S (some (.int res.1)) res.2 := by
  refine fx2_ind ?_
  intro rec ih w1 w2 res h
  unfold b_164_85 at h
  refine x_iload_n d_164_85 rfl 2 rfl ?_
  refine x_aload_n d_164_86 rfl 0 rfl ?_
  refine y_getR d_164_87 fl_9_15 rfl kd_67 rr_67_0 ?_
  refine y_getI d_164_90 fl_9_23 rfl kd_56 ?_
  refine x_icmp_ge (tgt := 113) d_164_93 rfl (fun c28 => ?_) (fun c28 => ?_)
  · replace h := ite_t c28 h
    refine x_iload_n d_164_113 rfl 1 rfl ?_
    obtain rfl := Option.some.inj h
    exact x_ret (r := some (.int w1)) d_164_114 ⟨_, rfl, rfl⟩
  · replace h := ite_f c28 h
    refine x_iload_n d_164_96 rfl 1 rfl ?_
    refine x_aload_n d_164_97 rfl 0 rfl ?_
    refine y_getR d_164_98 fl_9_9 rfl kd_67 rr_67_1 ?_
    refine x_iload_n d_164_101 rfl 2 rfl ?_
    obtain ⟨g29, h⟩ := gd_inv h
    refine y_iald d_164_102 kd_68 g29 ?_
    obtain ⟨v31, q30, h⟩ := bd_inv h
    refine y_S2i (v := v31) (S1 := S) d_164_103 ml_9_33 (Nat.le_of_ble_eq_true rfl) (Nat.le_of_ble_eq_true rfl) (c_167 (by omega) q30) ?_
    refine x_istore_n (L1 := [(0, .ref 67), (1, .int v31), (2, .int w2)]) d_164_106 rfl (Nat.le_of_ble_eq_true rfl) rfl rfl ?_
    obtain ⟨v32, e33, h⟩ := lt_inv h
    refine y_iinc (L1 := [(0, .ref 67), (1, .int v31), (2, .int v32)]) e33 ic_1 d_164_107 2 rfl (Nat.le_of_ble_eq_true rfl) rfl rfl ?_
    refine x_goto (tgt := 85) d_164_110 rfl ?_
    exact ih v31 v32 _ h
set_option maxRecDepth 100000 in
set_option maxHeartbeats 4000000 in
theorem c_164 {X : Nat × (Nat → Int32)} {D F G : Nat} (hD : 5 ≤ D) {S : St} {res : Int32 × St} (h : fP_fewest F G S  = some res) : Ek X (D) m164 0 [(0, .ref 67)] [] S (some (.int res.1)) res.2 := by
  obtain ⟨D, rfl⟩ : ∃ E, D = E + 1 := ⟨D - 1, by omega⟩
  unfold fP_fewest at h
  refine x_aload_n d_164_0 rfl 0 rfl ?_
  refine y_getR d_164_1 fl_9_9 rfl kd_67 rr_67_1 ?_
  refine x_iconst d_164_4 ic_0 ?_
  refine x_aload_n d_164_5 rfl 0 rfl ?_
  refine x_iconst d_164_6 ic_0 ?_
  refine x_iconst d_164_7 ic_0 ?_
  refine x_iconst d_164_8 ic_0 ?_
  obtain ⟨v2, q1, h⟩ := bd_inv h
  refine y_V3i (v := v2) (S1 := S) d_164_9 ml_9_19 kd_67 rfl (Nat.le_of_ble_eq_true rfl) (Nat.le_of_ble_eq_true rfl) (c_165 (by omega) q1) ?_
  refine x_if_eq (tgt := 19) d_164_12 rfl (fun c3 => ?_) (fun c3 => ?_)
  · replace h := ite_t c3 h
    refine x_iconst d_164_19 ic_m1 ?_
    obtain ⟨g4, h⟩ := gd_inv h
    obtain ⟨S5, e6, h⟩ := lt_inv h
    refine y_iast e6 d_164_20 kd_68 g4 ?_
    refine x_iconst d_164_21 ic_1 ?_
    refine x_istore_n (L1 := [(0, .ref 67), (1, .int (1 : Int32))]) d_164_22 rfl (Nat.le_of_ble_eq_true rfl) rfl rfl ?_
    refine T_164_23 (by omega)  ?_ F (1 : Int32) S5 _ h
    · intro S27 res h
      refine x_iconst d_164_81 ic_m1 ?_
      refine x_istore_n (L1 := [(0, .ref 67), (1, .int (-1 : Int32))]) d_164_82 rfl (Nat.le_of_ble_eq_true rfl) rfl rfl ?_
      refine x_iconst d_164_83 ic_0 ?_
      refine x_istore_n (L1 := [(0, .ref 67), (1, .int (-1 : Int32)), (2, .int (0 : Int32))]) d_164_84 rfl (Nat.le_of_ble_eq_true rfl) rfl rfl ?_
      refine T_164_85 (by omega)   F (-1 : Int32) (0 : Int32) _ h
  · replace h := ite_f c3 h
    refine x_iconst d_164_15 ic_0 ?_
    refine x_goto (tgt := 20) d_164_16 rfl ?_
    obtain ⟨g34, h⟩ := gd_inv h
    obtain ⟨S35, e36, h⟩ := lt_inv h
    refine y_iast e36 d_164_20 kd_68 g34 ?_
    refine x_iconst d_164_21 ic_1 ?_
    refine x_istore_n (L1 := [(0, .ref 67), (1, .int (1 : Int32))]) d_164_22 rfl (Nat.le_of_ble_eq_true rfl) rfl rfl ?_
    refine T_164_23 (by omega)  ?_ F (1 : Int32) S35 _ h
    · intro S37 res h
      refine x_iconst d_164_81 ic_m1 ?_
      refine x_istore_n (L1 := [(0, .ref 67), (1, .int (-1 : Int32))]) d_164_82 rfl (Nat.le_of_ble_eq_true rfl) rfl rfl ?_
      refine x_iconst d_164_83 ic_0 ?_
      refine x_istore_n (L1 := [(0, .ref 67), (1, .int (-1 : Int32)), (2, .int (0 : Int32))]) d_164_84 rfl (Nat.le_of_ble_eq_true rfl) rfl rfl ?_
      refine T_164_85 (by omega)   F (-1 : Int32) (0 : Int32) _ h
/-! NinetyPlayers.pedals -/
def fN_pedals (F G : Nat) (S : St) (p1 : Int32) : Option (Int32 × St) :=
  if p1 < 0 then some ((-1 : Int32), S) else if p1 ≤ (1 : Int32) then bd (fN_lookAtKeys F G S ) fun S4 => bd2 (fP_fewest F G S4) fun v6 S7 => if p1 = 0 then if v6 = (-1 : Int32) then some (v6, S7) else bd (fJ_bitCount F G S7 v6) fun v11 => some (v11, S7) else some (v6, S7) else some ((-1 : Int32), S)
set_option maxRecDepth 100000 in
set_option maxHeartbeats 4000000 in
theorem c_163 {X : Nat × (Nat → Int32)} {D F G : Nat} (hD : 6 ≤ D) {S : St} {p1 : Int32} {res : Int32 × St} (h : fN_pedals F G S p1 = some res) : Ek X (D) m163 0 [(0, .ref 0), (1, .int p1)] [] S (some (.int res.1)) res.2 := by
  obtain ⟨D, rfl⟩ : ∃ E, D = E + 1 := ⟨D - 1, by omega⟩
  unfold fN_pedals at h
  refine x_iload_n d_163_0 rfl 1 rfl ?_
  refine x_if_lt (tgt := 9) d_163_1 rfl (fun c1 => ?_) (fun c1 => ?_)
  · replace h := ite_t c1 h
    refine x_iconst d_163_9 ic_m1 ?_
    obtain rfl := Option.some.inj h
    exact x_ret (r := some (.int (-1 : Int32))) d_163_10 ⟨_, rfl, rfl⟩
  · replace h := ite_f c1 h
    refine x_iload_n d_163_4 rfl 1 rfl ?_
    refine x_iconst d_163_5 ic_1 ?_
    refine x_icmp_le (tgt := 11) d_163_6 rfl (fun c2 => ?_) (fun c2 => ?_)
    · replace h := ite_t c2 h
      refine x_aload_n d_163_11 rfl 0 rfl ?_
      obtain ⟨S4, q3, h⟩ := bd_inv h
      refine y_V0v (S1 := S4) d_163_12 ml_0_173 kd_0 rfl (Nat.le_of_ble_eq_true rfl) (Nat.le_of_ble_eq_true rfl) (c_104 (by omega) q3) ?_
      refine x_aload_n d_163_15 rfl 0 rfl ?_
      refine y_getR d_163_16 fl_0_72 rfl kd_0 rr_0_10 ?_
      obtain ⟨v6, S7, q5, h⟩ := bd2_inv h
      refine y_V0i (v := v6) (S1 := S7) d_163_19 ml_0_294 kd_67 rfl (Nat.le_of_ble_eq_true rfl) (Nat.le_of_ble_eq_true rfl) (c_164 (by omega) q5) ?_
      refine x_istore_n (L1 := [(0, .ref 0), (1, .int p1), (2, .int v6)]) d_163_22 rfl (Nat.le_of_ble_eq_true rfl) rfl rfl ?_
      refine x_iload_n d_163_23 rfl 1 rfl ?_
      refine x_if_ne (tgt := 39) d_163_24 rfl (fun c8 => ?_) (fun c8 => ?_)
      · replace h := ite_f c8 h
        refine x_iload_n d_163_39 rfl 2 rfl ?_
        obtain rfl := Option.some.inj h
        exact x_ret (r := some (.int v6)) d_163_40 ⟨_, rfl, rfl⟩
      · replace h := ite_t c8 h
        refine x_iload_n d_163_27 rfl 2 rfl ?_
        refine x_iconst d_163_28 ic_m1 ?_
        refine x_icmp_eq (tgt := 39) d_163_29 rfl (fun c9 => ?_) (fun c9 => ?_)
        · replace h := ite_t c9 h
          refine x_iload_n d_163_39 rfl 2 rfl ?_
          obtain rfl := Option.some.inj h
          exact x_ret (r := some (.int v6)) d_163_40 ⟨_, rfl, rfl⟩
        · replace h := ite_f c9 h
          refine x_iload_n d_163_32 rfl 2 rfl ?_
          obtain ⟨v11, q10, h⟩ := bd_inv h
          refine y_S1i (v := v11) (S1 := S7) d_163_33 ml_0_206 (Nat.le_of_ble_eq_true rfl) (Nat.le_of_ble_eq_true rfl) (c_91 (by omega) q10) ?_
          refine x_goto (tgt := 40) d_163_36 rfl ?_
          obtain rfl := Option.some.inj h
          exact x_ret (r := some (.int v11)) d_163_40 ⟨_, rfl, rfl⟩
    · replace h := ite_f c2 h
      refine x_iconst d_163_9 ic_m1 ?_
      obtain rfl := Option.some.inj h
      exact x_ret (r := some (.int (-1 : Int32))) d_163_10 ⟨_, rfl, rfl⟩
/-! NinetyPlayers$Keyboard.width -/
def fK_width (F G : Nat) (S : St) (p1 : Int32) : Option (Int32) :=
  if p1 = 0 then some (0 : Int32) else bd (fK_highest F G S p1) fun v3 => bd (fK_lowest F G S p1) fun v5 => some (v3 - v5)
set_option maxRecDepth 100000 in
set_option maxHeartbeats 4000000 in
theorem c_169 {X : Nat × (Nat → Int32)} {D F G : Nat} (hD : 1 ≤ D) {S : St} {p1 : Int32} {res : Int32} (h : fK_width F G S p1 = some res) : Ek X (D) m169 0 [(0, .ref 56), (1, .int p1)] [] S (some (.int res)) S := by
  obtain ⟨D, rfl⟩ : ∃ E, D = E + 1 := ⟨D - 1, by omega⟩
  unfold fK_width at h
  refine x_iload_n d_169_0 rfl 1 rfl ?_
  refine x_if_ne (tgt := 8) d_169_1 rfl (fun c1 => ?_) (fun c1 => ?_)
  · replace h := ite_f c1 h
    refine x_aload_n d_169_8 rfl 0 rfl ?_
    refine x_iload_n d_169_9 rfl 1 rfl ?_
    obtain ⟨v3, q2, h⟩ := bd_inv h
    refine y_V1i (v := v3) (S1 := S) d_169_10 ml_7_78 kd_56 rfl (Nat.le_of_ble_eq_true rfl) (Nat.le_of_ble_eq_true rfl) (c_118 (by omega) q2) ?_
    refine x_aload_n d_169_13 rfl 0 rfl ?_
    refine x_iload_n d_169_14 rfl 1 rfl ?_
    obtain ⟨v5, q4, h⟩ := bd_inv h
    refine y_V1i (v := v5) (S1 := S) d_169_15 ml_7_81 kd_56 rfl (Nat.le_of_ble_eq_true rfl) (Nat.le_of_ble_eq_true rfl) (c_117 (by omega) q4) ?_
    refine x_isub d_169_18 ?_
    obtain rfl := Option.some.inj h
    exact x_ret (r := some (.int (v3 - v5))) d_169_19 ⟨_, rfl, rfl⟩
  · replace h := ite_t c1 h
    refine x_iconst d_169_4 ic_0 ?_
    refine x_goto (tgt := 19) d_169_5 rfl ?_
    obtain rfl := Option.some.inj h
    exact x_ret (r := some (.int (0 : Int32))) d_169_19 ⟨_, rfl, rfl⟩
/-! NinetyPlayers.spread -/
def b_168_17 (F G : Nat) (S : St) (z1 : Int32) (rec : Int32 → Int32 → Option (Int32 × St)) (w2 : Int32) (w3 : Int32) : Option (Int32 × St) :=
  gd (isSc S.2.2.1) (if (S.1 S.2.2.1 0) ≤ w3 then some (w2, S) else bd (fK_heldBy F G S z1 w3) fun v9 => bd (fK_width F G S v9) fun v11 => lt (if w2 < v11 then v11 else w2) fun v12 => lt (w3 + 1) fun v14 => rec v12 v14)
def fN_spread (F G : Nat) (S : St) (p1 : Int32) : Option (Int32 × St) :=
  bd (fN_isHand F G S p1) fun v2 => if v2 = 0 then some ((-1 : Int32), S) else bd (fN_lookAtKeys F G S ) fun S5 => fx2 (b_168_17 F G S5 p1) F (0 : Int32) (0 : Int32)
set_option maxRecDepth 100000 in
set_option maxHeartbeats 4000000 in
theorem T_168_17 {X : Nat × (Nat → Int32)} {D F G : Nat} (hD : 3 ≤ D + 1) {S : St} {z1 : Int32} : ∀ (f : Nat) (w2 : Int32) (w3 : Int32) (res : Int32 × St), fx2 (b_168_17 F G S z1 ) f w2 w3 = some res → Ek X (D + 1) m168 17 [(0, .ref 0), (1, .int z1), (2, .int w2), (3, .int w3)] [] S (some (.int res.1)) res.2 := by
  refine fx2_ind ?_
  intro rec ih w2 w3 res h
  unfold b_168_17 at h
  refine x_iload_n d_168_17 rfl 3 rfl ?_
  refine x_aload_n d_168_18 rfl 0 rfl ?_
  refine y_getR d_168_19 fl_0_25 rfl kd_0 rr_told ?_
  obtain ⟨g6, h⟩ := gd_inv h
  refine y_getI d_168_22 fl_0_193 rfl (ksSc g6) ?_
  refine x_icmp_ge (tgt := 55) d_168_25 rfl (fun c7 => ?_) (fun c7 => ?_)
  · replace h := ite_t c7 h
    refine x_iload_n d_168_55 rfl 2 rfl ?_
    obtain rfl := Option.some.inj h
    exact x_ret (r := some (.int w2)) d_168_56 ⟨_, rfl, rfl⟩
  · replace h := ite_f c7 h
    refine x_iload_n d_168_28 rfl 2 rfl ?_
    refine x_aload_n d_168_29 rfl 0 rfl ?_
    refine y_getR d_168_30 fl_0_50 rfl kd_0 rr_0_7 ?_
    refine x_aload_n d_168_33 rfl 0 rfl ?_
    refine y_getR d_168_34 fl_0_50 rfl kd_0 rr_0_7 ?_
    refine x_iload_n d_168_37 rfl 1 rfl ?_
    refine x_iload_n d_168_38 rfl 3 rfl ?_
    obtain ⟨v9, q8, h⟩ := bd_inv h
    refine y_V2i (v := v9) (S1 := S) d_168_39 ml_0_176 kd_56 rfl (Nat.le_of_ble_eq_true rfl) (Nat.le_of_ble_eq_true rfl) (c_108 (by omega) q8) ?_
    obtain ⟨v11, q10, h⟩ := bd_inv h
    refine y_V1i (v := v11) (S1 := S) d_168_42 ml_0_297 kd_56 rfl (Nat.le_of_ble_eq_true rfl) (Nat.le_of_ble_eq_true rfl) (c_169 (by omega) q10) ?_
    refine y_mmax d_168_45 ml_0_230 (Nat.le_of_ble_eq_true rfl) ?_
    obtain ⟨v12, e13, h⟩ := lt_inv h
    refine y_istore_n (L1 := [(0, .ref 0), (1, .int z1), (2, .int v12), (3, .int w3)]) e13 d_168_48 rfl (Nat.le_of_ble_eq_true rfl) rfl rfl ?_
    obtain ⟨v14, e15, h⟩ := lt_inv h
    refine y_iinc (L1 := [(0, .ref 0), (1, .int z1), (2, .int v12), (3, .int v14)]) e15 ic_1 d_168_49 3 rfl (Nat.le_of_ble_eq_true rfl) rfl rfl ?_
    refine x_goto (tgt := 17) d_168_52 rfl ?_
    exact ih v12 v14 _ h
set_option maxRecDepth 100000 in
set_option maxHeartbeats 4000000 in
theorem c_168 {X : Nat × (Nat → Int32)} {D F G : Nat} (hD : 3 ≤ D) {S : St} {p1 : Int32} {res : Int32 × St} (h : fN_spread F G S p1 = some res) : Ek X (D) m168 0 [(0, .ref 0), (1, .int p1)] [] S (some (.int res.1)) res.2 := by
  obtain ⟨D, rfl⟩ : ∃ E, D = E + 1 := ⟨D - 1, by omega⟩
  unfold fN_spread at h
  refine x_iload_n d_168_0 rfl 1 rfl ?_
  obtain ⟨v2, q1, h⟩ := bd_inv h
  refine y_S1i (v := v2) (S1 := S) d_168_1 ml_0_170 (Nat.le_of_ble_eq_true rfl) (Nat.le_of_ble_eq_true rfl) (c_103 (by omega) q1) ?_
  refine x_if_ne (tgt := 9) d_168_4 rfl (fun c3 => ?_) (fun c3 => ?_)
  · replace h := ite_f c3 h
    refine x_aload_n d_168_9 rfl 0 rfl ?_
    obtain ⟨S5, q4, h⟩ := bd_inv h
    refine y_V0v (S1 := S5) d_168_10 ml_0_173 kd_0 rfl (Nat.le_of_ble_eq_true rfl) (Nat.le_of_ble_eq_true rfl) (c_104 (by omega) q4) ?_
    refine x_iconst d_168_13 ic_0 ?_
    refine x_istore_n (L1 := [(0, .ref 0), (1, .int p1), (2, .int (0 : Int32))]) d_168_14 rfl (Nat.le_of_ble_eq_true rfl) rfl rfl ?_
    refine x_iconst d_168_15 ic_0 ?_
    refine x_istore_n (L1 := [(0, .ref 0), (1, .int p1), (2, .int (0 : Int32)), (3, .int (0 : Int32))]) d_168_16 rfl (Nat.le_of_ble_eq_true rfl) rfl rfl ?_
    refine T_168_17 (by omega)   F (0 : Int32) (0 : Int32) _ h
  · replace h := ite_t c3 h
    refine x_iconst d_168_7 ic_m1 ?_
    obtain rfl := Option.some.inj h
    exact x_ret (r := some (.int (-1 : Int32))) d_168_8 ⟨_, rfl, rfl⟩
/-! NinetyPlayers.leaps -/
def b_170_17 (F G : Nat) (S : St) (z1 : Int32) (rec : Int32 → Int32 → Option (Int32 × St)) (w2 : Int32) (w3 : Int32) : Option (Int32 × St) :=
  gd (isSc S.2.2.1) (if (S.1 S.2.2.1 0) ≤ w3 then some (w2, S) else bd (fK_heldBy F G S z1 (w3 - (1 : Int32))) fun v9 => bd (fK_heldBy F G S z1 w3) fun v11 => bd (fK_leapBetween F G S v9 v11) fun v13 => lt (if w2 < v13 then v13 else w2) fun v14 => lt (w3 + 1) fun v16 => rec v14 v16)
def fN_leaps (F G : Nat) (S : St) (p1 : Int32) : Option (Int32 × St) :=
  bd (fN_isHand F G S p1) fun v2 => if v2 = 0 then some ((-1 : Int32), S) else bd (fN_lookAtKeys F G S ) fun S5 => fx2 (b_170_17 F G S5 p1) F (0 : Int32) (1 : Int32)
set_option maxRecDepth 100000 in
set_option maxHeartbeats 4000000 in
theorem T_170_17 {X : Nat × (Nat → Int32)} {D F G : Nat} (hD : 3 ≤ D + 1) {S : St} {z1 : Int32} : ∀ (f : Nat) (w2 : Int32) (w3 : Int32) (res : Int32 × St), fx2 (b_170_17 F G S z1 ) f w2 w3 = some res → Ek X (D + 1) m170 17 [(0, .ref 0), (1, .int z1), (2, .int w2), (3, .int w3)] [] S (some (.int res.1)) res.2 := by
  refine fx2_ind ?_
  intro rec ih w2 w3 res h
  unfold b_170_17 at h
  refine x_iload_n d_170_17 rfl 3 rfl ?_
  refine x_aload_n d_170_18 rfl 0 rfl ?_
  refine y_getR d_170_19 fl_0_25 rfl kd_0 rr_told ?_
  obtain ⟨g6, h⟩ := gd_inv h
  refine y_getI d_170_22 fl_0_193 rfl (ksSc g6) ?_
  refine x_icmp_ge (tgt := 70) d_170_25 rfl (fun c7 => ?_) (fun c7 => ?_)
  · replace h := ite_t c7 h
    refine x_iload_n d_170_70 rfl 2 rfl ?_
    obtain rfl := Option.some.inj h
    exact x_ret (r := some (.int w2)) d_170_71 ⟨_, rfl, rfl⟩
  · replace h := ite_f c7 h
    refine x_aload_n d_170_28 rfl 0 rfl ?_
    refine y_getR d_170_29 fl_0_50 rfl kd_0 rr_0_7 ?_
    refine x_iload_n d_170_32 rfl 1 rfl ?_
    refine x_iload_n d_170_33 rfl 3 rfl ?_
    refine x_iconst d_170_34 ic_1 ?_
    refine x_isub d_170_35 ?_
    obtain ⟨v9, q8, h⟩ := bd_inv h
    refine y_V2i (v := v9) (S1 := S) d_170_36 ml_0_176 kd_56 rfl (Nat.le_of_ble_eq_true rfl) (Nat.le_of_ble_eq_true rfl) (c_108 (by omega) q8) ?_
    refine x_istore (L1 := [(0, .ref 0), (1, .int z1), (2, .int w2), (3, .int w3), (4, .int v9)]) d_170_39 (Nat.le_of_ble_eq_true rfl) rfl rfl ?_
    refine x_iload_n d_170_41 rfl 2 rfl ?_
    refine x_aload_n d_170_42 rfl 0 rfl ?_
    refine y_getR d_170_43 fl_0_50 rfl kd_0 rr_0_7 ?_
    refine x_iload d_170_46 4 rfl ?_
    refine x_aload_n d_170_48 rfl 0 rfl ?_
    refine y_getR d_170_49 fl_0_50 rfl kd_0 rr_0_7 ?_
    refine x_iload_n d_170_52 rfl 1 rfl ?_
    refine x_iload_n d_170_53 rfl 3 rfl ?_
    obtain ⟨v11, q10, h⟩ := bd_inv h
    refine y_V2i (v := v11) (S1 := S) d_170_54 ml_0_176 kd_56 rfl (Nat.le_of_ble_eq_true rfl) (Nat.le_of_ble_eq_true rfl) (c_108 (by omega) q10) ?_
    obtain ⟨v13, q12, h⟩ := bd_inv h
    refine y_V2i (v := v13) (S1 := S) d_170_57 ml_0_300 kd_56 rfl (Nat.le_of_ble_eq_true rfl) (Nat.le_of_ble_eq_true rfl) (c_149 (by omega) q12) ?_
    refine y_mmax d_170_60 ml_0_230 (Nat.le_of_ble_eq_true rfl) ?_
    obtain ⟨v14, e15, h⟩ := lt_inv h
    refine y_istore_n (L1 := [(0, .ref 0), (1, .int z1), (2, .int v14), (3, .int w3), (4, .int v9)]) e15 d_170_63 rfl (Nat.le_of_ble_eq_true rfl) rfl rfl ?_
    obtain ⟨v16, e17, h⟩ := lt_inv h
    refine y_iinc (L1 := [(0, .ref 0), (1, .int z1), (2, .int v14), (3, .int v16), (4, .int v9)]) e17 ic_1 d_170_64 3 rfl (Nat.le_of_ble_eq_true rfl) rfl rfl ?_
    refine x_goto (tgt := 17) d_170_67 rfl ?_
    refine y_pick (L1 := [(0, .ref 0), (1, .int z1), (2, .int v14), (3, .int v16)]) [0, 1, 2, 3] rfl ?_
    exact ih v14 v16 _ h
set_option maxRecDepth 100000 in
set_option maxHeartbeats 4000000 in
theorem c_170 {X : Nat × (Nat → Int32)} {D F G : Nat} (hD : 3 ≤ D) {S : St} {p1 : Int32} {res : Int32 × St} (h : fN_leaps F G S p1 = some res) : Ek X (D) m170 0 [(0, .ref 0), (1, .int p1)] [] S (some (.int res.1)) res.2 := by
  obtain ⟨D, rfl⟩ : ∃ E, D = E + 1 := ⟨D - 1, by omega⟩
  unfold fN_leaps at h
  refine x_iload_n d_170_0 rfl 1 rfl ?_
  obtain ⟨v2, q1, h⟩ := bd_inv h
  refine y_S1i (v := v2) (S1 := S) d_170_1 ml_0_170 (Nat.le_of_ble_eq_true rfl) (Nat.le_of_ble_eq_true rfl) (c_103 (by omega) q1) ?_
  refine x_if_ne (tgt := 9) d_170_4 rfl (fun c3 => ?_) (fun c3 => ?_)
  · replace h := ite_f c3 h
    refine x_aload_n d_170_9 rfl 0 rfl ?_
    obtain ⟨S5, q4, h⟩ := bd_inv h
    refine y_V0v (S1 := S5) d_170_10 ml_0_173 kd_0 rfl (Nat.le_of_ble_eq_true rfl) (Nat.le_of_ble_eq_true rfl) (c_104 (by omega) q4) ?_
    refine x_iconst d_170_13 ic_0 ?_
    refine x_istore_n (L1 := [(0, .ref 0), (1, .int p1), (2, .int (0 : Int32))]) d_170_14 rfl (Nat.le_of_ble_eq_true rfl) rfl rfl ?_
    refine x_iconst d_170_15 ic_1 ?_
    refine x_istore_n (L1 := [(0, .ref 0), (1, .int p1), (2, .int (0 : Int32)), (3, .int (1 : Int32))]) d_170_16 rfl (Nat.le_of_ble_eq_true rfl) rfl rfl ?_
    refine T_170_17 (by omega)   F (0 : Int32) (1 : Int32) _ h
  · replace h := ite_t c3 h
    refine x_iconst d_170_7 ic_m1 ?_
    obtain rfl := Option.some.inj h
    exact x_ret (r := some (.int (-1 : Int32))) d_170_8 ⟨_, rfl, rfl⟩
/-! NinetyPlayers$Keyboard.blurredAt -/
def j_172_85 (F G : Nat) (S : St) (z2 : Int32) (z3 : Int32) (z5 : Int32) (k119 : Int32 → Option (Int32)) (rec : Int32 → Int32 → Option (Int32)) (_ : St) (y4 : Int32) (y6 : Int32) (y7 : Int32) (s0 : Int32) : Option (Int32) :=
  if s0 = 0 then lt (y6 + 1) fun v16 => rec y4 v16 else if (z2 &&& y7) = y7 then if (z3 &&& y7) = y7 then lt (y6 + 1) fun v22 => rec y4 v22 else lt (y4 + 1) fun v24 => lt (y6 + 1) fun v26 => rec v24 v26 else lt (y6 + 1) fun v19 => rec y4 v19
def j_172_80 (F G : Nat) (S : St) (z2 : Int32) (z3 : Int32) (z5 : Int32) (k119 : Int32 → Option (Int32)) (rec : Int32 → Int32 → Option (Int32)) (_ : St) (y4 : Int32) (y6 : Int32) (y7 : Int32) : Option (Int32) :=
  j_172_85 F G S z2 z3 z5 k119 rec  S y4 y6 y7 (1 : Int32)
def b_172_30 (F G : Nat) (S : St) (z2 : Int32) (z3 : Int32) (z5 : Int32) (k119 : Int32 → Option (Int32)) (rec : Int32 → Int32 → Option (Int32)) (w4 : Int32) (w6 : Int32) : Option (Int32) :=
  if z5 ≤ w6 then k119 w4 else lt (((1 : Int32) <<< (z5 &&& 31)) ||| ((1 : Int32) <<< (w6 &&& 31))) fun v7 => gd (inB z5 10) (gd (inB w6 10) (lt (if 0 ≤ ((S.1 57 z5.toNatClampNeg) - (S.1 57 w6.toNatClampNeg)) then ((S.1 57 z5.toNatClampNeg) - (S.1 57 w6.toNatClampNeg)) else 0 - ((S.1 57 z5.toNatClampNeg) - (S.1 57 w6.toNatClampNeg))) fun v11 => if v11 = (1 : Int32) then j_172_80 F G S z2 z3 z5 k119 rec  S w4 w6 v7 else if v11 = (2 : Int32) then j_172_80 F G S z2 z3 z5 k119 rec  S w4 w6 v7 else j_172_85 F G S z2 z3 z5 k119 rec  S w4 w6 v7 (0 : Int32)))
def b_172_18 (F G : Nat) (S : St) (z2 : Int32) (z3 : Int32) (rec : Int32 → Int32 → Option (Int32)) (w4 : Int32) (w5 : Int32) : Option (Int32) :=
  if (S.1 56 1) ≤ w5 then some w4 else fx2 (b_172_30 F G S z2 z3 w5 (fun v28 => lt (w5 + 1) fun v29 => rec v28 v29)) F w4 (0 : Int32)
def fK_blurredAt (F G : Nat) (S : St) (p1 : Int32) : Option (Int32) :=
  bd (fK_soundingAt F G S p1) fun v2 => bd (fK_timelyAt F G S p1) fun v4 => fx2 (b_172_18 F G S v2 v4) F (0 : Int32) (1 : Int32)
set_option maxRecDepth 100000 in
set_option maxHeartbeats 4000000 in
theorem T_172_30 {X : Nat × (Nat → Int32)} {D F G : Nat} (hD : 2 ≤ D + 1) {S : St} {z2 : Int32} {z3 : Int32} {z5 : Int32} {k119 : Int32 → Option (Int32)} (hk119 : ∀ (u4 : Int32) (res : Int32), k119 u4 = some res → Ek X (D + 1) m172 119 [(0, .ref 56), (2, .int z2), (3, .int z3), (4, .int u4), (5, .int z5)] [] S (some (.int res)) S) : ∀ (f : Nat) (w4 : Int32) (w6 : Int32) (res : Int32), fx2 (b_172_30 F G S z2 z3 z5 k119 ) f w4 w6 = some res → Ek X (D + 1) m172 30 [(0, .ref 56), (2, .int z2), (3, .int z3), (4, .int w4), (5, .int z5), (6, .int w6)] [] S (some (.int res)) S := by
  refine fx2_ind ?_
  intro rec ih w4 w6 res h
  unfold b_172_30 at h
  have J85 : ∀ (y4 : Int32) (y6 : Int32) (y7 : Int32) (s0 : Int32) (res : Int32), j_172_85 F G S z2 z3 z5 k119 rec S y4 y6 y7 s0 = some res → Ek X (D + 1) m172 85 [(0, .ref 56), (2, .int z2), (3, .int z3), (4, .int y4), (5, .int z5), (6, .int y6), (7, .int y7)] [.int s0] S (some (.int res)) S := by
    intro y4 y6 y7 s0 res h
    unfold j_172_85 at h
    refine x_istore (L1 := [(0, .ref 56), (2, .int z2), (3, .int z3), (4, .int y4), (5, .int z5), (6, .int y6), (7, .int y7), (9, .int s0)]) d_172_85 (Nat.le_of_ble_eq_true rfl) rfl rfl ?_
    refine x_iload d_172_87 7 rfl ?_
    refine x_if_eq (tgt := 113) d_172_89 rfl (fun c15 => ?_) (fun c15 => ?_)
    · replace h := ite_t c15 h
      obtain ⟨v16, e17, h⟩ := lt_inv h
      refine y_iinc (L1 := [(0, .ref 56), (2, .int z2), (3, .int z3), (4, .int y4), (5, .int z5), (6, .int v16), (7, .int y7), (9, .int s0)]) e17 ic_1 d_172_113 5 rfl (Nat.le_of_ble_eq_true rfl) rfl rfl ?_
      refine x_goto (tgt := 30) d_172_116 rfl ?_
      refine y_pick (L1 := [(0, .ref 56), (2, .int z2), (3, .int z3), (4, .int y4), (5, .int z5), (6, .int v16)]) [0, 1, 2, 3, 4, 5] rfl ?_
      exact ih y4 v16 _ h
    · replace h := ite_f c15 h
      refine x_iload_n d_172_92 rfl 1 rfl ?_
      refine x_iload d_172_93 6 rfl ?_
      refine x_iand d_172_95 ?_
      refine x_iload d_172_96 6 rfl ?_
      refine x_icmp_ne (tgt := 113) d_172_98 rfl (fun c18 => ?_) (fun c18 => ?_)
      · replace h := ite_f c18 h
        obtain ⟨v19, e20, h⟩ := lt_inv h
        refine y_iinc (L1 := [(0, .ref 56), (2, .int z2), (3, .int z3), (4, .int y4), (5, .int z5), (6, .int v19), (7, .int y7), (9, .int s0)]) e20 ic_1 d_172_113 5 rfl (Nat.le_of_ble_eq_true rfl) rfl rfl ?_
        refine x_goto (tgt := 30) d_172_116 rfl ?_
        refine y_pick (L1 := [(0, .ref 56), (2, .int z2), (3, .int z3), (4, .int y4), (5, .int z5), (6, .int v19)]) [0, 1, 2, 3, 4, 5] rfl ?_
        exact ih y4 v19 _ h
      · replace h := ite_t c18 h
        refine x_iload_n d_172_101 rfl 2 rfl ?_
        refine x_iload d_172_102 6 rfl ?_
        refine x_iand d_172_104 ?_
        refine x_iload d_172_105 6 rfl ?_
        refine x_icmp_eq (tgt := 113) d_172_107 rfl (fun c21 => ?_) (fun c21 => ?_)
        · replace h := ite_t c21 h
          obtain ⟨v22, e23, h⟩ := lt_inv h
          refine y_iinc (L1 := [(0, .ref 56), (2, .int z2), (3, .int z3), (4, .int y4), (5, .int z5), (6, .int v22), (7, .int y7), (9, .int s0)]) e23 ic_1 d_172_113 5 rfl (Nat.le_of_ble_eq_true rfl) rfl rfl ?_
          refine x_goto (tgt := 30) d_172_116 rfl ?_
          refine y_pick (L1 := [(0, .ref 56), (2, .int z2), (3, .int z3), (4, .int y4), (5, .int z5), (6, .int v22)]) [0, 1, 2, 3, 4, 5] rfl ?_
          exact ih y4 v22 _ h
        · replace h := ite_f c21 h
          obtain ⟨v24, e25, h⟩ := lt_inv h
          refine y_iinc (L1 := [(0, .ref 56), (2, .int z2), (3, .int z3), (4, .int v24), (5, .int z5), (6, .int y6), (7, .int y7), (9, .int s0)]) e25 ic_1 d_172_110 3 rfl (Nat.le_of_ble_eq_true rfl) rfl rfl ?_
          obtain ⟨v26, e27, h⟩ := lt_inv h
          refine y_iinc (L1 := [(0, .ref 56), (2, .int z2), (3, .int z3), (4, .int v24), (5, .int z5), (6, .int v26), (7, .int y7), (9, .int s0)]) e27 ic_1 d_172_113 5 rfl (Nat.le_of_ble_eq_true rfl) rfl rfl ?_
          refine x_goto (tgt := 30) d_172_116 rfl ?_
          refine y_pick (L1 := [(0, .ref 56), (2, .int z2), (3, .int z3), (4, .int v24), (5, .int z5), (6, .int v26)]) [0, 1, 2, 3, 4, 5] rfl ?_
          exact ih v24 v26 _ h
  have J80 : ∀ (y4 : Int32) (y6 : Int32) (y7 : Int32) (res : Int32), j_172_80 F G S z2 z3 z5 k119 rec S y4 y6 y7 = some res → Ek X (D + 1) m172 80 [(0, .ref 56), (2, .int z2), (3, .int z3), (4, .int y4), (5, .int z5), (6, .int y6), (7, .int y7)] [] S (some (.int res)) S := by
    intro y4 y6 y7 res h
    unfold j_172_80 at h
    refine x_iconst d_172_80 ic_1 ?_
    refine x_goto (tgt := 85) d_172_81 rfl ?_
    exact J85 y4 y6 y7 (1 : Int32) _ h
  refine x_iload d_172_30 5 rfl ?_
  refine x_iload d_172_32 4 rfl ?_
  refine x_icmp_ge (tgt := 119) d_172_34 rfl (fun c6 => ?_) (fun c6 => ?_)
  · replace h := ite_t c6 h
    refine y_pick (L1 := [(0, .ref 56), (2, .int z2), (3, .int z3), (4, .int w4), (5, .int z5)]) [0, 1, 2, 3, 4] rfl ?_
    exact hk119 w4 _ h
  · replace h := ite_f c6 h
    refine x_iconst d_172_37 ic_1 ?_
    refine x_iload d_172_38 4 rfl ?_
    refine x_ishl d_172_40 ?_
    refine x_iconst d_172_41 ic_1 ?_
    refine x_iload d_172_42 5 rfl ?_
    refine x_ishl d_172_44 ?_
    refine x_ior d_172_45 ?_
    obtain ⟨v7, e8, h⟩ := lt_inv h
    refine y_istore (L1 := [(0, .ref 56), (2, .int z2), (3, .int z3), (4, .int w4), (5, .int z5), (6, .int w6), (7, .int v7)]) e8 d_172_46 (Nat.le_of_ble_eq_true rfl) rfl rfl ?_
    refine x_aload_n d_172_48 rfl 0 rfl ?_
    refine y_getR d_172_49 fl_7_9 rfl kd_56 rr_56_8 ?_
    refine x_iload d_172_52 4 rfl ?_
    obtain ⟨g9, h⟩ := gd_inv h
    refine y_iald d_172_54 kd_57 g9 ?_
    refine x_aload_n d_172_55 rfl 0 rfl ?_
    refine y_getR d_172_56 fl_7_9 rfl kd_56 rr_56_8 ?_
    refine x_iload d_172_59 5 rfl ?_
    obtain ⟨g10, h⟩ := gd_inv h
    refine y_iald d_172_61 kd_57 g10 ?_
    refine x_isub d_172_62 ?_
    refine y_mabs d_172_63 ml_7_84 (Nat.le_of_ble_eq_true rfl) ?_
    obtain ⟨v11, e12, h⟩ := lt_inv h
    refine y_istore (L1 := [(0, .ref 56), (2, .int z2), (3, .int z3), (4, .int w4), (5, .int z5), (6, .int w6), (7, .int v7), (8, .int v11)]) e12 d_172_66 (Nat.le_of_ble_eq_true rfl) rfl rfl ?_
    refine x_iload d_172_68 7 rfl ?_
    refine x_iconst d_172_70 ic_1 ?_
    refine x_icmp_eq (tgt := 80) d_172_71 rfl (fun c13 => ?_) (fun c13 => ?_)
    · replace h := ite_t c13 h
      refine y_pick (L1 := [(0, .ref 56), (2, .int z2), (3, .int z3), (4, .int w4), (5, .int z5), (6, .int w6), (7, .int v7)]) [0, 1, 2, 3, 4, 5, 6] rfl ?_
      exact J80 w4 w6 v7 _ h
    · replace h := ite_f c13 h
      refine x_iload d_172_74 7 rfl ?_
      refine x_iconst d_172_76 ic_2 ?_
      refine x_icmp_ne (tgt := 84) d_172_77 rfl (fun c14 => ?_) (fun c14 => ?_)
      · replace h := ite_f c14 h
        refine x_iconst d_172_84 ic_0 ?_
        refine y_pick (L1 := [(0, .ref 56), (2, .int z2), (3, .int z3), (4, .int w4), (5, .int z5), (6, .int w6), (7, .int v7)]) [0, 1, 2, 3, 4, 5, 6] rfl ?_
        exact J85 w4 w6 v7 (0 : Int32) _ h
      · replace h := ite_t c14 h
        refine y_pick (L1 := [(0, .ref 56), (2, .int z2), (3, .int z3), (4, .int w4), (5, .int z5), (6, .int w6), (7, .int v7)]) [0, 1, 2, 3, 4, 5, 6] rfl ?_
        exact J80 w4 w6 v7 _ h
set_option maxRecDepth 100000 in
set_option maxHeartbeats 4000000 in
theorem T_172_18 {X : Nat × (Nat → Int32)} {D F G : Nat} (hD : 2 ≤ D + 1) {S : St} {z2 : Int32} {z3 : Int32} : ∀ (f : Nat) (w4 : Int32) (w5 : Int32) (res : Int32), fx2 (b_172_18 F G S z2 z3 ) f w4 w5 = some res → Ek X (D + 1) m172 18 [(0, .ref 56), (2, .int z2), (3, .int z3), (4, .int w4), (5, .int w5)] [] S (some (.int res)) S := by
  refine fx2_ind ?_
  intro rec ih w4 w5 res h
  unfold b_172_18 at h
  refine x_iload d_172_18 4 rfl ?_
  refine x_aload_n d_172_20 rfl 0 rfl ?_
  refine y_getI d_172_21 fl_7_34 rfl kd_56 ?_
  refine x_icmp_ge (tgt := 125) d_172_24 rfl (fun c5 => ?_) (fun c5 => ?_)
  · replace h := ite_t c5 h
    refine x_iload d_172_125 3 rfl ?_
    obtain rfl := Option.some.inj h
    exact x_ret (r := some (.int w4)) d_172_127 ⟨_, rfl, rfl⟩
  · replace h := ite_f c5 h
    refine x_iconst d_172_27 ic_0 ?_
    refine x_istore (L1 := [(0, .ref 56), (2, .int z2), (3, .int z3), (4, .int w4), (5, .int w5), (6, .int (0 : Int32))]) d_172_28 (Nat.le_of_ble_eq_true rfl) rfl rfl ?_
    refine T_172_30 (by omega)  ?_ F w4 (0 : Int32) _ h
    · intro v28 res h
      obtain ⟨v29, e30, h⟩ := lt_inv h
      refine y_iinc (L1 := [(0, .ref 56), (2, .int z2), (3, .int z3), (4, .int v28), (5, .int v29)]) e30 ic_1 d_172_119 4 rfl (Nat.le_of_ble_eq_true rfl) rfl rfl ?_
      refine x_goto (tgt := 18) d_172_122 rfl ?_
      exact ih v28 v29 _ h
set_option maxRecDepth 100000 in
set_option maxHeartbeats 4000000 in
theorem c_172 {X : Nat × (Nat → Int32)} {D F G : Nat} (hD : 2 ≤ D) {S : St} {p1 : Int32} {res : Int32} (h : fK_blurredAt F G S p1 = some res) : Ek X (D) m172 0 [(0, .ref 56), (1, .int p1)] [] S (some (.int res)) S := by
  obtain ⟨D, rfl⟩ : ∃ E, D = E + 1 := ⟨D - 1, by omega⟩
  unfold fK_blurredAt at h
  refine x_aload_n d_172_0 rfl 0 rfl ?_
  refine x_iload_n d_172_1 rfl 1 rfl ?_
  obtain ⟨v2, q1, h⟩ := bd_inv h
  refine y_V1i (v := v2) (S1 := S) d_172_2 ml_7_115 kd_56 rfl (Nat.le_of_ble_eq_true rfl) (Nat.le_of_ble_eq_true rfl) (c_112 (by omega) q1) ?_
  refine x_istore_n (L1 := [(0, .ref 56), (1, .int p1), (2, .int v2)]) d_172_5 rfl (Nat.le_of_ble_eq_true rfl) rfl rfl ?_
  refine x_aload_n d_172_6 rfl 0 rfl ?_
  refine x_iload_n d_172_7 rfl 1 rfl ?_
  obtain ⟨v4, q3, h⟩ := bd_inv h
  refine y_V1i (v := v4) (S1 := S) d_172_8 ml_7_75 kd_56 rfl (Nat.le_of_ble_eq_true rfl) (Nat.le_of_ble_eq_true rfl) (c_110 (by omega) q3) ?_
  refine x_istore_n (L1 := [(0, .ref 56), (1, .int p1), (2, .int v2), (3, .int v4)]) d_172_11 rfl (Nat.le_of_ble_eq_true rfl) rfl rfl ?_
  refine x_iconst d_172_12 ic_0 ?_
  refine x_istore (L1 := [(0, .ref 56), (1, .int p1), (2, .int v2), (3, .int v4), (4, .int (0 : Int32))]) d_172_13 (Nat.le_of_ble_eq_true rfl) rfl rfl ?_
  refine x_iconst d_172_15 ic_1 ?_
  refine x_istore (L1 := [(0, .ref 56), (1, .int p1), (2, .int v2), (3, .int v4), (4, .int (0 : Int32)), (5, .int (1 : Int32))]) d_172_16 (Nat.le_of_ble_eq_true rfl) rfl rfl ?_
  refine y_pick (L1 := [(0, .ref 56), (2, .int v2), (3, .int v4), (4, .int (0 : Int32)), (5, .int (1 : Int32))]) [0, 2, 3, 4, 5] rfl ?_
  refine T_172_18 (by omega)   F (0 : Int32) (1 : Int32) _ h
/-! NinetyPlayers.blur -/
def b_171_8 (F G : Nat) (S : St) (rec : Int32 → Int32 → Option (Int32 × St)) (w1 : Int32) (w2 : Int32) : Option (Int32 × St) :=
  gd (isSc S.2.2.1) (if (S.1 S.2.2.1 0) ≤ w2 then some (w1, S) else bd (fK_blurredAt F G S w2) fun v6 => lt (w1 + v6) fun v7 => lt (w2 + 1) fun v9 => rec v7 v9)
def fN_blur (F G : Nat) (S : St) : Option (Int32 × St) :=
  bd (fN_lookAtKeys F G S ) fun S2 => fx2 (b_171_8 F G S2) F (0 : Int32) (0 : Int32)
set_option maxRecDepth 100000 in
set_option maxHeartbeats 4000000 in
theorem T_171_8 {X : Nat × (Nat → Int32)} {D F G : Nat} (hD : 3 ≤ D + 1) {S : St} : ∀ (f : Nat) (w1 : Int32) (w2 : Int32) (res : Int32 × St), fx2 (b_171_8 F G S ) f w1 w2 = some res → Ek X (D + 1) m171 8 [(0, .ref 0), (1, .int w1), (2, .int w2)] [] S (some (.int res.1)) res.2 := by
  refine fx2_ind ?_
  intro rec ih w1 w2 res h
  unfold b_171_8 at h
  refine x_iload_n d_171_8 rfl 2 rfl ?_
  refine x_aload_n d_171_9 rfl 0 rfl ?_
  refine y_getR d_171_10 fl_0_25 rfl kd_0 rr_told ?_
  obtain ⟨g3, h⟩ := gd_inv h
  refine y_getI d_171_13 fl_0_193 rfl (ksSc g3) ?_
  refine x_icmp_ge (tgt := 36) d_171_16 rfl (fun c4 => ?_) (fun c4 => ?_)
  · replace h := ite_t c4 h
    refine x_iload_n d_171_36 rfl 1 rfl ?_
    obtain rfl := Option.some.inj h
    exact x_ret (r := some (.int w1)) d_171_37 ⟨_, rfl, rfl⟩
  · replace h := ite_f c4 h
    refine x_iload_n d_171_19 rfl 1 rfl ?_
    refine x_aload_n d_171_20 rfl 0 rfl ?_
    refine y_getR d_171_21 fl_0_50 rfl kd_0 rr_0_7 ?_
    refine x_iload_n d_171_24 rfl 2 rfl ?_
    obtain ⟨v6, q5, h⟩ := bd_inv h
    refine y_V1i (v := v6) (S1 := S) d_171_25 ml_0_303 kd_56 rfl (Nat.le_of_ble_eq_true rfl) (Nat.le_of_ble_eq_true rfl) (c_172 (by omega) q5) ?_
    refine x_iadd d_171_28 ?_
    obtain ⟨v7, e8, h⟩ := lt_inv h
    refine y_istore_n (L1 := [(0, .ref 0), (1, .int v7), (2, .int w2)]) e8 d_171_29 rfl (Nat.le_of_ble_eq_true rfl) rfl rfl ?_
    obtain ⟨v9, e10, h⟩ := lt_inv h
    refine y_iinc (L1 := [(0, .ref 0), (1, .int v7), (2, .int v9)]) e10 ic_1 d_171_30 2 rfl (Nat.le_of_ble_eq_true rfl) rfl rfl ?_
    refine x_goto (tgt := 8) d_171_33 rfl ?_
    exact ih v7 v9 _ h
set_option maxRecDepth 100000 in
set_option maxHeartbeats 4000000 in
theorem c_171 {X : Nat × (Nat → Int32)} {D F G : Nat} (hD : 3 ≤ D) {S : St} {res : Int32 × St} (h : fN_blur F G S  = some res) : Ek X (D) m171 0 [(0, .ref 0)] [] S (some (.int res.1)) res.2 := by
  obtain ⟨D, rfl⟩ : ∃ E, D = E + 1 := ⟨D - 1, by omega⟩
  unfold fN_blur at h
  refine x_aload_n d_171_0 rfl 0 rfl ?_
  obtain ⟨S2, q1, h⟩ := bd_inv h
  refine y_V0v (S1 := S2) d_171_1 ml_0_173 kd_0 rfl (Nat.le_of_ble_eq_true rfl) (Nat.le_of_ble_eq_true rfl) (c_104 (by omega) q1) ?_
  refine x_iconst d_171_4 ic_0 ?_
  refine x_istore_n (L1 := [(0, .ref 0), (1, .int (0 : Int32))]) d_171_5 rfl (Nat.le_of_ble_eq_true rfl) rfl rfl ?_
  refine x_iconst d_171_6 ic_0 ?_
  refine x_istore_n (L1 := [(0, .ref 0), (1, .int (0 : Int32)), (2, .int (0 : Int32))]) d_171_7 rfl (Nat.le_of_ble_eq_true rfl) rfl rfl ?_
  refine T_171_8 (by omega)   F (0 : Int32) (0 : Int32) _ h
/-! NinetyPlayers.openAt -/
def b_174_14 (F G : Nat) (S : St) (z2 : Int32) (k56 : Int32 → Option (Int32)) (rec : Int32 → Int32 → Option (Int32)) (w3 : Int32) (w4 : Int32) : Option (Int32) :=
  gd (isSc S.2.2.1) (if (S.1 S.2.2.1 6) ≤ w4 then k56 w3 else if ((z2 >>> (w4 &&& 31)) &&& (1 : Int32)) = 0 then lt (w4 + 1) fun v6 => rec w3 v6 else gd (inB w4 10) (lt (if w3 < (S.1 34 w4.toNatClampNeg) then (S.1 34 w4.toNatClampNeg) else w3) fun v9 => lt (w4 + 1) fun v11 => rec v9 v11))
def b_174_62 (F G : Nat) (S : St) (z2 : Int32) (z3 : Int32) (rec : Int32 → Int32 → Option (Int32)) (w4 : Int32) (w5 : Int32) : Option (Int32) :=
  gd (isSc S.2.2.1) (if (S.1 S.2.2.1 6) ≤ w5 then some w4 else if ((z2 >>> (w5 &&& 31)) &&& (1 : Int32)) = 0 then lt (w5 + 1) fun v17 => rec w4 v17 else gd (inB w5 10) (if (S.1 S.2.2.1 4) < (z3 - (S.1 34 w5.toNatClampNeg)) then lt (w5 + 1) fun v21 => rec w4 v21 else lt (w4 ||| ((1 : Int32) <<< (w5 &&& 31))) fun v23 => lt (w5 + 1) fun v25 => rec v23 v25))
def fN_openAt (F G : Nat) (S : St) (p1 : Int32) : Option (Int32) :=
  bd (fK_soundingAt F G S p1) fun v2 => fx2 (b_174_14 F G S v2 (fun v13 => fx2 (b_174_62 F G S v2 v13) F (0 : Int32) (0 : Int32))) F (0 : Int32) (0 : Int32)
set_option maxRecDepth 100000 in
set_option maxHeartbeats 4000000 in
theorem T_174_14 {X : Nat × (Nat → Int32)} {D F G : Nat} (hD : 2 ≤ D + 1) {S : St} {z2 : Int32} {k56 : Int32 → Option (Int32)} (hk56 : ∀ (u3 : Int32) (res : Int32), k56 u3 = some res → Ek X (D + 1) m174 56 [(0, .ref 0), (2, .int z2), (3, .int u3)] [] S (some (.int res)) S) : ∀ (f : Nat) (w3 : Int32) (w4 : Int32) (res : Int32), fx2 (b_174_14 F G S z2 k56 ) f w3 w4 = some res → Ek X (D + 1) m174 14 [(0, .ref 0), (2, .int z2), (3, .int w3), (4, .int w4)] [] S (some (.int res)) S := by
  refine fx2_ind ?_
  intro rec ih w3 w4 res h
  unfold b_174_14 at h
  refine x_iload d_174_14 3 rfl ?_
  refine x_aload_n d_174_16 rfl 0 rfl ?_
  refine y_getR d_174_17 fl_0_25 rfl kd_0 rr_told ?_
  obtain ⟨g3, h⟩ := gd_inv h
  refine y_getI d_174_20 fl_0_117 rfl (ksSc g3) ?_
  refine x_icmp_ge (tgt := 56) d_174_23 rfl (fun c4 => ?_) (fun c4 => ?_)
  · replace h := ite_t c4 h
    refine y_pick (L1 := [(0, .ref 0), (2, .int z2), (3, .int w3)]) [0, 1, 2] rfl ?_
    exact hk56 w3 _ h
  · replace h := ite_f c4 h
    refine x_iload_n d_174_26 rfl 1 rfl ?_
    refine x_iload d_174_27 3 rfl ?_
    refine x_ishr d_174_29 ?_
    refine x_iconst d_174_30 ic_1 ?_
    refine x_iand d_174_31 ?_
    refine x_if_eq (tgt := 50) d_174_32 rfl (fun c5 => ?_) (fun c5 => ?_)
    · replace h := ite_t c5 h
      obtain ⟨v6, e7, h⟩ := lt_inv h
      refine y_iinc (L1 := [(0, .ref 0), (2, .int z2), (3, .int w3), (4, .int v6)]) e7 ic_1 d_174_50 3 rfl (Nat.le_of_ble_eq_true rfl) rfl rfl ?_
      refine x_goto (tgt := 14) d_174_53 rfl ?_
      exact ih w3 v6 _ h
    · replace h := ite_f c5 h
      refine x_iload_n d_174_35 rfl 2 rfl ?_
      refine x_aload_n d_174_36 rfl 0 rfl ?_
      refine y_getR d_174_37 fl_0_32 rfl kd_0 rr_0_4 ?_
      refine y_getR d_174_40 fl_0_141 rfl kd_30 rr_30_5 ?_
      refine x_iload d_174_43 3 rfl ?_
      obtain ⟨g8, h⟩ := gd_inv h
      refine y_iald d_174_45 kd_34 g8 ?_
      refine y_mmax d_174_46 ml_0_230 (Nat.le_of_ble_eq_true rfl) ?_
      obtain ⟨v9, e10, h⟩ := lt_inv h
      refine y_istore_n (L1 := [(0, .ref 0), (2, .int z2), (3, .int v9), (4, .int w4)]) e10 d_174_49 rfl (Nat.le_of_ble_eq_true rfl) rfl rfl ?_
      obtain ⟨v11, e12, h⟩ := lt_inv h
      refine y_iinc (L1 := [(0, .ref 0), (2, .int z2), (3, .int v9), (4, .int v11)]) e12 ic_1 d_174_50 3 rfl (Nat.le_of_ble_eq_true rfl) rfl rfl ?_
      refine x_goto (tgt := 14) d_174_53 rfl ?_
      exact ih v9 v11 _ h
set_option maxRecDepth 100000 in
set_option maxHeartbeats 4000000 in
theorem T_174_62 {X : Nat × (Nat → Int32)} {D F G : Nat} (hD : 2 ≤ D + 1) {S : St} {z2 : Int32} {z3 : Int32} : ∀ (f : Nat) (w4 : Int32) (w5 : Int32) (res : Int32), fx2 (b_174_62 F G S z2 z3 ) f w4 w5 = some res → Ek X (D + 1) m174 62 [(0, .ref 0), (2, .int z2), (3, .int z3), (4, .int w4), (5, .int w5)] [] S (some (.int res)) S := by
  refine fx2_ind ?_
  intro rec ih w4 w5 res h
  unfold b_174_62 at h
  refine x_iload d_174_62 4 rfl ?_
  refine x_aload_n d_174_64 rfl 0 rfl ?_
  refine y_getR d_174_65 fl_0_25 rfl kd_0 rr_told ?_
  obtain ⟨g14, h⟩ := gd_inv h
  refine y_getI d_174_68 fl_0_117 rfl (ksSc g14) ?_
  refine x_icmp_ge (tgt := 120) d_174_71 rfl (fun c15 => ?_) (fun c15 => ?_)
  · replace h := ite_t c15 h
    refine x_iload d_174_120 3 rfl ?_
    obtain rfl := Option.some.inj h
    exact x_ret (r := some (.int w4)) d_174_122 ⟨_, rfl, rfl⟩
  · replace h := ite_f c15 h
    refine x_iload_n d_174_74 rfl 1 rfl ?_
    refine x_iload d_174_75 4 rfl ?_
    refine x_ishr d_174_77 ?_
    refine x_iconst d_174_78 ic_1 ?_
    refine x_iand d_174_79 ?_
    refine x_if_eq (tgt := 114) d_174_80 rfl (fun c16 => ?_) (fun c16 => ?_)
    · replace h := ite_t c16 h
      obtain ⟨v17, e18, h⟩ := lt_inv h
      refine y_iinc (L1 := [(0, .ref 0), (2, .int z2), (3, .int z3), (4, .int w4), (5, .int v17)]) e18 ic_1 d_174_114 4 rfl (Nat.le_of_ble_eq_true rfl) rfl rfl ?_
      refine x_goto (tgt := 62) d_174_117 rfl ?_
      exact ih w4 v17 _ h
    · replace h := ite_f c16 h
      refine x_iload_n d_174_83 rfl 2 rfl ?_
      refine x_aload_n d_174_84 rfl 0 rfl ?_
      refine y_getR d_174_85 fl_0_32 rfl kd_0 rr_0_4 ?_
      refine y_getR d_174_88 fl_0_141 rfl kd_30 rr_30_5 ?_
      refine x_iload d_174_91 4 rfl ?_
      obtain ⟨g19, h⟩ := gd_inv h
      refine y_iald d_174_93 kd_34 g19 ?_
      refine x_isub d_174_94 ?_
      refine x_aload_n d_174_95 rfl 0 rfl ?_
      refine y_getR d_174_96 fl_0_25 rfl kd_0 rr_told ?_
      refine y_getI d_174_99 fl_0_309 rfl (ksSc g14) ?_
      refine x_icmp_gt (tgt := 114) d_174_102 rfl (fun c20 => ?_) (fun c20 => ?_)
      · replace h := ite_t c20 h
        obtain ⟨v21, e22, h⟩ := lt_inv h
        refine y_iinc (L1 := [(0, .ref 0), (2, .int z2), (3, .int z3), (4, .int w4), (5, .int v21)]) e22 ic_1 d_174_114 4 rfl (Nat.le_of_ble_eq_true rfl) rfl rfl ?_
        refine x_goto (tgt := 62) d_174_117 rfl ?_
        exact ih w4 v21 _ h
      · replace h := ite_f c20 h
        refine x_iload d_174_105 3 rfl ?_
        refine x_iconst d_174_107 ic_1 ?_
        refine x_iload d_174_108 4 rfl ?_
        refine x_ishl d_174_110 ?_
        refine x_ior d_174_111 ?_
        obtain ⟨v23, e24, h⟩ := lt_inv h
        refine y_istore (L1 := [(0, .ref 0), (2, .int z2), (3, .int z3), (4, .int v23), (5, .int w5)]) e24 d_174_112 (Nat.le_of_ble_eq_true rfl) rfl rfl ?_
        obtain ⟨v25, e26, h⟩ := lt_inv h
        refine y_iinc (L1 := [(0, .ref 0), (2, .int z2), (3, .int z3), (4, .int v23), (5, .int v25)]) e26 ic_1 d_174_114 4 rfl (Nat.le_of_ble_eq_true rfl) rfl rfl ?_
        refine x_goto (tgt := 62) d_174_117 rfl ?_
        exact ih v23 v25 _ h
set_option maxRecDepth 100000 in
set_option maxHeartbeats 4000000 in
theorem c_174 {X : Nat × (Nat → Int32)} {D F G : Nat} (hD : 2 ≤ D) {S : St} {p1 : Int32} {res : Int32} (h : fN_openAt F G S p1 = some res) : Ek X (D) m174 0 [(0, .ref 0), (1, .int p1)] [] S (some (.int res)) S := by
  obtain ⟨D, rfl⟩ : ∃ E, D = E + 1 := ⟨D - 1, by omega⟩
  unfold fN_openAt at h
  refine x_aload_n d_174_0 rfl 0 rfl ?_
  refine y_getR d_174_1 fl_0_50 rfl kd_0 rr_0_7 ?_
  refine x_iload_n d_174_4 rfl 1 rfl ?_
  obtain ⟨v2, q1, h⟩ := bd_inv h
  refine y_V1i (v := v2) (S1 := S) d_174_5 ml_0_180 kd_56 rfl (Nat.le_of_ble_eq_true rfl) (Nat.le_of_ble_eq_true rfl) (c_112 (by omega) q1) ?_
  refine x_istore_n (L1 := [(0, .ref 0), (1, .int p1), (2, .int v2)]) d_174_8 rfl (Nat.le_of_ble_eq_true rfl) rfl rfl ?_
  refine x_iconst d_174_9 ic_0 ?_
  refine x_istore_n (L1 := [(0, .ref 0), (1, .int p1), (2, .int v2), (3, .int (0 : Int32))]) d_174_10 rfl (Nat.le_of_ble_eq_true rfl) rfl rfl ?_
  refine x_iconst d_174_11 ic_0 ?_
  refine x_istore (L1 := [(0, .ref 0), (1, .int p1), (2, .int v2), (3, .int (0 : Int32)), (4, .int (0 : Int32))]) d_174_12 (Nat.le_of_ble_eq_true rfl) rfl rfl ?_
  refine y_pick (L1 := [(0, .ref 0), (2, .int v2), (3, .int (0 : Int32)), (4, .int (0 : Int32))]) [0, 2, 3, 4] rfl ?_
  refine T_174_14 (by omega)  ?_ F (0 : Int32) (0 : Int32) _ h
  · intro v13 res h
    refine x_iconst d_174_56 ic_0 ?_
    refine x_istore (L1 := [(0, .ref 0), (2, .int v2), (3, .int v13), (4, .int (0 : Int32))]) d_174_57 (Nat.le_of_ble_eq_true rfl) rfl rfl ?_
    refine x_iconst d_174_59 ic_0 ?_
    refine x_istore (L1 := [(0, .ref 0), (2, .int v2), (3, .int v13), (4, .int (0 : Int32)), (5, .int (0 : Int32))]) d_174_60 (Nat.le_of_ble_eq_true rfl) rfl rfl ?_
    refine T_174_62 (by omega)   F (0 : Int32) (0 : Int32) _ h
/-! NinetyPlayers.open -/
def fN_open (F G : Nat) (S : St) (p1 : Int32) : Option (Int32 × St) :=
  bd (fN_isBeat F G S p1) fun v2 => if v2 = 0 then some ((-1 : Int32), S) else bd (fN_lookAtKeys F G S ) fun S5 => bd (fN_openAt F G S5 p1) fun v7 => some (v7, S5)
set_option maxRecDepth 100000 in
set_option maxHeartbeats 4000000 in
theorem c_173 {X : Nat × (Nat → Int32)} {D F G : Nat} (hD : 3 ≤ D) {S : St} {p1 : Int32} {res : Int32 × St} (h : fN_open F G S p1 = some res) : Ek X (D) m173 0 [(0, .ref 0), (1, .int p1)] [] S (some (.int res.1)) res.2 := by
  obtain ⟨D, rfl⟩ : ∃ E, D = E + 1 := ⟨D - 1, by omega⟩
  unfold fN_open at h
  refine x_aload_n d_173_0 rfl 0 rfl ?_
  refine x_iload_n d_173_1 rfl 1 rfl ?_
  obtain ⟨v2, q1, h⟩ := bd_inv h
  refine y_V1i (v := v2) (S1 := S) d_173_2 ml_0_167 kd_0 rfl (Nat.le_of_ble_eq_true rfl) (Nat.le_of_ble_eq_true rfl) (c_102 (by omega) q1) ?_
  refine x_if_ne (tgt := 10) d_173_5 rfl (fun c3 => ?_) (fun c3 => ?_)
  · replace h := ite_f c3 h
    refine x_aload_n d_173_10 rfl 0 rfl ?_
    obtain ⟨S5, q4, h⟩ := bd_inv h
    refine y_V0v (S1 := S5) d_173_11 ml_0_173 kd_0 rfl (Nat.le_of_ble_eq_true rfl) (Nat.le_of_ble_eq_true rfl) (c_104 (by omega) q4) ?_
    refine x_aload_n d_173_14 rfl 0 rfl ?_
    refine x_iload_n d_173_15 rfl 1 rfl ?_
    obtain ⟨v7, q6, h⟩ := bd_inv h
    refine y_V1i (v := v7) (S1 := S5) d_173_16 ml_0_306 kd_0 rfl (Nat.le_of_ble_eq_true rfl) (Nat.le_of_ble_eq_true rfl) (c_174 (by omega) q6) ?_
    obtain rfl := Option.some.inj h
    exact x_ret (r := some (.int v7)) d_173_19 ⟨_, rfl, rfl⟩
  · replace h := ite_t c3 h
    refine x_iconst d_173_8 ic_m1 ?_
    obtain rfl := Option.some.inj h
    exact x_ret (r := some (.int (-1 : Int32))) d_173_9 ⟨_, rfl, rfl⟩
/-! NinetyPlayers.lost -/
def j_175_48 (F G : Nat) (S : St) (rec : Int32 → Int32 → Option (Int32 × St)) (_ : St) (y1 : Int32) (y2 : Int32) (s0 : Int32) : Option (Int32 × St) :=
  if s0 = 0 then lt (y2 + 1) fun v11 => rec y1 v11 else gd (isSc S.2.2.1) (gd (inB y2 10) (bd (fN_openAt F G S (S.1 (S.2.2.1 + 5) y2.toNatClampNeg)) fun v16 => if ((v16 >>> (y2 &&& 31)) &&& (1 : Int32)) = 0 then lt (y1 ||| ((1 : Int32) <<< (y2 &&& 31))) fun v20 => lt (y2 + 1) fun v22 => rec v20 v22 else lt (y2 + 1) fun v18 => rec y1 v18))
def j_175_47 (F G : Nat) (S : St) (rec : Int32 → Int32 → Option (Int32 × St)) (_ : St) (y1 : Int32) (y2 : Int32) : Option (Int32 × St) :=
  j_175_48 F G S rec  S y1 y2 (0 : Int32)
def b_175_8 (F G : Nat) (S : St) (rec : Int32 → Int32 → Option (Int32 × St)) (w1 : Int32) (w2 : Int32) : Option (Int32 × St) :=
  gd (isSc S.2.2.1) (if (S.1 S.2.2.1 6) ≤ w2 then some (w1, S) else bd (fS_roleOf F G S S.2.2.1 w2) fun v6 => if v6 = (2 : Int32) then gd (inB w2 10) (if (S.1 31 w2.toNatClampNeg) = 0 then j_175_47 F G S rec  S w1 w2 else j_175_48 F G S rec  S w1 w2 (1 : Int32)) else j_175_47 F G S rec  S w1 w2)
def fN_lost (F G : Nat) (S : St) : Option (Int32 × St) :=
  bd (fN_lookAtKeys F G S ) fun S2 => fx2 (b_175_8 F G S2) F (0 : Int32) (0 : Int32)
set_option maxRecDepth 100000 in
set_option maxHeartbeats 4000000 in
theorem T_175_8 {X : Nat × (Nat → Int32)} {D F G : Nat} (hD : 3 ≤ D + 1) {S : St} : ∀ (f : Nat) (w1 : Int32) (w2 : Int32) (res : Int32 × St), fx2 (b_175_8 F G S ) f w1 w2 = some res → Ek X (D + 1) m175 8 [(0, .ref 0), (1, .int w1), (2, .int w2)] [] S (some (.int res.1)) res.2 := by
  refine fx2_ind ?_
  intro rec ih w1 w2 res h
  unfold b_175_8 at h
  have J48 : ∀ (y1 : Int32) (y2 : Int32) (s0 : Int32) (res : Int32 × St), j_175_48 F G S rec S y1 y2 s0 = some res → Ek X (D + 1) m175 48 [(0, .ref 0), (1, .int y1), (2, .int y2)] [.int s0] S (some (.int res.1)) res.2 := by
    intro y1 y2 s0 res h
    unfold j_175_48 at h
    refine x_istore_n (L1 := [(0, .ref 0), (1, .int y1), (2, .int y2), (3, .int s0)]) d_175_48 rfl (Nat.le_of_ble_eq_true rfl) rfl rfl ?_
    refine x_iload_n d_175_49 rfl 3 rfl ?_
    refine x_if_eq (tgt := 79) d_175_50 rfl (fun c10 => ?_) (fun c10 => ?_)
    · replace h := ite_t c10 h
      obtain ⟨v11, e12, h⟩ := lt_inv h
      refine y_iinc (L1 := [(0, .ref 0), (1, .int y1), (2, .int v11), (3, .int s0)]) e12 ic_1 d_175_79 2 rfl (Nat.le_of_ble_eq_true rfl) rfl rfl ?_
      refine x_goto (tgt := 8) d_175_82 rfl ?_
      refine y_pick (L1 := [(0, .ref 0), (1, .int y1), (2, .int v11)]) [0, 1, 2] rfl ?_
      exact ih y1 v11 _ h
    · replace h := ite_f c10 h
      refine x_aload_n d_175_53 rfl 0 rfl ?_
      refine x_aload_n d_175_54 rfl 0 rfl ?_
      refine y_getR d_175_55 fl_0_25 rfl kd_0 rr_told ?_
      obtain ⟨g13, h⟩ := gd_inv h
      refine y_getR d_175_58 fl_0_132 rfl (ksSc g13) (rrSc_11 g13) ?_
      refine x_iload_n d_175_61 rfl 2 rfl ?_
      obtain ⟨g14, h⟩ := gd_inv h
      refine y_iald d_175_62 (ksSc_5 g13) g14 ?_
      obtain ⟨v16, q15, h⟩ := bd_inv h
      refine y_V1i (v := v16) (S1 := S) d_175_63 ml_0_306 kd_0 rfl (Nat.le_of_ble_eq_true rfl) (Nat.le_of_ble_eq_true rfl) (c_174 (by omega) q15) ?_
      refine x_iload_n d_175_66 rfl 2 rfl ?_
      refine x_ishr d_175_67 ?_
      refine x_iconst d_175_68 ic_1 ?_
      refine x_iand d_175_69 ?_
      refine x_if_ne (tgt := 79) d_175_70 rfl (fun c17 => ?_) (fun c17 => ?_)
      · replace h := ite_f c17 h
        obtain ⟨v18, e19, h⟩ := lt_inv h
        refine y_iinc (L1 := [(0, .ref 0), (1, .int y1), (2, .int v18), (3, .int s0)]) e19 ic_1 d_175_79 2 rfl (Nat.le_of_ble_eq_true rfl) rfl rfl ?_
        refine x_goto (tgt := 8) d_175_82 rfl ?_
        refine y_pick (L1 := [(0, .ref 0), (1, .int y1), (2, .int v18)]) [0, 1, 2] rfl ?_
        exact ih y1 v18 _ h
      · replace h := ite_t c17 h
        refine x_iload_n d_175_73 rfl 1 rfl ?_
        refine x_iconst d_175_74 ic_1 ?_
        refine x_iload_n d_175_75 rfl 2 rfl ?_
        refine x_ishl d_175_76 ?_
        refine x_ior d_175_77 ?_
        obtain ⟨v20, e21, h⟩ := lt_inv h
        refine y_istore_n (L1 := [(0, .ref 0), (1, .int v20), (2, .int y2), (3, .int s0)]) e21 d_175_78 rfl (Nat.le_of_ble_eq_true rfl) rfl rfl ?_
        obtain ⟨v22, e23, h⟩ := lt_inv h
        refine y_iinc (L1 := [(0, .ref 0), (1, .int v20), (2, .int v22), (3, .int s0)]) e23 ic_1 d_175_79 2 rfl (Nat.le_of_ble_eq_true rfl) rfl rfl ?_
        refine x_goto (tgt := 8) d_175_82 rfl ?_
        refine y_pick (L1 := [(0, .ref 0), (1, .int v20), (2, .int v22)]) [0, 1, 2] rfl ?_
        exact ih v20 v22 _ h
  have J47 : ∀ (y1 : Int32) (y2 : Int32) (res : Int32 × St), j_175_47 F G S rec S y1 y2 = some res → Ek X (D + 1) m175 47 [(0, .ref 0), (1, .int y1), (2, .int y2)] [] S (some (.int res.1)) res.2 := by
    intro y1 y2 res h
    unfold j_175_47 at h
    refine x_iconst d_175_47 ic_0 ?_
    exact J48 y1 y2 (0 : Int32) _ h
  refine x_iload_n d_175_8 rfl 2 rfl ?_
  refine x_aload_n d_175_9 rfl 0 rfl ?_
  refine y_getR d_175_10 fl_0_25 rfl kd_0 rr_told ?_
  obtain ⟨g3, h⟩ := gd_inv h
  refine y_getI d_175_13 fl_0_117 rfl (ksSc g3) ?_
  refine x_icmp_ge (tgt := 85) d_175_16 rfl (fun c4 => ?_) (fun c4 => ?_)
  · replace h := ite_t c4 h
    refine x_iload_n d_175_85 rfl 1 rfl ?_
    obtain rfl := Option.some.inj h
    exact x_ret (r := some (.int w1)) d_175_86 ⟨_, rfl, rfl⟩
  · replace h := ite_f c4 h
    refine x_aload_n d_175_19 rfl 0 rfl ?_
    refine y_getR d_175_20 fl_0_25 rfl kd_0 rr_told ?_
    refine x_iload_n d_175_23 rfl 2 rfl ?_
    obtain ⟨v6, q5, h⟩ := bd_inv h
    refine y_V1i (v := v6) (S1 := S) d_175_24 ml_0_203 (ksSc g3) rfl (Nat.le_of_ble_eq_true rfl) (Nat.le_of_ble_eq_true rfl) (c_89 (by omega) q5) ?_
    refine x_iconst d_175_27 ic_2 ?_
    refine x_icmp_ne (tgt := 47) d_175_28 rfl (fun c7 => ?_) (fun c7 => ?_)
    · replace h := ite_f c7 h
      exact J47 w1 w2 _ h
    · replace h := ite_t c7 h
      refine x_aload_n d_175_31 rfl 0 rfl ?_
      refine y_getR d_175_32 fl_0_32 rfl kd_0 rr_0_4 ?_
      refine y_getR d_175_35 fl_0_144 rfl kd_30 rr_30_2 ?_
      refine x_iload_n d_175_38 rfl 2 rfl ?_
      obtain ⟨g8, h⟩ := gd_inv h
      refine y_iald d_175_39 kd_31 g8 ?_
      refine x_if_eq (tgt := 47) d_175_40 rfl (fun c9 => ?_) (fun c9 => ?_)
      · replace h := ite_t c9 h
        exact J47 w1 w2 _ h
      · replace h := ite_f c9 h
        refine x_iconst d_175_43 ic_1 ?_
        refine x_goto (tgt := 48) d_175_44 rfl ?_
        exact J48 w1 w2 (1 : Int32) _ h
set_option maxRecDepth 100000 in
set_option maxHeartbeats 4000000 in
theorem c_175 {X : Nat × (Nat → Int32)} {D F G : Nat} (hD : 3 ≤ D) {S : St} {res : Int32 × St} (h : fN_lost F G S  = some res) : Ek X (D) m175 0 [(0, .ref 0)] [] S (some (.int res.1)) res.2 := by
  obtain ⟨D, rfl⟩ : ∃ E, D = E + 1 := ⟨D - 1, by omega⟩
  unfold fN_lost at h
  refine x_aload_n d_175_0 rfl 0 rfl ?_
  obtain ⟨S2, q1, h⟩ := bd_inv h
  refine y_V0v (S1 := S2) d_175_1 ml_0_173 kd_0 rfl (Nat.le_of_ble_eq_true rfl) (Nat.le_of_ble_eq_true rfl) (c_104 (by omega) q1) ?_
  refine x_iconst d_175_4 ic_0 ?_
  refine x_istore_n (L1 := [(0, .ref 0), (1, .int (0 : Int32))]) d_175_5 rfl (Nat.le_of_ble_eq_true rfl) rfl rfl ?_
  refine x_iconst d_175_6 ic_0 ?_
  refine x_istore_n (L1 := [(0, .ref 0), (1, .int (0 : Int32)), (2, .int (0 : Int32))]) d_175_7 rfl (Nat.le_of_ble_eq_true rfl) rfl rfl ?_
  refine T_175_8 (by omega)   F (0 : Int32) (0 : Int32) _ h
/-! NinetyPlayers.gaps -/
def b_176_8 (F G : Nat) (S : St) (k43 : Int32 → Option (Int32 × St)) (rec : Int32 → Int32 → Option (Int32 × St)) (w1 : Int32) (w2 : Int32) : Option (Int32 × St) :=
  gd (isSc S.2.2.1) (if (S.1 S.2.2.1 6) ≤ w2 then k43 w1 else bd (fS_roleOf F G S S.2.2.1 w2) fun v6 => if v6 = (2 : Int32) then lt (w1 ||| ((1 : Int32) <<< (w2 &&& 31))) fun v10 => lt (w2 + 1) fun v12 => rec v10 v12 else lt (w2 + 1) fun v8 => rec w1 v8)
def b_176_47 (F G : Nat) (S : St) (z1 : Int32) (rec : Int32 → Int32 → Option (Int32 × St)) (w2 : Int32) (w3 : Int32) : Option (Int32 × St) :=
  gd (isSc S.2.2.1) (if (S.1 S.2.2.1 0) ≤ w3 then some (w2, S) else bd (fK_soundingAt F G S w3) fun v18 => if (v18 &&& z1) = 0 then lt (w2 ||| ((1 : Int32) <<< (w3 &&& 31))) fun v22 => lt (w3 + 1) fun v24 => rec v22 v24 else lt (w3 + 1) fun v20 => rec w2 v20)
def fN_gaps (F G : Nat) (S : St) : Option (Int32 × St) :=
  bd (fN_lookAtKeys F G S ) fun S2 => fx2 (b_176_8 F G S2 (fun v14 => fx2 (b_176_47 F G S2 v14) F (0 : Int32) (0 : Int32))) F (0 : Int32) (0 : Int32)
set_option maxRecDepth 100000 in
set_option maxHeartbeats 4000000 in
theorem T_176_8 {X : Nat × (Nat → Int32)} {D F G : Nat} (hD : 3 ≤ D + 1) {S : St} {k43 : Int32 → Option (Int32 × St)} (hk43 : ∀ (u1 : Int32) (res : Int32 × St), k43 u1 = some res → Ek X (D + 1) m176 43 [(0, .ref 0), (1, .int u1)] [] S (some (.int res.1)) res.2) : ∀ (f : Nat) (w1 : Int32) (w2 : Int32) (res : Int32 × St), fx2 (b_176_8 F G S k43 ) f w1 w2 = some res → Ek X (D + 1) m176 8 [(0, .ref 0), (1, .int w1), (2, .int w2)] [] S (some (.int res.1)) res.2 := by
  refine fx2_ind ?_
  intro rec ih w1 w2 res h
  unfold b_176_8 at h
  refine x_iload_n d_176_8 rfl 2 rfl ?_
  refine x_aload_n d_176_9 rfl 0 rfl ?_
  refine y_getR d_176_10 fl_0_25 rfl kd_0 rr_told ?_
  obtain ⟨g3, h⟩ := gd_inv h
  refine y_getI d_176_13 fl_0_117 rfl (ksSc g3) ?_
  refine x_icmp_ge (tgt := 43) d_176_16 rfl (fun c4 => ?_) (fun c4 => ?_)
  · replace h := ite_t c4 h
    refine y_pick (L1 := [(0, .ref 0), (1, .int w1)]) [0, 1] rfl ?_
    exact hk43 w1 _ h
  · replace h := ite_f c4 h
    refine x_aload_n d_176_19 rfl 0 rfl ?_
    refine y_getR d_176_20 fl_0_25 rfl kd_0 rr_told ?_
    refine x_iload_n d_176_23 rfl 2 rfl ?_
    obtain ⟨v6, q5, h⟩ := bd_inv h
    refine y_V1i (v := v6) (S1 := S) d_176_24 ml_0_203 (ksSc g3) rfl (Nat.le_of_ble_eq_true rfl) (Nat.le_of_ble_eq_true rfl) (c_89 (by omega) q5) ?_
    refine x_iconst d_176_27 ic_2 ?_
    refine x_icmp_ne (tgt := 37) d_176_28 rfl (fun c7 => ?_) (fun c7 => ?_)
    · replace h := ite_f c7 h
      obtain ⟨v8, e9, h⟩ := lt_inv h
      refine y_iinc (L1 := [(0, .ref 0), (1, .int w1), (2, .int v8)]) e9 ic_1 d_176_37 2 rfl (Nat.le_of_ble_eq_true rfl) rfl rfl ?_
      refine x_goto (tgt := 8) d_176_40 rfl ?_
      exact ih w1 v8 _ h
    · replace h := ite_t c7 h
      refine x_iload_n d_176_31 rfl 1 rfl ?_
      refine x_iconst d_176_32 ic_1 ?_
      refine x_iload_n d_176_33 rfl 2 rfl ?_
      refine x_ishl d_176_34 ?_
      refine x_ior d_176_35 ?_
      obtain ⟨v10, e11, h⟩ := lt_inv h
      refine y_istore_n (L1 := [(0, .ref 0), (1, .int v10), (2, .int w2)]) e11 d_176_36 rfl (Nat.le_of_ble_eq_true rfl) rfl rfl ?_
      obtain ⟨v12, e13, h⟩ := lt_inv h
      refine y_iinc (L1 := [(0, .ref 0), (1, .int v10), (2, .int v12)]) e13 ic_1 d_176_37 2 rfl (Nat.le_of_ble_eq_true rfl) rfl rfl ?_
      refine x_goto (tgt := 8) d_176_40 rfl ?_
      exact ih v10 v12 _ h
set_option maxRecDepth 100000 in
set_option maxHeartbeats 4000000 in
theorem T_176_47 {X : Nat × (Nat → Int32)} {D F G : Nat} (hD : 3 ≤ D + 1) {S : St} {z1 : Int32} : ∀ (f : Nat) (w2 : Int32) (w3 : Int32) (res : Int32 × St), fx2 (b_176_47 F G S z1 ) f w2 w3 = some res → Ek X (D + 1) m176 47 [(0, .ref 0), (1, .int z1), (2, .int w2), (3, .int w3)] [] S (some (.int res.1)) res.2 := by
  refine fx2_ind ?_
  intro rec ih w2 w3 res h
  unfold b_176_47 at h
  refine x_iload_n d_176_47 rfl 3 rfl ?_
  refine x_aload_n d_176_48 rfl 0 rfl ?_
  refine y_getR d_176_49 fl_0_25 rfl kd_0 rr_told ?_
  obtain ⟨g15, h⟩ := gd_inv h
  refine y_getI d_176_52 fl_0_193 rfl (ksSc g15) ?_
  refine x_icmp_ge (tgt := 83) d_176_55 rfl (fun c16 => ?_) (fun c16 => ?_)
  · replace h := ite_t c16 h
    refine x_iload_n d_176_83 rfl 2 rfl ?_
    obtain rfl := Option.some.inj h
    exact x_ret (r := some (.int w2)) d_176_84 ⟨_, rfl, rfl⟩
  · replace h := ite_f c16 h
    refine x_aload_n d_176_58 rfl 0 rfl ?_
    refine y_getR d_176_59 fl_0_50 rfl kd_0 rr_0_7 ?_
    refine x_iload_n d_176_62 rfl 3 rfl ?_
    obtain ⟨v18, q17, h⟩ := bd_inv h
    refine y_V1i (v := v18) (S1 := S) d_176_63 ml_0_180 kd_56 rfl (Nat.le_of_ble_eq_true rfl) (Nat.le_of_ble_eq_true rfl) (c_112 (by omega) q17) ?_
    refine x_iload_n d_176_66 rfl 1 rfl ?_
    refine x_iand d_176_67 ?_
    refine x_if_ne (tgt := 77) d_176_68 rfl (fun c19 => ?_) (fun c19 => ?_)
    · replace h := ite_f c19 h
      obtain ⟨v20, e21, h⟩ := lt_inv h
      refine y_iinc (L1 := [(0, .ref 0), (1, .int z1), (2, .int w2), (3, .int v20)]) e21 ic_1 d_176_77 3 rfl (Nat.le_of_ble_eq_true rfl) rfl rfl ?_
      refine x_goto (tgt := 47) d_176_80 rfl ?_
      exact ih w2 v20 _ h
    · replace h := ite_t c19 h
      refine x_iload_n d_176_71 rfl 2 rfl ?_
      refine x_iconst d_176_72 ic_1 ?_
      refine x_iload_n d_176_73 rfl 3 rfl ?_
      refine x_ishl d_176_74 ?_
      refine x_ior d_176_75 ?_
      obtain ⟨v22, e23, h⟩ := lt_inv h
      refine y_istore_n (L1 := [(0, .ref 0), (1, .int z1), (2, .int v22), (3, .int w3)]) e23 d_176_76 rfl (Nat.le_of_ble_eq_true rfl) rfl rfl ?_
      obtain ⟨v24, e25, h⟩ := lt_inv h
      refine y_iinc (L1 := [(0, .ref 0), (1, .int z1), (2, .int v22), (3, .int v24)]) e25 ic_1 d_176_77 3 rfl (Nat.le_of_ble_eq_true rfl) rfl rfl ?_
      refine x_goto (tgt := 47) d_176_80 rfl ?_
      exact ih v22 v24 _ h
set_option maxRecDepth 100000 in
set_option maxHeartbeats 4000000 in
theorem c_176 {X : Nat × (Nat → Int32)} {D F G : Nat} (hD : 3 ≤ D) {S : St} {res : Int32 × St} (h : fN_gaps F G S  = some res) : Ek X (D) m176 0 [(0, .ref 0)] [] S (some (.int res.1)) res.2 := by
  obtain ⟨D, rfl⟩ : ∃ E, D = E + 1 := ⟨D - 1, by omega⟩
  unfold fN_gaps at h
  refine x_aload_n d_176_0 rfl 0 rfl ?_
  obtain ⟨S2, q1, h⟩ := bd_inv h
  refine y_V0v (S1 := S2) d_176_1 ml_0_173 kd_0 rfl (Nat.le_of_ble_eq_true rfl) (Nat.le_of_ble_eq_true rfl) (c_104 (by omega) q1) ?_
  refine x_iconst d_176_4 ic_0 ?_
  refine x_istore_n (L1 := [(0, .ref 0), (1, .int (0 : Int32))]) d_176_5 rfl (Nat.le_of_ble_eq_true rfl) rfl rfl ?_
  refine x_iconst d_176_6 ic_0 ?_
  refine x_istore_n (L1 := [(0, .ref 0), (1, .int (0 : Int32)), (2, .int (0 : Int32))]) d_176_7 rfl (Nat.le_of_ble_eq_true rfl) rfl rfl ?_
  refine T_176_8 (by omega)  ?_ F (0 : Int32) (0 : Int32) _ h
  · intro v14 res h
    refine x_iconst d_176_43 ic_0 ?_
    refine x_istore_n (L1 := [(0, .ref 0), (1, .int v14), (2, .int (0 : Int32))]) d_176_44 rfl (Nat.le_of_ble_eq_true rfl) rfl rfl ?_
    refine x_iconst d_176_45 ic_0 ?_
    refine x_istore_n (L1 := [(0, .ref 0), (1, .int v14), (2, .int (0 : Int32)), (3, .int (0 : Int32))]) d_176_46 rfl (Nat.le_of_ble_eq_true rfl) rfl rfl ?_
    refine T_176_47 (by omega)   F (0 : Int32) (0 : Int32) _ h
/-! NinetyPlayers.easier -/
def fN_easier (F G : Nat) (S : St) (p1 : Int32) : Option (Int32 × St) :=
  bd (fN_isNote F G S p1) fun v2 => if v2 = 0 then some ((-1 : Int32), S) else gd (inB p1 10) (if (S.1 31 p1.toNatClampNeg) = 0 then some ((-1 : Int32), S) else bd (fN_lookAtKeys F G S ) fun S7 => lt (((1 : Int32) <<< (p1 &&& 31)) ^^^ (-1 : Int32)) fun v8 => bd (fK_clashingBeats F G S7 (S7.1 56 5) (S7.1 56 6)) fun v11 => bd (fK_clashingBeats F G S7 ((S7.1 56 5) &&& v8) ((S7.1 56 6) &&& v8)) fun v13 => bd (fJ_bitCount F G S7 v11) fun v15 => bd (fJ_bitCount F G S7 v13) fun v17 => some (v15 - v17, S7))
set_option maxRecDepth 100000 in
set_option maxHeartbeats 4000000 in
theorem c_177 {X : Nat × (Nat → Int32)} {D F G : Nat} (hD : 5 ≤ D) {S : St} {p1 : Int32} {res : Int32 × St} (h : fN_easier F G S p1 = some res) : Ek X (D) m177 0 [(0, .ref 0), (1, .int p1)] [] S (some (.int res.1)) res.2 := by
  obtain ⟨D, rfl⟩ : ∃ E, D = E + 1 := ⟨D - 1, by omega⟩
  unfold fN_easier at h
  refine x_aload_n d_177_0 rfl 0 rfl ?_
  refine x_iload_n d_177_1 rfl 1 rfl ?_
  obtain ⟨v2, q1, h⟩ := bd_inv h
  refine y_V1i (v := v2) (S1 := S) d_177_2 ml_0_126 kd_0 rfl (Nat.le_of_ble_eq_true rfl) (Nat.le_of_ble_eq_true rfl) (c_87 (by omega) q1) ?_
  refine x_if_eq (tgt := 20) d_177_5 rfl (fun c3 => ?_) (fun c3 => ?_)
  · replace h := ite_t c3 h
    refine x_iconst d_177_20 ic_m1 ?_
    obtain rfl := Option.some.inj h
    exact x_ret (r := some (.int (-1 : Int32))) d_177_21 ⟨_, rfl, rfl⟩
  · replace h := ite_f c3 h
    refine x_aload_n d_177_8 rfl 0 rfl ?_
    refine y_getR d_177_9 fl_0_32 rfl kd_0 rr_0_4 ?_
    refine y_getR d_177_12 fl_0_144 rfl kd_30 rr_30_2 ?_
    refine x_iload_n d_177_15 rfl 1 rfl ?_
    obtain ⟨g4, h⟩ := gd_inv h
    refine y_iald d_177_16 kd_31 g4 ?_
    refine x_if_ne (tgt := 22) d_177_17 rfl (fun c5 => ?_) (fun c5 => ?_)
    · replace h := ite_f c5 h
      refine x_aload_n d_177_22 rfl 0 rfl ?_
      obtain ⟨S7, q6, h⟩ := bd_inv h
      refine y_V0v (S1 := S7) d_177_23 ml_0_173 kd_0 rfl (Nat.le_of_ble_eq_true rfl) (Nat.le_of_ble_eq_true rfl) (c_104 (by omega) q6) ?_
      refine x_iconst d_177_26 ic_1 ?_
      refine x_iload_n d_177_27 rfl 1 rfl ?_
      refine x_ishl d_177_28 ?_
      refine x_iconst d_177_29 ic_m1 ?_
      refine x_ixor d_177_30 ?_
      obtain ⟨v8, e9, h⟩ := lt_inv h
      refine y_istore_n (L1 := [(0, .ref 0), (1, .int p1), (2, .int v8)]) e9 d_177_31 rfl (Nat.le_of_ble_eq_true rfl) rfl rfl ?_
      refine x_aload_n d_177_32 rfl 0 rfl ?_
      refine y_getR d_177_33 fl_0_50 rfl kd_0 rr_0_7 ?_
      refine x_aload_n d_177_36 rfl 0 rfl ?_
      refine y_getR d_177_37 fl_0_50 rfl kd_0 rr_0_7 ?_
      refine y_getI d_177_40 fl_0_183 rfl kd_56 ?_
      refine x_aload_n d_177_43 rfl 0 rfl ?_
      refine y_getR d_177_44 fl_0_50 rfl kd_0 rr_0_7 ?_
      refine y_getI d_177_47 fl_0_186 rfl kd_56 ?_
      obtain ⟨v11, q10, h⟩ := bd_inv h
      refine y_V2i (v := v11) (S1 := S7) d_177_50 ml_0_253 kd_56 rfl (Nat.le_of_ble_eq_true rfl) (Nat.le_of_ble_eq_true rfl) (c_128 (by omega) q10) ?_
      refine x_istore_n (L1 := [(0, .ref 0), (1, .int p1), (2, .int v8), (3, .int v11)]) d_177_53 rfl (Nat.le_of_ble_eq_true rfl) rfl rfl ?_
      refine x_aload_n d_177_54 rfl 0 rfl ?_
      refine y_getR d_177_55 fl_0_50 rfl kd_0 rr_0_7 ?_
      refine x_aload_n d_177_58 rfl 0 rfl ?_
      refine y_getR d_177_59 fl_0_50 rfl kd_0 rr_0_7 ?_
      refine y_getI d_177_62 fl_0_183 rfl kd_56 ?_
      refine x_iload_n d_177_65 rfl 2 rfl ?_
      refine x_iand d_177_66 ?_
      refine x_aload_n d_177_67 rfl 0 rfl ?_
      refine y_getR d_177_68 fl_0_50 rfl kd_0 rr_0_7 ?_
      refine y_getI d_177_71 fl_0_186 rfl kd_56 ?_
      refine x_iload_n d_177_74 rfl 2 rfl ?_
      refine x_iand d_177_75 ?_
      obtain ⟨v13, q12, h⟩ := bd_inv h
      refine y_V2i (v := v13) (S1 := S7) d_177_76 ml_0_253 kd_56 rfl (Nat.le_of_ble_eq_true rfl) (Nat.le_of_ble_eq_true rfl) (c_128 (by omega) q12) ?_
      refine x_istore (L1 := [(0, .ref 0), (1, .int p1), (2, .int v8), (3, .int v11), (4, .int v13)]) d_177_79 (Nat.le_of_ble_eq_true rfl) rfl rfl ?_
      refine x_iload_n d_177_81 rfl 3 rfl ?_
      obtain ⟨v15, q14, h⟩ := bd_inv h
      refine y_S1i (v := v15) (S1 := S7) d_177_82 ml_0_206 (Nat.le_of_ble_eq_true rfl) (Nat.le_of_ble_eq_true rfl) (c_91 (by omega) q14) ?_
      refine x_iload d_177_85 4 rfl ?_
      obtain ⟨v17, q16, h⟩ := bd_inv h
      refine y_S1i (v := v17) (S1 := S7) d_177_87 ml_0_206 (Nat.le_of_ble_eq_true rfl) (Nat.le_of_ble_eq_true rfl) (c_91 (by omega) q16) ?_
      refine x_isub d_177_90 ?_
      obtain rfl := Option.some.inj h
      exact x_ret (r := some (.int (v15 - v17))) d_177_91 ⟨_, rfl, rfl⟩
    · replace h := ite_t c5 h
      refine x_iconst d_177_20 ic_m1 ?_
      obtain rfl := Option.some.inj h
      exact x_ret (r := some (.int (-1 : Int32))) d_177_21 ⟨_, rfl, rfl⟩
/-! NinetyPlayers$Keyboard.fullestBeat -/
def b_179_7 (F G : Nat) (S : St) (z1 : Int32) (rec : Int32 → Int32 → Int32 → Option (Int32)) (w2 : Int32) (w3 : Int32) (w4 : Int32) : Option (Int32) :=
  if (S.1 56 0) ≤ w4 then some w2 else bd (fK_timelyAt F G S w4) fun v3 => bd (fJ_bitCount F G S (z1 &&& v3)) fun v5 => if v5 ≤ w3 then lt (w4 + 1) fun v7 => rec w2 w3 v7 else lt (w4 + 1) fun v9 => rec w4 v5 v9
def fK_fullestBeat (F G : Nat) (S : St) (p1 : Int32) : Option (Int32) :=
  fx3 (b_179_7 F G S p1) F (0 : Int32) (0 : Int32) (0 : Int32)
set_option maxRecDepth 100000 in
set_option maxHeartbeats 4000000 in
theorem T_179_7 {X : Nat × (Nat → Int32)} {D F G : Nat} (hD : 1 ≤ D + 1) {S : St} {z1 : Int32} : ∀ (f : Nat) (w2 : Int32) (w3 : Int32) (w4 : Int32) (res : Int32), fx3 (b_179_7 F G S z1 ) f w2 w3 w4 = some res → Ek X (D + 1) m179 7 [(0, .ref 56), (1, .int z1), (2, .int w2), (3, .int w3), (4, .int w4)] [] S (some (.int res)) S := by
  refine fx3_ind ?_
  intro rec ih w2 w3 w4 res h
  unfold b_179_7 at h
  refine x_iload d_179_7 4 rfl ?_
  refine x_aload_n d_179_9 rfl 0 rfl ?_
  refine y_getI d_179_10 fl_7_30 rfl kd_56 ?_
  refine x_icmp_ge (tgt := 47) d_179_13 rfl (fun c1 => ?_) (fun c1 => ?_)
  · replace h := ite_t c1 h
    refine x_iload_n d_179_47 rfl 2 rfl ?_
    obtain rfl := Option.some.inj h
    exact x_ret (r := some (.int w2)) d_179_48 ⟨_, rfl, rfl⟩
  · replace h := ite_f c1 h
    refine x_iload_n d_179_16 rfl 1 rfl ?_
    refine x_aload_n d_179_17 rfl 0 rfl ?_
    refine x_iload d_179_18 4 rfl ?_
    obtain ⟨v3, q2, h⟩ := bd_inv h
    refine y_V1i (v := v3) (S1 := S) d_179_20 ml_7_75 kd_56 rfl (Nat.le_of_ble_eq_true rfl) (Nat.le_of_ble_eq_true rfl) (c_110 (by omega) q2) ?_
    refine x_iand d_179_23 ?_
    obtain ⟨v5, q4, h⟩ := bd_inv h
    refine y_S1i (v := v5) (S1 := S) d_179_24 ml_7_89 (Nat.le_of_ble_eq_true rfl) (Nat.le_of_ble_eq_true rfl) (c_91 (by omega) q4) ?_
    refine x_istore (L1 := [(0, .ref 56), (1, .int z1), (2, .int w2), (3, .int w3), (4, .int w4), (5, .int v5)]) d_179_27 (Nat.le_of_ble_eq_true rfl) rfl rfl ?_
    refine x_iload d_179_29 5 rfl ?_
    refine x_iload_n d_179_31 rfl 3 rfl ?_
    refine x_icmp_le (tgt := 41) d_179_32 rfl (fun c6 => ?_) (fun c6 => ?_)
    · replace h := ite_t c6 h
      obtain ⟨v7, e8, h⟩ := lt_inv h
      refine y_iinc (L1 := [(0, .ref 56), (1, .int z1), (2, .int w2), (3, .int w3), (4, .int v7), (5, .int v5)]) e8 ic_1 d_179_41 4 rfl (Nat.le_of_ble_eq_true rfl) rfl rfl ?_
      refine x_goto (tgt := 7) d_179_44 rfl ?_
      refine y_pick (L1 := [(0, .ref 56), (1, .int z1), (2, .int w2), (3, .int w3), (4, .int v7)]) [0, 1, 2, 3, 4] rfl ?_
      exact ih w2 w3 v7 _ h
    · replace h := ite_f c6 h
      refine x_iload d_179_35 5 rfl ?_
      refine x_istore_n (L1 := [(0, .ref 56), (1, .int z1), (2, .int w2), (3, .int v5), (4, .int w4), (5, .int v5)]) d_179_37 rfl (Nat.le_of_ble_eq_true rfl) rfl rfl ?_
      refine x_iload d_179_38 4 rfl ?_
      refine x_istore_n (L1 := [(0, .ref 56), (1, .int z1), (2, .int w4), (3, .int v5), (4, .int w4), (5, .int v5)]) d_179_40 rfl (Nat.le_of_ble_eq_true rfl) rfl rfl ?_
      obtain ⟨v9, e10, h⟩ := lt_inv h
      refine y_iinc (L1 := [(0, .ref 56), (1, .int z1), (2, .int w4), (3, .int v5), (4, .int v9), (5, .int v5)]) e10 ic_1 d_179_41 4 rfl (Nat.le_of_ble_eq_true rfl) rfl rfl ?_
      refine x_goto (tgt := 7) d_179_44 rfl ?_
      refine y_pick (L1 := [(0, .ref 56), (1, .int z1), (2, .int w4), (3, .int v5), (4, .int v9)]) [0, 1, 2, 3, 4] rfl ?_
      exact ih w4 v5 v9 _ h
set_option maxRecDepth 100000 in
set_option maxHeartbeats 4000000 in
theorem c_179 {X : Nat × (Nat → Int32)} {D F G : Nat} (hD : 1 ≤ D) {S : St} {p1 : Int32} {res : Int32} (h : fK_fullestBeat F G S p1 = some res) : Ek X (D) m179 0 [(0, .ref 56), (1, .int p1)] [] S (some (.int res)) S := by
  obtain ⟨D, rfl⟩ : ∃ E, D = E + 1 := ⟨D - 1, by omega⟩
  unfold fK_fullestBeat at h
  refine x_iconst d_179_0 ic_0 ?_
  refine x_istore_n (L1 := [(0, .ref 56), (1, .int p1), (2, .int (0 : Int32))]) d_179_1 rfl (Nat.le_of_ble_eq_true rfl) rfl rfl ?_
  refine x_iconst d_179_2 ic_0 ?_
  refine x_istore_n (L1 := [(0, .ref 56), (1, .int p1), (2, .int (0 : Int32)), (3, .int (0 : Int32))]) d_179_3 rfl (Nat.le_of_ble_eq_true rfl) rfl rfl ?_
  refine x_iconst d_179_4 ic_0 ?_
  refine x_istore (L1 := [(0, .ref 56), (1, .int p1), (2, .int (0 : Int32)), (3, .int (0 : Int32)), (4, .int (0 : Int32))]) d_179_5 (Nat.le_of_ble_eq_true rfl) rfl rfl ?_
  refine T_179_7 (by omega)   F (0 : Int32) (0 : Int32) (0 : Int32) _ h
/-! NinetyPlayers.thickest -/
def fN_thickest (F G : Nat) (S : St) : Option (Int32 × St) :=
  bd (fN_lookAtKeys F G S ) fun S2 => bd (fK_fullestBeat F G S2 ((S2.1 56 5) ||| (S2.1 56 6))) fun v4 => some (v4, S2)
set_option maxRecDepth 100000 in
set_option maxHeartbeats 4000000 in
theorem c_178 {X : Nat × (Nat → Int32)} {D F G : Nat} (hD : 3 ≤ D) {S : St} {res : Int32 × St} (h : fN_thickest F G S  = some res) : Ek X (D) m178 0 [(0, .ref 0)] [] S (some (.int res.1)) res.2 := by
  obtain ⟨D, rfl⟩ : ∃ E, D = E + 1 := ⟨D - 1, by omega⟩
  unfold fN_thickest at h
  refine x_aload_n d_178_0 rfl 0 rfl ?_
  obtain ⟨S2, q1, h⟩ := bd_inv h
  refine y_V0v (S1 := S2) d_178_1 ml_0_173 kd_0 rfl (Nat.le_of_ble_eq_true rfl) (Nat.le_of_ble_eq_true rfl) (c_104 (by omega) q1) ?_
  refine x_aload_n d_178_4 rfl 0 rfl ?_
  refine y_getR d_178_5 fl_0_50 rfl kd_0 rr_0_7 ?_
  refine x_aload_n d_178_8 rfl 0 rfl ?_
  refine y_getR d_178_9 fl_0_50 rfl kd_0 rr_0_7 ?_
  refine y_getI d_178_12 fl_0_183 rfl kd_56 ?_
  refine x_aload_n d_178_15 rfl 0 rfl ?_
  refine y_getR d_178_16 fl_0_50 rfl kd_0 rr_0_7 ?_
  refine y_getI d_178_19 fl_0_186 rfl kd_56 ?_
  refine x_ior d_178_22 ?_
  obtain ⟨v4, q3, h⟩ := bd_inv h
  refine y_V1i (v := v4) (S1 := S2) d_178_23 ml_0_312 kd_56 rfl (Nat.le_of_ble_eq_true rfl) (Nat.le_of_ble_eq_true rfl) (c_179 (by omega) q3) ?_
  obtain rfl := Option.some.inj h
  exact x_ret (r := some (.int v4)) d_178_26 ⟨_, rfl, rfl⟩
/-! NinetyPlayers.busiest -/
def fN_busiest (F G : Nat) (S : St) (p1 : Int32) : Option (Int32 × St) :=
  bd (fN_isHand F G S p1) fun v2 => if v2 = 0 then some ((-1 : Int32), S) else bd (fN_lookAtKeys F G S ) fun S5 => bd (fK_setOf F G S5 p1) fun v7 => bd (fK_fullestBeat F G S5 v7) fun v9 => some (v9, S5)
set_option maxRecDepth 100000 in
set_option maxHeartbeats 4000000 in
theorem c_180 {X : Nat × (Nat → Int32)} {D F G : Nat} (hD : 3 ≤ D) {S : St} {p1 : Int32} {res : Int32 × St} (h : fN_busiest F G S p1 = some res) : Ek X (D) m180 0 [(0, .ref 0), (1, .int p1)] [] S (some (.int res.1)) res.2 := by
  obtain ⟨D, rfl⟩ : ∃ E, D = E + 1 := ⟨D - 1, by omega⟩
  unfold fN_busiest at h
  refine x_iload_n d_180_0 rfl 1 rfl ?_
  obtain ⟨v2, q1, h⟩ := bd_inv h
  refine y_S1i (v := v2) (S1 := S) d_180_1 ml_0_170 (Nat.le_of_ble_eq_true rfl) (Nat.le_of_ble_eq_true rfl) (c_103 (by omega) q1) ?_
  refine x_if_ne (tgt := 9) d_180_4 rfl (fun c3 => ?_) (fun c3 => ?_)
  · replace h := ite_f c3 h
    refine x_aload_n d_180_9 rfl 0 rfl ?_
    obtain ⟨S5, q4, h⟩ := bd_inv h
    refine y_V0v (S1 := S5) d_180_10 ml_0_173 kd_0 rfl (Nat.le_of_ble_eq_true rfl) (Nat.le_of_ble_eq_true rfl) (c_104 (by omega) q4) ?_
    refine x_aload_n d_180_13 rfl 0 rfl ?_
    refine y_getR d_180_14 fl_0_50 rfl kd_0 rr_0_7 ?_
    refine x_aload_n d_180_17 rfl 0 rfl ?_
    refine y_getR d_180_18 fl_0_50 rfl kd_0 rr_0_7 ?_
    refine x_iload_n d_180_21 rfl 1 rfl ?_
    obtain ⟨v7, q6, h⟩ := bd_inv h
    refine y_V1i (v := v7) (S1 := S5) d_180_22 ml_0_315 kd_56 rfl (Nat.le_of_ble_eq_true rfl) (Nat.le_of_ble_eq_true rfl) (c_109 (by omega) q6) ?_
    obtain ⟨v9, q8, h⟩ := bd_inv h
    refine y_V1i (v := v9) (S1 := S5) d_180_25 ml_0_312 kd_56 rfl (Nat.le_of_ble_eq_true rfl) (Nat.le_of_ble_eq_true rfl) (c_179 (by omega) q8) ?_
    obtain rfl := Option.some.inj h
    exact x_ret (r := some (.int v9)) d_180_28 ⟨_, rfl, rfl⟩
  · replace h := ite_t c3 h
    refine x_iconst d_180_7 ic_m1 ?_
    obtain rfl := Option.some.inj h
    exact x_ret (r := some (.int (-1 : Int32))) d_180_8 ⟨_, rfl, rfl⟩
/-! NinetyPlayers.law -/
def fN_law (F G : Nat) (S : St) (p1 : Int32) : Option (Int32 × St) :=
  bd (fN_isKey F G S p1) fun v2 => if v2 = 0 then some ((-1 : Int32), S) else bd (fN_lookAtKeys F G S ) fun S5 => lt (sI S5 56 2 p1) fun S6 => bd (fK_clashingBeats F G S6 (S6.1 56 5) (S6.1 56 6)) fun v9 => bd (fJ_bitCount F G S6 v9) fun v11 => some (v11, S6)
set_option maxRecDepth 100000 in
set_option maxHeartbeats 4000000 in
theorem c_181 {X : Nat × (Nat → Int32)} {D F G : Nat} (hD : 5 ≤ D) {S : St} {p1 : Int32} {res : Int32 × St} (h : fN_law F G S p1 = some res) : Ek X (D) m181 0 [(0, .ref 0), (1, .int p1)] [] S (some (.int res.1)) res.2 := by
  obtain ⟨D, rfl⟩ : ∃ E, D = E + 1 := ⟨D - 1, by omega⟩
  unfold fN_law at h
  refine x_iload_n d_181_0 rfl 1 rfl ?_
  obtain ⟨v2, q1, h⟩ := bd_inv h
  refine y_S1i (v := v2) (S1 := S) d_181_1 ml_0_240 (Nat.le_of_ble_eq_true rfl) (Nat.le_of_ble_eq_true rfl) (c_130 (by omega) q1) ?_
  refine x_if_ne (tgt := 9) d_181_4 rfl (fun c3 => ?_) (fun c3 => ?_)
  · replace h := ite_f c3 h
    refine x_aload_n d_181_9 rfl 0 rfl ?_
    obtain ⟨S5, q4, h⟩ := bd_inv h
    refine y_V0v (S1 := S5) d_181_10 ml_0_173 kd_0 rfl (Nat.le_of_ble_eq_true rfl) (Nat.le_of_ble_eq_true rfl) (c_104 (by omega) q4) ?_
    refine x_aload_n d_181_13 rfl 0 rfl ?_
    refine y_getR d_181_14 fl_0_50 rfl kd_0 rr_0_7 ?_
    refine x_iload_n d_181_17 rfl 1 rfl ?_
    obtain ⟨S6, e7, h⟩ := lt_inv h
    refine y_putI e7 d_181_18 fl_0_275 rfl rfl kd_56 rfl rfl ?_
    refine x_aload_n d_181_21 rfl 0 rfl ?_
    refine y_getR d_181_22 fl_0_50 rfl kd_0 rr_0_7 ?_
    refine x_aload_n d_181_25 rfl 0 rfl ?_
    refine y_getR d_181_26 fl_0_50 rfl kd_0 rr_0_7 ?_
    refine y_getI d_181_29 fl_0_183 rfl kd_56 ?_
    refine x_aload_n d_181_32 rfl 0 rfl ?_
    refine y_getR d_181_33 fl_0_50 rfl kd_0 rr_0_7 ?_
    refine y_getI d_181_36 fl_0_186 rfl kd_56 ?_
    obtain ⟨v9, q8, h⟩ := bd_inv h
    refine y_V2i (v := v9) (S1 := S6) d_181_39 ml_0_253 kd_56 rfl (Nat.le_of_ble_eq_true rfl) (Nat.le_of_ble_eq_true rfl) (c_128 (by omega) q8) ?_
    obtain ⟨v11, q10, h⟩ := bd_inv h
    refine y_S1i (v := v11) (S1 := S6) d_181_42 ml_0_206 (Nat.le_of_ble_eq_true rfl) (Nat.le_of_ble_eq_true rfl) (c_91 (by omega) q10) ?_
    obtain rfl := Option.some.inj h
    exact x_ret (r := some (.int v11)) d_181_45 ⟨_, rfl, rfl⟩
  · replace h := ite_t c3 h
    refine x_iconst d_181_7 ic_m1 ?_
    obtain rfl := Option.some.inj h
    exact x_ret (r := some (.int (-1 : Int32))) d_181_8 ⟨_, rfl, rfl⟩
/-! NinetyPlayers.dearest -/
def j_182_38 (F G : Nat) (rec : Int32 → Int32 → Int32 → St → Option (Int32 × St)) (S : St) (y1 : Int32) (y2 : Int32) (y3 : Int32) (s0 : Int32) : Option (Int32 × St) :=
  if s0 ≤ y2 then lt (y3 + 1) fun v9 => rec y1 y2 v9 S else lt (y3 + 1) fun v11 => rec y3 s0 v11 S
def b_182_6 (F G : Nat) (rec : Int32 → Int32 → Int32 → St → Option (Int32 × St)) (w1 : Int32) (w2 : Int32) (w3 : Int32) (S : St) : Option (Int32 × St) :=
  gd (isSc S.2.2.1) (if (S.1 S.2.2.1 6) ≤ w3 then some (w1, S) else gd (inB w3 10) (if (S.1 31 w3.toNatClampNeg) = 0 then bd2 (fN_missedOf F G S w3) fun v6 S7 => j_182_38 F G rec  S7 w1 w2 w3 v6 else j_182_38 F G rec  S w1 w2 w3 (-1 : Int32)))
def fN_dearest (F G : Nat) (S : St) : Option (Int32 × St) :=
  fx4 (b_182_6 F G ) F (-1 : Int32) (-1 : Int32) (0 : Int32) S
set_option maxRecDepth 100000 in
set_option maxHeartbeats 4000000 in
theorem T_182_6 {X : Nat × (Nat → Int32)} {D F G : Nat} (hD : 4 ≤ D + 1) : ∀ (f : Nat) (w1 : Int32) (w2 : Int32) (w3 : Int32) (S : St) (res : Int32 × St), fx4 (b_182_6 F G ) f w1 w2 w3 S = some res → Ek X (D + 1) m182 6 [(0, .ref 0), (1, .int w1), (2, .int w2), (3, .int w3)] [] S (some (.int res.1)) res.2 := by
  refine fx4_ind ?_
  intro rec ih w1 w2 w3 S res h
  unfold b_182_6 at h
  have J38 : ∀ (S : St) (y1 : Int32) (y2 : Int32) (y3 : Int32) (s0 : Int32) (res : Int32 × St), j_182_38 F G rec S y1 y2 y3 s0 = some res → Ek X (D + 1) m182 38 [(0, .ref 0), (1, .int y1), (2, .int y2), (3, .int y3)] [.int s0] S (some (.int res.1)) res.2 := by
    intro S y1 y2 y3 s0 res h
    unfold j_182_38 at h
    refine x_istore (L1 := [(0, .ref 0), (1, .int y1), (2, .int y2), (3, .int y3), (4, .int s0)]) d_182_38 (Nat.le_of_ble_eq_true rfl) rfl rfl ?_
    refine x_iload d_182_40 4 rfl ?_
    refine x_iload_n d_182_42 rfl 2 rfl ?_
    refine x_icmp_le (tgt := 51) d_182_43 rfl (fun c8 => ?_) (fun c8 => ?_)
    · replace h := ite_t c8 h
      obtain ⟨v9, e10, h⟩ := lt_inv h
      refine y_iinc (L1 := [(0, .ref 0), (1, .int y1), (2, .int y2), (3, .int v9), (4, .int s0)]) e10 ic_1 d_182_51 3 rfl (Nat.le_of_ble_eq_true rfl) rfl rfl ?_
      refine x_goto (tgt := 6) d_182_54 rfl ?_
      refine y_pick (L1 := [(0, .ref 0), (1, .int y1), (2, .int y2), (3, .int v9)]) [0, 1, 2, 3] rfl ?_
      exact ih y1 y2 v9 S _ h
    · replace h := ite_f c8 h
      refine x_iload d_182_46 4 rfl ?_
      refine x_istore_n (L1 := [(0, .ref 0), (1, .int y1), (2, .int s0), (3, .int y3), (4, .int s0)]) d_182_48 rfl (Nat.le_of_ble_eq_true rfl) rfl rfl ?_
      refine x_iload_n d_182_49 rfl 3 rfl ?_
      refine x_istore_n (L1 := [(0, .ref 0), (1, .int y3), (2, .int s0), (3, .int y3), (4, .int s0)]) d_182_50 rfl (Nat.le_of_ble_eq_true rfl) rfl rfl ?_
      obtain ⟨v11, e12, h⟩ := lt_inv h
      refine y_iinc (L1 := [(0, .ref 0), (1, .int y3), (2, .int s0), (3, .int v11), (4, .int s0)]) e12 ic_1 d_182_51 3 rfl (Nat.le_of_ble_eq_true rfl) rfl rfl ?_
      refine x_goto (tgt := 6) d_182_54 rfl ?_
      refine y_pick (L1 := [(0, .ref 0), (1, .int y3), (2, .int s0), (3, .int v11)]) [0, 1, 2, 3] rfl ?_
      exact ih y3 s0 v11 S _ h
  refine x_iload_n d_182_6 rfl 3 rfl ?_
  refine x_aload_n d_182_7 rfl 0 rfl ?_
  refine y_getR d_182_8 fl_0_25 rfl kd_0 rr_told ?_
  obtain ⟨g1, h⟩ := gd_inv h
  refine y_getI d_182_11 fl_0_117 rfl (ksSc g1) ?_
  refine x_icmp_ge (tgt := 57) d_182_14 rfl (fun c2 => ?_) (fun c2 => ?_)
  · replace h := ite_t c2 h
    refine x_iload_n d_182_57 rfl 1 rfl ?_
    obtain rfl := Option.some.inj h
    exact x_ret (r := some (.int w1)) d_182_58 ⟨_, rfl, rfl⟩
  · replace h := ite_f c2 h
    refine x_aload_n d_182_17 rfl 0 rfl ?_
    refine y_getR d_182_18 fl_0_32 rfl kd_0 rr_0_4 ?_
    refine y_getR d_182_21 fl_0_144 rfl kd_30 rr_30_2 ?_
    refine x_iload_n d_182_24 rfl 3 rfl ?_
    obtain ⟨g3, h⟩ := gd_inv h
    refine y_iald d_182_25 kd_31 g3 ?_
    refine x_if_ne (tgt := 37) d_182_26 rfl (fun c4 => ?_) (fun c4 => ?_)
    · replace h := ite_f c4 h
      refine x_iconst d_182_37 ic_m1 ?_
      exact J38 S w1 w2 w3 (-1 : Int32) _ h
    · replace h := ite_t c4 h
      refine x_aload_n d_182_29 rfl 0 rfl ?_
      refine x_iload_n d_182_30 rfl 3 rfl ?_
      obtain ⟨v6, S7, q5, h⟩ := bd2_inv h
      refine y_V1i (v := v6) (S1 := S7) d_182_31 ml_0_147 kd_0 rfl (Nat.le_of_ble_eq_true rfl) (Nat.le_of_ble_eq_true rfl) (c_88 (by omega) q5) ?_
      refine x_goto (tgt := 38) d_182_34 rfl ?_
      exact J38 S7 w1 w2 w3 v6 _ h
set_option maxRecDepth 100000 in
set_option maxHeartbeats 4000000 in
theorem c_182 {X : Nat × (Nat → Int32)} {D F G : Nat} (hD : 4 ≤ D) {S : St} {res : Int32 × St} (h : fN_dearest F G S  = some res) : Ek X (D) m182 0 [(0, .ref 0)] [] S (some (.int res.1)) res.2 := by
  obtain ⟨D, rfl⟩ : ∃ E, D = E + 1 := ⟨D - 1, by omega⟩
  unfold fN_dearest at h
  refine x_iconst d_182_0 ic_m1 ?_
  refine x_istore_n (L1 := [(0, .ref 0), (1, .int (-1 : Int32))]) d_182_1 rfl (Nat.le_of_ble_eq_true rfl) rfl rfl ?_
  refine x_iconst d_182_2 ic_m1 ?_
  refine x_istore_n (L1 := [(0, .ref 0), (1, .int (-1 : Int32)), (2, .int (-1 : Int32))]) d_182_3 rfl (Nat.le_of_ble_eq_true rfl) rfl rfl ?_
  refine x_iconst d_182_4 ic_0 ?_
  refine x_istore_n (L1 := [(0, .ref 0), (1, .int (-1 : Int32)), (2, .int (-1 : Int32)), (3, .int (0 : Int32))]) d_182_5 rfl (Nat.le_of_ble_eq_true rfl) rfl rfl ?_
  refine T_182_6 (by omega)   F (-1 : Int32) (-1 : Int32) (0 : Int32) S _ h
/-! NinetyPlayers.could -/
def b_183_17 (F G : Nat) (S : St) (z1 : Int32) (rec : Int32 → Int32 → Option (Int32 × St)) (w2 : Int32) (w3 : Int32) : Option (Int32 × St) :=
  gd (isSc S.2.2.1) (if (S.1 S.2.2.1 6) ≤ w3 then some (w2, S) else gd (inB w3 10) (if (S.1 31 w3.toNatClampNeg) = 0 then bd (fK_newClashesWith F G S w3 z1) fun v13 => if v13 = 0 then lt (w2 ||| ((1 : Int32) <<< (w3 &&& 31))) fun v17 => lt (w3 + 1) fun v19 => rec v17 v19 else lt (w3 + 1) fun v15 => rec w2 v15 else lt (w3 + 1) fun v10 => rec w2 v10))
def fN_could (F G : Nat) (S : St) (p1 : Int32) : Option (Int32 × St) :=
  bd (fN_isHand F G S p1) fun v2 => if v2 = 0 then some ((-1 : Int32), S) else bd (fN_lookAtKeys F G S ) fun S5 => fx2 (b_183_17 F G S5 p1) F (0 : Int32) (0 : Int32)
set_option maxRecDepth 100000 in
set_option maxHeartbeats 4000000 in
theorem T_183_17 {X : Nat × (Nat → Int32)} {D F G : Nat} (hD : 5 ≤ D + 1) {S : St} {z1 : Int32} : ∀ (f : Nat) (w2 : Int32) (w3 : Int32) (res : Int32 × St), fx2 (b_183_17 F G S z1 ) f w2 w3 = some res → Ek X (D + 1) m183 17 [(0, .ref 0), (1, .int z1), (2, .int w2), (3, .int w3)] [] S (some (.int res.1)) res.2 := by
  refine fx2_ind ?_
  intro rec ih w2 w3 res h
  unfold b_183_17 at h
  refine x_iload_n d_183_17 rfl 3 rfl ?_
  refine x_aload_n d_183_18 rfl 0 rfl ?_
  refine y_getR d_183_19 fl_0_25 rfl kd_0 rr_told ?_
  obtain ⟨g6, h⟩ := gd_inv h
  refine y_getI d_183_22 fl_0_117 rfl (ksSc g6) ?_
  refine x_icmp_ge (tgt := 64) d_183_25 rfl (fun c7 => ?_) (fun c7 => ?_)
  · replace h := ite_t c7 h
    refine x_iload_n d_183_64 rfl 2 rfl ?_
    obtain rfl := Option.some.inj h
    exact x_ret (r := some (.int w2)) d_183_65 ⟨_, rfl, rfl⟩
  · replace h := ite_f c7 h
    refine x_aload_n d_183_28 rfl 0 rfl ?_
    refine y_getR d_183_29 fl_0_32 rfl kd_0 rr_0_4 ?_
    refine y_getR d_183_32 fl_0_144 rfl kd_30 rr_30_2 ?_
    refine x_iload_n d_183_35 rfl 3 rfl ?_
    obtain ⟨g8, h⟩ := gd_inv h
    refine y_iald d_183_36 kd_31 g8 ?_
    refine x_if_ne (tgt := 58) d_183_37 rfl (fun c9 => ?_) (fun c9 => ?_)
    · replace h := ite_f c9 h
      obtain ⟨v10, e11, h⟩ := lt_inv h
      refine y_iinc (L1 := [(0, .ref 0), (1, .int z1), (2, .int w2), (3, .int v10)]) e11 ic_1 d_183_58 3 rfl (Nat.le_of_ble_eq_true rfl) rfl rfl ?_
      refine x_goto (tgt := 17) d_183_61 rfl ?_
      exact ih w2 v10 _ h
    · replace h := ite_t c9 h
      refine x_aload_n d_183_40 rfl 0 rfl ?_
      refine y_getR d_183_41 fl_0_50 rfl kd_0 rr_0_7 ?_
      refine x_iload_n d_183_44 rfl 3 rfl ?_
      refine x_iload_n d_183_45 rfl 1 rfl ?_
      obtain ⟨v13, q12, h⟩ := bd_inv h
      refine y_V2i (v := v13) (S1 := S) d_183_46 ml_0_285 kd_56 rfl (Nat.le_of_ble_eq_true rfl) (Nat.le_of_ble_eq_true rfl) (c_155 (by omega) q12) ?_
      refine x_if_ne (tgt := 58) d_183_49 rfl (fun c14 => ?_) (fun c14 => ?_)
      · replace h := ite_f c14 h
        obtain ⟨v15, e16, h⟩ := lt_inv h
        refine y_iinc (L1 := [(0, .ref 0), (1, .int z1), (2, .int w2), (3, .int v15)]) e16 ic_1 d_183_58 3 rfl (Nat.le_of_ble_eq_true rfl) rfl rfl ?_
        refine x_goto (tgt := 17) d_183_61 rfl ?_
        exact ih w2 v15 _ h
      · replace h := ite_t c14 h
        refine x_iload_n d_183_52 rfl 2 rfl ?_
        refine x_iconst d_183_53 ic_1 ?_
        refine x_iload_n d_183_54 rfl 3 rfl ?_
        refine x_ishl d_183_55 ?_
        refine x_ior d_183_56 ?_
        obtain ⟨v17, e18, h⟩ := lt_inv h
        refine y_istore_n (L1 := [(0, .ref 0), (1, .int z1), (2, .int v17), (3, .int w3)]) e18 d_183_57 rfl (Nat.le_of_ble_eq_true rfl) rfl rfl ?_
        obtain ⟨v19, e20, h⟩ := lt_inv h
        refine y_iinc (L1 := [(0, .ref 0), (1, .int z1), (2, .int v17), (3, .int v19)]) e20 ic_1 d_183_58 3 rfl (Nat.le_of_ble_eq_true rfl) rfl rfl ?_
        refine x_goto (tgt := 17) d_183_61 rfl ?_
        exact ih v17 v19 _ h
set_option maxRecDepth 100000 in
set_option maxHeartbeats 4000000 in
theorem c_183 {X : Nat × (Nat → Int32)} {D F G : Nat} (hD : 5 ≤ D) {S : St} {p1 : Int32} {res : Int32 × St} (h : fN_could F G S p1 = some res) : Ek X (D) m183 0 [(0, .ref 0), (1, .int p1)] [] S (some (.int res.1)) res.2 := by
  obtain ⟨D, rfl⟩ : ∃ E, D = E + 1 := ⟨D - 1, by omega⟩
  unfold fN_could at h
  refine x_iload_n d_183_0 rfl 1 rfl ?_
  obtain ⟨v2, q1, h⟩ := bd_inv h
  refine y_S1i (v := v2) (S1 := S) d_183_1 ml_0_170 (Nat.le_of_ble_eq_true rfl) (Nat.le_of_ble_eq_true rfl) (c_103 (by omega) q1) ?_
  refine x_if_ne (tgt := 9) d_183_4 rfl (fun c3 => ?_) (fun c3 => ?_)
  · replace h := ite_f c3 h
    refine x_aload_n d_183_9 rfl 0 rfl ?_
    obtain ⟨S5, q4, h⟩ := bd_inv h
    refine y_V0v (S1 := S5) d_183_10 ml_0_173 kd_0 rfl (Nat.le_of_ble_eq_true rfl) (Nat.le_of_ble_eq_true rfl) (c_104 (by omega) q4) ?_
    refine x_iconst d_183_13 ic_0 ?_
    refine x_istore_n (L1 := [(0, .ref 0), (1, .int p1), (2, .int (0 : Int32))]) d_183_14 rfl (Nat.le_of_ble_eq_true rfl) rfl rfl ?_
    refine x_iconst d_183_15 ic_0 ?_
    refine x_istore_n (L1 := [(0, .ref 0), (1, .int p1), (2, .int (0 : Int32)), (3, .int (0 : Int32))]) d_183_16 rfl (Nat.le_of_ble_eq_true rfl) rfl rfl ?_
    refine T_183_17 (by omega)   F (0 : Int32) (0 : Int32) _ h
  · replace h := ite_t c3 h
    refine x_iconst d_183_7 ic_m1 ?_
    obtain rfl := Option.some.inj h
    exact x_ret (r := some (.int (-1 : Int32))) d_183_8 ⟨_, rfl, rfl⟩
/-! NinetyPlayers.lies -/
def fN_lies (F G : Nat) (S : St) (p1 : Int32) : Option (Int32) :=
  if p1 < 0 then some (-1 : Int32) else if (S.1 0 13) ≤ p1 then some (-1 : Int32) else gd (inB p1 10) (some (S.1 77 p1.toNatClampNeg))
set_option maxRecDepth 100000 in
set_option maxHeartbeats 4000000 in
theorem c_184 {X : Nat × (Nat → Int32)} {D F G : Nat} (hD : 0 ≤ D) {S : St} {p1 : Int32} {res : Int32} (h : fN_lies F G S p1 = some res) : Ek X (D) m184 0 [(0, .ref 0), (1, .int p1)] [] S (some (.int res)) S := by
  unfold fN_lies at h
  refine x_iload_n d_184_0 rfl 1 rfl ?_
  refine x_if_lt (tgt := 21) d_184_1 rfl (fun c1 => ?_) (fun c1 => ?_)
  · replace h := ite_t c1 h
    refine x_iconst d_184_21 ic_m1 ?_
    obtain rfl := Option.some.inj h
    exact x_ret (r := some (.int (-1 : Int32))) d_184_22 ⟨_, rfl, rfl⟩
  · replace h := ite_f c1 h
    refine x_iload_n d_184_4 rfl 1 rfl ?_
    refine x_aload_n d_184_5 rfl 0 rfl ?_
    refine y_getI d_184_6 fl_0_110 rfl kd_0 ?_
    refine x_icmp_ge (tgt := 21) d_184_9 rfl (fun c2 => ?_) (fun c2 => ?_)
    · replace h := ite_t c2 h
      refine x_iconst d_184_21 ic_m1 ?_
      obtain rfl := Option.some.inj h
      exact x_ret (r := some (.int (-1 : Int32))) d_184_22 ⟨_, rfl, rfl⟩
    · replace h := ite_f c2 h
      refine x_aload_n d_184_12 rfl 0 rfl ?_
      refine y_getR d_184_13 fl_0_83 rfl kd_0 rr_0_12 ?_
      refine x_iload_n d_184_16 rfl 1 rfl ?_
      obtain ⟨g3, h⟩ := gd_inv h
      refine y_iald d_184_17 kd_77 g3 ?_
      refine x_goto (tgt := 22) d_184_18 rfl ?_
      obtain rfl := Option.some.inj h
      exact x_ret (r := some (.int (S.1 77 p1.toNatClampNeg))) d_184_22 ⟨_, rfl, rfl⟩
/-! NinetyPlayers$Witness.tell -/
def fI_tell (F G : Nat) (S : St) (p1 : Int32) (p2 : Int32) (p3 : Int32) : Option (Int32 × St) :=
  if (S.1 69 0) < (30 : Int32) then gd (inB (S.1 69 0) 30) (lt (sI S 71 (S.1 69 0).toNatClampNeg p1) fun S3 => gd (inB (S3.1 69 0) 30) (lt (sI S3 72 (S3.1 69 0).toNatClampNeg p2) fun S6 => gd (inB (S6.1 69 0) 30) (lt (sI S6 73 (S6.1 69 0).toNatClampNeg (vp_nar .boolean p3)) fun S9 => gd (inB (S9.1 69 0) 30) (lt (sI S9 74 (S9.1 69 0).toNatClampNeg (S9.1 69 1)) fun S12 => gd (inB (S12.1 69 0) 30) (lt (sI S12 75 (S12.1 69 0).toNatClampNeg (-1 : Int32)) fun S15 => lt (sI S15 69 0 ((S15.1 69 0) + (1 : Int32))) fun S17 => some ((S17.1 69 0) - (1 : Int32), S17)))))) else some ((-1 : Int32), S)
set_option maxRecDepth 100000 in
set_option maxHeartbeats 4000000 in
theorem c_186 {X : Nat × (Nat → Int32)} {D F G : Nat} (hD : 0 ≤ D) {S : St} {p1 : Int32} {p2 : Int32} {p3 : Int32} {res : Int32 × St} (h : fI_tell F G S p1 p2 p3 = some res) : Ek X (D) m186 0 [(0, .ref 69), (1, .int p1), (2, .int p2), (3, .int p3)] [] S (some (.int res.1)) res.2 := by
  unfold fI_tell at h
  refine x_aload_n d_186_0 rfl 0 rfl ?_
  refine y_getI d_186_1 fl_10_34 rfl kd_69 ?_
  refine x_bipush d_186_4 bp_30 ?_
  refine x_icmp_lt (tgt := 11) d_186_6 rfl (fun c1 => ?_) (fun c1 => ?_)
  · replace h := ite_t c1 h
    refine x_aload_n d_186_11 rfl 0 rfl ?_
    refine y_getR d_186_12 fl_10_15 rfl kd_69 rr_69_4 ?_
    refine x_aload_n d_186_15 rfl 0 rfl ?_
    refine y_getI d_186_16 fl_10_34 rfl kd_69 ?_
    refine x_iload_n d_186_19 rfl 1 rfl ?_
    obtain ⟨g2, h⟩ := gd_inv h
    obtain ⟨S3, e4, h⟩ := lt_inv h
    refine y_iast e4 d_186_20 kd_71 g2 ?_
    refine x_aload_n d_186_21 rfl 0 rfl ?_
    refine y_getR d_186_22 fl_10_18 rfl kd_69 rr_69_5 ?_
    refine x_aload_n d_186_25 rfl 0 rfl ?_
    refine y_getI d_186_26 fl_10_34 rfl kd_69 ?_
    refine x_iload_n d_186_29 rfl 2 rfl ?_
    obtain ⟨g5, h⟩ := gd_inv h
    obtain ⟨S6, e7, h⟩ := lt_inv h
    refine y_iast e7 d_186_30 kd_72 g5 ?_
    refine x_aload_n d_186_31 rfl 0 rfl ?_
    refine y_getR d_186_32 fl_10_21 rfl kd_69 rr_69_6 ?_
    refine x_aload_n d_186_35 rfl 0 rfl ?_
    refine y_getI d_186_36 fl_10_34 rfl kd_69 ?_
    refine x_iload_n d_186_39 rfl 3 rfl ?_
    obtain ⟨g8, h⟩ := gd_inv h
    obtain ⟨S9, e10, h⟩ := lt_inv h
    refine y_zast e10 d_186_40 kd_73 g8 ?_
    refine x_aload_n d_186_41 rfl 0 rfl ?_
    refine y_getR d_186_42 fl_10_25 rfl kd_69 rr_69_7 ?_
    refine x_aload_n d_186_45 rfl 0 rfl ?_
    refine y_getI d_186_46 fl_10_34 rfl kd_69 ?_
    refine x_aload_n d_186_49 rfl 0 rfl ?_
    refine y_getI d_186_50 fl_10_38 rfl kd_69 ?_
    obtain ⟨g11, h⟩ := gd_inv h
    obtain ⟨S12, e13, h⟩ := lt_inv h
    refine y_iast e13 d_186_53 kd_74 g11 ?_
    refine x_aload_n d_186_54 rfl 0 rfl ?_
    refine y_getR d_186_55 fl_10_28 rfl kd_69 rr_69_8 ?_
    refine x_aload_n d_186_58 rfl 0 rfl ?_
    refine y_getI d_186_59 fl_10_34 rfl kd_69 ?_
    refine x_iconst d_186_62 ic_m1 ?_
    obtain ⟨g14, h⟩ := gd_inv h
    obtain ⟨S15, e16, h⟩ := lt_inv h
    refine y_iast e16 d_186_63 kd_75 g14 ?_
    refine x_aload_n d_186_64 rfl 0 rfl ?_
    refine x_dup d_186_65 rfl ?_
    refine y_getI d_186_66 fl_10_34 rfl kd_69 ?_
    refine x_iconst d_186_69 ic_1 ?_
    refine x_iadd d_186_70 ?_
    obtain ⟨S17, e18, h⟩ := lt_inv h
    refine y_putI e18 d_186_71 fl_10_34 rfl rfl kd_69 rfl rfl ?_
    refine x_aload_n d_186_74 rfl 0 rfl ?_
    refine y_getI d_186_75 fl_10_34 rfl kd_69 ?_
    refine x_iconst d_186_78 ic_1 ?_
    refine x_isub d_186_79 ?_
    obtain rfl := Option.some.inj h
    exact x_ret (r := some (.int ((S17.1 69 0) - (1 : Int32)))) d_186_80 ⟨_, rfl, rfl⟩
  · replace h := ite_f c1 h
    refine x_iconst d_186_9 ic_m1 ?_
    obtain rfl := Option.some.inj h
    exact x_ret (r := some (.int (-1 : Int32))) d_186_10 ⟨_, rfl, rfl⟩
/-! NinetyPlayers.heard -/
def fN_heard (F G : Nat) (S : St) (p1 : Int32) (p2 : Int32) (p3 : Int32) : Option (Int32 × St) :=
  bd (fN_isBeat F G S p1) fun v2 => if v2 = 0 then some ((-1 : Int32), S) else bd (fN_isKey F G S p2) fun v5 => if v5 = 0 then some ((-1 : Int32), S) else bd2 (fI_tell F G S p1 p2 p3) fun v8 S9 => some (v8, S9)
set_option maxRecDepth 100000 in
set_option maxHeartbeats 4000000 in
theorem c_185 {X : Nat × (Nat → Int32)} {D F G : Nat} (hD : 1 ≤ D) {S : St} {p1 : Int32} {p2 : Int32} {p3 : Int32} {res : Int32 × St} (h : fN_heard F G S p1 p2 p3 = some res) : Ek X (D) m185 0 [(0, .ref 0), (1, .int p1), (2, .int p2), (3, .int p3)] [] S (some (.int res.1)) res.2 := by
  obtain ⟨D, rfl⟩ : ∃ E, D = E + 1 := ⟨D - 1, by omega⟩
  unfold fN_heard at h
  refine x_aload_n d_185_0 rfl 0 rfl ?_
  refine x_iload_n d_185_1 rfl 1 rfl ?_
  obtain ⟨v2, q1, h⟩ := bd_inv h
  refine y_V1i (v := v2) (S1 := S) d_185_2 ml_0_167 kd_0 rfl (Nat.le_of_ble_eq_true rfl) (Nat.le_of_ble_eq_true rfl) (c_102 (by omega) q1) ?_
  refine x_if_eq (tgt := 15) d_185_5 rfl (fun c3 => ?_) (fun c3 => ?_)
  · replace h := ite_t c3 h
    refine x_iconst d_185_15 ic_m1 ?_
    obtain rfl := Option.some.inj h
    exact x_ret (r := some (.int (-1 : Int32))) d_185_16 ⟨_, rfl, rfl⟩
  · replace h := ite_f c3 h
    refine x_iload_n d_185_8 rfl 2 rfl ?_
    obtain ⟨v5, q4, h⟩ := bd_inv h
    refine y_S1i (v := v5) (S1 := S) d_185_9 ml_0_240 (Nat.le_of_ble_eq_true rfl) (Nat.le_of_ble_eq_true rfl) (c_130 (by omega) q4) ?_
    refine x_if_ne (tgt := 17) d_185_12 rfl (fun c6 => ?_) (fun c6 => ?_)
    · replace h := ite_f c6 h
      refine x_aload_n d_185_17 rfl 0 rfl ?_
      refine y_getR d_185_18 fl_0_79 rfl kd_0 rr_0_11 ?_
      refine x_iload_n d_185_21 rfl 1 rfl ?_
      refine x_iload_n d_185_22 rfl 2 rfl ?_
      refine x_iload_n d_185_23 rfl 3 rfl ?_
      obtain ⟨v8, S9, q7, h⟩ := bd2_inv h
      refine y_V3i (v := v8) (S1 := S9) d_185_24 ml_0_316 kd_69 rfl (Nat.le_of_ble_eq_true rfl) (Nat.le_of_ble_eq_true rfl) (c_186 (by omega) q7) ?_
      obtain rfl := Option.some.inj h
      exact x_ret (r := some (.int v8)) d_185_27 ⟨_, rfl, rfl⟩
    · replace h := ite_t c6 h
      refine x_iconst d_185_15 ic_m1 ?_
      obtain rfl := Option.some.inj h
      exact x_ret (r := some (.int (-1 : Int32))) d_185_16 ⟨_, rfl, rfl⟩
/-! NinetyPlayers$Witness.takeFromNowOn -/
def fI_takeFromNowOn (F G : Nat) (S : St) (p1 : Int32) : Option (Int32 × St) :=
  if p1 < 0 then some ((0 : Int32), S) else if (S.1 69 0) ≤ p1 then some ((0 : Int32), S) else gd (inB p1 30) (if (S.1 75 p1.toNatClampNeg) = (-1 : Int32) then gd (inB p1 30) (lt (sI S 75 p1.toNatClampNeg (S.1 69 1)) fun S6 => some ((1 : Int32), S6)) else some ((0 : Int32), S))
set_option maxRecDepth 100000 in
set_option maxHeartbeats 4000000 in
theorem c_188 {X : Nat × (Nat → Int32)} {D F G : Nat} (hD : 0 ≤ D) {S : St} {p1 : Int32} {res : Int32 × St} (h : fI_takeFromNowOn F G S p1 = some res) : Ek X (D) m188 0 [(0, .ref 69), (1, .int p1)] [] S (some (.int res.1)) res.2 := by
  unfold fI_takeFromNowOn at h
  refine x_iload_n d_188_0 rfl 1 rfl ?_
  refine x_if_lt (tgt := 22) d_188_1 rfl (fun c1 => ?_) (fun c1 => ?_)
  · replace h := ite_t c1 h
    refine x_iconst d_188_22 ic_0 ?_
    obtain rfl := Option.some.inj h
    exact x_ret (r := some (.int (0 : Int32))) d_188_23 ⟨_, rfl, rfl⟩
  · replace h := ite_f c1 h
    refine x_iload_n d_188_4 rfl 1 rfl ?_
    refine x_aload_n d_188_5 rfl 0 rfl ?_
    refine y_getI d_188_6 fl_10_34 rfl kd_69 ?_
    refine x_icmp_ge (tgt := 22) d_188_9 rfl (fun c2 => ?_) (fun c2 => ?_)
    · replace h := ite_t c2 h
      refine x_iconst d_188_22 ic_0 ?_
      obtain rfl := Option.some.inj h
      exact x_ret (r := some (.int (0 : Int32))) d_188_23 ⟨_, rfl, rfl⟩
    · replace h := ite_f c2 h
      refine x_aload_n d_188_12 rfl 0 rfl ?_
      refine y_getR d_188_13 fl_10_28 rfl kd_69 rr_69_8 ?_
      refine x_iload_n d_188_16 rfl 1 rfl ?_
      obtain ⟨g3, h⟩ := gd_inv h
      refine y_iald d_188_17 kd_75 g3 ?_
      refine x_iconst d_188_18 ic_m1 ?_
      refine x_icmp_eq (tgt := 24) d_188_19 rfl (fun c4 => ?_) (fun c4 => ?_)
      · replace h := ite_t c4 h
        refine x_aload_n d_188_24 rfl 0 rfl ?_
        refine y_getR d_188_25 fl_10_28 rfl kd_69 rr_69_8 ?_
        refine x_iload_n d_188_28 rfl 1 rfl ?_
        refine x_aload_n d_188_29 rfl 0 rfl ?_
        refine y_getI d_188_30 fl_10_38 rfl kd_69 ?_
        obtain ⟨g5, h⟩ := gd_inv h
        obtain ⟨S6, e7, h⟩ := lt_inv h
        refine y_iast e7 d_188_33 kd_75 g5 ?_
        refine x_iconst d_188_34 ic_1 ?_
        obtain rfl := Option.some.inj h
        exact x_ret (r := some (.int (1 : Int32))) d_188_35 ⟨_, rfl, rfl⟩
      · replace h := ite_f c4 h
        refine x_iconst d_188_22 ic_0 ?_
        obtain rfl := Option.some.inj h
        exact x_ret (r := some (.int (0 : Int32))) d_188_23 ⟨_, rfl, rfl⟩
/-! NinetyPlayers.untell -/
def fN_untell (F G : Nat) (S : St) (p1 : Int32) : Option (Int32 × St) :=
  bd2 (fI_takeFromNowOn F G S p1) fun v2 S3 => gd (isB v2) (some (v2, S3))
set_option maxRecDepth 100000 in
set_option maxHeartbeats 4000000 in
theorem c_187 {X : Nat × (Nat → Int32)} {D F G : Nat} (hD : 1 ≤ D) {S : St} {p1 : Int32} {res : Int32 × St} (h : fN_untell F G S p1 = some res) : Ek X (D) m187 0 [(0, .ref 0), (1, .int p1)] [] S (some (.int res.1)) res.2 := by
  obtain ⟨D, rfl⟩ : ∃ E, D = E + 1 := ⟨D - 1, by omega⟩
  unfold fN_untell at h
  refine x_aload_n d_187_0 rfl 0 rfl ?_
  refine y_getR d_187_1 fl_0_79 rfl kd_0 rr_0_11 ?_
  refine x_iload_n d_187_4 rfl 1 rfl ?_
  obtain ⟨v2, S3, q1, h⟩ := bd2_inv h
  refine y_V1i (v := v2) (S1 := S3) d_187_5 ml_0_320 kd_69 rfl (Nat.le_of_ble_eq_true rfl) (Nat.le_of_ble_eq_true rfl) (c_188 (by omega) q1) ?_
  obtain ⟨g4, h⟩ := gd_inv h
  obtain rfl := Option.some.inj h
  exact x_ret (r := some (.int v2)) d_187_8 ⟨_, rfl, isB_nar g4⟩
/-! NinetyPlayers$Witness.goOn -/
def fI_goOn (F G : Nat) (S : St) (p1 : Int32) : Option (Int32 × St) :=
  if p1 < 0 then some ((-1 : Int32), S) else if (1000 : Int32) < p1 then some ((-1 : Int32), S) else if ((S.1 69 1) + p1) ≤ (100000 : Int32) then lt (sI S 69 1 ((S.1 69 1) + p1)) fun S4 => some (S4.1 69 1, S4) else some ((-1 : Int32), S)
set_option maxRecDepth 100000 in
set_option maxHeartbeats 4000000 in
theorem c_190 {X : Nat × (Nat → Int32)} {D F G : Nat} (hD : 0 ≤ D) {S : St} {p1 : Int32} {res : Int32 × St} (h : fI_goOn F G S p1 = some res) : Ek X (D) m190 0 [(0, .ref 69), (1, .int p1)] [] S (some (.int res.1)) res.2 := by
  unfold fI_goOn at h
  refine x_iload_n d_190_0 rfl 1 rfl ?_
  refine x_if_lt (tgt := 22) d_190_1 rfl (fun c1 => ?_) (fun c1 => ?_)
  · replace h := ite_t c1 h
    refine x_iconst d_190_22 ic_m1 ?_
    obtain rfl := Option.some.inj h
    exact x_ret (r := some (.int (-1 : Int32))) d_190_23 ⟨_, rfl, rfl⟩
  · replace h := ite_f c1 h
    refine x_iload_n d_190_4 rfl 1 rfl ?_
    refine x_sipush d_190_5 sp_1000 ?_
    refine x_icmp_gt (tgt := 22) d_190_8 rfl (fun c2 => ?_) (fun c2 => ?_)
    · replace h := ite_t c2 h
      refine x_iconst d_190_22 ic_m1 ?_
      obtain rfl := Option.some.inj h
      exact x_ret (r := some (.int (-1 : Int32))) d_190_23 ⟨_, rfl, rfl⟩
    · replace h := ite_f c2 h
      refine x_aload_n d_190_11 rfl 0 rfl ?_
      refine y_getI d_190_12 fl_10_38 rfl kd_69 ?_
      refine x_iload_n d_190_15 rfl 1 rfl ?_
      refine x_iadd d_190_16 ?_
      refine x_ldc d_190_17 kc_10_41 ?_
      refine x_icmp_le (tgt := 24) d_190_19 rfl (fun c3 => ?_) (fun c3 => ?_)
      · replace h := ite_t c3 h
        refine x_aload_n d_190_24 rfl 0 rfl ?_
        refine x_dup d_190_25 rfl ?_
        refine y_getI d_190_26 fl_10_38 rfl kd_69 ?_
        refine x_iload_n d_190_29 rfl 1 rfl ?_
        refine x_iadd d_190_30 ?_
        obtain ⟨S4, e5, h⟩ := lt_inv h
        refine y_putI e5 d_190_31 fl_10_38 rfl rfl kd_69 rfl rfl ?_
        refine x_aload_n d_190_34 rfl 0 rfl ?_
        refine y_getI d_190_35 fl_10_38 rfl kd_69 ?_
        obtain rfl := Option.some.inj h
        exact x_ret (r := some (.int (S4.1 69 1))) d_190_38 ⟨_, rfl, rfl⟩
      · replace h := ite_f c3 h
        refine x_iconst d_190_22 ic_m1 ?_
        obtain rfl := Option.some.inj h
        exact x_ret (r := some (.int (-1 : Int32))) d_190_23 ⟨_, rfl, rfl⟩
/-! NinetyPlayers.later -/
def fN_later (F G : Nat) (S : St) (p1 : Int32) : Option (Int32 × St) :=
  bd2 (fI_goOn F G S p1) fun v2 S3 => some (v2, S3)
set_option maxRecDepth 100000 in
set_option maxHeartbeats 4000000 in
theorem c_189 {X : Nat × (Nat → Int32)} {D F G : Nat} (hD : 1 ≤ D) {S : St} {p1 : Int32} {res : Int32 × St} (h : fN_later F G S p1 = some res) : Ek X (D) m189 0 [(0, .ref 0), (1, .int p1)] [] S (some (.int res.1)) res.2 := by
  obtain ⟨D, rfl⟩ : ∃ E, D = E + 1 := ⟨D - 1, by omega⟩
  unfold fN_later at h
  refine x_aload_n d_189_0 rfl 0 rfl ?_
  refine y_getR d_189_1 fl_0_79 rfl kd_0 rr_0_11 ?_
  refine x_iload_n d_189_4 rfl 1 rfl ?_
  obtain ⟨v2, S3, q1, h⟩ := bd2_inv h
  refine y_V1i (v := v2) (S1 := S3) d_189_5 ml_0_323 kd_69 rfl (Nat.le_of_ble_eq_true rfl) (Nat.le_of_ble_eq_true rfl) (c_190 (by omega) q1) ?_
  obtain rfl := Option.some.inj h
  exact x_ret (r := some (.int v2)) d_189_8 ⟨_, rfl, rfl⟩
/-! NinetyPlayers$Witness.soundersOf -/
def b_194_5 (F G : Nat) (S : St) (z0 : Nat) (z1 : Int32) (z2 : Int32) (rec : Int32 → Int32 → Option (Int32)) (w3 : Int32) (w4 : Int32) : Option (Int32) :=
  if (S.1 z0 6) ≤ w4 then some w3 else gd (inB w4 10) (lt (S.1 (z0 + 5) w4.toNatClampNeg) fun v3 => gd (inB w4 10) (if (S.1 (z0 + 6) w4.toNatClampNeg) = z2 then if z1 < v3 then lt (w4 + 1) fun v10 => rec w3 v10 else gd (inB w4 10) (if (v3 + (S.1 (z0 + 7) w4.toNatClampNeg)) ≤ z1 then lt (w4 + 1) fun v14 => rec w3 v14 else lt (w3 ||| ((1 : Int32) <<< (w4 &&& 31))) fun v16 => lt (w4 + 1) fun v18 => rec v16 v18) else lt (w4 + 1) fun v7 => rec w3 v7))
def fI_soundersOf (F G : Nat) (S : St) (o2 : Nat) (p2 : Int32) (p3 : Int32) : Option (Int32) :=
  gd (isSc o2) (fx2 (b_194_5 F G S o2 p2 p3) F (0 : Int32) (0 : Int32))
set_option maxRecDepth 100000 in
set_option maxHeartbeats 4000000 in
theorem T_194_5 {X : Nat × (Nat → Int32)} {D F G : Nat} (hD : 0 ≤ D) {S : St} {z0 : Nat} {z1 : Int32} {z2 : Int32} (hz0 : isSc z0 = true) : ∀ (f : Nat) (w3 : Int32) (w4 : Int32) (res : Int32), fx2 (b_194_5 F G S z0 z1 z2 ) f w3 w4 = some res → Ek X (D) m194 5 [(0, .ref z0), (1, .int z1), (2, .int z2), (3, .int w3), (4, .int w4)] [] S (some (.int res)) S := by
  refine fx2_ind ?_
  intro rec ih w3 w4 res h
  unfold b_194_5 at h
  refine x_iload d_194_5 4 rfl ?_
  refine x_aload_n d_194_7 rfl 0 rfl ?_
  refine y_getI d_194_8 fl_10_49 rfl (ksSc hz0) ?_
  refine x_icmp_ge (tgt := 67) d_194_11 rfl (fun c1 => ?_) (fun c1 => ?_)
  · replace h := ite_t c1 h
    refine x_iload_n d_194_67 rfl 3 rfl ?_
    obtain rfl := Option.some.inj h
    exact x_ret (r := some (.int w3)) d_194_68 ⟨_, rfl, rfl⟩
  · replace h := ite_f c1 h
    refine x_aload_n d_194_14 rfl 0 rfl ?_
    refine y_getR d_194_15 fl_10_72 rfl (ksSc hz0) (rrSc_11 hz0) ?_
    refine x_iload d_194_18 4 rfl ?_
    obtain ⟨g2, h⟩ := gd_inv h
    refine y_iald d_194_20 (ksSc_5 hz0) g2 ?_
    obtain ⟨v3, e4, h⟩ := lt_inv h
    refine y_istore (L1 := [(0, .ref z0), (1, .int z1), (2, .int z2), (3, .int w3), (4, .int w4), (5, .int v3)]) e4 d_194_21 (Nat.le_of_ble_eq_true rfl) rfl rfl ?_
    refine x_aload_n d_194_23 rfl 0 rfl ?_
    refine y_getR d_194_24 fl_10_75 rfl (ksSc hz0) (rrSc_12 hz0) ?_
    refine x_iload d_194_27 4 rfl ?_
    obtain ⟨g5, h⟩ := gd_inv h
    refine y_iald d_194_29 (ksSc_6 hz0) g5 ?_
    refine x_iload_n d_194_30 rfl 2 rfl ?_
    refine x_icmp_ne (tgt := 61) d_194_31 rfl (fun c6 => ?_) (fun c6 => ?_)
    · replace h := ite_f c6 h
      obtain ⟨v7, e8, h⟩ := lt_inv h
      refine y_iinc (L1 := [(0, .ref z0), (1, .int z1), (2, .int z2), (3, .int w3), (4, .int v7), (5, .int v3)]) e8 ic_1 d_194_61 4 rfl (Nat.le_of_ble_eq_true rfl) rfl rfl ?_
      refine x_goto (tgt := 5) d_194_64 rfl ?_
      refine y_pick (L1 := [(0, .ref z0), (1, .int z1), (2, .int z2), (3, .int w3), (4, .int v7)]) [0, 1, 2, 3, 4] rfl ?_
      exact ih w3 v7 _ h
    · replace h := ite_t c6 h
      refine x_iload d_194_34 5 rfl ?_
      refine x_iload_n d_194_36 rfl 1 rfl ?_
      refine x_icmp_gt (tgt := 61) d_194_37 rfl (fun c9 => ?_) (fun c9 => ?_)
      · replace h := ite_t c9 h
        obtain ⟨v10, e11, h⟩ := lt_inv h
        refine y_iinc (L1 := [(0, .ref z0), (1, .int z1), (2, .int z2), (3, .int w3), (4, .int v10), (5, .int v3)]) e11 ic_1 d_194_61 4 rfl (Nat.le_of_ble_eq_true rfl) rfl rfl ?_
        refine x_goto (tgt := 5) d_194_64 rfl ?_
        refine y_pick (L1 := [(0, .ref z0), (1, .int z1), (2, .int z2), (3, .int w3), (4, .int v10)]) [0, 1, 2, 3, 4] rfl ?_
        exact ih w3 v10 _ h
      · replace h := ite_f c9 h
        refine x_iload_n d_194_40 rfl 1 rfl ?_
        refine x_iload d_194_41 5 rfl ?_
        refine x_aload_n d_194_43 rfl 0 rfl ?_
        refine y_getR d_194_44 fl_10_76 rfl (ksSc hz0) (rrSc_13 hz0) ?_
        refine x_iload d_194_47 4 rfl ?_
        obtain ⟨g12, h⟩ := gd_inv h
        refine y_iald d_194_49 (ksSc_7 hz0) g12 ?_
        refine x_iadd d_194_50 ?_
        refine x_icmp_ge (tgt := 61) d_194_51 rfl (fun c13 => ?_) (fun c13 => ?_)
        · replace h := ite_t c13 h
          obtain ⟨v14, e15, h⟩ := lt_inv h
          refine y_iinc (L1 := [(0, .ref z0), (1, .int z1), (2, .int z2), (3, .int w3), (4, .int v14), (5, .int v3)]) e15 ic_1 d_194_61 4 rfl (Nat.le_of_ble_eq_true rfl) rfl rfl ?_
          refine x_goto (tgt := 5) d_194_64 rfl ?_
          refine y_pick (L1 := [(0, .ref z0), (1, .int z1), (2, .int z2), (3, .int w3), (4, .int v14)]) [0, 1, 2, 3, 4] rfl ?_
          exact ih w3 v14 _ h
        · replace h := ite_f c13 h
          refine x_iload_n d_194_54 rfl 3 rfl ?_
          refine x_iconst d_194_55 ic_1 ?_
          refine x_iload d_194_56 4 rfl ?_
          refine x_ishl d_194_58 ?_
          refine x_ior d_194_59 ?_
          obtain ⟨v16, e17, h⟩ := lt_inv h
          refine y_istore_n (L1 := [(0, .ref z0), (1, .int z1), (2, .int z2), (3, .int v16), (4, .int w4), (5, .int v3)]) e17 d_194_60 rfl (Nat.le_of_ble_eq_true rfl) rfl rfl ?_
          obtain ⟨v18, e19, h⟩ := lt_inv h
          refine y_iinc (L1 := [(0, .ref z0), (1, .int z1), (2, .int z2), (3, .int v16), (4, .int v18), (5, .int v3)]) e19 ic_1 d_194_61 4 rfl (Nat.le_of_ble_eq_true rfl) rfl rfl ?_
          refine x_goto (tgt := 5) d_194_64 rfl ?_
          refine y_pick (L1 := [(0, .ref z0), (1, .int z1), (2, .int z2), (3, .int v16), (4, .int v18)]) [0, 1, 2, 3, 4] rfl ?_
          exact ih v16 v18 _ h
set_option maxRecDepth 100000 in
set_option maxHeartbeats 4000000 in
theorem c_194 {X : Nat × (Nat → Int32)} {D F G : Nat} (hD : 0 ≤ D) {S : St} {o2 : Nat} {p2 : Int32} {p3 : Int32} {res : Int32} (h : fI_soundersOf F G S o2 p2 p3 = some res) : Ek X (D) m194 0 [(0, .ref o2), (1, .int p2), (2, .int p3)] [] S (some (.int res)) S := by
  unfold fI_soundersOf at h
  obtain ⟨gg0, h⟩ := gd_inv h
  refine x_iconst d_194_0 ic_0 ?_
  refine x_istore_n (L1 := [(0, .ref o2), (1, .int p2), (2, .int p3), (3, .int (0 : Int32))]) d_194_1 rfl (Nat.le_of_ble_eq_true rfl) rfl rfl ?_
  refine x_iconst d_194_2 ic_0 ?_
  refine x_istore (L1 := [(0, .ref o2), (1, .int p2), (2, .int p3), (3, .int (0 : Int32)), (4, .int (0 : Int32))]) d_194_3 (Nat.le_of_ble_eq_true rfl) rfl rfl ?_
  refine T_194_5 (by omega) gg0  F (0 : Int32) (0 : Int32) _ h
