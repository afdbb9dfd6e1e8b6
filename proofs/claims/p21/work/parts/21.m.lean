/-! NinetyPlayers$Reader.either, NinetyPlayers$Reader.both, NinetyPlayers$Reader.one, NinetyPlayers$Reader.sum, NinetyPlayers$Reader.term, NinetyPlayers$Reader.unit -/
def b_R_either_7 (F G : Nat) (P : Nat → Int32 → St → Option St) (z1 : Int32) (rec : Int32 → St → Option (St)) (w2 : Int32) (S : St) : Option (St) :=
  if (1600 : Int32) ≤ w2 then some S else bd (fR_isWord F G S (12 : Int32)) fun v5 => if v5 = 0 then some S else bd (fT_step F G S ) fun S8 => bd (P 1 z1 S8) fun S10 => gd (isSc S10.2.2.2) (bd (fF_put F G S10 (S10.2.2.2 + 9) (-12 : Int32)) fun S13 => lt (w2 + 1) fun v14 => rec v14 S13)
def fR_either (F G : Nat) (P : Nat → Int32 → St → Option St) (p1 : Int32) (S : St) : Option (St) :=
  bd (P 1 p1 S) fun S2 => fx2 (b_R_either_7 F G P p1) F (0 : Int32) S2
def b_R_both_7 (F G : Nat) (P : Nat → Int32 → St → Option St) (z1 : Int32) (rec : Int32 → St → Option (St)) (w2 : Int32) (S : St) : Option (St) :=
  if (1600 : Int32) ≤ w2 then some S else bd (fR_isWord F G S (13 : Int32)) fun v5 => if v5 = 0 then some S else bd (fT_step F G S ) fun S8 => bd (P 2 z1 S8) fun S10 => gd (isSc S10.2.2.2) (bd (fF_put F G S10 (S10.2.2.2 + 9) (-13 : Int32)) fun S13 => lt (w2 + 1) fun v14 => rec v14 S13)
def fR_both (F G : Nat) (P : Nat → Int32 → St → Option St) (p1 : Int32) (S : St) : Option (St) :=
  bd (P 2 p1 S) fun S2 => fx2 (b_R_both_7 F G P p1) F (0 : Int32) S2
def j_R_one_80 (F G : Nat) (P : Nat → Int32 → St → Option St) (S : St) (y1 : Int32) : Option (St) :=
  lt (S.1 2 5) fun v25 => bd (fT_step F G S ) fun S28 => bd (P 3 y1 S28) fun S30 => gd (isSc S30.2.2.2) (bd (fF_put F G S30 (S30.2.2.2 + 9) (-v25)) fun S33 => some S33)
def fR_one (F G : Nat) (P : Nat → Int32 → St → Option St) (p1 : Int32) (S : St) : Option (St) :=
  bd (fR_isWord F G S (14 : Int32)) fun v2 => if v2 = 0 then bd (P 3 p1 S) fun S5 => bd (fR_isSign F G S5 (60 : Int32)) fun v7 => if v7 = 0 then bd (fR_isSign F G S5 (62 : Int32)) fun v10 => if v10 = 0 then bd (fR_isSign F G S5 (61 : Int32)) fun v13 => if v13 = 0 then some S5 else j_R_one_80 F G P  S5 p1 else j_R_one_80 F G P  S5 p1 else j_R_one_80 F G P  S5 p1 else if p1 < (7 : Int32) then bd (fT_step F G S ) fun S17 => bd (P 2 (p1 + (1 : Int32)) S17) fun S19 => gd (isSc S19.2.2.2) (bd (fF_put F G S19 (S19.2.2.2 + 9) (-14 : Int32)) fun S22 => some S22) else bd (fR_refuse F G S (2 : Int32)) fun S24 => some S24
def j_R_sum_32 (F G : Nat) (P : Nat → Int32 → St → Option St) (z1 : Int32) (rec : Int32 → St → Option (St)) (S : St) (y2 : Int32) : Option (St) :=
  lt (S.1 2 5) fun v10 => bd (fT_step F G S ) fun S13 => bd (P 4 z1 S13) fun S15 => gd (isSc S15.2.2.2) (bd (fF_put F G S15 (S15.2.2.2 + 9) (-v10)) fun S18 => lt (y2 + 1) fun v19 => rec v19 S18)
def b_R_sum_7 (F G : Nat) (P : Nat → Int32 → St → Option St) (z1 : Int32) (rec : Int32 → St → Option (St)) (w2 : Int32) (S : St) : Option (St) :=
  if (1600 : Int32) ≤ w2 then some S else bd (fR_isSign F G S (43 : Int32)) fun v5 => if v5 = 0 then bd (fR_isSign F G S (45 : Int32)) fun v8 => if v8 = 0 then some S else j_R_sum_32 F G P z1 rec  S w2 else j_R_sum_32 F G P z1 rec  S w2
def fR_sum (F G : Nat) (P : Nat → Int32 → St → Option St) (p1 : Int32) (S : St) : Option (St) :=
  bd (P 4 p1 S) fun S2 => fx2 (b_R_sum_7 F G P p1) F (0 : Int32) S2
def j_R_term_41 (F G : Nat) (P : Nat → Int32 → St → Option St) (z1 : Int32) (rec : Int32 → St → Option (St)) (S : St) (y2 : Int32) : Option (St) :=
  lt (S.1 2 5) fun v13 => bd (fT_step F G S ) fun S16 => bd (P 5 z1 S16) fun S18 => gd (isSc S18.2.2.2) (bd (fF_put F G S18 (S18.2.2.2 + 9) (-v13)) fun S21 => lt (y2 + 1) fun v22 => rec v22 S21)
def b_R_term_7 (F G : Nat) (P : Nat → Int32 → St → Option St) (z1 : Int32) (rec : Int32 → St → Option (St)) (w2 : Int32) (S : St) : Option (St) :=
  if (1600 : Int32) ≤ w2 then some S else bd (fR_isSign F G S (42 : Int32)) fun v5 => if v5 = 0 then bd (fR_isSign F G S (47 : Int32)) fun v8 => if v8 = 0 then bd (fR_isSign F G S (37 : Int32)) fun v11 => if v11 = 0 then some S else j_R_term_41 F G P z1 rec  S w2 else j_R_term_41 F G P z1 rec  S w2 else j_R_term_41 F G P z1 rec  S w2
def fR_term (F G : Nat) (P : Nat → Int32 → St → Option St) (p1 : Int32) (S : St) : Option (St) :=
  bd (P 5 p1 S) fun S2 => fx2 (b_R_term_7 F G P p1) F (0 : Int32) S2
def j_R_unit_118 (F G : Nat) (P : Nat → Int32 → St → Option St) (S : St) (y1 : Int32) (y2 : Int32) (y3 : Int32) : Option (St) :=
  gd (isSc S.2.2.2) (lt (sI S (S.2.2.2 + 9) 0 ((S.1 (S.2.2.2 + 9) 0) + (1 : Int32))) fun S20 => lt (S20.1 2 5) fun v22 => bd (fT_step F G S20 ) fun S25 => if y2 = 0 then gd (isSc S25.2.2.2) (if y3 = 0 then bd (fF_put F G S25 (S25.2.2.2 + 9) v22) fun S30 => some S30 else bd (fF_put F G S25 (S25.2.2.2 + 9) (-v22)) fun S32 => some S32) else bd (P 0 (y1 + (1 : Int32)) S25) fun S34 => bd (fR_takeSign F G S34 (41 : Int32)) fun S36 => some S36)
def j_R_unit_86 (F G : Nat) (P : Nat → Int32 → St → Option St) (S : St) (y1 : Int32) (y2 : Int32) (y3 : Int32) (s0 : Int32) : Option (St) :=
  if s0 = 0 then bd (fR_refuse F G S (2 : Int32)) fun S13 => some S13 else if y2 = 0 then if y3 = 0 then if (S.1 2 4) = (3 : Int32) then j_R_unit_118 F G P  S y1 y2 y3 else bd (fR_refuse F G S (2 : Int32)) fun S18 => some S18 else j_R_unit_118 F G P  S y1 y2 y3 else j_R_unit_118 F G P  S y1 y2 y3
def j_R_unit_85 (F G : Nat) (P : Nat → Int32 → St → Option St) (S : St) (y1 : Int32) (y2 : Int32) (y3 : Int32) : Option (St) :=
  j_R_unit_86 F G P  S y1 y2 y3 (0 : Int32)
def j_R_unit_81 (F G : Nat) (P : Nat → Int32 → St → Option St) (S : St) (y1 : Int32) (y2 : Int32) (y3 : Int32) : Option (St) :=
  j_R_unit_86 F G P  S y1 y2 y3 (1 : Int32)
def j_R_unit_55 (F G : Nat) (P : Nat → Int32 → St → Option St) (S : St) (y1 : Int32) (y2 : Int32) (s0 : Int32) : Option (St) :=
  gd (isSc S.2.2.2) (if (30 : Int32) ≤ (S.1 (S.2.2.2 + 9) 0) then j_R_unit_85 F G P  S y1 y2 s0 else if y2 = 0 then j_R_unit_81 F G P  S y1 y2 s0 else if (7 : Int32) ≤ y1 then j_R_unit_85 F G P  S y1 y2 s0 else j_R_unit_81 F G P  S y1 y2 s0)
def j_R_unit_54 (F G : Nat) (P : Nat → Int32 → St → Option St) (S : St) (y1 : Int32) (y2 : Int32) : Option (St) :=
  j_R_unit_55 F G P  S y1 y2 (0 : Int32)
def fR_unit (F G : Nat) (P : Nat → Int32 → St → Option St) (p1 : Int32) (S : St) : Option (St) :=
  if (S.1 1 0) = 0 then bd (fR_isSign F G S (40 : Int32)) fun v3 => if (S.1 2 4) = (1 : Int32) then if (S.1 2 5) < (15 : Int32) then j_R_unit_54 F G P  S p1 v3 else if (20 : Int32) < (S.1 2 5) then j_R_unit_54 F G P  S p1 v3 else j_R_unit_55 F G P  S p1 v3 (1 : Int32) else j_R_unit_54 F G P  S p1 v3 else some S
def fR_parse (F G : Nat) : Nat → Nat → Int32 → St → Option St
  | 0, _, _, _ => none
  | n + 1, l, p1, S => if l = 0 then fR_either F G (fR_parse F G n) p1 S else if l = 1 then fR_both F G (fR_parse F G n) p1 S else if l = 2 then fR_one F G (fR_parse F G n) p1 S else if l = 3 then fR_sum F G (fR_parse F G n) p1 S else if l = 4 then fR_term F G (fR_parse F G n) p1 S else if l = 5 then fR_unit F G (fR_parse F G n) p1 S else none
set_option maxRecDepth 100000 in
set_option maxHeartbeats 4000000 in
theorem T_R_either_7 {X : Nat × (Nat → Int32)} {D F G : Nat} (hD : 8 ≤ D) {P : Nat → Int32 → St → Option St} (hP0 : ∀ (a1 : Int32) (S S1 : St), P 0 a1 S = some S1 → Ek X D mR_either 0 [(0, .ref 1), (1, .int a1)] [] S none S1) (hP1 : ∀ (a1 : Int32) (S S1 : St), P 1 a1 S = some S1 → Ek X D mR_both 0 [(0, .ref 1), (1, .int a1)] [] S none S1) (hP2 : ∀ (a1 : Int32) (S S1 : St), P 2 a1 S = some S1 → Ek X D mR_one 0 [(0, .ref 1), (1, .int a1)] [] S none S1) (hP3 : ∀ (a1 : Int32) (S S1 : St), P 3 a1 S = some S1 → Ek X D mR_sum 0 [(0, .ref 1), (1, .int a1)] [] S none S1) (hP4 : ∀ (a1 : Int32) (S S1 : St), P 4 a1 S = some S1 → Ek X D mR_term 0 [(0, .ref 1), (1, .int a1)] [] S none S1) (hP5 : ∀ (a1 : Int32) (S S1 : St), P 5 a1 S = some S1 → Ek X D mR_unit 0 [(0, .ref 1), (1, .int a1)] [] S none S1) {z1 : Int32} : ∀ (f : Nat) (w2 : Int32) (S : St) (res : St), fx2 (b_R_either_7 F G P z1 ) f w2 S = some res → Ek X (D + 1) mR_either 7 [(0, .ref 1), (1, .int z1), (2, .int w2)] [] S none res := by
  refine fx2_ind ?_
  intro rec ih w2 S res h
  unfold b_R_either_7 at h
  refine x_iload_n d_R_either_7 rfl 2 rfl ?_
  refine x_sipush d_R_either_8 sp_1600 ?_
  refine x_icmp_ge (tgt := 53) d_R_either_11 rfl (fun c3 => ?_) (fun c3 => ?_)
  · replace h := ite_t c3 h
    obtain rfl := Option.some.inj h
    exact x_ret (r := none) d_R_either_53 rfl
  · replace h := ite_f c3 h
    refine x_aload_n d_R_either_14 rfl 0 rfl ?_
    refine x_bipush d_R_either_15 bp_12 ?_
    obtain ⟨v5, q4, h⟩ := bd_inv h
    refine y_V1i (v := v5) (S1 := S) d_R_either_17 ml_1_110 kd_1 rfl (Nat.le_of_ble_eq_true rfl) (Nat.le_of_ble_eq_true rfl) (c_R_isWord (by omega) q4) ?_
    refine x_if_eq (tgt := 53) d_R_either_20 rfl (fun c6 => ?_) (fun c6 => ?_)
    · replace h := ite_t c6 h
      obtain rfl := Option.some.inj h
      exact x_ret (r := none) d_R_either_53 rfl
    · replace h := ite_f c6 h
      refine x_aload_n d_R_either_23 rfl 0 rfl ?_
      refine y_getR d_R_either_24 fl_1_18 rfl kd_1 rr_1_2 ?_
      obtain ⟨S8, q7, h⟩ := bd_inv h
      refine y_V0v (S1 := S8) d_R_either_27 ml_1_55 kd_2 rfl (Nat.le_of_ble_eq_true rfl) (Nat.le_of_ble_eq_true rfl) (c_T_step (by omega) q7) ?_
      refine x_aload_n d_R_either_30 rfl 0 rfl ?_
      refine x_iload_n d_R_either_31 rfl 1 rfl ?_
      obtain ⟨S10, q9, h⟩ := bd_inv h
      refine y_V1v (S1 := S10) d_R_either_32 ml_1_137 kd_1 rfl (Nat.le_of_ble_eq_true rfl) (Nat.le_of_ble_eq_true rfl) (hP1 _ _ _ q9) ?_
      refine x_aload_n d_R_either_35 rfl 0 rfl ?_
      refine y_getR d_R_either_36 fl_1_25 rfl kd_1 rr_draft ?_
      obtain ⟨g11, h⟩ := gd_inv h
      refine y_getR d_R_either_39 fl_1_140 rfl (ksSc g11) (rrSc_15 g11) ?_
      refine x_bipush d_R_either_42 bp_m12 ?_
      obtain ⟨S13, q12, h⟩ := bd_inv h
      refine y_V1v (S1 := S13) d_R_either_44 ml_1_144 (ksFo (isFo_of g11)) rfl (Nat.le_of_ble_eq_true rfl) (Nat.le_of_ble_eq_true rfl) (c_F_put (by omega) q12) ?_
      obtain ⟨v14, e15, h⟩ := lt_inv h
      refine y_iinc (L1 := [(0, .ref 1), (1, .int z1), (2, .int v14)]) e15 ic_1 d_R_either_47 2 rfl (Nat.le_of_ble_eq_true rfl) rfl rfl ?_
      refine x_goto (tgt := 7) d_R_either_50 rfl ?_
      exact ih v14 S13 _ h
set_option maxRecDepth 100000 in
set_option maxHeartbeats 4000000 in
theorem cb_R_either {X : Nat × (Nat → Int32)} {D F G : Nat} (hD : 8 ≤ D) {P : Nat → Int32 → St → Option St} (hP0 : ∀ (a1 : Int32) (S S1 : St), P 0 a1 S = some S1 → Ek X D mR_either 0 [(0, .ref 1), (1, .int a1)] [] S none S1) (hP1 : ∀ (a1 : Int32) (S S1 : St), P 1 a1 S = some S1 → Ek X D mR_both 0 [(0, .ref 1), (1, .int a1)] [] S none S1) (hP2 : ∀ (a1 : Int32) (S S1 : St), P 2 a1 S = some S1 → Ek X D mR_one 0 [(0, .ref 1), (1, .int a1)] [] S none S1) (hP3 : ∀ (a1 : Int32) (S S1 : St), P 3 a1 S = some S1 → Ek X D mR_sum 0 [(0, .ref 1), (1, .int a1)] [] S none S1) (hP4 : ∀ (a1 : Int32) (S S1 : St), P 4 a1 S = some S1 → Ek X D mR_term 0 [(0, .ref 1), (1, .int a1)] [] S none S1) (hP5 : ∀ (a1 : Int32) (S S1 : St), P 5 a1 S = some S1 → Ek X D mR_unit 0 [(0, .ref 1), (1, .int a1)] [] S none S1) {S : St} {p1 : Int32} {res : St} (h : fR_either F G P p1 S = some res) : Ek X (D + 1) mR_either 0 [(0, .ref 1), (1, .int p1)] [] S none res := by
  unfold fR_either at h
  refine x_aload_n d_R_either_0 rfl 0 rfl ?_
  refine x_iload_n d_R_either_1 rfl 1 rfl ?_
  obtain ⟨S2, q1, h⟩ := bd_inv h
  refine y_V1v (S1 := S2) d_R_either_2 ml_1_137 kd_1 rfl (Nat.le_of_ble_eq_true rfl) (Nat.le_of_ble_eq_true rfl) (hP1 _ _ _ q1) ?_
  refine x_iconst d_R_either_5 ic_0 ?_
  refine x_istore_n (L1 := [(0, .ref 1), (1, .int p1), (2, .int (0 : Int32))]) d_R_either_6 rfl (Nat.le_of_ble_eq_true rfl) rfl rfl ?_
  refine T_R_either_7 hD hP0 hP1 hP2 hP3 hP4 hP5   F (0 : Int32) S2 _ h
set_option maxRecDepth 100000 in
set_option maxHeartbeats 4000000 in
theorem T_R_both_7 {X : Nat × (Nat → Int32)} {D F G : Nat} (hD : 8 ≤ D) {P : Nat → Int32 → St → Option St} (hP0 : ∀ (a1 : Int32) (S S1 : St), P 0 a1 S = some S1 → Ek X D mR_either 0 [(0, .ref 1), (1, .int a1)] [] S none S1) (hP1 : ∀ (a1 : Int32) (S S1 : St), P 1 a1 S = some S1 → Ek X D mR_both 0 [(0, .ref 1), (1, .int a1)] [] S none S1) (hP2 : ∀ (a1 : Int32) (S S1 : St), P 2 a1 S = some S1 → Ek X D mR_one 0 [(0, .ref 1), (1, .int a1)] [] S none S1) (hP3 : ∀ (a1 : Int32) (S S1 : St), P 3 a1 S = some S1 → Ek X D mR_sum 0 [(0, .ref 1), (1, .int a1)] [] S none S1) (hP4 : ∀ (a1 : Int32) (S S1 : St), P 4 a1 S = some S1 → Ek X D mR_term 0 [(0, .ref 1), (1, .int a1)] [] S none S1) (hP5 : ∀ (a1 : Int32) (S S1 : St), P 5 a1 S = some S1 → Ek X D mR_unit 0 [(0, .ref 1), (1, .int a1)] [] S none S1) {z1 : Int32} : ∀ (f : Nat) (w2 : Int32) (S : St) (res : St), fx2 (b_R_both_7 F G P z1 ) f w2 S = some res → Ek X (D + 1) mR_both 7 [(0, .ref 1), (1, .int z1), (2, .int w2)] [] S none res := by
  refine fx2_ind ?_
  intro rec ih w2 S res h
  unfold b_R_both_7 at h
  refine x_iload_n d_R_both_7 rfl 2 rfl ?_
  refine x_sipush d_R_both_8 sp_1600 ?_
  refine x_icmp_ge (tgt := 53) d_R_both_11 rfl (fun c3 => ?_) (fun c3 => ?_)
  · replace h := ite_t c3 h
    obtain rfl := Option.some.inj h
    exact x_ret (r := none) d_R_both_53 rfl
  · replace h := ite_f c3 h
    refine x_aload_n d_R_both_14 rfl 0 rfl ?_
    refine x_bipush d_R_both_15 bp_13 ?_
    obtain ⟨v5, q4, h⟩ := bd_inv h
    refine y_V1i (v := v5) (S1 := S) d_R_both_17 ml_1_110 kd_1 rfl (Nat.le_of_ble_eq_true rfl) (Nat.le_of_ble_eq_true rfl) (c_R_isWord (by omega) q4) ?_
    refine x_if_eq (tgt := 53) d_R_both_20 rfl (fun c6 => ?_) (fun c6 => ?_)
    · replace h := ite_t c6 h
      obtain rfl := Option.some.inj h
      exact x_ret (r := none) d_R_both_53 rfl
    · replace h := ite_f c6 h
      refine x_aload_n d_R_both_23 rfl 0 rfl ?_
      refine y_getR d_R_both_24 fl_1_18 rfl kd_1 rr_1_2 ?_
      obtain ⟨S8, q7, h⟩ := bd_inv h
      refine y_V0v (S1 := S8) d_R_both_27 ml_1_55 kd_2 rfl (Nat.le_of_ble_eq_true rfl) (Nat.le_of_ble_eq_true rfl) (c_T_step (by omega) q7) ?_
      refine x_aload_n d_R_both_30 rfl 0 rfl ?_
      refine x_iload_n d_R_both_31 rfl 1 rfl ?_
      obtain ⟨S10, q9, h⟩ := bd_inv h
      refine y_V1v (S1 := S10) d_R_both_32 ml_1_149 kd_1 rfl (Nat.le_of_ble_eq_true rfl) (Nat.le_of_ble_eq_true rfl) (hP2 _ _ _ q9) ?_
      refine x_aload_n d_R_both_35 rfl 0 rfl ?_
      refine y_getR d_R_both_36 fl_1_25 rfl kd_1 rr_draft ?_
      obtain ⟨g11, h⟩ := gd_inv h
      refine y_getR d_R_both_39 fl_1_140 rfl (ksSc g11) (rrSc_15 g11) ?_
      refine x_bipush d_R_both_42 bp_m13 ?_
      obtain ⟨S13, q12, h⟩ := bd_inv h
      refine y_V1v (S1 := S13) d_R_both_44 ml_1_144 (ksFo (isFo_of g11)) rfl (Nat.le_of_ble_eq_true rfl) (Nat.le_of_ble_eq_true rfl) (c_F_put (by omega) q12) ?_
      obtain ⟨v14, e15, h⟩ := lt_inv h
      refine y_iinc (L1 := [(0, .ref 1), (1, .int z1), (2, .int v14)]) e15 ic_1 d_R_both_47 2 rfl (Nat.le_of_ble_eq_true rfl) rfl rfl ?_
      refine x_goto (tgt := 7) d_R_both_50 rfl ?_
      exact ih v14 S13 _ h
set_option maxRecDepth 100000 in
set_option maxHeartbeats 4000000 in
theorem cb_R_both {X : Nat × (Nat → Int32)} {D F G : Nat} (hD : 8 ≤ D) {P : Nat → Int32 → St → Option St} (hP0 : ∀ (a1 : Int32) (S S1 : St), P 0 a1 S = some S1 → Ek X D mR_either 0 [(0, .ref 1), (1, .int a1)] [] S none S1) (hP1 : ∀ (a1 : Int32) (S S1 : St), P 1 a1 S = some S1 → Ek X D mR_both 0 [(0, .ref 1), (1, .int a1)] [] S none S1) (hP2 : ∀ (a1 : Int32) (S S1 : St), P 2 a1 S = some S1 → Ek X D mR_one 0 [(0, .ref 1), (1, .int a1)] [] S none S1) (hP3 : ∀ (a1 : Int32) (S S1 : St), P 3 a1 S = some S1 → Ek X D mR_sum 0 [(0, .ref 1), (1, .int a1)] [] S none S1) (hP4 : ∀ (a1 : Int32) (S S1 : St), P 4 a1 S = some S1 → Ek X D mR_term 0 [(0, .ref 1), (1, .int a1)] [] S none S1) (hP5 : ∀ (a1 : Int32) (S S1 : St), P 5 a1 S = some S1 → Ek X D mR_unit 0 [(0, .ref 1), (1, .int a1)] [] S none S1) {S : St} {p1 : Int32} {res : St} (h : fR_both F G P p1 S = some res) : Ek X (D + 1) mR_both 0 [(0, .ref 1), (1, .int p1)] [] S none res := by
  unfold fR_both at h
  refine x_aload_n d_R_both_0 rfl 0 rfl ?_
  refine x_iload_n d_R_both_1 rfl 1 rfl ?_
  obtain ⟨S2, q1, h⟩ := bd_inv h
  refine y_V1v (S1 := S2) d_R_both_2 ml_1_149 kd_1 rfl (Nat.le_of_ble_eq_true rfl) (Nat.le_of_ble_eq_true rfl) (hP2 _ _ _ q1) ?_
  refine x_iconst d_R_both_5 ic_0 ?_
  refine x_istore_n (L1 := [(0, .ref 1), (1, .int p1), (2, .int (0 : Int32))]) d_R_both_6 rfl (Nat.le_of_ble_eq_true rfl) rfl rfl ?_
  refine T_R_both_7 hD hP0 hP1 hP2 hP3 hP4 hP5   F (0 : Int32) S2 _ h
set_option maxRecDepth 100000 in
set_option maxHeartbeats 4000000 in
theorem cb_R_one {X : Nat × (Nat → Int32)} {D F G : Nat} (hD : 8 ≤ D) {P : Nat → Int32 → St → Option St} (hP0 : ∀ (a1 : Int32) (S S1 : St), P 0 a1 S = some S1 → Ek X D mR_either 0 [(0, .ref 1), (1, .int a1)] [] S none S1) (hP1 : ∀ (a1 : Int32) (S S1 : St), P 1 a1 S = some S1 → Ek X D mR_both 0 [(0, .ref 1), (1, .int a1)] [] S none S1) (hP2 : ∀ (a1 : Int32) (S S1 : St), P 2 a1 S = some S1 → Ek X D mR_one 0 [(0, .ref 1), (1, .int a1)] [] S none S1) (hP3 : ∀ (a1 : Int32) (S S1 : St), P 3 a1 S = some S1 → Ek X D mR_sum 0 [(0, .ref 1), (1, .int a1)] [] S none S1) (hP4 : ∀ (a1 : Int32) (S S1 : St), P 4 a1 S = some S1 → Ek X D mR_term 0 [(0, .ref 1), (1, .int a1)] [] S none S1) (hP5 : ∀ (a1 : Int32) (S S1 : St), P 5 a1 S = some S1 → Ek X D mR_unit 0 [(0, .ref 1), (1, .int a1)] [] S none S1) {S : St} {p1 : Int32} {res : St} (h : fR_one F G P p1 S = some res) : Ek X (D + 1) mR_one 0 [(0, .ref 1), (1, .int p1)] [] S none res := by
  unfold fR_one at h
  have J80 : ∀ (S : St) (y1 : Int32) (res : St), j_R_one_80 F G P S y1 = some res → Ek X (D + 1) mR_one 80 [(0, .ref 1), (1, .int y1)] [] S none res := by
    intro S y1 res h
    unfold j_R_one_80 at h
    refine x_aload_n d_R_one_80 rfl 0 rfl ?_
    refine y_getR d_R_one_81 fl_1_18 rfl kd_1 rr_1_2 ?_
    refine y_getI d_R_one_84 fl_1_44 rfl kd_2 ?_
    obtain ⟨v25, e26, h⟩ := lt_inv h
    refine y_istore_n (L1 := [(0, .ref 1), (1, .int y1), (2, .int v25)]) e26 d_R_one_87 rfl (Nat.le_of_ble_eq_true rfl) rfl rfl ?_
    refine x_aload_n d_R_one_88 rfl 0 rfl ?_
    refine y_getR d_R_one_89 fl_1_18 rfl kd_1 rr_1_2 ?_
    obtain ⟨S28, q27, h⟩ := bd_inv h
    refine y_V0v (S1 := S28) d_R_one_92 ml_1_55 kd_2 rfl (Nat.le_of_ble_eq_true rfl) (Nat.le_of_ble_eq_true rfl) (c_T_step (by omega) q27) ?_
    refine x_aload_n d_R_one_95 rfl 0 rfl ?_
    refine x_iload_n d_R_one_96 rfl 1 rfl ?_
    obtain ⟨S30, q29, h⟩ := bd_inv h
    refine y_V1v (S1 := S30) d_R_one_97 ml_1_152 kd_1 rfl (Nat.le_of_ble_eq_true rfl) (Nat.le_of_ble_eq_true rfl) (hP3 _ _ _ q29) ?_
    refine x_aload_n d_R_one_100 rfl 0 rfl ?_
    refine y_getR d_R_one_101 fl_1_25 rfl kd_1 rr_draft ?_
    obtain ⟨g31, h⟩ := gd_inv h
    refine y_getR d_R_one_104 fl_1_140 rfl (ksSc g31) (rrSc_15 g31) ?_
    refine x_iload_n d_R_one_107 rfl 2 rfl ?_
    refine x_ineg d_R_one_108 ?_
    obtain ⟨S33, q32, h⟩ := bd_inv h
    refine y_V1v (S1 := S33) d_R_one_109 ml_1_144 (ksFo (isFo_of g31)) rfl (Nat.le_of_ble_eq_true rfl) (Nat.le_of_ble_eq_true rfl) (c_F_put (by omega) q32) ?_
    obtain rfl := Option.some.inj h
    exact x_ret (r := none) d_R_one_112 rfl
  refine x_aload_n d_R_one_0 rfl 0 rfl ?_
  refine x_bipush d_R_one_1 bp_14 ?_
  obtain ⟨v2, q1, h⟩ := bd_inv h
  refine y_V1i (v := v2) (S1 := S) d_R_one_3 ml_1_110 kd_1 rfl (Nat.le_of_ble_eq_true rfl) (Nat.le_of_ble_eq_true rfl) (c_R_isWord (by omega) q1) ?_
  refine x_if_eq (tgt := 48) d_R_one_6 rfl (fun c3 => ?_) (fun c3 => ?_)
  · replace h := ite_t c3 h
    refine x_aload_n d_R_one_48 rfl 0 rfl ?_
    refine x_iload_n d_R_one_49 rfl 1 rfl ?_
    obtain ⟨S5, q4, h⟩ := bd_inv h
    refine y_V1v (S1 := S5) d_R_one_50 ml_1_152 kd_1 rfl (Nat.le_of_ble_eq_true rfl) (Nat.le_of_ble_eq_true rfl) (hP3 _ _ _ q4) ?_
    refine x_aload_n d_R_one_53 rfl 0 rfl ?_
    refine x_bipush d_R_one_54 bp_60 ?_
    obtain ⟨v7, q6, h⟩ := bd_inv h
    refine y_V1i (v := v7) (S1 := S5) d_R_one_56 ml_1_132 kd_1 rfl (Nat.le_of_ble_eq_true rfl) (Nat.le_of_ble_eq_true rfl) (c_R_isSign (by omega) q6) ?_
    refine x_if_ne (tgt := 80) d_R_one_59 rfl (fun c8 => ?_) (fun c8 => ?_)
    · replace h := ite_f c8 h
      exact J80 S5 p1 _ h
    · replace h := ite_t c8 h
      refine x_aload_n d_R_one_62 rfl 0 rfl ?_
      refine x_bipush d_R_one_63 bp_62 ?_
      obtain ⟨v10, q9, h⟩ := bd_inv h
      refine y_V1i (v := v10) (S1 := S5) d_R_one_65 ml_1_132 kd_1 rfl (Nat.le_of_ble_eq_true rfl) (Nat.le_of_ble_eq_true rfl) (c_R_isSign (by omega) q9) ?_
      refine x_if_ne (tgt := 80) d_R_one_68 rfl (fun c11 => ?_) (fun c11 => ?_)
      · replace h := ite_f c11 h
        exact J80 S5 p1 _ h
      · replace h := ite_t c11 h
        refine x_aload_n d_R_one_71 rfl 0 rfl ?_
        refine x_bipush d_R_one_72 bp_61 ?_
        obtain ⟨v13, q12, h⟩ := bd_inv h
        refine y_V1i (v := v13) (S1 := S5) d_R_one_74 ml_1_132 kd_1 rfl (Nat.le_of_ble_eq_true rfl) (Nat.le_of_ble_eq_true rfl) (c_R_isSign (by omega) q12) ?_
        refine x_if_eq (tgt := 112) d_R_one_77 rfl (fun c14 => ?_) (fun c14 => ?_)
        · replace h := ite_t c14 h
          obtain rfl := Option.some.inj h
          exact x_ret (r := none) d_R_one_112 rfl
        · replace h := ite_f c14 h
          exact J80 S5 p1 _ h
  · replace h := ite_f c3 h
    refine x_iload_n d_R_one_9 rfl 1 rfl ?_
    refine x_bipush d_R_one_10 bp_7 ?_
    refine x_icmp_lt (tgt := 21) d_R_one_12 rfl (fun c15 => ?_) (fun c15 => ?_)
    · replace h := ite_t c15 h
      refine x_aload_n d_R_one_21 rfl 0 rfl ?_
      refine y_getR d_R_one_22 fl_1_18 rfl kd_1 rr_1_2 ?_
      obtain ⟨S17, q16, h⟩ := bd_inv h
      refine y_V0v (S1 := S17) d_R_one_25 ml_1_55 kd_2 rfl (Nat.le_of_ble_eq_true rfl) (Nat.le_of_ble_eq_true rfl) (c_T_step (by omega) q16) ?_
      refine x_aload_n d_R_one_28 rfl 0 rfl ?_
      refine x_iload_n d_R_one_29 rfl 1 rfl ?_
      refine x_iconst d_R_one_30 ic_1 ?_
      refine x_iadd d_R_one_31 ?_
      obtain ⟨S19, q18, h⟩ := bd_inv h
      refine y_V1v (S1 := S19) d_R_one_32 ml_1_149 kd_1 rfl (Nat.le_of_ble_eq_true rfl) (Nat.le_of_ble_eq_true rfl) (hP2 _ _ _ q18) ?_
      refine x_aload_n d_R_one_35 rfl 0 rfl ?_
      refine y_getR d_R_one_36 fl_1_25 rfl kd_1 rr_draft ?_
      obtain ⟨g20, h⟩ := gd_inv h
      refine y_getR d_R_one_39 fl_1_140 rfl (ksSc g20) (rrSc_15 g20) ?_
      refine x_bipush d_R_one_42 bp_m14 ?_
      obtain ⟨S22, q21, h⟩ := bd_inv h
      refine y_V1v (S1 := S22) d_R_one_44 ml_1_144 (ksFo (isFo_of g20)) rfl (Nat.le_of_ble_eq_true rfl) (Nat.le_of_ble_eq_true rfl) (c_F_put (by omega) q21) ?_
      obtain rfl := Option.some.inj h
      exact x_ret (r := none) d_R_one_47 rfl
    · replace h := ite_f c15 h
      refine x_aload_n d_R_one_15 rfl 0 rfl ?_
      refine x_iconst d_R_one_16 ic_2 ?_
      obtain ⟨S24, q23, h⟩ := bd_inv h
      refine y_V1v (S1 := S24) d_R_one_17 ml_1_51 kd_1 rfl (Nat.le_of_ble_eq_true rfl) (Nat.le_of_ble_eq_true rfl) (c_R_refuse (by omega) q23) ?_
      obtain rfl := Option.some.inj h
      exact x_ret (r := none) d_R_one_20 rfl
set_option maxRecDepth 100000 in
set_option maxHeartbeats 4000000 in
theorem T_R_sum_7 {X : Nat × (Nat → Int32)} {D F G : Nat} (hD : 8 ≤ D) {P : Nat → Int32 → St → Option St} (hP0 : ∀ (a1 : Int32) (S S1 : St), P 0 a1 S = some S1 → Ek X D mR_either 0 [(0, .ref 1), (1, .int a1)] [] S none S1) (hP1 : ∀ (a1 : Int32) (S S1 : St), P 1 a1 S = some S1 → Ek X D mR_both 0 [(0, .ref 1), (1, .int a1)] [] S none S1) (hP2 : ∀ (a1 : Int32) (S S1 : St), P 2 a1 S = some S1 → Ek X D mR_one 0 [(0, .ref 1), (1, .int a1)] [] S none S1) (hP3 : ∀ (a1 : Int32) (S S1 : St), P 3 a1 S = some S1 → Ek X D mR_sum 0 [(0, .ref 1), (1, .int a1)] [] S none S1) (hP4 : ∀ (a1 : Int32) (S S1 : St), P 4 a1 S = some S1 → Ek X D mR_term 0 [(0, .ref 1), (1, .int a1)] [] S none S1) (hP5 : ∀ (a1 : Int32) (S S1 : St), P 5 a1 S = some S1 → Ek X D mR_unit 0 [(0, .ref 1), (1, .int a1)] [] S none S1) {z1 : Int32} : ∀ (f : Nat) (w2 : Int32) (S : St) (res : St), fx2 (b_R_sum_7 F G P z1 ) f w2 S = some res → Ek X (D + 1) mR_sum 7 [(0, .ref 1), (1, .int z1), (2, .int w2)] [] S none res := by
  refine fx2_ind ?_
  intro rec ih w2 S res h
  unfold b_R_sum_7 at h
  have J32 : ∀ (S : St) (y2 : Int32) (res : St), j_R_sum_32 F G P z1 rec S y2 = some res → Ek X (D + 1) mR_sum 32 [(0, .ref 1), (1, .int z1), (2, .int y2)] [] S none res := by
    intro S y2 res h
    unfold j_R_sum_32 at h
    refine x_aload_n d_R_sum_32 rfl 0 rfl ?_
    refine y_getR d_R_sum_33 fl_1_18 rfl kd_1 rr_1_2 ?_
    refine y_getI d_R_sum_36 fl_1_44 rfl kd_2 ?_
    obtain ⟨v10, e11, h⟩ := lt_inv h
    refine y_istore_n (L1 := [(0, .ref 1), (1, .int z1), (2, .int y2), (3, .int v10)]) e11 d_R_sum_39 rfl (Nat.le_of_ble_eq_true rfl) rfl rfl ?_
    refine x_aload_n d_R_sum_40 rfl 0 rfl ?_
    refine y_getR d_R_sum_41 fl_1_18 rfl kd_1 rr_1_2 ?_
    obtain ⟨S13, q12, h⟩ := bd_inv h
    refine y_V0v (S1 := S13) d_R_sum_44 ml_1_55 kd_2 rfl (Nat.le_of_ble_eq_true rfl) (Nat.le_of_ble_eq_true rfl) (c_T_step (by omega) q12) ?_
    refine x_aload_n d_R_sum_47 rfl 0 rfl ?_
    refine x_iload_n d_R_sum_48 rfl 1 rfl ?_
    obtain ⟨S15, q14, h⟩ := bd_inv h
    refine y_V1v (S1 := S15) d_R_sum_49 ml_1_155 kd_1 rfl (Nat.le_of_ble_eq_true rfl) (Nat.le_of_ble_eq_true rfl) (hP4 _ _ _ q14) ?_
    refine x_aload_n d_R_sum_52 rfl 0 rfl ?_
    refine y_getR d_R_sum_53 fl_1_25 rfl kd_1 rr_draft ?_
    obtain ⟨g16, h⟩ := gd_inv h
    refine y_getR d_R_sum_56 fl_1_140 rfl (ksSc g16) (rrSc_15 g16) ?_
    refine x_iload_n d_R_sum_59 rfl 3 rfl ?_
    refine x_ineg d_R_sum_60 ?_
    obtain ⟨S18, q17, h⟩ := bd_inv h
    refine y_V1v (S1 := S18) d_R_sum_61 ml_1_144 (ksFo (isFo_of g16)) rfl (Nat.le_of_ble_eq_true rfl) (Nat.le_of_ble_eq_true rfl) (c_F_put (by omega) q17) ?_
    obtain ⟨v19, e20, h⟩ := lt_inv h
    refine y_iinc (L1 := [(0, .ref 1), (1, .int z1), (2, .int v19), (3, .int v10)]) e20 ic_1 d_R_sum_64 2 rfl (Nat.le_of_ble_eq_true rfl) rfl rfl ?_
    refine x_goto (tgt := 7) d_R_sum_67 rfl ?_
    refine y_pick (L1 := [(0, .ref 1), (1, .int z1), (2, .int v19)]) [0, 1, 2] rfl ?_
    exact ih v19 S18 _ h
  refine x_iload_n d_R_sum_7 rfl 2 rfl ?_
  refine x_sipush d_R_sum_8 sp_1600 ?_
  refine x_icmp_ge (tgt := 70) d_R_sum_11 rfl (fun c3 => ?_) (fun c3 => ?_)
  · replace h := ite_t c3 h
    obtain rfl := Option.some.inj h
    exact x_ret (r := none) d_R_sum_70 rfl
  · replace h := ite_f c3 h
    refine x_aload_n d_R_sum_14 rfl 0 rfl ?_
    refine x_bipush d_R_sum_15 bp_43 ?_
    obtain ⟨v5, q4, h⟩ := bd_inv h
    refine y_V1i (v := v5) (S1 := S) d_R_sum_17 ml_1_132 kd_1 rfl (Nat.le_of_ble_eq_true rfl) (Nat.le_of_ble_eq_true rfl) (c_R_isSign (by omega) q4) ?_
    refine x_if_ne (tgt := 32) d_R_sum_20 rfl (fun c6 => ?_) (fun c6 => ?_)
    · replace h := ite_f c6 h
      exact J32 S w2 _ h
    · replace h := ite_t c6 h
      refine x_aload_n d_R_sum_23 rfl 0 rfl ?_
      refine x_bipush d_R_sum_24 bp_45 ?_
      obtain ⟨v8, q7, h⟩ := bd_inv h
      refine y_V1i (v := v8) (S1 := S) d_R_sum_26 ml_1_132 kd_1 rfl (Nat.le_of_ble_eq_true rfl) (Nat.le_of_ble_eq_true rfl) (c_R_isSign (by omega) q7) ?_
      refine x_if_eq (tgt := 70) d_R_sum_29 rfl (fun c9 => ?_) (fun c9 => ?_)
      · replace h := ite_t c9 h
        obtain rfl := Option.some.inj h
        exact x_ret (r := none) d_R_sum_70 rfl
      · replace h := ite_f c9 h
        exact J32 S w2 _ h
set_option maxRecDepth 100000 in
set_option maxHeartbeats 4000000 in
theorem cb_R_sum {X : Nat × (Nat → Int32)} {D F G : Nat} (hD : 8 ≤ D) {P : Nat → Int32 → St → Option St} (hP0 : ∀ (a1 : Int32) (S S1 : St), P 0 a1 S = some S1 → Ek X D mR_either 0 [(0, .ref 1), (1, .int a1)] [] S none S1) (hP1 : ∀ (a1 : Int32) (S S1 : St), P 1 a1 S = some S1 → Ek X D mR_both 0 [(0, .ref 1), (1, .int a1)] [] S none S1) (hP2 : ∀ (a1 : Int32) (S S1 : St), P 2 a1 S = some S1 → Ek X D mR_one 0 [(0, .ref 1), (1, .int a1)] [] S none S1) (hP3 : ∀ (a1 : Int32) (S S1 : St), P 3 a1 S = some S1 → Ek X D mR_sum 0 [(0, .ref 1), (1, .int a1)] [] S none S1) (hP4 : ∀ (a1 : Int32) (S S1 : St), P 4 a1 S = some S1 → Ek X D mR_term 0 [(0, .ref 1), (1, .int a1)] [] S none S1) (hP5 : ∀ (a1 : Int32) (S S1 : St), P 5 a1 S = some S1 → Ek X D mR_unit 0 [(0, .ref 1), (1, .int a1)] [] S none S1) {S : St} {p1 : Int32} {res : St} (h : fR_sum F G P p1 S = some res) : Ek X (D + 1) mR_sum 0 [(0, .ref 1), (1, .int p1)] [] S none res := by
  unfold fR_sum at h
  refine x_aload_n d_R_sum_0 rfl 0 rfl ?_
  refine x_iload_n d_R_sum_1 rfl 1 rfl ?_
  obtain ⟨S2, q1, h⟩ := bd_inv h
  refine y_V1v (S1 := S2) d_R_sum_2 ml_1_155 kd_1 rfl (Nat.le_of_ble_eq_true rfl) (Nat.le_of_ble_eq_true rfl) (hP4 _ _ _ q1) ?_
  refine x_iconst d_R_sum_5 ic_0 ?_
  refine x_istore_n (L1 := [(0, .ref 1), (1, .int p1), (2, .int (0 : Int32))]) d_R_sum_6 rfl (Nat.le_of_ble_eq_true rfl) rfl rfl ?_
  refine T_R_sum_7 hD hP0 hP1 hP2 hP3 hP4 hP5   F (0 : Int32) S2 _ h
set_option maxRecDepth 100000 in
set_option maxHeartbeats 4000000 in
theorem T_R_term_7 {X : Nat × (Nat → Int32)} {D F G : Nat} (hD : 8 ≤ D) {P : Nat → Int32 → St → Option St} (hP0 : ∀ (a1 : Int32) (S S1 : St), P 0 a1 S = some S1 → Ek X D mR_either 0 [(0, .ref 1), (1, .int a1)] [] S none S1) (hP1 : ∀ (a1 : Int32) (S S1 : St), P 1 a1 S = some S1 → Ek X D mR_both 0 [(0, .ref 1), (1, .int a1)] [] S none S1) (hP2 : ∀ (a1 : Int32) (S S1 : St), P 2 a1 S = some S1 → Ek X D mR_one 0 [(0, .ref 1), (1, .int a1)] [] S none S1) (hP3 : ∀ (a1 : Int32) (S S1 : St), P 3 a1 S = some S1 → Ek X D mR_sum 0 [(0, .ref 1), (1, .int a1)] [] S none S1) (hP4 : ∀ (a1 : Int32) (S S1 : St), P 4 a1 S = some S1 → Ek X D mR_term 0 [(0, .ref 1), (1, .int a1)] [] S none S1) (hP5 : ∀ (a1 : Int32) (S S1 : St), P 5 a1 S = some S1 → Ek X D mR_unit 0 [(0, .ref 1), (1, .int a1)] [] S none S1) {z1 : Int32} : ∀ (f : Nat) (w2 : Int32) (S : St) (res : St), fx2 (b_R_term_7 F G P z1 ) f w2 S = some res → Ek X (D + 1) mR_term 7 [(0, .ref 1), (1, .int z1), (2, .int w2)] [] S none res := by
  refine fx2_ind ?_
  intro rec ih w2 S res h
  unfold b_R_term_7 at h
  have J41 : ∀ (S : St) (y2 : Int32) (res : St), j_R_term_41 F G P z1 rec S y2 = some res → Ek X (D + 1) mR_term 41 [(0, .ref 1), (1, .int z1), (2, .int y2)] [] S none res := by
    intro S y2 res h
    unfold j_R_term_41 at h
    refine x_aload_n d_R_term_41 rfl 0 rfl ?_
    refine y_getR d_R_term_42 fl_1_18 rfl kd_1 rr_1_2 ?_
    refine y_getI d_R_term_45 fl_1_44 rfl kd_2 ?_
    obtain ⟨v13, e14, h⟩ := lt_inv h
    refine y_istore_n (L1 := [(0, .ref 1), (1, .int z1), (2, .int y2), (3, .int v13)]) e14 d_R_term_48 rfl (Nat.le_of_ble_eq_true rfl) rfl rfl ?_
    refine x_aload_n d_R_term_49 rfl 0 rfl ?_
    refine y_getR d_R_term_50 fl_1_18 rfl kd_1 rr_1_2 ?_
    obtain ⟨S16, q15, h⟩ := bd_inv h
    refine y_V0v (S1 := S16) d_R_term_53 ml_1_55 kd_2 rfl (Nat.le_of_ble_eq_true rfl) (Nat.le_of_ble_eq_true rfl) (c_T_step (by omega) q15) ?_
    refine x_aload_n d_R_term_56 rfl 0 rfl ?_
    refine x_iload_n d_R_term_57 rfl 1 rfl ?_
    obtain ⟨S18, q17, h⟩ := bd_inv h
    refine y_V1v (S1 := S18) d_R_term_58 ml_1_158 kd_1 rfl (Nat.le_of_ble_eq_true rfl) (Nat.le_of_ble_eq_true rfl) (hP5 _ _ _ q17) ?_
    refine x_aload_n d_R_term_61 rfl 0 rfl ?_
    refine y_getR d_R_term_62 fl_1_25 rfl kd_1 rr_draft ?_
    obtain ⟨g19, h⟩ := gd_inv h
    refine y_getR d_R_term_65 fl_1_140 rfl (ksSc g19) (rrSc_15 g19) ?_
    refine x_iload_n d_R_term_68 rfl 3 rfl ?_
    refine x_ineg d_R_term_69 ?_
    obtain ⟨S21, q20, h⟩ := bd_inv h
    refine y_V1v (S1 := S21) d_R_term_70 ml_1_144 (ksFo (isFo_of g19)) rfl (Nat.le_of_ble_eq_true rfl) (Nat.le_of_ble_eq_true rfl) (c_F_put (by omega) q20) ?_
    obtain ⟨v22, e23, h⟩ := lt_inv h
    refine y_iinc (L1 := [(0, .ref 1), (1, .int z1), (2, .int v22), (3, .int v13)]) e23 ic_1 d_R_term_73 2 rfl (Nat.le_of_ble_eq_true rfl) rfl rfl ?_
    refine x_goto (tgt := 7) d_R_term_76 rfl ?_
    refine y_pick (L1 := [(0, .ref 1), (1, .int z1), (2, .int v22)]) [0, 1, 2] rfl ?_
    exact ih v22 S21 _ h
  refine x_iload_n d_R_term_7 rfl 2 rfl ?_
  refine x_sipush d_R_term_8 sp_1600 ?_
  refine x_icmp_ge (tgt := 79) d_R_term_11 rfl (fun c3 => ?_) (fun c3 => ?_)
  · replace h := ite_t c3 h
    obtain rfl := Option.some.inj h
    exact x_ret (r := none) d_R_term_79 rfl
  · replace h := ite_f c3 h
    refine x_aload_n d_R_term_14 rfl 0 rfl ?_
    refine x_bipush d_R_term_15 bp_42 ?_
    obtain ⟨v5, q4, h⟩ := bd_inv h
    refine y_V1i (v := v5) (S1 := S) d_R_term_17 ml_1_132 kd_1 rfl (Nat.le_of_ble_eq_true rfl) (Nat.le_of_ble_eq_true rfl) (c_R_isSign (by omega) q4) ?_
    refine x_if_ne (tgt := 41) d_R_term_20 rfl (fun c6 => ?_) (fun c6 => ?_)
    · replace h := ite_f c6 h
      exact J41 S w2 _ h
    · replace h := ite_t c6 h
      refine x_aload_n d_R_term_23 rfl 0 rfl ?_
      refine x_bipush d_R_term_24 bp_47 ?_
      obtain ⟨v8, q7, h⟩ := bd_inv h
      refine y_V1i (v := v8) (S1 := S) d_R_term_26 ml_1_132 kd_1 rfl (Nat.le_of_ble_eq_true rfl) (Nat.le_of_ble_eq_true rfl) (c_R_isSign (by omega) q7) ?_
      refine x_if_ne (tgt := 41) d_R_term_29 rfl (fun c9 => ?_) (fun c9 => ?_)
      · replace h := ite_f c9 h
        exact J41 S w2 _ h
      · replace h := ite_t c9 h
        refine x_aload_n d_R_term_32 rfl 0 rfl ?_
        refine x_bipush d_R_term_33 bp_37 ?_
        obtain ⟨v11, q10, h⟩ := bd_inv h
        refine y_V1i (v := v11) (S1 := S) d_R_term_35 ml_1_132 kd_1 rfl (Nat.le_of_ble_eq_true rfl) (Nat.le_of_ble_eq_true rfl) (c_R_isSign (by omega) q10) ?_
        refine x_if_eq (tgt := 79) d_R_term_38 rfl (fun c12 => ?_) (fun c12 => ?_)
        · replace h := ite_t c12 h
          obtain rfl := Option.some.inj h
          exact x_ret (r := none) d_R_term_79 rfl
        · replace h := ite_f c12 h
          exact J41 S w2 _ h
set_option maxRecDepth 100000 in
set_option maxHeartbeats 4000000 in
theorem cb_R_term {X : Nat × (Nat → Int32)} {D F G : Nat} (hD : 8 ≤ D) {P : Nat → Int32 → St → Option St} (hP0 : ∀ (a1 : Int32) (S S1 : St), P 0 a1 S = some S1 → Ek X D mR_either 0 [(0, .ref 1), (1, .int a1)] [] S none S1) (hP1 : ∀ (a1 : Int32) (S S1 : St), P 1 a1 S = some S1 → Ek X D mR_both 0 [(0, .ref 1), (1, .int a1)] [] S none S1) (hP2 : ∀ (a1 : Int32) (S S1 : St), P 2 a1 S = some S1 → Ek X D mR_one 0 [(0, .ref 1), (1, .int a1)] [] S none S1) (hP3 : ∀ (a1 : Int32) (S S1 : St), P 3 a1 S = some S1 → Ek X D mR_sum 0 [(0, .ref 1), (1, .int a1)] [] S none S1) (hP4 : ∀ (a1 : Int32) (S S1 : St), P 4 a1 S = some S1 → Ek X D mR_term 0 [(0, .ref 1), (1, .int a1)] [] S none S1) (hP5 : ∀ (a1 : Int32) (S S1 : St), P 5 a1 S = some S1 → Ek X D mR_unit 0 [(0, .ref 1), (1, .int a1)] [] S none S1) {S : St} {p1 : Int32} {res : St} (h : fR_term F G P p1 S = some res) : Ek X (D + 1) mR_term 0 [(0, .ref 1), (1, .int p1)] [] S none res := by
  unfold fR_term at h
  refine x_aload_n d_R_term_0 rfl 0 rfl ?_
  refine x_iload_n d_R_term_1 rfl 1 rfl ?_
  obtain ⟨S2, q1, h⟩ := bd_inv h
  refine y_V1v (S1 := S2) d_R_term_2 ml_1_158 kd_1 rfl (Nat.le_of_ble_eq_true rfl) (Nat.le_of_ble_eq_true rfl) (hP5 _ _ _ q1) ?_
  refine x_iconst d_R_term_5 ic_0 ?_
  refine x_istore_n (L1 := [(0, .ref 1), (1, .int p1), (2, .int (0 : Int32))]) d_R_term_6 rfl (Nat.le_of_ble_eq_true rfl) rfl rfl ?_
  refine T_R_term_7 hD hP0 hP1 hP2 hP3 hP4 hP5   F (0 : Int32) S2 _ h
set_option maxRecDepth 100000 in
set_option maxHeartbeats 4000000 in
theorem cb_R_unit {X : Nat × (Nat → Int32)} {D F G : Nat} (hD : 8 ≤ D) {P : Nat → Int32 → St → Option St} (hP0 : ∀ (a1 : Int32) (S S1 : St), P 0 a1 S = some S1 → Ek X D mR_either 0 [(0, .ref 1), (1, .int a1)] [] S none S1) (hP1 : ∀ (a1 : Int32) (S S1 : St), P 1 a1 S = some S1 → Ek X D mR_both 0 [(0, .ref 1), (1, .int a1)] [] S none S1) (hP2 : ∀ (a1 : Int32) (S S1 : St), P 2 a1 S = some S1 → Ek X D mR_one 0 [(0, .ref 1), (1, .int a1)] [] S none S1) (hP3 : ∀ (a1 : Int32) (S S1 : St), P 3 a1 S = some S1 → Ek X D mR_sum 0 [(0, .ref 1), (1, .int a1)] [] S none S1) (hP4 : ∀ (a1 : Int32) (S S1 : St), P 4 a1 S = some S1 → Ek X D mR_term 0 [(0, .ref 1), (1, .int a1)] [] S none S1) (hP5 : ∀ (a1 : Int32) (S S1 : St), P 5 a1 S = some S1 → Ek X D mR_unit 0 [(0, .ref 1), (1, .int a1)] [] S none S1) {S : St} {p1 : Int32} {res : St} (h : fR_unit F G P p1 S = some res) : Ek X (D + 1) mR_unit 0 [(0, .ref 1), (1, .int p1)] [] S none res := by
  unfold fR_unit at h
  have J118 : ∀ (S : St) (y1 : Int32) (y2 : Int32) (y3 : Int32) (res : St), j_R_unit_118 F G P S y1 y2 y3 = some res → Ek X (D + 1) mR_unit 118 [(0, .ref 1), (1, .int y1), (2, .int y2), (3, .int y3)] [] S none res := by
    intro S y1 y2 y3 res h
    unfold j_R_unit_118 at h
    refine x_aload_n d_R_unit_118 rfl 0 rfl ?_
    refine y_getR d_R_unit_119 fl_1_25 rfl kd_1 rr_draft ?_
    obtain ⟨g19, h⟩ := gd_inv h
    refine y_getR d_R_unit_122 fl_1_140 rfl (ksSc g19) (rrSc_15 g19) ?_
    refine x_dup d_R_unit_125 rfl ?_
    refine y_getI d_R_unit_126 fl_1_161 rfl (ksFo (isFo_of g19)) ?_
    refine x_iconst d_R_unit_129 ic_1 ?_
    refine x_iadd d_R_unit_130 ?_
    obtain ⟨S20, e21, h⟩ := lt_inv h
    refine y_putI e21 d_R_unit_131 fl_1_161 rfl rfl (ksFo (isFo_of g19)) rfl rfl ?_
    refine x_aload_n d_R_unit_134 rfl 0 rfl ?_
    refine y_getR d_R_unit_135 fl_1_18 rfl kd_1 rr_1_2 ?_
    refine y_getI d_R_unit_138 fl_1_44 rfl kd_2 ?_
    obtain ⟨v22, e23, h⟩ := lt_inv h
    refine y_istore (L1 := [(0, .ref 1), (1, .int y1), (2, .int y2), (3, .int y3), (5, .int v22)]) e23 d_R_unit_141 (Nat.le_of_ble_eq_true rfl) rfl rfl ?_
    refine x_aload_n d_R_unit_143 rfl 0 rfl ?_
    refine y_getR d_R_unit_144 fl_1_18 rfl kd_1 rr_1_2 ?_
    obtain ⟨S25, q24, h⟩ := bd_inv h
    refine y_V0v (S1 := S25) d_R_unit_147 ml_1_55 kd_2 rfl (Nat.le_of_ble_eq_true rfl) (Nat.le_of_ble_eq_true rfl) (c_T_step (by omega) q24) ?_
    refine x_iload_n d_R_unit_150 rfl 2 rfl ?_
    refine x_if_eq (tgt := 170) d_R_unit_151 rfl (fun c26 => ?_) (fun c26 => ?_)
    · replace h := ite_t c26 h
      refine x_aload_n d_R_unit_170 rfl 0 rfl ?_
      refine y_getR d_R_unit_171 fl_1_25 rfl kd_1 rr_draft ?_
      obtain ⟨g27, h⟩ := gd_inv h
      refine y_getR d_R_unit_174 fl_1_140 rfl (ksSc g27) (rrSc_15 g27) ?_
      refine x_iload_n d_R_unit_177 rfl 3 rfl ?_
      refine x_if_eq (tgt := 187) d_R_unit_178 rfl (fun c28 => ?_) (fun c28 => ?_)
      · replace h := ite_t c28 h
        refine x_iload d_R_unit_187 4 rfl ?_
        obtain ⟨S30, q29, h⟩ := bd_inv h
        refine y_V1v (S1 := S30) d_R_unit_189 ml_1_144 (ksFo (isFo_of g27)) rfl (Nat.le_of_ble_eq_true rfl) (Nat.le_of_ble_eq_true rfl) (c_F_put (by omega) q29) ?_
        obtain rfl := Option.some.inj h
        exact x_ret (r := none) d_R_unit_192 rfl
      · replace h := ite_f c28 h
        refine x_iload d_R_unit_181 4 rfl ?_
        refine x_ineg d_R_unit_183 ?_
        refine x_goto (tgt := 189) d_R_unit_184 rfl ?_
        obtain ⟨S32, q31, h⟩ := bd_inv h
        refine y_V1v (S1 := S32) d_R_unit_189 ml_1_144 (ksFo (isFo_of g27)) rfl (Nat.le_of_ble_eq_true rfl) (Nat.le_of_ble_eq_true rfl) (c_F_put (by omega) q31) ?_
        obtain rfl := Option.some.inj h
        exact x_ret (r := none) d_R_unit_192 rfl
    · replace h := ite_f c26 h
      refine x_aload_n d_R_unit_154 rfl 0 rfl ?_
      refine x_iload_n d_R_unit_155 rfl 1 rfl ?_
      refine x_iconst d_R_unit_156 ic_1 ?_
      refine x_iadd d_R_unit_157 ?_
      obtain ⟨S34, q33, h⟩ := bd_inv h
      refine y_V1v (S1 := S34) d_R_unit_158 ml_1_71 kd_1 rfl (Nat.le_of_ble_eq_true rfl) (Nat.le_of_ble_eq_true rfl) (hP0 _ _ _ q33) ?_
      refine x_aload_n d_R_unit_161 rfl 0 rfl ?_
      refine x_bipush d_R_unit_162 bp_41 ?_
      obtain ⟨S36, q35, h⟩ := bd_inv h
      refine y_V1v (S1 := S36) d_R_unit_164 ml_1_86 kd_1 rfl (Nat.le_of_ble_eq_true rfl) (Nat.le_of_ble_eq_true rfl) (c_R_takeSign (by omega) q35) ?_
      refine x_goto (tgt := 192) d_R_unit_167 rfl ?_
      obtain rfl := Option.some.inj h
      exact x_ret (r := none) d_R_unit_192 rfl
  have J86 : ∀ (S : St) (y1 : Int32) (y2 : Int32) (y3 : Int32) (s0 : Int32) (res : St), j_R_unit_86 F G P S y1 y2 y3 s0 = some res → Ek X (D + 1) mR_unit 86 [(0, .ref 1), (1, .int y1), (2, .int y2), (3, .int y3)] [.int s0] S none res := by
    intro S y1 y2 y3 s0 res h
    unfold j_R_unit_86 at h
    refine x_istore (L1 := [(0, .ref 1), (1, .int y1), (2, .int y2), (3, .int y3), (4, .int s0)]) d_R_unit_86 (Nat.le_of_ble_eq_true rfl) rfl rfl ?_
    refine x_iload d_R_unit_88 4 rfl ?_
    refine x_if_eq (tgt := 112) d_R_unit_90 rfl (fun c11 => ?_) (fun c11 => ?_)
    · replace h := ite_t c11 h
      refine x_aload_n d_R_unit_112 rfl 0 rfl ?_
      refine x_iconst d_R_unit_113 ic_2 ?_
      obtain ⟨S13, q12, h⟩ := bd_inv h
      refine y_V1v (S1 := S13) d_R_unit_114 ml_1_51 kd_1 rfl (Nat.le_of_ble_eq_true rfl) (Nat.le_of_ble_eq_true rfl) (c_R_refuse (by omega) q12) ?_
      obtain rfl := Option.some.inj h
      exact x_ret (r := none) d_R_unit_117 rfl
    · replace h := ite_f c11 h
      refine x_iload_n d_R_unit_93 rfl 2 rfl ?_
      refine x_if_ne (tgt := 118) d_R_unit_94 rfl (fun c14 => ?_) (fun c14 => ?_)
      · replace h := ite_f c14 h
        refine y_pick (L1 := [(0, .ref 1), (1, .int y1), (2, .int y2), (3, .int y3)]) [0, 1, 2, 3] rfl ?_
        exact J118 S y1 y2 y3 _ h
      · replace h := ite_t c14 h
        refine x_iload_n d_R_unit_97 rfl 3 rfl ?_
        refine x_if_ne (tgt := 118) d_R_unit_98 rfl (fun c15 => ?_) (fun c15 => ?_)
        · replace h := ite_f c15 h
          refine y_pick (L1 := [(0, .ref 1), (1, .int y1), (2, .int y2), (3, .int y3)]) [0, 1, 2, 3] rfl ?_
          exact J118 S y1 y2 y3 _ h
        · replace h := ite_t c15 h
          refine x_aload_n d_R_unit_101 rfl 0 rfl ?_
          refine y_getR d_R_unit_102 fl_1_18 rfl kd_1 rr_1_2 ?_
          refine y_getI d_R_unit_105 fl_1_41 rfl kd_2 ?_
          refine x_iconst d_R_unit_108 ic_3 ?_
          refine x_icmp_eq (tgt := 118) d_R_unit_109 rfl (fun c16 => ?_) (fun c16 => ?_)
          · replace h := ite_t c16 h
            refine y_pick (L1 := [(0, .ref 1), (1, .int y1), (2, .int y2), (3, .int y3)]) [0, 1, 2, 3] rfl ?_
            exact J118 S y1 y2 y3 _ h
          · replace h := ite_f c16 h
            refine x_aload_n d_R_unit_112 rfl 0 rfl ?_
            refine x_iconst d_R_unit_113 ic_2 ?_
            obtain ⟨S18, q17, h⟩ := bd_inv h
            refine y_V1v (S1 := S18) d_R_unit_114 ml_1_51 kd_1 rfl (Nat.le_of_ble_eq_true rfl) (Nat.le_of_ble_eq_true rfl) (c_R_refuse (by omega) q17) ?_
            obtain rfl := Option.some.inj h
            exact x_ret (r := none) d_R_unit_117 rfl
  have J85 : ∀ (S : St) (y1 : Int32) (y2 : Int32) (y3 : Int32) (res : St), j_R_unit_85 F G P S y1 y2 y3 = some res → Ek X (D + 1) mR_unit 85 [(0, .ref 1), (1, .int y1), (2, .int y2), (3, .int y3)] [] S none res := by
    intro S y1 y2 y3 res h
    unfold j_R_unit_85 at h
    refine x_iconst d_R_unit_85 ic_0 ?_
    exact J86 S y1 y2 y3 (0 : Int32) _ h
  have J81 : ∀ (S : St) (y1 : Int32) (y2 : Int32) (y3 : Int32) (res : St), j_R_unit_81 F G P S y1 y2 y3 = some res → Ek X (D + 1) mR_unit 81 [(0, .ref 1), (1, .int y1), (2, .int y2), (3, .int y3)] [] S none res := by
    intro S y1 y2 y3 res h
    unfold j_R_unit_81 at h
    refine x_iconst d_R_unit_81 ic_1 ?_
    refine x_goto (tgt := 86) d_R_unit_82 rfl ?_
    exact J86 S y1 y2 y3 (1 : Int32) _ h
  have J55 : ∀ (S : St) (y1 : Int32) (y2 : Int32) (s0 : Int32) (res : St), j_R_unit_55 F G P S y1 y2 s0 = some res → Ek X (D + 1) mR_unit 55 [(0, .ref 1), (1, .int y1), (2, .int y2)] [.int s0] S none res := by
    intro S y1 y2 s0 res h
    unfold j_R_unit_55 at h
    refine x_istore_n (L1 := [(0, .ref 1), (1, .int y1), (2, .int y2), (3, .int s0)]) d_R_unit_55 rfl (Nat.le_of_ble_eq_true rfl) rfl rfl ?_
    refine x_aload_n d_R_unit_56 rfl 0 rfl ?_
    refine y_getR d_R_unit_57 fl_1_25 rfl kd_1 rr_draft ?_
    obtain ⟨g7, h⟩ := gd_inv h
    refine y_getR d_R_unit_60 fl_1_140 rfl (ksSc g7) (rrSc_15 g7) ?_
    refine y_getI d_R_unit_63 fl_1_161 rfl (ksFo (isFo_of g7)) ?_
    refine x_bipush d_R_unit_66 bp_30 ?_
    refine x_icmp_ge (tgt := 85) d_R_unit_68 rfl (fun c8 => ?_) (fun c8 => ?_)
    · replace h := ite_t c8 h
      exact J85 S y1 y2 s0 _ h
    · replace h := ite_f c8 h
      refine x_iload_n d_R_unit_71 rfl 2 rfl ?_
      refine x_if_eq (tgt := 81) d_R_unit_72 rfl (fun c9 => ?_) (fun c9 => ?_)
      · replace h := ite_t c9 h
        exact J81 S y1 y2 s0 _ h
      · replace h := ite_f c9 h
        refine x_iload_n d_R_unit_75 rfl 1 rfl ?_
        refine x_bipush d_R_unit_76 bp_7 ?_
        refine x_icmp_ge (tgt := 85) d_R_unit_78 rfl (fun c10 => ?_) (fun c10 => ?_)
        · replace h := ite_t c10 h
          exact J85 S y1 y2 s0 _ h
        · replace h := ite_f c10 h
          exact J81 S y1 y2 s0 _ h
  have J54 : ∀ (S : St) (y1 : Int32) (y2 : Int32) (res : St), j_R_unit_54 F G P S y1 y2 = some res → Ek X (D + 1) mR_unit 54 [(0, .ref 1), (1, .int y1), (2, .int y2)] [] S none res := by
    intro S y1 y2 res h
    unfold j_R_unit_54 at h
    refine x_iconst d_R_unit_54 ic_0 ?_
    exact J55 S y1 y2 (0 : Int32) _ h
  refine x_aload_n d_R_unit_0 rfl 0 rfl ?_
  refine y_getI d_R_unit_1 fl_1_29 rfl kd_1 ?_
  refine x_if_eq (tgt := 8) d_R_unit_4 rfl (fun c1 => ?_) (fun c1 => ?_)
  · replace h := ite_t c1 h
    refine x_aload_n d_R_unit_8 rfl 0 rfl ?_
    refine x_bipush d_R_unit_9 bp_40 ?_
    obtain ⟨v3, q2, h⟩ := bd_inv h
    refine y_V1i (v := v3) (S1 := S) d_R_unit_11 ml_1_132 kd_1 rfl (Nat.le_of_ble_eq_true rfl) (Nat.le_of_ble_eq_true rfl) (c_R_isSign (by omega) q2) ?_
    refine x_istore_n (L1 := [(0, .ref 1), (1, .int p1), (2, .int v3)]) d_R_unit_14 rfl (Nat.le_of_ble_eq_true rfl) rfl rfl ?_
    refine x_aload_n d_R_unit_15 rfl 0 rfl ?_
    refine y_getR d_R_unit_16 fl_1_18 rfl kd_1 rr_1_2 ?_
    refine y_getI d_R_unit_19 fl_1_41 rfl kd_2 ?_
    refine x_iconst d_R_unit_22 ic_1 ?_
    refine x_icmp_ne (tgt := 54) d_R_unit_23 rfl (fun c4 => ?_) (fun c4 => ?_)
    · replace h := ite_f c4 h
      exact J54 S p1 v3 _ h
    · replace h := ite_t c4 h
      refine x_aload_n d_R_unit_26 rfl 0 rfl ?_
      refine y_getR d_R_unit_27 fl_1_18 rfl kd_1 rr_1_2 ?_
      refine y_getI d_R_unit_30 fl_1_44 rfl kd_2 ?_
      refine x_bipush d_R_unit_33 bp_15 ?_
      refine x_icmp_lt (tgt := 54) d_R_unit_35 rfl (fun c5 => ?_) (fun c5 => ?_)
      · replace h := ite_t c5 h
        exact J54 S p1 v3 _ h
      · replace h := ite_f c5 h
        refine x_aload_n d_R_unit_38 rfl 0 rfl ?_
        refine y_getR d_R_unit_39 fl_1_18 rfl kd_1 rr_1_2 ?_
        refine y_getI d_R_unit_42 fl_1_44 rfl kd_2 ?_
        refine x_bipush d_R_unit_45 bp_20 ?_
        refine x_icmp_gt (tgt := 54) d_R_unit_47 rfl (fun c6 => ?_) (fun c6 => ?_)
        · replace h := ite_t c6 h
          exact J54 S p1 v3 _ h
        · replace h := ite_f c6 h
          refine x_iconst d_R_unit_50 ic_1 ?_
          refine x_goto (tgt := 55) d_R_unit_51 rfl ?_
          exact J55 S p1 v3 (1 : Int32) _ h
  · replace h := ite_f c1 h
    obtain rfl := Option.some.inj h
    exact x_ret (r := none) d_R_unit_7 rfl
theorem cg_0 {X : Nat × (Nat → Int32)} {F G : Nat} (n : Nat) : (∀ (D : Nat), 8 + n ≤ D → ∀ (p1 : Int32) (S S1 : St), fR_parse F G n 0 p1 S = some S1 → Ek X D mR_either 0 [(0, .ref 1), (1, .int p1)] [] S none S1) ∧ (∀ (D : Nat), 8 + n ≤ D → ∀ (p1 : Int32) (S S1 : St), fR_parse F G n 1 p1 S = some S1 → Ek X D mR_both 0 [(0, .ref 1), (1, .int p1)] [] S none S1) ∧ (∀ (D : Nat), 8 + n ≤ D → ∀ (p1 : Int32) (S S1 : St), fR_parse F G n 2 p1 S = some S1 → Ek X D mR_one 0 [(0, .ref 1), (1, .int p1)] [] S none S1) ∧ (∀ (D : Nat), 8 + n ≤ D → ∀ (p1 : Int32) (S S1 : St), fR_parse F G n 3 p1 S = some S1 → Ek X D mR_sum 0 [(0, .ref 1), (1, .int p1)] [] S none S1) ∧ (∀ (D : Nat), 8 + n ≤ D → ∀ (p1 : Int32) (S S1 : St), fR_parse F G n 4 p1 S = some S1 → Ek X D mR_term 0 [(0, .ref 1), (1, .int p1)] [] S none S1) ∧ (∀ (D : Nat), 8 + n ≤ D → ∀ (p1 : Int32) (S S1 : St), fR_parse F G n 5 p1 S = some S1 → Ek X D mR_unit 0 [(0, .ref 1), (1, .int p1)] [] S none S1) := by
  induction n with
  | zero => exact ⟨fun _ _ _ _ _ h => (by cases h), fun _ _ _ _ _ h => (by cases h), fun _ _ _ _ _ h => (by cases h), fun _ _ _ _ _ h => (by cases h), fun _ _ _ _ _ h => (by cases h), fun _ _ _ _ _ h => (by cases h)⟩
  | succ n ih =>
    obtain ⟨i0, i1, i2, i3, i4, i5⟩ := ih
    refine ⟨?_, ?_, ?_, ?_, ?_, ?_⟩
    · intro D hD p1 S S1 h
      obtain ⟨D, rfl⟩ : ∃ E, D = E + 1 := ⟨D - 1, by omega⟩
      have h : fR_either F G (fR_parse F G n) p1 S = some S1 := h
      exact cb_R_either (by omega) (i0 D (by omega)) (i1 D (by omega)) (i2 D (by omega)) (i3 D (by omega)) (i4 D (by omega)) (i5 D (by omega)) h
    · intro D hD p1 S S1 h
      obtain ⟨D, rfl⟩ : ∃ E, D = E + 1 := ⟨D - 1, by omega⟩
      have h : fR_both F G (fR_parse F G n) p1 S = some S1 := h
      exact cb_R_both (by omega) (i0 D (by omega)) (i1 D (by omega)) (i2 D (by omega)) (i3 D (by omega)) (i4 D (by omega)) (i5 D (by omega)) h
    · intro D hD p1 S S1 h
      obtain ⟨D, rfl⟩ : ∃ E, D = E + 1 := ⟨D - 1, by omega⟩
      have h : fR_one F G (fR_parse F G n) p1 S = some S1 := h
      exact cb_R_one (by omega) (i0 D (by omega)) (i1 D (by omega)) (i2 D (by omega)) (i3 D (by omega)) (i4 D (by omega)) (i5 D (by omega)) h
    · intro D hD p1 S S1 h
      obtain ⟨D, rfl⟩ : ∃ E, D = E + 1 := ⟨D - 1, by omega⟩
      have h : fR_sum F G (fR_parse F G n) p1 S = some S1 := h
      exact cb_R_sum (by omega) (i0 D (by omega)) (i1 D (by omega)) (i2 D (by omega)) (i3 D (by omega)) (i4 D (by omega)) (i5 D (by omega)) h
    · intro D hD p1 S S1 h
      obtain ⟨D, rfl⟩ : ∃ E, D = E + 1 := ⟨D - 1, by omega⟩
      have h : fR_term F G (fR_parse F G n) p1 S = some S1 := h
      exact cb_R_term (by omega) (i0 D (by omega)) (i1 D (by omega)) (i2 D (by omega)) (i3 D (by omega)) (i4 D (by omega)) (i5 D (by omega)) h
    · intro D hD p1 S S1 h
      obtain ⟨D, rfl⟩ : ∃ E, D = E + 1 := ⟨D - 1, by omega⟩
      have h : fR_unit F G (fR_parse F G n) p1 S = some S1 := h
      exact cb_R_unit (by omega) (i0 D (by omega)) (i1 D (by omega)) (i2 D (by omega)) (i3 D (by omega)) (i4 D (by omega)) (i5 D (by omega)) h
theorem c_R_either {X : Nat × (Nat → Int32)} {D F G : Nat} (hD : 8 + G ≤ D) {S : St} {p1 : Int32} {res : St} (h : fR_parse F G G 0 p1 S = some res) : Ek X D mR_either 0 [(0, .ref 1), (1, .int p1)] [] S none res := (cg_0 G).1 D hD p1 S res h
theorem c_R_both {X : Nat × (Nat → Int32)} {D F G : Nat} (hD : 8 + G ≤ D) {S : St} {p1 : Int32} {res : St} (h : fR_parse F G G 1 p1 S = some res) : Ek X D mR_both 0 [(0, .ref 1), (1, .int p1)] [] S none res := (cg_0 G).2.1 D hD p1 S res h
theorem c_R_one {X : Nat × (Nat → Int32)} {D F G : Nat} (hD : 8 + G ≤ D) {S : St} {p1 : Int32} {res : St} (h : fR_parse F G G 2 p1 S = some res) : Ek X D mR_one 0 [(0, .ref 1), (1, .int p1)] [] S none res := (cg_0 G).2.2.1 D hD p1 S res h
theorem c_R_sum {X : Nat × (Nat → Int32)} {D F G : Nat} (hD : 8 + G ≤ D) {S : St} {p1 : Int32} {res : St} (h : fR_parse F G G 3 p1 S = some res) : Ek X D mR_sum 0 [(0, .ref 1), (1, .int p1)] [] S none res := (cg_0 G).2.2.2.1 D hD p1 S res h
theorem c_R_term {X : Nat × (Nat → Int32)} {D F G : Nat} (hD : 8 + G ≤ D) {S : St} {p1 : Int32} {res : St} (h : fR_parse F G G 4 p1 S = some res) : Ek X D mR_term 0 [(0, .ref 1), (1, .int p1)] [] S none res := (cg_0 G).2.2.2.2.1 D hD p1 S res h
theorem c_R_unit {X : Nat × (Nat → Int32)} {D F G : Nat} (hD : 8 + G ≤ D) {S : St} {p1 : Int32} {res : St} (h : fR_parse F G G 5 p1 S = some res) : Ek X D mR_unit 0 [(0, .ref 1), (1, .int p1)] [] S none res := (cg_0 G).2.2.2.2.2 D hD p1 S res h
/-! NinetyPlayers$Reader.readLine -/
def j_R_readLine_22 (F G : Nat) (S : St) (s0 : Int32) : Option (St) :=
  bd (fR_mayBegin F G S s0) fun v3 => if v3 = 0 then bd (fR_refuse F G S (2 : Int32)) fun S69 => some S69 else lt (sI S 1 4 ((S.1 1 4) ||| ((1 : Int32) <<< (s0 &&& 31)))) fun S5 => bd (fT_step F G S5 ) fun S8 => if s0 = 0 then gd (isSc S8.2.2.2) (bd2 (fR_number F G S8 (1 : Int32) (12 : Int32)) fun v12 S13 => lt (sI S13 S8.2.2.2 0 v12) fun S14 => bd (fR_takeSign F G S14 (59 : Int32)) fun S17 => some S17) else if s0 = 1 then bd (fR_partLine F G S8 ) fun S20 => bd (fR_takeSign F G S20 (59 : Int32)) fun S22 => some S22 else if s0 = 2 then bd (fR_noteLine F G S8 ) fun S25 => bd (fR_takeSign F G S25 (59 : Int32)) fun S27 => some S27 else if s0 = 3 then bd (fR_parse F G G 0 (0 : Int32) S8) fun S30 => bd (fR_takeSign F G S30 (59 : Int32)) fun S32 => some S32 else if s0 = 4 then gd (isSc S8.2.2.2) (bd2 (fR_number F G S8 (0 : Int32) (87 : Int32)) fun v36 S37 => lt (sI S37 S8.2.2.2 1 v36) fun S38 => bd (fR_takeSign F G S38 (59 : Int32)) fun S41 => some S41) else if s0 = 5 then gd (isSc S8.2.2.2) (bd2 (fR_number F G S8 (1 : Int32) (5 : Int32)) fun v45 S46 => lt (sI S46 S8.2.2.2 2 v45) fun S47 => bd (fR_takeSign F G S47 (59 : Int32)) fun S50 => some S50) else if s0 = 6 then gd (isSc S8.2.2.2) (bd2 (fR_number F G S8 (0 : Int32) (87 : Int32)) fun v54 S55 => lt (sI S55 S8.2.2.2 3 v54) fun S56 => bd (fR_takeSign F G S56 (59 : Int32)) fun S59 => some S59) else gd (isSc S8.2.2.2) (bd2 (fR_number F G S8 (0 : Int32) (9 : Int32)) fun v62 S63 => lt (sI S63 S8.2.2.2 4 v62) fun S64 => bd (fR_takeSign F G S64 (59 : Int32)) fun S67 => some S67)
def fR_readLine (F G : Nat) (S : St) : Option (St) :=
  if (S.1 2 4) = (1 : Int32) then j_R_readLine_22 F G  S (S.1 2 5) else j_R_readLine_22 F G  S (-1 : Int32)
set_option maxRecDepth 100000 in
set_option maxHeartbeats 4000000 in
theorem c_R_readLine {X : Nat × (Nat → Int32)} {D F G : Nat} (hD : 9 + G ≤ D) {S : St} {res : St} (h : fR_readLine F G S  = some res) : Ek X (D) mR_readLine 0 [(0, .ref 1)] [] S none res := by
  obtain ⟨D, rfl⟩ : ∃ E, D = E + 1 := ⟨D - 1, by omega⟩
  unfold fR_readLine at h
  have J22 : ∀ (S : St) (s0 : Int32) (res : St), j_R_readLine_22 F G S s0 = some res → Ek X (D + 1) mR_readLine 22 [(0, .ref 1)] [.int s0] S none res := by
    intro S s0 res h
    unfold j_R_readLine_22 at h
    refine x_istore_n (L1 := [(0, .ref 1), (1, .int s0)]) d_R_readLine_22 rfl (Nat.le_of_ble_eq_true rfl) rfl rfl ?_
    refine x_aload_n d_R_readLine_23 rfl 0 rfl ?_
    refine x_iload_n d_R_readLine_24 rfl 1 rfl ?_
    obtain ⟨v3, q2, h⟩ := bd_inv h
    refine y_V1i (v := v3) (S1 := S) d_R_readLine_25 ml_1_47 kd_1 rfl (Nat.le_of_ble_eq_true rfl) (Nat.le_of_ble_eq_true rfl) (c_R_mayBegin (by omega) q2) ?_
    refine x_if_ne (tgt := 37) d_R_readLine_28 rfl (fun c4 => ?_) (fun c4 => ?_)
    · replace h := ite_f c4 h
      refine x_aload_n d_R_readLine_37 rfl 0 rfl ?_
      refine x_dup d_R_readLine_38 rfl ?_
      refine y_getI d_R_readLine_39 fl_1_32 rfl kd_1 ?_
      refine x_iconst d_R_readLine_42 ic_1 ?_
      refine x_iload_n d_R_readLine_43 rfl 1 rfl ?_
      refine x_ishl d_R_readLine_44 ?_
      refine x_ior d_R_readLine_45 ?_
      obtain ⟨S5, e6, h⟩ := lt_inv h
      refine y_putI e6 d_R_readLine_46 fl_1_32 rfl rfl kd_1 rfl rfl ?_
      refine x_aload_n d_R_readLine_49 rfl 0 rfl ?_
      refine y_getR d_R_readLine_50 fl_1_18 rfl kd_1 rr_1_2 ?_
      obtain ⟨S8, q7, h⟩ := bd_inv h
      refine y_V0v (S1 := S8) d_R_readLine_53 ml_1_55 kd_2 rfl (Nat.le_of_ble_eq_true rfl) (Nat.le_of_ble_eq_true rfl) (c_T_step (by omega) q7) ?_
      refine x_iload_n d_R_readLine_56 rfl 1 rfl ?_
      by_cases c9 : s0 = 0
      · replace h := ite_t c9 h
        refine x_tabC (tgt := 100) 0 d_R_readLine_57 (by rw [c9]; rfl) (by decide) rfl rfl ?_
        refine x_aload_n d_R_readLine_100 rfl 0 rfl ?_
        refine y_getR d_R_readLine_101 fl_1_25 rfl kd_1 rr_draft ?_
        obtain ⟨g10, h⟩ := gd_inv h
        refine x_aload_n d_R_readLine_104 rfl 0 rfl ?_
        refine x_iconst d_R_readLine_105 ic_1 ?_
        refine x_bipush d_R_readLine_106 bp_12 ?_
        obtain ⟨v12, S13, q11, h⟩ := bd2_inv h
        refine y_V2i (v := v12) (S1 := S13) d_R_readLine_108 ml_1_58 kd_1 rfl (Nat.le_of_ble_eq_true rfl) (Nat.le_of_ble_eq_true rfl) (c_R_number (by omega) q11) ?_
        obtain ⟨S14, e15, h⟩ := lt_inv h
        refine y_putI e15 d_R_readLine_111 fl_1_62 rfl rfl (ksSc g10) rfl rfl ?_
        refine x_goto (tgt := 203) d_R_readLine_114 rfl ?_
        refine x_aload_n d_R_readLine_203 rfl 0 rfl ?_
        refine x_bipush d_R_readLine_204 bp_59 ?_
        obtain ⟨S17, q16, h⟩ := bd_inv h
        refine y_V1v (S1 := S17) d_R_readLine_206 ml_1_86 kd_1 rfl (Nat.le_of_ble_eq_true rfl) (Nat.le_of_ble_eq_true rfl) (c_R_takeSign (by omega) q16) ?_
        obtain rfl := Option.some.inj h
        exact x_ret (r := none) d_R_readLine_209 rfl
      replace h := ite_f c9 h
      by_cases c18 : s0 = 1
      · replace h := ite_t c18 h
        refine x_tabC (tgt := 117) 1 d_R_readLine_57 (by rw [c18]; rfl) (by decide) rfl rfl ?_
        refine x_aload_n d_R_readLine_117 rfl 0 rfl ?_
        obtain ⟨S20, q19, h⟩ := bd_inv h
        refine y_V0v (S1 := S20) d_R_readLine_118 ml_1_65 kd_1 rfl (Nat.le_of_ble_eq_true rfl) (Nat.le_of_ble_eq_true rfl) (c_R_partLine (by omega) q19) ?_
        refine x_goto (tgt := 203) d_R_readLine_121 rfl ?_
        refine x_aload_n d_R_readLine_203 rfl 0 rfl ?_
        refine x_bipush d_R_readLine_204 bp_59 ?_
        obtain ⟨S22, q21, h⟩ := bd_inv h
        refine y_V1v (S1 := S22) d_R_readLine_206 ml_1_86 kd_1 rfl (Nat.le_of_ble_eq_true rfl) (Nat.le_of_ble_eq_true rfl) (c_R_takeSign (by omega) q21) ?_
        obtain rfl := Option.some.inj h
        exact x_ret (r := none) d_R_readLine_209 rfl
      replace h := ite_f c18 h
      by_cases c23 : s0 = 2
      · replace h := ite_t c23 h
        refine x_tabC (tgt := 124) 2 d_R_readLine_57 (by rw [c23]; rfl) (by decide) rfl rfl ?_
        refine x_aload_n d_R_readLine_124 rfl 0 rfl ?_
        obtain ⟨S25, q24, h⟩ := bd_inv h
        refine y_V0v (S1 := S25) d_R_readLine_125 ml_1_68 kd_1 rfl (Nat.le_of_ble_eq_true rfl) (Nat.le_of_ble_eq_true rfl) (c_R_noteLine (by omega) q24) ?_
        refine x_goto (tgt := 203) d_R_readLine_128 rfl ?_
        refine x_aload_n d_R_readLine_203 rfl 0 rfl ?_
        refine x_bipush d_R_readLine_204 bp_59 ?_
        obtain ⟨S27, q26, h⟩ := bd_inv h
        refine y_V1v (S1 := S27) d_R_readLine_206 ml_1_86 kd_1 rfl (Nat.le_of_ble_eq_true rfl) (Nat.le_of_ble_eq_true rfl) (c_R_takeSign (by omega) q26) ?_
        obtain rfl := Option.some.inj h
        exact x_ret (r := none) d_R_readLine_209 rfl
      replace h := ite_f c23 h
      by_cases c28 : s0 = 3
      · replace h := ite_t c28 h
        refine x_tabC (tgt := 131) 3 d_R_readLine_57 (by rw [c28]; rfl) (by decide) rfl rfl ?_
        refine x_aload_n d_R_readLine_131 rfl 0 rfl ?_
        refine x_iconst d_R_readLine_132 ic_0 ?_
        obtain ⟨S30, q29, h⟩ := bd_inv h
        refine y_V1v (S1 := S30) d_R_readLine_133 ml_1_71 kd_1 rfl (Nat.le_of_ble_eq_true rfl) (Nat.le_of_ble_eq_true rfl) (c_R_either (by omega) q29) ?_
        refine x_goto (tgt := 203) d_R_readLine_136 rfl ?_
        refine x_aload_n d_R_readLine_203 rfl 0 rfl ?_
        refine x_bipush d_R_readLine_204 bp_59 ?_
        obtain ⟨S32, q31, h⟩ := bd_inv h
        refine y_V1v (S1 := S32) d_R_readLine_206 ml_1_86 kd_1 rfl (Nat.le_of_ble_eq_true rfl) (Nat.le_of_ble_eq_true rfl) (c_R_takeSign (by omega) q31) ?_
        obtain rfl := Option.some.inj h
        exact x_ret (r := none) d_R_readLine_209 rfl
      replace h := ite_f c28 h
      by_cases c33 : s0 = 4
      · replace h := ite_t c33 h
        refine x_tabC (tgt := 139) 4 d_R_readLine_57 (by rw [c33]; rfl) (by decide) rfl rfl ?_
        refine x_aload_n d_R_readLine_139 rfl 0 rfl ?_
        refine y_getR d_R_readLine_140 fl_1_25 rfl kd_1 rr_draft ?_
        obtain ⟨g34, h⟩ := gd_inv h
        refine x_aload_n d_R_readLine_143 rfl 0 rfl ?_
        refine x_iconst d_R_readLine_144 ic_0 ?_
        refine x_bipush d_R_readLine_145 bp_87 ?_
        obtain ⟨v36, S37, q35, h⟩ := bd2_inv h
        refine y_V2i (v := v36) (S1 := S37) d_R_readLine_147 ml_1_58 kd_1 rfl (Nat.le_of_ble_eq_true rfl) (Nat.le_of_ble_eq_true rfl) (c_R_number (by omega) q35) ?_
        obtain ⟨S38, e39, h⟩ := lt_inv h
        refine y_putI e39 d_R_readLine_150 fl_1_74 rfl rfl (ksSc g34) rfl rfl ?_
        refine x_goto (tgt := 203) d_R_readLine_153 rfl ?_
        refine x_aload_n d_R_readLine_203 rfl 0 rfl ?_
        refine x_bipush d_R_readLine_204 bp_59 ?_
        obtain ⟨S41, q40, h⟩ := bd_inv h
        refine y_V1v (S1 := S41) d_R_readLine_206 ml_1_86 kd_1 rfl (Nat.le_of_ble_eq_true rfl) (Nat.le_of_ble_eq_true rfl) (c_R_takeSign (by omega) q40) ?_
        obtain rfl := Option.some.inj h
        exact x_ret (r := none) d_R_readLine_209 rfl
      replace h := ite_f c33 h
      by_cases c42 : s0 = 5
      · replace h := ite_t c42 h
        refine x_tabC (tgt := 156) 5 d_R_readLine_57 (by rw [c42]; rfl) (by decide) rfl rfl ?_
        refine x_aload_n d_R_readLine_156 rfl 0 rfl ?_
        refine y_getR d_R_readLine_157 fl_1_25 rfl kd_1 rr_draft ?_
        obtain ⟨g43, h⟩ := gd_inv h
        refine x_aload_n d_R_readLine_160 rfl 0 rfl ?_
        refine x_iconst d_R_readLine_161 ic_1 ?_
        refine x_iconst d_R_readLine_162 ic_5 ?_
        obtain ⟨v45, S46, q44, h⟩ := bd2_inv h
        refine y_V2i (v := v45) (S1 := S46) d_R_readLine_163 ml_1_58 kd_1 rfl (Nat.le_of_ble_eq_true rfl) (Nat.le_of_ble_eq_true rfl) (c_R_number (by omega) q44) ?_
        obtain ⟨S47, e48, h⟩ := lt_inv h
        refine y_putI e48 d_R_readLine_166 fl_1_77 rfl rfl (ksSc g43) rfl rfl ?_
        refine x_goto (tgt := 203) d_R_readLine_169 rfl ?_
        refine x_aload_n d_R_readLine_203 rfl 0 rfl ?_
        refine x_bipush d_R_readLine_204 bp_59 ?_
        obtain ⟨S50, q49, h⟩ := bd_inv h
        refine y_V1v (S1 := S50) d_R_readLine_206 ml_1_86 kd_1 rfl (Nat.le_of_ble_eq_true rfl) (Nat.le_of_ble_eq_true rfl) (c_R_takeSign (by omega) q49) ?_
        obtain rfl := Option.some.inj h
        exact x_ret (r := none) d_R_readLine_209 rfl
      replace h := ite_f c42 h
      by_cases c51 : s0 = 6
      · replace h := ite_t c51 h
        refine x_tabC (tgt := 172) 6 d_R_readLine_57 (by rw [c51]; rfl) (by decide) rfl rfl ?_
        refine x_aload_n d_R_readLine_172 rfl 0 rfl ?_
        refine y_getR d_R_readLine_173 fl_1_25 rfl kd_1 rr_draft ?_
        obtain ⟨g52, h⟩ := gd_inv h
        refine x_aload_n d_R_readLine_176 rfl 0 rfl ?_
        refine x_iconst d_R_readLine_177 ic_0 ?_
        refine x_bipush d_R_readLine_178 bp_87 ?_
        obtain ⟨v54, S55, q53, h⟩ := bd2_inv h
        refine y_V2i (v := v54) (S1 := S55) d_R_readLine_180 ml_1_58 kd_1 rfl (Nat.le_of_ble_eq_true rfl) (Nat.le_of_ble_eq_true rfl) (c_R_number (by omega) q53) ?_
        obtain ⟨S56, e57, h⟩ := lt_inv h
        refine y_putI e57 d_R_readLine_183 fl_1_80 rfl rfl (ksSc g52) rfl rfl ?_
        refine x_goto (tgt := 203) d_R_readLine_186 rfl ?_
        refine x_aload_n d_R_readLine_203 rfl 0 rfl ?_
        refine x_bipush d_R_readLine_204 bp_59 ?_
        obtain ⟨S59, q58, h⟩ := bd_inv h
        refine y_V1v (S1 := S59) d_R_readLine_206 ml_1_86 kd_1 rfl (Nat.le_of_ble_eq_true rfl) (Nat.le_of_ble_eq_true rfl) (c_R_takeSign (by omega) q58) ?_
        obtain rfl := Option.some.inj h
        exact x_ret (r := none) d_R_readLine_209 rfl
      replace h := ite_f c51 h
      refine x_tabD (tgt := 189) d_R_readLine_57 (by have := lv_neT c9 (show (0 : Int32).toInt = 0 from rfl); have := lv_neT c18 (show (1 : Int32).toInt = 1 from rfl); have := lv_neT c23 (show (2 : Int32).toInt = 2 from rfl); have := lv_neT c28 (show (3 : Int32).toInt = 3 from rfl); have := lv_neT c33 (show (4 : Int32).toInt = 4 from rfl); have := lv_neT c42 (show (5 : Int32).toInt = 5 from rfl); have := lv_neT c51 (show (6 : Int32).toInt = 6 from rfl); omega) rfl ?_
      refine x_aload_n d_R_readLine_189 rfl 0 rfl ?_
      refine y_getR d_R_readLine_190 fl_1_25 rfl kd_1 rr_draft ?_
      obtain ⟨g60, h⟩ := gd_inv h
      refine x_aload_n d_R_readLine_193 rfl 0 rfl ?_
      refine x_iconst d_R_readLine_194 ic_0 ?_
      refine x_bipush d_R_readLine_195 bp_9 ?_
      obtain ⟨v62, S63, q61, h⟩ := bd2_inv h
      refine y_V2i (v := v62) (S1 := S63) d_R_readLine_197 ml_1_58 kd_1 rfl (Nat.le_of_ble_eq_true rfl) (Nat.le_of_ble_eq_true rfl) (c_R_number (by omega) q61) ?_
      obtain ⟨S64, e65, h⟩ := lt_inv h
      refine y_putI e65 d_R_readLine_200 fl_1_83 rfl rfl (ksSc g60) rfl rfl ?_
      refine x_aload_n d_R_readLine_203 rfl 0 rfl ?_
      refine x_bipush d_R_readLine_204 bp_59 ?_
      obtain ⟨S67, q66, h⟩ := bd_inv h
      refine y_V1v (S1 := S67) d_R_readLine_206 ml_1_86 kd_1 rfl (Nat.le_of_ble_eq_true rfl) (Nat.le_of_ble_eq_true rfl) (c_R_takeSign (by omega) q66) ?_
      obtain rfl := Option.some.inj h
      exact x_ret (r := none) d_R_readLine_209 rfl
    · replace h := ite_t c4 h
      refine x_aload_n d_R_readLine_31 rfl 0 rfl ?_
      refine x_iconst d_R_readLine_32 ic_2 ?_
      obtain ⟨S69, q68, h⟩ := bd_inv h
      refine y_V1v (S1 := S69) d_R_readLine_33 ml_1_51 kd_1 rfl (Nat.le_of_ble_eq_true rfl) (Nat.le_of_ble_eq_true rfl) (c_R_refuse (by omega) q68) ?_
      obtain rfl := Option.some.inj h
      exact x_ret (r := none) d_R_readLine_36 rfl
  refine x_aload_n d_R_readLine_0 rfl 0 rfl ?_
  refine y_getR d_R_readLine_1 fl_1_18 rfl kd_1 rr_1_2 ?_
  refine y_getI d_R_readLine_4 fl_1_41 rfl kd_2 ?_
  refine x_iconst d_R_readLine_7 ic_1 ?_
  refine x_icmp_ne (tgt := 21) d_R_readLine_8 rfl (fun c1 => ?_) (fun c1 => ?_)
  · replace h := ite_f c1 h
    refine x_iconst d_R_readLine_21 ic_m1 ?_
    exact J22 S (-1 : Int32) _ h
  · replace h := ite_t c1 h
    refine x_aload_n d_R_readLine_11 rfl 0 rfl ?_
    refine y_getR d_R_readLine_12 fl_1_18 rfl kd_1 rr_1_2 ?_
    refine y_getI d_R_readLine_15 fl_1_44 rfl kd_2 ?_
    refine x_goto (tgt := 22) d_R_readLine_18 rfl ?_
    exact J22 S (S.1 2 5) _ h
/-! NinetyPlayers$Reader.exchange -/
def fR_exchange (F G : Nat) (S : St) (o2 : Nat) : Option (Nat × St) :=
  gd (isSc o2) (gd (isSc S.2.2.2) (lt (sD S o2) fun S2 => some (S.2.2.2, S2)))
set_option maxRecDepth 100000 in
set_option maxHeartbeats 4000000 in
theorem c_R_exchange {X : Nat × (Nat → Int32)} {D F G : Nat} (hD : 0 ≤ D) {S : St} {o2 : Nat} {res : Nat × St} (h : fR_exchange F G S o2 = some res) : Ek X (D) mR_exchange 0 [(0, .ref 1), (1, .ref o2)] [] S (some (.ref res.1)) res.2 := by
  unfold fR_exchange at h
  obtain ⟨gg0, h⟩ := gd_inv h
  refine x_aload_n d_R_exchange_0 rfl 0 rfl ?_
  refine y_getR d_R_exchange_1 fl_1_25 rfl kd_1 rr_draft ?_
  obtain ⟨g1, h⟩ := gd_inv h
  refine x_astore_n (L1 := [(0, .ref 1), (1, .ref o2), (2, .ref S.2.2.2)]) d_R_exchange_4 rfl (Nat.le_of_ble_eq_true rfl) rfl rfl ?_
  refine x_aload_n d_R_exchange_5 rfl 0 rfl ?_
  refine x_aload_n d_R_exchange_6 rfl 1 rfl ?_
  obtain ⟨S2, e3, h⟩ := lt_inv h
  refine y_putD e3 d_R_exchange_7 fl_1_25 ?_
  refine x_aload_n d_R_exchange_10 rfl 2 rfl ?_
  obtain rfl := Option.some.inj h
  exact x_ret (r := some (.ref S.2.2.2)) d_R_exchange_11 ⟨_, rfl⟩
/-! NinetyPlayers$Laying.follow -/
def b_L_follow_7 (F G : Nat) (z0 : Nat) (z1 : Nat) (rec : Int32 → St → Option (St)) (w2 : Int32) (S : St) : Option (St) :=
  if (10 : Int32) ≤ w2 then some S else gd (inB w2 10) (lt (sI S (z0 + 1) w2.toNatClampNeg (0 : Int32)) fun S5 => gd (inB w2 10) (gd (inB w2 10) (lt (sI S5 (z0 + 2) w2.toNatClampNeg (S5.1 (z1 + 6) w2.toNatClampNeg)) fun S9 => gd (inB w2 10) (gd (inB w2 10) (lt (sI S9 (z0 + 3) w2.toNatClampNeg (S9.1 (z1 + 7) w2.toNatClampNeg)) fun S13 => gd (inB w2 10) (gd (inB w2 10) (lt (sI S13 (z0 + 4) w2.toNatClampNeg (S13.1 (z1 + 8) w2.toNatClampNeg)) fun S17 => lt (w2 + 1) fun v19 => rec v19 S17)))))))
def fL_follow (F G : Nat) (S : St) (o : Nat) (o2 : Nat) : Option (St) :=
  gd (isLa o) (gd (isSc o2) (lt (sI S o 1 (0 : Int32)) fun S1 => fx2 (b_L_follow_7 F G o o2) F (0 : Int32) S1))
set_option maxRecDepth 100000 in
set_option maxHeartbeats 4000000 in
theorem T_L_follow_7 {X : Nat × (Nat → Int32)} {D F G : Nat} (hD : 0 ≤ D) {z0 : Nat} {z1 : Nat} (hz0 : isLa z0 = true) (hz1 : isSc z1 = true) : ∀ (f : Nat) (w2 : Int32) (S : St) (res : St), fx2 (b_L_follow_7 F G z0 z1 ) f w2 S = some res → Ek X (D) mL_follow 7 [(0, .ref z0), (1, .ref z1), (2, .int w2)] [] S none res := by
  refine fx2_ind ?_
  intro rec ih w2 S res h
  unfold b_L_follow_7 at h
  refine x_iload_n d_L_follow_7 rfl 2 rfl ?_
  refine x_bipush d_L_follow_8 bp_10 ?_
  refine x_icmp_ge (tgt := 62) d_L_follow_10 rfl (fun c3 => ?_) (fun c3 => ?_)
  · replace h := ite_t c3 h
    obtain rfl := Option.some.inj h
    exact x_ret (r := none) d_L_follow_62 rfl
  · replace h := ite_f c3 h
    refine x_aload_n d_L_follow_13 rfl 0 rfl ?_
    refine y_getR d_L_follow_14 fl_5_9 rfl (ksLa hz0) (rrLa_2 hz0) ?_
    refine x_iload_n d_L_follow_17 rfl 2 rfl ?_
    refine x_iconst d_L_follow_18 ic_0 ?_
    obtain ⟨g4, h⟩ := gd_inv h
    obtain ⟨S5, e6, h⟩ := lt_inv h
    refine y_iast e6 d_L_follow_19 (ksLa_1 hz0) g4 ?_
    refine x_aload_n d_L_follow_20 rfl 0 rfl ?_
    refine y_getR d_L_follow_21 fl_5_15 rfl (ksLa hz0) (rrLa_3 hz0) ?_
    refine x_iload_n d_L_follow_24 rfl 2 rfl ?_
    refine x_aload_n d_L_follow_25 rfl 1 rfl ?_
    refine y_getR d_L_follow_26 fl_5_28 rfl (ksSc hz1) (rrSc_12 hz1) ?_
    refine x_iload_n d_L_follow_29 rfl 2 rfl ?_
    obtain ⟨g7, h⟩ := gd_inv h
    refine y_iald d_L_follow_30 (ksSc_6 hz1) g7 ?_
    obtain ⟨g8, h⟩ := gd_inv h
    obtain ⟨S9, e10, h⟩ := lt_inv h
    refine y_iast e10 d_L_follow_31 (ksLa_2 hz0) g8 ?_
    refine x_aload_n d_L_follow_32 rfl 0 rfl ?_
    refine y_getR d_L_follow_33 fl_5_18 rfl (ksLa hz0) (rrLa_4 hz0) ?_
    refine x_iload_n d_L_follow_36 rfl 2 rfl ?_
    refine x_aload_n d_L_follow_37 rfl 1 rfl ?_
    refine y_getR d_L_follow_38 fl_5_31 rfl (ksSc hz1) (rrSc_13 hz1) ?_
    refine x_iload_n d_L_follow_41 rfl 2 rfl ?_
    obtain ⟨g11, h⟩ := gd_inv h
    refine y_iald d_L_follow_42 (ksSc_7 hz1) g11 ?_
    obtain ⟨g12, h⟩ := gd_inv h
    obtain ⟨S13, e14, h⟩ := lt_inv h
    refine y_iast e14 d_L_follow_43 (ksLa_3 hz0) g12 ?_
    refine x_aload_n d_L_follow_44 rfl 0 rfl ?_
    refine y_getR d_L_follow_45 fl_5_21 rfl (ksLa hz0) (rrLa_5 hz0) ?_
    refine x_iload_n d_L_follow_48 rfl 2 rfl ?_
    refine x_aload_n d_L_follow_49 rfl 1 rfl ?_
    refine y_getR d_L_follow_50 fl_5_32 rfl (ksSc hz1) (rrSc_14 hz1) ?_
    refine x_iload_n d_L_follow_53 rfl 2 rfl ?_
    obtain ⟨g15, h⟩ := gd_inv h
    refine y_iald d_L_follow_54 (ksSc_8 hz1) g15 ?_
    obtain ⟨g16, h⟩ := gd_inv h
    obtain ⟨S17, e18, h⟩ := lt_inv h
    refine y_iast e18 d_L_follow_55 (ksLa_4 hz0) g16 ?_
    obtain ⟨v19, e20, h⟩ := lt_inv h
    refine y_iinc (L1 := [(0, .ref z0), (1, .ref z1), (2, .int v19)]) e20 ic_1 d_L_follow_56 2 rfl (Nat.le_of_ble_eq_true rfl) rfl rfl ?_
    refine x_goto (tgt := 7) d_L_follow_59 rfl ?_
    exact ih v19 S17 _ h
set_option maxRecDepth 100000 in
set_option maxHeartbeats 4000000 in
theorem c_L_follow {X : Nat × (Nat → Int32)} {D F G : Nat} (hD : 0 ≤ D) {S : St} {o : Nat} {o2 : Nat} {res : St} (h : fL_follow F G S o o2 = some res) : Ek X (D) mL_follow 0 [(0, .ref o), (1, .ref o2)] [] S none res := by
  unfold fL_follow at h
  obtain ⟨gg0, h⟩ := gd_inv h
  obtain ⟨gg1, h⟩ := gd_inv h
  refine x_aload_n d_L_follow_0 rfl 0 rfl ?_
  refine x_iconst d_L_follow_1 ic_0 ?_
  obtain ⟨S1, e2, h⟩ := lt_inv h
  refine y_putI e2 d_L_follow_2 fl_5_24 rfl rfl (ksLa gg0) rfl rfl ?_
  refine x_iconst d_L_follow_5 ic_0 ?_
  refine x_istore_n (L1 := [(0, .ref o), (1, .ref o2), (2, .int (0 : Int32))]) d_L_follow_6 rfl (Nat.le_of_ble_eq_true rfl) rfl rfl ?_
  refine T_L_follow_7 (by omega) gg0 gg1  F (0 : Int32) S1 _ h
/-! NinetyPlayers$Acts.forget -/
def fC_forget (F G : Nat) (S : St) : Option (St) :=
  lt (sI S 51 0 (0 : Int32)) fun S1 => lt (sI S1 51 1 (0 : Int32)) fun S3 => some S3
set_option maxRecDepth 100000 in
set_option maxHeartbeats 4000000 in
theorem c_C_forget {X : Nat × (Nat → Int32)} {D F G : Nat} (hD : 0 ≤ D) {S : St} {res : St} (h : fC_forget F G S  = some res) : Ek X (D) mC_forget 0 [(0, .ref 51)] [] S none res := by
  unfold fC_forget at h
  refine x_aload_n d_C_forget_0 rfl 0 rfl ?_
  refine x_iconst d_C_forget_1 ic_0 ?_
  obtain ⟨S1, e2, h⟩ := lt_inv h
  refine y_putI e2 d_C_forget_2 fl_6_24 rfl rfl kd_51 rfl rfl ?_
  refine x_aload_n d_C_forget_5 rfl 0 rfl ?_
  refine x_iconst d_C_forget_6 ic_0 ?_
  obtain ⟨S3, e4, h⟩ := lt_inv h
  refine y_putI e4 d_C_forget_7 fl_6_28 rfl rfl kd_51 rfl rfl ?_
  obtain rfl := Option.some.inj h
  exact x_ret (r := none) d_C_forget_10 rfl
/-! NinetyPlayers$Witness.forget -/
def fI_forget (F G : Nat) (S : St) : Option (St) :=
  lt (sI S 69 0 (0 : Int32)) fun S1 => some S1
set_option maxRecDepth 100000 in
set_option maxHeartbeats 4000000 in
theorem c_I_forget {X : Nat × (Nat → Int32)} {D F G : Nat} (hD : 0 ≤ D) {S : St} {res : St} (h : fI_forget F G S  = some res) : Ek X (D) mI_forget 0 [(0, .ref 69)] [] S none res := by
  unfold fI_forget at h
  refine x_aload_n d_I_forget_0 rfl 0 rfl ?_
  refine x_iconst d_I_forget_1 ic_0 ?_
  obtain ⟨S1, e2, h⟩ := lt_inv h
  refine y_putI e2 d_I_forget_2 fl_10_34 rfl rfl kd_69 rfl rfl ?_
  obtain rfl := Option.some.inj h
  exact x_ret (r := none) d_I_forget_5 rfl
/-! NinetyPlayers.score -/
def b_N_score_9 (F G : Nat) (k39 : St → Option (Int32 × St)) (rec : Int32 → St → Option (Int32 × St)) (w1 : Int32) (S : St) : Option (Int32 × St) :=
  if (1600 : Int32) ≤ w1 then k39 S else bd (fR_goesOn F G S) fun v5 => if v5 = 0 then k39 S else bd (fR_readLine F G S ) fun S8 => lt (w1 + 1) fun v9 => rec v9 S8
def b_N_score_106 (F G : Nat) (rec : Int32 → St → Option (Int32 × St)) (w1 : Int32) (S : St) : Option (Int32 × St) :=
  if (Int32.ofNat 3) ≤ w1 then gd (isSc S.2.2.1) (some (S.1 S.2.2.1 6, S)) else gd (inB w1 3) (lt (sI S (36 + 5 * w1.toNatClampNeg) 0 (0 : Int32)) fun S34 => lt (w1 + 1) fun v36 => rec v36 S34)
def j_N_score_39 (F G : Nat) (S : St) : Option (Int32 × St) :=
  lt (sI S 2 0 (0 : Int32)) fun S12 => if (S12.1 1 0) = 0 then gd (isSc S12.2.2.1) (bd2 (fR_exchange F G S12 S12.2.2.1) fun v17 S18 => gd (isSc v17) (lt (sT S18 v17) fun S20 => gd (isSc S20.2.2.1) (bd (fL_follow F G S20 30 S20.2.2.1) fun S24 => bd (fC_forget F G S24 ) fun S26 => bd (fI_forget F G S26 ) fun S28 => lt (sI S28 0 12 (0 : Int32)) fun S29 => fx2 (b_N_score_106 F G ) F (0 : Int32) S29))) else some ((-1 : Int32), S12)
def fN_score (F G : Nat) (S : St) : Option (Int32 × St) :=
  bd (fR_begin F G S ) fun S2 => fx2 (b_N_score_9 F G  (fun S11 => j_N_score_39 F G  S11 )) F (0 : Int32) S2
set_option maxRecDepth 100000 in
set_option maxHeartbeats 4000000 in
theorem T_N_score_9 {X : Nat × (Nat → Int32)} {D F G : Nat} (hD : 10 + G ≤ D + 1) {k39 : St → Option (Int32 × St)} (hk39 : ∀ (S1 : St) (res : Int32 × St), k39 S1 = some res → Ek X (D + 1) mN_score 39 [(0, .ref 0)] [] S1 (some (.int res.1)) res.2) : ∀ (f : Nat) (w1 : Int32) (S : St) (res : Int32 × St), fx2 (b_N_score_9 F G k39 ) f w1 S = some res → Ek X (D + 1) mN_score 9 [(0, .ref 0), (1, .int w1)] [] S (some (.int res.1)) res.2 := by
  refine fx2_ind ?_
  intro rec ih w1 S res h
  unfold b_N_score_9 at h
  refine x_iload_n d_N_score_9 rfl 1 rfl ?_
  refine x_sipush d_N_score_10 sp_1600 ?_
  refine x_icmp_ge (tgt := 39) d_N_score_13 rfl (fun c3 => ?_) (fun c3 => ?_)
  · replace h := ite_t c3 h
    refine y_pick (L1 := [(0, .ref 0)]) [0] rfl ?_
    exact hk39 S _ h
  · replace h := ite_f c3 h
    refine x_aload_n d_N_score_16 rfl 0 rfl ?_
    refine y_getR d_N_score_17 fl_0_10 rfl kd_0 rr_0_0 ?_
    obtain ⟨v5, q4, h⟩ := bd_inv h
    refine y_V0i (v := v5) (S1 := S) d_N_score_20 ml_0_97 kd_1 rfl (Nat.le_of_ble_eq_true rfl) (Nat.le_of_ble_eq_true rfl) (c_R_goesOn (by omega) q4) ?_
    refine x_if_eq (tgt := 39) d_N_score_23 rfl (fun c6 => ?_) (fun c6 => ?_)
    · replace h := ite_t c6 h
      refine y_pick (L1 := [(0, .ref 0)]) [0] rfl ?_
      exact hk39 S _ h
    · replace h := ite_f c6 h
      refine x_aload_n d_N_score_26 rfl 0 rfl ?_
      refine y_getR d_N_score_27 fl_0_10 rfl kd_0 rr_0_0 ?_
      obtain ⟨S8, q7, h⟩ := bd_inv h
      refine y_V0v (S1 := S8) d_N_score_30 ml_0_101 kd_1 rfl (Nat.le_of_ble_eq_true rfl) (Nat.le_of_ble_eq_true rfl) (c_R_readLine (by omega) q7) ?_
      obtain ⟨v9, e10, h⟩ := lt_inv h
      refine y_iinc (L1 := [(0, .ref 0), (1, .int v9)]) e10 ic_1 d_N_score_33 1 rfl (Nat.le_of_ble_eq_true rfl) rfl rfl ?_
      refine x_goto (tgt := 9) d_N_score_36 rfl ?_
      exact ih v9 S8 _ h
set_option maxRecDepth 100000 in
set_option maxHeartbeats 4000000 in
theorem T_N_score_106 {X : Nat × (Nat → Int32)} {D F G : Nat} (hD : 10 + G ≤ D + 1) : ∀ (f : Nat) (w1 : Int32) (S : St) (res : Int32 × St), fx2 (b_N_score_106 F G ) f w1 S = some res → Ek X (D + 1) mN_score 106 [(0, .ref 0), (1, .int w1)] [] S (some (.int res.1)) res.2 := by
  refine fx2_ind ?_
  intro rec ih w1 S res h
  unfold b_N_score_106 at h
  refine x_iload_n d_N_score_106 rfl 1 rfl ?_
  refine x_aload_n d_N_score_107 rfl 0 rfl ?_
  refine y_getR d_N_score_108 fl_0_35 rfl kd_0 rr_0_4 ?_
  refine x_alen5 d_N_score_111 kd_35 ?_
  refine x_icmp_ge (tgt := 131) d_N_score_112 rfl (fun c31 => ?_) (fun c31 => ?_)
  · replace h := ite_t c31 h
    refine x_aload_n d_N_score_131 rfl 0 rfl ?_
    refine y_getR d_N_score_132 fl_0_24 rfl kd_0 rr_told ?_
    obtain ⟨g32, h⟩ := gd_inv h
    refine y_getI d_N_score_135 fl_0_122 rfl (ksSc g32) ?_
    obtain rfl := Option.some.inj h
    exact x_ret (r := some (.int (S.1 S.2.2.1 6))) d_N_score_138 ⟨_, rfl, rfl⟩
  · replace h := ite_f c31 h
    refine x_aload_n d_N_score_115 rfl 0 rfl ?_
    refine y_getR d_N_score_116 fl_0_35 rfl kd_0 rr_0_4 ?_
    refine x_iload_n d_N_score_119 rfl 1 rfl ?_
    obtain ⟨g33, h⟩ := gd_inv h
    refine y_aald d_N_score_120 g33 ?_
    refine x_iconst d_N_score_121 ic_0 ?_
    obtain ⟨S34, e35, h⟩ := lt_inv h
    refine y_putI e35 d_N_score_122 fl_0_118 rfl rfl (ksLa (isLa_box (inB_lt g33))) rfl rfl ?_
    obtain ⟨v36, e37, h⟩ := lt_inv h
    refine y_iinc (L1 := [(0, .ref 0), (1, .int v36)]) e37 ic_1 d_N_score_125 1 rfl (Nat.le_of_ble_eq_true rfl) rfl rfl ?_
    refine x_goto (tgt := 106) d_N_score_128 rfl ?_
    exact ih v36 S34 _ h
set_option maxRecDepth 100000 in
set_option maxHeartbeats 4000000 in
theorem c_N_score {X : Nat × (Nat → Int32)} {D F G : Nat} (hD : 10 + G ≤ D) {S : St} {res : Int32 × St} (h : fN_score F G S  = some res) : Ek X (D) mN_score 0 [(0, .ref 0)] [] S (some (.int res.1)) res.2 := by
  obtain ⟨D, rfl⟩ : ∃ E, D = E + 1 := ⟨D - 1, by omega⟩
  unfold fN_score at h
  have J39 : ∀ (S : St) (res : Int32 × St), j_N_score_39 F G S  = some res → Ek X (D + 1) mN_score 39 [(0, .ref 0)] [] S (some (.int res.1)) res.2 := by
    intro S  res h
    unfold j_N_score_39 at h
    refine x_aload_n d_N_score_39 rfl 0 rfl ?_
    refine y_getR d_N_score_40 fl_0_20 rfl kd_0 rr_0_1 ?_
    refine x_iconst d_N_score_43 ic_0 ?_
    obtain ⟨S12, e13, h⟩ := lt_inv h
    refine y_putI e13 d_N_score_44 fl_0_84 rfl rfl kd_2 rfl rfl ?_
    refine x_aload_n d_N_score_47 rfl 0 rfl ?_
    refine y_getR d_N_score_48 fl_0_10 rfl kd_0 rr_0_0 ?_
    refine y_getI d_N_score_51 fl_0_104 rfl kd_1 ?_
    refine x_if_eq (tgt := 59) d_N_score_54 rfl (fun c14 => ?_) (fun c14 => ?_)
    · replace h := ite_t c14 h
      refine x_aload_n d_N_score_59 rfl 0 rfl ?_
      refine x_aload_n d_N_score_60 rfl 0 rfl ?_
      refine y_getR d_N_score_61 fl_0_10 rfl kd_0 rr_0_0 ?_
      refine x_aload_n d_N_score_64 rfl 0 rfl ?_
      refine y_getR d_N_score_65 fl_0_24 rfl kd_0 rr_told ?_
      obtain ⟨g15, h⟩ := gd_inv h
      obtain ⟨v17, S18, q16, h⟩ := bd2_inv h
      refine y_V1r (v := v17) (S1 := S18) d_N_score_68 ml_0_107 kd_1 rfl (Nat.le_of_ble_eq_true rfl) (Nat.le_of_ble_eq_true rfl) (c_R_exchange (by omega) q16) ?_
      obtain ⟨g19, h⟩ := gd_inv h
      obtain ⟨S20, e21, h⟩ := lt_inv h
      refine y_putT e21 d_N_score_71 fl_0_24 ?_
      refine x_aload_n d_N_score_74 rfl 0 rfl ?_
      refine y_getR d_N_score_75 fl_0_31 rfl kd_0 rr_0_3 ?_
      refine x_aload_n d_N_score_78 rfl 0 rfl ?_
      refine y_getR d_N_score_79 fl_0_24 rfl kd_0 rr_told ?_
      obtain ⟨g22, h⟩ := gd_inv h
      obtain ⟨S24, q23, h⟩ := bd_inv h
      refine y_V1v (S1 := S24) d_N_score_82 ml_0_80 kd_30 rfl (Nat.le_of_ble_eq_true rfl) (Nat.le_of_ble_eq_true rfl) (c_L_follow (by omega) q23) ?_
      refine x_aload_n d_N_score_85 rfl 0 rfl ?_
      refine y_getR d_N_score_86 fl_0_42 rfl kd_0 rr_0_5 ?_
      obtain ⟨S26, q25, h⟩ := bd_inv h
      refine y_V0v (S1 := S26) d_N_score_89 ml_0_111 kd_51 rfl (Nat.le_of_ble_eq_true rfl) (Nat.le_of_ble_eq_true rfl) (c_C_forget (by omega) q25) ?_
      refine x_aload_n d_N_score_92 rfl 0 rfl ?_
      refine y_getR d_N_score_93 fl_0_73 rfl kd_0 rr_0_10 ?_
      obtain ⟨S28, q27, h⟩ := bd_inv h
      refine y_V0v (S1 := S28) d_N_score_96 ml_0_114 kd_69 rfl (Nat.le_of_ble_eq_true rfl) (Nat.le_of_ble_eq_true rfl) (c_I_forget (by omega) q27) ?_
      refine x_aload_n d_N_score_99 rfl 0 rfl ?_
      refine x_iconst d_N_score_100 ic_0 ?_
      obtain ⟨S29, e30, h⟩ := lt_inv h
      refine y_putI e30 d_N_score_101 fl_0_115 rfl rfl kd_0 rfl rfl ?_
      refine x_iconst d_N_score_104 ic_0 ?_
      refine x_istore_n (L1 := [(0, .ref 0), (1, .int (0 : Int32))]) d_N_score_105 rfl (Nat.le_of_ble_eq_true rfl) rfl rfl ?_
      refine T_N_score_106 (by omega)   F (0 : Int32) S29 _ h
    · replace h := ite_f c14 h
      refine x_iconst d_N_score_57 ic_m1 ?_
      obtain rfl := Option.some.inj h
      exact x_ret (r := some (.int (-1 : Int32))) d_N_score_58 ⟨_, rfl, rfl⟩
  refine x_aload_n d_N_score_0 rfl 0 rfl ?_
  refine y_getR d_N_score_1 fl_0_10 rfl kd_0 rr_0_0 ?_
  obtain ⟨S2, q1, h⟩ := bd_inv h
  refine y_V0v (S1 := S2) d_N_score_4 ml_0_94 kd_1 rfl (Nat.le_of_ble_eq_true rfl) (Nat.le_of_ble_eq_true rfl) (c_R_begin (by omega) q1) ?_
  refine x_iconst d_N_score_7 ic_0 ?_
  refine x_istore_n (L1 := [(0, .ref 0), (1, .int (0 : Int32))]) d_N_score_8 rfl (Nat.le_of_ble_eq_true rfl) rfl rfl ?_
  refine T_N_score_9 (by omega)  ?_ F (0 : Int32) S2 _ h
  · intro S11 res h
    exact J39 S11  _ h
/-! NinetyPlayersModel.here -/
def fM_here (F G : Nat) (S : St) (p1 : Int32) : Option (Int32) :=
  if (S.1 78 5) ≤ ((S.1 78 4) + p1) then some (-1 : Int32) else gd (inB ((S.1 78 4) + p1) 1600) (some (S.1 79 ((S.1 78 4) + p1).toNatClampNeg))
set_option maxRecDepth 100000 in
set_option maxHeartbeats 4000000 in
theorem c_M_here {X : Nat × (Nat → Int32)} {D F G : Nat} (hD : 0 ≤ D) {S : St} {p1 : Int32} {res : Int32} (h : fM_here F G S p1 = some res) : Ek X (D) mM_here 0 [(0, .ref 78), (1, .int p1)] [] S (some (.int res)) S := by
  unfold fM_here at h
  refine x_aload_n d_M_here_0 rfl 0 rfl ?_
  refine y_getI d_M_here_1 fl_11_152 rfl kd_78 ?_
  refine x_iload_n d_M_here_4 rfl 1 rfl ?_
  refine x_iadd d_M_here_5 ?_
  refine x_aload_n d_M_here_6 rfl 0 rfl ?_
  refine y_getI d_M_here_7 fl_11_155 rfl kd_78 ?_
  refine x_icmp_ge (tgt := 27) d_M_here_10 rfl (fun c1 => ?_) (fun c1 => ?_)
  · replace h := ite_t c1 h
    refine x_iconst d_M_here_27 ic_m1 ?_
    obtain rfl := Option.some.inj h
    exact x_ret (r := some (.int (-1 : Int32))) d_M_here_28 ⟨_, rfl, rfl⟩
  · replace h := ite_f c1 h
    refine x_aload_n d_M_here_13 rfl 0 rfl ?_
    refine y_getR d_M_here_14 fl_11_7 rfl kd_78 rr_78_0 ?_
    refine x_aload_n d_M_here_17 rfl 0 rfl ?_
    refine y_getI d_M_here_18 fl_11_152 rfl kd_78 ?_
    refine x_iload_n d_M_here_21 rfl 1 rfl ?_
    refine x_iadd d_M_here_22 ?_
    obtain ⟨g2, h⟩ := gd_inv h
    refine y_iald d_M_here_23 kd_79 g2 ?_
    refine x_goto (tgt := 28) d_M_here_24 rfl ?_
    obtain rfl := Option.some.inj h
    exact x_ret (r := some (.int (S.1 79 ((S.1 78 4) + p1).toNatClampNeg))) d_M_here_28 ⟨_, rfl, rfl⟩
/-! NinetyPlayersModel.isLetter -/
def fM_isLetter (F G : Nat) (S : St) (p1 : Int32) : Option (Int32) :=
  if p1 < (97 : Int32) then some (0 : Int32) else if (122 : Int32) < p1 then some (0 : Int32) else some (1 : Int32)
set_option maxRecDepth 100000 in
set_option maxHeartbeats 4000000 in
theorem c_M_isLetter {X : Nat × (Nat → Int32)} {D F G : Nat} (hD : 0 ≤ D) {S : St} {p1 : Int32} {res : Int32} (h : fM_isLetter F G S p1 = some res) : Ek X (D) mM_isLetter 0 [(0, .int p1)] [] S (some (.int res)) S := by
  unfold fM_isLetter at h
  refine x_iload_n d_M_isLetter_0 rfl 0 rfl ?_
  refine x_bipush d_M_isLetter_1 bp_97 ?_
  refine x_icmp_lt (tgt := 16) d_M_isLetter_3 rfl (fun c1 => ?_) (fun c1 => ?_)
  · replace h := ite_t c1 h
    refine x_iconst d_M_isLetter_16 ic_0 ?_
    obtain rfl := Option.some.inj h
    exact x_ret (r := some (.int (0 : Int32))) d_M_isLetter_17 ⟨_, rfl, rfl⟩
  · replace h := ite_f c1 h
    refine x_iload_n d_M_isLetter_6 rfl 0 rfl ?_
    refine x_bipush d_M_isLetter_7 bp_122 ?_
    refine x_icmp_gt (tgt := 16) d_M_isLetter_9 rfl (fun c2 => ?_) (fun c2 => ?_)
    · replace h := ite_t c2 h
      refine x_iconst d_M_isLetter_16 ic_0 ?_
      obtain rfl := Option.some.inj h
      exact x_ret (r := some (.int (0 : Int32))) d_M_isLetter_17 ⟨_, rfl, rfl⟩
    · replace h := ite_f c2 h
      refine x_iconst d_M_isLetter_12 ic_1 ?_
      refine x_goto (tgt := 17) d_M_isLetter_13 rfl ?_
      obtain rfl := Option.some.inj h
      exact x_ret (r := some (.int (1 : Int32))) d_M_isLetter_17 ⟨_, rfl, rfl⟩
/-! NinetyPlayersModel.isDigit -/
def fM_isDigit (F G : Nat) (S : St) (p1 : Int32) : Option (Int32) :=
  if p1 < (48 : Int32) then some (0 : Int32) else if (57 : Int32) < p1 then some (0 : Int32) else some (1 : Int32)
set_option maxRecDepth 100000 in
set_option maxHeartbeats 4000000 in
theorem c_M_isDigit {X : Nat × (Nat → Int32)} {D F G : Nat} (hD : 0 ≤ D) {S : St} {p1 : Int32} {res : Int32} (h : fM_isDigit F G S p1 = some res) : Ek X (D) mM_isDigit 0 [(0, .int p1)] [] S (some (.int res)) S := by
  unfold fM_isDigit at h
  refine x_iload_n d_M_isDigit_0 rfl 0 rfl ?_
  refine x_bipush d_M_isDigit_1 bp_48 ?_
  refine x_icmp_lt (tgt := 16) d_M_isDigit_3 rfl (fun c1 => ?_) (fun c1 => ?_)
  · replace h := ite_t c1 h
    refine x_iconst d_M_isDigit_16 ic_0 ?_
    obtain rfl := Option.some.inj h
    exact x_ret (r := some (.int (0 : Int32))) d_M_isDigit_17 ⟨_, rfl, rfl⟩
  · replace h := ite_f c1 h
    refine x_iload_n d_M_isDigit_6 rfl 0 rfl ?_
    refine x_bipush d_M_isDigit_7 bp_57 ?_
    refine x_icmp_gt (tgt := 16) d_M_isDigit_9 rfl (fun c2 => ?_) (fun c2 => ?_)
    · replace h := ite_t c2 h
      refine x_iconst d_M_isDigit_16 ic_0 ?_
      obtain rfl := Option.some.inj h
      exact x_ret (r := some (.int (0 : Int32))) d_M_isDigit_17 ⟨_, rfl, rfl⟩
    · replace h := ite_f c2 h
      refine x_iconst d_M_isDigit_12 ic_1 ?_
      refine x_goto (tgt := 17) d_M_isDigit_13 rfl ?_
      obtain rfl := Option.some.inj h
      exact x_ret (r := some (.int (1 : Int32))) d_M_isDigit_17 ⟨_, rfl, rfl⟩
/-! NinetyPlayersModel.isSign -/
def fM_isSign (F G : Nat) (S : St) (p1 : Int32) : Option (Int32) :=
  if p1 = (59 : Int32) then some (1 : Int32) else if p1 = (40 : Int32) then some (1 : Int32) else if p1 = (41 : Int32) then some (1 : Int32) else if p1 = (60 : Int32) then some (1 : Int32) else if p1 = (62 : Int32) then some (1 : Int32) else if p1 = (61 : Int32) then some (1 : Int32) else if p1 = (43 : Int32) then some (1 : Int32) else if p1 = (45 : Int32) then some (1 : Int32) else if p1 = (42 : Int32) then some (1 : Int32) else if p1 = (47 : Int32) then some (1 : Int32) else if p1 = (37 : Int32) then some (1 : Int32) else some (0 : Int32)
set_option maxRecDepth 100000 in
set_option maxHeartbeats 4000000 in
theorem c_M_isSign {X : Nat × (Nat → Int32)} {D F G : Nat} (hD : 0 ≤ D) {S : St} {p1 : Int32} {res : Int32} (h : fM_isSign F G S p1 = some res) : Ek X (D) mM_isSign 0 [(0, .int p1)] [] S (some (.int res)) S := by
  unfold fM_isSign at h
  refine x_iload_n d_M_isSign_0 rfl 0 rfl ?_
  refine x_bipush d_M_isSign_1 bp_59 ?_
  refine x_icmp_eq (tgt := 66) d_M_isSign_3 rfl (fun c1 => ?_) (fun c1 => ?_)
  · replace h := ite_t c1 h
    refine x_iconst d_M_isSign_66 ic_1 ?_
    refine x_goto (tgt := 71) d_M_isSign_67 rfl ?_
    obtain rfl := Option.some.inj h
    exact x_ret (r := some (.int (1 : Int32))) d_M_isSign_71 ⟨_, rfl, rfl⟩
  · replace h := ite_f c1 h
    refine x_iload_n d_M_isSign_6 rfl 0 rfl ?_
    refine x_bipush d_M_isSign_7 bp_40 ?_
    refine x_icmp_eq (tgt := 66) d_M_isSign_9 rfl (fun c2 => ?_) (fun c2 => ?_)
    · replace h := ite_t c2 h
      refine x_iconst d_M_isSign_66 ic_1 ?_
      refine x_goto (tgt := 71) d_M_isSign_67 rfl ?_
      obtain rfl := Option.some.inj h
      exact x_ret (r := some (.int (1 : Int32))) d_M_isSign_71 ⟨_, rfl, rfl⟩
    · replace h := ite_f c2 h
      refine x_iload_n d_M_isSign_12 rfl 0 rfl ?_
      refine x_bipush d_M_isSign_13 bp_41 ?_
      refine x_icmp_eq (tgt := 66) d_M_isSign_15 rfl (fun c3 => ?_) (fun c3 => ?_)
      · replace h := ite_t c3 h
        refine x_iconst d_M_isSign_66 ic_1 ?_
        refine x_goto (tgt := 71) d_M_isSign_67 rfl ?_
        obtain rfl := Option.some.inj h
        exact x_ret (r := some (.int (1 : Int32))) d_M_isSign_71 ⟨_, rfl, rfl⟩
      · replace h := ite_f c3 h
        refine x_iload_n d_M_isSign_18 rfl 0 rfl ?_
        refine x_bipush d_M_isSign_19 bp_60 ?_
        refine x_icmp_eq (tgt := 66) d_M_isSign_21 rfl (fun c4 => ?_) (fun c4 => ?_)
        · replace h := ite_t c4 h
          refine x_iconst d_M_isSign_66 ic_1 ?_
          refine x_goto (tgt := 71) d_M_isSign_67 rfl ?_
          obtain rfl := Option.some.inj h
          exact x_ret (r := some (.int (1 : Int32))) d_M_isSign_71 ⟨_, rfl, rfl⟩
        · replace h := ite_f c4 h
          refine x_iload_n d_M_isSign_24 rfl 0 rfl ?_
          refine x_bipush d_M_isSign_25 bp_62 ?_
          refine x_icmp_eq (tgt := 66) d_M_isSign_27 rfl (fun c5 => ?_) (fun c5 => ?_)
          · replace h := ite_t c5 h
            refine x_iconst d_M_isSign_66 ic_1 ?_
            refine x_goto (tgt := 71) d_M_isSign_67 rfl ?_
            obtain rfl := Option.some.inj h
            exact x_ret (r := some (.int (1 : Int32))) d_M_isSign_71 ⟨_, rfl, rfl⟩
          · replace h := ite_f c5 h
            refine x_iload_n d_M_isSign_30 rfl 0 rfl ?_
            refine x_bipush d_M_isSign_31 bp_61 ?_
            refine x_icmp_eq (tgt := 66) d_M_isSign_33 rfl (fun c6 => ?_) (fun c6 => ?_)
            · replace h := ite_t c6 h
              refine x_iconst d_M_isSign_66 ic_1 ?_
              refine x_goto (tgt := 71) d_M_isSign_67 rfl ?_
              obtain rfl := Option.some.inj h
              exact x_ret (r := some (.int (1 : Int32))) d_M_isSign_71 ⟨_, rfl, rfl⟩
            · replace h := ite_f c6 h
              refine x_iload_n d_M_isSign_36 rfl 0 rfl ?_
              refine x_bipush d_M_isSign_37 bp_43 ?_
              refine x_icmp_eq (tgt := 66) d_M_isSign_39 rfl (fun c7 => ?_) (fun c7 => ?_)
              · replace h := ite_t c7 h
                refine x_iconst d_M_isSign_66 ic_1 ?_
                refine x_goto (tgt := 71) d_M_isSign_67 rfl ?_
                obtain rfl := Option.some.inj h
                exact x_ret (r := some (.int (1 : Int32))) d_M_isSign_71 ⟨_, rfl, rfl⟩
              · replace h := ite_f c7 h
                refine x_iload_n d_M_isSign_42 rfl 0 rfl ?_
                refine x_bipush d_M_isSign_43 bp_45 ?_
                refine x_icmp_eq (tgt := 66) d_M_isSign_45 rfl (fun c8 => ?_) (fun c8 => ?_)
                · replace h := ite_t c8 h
                  refine x_iconst d_M_isSign_66 ic_1 ?_
                  refine x_goto (tgt := 71) d_M_isSign_67 rfl ?_
                  obtain rfl := Option.some.inj h
                  exact x_ret (r := some (.int (1 : Int32))) d_M_isSign_71 ⟨_, rfl, rfl⟩
                · replace h := ite_f c8 h
                  refine x_iload_n d_M_isSign_48 rfl 0 rfl ?_
                  refine x_bipush d_M_isSign_49 bp_42 ?_
                  refine x_icmp_eq (tgt := 66) d_M_isSign_51 rfl (fun c9 => ?_) (fun c9 => ?_)
                  · replace h := ite_t c9 h
                    refine x_iconst d_M_isSign_66 ic_1 ?_
                    refine x_goto (tgt := 71) d_M_isSign_67 rfl ?_
                    obtain rfl := Option.some.inj h
                    exact x_ret (r := some (.int (1 : Int32))) d_M_isSign_71 ⟨_, rfl, rfl⟩
                  · replace h := ite_f c9 h
                    refine x_iload_n d_M_isSign_54 rfl 0 rfl ?_
                    refine x_bipush d_M_isSign_55 bp_47 ?_
                    refine x_icmp_eq (tgt := 66) d_M_isSign_57 rfl (fun c10 => ?_) (fun c10 => ?_)
                    · replace h := ite_t c10 h
                      refine x_iconst d_M_isSign_66 ic_1 ?_
                      refine x_goto (tgt := 71) d_M_isSign_67 rfl ?_
                      obtain rfl := Option.some.inj h
                      exact x_ret (r := some (.int (1 : Int32))) d_M_isSign_71 ⟨_, rfl, rfl⟩
                    · replace h := ite_f c10 h
                      refine x_iload_n d_M_isSign_60 rfl 0 rfl ?_
                      refine x_bipush d_M_isSign_61 bp_37 ?_
                      refine x_icmp_ne (tgt := 70) d_M_isSign_63 rfl (fun c11 => ?_) (fun c11 => ?_)
                      · replace h := ite_f c11 h
                        refine x_iconst d_M_isSign_70 ic_0 ?_
                        obtain rfl := Option.some.inj h
                        exact x_ret (r := some (.int (0 : Int32))) d_M_isSign_71 ⟨_, rfl, rfl⟩
                      · replace h := ite_t c11 h
                        refine x_iconst d_M_isSign_66 ic_1 ?_
                        refine x_goto (tgt := 71) d_M_isSign_67 rfl ?_
                        obtain rfl := Option.some.inj h
                        exact x_ret (r := some (.int (1 : Int32))) d_M_isSign_71 ⟨_, rfl, rfl⟩
/-! NinetyPlayersModel.token -/
def j_M_token_20 (F G : Nat) (k33 : St → Option (St)) (rec : St → Option (St)) (S : St) : Option (St) :=
  lt (sI S 78 4 ((S.1 78 4) + (1 : Int32))) fun S7 => rec S7
def b_M_token_0 (F G : Nat) (k33 : St → Option (St)) (rec : St → Option (St)) (S : St) : Option (St) :=
  bd (fM_here F G S (0 : Int32)) fun v2 => if v2 = (32 : Int32) then j_M_token_20 F G k33 rec  S  else bd (fM_here F G S (0 : Int32)) fun v5 => if v5 = (10 : Int32) then j_M_token_20 F G k33 rec  S  else k33 S
def b_M_token_144 (F G : Nat) (k186 : Int32 → St → Option (St)) (rec : Int32 → St → Option (St)) (w2 : Int32) (S : St) : Option (St) :=
  bd (fM_here F G S w2) fun v29 => bd (fM_isDigit F G S v29) fun v31 => if v31 = 0 then k186 w2 S else if (4 : Int32) ≤ w2 then lt (w2 + 1) fun v34 => rec v34 S else bd (fM_here F G S w2) fun v37 => lt (sI S 78 8 ((((10 : Int32) * (S.1 78 8)) + v37) - (48 : Int32))) fun S38 => lt (w2 + 1) fun v40 => rec v40 S38
def b_M_token_78 (F G : Nat) (k119 : Int32 → St → Option (St)) (rec : Int32 → St → Option (St)) (w2 : Int32) (S : St) : Option (St) :=
  bd (fM_here F G S w2) fun v51 => bd (fM_isLetter F G S v51) fun v53 => if v53 = 0 then k119 w2 S else if (8 : Int32) ≤ w2 then lt (w2 + 1) fun v56 => rec v56 S else bd (fM_here F G S w2) fun v59 => lt (sL S 78 9 (((S.2.1 78 9) <<< ((8 : Int32).toInt64 &&& 63)) ||| v59.toInt64)) fun S60 => lt (w2 + 1) fun v62 => rec v62 S60
def j_M_token_232 (F G : Nat) (S : St) (y2 : Int32) : Option (St) :=
  if (S.1 78 6) = (3 : Int32) then some S else lt (sI S 78 4 ((S.1 78 4) + y2)) fun S76 => some S76
def j_M_token_229 (F G : Nat) (S : St) (y2 : Int32) (s1 : Int32) : Option (St) :=
  lt (sI S 78 6 s1) fun S73 => j_M_token_232 F G  S73 y2
def j_M_token_208 (F G : Nat) (S : St) (y2 : Int32) (s1 : Int32) : Option (St) :=
  lt (sI S 78 6 s1) fun S71 => j_M_token_232 F G  S71 y2
def j_M_token_203 (F G : Nat) (S : St) (y2 : Int32) : Option (St) :=
  j_M_token_208 F G  S y2 (3 : Int32)
def j_M_token_131 (F G : Nat) (S : St) (y2 : Int32) (s1 : Int32) : Option (St) :=
  lt (sI S 78 6 s1) fun S69 => j_M_token_232 F G  S69 y2
def fM_token (F G : Nat) (S : St) : Option (St) :=
  fx1 (b_M_token_0 F G  (fun S9 => lt (sI S9 78 7 (S9.1 78 4)) fun S10 => bd (fM_here F G S10 (0 : Int32)) fun v13 => lt (sL S10 78 9 (0 : Int64)) fun S14 => lt (sI S14 78 8 (0 : Int32)) fun S16 => if 0 ≤ v13 then bd (fM_isLetter F G S16 v13) fun v20 => if v20 = 0 then bd (fM_isDigit F G S16 v13) fun v23 => if v23 = 0 then bd (fM_isSign F G S16 v13) fun v26 => if v26 = 0 then j_M_token_229 F G  S16 (1 : Int32) (3 : Int32) else j_M_token_229 F G  S16 (1 : Int32) v13 else fx2 (b_M_token_144 F G  (fun v42 S43 => if (4 : Int32) < v42 then j_M_token_203 F G  S43 v42 else bd (fM_here F G S43 v42) fun v46 => bd (fM_isLetter F G S43 v46) fun v48 => if v48 = 0 then j_M_token_208 F G  S43 v42 (2 : Int32) else j_M_token_203 F G  S43 v42)) F (0 : Int32) S16 else fx2 (b_M_token_78 F G  (fun v64 S65 => if v64 ≤ (8 : Int32) then j_M_token_131 F G  S65 v64 (1 : Int32) else j_M_token_131 F G  S65 v64 (3 : Int32))) F (0 : Int32) S16 else lt (sI S16 78 6 (0 : Int32)) fun S67 => j_M_token_232 F G  S67 (0 : Int32))) F S
set_option maxRecDepth 100000 in
set_option maxHeartbeats 4000000 in
theorem T_M_token_0 {X : Nat × (Nat → Int32)} {D F G : Nat} (hD : 1 ≤ D + 1) {k33 : St → Option (St)} (hk33 : ∀ (S1 : St) (res : St), k33 S1 = some res → Ek X (D + 1) mM_token 33 [(0, .ref 78)] [] S1 none res) : ∀ (f : Nat) (S : St) (res : St), fx1 (b_M_token_0 F G k33 ) f S = some res → Ek X (D + 1) mM_token 0 [(0, .ref 78)] [] S none res := by
  refine fx1_ind ?_
  intro rec ih S res h
  unfold b_M_token_0 at h
  have J20 : ∀ (S : St) (res : St), j_M_token_20 F G k33 rec S  = some res → Ek X (D + 1) mM_token 20 [(0, .ref 78)] [] S none res := by
    intro S  res h
    unfold j_M_token_20 at h
    refine x_aload_n d_M_token_20 rfl 0 rfl ?_
    refine x_dup d_M_token_21 rfl ?_
    refine y_getI d_M_token_22 fl_11_152 rfl kd_78 ?_
    refine x_iconst d_M_token_25 ic_1 ?_
    refine x_iadd d_M_token_26 ?_
    obtain ⟨S7, e8, h⟩ := lt_inv h
    refine y_putI e8 d_M_token_27 fl_11_152 rfl rfl kd_78 rfl rfl ?_
    refine x_goto (tgt := 0) d_M_token_30 rfl ?_
    exact ih S7 _ h
  refine x_aload_n d_M_token_0 rfl 0 rfl ?_
  refine x_iconst d_M_token_1 ic_0 ?_
  obtain ⟨v2, q1, h⟩ := bd_inv h
  refine y_V1i (v := v2) (S1 := S) d_M_token_2 ml_11_158 kd_78 rfl (Nat.le_of_ble_eq_true rfl) (Nat.le_of_ble_eq_true rfl) (c_M_here (by omega) q1) ?_
  refine x_bipush d_M_token_5 bp_32 ?_
  refine x_icmp_eq (tgt := 20) d_M_token_7 rfl (fun c3 => ?_) (fun c3 => ?_)
  · replace h := ite_t c3 h
    exact J20 S  _ h
  · replace h := ite_f c3 h
    refine x_aload_n d_M_token_10 rfl 0 rfl ?_
    refine x_iconst d_M_token_11 ic_0 ?_
    obtain ⟨v5, q4, h⟩ := bd_inv h
    refine y_V1i (v := v5) (S1 := S) d_M_token_12 ml_11_158 kd_78 rfl (Nat.le_of_ble_eq_true rfl) (Nat.le_of_ble_eq_true rfl) (c_M_here (by omega) q4) ?_
    refine x_bipush d_M_token_15 bp_10 ?_
    refine x_icmp_ne (tgt := 33) d_M_token_17 rfl (fun c6 => ?_) (fun c6 => ?_)
    · replace h := ite_f c6 h
      exact hk33 S _ h
    · replace h := ite_t c6 h
      exact J20 S  _ h
set_option maxRecDepth 100000 in
set_option maxHeartbeats 4000000 in
theorem T_M_token_144 {X : Nat × (Nat → Int32)} {D F G : Nat} (hD : 1 ≤ D + 1) {k186 : Int32 → St → Option (St)} (hk186 : ∀ (u2 : Int32) (S1 : St) (res : St), k186 u2 S1 = some res → Ek X (D + 1) mM_token 186 [(0, .ref 78), (2, .int u2)] [] S1 none res) : ∀ (f : Nat) (w2 : Int32) (S : St) (res : St), fx2 (b_M_token_144 F G k186 ) f w2 S = some res → Ek X (D + 1) mM_token 144 [(0, .ref 78), (2, .int w2)] [] S none res := by
  refine fx2_ind ?_
  intro rec ih w2 S res h
  unfold b_M_token_144 at h
  refine x_aload_n d_M_token_144 rfl 0 rfl ?_
  refine x_iload_n d_M_token_145 rfl 1 rfl ?_
  obtain ⟨v29, q28, h⟩ := bd_inv h
  refine y_V1i (v := v29) (S1 := S) d_M_token_146 ml_11_158 kd_78 rfl (Nat.le_of_ble_eq_true rfl) (Nat.le_of_ble_eq_true rfl) (c_M_here (by omega) q28) ?_
  obtain ⟨v31, q30, h⟩ := bd_inv h
  refine y_S1i (v := v31) (S1 := S) d_M_token_149 ml_11_179 (Nat.le_of_ble_eq_true rfl) (Nat.le_of_ble_eq_true rfl) (c_M_isDigit (by omega) q30) ?_
  refine x_if_eq (tgt := 186) d_M_token_152 rfl (fun c32 => ?_) (fun c32 => ?_)
  · replace h := ite_t c32 h
    exact hk186 w2 S _ h
  · replace h := ite_f c32 h
    refine x_iload_n d_M_token_155 rfl 1 rfl ?_
    refine x_iconst d_M_token_156 ic_4 ?_
    refine x_icmp_ge (tgt := 180) d_M_token_157 rfl (fun c33 => ?_) (fun c33 => ?_)
    · replace h := ite_t c33 h
      obtain ⟨v34, e35, h⟩ := lt_inv h
      refine y_iinc (L1 := [(0, .ref 78), (2, .int v34)]) e35 ic_1 d_M_token_180 1 rfl (Nat.le_of_ble_eq_true rfl) rfl rfl ?_
      refine x_goto (tgt := 144) d_M_token_183 rfl ?_
      exact ih v34 S _ h
    · replace h := ite_f c33 h
      refine x_aload_n d_M_token_160 rfl 0 rfl ?_
      refine x_bipush d_M_token_161 bp_10 ?_
      refine x_aload_n d_M_token_163 rfl 0 rfl ?_
      refine y_getI d_M_token_164 fl_11_169 rfl kd_78 ?_
      refine x_imul d_M_token_167 ?_
      refine x_aload_n d_M_token_168 rfl 0 rfl ?_
      refine x_iload_n d_M_token_169 rfl 1 rfl ?_
      obtain ⟨v37, q36, h⟩ := bd_inv h
      refine y_V1i (v := v37) (S1 := S) d_M_token_170 ml_11_158 kd_78 rfl (Nat.le_of_ble_eq_true rfl) (Nat.le_of_ble_eq_true rfl) (c_M_here (by omega) q36) ?_
      refine x_iadd d_M_token_173 ?_
      refine x_bipush d_M_token_174 bp_48 ?_
      refine x_isub d_M_token_176 ?_
      obtain ⟨S38, e39, h⟩ := lt_inv h
      refine y_putI e39 d_M_token_177 fl_11_169 rfl rfl kd_78 rfl rfl ?_
      obtain ⟨v40, e41, h⟩ := lt_inv h
      refine y_iinc (L1 := [(0, .ref 78), (2, .int v40)]) e41 ic_1 d_M_token_180 1 rfl (Nat.le_of_ble_eq_true rfl) rfl rfl ?_
      refine x_goto (tgt := 144) d_M_token_183 rfl ?_
      exact ih v40 S38 _ h
set_option maxRecDepth 100000 in
set_option maxHeartbeats 4000000 in
theorem T_M_token_78 {X : Nat × (Nat → Int32)} {D F G : Nat} (hD : 1 ≤ D + 1) {k119 : Int32 → St → Option (St)} (hk119 : ∀ (u2 : Int32) (S1 : St) (res : St), k119 u2 S1 = some res → Ek X (D + 1) mM_token 119 [(0, .ref 78), (2, .int u2)] [] S1 none res) : ∀ (f : Nat) (w2 : Int32) (S : St) (res : St), fx2 (b_M_token_78 F G k119 ) f w2 S = some res → Ek X (D + 1) mM_token 78 [(0, .ref 78), (2, .int w2)] [] S none res := by
  refine fx2_ind ?_
  intro rec ih w2 S res h
  unfold b_M_token_78 at h
  refine x_aload_n d_M_token_78 rfl 0 rfl ?_
  refine x_iload_n d_M_token_79 rfl 1 rfl ?_
  obtain ⟨v51, q50, h⟩ := bd_inv h
  refine y_V1i (v := v51) (S1 := S) d_M_token_80 ml_11_158 kd_78 rfl (Nat.le_of_ble_eq_true rfl) (Nat.le_of_ble_eq_true rfl) (c_M_here (by omega) q50) ?_
  obtain ⟨v53, q52, h⟩ := bd_inv h
  refine y_S1i (v := v53) (S1 := S) d_M_token_83 ml_11_175 (Nat.le_of_ble_eq_true rfl) (Nat.le_of_ble_eq_true rfl) (c_M_isLetter (by omega) q52) ?_
  refine x_if_eq (tgt := 119) d_M_token_86 rfl (fun c54 => ?_) (fun c54 => ?_)
  · replace h := ite_t c54 h
    exact hk119 w2 S _ h
  · replace h := ite_f c54 h
    refine x_iload_n d_M_token_89 rfl 1 rfl ?_
    refine x_bipush d_M_token_90 bp_8 ?_
    refine x_icmp_ge (tgt := 113) d_M_token_92 rfl (fun c55 => ?_) (fun c55 => ?_)
    · replace h := ite_t c55 h
      obtain ⟨v56, e57, h⟩ := lt_inv h
      refine y_iinc (L1 := [(0, .ref 78), (2, .int v56)]) e57 ic_1 d_M_token_113 1 rfl (Nat.le_of_ble_eq_true rfl) rfl rfl ?_
      refine x_goto (tgt := 78) d_M_token_116 rfl ?_
      exact ih v56 S _ h
    · replace h := ite_f c55 h
      refine x_aload_n d_M_token_95 rfl 0 rfl ?_
      refine x_aload_n d_M_token_96 rfl 0 rfl ?_
      refine y_getL d_M_token_97 fl_11_165 rfl kd_78 ?_
      refine x_bipush d_M_token_100 bp_8 ?_
      refine x_lshl d_M_token_102 ?_
      refine x_aload_n d_M_token_103 rfl 0 rfl ?_
      refine x_iload_n d_M_token_104 rfl 1 rfl ?_
      obtain ⟨v59, q58, h⟩ := bd_inv h
      refine y_V1i (v := v59) (S1 := S) d_M_token_105 ml_11_158 kd_78 rfl (Nat.le_of_ble_eq_true rfl) (Nat.le_of_ble_eq_true rfl) (c_M_here (by omega) q58) ?_
      refine x_i2l d_M_token_108 ?_
      refine x_lor d_M_token_109 ?_
      obtain ⟨S60, e61, h⟩ := lt_inv h
      refine y_putL e61 d_M_token_110 fl_11_165 rfl rfl kd_78 ?_
      obtain ⟨v62, e63, h⟩ := lt_inv h
      refine y_iinc (L1 := [(0, .ref 78), (2, .int v62)]) e63 ic_1 d_M_token_113 1 rfl (Nat.le_of_ble_eq_true rfl) rfl rfl ?_
      refine x_goto (tgt := 78) d_M_token_116 rfl ?_
      exact ih v62 S60 _ h
set_option maxRecDepth 100000 in
set_option maxHeartbeats 4000000 in
theorem c_M_token {X : Nat × (Nat → Int32)} {D F G : Nat} (hD : 1 ≤ D) {S : St} {res : St} (h : fM_token F G S  = some res) : Ek X (D) mM_token 0 [(0, .ref 78)] [] S none res := by
  obtain ⟨D, rfl⟩ : ∃ E, D = E + 1 := ⟨D - 1, by omega⟩
  unfold fM_token at h
  have J232 : ∀ (S : St) (y2 : Int32) (res : St), j_M_token_232 F G S y2 = some res → Ek X (D + 1) mM_token 232 [(0, .ref 78), (2, .int y2)] [] S none res := by
    intro S y2 res h
    unfold j_M_token_232 at h
    refine x_aload_n d_M_token_232 rfl 0 rfl ?_
    refine y_getI d_M_token_233 fl_11_172 rfl kd_78 ?_
    refine x_iconst d_M_token_236 ic_3 ?_
    refine x_icmp_eq (tgt := 250) d_M_token_237 rfl (fun c75 => ?_) (fun c75 => ?_)
    · replace h := ite_t c75 h
      obtain rfl := Option.some.inj h
      exact x_ret (r := none) d_M_token_250 rfl
    · replace h := ite_f c75 h
      refine x_aload_n d_M_token_240 rfl 0 rfl ?_
      refine x_dup d_M_token_241 rfl ?_
      refine y_getI d_M_token_242 fl_11_152 rfl kd_78 ?_
      refine x_iload_n d_M_token_245 rfl 1 rfl ?_
      refine x_iadd d_M_token_246 ?_
      obtain ⟨S76, e77, h⟩ := lt_inv h
      refine y_putI e77 d_M_token_247 fl_11_152 rfl rfl kd_78 rfl rfl ?_
      obtain rfl := Option.some.inj h
      exact x_ret (r := none) d_M_token_250 rfl
  have J229 : ∀ (S : St) (y2 : Int32) (s1 : Int32) (res : St), j_M_token_229 F G S y2 s1 = some res → Ek X (D + 1) mM_token 229 [(0, .ref 78), (2, .int y2)] [.int s1, .ref 78] S none res := by
    intro S y2 s1 res h
    unfold j_M_token_229 at h
    obtain ⟨S73, e74, h⟩ := lt_inv h
    refine y_putI e74 d_M_token_229 fl_11_172 rfl rfl kd_78 rfl rfl ?_
    exact J232 S73 y2 _ h
  have J208 : ∀ (S : St) (y2 : Int32) (s1 : Int32) (res : St), j_M_token_208 F G S y2 s1 = some res → Ek X (D + 1) mM_token 208 [(0, .ref 78), (2, .int y2)] [.int s1, .ref 78] S none res := by
    intro S y2 s1 res h
    unfold j_M_token_208 at h
    obtain ⟨S71, e72, h⟩ := lt_inv h
    refine y_putI e72 d_M_token_208 fl_11_172 rfl rfl kd_78 rfl rfl ?_
    refine x_goto (tgt := 232) d_M_token_211 rfl ?_
    exact J232 S71 y2 _ h
  have J203 : ∀ (S : St) (y2 : Int32) (res : St), j_M_token_203 F G S y2 = some res → Ek X (D + 1) mM_token 203 [(0, .ref 78), (2, .int y2)] [.ref 78] S none res := by
    intro S y2 res h
    unfold j_M_token_203 at h
    refine x_iconst d_M_token_203 ic_3 ?_
    refine x_goto (tgt := 208) d_M_token_204 rfl ?_
    exact J208 S y2 (3 : Int32) _ h
  have J131 : ∀ (S : St) (y2 : Int32) (s1 : Int32) (res : St), j_M_token_131 F G S y2 s1 = some res → Ek X (D + 1) mM_token 131 [(0, .ref 78), (2, .int y2)] [.int s1, .ref 78] S none res := by
    intro S y2 s1 res h
    unfold j_M_token_131 at h
    obtain ⟨S69, e70, h⟩ := lt_inv h
    refine y_putI e70 d_M_token_131 fl_11_172 rfl rfl kd_78 rfl rfl ?_
    refine x_goto (tgt := 232) d_M_token_134 rfl ?_
    exact J232 S69 y2 _ h
  refine T_M_token_0 (by omega)  ?_ F S _ h
  · intro S9 res h
    refine x_aload_n d_M_token_33 rfl 0 rfl ?_
    refine x_aload_n d_M_token_34 rfl 0 rfl ?_
    refine y_getI d_M_token_35 fl_11_152 rfl kd_78 ?_
    obtain ⟨S10, e11, h⟩ := lt_inv h
    refine y_putI e11 d_M_token_38 fl_11_162 rfl rfl kd_78 rfl rfl ?_
    refine x_aload_n d_M_token_41 rfl 0 rfl ?_
    refine x_iconst d_M_token_42 ic_0 ?_
    obtain ⟨v13, q12, h⟩ := bd_inv h
    refine y_V1i (v := v13) (S1 := S10) d_M_token_43 ml_11_158 kd_78 rfl (Nat.le_of_ble_eq_true rfl) (Nat.le_of_ble_eq_true rfl) (c_M_here (by omega) q12) ?_
    refine x_istore_n (L1 := [(0, .ref 78), (1, .int v13)]) d_M_token_46 rfl (Nat.le_of_ble_eq_true rfl) rfl rfl ?_
    refine x_iconst d_M_token_47 ic_0 ?_
    refine x_istore_n (L1 := [(0, .ref 78), (1, .int v13), (2, .int (0 : Int32))]) d_M_token_48 rfl (Nat.le_of_ble_eq_true rfl) rfl rfl ?_
    refine x_aload_n d_M_token_49 rfl 0 rfl ?_
    refine x_lconst (v := 0) d_M_token_50 rfl ?_
    obtain ⟨S14, e15, h⟩ := lt_inv h
    refine y_putL e15 d_M_token_51 fl_11_165 rfl rfl kd_78 ?_
    refine x_aload_n d_M_token_54 rfl 0 rfl ?_
    refine x_iconst d_M_token_55 ic_0 ?_
    obtain ⟨S16, e17, h⟩ := lt_inv h
    refine y_putI e17 d_M_token_56 fl_11_169 rfl rfl kd_78 rfl rfl ?_
    refine x_iload_n d_M_token_59 rfl 1 rfl ?_
    refine x_if_ge (tgt := 71) d_M_token_60 rfl (fun c18 => ?_) (fun c18 => ?_)
    · replace h := ite_t c18 h
      refine x_iload_n d_M_token_71 rfl 1 rfl ?_
      obtain ⟨v20, q19, h⟩ := bd_inv h
      refine y_S1i (v := v20) (S1 := S16) d_M_token_72 ml_11_175 (Nat.le_of_ble_eq_true rfl) (Nat.le_of_ble_eq_true rfl) (c_M_isLetter (by omega) q19) ?_
      refine x_if_eq (tgt := 137) d_M_token_75 rfl (fun c21 => ?_) (fun c21 => ?_)
      · replace h := ite_t c21 h
        refine x_iload_n d_M_token_137 rfl 1 rfl ?_
        obtain ⟨v23, q22, h⟩ := bd_inv h
        refine y_S1i (v := v23) (S1 := S16) d_M_token_138 ml_11_179 (Nat.le_of_ble_eq_true rfl) (Nat.le_of_ble_eq_true rfl) (c_M_isDigit (by omega) q22) ?_
        refine x_if_eq (tgt := 214) d_M_token_141 rfl (fun c24 => ?_) (fun c24 => ?_)
        · replace h := ite_t c24 h
          refine x_iconst d_M_token_214 ic_1 ?_
          refine x_istore_n (L1 := [(0, .ref 78), (1, .int v13), (2, .int (1 : Int32))]) d_M_token_215 rfl (Nat.le_of_ble_eq_true rfl) rfl rfl ?_
          refine x_aload_n d_M_token_216 rfl 0 rfl ?_
          refine x_iload_n d_M_token_217 rfl 1 rfl ?_
          obtain ⟨v26, q25, h⟩ := bd_inv h
          refine y_S1i (v := v26) (S1 := S16) d_M_token_218 ml_11_182 (Nat.le_of_ble_eq_true rfl) (Nat.le_of_ble_eq_true rfl) (c_M_isSign (by omega) q25) ?_
          refine x_if_eq (tgt := 228) d_M_token_221 rfl (fun c27 => ?_) (fun c27 => ?_)
          · replace h := ite_t c27 h
            refine x_iconst d_M_token_228 ic_3 ?_
            refine y_pick (L1 := [(0, .ref 78), (2, .int (1 : Int32))]) [0, 2] rfl ?_
            exact J229 S16 (1 : Int32) (3 : Int32) _ h
          · replace h := ite_f c27 h
            refine x_iload_n d_M_token_224 rfl 1 rfl ?_
            refine x_goto (tgt := 229) d_M_token_225 rfl ?_
            refine y_pick (L1 := [(0, .ref 78), (2, .int (1 : Int32))]) [0, 2] rfl ?_
            exact J229 S16 (1 : Int32) v13 _ h
        · replace h := ite_f c24 h
          refine y_pick (L1 := [(0, .ref 78), (2, .int (0 : Int32))]) [0, 2] rfl ?_
          refine T_M_token_144 (by omega)  ?_ F (0 : Int32) S16 _ h
          · intro v42 S43 res h
            refine x_aload_n d_M_token_186 rfl 0 rfl ?_
            refine x_iload_n d_M_token_187 rfl 1 rfl ?_
            refine x_iconst d_M_token_188 ic_4 ?_
            refine x_icmp_gt (tgt := 203) d_M_token_189 rfl (fun c44 => ?_) (fun c44 => ?_)
            · replace h := ite_t c44 h
              exact J203 S43 v42 _ h
            · replace h := ite_f c44 h
              refine x_aload_n d_M_token_192 rfl 0 rfl ?_
              refine x_iload_n d_M_token_193 rfl 1 rfl ?_
              obtain ⟨v46, q45, h⟩ := bd_inv h
              refine y_V1i (v := v46) (S1 := S43) d_M_token_194 ml_11_158 kd_78 rfl (Nat.le_of_ble_eq_true rfl) (Nat.le_of_ble_eq_true rfl) (c_M_here (by omega) q45) ?_
              obtain ⟨v48, q47, h⟩ := bd_inv h
              refine y_S1i (v := v48) (S1 := S43) d_M_token_197 ml_11_175 (Nat.le_of_ble_eq_true rfl) (Nat.le_of_ble_eq_true rfl) (c_M_isLetter (by omega) q47) ?_
              refine x_if_eq (tgt := 207) d_M_token_200 rfl (fun c49 => ?_) (fun c49 => ?_)
              · replace h := ite_t c49 h
                refine x_iconst d_M_token_207 ic_2 ?_
                exact J208 S43 v42 (2 : Int32) _ h
              · replace h := ite_f c49 h
                exact J203 S43 v42 _ h
      · replace h := ite_f c21 h
        refine y_pick (L1 := [(0, .ref 78), (2, .int (0 : Int32))]) [0, 2] rfl ?_
        refine T_M_token_78 (by omega)  ?_ F (0 : Int32) S16 _ h
        · intro v64 S65 res h
          refine x_aload_n d_M_token_119 rfl 0 rfl ?_
          refine x_iload_n d_M_token_120 rfl 1 rfl ?_
          refine x_bipush d_M_token_121 bp_8 ?_
          refine x_icmp_le (tgt := 130) d_M_token_123 rfl (fun c66 => ?_) (fun c66 => ?_)
          · replace h := ite_t c66 h
            refine x_iconst d_M_token_130 ic_1 ?_
            exact J131 S65 v64 (1 : Int32) _ h
          · replace h := ite_f c66 h
            refine x_iconst d_M_token_126 ic_3 ?_
            refine x_goto (tgt := 131) d_M_token_127 rfl ?_
            exact J131 S65 v64 (3 : Int32) _ h
    · replace h := ite_f c18 h
      refine x_aload_n d_M_token_63 rfl 0 rfl ?_
      refine x_iconst d_M_token_64 ic_0 ?_
      obtain ⟨S67, e68, h⟩ := lt_inv h
      refine y_putI e68 d_M_token_65 fl_11_172 rfl rfl kd_78 rfl rfl ?_
      refine x_goto (tgt := 232) d_M_token_68 rfl ?_
      refine y_pick (L1 := [(0, .ref 78), (2, .int (0 : Int32))]) [0, 2] rfl ?_
      exact J232 S67 (0 : Int32) _ h
/-! NinetyPlayersModel.isWord -/
def fM_isWord (F G : Nat) (S : St) (p1 : Int64) : Option (Int32) :=
  if (S.1 78 6) = (1 : Int32) then if (lg_cmp (S.2.1 78 9) p1) = 0 then some (1 : Int32) else some (0 : Int32) else some (0 : Int32)
set_option maxRecDepth 100000 in
set_option maxHeartbeats 4000000 in
theorem c_M_isWord {X : Nat × (Nat → Int32)} {D F G : Nat} (hD : 0 ≤ D) {S : St} {p1 : Int64} {res : Int32} (h : fM_isWord F G S p1 = some res) : Ek X (D) mM_isWord 0 [(0, .ref 78), (1, .long p1)] [] S (some (.int res)) S := by
  unfold fM_isWord at h
  refine x_aload_n d_M_isWord_0 rfl 0 rfl ?_
  refine y_getI d_M_isWord_1 fl_11_172 rfl kd_78 ?_
  refine x_iconst d_M_isWord_4 ic_1 ?_
  refine x_icmp_ne (tgt := 21) d_M_isWord_5 rfl (fun c1 => ?_) (fun c1 => ?_)
  · replace h := ite_f c1 h
    refine x_iconst d_M_isWord_21 ic_0 ?_
    obtain rfl := Option.some.inj h
    exact x_ret (r := some (.int (0 : Int32))) d_M_isWord_22 ⟨_, rfl, rfl⟩
  · replace h := ite_t c1 h
    refine x_aload_n d_M_isWord_8 rfl 0 rfl ?_
    refine y_getL d_M_isWord_9 fl_11_165 rfl kd_78 ?_
    refine x_lload_n d_M_isWord_12 rfl 1 rfl ?_
    refine x_lcmp d_M_isWord_13 ?_
    refine x_if_ne (tgt := 21) d_M_isWord_14 rfl (fun c2 => ?_) (fun c2 => ?_)
    · replace h := ite_f c2 h
      refine x_iconst d_M_isWord_21 ic_0 ?_
      obtain rfl := Option.some.inj h
      exact x_ret (r := some (.int (0 : Int32))) d_M_isWord_22 ⟨_, rfl, rfl⟩
    · replace h := ite_t c2 h
      refine x_iconst d_M_isWord_17 ic_1 ?_
      refine x_goto (tgt := 22) d_M_isWord_18 rfl ?_
      obtain rfl := Option.some.inj h
      exact x_ret (r := some (.int (1 : Int32))) d_M_isWord_22 ⟨_, rfl, rfl⟩
/-! NinetyPlayersModel.wrong -/
def j_M_wrong_22 (F G : Nat) (S : St) (s1 : Int32) : Option (St) :=
  lt (sI S 78 2 s1) fun S3 => lt (sI S3 78 3 (S3.1 78 7)) fun S5 => some S5
def fM_wrong (F G : Nat) (S : St) (p1 : Int32) : Option (St) :=
  if (S.1 78 2) ≤ 0 then if (S.1 78 6) = (3 : Int32) then j_M_wrong_22 F G  S (1 : Int32) else j_M_wrong_22 F G  S p1 else some S
set_option maxRecDepth 100000 in
set_option maxHeartbeats 4000000 in
theorem c_M_wrong {X : Nat × (Nat → Int32)} {D F G : Nat} (hD : 0 ≤ D) {S : St} {p1 : Int32} {res : St} (h : fM_wrong F G S p1 = some res) : Ek X (D) mM_wrong 0 [(0, .ref 78), (1, .int p1)] [] S none res := by
  unfold fM_wrong at h
  have J22 : ∀ (S : St) (s1 : Int32) (res : St), j_M_wrong_22 F G S s1 = some res → Ek X (D) mM_wrong 22 [(0, .ref 78)] [.int s1, .ref 78] S none res := by
    intro S s1 res h
    unfold j_M_wrong_22 at h
    obtain ⟨S3, e4, h⟩ := lt_inv h
    refine y_putI e4 d_M_wrong_22 fl_11_185 rfl rfl kd_78 rfl rfl ?_
    refine x_aload_n d_M_wrong_25 rfl 0 rfl ?_
    refine x_aload_n d_M_wrong_26 rfl 0 rfl ?_
    refine y_getI d_M_wrong_27 fl_11_162 rfl kd_78 ?_
    obtain ⟨S5, e6, h⟩ := lt_inv h
    refine y_putI e6 d_M_wrong_30 fl_11_13 rfl rfl kd_78 rfl rfl ?_
    obtain rfl := Option.some.inj h
    exact x_ret (r := none) d_M_wrong_33 rfl
  refine x_aload_n d_M_wrong_0 rfl 0 rfl ?_
  refine y_getI d_M_wrong_1 fl_11_185 rfl kd_78 ?_
  refine x_if_le (tgt := 8) d_M_wrong_4 rfl (fun c1 => ?_) (fun c1 => ?_)
  · replace h := ite_t c1 h
    refine x_aload_n d_M_wrong_8 rfl 0 rfl ?_
    refine x_aload_n d_M_wrong_9 rfl 0 rfl ?_
    refine y_getI d_M_wrong_10 fl_11_172 rfl kd_78 ?_
    refine x_iconst d_M_wrong_13 ic_3 ?_
    refine x_icmp_ne (tgt := 21) d_M_wrong_14 rfl (fun c2 => ?_) (fun c2 => ?_)
    · replace h := ite_f c2 h
      refine x_iload_n d_M_wrong_21 rfl 1 rfl ?_
      refine y_pick (L1 := [(0, .ref 78)]) [0] rfl ?_
      exact J22 S p1 _ h
    · replace h := ite_t c2 h
      refine x_iconst d_M_wrong_17 ic_1 ?_
      refine x_goto (tgt := 22) d_M_wrong_18 rfl ?_
      refine y_pick (L1 := [(0, .ref 78)]) [0] rfl ?_
      exact J22 S (1 : Int32) _ h
  · replace h := ite_f c1 h
    obtain rfl := Option.some.inj h
    exact x_ret (r := none) d_M_wrong_7 rfl
/-! NinetyPlayersModel.want -/
def fM_want (F G : Nat) (S : St) (p1 : Int64) : Option (St) :=
  if (S.1 78 2) ≤ 0 then bd (fM_isWord F G S p1) fun v3 => if v3 = 0 then bd (fM_wrong F G S (2 : Int32)) fun S8 => some S8 else bd (fM_token F G S ) fun S6 => some S6 else some S
set_option maxRecDepth 100000 in
set_option maxHeartbeats 4000000 in
theorem c_M_want {X : Nat × (Nat → Int32)} {D F G : Nat} (hD : 2 ≤ D) {S : St} {p1 : Int64} {res : St} (h : fM_want F G S p1 = some res) : Ek X (D) mM_want 0 [(0, .ref 78), (1, .long p1)] [] S none res := by
  obtain ⟨D, rfl⟩ : ∃ E, D = E + 1 := ⟨D - 1, by omega⟩
  unfold fM_want at h
  refine x_aload_n d_M_want_0 rfl 0 rfl ?_
  refine y_getI d_M_want_1 fl_11_185 rfl kd_78 ?_
  refine x_if_le (tgt := 8) d_M_want_4 rfl (fun c1 => ?_) (fun c1 => ?_)
  · replace h := ite_t c1 h
    refine x_aload_n d_M_want_8 rfl 0 rfl ?_
    refine x_lload_n d_M_want_9 rfl 1 rfl ?_
    obtain ⟨v3, q2, h⟩ := bd_inv h
    refine y_V1i (v := v3) (S1 := S) d_M_want_10 ml_11_234 kd_78 rfl (Nat.le_of_ble_eq_true rfl) (Nat.le_of_ble_eq_true rfl) (c_M_isWord (by omega) q2) ?_
    refine x_if_ne (tgt := 24) d_M_want_13 rfl (fun c4 => ?_) (fun c4 => ?_)
    · replace h := ite_f c4 h
      refine x_aload_n d_M_want_24 rfl 0 rfl ?_
      obtain ⟨S6, q5, h⟩ := bd_inv h
      refine y_V0v (S1 := S6) d_M_want_25 ml_11_241 kd_78 rfl (Nat.le_of_ble_eq_true rfl) (Nat.le_of_ble_eq_true rfl) (c_M_token (by omega) q5) ?_
      obtain rfl := Option.some.inj h
      exact x_ret (r := none) d_M_want_28 rfl
    · replace h := ite_t c4 h
      refine x_aload_n d_M_want_16 rfl 0 rfl ?_
      refine x_iconst d_M_want_17 ic_2 ?_
      obtain ⟨S8, q7, h⟩ := bd_inv h
      refine y_V1v (S1 := S8) d_M_want_18 ml_11_238 kd_78 rfl (Nat.le_of_ble_eq_true rfl) (Nat.le_of_ble_eq_true rfl) (c_M_wrong (by omega) q7) ?_
      refine x_goto (tgt := 28) d_M_want_21 rfl ?_
      obtain rfl := Option.some.inj h
      exact x_ret (r := none) d_M_want_28 rfl
  · replace h := ite_f c1 h
    obtain rfl := Option.some.inj h
    exact x_ret (r := none) d_M_want_7 rfl
/-! NinetyPlayersModel.toldNumber -/
def j_M_toldNumber_46 (F G : Nat) (S : St) : Option (Int32 × St) :=
  lt (S.1 78 8) fun v9 => if (S.1 78 2) = 0 then bd (fM_token F G S ) fun S13 => some (v9, S13) else some (v9, S)
def j_M_toldNumber_41 (F G : Nat) (S : St) : Option (Int32 × St) :=
  bd (fM_wrong F G S (4 : Int32)) fun S8 => j_M_toldNumber_46 F G  S8 
def fM_toldNumber (F G : Nat) (S : St) (p1 : Int32) (p2 : Int32) : Option (Int32 × St) :=
  if (S.1 78 2) ≤ 0 then if (S.1 78 6) = (2 : Int32) then if (S.1 78 8) < p1 then j_M_toldNumber_41 F G  S  else if (S.1 78 8) ≤ p2 then j_M_toldNumber_46 F G  S  else j_M_toldNumber_41 F G  S  else bd (fM_wrong F G S (2 : Int32)) fun S6 => j_M_toldNumber_46 F G  S6  else some ((0 : Int32), S)
set_option maxRecDepth 100000 in
set_option maxHeartbeats 4000000 in
theorem c_M_toldNumber {X : Nat × (Nat → Int32)} {D F G : Nat} (hD : 2 ≤ D) {S : St} {p1 : Int32} {p2 : Int32} {res : Int32 × St} (h : fM_toldNumber F G S p1 p2 = some res) : Ek X (D) mM_toldNumber 0 [(0, .ref 78), (1, .int p1), (2, .int p2)] [] S (some (.int res.1)) res.2 := by
  obtain ⟨D, rfl⟩ : ∃ E, D = E + 1 := ⟨D - 1, by omega⟩
  unfold fM_toldNumber at h
  have J46 : ∀ (S : St) (res : Int32 × St), j_M_toldNumber_46 F G S  = some res → Ek X (D + 1) mM_toldNumber 46 [(0, .ref 78)] [] S (some (.int res.1)) res.2 := by
    intro S  res h
    unfold j_M_toldNumber_46 at h
    refine x_aload_n d_M_toldNumber_46 rfl 0 rfl ?_
    refine y_getI d_M_toldNumber_47 fl_11_169 rfl kd_78 ?_
    obtain ⟨v9, e10, h⟩ := lt_inv h
    refine y_istore_n (L1 := [(0, .ref 78), (3, .int v9)]) e10 d_M_toldNumber_50 rfl (Nat.le_of_ble_eq_true rfl) rfl rfl ?_
    refine x_aload_n d_M_toldNumber_51 rfl 0 rfl ?_
    refine y_getI d_M_toldNumber_52 fl_11_185 rfl kd_78 ?_
    refine x_if_ne (tgt := 62) d_M_toldNumber_55 rfl (fun c11 => ?_) (fun c11 => ?_)
    · replace h := ite_f c11 h
      refine x_iload_n d_M_toldNumber_62 rfl 1 rfl ?_
      obtain rfl := Option.some.inj h
      exact x_ret (r := some (.int v9)) d_M_toldNumber_63 ⟨_, rfl, rfl⟩
    · replace h := ite_t c11 h
      refine x_aload_n d_M_toldNumber_58 rfl 0 rfl ?_
      obtain ⟨S13, q12, h⟩ := bd_inv h
      refine y_V0v (S1 := S13) d_M_toldNumber_59 ml_11_241 kd_78 rfl (Nat.le_of_ble_eq_true rfl) (Nat.le_of_ble_eq_true rfl) (c_M_token (by omega) q12) ?_
      refine x_iload_n d_M_toldNumber_62 rfl 1 rfl ?_
      obtain rfl := Option.some.inj h
      exact x_ret (r := some (.int v9)) d_M_toldNumber_63 ⟨_, rfl, rfl⟩
  have J41 : ∀ (S : St) (res : Int32 × St), j_M_toldNumber_41 F G S  = some res → Ek X (D + 1) mM_toldNumber 41 [(0, .ref 78)] [] S (some (.int res.1)) res.2 := by
    intro S  res h
    unfold j_M_toldNumber_41 at h
    refine x_aload_n d_M_toldNumber_41 rfl 0 rfl ?_
    refine x_iconst d_M_toldNumber_42 ic_4 ?_
    obtain ⟨S8, q7, h⟩ := bd_inv h
    refine y_V1v (S1 := S8) d_M_toldNumber_43 ml_11_238 kd_78 rfl (Nat.le_of_ble_eq_true rfl) (Nat.le_of_ble_eq_true rfl) (c_M_wrong (by omega) q7) ?_
    exact J46 S8  _ h
  refine x_aload_n d_M_toldNumber_0 rfl 0 rfl ?_
  refine y_getI d_M_toldNumber_1 fl_11_185 rfl kd_78 ?_
  refine x_if_le (tgt := 9) d_M_toldNumber_4 rfl (fun c1 => ?_) (fun c1 => ?_)
  · replace h := ite_t c1 h
    refine x_aload_n d_M_toldNumber_9 rfl 0 rfl ?_
    refine y_getI d_M_toldNumber_10 fl_11_172 rfl kd_78 ?_
    refine x_iconst d_M_toldNumber_13 ic_2 ?_
    refine x_icmp_eq (tgt := 25) d_M_toldNumber_14 rfl (fun c2 => ?_) (fun c2 => ?_)
    · replace h := ite_t c2 h
      refine x_aload_n d_M_toldNumber_25 rfl 0 rfl ?_
      refine y_getI d_M_toldNumber_26 fl_11_169 rfl kd_78 ?_
      refine x_iload_n d_M_toldNumber_29 rfl 1 rfl ?_
      refine x_icmp_lt (tgt := 41) d_M_toldNumber_30 rfl (fun c3 => ?_) (fun c3 => ?_)
      · replace h := ite_t c3 h
        refine y_pick (L1 := [(0, .ref 78)]) [0] rfl ?_
        exact J41 S  _ h
      · replace h := ite_f c3 h
        refine x_aload_n d_M_toldNumber_33 rfl 0 rfl ?_
        refine y_getI d_M_toldNumber_34 fl_11_169 rfl kd_78 ?_
        refine x_iload_n d_M_toldNumber_37 rfl 2 rfl ?_
        refine x_icmp_le (tgt := 46) d_M_toldNumber_38 rfl (fun c4 => ?_) (fun c4 => ?_)
        · replace h := ite_t c4 h
          refine y_pick (L1 := [(0, .ref 78)]) [0] rfl ?_
          exact J46 S  _ h
        · replace h := ite_f c4 h
          refine y_pick (L1 := [(0, .ref 78)]) [0] rfl ?_
          exact J41 S  _ h
    · replace h := ite_f c2 h
      refine x_aload_n d_M_toldNumber_17 rfl 0 rfl ?_
      refine x_iconst d_M_toldNumber_18 ic_2 ?_
      obtain ⟨S6, q5, h⟩ := bd_inv h
      refine y_V1v (S1 := S6) d_M_toldNumber_19 ml_11_238 kd_78 rfl (Nat.le_of_ble_eq_true rfl) (Nat.le_of_ble_eq_true rfl) (c_M_wrong (by omega) q5) ?_
      refine x_goto (tgt := 46) d_M_toldNumber_22 rfl ?_
      refine y_pick (L1 := [(0, .ref 78)]) [0] rfl ?_
      exact J46 S6  _ h
  · replace h := ite_f c1 h
    refine x_iconst d_M_toldNumber_7 ic_0 ?_
    obtain rfl := Option.some.inj h
    exact x_ret (r := some (.int (0 : Int32))) d_M_toldNumber_8 ⟨_, rfl, rfl⟩
/-! NinetyPlayersModel.told -/
def fM_told (F G : Nat) (S : St) (p1 : Int64) (p2 : Int32) (p3 : Int32) : Option (Int32 × St) :=
  bd (fM_want F G S p1) fun S2 => bd2 (fM_toldNumber F G S2 p2 p3) fun v4 S5 => some (v4, S5)
set_option maxRecDepth 100000 in
set_option maxHeartbeats 4000000 in
theorem c_M_told {X : Nat × (Nat → Int32)} {D F G : Nat} (hD : 3 ≤ D) {S : St} {p1 : Int64} {p2 : Int32} {p3 : Int32} {res : Int32 × St} (h : fM_told F G S p1 p2 p3 = some res) : Ek X (D) mM_told 0 [(0, .ref 78), (1, .long p1), (3, .int p2), (4, .int p3)] [] S (some (.int res.1)) res.2 := by
  obtain ⟨D, rfl⟩ : ∃ E, D = E + 1 := ⟨D - 1, by omega⟩
  unfold fM_told at h
  refine x_aload_n d_M_told_0 rfl 0 rfl ?_
  refine x_lload_n d_M_told_1 rfl 1 rfl ?_
  obtain ⟨S2, q1, h⟩ := bd_inv h
  refine y_V1v (S1 := S2) d_M_told_2 ml_11_244 kd_78 rfl (Nat.le_of_ble_eq_true rfl) (Nat.le_of_ble_eq_true rfl) (c_M_want (by omega) q1) ?_
  refine x_aload_n d_M_told_5 rfl 0 rfl ?_
  refine x_iload_n d_M_told_6 rfl 2 rfl ?_
  refine x_iload d_M_told_7 3 rfl ?_
  obtain ⟨v4, S5, q3, h⟩ := bd2_inv h
  refine y_V2i (v := v4) (S1 := S5) d_M_told_9 ml_11_248 kd_78 rfl (Nat.le_of_ble_eq_true rfl) (Nat.le_of_ble_eq_true rfl) (c_M_toldNumber (by omega) q3) ?_
  obtain rfl := Option.some.inj h
  exact x_ret (r := some (.int v4)) d_M_told_12 ⟨_, rfl, rfl⟩
/-! NinetyPlayersModel.isOwn -/
def fM_isOwn (F G : Nat) (S : St) : Option (Int32) :=
  if (lg_cmp (S.2.1 78 9) (422607680627 : Int64)) = 0 then some (1 : Int32) else if (lg_cmp (S.2.1 78 9) (1885434484 : Int64)) = 0 then some (1 : Int32) else if (lg_cmp (S.2.1 78 9) (1953853029 : Int64)) = 0 then some (1 : Int32) else if (lg_cmp (S.2.1 78 9) (1650553715 : Int64)) = 0 then some (1 : Int32) else if (lg_cmp (S.2.1 78 9) (1852798053 : Int64)) = 0 then some (1 : Int32) else if (lg_cmp (S.2.1 78 9) (28518 : Int64)) = 0 then some (1 : Int32) else if (lg_cmp (S.2.1 78 9) (24948 : Int64)) = 0 then some (1 : Int32) else if (lg_cmp (S.2.1 78 9) (7038329 : Int64)) = 0 then some (1 : Int32) else if (lg_cmp (S.2.1 78 9) (1819242087 : Int64)) = 0 then some (1 : Int32) else if (lg_cmp (S.2.1 78 9) (1819243876 : Int64)) = 0 then some (1 : Int32) else if (lg_cmp (S.2.1 78 9) (120299675936100 : Int64)) = 0 then some (1 : Int32) else if (lg_cmp (S.2.1 78 9) (1936744814 : Int64)) = 0 then some (1 : Int32) else if (lg_cmp (S.2.1 78 9) (28826370526507635 : Int64)) = 0 then some (1 : Int32) else if (lg_cmp (S.2.1 78 9) (1818583408 : Int64)) = 0 then some (1 : Int32) else if (lg_cmp (S.2.1 78 9) (6644082 : Int64)) = 0 then some (1 : Int32) else if (lg_cmp (S.2.1 78 9) (1919904869 : Int64)) = 0 then some (1 : Int32) else if (lg_cmp (S.2.1 78 9) (28270047624193380 : Int64)) = 0 then some (1 : Int32) else if (lg_cmp (S.2.1 78 9) (1650811252 : Int64)) = 0 then some (1 : Int32) else if (lg_cmp (S.2.1 78 9) (6385252 : Int64)) = 0 then some (1 : Int32) else if (lg_cmp (S.2.1 78 9) (28530 : Int64)) = 0 then some (1 : Int32) else if (lg_cmp (S.2.1 78 9) (7237492 : Int64)) = 0 then some (1 : Int32) else some (0 : Int32)
set_option maxRecDepth 100000 in
set_option maxHeartbeats 4000000 in
theorem c_M_isOwn {X : Nat × (Nat → Int32)} {D F G : Nat} (hD : 0 ≤ D) {S : St} {res : Int32} (h : fM_isOwn F G S  = some res) : Ek X (D) mM_isOwn 0 [(0, .ref 78)] [] S (some (.int res)) S := by
  unfold fM_isOwn at h
  refine x_aload_n d_M_isOwn_0 rfl 0 rfl ?_
  refine y_getL d_M_isOwn_1 fl_11_165 rfl kd_78 ?_
  refine x_ldc2 d_M_isOwn_4 kc_11_188 ?_
  refine x_lcmp d_M_isOwn_7 ?_
  refine x_if_eq (tgt := 231) d_M_isOwn_8 rfl (fun c1 => ?_) (fun c1 => ?_)
  · replace h := ite_t c1 h
    refine x_iconst d_M_isOwn_231 ic_1 ?_
    refine x_goto (tgt := 236) d_M_isOwn_232 rfl ?_
    obtain rfl := Option.some.inj h
    exact x_ret (r := some (.int (1 : Int32))) d_M_isOwn_236 ⟨_, rfl, rfl⟩
  · replace h := ite_f c1 h
    refine x_aload_n d_M_isOwn_11 rfl 0 rfl ?_
    refine y_getL d_M_isOwn_12 fl_11_165 rfl kd_78 ?_
    refine x_ldc2 d_M_isOwn_15 kc_11_190 ?_
    refine x_lcmp d_M_isOwn_18 ?_
    refine x_if_eq (tgt := 231) d_M_isOwn_19 rfl (fun c2 => ?_) (fun c2 => ?_)
    · replace h := ite_t c2 h
      refine x_iconst d_M_isOwn_231 ic_1 ?_
      refine x_goto (tgt := 236) d_M_isOwn_232 rfl ?_
      obtain rfl := Option.some.inj h
      exact x_ret (r := some (.int (1 : Int32))) d_M_isOwn_236 ⟨_, rfl, rfl⟩
    · replace h := ite_f c2 h
      refine x_aload_n d_M_isOwn_22 rfl 0 rfl ?_
      refine y_getL d_M_isOwn_23 fl_11_165 rfl kd_78 ?_
      refine x_ldc2 d_M_isOwn_26 kc_11_192 ?_
      refine x_lcmp d_M_isOwn_29 ?_
      refine x_if_eq (tgt := 231) d_M_isOwn_30 rfl (fun c3 => ?_) (fun c3 => ?_)
      · replace h := ite_t c3 h
        refine x_iconst d_M_isOwn_231 ic_1 ?_
        refine x_goto (tgt := 236) d_M_isOwn_232 rfl ?_
        obtain rfl := Option.some.inj h
        exact x_ret (r := some (.int (1 : Int32))) d_M_isOwn_236 ⟨_, rfl, rfl⟩
      · replace h := ite_f c3 h
        refine x_aload_n d_M_isOwn_33 rfl 0 rfl ?_
        refine y_getL d_M_isOwn_34 fl_11_165 rfl kd_78 ?_
        refine x_ldc2 d_M_isOwn_37 kc_11_194 ?_
        refine x_lcmp d_M_isOwn_40 ?_
        refine x_if_eq (tgt := 231) d_M_isOwn_41 rfl (fun c4 => ?_) (fun c4 => ?_)
        · replace h := ite_t c4 h
          refine x_iconst d_M_isOwn_231 ic_1 ?_
          refine x_goto (tgt := 236) d_M_isOwn_232 rfl ?_
          obtain rfl := Option.some.inj h
          exact x_ret (r := some (.int (1 : Int32))) d_M_isOwn_236 ⟨_, rfl, rfl⟩
        · replace h := ite_f c4 h
          refine x_aload_n d_M_isOwn_44 rfl 0 rfl ?_
          refine y_getL d_M_isOwn_45 fl_11_165 rfl kd_78 ?_
          refine x_ldc2 d_M_isOwn_48 kc_11_196 ?_
          refine x_lcmp d_M_isOwn_51 ?_
          refine x_if_eq (tgt := 231) d_M_isOwn_52 rfl (fun c5 => ?_) (fun c5 => ?_)
          · replace h := ite_t c5 h
            refine x_iconst d_M_isOwn_231 ic_1 ?_
            refine x_goto (tgt := 236) d_M_isOwn_232 rfl ?_
            obtain rfl := Option.some.inj h
            exact x_ret (r := some (.int (1 : Int32))) d_M_isOwn_236 ⟨_, rfl, rfl⟩
          · replace h := ite_f c5 h
            refine x_aload_n d_M_isOwn_55 rfl 0 rfl ?_
            refine y_getL d_M_isOwn_56 fl_11_165 rfl kd_78 ?_
            refine x_ldc2 d_M_isOwn_59 kc_11_198 ?_
            refine x_lcmp d_M_isOwn_62 ?_
            refine x_if_eq (tgt := 231) d_M_isOwn_63 rfl (fun c6 => ?_) (fun c6 => ?_)
            · replace h := ite_t c6 h
              refine x_iconst d_M_isOwn_231 ic_1 ?_
              refine x_goto (tgt := 236) d_M_isOwn_232 rfl ?_
              obtain rfl := Option.some.inj h
              exact x_ret (r := some (.int (1 : Int32))) d_M_isOwn_236 ⟨_, rfl, rfl⟩
            · replace h := ite_f c6 h
              refine x_aload_n d_M_isOwn_66 rfl 0 rfl ?_
              refine y_getL d_M_isOwn_67 fl_11_165 rfl kd_78 ?_
              refine x_ldc2 d_M_isOwn_70 kc_11_200 ?_
              refine x_lcmp d_M_isOwn_73 ?_
              refine x_if_eq (tgt := 231) d_M_isOwn_74 rfl (fun c7 => ?_) (fun c7 => ?_)
              · replace h := ite_t c7 h
                refine x_iconst d_M_isOwn_231 ic_1 ?_
                refine x_goto (tgt := 236) d_M_isOwn_232 rfl ?_
                obtain rfl := Option.some.inj h
                exact x_ret (r := some (.int (1 : Int32))) d_M_isOwn_236 ⟨_, rfl, rfl⟩
              · replace h := ite_f c7 h
                refine x_aload_n d_M_isOwn_77 rfl 0 rfl ?_
                refine y_getL d_M_isOwn_78 fl_11_165 rfl kd_78 ?_
                refine x_ldc2 d_M_isOwn_81 kc_11_202 ?_
                refine x_lcmp d_M_isOwn_84 ?_
                refine x_if_eq (tgt := 231) d_M_isOwn_85 rfl (fun c8 => ?_) (fun c8 => ?_)
                · replace h := ite_t c8 h
                  refine x_iconst d_M_isOwn_231 ic_1 ?_
                  refine x_goto (tgt := 236) d_M_isOwn_232 rfl ?_
                  obtain rfl := Option.some.inj h
                  exact x_ret (r := some (.int (1 : Int32))) d_M_isOwn_236 ⟨_, rfl, rfl⟩
                · replace h := ite_f c8 h
                  refine x_aload_n d_M_isOwn_88 rfl 0 rfl ?_
                  refine y_getL d_M_isOwn_89 fl_11_165 rfl kd_78 ?_
                  refine x_ldc2 d_M_isOwn_92 kc_11_204 ?_
                  refine x_lcmp d_M_isOwn_95 ?_
                  refine x_if_eq (tgt := 231) d_M_isOwn_96 rfl (fun c9 => ?_) (fun c9 => ?_)
                  · replace h := ite_t c9 h
                    refine x_iconst d_M_isOwn_231 ic_1 ?_
                    refine x_goto (tgt := 236) d_M_isOwn_232 rfl ?_
                    obtain rfl := Option.some.inj h
                    exact x_ret (r := some (.int (1 : Int32))) d_M_isOwn_236 ⟨_, rfl, rfl⟩
                  · replace h := ite_f c9 h
                    refine x_aload_n d_M_isOwn_99 rfl 0 rfl ?_
                    refine y_getL d_M_isOwn_100 fl_11_165 rfl kd_78 ?_
                    refine x_ldc2 d_M_isOwn_103 kc_11_206 ?_
                    refine x_lcmp d_M_isOwn_106 ?_
                    refine x_if_eq (tgt := 231) d_M_isOwn_107 rfl (fun c10 => ?_) (fun c10 => ?_)
                    · replace h := ite_t c10 h
                      refine x_iconst d_M_isOwn_231 ic_1 ?_
                      refine x_goto (tgt := 236) d_M_isOwn_232 rfl ?_
                      obtain rfl := Option.some.inj h
                      exact x_ret (r := some (.int (1 : Int32))) d_M_isOwn_236 ⟨_, rfl, rfl⟩
                    · replace h := ite_f c10 h
                      refine x_aload_n d_M_isOwn_110 rfl 0 rfl ?_
                      refine y_getL d_M_isOwn_111 fl_11_165 rfl kd_78 ?_
                      refine x_ldc2 d_M_isOwn_114 kc_11_208 ?_
                      refine x_lcmp d_M_isOwn_117 ?_
                      refine x_if_eq (tgt := 231) d_M_isOwn_118 rfl (fun c11 => ?_) (fun c11 => ?_)
                      · replace h := ite_t c11 h
                        refine x_iconst d_M_isOwn_231 ic_1 ?_
                        refine x_goto (tgt := 236) d_M_isOwn_232 rfl ?_
                        obtain rfl := Option.some.inj h
                        exact x_ret (r := some (.int (1 : Int32))) d_M_isOwn_236 ⟨_, rfl, rfl⟩
                      · replace h := ite_f c11 h
                        refine x_aload_n d_M_isOwn_121 rfl 0 rfl ?_
                        refine y_getL d_M_isOwn_122 fl_11_165 rfl kd_78 ?_
                        refine x_ldc2 d_M_isOwn_125 kc_11_210 ?_
                        refine x_lcmp d_M_isOwn_128 ?_
                        refine x_if_eq (tgt := 231) d_M_isOwn_129 rfl (fun c12 => ?_) (fun c12 => ?_)
                        · replace h := ite_t c12 h
                          refine x_iconst d_M_isOwn_231 ic_1 ?_
                          refine x_goto (tgt := 236) d_M_isOwn_232 rfl ?_
                          obtain rfl := Option.some.inj h
                          exact x_ret (r := some (.int (1 : Int32))) d_M_isOwn_236 ⟨_, rfl, rfl⟩
                        · replace h := ite_f c12 h
                          refine x_aload_n d_M_isOwn_132 rfl 0 rfl ?_
                          refine y_getL d_M_isOwn_133 fl_11_165 rfl kd_78 ?_
                          refine x_ldc2 d_M_isOwn_136 kc_11_212 ?_
                          refine x_lcmp d_M_isOwn_139 ?_
                          refine x_if_eq (tgt := 231) d_M_isOwn_140 rfl (fun c13 => ?_) (fun c13 => ?_)
                          · replace h := ite_t c13 h
                            refine x_iconst d_M_isOwn_231 ic_1 ?_
                            refine x_goto (tgt := 236) d_M_isOwn_232 rfl ?_
                            obtain rfl := Option.some.inj h
                            exact x_ret (r := some (.int (1 : Int32))) d_M_isOwn_236 ⟨_, rfl, rfl⟩
                          · replace h := ite_f c13 h
                            refine x_aload_n d_M_isOwn_143 rfl 0 rfl ?_
                            refine y_getL d_M_isOwn_144 fl_11_165 rfl kd_78 ?_
                            refine x_ldc2 d_M_isOwn_147 kc_11_214 ?_
                            refine x_lcmp d_M_isOwn_150 ?_
                            refine x_if_eq (tgt := 231) d_M_isOwn_151 rfl (fun c14 => ?_) (fun c14 => ?_)
                            · replace h := ite_t c14 h
                              refine x_iconst d_M_isOwn_231 ic_1 ?_
                              refine x_goto (tgt := 236) d_M_isOwn_232 rfl ?_
                              obtain rfl := Option.some.inj h
                              exact x_ret (r := some (.int (1 : Int32))) d_M_isOwn_236 ⟨_, rfl, rfl⟩
                            · replace h := ite_f c14 h
                              refine x_aload_n d_M_isOwn_154 rfl 0 rfl ?_
                              refine y_getL d_M_isOwn_155 fl_11_165 rfl kd_78 ?_
                              refine x_ldc2 d_M_isOwn_158 kc_11_216 ?_
                              refine x_lcmp d_M_isOwn_161 ?_
                              refine x_if_eq (tgt := 231) d_M_isOwn_162 rfl (fun c15 => ?_) (fun c15 => ?_)
                              · replace h := ite_t c15 h
                                refine x_iconst d_M_isOwn_231 ic_1 ?_
                                refine x_goto (tgt := 236) d_M_isOwn_232 rfl ?_
                                obtain rfl := Option.some.inj h
                                exact x_ret (r := some (.int (1 : Int32))) d_M_isOwn_236 ⟨_, rfl, rfl⟩
                              · replace h := ite_f c15 h
                                refine x_aload_n d_M_isOwn_165 rfl 0 rfl ?_
                                refine y_getL d_M_isOwn_166 fl_11_165 rfl kd_78 ?_
                                refine x_ldc2 d_M_isOwn_169 kc_11_218 ?_
                                refine x_lcmp d_M_isOwn_172 ?_
                                refine x_if_eq (tgt := 231) d_M_isOwn_173 rfl (fun c16 => ?_) (fun c16 => ?_)
                                · replace h := ite_t c16 h
                                  refine x_iconst d_M_isOwn_231 ic_1 ?_
                                  refine x_goto (tgt := 236) d_M_isOwn_232 rfl ?_
                                  obtain rfl := Option.some.inj h
                                  exact x_ret (r := some (.int (1 : Int32))) d_M_isOwn_236 ⟨_, rfl, rfl⟩
                                · replace h := ite_f c16 h
                                  refine x_aload_n d_M_isOwn_176 rfl 0 rfl ?_
                                  refine y_getL d_M_isOwn_177 fl_11_165 rfl kd_78 ?_
                                  refine x_ldc2 d_M_isOwn_180 kc_11_220 ?_
                                  refine x_lcmp d_M_isOwn_183 ?_
                                  refine x_if_eq (tgt := 231) d_M_isOwn_184 rfl (fun c17 => ?_) (fun c17 => ?_)
                                  · replace h := ite_t c17 h
                                    refine x_iconst d_M_isOwn_231 ic_1 ?_
                                    refine x_goto (tgt := 236) d_M_isOwn_232 rfl ?_
                                    obtain rfl := Option.some.inj h
                                    exact x_ret (r := some (.int (1 : Int32))) d_M_isOwn_236 ⟨_, rfl, rfl⟩
                                  · replace h := ite_f c17 h
                                    refine x_aload_n d_M_isOwn_187 rfl 0 rfl ?_
                                    refine y_getL d_M_isOwn_188 fl_11_165 rfl kd_78 ?_
                                    refine x_ldc2 d_M_isOwn_191 kc_11_222 ?_
                                    refine x_lcmp d_M_isOwn_194 ?_
                                    refine x_if_eq (tgt := 231) d_M_isOwn_195 rfl (fun c18 => ?_) (fun c18 => ?_)
                                    · replace h := ite_t c18 h
                                      refine x_iconst d_M_isOwn_231 ic_1 ?_
                                      refine x_goto (tgt := 236) d_M_isOwn_232 rfl ?_
                                      obtain rfl := Option.some.inj h
                                      exact x_ret (r := some (.int (1 : Int32))) d_M_isOwn_236 ⟨_, rfl, rfl⟩
                                    · replace h := ite_f c18 h
                                      refine x_aload_n d_M_isOwn_198 rfl 0 rfl ?_
                                      refine y_getL d_M_isOwn_199 fl_11_165 rfl kd_78 ?_
                                      refine x_ldc2 d_M_isOwn_202 kc_11_224 ?_
                                      refine x_lcmp d_M_isOwn_205 ?_
                                      refine x_if_eq (tgt := 231) d_M_isOwn_206 rfl (fun c19 => ?_) (fun c19 => ?_)
                                      · replace h := ite_t c19 h
                                        refine x_iconst d_M_isOwn_231 ic_1 ?_
                                        refine x_goto (tgt := 236) d_M_isOwn_232 rfl ?_
                                        obtain rfl := Option.some.inj h
                                        exact x_ret (r := some (.int (1 : Int32))) d_M_isOwn_236 ⟨_, rfl, rfl⟩
                                      · replace h := ite_f c19 h
                                        refine x_aload_n d_M_isOwn_209 rfl 0 rfl ?_
                                        refine y_getL d_M_isOwn_210 fl_11_165 rfl kd_78 ?_
                                        refine x_ldc2 d_M_isOwn_213 kc_11_226 ?_
                                        refine x_lcmp d_M_isOwn_216 ?_
                                        refine x_if_eq (tgt := 231) d_M_isOwn_217 rfl (fun c20 => ?_) (fun c20 => ?_)
                                        · replace h := ite_t c20 h
                                          refine x_iconst d_M_isOwn_231 ic_1 ?_
                                          refine x_goto (tgt := 236) d_M_isOwn_232 rfl ?_
                                          obtain rfl := Option.some.inj h
                                          exact x_ret (r := some (.int (1 : Int32))) d_M_isOwn_236 ⟨_, rfl, rfl⟩
                                        · replace h := ite_f c20 h
                                          refine x_aload_n d_M_isOwn_220 rfl 0 rfl ?_
                                          refine y_getL d_M_isOwn_221 fl_11_165 rfl kd_78 ?_
                                          refine x_ldc2 d_M_isOwn_224 kc_11_228 ?_
                                          refine x_lcmp d_M_isOwn_227 ?_
                                          refine x_if_ne (tgt := 235) d_M_isOwn_228 rfl (fun c21 => ?_) (fun c21 => ?_)
                                          · replace h := ite_f c21 h
                                            refine x_iconst d_M_isOwn_235 ic_0 ?_
                                            obtain rfl := Option.some.inj h
                                            exact x_ret (r := some (.int (0 : Int32))) d_M_isOwn_236 ⟨_, rfl, rfl⟩
                                          · replace h := ite_t c21 h
                                            refine x_iconst d_M_isOwn_231 ic_1 ?_
                                            refine x_goto (tgt := 236) d_M_isOwn_232 rfl ?_
                                            obtain rfl := Option.some.inj h
                                            exact x_ret (r := some (.int (1 : Int32))) d_M_isOwn_236 ⟨_, rfl, rfl⟩
/-! NinetyPlayersModel.isName -/
def fM_isName (F G : Nat) (S : St) : Option (Int32) :=
  if (S.1 78 6) = (1 : Int32) then bd (fM_isOwn F G S) fun v3 => if v3 = 0 then some (1 : Int32) else some (0 : Int32) else some (0 : Int32)
set_option maxRecDepth 100000 in
set_option maxHeartbeats 4000000 in
theorem c_M_isName {X : Nat × (Nat → Int32)} {D F G : Nat} (hD : 1 ≤ D) {S : St} {res : Int32} (h : fM_isName F G S  = some res) : Ek X (D) mM_isName 0 [(0, .ref 78)] [] S (some (.int res)) S := by
  obtain ⟨D, rfl⟩ : ∃ E, D = E + 1 := ⟨D - 1, by omega⟩
  unfold fM_isName at h
  refine x_aload_n d_M_isName_0 rfl 0 rfl ?_
  refine y_getI d_M_isName_1 fl_11_172 rfl kd_78 ?_
  refine x_iconst d_M_isName_4 ic_1 ?_
  refine x_icmp_ne (tgt := 19) d_M_isName_5 rfl (fun c1 => ?_) (fun c1 => ?_)
  · replace h := ite_f c1 h
    refine x_iconst d_M_isName_19 ic_0 ?_
    obtain rfl := Option.some.inj h
    exact x_ret (r := some (.int (0 : Int32))) d_M_isName_20 ⟨_, rfl, rfl⟩
  · replace h := ite_t c1 h
    refine x_aload_n d_M_isName_8 rfl 0 rfl ?_
    obtain ⟨v3, q2, h⟩ := bd_inv h
    refine y_V0i (v := v3) (S1 := S) d_M_isName_9 ml_11_230 kd_78 rfl (Nat.le_of_ble_eq_true rfl) (Nat.le_of_ble_eq_true rfl) (c_M_isOwn (by omega) q2) ?_
    refine x_if_ne (tgt := 19) d_M_isName_12 rfl (fun c4 => ?_) (fun c4 => ?_)
    · replace h := ite_f c4 h
      refine x_iconst d_M_isName_19 ic_0 ?_
      obtain rfl := Option.some.inj h
      exact x_ret (r := some (.int (0 : Int32))) d_M_isName_20 ⟨_, rfl, rfl⟩
    · replace h := ite_t c4 h
      refine x_iconst d_M_isName_15 ic_1 ?_
      refine x_goto (tgt := 20) d_M_isName_16 rfl ?_
      obtain rfl := Option.some.inj h
      exact x_ret (r := some (.int (1 : Int32))) d_M_isName_20 ⟨_, rfl, rfl⟩
/-! NinetyPlayersModel.find -/
def b_M_find_5 (F G : Nat) (S : St) (z1 : Int32) (z2 : Int32) (rec : Int32 → Int32 → Option (Int32)) (w3 : Int32) (w4 : Int32) : Option (Int32) :=
  if z2 ≤ w4 then some w3 else gd (inB (z1 + w4) 14) (if (lg_cmp (S.2.1 80 (z1 + w4).toNatClampNeg) (S.2.1 78 9)) = 0 then lt (w4 + 1) fun v6 => rec w4 v6 else lt (w4 + 1) fun v4 => rec w3 v4)
def fM_find (F G : Nat) (S : St) (p1 : Int32) (p2 : Int32) : Option (Int32) :=
  fx2 (b_M_find_5 F G S p1 p2) F (-1 : Int32) (0 : Int32)
set_option maxRecDepth 100000 in
set_option maxHeartbeats 4000000 in
theorem T_M_find_5 {X : Nat × (Nat → Int32)} {D F G : Nat} (hD : 0 ≤ D) {S : St} {z1 : Int32} {z2 : Int32} : ∀ (f : Nat) (w3 : Int32) (w4 : Int32) (res : Int32), fx2 (b_M_find_5 F G S z1 z2 ) f w3 w4 = some res → Ek X (D) mM_find 5 [(0, .ref 78), (1, .int z1), (2, .int z2), (3, .int w3), (4, .int w4)] [] S (some (.int res)) S := by
  refine fx2_ind ?_
  intro rec ih w3 w4 res h
  unfold b_M_find_5 at h
  refine x_iload d_M_find_5 4 rfl ?_
  refine x_iload_n d_M_find_7 rfl 2 rfl ?_
  refine x_icmp_ge (tgt := 41) d_M_find_8 rfl (fun c1 => ?_) (fun c1 => ?_)
  · replace h := ite_t c1 h
    refine x_iload_n d_M_find_41 rfl 3 rfl ?_
    obtain rfl := Option.some.inj h
    exact x_ret (r := some (.int w3)) d_M_find_42 ⟨_, rfl, rfl⟩
  · replace h := ite_f c1 h
    refine x_aload_n d_M_find_11 rfl 0 rfl ?_
    refine y_getR d_M_find_12 fl_11_17 rfl kd_78 rr_78_10 ?_
    refine x_iload_n d_M_find_15 rfl 1 rfl ?_
    refine x_iload d_M_find_16 4 rfl ?_
    refine x_iadd d_M_find_18 ?_
    obtain ⟨g2, h⟩ := gd_inv h
    refine y_lald d_M_find_19 kd_80 g2 ?_
    refine x_aload_n d_M_find_20 rfl 0 rfl ?_
    refine y_getL d_M_find_21 fl_11_165 rfl kd_78 ?_
    refine x_lcmp d_M_find_24 ?_
    refine x_if_ne (tgt := 33) d_M_find_25 rfl (fun c3 => ?_) (fun c3 => ?_)
    · replace h := ite_f c3 h
      refine x_iload_n d_M_find_33 rfl 3 rfl ?_
      refine x_istore_n (L1 := [(0, .ref 78), (1, .int z1), (2, .int z2), (3, .int w3), (4, .int w4)]) d_M_find_34 rfl (Nat.le_of_ble_eq_true rfl) rfl rfl ?_
      obtain ⟨v4, e5, h⟩ := lt_inv h
      refine y_iinc (L1 := [(0, .ref 78), (1, .int z1), (2, .int z2), (3, .int w3), (4, .int v4)]) e5 ic_1 d_M_find_35 4 rfl (Nat.le_of_ble_eq_true rfl) rfl rfl ?_
      refine x_goto (tgt := 5) d_M_find_38 rfl ?_
      exact ih w3 v4 _ h
    · replace h := ite_t c3 h
      refine x_iload d_M_find_28 4 rfl ?_
      refine x_goto (tgt := 34) d_M_find_30 rfl ?_
      refine x_istore_n (L1 := [(0, .ref 78), (1, .int z1), (2, .int z2), (3, .int w4), (4, .int w4)]) d_M_find_34 rfl (Nat.le_of_ble_eq_true rfl) rfl rfl ?_
      obtain ⟨v6, e7, h⟩ := lt_inv h
      refine y_iinc (L1 := [(0, .ref 78), (1, .int z1), (2, .int z2), (3, .int w4), (4, .int v6)]) e7 ic_1 d_M_find_35 4 rfl (Nat.le_of_ble_eq_true rfl) rfl rfl ?_
      refine x_goto (tgt := 5) d_M_find_38 rfl ?_
      exact ih w4 v6 _ h
set_option maxRecDepth 100000 in
set_option maxHeartbeats 4000000 in
theorem c_M_find {X : Nat × (Nat → Int32)} {D F G : Nat} (hD : 0 ≤ D) {S : St} {p1 : Int32} {p2 : Int32} {res : Int32} (h : fM_find F G S p1 p2 = some res) : Ek X (D) mM_find 0 [(0, .ref 78), (1, .int p1), (2, .int p2)] [] S (some (.int res)) S := by
  unfold fM_find at h
  refine x_iconst d_M_find_0 ic_m1 ?_
  refine x_istore_n (L1 := [(0, .ref 78), (1, .int p1), (2, .int p2), (3, .int (-1 : Int32))]) d_M_find_1 rfl (Nat.le_of_ble_eq_true rfl) rfl rfl ?_
  refine x_iconst d_M_find_2 ic_0 ?_
  refine x_istore (L1 := [(0, .ref 78), (1, .int p1), (2, .int p2), (3, .int (-1 : Int32)), (4, .int (0 : Int32))]) d_M_find_3 (Nat.le_of_ble_eq_true rfl) rfl rfl ?_
  refine T_M_find_5 (by omega)   F (-1 : Int32) (0 : Int32) _ h
/-! NinetyPlayersModel.newName -/
def j_M_newName_33 (F G : Nat) (S : St) (y1 : Int32) (y2 : Int32) : Option (St) :=
  if (S.1 78 2) ≤ 0 then gd (inB (y1 + y2) 14) (lt (sL S 80 (y1 + y2).toNatClampNeg (S.2.1 78 9)) fun S15 => bd (fM_token F G S15 ) fun S18 => some S18) else some S
def fM_newName (F G : Nat) (S : St) (p1 : Int32) (p2 : Int32) : Option (St) :=
  bd (fM_token F G S ) fun S2 => bd (fM_isName F G S2) fun v4 => if v4 = 0 then bd (fM_wrong F G S2 (2 : Int32)) fun S12 => j_M_newName_33 F G  S12 p1 p2 else bd (fM_find F G S2 p1 p2) fun v7 => if v7 < 0 then j_M_newName_33 F G  S2 p1 p2 else bd (fM_wrong F G S2 (3 : Int32)) fun S10 => j_M_newName_33 F G  S10 p1 p2
set_option maxRecDepth 100000 in
set_option maxHeartbeats 4000000 in
theorem c_M_newName {X : Nat × (Nat → Int32)} {D F G : Nat} (hD : 2 ≤ D) {S : St} {p1 : Int32} {p2 : Int32} {res : St} (h : fM_newName F G S p1 p2 = some res) : Ek X (D) mM_newName 0 [(0, .ref 78), (1, .int p1), (2, .int p2)] [] S none res := by
  obtain ⟨D, rfl⟩ : ∃ E, D = E + 1 := ⟨D - 1, by omega⟩
  unfold fM_newName at h
  have J33 : ∀ (S : St) (y1 : Int32) (y2 : Int32) (res : St), j_M_newName_33 F G S y1 y2 = some res → Ek X (D + 1) mM_newName 33 [(0, .ref 78), (1, .int y1), (2, .int y2)] [] S none res := by
    intro S y1 y2 res h
    unfold j_M_newName_33 at h
    refine x_aload_n d_M_newName_33 rfl 0 rfl ?_
    refine y_getI d_M_newName_34 fl_11_185 rfl kd_78 ?_
    refine x_if_le (tgt := 41) d_M_newName_37 rfl (fun c13 => ?_) (fun c13 => ?_)
    · replace h := ite_t c13 h
      refine x_aload_n d_M_newName_41 rfl 0 rfl ?_
      refine y_getR d_M_newName_42 fl_11_17 rfl kd_78 rr_78_10 ?_
      refine x_iload_n d_M_newName_45 rfl 1 rfl ?_
      refine x_iload_n d_M_newName_46 rfl 2 rfl ?_
      refine x_iadd d_M_newName_47 ?_
      refine x_aload_n d_M_newName_48 rfl 0 rfl ?_
      refine y_getL d_M_newName_49 fl_11_165 rfl kd_78 ?_
      obtain ⟨g14, h⟩ := gd_inv h
      obtain ⟨S15, e16, h⟩ := lt_inv h
      refine y_last e16 d_M_newName_52 kd_80 g14 ?_
      refine x_aload_n d_M_newName_53 rfl 0 rfl ?_
      obtain ⟨S18, q17, h⟩ := bd_inv h
      refine y_V0v (S1 := S18) d_M_newName_54 ml_11_241 kd_78 rfl (Nat.le_of_ble_eq_true rfl) (Nat.le_of_ble_eq_true rfl) (c_M_token (by omega) q17) ?_
      obtain rfl := Option.some.inj h
      exact x_ret (r := none) d_M_newName_57 rfl
    · replace h := ite_f c13 h
      obtain rfl := Option.some.inj h
      exact x_ret (r := none) d_M_newName_40 rfl
  refine x_aload_n d_M_newName_0 rfl 0 rfl ?_
  obtain ⟨S2, q1, h⟩ := bd_inv h
  refine y_V0v (S1 := S2) d_M_newName_1 ml_11_241 kd_78 rfl (Nat.le_of_ble_eq_true rfl) (Nat.le_of_ble_eq_true rfl) (c_M_token (by omega) q1) ?_
  refine x_aload_n d_M_newName_4 rfl 0 rfl ?_
  obtain ⟨v4, q3, h⟩ := bd_inv h
  refine y_V0i (v := v4) (S1 := S2) d_M_newName_5 ml_11_252 kd_78 rfl (Nat.le_of_ble_eq_true rfl) (Nat.le_of_ble_eq_true rfl) (c_M_isName (by omega) q3) ?_
  refine x_if_ne (tgt := 19) d_M_newName_8 rfl (fun c5 => ?_) (fun c5 => ?_)
  · replace h := ite_f c5 h
    refine x_aload_n d_M_newName_19 rfl 0 rfl ?_
    refine x_iload_n d_M_newName_20 rfl 1 rfl ?_
    refine x_iload_n d_M_newName_21 rfl 2 rfl ?_
    obtain ⟨v7, q6, h⟩ := bd_inv h
    refine y_V2i (v := v7) (S1 := S2) d_M_newName_22 ml_11_255 kd_78 rfl (Nat.le_of_ble_eq_true rfl) (Nat.le_of_ble_eq_true rfl) (c_M_find (by omega) q6) ?_
    refine x_if_lt (tgt := 33) d_M_newName_25 rfl (fun c8 => ?_) (fun c8 => ?_)
    · replace h := ite_t c8 h
      exact J33 S2 p1 p2 _ h
    · replace h := ite_f c8 h
      refine x_aload_n d_M_newName_28 rfl 0 rfl ?_
      refine x_iconst d_M_newName_29 ic_3 ?_
      obtain ⟨S10, q9, h⟩ := bd_inv h
      refine y_V1v (S1 := S10) d_M_newName_30 ml_11_238 kd_78 rfl (Nat.le_of_ble_eq_true rfl) (Nat.le_of_ble_eq_true rfl) (c_M_wrong (by omega) q9) ?_
      exact J33 S10 p1 p2 _ h
  · replace h := ite_t c5 h
    refine x_aload_n d_M_newName_11 rfl 0 rfl ?_
    refine x_iconst d_M_newName_12 ic_2 ?_
    obtain ⟨S12, q11, h⟩ := bd_inv h
    refine y_V1v (S1 := S12) d_M_newName_13 ml_11_238 kd_78 rfl (Nat.le_of_ble_eq_true rfl) (Nat.le_of_ble_eq_true rfl) (c_M_wrong (by omega) q11) ?_
    refine x_goto (tgt := 33) d_M_newName_16 rfl ?_
    exact J33 S12 p1 p2 _ h
