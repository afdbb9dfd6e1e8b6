/-! SAFETY of the questions -/
set_option maxRecDepth 100000 in
set_option maxHeartbeats 4000000 in
theorem s_b_M_layVersion_12 {F G : Nat} (hF : 100000 ≤ F) (hG : 20 ≤ G) {C : St}   : ∀ (f : Nat) (w2 : Int32) (w3 : Int32) (w4 : Int32) (S : St), iv w2 (0) (59048) → iv w4 (-1) (9) → Inv C S → w4.toInt - (-1) + 1 ≤ (f : Int) → Sf2 (fx4 (b_M_layVersion_12 F G)  f w2 w3 w4 S) (fun r S2 => iv r (-2147483648) (2147483647) ∧ Inv C S2) := by
  intro f
  induction f with
  | zero => intro w2 w3 w4 S h_w2 h_w4 hS_S hm; exact (ms_zd h_w4 hm).elim
  | succ f hrec =>
    intro w2 w3 w4 S h_w2 h_w4 hS_S hm
    replace hm := ms_s hm
    show Sf2 (b_M_layVersion_12 F G (fx4 (b_M_layVersion_12 F G)  f) w2 w3 w4 S) _
    generalize fx4 (b_M_layVersion_12 F G)  f = rec at hrec ⊢
    unfold b_M_layVersion_12
    refine sg_ite (fun c1 => ?_) (fun c1 => ?_)
    · have f2 : iv _ (-1) (-1) := iv_ltA c1 h_w4 kv_0 rfl
      exact sg_some (iv_top _) hS_S
    · have f3 : iv _ (0) (9) := iv_leB (Int32.not_lt.mp c1) kv_0 h_w4 rfl
      refine sg_gd (inB_iv f3 rfl) ?_
      refine sg_ltS0 (str_106 hS_S _ (iv_top _)) (fun S5 hS_S5 => ?_)
      refine sg_ltI (iv_div (u := 19682) h_w2 kv_3 rfl) (fun v7 h_v7 e_v7 => ?_)
      refine sg_gd (inB_iv f3 rfl) ?_
      refine sg_ite (fun c4 => ?_) (fun c4 => ?_)
      · have f5 : iv _ (0) (0) := iv_eqA c4 kv_0
        refine sg_gd (inB_iv f3 rfl) ?_
        refine sg_ltI (iv_top _) (fun v16 h_v16 e_v16 => ?_)
        refine sg_ltI (iv_add (l := -1) (u := 8) f3 kv_m1 rfl) (fun v18 h_v18 e_v18 => ?_)
        exact hrec _ _ _ _ (iv_w (l := 0) (u := 19682) h_v7 rfl) (iv_w (l := -1) (u := 8) h_v18 rfl) hS_S5 (ms_dn e_v18 f3 rfl hm)
      · refine sg_ltI (iv_top _) (fun v11 h_v11 e_v11 => ?_)
        refine sg_ltI (iv_add (l := -1) (u := 8) f3 kv_m1 rfl) (fun v13 h_v13 e_v13 => ?_)
        exact hrec _ _ _ _ (iv_w (l := 0) (u := 19682) h_v7 rfl) (iv_w (l := -1) (u := 8) h_v13 rfl) hS_S5 (ms_dn e_v13 f3 rfl hm)
set_option maxRecDepth 100000 in
set_option maxHeartbeats 4000000 in
theorem s_fM_layVersion {F G : Nat} (hF : 100000 ≤ F) (hG : 20 ≤ G) {C : St} {S : St} (hS_S : Inv C S) {p1 : Int32} (h_p1 : iv p1 (0) (59048)) : Sf2 (fM_layVersion F G S p1) (fun r S2 => iv r (-2147483648) (2147483647) ∧ Inv C S2) := by
  unfold fM_layVersion
  refine sg_ltI (iv_sub (l := -1) (u := 9) (cell_78_48 hS_S) kv_1 rfl) (fun v1 h_v1 e_v1 => ?_)
  exact s_b_M_layVersion_12 hF hG  F _ _ _ _ h_p1 h_v1 hS_S (ms_id h_v1 hF rfl)
set_option maxRecDepth 100000 in
set_option maxHeartbeats 4000000 in
theorem s_j_M_rowOf_28 {F G : Nat} (hF : 100000 ≤ F) (hG : 20 ≤ G) {C : St} {S : St} (hS_S : Inv C S) {z1 : Int32} (h_z1 : iv z1 (1) (2)) {Su : St} {y3 : Int32} (h_y3 : iv y3 (0) (9)) {s0 : Int32} (h_s0 : iv s0 (0) (1023)) {s1 : Int32} (h_s1 : iv s1 (0) (1)) {rec : Int32 → Int32 → Option (Int32)} {M : Int} (hrec : ∀ (w2 : Int32) (w3 : Int32), iv w2 (0) (1023) → iv w3 (0) (10) → (10) - w3.toInt + 1 ≤ M → Sf (rec w2 w3) (fun r => iv r (0) (1023))) (hm : (10) - y3.toInt ≤ M) : Sf (j_M_rowOf_28 F G S z1 rec Su y3 s0 s1) (fun r => iv r (0) (1023)) := by
  unfold j_M_rowOf_28
  refine sf_bd (s_fM_truth hF hG hS_S h_s1) (fun v5 h_v5 => ?_)
  refine sf_ltI (iv_or (n := 10) (u := 1023) h_s0 (iv_shb (u := 512) h_v5 h_y3 rfl) rfl) (fun v6 h_v6 e_v6 => ?_)
  refine sf_ltI (iv_add (l := 1) (u := 10) h_y3 kv_1 rfl) (fun v8 h_v8 e_v8 => ?_)
  exact hrec _ _ h_v6 (iv_w (l := 1) (u := 10) h_v8 rfl) (ms_up e_v8 h_y3 rfl hm)
set_option maxRecDepth 100000 in
set_option maxHeartbeats 4000000 in
theorem s_b_M_rowOf_4 {F G : Nat} (hF : 100000 ≤ F) (hG : 20 ≤ G) {C : St} {S : St} (hS_S : Inv C S) {z1 : Int32} (h_z1 : iv z1 (1) (2))  : ∀ (f : Nat) (w2 : Int32) (w3 : Int32), iv w2 (0) (1023) → iv w3 (0) (10) → (10) - w3.toInt + 1 ≤ (f : Int) → Sf (fx2 (b_M_rowOf_4 F G S z1)  f w2 w3) (fun r => iv r (0) (1023)) := by
  intro f
  induction f with
  | zero => intro w2 w3 h_w2 h_w3 hm; exact (ms_zu h_w3 hm).elim
  | succ f hrec =>
    intro w2 w3 h_w2 h_w3 hm
    replace hm := ms_s hm
    show Sf (b_M_rowOf_4 F G S z1 (fx2 (b_M_rowOf_4 F G S z1)  f) w2 w3) _
    generalize fx2 (b_M_rowOf_4 F G S z1)  f = rec at hrec ⊢
    unfold b_M_rowOf_4
    refine sf_ite (fun c1 => ?_) (fun c1 => ?_)
    · exact sf_some h_w2
    · have f2 : iv _ (0) (9) := iv_ltA (Int32.not_le.mp c1) h_w3 (cell_78_48 hS_S) rfl
      have f3 : iv _ (1) (10) := iv_ltB (Int32.not_le.mp c1) h_w3 (cell_78_48 hS_S) rfl
      refine sf_gd (inB_iv f2 rfl) ?_
      refine sf_ite (fun c4 => ?_) (fun c4 => ?_)
      · have f5 : iv _ (1) (2) := iv_eqA c4 h_z1
        exact s_j_M_rowOf_28 hF hG hS_S h_z1 f2 h_w2 (iv_w (l := 1) (u := 1) kv_1 rfl) hrec hm
      · exact s_j_M_rowOf_28 hF hG hS_S h_z1 f2 h_w2 (iv_w (l := 0) (u := 0) kv_0 rfl) hrec hm
set_option maxRecDepth 100000 in
set_option maxHeartbeats 4000000 in
theorem s_fM_rowOf {F G : Nat} (hF : 100000 ≤ F) (hG : 20 ≤ G) {C : St} {S : St} (hS_S : Inv C S) {p1 : Int32} (h_p1 : iv p1 (1) (2)) : Sf (fM_rowOf F G S p1) (fun r => iv r (0) (1023)) := by
  unfold fM_rowOf
  exact s_b_M_rowOf_4 hF hG hS_S h_p1 F _ _ (iv_w (l := 0) (u := 0) kv_0 rfl) (iv_w (l := 0) (u := 0) kv_0 rfl) (ms_iu kv_0 hF rfl)
set_option maxRecDepth 100000 in
set_option maxHeartbeats 4000000 in
theorem s_b_M_canBePlayed_6 {F G : Nat} (hF : 100000 ≤ F) (hG : 20 ≤ G) {C : St} {S : St} (hS_S : Inv C S) {z1 : Int32} (h_z1 : iv z1 (0) (1023)) {z2 : Int32} (h_z2 : iv z2 (0) (1023)) {z3 : Int32} {z4 : Int32}  : ∀ (f : Nat) (w5 : Int32) (w6 : Int32), iv w5 (0) (1) → iv w6 (0) (12) → (12) - w6.toInt + 1 ≤ (f : Int) → Sf (fx2 (b_M_canBePlayed_6 F G S z1 z2 z3 z4)  f w5 w6) (fun r => iv r (0) (1)) := by
  intro f
  induction f with
  | zero => intro w5 w6 h_w5 h_w6 hm; exact (ms_zu h_w6 hm).elim
  | succ f hrec =>
    intro w5 w6 h_w5 h_w6 hm
    replace hm := ms_s hm
    show Sf (b_M_canBePlayed_6 F G S z1 z2 z3 z4 (fx2 (b_M_canBePlayed_6 F G S z1 z2 z3 z4)  f) w5 w6) _
    generalize fx2 (b_M_canBePlayed_6 F G S z1 z2 z3 z4)  f = rec at hrec ⊢
    unfold b_M_canBePlayed_6
    refine sf_ite (fun c1 => ?_) (fun c1 => ?_)
    · have f2 : iv _ (1) (12) := iv_leB c1 (cell_78_46 hS_S) h_w6 rfl
      refine sf_gd (isB_iv h_w5 rfl) ?_
      exact sf_some h_w5
    · have f3 : iv _ (0) (11) := iv_ltA (Int32.not_le.mp c1) h_w6 (cell_78_46 hS_S) rfl
      refine sf_ite (fun c4 => ?_) (fun c4 => ?_)
      · have f5 : iv _ (0) (0) := iv_eqA c4 kv_0
        refine sf_gd (isB_iv f5 rfl) ?_
        exact sf_some (iv_w (l := 0) (u := 0) f5 rfl)
      · have f6 : iv _ (1) (1) := iv_neL c4 h_w5 kv_0 rfl
        refine sf_bd (s_fM_clashBy hF hG hS_S f3 h_z1 h_z2) (fun v6 h_v6 => ?_)
        refine sf_ite (fun c7 => ?_) (fun c7 => ?_)
        · have f8 : iv _ (0) (0) := iv_eqA c7 kv_0
          refine sf_ltI (iv_add (l := 1) (u := 12) f3 kv_1 rfl) (fun v10 h_v10 e_v10 => ?_)
          exact hrec _ _ (iv_w (l := 1) (u := 1) kv_1 rfl) (iv_w (l := 1) (u := 12) h_v10 rfl) (ms_up e_v10 f3 rfl hm)
        · have f9 : iv _ (1) (31) := iv_neL c7 h_v6 kv_0 rfl
          refine sf_ltI (iv_add (l := 1) (u := 12) f3 kv_1 rfl) (fun v8 h_v8 e_v8 => ?_)
          exact hrec _ _ (iv_w (l := 0) (u := 0) kv_0 rfl) (iv_w (l := 1) (u := 12) h_v8 rfl) (ms_up e_v8 f3 rfl hm)
set_option maxRecDepth 100000 in
set_option maxHeartbeats 4000000 in
theorem s_fM_canBePlayed {F G : Nat} (hF : 100000 ≤ F) (hG : 20 ≤ G) {C : St} {S : St} (hS_S : Inv C S) {p1 : Int32} (h_p1 : iv p1 (0) (1023)) {p2 : Int32} (h_p2 : iv p2 (0) (1023)) {p3 : Int32} {p4 : Int32} : Sf (fM_canBePlayed F G S p1 p2 p3 p4) (fun r => iv r (0) (1)) := by
  unfold fM_canBePlayed
  exact s_b_M_canBePlayed_6 hF hG hS_S h_p1 h_p2 F _ _ (iv_w (l := 1) (u := 1) kv_1 rfl) (iv_w (l := 0) (u := 0) kv_0 rfl) (ms_iu kv_0 hF rfl)
set_option maxRecDepth 100000 in
set_option maxHeartbeats 4000000 in
theorem s_b_M_best_70 {F G : Nat} (hF : 100000 ≤ F) (hG : 20 ≤ G) {C : St} {z1 : Int32} {z2 : Int32} {z3 : Int32} (h_z3 : iv z3 (-2147483648) (999999)) {z4 : Int32} (h_z4 : iv z4 (0) (59048)) {k99 : St → Option (Int32 × St)} (hk99 : ∀ (x0 : St), Inv C x0 → Sf2 (k99 x0) (fun r S2 => iv r (-2147483648) (1000000) ∧ Inv C S2))  : ∀ (f : Nat) (w6 : Int32) (S : St), iv w6 (0) (10) → Inv C S → (10) - w6.toInt + 1 ≤ (f : Int) → Sf2 (fx2 (b_M_best_70 F G z1 z2 z3 z4 k99)  f w6 S) (fun r S2 => iv r (-2147483648) (1000000) ∧ Inv C S2) := by
  intro f
  induction f with
  | zero => intro w6 S h_w6 hS_S hm; exact (ms_zu h_w6 hm).elim
  | succ f hrec =>
    intro w6 S h_w6 hS_S hm
    replace hm := ms_s hm
    show Sf2 (b_M_best_70 F G z1 z2 z3 z4 k99 (fx2 (b_M_best_70 F G z1 z2 z3 z4 k99)  f) w6 S) _
    generalize fx2 (b_M_best_70 F G z1 z2 z3 z4 k99)  f = rec at hrec ⊢
    unfold b_M_best_70
    refine sg_ite (fun c1 => ?_) (fun c1 => ?_)
    · exact hk99 _ hS_S
    · have f2 : iv _ (0) (9) := iv_ltA (Int32.not_le.mp c1) h_w6 (cell_78_48 hS_S) rfl
      have f3 : iv _ (1) (10) := iv_ltB (Int32.not_le.mp c1) h_w6 (cell_78_48 hS_S) rfl
      refine sg_gd (inB_iv f2 rfl) ?_
      refine sg_gd (inB_iv f2 rfl) ?_
      refine sg_ltS (Q := fun T => iv (T.1 78 48) (1) (10) ∧ True) (str_105 hS_S _ (iv_top _)) ⟨f3, trivial⟩ (fun S26 hS_S26 hq => ?_)
      obtain ⟨f4, -⟩ := hq
      refine sg_ltI (iv_add (l := 1) (u := 10) f2 kv_1 rfl) (fun v28 h_v28 e_v28 => ?_)
      exact hrec _ _ (iv_w (l := 1) (u := 10) h_v28 rfl) hS_S26 (ms_up e_v28 f2 rfl hm)
set_option maxRecDepth 100000 in
set_option maxHeartbeats 4000000 in
theorem s_b_M_best_15 {F G : Nat} (hF : 100000 ≤ F) (hG : 20 ≤ G) {C : St} {z1 : Int32} {z2 : Int32}  : ∀ (f : Nat) (w3 : Int32) (w4 : Int32) (S : St), iv w3 (-2147483648) (1000000) → iv w4 (0) (59049) → Inv C S → (59049) - w4.toInt + 1 ≤ (f : Int) → Sf2 (fx3 (b_M_best_15 F G z1 z2)  f w3 w4 S) (fun r S2 => iv r (-2147483648) (1000000) ∧ Inv C S2) := by
  intro f
  induction f with
  | zero => intro w3 w4 S h_w3 h_w4 hS_S hm; exact (ms_zu h_w4 hm).elim
  | succ f hrec =>
    intro w3 w4 S h_w3 h_w4 hS_S hm
    replace hm := ms_s hm
    show Sf2 (b_M_best_15 F G z1 z2 (fx3 (b_M_best_15 F G z1 z2)  f) w3 w4 S) _
    generalize fx3 (b_M_best_15 F G z1 z2)  f = rec at hrec ⊢
    unfold b_M_best_15
    refine sg_bd (s_fM_power hF hG hS_S kv_3 (cell_78_48 hS_S)) (fun v6 h_v6 => ?_)
    refine sg_ite (fun c1 => ?_) (fun c1 => ?_)
    · have f2 : iv _ (1) (59049) := iv_leB c1 h_v6 h_w4 rfl
      refine sg_ltS0 (st_78_68 hS_S (cell_78_48 hS_S)) (fun S8 hS_S8 => ?_)
      exact sg_some h_w3 hS_S8
    · have f3 : iv _ (0) (59048) := iv_ltA (Int32.not_le.mp c1) h_w4 h_v6 rfl
      refine sg_bd2 (s_fM_layVersion hF hG hS_S f3) (fun v11 S12 hq => ?_)
      obtain ⟨h_v11, hS_S12⟩ := hq
      refine sg_ite (fun c4 => ?_) (fun c4 => ?_)
      · refine sg_ltI (iv_add (l := 1) (u := 59049) f3 kv_1 rfl) (fun v14 h_v14 e_v14 => ?_)
        exact hrec _ _ _ h_w3 (iv_w (l := 1) (u := 59049) h_v14 rfl) hS_S12 (ms_up e_v14 f3 rfl hm)
      · have f5 : iv _ (-2147483648) (999999) := iv_ltA (Int32.not_le.mp c4) (iv_top _) h_w3 rfl
        have f6 : iv _ (-2147483647) (1000000) := iv_ltB (Int32.not_le.mp c4) (iv_top _) h_w3 rfl
        refine sg_bd (s_fM_rowOf hF hG hS_S12 (iv_w (l := 1) (u := 1) kv_1 rfl)) (fun v17 h_v17 => ?_)
        refine sg_bd (s_fM_rowOf hF hG hS_S12 (iv_w (l := 2) (u := 2) kv_2 rfl)) (fun v19 h_v19 => ?_)
        refine sg_bd (s_fM_canBePlayed hF hG hS_S12 h_v17 h_v19) (fun v21 h_v21 => ?_)
        refine sg_ite (fun c7 => ?_) (fun c7 => ?_)
        · have f8 : iv _ (0) (0) := iv_eqA c7 kv_0
          refine sg_ltI (iv_add (l := 1) (u := 59049) f3 kv_1 rfl) (fun v33 h_v33 e_v33 => ?_)
          exact hrec _ _ _ (iv_w (l := -2147483647) (u := 1000000) f6 rfl) (iv_w (l := 1) (u := 59049) h_v33 rfl) hS_S12 (ms_up e_v33 f3 rfl hm)
        · have f9 : iv _ (1) (1) := iv_neL c7 h_v21 kv_0 rfl
          refine s_b_M_best_70 hF hG f5 f3 ?_ F _ _ (iv_w (l := 0) (u := 0) kv_0 rfl) hS_S12 (ms_iu kv_0 hF rfl)
          · intro S30 hS_S30
            refine sg_ltI (iv_add (l := 1) (u := 59049) f3 kv_1 rfl) (fun v31 h_v31 e_v31 => ?_)
            exact hrec _ _ _ (iv_w (l := -2147483648) (u := 999999) f5 rfl) (iv_w (l := 1) (u := 59049) h_v31 rfl) hS_S30 (ms_up e_v31 f3 rfl hm)
set_option maxRecDepth 100000 in
set_option maxHeartbeats 4000000 in
theorem s_fM_best {F G : Nat} (hF : 100000 ≤ F) (hG : 20 ≤ G) {C : St} {S : St} (hS_S : Inv C S) {p1 : Int32} {p2 : Int32} : Sf2 (fM_best F G S p1 p2) (fun r S2 => iv r (-2147483648) (1000000) ∧ Inv C S2) := by
  unfold fM_best
  refine sg_bd (s_fM_fill hF hG hS_S) (fun S2 hS_S2 => ?_)
  refine sg_bd (s_fM_layMissed hF hG hS_S2) (fun S4 hS_S4 => ?_)
  exact s_b_M_best_15 hF hG  F _ _ _ (iv_w (l := 1000000) (u := 1000000) kv_1000000 rfl) (iv_w (l := 0) (u := 0) kv_0 rfl) hS_S4 (ms_iu kv_0 hF rfl)
set_option maxRecDepth 100000 in
set_option maxHeartbeats 4000000 in
theorem s_b_M_version_35 {F G : Nat} (hF : 100000 ≤ F) (hG : 20 ≤ G) {C : St} {S : St} (hS_S : Inv C S)  : ∀ (f : Nat) (w3 : Int32) (w4 : Int32), iv w4 (0) (10) → (10) - w4.toInt + 1 ≤ (f : Int) → Sf2 (fx2 (b_M_version_35 F G S)  f w3 w4) (fun r S2 => iv r (-2147483648) (2147483647) ∧ Inv C S2) := by
  intro f
  induction f with
  | zero => intro w3 w4 h_w4 hm; exact (ms_zu h_w4 hm).elim
  | succ f hrec =>
    intro w3 w4 h_w4 hm
    replace hm := ms_s hm
    show Sf2 (b_M_version_35 F G S (fx2 (b_M_version_35 F G S)  f) w3 w4) _
    generalize fx2 (b_M_version_35 F G S)  f = rec at hrec ⊢
    unfold b_M_version_35
    refine sg_ite (fun c1 => ?_) (fun c1 => ?_)
    · exact sg_some (iv_top _) hS_S
    · have f2 : iv _ (0) (9) := iv_ltA (Int32.not_le.mp c1) h_w4 (cell_78_48 hS_S) rfl
      have f3 : iv _ (1) (10) := iv_ltB (Int32.not_le.mp c1) h_w4 (cell_78_48 hS_S) rfl
      refine sg_gd (inB_iv f2 rfl) ?_
      refine sg_ite (fun c4 => ?_) (fun c4 => ?_)
      · have f5 : iv _ (-2147483648) (0) := iv_leA c4 (iv_top _) kv_0 rfl
        refine sg_bd (s_fM_truth hF hG hS_S (iv_w (l := 0) (u := 0) kv_0 rfl)) (fun v12 h_v12 => ?_)
        refine sg_ltI (iv_top _) (fun v13 h_v13 e_v13 => ?_)
        refine sg_ltI (iv_add (l := 1) (u := 10) f2 kv_1 rfl) (fun v15 h_v15 e_v15 => ?_)
        exact hrec _ _ (iv_w (l := 1) (u := 10) h_v15 rfl) (ms_up e_v15 f2 rfl hm)
      · have f6 : iv _ (1) (2147483647) := iv_ltB (Int32.not_le.mp c4) kv_0 (iv_top _) rfl
        refine sg_bd (s_fM_truth hF hG hS_S (iv_w (l := 1) (u := 1) kv_1 rfl)) (fun v18 h_v18 => ?_)
        refine sg_ltI (iv_top _) (fun v19 h_v19 e_v19 => ?_)
        refine sg_ltI (iv_add (l := 1) (u := 10) f2 kv_1 rfl) (fun v21 h_v21 e_v21 => ?_)
        exact hrec _ _ (iv_w (l := 1) (u := 10) h_v21 rfl) (ms_up e_v21 f2 rfl hm)
set_option maxRecDepth 100000 in
set_option maxHeartbeats 4000000 in
theorem s_fM_version {F G : Nat} (hF : 100000 ≤ F) (hG : 20 ≤ G) {C : St} {S : St} (hS_S : Inv C S) {p1 : Int32} : Sf2 (fM_version F G S p1) (fun r S2 => iv r (-2147483648) (2147483647) ∧ Inv C S2) := by
  unfold fM_version
  refine sg_bd (s_fM_isIn hF hG hS_S (iv_w (l := 0) (u := 0) kv_0 rfl) (iv_w (l := 1) (u := 1) kv_1 rfl)) (fun v2 h_v2 => ?_)
  obtain ⟨h_v2, k_v2⟩ := h_v2
  refine sg_ite (fun c1 => ?_) (fun c1 => ?_)
  · have f2 : iv _ (0) (0) := iv_eqA c1 kv_0
    exact sg_some (iv_top _) hS_S
  · have f3 : iv _ (0) (1) := isIn_iv kv_0 kv_1 k_v2 c1
    have f4 : iv _ (1) (1) := iv_neL c1 h_v2 kv_0 rfl
    refine sg_bd2 (s_fM_best hF hG hS_S) (fun v5 S6 hq => ?_)
    obtain ⟨h_v5, hS_S6⟩ := hq
    refine sg_ite (fun c5 => ?_) (fun c5 => ?_)
    · have f6 : iv _ (0) (0) := iv_eqA c5 kv_0
      exact sg_some (iv_top _) hS_S6
    · have f7 : iv _ (1) (1) := iv_neL c5 f3 kv_0 rfl
      exact s_b_M_version_35 hF hG hS_S6 F _ _ (iv_w (l := 0) (u := 0) kv_0 rfl) (ms_iu kv_0 hF rfl)
set_option maxRecDepth 100000 in
set_option maxHeartbeats 4000000 in
theorem s_fN_child {F G : Nat} (hF : 100000 ≤ F) (hG : 20 ≤ G) {C : St} {S : St} (hS_S : Inv C S) {p1 : Int32} {p2 : Int32} : Sf2 (fN_child F G S p1 p2) (fun r S2 => iv r (-2147483648) (2147483647) ∧ Inv C S2) := by
  unfold fN_child
  refine sg_ite (fun c1 => ?_) (fun c1 => ?_)
  · have f2 : iv _ (-2147483648) (0) := iv_ltA c1 (iv_top _) kv_1 rfl
    refine sg_ltS (Q := fun T => iv (T.1 0 12) (0) (0) ∧ True) (st_0_12 hS_S (iv_w (l := 0) (u := 0) kv_0 rfl)) ⟨(nwc kv_0), trivial⟩ (fun S2 hS_S2 hq => ?_)
    obtain ⟨f3, -⟩ := hq
    exact sg_some (iv_top _) hS_S2
  · have f4 : iv _ (1) (2147483647) := iv_leB (Int32.not_lt.mp c1) kv_1 (iv_top _) rfl
    refine sg_ite (fun c5 => ?_) (fun c5 => ?_)
    · have f6 : iv _ (6) (2147483647) := iv_ltB c5 kv_5 f4 rfl
      refine sg_ltS (Q := fun T => iv (T.1 0 12) (0) (0) ∧ True) (st_0_12 hS_S (iv_w (l := 0) (u := 0) kv_0 rfl)) ⟨(nwc kv_0), trivial⟩ (fun S5 hS_S5 hq => ?_)
      obtain ⟨f7, -⟩ := hq
      exact sg_some (iv_top _) hS_S5
    · have f8 : iv _ (1) (5) := iv_leA (Int32.not_lt.mp c5) f4 kv_5 rfl
      refine sg_bd (s_fN_isKey hF hG hS_S) (fun v8 h_v8 => ?_)
      obtain ⟨h_v8, k_v8⟩ := h_v8
      refine sg_ite (fun c9 => ?_) (fun c9 => ?_)
      · have f10 : iv _ (0) (0) := iv_eqA c9 kv_0
        refine sg_ltS (Q := fun T => iv (T.1 0 12) (0) (0) ∧ True) (st_0_12 hS_S (iv_w (l := 0) (u := 0) kv_0 rfl)) ⟨(nwc kv_0), trivial⟩ (fun S12 hS_S12 hq => ?_)
        obtain ⟨f11, -⟩ := hq
        exact sg_some (iv_top _) hS_S12
      · have f12 : iv _ (0) (87) := k_v8 c9
        have f13 : iv _ (1) (1) := iv_neL c9 h_v8 kv_0 rfl
        refine sg_bd (s_fN_layLeastMissed hF hG hS_S) (fun S11 hS_S11 => ?_)
        exact sg_some (iv_top _) hS_S11
set_option maxRecDepth 100000 in
set_option maxHeartbeats 4000000 in
theorem s_fM_child {F G : Nat} (hF : 100000 ≤ F) (hG : 20 ≤ G) {C : St} {S : St} (hS_S : Inv C S) {p1 : Int32} {p2 : Int32} : Sf2 (fM_child F G S p1 p2) (fun r S2 => iv r (-2147483648) (1000000) ∧ Inv C S2) := by
  unfold fM_child
  refine sg_ltS (Q := fun T => iv (T.1 78 68) (0) (0) ∧ True) (st_78_68 hS_S (iv_w (l := 0) (u := 0) kv_0 rfl)) ⟨(nwc kv_0), trivial⟩ (fun S1 hS_S1 hq => ?_)
  obtain ⟨f1, -⟩ := hq
  refine sg_bd (s_fM_isIn hF hG hS_S1 (iv_w (l := 1) (u := 1) kv_1 rfl) (iv_w (l := 5) (u := 5) kv_5 rfl)) (fun v4 h_v4 => ?_)
  obtain ⟨h_v4, k_v4⟩ := h_v4
  refine sg_ite (fun c2 => ?_) (fun c2 => ?_)
  · have f3 : iv _ (0) (0) := iv_eqA c2 kv_0
    exact sg_some (iv_w (l := -1) (u := -1) kv_m1 rfl) hS_S1
  · have f4 : iv _ (1) (5) := isIn_iv kv_1 kv_5 k_v4 c2
    have f5 : iv _ (1) (1) := iv_neL c2 h_v4 kv_0 rfl
    refine sg_bd (s_fM_isIn hF hG hS_S1 (iv_w (l := 0) (u := 0) kv_0 rfl) (iv_w (l := 87) (u := 87) kv_87 rfl)) (fun v7 h_v7 => ?_)
    obtain ⟨h_v7, k_v7⟩ := h_v7
    refine sg_ite (fun c6 => ?_) (fun c6 => ?_)
    · have f7 : iv _ (0) (0) := iv_eqA c6 kv_0
      exact sg_some (iv_w (l := -1) (u := -1) kv_m1 rfl) hS_S1
    · have f8 : iv _ (0) (87) := isIn_iv kv_0 kv_87 k_v7 c6
      have f9 : iv _ (1) (1) := iv_neL c6 h_v7 kv_0 rfl
      refine sg_bd2 (s_fM_best hF hG hS_S1) (fun v10 S11 hq => ?_)
      obtain ⟨h_v10, hS_S11⟩ := hq
      exact sg_some h_v10 hS_S11
set_option maxRecDepth 100000 in
set_option maxHeartbeats 4000000 in
theorem s_fN_isLeftOut {F G : Nat} (hF : 100000 ≤ F) (hG : 20 ≤ G) {C : St} {S : St} (hS_S : Inv C S) {p1 : Int32} : Sf (fN_isLeftOut F G S p1) (fun r => iv r 0 1 ∧ (¬ r = 0 → iv p1 (0) (9))) := by
  unfold fN_isLeftOut
  refine sf_bd (s_fN_isNote hF hG hS_S) (fun v2 h_v2 => ?_)
  obtain ⟨h_v2, k_v2⟩ := h_v2
  refine sf_ite (fun c1 => ?_) (fun c1 => ?_)
  · have f2 : iv _ (0) (0) := iv_eqA c1 kv_0
    exact sf_some ⟨iv_w (l := 0) (u := 0) kv_0 rfl, fun h => absurd rfl h⟩
  · have f3 : iv _ (0) (9) := k_v2 c1
    have f4 : iv _ (1) (1) := iv_neL c1 h_v2 kv_0 rfl
    refine sf_gd (inB_iv f3 rfl) ?_
    refine sf_ite (fun c5 => ?_) (fun c5 => ?_)
    · have f6 : iv _ (0) (0) := iv_eqA c5 kv_0
      exact sf_some ⟨iv_w (l := 1) (u := 1) kv_1 rfl, fun _ => f3⟩
    · exact sf_some ⟨iv_w (l := 0) (u := 0) kv_0 rfl, fun h => absurd rfl h⟩
set_option maxRecDepth 100000 in
set_option maxHeartbeats 4000000 in
theorem s_b_K_newClashesWith_49 {F G : Nat} (hF : 100000 ≤ F) (hG : 20 ≤ G) {C : St} {S : St} (hS_S : Inv C S) {z3 : Int32} {z4 : Int32}  : ∀ (f : Nat) (w5 : Int32) (w6 : Int32), iv w5 (0) (31) → iv w6 (0) (12) → (12) - w6.toInt + 1 ≤ (f : Int) → Sf (fx2 (b_K_newClashesWith_49 F G S z3 z4)  f w5 w6) (fun r => iv r (0) (31)) := by
  intro f
  induction f with
  | zero => intro w5 w6 h_w5 h_w6 hm; exact (ms_zu h_w6 hm).elim
  | succ f hrec =>
    intro w5 w6 h_w5 h_w6 hm
    replace hm := ms_s hm
    show Sf (b_K_newClashesWith_49 F G S z3 z4 (fx2 (b_K_newClashesWith_49 F G S z3 z4)  f) w5 w6) _
    generalize fx2 (b_K_newClashesWith_49 F G S z3 z4)  f = rec at hrec ⊢
    unfold b_K_newClashesWith_49
    refine sf_ite (fun c1 => ?_) (fun c1 => ?_)
    · exact sf_some h_w5
    · have f2 : iv _ (0) (11) := iv_ltA (Int32.not_le.mp c1) h_w6 (cell_57_0 hS_S) rfl
      have f3 : iv _ (1) (12) := iv_ltB (Int32.not_le.mp c1) h_w6 (cell_57_0 hS_S) rfl
      refine sf_bd (s_fK_clashesAt hF hG hS_S f2) (fun v7 h_v7 => ?_)
      refine sf_bd (s_fK_clashesAt hF hG hS_S f2) (fun v9 h_v9 => ?_)
      refine sf_ltI (iv_or (n := 5) (u := 31) h_w5 (iv_andL (u := 31) h_v7 rfl) rfl) (fun v10 h_v10 e_v10 => ?_)
      refine sf_ltI (iv_add (l := 1) (u := 12) f2 kv_1 rfl) (fun v12 h_v12 e_v12 => ?_)
      exact hrec _ _ h_v10 (iv_w (l := 1) (u := 12) h_v12 rfl) (ms_up e_v12 f2 rfl hm)
set_option maxRecDepth 100000 in
set_option maxHeartbeats 4000000 in
theorem s_j_K_newClashesWith_20 {F G : Nat} (hF : 100000 ≤ F) (hG : 20 ≤ G) {C : St} {S : St} (hS_S : Inv C S) {y1 : Int32} (h_y1 : iv y1 (0) (9)) {y2 : Int32} (h_y2 : iv y2 (1) (2)) {s0 : Int32} : Sf (j_K_newClashesWith_20 F G S y1 y2 s0) (fun r => iv r (0) (31)) := by
  unfold j_K_newClashesWith_20
  refine sf_ite (fun c1 => ?_) (fun c1 => ?_)
  · have f2 : iv _ (2) (2) := iv_eqA c1 kv_2
    refine sf_ltI (iv_top _) (fun v14 h_v14 e_v14 => ?_)
    exact s_b_K_newClashesWith_49 hF hG hS_S F _ _ (iv_w (l := 0) (u := 0) kv_0 rfl) (iv_w (l := 0) (u := 0) kv_0 rfl) (ms_iu kv_0 hF rfl)
  · have f3 : iv _ (1) (1) := iv_neU c1 h_y2 kv_2 rfl
    refine sf_ltI (iv_top _) (fun v3 h_v3 e_v3 => ?_)
    exact s_b_K_newClashesWith_49 hF hG hS_S F _ _ (iv_w (l := 0) (u := 0) kv_0 rfl) (iv_w (l := 0) (u := 0) kv_0 rfl) (ms_iu kv_0 hF rfl)
set_option maxRecDepth 100000 in
set_option maxHeartbeats 4000000 in
theorem s_fK_newClashesWith {F G : Nat} (hF : 100000 ≤ F) (hG : 20 ≤ G) {C : St} {S : St} (hS_S : Inv C S) {p1 : Int32} (h_p1 : iv p1 (0) (9)) {p2 : Int32} (h_p2 : iv p2 (1) (2)) : Sf (fK_newClashesWith F G S p1 p2) (fun r => iv r (0) (31)) := by
  unfold fK_newClashesWith
  refine sf_ite (fun c1 => ?_) (fun c1 => ?_)
  · have f2 : iv _ (1) (1) := iv_eqA c1 kv_1
    exact s_j_K_newClashesWith_20 hF hG hS_S h_p1 (iv_w (l := 1) (u := 1) f2 rfl)
  · have f3 : iv _ (2) (2) := iv_neL c1 h_p2 kv_1 rfl
    exact s_j_K_newClashesWith_20 hF hG hS_S h_p1 (iv_w (l := 2) (u := 2) f3 rfl)
set_option maxRecDepth 100000 in
set_option maxHeartbeats 4000000 in
theorem s_fN_forbids {F G : Nat} (hF : 100000 ≤ F) (hG : 20 ≤ G) {C : St} {S : St} (hS_S : Inv C S) {p1 : Int32} {p2 : Int32} : Sf2 (fN_forbids F G S p1 p2) (fun r S2 => iv r (-1) (31) ∧ Inv C S2) := by
  unfold fN_forbids
  refine sg_bd (s_fN_isLeftOut hF hG hS_S) (fun v2 h_v2 => ?_)
  obtain ⟨h_v2, k_v2⟩ := h_v2
  refine sg_ite (fun c1 => ?_) (fun c1 => ?_)
  · have f2 : iv _ (0) (0) := iv_eqA c1 kv_0
    exact sg_some (iv_w (l := -1) (u := -1) kv_m1 rfl) hS_S
  · have f3 : iv _ (0) (9) := k_v2 c1
    have f4 : iv _ (1) (1) := iv_neL c1 h_v2 kv_0 rfl
    refine sg_bd (s_fN_isHand hF hG hS_S) (fun v5 h_v5 => ?_)
    obtain ⟨h_v5, k_v5⟩ := h_v5
    refine sg_ite (fun c5 => ?_) (fun c5 => ?_)
    · have f6 : iv _ (0) (0) := iv_eqA c5 kv_0
      exact sg_some (iv_w (l := -1) (u := -1) kv_m1 rfl) hS_S
    · have f7 : iv _ (1) (2) := k_v5 c5
      have f8 : iv _ (1) (1) := iv_neL c5 h_v5 kv_0 rfl
      refine sg_bd (s_fN_lookAtKeys hF hG hS_S) (fun S8 hS_S8 => ?_)
      refine sg_bd (s_fK_newClashesWith hF hG hS_S8 f3 f7) (fun v10 h_v10 => ?_)
      exact sg_some (iv_w (l := 0) (u := 31) h_v10 rfl) hS_S8
set_option maxRecDepth 100000 in
set_option maxHeartbeats 4000000 in
theorem s_fM_isOut {F G : Nat} (hF : 100000 ≤ F) (hG : 20 ≤ G) {C : St} {S : St} (hS_S : Inv C S) {p1 : Int32} : Sf (fM_isOut F G S p1) (fun r => iv r 0 1 ∧ (¬ r = 0 → iv p1 (0) (9))) := by
  unfold fM_isOut
  refine sf_bd (s_fM_isNote hF hG hS_S) (fun v2 h_v2 => ?_)
  obtain ⟨h_v2, k_v2⟩ := h_v2
  refine sf_ite (fun c1 => ?_) (fun c1 => ?_)
  · have f2 : iv _ (0) (0) := iv_eqA c1 kv_0
    exact sf_some ⟨iv_w (l := 0) (u := 0) kv_0 rfl, fun h => absurd rfl h⟩
  · have f3 : iv _ (0) (9) := k_v2 c1
    have f4 : iv _ (1) (1) := iv_neL c1 h_v2 kv_0 rfl
    refine sf_gd (inB_iv f3 rfl) ?_
    refine sf_ite (fun c5 => ?_) (fun c5 => ?_)
    · have f6 : iv _ (0) (0) := iv_eqA c5 kv_0
      exact sf_some ⟨iv_w (l := 1) (u := 1) kv_1 rfl, fun _ => f3⟩
    · exact sf_some ⟨iv_w (l := 0) (u := 0) kv_0 rfl, fun h => absurd rfl h⟩
set_option maxRecDepth 100000 in
set_option maxHeartbeats 4000000 in
theorem s_j_M_forbidden_104 {F G : Nat} (hF : 100000 ≤ F) (hG : 20 ≤ G) {C : St} {S : St} (hS_S : Inv C S) {z2 : Int32} (h_z2 : iv z2 (1) (2)) {z3 : Int32} (h_z3 : iv z3 (0) (1023)) {z4 : Int32} (h_z4 : iv z4 (0) (1023)) {z5 : Int32} (h_z5 : iv z5 (1) (512)) {Su : St} {y6 : Int32} (h_y6 : iv y6 (0) (31)) {y7 : Int32} (h_y7 : iv y7 (0) (11)) {y8 : Int32} (h_y8 : iv y8 (0) (31)) {s0 : Int32} (h_s0 : iv s0 (0) (31)) {rec : Int32 → Int32 → Option (Int32 × St)} {M : Int} (hrec : ∀ (w6 : Int32) (w7 : Int32), iv w6 (0) (31) → iv w7 (0) (12) → (12) - w7.toInt + 1 ≤ M → Sf2 (rec w6 w7) (fun r S2 => iv r (0) (31) ∧ Inv C S2)) (hm : (12) - y7.toInt ≤ M) : Sf2 (j_M_forbidden_104 F G S z2 z3 z4 z5 rec Su y6 y7 y8 s0) (fun r S2 => iv r (0) (31) ∧ Inv C S2) := by
  unfold j_M_forbidden_104
  refine sg_ltI (iv_or (n := 5) (u := 31) h_y6 (iv_andL (u := 31) h_s0 rfl) rfl) (fun v17 h_v17 e_v17 => ?_)
  refine sg_ltI (iv_add (l := 1) (u := 12) h_y7 kv_1 rfl) (fun v19 h_v19 e_v19 => ?_)
  exact hrec _ _ h_v17 (iv_w (l := 1) (u := 12) h_v19 rfl) (ms_up e_v19 h_y7 rfl hm)
set_option maxRecDepth 100000 in
set_option maxHeartbeats 4000000 in
theorem s_b_M_forbidden_28 {F G : Nat} (hF : 100000 ≤ F) (hG : 20 ≤ G) {C : St} {S : St} (hS_S : Inv C S) {z2 : Int32} (h_z2 : iv z2 (1) (2)) {z3 : Int32} (h_z3 : iv z3 (0) (1023)) {z4 : Int32} (h_z4 : iv z4 (0) (1023)) {z5 : Int32} (h_z5 : iv z5 (1) (512))  : ∀ (f : Nat) (w6 : Int32) (w7 : Int32), iv w6 (0) (31) → iv w7 (0) (12) → (12) - w7.toInt + 1 ≤ (f : Int) → Sf2 (fx2 (b_M_forbidden_28 F G S z2 z3 z4 z5)  f w6 w7) (fun r S2 => iv r (0) (31) ∧ Inv C S2) := by
  intro f
  induction f with
  | zero => intro w6 w7 h_w6 h_w7 hm; exact (ms_zu h_w7 hm).elim
  | succ f hrec =>
    intro w6 w7 h_w6 h_w7 hm
    replace hm := ms_s hm
    show Sf2 (b_M_forbidden_28 F G S z2 z3 z4 z5 (fx2 (b_M_forbidden_28 F G S z2 z3 z4 z5)  f) w6 w7) _
    generalize fx2 (b_M_forbidden_28 F G S z2 z3 z4 z5)  f = rec at hrec ⊢
    unfold b_M_forbidden_28
    refine sg_ite (fun c1 => ?_) (fun c1 => ?_)
    · have f2 : iv _ (1) (12) := iv_leB c1 (cell_78_46 hS_S) h_w7 rfl
      exact sg_some h_w6 hS_S
    · have f3 : iv _ (0) (11) := iv_ltA (Int32.not_le.mp c1) h_w7 (cell_78_46 hS_S) rfl
      refine sg_bd (s_fM_clashBy hF hG hS_S f3 h_z3 h_z4) (fun v11 h_v11 => ?_)
      refine sg_ite (fun c4 => ?_) (fun c4 => ?_)
      · have f5 : iv _ (1) (1) := iv_eqA c4 kv_1
        refine sg_bd (s_fM_clashBy hF hG hS_S f3 (iv_or (n := 10) (u := 1023) h_z3 h_z5 rfl) h_z4) (fun v16 h_v16 => ?_)
        exact s_j_M_forbidden_104 hF hG hS_S (iv_w (l := 1) (u := 1) f5 rfl) h_z3 h_z4 h_z5 h_w6 f3 h_v11 h_v16 hrec hm
      · have f6 : iv _ (2) (2) := iv_neL c4 h_z2 kv_1 rfl
        refine sg_bd (s_fM_clashBy hF hG hS_S f3 h_z3 (iv_or (n := 10) (u := 1023) h_z4 h_z5 rfl)) (fun v14 h_v14 => ?_)
        exact s_j_M_forbidden_104 hF hG hS_S (iv_w (l := 2) (u := 2) f6 rfl) h_z3 h_z4 h_z5 h_w6 f3 h_v11 h_v14 hrec hm
set_option maxRecDepth 100000 in
set_option maxHeartbeats 4000000 in
theorem s_fM_forbidden {F G : Nat} (hF : 100000 ≤ F) (hG : 20 ≤ G) {C : St} {S : St} (hS_S : Inv C S) {p1 : Int32} (h_p1 : iv p1 (0) (9)) {p2 : Int32} (h_p2 : iv p2 (1) (2)) : Sf2 (fM_forbidden F G S p1 p2) (fun r S2 => iv r (0) (31) ∧ Inv C S2) := by
  unfold fM_forbidden
  refine sg_bd (s_fM_fill hF hG hS_S) (fun S2 hS_S2 => ?_)
  refine sg_bd (s_fM_given hF hG hS_S2 (iv_w (l := 1) (u := 1) kv_1 rfl)) (fun v4 h_v4 => ?_)
  refine sg_bd (s_fM_given hF hG hS_S2 (iv_w (l := 2) (u := 2) kv_2 rfl)) (fun v6 h_v6 => ?_)
  refine sg_ltI (iv_shl (u := 512) h_p1 rfl) (fun v7 h_v7 e_v7 => ?_)
  exact s_b_M_forbidden_28 hF hG hS_S2 h_p2 h_v4 h_v6 h_v7 F _ _ (iv_w (l := 0) (u := 0) kv_0 rfl) (iv_w (l := 0) (u := 0) kv_0 rfl) (ms_iu kv_0 hF rfl)
set_option maxRecDepth 100000 in
set_option maxHeartbeats 4000000 in
theorem s_fM_forbids {F G : Nat} (hF : 100000 ≤ F) (hG : 20 ≤ G) {C : St} {S : St} (hS_S : Inv C S) {p1 : Int32} {p2 : Int32} : Sf2 (fM_forbids F G S p1 p2) (fun r S2 => iv r (-1) (31) ∧ Inv C S2) := by
  unfold fM_forbids
  refine sg_bd (s_fM_isOut hF hG hS_S) (fun v2 h_v2 => ?_)
  obtain ⟨h_v2, k_v2⟩ := h_v2
  refine sg_ite (fun c1 => ?_) (fun c1 => ?_)
  · have f2 : iv _ (0) (0) := iv_eqA c1 kv_0
    exact sg_some (iv_w (l := -1) (u := -1) kv_m1 rfl) hS_S
  · have f3 : iv _ (0) (9) := k_v2 c1
    have f4 : iv _ (1) (1) := iv_neL c1 h_v2 kv_0 rfl
    refine sg_bd (s_fM_isHand hF hG hS_S) (fun v5 h_v5 => ?_)
    obtain ⟨h_v5, k_v5⟩ := h_v5
    refine sg_ite (fun c5 => ?_) (fun c5 => ?_)
    · have f6 : iv _ (0) (0) := iv_eqA c5 kv_0
      exact sg_some (iv_w (l := -1) (u := -1) kv_m1 rfl) hS_S
    · have f7 : iv _ (1) (2) := k_v5 c5
      have f8 : iv _ (1) (1) := iv_neL c5 h_v5 kv_0 rfl
      refine sg_bd2 (s_fM_forbidden hF hG hS_S f3 f7) (fun v8 S9 hq => ?_)
      obtain ⟨h_v8, hS_S9⟩ := hq
      exact sg_some (iv_w (l := 0) (u := 31) h_v8 rfl) hS_S9
set_option maxRecDepth 100000 in
set_option maxHeartbeats 4000000 in
theorem s_b_A_missedTogether_4 {F G : Nat} (hF : 100000 ≤ F) (hG : 20 ≤ G) {C : St} {S : St} (hS_S : Inv C S) {z1 : Int32} (h_z1 : iv z1 (0) (1023))  : ∀ (f : Nat) (w2 : Int32) (w3 : Int32), iv w3 (0) (10) → (10) - w3.toInt + 1 ≤ (f : Int) → Sf (fx2 (b_A_missedTogether_4 F G S z1)  f w2 w3) (fun r => iv r (-2147483648) (2147483647)) := by
  intro f
  induction f with
  | zero => intro w2 w3 h_w3 hm; exact (ms_zu h_w3 hm).elim
  | succ f hrec =>
    intro w2 w3 h_w3 hm
    replace hm := ms_s hm
    show Sf (b_A_missedTogether_4 F G S z1 (fx2 (b_A_missedTogether_4 F G S z1)  f) w2 w3) _
    generalize fx2 (b_A_missedTogether_4 F G S z1)  f = rec at hrec ⊢
    unfold b_A_missedTogether_4
    refine sf_ite (fun c1 => ?_) (fun c1 => ?_)
    · exact sf_some (iv_top _)
    · have f2 : iv _ (0) (9) := iv_ltA (Int32.not_le.mp c1) h_w3 (cell_57_1 hS_S) rfl
      have f3 : iv _ (1) (10) := iv_ltB (Int32.not_le.mp c1) h_w3 (cell_57_1 hS_S) rfl
      refine sf_ite (fun c4 => ?_) (fun c4 => ?_)
      · have f5 : iv _ (0) (0) := iv_eqA c4 kv_0
        refine sf_ltI (iv_top _) (fun v3 h_v3 e_v3 => ?_)
        refine sf_ltI (iv_add (l := 1) (u := 10) f2 kv_1 rfl) (fun v5 h_v5 e_v5 => ?_)
        exact hrec _ _ (iv_w (l := 1) (u := 10) h_v5 rfl) (ms_up e_v5 f2 rfl hm)
      · have f6 : iv _ (1) (1) := iv_neL c4 (iv_andR (u := 1) kv_1 rfl) kv_0 rfl
        refine sf_gd (inB_iv f2 rfl) ?_
        refine sf_ltI (iv_top _) (fun v8 h_v8 e_v8 => ?_)
        refine sf_ltI (iv_add (l := 1) (u := 10) f2 kv_1 rfl) (fun v10 h_v10 e_v10 => ?_)
        exact hrec _ _ (iv_w (l := 1) (u := 10) h_v10 rfl) (ms_up e_v10 f2 rfl hm)
set_option maxRecDepth 100000 in
set_option maxHeartbeats 4000000 in
theorem s_fA_missedTogether {F G : Nat} (hF : 100000 ≤ F) (hG : 20 ≤ G) {C : St} {S : St} (hS_S : Inv C S) {p1 : Int32} (h_p1 : iv p1 (0) (1023)) : Sf (fA_missedTogether F G S p1) (fun r => iv r (-2147483648) (2147483647)) := by
  unfold fA_missedTogether
  exact s_b_A_missedTogether_4 hF hG hS_S h_p1 F _ _ (iv_w (l := 0) (u := 0) kv_0 rfl) (ms_iu kv_0 hF rfl)
set_option maxRecDepth 100000 in
set_option maxHeartbeats 4000000 in
theorem s_fA_isLessMissed {F G : Nat} (hF : 100000 ≤ F) (hG : 20 ≤ G) {C : St} {S : St} (hS_S : Inv C S) {p1 : Int32} (h_p1 : iv p1 (0) (1023)) {p2 : Int32} (h_p2 : iv p2 (0) (1023)) : Sf (fA_isLessMissed F G S p1 p2) (fun r => iv r (0) (1)) := by
  unfold fA_isLessMissed
  refine sf_bd (s_fJ_bitCount hF hG hS_S) (fun v2 h_v2 => ?_)
  refine sf_bd (s_fJ_bitCount hF hG hS_S) (fun v4 h_v4 => ?_)
  refine sf_ite (fun c1 => ?_) (fun c1 => ?_)
  · have f2 : iv _ (0) (62) := iv_ltA c1 h_v2 h_v4 rfl
    have f3 : iv _ (1) (63) := iv_ltB c1 h_v2 h_v4 rfl
    exact sf_some (iv_w (l := 1) (u := 1) kv_1 rfl)
  · refine sf_ite (fun c4 => ?_) (fun c4 => ?_)
    · refine sf_bd (s_fA_missedTogether hF hG hS_S h_p1) (fun v8 h_v8 => ?_)
      refine sf_bd (s_fA_missedTogether hF hG hS_S h_p2) (fun v10 h_v10 => ?_)
      refine sf_ite (fun c5 => ?_) (fun c5 => ?_)
      · exact sf_some (iv_w (l := 0) (u := 0) kv_0 rfl)
      · have f6 : iv _ (-2147483648) (2147483646) := iv_ltA (Int32.not_le.mp c5) (iv_top _) (iv_top _) rfl
        have f7 : iv _ (-2147483647) (2147483647) := iv_ltB (Int32.not_le.mp c5) (iv_top _) (iv_top _) rfl
        exact sf_some (iv_w (l := 1) (u := 1) kv_1 rfl)
    · exact sf_some (iv_w (l := 0) (u := 0) kv_0 rfl)
set_option maxRecDepth 100000 in
set_option maxHeartbeats 4000000 in
theorem s_b_K_canBePlayed_2 {F G : Nat} (hF : 100000 ≤ F) (hG : 20 ≤ G) {C : St} {S : St} (hS_S : Inv C S) {z1 : Int32} {z2 : Int32}  : ∀ (f : Nat) (w3 : Int32), iv w3 (0) (12) → (12) - w3.toInt + 1 ≤ (f : Int) → Sf (fx1 (b_K_canBePlayed_2 F G S z1 z2)  f w3) (fun r => iv r (0) (1)) := by
  intro f
  induction f with
  | zero => intro w3 h_w3 hm; exact (ms_zu h_w3 hm).elim
  | succ f hrec =>
    intro w3 h_w3 hm
    replace hm := ms_s hm
    show Sf (b_K_canBePlayed_2 F G S z1 z2 (fx1 (b_K_canBePlayed_2 F G S z1 z2)  f) w3) _
    generalize fx1 (b_K_canBePlayed_2 F G S z1 z2)  f = rec at hrec ⊢
    unfold b_K_canBePlayed_2
    refine sf_ite (fun c1 => ?_) (fun c1 => ?_)
    · exact sf_some (iv_w (l := 1) (u := 1) kv_1 rfl)
    · have f2 : iv _ (0) (11) := iv_ltA (Int32.not_le.mp c1) h_w3 (cell_57_0 hS_S) rfl
      have f3 : iv _ (1) (12) := iv_ltB (Int32.not_le.mp c1) h_w3 (cell_57_0 hS_S) rfl
      refine sf_bd (s_fK_clashesAt hF hG hS_S f2) (fun v3 h_v3 => ?_)
      refine sf_ite (fun c4 => ?_) (fun c4 => ?_)
      · have f5 : iv _ (0) (0) := iv_eqA c4 kv_0
        refine sf_ltI (iv_add (l := 1) (u := 12) f2 kv_1 rfl) (fun v5 h_v5 e_v5 => ?_)
        exact hrec _ (iv_w (l := 1) (u := 12) h_v5 rfl) (ms_up e_v5 f2 rfl hm)
      · have f6 : iv _ (1) (31) := iv_neL c4 h_v3 kv_0 rfl
        exact sf_some (iv_w (l := 0) (u := 0) kv_0 rfl)
set_option maxRecDepth 100000 in
set_option maxHeartbeats 4000000 in
theorem s_fK_canBePlayed {F G : Nat} (hF : 100000 ≤ F) (hG : 20 ≤ G) {C : St} {S : St} (hS_S : Inv C S) {p1 : Int32} {p2 : Int32} : Sf (fK_canBePlayed F G S p1 p2) (fun r => iv r (0) (1)) := by
  unfold fK_canBePlayed
  exact s_b_K_canBePlayed_2 hF hG hS_S F _ (iv_w (l := 0) (u := 0) kv_0 rfl) (ms_iu kv_0 hF rfl)
set_option maxRecDepth 100000 in
set_option maxHeartbeats 4000000 in
theorem s_j_A_fewestInTheWay_112 {F G : Nat} (hF : 100000 ≤ F) (hG : 20 ≤ G) {C : St} {S : St} (hS_S : Inv C S) {z3 : Int32} {z4 : Int32} {z5 : Int32} {Su : St} {y6 : Int32} (h_y6 : iv y6 (-1) (1023)) {y7 : Int32} (h_y7 : iv y7 (0) (1023)) {s0 : Int32} (h_s0 : iv s0 (0) (1)) {rec : Int32 → Int32 → Option (Int32)} {M : Int} (hrec : ∀ (w6 : Int32) (w7 : Int32), iv w6 (-1) (1023) → iv w7 (0) (1024) → (1024) - w7.toInt + 1 ≤ M → Sf (rec w6 w7) (fun r => iv r (-1) (1023))) (hm : (1024) - y7.toInt ≤ M) : Sf (j_A_fewestInTheWay_112 F G S z3 z4 z5 rec Su y6 y7 s0) (fun r => iv r (-1) (1023)) := by
  unfold j_A_fewestInTheWay_112
  refine sf_ite (fun c1 => ?_) (fun c1 => ?_)
  · have f2 : iv _ (0) (0) := iv_eqA c1 kv_0
    refine sf_ltI (iv_add (l := 1) (u := 1024) h_y7 kv_1 rfl) (fun v16 h_v16 e_v16 => ?_)
    exact hrec _ _ h_y6 (iv_w (l := 1) (u := 1024) h_v16 rfl) (ms_up e_v16 h_y7 rfl hm)
  · have f3 : iv _ (1) (1) := iv_neL c1 h_s0 kv_0 rfl
    refine sf_bd (s_fK_canBePlayed hF hG hS_S) (fun v19 h_v19 => ?_)
    refine sf_ite (fun c4 => ?_) (fun c4 => ?_)
    · have f5 : iv _ (0) (0) := iv_eqA c4 kv_0
      refine sf_ltI (iv_add (l := 1) (u := 1024) h_y7 kv_1 rfl) (fun v21 h_v21 e_v21 => ?_)
      exact hrec _ _ h_y6 (iv_w (l := 1) (u := 1024) h_v21 rfl) (ms_up e_v21 h_y7 rfl hm)
    · have f6 : iv _ (1) (1) := iv_neL c4 h_v19 kv_0 rfl
      refine sf_ltI (iv_add (l := 1) (u := 1024) h_y7 kv_1 rfl) (fun v23 h_v23 e_v23 => ?_)
      exact hrec _ _ (iv_w (l := 0) (u := 1023) h_y7 rfl) (iv_w (l := 1) (u := 1024) h_v23 rfl) (ms_up e_v23 h_y7 rfl hm)
set_option maxRecDepth 100000 in
set_option maxHeartbeats 4000000 in
theorem s_j_A_fewestInTheWay_111 {F G : Nat} (hF : 100000 ≤ F) (hG : 20 ≤ G) {C : St} {S : St} (hS_S : Inv C S) {z3 : Int32} {z4 : Int32} {z5 : Int32} {Su : St} {y6 : Int32} (h_y6 : iv y6 (-1) (1023)) {y7 : Int32} (h_y7 : iv y7 (0) (1023)) {rec : Int32 → Int32 → Option (Int32)} {M : Int} (hrec : ∀ (w6 : Int32) (w7 : Int32), iv w6 (-1) (1023) → iv w7 (0) (1024) → (1024) - w7.toInt + 1 ≤ M → Sf (rec w6 w7) (fun r => iv r (-1) (1023))) (hm : (1024) - y7.toInt ≤ M) : Sf (j_A_fewestInTheWay_111 F G S z3 z4 z5 rec Su y6 y7) (fun r => iv r (-1) (1023)) := by
  unfold j_A_fewestInTheWay_111
  exact s_j_A_fewestInTheWay_112 hF hG hS_S h_y6 h_y7 (iv_w (l := 0) (u := 0) kv_0 rfl) hrec hm
set_option maxRecDepth 100000 in
set_option maxHeartbeats 4000000 in
theorem s_j_A_fewestInTheWay_107 {F G : Nat} (hF : 100000 ≤ F) (hG : 20 ≤ G) {C : St} {S : St} (hS_S : Inv C S) {z3 : Int32} {z4 : Int32} {z5 : Int32} {Su : St} {y6 : Int32} (h_y6 : iv y6 (-1) (1023)) {y7 : Int32} (h_y7 : iv y7 (0) (1023)) {rec : Int32 → Int32 → Option (Int32)} {M : Int} (hrec : ∀ (w6 : Int32) (w7 : Int32), iv w6 (-1) (1023) → iv w7 (0) (1024) → (1024) - w7.toInt + 1 ≤ M → Sf (rec w6 w7) (fun r => iv r (-1) (1023))) (hm : (1024) - y7.toInt ≤ M) : Sf (j_A_fewestInTheWay_107 F G S z3 z4 z5 rec Su y6 y7) (fun r => iv r (-1) (1023)) := by
  unfold j_A_fewestInTheWay_107
  exact s_j_A_fewestInTheWay_112 hF hG hS_S h_y6 h_y7 (iv_w (l := 1) (u := 1) kv_1 rfl) hrec hm
set_option maxRecDepth 100000 in
set_option maxHeartbeats 4000000 in
theorem s_b_A_fewestInTheWay_66 {F G : Nat} (hF : 100000 ≤ F) (hG : 20 ≤ G) {C : St} {S : St} (hS_S : Inv C S) {z3 : Int32} {z4 : Int32} {z5 : Int32}  : ∀ (f : Nat) (w6 : Int32) (w7 : Int32), iv w6 (-1) (1023) → iv w7 (0) (1024) → (1024) - w7.toInt + 1 ≤ (f : Int) → Sf (fx2 (b_A_fewestInTheWay_66 F G S z3 z4 z5)  f w6 w7) (fun r => iv r (-1) (1023)) := by
  intro f
  induction f with
  | zero => intro w6 w7 h_w6 h_w7 hm; exact (ms_zu h_w7 hm).elim
  | succ f hrec =>
    intro w6 w7 h_w6 h_w7 hm
    replace hm := ms_s hm
    show Sf (b_A_fewestInTheWay_66 F G S z3 z4 z5 (fx2 (b_A_fewestInTheWay_66 F G S z3 z4 z5)  f) w6 w7) _
    generalize fx2 (b_A_fewestInTheWay_66 F G S z3 z4 z5)  f = rec at hrec ⊢
    unfold b_A_fewestInTheWay_66
    refine sf_ite (fun c1 => ?_) (fun c1 => ?_)
    · have f2 : iv _ (1) (1024) := iv_leB c1 (iv_shl (u := 1024) (cell_57_1 hS_S) rfl) h_w7 rfl
      exact sf_some h_w6
    · have f3 : iv _ (0) (1023) := iv_ltA (Int32.not_le.mp c1) h_w7 (iv_shl (u := 1024) (cell_57_1 hS_S) rfl) rfl
      refine sf_ite (fun c4 => ?_) (fun c4 => ?_)
      · have f5 : iv _ (0) (0) := iv_eqA c4 kv_0
        refine sf_ite (fun c6 => ?_) (fun c6 => ?_)
        · have f7 : iv _ (-1) (-1) := iv_eqA c6 kv_m1
          exact s_j_A_fewestInTheWay_107 hF hG hS_S (iv_w (l := -1) (u := -1) f7 rfl) f3 hrec hm
        · have f8 : iv _ (0) (1023) := iv_neL c6 h_w6 kv_m1 rfl
          refine sf_bd (s_fA_isLessMissed hF hG hS_S f3 f8) (fun v13 h_v13 => ?_)
          refine sf_ite (fun c9 => ?_) (fun c9 => ?_)
          · have f10 : iv _ (0) (0) := iv_eqA c9 kv_0
            exact s_j_A_fewestInTheWay_111 hF hG hS_S (iv_w (l := 0) (u := 1023) f8 rfl) f3 hrec hm
          · have f11 : iv _ (1) (1) := iv_neL c9 h_v13 kv_0 rfl
            exact s_j_A_fewestInTheWay_107 hF hG hS_S (iv_w (l := 0) (u := 1023) f8 rfl) f3 hrec hm
      · have f12 : iv _ (1) (1023) := iv_neL c4 (iv_andL (u := 1023) f3 rfl) kv_0 rfl
        exact s_j_A_fewestInTheWay_111 hF hG hS_S h_w6 f3 hrec hm
set_option maxRecDepth 100000 in
set_option maxHeartbeats 4000000 in
theorem s_j_A_fewestInTheWay_40 {F G : Nat} (hF : 100000 ≤ F) (hG : 20 ≤ G) {C : St} {S : St} (hS_S : Inv C S) {y3 : Int32} {s0 : Int32} {s1 : Int32} (h_s1 : iv s1 (0) (512)) : Sf (j_A_fewestInTheWay_40 F G S y3 s0 s1) (fun r => iv r (-1) (1023)) := by
  unfold j_A_fewestInTheWay_40
  refine sf_ltI (iv_top _) (fun v5 h_v5 e_v5 => ?_)
  refine sf_ltI (iv_top _) (fun v7 h_v7 e_v7 => ?_)
  exact s_b_A_fewestInTheWay_66 hF hG hS_S F _ _ (iv_w (l := -1) (u := -1) kv_m1 rfl) (iv_w (l := 0) (u := 0) kv_0 rfl) (ms_iu kv_0 hF rfl)
set_option maxRecDepth 100000 in
set_option maxHeartbeats 4000000 in
theorem s_j_A_fewestInTheWay_19 {F G : Nat} (hF : 100000 ≤ F) (hG : 20 ≤ G) {C : St} {S : St} (hS_S : Inv C S) {y1 : Int32} (h_y1 : iv y1 (0) (9)) {y2 : Int32} (h_y2 : iv y2 (1) (2)) {s0 : Int32} {s1 : Int32} (h_s1 : iv s1 (0) (512)) : Sf (j_A_fewestInTheWay_19 F G S y1 y2 s0 s1) (fun r => iv r (-1) (1023)) := by
  unfold j_A_fewestInTheWay_19
  refine sf_ltI (iv_top _) (fun v2 h_v2 e_v2 => ?_)
  refine sf_ite (fun c1 => ?_) (fun c1 => ?_)
  · have f2 : iv _ (2) (2) := iv_eqA c1 kv_2
    exact s_j_A_fewestInTheWay_40 hF hG hS_S (iv_w (l := 1) (u := 512) (iv_shl (u := 512) h_y1 rfl) rfl)
  · have f3 : iv _ (1) (1) := iv_neU c1 h_y2 kv_2 rfl
    exact s_j_A_fewestInTheWay_40 hF hG hS_S (iv_w (l := 0) (u := 0) kv_0 rfl)
set_option maxRecDepth 100000 in
set_option maxHeartbeats 4000000 in
theorem s_fA_fewestInTheWay {F G : Nat} (hF : 100000 ≤ F) (hG : 20 ≤ G) {C : St} {S : St} (hS_S : Inv C S) {p1 : Int32} (h_p1 : iv p1 (0) (9)) {p2 : Int32} (h_p2 : iv p2 (1) (2)) : Sf (fA_fewestInTheWay F G S p1 p2) (fun r => iv r (-1) (1023)) := by
  unfold fA_fewestInTheWay
  refine sf_ite (fun c1 => ?_) (fun c1 => ?_)
  · have f2 : iv _ (1) (1) := iv_eqA c1 kv_1
    exact s_j_A_fewestInTheWay_19 hF hG hS_S h_p1 (iv_w (l := 1) (u := 1) f2 rfl) (iv_w (l := 1) (u := 512) (iv_shl (u := 512) h_p1 rfl) rfl)
  · have f3 : iv _ (2) (2) := iv_neL c1 h_p2 kv_1 rfl
    exact s_j_A_fewestInTheWay_19 hF hG hS_S h_p1 (iv_w (l := 2) (u := 2) f3 rfl) (iv_w (l := 0) (u := 0) kv_0 rfl)
set_option maxRecDepth 100000 in
set_option maxHeartbeats 4000000 in
theorem s_fN_giveway {F G : Nat} (hF : 100000 ≤ F) (hG : 20 ≤ G) {C : St} {S : St} (hS_S : Inv C S) {p1 : Int32} {p2 : Int32} {p3 : Int32} : Sf2 (fN_giveway F G S p1 p2 p3) (fun r S2 => iv r (-1) (1023) ∧ Inv C S2) := by
  unfold fN_giveway
  refine sg_bd (s_fN_isLeftOut hF hG hS_S) (fun v2 h_v2 => ?_)
  obtain ⟨h_v2, k_v2⟩ := h_v2
  refine sg_ite (fun c1 => ?_) (fun c1 => ?_)
  · have f2 : iv _ (0) (0) := iv_eqA c1 kv_0
    exact sg_some (iv_w (l := -1) (u := -1) kv_m1 rfl) hS_S
  · have f3 : iv _ (0) (9) := k_v2 c1
    have f4 : iv _ (1) (1) := iv_neL c1 h_v2 kv_0 rfl
    refine sg_bd (s_fN_isHand hF hG hS_S) (fun v5 h_v5 => ?_)
    obtain ⟨h_v5, k_v5⟩ := h_v5
    refine sg_ite (fun c5 => ?_) (fun c5 => ?_)
    · have f6 : iv _ (0) (0) := iv_eqA c5 kv_0
      exact sg_some (iv_w (l := -1) (u := -1) kv_m1 rfl) hS_S
    · have f7 : iv _ (1) (2) := k_v5 c5
      have f8 : iv _ (1) (1) := iv_neL c5 h_v5 kv_0 rfl
      refine sg_ite (fun c9 => ?_) (fun c9 => ?_)
      · have f10 : iv _ (-2147483648) (-1) := iv_ltA c9 (iv_top _) kv_0 rfl
        exact sg_some (iv_w (l := -1) (u := -1) kv_m1 rfl) hS_S
      · have f11 : iv _ (0) (2147483647) := iv_leB (Int32.not_lt.mp c9) kv_0 (iv_top _) rfl
        refine sg_ite (fun c12 => ?_) (fun c12 => ?_)
        · have f13 : iv _ (0) (1) := iv_leA c12 f11 kv_1 rfl
          refine sg_bd (s_fN_lookAtKeys hF hG hS_S) (fun S10 hS_S10 => ?_)
          refine sg_bd (s_fN_weighAll hF hG hS_S10) (fun S12 hS_S12 => ?_)
          refine sg_bd (s_fA_fewestInTheWay hF hG hS_S12 f3 f7) (fun v14 h_v14 => ?_)
          refine sg_ite (fun c14 => ?_) (fun c14 => ?_)
          · have f15 : iv _ (0) (0) := iv_eqA c14 kv_0
            refine sg_ite (fun c16 => ?_) (fun c16 => ?_)
            · have f17 : iv _ (-1) (-1) := iv_eqA c16 kv_m1
              exact sg_some (iv_w (l := -1) (u := -1) f17 rfl) hS_S12
            · have f18 : iv _ (0) (1023) := iv_neL c16 h_v14 kv_m1 rfl
              refine sg_bd (s_fJ_bitCount hF hG hS_S12) (fun v18 h_v18 => ?_)
              exact sg_some (iv_w (l := 0) (u := 63) h_v18 rfl) hS_S12
          · have f19 : iv _ (1) (1) := iv_neL c14 f13 kv_0 rfl
            exact sg_some h_v14 hS_S12
        · have f20 : iv _ (2) (2147483647) := iv_ltB (Int32.not_le.mp c12) kv_1 f11 rfl
          exact sg_some (iv_w (l := -1) (u := -1) kv_m1 rfl) hS_S
set_option maxRecDepth 100000 in
set_option maxHeartbeats 4000000 in
theorem s_j_M_giveway_140 {F G : Nat} (hF : 100000 ≤ F) (hG : 20 ≤ G) {C : St} {S : St} (hS_S : Inv C S) {z3 : Int32} (h_z3 : iv z3 (0) (1)) {z4 : Int32} (h_z4 : iv z4 (0) (1023)) {z5 : Int32} (h_z5 : iv z5 (0) (1023)) {z6 : Int32} (h_z6 : iv z6 (0) (1023)) {Su : St} {y7 : Int32} (h_y7 : iv y7 (-1) (1023)) {y8 : Int32} (h_y8 : iv y8 (0) (1023)) {k179 : Int32 → Option (Int32 × St)} (hk179 : ∀ (x0 : Int32), iv x0 (-1) (1023) → Sf2 (k179 x0) (fun r S2 => iv r (-2147483648) (2147483647) ∧ Inv C S2)) {rec : Int32 → Int32 → Option (Int32 × St)} {M : Int} (hrec : ∀ (w7 : Int32) (w8 : Int32), iv w7 (-1) (1023) → iv w8 (0) (1024) → (1024) - w8.toInt + 1 ≤ M → Sf2 (rec w7 w8) (fun r S2 => iv r (-2147483648) (2147483647) ∧ Inv C S2)) (hm : (1024) - y8.toInt ≤ M) : Sf2 (j_M_giveway_140 F G S z3 z4 z5 z6 k179 rec Su y7 y8) (fun r S2 => iv r (-2147483648) (2147483647) ∧ Inv C S2) := by
  unfold j_M_giveway_140
  refine sg_bd (s_fM_canBePlayed hF hG hS_S (iv_andL (u := 1023) h_z4 rfl) (iv_andL (u := 1023) h_z5 rfl)) (fun v48 h_v48 => ?_)
  refine sg_ite (fun c1 => ?_) (fun c1 => ?_)
  · have f2 : iv _ (0) (0) := iv_eqA c1 kv_0
    refine sg_ltI (iv_add (l := 1) (u := 1024) h_y8 kv_1 rfl) (fun v50 h_v50 e_v50 => ?_)
    exact hrec _ _ h_y7 (iv_w (l := 1) (u := 1024) h_v50 rfl) (ms_up e_v50 h_y8 rfl hm)
  · have f3 : iv _ (1) (1) := iv_neL c1 h_v48 kv_0 rfl
    refine sg_ltI (iv_add (l := 1) (u := 1024) h_y8 kv_1 rfl) (fun v52 h_v52 e_v52 => ?_)
    exact hrec _ _ (iv_w (l := 0) (u := 1023) h_y8 rfl) (iv_w (l := 1) (u := 1024) h_v52 rfl) (ms_up e_v52 h_y8 rfl hm)
set_option maxRecDepth 100000 in
set_option maxHeartbeats 4000000 in
theorem s_b_M_giveway_74 {F G : Nat} (hF : 100000 ≤ F) (hG : 20 ≤ G) {C : St} {S : St} (hS_S : Inv C S) {z3 : Int32} (h_z3 : iv z3 (0) (1)) {z4 : Int32} (h_z4 : iv z4 (0) (1023)) {z5 : Int32} (h_z5 : iv z5 (0) (1023)) {z6 : Int32} (h_z6 : iv z6 (0) (1023)) {k179 : Int32 → Option (Int32 × St)} (hk179 : ∀ (x0 : Int32), iv x0 (-1) (1023) → Sf2 (k179 x0) (fun r S2 => iv r (-2147483648) (2147483647) ∧ Inv C S2))  : ∀ (f : Nat) (w7 : Int32) (w8 : Int32), iv w7 (-1) (1023) → iv w8 (0) (1024) → (1024) - w8.toInt + 1 ≤ (f : Int) → Sf2 (fx2 (b_M_giveway_74 F G S z3 z4 z5 z6 k179)  f w7 w8) (fun r S2 => iv r (-2147483648) (2147483647) ∧ Inv C S2) := by
  intro f
  induction f with
  | zero => intro w7 w8 h_w7 h_w8 hm; exact (ms_zu h_w8 hm).elim
  | succ f hrec =>
    intro w7 w8 h_w7 h_w8 hm
    replace hm := ms_s hm
    show Sf2 (b_M_giveway_74 F G S z3 z4 z5 z6 k179 (fx2 (b_M_giveway_74 F G S z3 z4 z5 z6 k179)  f) w7 w8) _
    generalize fx2 (b_M_giveway_74 F G S z3 z4 z5 z6 k179)  f = rec at hrec ⊢
    unfold b_M_giveway_74
    refine sg_ite (fun c1 => ?_) (fun c1 => ?_)
    · have f2 : iv _ (1) (1024) := iv_ltB c1 h_z6 h_w8 rfl
      exact hk179 _ h_w7
    · have f3 : iv _ (0) (1023) := iv_leA (Int32.not_lt.mp c1) h_w8 h_z6 rfl
      refine sg_ite (fun c4 => ?_) (fun c4 => ?_)
      · have f5 : iv _ (0) (0) := iv_eqA c4 kv_0
        refine sg_ite (fun c6 => ?_) (fun c6 => ?_)
        · have f7 : iv _ (-1) (-1) := iv_ltA c6 h_w7 kv_0 rfl
          exact s_j_M_giveway_140 hF hG hS_S h_z3 h_z4 h_z5 h_z6 (iv_w (l := -1) (u := -1) f7 rfl) f3 hk179 hrec hm
        · have f8 : iv _ (0) (1023) := iv_leB (Int32.not_lt.mp c6) kv_0 h_w7 rfl
          refine sg_bd (s_fM_members hF hG hS_S (iv_w (l := 0) (u := 1023) f3 rfl)) (fun v29 h_v29 => ?_)
          refine sg_bd (s_fM_members hF hG hS_S (iv_w (l := 0) (u := 1023) f8 rfl)) (fun v31 h_v31 => ?_)
          refine sg_ite (fun c9 => ?_) (fun c9 => ?_)
          · have f10 : iv _ (-2147483648) (2147483646) := iv_ltA c9 (iv_top _) (iv_top _) rfl
            have f11 : iv _ (-2147483647) (2147483647) := iv_ltB c9 (iv_top _) (iv_top _) rfl
            refine sg_ltI (iv_add (l := 1) (u := 1024) f3 kv_1 rfl) (fun v33 h_v33 e_v33 => ?_)
            exact hrec _ _ (iv_w (l := 0) (u := 1023) f8 rfl) (iv_w (l := 1) (u := 1024) h_v33 rfl) (ms_up e_v33 f3 rfl hm)
          · refine sg_bd (s_fM_members hF hG hS_S (iv_w (l := 0) (u := 1023) f3 rfl)) (fun v36 h_v36 => ?_)
            refine sg_bd (s_fM_members hF hG hS_S (iv_w (l := 0) (u := 1023) f8 rfl)) (fun v38 h_v38 => ?_)
            refine sg_ite (fun c12 => ?_) (fun c12 => ?_)
            · refine sg_bd (s_fM_missedBy hF hG hS_S f3) (fun v41 h_v41 => ?_)
              refine sg_bd (s_fM_missedBy hF hG hS_S f8) (fun v43 h_v43 => ?_)
              refine sg_ite (fun c13 => ?_) (fun c13 => ?_)
              · have f14 : iv _ (-2147483648) (2147483646) := iv_ltA c13 (iv_top _) (iv_top _) rfl
                have f15 : iv _ (-2147483647) (2147483647) := iv_ltB c13 (iv_top _) (iv_top _) rfl
                exact s_j_M_giveway_140 hF hG hS_S h_z3 h_z4 h_z5 h_z6 (iv_w (l := 0) (u := 1023) f8 rfl) f3 hk179 hrec hm
              · refine sg_ltI (iv_add (l := 1) (u := 1024) f3 kv_1 rfl) (fun v45 h_v45 e_v45 => ?_)
                exact hrec _ _ (iv_w (l := 0) (u := 1023) f8 rfl) (iv_w (l := 1) (u := 1024) h_v45 rfl) (ms_up e_v45 f3 rfl hm)
            · exact s_j_M_giveway_140 hF hG hS_S h_z3 h_z4 h_z5 h_z6 (iv_w (l := 0) (u := 1023) f8 rfl) f3 hk179 hrec hm
      · have f16 : iv _ (1) (1023) := iv_neL c4 (iv_andL (u := 1023) f3 rfl) kv_0 rfl
        refine sg_ltI (iv_add (l := 1) (u := 1024) f3 kv_1 rfl) (fun v25 h_v25 e_v25 => ?_)
        exact hrec _ _ h_w7 (iv_w (l := 1) (u := 1024) h_v25 rfl) (ms_up e_v25 f3 rfl hm)
set_option maxRecDepth 100000 in
set_option maxHeartbeats 4000000 in
theorem s_fM_giveway {F G : Nat} (hF : 100000 ≤ F) (hG : 20 ≤ G) {C : St} {S : St} (hS_S : Inv C S) {p1 : Int32} {p2 : Int32} {p3 : Int32} : Sf2 (fM_giveway F G S p1 p2 p3) (fun r S2 => iv r (-2147483648) (2147483647) ∧ Inv C S2) := by
  unfold fM_giveway
  refine sg_bd (s_fM_isOut hF hG hS_S) (fun v2 h_v2 => ?_)
  obtain ⟨h_v2, k_v2⟩ := h_v2
  refine sg_ite (fun c1 => ?_) (fun c1 => ?_)
  · have f2 : iv _ (0) (0) := iv_eqA c1 kv_0
    exact sg_some (iv_top _) hS_S
  · have f3 : iv _ (0) (9) := k_v2 c1
    have f4 : iv _ (1) (1) := iv_neL c1 h_v2 kv_0 rfl
    refine sg_bd (s_fM_isHand hF hG hS_S) (fun v5 h_v5 => ?_)
    obtain ⟨h_v5, k_v5⟩ := h_v5
    refine sg_ite (fun c5 => ?_) (fun c5 => ?_)
    · have f6 : iv _ (0) (0) := iv_eqA c5 kv_0
      exact sg_some (iv_top _) hS_S
    · have f7 : iv _ (1) (2) := k_v5 c5
      have f8 : iv _ (1) (1) := iv_neL c5 h_v5 kv_0 rfl
      refine sg_bd (s_fM_isIn hF hG hS_S (iv_w (l := 0) (u := 0) kv_0 rfl) (iv_w (l := 1) (u := 1) kv_1 rfl)) (fun v8 h_v8 => ?_)
      obtain ⟨h_v8, k_v8⟩ := h_v8
      refine sg_ite (fun c9 => ?_) (fun c9 => ?_)
      · have f10 : iv _ (0) (0) := iv_eqA c9 kv_0
        exact sg_some (iv_top _) hS_S
      · have f11 : iv _ (0) (1) := isIn_iv kv_0 kv_1 k_v8 c9
        have f12 : iv _ (1) (1) := iv_neL c9 h_v8 kv_0 rfl
        refine sg_bd (s_fM_fill hF hG hS_S) (fun S11 hS_S11 => ?_)
        refine sg_bd (s_fM_layMissed hF hG hS_S11) (fun S13 hS_S13 => ?_)
        refine sg_gd (inB_iv f3 rfl) ?_
        refine sg_ltS0 (str_101 hS_S13 _ (iv_top _)) (fun S15 hS_S15 => ?_)
        refine sg_bd (s_fM_given hF hG hS_S15 (iv_w (l := 1) (u := 1) kv_1 rfl)) (fun v18 h_v18 => ?_)
        refine sg_bd (s_fM_given hF hG hS_S15 (iv_w (l := 2) (u := 2) kv_2 rfl)) (fun v20 h_v20 => ?_)
        refine sg_ltI (iv_andL (u := 1023) (iv_or (n := 10) (u := 1023) h_v18 h_v20 rfl) rfl) (fun v21 h_v21 e_v21 => ?_)
        refine s_b_M_giveway_74 hF hG hS_S15 f11 h_v18 h_v20 h_v21 ?_ F _ _ (iv_w (l := -1) (u := -1) kv_m1 rfl) (iv_w (l := 0) (u := 0) kv_0 rfl) (ms_iu kv_0 hF rfl)
        · intro v54 h_v54
          refine sg_ite (fun c13 => ?_) (fun c13 => ?_)
          · have f14 : iv _ (0) (1023) := iv_leB c13 kv_0 h_v54 rfl
            refine sg_ite (fun c15 => ?_) (fun c15 => ?_)
            · have f16 : iv _ (0) (0) := iv_eqA c15 kv_0
              refine sg_bd (s_fM_members hF hG hS_S15 (iv_w (l := 0) (u := 1023) f14 rfl)) (fun v58 h_v58 => ?_)
              exact sg_some (iv_top _) hS_S15
            · have f17 : iv _ (1) (1) := iv_neL c15 f11 kv_0 rfl
              exact sg_some (iv_top _) hS_S15
          · have f18 : iv _ (-1) (-1) := iv_ltA (Int32.not_le.mp c13) h_v54 kv_0 rfl
            exact sg_some (iv_top _) hS_S15
set_option maxRecDepth 100000 in
set_option maxHeartbeats 4000000 in
theorem s_j_K_handForShifted_83 {F G : Nat} (hF : 100000 ≤ F) (hG : 20 ≤ G) {C : St} {S : St} (hS_S : Inv C S) {y1 : Int32} (h_y1 : iv y1 (0) (9)) {y3 : Int32} {s0 : Int32} (h_s0 : iv s0 (0) (2)) : Sf2 (j_K_handForShifted_83 F G S y1 y3 s0) (fun r S2 => iv r (0) (2) ∧ Inv C S2) := by
  unfold j_K_handForShifted_83
  refine sg_gd (inB_iv h_y1 rfl) ?_
  refine sg_ltS0 (str_58 hS_S _ (iv_top _)) (fun S21 hS_S21 => ?_)
  exact sg_some h_s0 hS_S21
set_option maxRecDepth 100000 in
set_option maxHeartbeats 4000000 in
theorem s_fK_handForShifted {F G : Nat} (hF : 100000 ≤ F) (hG : 20 ≤ G) {C : St} {S : St} (hS_S : Inv C S) {p1 : Int32} (h_p1 : iv p1 (0) (9)) {p2 : Int32} (h_p2 : iv p2 (-8) (9)) : Sf2 (fK_handForShifted F G S p1 p2) (fun r S2 => iv r (0) (2) ∧ Inv C S2) := by
  unfold fK_handForShifted
  refine sg_gd (inB_iv h_p1 rfl) ?_
  refine sg_ltI (iv_top _) (fun v2 h_v2 e_v2 => ?_)
  refine sg_ltI (iv_top _) (fun v4 h_v4 e_v4 => ?_)
  refine sg_bd (s_fN_isKey hF hG hS_S) (fun v7 h_v7 => ?_)
  obtain ⟨h_v7, k_v7⟩ := h_v7
  refine sg_ite (fun c1 => ?_) (fun c1 => ?_)
  · have f2 : iv _ (0) (0) := iv_eqA c1 kv_0
    exact sg_some (iv_w (l := 0) (u := 0) kv_0 rfl) hS_S
  · have f3 : iv _ (0) (87) := k_v7 c1
    have f4 : iv _ (1) (1) := iv_neL c1 h_v7 kv_0 rfl
    refine sg_ltI (iv_shl (u := 512) h_p1 rfl) (fun v9 h_v9 e_v9 => ?_)
    refine sg_gd (inB_iv h_p1 rfl) ?_
    refine sg_ltS0 (str_58 hS_S _ (iv_top _)) (fun S12 hS_S12 => ?_)
    refine sg_bd (s_fK_canBePlayed hF hG hS_S12) (fun v15 h_v15 => ?_)
    refine sg_ite (fun c5 => ?_) (fun c5 => ?_)
    · have f6 : iv _ (0) (0) := iv_eqA c5 kv_0
      refine sg_bd (s_fK_canBePlayed hF hG hS_S12) (fun v18 h_v18 => ?_)
      refine sg_ite (fun c7 => ?_) (fun c7 => ?_)
      · have f8 : iv _ (0) (0) := iv_eqA c7 kv_0
        exact s_j_K_handForShifted_83 hF hG hS_S12 h_p1 (iv_w (l := 0) (u := 0) kv_0 rfl)
      · have f9 : iv _ (1) (1) := iv_neL c7 h_v18 kv_0 rfl
        exact s_j_K_handForShifted_83 hF hG hS_S12 h_p1 (iv_w (l := 2) (u := 2) kv_2 rfl)
    · have f10 : iv _ (1) (1) := iv_neL c5 h_v15 kv_0 rfl
      exact s_j_K_handForShifted_83 hF hG hS_S12 h_p1 (iv_w (l := 1) (u := 1) kv_1 rfl)
set_option maxRecDepth 100000 in
set_option maxHeartbeats 4000000 in
theorem s_b_N_letin_26 {F G : Nat} (hF : 100000 ≤ F) (hG : 20 ≤ G) {C : St} {z1 : Int32} (h_z1 : iv z1 (0) (9)) {z2 : Int32} (h_z2 : iv z2 (0) (1))  : ∀ (f : Nat) (w3 : Int32) (S : St), iv w3 (0) (9) → Inv C S → (9) - w3.toInt + 1 ≤ (f : Int) → Sf2 (fx2 (b_N_letin_26 F G z1 z2)  f w3 S) (fun r S2 => iv r (-100) (9) ∧ Inv C S2) := by
  intro f
  induction f with
  | zero => intro w3 S h_w3 hS_S hm; exact (ms_zu h_w3 hm).elim
  | succ f hrec =>
    intro w3 S h_w3 hS_S hm
    replace hm := ms_s hm
    show Sf2 (b_N_letin_26 F G z1 z2 (fx2 (b_N_letin_26 F G z1 z2)  f) w3 S) _
    generalize fx2 (b_N_letin_26 F G z1 z2)  f = rec at hrec ⊢
    unfold b_N_letin_26
    refine sg_ite (fun c1 => ?_) (fun c1 => ?_)
    · have f2 : iv _ (8) (9) := iv_ltB c1 kv_7 h_w3 rfl
      exact sg_some (iv_w (l := -100) (u := -100) kv_m100 rfl) hS_S
    · have f3 : iv _ (0) (7) := iv_leA (Int32.not_lt.mp c1) h_w3 kv_7 rfl
      refine sg_bd2 (s_fK_handForShifted hF hG hS_S h_z1 (iv_w (l := 0) (u := 7) f3 rfl)) (fun v10 S11 hq => ?_)
      obtain ⟨h_v10, hS_S11⟩ := hq
      refine sg_ite (fun c4 => ?_) (fun c4 => ?_)
      · have f5 : iv _ (0) (0) := iv_eqA c4 kv_0
        refine sg_bd2 (s_fK_handForShifted hF hG hS_S11 h_z1 (iv_w (l := -7) (u := 0) (iv_neg (l := -7) (u := 0) f3 rfl) rfl)) (fun v14 S15 hq => ?_)
        obtain ⟨h_v14, hS_S15⟩ := hq
        refine sg_ite (fun c6 => ?_) (fun c6 => ?_)
        · have f7 : iv _ (0) (0) := iv_eqA c6 kv_0
          refine sg_ltI (iv_add (l := 1) (u := 8) f3 kv_1 rfl) (fun v17 h_v17 e_v17 => ?_)
          exact hrec _ _ (iv_w (l := 1) (u := 8) h_v17 rfl) hS_S15 (ms_up e_v17 f3 rfl hm)
        · have f8 : iv _ (1) (2) := iv_neL c6 h_v14 kv_0 rfl
          refine sg_ite (fun c9 => ?_) (fun c9 => ?_)
          · have f10 : iv _ (0) (0) := iv_eqA c9 kv_0
            exact sg_some (iv_w (l := -7) (u := 0) (iv_neg (l := -7) (u := 0) f3 rfl) rfl) hS_S15
          · have f11 : iv _ (1) (1) := iv_neL c9 h_z2 kv_0 rfl
            exact sg_some (iv_w (l := 1) (u := 2) f8 rfl) hS_S15
      · have f12 : iv _ (1) (2) := iv_neL c4 h_v10 kv_0 rfl
        refine sg_ite (fun c13 => ?_) (fun c13 => ?_)
        · have f14 : iv _ (0) (0) := iv_eqA c13 kv_0
          exact sg_some (iv_w (l := 0) (u := 7) f3 rfl) hS_S11
        · have f15 : iv _ (1) (1) := iv_neL c13 h_z2 kv_0 rfl
          exact sg_some (iv_w (l := 1) (u := 2) f12 rfl) hS_S11
set_option maxRecDepth 100000 in
set_option maxHeartbeats 4000000 in
theorem s_fN_letin {F G : Nat} (hF : 100000 ≤ F) (hG : 20 ≤ G) {C : St} {S : St} (hS_S : Inv C S) {p1 : Int32} {p2 : Int32} : Sf2 (fN_letin F G S p1 p2) (fun r S2 => iv r (-100) (9) ∧ Inv C S2) := by
  unfold fN_letin
  refine sg_bd (s_fN_isLeftOut hF hG hS_S) (fun v2 h_v2 => ?_)
  obtain ⟨h_v2, k_v2⟩ := h_v2
  refine sg_ite (fun c1 => ?_) (fun c1 => ?_)
  · have f2 : iv _ (0) (0) := iv_eqA c1 kv_0
    exact sg_some (iv_w (l := -100) (u := -100) kv_m100 rfl) hS_S
  · have f3 : iv _ (0) (9) := k_v2 c1
    have f4 : iv _ (1) (1) := iv_neL c1 h_v2 kv_0 rfl
    refine sg_ite (fun c5 => ?_) (fun c5 => ?_)
    · have f6 : iv _ (-2147483648) (-1) := iv_ltA c5 (iv_top _) kv_0 rfl
      exact sg_some (iv_w (l := -100) (u := -100) kv_m100 rfl) hS_S
    · have f7 : iv _ (0) (2147483647) := iv_leB (Int32.not_lt.mp c5) kv_0 (iv_top _) rfl
      refine sg_ite (fun c8 => ?_) (fun c8 => ?_)
      · have f9 : iv _ (0) (1) := iv_leA c8 f7 kv_1 rfl
        refine sg_bd (s_fN_lookAtKeys hF hG hS_S) (fun S7 hS_S7 => ?_)
        exact s_b_N_letin_26 hF hG f3 f9 F _ _ (iv_w (l := 0) (u := 0) kv_0 rfl) hS_S7 (ms_iu kv_0 hF rfl)
      · have f10 : iv _ (2) (2147483647) := iv_ltB (Int32.not_le.mp c8) kv_1 f7 rfl
        exact sg_some (iv_w (l := -100) (u := -100) kv_m100 rfl) hS_S
set_option maxRecDepth 100000 in
set_option maxHeartbeats 4000000 in
theorem s_fM_canBePlayedSo {F G : Nat} (hF : 100000 ≤ F) (hG : 20 ≤ G) {C : St} {S : St} (hS_S : Inv C S) : Sf (fM_canBePlayedSo F G S) (fun r => iv r (0) (1)) := by
  unfold fM_canBePlayedSo
  refine sf_bd (s_fM_given hF hG hS_S (iv_w (l := 1) (u := 1) kv_1 rfl)) (fun v2 h_v2 => ?_)
  refine sf_bd (s_fM_given hF hG hS_S (iv_w (l := 2) (u := 2) kv_2 rfl)) (fun v4 h_v4 => ?_)
  refine sf_bd (s_fM_canBePlayed hF hG hS_S h_v2 h_v4) (fun v6 h_v6 => ?_)
  refine sf_gd (isB_iv h_v6 rfl) ?_
  exact sf_some h_v6
set_option maxRecDepth 100000 in
set_option maxHeartbeats 4000000 in
theorem s_fM_letsIn {F G : Nat} (hF : 100000 ≤ F) (hG : 20 ≤ G) {C : St} {S : St} (hS_S : Inv C S) {p1 : Int32} (h_p1 : iv p1 (0) (9)) {p2 : Int32} (h_p2 : iv p2 (-8) (9)) {p3 : Int32} (h_p3 : iv p3 (1) (2)) : Sf2 (fM_letsIn F G S p1 p2 p3) (fun r S2 => iv r (0) (1) ∧ Inv C S2) := by
  unfold fM_letsIn
  refine sg_gd (inB_iv (iv_add (l := 10) (u := 19) kv_10 h_p1 rfl) rfl) ?_
  refine sg_ltI (iv_top _) (fun v2 h_v2 e_v2 => ?_)
  refine sg_bd (s_fM_isIn hF hG hS_S (iv_w (l := 0) (u := 0) kv_0 rfl) (iv_w (l := 87) (u := 87) kv_87 rfl)) (fun v5 h_v5 => ?_)
  obtain ⟨h_v5, k_v5⟩ := h_v5
  refine sg_ite (fun c1 => ?_) (fun c1 => ?_)
  · have f2 : iv _ (0) (0) := iv_eqA c1 kv_0
    exact sg_some (iv_w (l := 0) (u := 0) kv_0 rfl) hS_S
  · have f3 : iv _ (0) (87) := isIn_iv kv_0 kv_87 k_v5 c1
    have f4 : iv _ (1) (1) := iv_neL c1 h_v5 kv_0 rfl
    refine sg_bd (s_fM_fill hF hG hS_S) (fun S8 hS_S8 => ?_)
    refine sg_gd (inB_iv (iv_add (l := 10) (u := 19) kv_10 h_p1 rfl) rfl) ?_
    refine sg_ltS0 (str_101 hS_S8 _ (iv_top _)) (fun S10 hS_S10 => ?_)
    refine sg_gd (inB_iv h_p1 rfl) ?_
    refine sg_ltS0 (str_101 hS_S10 _ (iv_top _)) (fun S13 hS_S13 => ?_)
    refine sg_bd (s_fM_canBePlayedSo hF hG hS_S13) (fun v16 h_v16 => ?_)
    refine sg_gd (isB_iv h_v16 rfl) ?_
    exact sg_some h_v16 hS_S13
set_option maxRecDepth 100000 in
set_option maxHeartbeats 4000000 in
theorem s_b_M_letin_52 {F G : Nat} (hF : 100000 ≤ F) (hG : 20 ≤ G) {C : St} {z1 : Int32} (h_z1 : iv z1 (0) (9)) {z2 : Int32} (h_z2 : iv z2 (0) (1)) {z3 : Int32} (h_z3 : iv z3 (0) (14)) {z4 : Int32} (h_z4 : iv z4 (-8) (9)) {k88 : St → Option (Int32 × St)} (hk88 : ∀ (x0 : St), Inv C x0 → Sf2 (k88 x0) (fun r S2 => iv r (-100) (9) ∧ Inv C S2))  : ∀ (f : Nat) (w5 : Int32) (S : St), iv w5 (1) (3) → Inv C S → (3) - w5.toInt + 1 ≤ (f : Int) → Sf2 (fx2 (b_M_letin_52 F G z1 z2 z3 z4 k88)  f w5 S) (fun r S2 => iv r (-100) (9) ∧ Inv C S2) := by
  intro f
  induction f with
  | zero => intro w5 S h_w5 hS_S hm; exact (ms_zu h_w5 hm).elim
  | succ f hrec =>
    intro w5 S h_w5 hS_S hm
    replace hm := ms_s hm
    show Sf2 (b_M_letin_52 F G z1 z2 z3 z4 k88 (fx2 (b_M_letin_52 F G z1 z2 z3 z4 k88)  f) w5 S) _
    generalize fx2 (b_M_letin_52 F G z1 z2 z3 z4 k88)  f = rec at hrec ⊢
    unfold b_M_letin_52
    refine sg_ite (fun c1 => ?_) (fun c1 => ?_)
    · have f2 : iv _ (3) (3) := iv_ltB c1 kv_2 h_w5 rfl
      exact hk88 _ hS_S
    · have f3 : iv _ (1) (2) := iv_leA (Int32.not_lt.mp c1) h_w5 kv_2 rfl
      refine sg_bd2 (s_fM_letsIn hF hG hS_S h_z1 h_z4 f3) (fun v13 S14 hq => ?_)
      obtain ⟨h_v13, hS_S14⟩ := hq
      refine sg_ite (fun c4 => ?_) (fun c4 => ?_)
      · have f5 : iv _ (0) (0) := iv_eqA c4 kv_0
        refine sg_ltI (iv_add (l := 2) (u := 3) f3 kv_1 rfl) (fun v16 h_v16 e_v16 => ?_)
        exact hrec _ _ (iv_w (l := 2) (u := 3) h_v16 rfl) hS_S14 (ms_up e_v16 f3 rfl hm)
      · have f6 : iv _ (1) (1) := iv_neL c4 h_v13 kv_0 rfl
        refine sg_ite (fun c7 => ?_) (fun c7 => ?_)
        · have f8 : iv _ (0) (0) := iv_eqA c7 kv_0
          exact sg_some (iv_w (l := -8) (u := 9) h_z4 rfl) hS_S14
        · have f9 : iv _ (1) (1) := iv_neL c7 h_z2 kv_0 rfl
          exact sg_some (iv_w (l := 1) (u := 2) f3 rfl) hS_S14
set_option maxRecDepth 100000 in
set_option maxHeartbeats 4000000 in
theorem s_b_M_letin_22 {F G : Nat} (hF : 100000 ≤ F) (hG : 20 ≤ G) {C : St} {z1 : Int32} (h_z1 : iv z1 (0) (9)) {z2 : Int32} (h_z2 : iv z2 (0) (1))  : ∀ (f : Nat) (w3 : Int32) (S : St), iv w3 (0) (15) → Inv C S → (15) - w3.toInt + 1 ≤ (f : Int) → Sf2 (fx2 (b_M_letin_22 F G z1 z2)  f w3 S) (fun r S2 => iv r (-100) (9) ∧ Inv C S2) := by
  intro f
  induction f with
  | zero => intro w3 S h_w3 hS_S hm; exact (ms_zu h_w3 hm).elim
  | succ f hrec =>
    intro w3 S h_w3 hS_S hm
    replace hm := ms_s hm
    show Sf2 (b_M_letin_22 F G z1 z2 (fx2 (b_M_letin_22 F G z1 z2)  f) w3 S) _
    generalize fx2 (b_M_letin_22 F G z1 z2)  f = rec at hrec ⊢
    unfold b_M_letin_22
    refine sg_ite (fun c1 => ?_) (fun c1 => ?_)
    · have f2 : iv _ (15) (15) := iv_ltB c1 kv_14 h_w3 rfl
      exact sg_some (iv_w (l := -100) (u := -100) kv_m100 rfl) hS_S
    · have f3 : iv _ (0) (14) := iv_leA (Int32.not_lt.mp c1) h_w3 kv_14 rfl
      refine sg_ite (fun c4 => ?_) (fun c4 => ?_)
      · have f5 : iv _ (1) (1) := iv_eqA c4 kv_1
        refine sg_ltI (iv_div (u := 7) (iv_add (l := 1) (u := 15) f3 kv_1 rfl) kv_2 rfl) (fun v22 h_v22 e_v22 => ?_)
        refine s_b_M_letin_52 hF hG h_z1 h_z2 f3 (iv_w (l := 0) (u := 7) h_v22 rfl) ?_ F _ _ (iv_w (l := 1) (u := 1) kv_1 rfl) hS_S (ms_iu kv_1 hF rfl)
        · intro S24 hS_S24
          refine sg_ltI (iv_add (l := 1) (u := 15) f3 kv_1 rfl) (fun v25 h_v25 e_v25 => ?_)
          exact hrec _ _ (iv_w (l := 1) (u := 15) h_v25 rfl) hS_S24 (ms_up e_v25 f3 rfl hm)
      · have f6 : iv _ (0) (0) := iv_neU c4 (iv_rem (u := 1) f3 kv_2 rfl) kv_1 rfl
        refine sg_ltI (iv_neg (l := -7) (u := 0) (iv_div (u := 7) f3 kv_2 rfl) rfl) (fun v9 h_v9 e_v9 => ?_)
        refine s_b_M_letin_52 hF hG h_z1 h_z2 f3 (iv_w (l := -7) (u := 0) h_v9 rfl) ?_ F _ _ (iv_w (l := 1) (u := 1) kv_1 rfl) hS_S (ms_iu kv_1 hF rfl)
        · intro S19 hS_S19
          refine sg_ltI (iv_add (l := 1) (u := 15) f3 kv_1 rfl) (fun v20 h_v20 e_v20 => ?_)
          exact hrec _ _ (iv_w (l := 1) (u := 15) h_v20 rfl) hS_S19 (ms_up e_v20 f3 rfl hm)
set_option maxRecDepth 100000 in
set_option maxHeartbeats 4000000 in
theorem s_fM_letin {F G : Nat} (hF : 100000 ≤ F) (hG : 20 ≤ G) {C : St} {S : St} (hS_S : Inv C S) {p1 : Int32} {p2 : Int32} : Sf2 (fM_letin F G S p1 p2) (fun r S2 => iv r (-100) (9) ∧ Inv C S2) := by
  unfold fM_letin
  refine sg_bd (s_fM_isOut hF hG hS_S) (fun v2 h_v2 => ?_)
  obtain ⟨h_v2, k_v2⟩ := h_v2
  refine sg_ite (fun c1 => ?_) (fun c1 => ?_)
  · have f2 : iv _ (0) (0) := iv_eqA c1 kv_0
    exact sg_some (iv_w (l := -100) (u := -100) kv_m100 rfl) hS_S
  · have f3 : iv _ (0) (9) := k_v2 c1
    have f4 : iv _ (1) (1) := iv_neL c1 h_v2 kv_0 rfl
    refine sg_bd (s_fM_isIn hF hG hS_S (iv_w (l := 0) (u := 0) kv_0 rfl) (iv_w (l := 1) (u := 1) kv_1 rfl)) (fun v5 h_v5 => ?_)
    obtain ⟨h_v5, k_v5⟩ := h_v5
    refine sg_ite (fun c5 => ?_) (fun c5 => ?_)
    · have f6 : iv _ (0) (0) := iv_eqA c5 kv_0
      exact sg_some (iv_w (l := -100) (u := -100) kv_m100 rfl) hS_S
    · have f7 : iv _ (0) (1) := isIn_iv kv_0 kv_1 k_v5 c5
      have f8 : iv _ (1) (1) := iv_neL c5 h_v5 kv_0 rfl
      exact s_b_M_letin_22 hF hG f3 f7 F _ _ (iv_w (l := 0) (u := 0) kv_0 rfl) hS_S (ms_iu kv_0 hF rfl)
set_option maxRecDepth 100000 in
set_option maxHeartbeats 4000000 in
theorem s_fP_isFree {F G : Nat} (hF : 100000 ≤ F) (hG : 20 ≤ G) {C : St} {S : St} (hS_S : Inv C S) {p1 : Int32} (h_p1 : iv p1 (0) (11)) {p2 : Int32} (h_p2 : iv p2 (0) (10)) {p3 : Int32} (h_p3 : iv p3 (0) (11)) : Sf (fP_isFree F G S p1 p2 p3) (fun r => iv r (0) (1)) := by
  unfold fP_isFree
  refine sf_bd (s_fK_timelySince hF hG hS_S (iv_w (l := 0) (u := 10) h_p2 rfl) (iv_w (l := -1) (u := 10) (iv_sub (l := -1) (u := 10) h_p1 kv_1 rfl) rfl)) (fun v2 h_v2 => ?_)
  refine sf_bd (s_fK_timelySince hF hG hS_S h_p3 (iv_w (l := 0) (u := 11) h_p1 rfl)) (fun v4 h_v4 => ?_)
  refine sf_bd (s_fK_clashesBetween hF hG hS_S) (fun v6 h_v6 => ?_)
  refine sf_ite (fun c1 => ?_) (fun c1 => ?_)
  · have f2 : iv _ (0) (0) := iv_eqA c1 kv_0
    exact sf_some (iv_w (l := 1) (u := 1) kv_1 rfl)
  · have f3 : iv _ (1) (31) := iv_neL c1 h_v6 kv_0 rfl
    exact sf_some (iv_w (l := 0) (u := 0) kv_0 rfl)
set_option maxRecDepth 100000 in
set_option maxHeartbeats 4000000 in
theorem s_j_P_better_10 {F G : Nat} (hF : 100000 ≤ F) (hG : 20 ≤ G) {C : St} {S : St} (hS_S : Inv C S) {y0 : Int32} {y1 : Int32} : Sf (j_P_better_10 F G S y0 y1) (fun r => iv r (-2147483648) (2147483647)) := by
  unfold j_P_better_10
  refine sf_ite (fun c1 => ?_) (fun c1 => ?_)
  · have f2 : iv _ (-1) (-1) := iv_eqA c1 kv_m1
    exact sf_some (iv_top _)
  · exact sf_some (iv_top _)
set_option maxRecDepth 100000 in
set_option maxHeartbeats 4000000 in
theorem s_fP_better {F G : Nat} (hF : 100000 ≤ F) (hG : 20 ≤ G) {C : St} {S : St} (hS_S : Inv C S) {p1 : Int32} {p2 : Int32} : Sf (fP_better F G S p1 p2) (fun r => iv r (-2147483648) (2147483647)) := by
  unfold fP_better
  refine sf_ite (fun c1 => ?_) (fun c1 => ?_)
  · have f2 : iv _ (-1) (-1) := iv_eqA c1 kv_m1
    exact s_j_P_better_10 hF hG hS_S
  · refine sf_ite (fun c3 => ?_) (fun c3 => ?_)
    · have f4 : iv _ (-1) (-1) := iv_eqA c3 kv_m1
      exact s_j_P_better_10 hF hG hS_S
    · refine sf_bd (s_fJ_bitCount hF hG hS_S) (fun v4 h_v4 => ?_)
      refine sf_bd (s_fJ_bitCount hF hG hS_S) (fun v6 h_v6 => ?_)
      refine sf_ltI (iv_sub (l := -63) (u := 63) h_v4 h_v6 rfl) (fun v7 h_v7 e_v7 => ?_)
      refine sf_ite (fun c5 => ?_) (fun c5 => ?_)
      · have f6 : iv _ (-63) (-1) := iv_ltA c5 h_v7 kv_0 rfl
        exact sf_some (iv_top _)
      · have f7 : iv _ (0) (63) := iv_leB (Int32.not_lt.mp c5) kv_0 h_v7 rfl
        refine sf_ite (fun c8 => ?_) (fun c8 => ?_)
        · have f9 : iv _ (0) (0) := iv_eqA c8 kv_0
          refine sf_ite (fun c10 => ?_) (fun c10 => ?_)
          · exact sf_some (iv_top _)
          · have f11 : iv _ (-2147483648) (2147483646) := iv_ltA (Int32.not_le.mp c10) (iv_top _) (iv_top _) rfl
            have f12 : iv _ (-2147483647) (2147483647) := iv_ltB (Int32.not_le.mp c10) (iv_top _) (iv_top _) rfl
            exact sf_some (iv_top _)
        · have f13 : iv _ (1) (63) := iv_neL c8 f7 kv_0 rfl
          exact sf_some (iv_top _)
set_option maxRecDepth 100000 in
set_option maxHeartbeats 4000000 in
theorem s_b_P_bestWithPedalAt_5 {F G : Nat} (hF : 100000 ≤ F) (hG : 20 ≤ G) {C : St} {S : St} (hS_S : Inv C S) {z2 : Int32} (h_z2 : iv z2 (1) (11))  : ∀ (f : Nat) (w3 : Int32) (w4 : Int32), iv w4 (0) (11) → (11) - w4.toInt + 1 ≤ (f : Int) → Sf (fx2 (b_P_bestWithPedalAt_5 F G S z2)  f w3 w4) (fun r => iv r (-2147483648) (2147483647)) := by
  intro f
  induction f with
  | zero => intro w3 w4 h_w4 hm; exact (ms_zu h_w4 hm).elim
  | succ f hrec =>
    intro w3 w4 h_w4 hm
    replace hm := ms_s hm
    show Sf (b_P_bestWithPedalAt_5 F G S z2 (fx2 (b_P_bestWithPedalAt_5 F G S z2)  f) w3 w4) _
    generalize fx2 (b_P_bestWithPedalAt_5 F G S z2)  f = rec at hrec ⊢
    unfold b_P_bestWithPedalAt_5
    refine sf_ite (fun c1 => ?_) (fun c1 => ?_)
    · have f2 : iv _ (1) (11) := iv_leB c1 h_z2 h_w4 rfl
      exact sf_some (iv_top _)
    · have f3 : iv _ (0) (10) := iv_ltA (Int32.not_le.mp c1) h_w4 h_z2 rfl
      refine sf_gd (inB_iv f3 rfl) ?_
      refine sf_ite (fun c4 => ?_) (fun c4 => ?_)
      · have f5 : iv _ (-1) (-1) := iv_eqA c4 kv_m1
        refine sf_ltI (iv_add (l := 1) (u := 11) f3 kv_1 rfl) (fun v4 h_v4 e_v4 => ?_)
        exact hrec _ _ (iv_w (l := 1) (u := 11) h_v4 rfl) (ms_up e_v4 f3 rfl hm)
      · refine sf_bd (s_fP_isFree hF hG hS_S (iv_w (l := 1) (u := 11) h_z2 rfl) f3 (iv_w (l := 1) (u := 11) h_z2 rfl)) (fun v7 h_v7 => ?_)
        refine sf_ite (fun c6 => ?_) (fun c6 => ?_)
        · have f7 : iv _ (0) (0) := iv_eqA c6 kv_0
          refine sf_ltI (iv_add (l := 1) (u := 11) f3 kv_1 rfl) (fun v9 h_v9 e_v9 => ?_)
          exact hrec _ _ (iv_w (l := 1) (u := 11) h_v9 rfl) (ms_up e_v9 f3 rfl hm)
        · have f8 : iv _ (1) (1) := iv_neL c6 h_v7 kv_0 rfl
          refine sf_gd (inB_iv f3 rfl) ?_
          refine sf_bd (s_fP_better hF hG hS_S) (fun v13 h_v13 => ?_)
          refine sf_ltI (iv_add (l := 1) (u := 11) f3 kv_1 rfl) (fun v14 h_v14 e_v14 => ?_)
          exact hrec _ _ (iv_w (l := 1) (u := 11) h_v14 rfl) (ms_up e_v14 f3 rfl hm)
set_option maxRecDepth 100000 in
set_option maxHeartbeats 4000000 in
theorem s_fP_bestWithPedalAt {F G : Nat} (hF : 100000 ≤ F) (hG : 20 ≤ G) {C : St} {S : St} (hS_S : Inv C S) {p1 : Int32} (h_p1 : iv p1 (1) (11)) : Sf (fP_bestWithPedalAt F G S p1) (fun r => iv r (-2147483648) (2147483647)) := by
  unfold fP_bestWithPedalAt
  exact s_b_P_bestWithPedalAt_5 hF hG hS_S h_p1 F _ _ (iv_w (l := 0) (u := 0) kv_0 rfl) (ms_iu kv_0 hF rfl)
set_option maxRecDepth 100000 in
set_option maxHeartbeats 4000000 in
theorem s_b_P_fewest_45 {F G : Nat} (hF : 100000 ≤ F) (hG : 20 ≤ G) {C : St} {z2 : Int32} (h_z2 : iv z2 (1) (11)) {k73 : St → Option (Int32 × St)} (hk73 : ∀ (x0 : St), Inv C x0 → Sf2 (k73 x0) (fun r S2 => iv r (-2147483648) (2147483647) ∧ Inv C S2))  : ∀ (f : Nat) (w3 : Int32) (S : St), iv w3 (0) (11) → Inv C S → (11) - w3.toInt + 1 ≤ (f : Int) → Sf2 (fx2 (b_P_fewest_45 F G z2 k73)  f w3 S) (fun r S2 => iv r (-2147483648) (2147483647) ∧ Inv C S2) := by
  intro f
  induction f with
  | zero => intro w3 S h_w3 hS_S hm; exact (ms_zu h_w3 hm).elim
  | succ f hrec =>
    intro w3 S h_w3 hS_S hm
    replace hm := ms_s hm
    show Sf2 (b_P_fewest_45 F G z2 k73 (fx2 (b_P_fewest_45 F G z2 k73)  f) w3 S) _
    generalize fx2 (b_P_fewest_45 F G z2 k73)  f = rec at hrec ⊢
    unfold b_P_fewest_45
    refine sg_ite (fun c1 => ?_) (fun c1 => ?_)
    · have f2 : iv _ (1) (11) := iv_leB c1 h_z2 h_w3 rfl
      exact hk73 _ hS_S
    · have f3 : iv _ (0) (10) := iv_ltA (Int32.not_le.mp c1) h_w3 h_z2 rfl
      refine sg_bd (s_fP_isFree hF hG hS_S (iv_w (l := 1) (u := 11) h_z2 rfl) f3 (iv_w (l := 0) (u := 10) f3 rfl)) (fun v15 h_v15 => ?_)
      refine sg_ite (fun c4 => ?_) (fun c4 => ?_)
      · have f5 : iv _ (0) (0) := iv_eqA c4 kv_0
        refine sg_gd (inB_iv f3 rfl) ?_
        refine sg_ltS0 (str_68 hS_S _ (iv_top _)) (fun S20 hS_S20 => ?_)
        refine sg_ltI (iv_add (l := 1) (u := 11) f3 kv_1 rfl) (fun v22 h_v22 e_v22 => ?_)
        exact hrec _ _ (iv_w (l := 1) (u := 11) h_v22 rfl) hS_S20 (ms_up e_v22 f3 rfl hm)
      · have f6 : iv _ (1) (1) := iv_neL c4 h_v15 kv_0 rfl
        refine sg_ltI (iv_add (l := 1) (u := 11) f3 kv_1 rfl) (fun v17 h_v17 e_v17 => ?_)
        exact hrec _ _ (iv_w (l := 1) (u := 11) h_v17 rfl) hS_S (ms_up e_v17 f3 rfl hm)
set_option maxRecDepth 100000 in
set_option maxHeartbeats 4000000 in
theorem s_b_P_fewest_23 {F G : Nat} (hF : 100000 ≤ F) (hG : 20 ≤ G) {C : St} {k79 : St → Option (Int32 × St)} (hk79 : ∀ (x0 : St), Inv C x0 → Sf2 (k79 x0) (fun r S2 => iv r (-2147483648) (2147483647) ∧ Inv C S2))  : ∀ (f : Nat) (w2 : Int32) (S : St), iv w2 (1) (12) → Inv C S → (12) - w2.toInt + 1 ≤ (f : Int) → Sf2 (fx2 (b_P_fewest_23 F G k79)  f w2 S) (fun r S2 => iv r (-2147483648) (2147483647) ∧ Inv C S2) := by
  intro f
  induction f with
  | zero => intro w2 S h_w2 hS_S hm; exact (ms_zu h_w2 hm).elim
  | succ f hrec =>
    intro w2 S h_w2 hS_S hm
    replace hm := ms_s hm
    show Sf2 (b_P_fewest_23 F G k79 (fx2 (b_P_fewest_23 F G k79)  f) w2 S) _
    generalize fx2 (b_P_fewest_23 F G k79)  f = rec at hrec ⊢
    unfold b_P_fewest_23
    refine sg_ite (fun c1 => ?_) (fun c1 => ?_)
    · exact hk79 _ hS_S
    · have f2 : iv _ (1) (11) := iv_ltA (Int32.not_le.mp c1) h_w2 (cell_57_0 hS_S) rfl
      have f3 : iv _ (2) (12) := iv_ltB (Int32.not_le.mp c1) h_w2 (cell_57_0 hS_S) rfl
      refine sg_bd (s_fP_bestWithPedalAt hF hG hS_S f2) (fun v9 h_v9 => ?_)
      refine sg_gd (inB_iv f2 rfl) ?_
      refine sg_ltS (Q := fun T => iv (T.1 57 0) (2) (12) ∧ True) (str_68 hS_S _ (iv_top _)) ⟨f3, trivial⟩ (fun S11 hS_S11 hq => ?_)
      obtain ⟨f4, -⟩ := hq
      refine s_b_P_fewest_45 hF hG f2 ?_ F _ _ (iv_w (l := 0) (u := 0) kv_0 rfl) hS_S11 (ms_iu kv_0 hF rfl)
      · intro S24 hS_S24
        refine sg_ltI (iv_add (l := 2) (u := 12) f2 kv_1 rfl) (fun v25 h_v25 e_v25 => ?_)
        exact hrec _ _ (iv_w (l := 2) (u := 12) h_v25 rfl) hS_S24 (ms_up e_v25 f2 rfl hm)
set_option maxRecDepth 100000 in
set_option maxHeartbeats 4000000 in
theorem s_b_P_fewest_83 {F G : Nat} (hF : 100000 ≤ F) (hG : 20 ≤ G) {C : St} {S : St} (hS_S : Inv C S)  : ∀ (f : Nat) (w2 : Int32) (w3 : Int32), iv w3 (0) (12) → (12) - w3.toInt + 1 ≤ (f : Int) → Sf2 (fx2 (b_P_fewest_83 F G S)  f w2 w3) (fun r S2 => iv r (-2147483648) (2147483647) ∧ Inv C S2) := by
  intro f
  induction f with
  | zero => intro w2 w3 h_w3 hm; exact (ms_zu h_w3 hm).elim
  | succ f hrec =>
    intro w2 w3 h_w3 hm
    replace hm := ms_s hm
    show Sf2 (b_P_fewest_83 F G S (fx2 (b_P_fewest_83 F G S)  f) w2 w3) _
    generalize fx2 (b_P_fewest_83 F G S)  f = rec at hrec ⊢
    unfold b_P_fewest_83
    refine sg_ite (fun c1 => ?_) (fun c1 => ?_)
    · exact sg_some (iv_top _) hS_S
    · have f2 : iv _ (0) (11) := iv_ltA (Int32.not_le.mp c1) h_w3 (cell_57_0 hS_S) rfl
      have f3 : iv _ (1) (12) := iv_ltB (Int32.not_le.mp c1) h_w3 (cell_57_0 hS_S) rfl
      refine sg_gd (inB_iv f2 rfl) ?_
      refine sg_bd (s_fP_better hF hG hS_S) (fun v31 h_v31 => ?_)
      refine sg_ltI (iv_add (l := 1) (u := 12) f2 kv_1 rfl) (fun v32 h_v32 e_v32 => ?_)
      exact hrec _ _ (iv_w (l := 1) (u := 12) h_v32 rfl) (ms_up e_v32 f2 rfl hm)
set_option maxRecDepth 100000 in
set_option maxHeartbeats 4000000 in
theorem s_fP_fewest {F G : Nat} (hF : 100000 ≤ F) (hG : 20 ≤ G) {C : St} {S : St} (hS_S : Inv C S) : Sf2 (fP_fewest F G S) (fun r S2 => iv r (-2147483648) (2147483647) ∧ Inv C S2) := by
  unfold fP_fewest
  refine sg_bd (s_fP_isFree hF hG hS_S (iv_w (l := 0) (u := 0) kv_0 rfl) (iv_w (l := 0) (u := 0) kv_0 rfl) (iv_w (l := 0) (u := 0) kv_0 rfl)) (fun v2 h_v2 => ?_)
  refine sg_ite (fun c1 => ?_) (fun c1 => ?_)
  · have f2 : iv _ (0) (0) := iv_eqA c1 kv_0
    refine sg_gd (inB_iv kv_0 rfl) ?_
    refine sg_ltS0 (str_68 hS_S _ (iv_top _)) (fun S5 hS_S5 => ?_)
    refine s_b_P_fewest_23 hF hG ?_ F _ _ (iv_w (l := 1) (u := 1) kv_1 rfl) hS_S5 (ms_iu kv_1 hF rfl)
    · intro S27 hS_S27
      exact s_b_P_fewest_83 hF hG hS_S27 F _ _ (iv_w (l := 0) (u := 0) kv_0 rfl) (ms_iu kv_0 hF rfl)
  · have f3 : iv _ (1) (1) := iv_neL c1 h_v2 kv_0 rfl
    refine sg_gd (inB_iv kv_0 rfl) ?_
    refine sg_ltS0 (str_68 hS_S _ (iv_top _)) (fun S35 hS_S35 => ?_)
    refine s_b_P_fewest_23 hF hG ?_ F _ _ (iv_w (l := 1) (u := 1) kv_1 rfl) hS_S35 (ms_iu kv_1 hF rfl)
    · intro S37 hS_S37
      exact s_b_P_fewest_83 hF hG hS_S37 F _ _ (iv_w (l := 0) (u := 0) kv_0 rfl) (ms_iu kv_0 hF rfl)
set_option maxRecDepth 100000 in
set_option maxHeartbeats 4000000 in
theorem s_fN_pedals {F G : Nat} (hF : 100000 ≤ F) (hG : 20 ≤ G) {C : St} {S : St} (hS_S : Inv C S) {p1 : Int32} : Sf2 (fN_pedals F G S p1) (fun r S2 => iv r (-2147483648) (2147483647) ∧ Inv C S2) := by
  unfold fN_pedals
  refine sg_ite (fun c1 => ?_) (fun c1 => ?_)
  · have f2 : iv _ (-2147483648) (-1) := iv_ltA c1 (iv_top _) kv_0 rfl
    exact sg_some (iv_top _) hS_S
  · have f3 : iv _ (0) (2147483647) := iv_leB (Int32.not_lt.mp c1) kv_0 (iv_top _) rfl
    refine sg_ite (fun c4 => ?_) (fun c4 => ?_)
    · have f5 : iv _ (0) (1) := iv_leA c4 f3 kv_1 rfl
      refine sg_bd (s_fN_lookAtKeys hF hG hS_S) (fun S4 hS_S4 => ?_)
      refine sg_bd2 (s_fP_fewest hF hG hS_S4) (fun v6 S7 hq => ?_)
      obtain ⟨h_v6, hS_S7⟩ := hq
      refine sg_ite (fun c6 => ?_) (fun c6 => ?_)
      · have f7 : iv _ (0) (0) := iv_eqA c6 kv_0
        refine sg_ite (fun c8 => ?_) (fun c8 => ?_)
        · have f9 : iv _ (-1) (-1) := iv_eqA c8 kv_m1
          exact sg_some (iv_top _) hS_S7
        · refine sg_bd (s_fJ_bitCount hF hG hS_S7) (fun v11 h_v11 => ?_)
          exact sg_some (iv_top _) hS_S7
      · have f10 : iv _ (1) (1) := iv_neL c6 f5 kv_0 rfl
        exact sg_some (iv_top _) hS_S7
    · have f11 : iv _ (2) (2147483647) := iv_ltB (Int32.not_le.mp c4) kv_1 f3 rfl
      exact sg_some (iv_top _) hS_S
set_option maxRecDepth 100000 in
set_option maxHeartbeats 4000000 in
theorem s_j_M_pedals_65 {F G : Nat} (hF : 100000 ≤ F) (hG : 20 ≤ G) {C : St} {z1 : Int32} (h_z1 : iv z1 (0) (1)) {z2 : Int32} (h_z2 : iv z2 (0) (1023)) {z3 : Int32} (h_z3 : iv z3 (0) (1023)) {S : St} (hS_S : Inv C S) {y4 : Int32} (h_y4 : iv y4 (-1) (4095)) {y5 : Int32} (h_y5 : iv y5 (0) (4095)) {k105 : Int32 → St → Option (Int32 × St)} (hk105 : ∀ (x0 : Int32) (x1 : St), iv x0 (-1) (4095) → Inv C x1 → Sf2 (k105 x0 x1) (fun r S2 => iv r (-2147483648) (2147483647) ∧ Inv C S2)) {rec : Int32 → Int32 → St → Option (Int32 × St)} {M : Int} (hrec : ∀ (w4 : Int32) (w5 : Int32) (S : St), iv w4 (-1) (4095) → iv w5 (0) (4096) → Inv C S → (4096) - w5.toInt + 1 ≤ M → Sf2 (rec w4 w5 S) (fun r S2 => iv r (-2147483648) (2147483647) ∧ Inv C S2)) (hm : (4096) - y5.toInt ≤ M) : Sf2 (j_M_pedals_65 F G z1 z2 z3 k105 rec S y4 y5) (fun r S2 => iv r (-2147483648) (2147483647) ∧ Inv C S2) := by
  unfold j_M_pedals_65
  refine sg_gd (inB_iv kv_40 rfl) ?_
  refine sg_ltS0 (str_101 hS_S _ (iv_top _)) (fun S20 hS_S20 => ?_)
  refine sg_bd (s_fM_layHold hF hG hS_S20) (fun S23 hS_S23 => ?_)
  refine sg_bd (s_fM_canBePlayed hF hG hS_S23 h_z2 h_z3) (fun v25 h_v25 => ?_)
  refine sg_ite (fun c1 => ?_) (fun c1 => ?_)
  · have f2 : iv _ (0) (0) := iv_eqA c1 kv_0
    refine sg_ltI (iv_add (l := 1) (u := 4096) h_y5 kv_1 rfl) (fun v27 h_v27 e_v27 => ?_)
    exact hrec _ _ _ h_y4 (iv_w (l := 1) (u := 4096) h_v27 rfl) hS_S23 (ms_up e_v27 h_y5 rfl hm)
  · have f3 : iv _ (1) (1) := iv_neL c1 h_v25 kv_0 rfl
    refine sg_ltI (iv_add (l := 1) (u := 4096) h_y5 kv_1 rfl) (fun v29 h_v29 e_v29 => ?_)
    exact hrec _ _ _ (iv_w (l := 0) (u := 4095) h_y5 rfl) (iv_w (l := 1) (u := 4096) h_v29 rfl) hS_S23 (ms_up e_v29 h_y5 rfl hm)
set_option maxRecDepth 100000 in
set_option maxHeartbeats 4000000 in
theorem s_b_M_pedals_33 {F G : Nat} (hF : 100000 ≤ F) (hG : 20 ≤ G) {C : St} {z1 : Int32} (h_z1 : iv z1 (0) (1)) {z2 : Int32} (h_z2 : iv z2 (0) (1023)) {z3 : Int32} (h_z3 : iv z3 (0) (1023)) {k105 : Int32 → St → Option (Int32 × St)} (hk105 : ∀ (x0 : Int32) (x1 : St), iv x0 (-1) (4095) → Inv C x1 → Sf2 (k105 x0 x1) (fun r S2 => iv r (-2147483648) (2147483647) ∧ Inv C S2))  : ∀ (f : Nat) (w4 : Int32) (w5 : Int32) (S : St), iv w4 (-1) (4095) → iv w5 (0) (4096) → Inv C S → (4096) - w5.toInt + 1 ≤ (f : Int) → Sf2 (fx3 (b_M_pedals_33 F G z1 z2 z3 k105)  f w4 w5 S) (fun r S2 => iv r (-2147483648) (2147483647) ∧ Inv C S2) := by
  intro f
  induction f with
  | zero => intro w4 w5 S h_w4 h_w5 hS_S hm; exact (ms_zu h_w5 hm).elim
  | succ f hrec =>
    intro w4 w5 S h_w4 h_w5 hS_S hm
    replace hm := ms_s hm
    show Sf2 (b_M_pedals_33 F G z1 z2 z3 k105 (fx3 (b_M_pedals_33 F G z1 z2 z3 k105)  f) w4 w5 S) _
    generalize fx3 (b_M_pedals_33 F G z1 z2 z3 k105)  f = rec at hrec ⊢
    unfold b_M_pedals_33
    refine sg_ite (fun c1 => ?_) (fun c1 => ?_)
    · have f2 : iv _ (1) (4096) := iv_leB c1 (iv_shl (u := 4096) (cell_78_46 hS_S) rfl) h_w5 rfl
      exact hk105 _ _ h_w4 hS_S
    · have f3 : iv _ (0) (4095) := iv_ltA (Int32.not_le.mp c1) h_w5 (iv_shl (u := 4096) (cell_78_46 hS_S) rfl) rfl
      refine sg_ite (fun c4 => ?_) (fun c4 => ?_)
      · have f5 : iv _ (-1) (-1) := iv_ltA c4 h_w4 kv_0 rfl
        exact s_j_M_pedals_65 hF hG h_z1 h_z2 h_z3 hS_S (iv_w (l := -1) (u := -1) f5 rfl) f3 hk105 hrec hm
      · have f6 : iv _ (0) (4095) := iv_leB (Int32.not_lt.mp c4) kv_0 h_w4 rfl
        refine sg_bd (s_fM_members hF hG hS_S f3) (fun v13 h_v13 => ?_)
        refine sg_bd (s_fM_members hF hG hS_S f6) (fun v15 h_v15 => ?_)
        refine sg_ite (fun c7 => ?_) (fun c7 => ?_)
        · have f8 : iv _ (-2147483648) (2147483646) := iv_ltA c7 (iv_top _) (iv_top _) rfl
          have f9 : iv _ (-2147483647) (2147483647) := iv_ltB c7 (iv_top _) (iv_top _) rfl
          exact s_j_M_pedals_65 hF hG h_z1 h_z2 h_z3 hS_S (iv_w (l := 0) (u := 4095) f6 rfl) f3 hk105 hrec hm
        · refine sg_ltI (iv_add (l := 1) (u := 4096) f3 kv_1 rfl) (fun v17 h_v17 e_v17 => ?_)
          exact hrec _ _ _ (iv_w (l := 0) (u := 4095) f6 rfl) (iv_w (l := 1) (u := 4096) h_v17 rfl) hS_S (ms_up e_v17 f3 rfl hm)
set_option maxRecDepth 100000 in
set_option maxHeartbeats 4000000 in
theorem s_fM_pedals {F G : Nat} (hF : 100000 ≤ F) (hG : 20 ≤ G) {C : St} {S : St} (hS_S : Inv C S) {p1 : Int32} : Sf2 (fM_pedals F G S p1) (fun r S2 => iv r (-2147483648) (2147483647) ∧ Inv C S2) := by
  unfold fM_pedals
  refine sg_bd (s_fM_isIn hF hG hS_S (iv_w (l := 0) (u := 0) kv_0 rfl) (iv_w (l := 1) (u := 1) kv_1 rfl)) (fun v2 h_v2 => ?_)
  obtain ⟨h_v2, k_v2⟩ := h_v2
  refine sg_ite (fun c1 => ?_) (fun c1 => ?_)
  · have f2 : iv _ (0) (0) := iv_eqA c1 kv_0
    exact sg_some (iv_top _) hS_S
  · have f3 : iv _ (0) (1) := isIn_iv kv_0 kv_1 k_v2 c1
    have f4 : iv _ (1) (1) := iv_neL c1 h_v2 kv_0 rfl
    refine sg_bd (s_fM_fill hF hG hS_S) (fun S5 hS_S5 => ?_)
    refine sg_bd (s_fM_given hF hG hS_S5 (iv_w (l := 1) (u := 1) kv_1 rfl)) (fun v7 h_v7 => ?_)
    refine sg_bd (s_fM_given hF hG hS_S5 (iv_w (l := 2) (u := 2) kv_2 rfl)) (fun v9 h_v9 => ?_)
    refine s_b_M_pedals_33 hF hG f3 h_v7 h_v9 ?_ F _ _ _ (iv_w (l := -1) (u := -1) kv_m1 rfl) (iv_w (l := 0) (u := 0) kv_0 rfl) hS_S5 (ms_iu kv_0 hF rfl)
    · intro v31 S32 h_v31 hS_S32
      refine sg_ite (fun c5 => ?_) (fun c5 => ?_)
      · have f6 : iv _ (0) (4095) := iv_leB c5 kv_0 h_v31 rfl
        refine sg_ite (fun c7 => ?_) (fun c7 => ?_)
        · have f8 : iv _ (0) (0) := iv_eqA c7 kv_0
          refine sg_bd (s_fM_members hF hG hS_S32 f6) (fun v36 h_v36 => ?_)
          exact sg_some (iv_top _) hS_S32
        · have f9 : iv _ (1) (1) := iv_neL c7 f3 kv_0 rfl
          exact sg_some (iv_top _) hS_S32
      · have f10 : iv _ (-1) (-1) := iv_ltA (Int32.not_le.mp c5) h_v31 kv_0 rfl
        exact sg_some (iv_top _) hS_S32
set_option maxRecDepth 100000 in
set_option maxHeartbeats 4000000 in
theorem s_fK_width {F G : Nat} (hF : 100000 ≤ F) (hG : 20 ≤ G) {C : St} {S : St} (hS_S : Inv C S) {p1 : Int32} : Sf (fK_width F G S p1) (fun r => iv r (-2147483648) (2147483647)) := by
  unfold fK_width
  refine sf_ite (fun c1 => ?_) (fun c1 => ?_)
  · have f2 : iv _ (0) (0) := iv_eqA c1 kv_0
    exact sf_some (iv_top _)
  · refine sf_bd (s_fK_highest hF hG hS_S) (fun v3 h_v3 => ?_)
    refine sf_bd (s_fK_lowest hF hG hS_S) (fun v5 h_v5 => ?_)
    exact sf_some (iv_top _)
set_option maxRecDepth 100000 in
set_option maxHeartbeats 4000000 in
theorem s_b_N_spread_17 {F G : Nat} (hF : 100000 ≤ F) (hG : 20 ≤ G) {C : St} {S : St} (hS_S : Inv C S) {z1 : Int32} (h_z1 : iv z1 (1) (2))  : ∀ (f : Nat) (w2 : Int32) (w3 : Int32), iv w3 (0) (12) → (12) - w3.toInt + 1 ≤ (f : Int) → Sf2 (fx2 (b_N_spread_17 F G S z1)  f w2 w3) (fun r S2 => iv r (-2147483648) (2147483647) ∧ Inv C S2) := by
  intro f
  induction f with
  | zero => intro w2 w3 h_w3 hm; exact (ms_zu h_w3 hm).elim
  | succ f hrec =>
    intro w2 w3 h_w3 hm
    replace hm := ms_s hm
    show Sf2 (b_N_spread_17 F G S z1 (fx2 (b_N_spread_17 F G S z1)  f) w2 w3) _
    generalize fx2 (b_N_spread_17 F G S z1)  f = rec at hrec ⊢
    unfold b_N_spread_17
    refine sg_gd (sco hS_S hS_S.told) ?_
    refine sg_ite (fun c1 => ?_) (fun c1 => ?_)
    · have f2 : iv _ (1) (12) := iv_leB c1 (sco_0 hS_S hS_S.told) h_w3 rfl
      exact sg_some (iv_top _) hS_S
    · have f3 : iv _ (0) (11) := iv_ltA (Int32.not_le.mp c1) h_w3 (sco_0 hS_S hS_S.told) rfl
      refine sg_bd (s_fK_heldBy hF hG hS_S h_z1 f3) (fun v9 h_v9 => ?_)
      refine sg_bd (s_fK_width hF hG hS_S) (fun v11 h_v11 => ?_)
      refine sg_ltI (iv_top _) (fun v12 h_v12 e_v12 => ?_)
      refine sg_ltI (iv_add (l := 1) (u := 12) f3 kv_1 rfl) (fun v14 h_v14 e_v14 => ?_)
      exact hrec _ _ (iv_w (l := 1) (u := 12) h_v14 rfl) (ms_up e_v14 f3 rfl hm)
set_option maxRecDepth 100000 in
set_option maxHeartbeats 4000000 in
theorem s_fN_spread {F G : Nat} (hF : 100000 ≤ F) (hG : 20 ≤ G) {C : St} {S : St} (hS_S : Inv C S) {p1 : Int32} : Sf2 (fN_spread F G S p1) (fun r S2 => iv r (-2147483648) (2147483647) ∧ Inv C S2) := by
  unfold fN_spread
  refine sg_bd (s_fN_isHand hF hG hS_S) (fun v2 h_v2 => ?_)
  obtain ⟨h_v2, k_v2⟩ := h_v2
  refine sg_ite (fun c1 => ?_) (fun c1 => ?_)
  · have f2 : iv _ (0) (0) := iv_eqA c1 kv_0
    exact sg_some (iv_top _) hS_S
  · have f3 : iv _ (1) (2) := k_v2 c1
    have f4 : iv _ (1) (1) := iv_neL c1 h_v2 kv_0 rfl
    refine sg_bd (s_fN_lookAtKeys hF hG hS_S) (fun S5 hS_S5 => ?_)
    exact s_b_N_spread_17 hF hG hS_S5 f3 F _ _ (iv_w (l := 0) (u := 0) kv_0 rfl) (ms_iu kv_0 hF rfl)
set_option maxRecDepth 100000 in
set_option maxHeartbeats 4000000 in
theorem s_fM_greater {F G : Nat} (hF : 100000 ≤ F) (hG : 20 ≤ G) {C : St} {S : St} (hS_S : Inv C S) {p1 : Int32} {p2 : Int32} : Sf (fM_greater F G S p1 p2) (fun r => iv r (-2147483648) (2147483647)) := by
  unfold fM_greater
  refine sf_ite (fun c1 => ?_) (fun c1 => ?_)
  · exact sf_some (iv_top _)
  · have f2 : iv _ (-2147483648) (2147483646) := iv_ltA (Int32.not_le.mp c1) (iv_top _) (iv_top _) rfl
    have f3 : iv _ (-2147483647) (2147483647) := iv_ltB (Int32.not_le.mp c1) (iv_top _) (iv_top _) rfl
    exact sf_some (iv_top _)
set_option maxRecDepth 100000 in
set_option maxHeartbeats 4000000 in
theorem s_b_M_spread_17 {F G : Nat} (hF : 100000 ≤ F) (hG : 20 ≤ G) {C : St} {S : St} (hS_S : Inv C S) {z1 : Int32} (h_z1 : iv z1 (1) (2))  : ∀ (f : Nat) (w2 : Int32) (w3 : Int32), iv w3 (0) (12) → (12) - w3.toInt + 1 ≤ (f : Int) → Sf2 (fx2 (b_M_spread_17 F G S z1)  f w2 w3) (fun r S2 => iv r (-2147483648) (2147483647) ∧ Inv C S2) := by
  intro f
  induction f with
  | zero => intro w2 w3 h_w3 hm; exact (ms_zu h_w3 hm).elim
  | succ f hrec =>
    intro w2 w3 h_w3 hm
    replace hm := ms_s hm
    show Sf2 (b_M_spread_17 F G S z1 (fx2 (b_M_spread_17 F G S z1)  f) w2 w3) _
    generalize fx2 (b_M_spread_17 F G S z1)  f = rec at hrec ⊢
    unfold b_M_spread_17
    refine sg_ite (fun c1 => ?_) (fun c1 => ?_)
    · have f2 : iv _ (1) (12) := iv_leB c1 (cell_78_46 hS_S) h_w3 rfl
      exact sg_some (iv_top _) hS_S
    · have f3 : iv _ (0) (11) := iv_ltA (Int32.not_le.mp c1) h_w3 (cell_78_46 hS_S) rfl
      refine sg_bd (s_fM_given hF hG hS_S (iv_w (l := 1) (u := 2) h_z1 rfl)) (fun v8 h_v8 => ?_)
      refine sg_gd (inB_iv f3 rfl) ?_
      refine sg_ltI (iv_andL (u := 1023) h_v8 rfl) (fun v10 h_v10 e_v10 => ?_)
      refine sg_ite (fun c4 => ?_) (fun c4 => ?_)
      · have f5 : iv _ (0) (0) := iv_eqA c4 kv_0
        refine sg_ltI (iv_add (l := 1) (u := 12) f3 kv_1 rfl) (fun v13 h_v13 e_v13 => ?_)
        exact hrec _ _ (iv_w (l := 1) (u := 12) h_v13 rfl) (ms_up e_v13 f3 rfl hm)
      · have f6 : iv _ (1) (1023) := iv_neL c4 h_v10 kv_0 rfl
        refine sg_bd (s_fM_highest hF hG hS_S f6) (fun v16 h_v16 => ?_)
        refine sg_bd (s_fM_lowest hF hG hS_S f6) (fun v18 h_v18 => ?_)
        refine sg_bd (s_fM_greater hF hG hS_S) (fun v20 h_v20 => ?_)
        refine sg_ltI (iv_add (l := 1) (u := 12) f3 kv_1 rfl) (fun v21 h_v21 e_v21 => ?_)
        exact hrec _ _ (iv_w (l := 1) (u := 12) h_v21 rfl) (ms_up e_v21 f3 rfl hm)
set_option maxRecDepth 100000 in
set_option maxHeartbeats 4000000 in
theorem s_fM_spread {F G : Nat} (hF : 100000 ≤ F) (hG : 20 ≤ G) {C : St} {S : St} (hS_S : Inv C S) {p1 : Int32} : Sf2 (fM_spread F G S p1) (fun r S2 => iv r (-2147483648) (2147483647) ∧ Inv C S2) := by
  unfold fM_spread
  refine sg_bd (s_fM_isHand hF hG hS_S) (fun v2 h_v2 => ?_)
  obtain ⟨h_v2, k_v2⟩ := h_v2
  refine sg_ite (fun c1 => ?_) (fun c1 => ?_)
  · have f2 : iv _ (0) (0) := iv_eqA c1 kv_0
    exact sg_some (iv_top _) hS_S
  · have f3 : iv _ (1) (2) := k_v2 c1
    have f4 : iv _ (1) (1) := iv_neL c1 h_v2 kv_0 rfl
    refine sg_bd (s_fM_fill hF hG hS_S) (fun S5 hS_S5 => ?_)
    exact s_b_M_spread_17 hF hG hS_S5 f3 F _ _ (iv_w (l := 0) (u := 0) kv_0 rfl) (ms_iu kv_0 hF rfl)
set_option maxRecDepth 100000 in
set_option maxHeartbeats 4000000 in
theorem s_b_N_leaps_17 {F G : Nat} (hF : 100000 ≤ F) (hG : 20 ≤ G) {C : St} {S : St} (hS_S : Inv C S) {z1 : Int32} (h_z1 : iv z1 (1) (2))  : ∀ (f : Nat) (w2 : Int32) (w3 : Int32), iv w3 (1) (12) → (12) - w3.toInt + 1 ≤ (f : Int) → Sf2 (fx2 (b_N_leaps_17 F G S z1)  f w2 w3) (fun r S2 => iv r (-2147483648) (2147483647) ∧ Inv C S2) := by
  intro f
  induction f with
  | zero => intro w2 w3 h_w3 hm; exact (ms_zu h_w3 hm).elim
  | succ f hrec =>
    intro w2 w3 h_w3 hm
    replace hm := ms_s hm
    show Sf2 (b_N_leaps_17 F G S z1 (fx2 (b_N_leaps_17 F G S z1)  f) w2 w3) _
    generalize fx2 (b_N_leaps_17 F G S z1)  f = rec at hrec ⊢
    unfold b_N_leaps_17
    refine sg_gd (sco hS_S hS_S.told) ?_
    refine sg_ite (fun c1 => ?_) (fun c1 => ?_)
    · exact sg_some (iv_top _) hS_S
    · have f2 : iv _ (1) (11) := iv_ltA (Int32.not_le.mp c1) h_w3 (sco_0 hS_S hS_S.told) rfl
      have f3 : iv _ (2) (12) := iv_ltB (Int32.not_le.mp c1) h_w3 (sco_0 hS_S hS_S.told) rfl
      refine sg_bd (s_fK_heldBy hF hG hS_S h_z1 (iv_w (l := 0) (u := 10) (iv_sub (l := 0) (u := 10) f2 kv_1 rfl) rfl)) (fun v9 h_v9 => ?_)
      refine sg_bd (s_fK_heldBy hF hG hS_S h_z1 (iv_w (l := 1) (u := 11) f2 rfl)) (fun v11 h_v11 => ?_)
      refine sg_bd (s_fK_leapBetween hF hG hS_S) (fun v13 h_v13 => ?_)
      refine sg_ltI (iv_top _) (fun v14 h_v14 e_v14 => ?_)
      refine sg_ltI (iv_add (l := 2) (u := 12) f2 kv_1 rfl) (fun v16 h_v16 e_v16 => ?_)
      exact hrec _ _ (iv_w (l := 2) (u := 12) h_v16 rfl) (ms_up e_v16 f2 rfl hm)
