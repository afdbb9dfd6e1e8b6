/-! SAFETY of the questions -/
set_option maxRecDepth 100000 in
set_option maxHeartbeats 4000000 in
theorem s_fM_held {F G : Nat} (hF : 100000 ≤ F) (hG : 20 ≤ G) {C : St} {S : St} (hS_S : Inv C S) {p1 : Int32} {p2 : Int32} : Sf2 (fM_held F G S p1 p2) (fun r S2 => iv r (-1) (1023) ∧ Inv C S2) := by
  unfold fM_held
  refine sg_bd (s_fM_fill hF hG hS_S) (fun S2 hS_S2 => ?_)
  refine sg_bd (s_fM_isBeat hF hG hS_S2) (fun v4 h_v4 => ?_)
  obtain ⟨h_v4, k_v4⟩ := h_v4
  refine sg_ite (fun c1 => ?_) (fun c1 => ?_)
  · have f2 : iv _ (0) (0) := iv_eqA c1 kv_0
    exact sg_some (iv_w (l := -1) (u := -1) kv_m1 rfl) hS_S2
  · have f3 : iv _ (0) (11) := k_v4 c1
    have f4 : iv _ (1) (1) := iv_neL c1 h_v4 kv_0 rfl
    refine sg_bd (s_fM_isHand hF hG hS_S2) (fun v7 h_v7 => ?_)
    obtain ⟨h_v7, k_v7⟩ := h_v7
    refine sg_ite (fun c5 => ?_) (fun c5 => ?_)
    · have f6 : iv _ (0) (0) := iv_eqA c5 kv_0
      exact sg_some (iv_w (l := -1) (u := -1) kv_m1 rfl) hS_S2
    · have f7 : iv _ (1) (2) := k_v7 c5
      have f8 : iv _ (1) (1) := iv_neL c5 h_v7 kv_0 rfl
      refine sg_bd (s_fM_given hF hG hS_S2 (iv_w (l := 1) (u := 2) f7 rfl)) (fun v10 h_v10 => ?_)
      refine sg_gd (inB_iv f3 rfl) ?_
      exact sg_some (iv_w (l := 0) (u := 1023) (iv_andL (u := 1023) h_v10 rfl) rfl) hS_S2
set_option maxRecDepth 100000 in
set_option maxHeartbeats 4000000 in
theorem s_b_K_soundingAt_4 {F G : Nat} (hF : 100000 ≤ F) (hG : 20 ≤ G) {C : St} {S : St} (hS_S : Inv C S) {z1 : Int32}  : ∀ (f : Nat) (w2 : Int32) (w3 : Int32), iv w3 (0) (12) → (12) - w3.toInt + 1 ≤ (f : Int) → Sf (fx2 (b_K_soundingAt_4 F G S z1)  f w2 w3) (fun r => iv r (-2147483648) (2147483647)) := by
  intro f
  induction f with
  | zero => intro w2 w3 h_w3 hm; exact (ms_zu h_w3 hm).elim
  | succ f hrec =>
    intro w2 w3 h_w3 hm
    replace hm := ms_s hm
    show Sf (b_K_soundingAt_4 F G S z1 (fx2 (b_K_soundingAt_4 F G S z1)  f) w2 w3) _
    generalize fx2 (b_K_soundingAt_4 F G S z1)  f = rec at hrec ⊢
    unfold b_K_soundingAt_4
    refine sf_ite (fun c1 => ?_) (fun c1 => ?_)
    · have f2 : iv _ (-2147483648) (11) := iv_ltA c1 (iv_top _) h_w3 rfl
      exact sf_some (iv_top _)
    · have f3 : iv _ (0) (2147483647) := iv_leB (Int32.not_lt.mp c1) h_w3 (iv_top _) rfl
      refine sf_ite (fun c4 => ?_) (fun c4 => ?_)
      · exact sf_some (iv_top _)
      · have f5 : iv _ (0) (11) := iv_ltA (Int32.not_le.mp c4) h_w3 (cell_57_0 hS_S) rfl
        have f6 : iv _ (1) (12) := iv_ltB (Int32.not_le.mp c4) h_w3 (cell_57_0 hS_S) rfl
        refine sf_bd (s_fK_timelyAt hF hG hS_S (iv_w (l := 0) (u := 11) f5 rfl)) (fun v4 h_v4 => ?_)
        refine sf_bd (s_fK_hasPedal hF hG hS_S f5) (fun v6 h_v6 => ?_)
        refine sf_ite (fun c7 => ?_) (fun c7 => ?_)
        · have f8 : iv _ (0) (0) := iv_eqA c7 kv_0
          refine sf_ltI (iv_top _) (fun v8 h_v8 e_v8 => ?_)
          refine sf_ltI (iv_add (l := 1) (u := 12) f5 kv_1 rfl) (fun v10 h_v10 e_v10 => ?_)
          exact hrec _ _ (iv_w (l := 1) (u := 12) h_v10 rfl) (ms_up e_v10 f5 rfl hm)
        · have f9 : iv _ (1) (1) := iv_neL c7 h_v6 kv_0 rfl
          refine sf_ltI (iv_top _) (fun v12 h_v12 e_v12 => ?_)
          refine sf_ltI (iv_add (l := 1) (u := 12) f5 kv_1 rfl) (fun v14 h_v14 e_v14 => ?_)
          exact hrec _ _ (iv_w (l := 1) (u := 12) h_v14 rfl) (ms_up e_v14 f5 rfl hm)
set_option maxRecDepth 100000 in
set_option maxHeartbeats 4000000 in
theorem s_fK_soundingAt {F G : Nat} (hF : 100000 ≤ F) (hG : 20 ≤ G) {C : St} {S : St} (hS_S : Inv C S) {p1 : Int32} : Sf (fK_soundingAt F G S p1) (fun r => iv r (-2147483648) (2147483647)) := by
  unfold fK_soundingAt
  exact s_b_K_soundingAt_4 hF hG hS_S F _ _ (iv_w (l := 0) (u := 0) kv_0 rfl) (ms_iu kv_0 hF rfl)
set_option maxRecDepth 100000 in
set_option maxHeartbeats 4000000 in
theorem s_fN_sounds {F G : Nat} (hF : 100000 ≤ F) (hG : 20 ≤ G) {C : St} {S : St} (hS_S : Inv C S) {p1 : Int32} : Sf2 (fN_sounds F G S p1) (fun r S2 => iv r (-2147483648) (2147483647) ∧ Inv C S2) := by
  unfold fN_sounds
  refine sg_bd (s_fN_isBeat hF hG hS_S) (fun v2 h_v2 => ?_)
  obtain ⟨h_v2, k_v2⟩ := h_v2
  refine sg_ite (fun c1 => ?_) (fun c1 => ?_)
  · have f2 : iv _ (0) (0) := iv_eqA c1 kv_0
    exact sg_some (iv_top _) hS_S
  · have f3 : iv _ (0) (11) := k_v2 c1
    have f4 : iv _ (1) (1) := iv_neL c1 h_v2 kv_0 rfl
    refine sg_bd (s_fN_lookAtKeys hF hG hS_S) (fun S5 hS_S5 => ?_)
    refine sg_bd (s_fK_soundingAt hF hG hS_S5) (fun v7 h_v7 => ?_)
    exact sg_some (iv_top _) hS_S5
set_option maxRecDepth 100000 in
set_option maxHeartbeats 4000000 in
theorem s_b_M_laySound_14 {F G : Nat} (hF : 100000 ≤ F) (hG : 20 ≤ G) {C : St} {z1 : Int32} (h_z1 : iv z1 (0) (1023))  : ∀ (f : Nat) (w2 : Int32) (S : St), iv w2 (0) (12) → Inv C S → (12) - w2.toInt + 1 ≤ (f : Int) → Sf (fx2 (b_M_laySound_14 F G z1)  f w2 S) (fun r => Inv C r) := by
  intro f
  induction f with
  | zero => intro w2 S h_w2 hS_S hm; exact (ms_zu h_w2 hm).elim
  | succ f hrec =>
    intro w2 S h_w2 hS_S hm
    replace hm := ms_s hm
    show Sf (b_M_laySound_14 F G z1 (fx2 (b_M_laySound_14 F G z1)  f) w2 S) _
    generalize fx2 (b_M_laySound_14 F G z1)  f = rec at hrec ⊢
    unfold b_M_laySound_14
    refine sf_ite (fun c1 => ?_) (fun c1 => ?_)
    · have f2 : iv _ (1) (12) := iv_leB c1 (cell_78_46 hS_S) h_w2 rfl
      exact sf_some hS_S
    · have f3 : iv _ (0) (11) := iv_ltA (Int32.not_le.mp c1) h_w2 (cell_78_46 hS_S) rfl
      refine sf_gd (inB_iv f3 rfl) ?_
      refine sf_gd (inB_iv f3 rfl) ?_
      refine sf_ltS0 (str_103 hS_S _ (iv_top _)) (fun S10 hS_S10 => ?_)
      refine sf_ite (fun c4 => ?_) (fun c4 => ?_)
      · have f5 : iv _ (0) (0) := iv_leA c4 f3 kv_0 rfl
        refine sf_ltI (iv_add (l := 1) (u := 1) f5 kv_1 rfl) (fun v13 h_v13 e_v13 => ?_)
        exact hrec _ _ (iv_w (l := 1) (u := 1) h_v13 rfl) hS_S10 (ms_up e_v13 f5 rfl hm)
      · have f6 : iv _ (1) (11) := iv_ltB (Int32.not_le.mp c4) kv_0 f3 rfl
        refine sf_gd (inB_iv kv_40 rfl) ?_
        refine sf_ite (fun c7 => ?_) (fun c7 => ?_)
        · have f8 : iv _ (1) (1) := iv_eqA c7 kv_1
          refine sf_gd (inB_iv f6 rfl) ?_
          refine sf_gd (inB_iv (iv_sub (l := 0) (u := 10) f6 kv_1 rfl) rfl) ?_
          refine sf_gd (inB_iv f6 rfl) ?_
          refine sf_ltS0 (str_103 hS_S10 _ (iv_top _)) (fun S22 hS_S22 => ?_)
          refine sf_ltI (iv_add (l := 2) (u := 12) f6 kv_1 rfl) (fun v24 h_v24 e_v24 => ?_)
          exact hrec _ _ (iv_w (l := 2) (u := 12) h_v24 rfl) hS_S22 (ms_up e_v24 f6 rfl hm)
        · have f9 : iv _ (0) (0) := iv_neU c7 (iv_andR (u := 1) kv_1 rfl) kv_1 rfl
          refine sf_ltI (iv_add (l := 2) (u := 12) f6 kv_1 rfl) (fun v17 h_v17 e_v17 => ?_)
          exact hrec _ _ (iv_w (l := 2) (u := 12) h_v17 rfl) hS_S10 (ms_up e_v17 f6 rfl hm)
set_option maxRecDepth 100000 in
set_option maxHeartbeats 4000000 in
theorem s_fM_laySound {F G : Nat} (hF : 100000 ≤ F) (hG : 20 ≤ G) {C : St} {S : St} (hS_S : Inv C S) : Sf (fM_laySound F G S) (fun r => Inv C r) := by
  unfold fM_laySound
  refine sf_bd (s_fM_given hF hG hS_S (iv_w (l := 1) (u := 1) kv_1 rfl)) (fun v2 h_v2 => ?_)
  refine sf_bd (s_fM_given hF hG hS_S (iv_w (l := 2) (u := 2) kv_2 rfl)) (fun v4 h_v4 => ?_)
  refine sf_ltI (iv_or (n := 10) (u := 1023) h_v2 h_v4 rfl) (fun v5 h_v5 e_v5 => ?_)
  exact s_b_M_laySound_14 hF hG h_v5 F _ _ (iv_w (l := 0) (u := 0) kv_0 rfl) hS_S (ms_iu kv_0 hF rfl)
set_option maxRecDepth 100000 in
set_option maxHeartbeats 4000000 in
theorem s_fM_sounds {F G : Nat} (hF : 100000 ≤ F) (hG : 20 ≤ G) {C : St} {S : St} (hS_S : Inv C S) {p1 : Int32} : Sf2 (fM_sounds F G S p1) (fun r S2 => iv r (-2147483648) (2147483647) ∧ Inv C S2) := by
  unfold fM_sounds
  refine sg_bd (s_fM_isBeat hF hG hS_S) (fun v2 h_v2 => ?_)
  obtain ⟨h_v2, k_v2⟩ := h_v2
  refine sg_ite (fun c1 => ?_) (fun c1 => ?_)
  · have f2 : iv _ (0) (0) := iv_eqA c1 kv_0
    exact sg_some (iv_top _) hS_S
  · have f3 : iv _ (0) (11) := k_v2 c1
    have f4 : iv _ (1) (1) := iv_neL c1 h_v2 kv_0 rfl
    refine sg_bd (s_fM_fill hF hG hS_S) (fun S5 hS_S5 => ?_)
    refine sg_bd (s_fM_laySound hF hG hS_S5) (fun S7 hS_S7 => ?_)
    refine sg_gd (inB_iv f3 rfl) ?_
    exact sg_some (iv_top _) hS_S7
set_option maxRecDepth 100000 in
set_option maxHeartbeats 4000000 in
theorem s_b_K_lowest_5 {F G : Nat} (hF : 100000 ≤ F) (hG : 20 ≤ G) {C : St} {S : St} (hS_S : Inv C S) {z1 : Int32}  : ∀ (f : Nat) (w2 : Int32) (w3 : Int32), iv w2 (-2147483648) (87) → iv w3 (0) (10) → (10) - w3.toInt + 1 ≤ (f : Int) → Sf (fx2 (b_K_lowest_5 F G S z1)  f w2 w3) (fun r => iv r (-2147483648) (87)) := by
  intro f
  induction f with
  | zero => intro w2 w3 h_w2 h_w3 hm; exact (ms_zu h_w3 hm).elim
  | succ f hrec =>
    intro w2 w3 h_w2 h_w3 hm
    replace hm := ms_s hm
    show Sf (b_K_lowest_5 F G S z1 (fx2 (b_K_lowest_5 F G S z1)  f) w2 w3) _
    generalize fx2 (b_K_lowest_5 F G S z1)  f = rec at hrec ⊢
    unfold b_K_lowest_5
    refine sf_ite (fun c1 => ?_) (fun c1 => ?_)
    · exact sf_some h_w2
    · have f2 : iv _ (0) (9) := iv_ltA (Int32.not_le.mp c1) h_w3 (cell_57_1 hS_S) rfl
      have f3 : iv _ (1) (10) := iv_ltB (Int32.not_le.mp c1) h_w3 (cell_57_1 hS_S) rfl
      refine sf_ite (fun c4 => ?_) (fun c4 => ?_)
      · have f5 : iv _ (0) (0) := iv_eqA c4 kv_0
        refine sf_ltI (iv_add (l := 1) (u := 10) f2 kv_1 rfl) (fun v3 h_v3 e_v3 => ?_)
        exact hrec _ _ h_w2 (iv_w (l := 1) (u := 10) h_v3 rfl) (ms_up e_v3 f2 rfl hm)
      · have f6 : iv _ (1) (1) := iv_neL c4 (iv_andR (u := 1) kv_1 rfl) kv_0 rfl
        refine sf_gd (inB_iv f2 rfl) ?_
        refine sf_ite (fun c7 => ?_) (fun c7 => ?_)
        · refine sf_ltI (iv_add (l := 1) (u := 10) f2 kv_1 rfl) (fun v7 h_v7 e_v7 => ?_)
          exact hrec _ _ h_w2 (iv_w (l := 1) (u := 10) h_v7 rfl) (ms_up e_v7 f2 rfl hm)
        · have f8 : iv _ (-2147483648) (86) := iv_ltA (Int32.not_le.mp c7) (iv_top _) h_w2 rfl
          have f9 : iv _ (-2147483647) (87) := iv_ltB (Int32.not_le.mp c7) (iv_top _) h_w2 rfl
          refine sf_gd (inB_iv f2 rfl) ?_
          refine sf_ltI f8 (fun v10 h_v10 e_v10 => ?_)
          refine sf_ltI (iv_add (l := 1) (u := 10) f2 kv_1 rfl) (fun v12 h_v12 e_v12 => ?_)
          exact hrec _ _ (iv_w (l := -2147483648) (u := 86) h_v10 rfl) (iv_w (l := 1) (u := 10) h_v12 rfl) (ms_up e_v12 f2 rfl hm)
set_option maxRecDepth 100000 in
set_option maxHeartbeats 4000000 in
theorem s_fK_lowest {F G : Nat} (hF : 100000 ≤ F) (hG : 20 ≤ G) {C : St} {S : St} (hS_S : Inv C S) {p1 : Int32} : Sf (fK_lowest F G S p1) (fun r => iv r (-2147483648) (87)) := by
  unfold fK_lowest
  exact s_b_K_lowest_5 hF hG hS_S F _ _ (iv_w (l := 87) (u := 87) kv_87 rfl) (iv_w (l := 0) (u := 0) kv_0 rfl) (ms_iu kv_0 hF rfl)
set_option maxRecDepth 100000 in
set_option maxHeartbeats 4000000 in
theorem s_b_K_highest_4 {F G : Nat} (hF : 100000 ≤ F) (hG : 20 ≤ G) {C : St} {S : St} (hS_S : Inv C S) {z1 : Int32}  : ∀ (f : Nat) (w2 : Int32) (w3 : Int32), iv w2 (0) (2147483647) → iv w3 (0) (10) → (10) - w3.toInt + 1 ≤ (f : Int) → Sf (fx2 (b_K_highest_4 F G S z1)  f w2 w3) (fun r => iv r (0) (2147483647)) := by
  intro f
  induction f with
  | zero => intro w2 w3 h_w2 h_w3 hm; exact (ms_zu h_w3 hm).elim
  | succ f hrec =>
    intro w2 w3 h_w2 h_w3 hm
    replace hm := ms_s hm
    show Sf (b_K_highest_4 F G S z1 (fx2 (b_K_highest_4 F G S z1)  f) w2 w3) _
    generalize fx2 (b_K_highest_4 F G S z1)  f = rec at hrec ⊢
    unfold b_K_highest_4
    refine sf_ite (fun c1 => ?_) (fun c1 => ?_)
    · exact sf_some h_w2
    · have f2 : iv _ (0) (9) := iv_ltA (Int32.not_le.mp c1) h_w3 (cell_57_1 hS_S) rfl
      have f3 : iv _ (1) (10) := iv_ltB (Int32.not_le.mp c1) h_w3 (cell_57_1 hS_S) rfl
      refine sf_ite (fun c4 => ?_) (fun c4 => ?_)
      · have f5 : iv _ (0) (0) := iv_eqA c4 kv_0
        refine sf_ltI (iv_add (l := 1) (u := 10) f2 kv_1 rfl) (fun v3 h_v3 e_v3 => ?_)
        exact hrec _ _ h_w2 (iv_w (l := 1) (u := 10) h_v3 rfl) (ms_up e_v3 f2 rfl hm)
      · have f6 : iv _ (1) (1) := iv_neL c4 (iv_andR (u := 1) kv_1 rfl) kv_0 rfl
        refine sf_gd (inB_iv f2 rfl) ?_
        refine sf_ite (fun c7 => ?_) (fun c7 => ?_)
        · refine sf_ltI (iv_add (l := 1) (u := 10) f2 kv_1 rfl) (fun v7 h_v7 e_v7 => ?_)
          exact hrec _ _ h_w2 (iv_w (l := 1) (u := 10) h_v7 rfl) (ms_up e_v7 f2 rfl hm)
        · have f8 : iv _ (0) (2147483646) := iv_ltA (Int32.not_le.mp c7) h_w2 (iv_top _) rfl
          have f9 : iv _ (1) (2147483647) := iv_ltB (Int32.not_le.mp c7) h_w2 (iv_top _) rfl
          refine sf_gd (inB_iv f2 rfl) ?_
          refine sf_ltI f9 (fun v10 h_v10 e_v10 => ?_)
          refine sf_ltI (iv_add (l := 1) (u := 10) f2 kv_1 rfl) (fun v12 h_v12 e_v12 => ?_)
          exact hrec _ _ (iv_w (l := 1) (u := 2147483647) h_v10 rfl) (iv_w (l := 1) (u := 10) h_v12 rfl) (ms_up e_v12 f2 rfl hm)
set_option maxRecDepth 100000 in
set_option maxHeartbeats 4000000 in
theorem s_fK_highest {F G : Nat} (hF : 100000 ≤ F) (hG : 20 ≤ G) {C : St} {S : St} (hS_S : Inv C S) {p1 : Int32} : Sf (fK_highest F G S p1) (fun r => iv r (0) (2147483647)) := by
  unfold fK_highest
  exact s_b_K_highest_4 hF hG hS_S F _ _ (iv_w (l := 0) (u := 0) kv_0 rfl) (iv_w (l := 0) (u := 0) kv_0 rfl) (ms_iu kv_0 hF rfl)
set_option maxRecDepth 100000 in
set_option maxHeartbeats 4000000 in
theorem s_j_K_clashesOfHand_80 {F G : Nat} (hF : 100000 ≤ F) (hG : 20 ≤ G) {C : St} {S : St} (hS_S : Inv C S) {y4 : Int32} (h_y4 : iv y4 (0) (3)) {s0 : Int32} (h_s0 : iv s0 (0) (1)) : Sf (j_K_clashesOfHand_80 F G S y4 s0) (fun r => iv r (0) (31)) := by
  unfold j_K_clashesOfHand_80
  refine sf_ite (fun c1 => ?_) (fun c1 => ?_)
  · have f2 : iv _ (0) (0) := iv_eqA c1 kv_0
    exact sf_some (iv_w (l := 0) (u := 3) h_y4 rfl)
  · have f3 : iv _ (1) (1) := iv_neL c1 h_s0 kv_0 rfl
    exact sf_some (iv_or (n := 5) (u := 31) h_y4 kv_16 rfl)
set_option maxRecDepth 100000 in
set_option maxHeartbeats 4000000 in
theorem s_j_K_clashesOfHand_79 {F G : Nat} (hF : 100000 ≤ F) (hG : 20 ≤ G) {C : St} {S : St} (hS_S : Inv C S) {y4 : Int32} (h_y4 : iv y4 (0) (3)) : Sf (j_K_clashesOfHand_79 F G S y4) (fun r => iv r (0) (31)) := by
  unfold j_K_clashesOfHand_79
  exact s_j_K_clashesOfHand_80 hF hG hS_S h_y4 (iv_w (l := 0) (u := 0) kv_0 rfl)
set_option maxRecDepth 100000 in
set_option maxHeartbeats 4000000 in
theorem s_j_K_clashesOfHand_51 {F G : Nat} (hF : 100000 ≤ F) (hG : 20 ≤ G) {C : St} {S : St} (hS_S : Inv C S) {y1 : Int32} {y3 : Int32} (h_y3 : iv y3 (-2147483648) (87)) {s0 : Int32} (h_s0 : iv s0 (0) (1)) {s1 : Int32} (h_s1 : iv s1 (0) (2)) : Sf (j_K_clashesOfHand_51 F G S y1 y3 s0 s1) (fun r => iv r (0) (31)) := by
  unfold j_K_clashesOfHand_51
  refine sf_ltI (iv_or (n := 2) (u := 3) h_s0 h_s1 rfl) (fun v10 h_v10 e_v10 => ?_)
  refine sf_ite (fun c1 => ?_) (fun c1 => ?_)
  · have f2 : iv _ (0) (0) := iv_eqA c1 kv_0
    exact s_j_K_clashesOfHand_79 hF hG hS_S h_v10
  · refine sf_bd (s_fK_lowest hF hG hS_S) (fun v14 h_v14 => ?_)
    refine sf_ite (fun c3 => ?_) (fun c3 => ?_)
    · exact s_j_K_clashesOfHand_79 hF hG hS_S h_v10
    · have f4 : iv _ (-2147483648) (2147483646) := iv_ltA (Int32.not_le.mp c3) (iv_top _) (iv_top _) rfl
      have f5 : iv _ (-2147483647) (2147483647) := iv_ltB (Int32.not_le.mp c3) (iv_top _) (iv_top _) rfl
      exact s_j_K_clashesOfHand_80 hF hG hS_S h_v10 (iv_w (l := 1) (u := 1) kv_1 rfl)
set_option maxRecDepth 100000 in
set_option maxHeartbeats 4000000 in
theorem s_j_K_clashesOfHand_28 {F G : Nat} (hF : 100000 ≤ F) (hG : 20 ≤ G) {C : St} {S : St} (hS_S : Inv C S) {y1 : Int32} {y2 : Int32} {y3 : Int32} (h_y3 : iv y3 (-2147483648) (87)) {s0 : Int32} (h_s0 : iv s0 (0) (1)) : Sf (j_K_clashesOfHand_28 F G S y1 y2 y3 s0) (fun r => iv r (0) (31)) := by
  unfold j_K_clashesOfHand_28
  refine sf_bd (s_fK_highest hF hG hS_S) (fun v8 h_v8 => ?_)
  refine sf_ite (fun c1 => ?_) (fun c1 => ?_)
  · exact s_j_K_clashesOfHand_51 hF hG hS_S h_y3 h_s0 (iv_w (l := 0) (u := 0) kv_0 rfl)
  · have f2 : iv _ (-2147483648) (2147483646) := iv_ltA (Int32.not_le.mp c1) (iv_top _) (iv_top _) rfl
    have f3 : iv _ (-2147483647) (2147483647) := iv_ltB (Int32.not_le.mp c1) (iv_top _) (iv_top _) rfl
    exact s_j_K_clashesOfHand_51 hF hG hS_S h_y3 h_s0 (iv_w (l := 2) (u := 2) kv_2 rfl)
set_option maxRecDepth 100000 in
set_option maxHeartbeats 4000000 in
theorem s_fK_clashesOfHand {F G : Nat} (hF : 100000 ≤ F) (hG : 20 ≤ G) {C : St} {S : St} (hS_S : Inv C S) {p1 : Int32} {p2 : Int32} : Sf (fK_clashesOfHand F G S p1 p2) (fun r => iv r (0) (31)) := by
  unfold fK_clashesOfHand
  refine sf_ite (fun c1 => ?_) (fun c1 => ?_)
  · have f2 : iv _ (0) (0) := iv_eqA c1 kv_0
    exact sf_some (iv_w (l := 0) (u := 0) kv_0 rfl)
  · refine sf_bd (s_fK_lowest hF hG hS_S) (fun v3 h_v3 => ?_)
    refine sf_bd (s_fJ_bitCount hF hG hS_S) (fun v5 h_v5 => ?_)
    refine sf_ite (fun c3 => ?_) (fun c3 => ?_)
    · have f4 : iv _ (0) (2147483647) := iv_leB c3 h_v5 (iv_top _) rfl
      exact s_j_K_clashesOfHand_28 hF hG hS_S h_v3 (iv_w (l := 0) (u := 0) kv_0 rfl)
    · have f5 : iv _ (-2147483648) (62) := iv_ltA (Int32.not_le.mp c3) (iv_top _) h_v5 rfl
      exact s_j_K_clashesOfHand_28 hF hG hS_S h_v3 (iv_w (l := 1) (u := 1) kv_1 rfl)
set_option maxRecDepth 100000 in
set_option maxHeartbeats 4000000 in
theorem s_b_K_hasKeyTwice_27 {F G : Nat} (hF : 100000 ≤ F) (hG : 20 ≤ G) {C : St} {S : St} (hS_S : Inv C S) {z1 : Int32} {z2 : Int32} (h_z2 : iv z2 (1) (9)) {z3 : Int32} (h_z3 : iv z3 (0) (1)) {k70 : Option (Int32)} (hk70 : Sf (k70) (fun r => iv r (0) (1)))  : ∀ (f : Nat) (w4 : Int32), iv w4 (0) (9) → (9) - w4.toInt + 1 ≤ (f : Int) → Sf (fx1 (b_K_hasKeyTwice_27 F G S z1 z2 z3 k70)  f w4) (fun r => iv r (0) (1)) := by
  intro f
  induction f with
  | zero => intro w4 h_w4 hm; exact (ms_zu h_w4 hm).elim
  | succ f hrec =>
    intro w4 h_w4 hm
    replace hm := ms_s hm
    show Sf (b_K_hasKeyTwice_27 F G S z1 z2 z3 k70 (fx1 (b_K_hasKeyTwice_27 F G S z1 z2 z3 k70)  f) w4) _
    generalize fx1 (b_K_hasKeyTwice_27 F G S z1 z2 z3 k70)  f = rec at hrec ⊢
    unfold b_K_hasKeyTwice_27
    refine sf_ite (fun c1 => ?_) (fun c1 => ?_)
    · have f2 : iv _ (0) (0) := iv_eqA c1 kv_0
      exact hk70  
    · have f3 : iv _ (1) (1) := iv_neL c1 h_z3 kv_0 rfl
      refine sf_ite (fun c4 => ?_) (fun c4 => ?_)
      · have f5 : iv _ (1) (9) := iv_leB c4 h_z2 h_w4 rfl
        exact hk70  
      · have f6 : iv _ (0) (8) := iv_ltA (Int32.not_le.mp c4) h_w4 h_z2 rfl
        refine sf_ite (fun c7 => ?_) (fun c7 => ?_)
        · have f8 : iv _ (0) (0) := iv_eqA c7 kv_0
          refine sf_ltI (iv_add (l := 1) (u := 9) f6 kv_1 rfl) (fun v6 h_v6 e_v6 => ?_)
          exact hrec _ (iv_w (l := 1) (u := 9) h_v6 rfl) (ms_up e_v6 f6 rfl hm)
        · have f9 : iv _ (1) (1) := iv_neL c7 (iv_andR (u := 1) kv_1 rfl) kv_0 rfl
          refine sf_gd (inB_iv h_z2 rfl) ?_
          refine sf_gd (inB_iv f6 rfl) ?_
          refine sf_ite (fun c10 => ?_) (fun c10 => ?_)
          · exact sf_some (iv_w (l := 1) (u := 1) kv_1 rfl)
          · refine sf_ltI (iv_add (l := 1) (u := 9) f6 kv_1 rfl) (fun v11 h_v11 e_v11 => ?_)
            exact hrec _ (iv_w (l := 1) (u := 9) h_v11 rfl) (ms_up e_v11 f6 rfl hm)
set_option maxRecDepth 100000 in
set_option maxHeartbeats 4000000 in
theorem s_b_K_hasKeyTwice_2 {F G : Nat} (hF : 100000 ≤ F) (hG : 20 ≤ G) {C : St} {S : St} (hS_S : Inv C S) {z1 : Int32}  : ∀ (f : Nat) (w2 : Int32), iv w2 (1) (10) → (10) - w2.toInt + 1 ≤ (f : Int) → Sf (fx1 (b_K_hasKeyTwice_2 F G S z1)  f w2) (fun r => iv r (0) (1)) := by
  intro f
  induction f with
  | zero => intro w2 h_w2 hm; exact (ms_zu h_w2 hm).elim
  | succ f hrec =>
    intro w2 h_w2 hm
    replace hm := ms_s hm
    show Sf (b_K_hasKeyTwice_2 F G S z1 (fx1 (b_K_hasKeyTwice_2 F G S z1)  f) w2) _
    generalize fx1 (b_K_hasKeyTwice_2 F G S z1)  f = rec at hrec ⊢
    unfold b_K_hasKeyTwice_2
    refine sf_ite (fun c1 => ?_) (fun c1 => ?_)
    · exact sf_some (iv_w (l := 0) (u := 0) kv_0 rfl)
    · have f2 : iv _ (1) (9) := iv_ltA (Int32.not_le.mp c1) h_w2 (cell_57_1 hS_S) rfl
      have f3 : iv _ (2) (10) := iv_ltB (Int32.not_le.mp c1) h_w2 (cell_57_1 hS_S) rfl
      refine sf_ite (fun c4 => ?_) (fun c4 => ?_)
      · have f5 : iv _ (0) (0) := iv_eqA c4 kv_0
        refine s_b_K_hasKeyTwice_27 hF hG hS_S f2 (iv_w (l := 0) (u := 0) kv_0 rfl) ?_ F _ (iv_w (l := 0) (u := 0) kv_0 rfl) (ms_iu kv_0 hF rfl)
        · refine sf_ltI (iv_add (l := 2) (u := 10) f2 kv_1 rfl) (fun v13 h_v13 e_v13 => ?_)
          exact hrec _ (iv_w (l := 2) (u := 10) h_v13 rfl) (ms_up e_v13 f2 rfl hm)
      · have f6 : iv _ (1) (1) := iv_neL c4 (iv_andR (u := 1) kv_1 rfl) kv_0 rfl
        refine s_b_K_hasKeyTwice_27 hF hG hS_S f2 (iv_w (l := 1) (u := 1) kv_1 rfl) ?_ F _ (iv_w (l := 0) (u := 0) kv_0 rfl) (ms_iu kv_0 hF rfl)
        · refine sf_ltI (iv_add (l := 2) (u := 10) f2 kv_1 rfl) (fun v15 h_v15 e_v15 => ?_)
          exact hrec _ (iv_w (l := 2) (u := 10) h_v15 rfl) (ms_up e_v15 f2 rfl hm)
set_option maxRecDepth 100000 in
set_option maxHeartbeats 4000000 in
theorem s_fK_hasKeyTwice {F G : Nat} (hF : 100000 ≤ F) (hG : 20 ≤ G) {C : St} {S : St} (hS_S : Inv C S) {p1 : Int32} : Sf (fK_hasKeyTwice F G S p1) (fun r => iv r (0) (1)) := by
  unfold fK_hasKeyTwice
  exact s_b_K_hasKeyTwice_2 hF hG hS_S F _ (iv_w (l := 1) (u := 1) kv_1 rfl) (ms_iu kv_1 hF rfl)
set_option maxRecDepth 100000 in
set_option maxHeartbeats 4000000 in
theorem s_j_K_clashesBetween_64 {F G : Nat} (hF : 100000 ≤ F) (hG : 20 ≤ G) {C : St} {S : St} (hS_S : Inv C S) {y5 : Int32} {y6 : Int32} {y7 : Int32} (h_y7 : iv y7 (0) (31)) : Sf (j_K_clashesBetween_64 F G S y5 y6 y7) (fun r => iv r (0) (31)) := by
  unfold j_K_clashesBetween_64
  refine sf_bd (s_fK_hasKeyTwice hF hG hS_S) (fun v21 h_v21 => ?_)
  refine sf_ite (fun c1 => ?_) (fun c1 => ?_)
  · have f2 : iv _ (0) (0) := iv_eqA c1 kv_0
    exact sf_some (iv_or (n := 5) (u := 31) h_y7 kv_0 rfl)
  · have f3 : iv _ (1) (1) := iv_neL c1 h_v21 kv_0 rfl
    exact sf_some (iv_or (n := 5) (u := 31) h_y7 kv_8 rfl)
set_option maxRecDepth 100000 in
set_option maxHeartbeats 4000000 in
theorem s_fK_clashesBetween {F G : Nat} (hF : 100000 ≤ F) (hG : 20 ≤ G) {C : St} {S : St} (hS_S : Inv C S) {p1 : Int32} {p2 : Int32} {p3 : Int32} {p4 : Int32} : Sf (fK_clashesBetween F G S p1 p2 p3 p4) (fun r => iv r (0) (31)) := by
  unfold fK_clashesBetween
  refine sf_ltI (iv_top _) (fun v1 h_v1 e_v1 => ?_)
  refine sf_ltI (iv_top _) (fun v3 h_v3 e_v3 => ?_)
  refine sf_bd (s_fK_clashesOfHand hF hG hS_S) (fun v6 h_v6 => ?_)
  refine sf_bd (s_fK_clashesOfHand hF hG hS_S) (fun v8 h_v8 => ?_)
  refine sf_ltI (iv_or (n := 5) (u := 31) h_v6 h_v8 rfl) (fun v9 h_v9 e_v9 => ?_)
  refine sf_ite (fun c1 => ?_) (fun c1 => ?_)
  · have f2 : iv _ (0) (0) := iv_eqA c1 kv_0
    exact s_j_K_clashesBetween_64 hF hG hS_S h_v9
  · refine sf_ite (fun c3 => ?_) (fun c3 => ?_)
    · have f4 : iv _ (0) (0) := iv_eqA c3 kv_0
      exact s_j_K_clashesBetween_64 hF hG hS_S h_v9
    · refine sf_bd (s_fK_highest hF hG hS_S) (fun v14 h_v14 => ?_)
      refine sf_bd (s_fK_lowest hF hG hS_S) (fun v16 h_v16 => ?_)
      refine sf_ite (fun c5 => ?_) (fun c5 => ?_)
      · have f6 : iv _ (0) (86) := iv_ltA c5 h_v14 h_v16 rfl
        have f7 : iv _ (1) (87) := iv_ltB c5 h_v14 h_v16 rfl
        exact s_j_K_clashesBetween_64 hF hG hS_S h_v9
      · refine sf_ltI (iv_or (n := 5) (u := 31) h_v9 kv_4 rfl) (fun v18 h_v18 e_v18 => ?_)
        exact s_j_K_clashesBetween_64 hF hG hS_S h_v18
set_option maxRecDepth 100000 in
set_option maxHeartbeats 4000000 in
theorem s_fK_clashesAt {F G : Nat} (hF : 100000 ≤ F) (hG : 20 ≤ G) {C : St} {S : St} (hS_S : Inv C S) {p1 : Int32} {p2 : Int32} {p3 : Int32} (h_p3 : iv p3 (0) (11)) : Sf (fK_clashesAt F G S p1 p2 p3) (fun r => iv r (0) (31)) := by
  unfold fK_clashesAt
  refine sf_bd (s_fK_timelyAt hF hG hS_S (iv_w (l := -1) (u := 10) (iv_sub (l := -1) (u := 10) h_p3 kv_1 rfl) rfl)) (fun v2 h_v2 => ?_)
  refine sf_bd (s_fK_timelyAt hF hG hS_S (iv_w (l := 0) (u := 11) h_p3 rfl)) (fun v4 h_v4 => ?_)
  refine sf_bd (s_fK_clashesBetween hF hG hS_S) (fun v6 h_v6 => ?_)
  exact sf_some h_v6
set_option maxRecDepth 100000 in
set_option maxHeartbeats 4000000 in
theorem s_fN_clash {F G : Nat} (hF : 100000 ≤ F) (hG : 20 ≤ G) {C : St} {S : St} (hS_S : Inv C S) {p1 : Int32} : Sf2 (fN_clash F G S p1) (fun r S2 => iv r (-1) (31) ∧ Inv C S2) := by
  unfold fN_clash
  refine sg_bd (s_fN_isBeat hF hG hS_S) (fun v2 h_v2 => ?_)
  obtain ⟨h_v2, k_v2⟩ := h_v2
  refine sg_ite (fun c1 => ?_) (fun c1 => ?_)
  · have f2 : iv _ (0) (0) := iv_eqA c1 kv_0
    exact sg_some (iv_w (l := -1) (u := -1) kv_m1 rfl) hS_S
  · have f3 : iv _ (0) (11) := k_v2 c1
    have f4 : iv _ (1) (1) := iv_neL c1 h_v2 kv_0 rfl
    refine sg_bd (s_fN_lookAtKeys hF hG hS_S) (fun S5 hS_S5 => ?_)
    refine sg_bd (s_fK_clashesAt hF hG hS_S5 f3) (fun v7 h_v7 => ?_)
    exact sg_some (iv_w (l := 0) (u := 31) h_v7 rfl) hS_S5
set_option maxRecDepth 100000 in
set_option maxHeartbeats 4000000 in
theorem s_b_M_lowest_6 {F G : Nat} (hF : 100000 ≤ F) (hG : 20 ≤ G) {C : St} {S : St} (hS_S : Inv C S) {z1 : Int32} (h_z1 : iv z1 (1) (1023))  : ∀ (f : Nat) (w2 : Int32) (w3 : Int32), iv w2 (-2147483648) (1000000) → iv w3 (0) (10) → (10) - w3.toInt + 1 ≤ (f : Int) → Sf (fx2 (b_M_lowest_6 F G S z1)  f w2 w3) (fun r => iv r (-2147483648) (1000000)) := by
  intro f
  induction f with
  | zero => intro w2 w3 h_w2 h_w3 hm; exact (ms_zu h_w3 hm).elim
  | succ f hrec =>
    intro w2 w3 h_w2 h_w3 hm
    replace hm := ms_s hm
    show Sf (b_M_lowest_6 F G S z1 (fx2 (b_M_lowest_6 F G S z1)  f) w2 w3) _
    generalize fx2 (b_M_lowest_6 F G S z1)  f = rec at hrec ⊢
    unfold b_M_lowest_6
    refine sf_ite (fun c1 => ?_) (fun c1 => ?_)
    · exact sf_some h_w2
    · have f2 : iv _ (0) (9) := iv_ltA (Int32.not_le.mp c1) h_w3 (cell_78_48 hS_S) rfl
      have f3 : iv _ (1) (10) := iv_ltB (Int32.not_le.mp c1) h_w3 (cell_78_48 hS_S) rfl
      refine sf_ite (fun c4 => ?_) (fun c4 => ?_)
      · have f5 : iv _ (1) (1) := iv_eqA c4 kv_1
        refine sf_gd (inB_iv (iv_add (l := 10) (u := 19) kv_10 f2 rfl) rfl) ?_
        refine sf_ite (fun c6 => ?_) (fun c6 => ?_)
        · refine sf_ltI (iv_add (l := 1) (u := 10) f2 kv_1 rfl) (fun v7 h_v7 e_v7 => ?_)
          exact hrec _ _ h_w2 (iv_w (l := 1) (u := 10) h_v7 rfl) (ms_up e_v7 f2 rfl hm)
        · have f7 : iv _ (-2147483648) (999999) := iv_ltA (Int32.not_le.mp c6) (iv_top _) h_w2 rfl
          have f8 : iv _ (-2147483647) (1000000) := iv_ltB (Int32.not_le.mp c6) (iv_top _) h_w2 rfl
          refine sf_gd (inB_iv (iv_add (l := 10) (u := 19) kv_10 f2 rfl) rfl) ?_
          refine sf_ltI f7 (fun v10 h_v10 e_v10 => ?_)
          refine sf_ltI (iv_add (l := 1) (u := 10) f2 kv_1 rfl) (fun v12 h_v12 e_v12 => ?_)
          exact hrec _ _ (iv_w (l := -2147483648) (u := 999999) h_v10 rfl) (iv_w (l := 1) (u := 10) h_v12 rfl) (ms_up e_v12 f2 rfl hm)
      · have f9 : iv _ (0) (0) := iv_neU c4 (iv_andR (u := 1) kv_1 rfl) kv_1 rfl
        refine sf_ltI (iv_add (l := 1) (u := 10) f2 kv_1 rfl) (fun v3 h_v3 e_v3 => ?_)
        exact hrec _ _ h_w2 (iv_w (l := 1) (u := 10) h_v3 rfl) (ms_up e_v3 f2 rfl hm)
set_option maxRecDepth 100000 in
set_option maxHeartbeats 4000000 in
theorem s_fM_lowest {F G : Nat} (hF : 100000 ≤ F) (hG : 20 ≤ G) {C : St} {S : St} (hS_S : Inv C S) {p1 : Int32} (h_p1 : iv p1 (1) (1023)) : Sf (fM_lowest F G S p1) (fun r => iv r (-2147483648) (1000000)) := by
  unfold fM_lowest
  exact s_b_M_lowest_6 hF hG hS_S h_p1 F _ _ (iv_w (l := 1000000) (u := 1000000) kv_1000000 rfl) (iv_w (l := 0) (u := 0) kv_0 rfl) (ms_iu kv_0 hF rfl)
set_option maxRecDepth 100000 in
set_option maxHeartbeats 4000000 in
theorem s_b_M_highest_4 {F G : Nat} (hF : 100000 ≤ F) (hG : 20 ≤ G) {C : St} {S : St} (hS_S : Inv C S) {z1 : Int32} (h_z1 : iv z1 (1) (1023))  : ∀ (f : Nat) (w2 : Int32) (w3 : Int32), iv w2 (-1) (2147483647) → iv w3 (0) (10) → (10) - w3.toInt + 1 ≤ (f : Int) → Sf (fx2 (b_M_highest_4 F G S z1)  f w2 w3) (fun r => iv r (-1) (2147483647)) := by
  intro f
  induction f with
  | zero => intro w2 w3 h_w2 h_w3 hm; exact (ms_zu h_w3 hm).elim
  | succ f hrec =>
    intro w2 w3 h_w2 h_w3 hm
    replace hm := ms_s hm
    show Sf (b_M_highest_4 F G S z1 (fx2 (b_M_highest_4 F G S z1)  f) w2 w3) _
    generalize fx2 (b_M_highest_4 F G S z1)  f = rec at hrec ⊢
    unfold b_M_highest_4
    refine sf_ite (fun c1 => ?_) (fun c1 => ?_)
    · exact sf_some h_w2
    · have f2 : iv _ (0) (9) := iv_ltA (Int32.not_le.mp c1) h_w3 (cell_78_48 hS_S) rfl
      have f3 : iv _ (1) (10) := iv_ltB (Int32.not_le.mp c1) h_w3 (cell_78_48 hS_S) rfl
      refine sf_ite (fun c4 => ?_) (fun c4 => ?_)
      · have f5 : iv _ (1) (1) := iv_eqA c4 kv_1
        refine sf_gd (inB_iv (iv_add (l := 10) (u := 19) kv_10 f2 rfl) rfl) ?_
        refine sf_ite (fun c6 => ?_) (fun c6 => ?_)
        · refine sf_ltI (iv_add (l := 1) (u := 10) f2 kv_1 rfl) (fun v7 h_v7 e_v7 => ?_)
          exact hrec _ _ h_w2 (iv_w (l := 1) (u := 10) h_v7 rfl) (ms_up e_v7 f2 rfl hm)
        · have f7 : iv _ (-1) (2147483646) := iv_ltA (Int32.not_le.mp c6) h_w2 (iv_top _) rfl
          have f8 : iv _ (0) (2147483647) := iv_ltB (Int32.not_le.mp c6) h_w2 (iv_top _) rfl
          refine sf_gd (inB_iv (iv_add (l := 10) (u := 19) kv_10 f2 rfl) rfl) ?_
          refine sf_ltI f8 (fun v10 h_v10 e_v10 => ?_)
          refine sf_ltI (iv_add (l := 1) (u := 10) f2 kv_1 rfl) (fun v12 h_v12 e_v12 => ?_)
          exact hrec _ _ (iv_w (l := 0) (u := 2147483647) h_v10 rfl) (iv_w (l := 1) (u := 10) h_v12 rfl) (ms_up e_v12 f2 rfl hm)
      · have f9 : iv _ (0) (0) := iv_neU c4 (iv_andR (u := 1) kv_1 rfl) kv_1 rfl
        refine sf_ltI (iv_add (l := 1) (u := 10) f2 kv_1 rfl) (fun v3 h_v3 e_v3 => ?_)
        exact hrec _ _ h_w2 (iv_w (l := 1) (u := 10) h_v3 rfl) (ms_up e_v3 f2 rfl hm)
set_option maxRecDepth 100000 in
set_option maxHeartbeats 4000000 in
theorem s_fM_highest {F G : Nat} (hF : 100000 ≤ F) (hG : 20 ≤ G) {C : St} {S : St} (hS_S : Inv C S) {p1 : Int32} (h_p1 : iv p1 (1) (1023)) : Sf (fM_highest F G S p1) (fun r => iv r (-1) (2147483647)) := by
  unfold fM_highest
  exact s_b_M_highest_4 hF hG hS_S h_p1 F _ _ (iv_w (l := -1) (u := -1) kv_m1 rfl) (iv_w (l := 0) (u := 0) kv_0 rfl) (ms_iu kv_0 hF rfl)
set_option maxRecDepth 100000 in
set_option maxHeartbeats 4000000 in
theorem s_j_M_ownClash_47 {F G : Nat} (hF : 100000 ≤ F) (hG : 20 ≤ G) {C : St} {S : St} (hS_S : Inv C S) {y2 : Int32} (h_y2 : iv y2 (0) (1023)) {y5 : Int32} (h_y5 : iv y5 (0) (3)) {y6 : Int32} (h_y6 : iv y6 (-2147483648) (1000000)) : Sf (j_M_ownClash_47 F G S y2 y5 y6) (fun r => iv r (0) (31)) := by
  unfold j_M_ownClash_47
  refine sf_ite (fun c1 => ?_) (fun c1 => ?_)
  · have f2 : iv _ (0) (0) := iv_eqA c1 kv_0
    exact sf_some (iv_w (l := 0) (u := 3) h_y5 rfl)
  · have f3 : iv _ (1) (1023) := iv_neL c1 h_y2 kv_0 rfl
    refine sf_bd (s_fM_lowest hF hG hS_S f3) (fun v14 h_v14 => ?_)
    refine sf_bd (s_fM_plain hF hG hS_S) (fun v16 h_v16 => ?_)
    refine sf_ite (fun c4 => ?_) (fun c4 => ?_)
    · exact sf_some (iv_w (l := 0) (u := 3) h_y5 rfl)
    · have f5 : iv _ (-2147483648) (2147483646) := iv_ltA (Int32.not_le.mp c4) (iv_top _) (iv_top _) rfl
      have f6 : iv _ (-2147483647) (2147483647) := iv_ltB (Int32.not_le.mp c4) (iv_top _) (iv_top _) rfl
      refine sf_ltI (iv_or (n := 5) (u := 31) h_y5 kv_16 rfl) (fun v18 h_v18 e_v18 => ?_)
      exact sf_some h_v18
set_option maxRecDepth 100000 in
set_option maxHeartbeats 4000000 in
theorem s_j_M_ownClash_19 {F G : Nat} (hF : 100000 ≤ F) (hG : 20 ≤ G) {C : St} {S : St} (hS_S : Inv C S) {y1 : Int32} (h_y1 : iv y1 (1) (1023)) {y2 : Int32} (h_y2 : iv y2 (0) (1023)) {y4 : Int32} {s0 : Int32} (h_s0 : iv s0 (0) (1)) : Sf (j_M_ownClash_19 F G S y1 y2 y4 s0) (fun r => iv r (0) (31)) := by
  unfold j_M_ownClash_19
  refine sf_bd (s_fM_lowest hF hG hS_S h_y1) (fun v6 h_v6 => ?_)
  refine sf_bd (s_fM_highest hF hG hS_S h_y1) (fun v8 h_v8 => ?_)
  refine sf_ite (fun c1 => ?_) (fun c1 => ?_)
  · exact s_j_M_ownClash_47 hF hG hS_S h_y2 (iv_w (l := 0) (u := 1) h_s0 rfl) h_v6
  · have f2 : iv _ (-2147483648) (2147483646) := iv_ltA (Int32.not_le.mp c1) (iv_top _) (iv_top _) rfl
    have f3 : iv _ (-2147483647) (2147483647) := iv_ltB (Int32.not_le.mp c1) (iv_top _) (iv_top _) rfl
    refine sf_ltI (iv_or (n := 2) (u := 3) h_s0 kv_2 rfl) (fun v10 h_v10 e_v10 => ?_)
    exact s_j_M_ownClash_47 hF hG hS_S h_y2 h_v10 h_v6
set_option maxRecDepth 100000 in
set_option maxHeartbeats 4000000 in
theorem s_fM_ownClash {F G : Nat} (hF : 100000 ≤ F) (hG : 20 ≤ G) {C : St} {S : St} (hS_S : Inv C S) {p1 : Int32} (h_p1 : iv p1 (0) (1023)) {p2 : Int32} (h_p2 : iv p2 (0) (1023)) {p3 : Int32} {p4 : Int32} : Sf (fM_ownClash F G S p1 p2 p3 p4) (fun r => iv r (0) (31)) := by
  unfold fM_ownClash
  refine sf_ite (fun c1 => ?_) (fun c1 => ?_)
  · have f2 : iv _ (0) (0) := iv_eqA c1 kv_0
    exact sf_some (iv_w (l := 0) (u := 0) kv_0 rfl)
  · have f3 : iv _ (1) (1023) := iv_neL c1 h_p1 kv_0 rfl
    refine sf_bd (s_fM_members hF hG hS_S (iv_w (l := 1) (u := 1023) f3 rfl)) (fun v3 h_v3 => ?_)
    refine sf_ite (fun c4 => ?_) (fun c4 => ?_)
    · exact s_j_M_ownClash_19 hF hG hS_S f3 h_p2 (iv_w (l := 0) (u := 0) kv_0 rfl)
    · have f5 : iv _ (-2147483648) (2147483646) := iv_ltA (Int32.not_le.mp c4) (iv_top _) (iv_top _) rfl
      have f6 : iv _ (-2147483647) (2147483647) := iv_ltB (Int32.not_le.mp c4) (iv_top _) (iv_top _) rfl
      exact s_j_M_ownClash_19 hF hG hS_S f3 h_p2 (iv_w (l := 1) (u := 1) kv_1 rfl)
set_option maxRecDepth 100000 in
set_option maxHeartbeats 4000000 in
theorem s_b_M_hasTwins_30 {F G : Nat} (hF : 100000 ≤ F) (hG : 20 ≤ G) {C : St} {S : St} (hS_S : Inv C S) {z1 : Int32} (h_z1 : iv z1 (0) (1023)) {z3 : Int32} (h_z3 : iv z3 (0) (9)) {k84 : Int32 → Option (Int32)} (hk84 : ∀ (x0 : Int32), iv x0 (0) (1) → Sf (k84 x0) (fun r => iv r (0) (1)))  : ∀ (f : Nat) (w2 : Int32) (w4 : Int32), iv w2 (0) (1) → iv w4 (0) (9) → (9) - w4.toInt + 1 ≤ (f : Int) → Sf (fx2 (b_M_hasTwins_30 F G S z1 z3 k84)  f w2 w4) (fun r => iv r (0) (1)) := by
  intro f
  induction f with
  | zero => intro w2 w4 h_w2 h_w4 hm; exact (ms_zu h_w4 hm).elim
  | succ f hrec =>
    intro w2 w4 h_w2 h_w4 hm
    replace hm := ms_s hm
    show Sf (b_M_hasTwins_30 F G S z1 z3 k84 (fx2 (b_M_hasTwins_30 F G S z1 z3 k84)  f) w2 w4) _
    generalize fx2 (b_M_hasTwins_30 F G S z1 z3 k84)  f = rec at hrec ⊢
    unfold b_M_hasTwins_30
    refine sf_ite (fun c1 => ?_) (fun c1 => ?_)
    · exact hk84 _ h_w2
    · have f2 : iv _ (0) (8) := iv_ltA (Int32.not_le.mp c1) h_w4 h_z3 rfl
      have f3 : iv _ (1) (9) := iv_ltB (Int32.not_le.mp c1) h_w4 h_z3 rfl
      refine sf_ite (fun c4 => ?_) (fun c4 => ?_)
      · have f5 : iv _ (0) (0) := iv_eqA c4 kv_0
        refine sf_ite (fun c6 => ?_) (fun c6 => ?_)
        · have f7 : iv _ (1) (1) := iv_eqA c6 kv_1
          refine sf_gd (inB_iv (iv_add (l := 11) (u := 19) kv_10 f3 rfl) rfl) ?_
          refine sf_gd (inB_iv (iv_add (l := 10) (u := 18) kv_10 f2 rfl) rfl) ?_
          refine sf_ite (fun c8 => ?_) (fun c8 => ?_)
          · refine sf_ltI (iv_add (l := 1) (u := 9) f2 kv_1 rfl) (fun v18 h_v18 e_v18 => ?_)
            exact hrec _ _ (iv_w (l := 1) (u := 1) kv_1 rfl) (iv_w (l := 1) (u := 9) h_v18 rfl) (ms_up e_v18 f2 rfl hm)
          · refine sf_ltI (iv_add (l := 1) (u := 9) f2 kv_1 rfl) (fun v16 h_v16 e_v16 => ?_)
            exact hrec _ _ (iv_w (l := 0) (u := 0) kv_0 rfl) (iv_w (l := 1) (u := 9) h_v16 rfl) (ms_up e_v16 f2 rfl hm)
        · have f9 : iv _ (0) (0) := iv_neU c6 (iv_andR (u := 1) kv_1 rfl) kv_1 rfl
          refine sf_ltI (iv_add (l := 1) (u := 9) f2 kv_1 rfl) (fun v11 h_v11 e_v11 => ?_)
          exact hrec _ _ (iv_w (l := 0) (u := 0) kv_0 rfl) (iv_w (l := 1) (u := 9) h_v11 rfl) (ms_up e_v11 f2 rfl hm)
      · have f10 : iv _ (1) (1) := iv_neL c4 h_w2 kv_0 rfl
        refine sf_ltI (iv_add (l := 1) (u := 9) f2 kv_1 rfl) (fun v8 h_v8 e_v8 => ?_)
        exact hrec _ _ (iv_w (l := 1) (u := 1) kv_1 rfl) (iv_w (l := 1) (u := 9) h_v8 rfl) (ms_up e_v8 f2 rfl hm)
set_option maxRecDepth 100000 in
set_option maxHeartbeats 4000000 in
theorem s_b_M_hasTwins_4 {F G : Nat} (hF : 100000 ≤ F) (hG : 20 ≤ G) {C : St} {S : St} (hS_S : Inv C S) {z1 : Int32} (h_z1 : iv z1 (0) (1023))  : ∀ (f : Nat) (w2 : Int32) (w3 : Int32), iv w2 (0) (1) → iv w3 (0) (10) → (10) - w3.toInt + 1 ≤ (f : Int) → Sf (fx2 (b_M_hasTwins_4 F G S z1)  f w2 w3) (fun r => iv r (0) (1)) := by
  intro f
  induction f with
  | zero => intro w2 w3 h_w2 h_w3 hm; exact (ms_zu h_w3 hm).elim
  | succ f hrec =>
    intro w2 w3 h_w2 h_w3 hm
    replace hm := ms_s hm
    show Sf (b_M_hasTwins_4 F G S z1 (fx2 (b_M_hasTwins_4 F G S z1)  f) w2 w3) _
    generalize fx2 (b_M_hasTwins_4 F G S z1)  f = rec at hrec ⊢
    unfold b_M_hasTwins_4
    refine sf_ite (fun c1 => ?_) (fun c1 => ?_)
    · refine sf_gd (isB_iv h_w2 rfl) ?_
      exact sf_some h_w2
    · have f2 : iv _ (0) (9) := iv_ltA (Int32.not_le.mp c1) h_w3 (cell_78_48 hS_S) rfl
      have f3 : iv _ (1) (10) := iv_ltB (Int32.not_le.mp c1) h_w3 (cell_78_48 hS_S) rfl
      refine sf_ite (fun c4 => ?_) (fun c4 => ?_)
      · have f5 : iv _ (0) (0) := iv_eqA c4 kv_0
        refine sf_ite (fun c6 => ?_) (fun c6 => ?_)
        · have f7 : iv _ (0) (0) := iv_eqA c6 kv_0
          refine sf_ltI (iv_add (l := 1) (u := 10) f2 kv_1 rfl) (fun v23 h_v23 e_v23 => ?_)
          exact hrec _ _ (iv_w (l := 0) (u := 0) f5 rfl) (iv_w (l := 1) (u := 10) h_v23 rfl) (ms_up e_v23 f2 rfl hm)
        · have f8 : iv _ (1) (1) := iv_neL c6 (iv_andR (u := 1) kv_1 rfl) kv_0 rfl
          refine s_b_M_hasTwins_30 hF hG hS_S h_z1 f2 ?_ F _ _ (iv_w (l := 0) (u := 0) f5 rfl) (iv_w (l := 0) (u := 0) kv_0 rfl) (ms_iu kv_0 hF rfl)
          · intro v20 h_v20
            refine sf_ltI (iv_add (l := 1) (u := 10) f2 kv_1 rfl) (fun v21 h_v21 e_v21 => ?_)
            exact hrec _ _ h_v20 (iv_w (l := 1) (u := 10) h_v21 rfl) (ms_up e_v21 f2 rfl hm)
      · have f9 : iv _ (1) (1) := iv_neL c4 h_w2 kv_0 rfl
        refine sf_gd (isB_iv f9 rfl) ?_
        exact sf_some (iv_w (l := 1) (u := 1) f9 rfl)
set_option maxRecDepth 100000 in
set_option maxHeartbeats 4000000 in
theorem s_fM_hasTwins {F G : Nat} (hF : 100000 ≤ F) (hG : 20 ≤ G) {C : St} {S : St} (hS_S : Inv C S) {p1 : Int32} (h_p1 : iv p1 (0) (1023)) : Sf (fM_hasTwins F G S p1) (fun r => iv r (0) (1)) := by
  unfold fM_hasTwins
  exact s_b_M_hasTwins_4 hF hG hS_S h_p1 F _ _ (iv_w (l := 0) (u := 0) kv_0 rfl) (iv_w (l := 0) (u := 0) kv_0 rfl) (ms_iu kv_0 hF rfl)
set_option maxRecDepth 100000 in
set_option maxHeartbeats 4000000 in
theorem s_j_M_clashBy_100 {F G : Nat} (hF : 100000 ≤ F) (hG : 20 ≤ G) {C : St} {S : St} (hS_S : Inv C S) {y6 : Int32} (h_y6 : iv y6 (0) (1023)) {y7 : Int32} (h_y7 : iv y7 (0) (1023)) {y9 : Int32} (h_y9 : iv y9 (0) (31)) : Sf (j_M_clashBy_100 F G S y6 y7 y9) (fun r => iv r (0) (31)) := by
  unfold j_M_clashBy_100
  refine sf_bd (s_fM_hasTwins hF hG hS_S (iv_or (n := 10) (u := 1023) h_y6 h_y7 rfl)) (fun v25 h_v25 => ?_)
  refine sf_ite (fun c1 => ?_) (fun c1 => ?_)
  · have f2 : iv _ (0) (0) := iv_eqA c1 kv_0
    exact sf_some h_y9
  · have f3 : iv _ (1) (1) := iv_neL c1 h_v25 kv_0 rfl
    exact sf_some (iv_or (n := 5) (u := 31) h_y9 kv_8 rfl)
set_option maxRecDepth 100000 in
set_option maxHeartbeats 4000000 in
theorem s_j_M_clashBy_36 {F G : Nat} (hF : 100000 ≤ F) (hG : 20 ≤ G) {C : St} {S : St} (hS_S : Inv C S) {y2 : Int32} (h_y2 : iv y2 (0) (1023)) {y3 : Int32} (h_y3 : iv y3 (0) (1023)) {y4 : Int32} {y5 : Int32} {y6 : Int32} (h_y6 : iv y6 (0) (1023)) {y7 : Int32} (h_y7 : iv y7 (0) (1023)) {s0 : Int32} : Sf (j_M_clashBy_36 F G S y2 y3 y4 y5 y6 y7 s0) (fun r => iv r (0) (31)) := by
  unfold j_M_clashBy_36
  refine sf_bd (s_fM_ownClash hF hG hS_S h_y6 (iv_andL (u := 1023) h_y2 rfl)) (fun v10 h_v10 => ?_)
  refine sf_bd (s_fM_ownClash hF hG hS_S h_y7 (iv_andL (u := 1023) h_y3 rfl)) (fun v12 h_v12 => ?_)
  refine sf_ltI (iv_or (n := 5) (u := 31) h_v10 h_v12 rfl) (fun v13 h_v13 e_v13 => ?_)
  refine sf_ite (fun c1 => ?_) (fun c1 => ?_)
  · have f2 : iv _ (0) (0) := iv_eqA c1 kv_0
    exact s_j_M_clashBy_100 hF hG hS_S (iv_w (l := 0) (u := 0) f2 rfl) h_y7 h_v13
  · have f3 : iv _ (1) (1023) := iv_neL c1 h_y6 kv_0 rfl
    refine sf_ite (fun c4 => ?_) (fun c4 => ?_)
    · have f5 : iv _ (0) (0) := iv_eqA c4 kv_0
      exact s_j_M_clashBy_100 hF hG hS_S (iv_w (l := 1) (u := 1023) f3 rfl) (iv_w (l := 0) (u := 0) f5 rfl) h_v13
    · have f6 : iv _ (1) (1023) := iv_neL c4 h_y7 kv_0 rfl
      refine sf_bd (s_fM_highest hF hG hS_S f3) (fun v18 h_v18 => ?_)
      refine sf_bd (s_fM_lowest hF hG hS_S f6) (fun v20 h_v20 => ?_)
      refine sf_ite (fun c7 => ?_) (fun c7 => ?_)
      · have f8 : iv _ (-1) (999999) := iv_ltA c7 h_v18 h_v20 rfl
        have f9 : iv _ (0) (1000000) := iv_ltB c7 h_v18 h_v20 rfl
        exact s_j_M_clashBy_100 hF hG hS_S (iv_w (l := 1) (u := 1023) f3 rfl) (iv_w (l := 1) (u := 1023) f6 rfl) h_v13
      · refine sf_ltI (iv_or (n := 5) (u := 31) h_v13 kv_4 rfl) (fun v22 h_v22 e_v22 => ?_)
        exact s_j_M_clashBy_100 hF hG hS_S (iv_w (l := 1) (u := 1023) f3 rfl) (iv_w (l := 1) (u := 1023) f6 rfl) h_v22
set_option maxRecDepth 100000 in
set_option maxHeartbeats 4000000 in
theorem s_fM_clashBy {F G : Nat} (hF : 100000 ≤ F) (hG : 20 ≤ G) {C : St} {S : St} (hS_S : Inv C S) {p1 : Int32} (h_p1 : iv p1 (0) (11)) {p2 : Int32} (h_p2 : iv p2 (0) (1023)) {p3 : Int32} (h_p3 : iv p3 (0) (1023)) {p4 : Int32} {p5 : Int32} : Sf (fM_clashBy F G S p1 p2 p3 p4 p5) (fun r => iv r (0) (31)) := by
  unfold fM_clashBy
  refine sf_gd (inB_iv h_p1 rfl) ?_
  refine sf_ltI (iv_andL (u := 1023) h_p2 rfl) (fun v2 h_v2 e_v2 => ?_)
  refine sf_gd (inB_iv h_p1 rfl) ?_
  refine sf_ltI (iv_andL (u := 1023) h_p3 rfl) (fun v5 h_v5 e_v5 => ?_)
  refine sf_ite (fun c1 => ?_) (fun c1 => ?_)
  · have f2 : iv _ (0) (0) := iv_eqA c1 kv_0
    exact s_j_M_clashBy_36 hF hG hS_S h_p2 h_p3 h_v2 h_v5
  · have f3 : iv _ (1) (11) := iv_neL c1 h_p1 kv_0 rfl
    refine sf_gd (inB_iv (iv_sub (l := 0) (u := 10) f3 kv_1 rfl) rfl) ?_
    exact s_j_M_clashBy_36 hF hG hS_S h_p2 h_p3 h_v2 h_v5
set_option maxRecDepth 100000 in
set_option maxHeartbeats 4000000 in
theorem s_fM_clash {F G : Nat} (hF : 100000 ≤ F) (hG : 20 ≤ G) {C : St} {S : St} (hS_S : Inv C S) {p1 : Int32} : Sf2 (fM_clash F G S p1) (fun r S2 => iv r (-1) (31) ∧ Inv C S2) := by
  unfold fM_clash
  refine sg_bd (s_fM_fill hF hG hS_S) (fun S2 hS_S2 => ?_)
  refine sg_bd (s_fM_isBeat hF hG hS_S2) (fun v4 h_v4 => ?_)
  obtain ⟨h_v4, k_v4⟩ := h_v4
  refine sg_ite (fun c1 => ?_) (fun c1 => ?_)
  · have f2 : iv _ (0) (0) := iv_eqA c1 kv_0
    exact sg_some (iv_w (l := -1) (u := -1) kv_m1 rfl) hS_S2
  · have f3 : iv _ (0) (11) := k_v4 c1
    have f4 : iv _ (1) (1) := iv_neL c1 h_v4 kv_0 rfl
    refine sg_bd (s_fM_given hF hG hS_S2 (iv_w (l := 1) (u := 1) kv_1 rfl)) (fun v7 h_v7 => ?_)
    refine sg_bd (s_fM_given hF hG hS_S2 (iv_w (l := 2) (u := 2) kv_2 rfl)) (fun v9 h_v9 => ?_)
    refine sg_bd (s_fM_clashBy hF hG hS_S2 f3 h_v7 h_v9) (fun v11 h_v11 => ?_)
    exact sg_some (iv_w (l := 0) (u := 31) h_v11 rfl) hS_S2
set_option maxRecDepth 100000 in
set_option maxHeartbeats 4000000 in
theorem s_b_K_clashingBeats_5 {F G : Nat} (hF : 100000 ≤ F) (hG : 20 ≤ G) {C : St} {S : St} (hS_S : Inv C S) {z1 : Int32} {z2 : Int32}  : ∀ (f : Nat) (w3 : Int32) (w4 : Int32), iv w3 (0) (4095) → iv w4 (0) (12) → (12) - w4.toInt + 1 ≤ (f : Int) → Sf (fx2 (b_K_clashingBeats_5 F G S z1 z2)  f w3 w4) (fun r => iv r (0) (4095)) := by
  intro f
  induction f with
  | zero => intro w3 w4 h_w3 h_w4 hm; exact (ms_zu h_w4 hm).elim
  | succ f hrec =>
    intro w3 w4 h_w3 h_w4 hm
    replace hm := ms_s hm
    show Sf (b_K_clashingBeats_5 F G S z1 z2 (fx2 (b_K_clashingBeats_5 F G S z1 z2)  f) w3 w4) _
    generalize fx2 (b_K_clashingBeats_5 F G S z1 z2)  f = rec at hrec ⊢
    unfold b_K_clashingBeats_5
    refine sf_ite (fun c1 => ?_) (fun c1 => ?_)
    · exact sf_some h_w3
    · have f2 : iv _ (0) (11) := iv_ltA (Int32.not_le.mp c1) h_w4 (cell_57_0 hS_S) rfl
      have f3 : iv _ (1) (12) := iv_ltB (Int32.not_le.mp c1) h_w4 (cell_57_0 hS_S) rfl
      refine sf_bd (s_fK_clashesAt hF hG hS_S f2) (fun v3 h_v3 => ?_)
      refine sf_ite (fun c4 => ?_) (fun c4 => ?_)
      · have f5 : iv _ (0) (0) := iv_eqA c4 kv_0
        refine sf_ltI (iv_add (l := 1) (u := 12) f2 kv_1 rfl) (fun v5 h_v5 e_v5 => ?_)
        exact hrec _ _ h_w3 (iv_w (l := 1) (u := 12) h_v5 rfl) (ms_up e_v5 f2 rfl hm)
      · have f6 : iv _ (1) (31) := iv_neL c4 h_v3 kv_0 rfl
        refine sf_ltI (iv_or (n := 12) (u := 4095) h_w3 (iv_shl (u := 2048) f2 rfl) rfl) (fun v7 h_v7 e_v7 => ?_)
        refine sf_ltI (iv_add (l := 1) (u := 12) f2 kv_1 rfl) (fun v9 h_v9 e_v9 => ?_)
        exact hrec _ _ h_v7 (iv_w (l := 1) (u := 12) h_v9 rfl) (ms_up e_v9 f2 rfl hm)
set_option maxRecDepth 100000 in
set_option maxHeartbeats 4000000 in
theorem s_fK_clashingBeats {F G : Nat} (hF : 100000 ≤ F) (hG : 20 ≤ G) {C : St} {S : St} (hS_S : Inv C S) {p1 : Int32} {p2 : Int32} : Sf (fK_clashingBeats F G S p1 p2) (fun r => iv r (0) (4095)) := by
  unfold fK_clashingBeats
  exact s_b_K_clashingBeats_5 hF hG hS_S F _ _ (iv_w (l := 0) (u := 0) kv_0 rfl) (iv_w (l := 0) (u := 0) kv_0 rfl) (ms_iu kv_0 hF rfl)
set_option maxRecDepth 100000 in
set_option maxHeartbeats 4000000 in
theorem s_fN_clashes {F G : Nat} (hF : 100000 ≤ F) (hG : 20 ≤ G) {C : St} {S : St} (hS_S : Inv C S) : Sf2 (fN_clashes F G S) (fun r S2 => iv r (0) (4095) ∧ Inv C S2) := by
  unfold fN_clashes
  refine sg_bd (s_fN_lookAtKeys hF hG hS_S) (fun S2 hS_S2 => ?_)
  refine sg_bd (s_fK_clashingBeats hF hG hS_S2) (fun v4 h_v4 => ?_)
  exact sg_some h_v4 hS_S2
set_option maxRecDepth 100000 in
set_option maxHeartbeats 4000000 in
theorem s_j_M_clashBeats_41 {F G : Nat} (hF : 100000 ≤ F) (hG : 20 ≤ G) {C : St} {S : St} (hS_S : Inv C S) {z1 : Int32} {Su : St} {y3 : Int32} (h_y3 : iv y3 (0) (11)) {s0 : Int32} (h_s0 : iv s0 (0) (4095)) {s1 : Int32} (h_s1 : iv s1 (0) (1)) {rec : Int32 → Int32 → Option (Int32)} {M : Int} (hrec : ∀ (w2 : Int32) (w3 : Int32), iv w2 (0) (4095) → iv w3 (0) (12) → (12) - w3.toInt + 1 ≤ M → Sf (rec w2 w3) (fun r => iv r (0) (4095))) (hm : (12) - y3.toInt ≤ M) : Sf (j_M_clashBeats_41 F G S z1 rec Su y3 s0 s1) (fun r => iv r (0) (4095)) := by
  unfold j_M_clashBeats_41
  refine sf_bd (s_fM_truth hF hG hS_S h_s1) (fun v10 h_v10 => ?_)
  refine sf_ltI (iv_or (n := 12) (u := 4095) h_s0 (iv_shb (u := 2048) h_v10 h_y3 rfl) rfl) (fun v11 h_v11 e_v11 => ?_)
  refine sf_ltI (iv_add (l := 1) (u := 12) h_y3 kv_1 rfl) (fun v13 h_v13 e_v13 => ?_)
  exact hrec _ _ h_v11 (iv_w (l := 1) (u := 12) h_v13 rfl) (ms_up e_v13 h_y3 rfl hm)
set_option maxRecDepth 100000 in
set_option maxHeartbeats 4000000 in
theorem s_b_M_clashBeats_4 {F G : Nat} (hF : 100000 ≤ F) (hG : 20 ≤ G) {C : St} {S : St} (hS_S : Inv C S) {z1 : Int32}  : ∀ (f : Nat) (w2 : Int32) (w3 : Int32), iv w2 (0) (4095) → iv w3 (0) (12) → (12) - w3.toInt + 1 ≤ (f : Int) → Sf (fx2 (b_M_clashBeats_4 F G S z1)  f w2 w3) (fun r => iv r (0) (4095)) := by
  intro f
  induction f with
  | zero => intro w2 w3 h_w2 h_w3 hm; exact (ms_zu h_w3 hm).elim
  | succ f hrec =>
    intro w2 w3 h_w2 h_w3 hm
    replace hm := ms_s hm
    show Sf (b_M_clashBeats_4 F G S z1 (fx2 (b_M_clashBeats_4 F G S z1)  f) w2 w3) _
    generalize fx2 (b_M_clashBeats_4 F G S z1)  f = rec at hrec ⊢
    unfold b_M_clashBeats_4
    refine sf_ite (fun c1 => ?_) (fun c1 => ?_)
    · have f2 : iv _ (1) (12) := iv_leB c1 (cell_78_46 hS_S) h_w3 rfl
      exact sf_some h_w2
    · have f3 : iv _ (0) (11) := iv_ltA (Int32.not_le.mp c1) h_w3 (cell_78_46 hS_S) rfl
      refine sf_bd (s_fM_given hF hG hS_S (iv_w (l := 1) (u := 1) kv_1 rfl)) (fun v3 h_v3 => ?_)
      refine sf_bd (s_fM_given hF hG hS_S (iv_w (l := 2) (u := 2) kv_2 rfl)) (fun v5 h_v5 => ?_)
      refine sf_bd (s_fM_clashBy hF hG hS_S f3 h_v3 h_v5) (fun v7 h_v7 => ?_)
      refine sf_ite (fun c4 => ?_) (fun c4 => ?_)
      · have f5 : iv _ (0) (0) := iv_eqA c4 kv_0
        exact s_j_M_clashBeats_41 hF hG hS_S f3 h_w2 (iv_w (l := 0) (u := 0) kv_0 rfl) hrec hm
      · have f6 : iv _ (1) (31) := iv_neL c4 h_v7 kv_0 rfl
        exact s_j_M_clashBeats_41 hF hG hS_S f3 h_w2 (iv_w (l := 1) (u := 1) kv_1 rfl) hrec hm
set_option maxRecDepth 100000 in
set_option maxHeartbeats 4000000 in
theorem s_fM_clashBeats {F G : Nat} (hF : 100000 ≤ F) (hG : 20 ≤ G) {C : St} {S : St} (hS_S : Inv C S) {p1 : Int32} : Sf (fM_clashBeats F G S p1) (fun r => iv r (0) (4095)) := by
  unfold fM_clashBeats
  exact s_b_M_clashBeats_4 hF hG hS_S F _ _ (iv_w (l := 0) (u := 0) kv_0 rfl) (iv_w (l := 0) (u := 0) kv_0 rfl) (ms_iu kv_0 hF rfl)
set_option maxRecDepth 100000 in
set_option maxHeartbeats 4000000 in
theorem s_fM_clashes {F G : Nat} (hF : 100000 ≤ F) (hG : 20 ≤ G) {C : St} {S : St} (hS_S : Inv C S) : Sf2 (fM_clashes F G S) (fun r S2 => iv r (0) (4095) ∧ Inv C S2) := by
  unfold fM_clashes
  refine sg_bd (s_fM_fill hF hG hS_S) (fun S2 hS_S2 => ?_)
  refine sg_bd (s_fM_clashBeats hF hG hS_S2) (fun v4 h_v4 => ?_)
  exact sg_some h_v4 hS_S2
set_option maxRecDepth 100000 in
set_option maxHeartbeats 4000000 in
theorem s_fN_isKey {F G : Nat} (hF : 100000 ≤ F) (hG : 20 ≤ G) {C : St} {S : St} (hS_S : Inv C S) {p1 : Int32} : Sf (fN_isKey F G S p1) (fun r => iv r 0 1 ∧ (¬ r = 0 → iv p1 (0) (87))) := by
  unfold fN_isKey
  refine sf_ite (fun c1 => ?_) (fun c1 => ?_)
  · have f2 : iv _ (-2147483648) (-1) := iv_ltA c1 (iv_top _) kv_0 rfl
    exact sf_some ⟨iv_w (l := 0) (u := 0) kv_0 rfl, fun h => absurd rfl h⟩
  · have f3 : iv _ (0) (2147483647) := iv_leB (Int32.not_lt.mp c1) kv_0 (iv_top _) rfl
    refine sf_ite (fun c4 => ?_) (fun c4 => ?_)
    · have f5 : iv _ (88) (2147483647) := iv_ltB c4 kv_87 f3 rfl
      exact sf_some ⟨iv_w (l := 0) (u := 0) kv_0 rfl, fun h => absurd rfl h⟩
    · have f6 : iv _ (0) (87) := iv_leA (Int32.not_lt.mp c4) f3 kv_87 rfl
      exact sf_some ⟨iv_w (l := 1) (u := 1) kv_1 rfl, fun _ => f6⟩
set_option maxRecDepth 100000 in
set_option maxHeartbeats 4000000 in
theorem s_b_N_loss_4 {F G : Nat} (hF : 100000 ≤ F) (hG : 20 ≤ G) {C : St}   : ∀ (f : Nat) (w1 : Int32) (w2 : Int32) (S : St), iv w2 (0) (10) → Inv C S → (10) - w2.toInt + 1 ≤ (f : Int) → Sf2 (fx3 (b_N_loss_4 F G)  f w1 w2 S) (fun r S2 => iv r (-2147483648) (2147483647) ∧ Inv C S2) := by
  intro f
  induction f with
  | zero => intro w1 w2 S h_w2 hS_S hm; exact (ms_zu h_w2 hm).elim
  | succ f hrec =>
    intro w1 w2 S h_w2 hS_S hm
    replace hm := ms_s hm
    show Sf2 (b_N_loss_4 F G (fx3 (b_N_loss_4 F G)  f) w1 w2 S) _
    generalize fx3 (b_N_loss_4 F G)  f = rec at hrec ⊢
    unfold b_N_loss_4
    refine sg_gd (sco hS_S hS_S.told) ?_
    refine sg_ite (fun c1 => ?_) (fun c1 => ?_)
    · exact sg_some (iv_top _) hS_S
    · have f2 : iv _ (0) (9) := iv_ltA (Int32.not_le.mp c1) h_w2 (sco_6 hS_S hS_S.told) rfl
      have f3 : iv _ (1) (10) := iv_ltB (Int32.not_le.mp c1) h_w2 (sco_6 hS_S hS_S.told) rfl
      refine sg_gd (inB_iv f2 rfl) ?_
      refine sg_ite (fun c4 => ?_) (fun c4 => ?_)
      · have f5 : iv _ (0) (0) := iv_eqA c4 kv_0
        refine sg_bd2 (s_fN_missedOf hF hG hS_S f2) (fun v8 S9 hq => ?_)
        obtain ⟨h_v8, hS_S9⟩ := hq
        refine sg_ltI (iv_top _) (fun v10 h_v10 e_v10 => ?_)
        refine sg_ltI (iv_add (l := 1) (u := 10) f2 kv_1 rfl) (fun v12 h_v12 e_v12 => ?_)
        exact hrec _ _ _ (iv_w (l := 1) (u := 10) h_v12 rfl) hS_S9 (ms_up e_v12 f2 rfl hm)
      · refine sg_ltI (iv_add (l := 1) (u := 10) f2 kv_1 rfl) (fun v5 h_v5 e_v5 => ?_)
        exact hrec _ _ _ (iv_w (l := 1) (u := 10) h_v5 rfl) hS_S (ms_up e_v5 f2 rfl hm)
set_option maxRecDepth 100000 in
set_option maxHeartbeats 4000000 in
theorem s_fN_loss {F G : Nat} (hF : 100000 ≤ F) (hG : 20 ≤ G) {C : St} {S : St} (hS_S : Inv C S) : Sf2 (fN_loss F G S) (fun r S2 => iv r (-2147483648) (2147483647) ∧ Inv C S2) := by
  unfold fN_loss
  exact s_b_N_loss_4 hF hG  F _ _ _ (iv_w (l := 0) (u := 0) kv_0 rfl) hS_S (ms_iu kv_0 hF rfl)
set_option maxRecDepth 100000 in
set_option maxHeartbeats 4000000 in
theorem s_b_M_layMissed_2 {F G : Nat} (hF : 100000 ≤ F) (hG : 20 ≤ G) {C : St}   : ∀ (f : Nat) (w1 : Int32) (S : St), iv w1 (0) (10) → Inv C S → (10) - w1.toInt + 1 ≤ (f : Int) → Sf (fx2 (b_M_layMissed_2 F G)  f w1 S) (fun r => Inv C r) := by
  intro f
  induction f with
  | zero => intro w1 S h_w1 hS_S hm; exact (ms_zu h_w1 hm).elim
  | succ f hrec =>
    intro w1 S h_w1 hS_S hm
    replace hm := ms_s hm
    show Sf (b_M_layMissed_2 F G (fx2 (b_M_layMissed_2 F G)  f) w1 S) _
    generalize fx2 (b_M_layMissed_2 F G)  f = rec at hrec ⊢
    unfold b_M_layMissed_2
    refine sf_ite (fun c1 => ?_) (fun c1 => ?_)
    · exact sf_some hS_S
    · have f2 : iv _ (0) (9) := iv_ltA (Int32.not_le.mp c1) h_w1 (cell_78_48 hS_S) rfl
      have f3 : iv _ (1) (10) := iv_ltB (Int32.not_le.mp c1) h_w1 (cell_78_48 hS_S) rfl
      refine sf_bd2 (s_fM_missedOf hF hG hS_S f2) (fun v3 S4 hq => ?_)
      obtain ⟨h_v3, hS_S4⟩ := hq
      refine sf_gd (inB_iv f2 rfl) ?_
      refine sf_ltS0 (str_107 hS_S4 _ (iv_top _)) (fun S6 hS_S6 => ?_)
      refine sf_ltI (iv_add (l := 1) (u := 10) f2 kv_1 rfl) (fun v8 h_v8 e_v8 => ?_)
      exact hrec _ _ (iv_w (l := 1) (u := 10) h_v8 rfl) hS_S6 (ms_up e_v8 f2 rfl hm)
set_option maxRecDepth 100000 in
set_option maxHeartbeats 4000000 in
theorem s_fM_layMissed {F G : Nat} (hF : 100000 ≤ F) (hG : 20 ≤ G) {C : St} {S : St} (hS_S : Inv C S) : Sf (fM_layMissed F G S) (fun r => Inv C r) := by
  unfold fM_layMissed
  exact s_b_M_layMissed_2 hF hG  F _ _ (iv_w (l := 0) (u := 0) kv_0 rfl) hS_S (ms_iu kv_0 hF rfl)
set_option maxRecDepth 100000 in
set_option maxHeartbeats 4000000 in
theorem s_b_M_missedBy_4 {F G : Nat} (hF : 100000 ≤ F) (hG : 20 ≤ G) {C : St} {S : St} (hS_S : Inv C S) {z1 : Int32} (h_z1 : iv z1 (0) (1023))  : ∀ (f : Nat) (w2 : Int32) (w3 : Int32), iv w3 (0) (10) → (10) - w3.toInt + 1 ≤ (f : Int) → Sf (fx2 (b_M_missedBy_4 F G S z1)  f w2 w3) (fun r => iv r (-2147483648) (2147483647)) := by
  intro f
  induction f with
  | zero => intro w2 w3 h_w3 hm; exact (ms_zu h_w3 hm).elim
  | succ f hrec =>
    intro w2 w3 h_w3 hm
    replace hm := ms_s hm
    show Sf (b_M_missedBy_4 F G S z1 (fx2 (b_M_missedBy_4 F G S z1)  f) w2 w3) _
    generalize fx2 (b_M_missedBy_4 F G S z1)  f = rec at hrec ⊢
    unfold b_M_missedBy_4
    refine sf_ite (fun c1 => ?_) (fun c1 => ?_)
    · exact sf_some (iv_top _)
    · have f2 : iv _ (0) (9) := iv_ltA (Int32.not_le.mp c1) h_w3 (cell_78_48 hS_S) rfl
      have f3 : iv _ (1) (10) := iv_ltB (Int32.not_le.mp c1) h_w3 (cell_78_48 hS_S) rfl
      refine sf_ite (fun c4 => ?_) (fun c4 => ?_)
      · have f5 : iv _ (1) (1) := iv_eqA c4 kv_1
        refine sf_gd (inB_iv f2 rfl) ?_
        refine sf_ltI (iv_top _) (fun v8 h_v8 e_v8 => ?_)
        refine sf_ltI (iv_add (l := 1) (u := 10) f2 kv_1 rfl) (fun v10 h_v10 e_v10 => ?_)
        exact hrec _ _ (iv_w (l := 1) (u := 10) h_v10 rfl) (ms_up e_v10 f2 rfl hm)
      · have f6 : iv _ (0) (0) := iv_neU c4 (iv_andR (u := 1) kv_1 rfl) kv_1 rfl
        refine sf_ltI (iv_top _) (fun v3 h_v3 e_v3 => ?_)
        refine sf_ltI (iv_add (l := 1) (u := 10) f2 kv_1 rfl) (fun v5 h_v5 e_v5 => ?_)
        exact hrec _ _ (iv_w (l := 1) (u := 10) h_v5 rfl) (ms_up e_v5 f2 rfl hm)
set_option maxRecDepth 100000 in
set_option maxHeartbeats 4000000 in
theorem s_fM_missedBy {F G : Nat} (hF : 100000 ≤ F) (hG : 20 ≤ G) {C : St} {S : St} (hS_S : Inv C S) {p1 : Int32} (h_p1 : iv p1 (0) (1023)) : Sf (fM_missedBy F G S p1) (fun r => iv r (-2147483648) (2147483647)) := by
  unfold fM_missedBy
  exact s_b_M_missedBy_4 hF hG hS_S h_p1 F _ _ (iv_w (l := 0) (u := 0) kv_0 rfl) (ms_iu kv_0 hF rfl)
set_option maxRecDepth 100000 in
set_option maxHeartbeats 4000000 in
theorem s_fM_loss {F G : Nat} (hF : 100000 ≤ F) (hG : 20 ≤ G) {C : St} {S : St} (hS_S : Inv C S) : Sf2 (fM_loss F G S) (fun r S2 => iv r (-2147483648) (2147483647) ∧ Inv C S2) := by
  unfold fM_loss
  refine sg_bd (s_fM_fill hF hG hS_S) (fun S2 hS_S2 => ?_)
  refine sg_bd (s_fM_layMissed hF hG hS_S2) (fun S4 hS_S4 => ?_)
  refine sg_bd (s_fM_given hF hG hS_S4 (iv_w (l := 0) (u := 0) kv_0 rfl)) (fun v6 h_v6 => ?_)
  refine sg_bd (s_fM_missedBy hF hG hS_S4 h_v6) (fun v8 h_v8 => ?_)
  exact sg_some (iv_top _) hS_S4
set_option maxRecDepth 100000 in
set_option maxHeartbeats 4000000 in
theorem s_b_N_weighAll_2 {F G : Nat} (hF : 100000 ≤ F) (hG : 20 ≤ G) {C : St}   : ∀ (f : Nat) (w1 : Int32) (S : St), iv w1 (0) (10) → Inv C S → (10) - w1.toInt + 1 ≤ (f : Int) → Sf (fx2 (b_N_weighAll_2 F G)  f w1 S) (fun r => Inv C r) := by
  intro f
  induction f with
  | zero => intro w1 S h_w1 hS_S hm; exact (ms_zu h_w1 hm).elim
  | succ f hrec =>
    intro w1 S h_w1 hS_S hm
    replace hm := ms_s hm
    show Sf (b_N_weighAll_2 F G (fx2 (b_N_weighAll_2 F G)  f) w1 S) _
    generalize fx2 (b_N_weighAll_2 F G)  f = rec at hrec ⊢
    unfold b_N_weighAll_2
    refine sf_gd (sco hS_S hS_S.told) ?_
    refine sf_ite (fun c1 => ?_) (fun c1 => ?_)
    · exact sf_some hS_S
    · have f2 : iv _ (0) (9) := iv_ltA (Int32.not_le.mp c1) h_w1 (sco_6 hS_S hS_S.told) rfl
      have f3 : iv _ (1) (10) := iv_ltB (Int32.not_le.mp c1) h_w1 (sco_6 hS_S hS_S.told) rfl
      refine sf_bd2 (s_fN_missedOf hF hG hS_S f2) (fun v4 S5 hq => ?_)
      obtain ⟨h_v4, hS_S5⟩ := hq
      refine sf_gd (inB_iv f2 rfl) ?_
      refine sf_ltS0 (str_62 hS_S5 _ (iv_top _)) (fun S7 hS_S7 => ?_)
      refine sf_ltI (iv_add (l := 1) (u := 10) f2 kv_1 rfl) (fun v9 h_v9 e_v9 => ?_)
      exact hrec _ _ (iv_w (l := 1) (u := 10) h_v9 rfl) hS_S7 (ms_up e_v9 f2 rfl hm)
set_option maxRecDepth 100000 in
set_option maxHeartbeats 4000000 in
theorem s_fN_weighAll {F G : Nat} (hF : 100000 ≤ F) (hG : 20 ≤ G) {C : St} {S : St} (hS_S : Inv C S) : Sf (fN_weighAll F G S) (fun r => Inv C r) := by
  unfold fN_weighAll
  exact s_b_N_weighAll_2 hF hG  F _ _ (iv_w (l := 0) (u := 0) kv_0 rfl) hS_S (ms_iu kv_0 hF rfl)
set_option maxRecDepth 100000 in
set_option maxHeartbeats 4000000 in
theorem s_b_A_findBars_4 {F G : Nat} (hF : 100000 ≤ F) (hG : 20 ≤ G) {C : St} {S : St} (hS_S : Inv C S) {z1 : Int32} (h_z1 : iv z1 (0) (9)) {k49 : Int32 → Option (St)} (hk49 : ∀ (x0 : Int32), Sf (k49 x0) (fun r => Inv C r))  : ∀ (f : Nat) (w2 : Int32) (w3 : Int32), iv w3 (0) (12) → (12) - w3.toInt + 1 ≤ (f : Int) → Sf (fx2 (b_A_findBars_4 F G S z1 k49)  f w2 w3) (fun r => Inv C r) := by
  intro f
  induction f with
  | zero => intro w2 w3 h_w3 hm; exact (ms_zu h_w3 hm).elim
  | succ f hrec =>
    intro w2 w3 h_w3 hm
    replace hm := ms_s hm
    show Sf (b_A_findBars_4 F G S z1 k49 (fx2 (b_A_findBars_4 F G S z1 k49)  f) w2 w3) _
    generalize fx2 (b_A_findBars_4 F G S z1 k49)  f = rec at hrec ⊢
    unfold b_A_findBars_4
    refine sf_ite (fun c1 => ?_) (fun c1 => ?_)
    · exact hk49 _ 
    · have f2 : iv _ (0) (11) := iv_ltA (Int32.not_le.mp c1) h_w3 (cell_57_0 hS_S) rfl
      have f3 : iv _ (1) (12) := iv_ltB (Int32.not_le.mp c1) h_w3 (cell_57_0 hS_S) rfl
      refine sf_bd (s_fK_timelyAt hF hG hS_S (iv_w (l := 0) (u := 11) f2 rfl)) (fun v3 h_v3 => ?_)
      refine sf_ite (fun c4 => ?_) (fun c4 => ?_)
      · have f5 : iv _ (0) (0) := iv_eqA c4 kv_0
        refine sf_ltI (iv_top _) (fun v5 h_v5 e_v5 => ?_)
        refine sf_ltI (iv_add (l := 1) (u := 12) f2 kv_1 rfl) (fun v7 h_v7 e_v7 => ?_)
        exact hrec _ _ (iv_w (l := 1) (u := 12) h_v7 rfl) (ms_up e_v7 f2 rfl hm)
      · have f6 : iv _ (1) (1) := iv_neL c4 (iv_andR (u := 1) kv_1 rfl) kv_0 rfl
        refine sf_ltI (iv_top _) (fun v9 h_v9 e_v9 => ?_)
        refine sf_ltI (iv_add (l := 1) (u := 12) f2 kv_1 rfl) (fun v11 h_v11 e_v11 => ?_)
        exact hrec _ _ (iv_w (l := 1) (u := 12) h_v11 rfl) (ms_up e_v11 f2 rfl hm)
set_option maxRecDepth 100000 in
set_option maxHeartbeats 4000000 in
theorem s_j_A_findBars_172 {F G : Nat} (hF : 100000 ≤ F) (hG : 20 ≤ G) {C : St} {z1 : Int32} (h_z1 : iv z1 (0) (9)) {z2 : Int32} {S : St} (hS_S : Inv C S) {y3 : Int32} (h_y3 : iv y3 (0) (9)) {y4 : Int32} {s1 : Int32} (h_s1 : iv s1 (0) (9)) {s2 : Int32} {s3 : Int32} (h_s3 : iv s3 (0) (999)) {rec : Int32 → St → Option (St)} {M : Int} (hrec : ∀ (w3 : Int32) (S : St), iv w3 (0) (10) → Inv C S → (10) - w3.toInt + 1 ≤ M → Sf (rec w3 S) (fun r => Inv C r)) (hm : (10) - y3.toInt ≤ M) : Sf (j_A_findBars_172 F G z1 z2 rec S y3 y4 s1 s2 s3) (fun r => Inv C r) := by
  unfold j_A_findBars_172
  refine sf_gd (inB_iv h_s1 rfl) ?_
  refine sf_ltS0 (str_64 hS_S _ (iv_top _)) (fun S43 hS_S43 => ?_)
  refine sf_gd (inB_iv h_z1 rfl) ?_
  refine sf_ite (fun c1 => ?_) (fun c1 => ?_)
  · have f2 : iv _ (-2147483648) (-1) := iv_ltA c1 (iv_top _) kv_0 rfl
    refine sf_gd (inB_iv h_z1 rfl) ?_
    refine sf_ltS0 (str_65 hS_S43 _ (iv_top _)) (fun S48 hS_S48 => ?_)
    refine sf_ltI (iv_add (l := 1) (u := 10) h_y3 kv_1 rfl) (fun v50 h_v50 e_v50 => ?_)
    exact hrec _ _ (iv_w (l := 1) (u := 10) h_v50 rfl) hS_S48 (ms_up e_v50 h_y3 rfl hm)
  · have f3 : iv _ (0) (2147483647) := iv_leB (Int32.not_lt.mp c1) kv_0 (iv_top _) rfl
    refine sf_gd (inB_iv h_z1 rfl) ?_
    refine sf_ltS0 (str_65 hS_S43 _ (iv_top _)) (fun S53 hS_S53 => ?_)
    refine sf_ltI (iv_add (l := 1) (u := 10) h_y3 kv_1 rfl) (fun v55 h_v55 e_v55 => ?_)
    exact hrec _ _ (iv_w (l := 1) (u := 10) h_v55 rfl) hS_S53 (ms_up e_v55 h_y3 rfl hm)
set_option maxRecDepth 100000 in
set_option maxHeartbeats 4000000 in
theorem s_j_A_findBars_151 {F G : Nat} (hF : 100000 ≤ F) (hG : 20 ≤ G) {C : St} {z1 : Int32} (h_z1 : iv z1 (0) (9)) {z2 : Int32} {S : St} (hS_S : Inv C S) {y3 : Int32} (h_y3 : iv y3 (0) (9)) {y4 : Int32} {s1 : Int32} (h_s1 : iv s1 (0) (9)) {s2 : Int32} {s3 : Int32} (h_s3 : iv s3 (0) (999)) {rec : Int32 → St → Option (St)} {M : Int} (hrec : ∀ (w3 : Int32) (S : St), iv w3 (0) (10) → Inv C S → (10) - w3.toInt + 1 ≤ M → Sf (rec w3 S) (fun r => Inv C r)) (hm : (10) - y3.toInt ≤ M) : Sf (j_A_findBars_151 F G z1 z2 rec S y3 y4 s1 s2 s3) (fun r => Inv C r) := by
  unfold j_A_findBars_151
  refine sf_gd (inB_iv h_s1 rfl) ?_
  refine sf_ltS0 (str_63 hS_S _ (iv_top _)) (fun S38 hS_S38 => ?_)
  refine sf_gd (inB_iv h_z1 rfl) ?_
  refine sf_ite (fun c1 => ?_) (fun c1 => ?_)
  · have f2 : iv _ (1) (2147483647) := iv_ltB c1 kv_0 (iv_top _) rfl
    exact s_j_A_findBars_172 hF hG h_z1 hS_S38 h_y3 h_z1 (iv_w (l := 0) (u := 0) kv_0 rfl) hrec hm
  · have f3 : iv _ (-2147483648) (0) := iv_leA (Int32.not_lt.mp c1) (iv_top _) kv_0 rfl
    exact s_j_A_findBars_172 hF hG h_z1 hS_S38 h_y3 h_z1 (iv_w (l := 1) (u := 512) (iv_shl (u := 512) h_y3 rfl) rfl) hrec hm
set_option maxRecDepth 100000 in
set_option maxHeartbeats 4000000 in
theorem s_j_A_findBars_144 {F G : Nat} (hF : 100000 ≤ F) (hG : 20 ≤ G) {C : St} {z1 : Int32} (h_z1 : iv z1 (0) (9)) {z2 : Int32} {S : St} (hS_S : Inv C S) {y3 : Int32} (h_y3 : iv y3 (0) (9)) {y4 : Int32} {s1 : Int32} (h_s1 : iv s1 (0) (9)) {s2 : Int32} {rec : Int32 → St → Option (St)} {M : Int} (hrec : ∀ (w3 : Int32) (S : St), iv w3 (0) (10) → Inv C S → (10) - w3.toInt + 1 ≤ M → Sf (rec w3 S) (fun r => Inv C r)) (hm : (10) - y3.toInt ≤ M) : Sf (j_A_findBars_144 F G z1 z2 rec S y3 y4 s1 s2) (fun r => Inv C r) := by
  unfold j_A_findBars_144
  exact s_j_A_findBars_151 hF hG h_z1 hS_S h_y3 h_s1 (iv_w (l := 1) (u := 512) (iv_shl (u := 512) h_y3 rfl) rfl) hrec hm
set_option maxRecDepth 100000 in
set_option maxHeartbeats 4000000 in
theorem s_b_A_findBars_72 {F G : Nat} (hF : 100000 ≤ F) (hG : 20 ≤ G) {C : St} {z1 : Int32} (h_z1 : iv z1 (0) (9)) {z2 : Int32}  : ∀ (f : Nat) (w3 : Int32) (S : St), iv w3 (0) (10) → Inv C S → (10) - w3.toInt + 1 ≤ (f : Int) → Sf (fx2 (b_A_findBars_72 F G z1 z2)  f w3 S) (fun r => Inv C r) := by
  intro f
  induction f with
  | zero => intro w3 S h_w3 hS_S hm; exact (ms_zu h_w3 hm).elim
  | succ f hrec =>
    intro w3 S h_w3 hS_S hm
    replace hm := ms_s hm
    show Sf (b_A_findBars_72 F G z1 z2 (fx2 (b_A_findBars_72 F G z1 z2)  f) w3 S) _
    generalize fx2 (b_A_findBars_72 F G z1 z2)  f = rec at hrec ⊢
    unfold b_A_findBars_72
    refine sf_ite (fun c1 => ?_) (fun c1 => ?_)
    · exact sf_some hS_S
    · have f2 : iv _ (0) (9) := iv_ltA (Int32.not_le.mp c1) h_w3 (cell_57_1 hS_S) rfl
      have f3 : iv _ (1) (10) := iv_ltB (Int32.not_le.mp c1) h_w3 (cell_57_1 hS_S) rfl
      refine sf_ite (fun c4 => ?_) (fun c4 => ?_)
      · refine sf_ltI (iv_add (l := 1) (u := 10) f2 kv_1 rfl) (fun v25 h_v25 e_v25 => ?_)
        exact hrec _ _ (iv_w (l := 1) (u := 10) h_v25 rfl) hS_S (ms_up e_v25 f2 rfl hm)
      · refine sf_ite (fun c5 => ?_) (fun c5 => ?_)
        · have f6 : iv _ (0) (0) := iv_eqA c5 kv_0
          refine sf_ltI (iv_add (l := 1) (u := 10) f2 kv_1 rfl) (fun v28 h_v28 e_v28 => ?_)
          exact hrec _ _ (iv_w (l := 1) (u := 10) h_v28 rfl) hS_S (ms_up e_v28 f2 rfl hm)
        · have f7 : iv _ (1) (1) := iv_neL c5 (iv_andR (u := 1) kv_1 rfl) kv_0 rfl
          refine sf_gd (inB_iv f2 rfl) ?_
          refine sf_gd (inB_iv h_z1 rfl) ?_
          refine sf_ltI (iv_top _) (fun v32 h_v32 e_v32 => ?_)
          refine sf_gd (inB_iv h_z1 rfl) ?_
          refine sf_ite (fun c8 => ?_) (fun c8 => ?_)
          · have f9 : iv _ (0) (0) := iv_eqA c8 kv_0
            exact s_j_A_findBars_144 hF hG h_z1 hS_S f2 h_z1 hrec hm
          · refine sf_ite (fun c10 => ?_) (fun c10 => ?_)
            · exact s_j_A_findBars_151 hF hG h_z1 hS_S f2 h_z1 (iv_w (l := 0) (u := 0) kv_0 rfl) hrec hm
            · have f11 : iv _ (-2147483648) (2147483646) := iv_ltA (Int32.not_le.mp c10) (iv_top _) (iv_top _) rfl
              have f12 : iv _ (-2147483647) (2147483647) := iv_ltB (Int32.not_le.mp c10) (iv_top _) (iv_top _) rfl
              exact s_j_A_findBars_144 hF hG h_z1 hS_S f2 h_z1 hrec hm
set_option maxRecDepth 100000 in
set_option maxHeartbeats 4000000 in
theorem s_fA_findBars {F G : Nat} (hF : 100000 ≤ F) (hG : 20 ≤ G) {C : St} {S : St} (hS_S : Inv C S) {p1 : Int32} (h_p1 : iv p1 (0) (9)) : Sf (fA_findBars F G S p1) (fun r => Inv C r) := by
  unfold fA_findBars
  refine s_b_A_findBars_4 hF hG hS_S h_p1 ?_ F _ _ (iv_w (l := 0) (u := 0) kv_0 rfl) (ms_iu kv_0 hF rfl)
  · intro v13
    refine sf_gd (inB_iv h_p1 rfl) ?_
    refine sf_ltS0 (str_63 hS_S _ (iv_top _)) (fun S15 hS_S15 => ?_)
    refine sf_gd (inB_iv h_p1 rfl) ?_
    refine sf_ltS0 (str_64 hS_S15 _ (iv_top _)) (fun S18 hS_S18 => ?_)
    refine sf_gd (inB_iv h_p1 rfl) ?_
    refine sf_ltS0 (str_65 hS_S18 _ (iv_top _)) (fun S21 hS_S21 => ?_)
    exact s_b_A_findBars_72 hF hG h_p1 F _ _ (iv_w (l := 0) (u := 0) kv_0 rfl) hS_S21 (ms_iu kv_0 hF rfl)
set_option maxRecDepth 100000 in
set_option maxHeartbeats 4000000 in
theorem s_b_A_findSettledLeaps_9 {F G : Nat} (hF : 100000 ≤ F) (hG : 20 ≤ G) {C : St} {z1 : Int32} (h_z1 : iv z1 (0) (9))  : ∀ (f : Nat) (w2 : Int32) (S : St), iv w2 (1) (12) → Inv C S → (12) - w2.toInt + 1 ≤ (f : Int) → Sf (fx2 (b_A_findSettledLeaps_9 F G z1)  f w2 S) (fun r => Inv C r) := by
  intro f
  induction f with
  | zero => intro w2 S h_w2 hS_S hm; exact (ms_zu h_w2 hm).elim
  | succ f hrec =>
    intro w2 S h_w2 hS_S hm
    replace hm := ms_s hm
    show Sf (b_A_findSettledLeaps_9 F G z1 (fx2 (b_A_findSettledLeaps_9 F G z1)  f) w2 S) _
    generalize fx2 (b_A_findSettledLeaps_9 F G z1)  f = rec at hrec ⊢
    unfold b_A_findSettledLeaps_9
    refine sf_ite (fun c1 => ?_) (fun c1 => ?_)
    · exact sf_some hS_S
    · have f2 : iv _ (1) (11) := iv_ltA (Int32.not_le.mp c1) h_w2 (cell_57_0 hS_S) rfl
      have f3 : iv _ (2) (12) := iv_ltB (Int32.not_le.mp c1) h_w2 (cell_57_0 hS_S) rfl
      refine sf_bd (s_fK_timelyAt hF hG hS_S (iv_w (l := 0) (u := 10) (iv_sub (l := 0) (u := 10) f2 kv_1 rfl) rfl)) (fun v6 h_v6 => ?_)
      refine sf_bd (s_fK_timelyAt hF hG hS_S (iv_w (l := 1) (u := 11) f2 rfl)) (fun v8 h_v8 => ?_)
      refine sf_ltI (iv_top _) (fun v9 h_v9 e_v9 => ?_)
      refine sf_gd (inB_iv h_z1 rfl) ?_
      refine sf_ite (fun c4 => ?_) (fun c4 => ?_)
      · have f5 : iv _ (1) (1) := iv_eqA c4 kv_1
        refine sf_gd (inB_iv h_z1 rfl) ?_
        refine sf_ltS (Q := fun T => iv (T.1 57 0) (2) (12) ∧ True) (str_66 hS_S _ (iv_top _)) ⟨f3, trivial⟩ (fun S19 hS_S19 hq => ?_)
        obtain ⟨f6, -⟩ := hq
        refine sf_ltI (iv_add (l := 2) (u := 12) f2 kv_1 rfl) (fun v21 h_v21 e_v21 => ?_)
        exact hrec _ _ (iv_w (l := 2) (u := 12) h_v21 rfl) hS_S19 (ms_up e_v21 f2 rfl hm)
      · refine sf_gd (inB_iv h_z1 rfl) ?_
        refine sf_ltS (Q := fun T => iv (T.1 57 0) (2) (12) ∧ True) (str_66 hS_S _ (iv_top _)) ⟨f3, trivial⟩ (fun S14 hS_S14 hq => ?_)
        obtain ⟨f7, -⟩ := hq
        refine sf_ltI (iv_add (l := 2) (u := 12) f2 kv_1 rfl) (fun v16 h_v16 e_v16 => ?_)
        exact hrec _ _ (iv_w (l := 2) (u := 12) h_v16 rfl) hS_S14 (ms_up e_v16 f2 rfl hm)
set_option maxRecDepth 100000 in
set_option maxHeartbeats 4000000 in
theorem s_fA_findSettledLeaps {F G : Nat} (hF : 100000 ≤ F) (hG : 20 ≤ G) {C : St} {S : St} (hS_S : Inv C S) {p1 : Int32} (h_p1 : iv p1 (0) (9)) : Sf (fA_findSettledLeaps F G S p1) (fun r => Inv C r) := by
  unfold fA_findSettledLeaps
  refine sf_gd (inB_iv h_p1 rfl) ?_
  refine sf_ltS0 (str_66 hS_S _ (iv_top _)) (fun S2 hS_S2 => ?_)
  exact s_b_A_findSettledLeaps_9 hF hG h_p1 F _ _ (iv_w (l := 1) (u := 1) kv_1 rfl) hS_S2 (ms_iu kv_1 hF rfl)
set_option maxRecDepth 100000 in
set_option maxHeartbeats 4000000 in
theorem s_fA_isFreeLeft {F G : Nat} (hF : 100000 ≤ F) (hG : 20 ≤ G) {C : St} {S : St} (hS_S : Inv C S) {p1 : Int32} (h_p1 : iv p1 (0) (9)) {p2 : Int32} {p3 : Int32} : Sf (fA_isFreeLeft F G S p1 p2 p3) (fun r => iv r (0) (1)) := by
  unfold fA_isFreeLeft
  refine sf_gd (inB_iv h_p1 rfl) ?_
  refine sf_gd (inB_iv h_p1 rfl) ?_
  refine sf_ite (fun c1 => ?_) (fun c1 => ?_)
  · have f2 : iv _ (0) (0) := iv_eqA c1 kv_0
    exact sf_some (iv_w (l := 1) (u := 1) kv_1 rfl)
  · exact sf_some (iv_w (l := 0) (u := 0) kv_0 rfl)
set_option maxRecDepth 100000 in
set_option maxHeartbeats 4000000 in
theorem s_b_A_fingersReach_23 {F G : Nat} (hF : 100000 ≤ F) (hG : 20 ≤ G) {C : St} {S : St} (hS_S : Inv C S) {z1 : Int32} (h_z1 : iv z1 (0) (9)) {z2 : Int32} {z3 : Int32} (h_z3 : iv z3 (0) (1))  : ∀ (f : Nat) (w4 : Int32), iv w4 (0) (12) → (12) - w4.toInt + 1 ≤ (f : Int) → Sf (fx1 (b_A_fingersReach_23 F G S z1 z2 z3)  f w4) (fun r => iv r (0) (1)) := by
  intro f
  induction f with
  | zero => intro w4 h_w4 hm; exact (ms_zu h_w4 hm).elim
  | succ f hrec =>
    intro w4 h_w4 hm
    replace hm := ms_s hm
    show Sf (b_A_fingersReach_23 F G S z1 z2 z3 (fx1 (b_A_fingersReach_23 F G S z1 z2 z3)  f) w4) _
    generalize fx1 (b_A_fingersReach_23 F G S z1 z2 z3)  f = rec at hrec ⊢
    unfold b_A_fingersReach_23
    refine sf_ite (fun c1 => ?_) (fun c1 => ?_)
    · have f2 : iv _ (0) (0) := iv_eqA c1 kv_0
      refine sf_ite (fun c3 => ?_) (fun c3 => ?_)
      · exact sf_some (iv_w (l := 1) (u := 1) kv_1 rfl)
      · have f4 : iv _ (0) (11) := iv_ltA (Int32.not_le.mp c3) h_w4 (cell_57_0 hS_S) rfl
        have f5 : iv _ (1) (12) := iv_ltB (Int32.not_le.mp c3) h_w4 (cell_57_0 hS_S) rfl
        refine sf_bd (s_fK_timelyAt hF hG hS_S (iv_w (l := 0) (u := 11) f4 rfl)) (fun v7 h_v7 => ?_)
        refine sf_ite (fun c6 => ?_) (fun c6 => ?_)
        · have f7 : iv _ (0) (0) := iv_eqA c6 kv_0
          refine sf_ltI (iv_add (l := 1) (u := 12) f4 kv_1 rfl) (fun v9 h_v9 e_v9 => ?_)
          exact hrec _ (iv_w (l := 1) (u := 12) h_v9 rfl) (ms_up e_v9 f4 rfl hm)
        · have f8 : iv _ (1) (1) := iv_neL c6 (iv_andR (u := 1) kv_1 rfl) kv_0 rfl
          refine sf_bd (s_fJ_bitCount hF hG hS_S) (fun v12 h_v12 => ?_)
          refine sf_ite (fun c9 => ?_) (fun c9 => ?_)
          · have f10 : iv _ (0) (2147483647) := iv_leB c9 h_v12 (iv_top _) rfl
            refine sf_ltI (iv_add (l := 1) (u := 12) f4 kv_1 rfl) (fun v14 h_v14 e_v14 => ?_)
            exact hrec _ (iv_w (l := 1) (u := 12) h_v14 rfl) (ms_up e_v14 f4 rfl hm)
          · have f11 : iv _ (-2147483648) (62) := iv_ltA (Int32.not_le.mp c9) (iv_top _) h_v12 rfl
            exact sf_some (iv_w (l := 0) (u := 0) kv_0 rfl)
    · have f12 : iv _ (1) (1) := iv_neL c1 h_z3 kv_0 rfl
      exact sf_some (iv_w (l := 1) (u := 1) kv_1 rfl)
set_option maxRecDepth 100000 in
set_option maxHeartbeats 4000000 in
theorem s_fA_fingersReach {F G : Nat} (hF : 100000 ≤ F) (hG : 20 ≤ G) {C : St} {S : St} (hS_S : Inv C S) {p1 : Int32} (h_p1 : iv p1 (0) (9)) {p2 : Int32} : Sf (fA_fingersReach F G S p1 p2) (fun r => iv r (0) (1)) := by
  unfold fA_fingersReach
  refine sf_bd (s_fJ_bitCount hF hG hS_S) (fun v2 h_v2 => ?_)
  refine sf_ite (fun c1 => ?_) (fun c1 => ?_)
  · have f2 : iv _ (-2147483648) (62) := iv_ltA c1 (iv_top _) h_v2 rfl
    exact s_b_A_fingersReach_23 hF hG hS_S h_p1 (iv_w (l := 0) (u := 0) kv_0 rfl) F _ (iv_w (l := 0) (u := 0) kv_0 rfl) (ms_iu kv_0 hF rfl)
  · have f3 : iv _ (0) (2147483647) := iv_leB (Int32.not_lt.mp c1) h_v2 (iv_top _) rfl
    exact s_b_A_fingersReach_23 hF hG hS_S h_p1 (iv_w (l := 1) (u := 1) kv_1 rfl) F _ (iv_w (l := 0) (u := 0) kv_0 rfl) (ms_iu kv_0 hF rfl)
set_option maxRecDepth 100000 in
set_option maxHeartbeats 4000000 in
theorem s_fK_leapBetween {F G : Nat} (hF : 100000 ≤ F) (hG : 20 ≤ G) {C : St} {S : St} (hS_S : Inv C S) {p1 : Int32} {p2 : Int32} : Sf (fK_leapBetween F G S p1 p2) (fun r => iv r (-2147483648) (2147483647)) := by
  unfold fK_leapBetween
  refine sf_ite (fun c1 => ?_) (fun c1 => ?_)
  · have f2 : iv _ (0) (0) := iv_eqA c1 kv_0
    exact sf_some (iv_top _)
  · refine sf_ite (fun c3 => ?_) (fun c3 => ?_)
    · have f4 : iv _ (0) (0) := iv_eqA c3 kv_0
      exact sf_some (iv_top _)
    · refine sf_bd (s_fK_lowest hF hG hS_S) (fun v4 h_v4 => ?_)
      refine sf_bd (s_fK_lowest hF hG hS_S) (fun v6 h_v6 => ?_)
      exact sf_some (iv_top _)
set_option maxRecDepth 100000 in
set_option maxHeartbeats 4000000 in
theorem s_b_A_leapsFit_11 {F G : Nat} (hF : 100000 ≤ F) (hG : 20 ≤ G) {C : St} {S : St} (hS_S : Inv C S) {z2 : Int32} {z3 : Int32} {z4 : Int32}  : ∀ (f : Nat) (w5 : Int32), iv w5 (1) (12) → (12) - w5.toInt + 1 ≤ (f : Int) → Sf (fx1 (b_A_leapsFit_11 F G S z2 z3 z4)  f w5) (fun r => iv r (0) (1)) := by
  intro f
  induction f with
  | zero => intro w5 h_w5 hm; exact (ms_zu h_w5 hm).elim
  | succ f hrec =>
    intro w5 h_w5 hm
    replace hm := ms_s hm
    show Sf (b_A_leapsFit_11 F G S z2 z3 z4 (fx1 (b_A_leapsFit_11 F G S z2 z3 z4)  f) w5) _
    generalize fx1 (b_A_leapsFit_11 F G S z2 z3 z4)  f = rec at hrec ⊢
    unfold b_A_leapsFit_11
    refine sf_ite (fun c1 => ?_) (fun c1 => ?_)
    · have f2 : iv _ (0) (0) := iv_eqA c1 kv_0
      exact sf_some (iv_w (l := 1) (u := 1) kv_1 rfl)
    · refine sf_ite (fun c3 => ?_) (fun c3 => ?_)
      · exact sf_some (iv_w (l := 1) (u := 1) kv_1 rfl)
      · have f4 : iv _ (1) (11) := iv_ltA (Int32.not_le.mp c3) h_w5 (cell_57_0 hS_S) rfl
        have f5 : iv _ (2) (12) := iv_ltB (Int32.not_le.mp c3) h_w5 (cell_57_0 hS_S) rfl
        refine sf_ite (fun c6 => ?_) (fun c6 => ?_)
        · have f7 : iv _ (0) (0) := iv_eqA c6 kv_0
          refine sf_ltI (iv_add (l := 2) (u := 12) f4 kv_1 rfl) (fun v7 h_v7 e_v7 => ?_)
          exact hrec _ (iv_w (l := 2) (u := 12) h_v7 rfl) (ms_up e_v7 f4 rfl hm)
        · have f8 : iv _ (1) (1) := iv_neL c6 (iv_andR (u := 1) kv_1 rfl) kv_0 rfl
          refine sf_bd (s_fK_timelyAt hF hG hS_S (iv_w (l := 0) (u := 10) (iv_sub (l := 0) (u := 10) f4 kv_1 rfl) rfl)) (fun v10 h_v10 => ?_)
          refine sf_bd (s_fK_timelyAt hF hG hS_S (iv_w (l := 1) (u := 11) f4 rfl)) (fun v12 h_v12 => ?_)
          refine sf_bd (s_fK_leapBetween hF hG hS_S) (fun v14 h_v14 => ?_)
          refine sf_bd (s_fK_leapBetween hF hG hS_S) (fun v16 h_v16 => ?_)
          refine sf_ite (fun c9 => ?_) (fun c9 => ?_)
          · have f10 : iv _ (-2147483648) (2147483646) := iv_ltA c9 (iv_top _) (iv_top _) rfl
            have f11 : iv _ (-2147483647) (2147483647) := iv_ltB c9 (iv_top _) (iv_top _) rfl
            exact sf_some (iv_w (l := 0) (u := 0) kv_0 rfl)
          · refine sf_ite (fun c12 => ?_) (fun c12 => ?_)
            · refine sf_ltI (iv_add (l := 2) (u := 12) f4 kv_1 rfl) (fun v19 h_v19 e_v19 => ?_)
              exact hrec _ (iv_w (l := 2) (u := 12) h_v19 rfl) (ms_up e_v19 f4 rfl hm)
            · have f13 : iv _ (-2147483648) (2147483646) := iv_ltA (Int32.not_le.mp c12) (iv_top _) (iv_top _) rfl
              have f14 : iv _ (-2147483647) (2147483647) := iv_ltB (Int32.not_le.mp c12) (iv_top _) (iv_top _) rfl
              exact sf_some (iv_w (l := 0) (u := 0) kv_0 rfl)
set_option maxRecDepth 100000 in
set_option maxHeartbeats 4000000 in
theorem s_fA_leapsFit {F G : Nat} (hF : 100000 ≤ F) (hG : 20 ≤ G) {C : St} {S : St} (hS_S : Inv C S) {p1 : Int32} (h_p1 : iv p1 (0) (9)) {p2 : Int32} {p3 : Int32} : Sf (fA_leapsFit F G S p1 p2 p3) (fun r => iv r (0) (1)) := by
  unfold fA_leapsFit
  refine sf_gd (inB_iv h_p1 rfl) ?_
  refine sf_ltI (iv_top _) (fun v2 h_v2 e_v2 => ?_)
  exact s_b_A_leapsFit_11 hF hG hS_S F _ (iv_w (l := 1) (u := 1) kv_1 rfl) (ms_iu kv_1 hF rfl)
set_option maxRecDepth 100000 in
set_option maxHeartbeats 4000000 in
theorem s_fA_isFreeRight {F G : Nat} (hF : 100000 ≤ F) (hG : 20 ≤ G) {C : St} {S : St} (hS_S : Inv C S) {p1 : Int32} (h_p1 : iv p1 (0) (9)) {p2 : Int32} {p3 : Int32} : Sf (fA_isFreeRight F G S p1 p2 p3) (fun r => iv r (0) (1)) := by
  unfold fA_isFreeRight
  refine sf_gd (inB_iv h_p1 rfl) ?_
  refine sf_gd (inB_iv h_p1 rfl) ?_
  refine sf_ite (fun c1 => ?_) (fun c1 => ?_)
  · have f2 : iv _ (0) (0) := iv_eqA c1 kv_0
    exact sf_some (iv_w (l := 1) (u := 1) kv_1 rfl)
  · exact sf_some (iv_w (l := 0) (u := 0) kv_0 rfl)
set_option maxRecDepth 100000 in
set_option maxHeartbeats 4000000 in
theorem s_j_A_search_141 {F G : Nat} (hF : 100000 ≤ F) (hG : 20 ≤ G) {C : St} {S : St} (hS_S : Inv C S) {y1 : Int32} (h_y1 : iv y1 (0) (9)) {y2 : Int32} {y3 : Int32} {y4 : Int32} (h_y4 : iv y4 (-2147483648) (2147483646)) {P : Nat → Int32 → Int32 → Int32 → Int32 → St → Option St} {M : Int} (hP : ∀ (a1 a2 a3 a4 : Int32) (S : St), iv a1 0 10 → 11 - a1.toInt ≤ M → Inv C S → Sf (P 0 a1 a2 a3 a4 S) (fun r => Inv C r)) (hm : 11 - y1.toInt ≤ M + 1) : Sf (j_A_search_141 F G P S y1 y2 y3 y4) (fun r => Inv C r) := by
  unfold j_A_search_141
  refine sf_bd (s_fA_leapsFit hF hG hS_S h_y1) (fun v34 h_v34 => ?_)
  refine sf_ite (fun c1 => ?_) (fun c1 => ?_)
  · have f2 : iv _ (0) (0) := iv_eqA c1 kv_0
    exact sf_some hS_S
  · have f3 : iv _ (1) (1) := iv_neL c1 h_v34 kv_0 rfl
    refine sf_gd (inB_iv h_y1 rfl) ?_
    refine sf_bd (hP _ _ _ _ _ (iv_w (l := 1) (u := 10) (iv_add (l := 1) (u := 10) h_y1 kv_1 rfl) rfl) (ms_p h_y1 hm rfl) hS_S) (fun S38 hS_S38 => ?_)
    exact sf_some hS_S38
set_option maxRecDepth 100000 in
set_option maxHeartbeats 4000000 in
theorem s_j_A_search_92 {F G : Nat} (hF : 100000 ≤ F) (hG : 20 ≤ G) {C : St} {S : St} (hS_S : Inv C S) {y1 : Int32} (h_y1 : iv y1 (0) (9)) {y2 : Int32} {y3 : Int32} {y4 : Int32} (h_y4 : iv y4 (-2147483648) (2147483646)) {y5 : Int32} (h_y5 : iv y5 (1) (512)) {P : Nat → Int32 → Int32 → Int32 → Int32 → St → Option St} {M : Int} (hP : ∀ (a1 a2 a3 a4 : Int32) (S : St), iv a1 0 10 → 11 - a1.toInt ≤ M → Inv C S → Sf (P 0 a1 a2 a3 a4 S) (fun r => Inv C r)) (hm : 11 - y1.toInt ≤ M + 1) : Sf (j_A_search_92 F G P S y1 y2 y3 y4 y5) (fun r => Inv C r) := by
  unfold j_A_search_92
  refine sf_bd (s_fA_isFreeRight hF hG hS_S h_y1) (fun v23 h_v23 => ?_)
  refine sf_ite (fun c1 => ?_) (fun c1 => ?_)
  · have f2 : iv _ (0) (0) := iv_eqA c1 kv_0
    exact s_j_A_search_141 hF hG hS_S h_y1 h_y4 hP hm
  · have f3 : iv _ (1) (1) := iv_neL c1 h_v23 kv_0 rfl
    refine sf_bd (s_fA_fingersReach hF hG hS_S h_y1) (fun v26 h_v26 => ?_)
    refine sf_ite (fun c4 => ?_) (fun c4 => ?_)
    · have f5 : iv _ (0) (0) := iv_eqA c4 kv_0
      exact s_j_A_search_141 hF hG hS_S h_y1 h_y4 hP hm
    · have f6 : iv _ (1) (1) := iv_neL c4 h_v26 kv_0 rfl
      refine sf_bd (s_fA_leapsFit hF hG hS_S h_y1) (fun v29 h_v29 => ?_)
      refine sf_ite (fun c7 => ?_) (fun c7 => ?_)
      · have f8 : iv _ (0) (0) := iv_eqA c7 kv_0
        exact s_j_A_search_141 hF hG hS_S h_y1 h_y4 hP hm
      · have f9 : iv _ (1) (1) := iv_neL c7 h_v29 kv_0 rfl
        refine sf_bd (hP _ _ _ _ _ (iv_w (l := 1) (u := 10) (iv_add (l := 1) (u := 10) h_y1 kv_1 rfl) rfl) (ms_p h_y1 hm rfl) hS_S) (fun S32 hS_S32 => ?_)
        exact s_j_A_search_141 hF hG hS_S32 h_y1 h_y4 hP hm
set_option maxRecDepth 100000 in
set_option maxHeartbeats 4000000 in
theorem s_fA_search {F G : Nat} (hF : 100000 ≤ F) (hG : 20 ≤ G) {C : St} {p1 : Int32} (h_p1 : iv p1 (0) (10)) {p2 : Int32} {p3 : Int32} {p4 : Int32} {S : St} (hS_S : Inv C S) {P : Nat → Int32 → Int32 → Int32 → Int32 → St → Option St} {M : Int} (hP : ∀ (a1 a2 a3 a4 : Int32) (S : St), iv a1 0 10 → 11 - a1.toInt ≤ M → Inv C S → Sf (P 0 a1 a2 a3 a4 S) (fun r => Inv C r)) (hm : 11 - p1.toInt ≤ M + 1) : Sf (fA_search F G P p1 p2 p3 p4 S) (fun r => Inv C r) := by
  unfold fA_search
  refine sf_ite (fun c1 => ?_) (fun c1 => ?_)
  · have f2 : iv _ (-2147483648) (2147483646) := iv_ltA c1 (iv_top _) (iv_top _) rfl
    have f3 : iv _ (-2147483647) (2147483647) := iv_ltB c1 (iv_top _) (iv_top _) rfl
    refine sf_ite (fun c4 => ?_) (fun c4 => ?_)
    · have f5 : iv _ (0) (9) := iv_ltA c4 h_p1 (cell_57_1 hS_S) rfl
      have f6 : iv _ (1) (10) := iv_ltB c4 h_p1 (cell_57_1 hS_S) rfl
      refine sf_ltI (iv_shl (u := 512) f5 rfl) (fun v3 h_v3 e_v3 => ?_)
      refine sf_bd (s_fA_isFreeLeft hF hG hS_S f5) (fun v6 h_v6 => ?_)
      refine sf_ite (fun c7 => ?_) (fun c7 => ?_)
      · have f8 : iv _ (0) (0) := iv_eqA c7 kv_0
        exact s_j_A_search_92 hF hG hS_S f5 f2 h_v3 hP hm
      · have f9 : iv _ (1) (1) := iv_neL c7 h_v6 kv_0 rfl
        refine sf_bd (s_fA_fingersReach hF hG hS_S f5) (fun v9 h_v9 => ?_)
        refine sf_ite (fun c10 => ?_) (fun c10 => ?_)
        · have f11 : iv _ (0) (0) := iv_eqA c10 kv_0
          exact s_j_A_search_92 hF hG hS_S f5 f2 h_v3 hP hm
        · have f12 : iv _ (1) (1) := iv_neL c10 h_v9 kv_0 rfl
          refine sf_bd (s_fA_leapsFit hF hG hS_S f5) (fun v12 h_v12 => ?_)
          refine sf_ite (fun c13 => ?_) (fun c13 => ?_)
          · have f14 : iv _ (0) (0) := iv_eqA c13 kv_0
            exact s_j_A_search_92 hF hG hS_S f5 f2 h_v3 hP hm
          · have f15 : iv _ (1) (1) := iv_neL c13 h_v12 kv_0 rfl
            refine sf_bd (hP _ _ _ _ _ (iv_w (l := 1) (u := 10) (iv_add (l := 1) (u := 10) f5 kv_1 rfl) rfl) (ms_p f5 hm rfl) hS_S) (fun S15 hS_S15 => ?_)
            exact s_j_A_search_92 hF hG hS_S15 f5 f2 h_v3 hP hm
    · refine sf_ltS (Q := fun T => iv (T.1 56 2) (-2147483648) (2147483646) ∧ True) (st_56_2 hS_S (iv_top _)) ⟨(nwc f2), trivial⟩ (fun S16 hS_S16 hq => ?_)
      obtain ⟨f16, -⟩ := hq
      refine sf_ltS (Q := fun T => iv (T.1 56 2) (-2147483648) (2147483646) ∧ True) (st_56_3 hS_S16 (iv_top _)) ⟨f16, trivial⟩ (fun S18 hS_S18 hq => ?_)
      obtain ⟨f17, -⟩ := hq
      refine sf_ltS (Q := fun T => iv (T.1 56 2) (-2147483648) (2147483646) ∧ True) (st_56_4 hS_S18 (iv_top _)) ⟨f17, trivial⟩ (fun S20 hS_S20 hq => ?_)
      obtain ⟨f18, -⟩ := hq
      exact sf_some hS_S20
  · exact sf_some hS_S
theorem s_find {F G : Nat} (hF : 100000 ≤ F) (hG : 20 ≤ G) {C : St} : ∀ (n : Nat) (p1 p2 p3 p4 : Int32) (S : St), iv p1 0 10 → 11 - p1.toInt ≤ (n : Int) → Inv C S → Sf (fA_find F G n 0 p1 p2 p3 p4 S) (fun r => Inv C r) := by
  intro n
  induction n with
  | zero => intro p1 p2 p3 p4 S h hm _; have := h.2; omega
  | succ n ih =>
    intro p1 p2 p3 p4 S h hm hS
    show Sf (if (0 : Nat) = 0 then fA_search F G (fA_find F G n) p1 p2 p3 p4 S else none) _
    rw [if_pos rfl]
    exact s_fA_search hF hG h hS (M := (n : Int)) (fun a1 a2 a3 a4 S h1 h2 h3 => ih a1 a2 a3 a4 S h1 h2 h3) (by omega)
theorem s_fA_find {F G : Nat} (hF : 100000 ≤ F) (hG : 20 ≤ G) {C : St} {p1 p2 p3 p4 : Int32} (h : iv p1 0 10) {S : St} (hS : Inv C S) : Sf (fA_find F G G 0 p1 p2 p3 p4 S) (fun r => Inv C r) := s_find hF hG G p1 p2 p3 p4 S h (by have := h.1; omega) hS
set_option maxRecDepth 100000 in
set_option maxHeartbeats 4000000 in
theorem s_b_A_arrange_2 {F G : Nat} (hF : 100000 ≤ F) (hG : 20 ≤ G) {C : St} {k29 : St → Option (St)} (hk29 : ∀ (x0 : St), Inv C x0 → Sf (k29 x0) (fun r => Inv C r))  : ∀ (f : Nat) (w1 : Int32) (S : St), iv w1 (0) (10) → Inv C S → (10) - w1.toInt + 1 ≤ (f : Int) → Sf (fx2 (b_A_arrange_2 F G k29)  f w1 S) (fun r => Inv C r) := by
  intro f
  induction f with
  | zero => intro w1 S h_w1 hS_S hm; exact (ms_zu h_w1 hm).elim
  | succ f hrec =>
    intro w1 S h_w1 hS_S hm
    replace hm := ms_s hm
    show Sf (b_A_arrange_2 F G k29 (fx2 (b_A_arrange_2 F G k29)  f) w1 S) _
    generalize fx2 (b_A_arrange_2 F G k29)  f = rec at hrec ⊢
    unfold b_A_arrange_2
    refine sf_ite (fun c1 => ?_) (fun c1 => ?_)
    · exact hk29 _ hS_S
    · have f2 : iv _ (0) (9) := iv_ltA (Int32.not_le.mp c1) h_w1 (cell_57_1 hS_S) rfl
      have f3 : iv _ (1) (10) := iv_ltB (Int32.not_le.mp c1) h_w1 (cell_57_1 hS_S) rfl
      refine sf_bd (s_fA_findBars hF hG hS_S f2) (fun S3 hS_S3 => ?_)
      refine sf_bd (s_fA_findSettledLeaps hF hG hS_S3 f2) (fun S5 hS_S5 => ?_)
      refine sf_ltI (iv_add (l := 1) (u := 10) f2 kv_1 rfl) (fun v6 h_v6 e_v6 => ?_)
      exact hrec _ _ (iv_w (l := 1) (u := 10) h_v6 rfl) hS_S5 (ms_up e_v6 f2 rfl hm)
set_option maxRecDepth 100000 in
set_option maxHeartbeats 4000000 in
theorem s_fA_arrange {F G : Nat} (hF : 100000 ≤ F) (hG : 20 ≤ G) {C : St} {S : St} (hS_S : Inv C S) : Sf (fA_arrange F G S) (fun r => Inv C r) := by
  unfold fA_arrange
  refine s_b_A_arrange_2 hF hG ?_ F _ _ (iv_w (l := 0) (u := 0) kv_0 rfl) hS_S (ms_iu kv_0 hF rfl)
  · intro S8 hS_S8
    refine sf_ltS (Q := fun T => iv (T.1 56 2) (9991) (9991) ∧ True) (st_56_2 hS_S8 (iv_top _)) ⟨(nwc kv_9991), trivial⟩ (fun S9 hS_S9 hq => ?_)
    obtain ⟨f1, -⟩ := hq
    refine sf_ltS (Q := fun T => iv (T.1 56 2) (9991) (9991) ∧ iv (T.1 56 3) (0) (0) ∧ True) (st_56_3 hS_S9 (iv_top _)) ⟨f1, (nwc kv_0), trivial⟩ (fun S11 hS_S11 hq => ?_)
    obtain ⟨f2, f3, -⟩ := hq
    refine sf_ltS (Q := fun T => iv (T.1 56 2) (9991) (9991) ∧ iv (T.1 56 3) (0) (0) ∧ iv (T.1 56 4) (0) (0) ∧ True) (st_56_4 hS_S11 (iv_top _)) ⟨f2, f3, (nwc kv_0), trivial⟩ (fun S13 hS_S13 hq => ?_)
    obtain ⟨f4, f5, f6, -⟩ := hq
    refine sf_bd (s_fA_find hF hG (iv_w (l := 0) (u := 0) kv_0 rfl) hS_S13) (fun S16 hS_S16 => ?_)
    exact sf_some hS_S16
set_option maxRecDepth 100000 in
set_option maxHeartbeats 4000000 in
theorem s_fA_handOf {F G : Nat} (hF : 100000 ≤ F) (hG : 20 ≤ G) {C : St} {S : St} (hS_S : Inv C S) {p1 : Int32} (h_p1 : iv p1 (0) (9)) : Sf (fA_handOf F G S p1) (fun r => iv r (0) (2)) := by
  unfold fA_handOf
  refine sf_ite (fun c1 => ?_) (fun c1 => ?_)
  · have f2 : iv _ (0) (0) := iv_eqA c1 kv_0
    refine sf_ite (fun c3 => ?_) (fun c3 => ?_)
    · have f4 : iv _ (0) (0) := iv_eqA c3 kv_0
      exact sf_some (iv_w (l := 0) (u := 0) kv_0 rfl)
    · have f5 : iv _ (1) (1) := iv_neL c3 (iv_andR (u := 1) kv_1 rfl) kv_0 rfl
      exact sf_some (iv_w (l := 2) (u := 2) kv_2 rfl)
  · have f6 : iv _ (1) (1) := iv_neL c1 (iv_andR (u := 1) kv_1 rfl) kv_0 rfl
    exact sf_some (iv_w (l := 1) (u := 1) kv_1 rfl)
set_option maxRecDepth 100000 in
set_option maxHeartbeats 4000000 in
theorem s_b_N_layLeastMissed_33 {F G : Nat} (hF : 100000 ≤ F) (hG : 20 ≤ G) {C : St}   : ∀ (f : Nat) (w3 : Int32) (S : St), iv w3 (0) (10) → Inv C S → (10) - w3.toInt + 1 ≤ (f : Int) → Sf (fx2 (b_N_layLeastMissed_33 F G)  f w3 S) (fun r => Inv C r) := by
  intro f
  induction f with
  | zero => intro w3 S h_w3 hS_S hm; exact (ms_zu h_w3 hm).elim
  | succ f hrec =>
    intro w3 S h_w3 hS_S hm
    replace hm := ms_s hm
    show Sf (b_N_layLeastMissed_33 F G (fx2 (b_N_layLeastMissed_33 F G)  f) w3 S) _
    generalize fx2 (b_N_layLeastMissed_33 F G)  f = rec at hrec ⊢
    unfold b_N_layLeastMissed_33
    refine sf_gd (sco hS_S hS_S.told) ?_
    refine sf_ite (fun c1 => ?_) (fun c1 => ?_)
    · refine sf_ltS0 (st_0_12 hS_S (sco_6 hS_S hS_S.told)) (fun S13 hS_S13 => ?_)
      exact sf_some hS_S13
    · have f2 : iv _ (0) (9) := iv_ltA (Int32.not_le.mp c1) h_w3 (sco_6 hS_S hS_S.told) rfl
      have f3 : iv _ (1) (10) := iv_ltB (Int32.not_le.mp c1) h_w3 (sco_6 hS_S hS_S.told) rfl
      refine sf_bd (s_fA_handOf hF hG hS_S f2) (fun v16 h_v16 => ?_)
      refine sf_gd (inB_iv f2 rfl) ?_
      refine sf_ltS0 (str_77 hS_S _ (iv_top _)) (fun S18 hS_S18 => ?_)
      refine sf_ltI (iv_add (l := 1) (u := 10) f2 kv_1 rfl) (fun v20 h_v20 e_v20 => ?_)
      exact hrec _ _ (iv_w (l := 1) (u := 10) h_v20 rfl) hS_S18 (ms_up e_v20 f2 rfl hm)
set_option maxRecDepth 100000 in
set_option maxHeartbeats 4000000 in
theorem s_fN_layLeastMissed {F G : Nat} (hF : 100000 ≤ F) (hG : 20 ≤ G) {C : St} {S : St} (hS_S : Inv C S) {p1 : Int32} {p2 : Int32} : Sf (fN_layLeastMissed F G S p1 p2) (fun r => Inv C r) := by
  unfold fN_layLeastMissed
  refine sf_bd (s_fN_lookAtKeys hF hG hS_S) (fun S2 hS_S2 => ?_)
  refine sf_bd (s_fN_weighAll hF hG hS_S2) (fun S4 hS_S4 => ?_)
  refine sf_ltS0 (st_57_3 hS_S4 (iv_top _)) (fun S5 hS_S5 => ?_)
  refine sf_ltS0 (st_57_2 hS_S5 (iv_top _)) (fun S7 hS_S7 => ?_)
  refine sf_bd (s_fA_arrange hF hG hS_S7) (fun S10 hS_S10 => ?_)
  exact s_b_N_layLeastMissed_33 hF hG  F _ _ (iv_w (l := 0) (u := 0) kv_0 rfl) hS_S10 (ms_iu kv_0 hF rfl)
set_option maxRecDepth 100000 in
set_option maxHeartbeats 4000000 in
theorem s_fN_version {F G : Nat} (hF : 100000 ≤ F) (hG : 20 ≤ G) {C : St} {S : St} (hS_S : Inv C S) {p1 : Int32} : Sf2 (fN_version F G S p1) (fun r S2 => iv r (-2147483648) (2147483647) ∧ Inv C S2) := by
  unfold fN_version
  refine sg_gd (sco hS_S hS_S.told) ?_
  refine sg_bd (s_fN_layLeastMissed hF hG hS_S) (fun S3 hS_S3 => ?_)
  refine sg_ite (fun c1 => ?_) (fun c1 => ?_)
  · have f2 : iv _ (0) (0) := iv_eqA c1 kv_0
    exact sg_some (iv_top _) hS_S3
  · refine sg_ite (fun c3 => ?_) (fun c3 => ?_)
    · have f4 : iv _ (1) (1) := iv_eqA c3 kv_1
      refine sg_bd (s_fJ_bitCount hF hG hS_S3) (fun v7 h_v7 => ?_)
      exact sg_some (iv_top _) hS_S3
    · exact sg_some (iv_top _) hS_S3
theorem s_b_M_power_4 {F G : Nat} {S : St} {z1 : Int32} (hz : z1 = 3) {z2 : Int32} (h2 : iv z2 0 10) : ∀ (f j : Nat) (w3 w4 : Int32), w3 = nI (3 ^ j) → w4 = nI j → j ≤ 10 → 11 - j ≤ f → Sf (fx2 (b_M_power_4 F G S z1 z2) f w3 w4) (fun r => iv r 1 59049) := by
  intro f
  induction f with
  | zero => intro j w3 w4 h3 h4 hj hm; omega
  | succ f ih =>
    intro j w3 w4 h3 h4 hj hm
    show Sf (b_M_power_4 F G S z1 z2 (fx2 (b_M_power_4 F G S z1 z2) f) w3 w4) _
    generalize fx2 (b_M_power_4 F G S z1 z2) f = rec at ih ⊢
    unfold b_M_power_4
    subst h3 h4 hz
    refine sf_ite (fun c => sf_some ?_) (fun c => ?_)
    · have hp : (3 : Nat) ^ j ≤ 3 ^ 10 := Nat.pow_le_pow_right (by decide) hj
      have hq : 0 < (3 : Nat) ^ j := Nat.pow_pos (by decide)
      unfold iv
      rw [tn_nI (by omega)]
      omega
    · have h := Int32.lt_iff_toInt_lt.mp (Int32.not_le.mp c)
      rw [tn_nI (by omega)] at h
      have hj2 : j < 10 := by have := h2.2; omega
      refine ih (j + 1) _ _ ?_ (by rw [nI_1]) (by omega) (by omega)
      exact (by decide +kernel : ∀ j, j < 10 → nI (3 ^ j) * (3 : Int32) = nI (3 ^ (j + 1))) j hj2
theorem s_fM_power {F G : Nat} (hF : 100000 ≤ F) (hG : 20 ≤ G) {C : St} {S : St} (hS_S : Inv C S) {p1 : Int32} (h_p1 : iv p1 (3) (3)) {p2 : Int32} (h_p2 : iv p2 (0) (10)) : Sf (fM_power F G S p1 p2) (fun r => iv r (1) (59049)) := by
  unfold fM_power
  have e : p1 = 3 := Int32.toInt_inj.mp (by have := h_p1.1; have := h_p1.2; show _ = (3 : Int); omega)
  exact s_b_M_power_4 e h_p2 F 0 1 0 rfl rfl (by omega) (by omega)
