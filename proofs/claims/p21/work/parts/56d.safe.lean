/-! SAFETY of the questions -/
set_option maxRecDepth 100000 in
set_option maxHeartbeats 4000000 in
theorem s_fN_leaps {F G : Nat} (hF : 100000 ≤ F) (hG : 20 ≤ G) {C : St} {S : St} (hS_S : Inv C S) {p1 : Int32} : Sf2 (fN_leaps F G S p1) (fun r S2 => iv r (-2147483648) (2147483647) ∧ Inv C S2) := by
  unfold fN_leaps
  refine sg_bd (s_fN_isHand hF hG hS_S) (fun v2 h_v2 => ?_)
  obtain ⟨h_v2, k_v2⟩ := h_v2
  refine sg_ite (fun c1 => ?_) (fun c1 => ?_)
  · have f2 : iv _ (0) (0) := iv_eqA c1 kv_0
    exact sg_some (iv_top _) hS_S
  · have f3 : iv _ (1) (2) := k_v2 c1
    have f4 : iv _ (1) (1) := iv_neL c1 h_v2 kv_0 rfl
    refine sg_bd (s_fN_lookAtKeys hF hG hS_S) (fun S5 hS_S5 => ?_)
    exact s_b_N_leaps_17 hF hG hS_S5 f3 F _ _ (iv_w (l := 1) (u := 1) kv_1 rfl) (ms_iu kv_1 hF rfl)
set_option maxRecDepth 100000 in
set_option maxHeartbeats 4000000 in
theorem s_b_M_leaps_17 {F G : Nat} (hF : 100000 ≤ F) (hG : 20 ≤ G) {C : St} {S : St} (hS_S : Inv C S) {z1 : Int32} (h_z1 : iv z1 (1) (2))  : ∀ (f : Nat) (w2 : Int32) (w3 : Int32), iv w3 (1) (12) → (12) - w3.toInt + 1 ≤ (f : Int) → Sf2 (fx2 (b_M_leaps_17 F G S z1)  f w2 w3) (fun r S2 => iv r (-2147483648) (2147483647) ∧ Inv C S2) := by
  intro f
  induction f with
  | zero => intro w2 w3 h_w3 hm; exact (ms_zu h_w3 hm).elim
  | succ f hrec =>
    intro w2 w3 h_w3 hm
    replace hm := ms_s hm
    show Sf2 (b_M_leaps_17 F G S z1 (fx2 (b_M_leaps_17 F G S z1)  f) w2 w3) _
    generalize fx2 (b_M_leaps_17 F G S z1)  f = rec at hrec ⊢
    unfold b_M_leaps_17
    refine sg_ite (fun c1 => ?_) (fun c1 => ?_)
    · exact sg_some (iv_top _) hS_S
    · have f2 : iv _ (1) (11) := iv_ltA (Int32.not_le.mp c1) h_w3 (cell_78_46 hS_S) rfl
      have f3 : iv _ (2) (12) := iv_ltB (Int32.not_le.mp c1) h_w3 (cell_78_46 hS_S) rfl
      refine sg_bd (s_fM_given hF hG hS_S (iv_w (l := 1) (u := 2) h_z1 rfl)) (fun v8 h_v8 => ?_)
      refine sg_gd (inB_iv f2 rfl) ?_
      refine sg_ltI (iv_andL (u := 1023) h_v8 rfl) (fun v10 h_v10 e_v10 => ?_)
      refine sg_bd (s_fM_given hF hG hS_S (iv_w (l := 1) (u := 2) h_z1 rfl)) (fun v13 h_v13 => ?_)
      refine sg_gd (inB_iv (iv_sub (l := 0) (u := 10) f2 kv_1 rfl) rfl) ?_
      refine sg_ltI (iv_andL (u := 1023) h_v13 rfl) (fun v15 h_v15 e_v15 => ?_)
      refine sg_ite (fun c4 => ?_) (fun c4 => ?_)
      · have f5 : iv _ (0) (0) := iv_eqA c4 kv_0
        refine sg_ltI (iv_add (l := 2) (u := 12) f2 kv_1 rfl) (fun v18 h_v18 e_v18 => ?_)
        exact hrec _ _ (iv_w (l := 2) (u := 12) h_v18 rfl) (ms_up e_v18 f2 rfl hm)
      · have f6 : iv _ (1) (1023) := iv_neL c4 h_v10 kv_0 rfl
        refine sg_ite (fun c7 => ?_) (fun c7 => ?_)
        · have f8 : iv _ (0) (0) := iv_eqA c7 kv_0
          refine sg_ltI (iv_add (l := 2) (u := 12) f2 kv_1 rfl) (fun v21 h_v21 e_v21 => ?_)
          exact hrec _ _ (iv_w (l := 2) (u := 12) h_v21 rfl) (ms_up e_v21 f2 rfl hm)
        · have f9 : iv _ (1) (1023) := iv_neL c7 h_v15 kv_0 rfl
          refine sg_bd (s_fM_lowest hF hG hS_S f6) (fun v24 h_v24 => ?_)
          refine sg_bd (s_fM_lowest hF hG hS_S f9) (fun v26 h_v26 => ?_)
          refine sg_bd (s_fM_plain hF hG hS_S) (fun v28 h_v28 => ?_)
          refine sg_bd (s_fM_greater hF hG hS_S) (fun v30 h_v30 => ?_)
          refine sg_ltI (iv_add (l := 2) (u := 12) f2 kv_1 rfl) (fun v31 h_v31 e_v31 => ?_)
          exact hrec _ _ (iv_w (l := 2) (u := 12) h_v31 rfl) (ms_up e_v31 f2 rfl hm)
set_option maxRecDepth 100000 in
set_option maxHeartbeats 4000000 in
theorem s_fM_leaps {F G : Nat} (hF : 100000 ≤ F) (hG : 20 ≤ G) {C : St} {S : St} (hS_S : Inv C S) {p1 : Int32} : Sf2 (fM_leaps F G S p1) (fun r S2 => iv r (-2147483648) (2147483647) ∧ Inv C S2) := by
  unfold fM_leaps
  refine sg_bd (s_fM_isHand hF hG hS_S) (fun v2 h_v2 => ?_)
  obtain ⟨h_v2, k_v2⟩ := h_v2
  refine sg_ite (fun c1 => ?_) (fun c1 => ?_)
  · have f2 : iv _ (0) (0) := iv_eqA c1 kv_0
    exact sg_some (iv_top _) hS_S
  · have f3 : iv _ (1) (2) := k_v2 c1
    have f4 : iv _ (1) (1) := iv_neL c1 h_v2 kv_0 rfl
    refine sg_bd (s_fM_fill hF hG hS_S) (fun S5 hS_S5 => ?_)
    exact s_b_M_leaps_17 hF hG hS_S5 f3 F _ _ (iv_w (l := 1) (u := 1) kv_1 rfl) (ms_iu kv_1 hF rfl)
set_option maxRecDepth 100000 in
set_option maxHeartbeats 4000000 in
theorem s_j_K_blurredAt_85 {F G : Nat} (hF : 100000 ≤ F) (hG : 20 ≤ G) {C : St} {S : St} (hS_S : Inv C S) {z2 : Int32} {z3 : Int32} {z5 : Int32} (h_z5 : iv z5 (1) (9)) {Su : St} {y4 : Int32} {y6 : Int32} (h_y6 : iv y6 (0) (9)) {y7 : Int32} (h_y7 : iv y7 (0) (1023)) {s0 : Int32} (h_s0 : iv s0 (0) (1)) {k119 : Int32 → Option (Int32)} (hk119 : ∀ (x0 : Int32), Sf (k119 x0) (fun r => iv r (-2147483648) (2147483647))) {rec : Int32 → Int32 → Option (Int32)} {M : Int} (hrec : ∀ (w4 : Int32) (w6 : Int32), iv w6 (0) (10) → (10) - w6.toInt + 1 ≤ M → Sf (rec w4 w6) (fun r => iv r (-2147483648) (2147483647))) (hm : (10) - y6.toInt ≤ M) : Sf (j_K_blurredAt_85 F G S z2 z3 z5 k119 rec Su y4 y6 y7 s0) (fun r => iv r (-2147483648) (2147483647)) := by
  unfold j_K_blurredAt_85
  refine sf_ite (fun c1 => ?_) (fun c1 => ?_)
  · have f2 : iv _ (0) (0) := iv_eqA c1 kv_0
    refine sf_ltI (iv_add (l := 1) (u := 10) h_y6 kv_1 rfl) (fun v16 h_v16 e_v16 => ?_)
    exact hrec _ _ (iv_w (l := 1) (u := 10) h_v16 rfl) (ms_up e_v16 h_y6 rfl hm)
  · have f3 : iv _ (1) (1) := iv_neL c1 h_s0 kv_0 rfl
    refine sf_ite (fun c4 => ?_) (fun c4 => ?_)
    · refine sf_ite (fun c5 => ?_) (fun c5 => ?_)
      · refine sf_ltI (iv_add (l := 1) (u := 10) h_y6 kv_1 rfl) (fun v22 h_v22 e_v22 => ?_)
        exact hrec _ _ (iv_w (l := 1) (u := 10) h_v22 rfl) (ms_up e_v22 h_y6 rfl hm)
      · refine sf_ltI (iv_top _) (fun v24 h_v24 e_v24 => ?_)
        refine sf_ltI (iv_add (l := 1) (u := 10) h_y6 kv_1 rfl) (fun v26 h_v26 e_v26 => ?_)
        exact hrec _ _ (iv_w (l := 1) (u := 10) h_v26 rfl) (ms_up e_v26 h_y6 rfl hm)
    · refine sf_ltI (iv_add (l := 1) (u := 10) h_y6 kv_1 rfl) (fun v19 h_v19 e_v19 => ?_)
      exact hrec _ _ (iv_w (l := 1) (u := 10) h_v19 rfl) (ms_up e_v19 h_y6 rfl hm)
set_option maxRecDepth 100000 in
set_option maxHeartbeats 4000000 in
theorem s_j_K_blurredAt_80 {F G : Nat} (hF : 100000 ≤ F) (hG : 20 ≤ G) {C : St} {S : St} (hS_S : Inv C S) {z2 : Int32} {z3 : Int32} {z5 : Int32} (h_z5 : iv z5 (1) (9)) {Su : St} {y4 : Int32} {y6 : Int32} (h_y6 : iv y6 (0) (9)) {y7 : Int32} (h_y7 : iv y7 (0) (1023)) {k119 : Int32 → Option (Int32)} (hk119 : ∀ (x0 : Int32), Sf (k119 x0) (fun r => iv r (-2147483648) (2147483647))) {rec : Int32 → Int32 → Option (Int32)} {M : Int} (hrec : ∀ (w4 : Int32) (w6 : Int32), iv w6 (0) (10) → (10) - w6.toInt + 1 ≤ M → Sf (rec w4 w6) (fun r => iv r (-2147483648) (2147483647))) (hm : (10) - y6.toInt ≤ M) : Sf (j_K_blurredAt_80 F G S z2 z3 z5 k119 rec Su y4 y6 y7) (fun r => iv r (-2147483648) (2147483647)) := by
  unfold j_K_blurredAt_80
  exact s_j_K_blurredAt_85 hF hG hS_S h_z5 h_y6 h_y7 (iv_w (l := 1) (u := 1) kv_1 rfl) hk119 hrec hm
set_option maxRecDepth 100000 in
set_option maxHeartbeats 4000000 in
theorem s_b_K_blurredAt_30 {F G : Nat} (hF : 100000 ≤ F) (hG : 20 ≤ G) {C : St} {S : St} (hS_S : Inv C S) {z2 : Int32} {z3 : Int32} {z5 : Int32} (h_z5 : iv z5 (1) (9)) {k119 : Int32 → Option (Int32)} (hk119 : ∀ (x0 : Int32), Sf (k119 x0) (fun r => iv r (-2147483648) (2147483647)))  : ∀ (f : Nat) (w4 : Int32) (w6 : Int32), iv w6 (0) (10) → (10) - w6.toInt + 1 ≤ (f : Int) → Sf (fx2 (b_K_blurredAt_30 F G S z2 z3 z5 k119)  f w4 w6) (fun r => iv r (-2147483648) (2147483647)) := by
  intro f
  induction f with
  | zero => intro w4 w6 h_w6 hm; exact (ms_zu h_w6 hm).elim
  | succ f hrec =>
    intro w4 w6 h_w6 hm
    replace hm := ms_s hm
    show Sf (b_K_blurredAt_30 F G S z2 z3 z5 k119 (fx2 (b_K_blurredAt_30 F G S z2 z3 z5 k119)  f) w4 w6) _
    generalize fx2 (b_K_blurredAt_30 F G S z2 z3 z5 k119)  f = rec at hrec ⊢
    unfold b_K_blurredAt_30
    refine sf_ite (fun c1 => ?_) (fun c1 => ?_)
    · have f2 : iv _ (1) (10) := iv_leB c1 h_z5 h_w6 rfl
      exact hk119 _ 
    · have f3 : iv _ (0) (8) := iv_ltA (Int32.not_le.mp c1) h_w6 h_z5 rfl
      refine sf_ltI (iv_or (n := 10) (u := 1023) (iv_shl (u := 512) h_z5 rfl) (iv_shl (u := 256) f3 rfl) rfl) (fun v7 h_v7 e_v7 => ?_)
      refine sf_gd (inB_iv h_z5 rfl) ?_
      refine sf_gd (inB_iv f3 rfl) ?_
      refine sf_ltI (iv_top _) (fun v11 h_v11 e_v11 => ?_)
      refine sf_ite (fun c4 => ?_) (fun c4 => ?_)
      · have f5 : iv _ (1) (1) := iv_eqA c4 kv_1
        exact s_j_K_blurredAt_80 hF hG hS_S h_z5 (iv_w (l := 0) (u := 8) f3 rfl) h_v7 hk119 hrec hm
      · refine sf_ite (fun c6 => ?_) (fun c6 => ?_)
        · have f7 : iv _ (2) (2) := iv_eqA c6 kv_2
          exact s_j_K_blurredAt_80 hF hG hS_S h_z5 (iv_w (l := 0) (u := 8) f3 rfl) h_v7 hk119 hrec hm
        · exact s_j_K_blurredAt_85 hF hG hS_S h_z5 (iv_w (l := 0) (u := 8) f3 rfl) h_v7 (iv_w (l := 0) (u := 0) kv_0 rfl) hk119 hrec hm
set_option maxRecDepth 100000 in
set_option maxHeartbeats 4000000 in
theorem s_b_K_blurredAt_18 {F G : Nat} (hF : 100000 ≤ F) (hG : 20 ≤ G) {C : St} {S : St} (hS_S : Inv C S) {z2 : Int32} {z3 : Int32}  : ∀ (f : Nat) (w4 : Int32) (w5 : Int32), iv w5 (1) (10) → (10) - w5.toInt + 1 ≤ (f : Int) → Sf (fx2 (b_K_blurredAt_18 F G S z2 z3)  f w4 w5) (fun r => iv r (-2147483648) (2147483647)) := by
  intro f
  induction f with
  | zero => intro w4 w5 h_w5 hm; exact (ms_zu h_w5 hm).elim
  | succ f hrec =>
    intro w4 w5 h_w5 hm
    replace hm := ms_s hm
    show Sf (b_K_blurredAt_18 F G S z2 z3 (fx2 (b_K_blurredAt_18 F G S z2 z3)  f) w4 w5) _
    generalize fx2 (b_K_blurredAt_18 F G S z2 z3)  f = rec at hrec ⊢
    unfold b_K_blurredAt_18
    refine sf_ite (fun c1 => ?_) (fun c1 => ?_)
    · exact sf_some (iv_top _)
    · have f2 : iv _ (1) (9) := iv_ltA (Int32.not_le.mp c1) h_w5 (cell_57_1 hS_S) rfl
      have f3 : iv _ (2) (10) := iv_ltB (Int32.not_le.mp c1) h_w5 (cell_57_1 hS_S) rfl
      refine s_b_K_blurredAt_30 hF hG hS_S f2 ?_ F _ _ (iv_w (l := 0) (u := 0) kv_0 rfl) (ms_iu kv_0 hF rfl)
      · intro v28
        refine sf_ltI (iv_add (l := 2) (u := 10) f2 kv_1 rfl) (fun v29 h_v29 e_v29 => ?_)
        exact hrec _ _ (iv_w (l := 2) (u := 10) h_v29 rfl) (ms_up e_v29 f2 rfl hm)
set_option maxRecDepth 100000 in
set_option maxHeartbeats 4000000 in
theorem s_fK_blurredAt {F G : Nat} (hF : 100000 ≤ F) (hG : 20 ≤ G) {C : St} {S : St} (hS_S : Inv C S) {p1 : Int32} (h_p1 : iv p1 (0) (11)) : Sf (fK_blurredAt F G S p1) (fun r => iv r (-2147483648) (2147483647)) := by
  unfold fK_blurredAt
  refine sf_bd (s_fK_soundingAt hF hG hS_S) (fun v2 h_v2 => ?_)
  refine sf_bd (s_fK_timelyAt hF hG hS_S (iv_w (l := 0) (u := 11) h_p1 rfl)) (fun v4 h_v4 => ?_)
  exact s_b_K_blurredAt_18 hF hG hS_S F _ _ (iv_w (l := 1) (u := 1) kv_1 rfl) (ms_iu kv_1 hF rfl)
set_option maxRecDepth 100000 in
set_option maxHeartbeats 4000000 in
theorem s_b_N_blur_8 {F G : Nat} (hF : 100000 ≤ F) (hG : 20 ≤ G) {C : St} {S : St} (hS_S : Inv C S)  : ∀ (f : Nat) (w1 : Int32) (w2 : Int32), iv w2 (0) (12) → (12) - w2.toInt + 1 ≤ (f : Int) → Sf2 (fx2 (b_N_blur_8 F G S)  f w1 w2) (fun r S2 => iv r (-2147483648) (2147483647) ∧ Inv C S2) := by
  intro f
  induction f with
  | zero => intro w1 w2 h_w2 hm; exact (ms_zu h_w2 hm).elim
  | succ f hrec =>
    intro w1 w2 h_w2 hm
    replace hm := ms_s hm
    show Sf2 (b_N_blur_8 F G S (fx2 (b_N_blur_8 F G S)  f) w1 w2) _
    generalize fx2 (b_N_blur_8 F G S)  f = rec at hrec ⊢
    unfold b_N_blur_8
    refine sg_gd (sco hS_S hS_S.told) ?_
    refine sg_ite (fun c1 => ?_) (fun c1 => ?_)
    · have f2 : iv _ (1) (12) := iv_leB c1 (sco_0 hS_S hS_S.told) h_w2 rfl
      exact sg_some (iv_top _) hS_S
    · have f3 : iv _ (0) (11) := iv_ltA (Int32.not_le.mp c1) h_w2 (sco_0 hS_S hS_S.told) rfl
      refine sg_bd (s_fK_blurredAt hF hG hS_S f3) (fun v6 h_v6 => ?_)
      refine sg_ltI (iv_top _) (fun v7 h_v7 e_v7 => ?_)
      refine sg_ltI (iv_add (l := 1) (u := 12) f3 kv_1 rfl) (fun v9 h_v9 e_v9 => ?_)
      exact hrec _ _ (iv_w (l := 1) (u := 12) h_v9 rfl) (ms_up e_v9 f3 rfl hm)
set_option maxRecDepth 100000 in
set_option maxHeartbeats 4000000 in
theorem s_fN_blur {F G : Nat} (hF : 100000 ≤ F) (hG : 20 ≤ G) {C : St} {S : St} (hS_S : Inv C S) : Sf2 (fN_blur F G S) (fun r S2 => iv r (-2147483648) (2147483647) ∧ Inv C S2) := by
  unfold fN_blur
  refine sg_bd (s_fN_lookAtKeys hF hG hS_S) (fun S2 hS_S2 => ?_)
  exact s_b_N_blur_8 hF hG hS_S2 F _ _ (iv_w (l := 0) (u := 0) kv_0 rfl) (ms_iu kv_0 hF rfl)
set_option maxRecDepth 100000 in
set_option maxHeartbeats 4000000 in
theorem s_j_M_blurs_64 {F G : Nat} (hF : 100000 ≤ F) (hG : 20 ≤ G) {C : St} {S : St} (hS_S : Inv C S) {y1 : Int32} (h_y1 : iv y1 (0) (11)) {y2 : Int32} (h_y2 : iv y2 (1) (9)) {y3 : Int32} (h_y3 : iv y3 (0) (9)) : Sf (j_M_blurs_64 F G S y1 y2 y3) (fun r => iv r (0) (1)) := by
  unfold j_M_blurs_64
  refine sf_gd (inB_iv h_y1 rfl) ?_
  refine sf_ite (fun c1 => ?_) (fun c1 => ?_)
  · have f2 : iv _ (1) (1) := iv_eqA c1 kv_1
    refine sf_gd (inB_iv h_y1 rfl) ?_
    refine sf_ite (fun c3 => ?_) (fun c3 => ?_)
    · have f4 : iv _ (1) (1) := iv_eqA c3 kv_1
      exact sf_some (iv_w (l := 0) (u := 0) kv_0 rfl)
    · have f5 : iv _ (0) (0) := iv_neU c3 (iv_andR (u := 1) kv_1 rfl) kv_1 rfl
      exact sf_some (iv_w (l := 1) (u := 1) kv_1 rfl)
  · have f6 : iv _ (0) (0) := iv_neU c1 (iv_andR (u := 1) kv_1 rfl) kv_1 rfl
    exact sf_some (iv_w (l := 1) (u := 1) kv_1 rfl)
set_option maxRecDepth 100000 in
set_option maxHeartbeats 4000000 in
theorem s_fM_blurs {F G : Nat} (hF : 100000 ≤ F) (hG : 20 ≤ G) {C : St} {S : St} (hS_S : Inv C S) {p1 : Int32} (h_p1 : iv p1 (0) (11)) {p2 : Int32} (h_p2 : iv p2 (1) (9)) {p3 : Int32} (h_p3 : iv p3 (0) (9)) : Sf (fM_blurs F G S p1 p2 p3) (fun r => iv r (0) (1)) := by
  unfold fM_blurs
  refine sf_gd (inB_iv h_p1 rfl) ?_
  refine sf_ite (fun c1 => ?_) (fun c1 => ?_)
  · have f2 : iv _ (0) (0) := iv_eqA c1 kv_0
    exact sf_some (iv_w (l := 0) (u := 0) kv_0 rfl)
  · have f3 : iv _ (1) (1) := iv_neL c1 (iv_andR (u := 1) kv_1 rfl) kv_0 rfl
    refine sf_gd (inB_iv h_p1 rfl) ?_
    refine sf_ite (fun c4 => ?_) (fun c4 => ?_)
    · have f5 : iv _ (0) (0) := iv_eqA c4 kv_0
      exact sf_some (iv_w (l := 0) (u := 0) kv_0 rfl)
    · have f6 : iv _ (1) (1) := iv_neL c4 (iv_andR (u := 1) kv_1 rfl) kv_0 rfl
      refine sf_gd (inB_iv (iv_add (l := 11) (u := 19) kv_10 h_p2 rfl) rfl) ?_
      refine sf_gd (inB_iv (iv_add (l := 10) (u := 19) kv_10 h_p3 rfl) rfl) ?_
      refine sf_bd (s_fM_plain hF hG hS_S) (fun v8 h_v8 => ?_)
      refine sf_ite (fun c7 => ?_) (fun c7 => ?_)
      · have f8 : iv _ (1) (1) := iv_eqA c7 kv_1
        exact s_j_M_blurs_64 hF hG hS_S h_p1 h_p2 h_p3
      · refine sf_ite (fun c9 => ?_) (fun c9 => ?_)
        · have f10 : iv _ (2) (2) := iv_eqA c9 kv_2
          exact s_j_M_blurs_64 hF hG hS_S h_p1 h_p2 h_p3
        · exact sf_some (iv_w (l := 0) (u := 0) kv_0 rfl)
set_option maxRecDepth 100000 in
set_option maxHeartbeats 4000000 in
theorem s_b_M_blur_33 {F G : Nat} (hF : 100000 ≤ F) (hG : 20 ≤ G) {C : St} {S : St} (hS_S : Inv C S) {z2 : Int32} (h_z2 : iv z2 (0) (11)) {z3 : Int32} (h_z3 : iv z3 (0) (9)) {k59 : Int32 → Option (Int32 × St)} (hk59 : ∀ (x0 : Int32), Sf2 (k59 x0) (fun r S2 => iv r (-2147483648) (2147483647) ∧ Inv C S2))  : ∀ (f : Nat) (w1 : Int32) (w4 : Int32), iv w4 (0) (9) → (9) - w4.toInt + 1 ≤ (f : Int) → Sf2 (fx2 (b_M_blur_33 F G S z2 z3 k59)  f w1 w4) (fun r S2 => iv r (-2147483648) (2147483647) ∧ Inv C S2) := by
  intro f
  induction f with
  | zero => intro w1 w4 h_w4 hm; exact (ms_zu h_w4 hm).elim
  | succ f hrec =>
    intro w1 w4 h_w4 hm
    replace hm := ms_s hm
    show Sf2 (b_M_blur_33 F G S z2 z3 k59 (fx2 (b_M_blur_33 F G S z2 z3 k59)  f) w1 w4) _
    generalize fx2 (b_M_blur_33 F G S z2 z3 k59)  f = rec at hrec ⊢
    unfold b_M_blur_33
    refine sg_ite (fun c1 => ?_) (fun c1 => ?_)
    · exact hk59 _ 
    · have f2 : iv _ (0) (8) := iv_ltA (Int32.not_le.mp c1) h_w4 h_z3 rfl
      have f3 : iv _ (1) (9) := iv_ltB (Int32.not_le.mp c1) h_w4 h_z3 rfl
      refine sg_bd (s_fM_blurs hF hG hS_S h_z2 f3 (iv_w (l := 0) (u := 8) f2 rfl)) (fun v9 h_v9 => ?_)
      refine sg_bd (s_fM_truth hF hG hS_S h_v9) (fun v11 h_v11 => ?_)
      refine sg_ltI (iv_top _) (fun v12 h_v12 e_v12 => ?_)
      refine sg_ltI (iv_add (l := 1) (u := 9) f2 kv_1 rfl) (fun v14 h_v14 e_v14 => ?_)
      exact hrec _ _ (iv_w (l := 1) (u := 9) h_v14 rfl) (ms_up e_v14 f2 rfl hm)
set_option maxRecDepth 100000 in
set_option maxHeartbeats 4000000 in
theorem s_b_M_blur_22 {F G : Nat} (hF : 100000 ≤ F) (hG : 20 ≤ G) {C : St} {S : St} (hS_S : Inv C S) {z2 : Int32} (h_z2 : iv z2 (0) (11)) {k65 : Int32 → Option (Int32 × St)} (hk65 : ∀ (x0 : Int32), Sf2 (k65 x0) (fun r S2 => iv r (-2147483648) (2147483647) ∧ Inv C S2))  : ∀ (f : Nat) (w1 : Int32) (w3 : Int32), iv w3 (0) (10) → (10) - w3.toInt + 1 ≤ (f : Int) → Sf2 (fx2 (b_M_blur_22 F G S z2 k65)  f w1 w3) (fun r S2 => iv r (-2147483648) (2147483647) ∧ Inv C S2) := by
  intro f
  induction f with
  | zero => intro w1 w3 h_w3 hm; exact (ms_zu h_w3 hm).elim
  | succ f hrec =>
    intro w1 w3 h_w3 hm
    replace hm := ms_s hm
    show Sf2 (b_M_blur_22 F G S z2 k65 (fx2 (b_M_blur_22 F G S z2 k65)  f) w1 w3) _
    generalize fx2 (b_M_blur_22 F G S z2 k65)  f = rec at hrec ⊢
    unfold b_M_blur_22
    refine sg_ite (fun c1 => ?_) (fun c1 => ?_)
    · exact hk65 _ 
    · have f2 : iv _ (0) (9) := iv_ltA (Int32.not_le.mp c1) h_w3 (cell_78_48 hS_S) rfl
      have f3 : iv _ (1) (10) := iv_ltB (Int32.not_le.mp c1) h_w3 (cell_78_48 hS_S) rfl
      refine s_b_M_blur_33 hF hG hS_S h_z2 f2 ?_ F _ _ (iv_w (l := 0) (u := 0) kv_0 rfl) (ms_iu kv_0 hF rfl)
      · intro v16
        refine sg_ltI (iv_add (l := 1) (u := 10) f2 kv_1 rfl) (fun v17 h_v17 e_v17 => ?_)
        exact hrec _ _ (iv_w (l := 1) (u := 10) h_v17 rfl) (ms_up e_v17 f2 rfl hm)
set_option maxRecDepth 100000 in
set_option maxHeartbeats 4000000 in
theorem s_b_M_blur_12 {F G : Nat} (hF : 100000 ≤ F) (hG : 20 ≤ G) {C : St} {S : St} (hS_S : Inv C S)  : ∀ (f : Nat) (w1 : Int32) (w2 : Int32), iv w2 (0) (12) → (12) - w2.toInt + 1 ≤ (f : Int) → Sf2 (fx2 (b_M_blur_12 F G S)  f w1 w2) (fun r S2 => iv r (-2147483648) (2147483647) ∧ Inv C S2) := by
  intro f
  induction f with
  | zero => intro w1 w2 h_w2 hm; exact (ms_zu h_w2 hm).elim
  | succ f hrec =>
    intro w1 w2 h_w2 hm
    replace hm := ms_s hm
    show Sf2 (b_M_blur_12 F G S (fx2 (b_M_blur_12 F G S)  f) w1 w2) _
    generalize fx2 (b_M_blur_12 F G S)  f = rec at hrec ⊢
    unfold b_M_blur_12
    refine sg_ite (fun c1 => ?_) (fun c1 => ?_)
    · have f2 : iv _ (1) (12) := iv_leB c1 (cell_78_46 hS_S) h_w2 rfl
      exact sg_some (iv_top _) hS_S
    · have f3 : iv _ (0) (11) := iv_ltA (Int32.not_le.mp c1) h_w2 (cell_78_46 hS_S) rfl
      refine s_b_M_blur_22 hF hG hS_S f3 ?_ F _ _ (iv_w (l := 0) (u := 0) kv_0 rfl) (ms_iu kv_0 hF rfl)
      · intro v19
        refine sg_ltI (iv_add (l := 1) (u := 12) f3 kv_1 rfl) (fun v20 h_v20 e_v20 => ?_)
        exact hrec _ _ (iv_w (l := 1) (u := 12) h_v20 rfl) (ms_up e_v20 f3 rfl hm)
set_option maxRecDepth 100000 in
set_option maxHeartbeats 4000000 in
theorem s_fM_blur {F G : Nat} (hF : 100000 ≤ F) (hG : 20 ≤ G) {C : St} {S : St} (hS_S : Inv C S) : Sf2 (fM_blur F G S) (fun r S2 => iv r (-2147483648) (2147483647) ∧ Inv C S2) := by
  unfold fM_blur
  refine sg_bd (s_fM_fill hF hG hS_S) (fun S2 hS_S2 => ?_)
  refine sg_bd (s_fM_laySound hF hG hS_S2) (fun S4 hS_S4 => ?_)
  exact s_b_M_blur_12 hF hG hS_S4 F _ _ (iv_w (l := 0) (u := 0) kv_0 rfl) (ms_iu kv_0 hF rfl)
set_option maxRecDepth 100000 in
set_option maxHeartbeats 4000000 in
theorem s_b_N_openAt_14 {F G : Nat} (hF : 100000 ≤ F) (hG : 20 ≤ G) {C : St} {S : St} (hS_S : Inv C S) {z2 : Int32} {k56 : Int32 → Option (Int32)} (hk56 : ∀ (x0 : Int32), Sf (k56 x0) (fun r => iv r (0) (1023)))  : ∀ (f : Nat) (w3 : Int32) (w4 : Int32), iv w4 (0) (10) → (10) - w4.toInt + 1 ≤ (f : Int) → Sf (fx2 (b_N_openAt_14 F G S z2 k56)  f w3 w4) (fun r => iv r (0) (1023)) := by
  intro f
  induction f with
  | zero => intro w3 w4 h_w4 hm; exact (ms_zu h_w4 hm).elim
  | succ f hrec =>
    intro w3 w4 h_w4 hm
    replace hm := ms_s hm
    show Sf (b_N_openAt_14 F G S z2 k56 (fx2 (b_N_openAt_14 F G S z2 k56)  f) w3 w4) _
    generalize fx2 (b_N_openAt_14 F G S z2 k56)  f = rec at hrec ⊢
    unfold b_N_openAt_14
    refine sf_gd (sco hS_S hS_S.told) ?_
    refine sf_ite (fun c1 => ?_) (fun c1 => ?_)
    · exact hk56 _ 
    · have f2 : iv _ (0) (9) := iv_ltA (Int32.not_le.mp c1) h_w4 (sco_6 hS_S hS_S.told) rfl
      have f3 : iv _ (1) (10) := iv_ltB (Int32.not_le.mp c1) h_w4 (sco_6 hS_S hS_S.told) rfl
      refine sf_ite (fun c4 => ?_) (fun c4 => ?_)
      · have f5 : iv _ (0) (0) := iv_eqA c4 kv_0
        refine sf_ltI (iv_add (l := 1) (u := 10) f2 kv_1 rfl) (fun v6 h_v6 e_v6 => ?_)
        exact hrec _ _ (iv_w (l := 1) (u := 10) h_v6 rfl) (ms_up e_v6 f2 rfl hm)
      · have f6 : iv _ (1) (1) := iv_neL c4 (iv_andR (u := 1) kv_1 rfl) kv_0 rfl
        refine sf_gd (inB_iv f2 rfl) ?_
        refine sf_ltI (iv_top _) (fun v9 h_v9 e_v9 => ?_)
        refine sf_ltI (iv_add (l := 1) (u := 10) f2 kv_1 rfl) (fun v11 h_v11 e_v11 => ?_)
        exact hrec _ _ (iv_w (l := 1) (u := 10) h_v11 rfl) (ms_up e_v11 f2 rfl hm)
set_option maxRecDepth 100000 in
set_option maxHeartbeats 4000000 in
theorem s_b_N_openAt_62 {F G : Nat} (hF : 100000 ≤ F) (hG : 20 ≤ G) {C : St} {S : St} (hS_S : Inv C S) {z2 : Int32} {z3 : Int32}  : ∀ (f : Nat) (w4 : Int32) (w5 : Int32), iv w4 (0) (1023) → iv w5 (0) (10) → (10) - w5.toInt + 1 ≤ (f : Int) → Sf (fx2 (b_N_openAt_62 F G S z2 z3)  f w4 w5) (fun r => iv r (0) (1023)) := by
  intro f
  induction f with
  | zero => intro w4 w5 h_w4 h_w5 hm; exact (ms_zu h_w5 hm).elim
  | succ f hrec =>
    intro w4 w5 h_w4 h_w5 hm
    replace hm := ms_s hm
    show Sf (b_N_openAt_62 F G S z2 z3 (fx2 (b_N_openAt_62 F G S z2 z3)  f) w4 w5) _
    generalize fx2 (b_N_openAt_62 F G S z2 z3)  f = rec at hrec ⊢
    unfold b_N_openAt_62
    refine sf_gd (sco hS_S hS_S.told) ?_
    refine sf_ite (fun c1 => ?_) (fun c1 => ?_)
    · exact sf_some h_w4
    · have f2 : iv _ (0) (9) := iv_ltA (Int32.not_le.mp c1) h_w5 (sco_6 hS_S hS_S.told) rfl
      have f3 : iv _ (1) (10) := iv_ltB (Int32.not_le.mp c1) h_w5 (sco_6 hS_S hS_S.told) rfl
      refine sf_ite (fun c4 => ?_) (fun c4 => ?_)
      · have f5 : iv _ (0) (0) := iv_eqA c4 kv_0
        refine sf_ltI (iv_add (l := 1) (u := 10) f2 kv_1 rfl) (fun v17 h_v17 e_v17 => ?_)
        exact hrec _ _ h_w4 (iv_w (l := 1) (u := 10) h_v17 rfl) (ms_up e_v17 f2 rfl hm)
      · have f6 : iv _ (1) (1) := iv_neL c4 (iv_andR (u := 1) kv_1 rfl) kv_0 rfl
        refine sf_gd (inB_iv f2 rfl) ?_
        refine sf_ite (fun c7 => ?_) (fun c7 => ?_)
        · have f8 : iv _ (-2147483648) (2147483646) := iv_ltA c7 (iv_top _) (iv_top _) rfl
          have f9 : iv _ (-2147483647) (2147483647) := iv_ltB c7 (iv_top _) (iv_top _) rfl
          refine sf_ltI (iv_add (l := 1) (u := 10) f2 kv_1 rfl) (fun v21 h_v21 e_v21 => ?_)
          exact hrec _ _ h_w4 (iv_w (l := 1) (u := 10) h_v21 rfl) (ms_up e_v21 f2 rfl hm)
        · refine sf_ltI (iv_or (n := 10) (u := 1023) h_w4 (iv_shl (u := 512) f2 rfl) rfl) (fun v23 h_v23 e_v23 => ?_)
          refine sf_ltI (iv_add (l := 1) (u := 10) f2 kv_1 rfl) (fun v25 h_v25 e_v25 => ?_)
          exact hrec _ _ h_v23 (iv_w (l := 1) (u := 10) h_v25 rfl) (ms_up e_v25 f2 rfl hm)
set_option maxRecDepth 100000 in
set_option maxHeartbeats 4000000 in
theorem s_fN_openAt {F G : Nat} (hF : 100000 ≤ F) (hG : 20 ≤ G) {C : St} {S : St} (hS_S : Inv C S) {p1 : Int32} : Sf (fN_openAt F G S p1) (fun r => iv r (0) (1023)) := by
  unfold fN_openAt
  refine sf_bd (s_fK_soundingAt hF hG hS_S) (fun v2 h_v2 => ?_)
  refine s_b_N_openAt_14 hF hG hS_S ?_ F _ _ (iv_w (l := 0) (u := 0) kv_0 rfl) (ms_iu kv_0 hF rfl)
  · intro v13
    exact s_b_N_openAt_62 hF hG hS_S F _ _ (iv_w (l := 0) (u := 0) kv_0 rfl) (iv_w (l := 0) (u := 0) kv_0 rfl) (ms_iu kv_0 hF rfl)
set_option maxRecDepth 100000 in
set_option maxHeartbeats 4000000 in
theorem s_fN_open {F G : Nat} (hF : 100000 ≤ F) (hG : 20 ≤ G) {C : St} {S : St} (hS_S : Inv C S) {p1 : Int32} : Sf2 (fN_open F G S p1) (fun r S2 => iv r (-1) (1023) ∧ Inv C S2) := by
  unfold fN_open
  refine sg_bd (s_fN_isBeat hF hG hS_S) (fun v2 h_v2 => ?_)
  obtain ⟨h_v2, k_v2⟩ := h_v2
  refine sg_ite (fun c1 => ?_) (fun c1 => ?_)
  · have f2 : iv _ (0) (0) := iv_eqA c1 kv_0
    exact sg_some (iv_w (l := -1) (u := -1) kv_m1 rfl) hS_S
  · have f3 : iv _ (0) (11) := k_v2 c1
    have f4 : iv _ (1) (1) := iv_neL c1 h_v2 kv_0 rfl
    refine sg_bd (s_fN_lookAtKeys hF hG hS_S) (fun S5 hS_S5 => ?_)
    refine sg_bd (s_fN_openAt hF hG hS_S5) (fun v7 h_v7 => ?_)
    exact sg_some (iv_w (l := 0) (u := 1023) h_v7 rfl) hS_S5
set_option maxRecDepth 100000 in
set_option maxHeartbeats 4000000 in
theorem s_b_M_openAt_36 {F G : Nat} (hF : 100000 ≤ F) (hG : 20 ≤ G) {C : St} {S : St} (hS_S : Inv C S) {z1 : Int32} (h_z1 : iv z1 (0) (11)) {z2 : Int32} (h_z2 : iv z2 (0) (1023)) {z3 : Int32} (h_z3 : iv z3 (0) (9)) {k104 : Int32 → Option (Int32)} (hk104 : ∀ (x0 : Int32), iv x0 (0) (1) → Sf (k104 x0) (fun r => iv r (0) (1023)))  : ∀ (f : Nat) (w4 : Int32) (w5 : Int32), iv w4 (0) (1) → iv w5 (0) (10) → (10) - w5.toInt + 1 ≤ (f : Int) → Sf (fx2 (b_M_openAt_36 F G S z1 z2 z3 k104)  f w4 w5) (fun r => iv r (0) (1023)) := by
  intro f
  induction f with
  | zero => intro w4 w5 h_w4 h_w5 hm; exact (ms_zu h_w5 hm).elim
  | succ f hrec =>
    intro w4 w5 h_w4 h_w5 hm
    replace hm := ms_s hm
    show Sf (b_M_openAt_36 F G S z1 z2 z3 k104 (fx2 (b_M_openAt_36 F G S z1 z2 z3 k104)  f) w4 w5) _
    generalize fx2 (b_M_openAt_36 F G S z1 z2 z3 k104)  f = rec at hrec ⊢
    unfold b_M_openAt_36
    refine sf_ite (fun c1 => ?_) (fun c1 => ?_)
    · exact hk104 _ h_w4
    · have f2 : iv _ (0) (9) := iv_ltA (Int32.not_le.mp c1) h_w5 (cell_78_48 hS_S) rfl
      have f3 : iv _ (1) (10) := iv_ltB (Int32.not_le.mp c1) h_w5 (cell_78_48 hS_S) rfl
      refine sf_ite (fun c4 => ?_) (fun c4 => ?_)
      · have f5 : iv _ (0) (0) := iv_eqA c4 kv_0
        exact hk104 _ (iv_w (l := 0) (u := 0) f5 rfl)
      · have f6 : iv _ (1) (1) := iv_neL c4 h_w4 kv_0 rfl
        refine sf_gd (inB_iv h_z1 rfl) ?_
        refine sf_ite (fun c7 => ?_) (fun c7 => ?_)
        · have f8 : iv _ (0) (0) := iv_eqA c7 kv_0
          refine sf_ltI (iv_add (l := 1) (u := 10) f2 kv_1 rfl) (fun v8 h_v8 e_v8 => ?_)
          exact hrec _ _ (iv_w (l := 1) (u := 1) kv_1 rfl) (iv_w (l := 1) (u := 10) h_v8 rfl) (ms_up e_v8 f2 rfl hm)
        · have f9 : iv _ (1) (1) := iv_neL c7 (iv_andR (u := 1) kv_1 rfl) kv_0 rfl
          refine sf_gd (inB_iv (iv_add (l := 30) (u := 39) kv_30 f2 rfl) rfl) ?_
          refine sf_gd (inB_iv (iv_add (l := 30) (u := 39) kv_30 h_z3 rfl) rfl) ?_
          refine sf_ite (fun c10 => ?_) (fun c10 => ?_)
          · have f11 : iv _ (-2147483648) (2147483646) := iv_ltA c10 (iv_top _) (iv_top _) rfl
            have f12 : iv _ (-2147483647) (2147483647) := iv_ltB c10 (iv_top _) (iv_top _) rfl
            refine sf_ltI (iv_add (l := 1) (u := 10) f2 kv_1 rfl) (fun v13 h_v13 e_v13 => ?_)
            exact hrec _ _ (iv_w (l := 0) (u := 0) kv_0 rfl) (iv_w (l := 1) (u := 10) h_v13 rfl) (ms_up e_v13 f2 rfl hm)
          · refine sf_ltI (iv_add (l := 1) (u := 10) f2 kv_1 rfl) (fun v15 h_v15 e_v15 => ?_)
            exact hrec _ _ (iv_w (l := 1) (u := 1) kv_1 rfl) (iv_w (l := 1) (u := 10) h_v15 rfl) (ms_up e_v15 f2 rfl hm)
set_option maxRecDepth 100000 in
set_option maxHeartbeats 4000000 in
theorem s_j_M_openAt_104 {F G : Nat} (hF : 100000 ≤ F) (hG : 20 ≤ G) {C : St} {S : St} (hS_S : Inv C S) {z1 : Int32} (h_z1 : iv z1 (0) (11)) {Su : St} {y2 : Int32} (h_y2 : iv y2 (0) (1023)) {y3 : Int32} (h_y3 : iv y3 (0) (9)) {y4 : Int32} (h_y4 : iv y4 (0) (1)) {rec : Int32 → Int32 → Option (Int32)} {M : Int} (hrec : ∀ (w2 : Int32) (w3 : Int32), iv w2 (0) (1023) → iv w3 (0) (10) → (10) - w3.toInt + 1 ≤ M → Sf (rec w2 w3) (fun r => iv r (0) (1023))) (hm : (10) - y3.toInt ≤ M) : Sf (j_M_openAt_104 F G S z1 rec Su y2 y3 y4) (fun r => iv r (0) (1023)) := by
  unfold j_M_openAt_104
  refine sf_bd (s_fM_truth hF hG hS_S h_y4) (fun v20 h_v20 => ?_)
  refine sf_ltI (iv_or (n := 10) (u := 1023) h_y2 (iv_shb (u := 512) h_v20 h_y3 rfl) rfl) (fun v21 h_v21 e_v21 => ?_)
  refine sf_ltI (iv_add (l := 1) (u := 10) h_y3 kv_1 rfl) (fun v23 h_v23 e_v23 => ?_)
  exact hrec _ _ h_v21 (iv_w (l := 1) (u := 10) h_v23 rfl) (ms_up e_v23 h_y3 rfl hm)
set_option maxRecDepth 100000 in
set_option maxHeartbeats 4000000 in
theorem s_b_M_openAt_4 {F G : Nat} (hF : 100000 ≤ F) (hG : 20 ≤ G) {C : St} {S : St} (hS_S : Inv C S) {z1 : Int32} (h_z1 : iv z1 (0) (11))  : ∀ (f : Nat) (w2 : Int32) (w3 : Int32), iv w2 (0) (1023) → iv w3 (0) (10) → (10) - w3.toInt + 1 ≤ (f : Int) → Sf (fx2 (b_M_openAt_4 F G S z1)  f w2 w3) (fun r => iv r (0) (1023)) := by
  intro f
  induction f with
  | zero => intro w2 w3 h_w2 h_w3 hm; exact (ms_zu h_w3 hm).elim
  | succ f hrec =>
    intro w2 w3 h_w2 h_w3 hm
    replace hm := ms_s hm
    show Sf (b_M_openAt_4 F G S z1 (fx2 (b_M_openAt_4 F G S z1)  f) w2 w3) _
    generalize fx2 (b_M_openAt_4 F G S z1)  f = rec at hrec ⊢
    unfold b_M_openAt_4
    refine sf_ite (fun c1 => ?_) (fun c1 => ?_)
    · exact sf_some h_w2
    · have f2 : iv _ (0) (9) := iv_ltA (Int32.not_le.mp c1) h_w3 (cell_78_48 hS_S) rfl
      have f3 : iv _ (1) (10) := iv_ltB (Int32.not_le.mp c1) h_w3 (cell_78_48 hS_S) rfl
      refine sf_gd (inB_iv h_z1 rfl) ?_
      refine sf_ite (fun c4 => ?_) (fun c4 => ?_)
      · have f5 : iv _ (1) (1) := iv_eqA c4 kv_1
        refine s_b_M_openAt_36 hF hG hS_S h_z1 h_w2 f2 ?_ F _ _ (iv_w (l := 1) (u := 1) kv_1 rfl) (iv_w (l := 0) (u := 0) kv_0 rfl) (ms_iu kv_0 hF rfl)
        · intro v18 h_v18
          exact s_j_M_openAt_104 hF hG hS_S h_z1 h_w2 f2 h_v18 hrec hm
      · have f6 : iv _ (0) (0) := iv_neU c4 (iv_andR (u := 1) kv_1 rfl) kv_1 rfl
        refine s_b_M_openAt_36 hF hG hS_S h_z1 h_w2 f2 ?_ F _ _ (iv_w (l := 0) (u := 0) kv_0 rfl) (iv_w (l := 0) (u := 0) kv_0 rfl) (ms_iu kv_0 hF rfl)
        · intro v17 h_v17
          exact s_j_M_openAt_104 hF hG hS_S h_z1 h_w2 f2 h_v17 hrec hm
set_option maxRecDepth 100000 in
set_option maxHeartbeats 4000000 in
theorem s_fM_openAt {F G : Nat} (hF : 100000 ≤ F) (hG : 20 ≤ G) {C : St} {S : St} (hS_S : Inv C S) {p1 : Int32} (h_p1 : iv p1 (0) (11)) : Sf (fM_openAt F G S p1) (fun r => iv r (0) (1023)) := by
  unfold fM_openAt
  exact s_b_M_openAt_4 hF hG hS_S h_p1 F _ _ (iv_w (l := 0) (u := 0) kv_0 rfl) (iv_w (l := 0) (u := 0) kv_0 rfl) (ms_iu kv_0 hF rfl)
set_option maxRecDepth 100000 in
set_option maxHeartbeats 4000000 in
theorem s_fM_open {F G : Nat} (hF : 100000 ≤ F) (hG : 20 ≤ G) {C : St} {S : St} (hS_S : Inv C S) {p1 : Int32} : Sf2 (fM_open F G S p1) (fun r S2 => iv r (-1) (1023) ∧ Inv C S2) := by
  unfold fM_open
  refine sg_bd (s_fM_isBeat hF hG hS_S) (fun v2 h_v2 => ?_)
  obtain ⟨h_v2, k_v2⟩ := h_v2
  refine sg_ite (fun c1 => ?_) (fun c1 => ?_)
  · have f2 : iv _ (0) (0) := iv_eqA c1 kv_0
    exact sg_some (iv_w (l := -1) (u := -1) kv_m1 rfl) hS_S
  · have f3 : iv _ (0) (11) := k_v2 c1
    have f4 : iv _ (1) (1) := iv_neL c1 h_v2 kv_0 rfl
    refine sg_bd (s_fM_fill hF hG hS_S) (fun S5 hS_S5 => ?_)
    refine sg_bd (s_fM_laySound hF hG hS_S5) (fun S7 hS_S7 => ?_)
    refine sg_bd (s_fM_openAt hF hG hS_S7 f3) (fun v9 h_v9 => ?_)
    exact sg_some (iv_w (l := 0) (u := 1023) h_v9 rfl) hS_S7
set_option maxRecDepth 100000 in
set_option maxHeartbeats 4000000 in
theorem s_j_N_lost_48 {F G : Nat} (hF : 100000 ≤ F) (hG : 20 ≤ G) {C : St} {S : St} (hS_S : Inv C S) {Su : St} {y1 : Int32} (h_y1 : iv y1 (0) (1023)) {y2 : Int32} (h_y2 : iv y2 (0) (9)) {s0 : Int32} (h_s0 : iv s0 (0) (1)) {rec : Int32 → Int32 → Option (Int32 × St)} {M : Int} (hrec : ∀ (w1 : Int32) (w2 : Int32), iv w1 (0) (1023) → iv w2 (0) (10) → (10) - w2.toInt + 1 ≤ M → Sf2 (rec w1 w2) (fun r S2 => iv r (0) (1023) ∧ Inv C S2)) (hm : (10) - y2.toInt ≤ M) : Sf2 (j_N_lost_48 F G S rec Su y1 y2 s0) (fun r S2 => iv r (0) (1023) ∧ Inv C S2) := by
  unfold j_N_lost_48
  refine sg_ite (fun c1 => ?_) (fun c1 => ?_)
  · have f2 : iv _ (0) (0) := iv_eqA c1 kv_0
    refine sg_ltI (iv_add (l := 1) (u := 10) h_y2 kv_1 rfl) (fun v11 h_v11 e_v11 => ?_)
    exact hrec _ _ h_y1 (iv_w (l := 1) (u := 10) h_v11 rfl) (ms_up e_v11 h_y2 rfl hm)
  · have f3 : iv _ (1) (1) := iv_neL c1 h_s0 kv_0 rfl
    refine sg_gd (sco hS_S hS_S.told) ?_
    refine sg_gd (inB_iv h_y2 rfl) ?_
    refine sg_bd (s_fN_openAt hF hG hS_S) (fun v16 h_v16 => ?_)
    refine sg_ite (fun c4 => ?_) (fun c4 => ?_)
    · have f5 : iv _ (0) (0) := iv_eqA c4 kv_0
      refine sg_ltI (iv_or (n := 10) (u := 1023) h_y1 (iv_shl (u := 512) h_y2 rfl) rfl) (fun v20 h_v20 e_v20 => ?_)
      refine sg_ltI (iv_add (l := 1) (u := 10) h_y2 kv_1 rfl) (fun v22 h_v22 e_v22 => ?_)
      exact hrec _ _ h_v20 (iv_w (l := 1) (u := 10) h_v22 rfl) (ms_up e_v22 h_y2 rfl hm)
    · have f6 : iv _ (1) (1) := iv_neL c4 (iv_andR (u := 1) kv_1 rfl) kv_0 rfl
      refine sg_ltI (iv_add (l := 1) (u := 10) h_y2 kv_1 rfl) (fun v18 h_v18 e_v18 => ?_)
      exact hrec _ _ h_y1 (iv_w (l := 1) (u := 10) h_v18 rfl) (ms_up e_v18 h_y2 rfl hm)
set_option maxRecDepth 100000 in
set_option maxHeartbeats 4000000 in
theorem s_j_N_lost_47 {F G : Nat} (hF : 100000 ≤ F) (hG : 20 ≤ G) {C : St} {S : St} (hS_S : Inv C S) {Su : St} {y1 : Int32} (h_y1 : iv y1 (0) (1023)) {y2 : Int32} (h_y2 : iv y2 (0) (9)) {rec : Int32 → Int32 → Option (Int32 × St)} {M : Int} (hrec : ∀ (w1 : Int32) (w2 : Int32), iv w1 (0) (1023) → iv w2 (0) (10) → (10) - w2.toInt + 1 ≤ M → Sf2 (rec w1 w2) (fun r S2 => iv r (0) (1023) ∧ Inv C S2)) (hm : (10) - y2.toInt ≤ M) : Sf2 (j_N_lost_47 F G S rec Su y1 y2) (fun r S2 => iv r (0) (1023) ∧ Inv C S2) := by
  unfold j_N_lost_47
  exact s_j_N_lost_48 hF hG hS_S h_y1 h_y2 (iv_w (l := 0) (u := 0) kv_0 rfl) hrec hm
set_option maxRecDepth 100000 in
set_option maxHeartbeats 4000000 in
theorem s_b_N_lost_8 {F G : Nat} (hF : 100000 ≤ F) (hG : 20 ≤ G) {C : St} {S : St} (hS_S : Inv C S)  : ∀ (f : Nat) (w1 : Int32) (w2 : Int32), iv w1 (0) (1023) → iv w2 (0) (10) → (10) - w2.toInt + 1 ≤ (f : Int) → Sf2 (fx2 (b_N_lost_8 F G S)  f w1 w2) (fun r S2 => iv r (0) (1023) ∧ Inv C S2) := by
  intro f
  induction f with
  | zero => intro w1 w2 h_w1 h_w2 hm; exact (ms_zu h_w2 hm).elim
  | succ f hrec =>
    intro w1 w2 h_w1 h_w2 hm
    replace hm := ms_s hm
    show Sf2 (b_N_lost_8 F G S (fx2 (b_N_lost_8 F G S)  f) w1 w2) _
    generalize fx2 (b_N_lost_8 F G S)  f = rec at hrec ⊢
    unfold b_N_lost_8
    refine sg_gd (sco hS_S hS_S.told) ?_
    refine sg_ite (fun c1 => ?_) (fun c1 => ?_)
    · exact sg_some h_w1 hS_S
    · have f2 : iv _ (0) (9) := iv_ltA (Int32.not_le.mp c1) h_w2 (sco_6 hS_S hS_S.told) rfl
      have f3 : iv _ (1) (10) := iv_ltB (Int32.not_le.mp c1) h_w2 (sco_6 hS_S hS_S.told) rfl
      refine sg_bd (s_fS_roleOf hF hG hS_S hS_S.told f2) (fun v6 h_v6 => ?_)
      refine sg_ite (fun c4 => ?_) (fun c4 => ?_)
      · have f5 : iv _ (2) (2) := iv_eqA c4 kv_2
        refine sg_gd (inB_iv f2 rfl) ?_
        refine sg_ite (fun c6 => ?_) (fun c6 => ?_)
        · have f7 : iv _ (0) (0) := iv_eqA c6 kv_0
          exact s_j_N_lost_47 hF hG hS_S h_w1 f2 hrec hm
        · exact s_j_N_lost_48 hF hG hS_S h_w1 f2 (iv_w (l := 1) (u := 1) kv_1 rfl) hrec hm
      · exact s_j_N_lost_47 hF hG hS_S h_w1 f2 hrec hm
set_option maxRecDepth 100000 in
set_option maxHeartbeats 4000000 in
theorem s_fN_lost {F G : Nat} (hF : 100000 ≤ F) (hG : 20 ≤ G) {C : St} {S : St} (hS_S : Inv C S) : Sf2 (fN_lost F G S) (fun r S2 => iv r (0) (1023) ∧ Inv C S2) := by
  unfold fN_lost
  refine sg_bd (s_fN_lookAtKeys hF hG hS_S) (fun S2 hS_S2 => ?_)
  exact s_b_N_lost_8 hF hG hS_S2 F _ _ (iv_w (l := 0) (u := 0) kv_0 rfl) (iv_w (l := 0) (u := 0) kv_0 rfl) (ms_iu kv_0 hF rfl)
set_option maxRecDepth 100000 in
set_option maxHeartbeats 4000000 in
theorem s_j_M_tunes_33 {F G : Nat} (hF : 100000 ≤ F) (hG : 20 ≤ G) {C : St} {S : St} (hS_S : Inv C S) {Su : St} {y2 : Int32} (h_y2 : iv y2 (0) (9)) {s0 : Int32} (h_s0 : iv s0 (0) (1023)) {s1 : Int32} (h_s1 : iv s1 (0) (1)) {rec : Int32 → Int32 → Option (Int32)} {M : Int} (hrec : ∀ (w1 : Int32) (w2 : Int32), iv w1 (0) (1023) → iv w2 (0) (10) → (10) - w2.toInt + 1 ≤ M → Sf (rec w1 w2) (fun r => iv r (0) (1023))) (hm : (10) - y2.toInt ≤ M) : Sf (j_M_tunes_33 F G S rec Su y2 s0 s1) (fun r => iv r (0) (1023)) := by
  unfold j_M_tunes_33
  refine sf_bd (s_fM_truth hF hG hS_S h_s1) (fun v6 h_v6 => ?_)
  refine sf_ltI (iv_or (n := 10) (u := 1023) h_s0 (iv_shb (u := 512) h_v6 h_y2 rfl) rfl) (fun v7 h_v7 e_v7 => ?_)
  refine sf_ltI (iv_add (l := 1) (u := 10) h_y2 kv_1 rfl) (fun v9 h_v9 e_v9 => ?_)
  exact hrec _ _ h_v7 (iv_w (l := 1) (u := 10) h_v9 rfl) (ms_up e_v9 h_y2 rfl hm)
set_option maxRecDepth 100000 in
set_option maxHeartbeats 4000000 in
theorem s_b_M_tunes_4 {F G : Nat} (hF : 100000 ≤ F) (hG : 20 ≤ G) {C : St} {S : St} (hS_S : Inv C S)  : ∀ (f : Nat) (w1 : Int32) (w2 : Int32), iv w1 (0) (1023) → iv w2 (0) (10) → (10) - w2.toInt + 1 ≤ (f : Int) → Sf (fx2 (b_M_tunes_4 F G S)  f w1 w2) (fun r => iv r (0) (1023)) := by
  intro f
  induction f with
  | zero => intro w1 w2 h_w1 h_w2 hm; exact (ms_zu h_w2 hm).elim
  | succ f hrec =>
    intro w1 w2 h_w1 h_w2 hm
    replace hm := ms_s hm
    show Sf (b_M_tunes_4 F G S (fx2 (b_M_tunes_4 F G S)  f) w1 w2) _
    generalize fx2 (b_M_tunes_4 F G S)  f = rec at hrec ⊢
    unfold b_M_tunes_4
    refine sf_ite (fun c1 => ?_) (fun c1 => ?_)
    · exact sf_some h_w1
    · have f2 : iv _ (0) (9) := iv_ltA (Int32.not_le.mp c1) h_w2 (cell_78_48 hS_S) rfl
      have f3 : iv _ (1) (10) := iv_ltB (Int32.not_le.mp c1) h_w2 (cell_78_48 hS_S) rfl
      refine sf_gd (inB_iv f2 rfl) ?_
      refine sf_gd (inB_iv (row_95 hS_S _) rfl) ?_
      refine sf_ite (fun c4 => ?_) (fun c4 => ?_)
      · have f5 : iv _ (2) (2) := iv_eqA c4 kv_2
        exact s_j_M_tunes_33 hF hG hS_S f2 h_w1 (iv_w (l := 1) (u := 1) kv_1 rfl) hrec hm
      · exact s_j_M_tunes_33 hF hG hS_S f2 h_w1 (iv_w (l := 0) (u := 0) kv_0 rfl) hrec hm
set_option maxRecDepth 100000 in
set_option maxHeartbeats 4000000 in
theorem s_fM_tunes {F G : Nat} (hF : 100000 ≤ F) (hG : 20 ≤ G) {C : St} {S : St} (hS_S : Inv C S) : Sf (fM_tunes F G S) (fun r => iv r (0) (1023)) := by
  unfold fM_tunes
  exact s_b_M_tunes_4 hF hG hS_S F _ _ (iv_w (l := 0) (u := 0) kv_0 rfl) (iv_w (l := 0) (u := 0) kv_0 rfl) (ms_iu kv_0 hF rfl)
set_option maxRecDepth 100000 in
set_option maxHeartbeats 4000000 in
theorem s_j_M_lost_58 {F G : Nat} (hF : 100000 ≤ F) (hG : 20 ≤ G) {C : St} {S : St} (hS_S : Inv C S) {Su : St} {y2 : Int32} (h_y2 : iv y2 (0) (9)) {s0 : Int32} (h_s0 : iv s0 (0) (1023)) {s1 : Int32} (h_s1 : iv s1 (0) (1)) {rec : Int32 → Int32 → Option (Int32 × St)} {M : Int} (hrec : ∀ (w1 : Int32) (w2 : Int32), iv w1 (0) (1023) → iv w2 (0) (10) → (10) - w2.toInt + 1 ≤ M → Sf2 (rec w1 w2) (fun r S2 => iv r (0) (1023) ∧ Inv C S2)) (hm : (10) - y2.toInt ≤ M) : Sf2 (j_M_lost_58 F G S rec Su y2 s0 s1) (fun r S2 => iv r (0) (1023) ∧ Inv C S2) := by
  unfold j_M_lost_58
  refine sg_bd (s_fM_truth hF hG hS_S h_s1) (fun v15 h_v15 => ?_)
  refine sg_ltI (iv_or (n := 10) (u := 1023) h_s0 (iv_shb (u := 512) h_v15 h_y2 rfl) rfl) (fun v16 h_v16 e_v16 => ?_)
  refine sg_ltI (iv_add (l := 1) (u := 10) h_y2 kv_1 rfl) (fun v18 h_v18 e_v18 => ?_)
  exact hrec _ _ h_v16 (iv_w (l := 1) (u := 10) h_v18 rfl) (ms_up e_v18 h_y2 rfl hm)
set_option maxRecDepth 100000 in
set_option maxHeartbeats 4000000 in
theorem s_b_M_lost_12 {F G : Nat} (hF : 100000 ≤ F) (hG : 20 ≤ G) {C : St} {S : St} (hS_S : Inv C S)  : ∀ (f : Nat) (w1 : Int32) (w2 : Int32), iv w1 (0) (1023) → iv w2 (0) (10) → (10) - w2.toInt + 1 ≤ (f : Int) → Sf2 (fx2 (b_M_lost_12 F G S)  f w1 w2) (fun r S2 => iv r (0) (1023) ∧ Inv C S2) := by
  intro f
  induction f with
  | zero => intro w1 w2 h_w1 h_w2 hm; exact (ms_zu h_w2 hm).elim
  | succ f hrec =>
    intro w1 w2 h_w1 h_w2 hm
    replace hm := ms_s hm
    show Sf2 (b_M_lost_12 F G S (fx2 (b_M_lost_12 F G S)  f) w1 w2) _
    generalize fx2 (b_M_lost_12 F G S)  f = rec at hrec ⊢
    unfold b_M_lost_12
    refine sg_ite (fun c1 => ?_) (fun c1 => ?_)
    · exact sg_some h_w1 hS_S
    · have f2 : iv _ (0) (9) := iv_ltA (Int32.not_le.mp c1) h_w2 (cell_78_48 hS_S) rfl
      have f3 : iv _ (1) (10) := iv_ltB (Int32.not_le.mp c1) h_w2 (cell_78_48 hS_S) rfl
      refine sg_bd (s_fM_tunes hF hG hS_S) (fun v7 h_v7 => ?_)
      refine sg_bd (s_fM_given hF hG hS_S (iv_w (l := 0) (u := 0) kv_0 rfl)) (fun v9 h_v9 => ?_)
      refine sg_gd (inB_iv f2 rfl) ?_
      refine sg_bd (s_fM_openAt hF hG hS_S (row_96 hS_S _)) (fun v12 h_v12 => ?_)
      refine sg_ite (fun c4 => ?_) (fun c4 => ?_)
      · have f5 : iv _ (0) (0) := iv_eqA c4 kv_0
        exact s_j_M_lost_58 hF hG hS_S f2 h_w1 (iv_w (l := 0) (u := 0) kv_0 rfl) hrec hm
      · have f6 : iv _ (1) (512) := iv_neL c4 (iv_andR (u := 512) (iv_shl (u := 512) f2 rfl) rfl) kv_0 rfl
        exact s_j_M_lost_58 hF hG hS_S f2 h_w1 (iv_w (l := 1) (u := 1) kv_1 rfl) hrec hm
set_option maxRecDepth 100000 in
set_option maxHeartbeats 4000000 in
theorem s_fM_lost {F G : Nat} (hF : 100000 ≤ F) (hG : 20 ≤ G) {C : St} {S : St} (hS_S : Inv C S) : Sf2 (fM_lost F G S) (fun r S2 => iv r (0) (1023) ∧ Inv C S2) := by
  unfold fM_lost
  refine sg_bd (s_fM_fill hF hG hS_S) (fun S2 hS_S2 => ?_)
  refine sg_bd (s_fM_laySound hF hG hS_S2) (fun S4 hS_S4 => ?_)
  exact s_b_M_lost_12 hF hG hS_S4 F _ _ (iv_w (l := 0) (u := 0) kv_0 rfl) (iv_w (l := 0) (u := 0) kv_0 rfl) (ms_iu kv_0 hF rfl)
set_option maxRecDepth 100000 in
set_option maxHeartbeats 4000000 in
theorem s_b_N_gaps_8 {F G : Nat} (hF : 100000 ≤ F) (hG : 20 ≤ G) {C : St} {S : St} (hS_S : Inv C S) {k43 : Int32 → Option (Int32 × St)} (hk43 : ∀ (x0 : Int32), iv x0 (0) (1023) → Sf2 (k43 x0) (fun r S2 => iv r (0) (4095) ∧ Inv C S2))  : ∀ (f : Nat) (w1 : Int32) (w2 : Int32), iv w1 (0) (1023) → iv w2 (0) (10) → (10) - w2.toInt + 1 ≤ (f : Int) → Sf2 (fx2 (b_N_gaps_8 F G S k43)  f w1 w2) (fun r S2 => iv r (0) (4095) ∧ Inv C S2) := by
  intro f
  induction f with
  | zero => intro w1 w2 h_w1 h_w2 hm; exact (ms_zu h_w2 hm).elim
  | succ f hrec =>
    intro w1 w2 h_w1 h_w2 hm
    replace hm := ms_s hm
    show Sf2 (b_N_gaps_8 F G S k43 (fx2 (b_N_gaps_8 F G S k43)  f) w1 w2) _
    generalize fx2 (b_N_gaps_8 F G S k43)  f = rec at hrec ⊢
    unfold b_N_gaps_8
    refine sg_gd (sco hS_S hS_S.told) ?_
    refine sg_ite (fun c1 => ?_) (fun c1 => ?_)
    · exact hk43 _ h_w1
    · have f2 : iv _ (0) (9) := iv_ltA (Int32.not_le.mp c1) h_w2 (sco_6 hS_S hS_S.told) rfl
      have f3 : iv _ (1) (10) := iv_ltB (Int32.not_le.mp c1) h_w2 (sco_6 hS_S hS_S.told) rfl
      refine sg_bd (s_fS_roleOf hF hG hS_S hS_S.told f2) (fun v6 h_v6 => ?_)
      refine sg_ite (fun c4 => ?_) (fun c4 => ?_)
      · have f5 : iv _ (2) (2) := iv_eqA c4 kv_2
        refine sg_ltI (iv_or (n := 10) (u := 1023) h_w1 (iv_shl (u := 512) f2 rfl) rfl) (fun v10 h_v10 e_v10 => ?_)
        refine sg_ltI (iv_add (l := 1) (u := 10) f2 kv_1 rfl) (fun v12 h_v12 e_v12 => ?_)
        exact hrec _ _ h_v10 (iv_w (l := 1) (u := 10) h_v12 rfl) (ms_up e_v12 f2 rfl hm)
      · refine sg_ltI (iv_add (l := 1) (u := 10) f2 kv_1 rfl) (fun v8 h_v8 e_v8 => ?_)
        exact hrec _ _ h_w1 (iv_w (l := 1) (u := 10) h_v8 rfl) (ms_up e_v8 f2 rfl hm)
set_option maxRecDepth 100000 in
set_option maxHeartbeats 4000000 in
theorem s_b_N_gaps_47 {F G : Nat} (hF : 100000 ≤ F) (hG : 20 ≤ G) {C : St} {S : St} (hS_S : Inv C S) {z1 : Int32} (h_z1 : iv z1 (0) (1023))  : ∀ (f : Nat) (w2 : Int32) (w3 : Int32), iv w2 (0) (4095) → iv w3 (0) (12) → (12) - w3.toInt + 1 ≤ (f : Int) → Sf2 (fx2 (b_N_gaps_47 F G S z1)  f w2 w3) (fun r S2 => iv r (0) (4095) ∧ Inv C S2) := by
  intro f
  induction f with
  | zero => intro w2 w3 h_w2 h_w3 hm; exact (ms_zu h_w3 hm).elim
  | succ f hrec =>
    intro w2 w3 h_w2 h_w3 hm
    replace hm := ms_s hm
    show Sf2 (b_N_gaps_47 F G S z1 (fx2 (b_N_gaps_47 F G S z1)  f) w2 w3) _
    generalize fx2 (b_N_gaps_47 F G S z1)  f = rec at hrec ⊢
    unfold b_N_gaps_47
    refine sg_gd (sco hS_S hS_S.told) ?_
    refine sg_ite (fun c1 => ?_) (fun c1 => ?_)
    · have f2 : iv _ (1) (12) := iv_leB c1 (sco_0 hS_S hS_S.told) h_w3 rfl
      exact sg_some h_w2 hS_S
    · have f3 : iv _ (0) (11) := iv_ltA (Int32.not_le.mp c1) h_w3 (sco_0 hS_S hS_S.told) rfl
      refine sg_bd (s_fK_soundingAt hF hG hS_S) (fun v18 h_v18 => ?_)
      refine sg_ite (fun c4 => ?_) (fun c4 => ?_)
      · have f5 : iv _ (0) (0) := iv_eqA c4 kv_0
        refine sg_ltI (iv_or (n := 12) (u := 4095) h_w2 (iv_shl (u := 2048) f3 rfl) rfl) (fun v22 h_v22 e_v22 => ?_)
        refine sg_ltI (iv_add (l := 1) (u := 12) f3 kv_1 rfl) (fun v24 h_v24 e_v24 => ?_)
        exact hrec _ _ h_v22 (iv_w (l := 1) (u := 12) h_v24 rfl) (ms_up e_v24 f3 rfl hm)
      · have f6 : iv _ (1) (1023) := iv_neL c4 (iv_andR (u := 1023) h_z1 rfl) kv_0 rfl
        refine sg_ltI (iv_add (l := 1) (u := 12) f3 kv_1 rfl) (fun v20 h_v20 e_v20 => ?_)
        exact hrec _ _ h_w2 (iv_w (l := 1) (u := 12) h_v20 rfl) (ms_up e_v20 f3 rfl hm)
set_option maxRecDepth 100000 in
set_option maxHeartbeats 4000000 in
theorem s_fN_gaps {F G : Nat} (hF : 100000 ≤ F) (hG : 20 ≤ G) {C : St} {S : St} (hS_S : Inv C S) : Sf2 (fN_gaps F G S) (fun r S2 => iv r (0) (4095) ∧ Inv C S2) := by
  unfold fN_gaps
  refine sg_bd (s_fN_lookAtKeys hF hG hS_S) (fun S2 hS_S2 => ?_)
  refine s_b_N_gaps_8 hF hG hS_S2 ?_ F _ _ (iv_w (l := 0) (u := 0) kv_0 rfl) (iv_w (l := 0) (u := 0) kv_0 rfl) (ms_iu kv_0 hF rfl)
  · intro v14 h_v14
    exact s_b_N_gaps_47 hF hG hS_S2 h_v14 F _ _ (iv_w (l := 0) (u := 0) kv_0 rfl) (iv_w (l := 0) (u := 0) kv_0 rfl) (ms_iu kv_0 hF rfl)
set_option maxRecDepth 100000 in
set_option maxHeartbeats 4000000 in
theorem s_j_M_gaps_40 {F G : Nat} (hF : 100000 ≤ F) (hG : 20 ≤ G) {C : St} {S : St} (hS_S : Inv C S) {Su : St} {y2 : Int32} (h_y2 : iv y2 (0) (11)) {s0 : Int32} (h_s0 : iv s0 (0) (4095)) {s1 : Int32} (h_s1 : iv s1 (0) (1)) {rec : Int32 → Int32 → Option (Int32 × St)} {M : Int} (hrec : ∀ (w1 : Int32) (w2 : Int32), iv w1 (0) (4095) → iv w2 (0) (12) → (12) - w2.toInt + 1 ≤ M → Sf2 (rec w1 w2) (fun r S2 => iv r (0) (4095) ∧ Inv C S2)) (hm : (12) - y2.toInt ≤ M) : Sf2 (j_M_gaps_40 F G S rec Su y2 s0 s1) (fun r S2 => iv r (0) (4095) ∧ Inv C S2) := by
  unfold j_M_gaps_40
  refine sg_bd (s_fM_truth hF hG hS_S h_s1) (fun v11 h_v11 => ?_)
  refine sg_ltI (iv_or (n := 12) (u := 4095) h_s0 (iv_shb (u := 2048) h_v11 h_y2 rfl) rfl) (fun v12 h_v12 e_v12 => ?_)
  refine sg_ltI (iv_add (l := 1) (u := 12) h_y2 kv_1 rfl) (fun v14 h_v14 e_v14 => ?_)
  exact hrec _ _ h_v12 (iv_w (l := 1) (u := 12) h_v14 rfl) (ms_up e_v14 h_y2 rfl hm)
set_option maxRecDepth 100000 in
set_option maxHeartbeats 4000000 in
theorem s_b_M_gaps_12 {F G : Nat} (hF : 100000 ≤ F) (hG : 20 ≤ G) {C : St} {S : St} (hS_S : Inv C S)  : ∀ (f : Nat) (w1 : Int32) (w2 : Int32), iv w1 (0) (4095) → iv w2 (0) (12) → (12) - w2.toInt + 1 ≤ (f : Int) → Sf2 (fx2 (b_M_gaps_12 F G S)  f w1 w2) (fun r S2 => iv r (0) (4095) ∧ Inv C S2) := by
  intro f
  induction f with
  | zero => intro w1 w2 h_w1 h_w2 hm; exact (ms_zu h_w2 hm).elim
  | succ f hrec =>
    intro w1 w2 h_w1 h_w2 hm
    replace hm := ms_s hm
    show Sf2 (b_M_gaps_12 F G S (fx2 (b_M_gaps_12 F G S)  f) w1 w2) _
    generalize fx2 (b_M_gaps_12 F G S)  f = rec at hrec ⊢
    unfold b_M_gaps_12
    refine sg_ite (fun c1 => ?_) (fun c1 => ?_)
    · have f2 : iv _ (1) (12) := iv_leB c1 (cell_78_46 hS_S) h_w2 rfl
      exact sg_some h_w1 hS_S
    · have f3 : iv _ (0) (11) := iv_ltA (Int32.not_le.mp c1) h_w2 (cell_78_46 hS_S) rfl
      refine sg_gd (inB_iv f3 rfl) ?_
      refine sg_bd (s_fM_tunes hF hG hS_S) (fun v8 h_v8 => ?_)
      refine sg_ite (fun c4 => ?_) (fun c4 => ?_)
      · have f5 : iv _ (0) (0) := iv_eqA c4 kv_0
        exact s_j_M_gaps_40 hF hG hS_S f3 h_w1 (iv_w (l := 1) (u := 1) kv_1 rfl) hrec hm
      · have f6 : iv _ (1) (1023) := iv_neL c4 (iv_andR (u := 1023) h_v8 rfl) kv_0 rfl
        exact s_j_M_gaps_40 hF hG hS_S f3 h_w1 (iv_w (l := 0) (u := 0) kv_0 rfl) hrec hm
set_option maxRecDepth 100000 in
set_option maxHeartbeats 4000000 in
theorem s_fM_gaps {F G : Nat} (hF : 100000 ≤ F) (hG : 20 ≤ G) {C : St} {S : St} (hS_S : Inv C S) : Sf2 (fM_gaps F G S) (fun r S2 => iv r (0) (4095) ∧ Inv C S2) := by
  unfold fM_gaps
  refine sg_bd (s_fM_fill hF hG hS_S) (fun S2 hS_S2 => ?_)
  refine sg_bd (s_fM_laySound hF hG hS_S2) (fun S4 hS_S4 => ?_)
  exact s_b_M_gaps_12 hF hG hS_S4 F _ _ (iv_w (l := 0) (u := 0) kv_0 rfl) (iv_w (l := 0) (u := 0) kv_0 rfl) (ms_iu kv_0 hF rfl)
set_option maxRecDepth 100000 in
set_option maxHeartbeats 4000000 in
theorem s_fN_easier {F G : Nat} (hF : 100000 ≤ F) (hG : 20 ≤ G) {C : St} {S : St} (hS_S : Inv C S) {p1 : Int32} : Sf2 (fN_easier F G S p1) (fun r S2 => iv r (-63) (63) ∧ Inv C S2) := by
  unfold fN_easier
  refine sg_bd (s_fN_isNote hF hG hS_S) (fun v2 h_v2 => ?_)
  obtain ⟨h_v2, k_v2⟩ := h_v2
  refine sg_ite (fun c1 => ?_) (fun c1 => ?_)
  · have f2 : iv _ (0) (0) := iv_eqA c1 kv_0
    exact sg_some (iv_w (l := -1) (u := -1) kv_m1 rfl) hS_S
  · have f3 : iv _ (0) (9) := k_v2 c1
    have f4 : iv _ (1) (1) := iv_neL c1 h_v2 kv_0 rfl
    refine sg_gd (inB_iv f3 rfl) ?_
    refine sg_ite (fun c5 => ?_) (fun c5 => ?_)
    · have f6 : iv _ (0) (0) := iv_eqA c5 kv_0
      exact sg_some (iv_w (l := -1) (u := -1) kv_m1 rfl) hS_S
    · refine sg_bd (s_fN_lookAtKeys hF hG hS_S) (fun S7 hS_S7 => ?_)
      refine sg_ltI (iv_top _) (fun v8 h_v8 e_v8 => ?_)
      refine sg_bd (s_fK_clashingBeats hF hG hS_S7) (fun v11 h_v11 => ?_)
      refine sg_bd (s_fK_clashingBeats hF hG hS_S7) (fun v13 h_v13 => ?_)
      refine sg_bd (s_fJ_bitCount hF hG hS_S7) (fun v15 h_v15 => ?_)
      refine sg_bd (s_fJ_bitCount hF hG hS_S7) (fun v17 h_v17 => ?_)
      exact sg_some (iv_sub (l := -63) (u := 63) h_v15 h_v17 rfl) hS_S7
set_option maxRecDepth 100000 in
set_option maxHeartbeats 4000000 in
theorem s_fM_easier {F G : Nat} (hF : 100000 ≤ F) (hG : 20 ≤ G) {C : St} {S : St} (hS_S : Inv C S) {p1 : Int32} : Sf2 (fM_easier F G S p1) (fun r S2 => iv r (-2147483648) (2147483647) ∧ Inv C S2) := by
  unfold fM_easier
  refine sg_bd (s_fM_isNote hF hG hS_S) (fun v2 h_v2 => ?_)
  obtain ⟨h_v2, k_v2⟩ := h_v2
  refine sg_ite (fun c1 => ?_) (fun c1 => ?_)
  · have f2 : iv _ (0) (0) := iv_eqA c1 kv_0
    exact sg_some (iv_top _) hS_S
  · have f3 : iv _ (0) (9) := k_v2 c1
    have f4 : iv _ (1) (1) := iv_neL c1 h_v2 kv_0 rfl
    refine sg_gd (inB_iv f3 rfl) ?_
    refine sg_ite (fun c5 => ?_) (fun c5 => ?_)
    · have f6 : iv _ (0) (0) := iv_eqA c5 kv_0
      exact sg_some (iv_top _) hS_S
    · refine sg_bd2 (s_fM_clashes hF hG hS_S) (fun v7 S8 hq => ?_)
      obtain ⟨h_v7, hS_S8⟩ := hq
      refine sg_bd (s_fM_members hF hG hS_S8 h_v7) (fun v10 h_v10 => ?_)
      refine sg_gd (inB_iv f3 rfl) ?_
      refine sg_ltS0 (str_101 hS_S8 _ (iv_top _)) (fun S12 hS_S12 => ?_)
      refine sg_bd (s_fM_clashBeats hF hG hS_S12) (fun v15 h_v15 => ?_)
      refine sg_bd (s_fM_members hF hG hS_S12 h_v15) (fun v17 h_v17 => ?_)
      exact sg_some (iv_top _) hS_S12
set_option maxRecDepth 100000 in
set_option maxHeartbeats 4000000 in
theorem s_b_K_fullestBeat_7 {F G : Nat} (hF : 100000 ≤ F) (hG : 20 ≤ G) {C : St} {S : St} (hS_S : Inv C S) {z1 : Int32}  : ∀ (f : Nat) (w2 : Int32) (w3 : Int32) (w4 : Int32), iv w2 (0) (11) → iv w3 (0) (63) → iv w4 (0) (12) → (12) - w4.toInt + 1 ≤ (f : Int) → Sf (fx3 (b_K_fullestBeat_7 F G S z1)  f w2 w3 w4) (fun r => iv r (0) (11)) := by
  intro f
  induction f with
  | zero => intro w2 w3 w4 h_w2 h_w3 h_w4 hm; exact (ms_zu h_w4 hm).elim
  | succ f hrec =>
    intro w2 w3 w4 h_w2 h_w3 h_w4 hm
    replace hm := ms_s hm
    show Sf (b_K_fullestBeat_7 F G S z1 (fx3 (b_K_fullestBeat_7 F G S z1)  f) w2 w3 w4) _
    generalize fx3 (b_K_fullestBeat_7 F G S z1)  f = rec at hrec ⊢
    unfold b_K_fullestBeat_7
    refine sf_ite (fun c1 => ?_) (fun c1 => ?_)
    · exact sf_some h_w2
    · have f2 : iv _ (0) (11) := iv_ltA (Int32.not_le.mp c1) h_w4 (cell_57_0 hS_S) rfl
      have f3 : iv _ (1) (12) := iv_ltB (Int32.not_le.mp c1) h_w4 (cell_57_0 hS_S) rfl
      refine sf_bd (s_fK_timelyAt hF hG hS_S (iv_w (l := 0) (u := 11) f2 rfl)) (fun v3 h_v3 => ?_)
      refine sf_bd (s_fJ_bitCount hF hG hS_S) (fun v5 h_v5 => ?_)
      refine sf_ite (fun c4 => ?_) (fun c4 => ?_)
      · refine sf_ltI (iv_add (l := 1) (u := 12) f2 kv_1 rfl) (fun v7 h_v7 e_v7 => ?_)
        exact hrec _ _ _ h_w2 h_w3 (iv_w (l := 1) (u := 12) h_v7 rfl) (ms_up e_v7 f2 rfl hm)
      · have f5 : iv _ (0) (62) := iv_ltA (Int32.not_le.mp c4) h_w3 h_v5 rfl
        have f6 : iv _ (1) (63) := iv_ltB (Int32.not_le.mp c4) h_w3 h_v5 rfl
        refine sf_ltI (iv_add (l := 1) (u := 12) f2 kv_1 rfl) (fun v9 h_v9 e_v9 => ?_)
        exact hrec _ _ _ f2 (iv_w (l := 1) (u := 63) f6 rfl) (iv_w (l := 1) (u := 12) h_v9 rfl) (ms_up e_v9 f2 rfl hm)
set_option maxRecDepth 100000 in
set_option maxHeartbeats 4000000 in
theorem s_fK_fullestBeat {F G : Nat} (hF : 100000 ≤ F) (hG : 20 ≤ G) {C : St} {S : St} (hS_S : Inv C S) {p1 : Int32} : Sf (fK_fullestBeat F G S p1) (fun r => iv r (0) (11)) := by
  unfold fK_fullestBeat
  exact s_b_K_fullestBeat_7 hF hG hS_S F _ _ _ (iv_w (l := 0) (u := 0) kv_0 rfl) (iv_w (l := 0) (u := 0) kv_0 rfl) (iv_w (l := 0) (u := 0) kv_0 rfl) (ms_iu kv_0 hF rfl)
set_option maxRecDepth 100000 in
set_option maxHeartbeats 4000000 in
theorem s_fN_thickest {F G : Nat} (hF : 100000 ≤ F) (hG : 20 ≤ G) {C : St} {S : St} (hS_S : Inv C S) : Sf2 (fN_thickest F G S) (fun r S2 => iv r (0) (11) ∧ Inv C S2) := by
  unfold fN_thickest
  refine sg_bd (s_fN_lookAtKeys hF hG hS_S) (fun S2 hS_S2 => ?_)
  refine sg_bd (s_fK_fullestBeat hF hG hS_S2) (fun v4 h_v4 => ?_)
  exact sg_some h_v4 hS_S2
set_option maxRecDepth 100000 in
set_option maxHeartbeats 4000000 in
theorem s_b_M_thickest_20 {F G : Nat} (hF : 100000 ≤ F) (hG : 20 ≤ G) {C : St} {S : St} (hS_S : Inv C S) {z1 : Int32} (h_z1 : iv z1 (0) (1023))  : ∀ (f : Nat) (w2 : Int32) (w3 : Int32), iv w2 (0) (11) → iv w3 (1) (12) → (12) - w3.toInt + 1 ≤ (f : Int) → Sf2 (fx2 (b_M_thickest_20 F G S z1)  f w2 w3) (fun r S2 => iv r (0) (11) ∧ Inv C S2) := by
  intro f
  induction f with
  | zero => intro w2 w3 h_w2 h_w3 hm; exact (ms_zu h_w3 hm).elim
  | succ f hrec =>
    intro w2 w3 h_w2 h_w3 hm
    replace hm := ms_s hm
    show Sf2 (b_M_thickest_20 F G S z1 (fx2 (b_M_thickest_20 F G S z1)  f) w2 w3) _
    generalize fx2 (b_M_thickest_20 F G S z1)  f = rec at hrec ⊢
    unfold b_M_thickest_20
    refine sg_ite (fun c1 => ?_) (fun c1 => ?_)
    · exact sg_some h_w2 hS_S
    · have f2 : iv _ (1) (11) := iv_ltA (Int32.not_le.mp c1) h_w3 (cell_78_46 hS_S) rfl
      have f3 : iv _ (2) (12) := iv_ltB (Int32.not_le.mp c1) h_w3 (cell_78_46 hS_S) rfl
      refine sg_gd (inB_iv f2 rfl) ?_
      refine sg_bd (s_fM_members hF hG hS_S (iv_w (l := 0) (u := 1023) (iv_andR (u := 1023) h_z1 rfl) rfl)) (fun v12 h_v12 => ?_)
      refine sg_gd (inB_iv h_w2 rfl) ?_
      refine sg_bd (s_fM_members hF hG hS_S (iv_w (l := 0) (u := 1023) (iv_andR (u := 1023) h_z1 rfl) rfl)) (fun v15 h_v15 => ?_)
      refine sg_ite (fun c4 => ?_) (fun c4 => ?_)
      · refine sg_ltI (iv_add (l := 2) (u := 12) f2 kv_1 rfl) (fun v17 h_v17 e_v17 => ?_)
        exact hrec _ _ h_w2 (iv_w (l := 2) (u := 12) h_v17 rfl) (ms_up e_v17 f2 rfl hm)
      · have f5 : iv _ (-2147483648) (2147483646) := iv_ltA (Int32.not_le.mp c4) (iv_top _) (iv_top _) rfl
        have f6 : iv _ (-2147483647) (2147483647) := iv_ltB (Int32.not_le.mp c4) (iv_top _) (iv_top _) rfl
        refine sg_ltI (iv_add (l := 2) (u := 12) f2 kv_1 rfl) (fun v19 h_v19 e_v19 => ?_)
        exact hrec _ _ (iv_w (l := 1) (u := 11) f2 rfl) (iv_w (l := 2) (u := 12) h_v19 rfl) (ms_up e_v19 f2 rfl hm)
set_option maxRecDepth 100000 in
set_option maxHeartbeats 4000000 in
theorem s_fM_thickest {F G : Nat} (hF : 100000 ≤ F) (hG : 20 ≤ G) {C : St} {S : St} (hS_S : Inv C S) : Sf2 (fM_thickest F G S) (fun r S2 => iv r (0) (11) ∧ Inv C S2) := by
  unfold fM_thickest
  refine sg_bd (s_fM_fill hF hG hS_S) (fun S2 hS_S2 => ?_)
  refine sg_bd (s_fM_given hF hG hS_S2 (iv_w (l := 1) (u := 1) kv_1 rfl)) (fun v4 h_v4 => ?_)
  refine sg_bd (s_fM_given hF hG hS_S2 (iv_w (l := 2) (u := 2) kv_2 rfl)) (fun v6 h_v6 => ?_)
  refine sg_ltI (iv_or (n := 10) (u := 1023) h_v4 h_v6 rfl) (fun v7 h_v7 e_v7 => ?_)
  exact s_b_M_thickest_20 hF hG hS_S2 h_v7 F _ _ (iv_w (l := 0) (u := 0) kv_0 rfl) (iv_w (l := 1) (u := 1) kv_1 rfl) (ms_iu kv_1 hF rfl)
set_option maxRecDepth 100000 in
set_option maxHeartbeats 4000000 in
theorem s_fN_busiest {F G : Nat} (hF : 100000 ≤ F) (hG : 20 ≤ G) {C : St} {S : St} (hS_S : Inv C S) {p1 : Int32} : Sf2 (fN_busiest F G S p1) (fun r S2 => iv r (-1) (11) ∧ Inv C S2) := by
  unfold fN_busiest
  refine sg_bd (s_fN_isHand hF hG hS_S) (fun v2 h_v2 => ?_)
  obtain ⟨h_v2, k_v2⟩ := h_v2
  refine sg_ite (fun c1 => ?_) (fun c1 => ?_)
  · have f2 : iv _ (0) (0) := iv_eqA c1 kv_0
    exact sg_some (iv_w (l := -1) (u := -1) kv_m1 rfl) hS_S
  · have f3 : iv _ (1) (2) := k_v2 c1
    have f4 : iv _ (1) (1) := iv_neL c1 h_v2 kv_0 rfl
    refine sg_bd (s_fN_lookAtKeys hF hG hS_S) (fun S5 hS_S5 => ?_)
    refine sg_bd (s_fK_setOf hF hG hS_S5 f3) (fun v7 h_v7 => ?_)
    refine sg_bd (s_fK_fullestBeat hF hG hS_S5) (fun v9 h_v9 => ?_)
    exact sg_some (iv_w (l := 0) (u := 11) h_v9 rfl) hS_S5
set_option maxRecDepth 100000 in
set_option maxHeartbeats 4000000 in
theorem s_b_M_busiest_17 {F G : Nat} (hF : 100000 ≤ F) (hG : 20 ≤ G) {C : St} {S : St} (hS_S : Inv C S) {z1 : Int32} (h_z1 : iv z1 (1) (2))  : ∀ (f : Nat) (w2 : Int32) (w3 : Int32), iv w2 (0) (11) → iv w3 (1) (12) → (12) - w3.toInt + 1 ≤ (f : Int) → Sf2 (fx2 (b_M_busiest_17 F G S z1)  f w2 w3) (fun r S2 => iv r (-1) (11) ∧ Inv C S2) := by
  intro f
  induction f with
  | zero => intro w2 w3 h_w2 h_w3 hm; exact (ms_zu h_w3 hm).elim
  | succ f hrec =>
    intro w2 w3 h_w2 h_w3 hm
    replace hm := ms_s hm
    show Sf2 (b_M_busiest_17 F G S z1 (fx2 (b_M_busiest_17 F G S z1)  f) w2 w3) _
    generalize fx2 (b_M_busiest_17 F G S z1)  f = rec at hrec ⊢
    unfold b_M_busiest_17
    refine sg_ite (fun c1 => ?_) (fun c1 => ?_)
    · exact sg_some (iv_w (l := 0) (u := 11) h_w2 rfl) hS_S
    · have f2 : iv _ (1) (11) := iv_ltA (Int32.not_le.mp c1) h_w3 (cell_78_46 hS_S) rfl
      have f3 : iv _ (2) (12) := iv_ltB (Int32.not_le.mp c1) h_w3 (cell_78_46 hS_S) rfl
      refine sg_bd (s_fM_given hF hG hS_S (iv_w (l := 1) (u := 2) h_z1 rfl)) (fun v8 h_v8 => ?_)
      refine sg_gd (inB_iv f2 rfl) ?_
      refine sg_bd (s_fM_members hF hG hS_S (iv_w (l := 0) (u := 1023) (iv_andL (u := 1023) h_v8 rfl) rfl)) (fun v11 h_v11 => ?_)
      refine sg_bd (s_fM_given hF hG hS_S (iv_w (l := 1) (u := 2) h_z1 rfl)) (fun v13 h_v13 => ?_)
      refine sg_gd (inB_iv h_w2 rfl) ?_
      refine sg_bd (s_fM_members hF hG hS_S (iv_w (l := 0) (u := 1023) (iv_andL (u := 1023) h_v13 rfl) rfl)) (fun v16 h_v16 => ?_)
      refine sg_ite (fun c4 => ?_) (fun c4 => ?_)
      · refine sg_ltI (iv_add (l := 2) (u := 12) f2 kv_1 rfl) (fun v18 h_v18 e_v18 => ?_)
        exact hrec _ _ h_w2 (iv_w (l := 2) (u := 12) h_v18 rfl) (ms_up e_v18 f2 rfl hm)
      · have f5 : iv _ (-2147483648) (2147483646) := iv_ltA (Int32.not_le.mp c4) (iv_top _) (iv_top _) rfl
        have f6 : iv _ (-2147483647) (2147483647) := iv_ltB (Int32.not_le.mp c4) (iv_top _) (iv_top _) rfl
        refine sg_ltI (iv_add (l := 2) (u := 12) f2 kv_1 rfl) (fun v20 h_v20 e_v20 => ?_)
        exact hrec _ _ (iv_w (l := 1) (u := 11) f2 rfl) (iv_w (l := 2) (u := 12) h_v20 rfl) (ms_up e_v20 f2 rfl hm)
set_option maxRecDepth 100000 in
set_option maxHeartbeats 4000000 in
theorem s_fM_busiest {F G : Nat} (hF : 100000 ≤ F) (hG : 20 ≤ G) {C : St} {S : St} (hS_S : Inv C S) {p1 : Int32} : Sf2 (fM_busiest F G S p1) (fun r S2 => iv r (-1) (11) ∧ Inv C S2) := by
  unfold fM_busiest
  refine sg_bd (s_fM_isHand hF hG hS_S) (fun v2 h_v2 => ?_)
  obtain ⟨h_v2, k_v2⟩ := h_v2
  refine sg_ite (fun c1 => ?_) (fun c1 => ?_)
  · have f2 : iv _ (0) (0) := iv_eqA c1 kv_0
    exact sg_some (iv_w (l := -1) (u := -1) kv_m1 rfl) hS_S
  · have f3 : iv _ (1) (2) := k_v2 c1
    have f4 : iv _ (1) (1) := iv_neL c1 h_v2 kv_0 rfl
    refine sg_bd (s_fM_fill hF hG hS_S) (fun S5 hS_S5 => ?_)
    exact s_b_M_busiest_17 hF hG hS_S5 f3 F _ _ (iv_w (l := 0) (u := 0) kv_0 rfl) (iv_w (l := 1) (u := 1) kv_1 rfl) (ms_iu kv_1 hF rfl)
set_option maxRecDepth 100000 in
set_option maxHeartbeats 4000000 in
theorem s_fN_law {F G : Nat} (hF : 100000 ≤ F) (hG : 20 ≤ G) {C : St} {S : St} (hS_S : Inv C S) {p1 : Int32} : Sf2 (fN_law F G S p1) (fun r S2 => iv r (-1) (63) ∧ Inv C S2) := by
  unfold fN_law
  refine sg_bd (s_fN_isKey hF hG hS_S) (fun v2 h_v2 => ?_)
  obtain ⟨h_v2, k_v2⟩ := h_v2
  refine sg_ite (fun c1 => ?_) (fun c1 => ?_)
  · have f2 : iv _ (0) (0) := iv_eqA c1 kv_0
    exact sg_some (iv_w (l := -1) (u := -1) kv_m1 rfl) hS_S
  · have f3 : iv _ (0) (87) := k_v2 c1
    have f4 : iv _ (1) (1) := iv_neL c1 h_v2 kv_0 rfl
    refine sg_bd (s_fN_lookAtKeys hF hG hS_S) (fun S5 hS_S5 => ?_)
    refine sg_ltS (Q := fun T => iv (T.1 57 2) (0) (87) ∧ True) (st_57_2 hS_S5 (iv_top _)) ⟨(nwc f3), trivial⟩ (fun S6 hS_S6 hq => ?_)
    obtain ⟨f5, -⟩ := hq
    refine sg_bd (s_fK_clashingBeats hF hG hS_S6) (fun v9 h_v9 => ?_)
    refine sg_bd (s_fJ_bitCount hF hG hS_S6) (fun v11 h_v11 => ?_)
    exact sg_some (iv_w (l := 0) (u := 63) h_v11 rfl) hS_S6
set_option maxRecDepth 100000 in
set_option maxHeartbeats 4000000 in
theorem s_fM_law {F G : Nat} (hF : 100000 ≤ F) (hG : 20 ≤ G) {C : St} {S : St} (hS_S : Inv C S) {p1 : Int32} : Sf2 (fM_law F G S p1) (fun r S2 => iv r (-2147483648) (2147483647) ∧ Inv C S2) := by
  unfold fM_law
  refine sg_bd (s_fM_isIn hF hG hS_S (iv_w (l := 0) (u := 0) kv_0 rfl) (iv_w (l := 87) (u := 87) kv_87 rfl)) (fun v2 h_v2 => ?_)
  obtain ⟨h_v2, k_v2⟩ := h_v2
  refine sg_ite (fun c1 => ?_) (fun c1 => ?_)
  · have f2 : iv _ (0) (0) := iv_eqA c1 kv_0
    exact sg_some (iv_top _) hS_S
  · have f3 : iv _ (0) (87) := isIn_iv kv_0 kv_87 k_v2 c1
    have f4 : iv _ (1) (1) := iv_neL c1 h_v2 kv_0 rfl
    refine sg_bd (s_fM_fill hF hG hS_S) (fun S5 hS_S5 => ?_)
    refine sg_bd (s_fM_clashBeats hF hG hS_S5) (fun v7 h_v7 => ?_)
    refine sg_bd (s_fM_members hF hG hS_S5 h_v7) (fun v9 h_v9 => ?_)
    exact sg_some (iv_top _) hS_S5
set_option maxRecDepth 100000 in
set_option maxHeartbeats 4000000 in
theorem s_j_N_dearest_38 {F G : Nat} (hF : 100000 ≤ F) (hG : 20 ≤ G) {C : St} {S : St} (hS_S : Inv C S) {y1 : Int32} (h_y1 : iv y1 (-1) (9)) {y2 : Int32} (h_y2 : iv y2 (-1) (2147483647)) {y3 : Int32} (h_y3 : iv y3 (0) (9)) {s0 : Int32} {rec : Int32 → Int32 → Int32 → St → Option (Int32 × St)} {M : Int} (hrec : ∀ (w1 : Int32) (w2 : Int32) (w3 : Int32) (S : St), iv w1 (-1) (9) → iv w2 (-1) (2147483647) → iv w3 (0) (10) → Inv C S → (10) - w3.toInt + 1 ≤ M → Sf2 (rec w1 w2 w3 S) (fun r S2 => iv r (-1) (9) ∧ Inv C S2)) (hm : (10) - y3.toInt ≤ M) : Sf2 (j_N_dearest_38 F G rec S y1 y2 y3 s0) (fun r S2 => iv r (-1) (9) ∧ Inv C S2) := by
  unfold j_N_dearest_38
  refine sg_ite (fun c1 => ?_) (fun c1 => ?_)
  · refine sg_ltI (iv_add (l := 1) (u := 10) h_y3 kv_1 rfl) (fun v9 h_v9 e_v9 => ?_)
    exact hrec _ _ _ _ h_y1 h_y2 (iv_w (l := 1) (u := 10) h_v9 rfl) hS_S (ms_up e_v9 h_y3 rfl hm)
  · have f2 : iv _ (-1) (2147483646) := iv_ltA (Int32.not_le.mp c1) h_y2 (iv_top _) rfl
    have f3 : iv _ (0) (2147483647) := iv_ltB (Int32.not_le.mp c1) h_y2 (iv_top _) rfl
    refine sg_ltI (iv_add (l := 1) (u := 10) h_y3 kv_1 rfl) (fun v11 h_v11 e_v11 => ?_)
    exact hrec _ _ _ _ (iv_w (l := 0) (u := 9) h_y3 rfl) (iv_w (l := 0) (u := 2147483647) f3 rfl) (iv_w (l := 1) (u := 10) h_v11 rfl) hS_S (ms_up e_v11 h_y3 rfl hm)
set_option maxRecDepth 100000 in
set_option maxHeartbeats 4000000 in
theorem s_b_N_dearest_6 {F G : Nat} (hF : 100000 ≤ F) (hG : 20 ≤ G) {C : St}   : ∀ (f : Nat) (w1 : Int32) (w2 : Int32) (w3 : Int32) (S : St), iv w1 (-1) (9) → iv w2 (-1) (2147483647) → iv w3 (0) (10) → Inv C S → (10) - w3.toInt + 1 ≤ (f : Int) → Sf2 (fx4 (b_N_dearest_6 F G)  f w1 w2 w3 S) (fun r S2 => iv r (-1) (9) ∧ Inv C S2) := by
  intro f
  induction f with
  | zero => intro w1 w2 w3 S h_w1 h_w2 h_w3 hS_S hm; exact (ms_zu h_w3 hm).elim
  | succ f hrec =>
    intro w1 w2 w3 S h_w1 h_w2 h_w3 hS_S hm
    replace hm := ms_s hm
    show Sf2 (b_N_dearest_6 F G (fx4 (b_N_dearest_6 F G)  f) w1 w2 w3 S) _
    generalize fx4 (b_N_dearest_6 F G)  f = rec at hrec ⊢
    unfold b_N_dearest_6
    refine sg_gd (sco hS_S hS_S.told) ?_
    refine sg_ite (fun c1 => ?_) (fun c1 => ?_)
    · exact sg_some h_w1 hS_S
    · have f2 : iv _ (0) (9) := iv_ltA (Int32.not_le.mp c1) h_w3 (sco_6 hS_S hS_S.told) rfl
      have f3 : iv _ (1) (10) := iv_ltB (Int32.not_le.mp c1) h_w3 (sco_6 hS_S hS_S.told) rfl
      refine sg_gd (inB_iv f2 rfl) ?_
      refine sg_ite (fun c4 => ?_) (fun c4 => ?_)
      · have f5 : iv _ (0) (0) := iv_eqA c4 kv_0
        refine sg_bd2 (s_fN_missedOf hF hG hS_S f2) (fun v6 S7 hq => ?_)
        obtain ⟨h_v6, hS_S7⟩ := hq
        exact s_j_N_dearest_38 hF hG hS_S7 h_w1 h_w2 f2 hrec hm
      · exact s_j_N_dearest_38 hF hG hS_S h_w1 h_w2 f2 hrec hm
set_option maxRecDepth 100000 in
set_option maxHeartbeats 4000000 in
theorem s_fN_dearest {F G : Nat} (hF : 100000 ≤ F) (hG : 20 ≤ G) {C : St} {S : St} (hS_S : Inv C S) : Sf2 (fN_dearest F G S) (fun r S2 => iv r (-1) (9) ∧ Inv C S2) := by
  unfold fN_dearest
  exact s_b_N_dearest_6 hF hG  F _ _ _ _ (iv_w (l := -1) (u := -1) kv_m1 rfl) (iv_w (l := -1) (u := -1) kv_m1 rfl) (iv_w (l := 0) (u := 0) kv_0 rfl) hS_S (ms_iu kv_0 hF rfl)
set_option maxRecDepth 100000 in
set_option maxHeartbeats 4000000 in
theorem s_b_M_dearest_12 {F G : Nat} (hF : 100000 ≤ F) (hG : 20 ≤ G) {C : St} {S : St} (hS_S : Inv C S)  : ∀ (f : Nat) (w1 : Int32) (w2 : Int32), iv w1 (-1) (9) → iv w2 (0) (10) → (10) - w2.toInt + 1 ≤ (f : Int) → Sf2 (fx2 (b_M_dearest_12 F G S)  f w1 w2) (fun r S2 => iv r (-1) (9) ∧ Inv C S2) := by
  intro f
  induction f with
  | zero => intro w1 w2 h_w1 h_w2 hm; exact (ms_zu h_w2 hm).elim
  | succ f hrec =>
    intro w1 w2 h_w1 h_w2 hm
    replace hm := ms_s hm
    show Sf2 (b_M_dearest_12 F G S (fx2 (b_M_dearest_12 F G S)  f) w1 w2) _
    generalize fx2 (b_M_dearest_12 F G S)  f = rec at hrec ⊢
    unfold b_M_dearest_12
    refine sg_ite (fun c1 => ?_) (fun c1 => ?_)
    · exact sg_some h_w1 hS_S
    · have f2 : iv _ (0) (9) := iv_ltA (Int32.not_le.mp c1) h_w2 (cell_78_48 hS_S) rfl
      have f3 : iv _ (1) (10) := iv_ltB (Int32.not_le.mp c1) h_w2 (cell_78_48 hS_S) rfl
      refine sg_gd (inB_iv f2 rfl) ?_
      refine sg_ite (fun c4 => ?_) (fun c4 => ?_)
      · have f5 : iv _ (0) (0) := iv_eqA c4 kv_0
        refine sg_ite (fun c6 => ?_) (fun c6 => ?_)
        · have f7 : iv _ (-1) (-1) := iv_ltA c6 h_w1 kv_0 rfl
          refine sg_ltI (iv_add (l := 1) (u := 10) f2 kv_1 rfl) (fun v11 h_v11 e_v11 => ?_)
          exact hrec _ _ (iv_w (l := 0) (u := 9) f2 rfl) (iv_w (l := 1) (u := 10) h_v11 rfl) (ms_up e_v11 f2 rfl hm)
        · have f8 : iv _ (0) (9) := iv_leB (Int32.not_lt.mp c6) kv_0 h_w1 rfl
          refine sg_gd (inB_iv f2 rfl) ?_
          refine sg_gd (inB_iv f8 rfl) ?_
          refine sg_ite (fun c9 => ?_) (fun c9 => ?_)
          · refine sg_ltI (iv_add (l := 1) (u := 10) f2 kv_1 rfl) (fun v16 h_v16 e_v16 => ?_)
            exact hrec _ _ (iv_w (l := 0) (u := 9) f8 rfl) (iv_w (l := 1) (u := 10) h_v16 rfl) (ms_up e_v16 f2 rfl hm)
          · have f10 : iv _ (-2147483648) (2147483646) := iv_ltA (Int32.not_le.mp c9) (iv_top _) (iv_top _) rfl
            have f11 : iv _ (-2147483647) (2147483647) := iv_ltB (Int32.not_le.mp c9) (iv_top _) (iv_top _) rfl
            refine sg_ltI (iv_add (l := 1) (u := 10) f2 kv_1 rfl) (fun v18 h_v18 e_v18 => ?_)
            exact hrec _ _ (iv_w (l := 0) (u := 9) f2 rfl) (iv_w (l := 1) (u := 10) h_v18 rfl) (ms_up e_v18 f2 rfl hm)
      · refine sg_ltI (iv_add (l := 1) (u := 10) f2 kv_1 rfl) (fun v8 h_v8 e_v8 => ?_)
        exact hrec _ _ h_w1 (iv_w (l := 1) (u := 10) h_v8 rfl) (ms_up e_v8 f2 rfl hm)
set_option maxRecDepth 100000 in
set_option maxHeartbeats 4000000 in
theorem s_fM_dearest {F G : Nat} (hF : 100000 ≤ F) (hG : 20 ≤ G) {C : St} {S : St} (hS_S : Inv C S) : Sf2 (fM_dearest F G S) (fun r S2 => iv r (-1) (9) ∧ Inv C S2) := by
  unfold fM_dearest
  refine sg_bd (s_fM_fill hF hG hS_S) (fun S2 hS_S2 => ?_)
  refine sg_bd (s_fM_layMissed hF hG hS_S2) (fun S4 hS_S4 => ?_)
  exact s_b_M_dearest_12 hF hG hS_S4 F _ _ (iv_w (l := -1) (u := -1) kv_m1 rfl) (iv_w (l := 0) (u := 0) kv_0 rfl) (ms_iu kv_0 hF rfl)
set_option maxRecDepth 100000 in
set_option maxHeartbeats 4000000 in
theorem s_b_N_could_17 {F G : Nat} (hF : 100000 ≤ F) (hG : 20 ≤ G) {C : St} {S : St} (hS_S : Inv C S) {z1 : Int32} (h_z1 : iv z1 (1) (2))  : ∀ (f : Nat) (w2 : Int32) (w3 : Int32), iv w2 (0) (1023) → iv w3 (0) (10) → (10) - w3.toInt + 1 ≤ (f : Int) → Sf2 (fx2 (b_N_could_17 F G S z1)  f w2 w3) (fun r S2 => iv r (-1) (1023) ∧ Inv C S2) := by
  intro f
  induction f with
  | zero => intro w2 w3 h_w2 h_w3 hm; exact (ms_zu h_w3 hm).elim
  | succ f hrec =>
    intro w2 w3 h_w2 h_w3 hm
    replace hm := ms_s hm
    show Sf2 (b_N_could_17 F G S z1 (fx2 (b_N_could_17 F G S z1)  f) w2 w3) _
    generalize fx2 (b_N_could_17 F G S z1)  f = rec at hrec ⊢
    unfold b_N_could_17
    refine sg_gd (sco hS_S hS_S.told) ?_
    refine sg_ite (fun c1 => ?_) (fun c1 => ?_)
    · exact sg_some (iv_w (l := 0) (u := 1023) h_w2 rfl) hS_S
    · have f2 : iv _ (0) (9) := iv_ltA (Int32.not_le.mp c1) h_w3 (sco_6 hS_S hS_S.told) rfl
      have f3 : iv _ (1) (10) := iv_ltB (Int32.not_le.mp c1) h_w3 (sco_6 hS_S hS_S.told) rfl
      refine sg_gd (inB_iv f2 rfl) ?_
      refine sg_ite (fun c4 => ?_) (fun c4 => ?_)
      · have f5 : iv _ (0) (0) := iv_eqA c4 kv_0
        refine sg_bd (s_fK_newClashesWith hF hG hS_S f2 h_z1) (fun v13 h_v13 => ?_)
        refine sg_ite (fun c6 => ?_) (fun c6 => ?_)
        · have f7 : iv _ (0) (0) := iv_eqA c6 kv_0
          refine sg_ltI (iv_or (n := 10) (u := 1023) h_w2 (iv_shl (u := 512) f2 rfl) rfl) (fun v17 h_v17 e_v17 => ?_)
          refine sg_ltI (iv_add (l := 1) (u := 10) f2 kv_1 rfl) (fun v19 h_v19 e_v19 => ?_)
          exact hrec _ _ h_v17 (iv_w (l := 1) (u := 10) h_v19 rfl) (ms_up e_v19 f2 rfl hm)
        · have f8 : iv _ (1) (31) := iv_neL c6 h_v13 kv_0 rfl
          refine sg_ltI (iv_add (l := 1) (u := 10) f2 kv_1 rfl) (fun v15 h_v15 e_v15 => ?_)
          exact hrec _ _ h_w2 (iv_w (l := 1) (u := 10) h_v15 rfl) (ms_up e_v15 f2 rfl hm)
      · refine sg_ltI (iv_add (l := 1) (u := 10) f2 kv_1 rfl) (fun v10 h_v10 e_v10 => ?_)
        exact hrec _ _ h_w2 (iv_w (l := 1) (u := 10) h_v10 rfl) (ms_up e_v10 f2 rfl hm)
set_option maxRecDepth 100000 in
set_option maxHeartbeats 4000000 in
theorem s_fN_could {F G : Nat} (hF : 100000 ≤ F) (hG : 20 ≤ G) {C : St} {S : St} (hS_S : Inv C S) {p1 : Int32} : Sf2 (fN_could F G S p1) (fun r S2 => iv r (-1) (1023) ∧ Inv C S2) := by
  unfold fN_could
  refine sg_bd (s_fN_isHand hF hG hS_S) (fun v2 h_v2 => ?_)
  obtain ⟨h_v2, k_v2⟩ := h_v2
  refine sg_ite (fun c1 => ?_) (fun c1 => ?_)
  · have f2 : iv _ (0) (0) := iv_eqA c1 kv_0
    exact sg_some (iv_w (l := -1) (u := -1) kv_m1 rfl) hS_S
  · have f3 : iv _ (1) (2) := k_v2 c1
    have f4 : iv _ (1) (1) := iv_neL c1 h_v2 kv_0 rfl
    refine sg_bd (s_fN_lookAtKeys hF hG hS_S) (fun S5 hS_S5 => ?_)
    exact s_b_N_could_17 hF hG hS_S5 f3 F _ _ (iv_w (l := 0) (u := 0) kv_0 rfl) (iv_w (l := 0) (u := 0) kv_0 rfl) (ms_iu kv_0 hF rfl)
set_option maxRecDepth 100000 in
set_option maxHeartbeats 4000000 in
theorem s_b_M_could_13 {F G : Nat} (hF : 100000 ≤ F) (hG : 20 ≤ G) {C : St} {z1 : Int32} (h_z1 : iv z1 (1) (2))  : ∀ (f : Nat) (w2 : Int32) (w3 : Int32) (S : St), iv w2 (0) (1023) → iv w3 (0) (10) → Inv C S → (10) - w3.toInt + 1 ≤ (f : Int) → Sf2 (fx3 (b_M_could_13 F G z1)  f w2 w3 S) (fun r S2 => iv r (-1) (1023) ∧ Inv C S2) := by
  intro f
  induction f with
  | zero => intro w2 w3 S h_w2 h_w3 hS_S hm; exact (ms_zu h_w3 hm).elim
  | succ f hrec =>
    intro w2 w3 S h_w2 h_w3 hS_S hm
    replace hm := ms_s hm
    show Sf2 (b_M_could_13 F G z1 (fx3 (b_M_could_13 F G z1)  f) w2 w3 S) _
    generalize fx3 (b_M_could_13 F G z1)  f = rec at hrec ⊢
    unfold b_M_could_13
    refine sg_ite (fun c1 => ?_) (fun c1 => ?_)
    · exact sg_some (iv_w (l := 0) (u := 1023) h_w2 rfl) hS_S
    · have f2 : iv _ (0) (9) := iv_ltA (Int32.not_le.mp c1) h_w3 (cell_78_48 hS_S) rfl
      have f3 : iv _ (1) (10) := iv_ltB (Int32.not_le.mp c1) h_w3 (cell_78_48 hS_S) rfl
      refine sg_bd (s_fM_isOut hF hG hS_S) (fun v6 h_v6 => ?_)
      obtain ⟨h_v6, k_v6⟩ := h_v6
      refine sg_ite (fun c4 => ?_) (fun c4 => ?_)
      · have f5 : iv _ (0) (0) := iv_eqA c4 kv_0
        refine sg_ltI (iv_add (l := 1) (u := 10) f2 kv_1 rfl) (fun v8 h_v8 e_v8 => ?_)
        exact hrec _ _ _ h_w2 (iv_w (l := 1) (u := 10) h_v8 rfl) hS_S (ms_up e_v8 f2 rfl hm)
      · have f6 : iv _ (0) (9) := k_v6 c4
        have f7 : iv _ (1) (1) := iv_neL c4 h_v6 kv_0 rfl
        refine sg_bd2 (s_fM_forbidden hF hG hS_S f6 h_z1) (fun v11 S12 hq => ?_)
        obtain ⟨h_v11, hS_S12⟩ := hq
        refine sg_ite (fun c8 => ?_) (fun c8 => ?_)
        · have f9 : iv _ (0) (0) := iv_eqA c8 kv_0
          refine sg_ltI (iv_or (n := 10) (u := 1023) h_w2 (iv_shl (u := 512) f6 rfl) rfl) (fun v16 h_v16 e_v16 => ?_)
          refine sg_ltI (iv_add (l := 1) (u := 10) f6 kv_1 rfl) (fun v18 h_v18 e_v18 => ?_)
          exact hrec _ _ _ h_v16 (iv_w (l := 1) (u := 10) h_v18 rfl) hS_S12 (ms_up e_v18 f2 rfl hm)
        · have f10 : iv _ (1) (31) := iv_neL c8 h_v11 kv_0 rfl
          refine sg_ltI (iv_add (l := 1) (u := 10) f6 kv_1 rfl) (fun v14 h_v14 e_v14 => ?_)
          exact hrec _ _ _ h_w2 (iv_w (l := 1) (u := 10) h_v14 rfl) hS_S12 (ms_up e_v14 f2 rfl hm)
set_option maxRecDepth 100000 in
set_option maxHeartbeats 4000000 in
theorem s_fM_could {F G : Nat} (hF : 100000 ≤ F) (hG : 20 ≤ G) {C : St} {S : St} (hS_S : Inv C S) {p1 : Int32} : Sf2 (fM_could F G S p1) (fun r S2 => iv r (-1) (1023) ∧ Inv C S2) := by
  unfold fM_could
  refine sg_bd (s_fM_isHand hF hG hS_S) (fun v2 h_v2 => ?_)
  obtain ⟨h_v2, k_v2⟩ := h_v2
  refine sg_ite (fun c1 => ?_) (fun c1 => ?_)
  · have f2 : iv _ (0) (0) := iv_eqA c1 kv_0
    exact sg_some (iv_w (l := -1) (u := -1) kv_m1 rfl) hS_S
  · have f3 : iv _ (1) (2) := k_v2 c1
    have f4 : iv _ (1) (1) := iv_neL c1 h_v2 kv_0 rfl
    exact s_b_M_could_13 hF hG f3 F _ _ _ (iv_w (l := 0) (u := 0) kv_0 rfl) (iv_w (l := 0) (u := 0) kv_0 rfl) hS_S (ms_iu kv_0 hF rfl)
set_option maxRecDepth 100000 in
set_option maxHeartbeats 4000000 in
theorem s_fN_lies {F G : Nat} (hF : 100000 ≤ F) (hG : 20 ≤ G) {C : St} {S : St} (hS_S : Inv C S) {p1 : Int32} : Sf (fN_lies F G S p1) (fun r => iv r (-2147483648) (2147483647)) := by
  unfold fN_lies
  refine sf_ite (fun c1 => ?_) (fun c1 => ?_)
  · have f2 : iv _ (-2147483648) (-1) := iv_ltA c1 (iv_top _) kv_0 rfl
    exact sf_some (iv_top _)
  · have f3 : iv _ (0) (2147483647) := iv_leB (Int32.not_lt.mp c1) kv_0 (iv_top _) rfl
    refine sf_ite (fun c4 => ?_) (fun c4 => ?_)
    · exact sf_some (iv_top _)
    · have f5 : iv _ (0) (9) := iv_ltA (Int32.not_le.mp c4) f3 (cell_0_12 hS_S) rfl
      have f6 : iv _ (1) (10) := iv_ltB (Int32.not_le.mp c4) f3 (cell_0_12 hS_S) rfl
      refine sf_gd (inB_iv f5 rfl) ?_
      exact sf_some (iv_top _)
set_option maxRecDepth 100000 in
set_option maxHeartbeats 4000000 in
theorem s_fM_lies {F G : Nat} (hF : 100000 ≤ F) (hG : 20 ≤ G) {C : St} {S : St} (hS_S : Inv C S) {p1 : Int32} : Sf (fM_lies F G S p1) (fun r => iv r (-2147483648) (2147483647)) := by
  unfold fM_lies
  refine sf_bd (s_fM_isIn hF hG hS_S (iv_w (l := 0) (u := 0) kv_0 rfl) (iv_w (l := -1) (u := 9) (iv_sub (l := -1) (u := 9) (cell_78_68 hS_S) kv_1 rfl) rfl)) (fun v2 h_v2 => ?_)
  obtain ⟨h_v2, k_v2⟩ := h_v2
  refine sf_ite (fun c1 => ?_) (fun c1 => ?_)
  · have f2 : iv _ (0) (0) := iv_eqA c1 kv_0
    exact sf_some (iv_top _)
  · have f3 : iv _ (0) (9) := isIn_iv kv_0 (iv_sub (l := -1) (u := 9) (cell_78_68 hS_S) kv_1 rfl) k_v2 c1
    have f4 : iv _ (1) (1) := iv_neL c1 h_v2 kv_0 rfl
    refine sf_gd (inB_iv f3 rfl) ?_
    exact sf_some (iv_top _)
set_option maxRecDepth 100000 in
set_option maxHeartbeats 4000000 in
theorem s_b_I_soundersOf_5 {F G : Nat} (hF : 100000 ≤ F) (hG : 20 ≤ G) {C : St} {S : St} (hS_S : Inv C S) {z0 : Nat} (h_z0 : z0 = C.2.2.1) {z1 : Int32} {z2 : Int32}  : ∀ (f : Nat) (w3 : Int32) (w4 : Int32), iv w3 (0) (1023) → iv w4 (0) (10) → (10) - w4.toInt + 1 ≤ (f : Int) → Sf (fx2 (b_I_soundersOf_5 F G S z0 z1 z2)  f w3 w4) (fun r => iv r (0) (1023)) := by
  intro f
  induction f with
  | zero => intro w3 w4 h_w3 h_w4 hm; exact (ms_zu h_w4 hm).elim
  | succ f hrec =>
    intro w3 w4 h_w3 h_w4 hm
    replace hm := ms_s hm
    show Sf (b_I_soundersOf_5 F G S z0 z1 z2 (fx2 (b_I_soundersOf_5 F G S z0 z1 z2)  f) w3 w4) _
    generalize fx2 (b_I_soundersOf_5 F G S z0 z1 z2)  f = rec at hrec ⊢
    unfold b_I_soundersOf_5
    refine sf_ite (fun c1 => ?_) (fun c1 => ?_)
    · exact sf_some h_w3
    · have f2 : iv _ (0) (9) := iv_ltA (Int32.not_le.mp c1) h_w4 (sco_6 hS_S h_z0) rfl
      have f3 : iv _ (1) (10) := iv_ltB (Int32.not_le.mp c1) h_w4 (sco_6 hS_S h_z0) rfl
      refine sf_gd (inB_iv f2 rfl) ?_
      refine sf_ltI (iv_top _) (fun v3 h_v3 e_v3 => ?_)
      refine sf_gd (inB_iv f2 rfl) ?_
      refine sf_ite (fun c4 => ?_) (fun c4 => ?_)
      · refine sf_ite (fun c5 => ?_) (fun c5 => ?_)
        · have f6 : iv _ (-2147483648) (2147483646) := iv_ltA c5 (iv_top _) (iv_top _) rfl
          have f7 : iv _ (-2147483647) (2147483647) := iv_ltB c5 (iv_top _) (iv_top _) rfl
          refine sf_ltI (iv_add (l := 1) (u := 10) f2 kv_1 rfl) (fun v10 h_v10 e_v10 => ?_)
          exact hrec _ _ h_w3 (iv_w (l := 1) (u := 10) h_v10 rfl) (ms_up e_v10 f2 rfl hm)
        · refine sf_gd (inB_iv f2 rfl) ?_
          refine sf_ite (fun c8 => ?_) (fun c8 => ?_)
          · refine sf_ltI (iv_add (l := 1) (u := 10) f2 kv_1 rfl) (fun v14 h_v14 e_v14 => ?_)
            exact hrec _ _ h_w3 (iv_w (l := 1) (u := 10) h_v14 rfl) (ms_up e_v14 f2 rfl hm)
          · have f9 : iv _ (-2147483648) (2147483646) := iv_ltA (Int32.not_le.mp c8) (iv_top _) (iv_top _) rfl
            have f10 : iv _ (-2147483647) (2147483647) := iv_ltB (Int32.not_le.mp c8) (iv_top _) (iv_top _) rfl
            refine sf_ltI (iv_or (n := 10) (u := 1023) h_w3 (iv_shl (u := 512) f2 rfl) rfl) (fun v16 h_v16 e_v16 => ?_)
            refine sf_ltI (iv_add (l := 1) (u := 10) f2 kv_1 rfl) (fun v18 h_v18 e_v18 => ?_)
            exact hrec _ _ h_v16 (iv_w (l := 1) (u := 10) h_v18 rfl) (ms_up e_v18 f2 rfl hm)
      · refine sf_ltI (iv_add (l := 1) (u := 10) f2 kv_1 rfl) (fun v7 h_v7 e_v7 => ?_)
        exact hrec _ _ h_w3 (iv_w (l := 1) (u := 10) h_v7 rfl) (ms_up e_v7 f2 rfl hm)
set_option maxRecDepth 100000 in
set_option maxHeartbeats 4000000 in
theorem s_fI_soundersOf {F G : Nat} (hF : 100000 ≤ F) (hG : 20 ≤ G) {C : St} {S : St} (hS_S : Inv C S) {o2 : Nat} (h_o2 : o2 = C.2.2.1) {p2 : Int32} {p3 : Int32} : Sf (fI_soundersOf F G S o2 p2 p3) (fun r => iv r (0) (1023)) := by
  unfold fI_soundersOf
  refine sf_gd (sco hS_S h_o2) ?_
  exact s_b_I_soundersOf_5 hF hG hS_S h_o2 F _ _ (iv_w (l := 0) (u := 0) kv_0 rfl) (iv_w (l := 0) (u := 0) kv_0 rfl) (ms_iu kv_0 hF rfl)
set_option maxRecDepth 100000 in
set_option maxHeartbeats 4000000 in
theorem s_b_I_gather_12 {F G : Nat} (hF : 100000 ≤ F) (hG : 20 ≤ G) {C : St} {z1 : Nat} (h1 : z1 = C.2.2.1) {z2 : Int32} : ∀ (f : Nat) (w3 : Int32) (S : St), Inv C S → iv w3 0 30 → (S.1 69 10).toInt ≤ w3.toInt → 30 - w3.toInt + 1 ≤ (f : Int) → Sf (fx2 (b_I_gather_12 F G z1 z2) f w3 S) (fun r => Inv C r) := by
  intro f
  induction f with
  | zero => intro w3 S hS h3 hs hm; have := h3.2; omega
  | succ f ih =>
    intro w3 S hS h3 hs hm
    have hB : iv (S.1 69 0) 0 30 := hS.2.1 69 0 _ _ rfl
    have hB2 : iv (S.1 69 10) 0 30 := hS.2.1 69 10 _ _ rfl
    show Sf (b_I_gather_12 F G z1 z2 (fx2 (b_I_gather_12 F G z1 z2) f) w3 S) _
    generalize fx2 (b_I_gather_12 F G z1 z2) f = rec at ih ⊢
    unfold b_I_gather_12
    refine sf_ite (fun c => sf_some hS) (fun c => ?_)
    have iw : iv w3 0 29 := iv_ltA (Int32.not_le.mp c) h3 hB rfl
    have b3 := iw.2
    have e1 : (w3 + 1).toInt = w3.toInt + 1 := tI_add1 (by omega)
    have i1 : iv (w3 + 1) 0 30 := iv_w (iv_add (l := 1) (u := 30) iw kv_1 rfl) rfl
    have hj : ∀ s0 : Int32, Sf (j_I_gather_45 F G z1 z2 rec S w3 s0) (fun r => Inv C r) := by
      intro s0
      unfold j_I_gather_45
      refine sf_gd (inB_iv iw rfl) (sf_ite (fun _ => ih _ S hS i1 (by omega) (by omega)) (fun _ => sf_ite (fun _ => ?_) (fun _ => ih _ S hS i1 (by omega) (by omega))))
      refine sf_gd (inB_iv iw rfl) (sf_gd (inB_iv iw rfl) ?_)
      refine sf_bd (s_fI_soundersOf hF hG hS h1) fun v _ => ?_
      refine sf_gd (inB_iv iw rfl) (sf_ite (fun _ => ?_) (fun _ => ?_))
      · refine sf_ltS (Q := fun T => T.1 69 10 = S.1 69 10) (hS.stN rfl rfl) (by rw [sI_at]; rfl) fun T hT q => ?_
        exact ih _ T hT i1 (by rw [q]; omega) (by omega)
      · have i10 : iv (S.1 69 10) 0 29 := ⟨hB2.1, by omega⟩
        refine sf_gd (inB_iv i10 rfl) ?_
        refine sf_ltS (Q := fun T => T.1 69 10 = S.1 69 10) (hS.stN rfl rfl) (by rw [sI_at]; rfl) fun T hT q => ?_
        have i11 : iv (T.1 69 10 + 1) 0 30 := by rw [q]; exact iv_w (iv_add (l := 1) (u := 30) i10 kv_1 rfl) rfl
        refine sf_ltS (Q := fun U => U.1 69 10 = S.1 69 10 + 1) (hT.st rfl rfl i11) (by rw [sI_at, if_pos ⟨rfl, rfl⟩, q]) fun U hU q2 => ?_
        refine ih _ U hU i1 ?_ (by omega)
        rw [q2, tI_add1 (by have := hB2.2; omega)]
        omega
    refine sf_gd (inB_iv iw rfl) (sf_ite (fun _ => hj 0) (fun _ => ?_))
    exact sf_gd (inB_iv iw rfl) (sf_ite (fun _ => hj 0) (fun _ => hj 1))
set_option maxRecDepth 100000 in
set_option maxHeartbeats 4000000 in
theorem s_fI_gather {F G : Nat} (hF : 100000 ≤ F) (hG : 20 ≤ G) {C : St} {S : St} (hS_S : Inv C S) {o2 : Nat} (h_o2 : o2 = C.2.2.1) {p2 : Int32} : Sf (fI_gather F G S o2 p2) (fun r => Inv C r) := by
  unfold fI_gather
  refine sf_gd (sco hS_S h_o2) ?_
  refine sf_ltS (Q := fun T => T.1 69 10 = 0) (hS_S.st rfl rfl (iv_w (l := 0) (u := 0) kv_0 rfl)) (by rw [sI_at, if_pos ⟨rfl, rfl⟩]) fun T hT q => ?_
  refine sf_ltS (Q := fun U => U.1 69 10 = 0) (hT.stN rfl rfl) (by rw [sI_at, if_neg (by omega), q]) fun U hU q2 => ?_
  exact s_b_I_gather_12 hF hG h_o2 F 0 U hU (iv_w (l := 0) (u := 0) kv_0 rfl) (by rw [q2]; decide) (by show (30 : Int) - 0 + 1 ≤ _; omega)
set_option maxRecDepth 100000 in
set_option maxHeartbeats 4000000 in
theorem s_b_I_isSo_13 {F G : Nat} (hF : 100000 ≤ F) (hG : 20 ≤ G) {C : St} {S : St} (hS_S : Inv C S) {z1 : Int32} (h_z1 : iv z1 (0) (1023))  : ∀ (f : Nat) (w2 : Int32), iv w2 (0) (30) → (30) - w2.toInt + 1 ≤ (f : Int) → Sf (fx1 (b_I_isSo_13 F G S z1)  f w2) (fun r => iv r (0) (1)) := by
  intro f
  induction f with
  | zero => intro w2 h_w2 hm; exact (ms_zu h_w2 hm).elim
  | succ f hrec =>
    intro w2 h_w2 hm
    replace hm := ms_s hm
    show Sf (b_I_isSo_13 F G S z1 (fx1 (b_I_isSo_13 F G S z1)  f) w2) _
    generalize fx1 (b_I_isSo_13 F G S z1)  f = rec at hrec ⊢
    unfold b_I_isSo_13
    refine sf_ite (fun c1 => ?_) (fun c1 => ?_)
    · exact sf_some (iv_w (l := 1) (u := 1) kv_1 rfl)
    · have f2 : iv _ (0) (29) := iv_ltA (Int32.not_le.mp c1) h_w2 (cell_69_10 hS_S) rfl
      have f3 : iv _ (1) (30) := iv_ltB (Int32.not_le.mp c1) h_w2 (cell_69_10 hS_S) rfl
      refine sf_gd (inB_iv f2 rfl) ?_
      refine sf_ite (fun c4 => ?_) (fun c4 => ?_)
      · have f5 : iv _ (0) (0) := iv_eqA c4 kv_0
        exact sf_some (iv_w (l := 0) (u := 0) kv_0 rfl)
      · have f6 : iv _ (1) (1023) := iv_neL c4 (iv_andL (u := 1023) h_z1 rfl) kv_0 rfl
        refine sf_ltI (iv_add (l := 1) (u := 30) f2 kv_1 rfl) (fun v5 h_v5 e_v5 => ?_)
        exact hrec _ (iv_w (l := 1) (u := 30) h_v5 rfl) (ms_up e_v5 f2 rfl hm)
set_option maxRecDepth 100000 in
set_option maxHeartbeats 4000000 in
theorem s_fI_isSo {F G : Nat} (hF : 100000 ≤ F) (hG : 20 ≤ G) {C : St} {S : St} (hS_S : Inv C S) {p1 : Int32} (h_p1 : iv p1 (0) (1023)) : Sf (fI_isSo F G S p1) (fun r => iv r (0) (1)) := by
  unfold fI_isSo
  refine sf_ite (fun c1 => ?_) (fun c1 => ?_)
  · have f2 : iv _ (0) (0) := iv_eqA c1 kv_0
    exact s_b_I_isSo_13 hF hG hS_S h_p1 F _ (iv_w (l := 0) (u := 0) kv_0 rfl) (ms_iu kv_0 hF rfl)
  · have f3 : iv _ (1) (1023) := iv_neL c1 (iv_andL (u := 1023) h_p1 rfl) kv_0 rfl
    exact sf_some (iv_w (l := 0) (u := 0) kv_0 rfl)
set_option maxRecDepth 100000 in
set_option maxHeartbeats 4000000 in
theorem s_b_I_countIn_12 {F G : Nat} (hF : 100000 ≤ F) (hG : 20 ≤ G) {C : St} {z1 : Int32} (h_z1 : iv z1 (0) (1023))  : ∀ (f : Nat) (w2 : Int32) (S : St), iv w2 (0) (10) → Inv C S → (10) - w2.toInt + 1 ≤ (f : Int) → Sf (fx2 (b_I_countIn_12 F G z1)  f w2 S) (fun r => Inv C r) := by
  intro f
  induction f with
  | zero => intro w2 S h_w2 hS_S hm; exact (ms_zu h_w2 hm).elim
  | succ f hrec =>
    intro w2 S h_w2 hS_S hm
    replace hm := ms_s hm
    show Sf (b_I_countIn_12 F G z1 (fx2 (b_I_countIn_12 F G z1)  f) w2 S) _
    generalize fx2 (b_I_countIn_12 F G z1)  f = rec at hrec ⊢
    unfold b_I_countIn_12
    refine sf_ite (fun c1 => ?_) (fun c1 => ?_)
    · have f2 : iv _ (10) (10) := iv_leB c1 kv_10 h_w2 rfl
      exact sf_some hS_S
    · have f3 : iv _ (0) (9) := iv_ltA (Int32.not_le.mp c1) h_w2 kv_10 rfl
      refine sf_gd (inB_iv f3 rfl) ?_
      refine sf_gd (inB_iv f3 rfl) ?_
      refine sf_ltS0 (str_70 hS_S _ (iv_top _)) (fun S6 hS_S6 => ?_)
      refine sf_ltI (iv_add (l := 1) (u := 10) f3 kv_1 rfl) (fun v8 h_v8 e_v8 => ?_)
      exact hrec _ _ (iv_w (l := 1) (u := 10) h_v8 rfl) hS_S6 (ms_up e_v8 f3 rfl hm)
set_option maxRecDepth 100000 in
set_option maxHeartbeats 4000000 in
theorem s_fI_countIn {F G : Nat} (hF : 100000 ≤ F) (hG : 20 ≤ G) {C : St} {S : St} (hS_S : Inv C S) {p1 : Int32} (h_p1 : iv p1 (0) (1023)) : Sf (fI_countIn F G S p1) (fun r => Inv C r) := by
  unfold fI_countIn
  refine sf_ltS0 (st_69_2 hS_S (iv_top _)) (fun S1 hS_S1 => ?_)
  exact s_b_I_countIn_12 hF hG h_p1 F _ _ (iv_w (l := 0) (u := 0) kv_0 rfl) hS_S1 (ms_iu kv_0 hF rfl)
set_option maxRecDepth 100000 in
set_option maxHeartbeats 4000000 in
theorem s_b_I_count_13 {F G : Nat} (hF : 100000 ≤ F) (hG : 20 ≤ G) {C : St} {z1 : Nat} (h_z1 : z1 = C.2.2.1) {k32 : St → Option (St)} (hk32 : ∀ (x0 : St), Inv C x0 → Sf (k32 x0) (fun r => Inv C r))  : ∀ (f : Nat) (w3 : Int32) (S : St), iv w3 (0) (10) → Inv C S → (10) - w3.toInt + 1 ≤ (f : Int) → Sf (fx2 (b_I_count_13 F G z1 k32)  f w3 S) (fun r => Inv C r) := by
  intro f
  induction f with
  | zero => intro w3 S h_w3 hS_S hm; exact (ms_zu h_w3 hm).elim
  | succ f hrec =>
    intro w3 S h_w3 hS_S hm
    replace hm := ms_s hm
    show Sf (b_I_count_13 F G z1 k32 (fx2 (b_I_count_13 F G z1 k32)  f) w3 S) _
    generalize fx2 (b_I_count_13 F G z1 k32)  f = rec at hrec ⊢
    unfold b_I_count_13
    refine sf_ite (fun c1 => ?_) (fun c1 => ?_)
    · have f2 : iv _ (10) (10) := iv_leB c1 kv_10 h_w3 rfl
      exact hk32 _ hS_S
    · have f3 : iv _ (0) (9) := iv_ltA (Int32.not_le.mp c1) h_w3 kv_10 rfl
      refine sf_gd (inB_iv f3 rfl) ?_
      refine sf_ltS0 (str_70 hS_S _ (iv_top _)) (fun S7 hS_S7 => ?_)
      refine sf_ltI (iv_add (l := 1) (u := 10) f3 kv_1 rfl) (fun v9 h_v9 e_v9 => ?_)
      exact hrec _ _ (iv_w (l := 1) (u := 10) h_v9 rfl) hS_S7 (ms_up e_v9 f3 rfl hm)
set_option maxRecDepth 100000 in
set_option maxHeartbeats 4000000 in
theorem s_b_I_count_34 {F G : Nat} (hF : 100000 ≤ F) (hG : 20 ≤ G) {C : St} {z1 : Nat} (h_z1 : z1 = C.2.2.1)  : ∀ (f : Nat) (w3 : Int32) (S : St), iv w3 (0) (1024) → Inv C S → (1024) - w3.toInt + 1 ≤ (f : Int) → Sf (fx2 (b_I_count_34 F G z1)  f w3 S) (fun r => Inv C r) := by
  intro f
  induction f with
  | zero => intro w3 S h_w3 hS_S hm; exact (ms_zu h_w3 hm).elim
  | succ f hrec =>
    intro w3 S h_w3 hS_S hm
    replace hm := ms_s hm
    show Sf (b_I_count_34 F G z1 (fx2 (b_I_count_34 F G z1)  f) w3 S) _
    generalize fx2 (b_I_count_34 F G z1)  f = rec at hrec ⊢
    unfold b_I_count_34
    refine sf_ite (fun c1 => ?_) (fun c1 => ?_)
    · have f2 : iv _ (1) (1024) := iv_leB c1 (iv_shl (u := 1024) (sco_6 hS_S h_z1) rfl) h_w3 rfl
      exact sf_some hS_S
    · have f3 : iv _ (0) (1023) := iv_ltA (Int32.not_le.mp c1) h_w3 (iv_shl (u := 1024) (sco_6 hS_S h_z1) rfl) rfl
      refine sf_bd (s_fI_isSo hF hG hS_S f3) (fun v14 h_v14 => ?_)
      refine sf_ite (fun c4 => ?_) (fun c4 => ?_)
      · have f5 : iv _ (0) (0) := iv_eqA c4 kv_0
        refine sf_ltI (iv_add (l := 1) (u := 1024) f3 kv_1 rfl) (fun v16 h_v16 e_v16 => ?_)
        exact hrec _ _ (iv_w (l := 1) (u := 1024) h_v16 rfl) hS_S (ms_up e_v16 f3 rfl hm)
      · have f6 : iv _ (1) (1) := iv_neL c4 h_v14 kv_0 rfl
        refine sf_bd (s_fI_countIn hF hG hS_S f3) (fun S19 hS_S19 => ?_)
        refine sf_ltI (iv_add (l := 1) (u := 1024) f3 kv_1 rfl) (fun v20 h_v20 e_v20 => ?_)
        exact hrec _ _ (iv_w (l := 1) (u := 1024) h_v20 rfl) hS_S19 (ms_up e_v20 f3 rfl hm)
set_option maxRecDepth 100000 in
set_option maxHeartbeats 4000000 in
theorem s_fI_count {F G : Nat} (hF : 100000 ≤ F) (hG : 20 ≤ G) {C : St} {S : St} (hS_S : Inv C S) {o2 : Nat} (h_o2 : o2 = C.2.2.1) {p2 : Int32} : Sf (fI_count F G S o2 p2) (fun r => Inv C r) := by
  unfold fI_count
  refine sf_gd (sco hS_S h_o2) ?_
  refine sf_bd (s_fI_gather hF hG hS_S h_o2) (fun S2 hS_S2 => ?_)
  refine sf_ltS (Q := fun T => iv (T.1 69 2) (0) (0) ∧ True) (st_69_2 hS_S2 (iv_top _)) ⟨(nwc kv_0), trivial⟩ (fun S3 hS_S3 hq => ?_)
  obtain ⟨f1, -⟩ := hq
  refine s_b_I_count_13 hF hG h_o2 ?_ F _ _ (iv_w (l := 0) (u := 0) kv_0 rfl) hS_S3 (ms_iu kv_0 hF rfl)
  · intro S11 hS_S11
    exact s_b_I_count_34 hF hG h_o2 F _ _ (iv_w (l := 0) (u := 0) kv_0 rfl) hS_S11 (ms_iu kv_0 hF rfl)
set_option maxRecDepth 100000 in
set_option maxHeartbeats 4000000 in
theorem s_fN_sets {F G : Nat} (hF : 100000 ≤ F) (hG : 20 ≤ G) {C : St} {S : St} (hS_S : Inv C S) {p1 : Int32} : Sf2 (fN_sets F G S p1) (fun r S2 => iv r (-2147483648) (2147483647) ∧ Inv C S2) := by
  unfold fN_sets
  refine sg_gd (sco hS_S hS_S.told) ?_
  refine sg_bd (s_fI_count hF hG hS_S hS_S.told) (fun S3 hS_S3 => ?_)
  exact sg_some (iv_top _) hS_S3
set_option maxRecDepth 100000 in
set_option maxHeartbeats 4000000 in
theorem s_j_M_sayersOf_70 {F G : Nat} (hF : 100000 ≤ F) (hG : 20 ≤ G) {C : St} {S : St} (hS_S : Inv C S) {z1 : Int32} (h_z1 : iv z1 (0) (29)) {Su : St} {y3 : Int32} (h_y3 : iv y3 (0) (9)) {s0 : Int32} (h_s0 : iv s0 (0) (1023)) {s1 : Int32} (h_s1 : iv s1 (0) (1)) {rec : Int32 → Int32 → Option (Int32)} {M : Int} (hrec : ∀ (w2 : Int32) (w3 : Int32), iv w2 (0) (1023) → iv w3 (0) (10) → (10) - w3.toInt + 1 ≤ M → Sf (rec w2 w3) (fun r => iv r (0) (1023))) (hm : (10) - y3.toInt ≤ M) : Sf (j_M_sayersOf_70 F G S z1 rec Su y3 s0 s1) (fun r => iv r (0) (1023)) := by
  unfold j_M_sayersOf_70
  refine sf_bd (s_fM_truth hF hG hS_S h_s1) (fun v13 h_v13 => ?_)
  refine sf_ltI (iv_or (n := 10) (u := 1023) h_s0 (iv_shb (u := 512) h_v13 h_y3 rfl) rfl) (fun v14 h_v14 e_v14 => ?_)
  refine sf_ltI (iv_add (l := 1) (u := 10) h_y3 kv_1 rfl) (fun v16 h_v16 e_v16 => ?_)
  exact hrec _ _ h_v14 (iv_w (l := 1) (u := 10) h_v16 rfl) (ms_up e_v16 h_y3 rfl hm)
set_option maxRecDepth 100000 in
set_option maxHeartbeats 4000000 in
theorem s_j_M_sayersOf_69 {F G : Nat} (hF : 100000 ≤ F) (hG : 20 ≤ G) {C : St} {S : St} (hS_S : Inv C S) {z1 : Int32} (h_z1 : iv z1 (0) (29)) {Su : St} {y3 : Int32} (h_y3 : iv y3 (0) (9)) {s0 : Int32} (h_s0 : iv s0 (0) (1023)) {rec : Int32 → Int32 → Option (Int32)} {M : Int} (hrec : ∀ (w2 : Int32) (w3 : Int32), iv w2 (0) (1023) → iv w3 (0) (10) → (10) - w3.toInt + 1 ≤ M → Sf (rec w2 w3) (fun r => iv r (0) (1023))) (hm : (10) - y3.toInt ≤ M) : Sf (j_M_sayersOf_69 F G S z1 rec Su y3 s0) (fun r => iv r (0) (1023)) := by
  unfold j_M_sayersOf_69
  exact s_j_M_sayersOf_70 hF hG hS_S h_z1 h_y3 h_s0 (iv_w (l := 0) (u := 0) kv_0 rfl) hrec hm
set_option maxRecDepth 100000 in
set_option maxHeartbeats 4000000 in
theorem s_b_M_sayersOf_4 {F G : Nat} (hF : 100000 ≤ F) (hG : 20 ≤ G) {C : St} {S : St} (hS_S : Inv C S) {z1 : Int32} (h_z1 : iv z1 (0) (29))  : ∀ (f : Nat) (w2 : Int32) (w3 : Int32), iv w2 (0) (1023) → iv w3 (0) (10) → (10) - w3.toInt + 1 ≤ (f : Int) → Sf (fx2 (b_M_sayersOf_4 F G S z1)  f w2 w3) (fun r => iv r (0) (1023)) := by
  intro f
  induction f with
  | zero => intro w2 w3 h_w2 h_w3 hm; exact (ms_zu h_w3 hm).elim
  | succ f hrec =>
    intro w2 w3 h_w2 h_w3 hm
    replace hm := ms_s hm
    show Sf (b_M_sayersOf_4 F G S z1 (fx2 (b_M_sayersOf_4 F G S z1)  f) w2 w3) _
    generalize fx2 (b_M_sayersOf_4 F G S z1)  f = rec at hrec ⊢
    unfold b_M_sayersOf_4
    refine sf_ite (fun c1 => ?_) (fun c1 => ?_)
    · exact sf_some h_w2
    · have f2 : iv _ (0) (9) := iv_ltA (Int32.not_le.mp c1) h_w3 (cell_78_48 hS_S) rfl
      have f3 : iv _ (1) (10) := iv_ltB (Int32.not_le.mp c1) h_w3 (cell_78_48 hS_S) rfl
      refine sf_gd (inB_iv f2 rfl) ?_
      refine sf_gd (inB_iv h_z1 rfl) ?_
      refine sf_ite (fun c4 => ?_) (fun c4 => ?_)
      · refine sf_gd (inB_iv f2 rfl) ?_
        refine sf_gd (inB_iv h_z1 rfl) ?_
        refine sf_ite (fun c5 => ?_) (fun c5 => ?_)
        · have f6 : iv _ (-2147483648) (10) := iv_ltA c5 (iv_top _) (row_96 hS_S _) rfl
          exact s_j_M_sayersOf_69 hF hG hS_S h_z1 f2 h_w2 hrec hm
        · have f7 : iv _ (0) (2147483647) := iv_leB (Int32.not_lt.mp c5) (row_96 hS_S _) (iv_top _) rfl
          refine sf_gd (inB_iv h_z1 rfl) ?_
          refine sf_gd (inB_iv f2 rfl) ?_
          refine sf_gd (inB_iv f2 rfl) ?_
          refine sf_ite (fun c8 => ?_) (fun c8 => ?_)
          · exact s_j_M_sayersOf_69 hF hG hS_S h_z1 f2 h_w2 hrec hm
          · have f9 : iv _ (0) (2147483646) := iv_ltA (Int32.not_le.mp c8) f7 (iv_top _) rfl
            have f10 : iv _ (1) (2147483647) := iv_ltB (Int32.not_le.mp c8) f7 (iv_top _) rfl
            exact s_j_M_sayersOf_70 hF hG hS_S h_z1 f2 h_w2 (iv_w (l := 1) (u := 1) kv_1 rfl) hrec hm
      · exact s_j_M_sayersOf_69 hF hG hS_S h_z1 f2 h_w2 hrec hm
