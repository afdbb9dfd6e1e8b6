/-! SAFETY of the questions -/
set_option maxRecDepth 100000 in
set_option maxHeartbeats 4000000 in
theorem s_fM_sayersOf {F G : Nat} (hF : 100000 ≤ F) (hG : 20 ≤ G) {C : St} {S : St} (hS_S : Inv C S) {p1 : Int32} (h_p1 : iv p1 (0) (29)) : Sf (fM_sayersOf F G S p1) (fun r => iv r (0) (1023)) := by
  unfold fM_sayersOf
  exact s_b_M_sayersOf_4 hF hG hS_S h_p1 F _ _ (iv_w (l := 0) (u := 0) kv_0 rfl) (iv_w (l := 0) (u := 0) kv_0 rfl) (ms_iu kv_0 hF rfl)
set_option maxRecDepth 100000 in
set_option maxHeartbeats 4000000 in
theorem s_fM_counts {F G : Nat} (hF : 100000 ≤ F) (hG : 20 ≤ G) {C : St} {S : St} (hS_S : Inv C S) {p1 : Int32} (h_p1 : iv p1 (0) (29)) {p2 : Int32} : Sf (fM_counts F G S p1 p2) (fun r => iv r (0) (1)) := by
  unfold fM_counts
  refine sf_gd (inB_iv h_p1 rfl) ?_
  refine sf_ite (fun c1 => ?_) (fun c1 => ?_)
  · have f2 : iv _ (-2147483648) (2147483646) := iv_ltA c1 (iv_top _) (iv_top _) rfl
    have f3 : iv _ (-2147483647) (2147483647) := iv_ltB c1 (iv_top _) (iv_top _) rfl
    exact sf_some (iv_w (l := 0) (u := 0) kv_0 rfl)
  · refine sf_gd (inB_iv h_p1 rfl) ?_
    refine sf_ite (fun c4 => ?_) (fun c4 => ?_)
    · have f5 : iv _ (-2147483648) (-1) := iv_ltA c4 (iv_top _) kv_0 rfl
      exact sf_some (iv_w (l := 1) (u := 1) kv_1 rfl)
    · have f6 : iv _ (0) (2147483647) := iv_leB (Int32.not_lt.mp c4) kv_0 (iv_top _) rfl
      refine sf_gd (inB_iv h_p1 rfl) ?_
      refine sf_ite (fun c7 => ?_) (fun c7 => ?_)
      · have f8 : iv _ (0) (2147483647) := iv_leB c7 f6 (iv_top _) rfl
        exact sf_some (iv_w (l := 0) (u := 0) kv_0 rfl)
      · have f9 : iv _ (-2147483648) (2147483646) := iv_ltA (Int32.not_le.mp c7) (iv_top _) f6 rfl
        exact sf_some (iv_w (l := 1) (u := 1) kv_1 rfl)
set_option maxRecDepth 100000 in
set_option maxHeartbeats 4000000 in
theorem s_b_M_laySets_4 {F G : Nat} (hF : 100000 ≤ F) (hG : 20 ≤ G) {C : St} {z1 : Int32} {z2 : Int32} (h_z2 : iv z2 (0) (0)) {k29 : St → Option (Int32 × St)} (hk29 : ∀ (x0 : St), Inv C x0 → Sf2 (k29 x0) (fun r S2 => iv r (-2147483648) (2147483647) ∧ Inv C S2))  : ∀ (f : Nat) (w3 : Int32) (S : St), iv w3 (0) (30) → Inv C S → (30) - w3.toInt + 1 ≤ (f : Int) → Sf2 (fx2 (b_M_laySets_4 F G z1 z2 k29)  f w3 S) (fun r S2 => iv r (-2147483648) (2147483647) ∧ Inv C S2) := by
  intro f
  induction f with
  | zero => intro w3 S h_w3 hS_S hm; exact (ms_zu h_w3 hm).elim
  | succ f hrec =>
    intro w3 S h_w3 hS_S hm
    replace hm := ms_s hm
    show Sf2 (b_M_laySets_4 F G z1 z2 k29 (fx2 (b_M_laySets_4 F G z1 z2 k29)  f) w3 S) _
    generalize fx2 (b_M_laySets_4 F G z1 z2 k29)  f = rec at hrec ⊢
    unfold b_M_laySets_4
    refine sg_ite (fun c1 => ?_) (fun c1 => ?_)
    · exact hk29 _ hS_S
    · have f2 : iv _ (0) (29) := iv_ltA (Int32.not_le.mp c1) h_w3 (cell_78_74 hS_S) rfl
      have f3 : iv _ (1) (30) := iv_ltB (Int32.not_le.mp c1) h_w3 (cell_78_74 hS_S) rfl
      refine sg_bd (s_fM_sayersOf hF hG hS_S f2) (fun v3 h_v3 => ?_)
      refine sg_gd (inB_iv f2 rfl) ?_
      refine sg_ltS (Q := fun T => iv (T.1 78 74) (1) (30) ∧ True) (str_113 hS_S _ (iv_top _)) ⟨f3, trivial⟩ (fun S5 hS_S5 hq => ?_)
      obtain ⟨f4, -⟩ := hq
      refine sg_ltI (iv_add (l := 1) (u := 30) f2 kv_1 rfl) (fun v7 h_v7 e_v7 => ?_)
      exact hrec _ _ (iv_w (l := 1) (u := 30) h_v7 rfl) hS_S5 (ms_up e_v7 f2 rfl hm)
set_option maxRecDepth 100000 in
set_option maxHeartbeats 4000000 in
theorem s_b_M_laySets_31 {F G : Nat} (hF : 100000 ≤ F) (hG : 20 ≤ G) {C : St} {z1 : Int32} {z2 : Int32} (h_z2 : iv z2 (0) (0)) {k50 : St → Option (Int32 × St)} (hk50 : ∀ (x0 : St), Inv C x0 → Sf2 (k50 x0) (fun r S2 => iv r (-2147483648) (2147483647) ∧ Inv C S2))  : ∀ (f : Nat) (w3 : Int32) (S : St), iv w3 (0) (10) → Inv C S → (10) - w3.toInt + 1 ≤ (f : Int) → Sf2 (fx2 (b_M_laySets_31 F G z1 z2 k50)  f w3 S) (fun r S2 => iv r (-2147483648) (2147483647) ∧ Inv C S2) := by
  intro f
  induction f with
  | zero => intro w3 S h_w3 hS_S hm; exact (ms_zu h_w3 hm).elim
  | succ f hrec =>
    intro w3 S h_w3 hS_S hm
    replace hm := ms_s hm
    show Sf2 (b_M_laySets_31 F G z1 z2 k50 (fx2 (b_M_laySets_31 F G z1 z2 k50)  f) w3 S) _
    generalize fx2 (b_M_laySets_31 F G z1 z2 k50)  f = rec at hrec ⊢
    unfold b_M_laySets_31
    refine sg_ite (fun c1 => ?_) (fun c1 => ?_)
    · have f2 : iv _ (10) (10) := iv_leB c1 kv_10 h_w3 rfl
      exact hk50 _ hS_S
    · have f3 : iv _ (0) (9) := iv_ltA (Int32.not_le.mp c1) h_w3 kv_10 rfl
      refine sg_gd (inB_iv f3 rfl) ?_
      refine sg_ltS0 (str_114 hS_S _ (iv_top _)) (fun S12 hS_S12 => ?_)
      refine sg_ltI (iv_add (l := 1) (u := 10) f3 kv_1 rfl) (fun v14 h_v14 e_v14 => ?_)
      exact hrec _ _ (iv_w (l := 1) (u := 10) h_v14 rfl) hS_S12 (ms_up e_v14 f3 rfl hm)
set_option maxRecDepth 100000 in
set_option maxHeartbeats 4000000 in
theorem s_j_M_laySets_109 {F G : Nat} (hF : 100000 ≤ F) (hG : 20 ≤ G) {C : St} {S : St} (hS_S : Inv C S) {z1 : Int32} {z2 : Int32} {z3 : Int32} (h_z3 : iv z3 (0) (1023)) {Su : St} {y5 : Int32} (h_y5 : iv y5 (0) (29)) {s0 : Int32} (h_s0 : iv s0 (0) (1)) {k132 : Int32 → Option (Int32 × St)} (hk132 : ∀ (x0 : Int32), iv x0 (0) (1) → Sf2 (k132 x0) (fun r S2 => iv r (-2147483648) (2147483647) ∧ Inv C S2)) {rec : Int32 → Int32 → Option (Int32 × St)} {M : Int} (hrec : ∀ (w4 : Int32) (w5 : Int32), iv w4 (0) (1) → iv w5 (0) (30) → (30) - w5.toInt + 1 ≤ M → Sf2 (rec w4 w5) (fun r S2 => iv r (-2147483648) (2147483647) ∧ Inv C S2)) (hm : (30) - y5.toInt ≤ M) : Sf2 (j_M_laySets_109 F G S z1 z2 z3 k132 rec Su y5 s0) (fun r S2 => iv r (-2147483648) (2147483647) ∧ Inv C S2) := by
  unfold j_M_laySets_109
  refine sg_gd (inB_iv h_y5 rfl) ?_
  refine sg_ite (fun c1 => ?_) (fun c1 => ?_)
  · refine sg_ltI (iv_add (l := 1) (u := 30) h_y5 kv_1 rfl) (fun v31 h_v31 e_v31 => ?_)
    exact hrec _ _ (iv_w (l := 1) (u := 1) kv_1 rfl) (iv_w (l := 1) (u := 30) h_v31 rfl) (ms_up e_v31 h_y5 rfl hm)
  · refine sg_ltI (iv_add (l := 1) (u := 30) h_y5 kv_1 rfl) (fun v29 h_v29 e_v29 => ?_)
    exact hrec _ _ (iv_w (l := 0) (u := 0) kv_0 rfl) (iv_w (l := 1) (u := 30) h_v29 rfl) (ms_up e_v29 h_y5 rfl hm)
set_option maxRecDepth 100000 in
set_option maxHeartbeats 4000000 in
theorem s_b_M_laySets_68 {F G : Nat} (hF : 100000 ≤ F) (hG : 20 ≤ G) {C : St} {S : St} (hS_S : Inv C S) {z1 : Int32} {z2 : Int32} {z3 : Int32} (h_z3 : iv z3 (0) (1023)) {k132 : Int32 → Option (Int32 × St)} (hk132 : ∀ (x0 : Int32), iv x0 (0) (1) → Sf2 (k132 x0) (fun r S2 => iv r (-2147483648) (2147483647) ∧ Inv C S2))  : ∀ (f : Nat) (w4 : Int32) (w5 : Int32), iv w4 (0) (1) → iv w5 (0) (30) → (30) - w5.toInt + 1 ≤ (f : Int) → Sf2 (fx2 (b_M_laySets_68 F G S z1 z2 z3 k132)  f w4 w5) (fun r S2 => iv r (-2147483648) (2147483647) ∧ Inv C S2) := by
  intro f
  induction f with
  | zero => intro w4 w5 h_w4 h_w5 hm; exact (ms_zu h_w5 hm).elim
  | succ f hrec =>
    intro w4 w5 h_w4 h_w5 hm
    replace hm := ms_s hm
    show Sf2 (b_M_laySets_68 F G S z1 z2 z3 k132 (fx2 (b_M_laySets_68 F G S z1 z2 z3 k132)  f) w4 w5) _
    generalize fx2 (b_M_laySets_68 F G S z1 z2 z3 k132)  f = rec at hrec ⊢
    unfold b_M_laySets_68
    refine sg_ite (fun c1 => ?_) (fun c1 => ?_)
    · exact hk132 _ h_w4
    · have f2 : iv _ (0) (29) := iv_ltA (Int32.not_le.mp c1) h_w5 (cell_78_74 hS_S) rfl
      have f3 : iv _ (1) (30) := iv_ltB (Int32.not_le.mp c1) h_w5 (cell_78_74 hS_S) rfl
      refine sg_ite (fun c4 => ?_) (fun c4 => ?_)
      · have f5 : iv _ (0) (0) := iv_eqA c4 kv_0
        exact hk132 _ (iv_w (l := 0) (u := 0) f5 rfl)
      · have f6 : iv _ (1) (1) := iv_neL c4 h_w4 kv_0 rfl
        refine sg_bd (s_fM_counts hF hG hS_S f2) (fun v21 h_v21 => ?_)
        refine sg_ite (fun c7 => ?_) (fun c7 => ?_)
        · have f8 : iv _ (0) (0) := iv_eqA c7 kv_0
          refine sg_ltI (iv_add (l := 1) (u := 30) f2 kv_1 rfl) (fun v23 h_v23 e_v23 => ?_)
          exact hrec _ _ (iv_w (l := 1) (u := 1) kv_1 rfl) (iv_w (l := 1) (u := 30) h_v23 rfl) (ms_up e_v23 f2 rfl hm)
        · have f9 : iv _ (1) (1) := iv_neL c7 h_v21 kv_0 rfl
          refine sg_gd (inB_iv f2 rfl) ?_
          refine sg_ite (fun c10 => ?_) (fun c10 => ?_)
          · have f11 : iv _ (0) (0) := iv_eqA c10 kv_0
            exact s_j_M_laySets_109 hF hG hS_S h_z3 f2 (iv_w (l := 0) (u := 0) kv_0 rfl) hk132 hrec hm
          · have f12 : iv _ (1) (1023) := iv_neL c10 (iv_andL (u := 1023) h_z3 rfl) kv_0 rfl
            exact s_j_M_laySets_109 hF hG hS_S h_z3 f2 (iv_w (l := 1) (u := 1) kv_1 rfl) hk132 hrec hm
set_option maxRecDepth 100000 in
set_option maxHeartbeats 4000000 in
theorem s_b_M_laySets_146 {F G : Nat} (hF : 100000 ≤ F) (hG : 20 ≤ G) {C : St} {z1 : Int32} {z2 : Int32} {z3 : Int32} (h_z3 : iv z3 (0) (1023)) {k177 : St → Option (Int32 × St)} (hk177 : ∀ (x0 : St), Inv C x0 → Sf2 (k177 x0) (fun r S2 => iv r (-2147483648) (2147483647) ∧ Inv C S2))  : ∀ (f : Nat) (w5 : Int32) (S : St), iv w5 (0) (10) → Inv C S → (10) - w5.toInt + 1 ≤ (f : Int) → Sf2 (fx2 (b_M_laySets_146 F G z1 z2 z3 k177)  f w5 S) (fun r S2 => iv r (-2147483648) (2147483647) ∧ Inv C S2) := by
  intro f
  induction f with
  | zero => intro w5 S h_w5 hS_S hm; exact (ms_zu h_w5 hm).elim
  | succ f hrec =>
    intro w5 S h_w5 hS_S hm
    replace hm := ms_s hm
    show Sf2 (b_M_laySets_146 F G z1 z2 z3 k177 (fx2 (b_M_laySets_146 F G z1 z2 z3 k177)  f) w5 S) _
    generalize fx2 (b_M_laySets_146 F G z1 z2 z3 k177)  f = rec at hrec ⊢
    unfold b_M_laySets_146
    refine sg_ite (fun c1 => ?_) (fun c1 => ?_)
    · exact hk177 _ hS_S
    · have f2 : iv _ (0) (9) := iv_ltA (Int32.not_le.mp c1) h_w5 (cell_78_48 hS_S) rfl
      have f3 : iv _ (1) (10) := iv_ltB (Int32.not_le.mp c1) h_w5 (cell_78_48 hS_S) rfl
      refine sg_gd (inB_iv f2 rfl) ?_
      refine sg_gd (inB_iv f2 rfl) ?_
      refine sg_ltS (Q := fun T => iv (T.1 78 48) (1) (10) ∧ True) (str_114 hS_S _ (iv_top _)) ⟨f3, trivial⟩ (fun S40 hS_S40 hq => ?_)
      obtain ⟨f4, -⟩ := hq
      refine sg_ltI (iv_add (l := 1) (u := 10) f2 kv_1 rfl) (fun v42 h_v42 e_v42 => ?_)
      exact hrec _ _ (iv_w (l := 1) (u := 10) h_v42 rfl) hS_S40 (ms_up e_v42 f2 rfl hm)
set_option maxRecDepth 100000 in
set_option maxHeartbeats 4000000 in
theorem s_j_M_laySets_132 {F G : Nat} (hF : 100000 ≤ F) (hG : 20 ≤ G) {C : St} {z1 : Int32} {S : St} (hS_S : Inv C S) {y2 : Int32} {y3 : Int32} (h_y3 : iv y3 (0) (1023)) {y4 : Int32} (h_y4 : iv y4 (0) (1)) {rec : Int32 → Int32 → St → Option (Int32 × St)} {M : Int} (hrec : ∀ (w2 : Int32) (w3 : Int32) (S : St), iv w3 (0) (1024) → Inv C S → (1024) - w3.toInt + 1 ≤ M → Sf2 (rec w2 w3 S) (fun r S2 => iv r (-2147483648) (2147483647) ∧ Inv C S2)) (hm : (1024) - y3.toInt ≤ M) : Sf2 (j_M_laySets_132 F G z1 rec S y2 y3 y4) (fun r S2 => iv r (-2147483648) (2147483647) ∧ Inv C S2) := by
  unfold j_M_laySets_132
  refine sg_ite (fun c1 => ?_) (fun c1 => ?_)
  · have f2 : iv _ (0) (0) := iv_eqA c1 kv_0
    refine sg_ltI (iv_add (l := 1) (u := 1024) h_y3 kv_1 rfl) (fun v47 h_v47 e_v47 => ?_)
    exact hrec _ _ _ (iv_w (l := 1) (u := 1024) h_v47 rfl) hS_S (ms_up e_v47 h_y3 rfl hm)
  · have f3 : iv _ (1) (1) := iv_neL c1 h_y4 kv_0 rfl
    refine sg_ltI (iv_top _) (fun v35 h_v35 e_v35 => ?_)
    refine s_b_M_laySets_146 hF hG h_y3 ?_ F _ _ (iv_w (l := 0) (u := 0) kv_0 rfl) hS_S (ms_iu kv_0 hF rfl)
    · intro S44 hS_S44
      refine sg_ltI (iv_add (l := 1) (u := 1024) h_y3 kv_1 rfl) (fun v45 h_v45 e_v45 => ?_)
      exact hrec _ _ _ (iv_w (l := 1) (u := 1024) h_v45 rfl) hS_S44 (ms_up e_v45 h_y3 rfl hm)
set_option maxRecDepth 100000 in
set_option maxHeartbeats 4000000 in
theorem s_b_M_laySets_52 {F G : Nat} (hF : 100000 ≤ F) (hG : 20 ≤ G) {C : St} {z1 : Int32}  : ∀ (f : Nat) (w2 : Int32) (w3 : Int32) (S : St), iv w3 (0) (1024) → Inv C S → (1024) - w3.toInt + 1 ≤ (f : Int) → Sf2 (fx3 (b_M_laySets_52 F G z1)  f w2 w3 S) (fun r S2 => iv r (-2147483648) (2147483647) ∧ Inv C S2) := by
  intro f
  induction f with
  | zero => intro w2 w3 S h_w3 hS_S hm; exact (ms_zu h_w3 hm).elim
  | succ f hrec =>
    intro w2 w3 S h_w3 hS_S hm
    replace hm := ms_s hm
    show Sf2 (b_M_laySets_52 F G z1 (fx3 (b_M_laySets_52 F G z1)  f) w2 w3 S) _
    generalize fx3 (b_M_laySets_52 F G z1)  f = rec at hrec ⊢
    unfold b_M_laySets_52
    refine sg_ite (fun c1 => ?_) (fun c1 => ?_)
    · have f2 : iv _ (1) (1024) := iv_leB c1 (iv_shl (u := 1024) (cell_78_48 hS_S) rfl) h_w3 rfl
      exact sg_some (iv_top _) hS_S
    · have f3 : iv _ (0) (1023) := iv_ltA (Int32.not_le.mp c1) h_w3 (iv_shl (u := 1024) (cell_78_48 hS_S) rfl) rfl
      refine s_b_M_laySets_68 hF hG hS_S f3 ?_ F _ _ (iv_w (l := 1) (u := 1) kv_1 rfl) (iv_w (l := 0) (u := 0) kv_0 rfl) (ms_iu kv_0 hF rfl)
      · intro v33 h_v33
        exact s_j_M_laySets_132 hF hG hS_S f3 h_v33 hrec hm
set_option maxRecDepth 100000 in
set_option maxHeartbeats 4000000 in
theorem s_fM_laySets {F G : Nat} (hF : 100000 ≤ F) (hG : 20 ≤ G) {C : St} {S : St} (hS_S : Inv C S) {p1 : Int32} : Sf2 (fM_laySets F G S p1) (fun r S2 => iv r (-2147483648) (2147483647) ∧ Inv C S2) := by
  unfold fM_laySets
  refine s_b_M_laySets_4 hF hG kv_0 ?_ F _ _ (iv_w (l := 0) (u := 0) kv_0 rfl) hS_S (ms_iu kv_0 hF rfl)
  · intro S9 hS_S9
    refine s_b_M_laySets_31 hF hG kv_0 ?_ F _ _ (iv_w (l := 0) (u := 0) kv_0 rfl) hS_S9 (ms_iu kv_0 hF rfl)
    · intro S16 hS_S16
      exact s_b_M_laySets_52 hF hG  F _ _ _ (iv_w (l := 0) (u := 0) kv_0 rfl) hS_S16 (ms_iu kv_0 hF rfl)
set_option maxRecDepth 100000 in
set_option maxHeartbeats 4000000 in
theorem s_fM_sets {F G : Nat} (hF : 100000 ≤ F) (hG : 20 ≤ G) {C : St} {S : St} (hS_S : Inv C S) {p1 : Int32} : Sf2 (fM_sets F G S p1) (fun r S2 => iv r (-2147483648) (2147483647) ∧ Inv C S2) := by
  unfold fM_sets
  refine sg_bd2 (s_fM_laySets hF hG hS_S) (fun v2 S3 hq => ?_)
  obtain ⟨h_v2, hS_S3⟩ := hq
  exact sg_some (iv_top _) hS_S3
set_option maxRecDepth 100000 in
set_option maxHeartbeats 4000000 in
theorem s_fN_sure {F G : Nat} (hF : 100000 ≤ F) (hG : 20 ≤ G) {C : St} {S : St} (hS_S : Inv C S) {p1 : Int32} {p2 : Int32} : Sf2 (fN_sure F G S p1 p2) (fun r S2 => iv r (-2) (1) ∧ Inv C S2) := by
  unfold fN_sure
  refine sg_bd (s_fN_isNote hF hG hS_S) (fun v2 h_v2 => ?_)
  obtain ⟨h_v2, k_v2⟩ := h_v2
  refine sg_ite (fun c1 => ?_) (fun c1 => ?_)
  · have f2 : iv _ (0) (0) := iv_eqA c1 kv_0
    exact sg_some (iv_w (l := -1) (u := -1) kv_m1 rfl) hS_S
  · have f3 : iv _ (0) (9) := k_v2 c1
    have f4 : iv _ (1) (1) := iv_neL c1 h_v2 kv_0 rfl
    refine sg_gd (sco hS_S hS_S.told) ?_
    refine sg_bd (s_fI_count hF hG hS_S hS_S.told) (fun S6 hS_S6 => ?_)
    refine sg_ite (fun c5 => ?_) (fun c5 => ?_)
    · have f6 : iv _ (0) (0) := iv_eqA c5 kv_0
      exact sg_some (iv_w (l := -1) (u := -1) kv_m1 rfl) hS_S6
    · refine sg_gd (inB_iv f3 rfl) ?_
      refine sg_ltI (iv_top _) (fun v9 h_v9 e_v9 => ?_)
      refine sg_ite (fun c7 => ?_) (fun c7 => ?_)
      · exact sg_some (iv_w (l := 1) (u := 1) kv_1 rfl) hS_S6
      · refine sg_ite (fun c8 => ?_) (fun c8 => ?_)
        · have f9 : iv _ (0) (0) := iv_eqA c8 kv_0
          exact sg_some (iv_w (l := 0) (u := 0) kv_0 rfl) hS_S6
        · exact sg_some (iv_w (l := -2) (u := -2) kv_m2 rfl) hS_S6
set_option maxRecDepth 100000 in
set_option maxHeartbeats 4000000 in
theorem s_fM_sure {F G : Nat} (hF : 100000 ≤ F) (hG : 20 ≤ G) {C : St} {S : St} (hS_S : Inv C S) {p1 : Int32} {p2 : Int32} : Sf2 (fM_sure F G S p1 p2) (fun r S2 => iv r (-2) (1) ∧ Inv C S2) := by
  unfold fM_sure
  refine sg_bd (s_fM_isNote hF hG hS_S) (fun v2 h_v2 => ?_)
  obtain ⟨h_v2, k_v2⟩ := h_v2
  refine sg_ite (fun c1 => ?_) (fun c1 => ?_)
  · have f2 : iv _ (0) (0) := iv_eqA c1 kv_0
    exact sg_some (iv_w (l := -1) (u := -1) kv_m1 rfl) hS_S
  · have f3 : iv _ (0) (9) := k_v2 c1
    have f4 : iv _ (1) (1) := iv_neL c1 h_v2 kv_0 rfl
    refine sg_bd2 (s_fM_laySets hF hG hS_S) (fun v5 S6 hq => ?_)
    obtain ⟨h_v5, hS_S6⟩ := hq
    refine sg_ite (fun c5 => ?_) (fun c5 => ?_)
    · have f6 : iv _ (0) (0) := iv_eqA c5 kv_0
      exact sg_some (iv_w (l := -1) (u := -1) kv_m1 rfl) hS_S6
    · refine sg_gd (inB_iv f3 rfl) ?_
      refine sg_ite (fun c7 => ?_) (fun c7 => ?_)
      · exact sg_some (iv_w (l := 1) (u := 1) kv_1 rfl) hS_S6
      · refine sg_gd (inB_iv f3 rfl) ?_
        refine sg_ite (fun c8 => ?_) (fun c8 => ?_)
        · have f9 : iv _ (0) (0) := iv_eqA c8 kv_0
          exact sg_some (iv_w (l := 0) (u := 0) kv_0 rfl) hS_S6
        · exact sg_some (iv_w (l := -2) (u := -2) kv_m2 rfl) hS_S6
set_option maxRecDepth 100000 in
set_option maxHeartbeats 4000000 in
theorem s_b_N_ask_39 {F G : Nat} (hF : 100000 ≤ F) (hG : 20 ≤ G) {C : St} {S : St} (hS_S : Inv C S) {z1 : Int32} (h_z1 : iv z1 (0) (1))  : ∀ (f : Nat) (w3 : Int32) (w4 : Int32) (w5 : Int32), iv w3 (-1) (9) → iv w5 (0) (10) → (10) - w5.toInt + 1 ≤ (f : Int) → Sf2 (fx3 (b_N_ask_39 F G S z1)  f w3 w4 w5) (fun r S2 => iv r (-2147483648) (2147483647) ∧ Inv C S2) := by
  intro f
  induction f with
  | zero => intro w3 w4 w5 h_w3 h_w5 hm; exact (ms_zu h_w5 hm).elim
  | succ f hrec =>
    intro w3 w4 w5 h_w3 h_w5 hm
    replace hm := ms_s hm
    show Sf2 (b_N_ask_39 F G S z1 (fx3 (b_N_ask_39 F G S z1)  f) w3 w4 w5) _
    generalize fx3 (b_N_ask_39 F G S z1)  f = rec at hrec ⊢
    unfold b_N_ask_39
    refine sg_gd (sco hS_S hS_S.told) ?_
    refine sg_ite (fun c1 => ?_) (fun c1 => ?_)
    · refine sg_ite (fun c2 => ?_) (fun c2 => ?_)
      · have f3 : iv _ (0) (0) := iv_eqA c2 kv_0
        exact sg_some (iv_top _) hS_S
      · have f4 : iv _ (1) (1) := iv_neL c2 h_z1 kv_0 rfl
        refine sg_ite (fun c5 => ?_) (fun c5 => ?_)
        · have f6 : iv _ (-1) (-1) := iv_eqA c5 kv_m1
          exact sg_some (iv_top _) hS_S
        · have f7 : iv _ (0) (9) := iv_neL c5 h_w3 kv_m1 rfl
          exact sg_some (iv_top _) hS_S
    · have f8 : iv _ (0) (9) := iv_ltA (Int32.not_le.mp c1) h_w5 (sco_6 hS_S hS_S.told) rfl
      have f9 : iv _ (1) (10) := iv_ltB (Int32.not_le.mp c1) h_w5 (sco_6 hS_S hS_S.told) rfl
      refine sg_ite (fun c10 => ?_) (fun c10 => ?_)
      · have f11 : iv _ (-2147483648) (0) := iv_leA c10 (iv_top _) kv_0 rfl
        refine sg_ite (fun c12 => ?_) (fun c12 => ?_)
        · have f13 : iv _ (0) (0) := iv_eqA c12 kv_0
          exact sg_some (iv_top _) hS_S
        · have f14 : iv _ (1) (1) := iv_neL c12 h_z1 kv_0 rfl
          refine sg_ite (fun c15 => ?_) (fun c15 => ?_)
          · have f16 : iv _ (-1) (-1) := iv_eqA c15 kv_m1
            exact sg_some (iv_top _) hS_S
          · have f17 : iv _ (0) (9) := iv_neL c15 h_w3 kv_m1 rfl
            exact sg_some (iv_top _) hS_S
      · have f18 : iv _ (1) (2147483647) := iv_ltB (Int32.not_le.mp c10) kv_0 (iv_top _) rfl
        refine sg_gd (inB_iv f8 rfl) ?_
        refine sg_gd (inB_iv f8 rfl) ?_
        refine sg_ltI (iv_top _) (fun v17 h_v17 e_v17 => ?_)
        refine sg_ite (fun c19 => ?_) (fun c19 => ?_)
        · refine sg_ltI (iv_add (l := 1) (u := 10) f8 kv_1 rfl) (fun v20 h_v20 e_v20 => ?_)
          exact hrec _ _ _ h_w3 (iv_w (l := 1) (u := 10) h_v20 rfl) (ms_up e_v20 f8 rfl hm)
        · have f20 : iv _ (-2147483648) (2147483646) := iv_ltA (Int32.not_le.mp c19) (iv_top _) (iv_top _) rfl
          have f21 : iv _ (-2147483647) (2147483647) := iv_ltB (Int32.not_le.mp c19) (iv_top _) (iv_top _) rfl
          refine sg_ltI (iv_add (l := 1) (u := 10) f8 kv_1 rfl) (fun v22 h_v22 e_v22 => ?_)
          exact hrec _ _ _ (iv_w (l := 0) (u := 9) f8 rfl) (iv_w (l := 1) (u := 10) h_v22 rfl) (ms_up e_v22 f8 rfl hm)
set_option maxRecDepth 100000 in
set_option maxHeartbeats 4000000 in
theorem s_fN_ask {F G : Nat} (hF : 100000 ≤ F) (hG : 20 ≤ G) {C : St} {S : St} (hS_S : Inv C S) {p1 : Int32} {p2 : Int32} : Sf2 (fN_ask F G S p1 p2) (fun r S2 => iv r (-2147483648) (2147483647) ∧ Inv C S2) := by
  unfold fN_ask
  refine sg_ite (fun c1 => ?_) (fun c1 => ?_)
  · have f2 : iv _ (-2147483648) (-1) := iv_ltA c1 (iv_top _) kv_0 rfl
    exact sg_some (iv_top _) hS_S
  · have f3 : iv _ (0) (2147483647) := iv_leB (Int32.not_lt.mp c1) kv_0 (iv_top _) rfl
    refine sg_ite (fun c4 => ?_) (fun c4 => ?_)
    · have f5 : iv _ (0) (1) := iv_leA c4 f3 kv_1 rfl
      refine sg_gd (sco hS_S hS_S.told) ?_
      refine sg_bd (s_fI_count hF hG hS_S hS_S.told) (fun S5 hS_S5 => ?_)
      refine sg_ltI (iv_top _) (fun v6 h_v6 e_v6 => ?_)
      exact s_b_N_ask_39 hF hG hS_S5 f5 F _ _ _ (iv_w (l := -1) (u := -1) kv_m1 rfl) (iv_w (l := 0) (u := 0) kv_0 rfl) (ms_iu kv_0 hF rfl)
    · have f6 : iv _ (2) (2147483647) := iv_ltB (Int32.not_le.mp c4) kv_1 f3 rfl
      exact sg_some (iv_top _) hS_S
set_option maxRecDepth 100000 in
set_option maxHeartbeats 4000000 in
theorem s_b_M_ask_36 {F G : Nat} (hF : 100000 ≤ F) (hG : 20 ≤ G) {C : St} {S : St} (hS_S : Inv C S) {z1 : Int32} (h_z1 : iv z1 (0) (1)) {z3 : Int32} {k101 : Int32 → Option (Int32 × St)} (hk101 : ∀ (x0 : Int32), iv x0 (0) (9) → Sf2 (k101 x0) (fun r S2 => iv r (-2147483648) (2147483647) ∧ Inv C S2))  : ∀ (f : Nat) (w4 : Int32) (w5 : Int32), iv w4 (0) (9) → iv w5 (1) (10) → (10) - w5.toInt + 1 ≤ (f : Int) → Sf2 (fx2 (b_M_ask_36 F G S z1 z3 k101)  f w4 w5) (fun r S2 => iv r (-2147483648) (2147483647) ∧ Inv C S2) := by
  intro f
  induction f with
  | zero => intro w4 w5 h_w4 h_w5 hm; exact (ms_zu h_w5 hm).elim
  | succ f hrec =>
    intro w4 w5 h_w4 h_w5 hm
    replace hm := ms_s hm
    show Sf2 (b_M_ask_36 F G S z1 z3 k101 (fx2 (b_M_ask_36 F G S z1 z3 k101)  f) w4 w5) _
    generalize fx2 (b_M_ask_36 F G S z1 z3 k101)  f = rec at hrec ⊢
    unfold b_M_ask_36
    refine sg_ite (fun c1 => ?_) (fun c1 => ?_)
    · exact hk101 _ h_w4
    · have f2 : iv _ (1) (9) := iv_ltA (Int32.not_le.mp c1) h_w5 (cell_78_48 hS_S) rfl
      have f3 : iv _ (2) (10) := iv_ltB (Int32.not_le.mp c1) h_w5 (cell_78_48 hS_S) rfl
      refine sg_gd (inB_iv f2 rfl) ?_
      refine sg_gd (inB_iv f2 rfl) ?_
      refine sg_bd (s_fM_greater hF hG hS_S) (fun v13 h_v13 => ?_)
      refine sg_gd (inB_iv h_w4 rfl) ?_
      refine sg_gd (inB_iv h_w4 rfl) ?_
      refine sg_bd (s_fM_greater hF hG hS_S) (fun v17 h_v17 => ?_)
      refine sg_ite (fun c4 => ?_) (fun c4 => ?_)
      · refine sg_ltI (iv_add (l := 2) (u := 10) f2 kv_1 rfl) (fun v19 h_v19 e_v19 => ?_)
        exact hrec _ _ h_w4 (iv_w (l := 2) (u := 10) h_v19 rfl) (ms_up e_v19 f2 rfl hm)
      · have f5 : iv _ (-2147483648) (2147483646) := iv_ltA (Int32.not_le.mp c4) (iv_top _) (iv_top _) rfl
        have f6 : iv _ (-2147483647) (2147483647) := iv_ltB (Int32.not_le.mp c4) (iv_top _) (iv_top _) rfl
        refine sg_ltI (iv_add (l := 2) (u := 10) f2 kv_1 rfl) (fun v21 h_v21 e_v21 => ?_)
        exact hrec _ _ (iv_w (l := 1) (u := 9) f2 rfl) (iv_w (l := 2) (u := 10) h_v21 rfl) (ms_up e_v21 f2 rfl hm)
set_option maxRecDepth 100000 in
set_option maxHeartbeats 4000000 in
theorem s_fM_ask {F G : Nat} (hF : 100000 ≤ F) (hG : 20 ≤ G) {C : St} {S : St} (hS_S : Inv C S) {p1 : Int32} {p2 : Int32} : Sf2 (fM_ask F G S p1 p2) (fun r S2 => iv r (-2147483648) (2147483647) ∧ Inv C S2) := by
  unfold fM_ask
  refine sg_bd (s_fM_isIn hF hG hS_S (iv_w (l := 0) (u := 0) kv_0 rfl) (iv_w (l := 1) (u := 1) kv_1 rfl)) (fun v2 h_v2 => ?_)
  obtain ⟨h_v2, k_v2⟩ := h_v2
  refine sg_ite (fun c1 => ?_) (fun c1 => ?_)
  · have f2 : iv _ (0) (0) := iv_eqA c1 kv_0
    exact sg_some (iv_top _) hS_S
  · have f3 : iv _ (0) (1) := isIn_iv kv_0 kv_1 k_v2 c1
    have f4 : iv _ (1) (1) := iv_neL c1 h_v2 kv_0 rfl
    refine sg_ite (fun c5 => ?_) (fun c5 => ?_)
    · have f6 : iv _ (0) (0) := iv_eqA c5 kv_0
      exact sg_some (iv_top _) hS_S
    · have f7 : iv _ (1) (10) := iv_neL c5 (cell_78_48 hS_S) kv_0 rfl
      refine sg_bd2 (s_fM_laySets hF hG hS_S) (fun v6 S7 hq => ?_)
      obtain ⟨h_v6, hS_S7⟩ := hq
      refine sg_ite (fun c8 => ?_) (fun c8 => ?_)
      · have f9 : iv _ (0) (0) := iv_eqA c8 kv_0
        exact sg_some (iv_top _) hS_S7
      · refine s_b_M_ask_36 hF hG hS_S7 f3 ?_ F _ _ (iv_w (l := 0) (u := 0) kv_0 rfl) (iv_w (l := 1) (u := 1) kv_1 rfl) (ms_iu kv_1 hF rfl)
        · intro v23 h_v23
          refine sg_ite (fun c10 => ?_) (fun c10 => ?_)
          · have f11 : iv _ (0) (0) := iv_eqA c10 kv_0
            exact sg_some (iv_top _) hS_S7
          · have f12 : iv _ (1) (1) := iv_neL c10 f3 kv_0 rfl
            refine sg_gd (inB_iv h_v23 rfl) ?_
            refine sg_gd (inB_iv h_v23 rfl) ?_
            refine sg_bd (s_fM_greater hF hG hS_S7) (fun v28 h_v28 => ?_)
            exact sg_some (iv_top _) hS_S7
set_option maxRecDepth 100000 in
set_option maxHeartbeats 4000000 in
theorem s_fM_isBox {F G : Nat} (hF : 100000 ≤ F) (hG : 20 ≤ G) {C : St} {S : St} (hS_S : Inv C S) {p1 : Int32} : Sf (fM_isBox F G S p1) (fun r => iv r 0 1 ∧ (¬ r = 0 → iv p1 (0) (2))) := by
  unfold fM_isBox
  refine sf_ite (fun c1 => ?_) (fun c1 => ?_)
  · have f2 : iv _ (-2147483648) (-1) := iv_ltA c1 (iv_top _) kv_0 rfl
    exact sf_some ⟨iv_w (l := 0) (u := 0) kv_0 rfl, fun h => absurd rfl h⟩
  · have f3 : iv _ (0) (2147483647) := iv_leB (Int32.not_lt.mp c1) kv_0 (iv_top _) rfl
    refine sf_ite (fun c4 => ?_) (fun c4 => ?_)
    · have f5 : iv _ (3) (2147483647) := iv_leB c4 kv_3 f3 rfl
      exact sf_some ⟨iv_w (l := 0) (u := 0) kv_0 rfl, fun h => absurd rfl h⟩
    · have f6 : iv _ (0) (2) := iv_ltA (Int32.not_le.mp c4) f3 kv_3 rfl
      exact sf_some ⟨iv_w (l := 1) (u := 1) kv_1 rfl, fun _ => f6⟩
set_option maxRecDepth 100000 in
set_option maxHeartbeats 4000000 in
theorem s_b_M_played_4 {F G : Nat} (hF : 100000 ≤ F) (hG : 20 ≤ G) {C : St} {S : St} (hS_S : Inv C S)  : ∀ (f : Nat) (w1 : Int32) (w2 : Int32), iv w2 (0) (10) → (10) - w2.toInt + 1 ≤ (f : Int) → Sf (fx2 (b_M_played_4 F G S)  f w1 w2) (fun r => iv r (-2147483648) (2147483647)) := by
  intro f
  induction f with
  | zero => intro w1 w2 h_w2 hm; exact (ms_zu h_w2 hm).elim
  | succ f hrec =>
    intro w1 w2 h_w2 hm
    replace hm := ms_s hm
    show Sf (b_M_played_4 F G S (fx2 (b_M_played_4 F G S)  f) w1 w2) _
    generalize fx2 (b_M_played_4 F G S)  f = rec at hrec ⊢
    unfold b_M_played_4
    refine sf_ite (fun c1 => ?_) (fun c1 => ?_)
    · exact sf_some (iv_top _)
    · have f2 : iv _ (0) (9) := iv_ltA (Int32.not_le.mp c1) h_w2 (cell_78_48 hS_S) rfl
      have f3 : iv _ (1) (10) := iv_ltB (Int32.not_le.mp c1) h_w2 (cell_78_48 hS_S) rfl
      refine sf_gd (inB_iv f2 rfl) ?_
      refine sf_ite (fun c4 => ?_) (fun c4 => ?_)
      · have f5 : iv _ (-2147483648) (0) := iv_leA c4 (iv_top _) kv_0 rfl
        refine sf_bd (s_fM_truth hF hG hS_S (iv_w (l := 0) (u := 0) kv_0 rfl)) (fun v5 h_v5 => ?_)
        refine sf_ltI (iv_top _) (fun v6 h_v6 e_v6 => ?_)
        refine sf_ltI (iv_add (l := 1) (u := 10) f2 kv_1 rfl) (fun v8 h_v8 e_v8 => ?_)
        exact hrec _ _ (iv_w (l := 1) (u := 10) h_v8 rfl) (ms_up e_v8 f2 rfl hm)
      · have f6 : iv _ (1) (2147483647) := iv_ltB (Int32.not_le.mp c4) kv_0 (iv_top _) rfl
        refine sf_bd (s_fM_truth hF hG hS_S (iv_w (l := 1) (u := 1) kv_1 rfl)) (fun v11 h_v11 => ?_)
        refine sf_ltI (iv_top _) (fun v12 h_v12 e_v12 => ?_)
        refine sf_ltI (iv_add (l := 1) (u := 10) f2 kv_1 rfl) (fun v14 h_v14 e_v14 => ?_)
        exact hrec _ _ (iv_w (l := 1) (u := 10) h_v14 rfl) (ms_up e_v14 f2 rfl hm)
set_option maxRecDepth 100000 in
set_option maxHeartbeats 4000000 in
theorem s_fM_played {F G : Nat} (hF : 100000 ≤ F) (hG : 20 ≤ G) {C : St} {S : St} (hS_S : Inv C S) : Sf (fM_played F G S) (fun r => iv r (-2147483648) (2147483647)) := by
  unfold fM_played
  exact s_b_M_played_4 hF hG hS_S F _ _ (iv_w (l := 0) (u := 0) kv_0 rfl) (ms_iu kv_0 hF rfl)
set_option maxRecDepth 100000 in
set_option maxHeartbeats 4000000 in
theorem s_fN_isKept {F G : Nat} (hF : 100000 ≤ F) (hG : 20 ≤ G) {C : St} {S : St} (hS_S : Inv C S) {p1 : Int32} : Sf (fN_isKept F G S p1) (fun r => iv r 0 1 ∧ (¬ r = 0 → iv p1 (0) (2))) := by
  unfold fN_isKept
  refine sf_ite (fun c1 => ?_) (fun c1 => ?_)
  · have f2 : iv _ (-2147483648) (-1) := iv_ltA c1 (iv_top _) kv_0 rfl
    exact sf_some ⟨iv_w (l := 0) (u := 0) kv_0 rfl, fun h => absurd rfl h⟩
  · have f3 : iv _ (0) (2147483647) := iv_leB (Int32.not_lt.mp c1) kv_0 (iv_top _) rfl
    refine sf_ite (fun c4 => ?_) (fun c4 => ?_)
    · have f5 : iv _ (3) (2147483647) := iv_leB c4 kvo_3 f3 rfl
      exact sf_some ⟨iv_w (l := 0) (u := 0) kv_0 rfl, fun h => absurd rfl h⟩
    · have f6 : iv _ (0) (2) := iv_ltA (Int32.not_le.mp c4) f3 kvo_3 rfl
      refine sf_gd (inB_iv f6 rfl) ?_
      refine sf_ite (fun c7 => ?_) (fun c7 => ?_)
      · have f8 : iv _ (0) (0) := iv_eqA c7 kv_0
        exact sf_some ⟨iv_w (l := 0) (u := 0) kv_0 rfl, fun h => absurd rfl h⟩
      · exact sf_some ⟨iv_w (l := 1) (u := 1) kv_1 rfl, fun _ => f6⟩
set_option maxRecDepth 100000 in
set_option maxHeartbeats 4000000 in
theorem s_fL_differsAt {F G : Nat} (hF : 100000 ≤ F) (hG : 20 ≤ G) {C : St} {S : St} (hS_S : Inv C S) {o : Nat} (h_o : isLa o = true) {p1 : Int32} (h_p1 : iv p1 (0) (9)) {o3 : Nat} (h_o3 : isLa o3 = true) : Sf (fL_differsAt F G S o p1 o3) (fun r => iv r (0) (1)) := by
  unfold fL_differsAt
  refine sf_gd h_o ?_
  refine sf_gd h_o3 ?_
  refine sf_gd (inB_iv h_p1 rfl) ?_
  refine sf_gd (inB_iv h_p1 rfl) ?_
  refine sf_ite (fun c1 => ?_) (fun c1 => ?_)
  · refine sf_gd (inB_iv h_p1 rfl) ?_
    refine sf_gd (inB_iv h_p1 rfl) ?_
    refine sf_ite (fun c2 => ?_) (fun c2 => ?_)
    · refine sf_gd (inB_iv h_p1 rfl) ?_
      refine sf_gd (inB_iv h_p1 rfl) ?_
      refine sf_ite (fun c3 => ?_) (fun c3 => ?_)
      · refine sf_gd (inB_iv h_p1 rfl) ?_
        refine sf_gd (inB_iv h_p1 rfl) ?_
        refine sf_ite (fun c4 => ?_) (fun c4 => ?_)
        · exact sf_some (iv_w (l := 0) (u := 0) kv_0 rfl)
        · exact sf_some (iv_w (l := 1) (u := 1) kv_1 rfl)
      · exact sf_some (iv_w (l := 1) (u := 1) kv_1 rfl)
    · exact sf_some (iv_w (l := 1) (u := 1) kv_1 rfl)
  · exact sf_some (iv_w (l := 1) (u := 1) kv_1 rfl)
set_option maxRecDepth 100000 in
set_option maxHeartbeats 4000000 in
theorem s_b_N_differ_14 {F G : Nat} (hF : 100000 ≤ F) (hG : 20 ≤ G) {C : St} {S : St} (hS_S : Inv C S) {z1 : Int32} (h_z1 : iv z1 (0) (2))  : ∀ (f : Nat) (w2 : Int32) (w3 : Int32), iv w2 (0) (1023) → iv w3 (0) (10) → (10) - w3.toInt + 1 ≤ (f : Int) → Sf (fx2 (b_N_differ_14 F G S z1)  f w2 w3) (fun r => iv r (-1) (1023)) := by
  intro f
  induction f with
  | zero => intro w2 w3 h_w2 h_w3 hm; exact (ms_zu h_w3 hm).elim
  | succ f hrec =>
    intro w2 w3 h_w2 h_w3 hm
    replace hm := ms_s hm
    show Sf (b_N_differ_14 F G S z1 (fx2 (b_N_differ_14 F G S z1)  f) w2 w3) _
    generalize fx2 (b_N_differ_14 F G S z1)  f = rec at hrec ⊢
    unfold b_N_differ_14
    refine sf_gd (sco hS_S hS_S.told) ?_
    refine sf_ite (fun c1 => ?_) (fun c1 => ?_)
    · exact sf_some (iv_w (l := 0) (u := 1023) h_w2 rfl)
    · have f2 : iv _ (0) (9) := iv_ltA (Int32.not_le.mp c1) h_w3 (sco_6 hS_S hS_S.told) rfl
      have f3 : iv _ (1) (10) := iv_ltB (Int32.not_le.mp c1) h_w3 (sco_6 hS_S hS_S.told) rfl
      refine sf_gd (inB_iv h_z1 rfl) ?_
      refine sf_bd (s_fL_differsAt hF hG hS_S rfl f2 (isLa_iv h_z1 rfl)) (fun v8 h_v8 => ?_)
      refine sf_ite (fun c4 => ?_) (fun c4 => ?_)
      · have f5 : iv _ (0) (0) := iv_eqA c4 kv_0
        refine sf_ltI (iv_add (l := 1) (u := 10) f2 kv_1 rfl) (fun v10 h_v10 e_v10 => ?_)
        exact hrec _ _ h_w2 (iv_w (l := 1) (u := 10) h_v10 rfl) (ms_up e_v10 f2 rfl hm)
      · have f6 : iv _ (1) (1) := iv_neL c4 h_v8 kv_0 rfl
        refine sf_ltI (iv_or (n := 10) (u := 1023) h_w2 (iv_shl (u := 512) f2 rfl) rfl) (fun v12 h_v12 e_v12 => ?_)
        refine sf_ltI (iv_add (l := 1) (u := 10) f2 kv_1 rfl) (fun v14 h_v14 e_v14 => ?_)
        exact hrec _ _ h_v12 (iv_w (l := 1) (u := 10) h_v14 rfl) (ms_up e_v14 f2 rfl hm)
set_option maxRecDepth 100000 in
set_option maxHeartbeats 4000000 in
theorem s_fN_differ {F G : Nat} (hF : 100000 ≤ F) (hG : 20 ≤ G) {C : St} {S : St} (hS_S : Inv C S) {p1 : Int32} : Sf (fN_differ F G S p1) (fun r => iv r (-1) (1023)) := by
  unfold fN_differ
  refine sf_bd (s_fN_isKept hF hG hS_S) (fun v2 h_v2 => ?_)
  obtain ⟨h_v2, k_v2⟩ := h_v2
  refine sf_ite (fun c1 => ?_) (fun c1 => ?_)
  · have f2 : iv _ (0) (0) := iv_eqA c1 kv_0
    exact sf_some (iv_w (l := -1) (u := -1) kv_m1 rfl)
  · have f3 : iv _ (0) (2) := k_v2 c1
    have f4 : iv _ (1) (1) := iv_neL c1 h_v2 kv_0 rfl
    exact s_b_N_differ_14 hF hG hS_S f3 F _ _ (iv_w (l := 0) (u := 0) kv_0 rfl) (iv_w (l := 0) (u := 0) kv_0 rfl) (ms_iu kv_0 hF rfl)
set_option maxRecDepth 100000 in
set_option maxHeartbeats 4000000 in
theorem s_b_M_differ_22 {F G : Nat} (hF : 100000 ≤ F) (hG : 20 ≤ G) {C : St} {S : St} (hS_S : Inv C S) {z1 : Int32} (h_z1 : iv z1 (0) (2))  : ∀ (f : Nat) (w2 : Int32) (w3 : Int32), iv w2 (0) (1023) → iv w3 (0) (40) → (40) - w3.toInt + 1 ≤ (f : Int) → Sf (fx2 (b_M_differ_22 F G S z1)  f w2 w3) (fun r => iv r (-1) (1023)) := by
  intro f
  induction f with
  | zero => intro w2 w3 h_w2 h_w3 hm; exact (ms_zu h_w3 hm).elim
  | succ f hrec =>
    intro w2 w3 h_w2 h_w3 hm
    replace hm := ms_s hm
    show Sf (b_M_differ_22 F G S z1 (fx2 (b_M_differ_22 F G S z1)  f) w2 w3) _
    generalize fx2 (b_M_differ_22 F G S z1)  f = rec at hrec ⊢
    unfold b_M_differ_22
    refine sf_ite (fun c1 => ?_) (fun c1 => ?_)
    · have f2 : iv _ (40) (40) := iv_leB c1 kv_40 h_w3 rfl
      exact sf_some (iv_w (l := 0) (u := 1023) h_w2 rfl)
    · have f3 : iv _ (0) (39) := iv_ltA (Int32.not_le.mp c1) h_w3 kv_40 rfl
      refine sf_gd (inB_iv (iv_add (l := 0) (u := 121) (iv_mul (l := 0) (u := 82) kv_41 h_z1 rfl) f3 rfl) rfl) ?_
      refine sf_gd (inB_iv f3 rfl) ?_
      refine sf_ite (fun c4 => ?_) (fun c4 => ?_)
      · refine sf_ltI (iv_add (l := 1) (u := 40) f3 kv_1 rfl) (fun v10 h_v10 e_v10 => ?_)
        exact hrec _ _ h_w2 (iv_w (l := 1) (u := 40) h_v10 rfl) (ms_up e_v10 f3 rfl hm)
      · refine sf_ltI (iv_or (n := 10) (u := 1023) h_w2 (iv_shl (u := 512) (iv_rem (u := 9) f3 kv_10 rfl) rfl) rfl) (fun v12 h_v12 e_v12 => ?_)
        refine sf_ltI (iv_add (l := 1) (u := 40) f3 kv_1 rfl) (fun v14 h_v14 e_v14 => ?_)
        exact hrec _ _ h_v12 (iv_w (l := 1) (u := 40) h_v14 rfl) (ms_up e_v14 f3 rfl hm)
set_option maxRecDepth 100000 in
set_option maxHeartbeats 4000000 in
theorem s_fM_differ {F G : Nat} (hF : 100000 ≤ F) (hG : 20 ≤ G) {C : St} {S : St} (hS_S : Inv C S) {p1 : Int32} : Sf (fM_differ F G S p1) (fun r => iv r (-1) (1023)) := by
  unfold fM_differ
  refine sf_bd (s_fM_isBox hF hG hS_S) (fun v2 h_v2 => ?_)
  obtain ⟨h_v2, k_v2⟩ := h_v2
  refine sf_ite (fun c1 => ?_) (fun c1 => ?_)
  · have f2 : iv _ (0) (0) := iv_eqA c1 kv_0
    exact sf_some (iv_w (l := -1) (u := -1) kv_m1 rfl)
  · have f3 : iv _ (0) (2) := k_v2 c1
    have f4 : iv _ (1) (1) := iv_neL c1 h_v2 kv_0 rfl
    refine sf_gd (inB_iv f3 rfl) ?_
    refine sf_ite (fun c5 => ?_) (fun c5 => ?_)
    · have f6 : iv _ (0) (0) := iv_eqA c5 kv_0
      exact sf_some (iv_w (l := -1) (u := -1) kv_m1 rfl)
    · have f7 : iv _ (1) (1) := iv_neL c5 (row_115 hS_S _) kv_0 rfl
      exact s_b_M_differ_22 hF hG hS_S f3 F _ _ (iv_w (l := 0) (u := 0) kv_0 rfl) (iv_w (l := 0) (u := 0) kv_0 rfl) (ms_iu kv_0 hF rfl)
set_option maxRecDepth 100000 in
set_option maxHeartbeats 4000000 in
theorem s_fN_aboutTheRest {F G : Nat} (hF : 100000 ≤ F) (hG : 20 ≤ G) {C : St} {S : St} (hS_S : Inv C S) {p1 : Int32} : Sf (fN_aboutTheRest F G S p1) (fun r => iv r (-2147483648) (2147483647)) := by
  unfold fN_aboutTheRest
  refine sf_ite (fun c1 => ?_) (fun c1 => ?_)
  · have f2 : iv _ (8) (8) := iv_eqA c1 kv_8
    exact sf_some (iv_top _)
  · refine sf_ite (fun c3 => ?_) (fun c3 => ?_)
    · have f4 : iv _ (9) (9) := iv_eqA c3 kv_9
      exact sf_some (iv_top _)
    · refine sf_ite (fun c5 => ?_) (fun c5 => ?_)
      · have f6 : iv _ (10) (10) := iv_eqA c5 kv_10
        exact sf_some (iv_top _)
      · refine sf_ite (fun c7 => ?_) (fun c7 => ?_)
        · have f8 : iv _ (11) (11) := iv_eqA c7 kv_11
          exact sf_some (iv_top _)
        · refine sf_ite (fun c9 => ?_) (fun c9 => ?_)
          · have f10 : iv _ (12) (12) := iv_eqA c9 kv_12
            exact sf_some (iv_top _)
          · refine sf_ite (fun c11 => ?_) (fun c11 => ?_)
            · have f12 : iv _ (13) (13) := iv_eqA c11 kv_13
              refine sf_gd (sco hS_S hS_S.told) ?_
              exact sf_some (iv_top _)
            · refine sf_ite (fun c13 => ?_) (fun c13 => ?_)
              · have f14 : iv _ (14) (14) := iv_eqA c13 kv_14
                exact sf_some (iv_top _)
              · refine sf_ite (fun c15 => ?_) (fun c15 => ?_)
                · have f16 : iv _ (15) (15) := iv_eqA c15 kv_15
                  refine sf_bd (s_fN_givenSet hF hG hS_S) (fun v11 h_v11 => ?_)
                  refine sf_bd (s_fJ_bitCount hF hG hS_S) (fun v13 h_v13 => ?_)
                  exact sf_some (iv_top _)
                · exact sf_some (iv_top _)
set_option maxRecDepth 100000 in
set_option maxHeartbeats 4000000 in
theorem s_fN_about {F G : Nat} (hF : 100000 ≤ F) (hG : 20 ≤ G) {C : St} {S : St} (hS_S : Inv C S) {p1 : Int32} : Sf (fN_about F G S p1) (fun r => iv r (-2147483648) (2147483647)) := by
  unfold fN_about
  refine sf_ite (fun c1 => ?_) (fun c1 => ?_)
  · have f2 : iv _ (0) (0) := iv_eqA c1 kv_0
    refine sf_gd (sco hS_S hS_S.told) ?_
    exact sf_some (iv_top _)
  · refine sf_ite (fun c3 => ?_) (fun c3 => ?_)
    · have f4 : iv _ (1) (1) := iv_eqA c3 kv_1
      refine sf_gd (sco hS_S hS_S.told) ?_
      exact sf_some (iv_top _)
    · refine sf_ite (fun c5 => ?_) (fun c5 => ?_)
      · have f6 : iv _ (2) (2) := iv_eqA c5 kv_2
        refine sf_gd (sco hS_S hS_S.told) ?_
        exact sf_some (iv_top _)
      · refine sf_ite (fun c7 => ?_) (fun c7 => ?_)
        · have f8 : iv _ (3) (3) := iv_eqA c7 kv_3
          refine sf_gd (sco hS_S hS_S.told) ?_
          exact sf_some (iv_top _)
        · refine sf_ite (fun c9 => ?_) (fun c9 => ?_)
          · have f10 : iv _ (4) (4) := iv_eqA c9 kv_4
            refine sf_gd (sco hS_S hS_S.told) ?_
            exact sf_some (iv_top _)
          · refine sf_ite (fun c11 => ?_) (fun c11 => ?_)
            · have f12 : iv _ (5) (5) := iv_eqA c11 kv_5
              refine sf_gd (sco hS_S hS_S.told) ?_
              exact sf_some (iv_top _)
            · refine sf_ite (fun c13 => ?_) (fun c13 => ?_)
              · have f14 : iv _ (6) (6) := iv_eqA c13 kv_6
                refine sf_gd (sco hS_S hS_S.told) ?_
                exact sf_some (iv_top _)
              · refine sf_ite (fun c15 => ?_) (fun c15 => ?_)
                · have f16 : iv _ (7) (7) := iv_eqA c15 kv_7
                  exact sf_some (iv_top _)
                · refine sf_bd (s_fN_aboutTheRest hF hG hS_S) (fun v17 h_v17 => ?_)
                  exact sf_some (iv_top _)
set_option maxRecDepth 100000 in
set_option maxHeartbeats 4000000 in
theorem s_fM_about {F G : Nat} (hF : 100000 ≤ F) (hG : 20 ≤ G) {C : St} {S : St} (hS_S : Inv C S) {p1 : Int32} : Sf (fM_about F G S p1) (fun r => iv r (-2147483648) (2147483647)) := by
  unfold fM_about
  refine sf_ite (fun c1 => ?_) (fun c1 => ?_)
  · have f2 : iv _ (0) (0) := iv_eqA c1 kv_0
    exact sf_some (iv_top _)
  · refine sf_ite (fun c3 => ?_) (fun c3 => ?_)
    · have f4 : iv _ (1) (1) := iv_eqA c3 kv_1
      exact sf_some (iv_top _)
    · refine sf_ite (fun c5 => ?_) (fun c5 => ?_)
      · have f6 : iv _ (2) (2) := iv_eqA c5 kv_2
        exact sf_some (iv_top _)
      · refine sf_ite (fun c7 => ?_) (fun c7 => ?_)
        · have f8 : iv _ (3) (3) := iv_eqA c7 kv_3
          exact sf_some (iv_top _)
        · refine sf_ite (fun c9 => ?_) (fun c9 => ?_)
          · have f10 : iv _ (4) (4) := iv_eqA c9 kv_4
            exact sf_some (iv_top _)
          · refine sf_ite (fun c11 => ?_) (fun c11 => ?_)
            · have f12 : iv _ (5) (5) := iv_eqA c11 kv_5
              exact sf_some (iv_top _)
            · refine sf_ite (fun c13 => ?_) (fun c13 => ?_)
              · have f14 : iv _ (6) (6) := iv_eqA c13 kv_6
                exact sf_some (iv_top _)
              · refine sf_ite (fun c15 => ?_) (fun c15 => ?_)
                · have f16 : iv _ (7) (7) := iv_eqA c15 kv_7
                  refine sf_gd (inB_iv kv_40 rfl) ?_
                  exact sf_some (iv_top _)
                · refine sf_ite (fun c17 => ?_) (fun c17 => ?_)
                  · have f18 : iv _ (8) (8) := iv_eqA c17 kv_8
                    exact sf_some (iv_top _)
                  · refine sf_ite (fun c19 => ?_) (fun c19 => ?_)
                    · have f20 : iv _ (9) (9) := iv_eqA c19 kv_9
                      exact sf_some (iv_top _)
                    · refine sf_ite (fun c21 => ?_) (fun c21 => ?_)
                      · have f22 : iv _ (10) (10) := iv_eqA c21 kv_10
                        exact sf_some (iv_top _)
                      · refine sf_ite (fun c23 => ?_) (fun c23 => ?_)
                        · have f24 : iv _ (11) (11) := iv_eqA c23 kv_11
                          exact sf_some (iv_top _)
                        · refine sf_ite (fun c25 => ?_) (fun c25 => ?_)
                          · have f26 : iv _ (12) (12) := iv_eqA c25 kv_12
                            exact sf_some (iv_top _)
                          · refine sf_ite (fun c27 => ?_) (fun c27 => ?_)
                            · have f28 : iv _ (13) (13) := iv_eqA c27 kv_13
                              exact sf_some (iv_top _)
                            · refine sf_ite (fun c29 => ?_) (fun c29 => ?_)
                              · have f30 : iv _ (14) (14) := iv_eqA c29 kv_14
                                exact sf_some (iv_top _)
                              · refine sf_ite (fun c31 => ?_) (fun c31 => ?_)
                                · have f32 : iv _ (15) (15) := iv_eqA c31 kv_15
                                  refine sf_bd (s_fM_played hF hG hS_S) (fun v19 h_v19 => ?_)
                                  exact sf_some (iv_top _)
                                · exact sf_some (iv_top _)
