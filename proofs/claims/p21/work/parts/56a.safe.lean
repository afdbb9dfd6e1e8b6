/-! SAFETY of the questions -/
theorem kv_m100 : iv (-100) (-100) (-100) := ⟨by decide, by decide⟩
theorem kv_m2 : iv (-2) (-2) (-2) := ⟨by decide, by decide⟩
theorem kv_m1 : iv (-1) (-1) (-1) := ⟨by decide, by decide⟩
theorem kv_0 : iv (0) (0) (0) := ⟨by decide, by decide⟩
theorem kv_1 : iv (1) (1) (1) := ⟨by decide, by decide⟩
theorem kv_2 : iv (2) (2) (2) := ⟨by decide, by decide⟩
theorem kv_3 : iv (3) (3) (3) := ⟨by decide, by decide⟩
theorem kv_4 : iv (4) (4) (4) := ⟨by decide, by decide⟩
theorem kv_5 : iv (5) (5) (5) := ⟨by decide, by decide⟩
theorem kv_6 : iv (6) (6) (6) := ⟨by decide, by decide⟩
theorem kv_7 : iv (7) (7) (7) := ⟨by decide, by decide⟩
theorem kv_8 : iv (8) (8) (8) := ⟨by decide, by decide⟩
theorem kv_9 : iv (9) (9) (9) := ⟨by decide, by decide⟩
theorem kv_10 : iv (10) (10) (10) := ⟨by decide, by decide⟩
theorem kv_11 : iv (11) (11) (11) := ⟨by decide, by decide⟩
theorem kv_12 : iv (12) (12) (12) := ⟨by decide, by decide⟩
theorem kv_13 : iv (13) (13) (13) := ⟨by decide, by decide⟩
theorem kv_14 : iv (14) (14) (14) := ⟨by decide, by decide⟩
theorem kv_15 : iv (15) (15) (15) := ⟨by decide, by decide⟩
theorem kv_16 : iv (16) (16) (16) := ⟨by decide, by decide⟩
theorem kv_20 : iv (20) (20) (20) := ⟨by decide, by decide⟩
theorem kv_30 : iv (30) (30) (30) := ⟨by decide, by decide⟩
theorem kv_31 : iv (31) (31) (31) := ⟨by decide, by decide⟩
theorem kv_37 : iv (37) (37) (37) := ⟨by decide, by decide⟩
theorem kv_38 : iv (38) (38) (38) := ⟨by decide, by decide⟩
theorem kv_40 : iv (40) (40) (40) := ⟨by decide, by decide⟩
theorem kv_41 : iv (41) (41) (41) := ⟨by decide, by decide⟩
theorem kv_42 : iv (42) (42) (42) := ⟨by decide, by decide⟩
theorem kv_43 : iv (43) (43) (43) := ⟨by decide, by decide⟩
theorem kv_45 : iv (45) (45) (45) := ⟨by decide, by decide⟩
theorem kv_47 : iv (47) (47) (47) := ⟨by decide, by decide⟩
theorem kv_60 : iv (60) (60) (60) := ⟨by decide, by decide⟩
theorem kv_61 : iv (61) (61) (61) := ⟨by decide, by decide⟩
theorem kv_62 : iv (62) (62) (62) := ⟨by decide, by decide⟩
theorem kv_63 : iv (63) (63) (63) := ⟨by decide, by decide⟩
theorem kv_87 : iv (87) (87) (87) := ⟨by decide, by decide⟩
theorem kv_999 : iv (999) (999) (999) := ⟨by decide, by decide⟩
theorem kv_9991 : iv (9991) (9991) (9991) := ⟨by decide, by decide⟩
theorem kv_1000000 : iv (1000000) (1000000) (1000000) := ⟨by decide, by decide⟩
theorem kv_252645135 : iv (252645135) (252645135) (252645135) := ⟨by decide, by decide⟩
theorem kv_858993459 : iv (858993459) (858993459) (858993459) := ⟨by decide, by decide⟩
theorem kv_1431655765 : iv (1431655765) (1431655765) (1431655765) := ⟨by decide, by decide⟩
theorem kvo_31 : iv (Int32.ofNat 31) 31 31 := ⟨by decide, by decide⟩
theorem kvo_3 : iv (Int32.ofNat 3) 3 3 := ⟨by decide, by decide⟩
theorem cell_0_12 {C S : St} (hS : Inv C S) : iv (S.1 0 12) (0) (10) := hS.2.1 _ _ _ _ rfl
theorem cell_51_0 {C S : St} (hS : Inv C S) : iv (S.1 51 0) (0) (40) := hS.2.1 _ _ _ _ rfl
theorem cell_51_1 {C S : St} (hS : Inv C S) : iv (S.1 51 1) (0) (40) := hS.2.1 _ _ _ _ rfl
theorem cell_57_0 {C S : St} (hS : Inv C S) : iv (S.1 57 0) (0) (12) := hS.2.1 _ _ _ _ rfl
theorem cell_57_1 {C S : St} (hS : Inv C S) : iv (S.1 57 1) (0) (10) := hS.2.1 _ _ _ _ rfl
theorem cell_69_0 {C S : St} (hS : Inv C S) : iv (S.1 69 0) (0) (30) := hS.2.1 _ _ _ _ rfl
theorem cell_69_10 {C S : St} (hS : Inv C S) : iv (S.1 69 10) (0) (30) := hS.2.1 _ _ _ _ rfl
theorem cell_78_46 {C S : St} (hS : Inv C S) : iv (S.1 78 46) (1) (12) := hS.2.1 _ _ _ _ rfl
theorem cell_78_47 {C S : St} (hS : Inv C S) : iv (S.1 78 47) (0) (4) := hS.2.1 _ _ _ _ rfl
theorem cell_78_48 {C S : St} (hS : Inv C S) : iv (S.1 78 48) (0) (10) := hS.2.1 _ _ _ _ rfl
theorem cell_78_63 {C S : St} (hS : Inv C S) : iv (S.1 78 63) (0) (40) := hS.2.1 _ _ _ _ rfl
theorem cell_78_64 {C S : St} (hS : Inv C S) : iv (S.1 78 64) (0) (40) := hS.2.1 _ _ _ _ rfl
theorem cell_78_68 {C S : St} (hS : Inv C S) : iv (S.1 78 68) (0) (10) := hS.2.1 _ _ _ _ rfl
theorem cell_78_74 {C S : St} (hS : Inv C S) : iv (S.1 78 74) (0) (30) := hS.2.1 _ _ _ _ rfl
theorem row_95 {C S : St} (hS : Inv C S) (k : Nat) : iv (S.1 95 k) (0) (3) := hS.2.1 _ _ _ _ rfl
theorem row_96 {C S : St} (hS : Inv C S) (k : Nat) : iv (S.1 96 k) (0) (11) := hS.2.1 _ _ _ _ rfl
theorem row_112 {C S : St} (hS : Inv C S) (k : Nat) : iv (S.1 112 k) (0) (1) := hS.2.1 _ _ _ _ rfl
theorem row_115 {C S : St} (hS : Inv C S) (k : Nat) : iv (S.1 115 k) (0) (1) := hS.2.1 _ _ _ _ rfl
theorem st_0_12 {C S : St} (hS : Inv C S) {x : Int32} (hx : iv x (0) (10)) : Inv C (sI S 0 12 x) := hS.st rfl rfl hx
theorem st_56_2 {C S : St} (hS : Inv C S) {x : Int32} (hx : iv x (-2147483648) (2147483647)) : Inv C (sI S 56 2 x) := hS.stN rfl rfl
theorem st_56_3 {C S : St} (hS : Inv C S) {x : Int32} (hx : iv x (-2147483648) (2147483647)) : Inv C (sI S 56 3 x) := hS.stN rfl rfl
theorem st_56_4 {C S : St} (hS : Inv C S) {x : Int32} (hx : iv x (-2147483648) (2147483647)) : Inv C (sI S 56 4 x) := hS.stN rfl rfl
theorem st_57_0 {C S : St} (hS : Inv C S) {x : Int32} (hx : iv x (0) (12)) : Inv C (sI S 57 0 x) := hS.st rfl rfl hx
theorem st_57_1 {C S : St} (hS : Inv C S) {x : Int32} (hx : iv x (0) (10)) : Inv C (sI S 57 1 x) := hS.st rfl rfl hx
theorem st_57_2 {C S : St} (hS : Inv C S) {x : Int32} (hx : iv x (-2147483648) (2147483647)) : Inv C (sI S 57 2 x) := hS.stN rfl rfl
theorem st_57_3 {C S : St} (hS : Inv C S) {x : Int32} (hx : iv x (-2147483648) (2147483647)) : Inv C (sI S 57 3 x) := hS.stN rfl rfl
theorem st_57_4 {C S : St} (hS : Inv C S) {x : Int32} (hx : iv x (-2147483648) (2147483647)) : Inv C (sI S 57 4 x) := hS.stN rfl rfl
theorem st_57_5 {C S : St} (hS : Inv C S) {x : Int32} (hx : iv x (-2147483648) (2147483647)) : Inv C (sI S 57 5 x) := hS.stN rfl rfl
theorem st_57_6 {C S : St} (hS : Inv C S) {x : Int32} (hx : iv x (-2147483648) (2147483647)) : Inv C (sI S 57 6 x) := hS.stN rfl rfl
theorem st_57_7 {C S : St} (hS : Inv C S) {x : Int32} (hx : iv x (-2147483648) (2147483647)) : Inv C (sI S 57 7 x) := hS.stN rfl rfl
theorem st_69_2 {C S : St} (hS : Inv C S) {x : Int32} (hx : iv x (-2147483648) (2147483647)) : Inv C (sI S 69 2 x) := hS.stN rfl rfl
theorem st_78_68 {C S : St} (hS : Inv C S) {x : Int32} (hx : iv x (0) (10)) : Inv C (sI S 78 68 x) := hS.st rfl rfl hx
theorem str_58 {C S : St} (hS : Inv C S) (k : Nat) {x : Int32} (hx : iv x (-2147483648) (2147483647)) : Inv C (sI S 58 k x) := hS.stN rfl rfl
theorem str_59 {C S : St} (hS : Inv C S) (k : Nat) {x : Int32} (hx : iv x (-2147483648) (2147483647)) : Inv C (sI S 59 k x) := hS.stN rfl rfl
theorem str_60 {C S : St} (hS : Inv C S) (k : Nat) {x : Int32} (hx : iv x (-2147483648) (2147483647)) : Inv C (sI S 60 k x) := hS.stN rfl rfl
theorem str_61 {C S : St} (hS : Inv C S) (k : Nat) {x : Int32} (hx : iv x (-2147483648) (2147483647)) : Inv C (sI S 61 k x) := hS.stN rfl rfl
theorem str_62 {C S : St} (hS : Inv C S) (k : Nat) {x : Int32} (hx : iv x (-2147483648) (2147483647)) : Inv C (sI S 62 k x) := hS.stN rfl rfl
theorem str_63 {C S : St} (hS : Inv C S) (k : Nat) {x : Int32} (hx : iv x (-2147483648) (2147483647)) : Inv C (sI S 63 k x) := hS.stN rfl rfl
theorem str_64 {C S : St} (hS : Inv C S) (k : Nat) {x : Int32} (hx : iv x (-2147483648) (2147483647)) : Inv C (sI S 64 k x) := hS.stN rfl rfl
theorem str_65 {C S : St} (hS : Inv C S) (k : Nat) {x : Int32} (hx : iv x (-2147483648) (2147483647)) : Inv C (sI S 65 k x) := hS.stN rfl rfl
theorem str_66 {C S : St} (hS : Inv C S) (k : Nat) {x : Int32} (hx : iv x (-2147483648) (2147483647)) : Inv C (sI S 66 k x) := hS.stN rfl rfl
theorem str_68 {C S : St} (hS : Inv C S) (k : Nat) {x : Int32} (hx : iv x (-2147483648) (2147483647)) : Inv C (sI S 68 k x) := hS.stN rfl rfl
theorem str_70 {C S : St} (hS : Inv C S) (k : Nat) {x : Int32} (hx : iv x (-2147483648) (2147483647)) : Inv C (sI S 70 k x) := hS.stN rfl rfl
theorem str_77 {C S : St} (hS : Inv C S) (k : Nat) {x : Int32} (hx : iv x (-2147483648) (2147483647)) : Inv C (sI S 77 k x) := hS.stN rfl rfl
theorem str_101 {C S : St} (hS : Inv C S) (k : Nat) {x : Int32} (hx : iv x (-2147483648) (2147483647)) : Inv C (sI S 101 k x) := hS.stN rfl rfl
theorem str_102 {C S : St} (hS : Inv C S) (k : Nat) {x : Int32} (hx : iv x (-2147483648) (2147483647)) : Inv C (sI S 102 k x) := hS.stN rfl rfl
theorem str_103 {C S : St} (hS : Inv C S) (k : Nat) {x : Int32} (hx : iv x (-2147483648) (2147483647)) : Inv C (sI S 103 k x) := hS.stN rfl rfl
theorem str_105 {C S : St} (hS : Inv C S) (k : Nat) {x : Int32} (hx : iv x (-2147483648) (2147483647)) : Inv C (sI S 105 k x) := hS.stN rfl rfl
theorem str_106 {C S : St} (hS : Inv C S) (k : Nat) {x : Int32} (hx : iv x (-2147483648) (2147483647)) : Inv C (sI S 106 k x) := hS.stN rfl rfl
theorem str_107 {C S : St} (hS : Inv C S) (k : Nat) {x : Int32} (hx : iv x (-2147483648) (2147483647)) : Inv C (sI S 107 k x) := hS.stN rfl rfl
theorem str_113 {C S : St} (hS : Inv C S) (k : Nat) {x : Int32} (hx : iv x (-2147483648) (2147483647)) : Inv C (sI S 113 k x) := hS.stN rfl rfl
theorem str_114 {C S : St} (hS : Inv C S) (k : Nat) {x : Int32} (hx : iv x (-2147483648) (2147483647)) : Inv C (sI S 114 k x) := hS.stN rfl rfl
set_option maxRecDepth 100000 in
set_option maxHeartbeats 4000000 in
theorem s_fM_truth {F G : Nat} (hF : 100000 ≤ F) (hG : 20 ≤ G) {C : St} {S : St} (hS_S : Inv C S) {p1 : Int32} (h_p1 : iv p1 (0) (1)) : Sf (fM_truth F G S p1) (fun r => iv r (0) (1)) := by
  unfold fM_truth
  refine sf_ite (fun c1 => ?_) (fun c1 => ?_)
  · have f2 : iv _ (0) (0) := iv_eqA c1 kv_0
    exact sf_some (iv_w (l := 0) (u := 0) kv_0 rfl)
  · have f3 : iv _ (1) (1) := iv_neL c1 h_p1 kv_0 rfl
    exact sf_some (iv_w (l := 1) (u := 1) kv_1 rfl)
set_option maxRecDepth 100000 in
set_option maxHeartbeats 4000000 in
theorem s_fN_fault {F G : Nat} (hF : 100000 ≤ F) (hG : 20 ≤ G) {C : St} {S : St} (hS_S : Inv C S) {p1 : Int32} : Sf (fN_fault F G S p1) (fun r => iv r (-2147483648) (2147483647)) := by
  unfold fN_fault
  refine sf_ite (fun c1 => ?_) (fun c1 => ?_)
  · have f2 : iv _ (0) (0) := iv_eqA c1 kv_0
    exact sf_some (iv_top _)
  · refine sf_ite (fun c3 => ?_) (fun c3 => ?_)
    · have f4 : iv _ (1) (1) := iv_eqA c3 kv_1
      exact sf_some (iv_top _)
    · exact sf_some (iv_top _)
set_option maxRecDepth 100000 in
set_option maxHeartbeats 4000000 in
theorem s_fM_fault {F G : Nat} (hF : 100000 ≤ F) (hG : 20 ≤ G) {C : St} {S : St} (hS_S : Inv C S) {p1 : Int32} : Sf (fM_fault F G S p1) (fun r => iv r (-2147483648) (2147483647)) := by
  unfold fM_fault
  refine sf_ite (fun c1 => ?_) (fun c1 => ?_)
  · have f2 : iv _ (0) (0) := iv_eqA c1 kv_0
    exact sf_some (iv_top _)
  · refine sf_ite (fun c3 => ?_) (fun c3 => ?_)
    · have f4 : iv _ (1) (1) := iv_eqA c3 kv_1
      exact sf_some (iv_top _)
    · exact sf_some (iv_top _)
set_option maxRecDepth 100000 in
set_option maxHeartbeats 4000000 in
theorem s_fN_isNote {F G : Nat} (hF : 100000 ≤ F) (hG : 20 ≤ G) {C : St} {S : St} (hS_S : Inv C S) {p1 : Int32} : Sf (fN_isNote F G S p1) (fun r => iv r 0 1 ∧ (¬ r = 0 → iv p1 (0) (9))) := by
  unfold fN_isNote
  refine sf_ite (fun c1 => ?_) (fun c1 => ?_)
  · have f2 : iv _ (-2147483648) (-1) := iv_ltA c1 (iv_top _) kv_0 rfl
    exact sf_some ⟨iv_w (l := 0) (u := 0) kv_0 rfl, fun h => absurd rfl h⟩
  · have f3 : iv _ (0) (2147483647) := iv_leB (Int32.not_lt.mp c1) kv_0 (iv_top _) rfl
    refine sf_gd (sco hS_S hS_S.told) ?_
    refine sf_ite (fun c4 => ?_) (fun c4 => ?_)
    · exact sf_some ⟨iv_w (l := 0) (u := 0) kv_0 rfl, fun h => absurd rfl h⟩
    · have f5 : iv _ (0) (9) := iv_ltA (Int32.not_le.mp c4) f3 (sco_6 hS_S hS_S.told) rfl
      have f6 : iv _ (1) (10) := iv_ltB (Int32.not_le.mp c4) f3 (sco_6 hS_S hS_S.told) rfl
      exact sf_some ⟨iv_w (l := 1) (u := 1) kv_1 rfl, fun _ => f5⟩
set_option maxRecDepth 100000 in
set_option maxHeartbeats 4000000 in
theorem s_j_S_roleOf_22 {F G : Nat} (hF : 100000 ≤ F) (hG : 20 ≤ G) {C : St} {o : Nat} (h_o : o = C.2.2.1) {S : St} (hS_S : Inv C S) {s0 : Int32} : Sf (j_S_roleOf_22 F G o S s0) (fun r => iv r (-2147483648) (2147483647)) := by
  unfold j_S_roleOf_22
  refine sf_ite (fun c1 => ?_) (fun c1 => ?_)
  · have f2 : iv _ (-2147483648) (-1) := iv_ltA c1 (iv_top _) kv_0 rfl
    exact sf_some (iv_top _)
  · have f3 : iv _ (0) (2147483647) := iv_leB (Int32.not_lt.mp c1) kv_0 (iv_top _) rfl
    refine sf_ite (fun c4 => ?_) (fun c4 => ?_)
    · exact sf_some (iv_top _)
    · have f5 : iv _ (0) (3) := iv_ltA (Int32.not_le.mp c4) f3 (sco_5 hS_S h_o) rfl
      have f6 : iv _ (1) (4) := iv_ltB (Int32.not_le.mp c4) f3 (sco_5 hS_S h_o) rfl
      refine sf_gd (inB_iv f5 rfl) ?_
      exact sf_some (iv_top _)
set_option maxRecDepth 100000 in
set_option maxHeartbeats 4000000 in
theorem s_j_S_roleOf_21 {F G : Nat} (hF : 100000 ≤ F) (hG : 20 ≤ G) {C : St} {o : Nat} (h_o : o = C.2.2.1) {S : St} (hS_S : Inv C S) : Sf (j_S_roleOf_21 F G o S) (fun r => iv r (-2147483648) (2147483647)) := by
  unfold j_S_roleOf_21
  exact s_j_S_roleOf_22 hF hG h_o hS_S
set_option maxRecDepth 100000 in
set_option maxHeartbeats 4000000 in
theorem s_fS_roleOf {F G : Nat} (hF : 100000 ≤ F) (hG : 20 ≤ G) {C : St} {S : St} (hS_S : Inv C S) {o : Nat} (h_o : o = C.2.2.1) {p1 : Int32} (h_p1 : iv p1 (0) (9)) : Sf (fS_roleOf F G S o p1) (fun r => iv r (-2147483648) (2147483647)) := by
  unfold fS_roleOf
  refine sf_gd (sco hS_S h_o) ?_
  refine sf_ite (fun c1 => ?_) (fun c1 => ?_)
  · exact (iv_lt0 c1 h_p1 kv_0 rfl).elim
  · refine sf_ite (fun c2 => ?_) (fun c2 => ?_)
    · have f3 : iv _ (0) (9) := iv_leA c2 (sco_6 hS_S h_o) h_p1 rfl
      exact s_j_S_roleOf_21 hF hG h_o hS_S
    · have f4 : iv _ (1) (10) := iv_ltB (Int32.not_le.mp c2) h_p1 (sco_6 hS_S h_o) rfl
      refine sf_gd (inB_iv h_p1 rfl) ?_
      exact s_j_S_roleOf_22 hF hG h_o hS_S
set_option maxRecDepth 100000 in
set_option maxHeartbeats 4000000 in
theorem s_j_N_doublesOf_41 {F G : Nat} (hF : 100000 ≤ F) (hG : 20 ≤ G) {C : St} {S : St} (hS_S : Inv C S) {z1 : Int32} (h_z1 : iv z1 (0) (9)) {Su : St} {y2 : Int32} (h_y2 : iv y2 (0) (1023)) {y3 : Int32} (h_y3 : iv y3 (0) (9)) {s0 : Int32} (h_s0 : iv s0 (0) (1)) {rec : Int32 → Int32 → Option (Int32)} {M : Int} (hrec : ∀ (w2 : Int32) (w3 : Int32), iv w2 (0) (1023) → iv w3 (0) (10) → (10) - w3.toInt + 1 ≤ M → Sf (rec w2 w3) (fun r => iv r (0) (1023))) (hm : (10) - y3.toInt ≤ M) : Sf (j_N_doublesOf_41 F G S z1 rec Su y2 y3 s0) (fun r => iv r (0) (1023)) := by
  unfold j_N_doublesOf_41
  refine sf_ite (fun c1 => ?_) (fun c1 => ?_)
  · refine sf_ltI (iv_add (l := 1) (u := 10) h_y3 kv_1 rfl) (fun v7 h_v7 e_v7 => ?_)
    exact hrec _ _ h_y2 (iv_w (l := 1) (u := 10) h_v7 rfl) (ms_up e_v7 h_y3 rfl hm)
  · refine sf_ite (fun c2 => ?_) (fun c2 => ?_)
    · have f3 : iv _ (0) (0) := iv_eqA c2 kv_0
      refine sf_ltI (iv_add (l := 1) (u := 10) h_y3 kv_1 rfl) (fun v10 h_v10 e_v10 => ?_)
      exact hrec _ _ h_y2 (iv_w (l := 1) (u := 10) h_v10 rfl) (ms_up e_v10 h_y3 rfl hm)
    · have f4 : iv _ (1) (1) := iv_neL c2 h_s0 kv_0 rfl
      refine sf_gd (inB_iv h_y3 rfl) ?_
      refine sf_gd (inB_iv h_z1 rfl) ?_
      refine sf_ite (fun c5 => ?_) (fun c5 => ?_)
      · have f6 : iv _ (0) (0) := iv_eqA c5 kv_0
        refine sf_ltI (iv_or (n := 10) (u := 1023) h_y2 (iv_shl (u := 512) h_y3 rfl) rfl) (fun v17 h_v17 e_v17 => ?_)
        refine sf_ltI (iv_add (l := 1) (u := 10) h_y3 kv_1 rfl) (fun v19 h_v19 e_v19 => ?_)
        exact hrec _ _ h_v17 (iv_w (l := 1) (u := 10) h_v19 rfl) (ms_up e_v19 h_y3 rfl hm)
      · refine sf_ltI (iv_add (l := 1) (u := 10) h_y3 kv_1 rfl) (fun v15 h_v15 e_v15 => ?_)
        exact hrec _ _ h_y2 (iv_w (l := 1) (u := 10) h_v15 rfl) (ms_up e_v15 h_y3 rfl hm)
set_option maxRecDepth 100000 in
set_option maxHeartbeats 4000000 in
theorem s_b_N_doublesOf_4 {F G : Nat} (hF : 100000 ≤ F) (hG : 20 ≤ G) {C : St} {S : St} (hS_S : Inv C S) {z1 : Int32} (h_z1 : iv z1 (0) (9))  : ∀ (f : Nat) (w2 : Int32) (w3 : Int32), iv w2 (0) (1023) → iv w3 (0) (10) → (10) - w3.toInt + 1 ≤ (f : Int) → Sf (fx2 (b_N_doublesOf_4 F G S z1)  f w2 w3) (fun r => iv r (0) (1023)) := by
  intro f
  induction f with
  | zero => intro w2 w3 h_w2 h_w3 hm; exact (ms_zu h_w3 hm).elim
  | succ f hrec =>
    intro w2 w3 h_w2 h_w3 hm
    replace hm := ms_s hm
    show Sf (b_N_doublesOf_4 F G S z1 (fx2 (b_N_doublesOf_4 F G S z1)  f) w2 w3) _
    generalize fx2 (b_N_doublesOf_4 F G S z1)  f = rec at hrec ⊢
    unfold b_N_doublesOf_4
    refine sf_gd (sco hS_S hS_S.told) ?_
    refine sf_ite (fun c1 => ?_) (fun c1 => ?_)
    · exact sf_some h_w2
    · have f2 : iv _ (0) (9) := iv_ltA (Int32.not_le.mp c1) h_w3 (sco_6 hS_S hS_S.told) rfl
      have f3 : iv _ (1) (10) := iv_ltB (Int32.not_le.mp c1) h_w3 (sco_6 hS_S hS_S.told) rfl
      refine sf_gd (inB_iv f2 rfl) ?_
      refine sf_gd (inB_iv h_z1 rfl) ?_
      refine sf_ite (fun c4 => ?_) (fun c4 => ?_)
      · exact s_j_N_doublesOf_41 hF hG hS_S h_z1 h_w2 f2 (iv_w (l := 1) (u := 1) kv_1 rfl) hrec hm
      · exact s_j_N_doublesOf_41 hF hG hS_S h_z1 h_w2 f2 (iv_w (l := 0) (u := 0) kv_0 rfl) hrec hm
set_option maxRecDepth 100000 in
set_option maxHeartbeats 4000000 in
theorem s_fN_doublesOf {F G : Nat} (hF : 100000 ≤ F) (hG : 20 ≤ G) {C : St} {S : St} (hS_S : Inv C S) {p1 : Int32} (h_p1 : iv p1 (0) (9)) : Sf (fN_doublesOf F G S p1) (fun r => iv r (0) (1023)) := by
  unfold fN_doublesOf
  exact s_b_N_doublesOf_4 hF hG hS_S h_p1 F _ _ (iv_w (l := 0) (u := 0) kv_0 rfl) (iv_w (l := 0) (u := 0) kv_0 rfl) (ms_iu kv_0 hF rfl)
set_option maxRecDepth 100000 in
set_option maxHeartbeats 4000000 in
theorem s_fJ_bitCount {F G : Nat} (hF : 100000 ≤ F) (hG : 20 ≤ G) {C : St} {S : St} (hS_S : Inv C S) {p1 : Int32} : Sf (fJ_bitCount F G S p1) (fun r => iv r (0) (63)) := by
  unfold fJ_bitCount
  refine sf_ltI (iv_top _) (fun v1 h_v1 e_v1 => ?_)
  refine sf_ltI (iv_add (l := 0) (u := 1717986918) (iv_andR (u := 858993459) kv_858993459 rfl) (iv_andR (u := 858993459) kv_858993459 rfl) rfl) (fun v3 h_v3 e_v3 => ?_)
  refine sf_ltI (iv_andR (u := 252645135) kv_252645135 rfl) (fun v5 h_v5 e_v5 => ?_)
  refine sf_ltI (iv_top _) (fun v7 h_v7 e_v7 => ?_)
  refine sf_ltI (iv_top _) (fun v9 h_v9 e_v9 => ?_)
  exact sf_some (iv_andR (u := 63) kv_63 rfl)
set_option maxRecDepth 100000 in
set_option maxHeartbeats 4000000 in
theorem s_fF_isTold {F G : Nat} (hF : 100000 ≤ F) (hG : 20 ≤ G) {C : St} {S : St} (hS_S : Inv C S) {o : Nat} (h_o : isFo o = true) : Sf (fF_isTold F G S o) (fun r => iv r (0) (1)) := by
  unfold fF_isTold
  refine sf_gd h_o ?_
  refine sf_ite (fun c1 => ?_) (fun c1 => ?_)
  · have f2 : iv _ (0) (0) := iv_leA c1 (fo_1 hS_S h_o) kv_0 rfl
    exact sf_some (iv_w (l := 0) (u := 0) kv_0 rfl)
  · have f3 : iv _ (1) (270) := iv_ltB (Int32.not_le.mp c1) kv_0 (fo_1 hS_S h_o) rfl
    exact sf_some (iv_w (l := 1) (u := 1) kv_1 rfl)
set_option maxRecDepth 100000 in
set_option maxHeartbeats 4000000 in
theorem s_fF_push {F G : Nat} (hF : 100000 ≤ F) (hG : 20 ≤ G) {C : St} {S : St} (hS_S : Inv C S) {o : Nat} (h_o : isFo o = true) {p1 : Int32} : Sf (fF_push F G S o p1) (fun r => Inv C r) := by
  unfold fF_push
  refine sf_gd h_o ?_
  refine sf_ite (fun c1 => ?_) (fun c1 => ?_)
  · have f2 : iv _ (31) (31) := iv_leB c1 kvo_31 (fo_5 hS_S h_o) rfl
    exact sf_some hS_S
  · have f3 : iv _ (0) (30) := iv_ltA (Int32.not_le.mp c1) (fo_5 hS_S h_o) kvo_31 rfl
    refine sf_gd (inB_iv f3 rfl) ?_
    refine sf_ltS (Q := fun T => iv (T.1 o 5) (0) (30) ∧ True) (stFr_2 hS_S h_o _ (iv_top _)) ⟨(cyF_2 f3), trivial⟩ (fun S3 hS_S3 hq => ?_)
    obtain ⟨f4, -⟩ := hq
    refine sf_ltS (Q := fun T => iv (T.1 o 5) (1) (31) ∧ True) (stF_5 hS_S3 h_o (iv_w (l := 1) (u := 31) (iv_add (l := 1) (u := 31) f4 kv_1 rfl) rfl)) ⟨(nwc (iv_add (l := 1) (u := 31) f4 kv_1 rfl)), trivial⟩ (fun S5 hS_S5 hq => ?_)
    obtain ⟨f5, -⟩ := hq
    exact sf_some hS_S5
set_option maxRecDepth 100000 in
set_option maxHeartbeats 4000000 in
theorem s_fF_joined {F G : Nat} (hF : 100000 ≤ F) (hG : 20 ≤ G) {C : St} {S : St} (hS_S : Inv C S) {p1 : Int32} {p2 : Int32} {p3 : Int32} : Sf (fF_joined F G S p1 p2 p3) (fun r => iv r (-2147483648) (2147483647)) := by
  unfold fF_joined
  refine sf_ite (fun c1 => ?_) (fun c1 => ?_)
  · have f2 : iv _ (12) (12) := iv_eqA c1 kv_12
    refine sf_ite (fun c3 => ?_) (fun c3 => ?_)
    · have f4 : iv _ (0) (0) := iv_eqA c3 kv_0
      refine sf_ite (fun c5 => ?_) (fun c5 => ?_)
      · have f6 : iv _ (0) (0) := iv_eqA c5 kv_0
        exact sf_some (iv_top _)
      · exact sf_some (iv_top _)
    · exact sf_some (iv_top _)
  · refine sf_ite (fun c7 => ?_) (fun c7 => ?_)
    · have f8 : iv _ (13) (13) := iv_eqA c7 kv_13
      refine sf_ite (fun c9 => ?_) (fun c9 => ?_)
      · have f10 : iv _ (0) (0) := iv_eqA c9 kv_0
        exact sf_some (iv_top _)
      · refine sf_ite (fun c11 => ?_) (fun c11 => ?_)
        · have f12 : iv _ (0) (0) := iv_eqA c11 kv_0
          exact sf_some (iv_top _)
        · exact sf_some (iv_top _)
    · refine sf_ite (fun c13 => ?_) (fun c13 => ?_)
      · have f14 : iv _ (37) (37) := iv_eqA c13 kv_37
        refine sf_ite (fun c15 => ?_) (fun c15 => ?_)
        · have f16 : iv _ (0) (0) := iv_eqA c15 kv_0
          exact sf_some (iv_top _)
        · refine sf_gd (nz_of c15) ?_
          exact sf_some (iv_top _)
      · refine sf_ite (fun c17 => ?_) (fun c17 => ?_)
        · have f18 : iv _ (42) (42) := iv_eqA c17 kv_42
          exact sf_some (iv_top _)
        · refine sf_ite (fun c19 => ?_) (fun c19 => ?_)
          · have f20 : iv _ (43) (43) := iv_eqA c19 kv_43
            exact sf_some (iv_top _)
          · refine sf_ite (fun c21 => ?_) (fun c21 => ?_)
            · have f22 : iv _ (45) (45) := iv_eqA c21 kv_45
              exact sf_some (iv_top _)
            · refine sf_ite (fun c23 => ?_) (fun c23 => ?_)
              · have f24 : iv _ (47) (47) := iv_eqA c23 kv_47
                refine sf_ite (fun c25 => ?_) (fun c25 => ?_)
                · have f26 : iv _ (0) (0) := iv_eqA c25 kv_0
                  exact sf_some (iv_top _)
                · refine sf_gd (nz_of c25) ?_
                  exact sf_some (iv_top _)
              · refine sf_ite (fun c27 => ?_) (fun c27 => ?_)
                · have f28 : iv _ (60) (60) := iv_eqA c27 kv_60
                  refine sf_ite (fun c29 => ?_) (fun c29 => ?_)
                  · exact sf_some (iv_top _)
                  · have f30 : iv _ (-2147483648) (2147483646) := iv_ltA (Int32.not_le.mp c29) (iv_top _) (iv_top _) rfl
                    have f31 : iv _ (-2147483647) (2147483647) := iv_ltB (Int32.not_le.mp c29) (iv_top _) (iv_top _) rfl
                    exact sf_some (iv_top _)
                · refine sf_ite (fun c32 => ?_) (fun c32 => ?_)
                  · have f33 : iv _ (61) (61) := iv_eqA c32 kv_61
                    refine sf_ite (fun c34 => ?_) (fun c34 => ?_)
                    · exact sf_some (iv_top _)
                    · exact sf_some (iv_top _)
                  · refine sf_ite (fun c35 => ?_) (fun c35 => ?_)
                    · have f36 : iv _ (62) (62) := iv_eqA c35 kv_62
                      refine sf_ite (fun c37 => ?_) (fun c37 => ?_)
                      · exact sf_some (iv_top _)
                      · have f38 : iv _ (-2147483648) (2147483646) := iv_ltA (Int32.not_le.mp c37) (iv_top _) (iv_top _) rfl
                        have f39 : iv _ (-2147483647) (2147483647) := iv_ltB (Int32.not_le.mp c37) (iv_top _) (iv_top _) rfl
                        exact sf_some (iv_top _)
                    · exact sf_some (iv_top _)
set_option maxRecDepth 100000 in
set_option maxHeartbeats 4000000 in
theorem s_j_F_step_89 {F G : Nat} (hF : 100000 ≤ F) (hG : 20 ≤ G) {C : St} {o : Nat} (h_o : isFo o = true) {S : St} (hS_S : Inv C S) {y2 : Int32} : Sf (j_F_step_89 F G o S y2) (fun r => Inv C r) := by
  unfold j_F_step_89
  refine sf_ite (fun c1 => ?_) (fun c1 => ?_)
  · have f2 : iv _ (0) (1) := iv_leA c1 (fo_5 hS_S h_o) kv_1 rfl
    exact sf_some hS_S
  · have f3 : iv _ (2) (31) := iv_ltB (Int32.not_le.mp c1) kv_1 (fo_5 hS_S h_o) rfl
    refine sf_ltS (Q := fun T => iv (T.1 o 5) (1) (30) ∧ True) (stF_5 hS_S h_o (iv_w (l := 1) (u := 30) (iv_sub (l := 1) (u := 30) f3 kv_1 rfl) rfl)) ⟨(nwc (iv_sub (l := 1) (u := 30) f3 kv_1 rfl)), trivial⟩ (fun S22 hS_S22 hq => ?_)
    obtain ⟨f4, -⟩ := hq
    refine sf_gd (inB_iv (iv_sub (l := 0) (u := 29) f4 kv_1 rfl) rfl) ?_
    refine sf_gd (inB_iv f4 rfl) ?_
    refine sf_bd (s_fF_joined hF hG hS_S22) (fun v27 h_v27 => ?_)
    refine sf_gd (inB_iv (iv_sub (l := 0) (u := 29) f4 kv_1 rfl) rfl) ?_
    refine sf_ltS (Q := fun T => iv (T.1 o 5) (1) (30) ∧ True) (stFr_2 hS_S22 h_o _ (iv_top _)) ⟨(cyF_2 f4), trivial⟩ (fun S29 hS_S29 hq => ?_)
    obtain ⟨f5, -⟩ := hq
    exact sf_some hS_S29
set_option maxRecDepth 100000 in
set_option maxHeartbeats 4000000 in
theorem s_j_F_step_43 {F G : Nat} (hF : 100000 ≤ F) (hG : 20 ≤ G) {C : St} {o : Nat} (h_o : isFo o = true) {S : St} (hS_S : Inv C S) {y2 : Int32} : Sf (j_F_step_43 F G o S y2) (fun r => Inv C r) := by
  unfold j_F_step_43
  refine sf_ite (fun c1 => ?_) (fun c1 => ?_)
  · have f2 : iv _ (14) (14) := iv_eqA c1 kv_14
    refine sf_ite (fun c3 => ?_) (fun c3 => ?_)
    · have f4 : iv _ (0) (0) := iv_leA c3 (fo_5 hS_S h_o) kv_0 rfl
      exact s_j_F_step_89 hF hG h_o hS_S
    · have f5 : iv _ (1) (31) := iv_ltB (Int32.not_le.mp c3) kv_0 (fo_5 hS_S h_o) rfl
      refine sf_gd (inB_iv (iv_sub (l := 0) (u := 30) f5 kv_1 rfl) rfl) ?_
      refine sf_ite (fun c6 => ?_) (fun c6 => ?_)
      · have f7 : iv _ (0) (0) := iv_eqA c6 kv_0
        refine sf_gd (inB_iv (iv_sub (l := 0) (u := 30) f5 kv_1 rfl) rfl) ?_
        refine sf_ltS (Q := fun T => iv (T.1 o 5) (1) (31) ∧ True) (stFr_2 hS_S h_o _ kv_1) ⟨(cyF_2 f5), trivial⟩ (fun S19 hS_S19 hq => ?_)
        obtain ⟨f8, -⟩ := hq
        exact sf_some hS_S19
      · refine sf_gd (inB_iv (iv_sub (l := 0) (u := 30) f5 kv_1 rfl) rfl) ?_
        refine sf_ltS (Q := fun T => iv (T.1 o 5) (1) (31) ∧ True) (stFr_2 hS_S h_o _ kv_0) ⟨(cyF_2 f5), trivial⟩ (fun S16 hS_S16 hq => ?_)
        obtain ⟨f9, -⟩ := hq
        exact sf_some hS_S16
  · exact s_j_F_step_89 hF hG h_o hS_S
set_option maxRecDepth 100000 in
set_option maxHeartbeats 4000000 in
theorem s_fF_step {F G : Nat} (hF : 100000 ≤ F) (hG : 20 ≤ G) {C : St} {S : St} (hS_S : Inv C S) {o : Nat} (h_o : isFo o = true) {p1 : Int32} : Sf (fF_step F G S o p1) (fun r => Inv C r) := by
  unfold fF_step
  refine sf_gd h_o ?_
  refine sf_ltI (iv_top _) (fun v1 h_v1 e_v1 => ?_)
  refine sf_ite (fun c1 => ?_) (fun c1 => ?_)
  · have f2 : iv _ (-2147483648) (-1) := iv_ltA c1 (iv_top _) kv_0 rfl
    refine sf_ite (fun c3 => ?_) (fun c3 => ?_)
    · have f4 : iv _ (-2147483648) (14) := iv_ltA c3 (iv_top _) kv_15 rfl
      exact s_j_F_step_43 hF hG h_o hS_S
    · have f5 : iv _ (15) (2147483647) := iv_leB (Int32.not_lt.mp c3) kv_15 (iv_top _) rfl
      refine sf_ite (fun c6 => ?_) (fun c6 => ?_)
      · have f7 : iv _ (21) (2147483647) := iv_ltB c6 kv_20 f5 rfl
        exact s_j_F_step_43 hF hG h_o hS_S
      · have f8 : iv _ (15) (20) := iv_leA (Int32.not_lt.mp c6) f5 kv_20 rfl
        refine sf_gd (inB_iv (iv_sub (l := 0) (u := 5) f8 kv_15 rfl) rfl) ?_
        refine sf_bd (s_fF_push hF hG hS_S h_o) (fun S8 hS_S8 => ?_)
        exact sf_some hS_S8
  · have f9 : iv _ (0) (2147483647) := iv_leB (Int32.not_lt.mp c1) kv_0 (iv_top _) rfl
    refine sf_bd (s_fF_push hF hG hS_S h_o) (fun S10 hS_S10 => ?_)
    exact sf_some hS_S10
set_option maxRecDepth 100000 in
set_option maxHeartbeats 4000000 in
theorem s_b_F_valueOf_53 {F G : Nat} (hF : 100000 ≤ F) (hG : 20 ≤ G) {C : St} {z0 : Nat} (h_z0 : isFo z0 = true)  : ∀ (f : Nat) (w7 : Int32) (S : St), iv w7 (0) (270) → Inv C S → (270) - w7.toInt + 1 ≤ (f : Int) → Sf2 (fx2 (b_F_valueOf_53 F G z0)  f w7 S) (fun r S2 => iv r (-2147483648) (2147483647) ∧ Inv C S2) := by
  intro f
  induction f with
  | zero => intro w7 S h_w7 hS_S hm; exact (ms_zu h_w7 hm).elim
  | succ f hrec =>
    intro w7 S h_w7 hS_S hm
    replace hm := ms_s hm
    show Sf2 (b_F_valueOf_53 F G z0 (fx2 (b_F_valueOf_53 F G z0)  f) w7 S) _
    generalize fx2 (b_F_valueOf_53 F G z0)  f = rec at hrec ⊢
    unfold b_F_valueOf_53
    refine sg_ite (fun c1 => ?_) (fun c1 => ?_)
    · refine sg_ite (fun c2 => ?_) (fun c2 => ?_)
      · have f3 : iv _ (0) (0) := iv_leA c2 (fo_5 hS_S h_z0) kv_0 rfl
        exact sg_some (iv_top _) hS_S
      · have f4 : iv _ (1) (31) := iv_ltB (Int32.not_le.mp c2) kv_0 (fo_5 hS_S h_z0) rfl
        refine sg_gd (inB_iv kv_0 rfl) ?_
        exact sg_some (iv_top _) hS_S
    · have f5 : iv _ (0) (269) := iv_ltA (Int32.not_le.mp c1) h_w7 (fo_1 hS_S h_z0) rfl
      have f6 : iv _ (1) (270) := iv_ltB (Int32.not_le.mp c1) h_w7 (fo_1 hS_S h_z0) rfl
      refine sg_gd (inB_iv f5 rfl) ?_
      refine sg_bd (s_fF_step hF hG hS_S h_z0) (fun S26 hS_S26 => ?_)
      refine sg_ltI (iv_add (l := 1) (u := 270) f5 kv_1 rfl) (fun v27 h_v27 e_v27 => ?_)
      exact hrec _ _ (iv_w (l := 1) (u := 270) h_v27 rfl) hS_S26 (ms_up e_v27 f5 rfl hm)
set_option maxRecDepth 100000 in
set_option maxHeartbeats 4000000 in
theorem s_fF_valueOf {F G : Nat} (hF : 100000 ≤ F) (hG : 20 ≤ G) {C : St} {S : St} (hS_S : Inv C S) {o : Nat} (h_o : isFo o = true) {p1 : Int32} {p2 : Int32} {p3 : Int32} {p4 : Int32} {p5 : Int32} (h_p5 : iv p5 (0) (63)) {p6 : Int32} : Sf2 (fF_valueOf F G S o p1 p2 p3 p4 p5 p6) (fun r S2 => iv r (-2147483648) (2147483647) ∧ Inv C S2) := by
  unfold fF_valueOf
  refine sg_gd h_o ?_
  refine sg_gd (inB_iv kv_0 rfl) ?_
  refine sg_ltS0 (stFr_3 hS_S h_o _ (iv_top _)) (fun S2 hS_S2 => ?_)
  refine sg_gd (inB_iv kv_1 rfl) ?_
  refine sg_ltS0 (stFr_3 hS_S2 h_o _ (iv_top _)) (fun S5 hS_S5 => ?_)
  refine sg_gd (inB_iv kv_2 rfl) ?_
  refine sg_ltS0 (stFr_3 hS_S5 h_o _ (iv_top _)) (fun S8 hS_S8 => ?_)
  refine sg_gd (inB_iv kv_3 rfl) ?_
  refine sg_ltS0 (stFr_3 hS_S8 h_o _ (iv_top _)) (fun S11 hS_S11 => ?_)
  refine sg_gd (inB_iv kv_4 rfl) ?_
  refine sg_ltS0 (stFr_3 hS_S11 h_o _ h_p5) (fun S14 hS_S14 => ?_)
  refine sg_gd (inB_iv kv_5 rfl) ?_
  refine sg_ltS0 (stFr_3 hS_S14 h_o _ (iv_top _)) (fun S17 hS_S17 => ?_)
  refine sg_ltS (Q := fun T => iv (T.1 o 5) (0) (0) ∧ True) (stF_5 hS_S17 h_o (iv_w (l := 0) (u := 0) kv_0 rfl)) ⟨(nwc kv_0), trivial⟩ (fun S19 hS_S19 hq => ?_)
  obtain ⟨f1, -⟩ := hq
  exact s_b_F_valueOf_53 hF hG h_o F _ _ (iv_w (l := 0) (u := 0) kv_0 rfl) hS_S19 (ms_iu kv_0 hF rfl)
set_option maxRecDepth 100000 in
set_option maxHeartbeats 4000000 in
theorem s_j_N_missedOf_95 {F G : Nat} (hF : 100000 ≤ F) (hG : 20 ≤ G) {C : St} {S : St} (hS_S : Inv C S) {y5 : Int32} : Sf2 (j_N_missedOf_95 F G S y5) (fun r S2 => iv r (-2147483648) (2147483647) ∧ Inv C S2) := by
  unfold j_N_missedOf_95
  exact sg_some (iv_top _) hS_S
set_option maxRecDepth 100000 in
set_option maxHeartbeats 4000000 in
theorem s_fN_missedOf {F G : Nat} (hF : 100000 ≤ F) (hG : 20 ≤ G) {C : St} {S : St} (hS_S : Inv C S) {p1 : Int32} (h_p1 : iv p1 (0) (9)) : Sf2 (fN_missedOf F G S p1) (fun r S2 => iv r (-2147483648) (2147483647) ∧ Inv C S2) := by
  unfold fN_missedOf
  refine sg_gd (sco hS_S hS_S.told) ?_
  refine sg_bd (s_fS_roleOf hF hG hS_S hS_S.told h_p1) (fun v3 h_v3 => ?_)
  refine sg_gd (inB_iv h_p1 rfl) ?_
  refine sg_ltI (iv_top _) (fun v5 h_v5 e_v5 => ?_)
  refine sg_bd (s_fN_doublesOf hF hG hS_S h_p1) (fun v8 h_v8 => ?_)
  refine sg_bd (s_fJ_bitCount hF hG hS_S) (fun v10 h_v10 => ?_)
  refine sg_ltI (iv_top _) (fun v11 h_v11 e_v11 => ?_)
  refine sg_bd (s_fF_isTold hF hG hS_S (sco_fo hS_S hS_S.told)) (fun v14 h_v14 => ?_)
  refine sg_ite (fun c1 => ?_) (fun c1 => ?_)
  · have f2 : iv _ (0) (0) := iv_eqA c1 kv_0
    exact s_j_N_missedOf_95 hF hG hS_S
  · have f3 : iv _ (1) (1) := iv_neL c1 h_v14 kv_0 rfl
    refine sg_gd (inB_iv h_p1 rfl) ?_
    refine sg_gd (inB_iv h_p1 rfl) ?_
    refine sg_gd (inB_iv h_p1 rfl) ?_
    refine sg_bd2 (s_fF_valueOf hF hG hS_S (sco_fo hS_S hS_S.told) h_v10) (fun v20 S21 hq => ?_)
    obtain ⟨h_v20, hS_S21⟩ := hq
    exact s_j_N_missedOf_95 hF hG hS_S21
set_option maxRecDepth 100000 in
set_option maxHeartbeats 4000000 in
theorem s_fN_note {F G : Nat} (hF : 100000 ≤ F) (hG : 20 ≤ G) {C : St} {S : St} (hS_S : Inv C S) {p1 : Int32} {p2 : Int32} : Sf2 (fN_note F G S p1 p2) (fun r S2 => iv r (-2147483648) (2147483647) ∧ Inv C S2) := by
  unfold fN_note
  refine sg_bd (s_fN_isNote hF hG hS_S) (fun v2 h_v2 => ?_)
  obtain ⟨h_v2, k_v2⟩ := h_v2
  refine sg_ite (fun c1 => ?_) (fun c1 => ?_)
  · have f2 : iv _ (0) (0) := iv_eqA c1 kv_0
    exact sg_some (iv_top _) hS_S
  · have f3 : iv _ (0) (9) := k_v2 c1
    have f4 : iv _ (1) (1) := iv_neL c1 h_v2 kv_0 rfl
    refine sg_ite (fun c5 => ?_) (fun c5 => ?_)
    · have f6 : iv _ (0) (0) := iv_eqA c5 kv_0
      refine sg_gd (sco hS_S hS_S.told) ?_
      refine sg_gd (inB_iv f3 rfl) ?_
      exact sg_some (iv_top _) hS_S
    · refine sg_ite (fun c7 => ?_) (fun c7 => ?_)
      · have f8 : iv _ (1) (1) := iv_eqA c7 kv_1
        refine sg_gd (sco hS_S hS_S.told) ?_
        refine sg_gd (inB_iv f3 rfl) ?_
        exact sg_some (iv_top _) hS_S
      · refine sg_ite (fun c9 => ?_) (fun c9 => ?_)
        · have f10 : iv _ (2) (2) := iv_eqA c9 kv_2
          refine sg_gd (inB_iv f3 rfl) ?_
          exact sg_some (iv_top _) hS_S
        · refine sg_ite (fun c11 => ?_) (fun c11 => ?_)
          · have f12 : iv _ (3) (3) := iv_eqA c11 kv_3
            refine sg_gd (inB_iv f3 rfl) ?_
            exact sg_some (iv_top _) hS_S
          · refine sg_ite (fun c13 => ?_) (fun c13 => ?_)
            · have f14 : iv _ (4) (4) := iv_eqA c13 kv_4
              refine sg_gd (inB_iv f3 rfl) ?_
              exact sg_some (iv_top _) hS_S
            · refine sg_ite (fun c15 => ?_) (fun c15 => ?_)
              · have f16 : iv _ (5) (5) := iv_eqA c15 kv_5
                refine sg_gd (inB_iv f3 rfl) ?_
                exact sg_some (iv_top _) hS_S
              · refine sg_ite (fun c17 => ?_) (fun c17 => ?_)
                · have f18 : iv _ (6) (6) := iv_eqA c17 kv_6
                  refine sg_bd2 (s_fN_missedOf hF hG hS_S f3) (fun v20 S21 hq => ?_)
                  obtain ⟨h_v20, hS_S21⟩ := hq
                  exact sg_some (iv_top _) hS_S21
                · refine sg_ite (fun c19 => ?_) (fun c19 => ?_)
                  · have f20 : iv _ (7) (7) := iv_eqA c19 kv_7
                    refine sg_bd (s_fN_doublesOf hF hG hS_S f3) (fun v24 h_v24 => ?_)
                    exact sg_some (iv_top _) hS_S
                  · exact sg_some (iv_top _) hS_S
theorem s_fM_isIn {F G : Nat} (hF : 100000 ≤ F) (hG : 20 ≤ G) {C : St} {S : St} (hS_S : Inv C S) {p1 : Int32} {p2 : Int32} (h_p2 : iv p2 (0) (1)) {p3 : Int32} (h_p3 : iv p3 (-1) (87)) : Sf (fM_isIn F G S p1 p2 p3) (fun r => iv r 0 1 ∧ (¬ r = 0 → p2 ≤ p1 ∧ p1 ≤ p3)) := by
  unfold fM_isIn
  refine sf_ite (fun c1 => sf_some ⟨iv_w (l := 0) (u := 0) kv_0 rfl, fun h => absurd rfl h⟩) (fun c1 => sf_ite (fun c2 => sf_some ⟨iv_w (l := 0) (u := 0) kv_0 rfl, fun h => absurd rfl h⟩) (fun c2 => sf_some ⟨iv_w (l := 1) (u := 1) kv_1 rfl, fun _ => ⟨Int32.not_lt.mp c1, Int32.not_lt.mp c2⟩⟩))
set_option maxRecDepth 100000 in
set_option maxHeartbeats 4000000 in
theorem s_fM_isNote {F G : Nat} (hF : 100000 ≤ F) (hG : 20 ≤ G) {C : St} {S : St} (hS_S : Inv C S) {p1 : Int32} : Sf (fM_isNote F G S p1) (fun r => iv r 0 1 ∧ (¬ r = 0 → iv p1 (0) (9))) := by
  unfold fM_isNote
  refine sf_bd (s_fM_isIn hF hG hS_S (iv_w (l := 0) (u := 0) kv_0 rfl) (iv_w (l := -1) (u := 9) (iv_sub (l := -1) (u := 9) (cell_78_48 hS_S) kv_1 rfl) rfl)) (fun v2 h_v2 => ?_)
  obtain ⟨h_v2, k_v2⟩ := h_v2
  refine sf_gd (isB_iv h_v2 rfl) ?_
  exact sf_some ⟨h_v2, fun h => (isIn_iv kv_0 (iv_sub (l := -1) (u := 9) (cell_78_48 hS_S) kv_1 rfl) k_v2 h)⟩
set_option maxRecDepth 100000 in
set_option maxHeartbeats 4000000 in
theorem s_b_M_layHold_2 {F G : Nat} (hF : 100000 ≤ F) (hG : 20 ≤ G) {C : St} {k21 : St → Option (St)} (hk21 : ∀ (x0 : St), Inv C x0 → Sf (k21 x0) (fun r => Inv C r))  : ∀ (f : Nat) (w1 : Int32) (S : St), iv w1 (0) (12) → Inv C S → (12) - w1.toInt + 1 ≤ (f : Int) → Sf (fx2 (b_M_layHold_2 F G k21)  f w1 S) (fun r => Inv C r) := by
  intro f
  induction f with
  | zero => intro w1 S h_w1 hS_S hm; exact (ms_zu h_w1 hm).elim
  | succ f hrec =>
    intro w1 S h_w1 hS_S hm
    replace hm := ms_s hm
    show Sf (b_M_layHold_2 F G k21 (fx2 (b_M_layHold_2 F G k21)  f) w1 S) _
    generalize fx2 (b_M_layHold_2 F G k21)  f = rec at hrec ⊢
    unfold b_M_layHold_2
    refine sf_ite (fun c1 => ?_) (fun c1 => ?_)
    · have f2 : iv _ (12) (12) := iv_leB c1 kv_12 h_w1 rfl
      exact hk21 _ hS_S
    · have f3 : iv _ (0) (11) := iv_ltA (Int32.not_le.mp c1) h_w1 kv_12 rfl
      refine sf_gd (inB_iv f3 rfl) ?_
      refine sf_ltS0 (str_102 hS_S _ (iv_top _)) (fun S3 hS_S3 => ?_)
      refine sf_ltI (iv_add (l := 1) (u := 12) f3 kv_1 rfl) (fun v5 h_v5 e_v5 => ?_)
      exact hrec _ _ (iv_w (l := 1) (u := 12) h_v5 rfl) hS_S3 (ms_up e_v5 f3 rfl hm)
set_option maxRecDepth 100000 in
set_option maxHeartbeats 4000000 in
theorem s_j_M_layHold_101 {F G : Nat} (hF : 100000 ≤ F) (hG : 20 ≤ G) {C : St} {z1 : Int32} (h_z1 : iv z1 (0) (9)) {S : St} (hS_S : Inv C S) {y3 : Int32} (h_y3 : iv y3 (0) (11)) {s0 : Int32} (h_s0 : iv s0 (0) (1)) {k124 : St → Option (St)} (hk124 : ∀ (x0 : St), Inv C x0 → Sf (k124 x0) (fun r => Inv C r)) {rec : Int32 → Int32 → St → Option (St)} {M : Int} (hrec : ∀ (w2 : Int32) (w3 : Int32) (S : St), iv w2 (0) (1) → iv w3 (0) (12) → Inv C S → (12) - w3.toInt + 1 ≤ M → Sf (rec w2 w3 S) (fun r => Inv C r)) (hm : (12) - y3.toInt ≤ M) : Sf (j_M_layHold_101 F G z1 k124 rec S y3 s0) (fun r => Inv C r) := by
  unfold j_M_layHold_101
  refine sf_ite (fun c1 => ?_) (fun c1 => ?_)
  · have f2 : iv _ (0) (0) := iv_eqA c1 kv_0
    refine sf_ltI (iv_add (l := 1) (u := 12) h_y3 kv_1 rfl) (fun v22 h_v22 e_v22 => ?_)
    exact hrec _ _ _ (iv_w (l := 0) (u := 0) f2 rfl) (iv_w (l := 1) (u := 12) h_v22 rfl) hS_S (ms_up e_v22 h_y3 rfl hm)
  · have f3 : iv _ (1) (1) := iv_neL c1 h_s0 kv_0 rfl
    refine sf_gd (inB_iv h_y3 rfl) ?_
    refine sf_gd (inB_iv h_y3 rfl) ?_
    refine sf_ltS0 (str_102 hS_S _ (iv_top _)) (fun S26 hS_S26 => ?_)
    refine sf_ltI (iv_add (l := 1) (u := 12) h_y3 kv_1 rfl) (fun v28 h_v28 e_v28 => ?_)
    exact hrec _ _ _ (iv_w (l := 1) (u := 1) f3 rfl) (iv_w (l := 1) (u := 12) h_v28 rfl) hS_S26 (ms_up e_v28 h_y3 rfl hm)
set_option maxRecDepth 100000 in
set_option maxHeartbeats 4000000 in
theorem s_j_M_layHold_100 {F G : Nat} (hF : 100000 ≤ F) (hG : 20 ≤ G) {C : St} {z1 : Int32} (h_z1 : iv z1 (0) (9)) {S : St} (hS_S : Inv C S) {y3 : Int32} (h_y3 : iv y3 (0) (11)) {k124 : St → Option (St)} (hk124 : ∀ (x0 : St), Inv C x0 → Sf (k124 x0) (fun r => Inv C r)) {rec : Int32 → Int32 → St → Option (St)} {M : Int} (hrec : ∀ (w2 : Int32) (w3 : Int32) (S : St), iv w2 (0) (1) → iv w3 (0) (12) → Inv C S → (12) - w3.toInt + 1 ≤ M → Sf (rec w2 w3 S) (fun r => Inv C r)) (hm : (12) - y3.toInt ≤ M) : Sf (j_M_layHold_100 F G z1 k124 rec S y3) (fun r => Inv C r) := by
  unfold j_M_layHold_100
  exact s_j_M_layHold_101 hF hG h_z1 hS_S h_y3 (iv_w (l := 0) (u := 0) kv_0 rfl) hk124 hrec hm
set_option maxRecDepth 100000 in
set_option maxHeartbeats 4000000 in
theorem s_j_M_layHold_96 {F G : Nat} (hF : 100000 ≤ F) (hG : 20 ≤ G) {C : St} {z1 : Int32} (h_z1 : iv z1 (0) (9)) {S : St} (hS_S : Inv C S) {y3 : Int32} (h_y3 : iv y3 (0) (11)) {k124 : St → Option (St)} (hk124 : ∀ (x0 : St), Inv C x0 → Sf (k124 x0) (fun r => Inv C r)) {rec : Int32 → Int32 → St → Option (St)} {M : Int} (hrec : ∀ (w2 : Int32) (w3 : Int32) (S : St), iv w2 (0) (1) → iv w3 (0) (12) → Inv C S → (12) - w3.toInt + 1 ≤ M → Sf (rec w2 w3 S) (fun r => Inv C r)) (hm : (12) - y3.toInt ≤ M) : Sf (j_M_layHold_96 F G z1 k124 rec S y3) (fun r => Inv C r) := by
  unfold j_M_layHold_96
  exact s_j_M_layHold_101 hF hG h_z1 hS_S h_y3 (iv_w (l := 1) (u := 1) kv_1 rfl) hk124 hrec hm
set_option maxRecDepth 100000 in
set_option maxHeartbeats 4000000 in
theorem s_b_M_layHold_40 {F G : Nat} (hF : 100000 ≤ F) (hG : 20 ≤ G) {C : St} {z1 : Int32} (h_z1 : iv z1 (0) (9)) {k124 : St → Option (St)} (hk124 : ∀ (x0 : St), Inv C x0 → Sf (k124 x0) (fun r => Inv C r))  : ∀ (f : Nat) (w2 : Int32) (w3 : Int32) (S : St), iv w2 (0) (1) → iv w3 (0) (12) → Inv C S → (12) - w3.toInt + 1 ≤ (f : Int) → Sf (fx3 (b_M_layHold_40 F G z1 k124)  f w2 w3 S) (fun r => Inv C r) := by
  intro f
  induction f with
  | zero => intro w2 w3 S h_w2 h_w3 hS_S hm; exact (ms_zu h_w3 hm).elim
  | succ f hrec =>
    intro w2 w3 S h_w2 h_w3 hS_S hm
    replace hm := ms_s hm
    show Sf (b_M_layHold_40 F G z1 k124 (fx3 (b_M_layHold_40 F G z1 k124)  f) w2 w3 S) _
    generalize fx3 (b_M_layHold_40 F G z1 k124)  f = rec at hrec ⊢
    unfold b_M_layHold_40
    refine sf_ite (fun c1 => ?_) (fun c1 => ?_)
    · have f2 : iv _ (1) (12) := iv_leB c1 (cell_78_46 hS_S) h_w3 rfl
      exact hk124 _ hS_S
    · have f3 : iv _ (0) (11) := iv_ltA (Int32.not_le.mp c1) h_w3 (cell_78_46 hS_S) rfl
      refine sf_ite (fun c4 => ?_) (fun c4 => ?_)
      · have f5 : iv _ (0) (0) := iv_eqA c4 kv_0
        exact hk124 _ hS_S
      · have f6 : iv _ (1) (1) := iv_neL c4 h_w2 kv_0 rfl
        refine sf_gd (inB_iv h_z1 rfl) ?_
        refine sf_gd (inB_iv (iv_add (l := 20) (u := 29) kv_20 h_z1 rfl) rfl) ?_
        refine sf_ite (fun c7 => ?_) (fun c7 => ?_)
        · have f8 : iv _ (-2147483648) (11) := iv_leA c7 (iv_top _) f3 rfl
          exact s_j_M_layHold_100 hF hG h_z1 hS_S f3 hk124 hrec hm
        · have f9 : iv _ (1) (2147483647) := iv_ltB (Int32.not_le.mp c7) f3 (iv_top _) rfl
          refine sf_gd (inB_iv h_z1 rfl) ?_
          refine sf_ite (fun c10 => ?_) (fun c10 => ?_)
          · exact s_j_M_layHold_96 hF hG h_z1 hS_S f3 hk124 hrec hm
          · refine sf_gd (inB_iv kv_40 rfl) ?_
            refine sf_ite (fun c11 => ?_) (fun c11 => ?_)
            · have f12 : iv _ (0) (0) := iv_eqA c11 kv_0
              exact s_j_M_layHold_96 hF hG h_z1 hS_S f3 hk124 hrec hm
            · have f13 : iv _ (1) (1) := iv_neL c11 (iv_andR (u := 1) kv_1 rfl) kv_0 rfl
              exact s_j_M_layHold_100 hF hG h_z1 hS_S f3 hk124 hrec hm
set_option maxRecDepth 100000 in
set_option maxHeartbeats 4000000 in
theorem s_b_M_layHold_23 {F G : Nat} (hF : 100000 ≤ F) (hG : 20 ≤ G) {C : St}   : ∀ (f : Nat) (w1 : Int32) (S : St), iv w1 (0) (10) → Inv C S → (10) - w1.toInt + 1 ≤ (f : Int) → Sf (fx2 (b_M_layHold_23 F G)  f w1 S) (fun r => Inv C r) := by
  intro f
  induction f with
  | zero => intro w1 S h_w1 hS_S hm; exact (ms_zu h_w1 hm).elim
  | succ f hrec =>
    intro w1 S h_w1 hS_S hm
    replace hm := ms_s hm
    show Sf (b_M_layHold_23 F G (fx2 (b_M_layHold_23 F G)  f) w1 S) _
    generalize fx2 (b_M_layHold_23 F G)  f = rec at hrec ⊢
    unfold b_M_layHold_23
    refine sf_ite (fun c1 => ?_) (fun c1 => ?_)
    · exact sf_some hS_S
    · have f2 : iv _ (0) (9) := iv_ltA (Int32.not_le.mp c1) h_w1 (cell_78_48 hS_S) rfl
      have f3 : iv _ (1) (10) := iv_ltB (Int32.not_le.mp c1) h_w1 (cell_78_48 hS_S) rfl
      refine sf_gd (inB_iv f2 rfl) ?_
      refine sf_ltI (row_96 hS_S _) (fun v10 h_v10 e_v10 => ?_)
      refine s_b_M_layHold_40 hF hG f2 ?_ F _ _ _ (iv_w (l := 1) (u := 1) kv_1 rfl) (iv_w (l := 0) (u := 11) h_v10 rfl) hS_S (ms_iu h_v10 hF rfl)
      · intro S30 hS_S30
        refine sf_ltI (iv_add (l := 1) (u := 10) f2 kv_1 rfl) (fun v31 h_v31 e_v31 => ?_)
        exact hrec _ _ (iv_w (l := 1) (u := 10) h_v31 rfl) hS_S30 (ms_up e_v31 f2 rfl hm)
set_option maxRecDepth 100000 in
set_option maxHeartbeats 4000000 in
theorem s_fM_layHold {F G : Nat} (hF : 100000 ≤ F) (hG : 20 ≤ G) {C : St} {S : St} (hS_S : Inv C S) : Sf (fM_layHold F G S) (fun r => Inv C r) := by
  unfold fM_layHold
  refine s_b_M_layHold_2 hF hG ?_ F _ _ (iv_w (l := 0) (u := 0) kv_0 rfl) hS_S (ms_iu kv_0 hF rfl)
  · intro S7 hS_S7
    exact s_b_M_layHold_23 hF hG  F _ _ (iv_w (l := 0) (u := 0) kv_0 rfl) hS_S7 (ms_iu kv_0 hF rfl)
set_option maxRecDepth 100000 in
set_option maxHeartbeats 4000000 in
theorem s_b_M_fill_2 {F G : Nat} (hF : 100000 ≤ F) (hG : 20 ≤ G) {C : St} {k26 : St → Option (St)} (hk26 : ∀ (x0 : St), Inv C x0 → Sf (k26 x0) (fun r => Inv C r))  : ∀ (f : Nat) (w1 : Int32) (S : St), iv w1 (0) (41) → Inv C S → (41) - w1.toInt + 1 ≤ (f : Int) → Sf (fx2 (b_M_fill_2 F G k26)  f w1 S) (fun r => Inv C r) := by
  intro f
  induction f with
  | zero => intro w1 S h_w1 hS_S hm; exact (ms_zu h_w1 hm).elim
  | succ f hrec =>
    intro w1 S h_w1 hS_S hm
    replace hm := ms_s hm
    show Sf (b_M_fill_2 F G k26 (fx2 (b_M_fill_2 F G k26)  f) w1 S) _
    generalize fx2 (b_M_fill_2 F G k26)  f = rec at hrec ⊢
    unfold b_M_fill_2
    refine sf_ite (fun c1 => ?_) (fun c1 => ?_)
    · have f2 : iv _ (41) (41) := iv_leB c1 kv_41 h_w1 rfl
      exact hk26 _ hS_S
    · have f3 : iv _ (0) (40) := iv_ltA (Int32.not_le.mp c1) h_w1 kv_41 rfl
      refine sf_gd (inB_iv f3 rfl) ?_
      refine sf_gd (inB_iv f3 rfl) ?_
      refine sf_ltS0 (str_101 hS_S _ (iv_top _)) (fun S4 hS_S4 => ?_)
      refine sf_ltI (iv_add (l := 1) (u := 41) f3 kv_1 rfl) (fun v6 h_v6 e_v6 => ?_)
      exact hrec _ _ (iv_w (l := 1) (u := 41) h_v6 rfl) hS_S4 (ms_up e_v6 f3 rfl hm)
set_option maxRecDepth 100000 in
set_option maxHeartbeats 4000000 in
theorem s_fM_fill {F G : Nat} (hF : 100000 ≤ F) (hG : 20 ≤ G) {C : St} {S : St} (hS_S : Inv C S) : Sf (fM_fill F G S) (fun r => Inv C r) := by
  unfold fM_fill
  refine s_b_M_fill_2 hF hG ?_ F _ _ (iv_w (l := 0) (u := 0) kv_0 rfl) hS_S (ms_iu kv_0 hF rfl)
  · intro S8 hS_S8
    refine sf_bd (s_fM_layHold hF hG hS_S8) (fun S10 hS_S10 => ?_)
    exact sf_some hS_S10
set_option maxRecDepth 100000 in
set_option maxHeartbeats 4000000 in
theorem s_fM_plain {F G : Nat} (hF : 100000 ≤ F) (hG : 20 ≤ G) {C : St} {S : St} (hS_S : Inv C S) {p1 : Int32} : Sf (fM_plain F G S p1) (fun r => iv r (-2147483648) (2147483647)) := by
  unfold fM_plain
  refine sf_ite (fun c1 => ?_) (fun c1 => ?_)
  · have f2 : iv _ (0) (2147483647) := iv_leB c1 kv_0 (iv_top _) rfl
    exact sf_some (iv_top _)
  · have f3 : iv _ (-2147483648) (-1) := iv_ltA (Int32.not_le.mp c1) (iv_top _) kv_0 rfl
    exact sf_some (iv_top _)
set_option maxRecDepth 100000 in
set_option maxHeartbeats 4000000 in
theorem s_j_M_doubles_66 {F G : Nat} (hF : 100000 ≤ F) (hG : 20 ≤ G) {C : St} {S : St} (hS_S : Inv C S) {z1 : Int32} (h_z1 : iv z1 (0) (9)) {Su : St} {y3 : Int32} (h_y3 : iv y3 (0) (9)) {s0 : Int32} (h_s0 : iv s0 (0) (1023)) {s1 : Int32} (h_s1 : iv s1 (0) (1)) {rec : Int32 → Int32 → Option (Int32)} {M : Int} (hrec : ∀ (w2 : Int32) (w3 : Int32), iv w2 (0) (1023) → iv w3 (0) (10) → (10) - w3.toInt + 1 ≤ M → Sf (rec w2 w3) (fun r => iv r (0) (1023))) (hm : (10) - y3.toInt ≤ M) : Sf (j_M_doubles_66 F G S z1 rec Su y3 s0 s1) (fun r => iv r (0) (1023)) := by
  unfold j_M_doubles_66
  refine sf_bd (s_fM_truth hF hG hS_S h_s1) (fun v12 h_v12 => ?_)
  refine sf_ltI (iv_or (n := 10) (u := 1023) h_s0 (iv_shb (u := 512) h_v12 h_y3 rfl) rfl) (fun v13 h_v13 e_v13 => ?_)
  refine sf_ltI (iv_add (l := 1) (u := 10) h_y3 kv_1 rfl) (fun v15 h_v15 e_v15 => ?_)
  exact hrec _ _ h_v13 (iv_w (l := 1) (u := 10) h_v15 rfl) (ms_up e_v15 h_y3 rfl hm)
set_option maxRecDepth 100000 in
set_option maxHeartbeats 4000000 in
theorem s_j_M_doubles_65 {F G : Nat} (hF : 100000 ≤ F) (hG : 20 ≤ G) {C : St} {S : St} (hS_S : Inv C S) {z1 : Int32} (h_z1 : iv z1 (0) (9)) {Su : St} {y3 : Int32} (h_y3 : iv y3 (0) (9)) {s0 : Int32} (h_s0 : iv s0 (0) (1023)) {rec : Int32 → Int32 → Option (Int32)} {M : Int} (hrec : ∀ (w2 : Int32) (w3 : Int32), iv w2 (0) (1023) → iv w3 (0) (10) → (10) - w3.toInt + 1 ≤ M → Sf (rec w2 w3) (fun r => iv r (0) (1023))) (hm : (10) - y3.toInt ≤ M) : Sf (j_M_doubles_65 F G S z1 rec Su y3 s0) (fun r => iv r (0) (1023)) := by
  unfold j_M_doubles_65
  exact s_j_M_doubles_66 hF hG hS_S h_z1 h_y3 h_s0 (iv_w (l := 0) (u := 0) kv_0 rfl) hrec hm
set_option maxRecDepth 100000 in
set_option maxHeartbeats 4000000 in
theorem s_b_M_doubles_4 {F G : Nat} (hF : 100000 ≤ F) (hG : 20 ≤ G) {C : St} {S : St} (hS_S : Inv C S) {z1 : Int32} (h_z1 : iv z1 (0) (9))  : ∀ (f : Nat) (w2 : Int32) (w3 : Int32), iv w2 (0) (1023) → iv w3 (0) (10) → (10) - w3.toInt + 1 ≤ (f : Int) → Sf (fx2 (b_M_doubles_4 F G S z1)  f w2 w3) (fun r => iv r (0) (1023)) := by
  intro f
  induction f with
  | zero => intro w2 w3 h_w2 h_w3 hm; exact (ms_zu h_w3 hm).elim
  | succ f hrec =>
    intro w2 w3 h_w2 h_w3 hm
    replace hm := ms_s hm
    show Sf (b_M_doubles_4 F G S z1 (fx2 (b_M_doubles_4 F G S z1)  f) w2 w3) _
    generalize fx2 (b_M_doubles_4 F G S z1)  f = rec at hrec ⊢
    unfold b_M_doubles_4
    refine sf_ite (fun c1 => ?_) (fun c1 => ?_)
    · exact sf_some h_w2
    · have f2 : iv _ (0) (9) := iv_ltA (Int32.not_le.mp c1) h_w3 (cell_78_48 hS_S) rfl
      have f3 : iv _ (1) (10) := iv_ltB (Int32.not_le.mp c1) h_w3 (cell_78_48 hS_S) rfl
      refine sf_ite (fun c4 => ?_) (fun c4 => ?_)
      · exact s_j_M_doubles_65 hF hG hS_S h_z1 f2 h_w2 hrec hm
      · refine sf_gd (inB_iv f2 rfl) ?_
        refine sf_gd (inB_iv h_z1 rfl) ?_
        refine sf_ite (fun c5 => ?_) (fun c5 => ?_)
        · refine sf_gd (inB_iv (iv_add (l := 10) (u := 19) kv_10 f2 rfl) rfl) ?_
          refine sf_gd (inB_iv (iv_add (l := 10) (u := 19) kv_10 h_z1 rfl) rfl) ?_
          refine sf_bd (s_fM_plain hF hG hS_S) (fun v9 h_v9 => ?_)
          refine sf_ite (fun c6 => ?_) (fun c6 => ?_)
          · have f7 : iv _ (0) (0) := iv_eqA c6 kv_0
            exact s_j_M_doubles_66 hF hG hS_S h_z1 f2 h_w2 (iv_w (l := 1) (u := 1) kv_1 rfl) hrec hm
          · exact s_j_M_doubles_65 hF hG hS_S h_z1 f2 h_w2 hrec hm
        · exact s_j_M_doubles_65 hF hG hS_S h_z1 f2 h_w2 hrec hm
set_option maxRecDepth 100000 in
set_option maxHeartbeats 4000000 in
theorem s_fM_doubles {F G : Nat} (hF : 100000 ≤ F) (hG : 20 ≤ G) {C : St} {S : St} (hS_S : Inv C S) {p1 : Int32} (h_p1 : iv p1 (0) (9)) : Sf (fM_doubles F G S p1) (fun r => iv r (0) (1023)) := by
  unfold fM_doubles
  exact s_b_M_doubles_4 hF hG hS_S h_p1 F _ _ (iv_w (l := 0) (u := 0) kv_0 rfl) (iv_w (l := 0) (u := 0) kv_0 rfl) (ms_iu kv_0 hF rfl)
set_option maxRecDepth 100000 in
set_option maxHeartbeats 4000000 in
theorem s_b_M_members_4 {F G : Nat} (hF : 100000 ≤ F) (hG : 20 ≤ G) {C : St} {S : St} (hS_S : Inv C S) {z0 : Int32} (h_z0 : iv z0 (0) (4095))  : ∀ (f : Nat) (w1 : Int32) (w2 : Int32), iv w2 (0) (12) → (12) - w2.toInt + 1 ≤ (f : Int) → Sf (fx2 (b_M_members_4 F G S z0)  f w1 w2) (fun r => iv r (-2147483648) (2147483647)) := by
  intro f
  induction f with
  | zero => intro w1 w2 h_w2 hm; exact (ms_zu h_w2 hm).elim
  | succ f hrec =>
    intro w1 w2 h_w2 hm
    replace hm := ms_s hm
    show Sf (b_M_members_4 F G S z0 (fx2 (b_M_members_4 F G S z0)  f) w1 w2) _
    generalize fx2 (b_M_members_4 F G S z0)  f = rec at hrec ⊢
    unfold b_M_members_4
    refine sf_ite (fun c1 => ?_) (fun c1 => ?_)
    · have f2 : iv _ (12) (12) := iv_leB c1 kv_12 h_w2 rfl
      exact sf_some (iv_top _)
    · have f3 : iv _ (0) (11) := iv_ltA (Int32.not_le.mp c1) h_w2 kv_12 rfl
      refine sf_ltI (iv_top _) (fun v2 h_v2 e_v2 => ?_)
      refine sf_ltI (iv_add (l := 1) (u := 12) f3 kv_1 rfl) (fun v4 h_v4 e_v4 => ?_)
      exact hrec _ _ (iv_w (l := 1) (u := 12) h_v4 rfl) (ms_up e_v4 f3 rfl hm)
set_option maxRecDepth 100000 in
set_option maxHeartbeats 4000000 in
theorem s_fM_members {F G : Nat} (hF : 100000 ≤ F) (hG : 20 ≤ G) {C : St} {S : St} (hS_S : Inv C S) {p1 : Int32} (h_p1 : iv p1 (0) (4095)) : Sf (fM_members F G S p1) (fun r => iv r (-2147483648) (2147483647)) := by
  unfold fM_members
  exact s_b_M_members_4 hF hG hS_S h_p1 F _ _ (iv_w (l := 0) (u := 0) kv_0 rfl) (ms_iu kv_0 hF rfl)
set_option maxRecDepth 100000 in
set_option maxHeartbeats 4000000 in
theorem s_fM_within {F G : Nat} (hF : 100000 ≤ F) (hG : 20 ≤ G) {C : St} {S : St} (hS_S : Inv C S) {p1 : Int32} {p2 : Int32} (h_p2 : iv p2 (999) (999)) : Sf (fM_within F G S p1 p2) (fun r => iv r (0) (999)) := by
  unfold fM_within
  refine sf_ite (fun c1 => ?_) (fun c1 => ?_)
  · have f2 : iv _ (0) (2147483647) := iv_leB c1 kv_0 (iv_top _) rfl
    refine sf_ite (fun c3 => ?_) (fun c3 => ?_)
    · have f4 : iv _ (0) (999) := iv_leA c3 f2 h_p2 rfl
      exact sf_some f4
    · have f5 : iv _ (1000) (2147483647) := iv_ltB (Int32.not_le.mp c3) h_p2 f2 rfl
      exact sf_some (iv_w (l := 999) (u := 999) h_p2 rfl)
  · have f6 : iv _ (-2147483648) (-1) := iv_ltA (Int32.not_le.mp c1) (iv_top _) kv_0 rfl
    exact sf_some (iv_w (l := 0) (u := 0) kv_0 rfl)
set_option maxRecDepth 100000 in
set_option maxHeartbeats 4000000 in
theorem s_fM_done {F G : Nat} (hF : 100000 ≤ F) (hG : 20 ≤ G) {C : St} {S : St} (hS_S : Inv C S) {p1 : Int32} {p2 : Int32} {p3 : Int32} : Sf (fM_done F G S p1 p2 p3) (fun r => iv r (-2147483648) (2147483647)) := by
  unfold fM_done
  refine sf_ite (fun c1 => ?_) (fun c1 => ?_)
  · have f2 : iv _ (37) (37) := iv_eqA c1 kv_37
    refine sf_ite (fun c3 => ?_) (fun c3 => ?_)
    · have f4 : iv _ (0) (0) := iv_eqA c3 kv_0
      exact sf_some (iv_top _)
    · refine sf_gd (nz_of c3) ?_
      exact sf_some (iv_top _)
  · refine sf_ite (fun c5 => ?_) (fun c5 => ?_)
    · have f6 : iv _ (38) (38) := iv_eqA c5 kv_38
      refine sf_ite (fun c7 => ?_) (fun c7 => ?_)
      · have f8 : iv _ (0) (0) := iv_eqA c7 kv_0
        refine sf_bd (s_fM_truth hF hG hS_S (iv_w (l := 0) (u := 0) kv_0 rfl)) (fun v7 h_v7 => ?_)
        exact sf_some (iv_top _)
      · refine sf_ite (fun c9 => ?_) (fun c9 => ?_)
        · have f10 : iv _ (0) (0) := iv_eqA c9 kv_0
          refine sf_bd (s_fM_truth hF hG hS_S (iv_w (l := 0) (u := 0) kv_0 rfl)) (fun v10 h_v10 => ?_)
          exact sf_some (iv_top _)
        · refine sf_bd (s_fM_truth hF hG hS_S (iv_w (l := 1) (u := 1) kv_1 rfl)) (fun v12 h_v12 => ?_)
          exact sf_some (iv_top _)
    · refine sf_ite (fun c11 => ?_) (fun c11 => ?_)
      · have f12 : iv _ (42) (42) := iv_eqA c11 kv_42
        exact sf_some (iv_top _)
      · refine sf_ite (fun c13 => ?_) (fun c13 => ?_)
        · have f14 : iv _ (43) (43) := iv_eqA c13 kv_43
          exact sf_some (iv_top _)
        · refine sf_ite (fun c15 => ?_) (fun c15 => ?_)
          · have f16 : iv _ (45) (45) := iv_eqA c15 kv_45
            exact sf_some (iv_top _)
          · refine sf_ite (fun c17 => ?_) (fun c17 => ?_)
            · have f18 : iv _ (47) (47) := iv_eqA c17 kv_47
              refine sf_ite (fun c19 => ?_) (fun c19 => ?_)
              · have f20 : iv _ (0) (0) := iv_eqA c19 kv_0
                exact sf_some (iv_top _)
              · refine sf_gd (nz_of c19) ?_
                exact sf_some (iv_top _)
            · refine sf_ite (fun c21 => ?_) (fun c21 => ?_)
              · have f22 : iv _ (60) (60) := iv_eqA c21 kv_60
                refine sf_ite (fun c23 => ?_) (fun c23 => ?_)
                · refine sf_bd (s_fM_truth hF hG hS_S (iv_w (l := 0) (u := 0) kv_0 rfl)) (fun v22 h_v22 => ?_)
                  exact sf_some (iv_top _)
                · have f24 : iv _ (-2147483648) (2147483646) := iv_ltA (Int32.not_le.mp c23) (iv_top _) (iv_top _) rfl
                  have f25 : iv _ (-2147483647) (2147483647) := iv_ltB (Int32.not_le.mp c23) (iv_top _) (iv_top _) rfl
                  refine sf_bd (s_fM_truth hF hG hS_S (iv_w (l := 1) (u := 1) kv_1 rfl)) (fun v24 h_v24 => ?_)
                  exact sf_some (iv_top _)
              · refine sf_ite (fun c26 => ?_) (fun c26 => ?_)
                · have f27 : iv _ (61) (61) := iv_eqA c26 kv_61
                  refine sf_ite (fun c28 => ?_) (fun c28 => ?_)
                  · refine sf_bd (s_fM_truth hF hG hS_S (iv_w (l := 1) (u := 1) kv_1 rfl)) (fun v30 h_v30 => ?_)
                    exact sf_some (iv_top _)
                  · refine sf_bd (s_fM_truth hF hG hS_S (iv_w (l := 0) (u := 0) kv_0 rfl)) (fun v28 h_v28 => ?_)
                    exact sf_some (iv_top _)
                · refine sf_ite (fun c29 => ?_) (fun c29 => ?_)
                  · have f30 : iv _ (62) (62) := iv_eqA c29 kv_62
                    refine sf_ite (fun c31 => ?_) (fun c31 => ?_)
                    · refine sf_bd (s_fM_truth hF hG hS_S (iv_w (l := 0) (u := 0) kv_0 rfl)) (fun v34 h_v34 => ?_)
                      exact sf_some (iv_top _)
                    · have f32 : iv _ (-2147483648) (2147483646) := iv_ltA (Int32.not_le.mp c31) (iv_top _) (iv_top _) rfl
                      have f33 : iv _ (-2147483647) (2147483647) := iv_ltB (Int32.not_le.mp c31) (iv_top _) (iv_top _) rfl
                      refine sf_bd (s_fM_truth hF hG hS_S (iv_w (l := 1) (u := 1) kv_1 rfl)) (fun v36 h_v36 => ?_)
                      exact sf_some (iv_top _)
                  · refine sf_ite (fun c34 => ?_) (fun c34 => ?_)
                    · have f35 : iv _ (0) (0) := iv_eqA c34 kv_0
                      refine sf_ite (fun c36 => ?_) (fun c36 => ?_)
                      · have f37 : iv _ (0) (0) := iv_eqA c36 kv_0
                        refine sf_bd (s_fM_truth hF hG hS_S (iv_w (l := 0) (u := 0) kv_0 rfl)) (fun v42 h_v42 => ?_)
                        exact sf_some (iv_top _)
                      · refine sf_bd (s_fM_truth hF hG hS_S (iv_w (l := 1) (u := 1) kv_1 rfl)) (fun v44 h_v44 => ?_)
                        exact sf_some (iv_top _)
                    · refine sf_bd (s_fM_truth hF hG hS_S (iv_w (l := 1) (u := 1) kv_1 rfl)) (fun v39 h_v39 => ?_)
                      exact sf_some (iv_top _)
theorem tn_nI {s : Nat} (h : s < 2 ^ 31) : (nI s).toInt = s := Int32.toInt_ofNat_of_lt h
theorem tI_add1 {x : Int32} (h : x.toInt < 2147483647) : (x + 1).toInt = x.toInt + 1 := by
  have e1 : (1 : Int32).toInt = 1 := rfl
  have := tI_lo x
  rw [Int32.toInt_add, e1, i32b (by omega) (by omega)]
theorem tI_sub1 {x : Int32} (h : -2147483648 < x.toInt) : (x - 1).toInt = x.toInt - 1 := by
  have e1 : (1 : Int32).toInt = 1 := rfl
  have := tI_hi x
  rw [Int32.toInt_sub, e1, i32b (by omega) (by omega)]
theorem tI_addm {x : Int32} (h : -2147483648 < x.toInt) : (x + -1).toInt = x.toInt - 1 := by
  have e1 : (-1 : Int32).toInt = -1 := rfl
  have := tI_hi x
  rw [Int32.toInt_add, e1, i32b (by omega) (by omega)]
  omega
set_option maxRecDepth 100000 in
set_option maxHeartbeats 4000000 in
theorem s_b_M_missedOf_128 {F G : Nat} (hF : 100000 ≤ F) (hG : 20 ≤ G) {C : St} {k276 : St → Option (Int32 × St)} {P2 : Int32 → St → Prop} (hk : ∀ S, Inv C S → Sf2 (k276 S) P2) : ∀ (f s : Nat) (w2 w3 : Int32) (S : St), Inv C S → w3 = nI s → w2.toInt = hgt C s → (s : Int) ≤ (C.1 78 18).toInt → (C.1 78 18).toInt - s + 1 ≤ (f : Int) → Sf2 (fx3 (b_M_missedOf_128 F G k276) f w2 w3 S) P2 := by
  intro f
  induction f with
  | zero => intro s w2 w3 S hS h3 h2 hs hm; omega
  | succ f ih =>
    intro s w2 w3 S hS h3 h2 hs hm
    have hB : iv (C.1 78 18) 0 320 := hS.1.1 78 18 _ _ rfl
    have hb2 := hB.2
    have e18 : S.1 78 18 = C.1 78 18 := hS.2.2.2 78 18 rfl
    have e83 : S.1 83 s = C.1 83 s := hS.2.2.2 83 s rfl
    have e84 : S.1 84 s = C.1 84 s := hS.2.2.2 84 s rfl
    show Sf2 (b_M_missedOf_128 F G k276 (fx3 (b_M_missedOf_128 F G k276) f) w2 w3 S) _
    generalize fx3 (b_M_missedOf_128 F G k276) f = rec at ih ⊢
    subst h3
    unfold b_M_missedOf_128
    refine sg_ite (fun c => hk S hS) (fun c => ?_)
    have c1 : (s : Int) < (C.1 78 18).toInt := by
      have h := Int32.lt_iff_toInt_lt.mp (Int32.not_le.mp c)
      rw [tn_nI (by omega), e18] at h
      exact h
    obtain ⟨g0, g1, g2, g3, g4⟩ := hS.1.2.2.1 s c1
    have i3 : inB (nI s) 320 = true := inB_nI (by omega) (by decide)
    have cl : (nI s).toNatClampNeg = s := nI_clamp (by omega)
    have rc : ∀ (v : Int32) (S' : St), Inv C S' → v.toInt = hgt C (s + 1) → Sf2 (rec v (nI s + 1) S') P2 := fun v S' a b => ih (s + 1) v _ S' a (by rw [nI_1]) b (by omega) (by omega)
    have hp : (C.1 83 s = 0 ∨ C.1 83 s = 1) → Sf2 (j_M_missedOf_155 F G k276 rec S w2 (nI s)) P2 := by
      intro hd
      have h1 : hgt C (s + 1) = hgt C s + 1 := by simp only [hgt]; rw [if_pos hd]
      have iw : iv w2 0 63 := ⟨by omega, by omega⟩
      have e1 : (w2 + 1).toInt = hgt C (s + 1) := by rw [tI_add1 (by omega)]; omega
      unfold j_M_missedOf_155
      rw [cl]
      refine sg_gd i3 (sg_ite (fun d => ?_) (fun d => ?_))
      · refine sg_gd i3 (sg_gd (inB_iv iw rfl) ?_)
        refine sg_ltS0 (hS.stN rfl rfl) fun T hT => ?_
        exact rc _ T hT e1
      · have h5 : iv (S.1 84 s) 0 5 := by
          rw [e84]
          rw [e83] at d
          rcases hd with hd | hd
          · exact absurd hd d
          · exact g2 hd
        refine sg_gd i3 (sg_gd (inB_iv h5 rfl) (sg_gd (inB_iv iw rfl) ?_))
        refine sg_ltS0 (hS.stN rfl rfl) fun T hT => ?_
        exact rc _ T hT e1
    rw [cl, e83]
    refine sg_gd i3 (sg_ite (fun d => hp (Or.inl d)) (fun d0 => ?_))
    refine sg_gd i3 (sg_ite (fun d => hp (Or.inr d)) (fun d1 => ?_))
    refine sg_gd i3 (sg_ite (fun d2 => ?_) (fun d2 => ?_))
    · have h1 : hgt C (s + 1) = hgt C s := by simp only [hgt]; rw [if_neg (fun z => z.elim d0 d1), if_pos d2]
      have g3 := g3 d2
      have e1 : (w2 - 1).toInt = w2.toInt - 1 := tI_sub1 (by omega)
      have iw : iv (w2 - 1) 0 62 := ⟨by omega, by omega⟩
      refine sg_gd (inB_iv iw rfl) (sg_ite (fun _ => ?_) (fun _ => ?_))
      · refine sg_bd (s_fM_truth hF hG hS (iv_w (l := 1) (u := 1) kv_1 rfl)) fun v _ => ?_
        refine sg_gd (inB_iv iw rfl) (sg_ltS0 (hS.stN rfl rfl) fun T hT => ?_)
        exact rc _ T hT (by omega)
      · refine sg_bd (s_fM_truth hF hG hS (iv_w (l := 0) (u := 0) kv_0 rfl)) fun v _ => ?_
        refine sg_gd (inB_iv iw rfl) (sg_ltS0 (hS.stN rfl rfl) fun T hT => ?_)
        exact rc _ T hT (by omega)
    · have h1 : hgt C (s + 1) = hgt C s - 1 := by simp only [hgt]; rw [if_neg (fun z => z.elim d0 d1), if_neg d2]
      have g4 := g4 d0 d1 d2
      have e0 : (w2 + -1).toInt = w2.toInt - 1 := tI_addm (by omega)
      show Sf2 (gd (inB (nI s) 320) (gd (inB (w2 + -1 - 1) 64) (gd (inB (w2 + -1) 64) (bd (fM_done F G S _ _ _) fun v43 => gd (inB (w2 + -1 - 1) 64) (lt (sI S 86 _ v43) fun S45 => lt (nI s + 1) fun v47 => rec (w2 + -1) v47 S45))))) P2
      generalize w2 + -1 = z at e0 ⊢
      have e1 : (z - 1).toInt = z.toInt - 1 := tI_sub1 (by omega)
      have iw : iv (z - 1) 0 61 := ⟨by omega, by omega⟩
      have iw2 : iv z 0 62 := ⟨by omega, by omega⟩
      refine sg_gd i3 (sg_gd (inB_iv iw rfl) (sg_gd (inB_iv iw2 rfl) ?_))
      refine sg_bd (s_fM_done hF hG hS) fun v _ => ?_
      refine sg_gd (inB_iv iw rfl) (sg_ltS0 (hS.stN rfl rfl) fun T hT => ?_)
      exact rc _ T hT (by omega)
set_option maxRecDepth 100000 in
set_option maxHeartbeats 4000000 in
theorem s_fM_missedOf {F G : Nat} (hF : 100000 ≤ F) (hG : 20 ≤ G) {C : St} {S : St} (hS_S : Inv C S) {p1 : Int32} (h_p1 : iv p1 (0) (9)) : Sf2 (fM_missedOf F G S p1) (fun r S2 => iv r (0) (999) ∧ Inv C S2) := by
  unfold fM_missedOf
  refine sg_gd (inB_iv h_p1 rfl) (sg_gd (inB_iv (row_95 hS_S _) rfl) (sg_gd (by decide) ?_))
  refine sg_ltS0 (hS_S.stN rfl rfl) fun S4 h4 => ?_
  refine sg_gd (inB_iv (iv_add (l := 10) (u := 19) kv_10 h_p1 rfl) rfl) (sg_gd (by decide) ?_)
  refine sg_ltS0 (h4.stN rfl rfl) fun S8 h8 => ?_
  refine sg_gd (inB_iv (iv_add (l := 20) (u := 29) kv_20 h_p1 rfl) rfl) (sg_gd (by decide) ?_)
  refine sg_ltS0 (h8.stN rfl rfl) fun S12 h12 => ?_
  refine sg_gd (inB_iv (iv_add (l := 30) (u := 39) kv_30 h_p1 rfl) rfl) (sg_gd (by decide) ?_)
  refine sg_ltS0 (h12.stN rfl rfl) fun S16 h16 => ?_
  refine sg_bd (s_fM_doubles hF hG h16 h_p1) fun v19 h19 => ?_
  refine sg_bd (s_fM_members hF hG h16 (iv_w h19 rfl)) fun v21 _ => ?_
  refine sg_gd (by decide) (sg_ltS0 (h16.stN rfl rfl) fun S23 h23 => ?_)
  refine sg_gd (inB_iv h_p1 rfl) (sg_gd (by decide) (sg_ltS0 (h23.stN rfl rfl) fun S27 h27 => ?_))
  refine sg_ite (fun c => ?_) (fun c => ?_)
  · refine sg_gd (by decide) (sg_gd (by decide) (sg_gd (by decide) ?_))
    exact sg_bd (s_fM_within hF hG h27 kv_999) fun v92 hv => sg_some hv h27
  · have hB : iv (C.1 78 18) 0 320 := h27.1.1 78 18 _ _ rfl
    have b1 := hB.1
    have b2 := hB.2
    refine s_b_M_missedOf_128 hF hG (fun S hS => ?_) F 0 0 0 S27 h27 rfl rfl (by omega) (by omega)
    exact sg_gd (by decide) (sg_bd (s_fM_within hF hG hS kv_999) fun v hv => sg_some hv hS)
set_option maxRecDepth 100000 in
set_option maxHeartbeats 4000000 in
theorem s_fM_note {F G : Nat} (hF : 100000 ≤ F) (hG : 20 ≤ G) {C : St} {S : St} (hS_S : Inv C S) {p1 : Int32} {p2 : Int32} : Sf2 (fM_note F G S p1 p2) (fun r S2 => iv r (-2147483648) (2147483647) ∧ Inv C S2) := by
  unfold fM_note
  refine sg_bd (s_fM_isNote hF hG hS_S) (fun v2 h_v2 => ?_)
  obtain ⟨h_v2, k_v2⟩ := h_v2
  refine sg_ite (fun c1 => ?_) (fun c1 => ?_)
  · have f2 : iv _ (0) (0) := iv_eqA c1 kv_0
    exact sg_some (iv_top _) hS_S
  · have f3 : iv _ (0) (9) := k_v2 c1
    have f4 : iv _ (1) (1) := iv_neL c1 h_v2 kv_0 rfl
    refine sg_bd (s_fM_fill hF hG hS_S) (fun S5 hS_S5 => ?_)
    refine sg_ite (fun c5 => ?_) (fun c5 => ?_)
    · have f6 : iv _ (0) (0) := iv_eqA c5 kv_0
      refine sg_gd (inB_iv f3 rfl) ?_
      exact sg_some (iv_top _) hS_S5
    · refine sg_ite (fun c7 => ?_) (fun c7 => ?_)
      · have f8 : iv _ (1) (1) := iv_eqA c7 kv_1
        refine sg_gd (inB_iv f3 rfl) ?_
        exact sg_some (iv_top _) hS_S5
      · refine sg_ite (fun c9 => ?_) (fun c9 => ?_)
        · have f10 : iv _ (2) (2) := iv_eqA c9 kv_2
          refine sg_gd (inB_iv (iv_add (l := 10) (u := 19) kv_10 f3 rfl) rfl) ?_
          exact sg_some (iv_top _) hS_S5
        · refine sg_ite (fun c11 => ?_) (fun c11 => ?_)
          · have f12 : iv _ (3) (3) := iv_eqA c11 kv_3
            refine sg_gd (inB_iv (iv_add (l := 20) (u := 29) kv_20 f3 rfl) rfl) ?_
            exact sg_some (iv_top _) hS_S5
          · refine sg_ite (fun c13 => ?_) (fun c13 => ?_)
            · have f14 : iv _ (4) (4) := iv_eqA c13 kv_4
              refine sg_gd (inB_iv (iv_add (l := 30) (u := 39) kv_30 f3 rfl) rfl) ?_
              exact sg_some (iv_top _) hS_S5
            · refine sg_ite (fun c15 => ?_) (fun c15 => ?_)
              · have f16 : iv _ (5) (5) := iv_eqA c15 kv_5
                refine sg_gd (inB_iv f3 rfl) ?_
                exact sg_some (iv_top _) hS_S5
              · refine sg_ite (fun c17 => ?_) (fun c17 => ?_)
                · have f18 : iv _ (6) (6) := iv_eqA c17 kv_6
                  refine sg_bd2 (s_fM_missedOf hF hG hS_S5 f3) (fun v20 S21 hq => ?_)
                  obtain ⟨h_v20, hS_S21⟩ := hq
                  exact sg_some (iv_top _) hS_S21
                · refine sg_ite (fun c19 => ?_) (fun c19 => ?_)
                  · have f20 : iv _ (7) (7) := iv_eqA c19 kv_7
                    refine sg_bd (s_fM_doubles hF hG hS_S5 f3) (fun v24 h_v24 => ?_)
                    exact sg_some (iv_top _) hS_S5
                  · exact sg_some (iv_top _) hS_S5
set_option maxRecDepth 100000 in
set_option maxHeartbeats 4000000 in
theorem s_b_S_notesOf_4 {F G : Nat} (hF : 100000 ≤ F) (hG : 20 ≤ G) {C : St} {S : St} (hS_S : Inv C S) {z0 : Nat} (h_z0 : z0 = C.2.2.1) {z1 : Int32} (h_z1 : iv z1 (0) (3))  : ∀ (f : Nat) (w2 : Int32) (w3 : Int32), iv w2 (0) (1023) → iv w3 (0) (10) → (10) - w3.toInt + 1 ≤ (f : Int) → Sf (fx2 (b_S_notesOf_4 F G S z0 z1)  f w2 w3) (fun r => iv r (0) (1023)) := by
  intro f
  induction f with
  | zero => intro w2 w3 h_w2 h_w3 hm; exact (ms_zu h_w3 hm).elim
  | succ f hrec =>
    intro w2 w3 h_w2 h_w3 hm
    replace hm := ms_s hm
    show Sf (b_S_notesOf_4 F G S z0 z1 (fx2 (b_S_notesOf_4 F G S z0 z1)  f) w2 w3) _
    generalize fx2 (b_S_notesOf_4 F G S z0 z1)  f = rec at hrec ⊢
    unfold b_S_notesOf_4
    refine sf_ite (fun c1 => ?_) (fun c1 => ?_)
    · exact sf_some h_w2
    · have f2 : iv _ (0) (9) := iv_ltA (Int32.not_le.mp c1) h_w3 (sco_6 hS_S h_z0) rfl
      have f3 : iv _ (1) (10) := iv_ltB (Int32.not_le.mp c1) h_w3 (sco_6 hS_S h_z0) rfl
      refine sf_gd (inB_iv f2 rfl) ?_
      refine sf_ite (fun c4 => ?_) (fun c4 => ?_)
      · have f5 : iv _ (0) (3) := iv_eqA c4 h_z1
        refine sf_ltI (iv_or (n := 10) (u := 1023) h_w2 (iv_shl (u := 512) f2 rfl) rfl) (fun v6 h_v6 e_v6 => ?_)
        refine sf_ltI (iv_add (l := 1) (u := 10) f2 kv_1 rfl) (fun v8 h_v8 e_v8 => ?_)
        exact hrec _ _ h_v6 (iv_w (l := 1) (u := 10) h_v8 rfl) (ms_up e_v8 f2 rfl hm)
      · refine sf_ltI (iv_add (l := 1) (u := 10) f2 kv_1 rfl) (fun v4 h_v4 e_v4 => ?_)
        exact hrec _ _ h_w2 (iv_w (l := 1) (u := 10) h_v4 rfl) (ms_up e_v4 f2 rfl hm)
set_option maxRecDepth 100000 in
set_option maxHeartbeats 4000000 in
theorem s_fS_notesOf {F G : Nat} (hF : 100000 ≤ F) (hG : 20 ≤ G) {C : St} {S : St} (hS_S : Inv C S) {o : Nat} (h_o : o = C.2.2.1) {p1 : Int32} (h_p1 : iv p1 (0) (3)) : Sf (fS_notesOf F G S o p1) (fun r => iv r (0) (1023)) := by
  unfold fS_notesOf
  refine sf_gd (sco hS_S h_o) ?_
  exact s_b_S_notesOf_4 hF hG hS_S h_o h_p1 F _ _ (iv_w (l := 0) (u := 0) kv_0 rfl) (iv_w (l := 0) (u := 0) kv_0 rfl) (ms_iu kv_0 hF rfl)
set_option maxRecDepth 100000 in
set_option maxHeartbeats 4000000 in
theorem s_b_L_setOf_4 {F G : Nat} (hF : 100000 ≤ F) (hG : 20 ≤ G) {C : St} {S : St} (hS_S : Inv C S) {z0 : Nat} (h_z0 : isLa z0 = true) {z1 : Int32} (h_z1 : iv z1 (1) (2))  : ∀ (f : Nat) (w2 : Int32) (w3 : Int32), iv w2 (0) (1023) → iv w3 (0) (10) → (10) - w3.toInt + 1 ≤ (f : Int) → Sf (fx2 (b_L_setOf_4 F G S z0 z1)  f w2 w3) (fun r => iv r (0) (1023)) := by
  intro f
  induction f with
  | zero => intro w2 w3 h_w2 h_w3 hm; exact (ms_zu h_w3 hm).elim
  | succ f hrec =>
    intro w2 w3 h_w2 h_w3 hm
    replace hm := ms_s hm
    show Sf (b_L_setOf_4 F G S z0 z1 (fx2 (b_L_setOf_4 F G S z0 z1)  f) w2 w3) _
    generalize fx2 (b_L_setOf_4 F G S z0 z1)  f = rec at hrec ⊢
    unfold b_L_setOf_4
    refine sf_ite (fun c1 => ?_) (fun c1 => ?_)
    · have f2 : iv _ (10) (10) := iv_leB c1 kv_10 h_w3 rfl
      exact sf_some h_w2
    · have f3 : iv _ (0) (9) := iv_ltA (Int32.not_le.mp c1) h_w3 kv_10 rfl
      refine sf_gd (inB_iv f3 rfl) ?_
      refine sf_ite (fun c4 => ?_) (fun c4 => ?_)
      · have f5 : iv _ (1) (2) := iv_eqA c4 h_z1
        refine sf_ltI (iv_or (n := 10) (u := 1023) h_w2 (iv_shl (u := 512) f3 rfl) rfl) (fun v6 h_v6 e_v6 => ?_)
        refine sf_ltI (iv_add (l := 1) (u := 10) f3 kv_1 rfl) (fun v8 h_v8 e_v8 => ?_)
        exact hrec _ _ h_v6 (iv_w (l := 1) (u := 10) h_v8 rfl) (ms_up e_v8 f3 rfl hm)
      · refine sf_ltI (iv_add (l := 1) (u := 10) f3 kv_1 rfl) (fun v4 h_v4 e_v4 => ?_)
        exact hrec _ _ h_w2 (iv_w (l := 1) (u := 10) h_v4 rfl) (ms_up e_v4 f3 rfl hm)
set_option maxRecDepth 100000 in
set_option maxHeartbeats 4000000 in
theorem s_fL_setOf {F G : Nat} (hF : 100000 ≤ F) (hG : 20 ≤ G) {C : St} {S : St} (hS_S : Inv C S) {o : Nat} (h_o : isLa o = true) {p1 : Int32} (h_p1 : iv p1 (1) (2)) : Sf (fL_setOf F G S o p1) (fun r => iv r (0) (1023)) := by
  unfold fL_setOf
  refine sf_gd h_o ?_
  exact s_b_L_setOf_4 hF hG hS_S h_o h_p1 F _ _ (iv_w (l := 0) (u := 0) kv_0 rfl) (iv_w (l := 0) (u := 0) kv_0 rfl) (ms_iu kv_0 hF rfl)
set_option maxRecDepth 100000 in
set_option maxHeartbeats 4000000 in
theorem s_fN_givenSet {F G : Nat} (hF : 100000 ≤ F) (hG : 20 ≤ G) {C : St} {S : St} (hS_S : Inv C S) : Sf (fN_givenSet F G S) (fun r => iv r (0) (1023)) := by
  unfold fN_givenSet
  refine sf_bd (s_fL_setOf hF hG hS_S rfl (iv_w (l := 1) (u := 1) kv_1 rfl)) (fun v2 h_v2 => ?_)
  refine sf_bd (s_fL_setOf hF hG hS_S rfl (iv_w (l := 2) (u := 2) kv_2 rfl)) (fun v4 h_v4 => ?_)
  exact sf_some (iv_or (n := 10) (u := 1023) h_v2 h_v4 rfl)
set_option maxRecDepth 100000 in
set_option maxHeartbeats 4000000 in
theorem s_fN_part {F G : Nat} (hF : 100000 ≤ F) (hG : 20 ≤ G) {C : St} {S : St} (hS_S : Inv C S) {p1 : Int32} {p2 : Int32} : Sf (fN_part F G S p1 p2) (fun r => iv r (-2147483648) (2147483647)) := by
  unfold fN_part
  refine sf_ite (fun c1 => ?_) (fun c1 => ?_)
  · have f2 : iv _ (-2147483648) (-1) := iv_ltA c1 (iv_top _) kv_0 rfl
    exact sf_some (iv_top _)
  · have f3 : iv _ (0) (2147483647) := iv_leB (Int32.not_lt.mp c1) kv_0 (iv_top _) rfl
    refine sf_gd (sco hS_S hS_S.told) ?_
    refine sf_ite (fun c4 => ?_) (fun c4 => ?_)
    · have f5 : iv _ (0) (3) := iv_ltA c4 f3 (sco_5 hS_S hS_S.told) rfl
      have f6 : iv _ (1) (4) := iv_ltB c4 f3 (sco_5 hS_S hS_S.told) rfl
      refine sf_ite (fun c7 => ?_) (fun c7 => ?_)
      · have f8 : iv _ (0) (0) := iv_eqA c7 kv_0
        refine sf_gd (inB_iv f5 rfl) ?_
        exact sf_some (iv_top _)
      · refine sf_ite (fun c9 => ?_) (fun c9 => ?_)
        · have f10 : iv _ (1) (1) := iv_eqA c9 kv_1
          refine sf_bd (s_fS_notesOf hF hG hS_S hS_S.told f5) (fun v8 h_v8 => ?_)
          exact sf_some (iv_top _)
        · refine sf_ite (fun c11 => ?_) (fun c11 => ?_)
          · have f12 : iv _ (2) (2) := iv_eqA c11 kv_2
            refine sf_bd (s_fS_notesOf hF hG hS_S hS_S.told f5) (fun v11 h_v11 => ?_)
            refine sf_bd (s_fN_givenSet hF hG hS_S) (fun v13 h_v13 => ?_)
            exact sf_some (iv_top _)
          · exact sf_some (iv_top _)
    · exact sf_some (iv_top _)
set_option maxRecDepth 100000 in
set_option maxHeartbeats 4000000 in
theorem s_j_M_notesOf_28 {F G : Nat} (hF : 100000 ≤ F) (hG : 20 ≤ G) {C : St} {S : St} (hS_S : Inv C S) {z1 : Int32} (h_z1 : iv z1 (0) (3)) {Su : St} {y3 : Int32} (h_y3 : iv y3 (0) (9)) {s0 : Int32} (h_s0 : iv s0 (0) (1023)) {s1 : Int32} (h_s1 : iv s1 (0) (1)) {rec : Int32 → Int32 → Option (Int32)} {M : Int} (hrec : ∀ (w2 : Int32) (w3 : Int32), iv w2 (0) (1023) → iv w3 (0) (10) → (10) - w3.toInt + 1 ≤ M → Sf (rec w2 w3) (fun r => iv r (0) (1023))) (hm : (10) - y3.toInt ≤ M) : Sf (j_M_notesOf_28 F G S z1 rec Su y3 s0 s1) (fun r => iv r (0) (1023)) := by
  unfold j_M_notesOf_28
  refine sf_bd (s_fM_truth hF hG hS_S h_s1) (fun v5 h_v5 => ?_)
  refine sf_ltI (iv_or (n := 10) (u := 1023) h_s0 (iv_shb (u := 512) h_v5 h_y3 rfl) rfl) (fun v6 h_v6 e_v6 => ?_)
  refine sf_ltI (iv_add (l := 1) (u := 10) h_y3 kv_1 rfl) (fun v8 h_v8 e_v8 => ?_)
  exact hrec _ _ h_v6 (iv_w (l := 1) (u := 10) h_v8 rfl) (ms_up e_v8 h_y3 rfl hm)
set_option maxRecDepth 100000 in
set_option maxHeartbeats 4000000 in
theorem s_b_M_notesOf_4 {F G : Nat} (hF : 100000 ≤ F) (hG : 20 ≤ G) {C : St} {S : St} (hS_S : Inv C S) {z1 : Int32} (h_z1 : iv z1 (0) (3))  : ∀ (f : Nat) (w2 : Int32) (w3 : Int32), iv w2 (0) (1023) → iv w3 (0) (10) → (10) - w3.toInt + 1 ≤ (f : Int) → Sf (fx2 (b_M_notesOf_4 F G S z1)  f w2 w3) (fun r => iv r (0) (1023)) := by
  intro f
  induction f with
  | zero => intro w2 w3 h_w2 h_w3 hm; exact (ms_zu h_w3 hm).elim
  | succ f hrec =>
    intro w2 w3 h_w2 h_w3 hm
    replace hm := ms_s hm
    show Sf (b_M_notesOf_4 F G S z1 (fx2 (b_M_notesOf_4 F G S z1)  f) w2 w3) _
    generalize fx2 (b_M_notesOf_4 F G S z1)  f = rec at hrec ⊢
    unfold b_M_notesOf_4
    refine sf_ite (fun c1 => ?_) (fun c1 => ?_)
    · exact sf_some h_w2
    · have f2 : iv _ (0) (9) := iv_ltA (Int32.not_le.mp c1) h_w3 (cell_78_48 hS_S) rfl
      have f3 : iv _ (1) (10) := iv_ltB (Int32.not_le.mp c1) h_w3 (cell_78_48 hS_S) rfl
      refine sf_gd (inB_iv f2 rfl) ?_
      refine sf_ite (fun c4 => ?_) (fun c4 => ?_)
      · exact s_j_M_notesOf_28 hF hG hS_S h_z1 f2 h_w2 (iv_w (l := 1) (u := 1) kv_1 rfl) hrec hm
      · exact s_j_M_notesOf_28 hF hG hS_S h_z1 f2 h_w2 (iv_w (l := 0) (u := 0) kv_0 rfl) hrec hm
set_option maxRecDepth 100000 in
set_option maxHeartbeats 4000000 in
theorem s_fM_notesOf {F G : Nat} (hF : 100000 ≤ F) (hG : 20 ≤ G) {C : St} {S : St} (hS_S : Inv C S) {p1 : Int32} (h_p1 : iv p1 (0) (3)) : Sf (fM_notesOf F G S p1) (fun r => iv r (0) (1023)) := by
  unfold fM_notesOf
  exact s_b_M_notesOf_4 hF hG hS_S h_p1 F _ _ (iv_w (l := 0) (u := 0) kv_0 rfl) (iv_w (l := 0) (u := 0) kv_0 rfl) (ms_iu kv_0 hF rfl)
set_option maxRecDepth 100000 in
set_option maxHeartbeats 4000000 in
theorem s_j_M_given_28 {F G : Nat} (hF : 100000 ≤ F) (hG : 20 ≤ G) {C : St} {S : St} (hS_S : Inv C S) {z1 : Int32} (h_z1 : iv z1 (0) (2)) {Su : St} {y3 : Int32} (h_y3 : iv y3 (0) (9)) {s0 : Int32} (h_s0 : iv s0 (0) (1023)) {s1 : Int32} (h_s1 : iv s1 (0) (1)) {rec : Int32 → Int32 → Option (Int32)} {M : Int} (hrec : ∀ (w2 : Int32) (w3 : Int32), iv w2 (0) (1023) → iv w3 (0) (10) → (10) - w3.toInt + 1 ≤ M → Sf (rec w2 w3) (fun r => iv r (0) (1023))) (hm : (10) - y3.toInt ≤ M) : Sf (j_M_given_28 F G S z1 rec Su y3 s0 s1) (fun r => iv r (0) (1023)) := by
  unfold j_M_given_28
  refine sf_bd (s_fM_truth hF hG hS_S h_s1) (fun v5 h_v5 => ?_)
  refine sf_ltI (iv_or (n := 10) (u := 1023) h_s0 (iv_shb (u := 512) h_v5 h_y3 rfl) rfl) (fun v6 h_v6 e_v6 => ?_)
  refine sf_ltI (iv_add (l := 1) (u := 10) h_y3 kv_1 rfl) (fun v8 h_v8 e_v8 => ?_)
  exact hrec _ _ h_v6 (iv_w (l := 1) (u := 10) h_v8 rfl) (ms_up e_v8 h_y3 rfl hm)
set_option maxRecDepth 100000 in
set_option maxHeartbeats 4000000 in
theorem s_b_M_given_4 {F G : Nat} (hF : 100000 ≤ F) (hG : 20 ≤ G) {C : St} {S : St} (hS_S : Inv C S) {z1 : Int32} (h_z1 : iv z1 (0) (2))  : ∀ (f : Nat) (w2 : Int32) (w3 : Int32), iv w2 (0) (1023) → iv w3 (0) (10) → (10) - w3.toInt + 1 ≤ (f : Int) → Sf (fx2 (b_M_given_4 F G S z1)  f w2 w3) (fun r => iv r (0) (1023)) := by
  intro f
  induction f with
  | zero => intro w2 w3 h_w2 h_w3 hm; exact (ms_zu h_w3 hm).elim
  | succ f hrec =>
    intro w2 w3 h_w2 h_w3 hm
    replace hm := ms_s hm
    show Sf (b_M_given_4 F G S z1 (fx2 (b_M_given_4 F G S z1)  f) w2 w3) _
    generalize fx2 (b_M_given_4 F G S z1)  f = rec at hrec ⊢
    unfold b_M_given_4
    refine sf_ite (fun c1 => ?_) (fun c1 => ?_)
    · exact sf_some h_w2
    · have f2 : iv _ (0) (9) := iv_ltA (Int32.not_le.mp c1) h_w3 (cell_78_48 hS_S) rfl
      have f3 : iv _ (1) (10) := iv_ltB (Int32.not_le.mp c1) h_w3 (cell_78_48 hS_S) rfl
      refine sf_gd (inB_iv f2 rfl) ?_
      refine sf_ite (fun c4 => ?_) (fun c4 => ?_)
      · have f5 : iv _ (0) (2) := iv_eqA c4 h_z1
        exact s_j_M_given_28 hF hG hS_S h_z1 f2 h_w2 (iv_w (l := 1) (u := 1) kv_1 rfl) hrec hm
      · exact s_j_M_given_28 hF hG hS_S h_z1 f2 h_w2 (iv_w (l := 0) (u := 0) kv_0 rfl) hrec hm
set_option maxRecDepth 100000 in
set_option maxHeartbeats 4000000 in
theorem s_fM_given {F G : Nat} (hF : 100000 ≤ F) (hG : 20 ≤ G) {C : St} {S : St} (hS_S : Inv C S) {p1 : Int32} (h_p1 : iv p1 (0) (2)) : Sf (fM_given F G S p1) (fun r => iv r (0) (1023)) := by
  unfold fM_given
  exact s_b_M_given_4 hF hG hS_S h_p1 F _ _ (iv_w (l := 0) (u := 0) kv_0 rfl) (iv_w (l := 0) (u := 0) kv_0 rfl) (ms_iu kv_0 hF rfl)
set_option maxRecDepth 100000 in
set_option maxHeartbeats 4000000 in
theorem s_fM_part {F G : Nat} (hF : 100000 ≤ F) (hG : 20 ≤ G) {C : St} {S : St} (hS_S : Inv C S) {p1 : Int32} {p2 : Int32} : Sf2 (fM_part F G S p1 p2) (fun r S2 => iv r (-2147483648) (2147483647) ∧ Inv C S2) := by
  unfold fM_part
  refine sg_bd (s_fM_isIn hF hG hS_S (iv_w (l := 0) (u := 0) kv_0 rfl) (iv_w (l := -1) (u := 3) (iv_sub (l := -1) (u := 3) (cell_78_47 hS_S) kv_1 rfl) rfl)) (fun v2 h_v2 => ?_)
  obtain ⟨h_v2, k_v2⟩ := h_v2
  refine sg_ite (fun c1 => ?_) (fun c1 => ?_)
  · have f2 : iv _ (0) (0) := iv_eqA c1 kv_0
    exact sg_some (iv_top _) hS_S
  · have f3 : iv _ (0) (3) := isIn_iv kv_0 (iv_sub (l := -1) (u := 3) (cell_78_47 hS_S) kv_1 rfl) k_v2 c1
    have f4 : iv _ (1) (1) := iv_neL c1 h_v2 kv_0 rfl
    refine sg_bd (s_fM_fill hF hG hS_S) (fun S5 hS_S5 => ?_)
    refine sg_ite (fun c5 => ?_) (fun c5 => ?_)
    · have f6 : iv _ (0) (0) := iv_eqA c5 kv_0
      refine sg_gd (inB_iv f3 rfl) ?_
      exact sg_some (iv_top _) hS_S5
    · refine sg_ite (fun c7 => ?_) (fun c7 => ?_)
      · have f8 : iv _ (1) (1) := iv_eqA c7 kv_1
        refine sg_bd (s_fM_notesOf hF hG hS_S5 f3) (fun v14 h_v14 => ?_)
        exact sg_some (iv_top _) hS_S5
      · refine sg_ite (fun c9 => ?_) (fun c9 => ?_)
        · have f10 : iv _ (2) (2) := iv_eqA c9 kv_2
          refine sg_bd (s_fM_notesOf hF hG hS_S5 f3) (fun v10 h_v10 => ?_)
          refine sg_bd (s_fM_given hF hG hS_S5 (iv_w (l := 0) (u := 0) kv_0 rfl)) (fun v12 h_v12 => ?_)
          exact sg_some (iv_top _) hS_S5
        · exact sg_some (iv_top _) hS_S5
set_option maxRecDepth 100000 in
set_option maxHeartbeats 4000000 in
theorem s_fN_isBeat {F G : Nat} (hF : 100000 ≤ F) (hG : 20 ≤ G) {C : St} {S : St} (hS_S : Inv C S) {p1 : Int32} : Sf (fN_isBeat F G S p1) (fun r => iv r 0 1 ∧ (¬ r = 0 → iv p1 (0) (11))) := by
  unfold fN_isBeat
  refine sf_ite (fun c1 => ?_) (fun c1 => ?_)
  · have f2 : iv _ (-2147483648) (-1) := iv_ltA c1 (iv_top _) kv_0 rfl
    exact sf_some ⟨iv_w (l := 0) (u := 0) kv_0 rfl, fun h => absurd rfl h⟩
  · have f3 : iv _ (0) (2147483647) := iv_leB (Int32.not_lt.mp c1) kv_0 (iv_top _) rfl
    refine sf_gd (sco hS_S hS_S.told) ?_
    refine sf_ite (fun c4 => ?_) (fun c4 => ?_)
    · have f5 : iv _ (1) (2147483647) := iv_leB c4 (sco_0 hS_S hS_S.told) f3 rfl
      exact sf_some ⟨iv_w (l := 0) (u := 0) kv_0 rfl, fun h => absurd rfl h⟩
    · have f6 : iv _ (0) (11) := iv_ltA (Int32.not_le.mp c4) f3 (sco_0 hS_S hS_S.told) rfl
      exact sf_some ⟨iv_w (l := 1) (u := 1) kv_1 rfl, fun _ => f6⟩
set_option maxRecDepth 100000 in
set_option maxHeartbeats 4000000 in
theorem s_fN_isHand {F G : Nat} (hF : 100000 ≤ F) (hG : 20 ≤ G) {C : St} {S : St} (hS_S : Inv C S) {p1 : Int32} : Sf (fN_isHand F G S p1) (fun r => iv r 0 1 ∧ (¬ r = 0 → iv p1 (1) (2))) := by
  unfold fN_isHand
  refine sf_ite (fun c1 => ?_) (fun c1 => ?_)
  · have f2 : iv _ (1) (1) := iv_eqA c1 kv_1
    exact sf_some ⟨iv_w (l := 1) (u := 1) kv_1 rfl, fun _ => (iv_w (l := 1) (u := 1) f2 rfl)⟩
  · refine sf_ite (fun c3 => ?_) (fun c3 => ?_)
    · have f4 : iv _ (2) (2) := iv_eqA c3 kv_2
      exact sf_some ⟨iv_w (l := 1) (u := 1) kv_1 rfl, fun _ => (iv_w (l := 2) (u := 2) f4 rfl)⟩
    · exact sf_some ⟨iv_w (l := 0) (u := 0) kv_0 rfl, fun h => absurd rfl h⟩
set_option maxRecDepth 100000 in
set_option maxHeartbeats 4000000 in
theorem s_fK_hasPedal {F G : Nat} (hF : 100000 ≤ F) (hG : 20 ≤ G) {C : St} {S : St} (hS_S : Inv C S) {p1 : Int32} (h_p1 : iv p1 (0) (11)) : Sf (fK_hasPedal F G S p1) (fun r => iv r (0) (1)) := by
  unfold fK_hasPedal
  refine sf_ite (fun c1 => ?_) (fun c1 => ?_)
  · have f2 : iv _ (0) (0) := iv_eqA c1 kv_0
    exact sf_some (iv_w (l := 0) (u := 0) kv_0 rfl)
  · have f3 : iv _ (1) (1) := iv_neL c1 (iv_andR (u := 1) kv_1 rfl) kv_0 rfl
    exact sf_some (iv_w (l := 1) (u := 1) kv_1 rfl)
set_option maxRecDepth 100000 in
set_option maxHeartbeats 4000000 in
theorem s_b_K_timelySince_5 {F G : Nat} (hF : 100000 ≤ F) (hG : 20 ≤ G) {C : St} {S : St} (hS_S : Inv C S) {z1 : Int32} (h_z1 : iv z1 (0) (11)) {z2 : Int32} (h_z2 : iv z2 (-1) (11))  : ∀ (f : Nat) (w3 : Int32) (w4 : Int32), iv w3 (0) (1023) → iv w4 (0) (10) → (10) - w4.toInt + 1 ≤ (f : Int) → Sf (fx2 (b_K_timelySince_5 F G S z1 z2)  f w3 w4) (fun r => iv r (0) (1023)) := by
  intro f
  induction f with
  | zero => intro w3 w4 h_w3 h_w4 hm; exact (ms_zu h_w4 hm).elim
  | succ f hrec =>
    intro w3 w4 h_w3 h_w4 hm
    replace hm := ms_s hm
    show Sf (b_K_timelySince_5 F G S z1 z2 (fx2 (b_K_timelySince_5 F G S z1 z2)  f) w3 w4) _
    generalize fx2 (b_K_timelySince_5 F G S z1 z2)  f = rec at hrec ⊢
    unfold b_K_timelySince_5
    refine sf_ite (fun c1 => ?_) (fun c1 => ?_)
    · exact sf_some h_w3
    · have f2 : iv _ (0) (9) := iv_ltA (Int32.not_le.mp c1) h_w4 (cell_57_1 hS_S) rfl
      have f3 : iv _ (1) (10) := iv_ltB (Int32.not_le.mp c1) h_w4 (cell_57_1 hS_S) rfl
      refine sf_gd (inB_iv f2 rfl) ?_
      refine sf_ltI (iv_top _) (fun v3 h_v3 e_v3 => ?_)
      refine sf_ite (fun c4 => ?_) (fun c4 => ?_)
      · have f5 : iv _ (-2147483648) (10) := iv_ltA c4 (iv_top _) h_z1 rfl
        refine sf_ltI (iv_add (l := 1) (u := 10) f2 kv_1 rfl) (fun v6 h_v6 e_v6 => ?_)
        exact hrec _ _ h_w3 (iv_w (l := 1) (u := 10) h_v6 rfl) (ms_up e_v6 f2 rfl hm)
      · have f6 : iv _ (0) (2147483647) := iv_leB (Int32.not_lt.mp c4) h_z1 (iv_top _) rfl
        refine sf_ite (fun c7 => ?_) (fun c7 => ?_)
        · refine sf_ltI (iv_add (l := 1) (u := 10) f2 kv_1 rfl) (fun v9 h_v9 e_v9 => ?_)
          exact hrec _ _ h_w3 (iv_w (l := 1) (u := 10) h_v9 rfl) (ms_up e_v9 f2 rfl hm)
        · have f8 : iv _ (0) (11) := iv_leA (Int32.not_lt.mp c7) f6 h_z2 rfl
          have f9 : iv _ (0) (11) := iv_leB (Int32.not_lt.mp c7) f6 h_z2 rfl
          refine sf_gd (inB_iv f2 rfl) ?_
          refine sf_ite (fun c10 => ?_) (fun c10 => ?_)
          · have f11 : iv _ (-2147483648) (11) := iv_leA c10 (iv_top _) f9 rfl
            refine sf_ltI (iv_add (l := 1) (u := 10) f2 kv_1 rfl) (fun v13 h_v13 e_v13 => ?_)
            exact hrec _ _ h_w3 (iv_w (l := 1) (u := 10) h_v13 rfl) (ms_up e_v13 f2 rfl hm)
          · have f12 : iv _ (1) (2147483647) := iv_ltB (Int32.not_le.mp c10) f9 (iv_top _) rfl
            refine sf_ltI (iv_or (n := 10) (u := 1023) h_w3 (iv_shl (u := 512) f2 rfl) rfl) (fun v15 h_v15 e_v15 => ?_)
            refine sf_ltI (iv_add (l := 1) (u := 10) f2 kv_1 rfl) (fun v17 h_v17 e_v17 => ?_)
            exact hrec _ _ h_v15 (iv_w (l := 1) (u := 10) h_v17 rfl) (ms_up e_v17 f2 rfl hm)
set_option maxRecDepth 100000 in
set_option maxHeartbeats 4000000 in
theorem s_fK_timelySince {F G : Nat} (hF : 100000 ≤ F) (hG : 20 ≤ G) {C : St} {S : St} (hS_S : Inv C S) {p1 : Int32} (h_p1 : iv p1 (0) (11)) {p2 : Int32} (h_p2 : iv p2 (-1) (11)) : Sf (fK_timelySince F G S p1 p2) (fun r => iv r (0) (1023)) := by
  unfold fK_timelySince
  exact s_b_K_timelySince_5 hF hG hS_S h_p1 h_p2 F _ _ (iv_w (l := 0) (u := 0) kv_0 rfl) (iv_w (l := 0) (u := 0) kv_0 rfl) (ms_iu kv_0 hF rfl)
set_option maxRecDepth 100000 in
set_option maxHeartbeats 4000000 in
theorem s_b_K_lay_68 {F G : Nat} (hF : 100000 ≤ F) (hG : 20 ≤ G) {C : St} {z1 : Nat} (h_z1 : z1 = C.2.2.1) {z2 : Nat} (h_z2 : isLa z2 = true) {k118 : St → Option (St)} (hk118 : ∀ (x0 : St), Inv C x0 → Sf (k118 x0) (fun r => Inv C r))  : ∀ (f : Nat) (w3 : Int32) (S : St), iv w3 (0) (10) → Inv C S → (10) - w3.toInt + 1 ≤ (f : Int) → Sf (fx2 (b_K_lay_68 F G z1 z2 k118)  f w3 S) (fun r => Inv C r) := by
  intro f
  induction f with
  | zero => intro w3 S h_w3 hS_S hm; exact (ms_zu h_w3 hm).elim
  | succ f hrec =>
    intro w3 S h_w3 hS_S hm
    replace hm := ms_s hm
    show Sf (b_K_lay_68 F G z1 z2 k118 (fx2 (b_K_lay_68 F G z1 z2 k118)  f) w3 S) _
    generalize fx2 (b_K_lay_68 F G z1 z2 k118)  f = rec at hrec ⊢
    unfold b_K_lay_68
    refine sf_ite (fun c1 => ?_) (fun c1 => ?_)
    · exact hk118 _ hS_S
    · have f2 : iv _ (0) (9) := iv_ltA (Int32.not_le.mp c1) h_w3 (cell_57_1 hS_S) rfl
      have f3 : iv _ (1) (10) := iv_ltB (Int32.not_le.mp c1) h_w3 (cell_57_1 hS_S) rfl
      refine sf_gd (inB_iv f2 rfl) ?_
      refine sf_gd (inB_iv f2 rfl) ?_
      refine sf_ltS (Q := fun T => iv (T.1 57 1) (1) (10) ∧ True) (str_58 hS_S _ (iv_top _)) ⟨f3, trivial⟩ (fun S24 hS_S24 hq => ?_)
      obtain ⟨f4, -⟩ := hq
      refine sf_gd (inB_iv f2 rfl) ?_
      refine sf_gd (inB_iv f2 rfl) ?_
      refine sf_ltS (Q := fun T => iv (T.1 57 1) (1) (10) ∧ True) (str_59 hS_S24 _ (iv_top _)) ⟨f4, trivial⟩ (fun S28 hS_S28 hq => ?_)
      obtain ⟨f5, -⟩ := hq
      refine sf_gd (inB_iv f2 rfl) ?_
      refine sf_gd (inB_iv f2 rfl) ?_
      refine sf_ltS (Q := fun T => iv (T.1 57 1) (1) (10) ∧ True) (str_60 hS_S28 _ (iv_top _)) ⟨f5, trivial⟩ (fun S32 hS_S32 hq => ?_)
      obtain ⟨f6, -⟩ := hq
      refine sf_ltI (iv_add (l := 1) (u := 10) f2 kv_1 rfl) (fun v34 h_v34 e_v34 => ?_)
      exact hrec _ _ (iv_w (l := 1) (u := 10) h_v34 rfl) hS_S32 (ms_up e_v34 f2 rfl hm)
set_option maxRecDepth 100000 in
set_option maxHeartbeats 4000000 in
theorem s_j_K_lay_147 {F G : Nat} (hF : 100000 ≤ F) (hG : 20 ≤ G) {C : St} {S : St} (hS_S : Inv C S) {y4 : Int32} (h_y4 : iv y4 (0) (11)) {s0 : Int32} (h_s0 : iv s0 (0) (11)) {rec : Int32 → Int32 → St → Option (St)} {M : Int} (hrec : ∀ (w3 : Int32) (w4 : Int32) (S : St), iv w3 (0) (11) → iv w4 (0) (12) → Inv C S → (12) - w4.toInt + 1 ≤ M → Sf (rec w3 w4 S) (fun r => Inv C r)) (hm : (12) - y4.toInt ≤ M) : Sf (j_K_lay_147 F G rec S y4 s0) (fun r => Inv C r) := by
  unfold j_K_lay_147
  refine sf_bd (s_fK_timelySince hF hG hS_S h_s0 (iv_w (l := 0) (u := 11) h_y4 rfl)) (fun v42 h_v42 => ?_)
  refine sf_gd (inB_iv h_y4 rfl) ?_
  refine sf_ltS0 (str_61 hS_S _ (iv_top _)) (fun S44 hS_S44 => ?_)
  refine sf_ltI (iv_add (l := 1) (u := 12) h_y4 kv_1 rfl) (fun v46 h_v46 e_v46 => ?_)
  exact hrec _ _ _ h_s0 (iv_w (l := 1) (u := 12) h_v46 rfl) hS_S44 (ms_up e_v46 h_y4 rfl hm)
set_option maxRecDepth 100000 in
set_option maxHeartbeats 4000000 in
theorem s_b_K_lay_123 {F G : Nat} (hF : 100000 ≤ F) (hG : 20 ≤ G) {C : St}   : ∀ (f : Nat) (w3 : Int32) (w4 : Int32) (S : St), iv w3 (0) (11) → iv w4 (0) (12) → Inv C S → (12) - w4.toInt + 1 ≤ (f : Int) → Sf (fx3 (b_K_lay_123 F G)  f w3 w4 S) (fun r => Inv C r) := by
  intro f
  induction f with
  | zero => intro w3 w4 S h_w3 h_w4 hS_S hm; exact (ms_zu h_w4 hm).elim
  | succ f hrec =>
    intro w3 w4 S h_w3 h_w4 hS_S hm
    replace hm := ms_s hm
    show Sf (b_K_lay_123 F G (fx3 (b_K_lay_123 F G)  f) w3 w4 S) _
    generalize fx3 (b_K_lay_123 F G)  f = rec at hrec ⊢
    unfold b_K_lay_123
    refine sf_ite (fun c1 => ?_) (fun c1 => ?_)
    · exact sf_some hS_S
    · have f2 : iv _ (0) (11) := iv_ltA (Int32.not_le.mp c1) h_w4 (cell_57_0 hS_S) rfl
      have f3 : iv _ (1) (12) := iv_ltB (Int32.not_le.mp c1) h_w4 (cell_57_0 hS_S) rfl
      refine sf_bd (s_fK_hasPedal hF hG hS_S f2) (fun v39 h_v39 => ?_)
      refine sf_ite (fun c4 => ?_) (fun c4 => ?_)
      · have f5 : iv _ (0) (0) := iv_eqA c4 kv_0
        exact s_j_K_lay_147 hF hG hS_S f2 h_w3 hrec hm
      · have f6 : iv _ (1) (1) := iv_neL c4 h_v39 kv_0 rfl
        exact s_j_K_lay_147 hF hG hS_S f2 f2 hrec hm
set_option maxRecDepth 100000 in
set_option maxHeartbeats 4000000 in
theorem s_fK_lay {F G : Nat} (hF : 100000 ≤ F) (hG : 20 ≤ G) {C : St} {S : St} (hS_S : Inv C S) {o2 : Nat} (h_o2 : o2 = C.2.2.1) {o3 : Nat} (h_o3 : isLa o3 = true) : Sf (fK_lay F G S o2 o3) (fun r => Inv C r) := by
  unfold fK_lay
  refine sf_gd (sco hS_S h_o2) ?_
  refine sf_gd h_o3 ?_
  refine sf_ltS (Q := fun T => iv (T.1 57 0) (1) (12) ∧ True) (st_57_0 hS_S (iv_w (l := 1) (u := 12) (sco_0 hS_S h_o2) rfl)) ⟨(nwc (sco_0 hS_S h_o2)), trivial⟩ (fun S1 hS_S1 hq => ?_)
  obtain ⟨f1, -⟩ := hq
  refine sf_ltS (Q := fun T => iv (T.1 57 0) (1) (12) ∧ True) (st_57_1 hS_S1 (sco_6 hS_S1 h_o2)) ⟨f1, trivial⟩ (fun S3 hS_S3 hq => ?_)
  obtain ⟨f2, -⟩ := hq
  refine sf_ltS (Q := fun T => iv (T.1 57 0) (1) (12) ∧ True) (st_57_2 hS_S3 (iv_top _)) ⟨f2, trivial⟩ (fun S5 hS_S5 hq => ?_)
  obtain ⟨f3, -⟩ := hq
  refine sf_ltS (Q := fun T => iv (T.1 57 0) (1) (12) ∧ True) (st_57_3 hS_S5 (iv_top _)) ⟨f3, trivial⟩ (fun S7 hS_S7 hq => ?_)
  obtain ⟨f4, -⟩ := hq
  refine sf_ltS (Q := fun T => iv (T.1 57 0) (1) (12) ∧ True) (st_57_4 hS_S7 (iv_top _)) ⟨f4, trivial⟩ (fun S9 hS_S9 hq => ?_)
  obtain ⟨f5, -⟩ := hq
  refine sf_bd (s_fL_setOf hF hG hS_S9 h_o3 (iv_w (l := 1) (u := 1) kv_1 rfl)) (fun v12 h_v12 => ?_)
  refine sf_ltS (Q := fun T => iv (T.1 57 0) (1) (12) ∧ iv (T.1 57 5) (0) (1023) ∧ True) (st_57_5 hS_S9 (iv_top _)) ⟨f5, (nwc h_v12), trivial⟩ (fun S13 hS_S13 hq => ?_)
  obtain ⟨f6, f7, -⟩ := hq
  refine sf_bd (s_fL_setOf hF hG hS_S13 h_o3 (iv_w (l := 2) (u := 2) kv_2 rfl)) (fun v16 h_v16 => ?_)
  refine sf_ltS (Q := fun T => iv (T.1 57 0) (1) (12) ∧ iv (T.1 57 5) (0) (1023) ∧ iv (T.1 57 6) (0) (1023) ∧ True) (st_57_6 hS_S13 (iv_top _)) ⟨f6, f7, (nwc h_v16), trivial⟩ (fun S17 hS_S17 hq => ?_)
  obtain ⟨f8, f9, f10, -⟩ := hq
  refine sf_ltS (Q := fun T => iv (T.1 57 0) (1) (12) ∧ iv (T.1 57 5) (0) (1023) ∧ iv (T.1 57 6) (0) (1023) ∧ True) (st_57_7 hS_S17 (iv_top _)) ⟨f8, f9, f10, trivial⟩ (fun S19 hS_S19 hq => ?_)
  obtain ⟨f11, f12, f13, -⟩ := hq
  refine s_b_K_lay_68 hF hG h_o2 h_o3 ?_ F _ _ (iv_w (l := 0) (u := 0) kv_0 rfl) hS_S19 (ms_iu kv_0 hF rfl)
  · intro S36 hS_S36
    exact s_b_K_lay_123 hF hG  F _ _ _ (iv_w (l := 0) (u := 0) kv_0 rfl) (iv_w (l := 0) (u := 0) kv_0 rfl) hS_S36 (ms_iu kv_0 hF rfl)
set_option maxRecDepth 100000 in
set_option maxHeartbeats 4000000 in
theorem s_fN_lookAtKeys {F G : Nat} (hF : 100000 ≤ F) (hG : 20 ≤ G) {C : St} {S : St} (hS_S : Inv C S) : Sf (fN_lookAtKeys F G S) (fun r => Inv C r) := by
  unfold fN_lookAtKeys
  refine sf_gd (sco hS_S hS_S.told) ?_
  refine sf_bd (s_fK_lay hF hG hS_S hS_S.told rfl) (fun S3 hS_S3 => ?_)
  exact sf_some hS_S3
set_option maxRecDepth 100000 in
set_option maxHeartbeats 4000000 in
theorem s_fK_setOf {F G : Nat} (hF : 100000 ≤ F) (hG : 20 ≤ G) {C : St} {S : St} (hS_S : Inv C S) {p1 : Int32} (h_p1 : iv p1 (1) (2)) : Sf (fK_setOf F G S p1) (fun r => iv r (-2147483648) (2147483647)) := by
  unfold fK_setOf
  refine sf_ite (fun c1 => ?_) (fun c1 => ?_)
  · have f2 : iv _ (1) (1) := iv_eqA c1 kv_1
    exact sf_some (iv_top _)
  · have f3 : iv _ (2) (2) := iv_neL c1 h_p1 kv_1 rfl
    exact sf_some (iv_top _)
set_option maxRecDepth 100000 in
set_option maxHeartbeats 4000000 in
theorem s_fK_timelyAt {F G : Nat} (hF : 100000 ≤ F) (hG : 20 ≤ G) {C : St} {S : St} (hS_S : Inv C S) {p1 : Int32} (h_p1 : iv p1 (-1) (11)) : Sf (fK_timelyAt F G S p1) (fun r => iv r (-2147483648) (2147483647)) := by
  unfold fK_timelyAt
  refine sf_ite (fun c1 => ?_) (fun c1 => ?_)
  · have f2 : iv _ (-1) (-1) := iv_ltA c1 h_p1 kv_0 rfl
    exact sf_some (iv_top _)
  · have f3 : iv _ (0) (11) := iv_leB (Int32.not_lt.mp c1) kv_0 h_p1 rfl
    refine sf_ite (fun c4 => ?_) (fun c4 => ?_)
    · have f5 : iv _ (0) (11) := iv_leA c4 (cell_57_0 hS_S) f3 rfl
      exact sf_some (iv_top _)
    · have f6 : iv _ (1) (12) := iv_ltB (Int32.not_le.mp c4) f3 (cell_57_0 hS_S) rfl
      refine sf_ite (fun c7 => ?_) (fun c7 => ?_)
      · exact (iv_le0 c7 kv_12 f3 rfl).elim
      · refine sf_gd (inB_iv f3 rfl) ?_
        exact sf_some (iv_top _)
set_option maxRecDepth 100000 in
set_option maxHeartbeats 4000000 in
theorem s_fK_heldBy {F G : Nat} (hF : 100000 ≤ F) (hG : 20 ≤ G) {C : St} {S : St} (hS_S : Inv C S) {p1 : Int32} (h_p1 : iv p1 (1) (2)) {p2 : Int32} (h_p2 : iv p2 (0) (11)) : Sf (fK_heldBy F G S p1 p2) (fun r => iv r (-2147483648) (2147483647)) := by
  unfold fK_heldBy
  refine sf_bd (s_fK_setOf hF hG hS_S h_p1) (fun v2 h_v2 => ?_)
  refine sf_bd (s_fK_timelyAt hF hG hS_S (iv_w (l := 0) (u := 11) h_p2 rfl)) (fun v4 h_v4 => ?_)
  exact sf_some (iv_top _)
set_option maxRecDepth 100000 in
set_option maxHeartbeats 4000000 in
theorem s_fN_held {F G : Nat} (hF : 100000 ≤ F) (hG : 20 ≤ G) {C : St} {S : St} (hS_S : Inv C S) {p1 : Int32} {p2 : Int32} : Sf2 (fN_held F G S p1 p2) (fun r S2 => iv r (-2147483648) (2147483647) ∧ Inv C S2) := by
  unfold fN_held
  refine sg_bd (s_fN_isBeat hF hG hS_S) (fun v2 h_v2 => ?_)
  obtain ⟨h_v2, k_v2⟩ := h_v2
  refine sg_ite (fun c1 => ?_) (fun c1 => ?_)
  · have f2 : iv _ (0) (0) := iv_eqA c1 kv_0
    exact sg_some (iv_top _) hS_S
  · have f3 : iv _ (0) (11) := k_v2 c1
    have f4 : iv _ (1) (1) := iv_neL c1 h_v2 kv_0 rfl
    refine sg_bd (s_fN_isHand hF hG hS_S) (fun v5 h_v5 => ?_)
    obtain ⟨h_v5, k_v5⟩ := h_v5
    refine sg_ite (fun c5 => ?_) (fun c5 => ?_)
    · have f6 : iv _ (0) (0) := iv_eqA c5 kv_0
      exact sg_some (iv_top _) hS_S
    · have f7 : iv _ (1) (2) := k_v5 c5
      have f8 : iv _ (1) (1) := iv_neL c5 h_v5 kv_0 rfl
      refine sg_bd (s_fN_lookAtKeys hF hG hS_S) (fun S8 hS_S8 => ?_)
      refine sg_bd (s_fK_heldBy hF hG hS_S8 f7 f3) (fun v10 h_v10 => ?_)
      exact sg_some (iv_top _) hS_S8
set_option maxRecDepth 100000 in
set_option maxHeartbeats 4000000 in
theorem s_fM_isBeat {F G : Nat} (hF : 100000 ≤ F) (hG : 20 ≤ G) {C : St} {S : St} (hS_S : Inv C S) {p1 : Int32} : Sf (fM_isBeat F G S p1) (fun r => iv r 0 1 ∧ (¬ r = 0 → iv p1 (0) (11))) := by
  unfold fM_isBeat
  refine sf_bd (s_fM_isIn hF hG hS_S (iv_w (l := 0) (u := 0) kv_0 rfl) (iv_w (l := 0) (u := 11) (iv_sub (l := 0) (u := 11) (cell_78_46 hS_S) kv_1 rfl) rfl)) (fun v2 h_v2 => ?_)
  obtain ⟨h_v2, k_v2⟩ := h_v2
  refine sf_gd (isB_iv h_v2 rfl) ?_
  exact sf_some ⟨h_v2, fun h => (isIn_iv kv_0 (iv_sub (l := 0) (u := 11) (cell_78_46 hS_S) kv_1 rfl) k_v2 h)⟩
set_option maxRecDepth 100000 in
set_option maxHeartbeats 4000000 in
theorem s_fM_isHand {F G : Nat} (hF : 100000 ≤ F) (hG : 20 ≤ G) {C : St} {S : St} (hS_S : Inv C S) {p1 : Int32} : Sf (fM_isHand F G S p1) (fun r => iv r 0 1 ∧ (¬ r = 0 → iv p1 (1) (2))) := by
  unfold fM_isHand
  refine sf_ite (fun c1 => ?_) (fun c1 => ?_)
  · have f2 : iv _ (1) (1) := iv_eqA c1 kv_1
    exact sf_some ⟨iv_w (l := 1) (u := 1) kv_1 rfl, fun _ => (iv_w (l := 1) (u := 1) f2 rfl)⟩
  · refine sf_ite (fun c3 => ?_) (fun c3 => ?_)
    · have f4 : iv _ (2) (2) := iv_eqA c3 kv_2
      exact sf_some ⟨iv_w (l := 1) (u := 1) kv_1 rfl, fun _ => (iv_w (l := 2) (u := 2) f4 rfl)⟩
    · exact sf_some ⟨iv_w (l := 0) (u := 0) kv_0 rfl, fun h => absurd rfl h⟩
