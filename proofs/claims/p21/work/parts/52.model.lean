/-! PURE: the reference's small functions by their values -/
theorem M_members {F G : Nat} (hF : 12 < F) (S : St) (x : Int32) : fM_members F G S x = some (nI (cnt (bt x) 12)) := by
  unfold fM_members
  rw [for_sum (N := 12) (k := some) (by decide) (fun i => if bt x i then 1 else 0) (fun rec a => by unfold b_M_members_4; rw [if_pos (by decide)])
    (fun rec a i hi => by
      unfold b_M_members_4
      rw [show (12 : Int32) = nI 12 from rfl, if_neg (nI_ge hi (by decide)), bt_shr x (by omega), lt_eq, lt_eq, nI_1]) hF, sumI_cnt]
theorem M_given {F G : Nat} {S : St} {n : Nat} (hn : S.1 78 48 = nI n) (hn2 : n ≤ 10) (hF : 10 < F) (h : Int32) : fM_given F G S h = some (mset (fun i => decide (S.1 101 i = h)) n) := by
  unfold fM_given
  refine for_or (N := n) (k := some) (by omega) (fun i => decide (S.1 101 i = h)) (fun rec a => by unfold b_M_given_4; rw [hn, if_pos (nI_le (Nat.le_refl n) (by omega))])
    (fun rec a i hi => ?_) (by omega)
  unfold b_M_given_4 j_M_given_28
  rw [hn, if_neg (nI_ge hi (by omega)), gd_t (inB_nI (by omega) (by decide)), nI_clamp (by omega), ← or_truth (c := S.1 101 i = h) (by omega)]
  by_cases hc : S.1 101 i = h
  · simp [hc, bd, lt, fM_truth, nI_1]
  · simp [hc, bd, lt, fM_truth, nI_1]
theorem M_notesOf {F G : Nat} {S : St} {n : Nat} (hn : S.1 78 48 = nI n) (hn2 : n ≤ 10) (hF : 10 < F) (h : Int32) : fM_notesOf F G S h = some (mset (fun i => decide (S.1 95 i = h)) n) := by
  unfold fM_notesOf
  refine for_or (N := n) (k := some) (by omega) (fun i => decide (S.1 95 i = h)) (fun rec a => by unfold b_M_notesOf_4; rw [hn, if_pos (nI_le (Nat.le_refl n) (by omega))])
    (fun rec a i hi => ?_) (by omega)
  unfold b_M_notesOf_4 j_M_notesOf_28
  rw [hn, if_neg (nI_ge hi (by omega)), gd_t (inB_nI (by omega) (by decide)), nI_clamp (by omega), ← or_truth (c := S.1 95 i = h) (by omega)]
  by_cases hc : S.1 95 i = h
  · simp [hc, bd, lt, fM_truth, nI_1]
  · simp [hc, bd, lt, fM_truth, nI_1]
theorem M_rowOf {F G : Nat} {S : St} {n : Nat} (hn : S.1 78 48 = nI n) (hn2 : n ≤ 10) (hF : 10 < F) (h : Int32) : fM_rowOf F G S h = some (mset (fun i => decide (S.1 106 i = h)) n) := by
  unfold fM_rowOf
  refine for_or (N := n) (k := some) (by omega) (fun i => decide (S.1 106 i = h)) (fun rec a => by unfold b_M_rowOf_4; rw [hn, if_pos (nI_le (Nat.le_refl n) (by omega))])
    (fun rec a i hi => ?_) (by omega)
  unfold b_M_rowOf_4 j_M_rowOf_28
  rw [hn, if_neg (nI_ge hi (by omega)), gd_t (inB_nI (by omega) (by decide)), nI_clamp (by omega), ← or_truth (c := S.1 106 i = h) (by omega)]
  by_cases hc : S.1 106 i = h
  · simp [hc, bd, lt, fM_truth, nI_1]
  · simp [hc, bd, lt, fM_truth, nI_1]
theorem bit_1 (x : Int32) {j : Nat} (hj : j < 32) : ((x >>> (nI j &&& 31)) &&& 1 = 1) ↔ bt x j = true := by
  rw [bt_shr x hj]
  cases bt x j <;> simp
theorem bit_0 (x : Int32) {j : Nat} (hj : j < 32) : ((x >>> (nI j &&& 31)) &&& 1 = 0) ↔ bt x j = false := by
  rw [bt_shr x hj]
  cases bt x j <;> simp
theorem ten_add (a i : Nat) : nI a + nI i = nI (a + i) := nI_add a i
theorem M_lowest {F G : Nat} {S : St} {n : Nat} (hn : S.1 78 48 = nI n) (hn2 : n ≤ 10) (hF : 10 < F) (x : Int32) : fM_lowest F G S x = some (lowF (fun i => S.1 101 (10 + i)) (bt x) 1000000 n) := by
  unfold fM_lowest
  refine for_acc (N := n) (k := some) (by omega) (lowF (fun i => S.1 101 (10 + i)) (bt x) 1000000) (fun i a => if bt x i = true ∧ S.1 101 (10 + i) < a then S.1 101 (10 + i) else a) (fun i _ => rfl) (fun rec a => by unfold b_M_lowest_6; rw [hn, if_pos (nI_le (Nat.le_refl n) (by omega))])
    (fun rec a i hi => ?_) (by omega)
  unfold b_M_lowest_6
  rw [hn, if_neg (nI_ge hi (by omega)), show (10 : Int32) = nI 10 from rfl, ten_add, gd_t (inB_nI (by omega) (by decide)), gd_t (inB_nI (by omega) (by decide)), nI_clamp (by omega), nI_1]
  simp only [lt_eq]
  by_cases hb : bt x i = true
  · rw [if_pos ((bit_1 x (by omega)).mpr hb)]
    by_cases hc : a ≤ S.1 101 (10 + i)
    · rw [if_pos hc, if_neg (fun z => Int32.not_lt.mpr hc z.2)]
    · rw [if_neg hc, if_pos ⟨hb, Int32.not_le.mp hc⟩]
  · rw [if_neg (fun z => hb ((bit_1 x (by omega)).mp z)), if_neg (fun z => hb z.1)]
theorem M_highest {F G : Nat} {S : St} {n : Nat} (hn : S.1 78 48 = nI n) (hn2 : n ≤ 10) (hF : 10 < F) (x : Int32) : fM_highest F G S x = some (highF (fun i => S.1 101 (10 + i)) (bt x) (-1) n) := by
  unfold fM_highest
  refine for_acc (N := n) (k := some) (by omega) (highF (fun i => S.1 101 (10 + i)) (bt x) (-1)) (fun i a => if bt x i = true ∧ a < S.1 101 (10 + i) then S.1 101 (10 + i) else a) (fun i _ => rfl) (fun rec a => by unfold b_M_highest_4; rw [hn, if_pos (nI_le (Nat.le_refl n) (by omega))])
    (fun rec a i hi => ?_) (by omega)
  unfold b_M_highest_4
  rw [hn, if_neg (nI_ge hi (by omega)), show (10 : Int32) = nI 10 from rfl, ten_add, gd_t (inB_nI (by omega) (by decide)), gd_t (inB_nI (by omega) (by decide)), nI_clamp (by omega), nI_1]
  simp only [lt_eq]
  by_cases hb : bt x i = true
  · rw [if_pos ((bit_1 x (by omega)).mpr hb)]
    by_cases hc : S.1 101 (10 + i) ≤ a
    · rw [if_pos hc, if_neg (fun z => Int32.not_lt.mpr hc z.2)]
    · rw [if_neg hc, if_pos ⟨hb, Int32.not_le.mp hc⟩]
  · rw [if_neg (fun z => hb ((bit_1 x (by omega)).mp z)), if_neg (fun z => hb z.1)]
