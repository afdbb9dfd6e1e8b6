/-! MORE ANSWERS: part, differ, sounds, forbids, could, easier -/
theorem bt_m1 {i : Nat} (h : i < 32) : bt (-1) i = true := (by decide +kernel : ∀ i, i < 32 → bt (-1) i = true) i h
theorem bt_not (x : Int32) {i : Nat} (h : i < 32) : bt (x ^^^ (-1)) i = !bt x i := by rw [bt_xor, bt_m1 h]; cases bt x i <;> rfl
def orI (f : Nat → Int32) : Nat → Int32
  | 0 => 0
  | n + 1 => orI f n ||| f n
theorem orI_c {f g : Nat → Int32} : ∀ {n : Nat}, (∀ i, i < n → f i = g i) → orI f n = orI g n
  | 0, _ => rfl
  | n + 1, h => by rw [orI, orI, orI_c (fun i hi => h i (by omega)), h n (by omega)]
section M1
variable {F G : Nat} {S : St}
theorem S_notesOf (hF : 100000 ≤ F) {o n : Nat} (ho : isSc o = true) (h6 : S.1 o 6 = nI n) (hn : n ≤ 10) (h : Int32) : fS_notesOf F G S o h = some (mset (fun i => decide (S.1 (o + 4) i = h)) n) := by
  unfold fS_notesOf
  rw [gd_t ho]
  refine for_or (N := n) (k := some) (by omega) (fun i => decide (S.1 (o + 4) i = h)) (fun rec a => by unfold b_S_notesOf_4; rw [h6, if_pos (nI_le (Nat.le_refl n) (by omega))]) (fun rec a i hi => ?_) (by omega)
  unfold b_S_notesOf_4
  rw [h6, if_neg (nI_ge hi (by omega)), gd_t (inB_nI (by omega) (by decide)), nI_clamp (by omega)]
  by_cases hc : S.1 (o + 4) i = h
  · rw [if_pos hc, lt_eq, lt_eq, nI_1, decide_eq_true hc, if_pos rfl]
  · rw [if_neg hc, lt_eq, nI_1, decide_eq_false hc, if_neg (show ¬ false = true by decide), Int32.or_zero]
theorem part_ok (hF : 100000 ≤ F) (hG : 20 ≤ G) (h : J2 S) (p q : Int32) : ∃ v S2, fN_part F G S p q = some v ∧ fM_part F G S p q = some (v, S2) ∧ J2 S2 := by
  obtain ⟨nn, bs, nb⟩ := h.nb
  obtain ⟨n1, b0, b2, n48, b46, d6, d0, dr, xl⟩ := id nb
  obtain ⟨-, -, dd⟩ := h.2.1.n n48 n1
  obtain ⟨np, n', m, np4, -, -, e5, e47, -, -, -, -, -, -, -, ro, -⟩ := id h.2.1
  have sc := h.1.1.2.1.1
  by_cases c1 : p < 0
  · refine ⟨-1, S, ?_, ?_, h⟩
    · unfold fN_part; rw [if_pos c1]
    · unfold fM_part fM_isIn; rw [if_pos c1, bd_some, if_pos rfl]
  have e1 : (nI np - 1).toInt = (np : Int) - 1 := by
    rw [Int32.toInt_sub, nI_toInt (by omega), show (1 : Int32).toInt = 1 from rfl, i32b (by omega) (by omega)]
  by_cases c2 : p < nI np
  · have c2' : ¬ nI np - 1 < p := by
      rw [Int32.lt_iff_toInt_lt, nI_toInt (by omega)] at c2
      rw [Int32.lt_iff_toInt_lt, e1]; omega
    obtain ⟨i, rfl, hi⟩ : ∃ i, p = nI i ∧ i < np := by
      have c' := Int32.not_lt.mp c1
      rw [Int32.le_iff_toInt_le] at c'
      rw [Int32.lt_iff_toInt_lt, nI_toInt (by omega)] at c2
      obtain ⟨i, q1, q2⟩ := iv_nat (x := p) (u := 4) ⟨c', by omega⟩
      rw [q1, nI_toInt (by omega)] at c2
      exact ⟨i, q1, by omega⟩
    obtain ⟨U, u1, u2, u3⟩ := fill_I (F := F) (G := G) hF hG nb (Inv.rf h.1.1)
    have g4 : inB (nI i) 4 = true := inB_nI (by omega) (by decide)
    have nN := S_notesOf (F := F) (G := G) hF sc d6 n1 (nI i)
    have nE : mset (fun j => decide (S.1 (S.2.2.1 + 4) j = nI i)) nn = mset (fun j => decide (U.1 95 j = nI i)) nn := mset_cong fun j hj => by rw [(dd j hj).1, u3.2.2.2 95 j rfl]
    have nM : fM_notesOf F G U (nI i) = some (mset (fun j => decide (S.1 (S.2.2.1 + 4) j = nI i)) nn) := by rw [M_notesOf u2.2.2.1 n1 (by omega), nE]
    have hM : ∀ x, (if q = 0 then gd (inB (nI i) 4) (some (U.1 94 (nI i).toNatClampNeg, U)) else if q = (1 : Int32) then bd (fM_notesOf F G U (nI i)) fun v14 => some (v14, U) else if q = (2 : Int32) then bd (fM_notesOf F G U (nI i)) fun v10 => bd (fM_given F G U (0 : Int32)) fun v12 => some (v10 &&& (v12 ^^^ (-1 : Int32)), U) else some ((-1 : Int32), U)) = some (x, U) → fM_part F G S (nI i) q = some (x, U) := fun x hx => by
      unfold fM_part fM_isIn
      rw [if_neg c1, e47, if_neg c2', bd_some, if_neg (by decide), u1, bd_some]; exact hx
    have hN : ∀ x, (if q = 0 then gd (inB (nI i) 4) (some (S.1 (S.2.2.1 + 2) (nI i).toNatClampNeg)) else if q = 1 then bd (fS_notesOf F G S S.2.2.1 (nI i)) fun v8 => some v8 else if q = 2 then bd (fS_notesOf F G S S.2.2.1 (nI i)) fun v11 => bd (fN_givenSet F G S) fun v13 => some (v11 &&& v13) else some (-1 : Int32)) = some x → fN_part F G S (nI i) q = some x := fun x hx => by
      unfold fN_part
      rw [if_neg c1, gd_t sc, e5, if_pos c2]; exact hx
    by_cases q0 : q = 0
    · refine ⟨S.1 (S.2.2.1 + 2) i, U, hN _ ?_, hM _ ?_, h.q u3⟩
      · rw [if_pos q0, gd_t g4, nI_clamp (by omega)]
      · rw [if_pos q0, gd_t g4, nI_clamp (by omega), u3.2.2.2 94 i rfl, (ro i hi).1]
    by_cases q1 : q = 1
    · refine ⟨mset (fun j => decide (S.1 (S.2.2.1 + 4) j = nI i)) nn, U, hN _ ?_, hM _ ?_, h.q u3⟩
      · rw [if_neg q0, if_pos q1, nN, bd_some]
      · rw [if_neg q0, if_pos q1, nM, bd_some]
    by_cases q2 : q = 2
    · refine ⟨mset (fun j => decide (S.1 (S.2.2.1 + 4) j = nI i)) nn &&& mset (gvn S) 10, U, hN _ ?_, hM _ ?_, h.q u3⟩
      · rw [if_neg q0, if_neg q1, if_pos q2, nN, bd_some, N_givenSet hF, bd_some]
      · rw [if_neg q0, if_neg q1, if_pos q2, nM, bd_some, u2.given hF, bd_some]
        congr 2
        apply bt_ext
        intro j hj
        rw [bt_and, bt_and, bt_not _ hj]
        unfold giv
        rw [bt_mset _ (by omega) hj, bt_mset _ (by omega) hj, bt_mset _ (by omega) hj]
        by_cases z : j < nn
        · have c := xl.2.1 j (by omega) (by omega)
          rw [lo_0 (by omega)] at c
          have v := ((xl.1 j (by omega)).1 (by omega)).1 (by omega)
          unfold gvn
          rw [show S.1 31 j = S.1 100 j from c, gv_eq v, decide_eq_true z, decide_eq_true (show j < 10 by omega)]
          obtain ⟨y, y1, y2⟩ := iv_nat (u := 2) v
          rw [y1]
          rcases (by omega : y = 0 ∨ y = 1 ∨ y = 2) with rfl | rfl | rfl <;> rfl
        · rw [decide_eq_false z]; rfl
    · refine ⟨-1, U, hN _ ?_, hM _ ?_, h.q u3⟩
      · rw [if_neg q0, if_neg q1, if_neg q2]
      · rw [if_neg q0, if_neg q1, if_neg q2]
  · refine ⟨-1, S, ?_, ?_, h⟩
    · unfold fN_part; rw [if_neg c1, gd_t sc, e5, if_neg c2]
    · unfold fM_part fM_isIn
      have c2' : nI np - 1 < p := by
        rw [Int32.lt_iff_toInt_lt, nI_toInt (by omega)] at c2
        rw [Int32.lt_iff_toInt_lt, e1]; omega
      rw [if_neg c1, e47, if_pos c2', bd_some, if_pos rfl]
/-! differ -/
def dfM (d : Nat → Bool) : Nat → Int32
  | 0 => 0
  | k + 1 => dfM d k ||| (if d k then 1 <<< (nI (k % 10) &&& 31) else 0)
theorem bt_dfM {d : Nat → Bool} {i : Nat} (hi : i < 32) : ∀ n, bt (dfM d n) i = true ↔ ∃ k, k < n ∧ k % 10 = i ∧ d k = true
  | 0 => by rw [dfM, bt_0]; exact ⟨fun z => absurd z (by decide), fun ⟨k, hk, _⟩ => by omega⟩
  | n + 1 => by
    rw [dfM, bt_or]
    have ih := bt_dfM (d := d) hi n
    cases hd : d n
    · rw [if_neg (show ¬ false = true by decide), bt_0, Bool.or_false, ih]
      refine ⟨fun ⟨k, k1, k2, k3⟩ => ⟨k, by omega, k2, k3⟩, fun ⟨k, k1, k2, k3⟩ => ⟨k, ?_, k2, k3⟩⟩
      by_cases z : k = n
      · rw [z, hd] at k3; exact absurd k3 (by decide)
      · omega
    · rw [if_pos rfl, bt_one (by omega) hi, Bool.or_eq_true, ih, decide_eq_true_eq]
      refine ⟨fun z => ?_, fun ⟨k, k1, k2, k3⟩ => ?_⟩
      · rcases z with ⟨k, k1, k2, k3⟩ | z
        · exact ⟨k, by omega, k2, k3⟩
        · exact ⟨n, by omega, z.symm, hd⟩
      · by_cases z : k = n
        · exact Or.inr (by rw [← k2, z])
        · exact Or.inl ⟨k, by omega, k2, k3⟩
theorem mod10 {k : Nat} (h : k < 40) : nI k - nI k / 10 * 10 = nI (k % 10) := (by decide +kernel : ∀ k, k < 40 → nI k - nI k / 10 * 10 = nI (k % 10)) k h
theorem differ_ok (hF : 100000 ≤ F) (h : J2 S) (p : Int32) : ∃ v, fN_differ F G S p = some v ∧ fM_differ F G S p = some v := by
  obtain ⟨hJ, h3, nn, n1, n48, xl, xa, xb, xw⟩ := id h
  obtain ⟨d6, -, -⟩ := h3.n n48 n1
  by_cases c1 : p < 0
  · refine ⟨-1, ?_, ?_⟩
    · unfold fN_differ fN_isKept; rw [if_pos c1, bd_some, if_pos rfl]
    · unfold fM_differ fM_isBox; rw [if_pos c1, bd_some, if_pos rfl]
  by_cases c2 : p < 3
  · obtain ⟨b, rfl, hb⟩ : ∃ b, p = nI b ∧ b < 3 := by
      obtain ⟨b, e, hb⟩ := iv_nat (u := 2) (iv_02 c1 c2)
      exact ⟨b, e, by omega⟩
    have g3 : inB (nI b) 3 = true := inB_nI hb (by decide)
    have c2' : ¬ Int32.ofNat 3 ≤ nI b := Int32.not_le.mpr c2
    obtain ⟨o1, o2, o3⟩ := xb b hb
    by_cases c3 : S.1 115 b = 0
    · refine ⟨-1, ?_, ?_⟩
      · unfold fN_differ fN_isKept; rw [if_neg c1, if_neg c2', gd_t g3, nI_clamp (by omega), if_pos (o1.trans c3), bd_some, if_pos rfl]
      · unfold fM_differ fM_isBox; rw [if_neg c1, if_neg (Int32.not_le.mpr c2), bd_some, if_neg (by decide), gd_t g3, nI_clamp (by omega), if_pos c3]
    obtain ⟨v1, v2⟩ := o3 c3
    have la : isLa (36 + 5 * b) = true := by rcases (by omega : b = 0 ∨ b = 1 ∨ b = 2) with rfl | rfl | rfl <;> rfl
    have hN : fN_differ F G S (nI b) = some (mset (fun i => !(decide (S.1 31 i = S.1 (36 + 5 * b + 1) i) && (decide (S.1 32 i = S.1 (36 + 5 * b + 2) i) && (decide (S.1 33 i = S.1 (36 + 5 * b + 3) i) && decide (S.1 34 i = S.1 (36 + 5 * b + 4) i))))) nn) := by
      unfold fN_differ fN_isKept
      rw [if_neg c1, if_neg c2', gd_t g3, nI_clamp (by omega), if_neg (fun z => c3 (o1.symm.trans z)), bd_some, if_neg (by decide)]
      refine for_or (N := nn) (k := some) (by omega) _ (fun rec a => by unfold b_N_differ_14; rw [gd_t hJ.1.2.1.1, d6, if_pos (nI_le (Nat.le_refl nn) (by omega))]) (fun rec a i hi => ?_) (by omega)
      have g : inB (nI i) 10 = true := inB_nI (by omega) (by decide)
      unfold b_N_differ_14 fL_differsAt
      rw [gd_t hJ.1.2.1.1, d6, if_neg (nI_ge hi (by omega)), gd_t g3, nI_clamp (n := b) (by omega), gd_t (show isLa 30 = true from rfl), gd_t la]
      simp only [gd_t g, nI_clamp (show i < 2 ^ 31 by omega), lt_eq, nI_1, show 30 + 1 = 31 from rfl, show 30 + 2 = 32 from rfl, show 30 + 3 = 33 from rfl, show 30 + 4 = 34 from rfl]
      by_cases e1 : S.1 31 i = S.1 (36 + 5 * b + 1) i
      · by_cases e2 : S.1 32 i = S.1 (36 + 5 * b + 2) i
        · by_cases e3 : S.1 33 i = S.1 (36 + 5 * b + 3) i
          · by_cases e4 : S.1 34 i = S.1 (36 + 5 * b + 4) i
            · simp [e1, e2, e3, e4, bd]
            · simp [e1, e2, e3, e4, bd]
          · simp [e1, e2, e3, bd]
        · simp [e1, e2, bd]
      · simp [e1, bd]
    have hM : fM_differ F G S (nI b) = some (dfM (fun k => !decide (S.1 116 (41 * b + k) = S.1 100 k)) 40) := by
      unfold fM_differ fM_isBox
      rw [if_neg c1, if_neg (Int32.not_le.mpr c2), bd_some, if_neg (by decide), gd_t g3, nI_clamp (by omega), if_neg c3]
      refine for_acc (N := 40) (k := some) (by omega) (dfM (fun k => !decide (S.1 116 (41 * b + k) = S.1 100 k))) (fun k a => a ||| (if (!decide (S.1 116 (41 * b + k) = S.1 100 k)) = true then 1 <<< (nI (k % 10) &&& 31) else 0)) (fun i _ => rfl) (fun rec a => by unfold b_M_differ_22; rw [if_pos (by decide)]) (fun rec a k hk => ?_) (by omega)
      unfold b_M_differ_22
      rw [if_neg (show ¬ (40 : Int32) ≤ nI k from nI_ge (b := 40) hk (by decide)), show (41 : Int32) * nI b + nI k = nI (41 * b + k) by rw [show (41 : Int32) = nI 41 from rfl, nI_mulN, nI_add], gd_t (inB_nI (by omega) (by decide)), gd_t (inB_nI (by omega) (by decide)), nI_clamp (by omega), nI_clamp (by omega), mod10 hk, nI_1]
      simp only [lt_eq]
      by_cases e : S.1 116 (41 * b + k) = S.1 100 k
      · rw [if_pos e, decide_eq_true e, if_neg (by decide), Int32.or_zero]
      · rw [if_neg e, decide_eq_false e, if_pos (by decide)]
    refine ⟨_, hN, ?_⟩
    rw [hM]
    congr 1
    apply bt_ext
    intro i hi
    rw [Bool.eq_iff_iff, bt_dfM hi 40, bt_mset _ (by omega) hi, Bool.and_eq_true, decide_eq_true_eq]
    have cell : ∀ k, k < 40 → k % 10 < nn → lo S 30 k = S.1 100 k ∧ lo S (36 + 5 * b) k = S.1 116 (41 * b + k) := fun k k1 k2 => ⟨xl.2.1 k k1 k2, v2.1 k k1 k2⟩
    refine ⟨fun ⟨k, k1, k2, k3⟩ => ?_, fun ⟨i1, i2⟩ => ?_⟩
    · have k3 : ¬ S.1 116 (41 * b + k) = S.1 100 k := by simpa using k3
      have inn : i < nn := by
        apply Classical.byContradiction
        intro z
        have z1 := (xl.1 k k1).2 (by omega)
        have z2 := (v1 k k1).2 (by omega)
        exact k3 (z2.trans z1.symm)
      refine ⟨inn, ?_⟩
      obtain ⟨q1, q2⟩ := cell k k1 (by omega)
      rw [← q1, ← q2] at k3
      have i10 : i < 10 := by omega
      rcases (by omega : k = i ∨ k = 10 + i ∨ k = 20 + i ∨ k = 30 + i) with e | e | e | e
      · rw [e, lo_0 i10, lo_0 i10] at k3
        have : ¬ S.1 31 i = S.1 (36 + 5 * b + 1) i := fun z => k3 z.symm
        simp [this]
      · rw [e, lo_1 i10, lo_1 i10] at k3
        have : ¬ S.1 32 i = S.1 (36 + 5 * b + 2) i := fun z => k3 z.symm
        simp [this]
      · rw [e, lo_2 i10, lo_2 i10] at k3
        have : ¬ S.1 33 i = S.1 (36 + 5 * b + 3) i := fun z => k3 z.symm
        simp [this]
      · rw [e, lo_3 i10, lo_3 i10] at k3
        have : ¬ S.1 34 i = S.1 (36 + 5 * b + 4) i := fun z => k3 z.symm
        simp [this]
    · have i10 : i < 10 := by omega
      have c0 := cell i (by omega) (by omega)
      have ca := cell (10 + i) (by omega) (by omega)
      have cb := cell (20 + i) (by omega) (by omega)
      have cc := cell (30 + i) (by omega) (by omega)
      rw [lo_0 i10, lo_0 i10] at c0
      rw [lo_1 i10, lo_1 i10] at ca
      rw [lo_2 i10, lo_2 i10] at cb
      rw [lo_3 i10, lo_3 i10] at cc
      by_cases e1 : S.1 31 i = S.1 (36 + 5 * b + 1) i
      · by_cases e2 : S.1 32 i = S.1 (36 + 5 * b + 2) i
        · by_cases e3 : S.1 33 i = S.1 (36 + 5 * b + 3) i
          · by_cases e4 : S.1 34 i = S.1 (36 + 5 * b + 4) i
            · simp [e1, e2, e3, e4] at i2
            · exact ⟨30 + i, by omega, by omega, by rw [← cc.2, ← cc.1]; simpa using fun z => e4 z.symm⟩
          · exact ⟨20 + i, by omega, by omega, by rw [← cb.2, ← cb.1]; simpa using fun z => e3 z.symm⟩
        · exact ⟨10 + i, by omega, by omega, by rw [← ca.2, ← ca.1]; simpa using fun z => e2 z.symm⟩
      · exact ⟨i, by omega, by omega, by rw [← c0.2, ← c0.1]; simpa using fun z => e1 z.symm⟩
  · refine ⟨-1, ?_, ?_⟩
    · unfold fN_differ fN_isKept; rw [if_neg c1, if_pos (show Int32.ofNat 3 ≤ p from Int32.not_lt.mp c2), bd_some, if_pos rfl]
    · unfold fM_differ fM_isBox; rw [if_neg c1, if_pos (Int32.not_lt.mp c2), bd_some, if_pos rfl]
end M1
