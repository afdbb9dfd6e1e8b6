/-! note, loss, dearest -/
theorem md_1 : ∀ z, z < 88 → (absI (nI z) = nI z ∧ absI (-(nI z)) = nI z ∧ ((-(nI z)) - (-(nI z)) / 12 * 12 = 0 ↔ nI z - nI z / 12 * 12 = 0)) := by decide +kernel
theorem md_ab {x y : Int32} (hx : iv x 0 87) (hy : iv y 0 87) : (x - y) - (x - y) / 12 * 12 = 0 ↔ absI (x - y) - absI (x - y) / 12 * 12 = 0 := by
  obtain ⟨a, a1, a2⟩ := iv_nat (u := 87) hx
  obtain ⟨b, b1, b2⟩ := iv_nat (u := 87) hy
  rw [a1, b1]
  by_cases c : b ≤ a
  · obtain ⟨q1, -, -⟩ := md_1 (a - b) (by omega)
    rw [nI_subN c (by omega), q1]
  · obtain ⟨-, q2, q3⟩ := md_1 (b - a) (by omega)
    have e : nI a - nI b = -(nI (b - a)) := by
      rw [← nI_subN (show a ≤ b by omega) (by omega), Int32.neg_sub]
    rw [e, q2]; exact q3
def dbB (C : St) (n i : Nat) : Bool := decide (¬ i = n) && (decide (C.1 96 i = C.1 96 n) && decide (absI (kyC C i - kyC C n) - absI (kyC C i - kyC C n) / 12 * 12 = 0))
def dbF (C : St) (nn n : Nat) : Int32 := mset (dbB C n) nn
def wiN (v : Int32) : Int32 := if 0 ≤ v then (if v ≤ 999 then v else 999) else 0
theorem win_c (v : Int32) : (if (0 : Int32) < (if v < 999 then v else 999) then (if v < 999 then v else 999) else 0) = wiN v := by
  unfold wiN
  by_cases c1 : v < 999
  · rw [if_pos c1, if_pos (Int32.le_of_lt c1)]
    by_cases c2 : 0 < v
    · rw [if_pos c2, if_pos (Int32.le_of_lt c2)]
    · rw [if_neg c2]
      by_cases c3 : 0 ≤ v
      · rw [if_pos c3]
        apply Int32.toInt_inj.mp
        rw [Int32.lt_iff_toInt_lt] at c2
        rw [Int32.le_iff_toInt_le] at c3
        omega
      · rw [if_neg c3]
  · have c2 : 999 ≤ v := Int32.not_lt.mp c1
    have c3 : (0 : Int32) ≤ v := by
      rw [Int32.le_iff_toInt_le] at c2 ⊢
      rw [show (999 : Int32).toInt = 999 from rfl] at c2
      rw [show (0 : Int32).toInt = 0 from rfl]
      omega
    rw [if_neg c1, if_pos (by decide), if_pos c3]
    by_cases c4 : v ≤ 999
    · rw [if_pos c4]
      apply Int32.toInt_inj.mp
      rw [Int32.le_iff_toInt_le] at c2 c4
      omega
    · rw [if_neg c4]
theorem M_within {F G : Nat} {S : St} (v : Int32) : fM_within F G S v 999 = some (wiN v) := by
  unfold fM_within wiN
  by_cases c1 : 0 ≤ v
  · rw [if_pos c1, if_pos c1, some_ite]
  · rw [if_neg c1, if_neg c1]
/-- the facts of a note -/
def fcF (C : St) (nn n : Nat) : Nat → Int32
  | 0 => C.1 94 (C.1 95 n).toNatClampNeg
  | 1 => kyC C n
  | 2 => C.1 100 (20 + n)
  | 3 => ldC C n
  | 4 => nI (cnt (bt (dbF C nn n)) 12)
  | _ => C.1 96 n
/-- how much a note is missed -/
def misF (C : St) (nn n : Nat) : Int32 := wiN (if C.1 78 25 = 0 then ldC C n + 5 * C.1 94 (C.1 95 n).toNatClampNeg - nI (cnt (bt (dbF C nn n)) 12) else (stk (C.1 83) (C.1 84) (fcF C nn n) (C.1 78 18).toNatClampNeg).2 0)
theorem wiN_iv (v : Int32) : iv (wiN v) 0 999 := by
  unfold wiN
  by_cases c1 : 0 ≤ v
  · rw [if_pos c1]
    by_cases c2 : v ≤ 999
    · rw [if_pos c2]
      rw [Int32.le_iff_toInt_le] at c1 c2
      exact ⟨c1, c2⟩
    · rw [if_neg c2]; exact ⟨by decide, by decide⟩
  · rw [if_neg c1]; exact ⟨by decide, by decide⟩
section MS
variable {F G : Nat} {C S T U : St} {nn bs n : Nat}
/-- what the class reads -/
theorem NB.cls (nb : NB C nn bs) (h : J2 C) (i : Inv C T) : T.2.2.1 = C.2.2.1 ∧ isSc T.2.2.1 = true ∧ T.1 T.2.2.1 6 = nI nn ∧ (∀ j, j < nn → T.1 31 j = C.1 100 j ∧ T.1 32 j = kyC C j ∧ T.1 33 j = C.1 100 (20 + j) ∧ T.1 34 j = ldC C j ∧ T.1 (T.2.2.1 + 4) j = C.1 95 j ∧ T.1 (T.2.2.1 + 5) j = C.1 96 j ∧ iv (kyC C j) 0 87) := by
  obtain ⟨n1, b0, b2, n48, b46, d6, d0, dr, xl⟩ := id nb
  have sc := h.1.1.2.1.1
  have f := i.2.2.2
  obtain ⟨-, -, dd⟩ := h.2.1.n n48 n1
  have et : T.2.2.1 = C.2.2.1 := by rw [i.2.2.1]
  have fo : ∀ j k, j ≤ 8 → T.1 (C.2.2.1 + j) k = C.1 (C.2.2.1 + j) k := fun j k q => f _ k (by
    rw [Bool.eq_false_iff]; intro z
    have := isSc_or sc
    simp only [scr, Bool.or_eq_true, Bool.and_eq_true, beq_iff_eq, Nat.ble_eq] at z
    omega)
  rw [et]
  refine ⟨rfl, sc, (fo 0 6 (by omega)).trans d6, fun j hj => ⟨?_, ?_, ?_, ?_, (fo 4 j (by omega)).trans (dd j hj).1, (fo 5 j (by omega)).trans (dd j hj).2.1, ((xl.1 (10 + j) (by omega)).1 (by omega)).2.1 (by omega) (by omega)⟩⟩
  · rw [f 31 j rfl]
    have := xl.2.1 j (by omega) (by omega)
    rw [lo_0 (by omega)] at this; exact this
  · rw [f 32 j rfl]
    have := xl.2.1 (10 + j) (by omega) (by omega)
    rw [lo_1 (by omega)] at this; exact this
  · rw [f 33 j rfl]
    have := xl.2.1 (20 + j) (by omega) (by omega)
    rw [lo_2 (by omega)] at this; exact this
  · rw [f 34 j rfl]
    have := xl.2.1 (30 + j) (by omega) (by omega)
    rw [lo_3 (by omega)] at this; exact this
theorem N_doubles (hF : 100000 ≤ F) (h : J2 C) (nb : NB C nn bs) (i : Inv C T) (hn : n < nn) : fN_doublesOf F G T (nI n) = some (dbF C nn n) := by
  obtain ⟨-, i1, i2, i3⟩ := nb.cls h i
  have n10 := nb.1
  obtain ⟨q1, q2, q3, q4, q5, q6, q7⟩ := i3 n hn
  unfold fN_doublesOf dbF
  refine for_or (N := nn) (k := some) (by omega) (dbB C n) (fun rec a => by unfold b_N_doublesOf_4; rw [gd_t i1, i2, if_pos (nI_le (Nat.le_refl nn) (by omega))]) (fun rec a j hj => ?_) (by omega)
  obtain ⟨r1, r2, r3, r4, r5, r6, r7⟩ := i3 j hj
  have gj : inB (nI j) 10 = true := inB_nI (by omega) (by decide)
  have gn : inB (nI n) 10 = true := inB_nI (by omega) (by decide)
  unfold b_N_doublesOf_4 j_N_doublesOf_41 dbB
  rw [gd_t i1, i2, if_neg (nI_ge hj (by omega))]
  simp only [gd_t gj, gd_t gn, nI_clamp (show j < 2 ^ 31 by omega), nI_clamp (show n < 2 ^ 31 by omega), r2, r6, q2, q6, lt_eq, nI_1]
  have oz : ¬ (1 : Int32) = 0 := by decide
  by_cases c0 : j = n
  · have c0' : nI j = nI n := by rw [c0]
    simp only [if_pos c0', ite_self]
    rw [decide_eq_false (fun z => z c0), Bool.false_and, if_neg (show ¬ false = true by decide), Int32.or_zero]
  · have c0' : ¬ nI j = nI n := fun z => c0 ((nI_eq (by omega) (by omega)).mp z)
    simp only [if_neg c0', if_neg oz, if_true]
    rw [decide_eq_true c0, Bool.true_and]
    by_cases c1 : C.1 96 j = C.1 96 n
    · rw [if_pos c1, decide_eq_true c1, Bool.true_and]
      by_cases c2 : absI (kyC C j - kyC C n) - absI (kyC C j - kyC C n) / 12 * 12 = 0
      · rw [if_pos ((md_ab r7 q7).mpr c2), decide_eq_true c2, if_pos rfl]
      · rw [if_neg (fun z => c2 ((md_ab r7 q7).mp z)), decide_eq_false c2, if_neg (show ¬ false = true by decide), Int32.or_zero]
    · rw [if_neg c1, decide_eq_false c1, Bool.false_and, if_neg (show ¬ false = true by decide), Int32.or_zero]
/-- what the reference reads -/
def MR (C U : St) (nn : Nat) : Prop := nn ≤ 10 ∧ U.1 78 48 = nI nn ∧ (∀ k, k < 40 → k ≥ 10 → U.1 101 k = C.1 100 k) ∧ (∀ h, h = 83 ∨ h = 84 ∨ (94 ≤ h ∧ h ≤ 99) → U.1 h = C.1 h) ∧ U.1 78 25 = C.1 78 25 ∧ U.1 78 18 = C.1 78 18
theorem M_doubles (hF : 100000 ≤ F) (m : MR C U nn) (hn : n < nn) : fM_doubles F G U (nI n) = some (dbF C nn n) := by
  obtain ⟨n10, m1, m2, m3, -, -⟩ := m
  unfold fM_doubles dbF
  refine for_or (N := nn) (k := some) (by omega) (dbB C n) (fun rec a => by unfold b_M_doubles_4; rw [m1, if_pos (nI_le (Nat.le_refl nn) (by omega))]) (fun rec a j hj => ?_) (by omega)
  have gj : inB (nI j) 10 = true := inB_nI (by omega) (by decide)
  have gn : inB (nI n) 10 = true := inB_nI (by omega) (by decide)
  have gj2 : inB (nI (10 + j)) 41 = true := inB_nI (by omega) (by decide)
  have gn2 : inB (nI (10 + n)) 41 = true := inB_nI (by omega) (by decide)
  unfold b_M_doubles_4 j_M_doubles_65 j_M_doubles_66 dbB
  rw [m1, if_neg (nI_ge hj (by omega)), show (10 : Int32) = nI 10 from rfl, ten_add, ten_add]
  simp only [gd_t gj, gd_t gn, gd_t gj2, gd_t gn2, nI_clamp (show j < 2 ^ 31 by omega), nI_clamp (show n < 2 ^ 31 by omega), nI_clamp (show 10 + j < 2 ^ 31 by omega), nI_clamp (show 10 + n < 2 ^ 31 by omega), m2 (10 + j) (by omega) (by omega), m2 (10 + n) (by omega) (by omega), m3 96 (by omega), M_plain, M_truth, bd_some, lt_eq, nI_1, if_true]
  rw [show (if (1 : Int32) = 0 then (0 : Int32) else 1) = 1 from if_neg (by decide), sh_0 (by omega), Int32.or_zero]
  by_cases c0 : j = n
  · have c0' : nI j = nI n := by rw [c0]
    rw [if_pos c0', decide_eq_false (fun z => z c0), Bool.false_and, if_neg (show ¬ false = true by decide), Int32.or_zero]
  · have c0' : ¬ nI j = nI n := fun z => c0 ((nI_eq (by omega) (by omega)).mp z)
    rw [if_neg c0', decide_eq_true c0, Bool.true_and]
    by_cases c1 : C.1 96 j = C.1 96 n
    · rw [if_pos c1, decide_eq_true c1, Bool.true_and]
      by_cases c2 : absI (kyC C j - kyC C n) - absI (kyC C j - kyC C n) / 12 * 12 = 0
      · rw [decide_eq_true c2, if_pos rfl]; exact if_pos c2
      · rw [decide_eq_false c2, if_neg (show ¬ false = true by decide), Int32.or_zero]; exact if_neg c2
    · rw [if_neg c1, decide_eq_false c1, Bool.false_and, if_neg (show ¬ false = true by decide), Int32.or_zero]
theorem db_sub (hn : nn ≤ 10) : Sub (dbF C nn n) nn := Sub.mset (by omega)
/-- the formula of the score -/
theorem J2.fm (h : J2 C) : ∃ m, m ≤ 270 ∧ C.1 (C.2.2.1 + 9) 1 = nI m ∧ C.1 78 18 = nI m ∧ ((C.1 78 25 = 0 ∧ m = 0) ∨ (C.1 78 25 = 1 ∧ 1 ≤ m ∧ (∀ i, i < m → C.1 (C.2.2.1 + 10) i = encM (C.1 83 i) (C.1 84 i)) ∧ WFn (C.1 83) (C.1 84) m ∧ hg (C.1 83) m = 1)) := by
  obtain ⟨np, n', m, -, -, m270, -, -, -, -, -, -, -, -, -, -, -, -, e1, e2, e3⟩ := h.2.1
  exact ⟨m, m270, e1, e2, e3⟩
theorem N_missed (hF : 100000 ≤ F) (hG : 20 ≤ G) (h : J2 C) (nb : NB C nn bs) (i : Inv C T) (hn : n < nn) : ∃ T', fN_missedOf F G T (nI n) = some (misF C nn n, T') ∧ Inv C T' ∧ ∀ h, 30 ≤ h → T'.1 h = T.1 h := by
  obtain ⟨et, i1, i2, i3⟩ := nb.cls h i
  have n10 := nb.1
  obtain ⟨q1, q2, q3, q4, q5, q6, q7⟩ := i3 n hn
  obtain ⟨r1, -, -⟩ := role_x (F := F) (G := G) h nb i hn
  have gn : inB (nI n) 10 = true := inB_nI (by omega) (by decide)
  have sc := h.1.1.2.1.1
  have oo := isSc_or sc
  obtain ⟨v, T', t1, -, t2⟩ := s_fN_missedOf (F := F) (G := G) hF hG i (p1 := nI n) ⟨by rw [nI_toInt (by omega)]; omega, by rw [nI_toInt (by omega)]; omega⟩
  obtain ⟨m, m270, f1, f2, f3⟩ := h.fm
  have fo : isFo (C.2.2.1 + 9) = true := by rcases oo with e | e <;> rw [e] <;> rfl
  have c91 : T.1 (C.2.2.1 + 9) 1 = nI m := by rw [i.2.2.2 (C.2.2.1 + 9) 1 (by rcases oo with e | e <;> rw [e] <;> rfl)]; exact f1
  have fin : ∃ T2, fN_missedOf F G T (nI n) = some (misF C nn n, T2) ∧ ∀ h, 30 ≤ h → T2.1 h = T.1 h := by
    unfold fN_missedOf misF
    rw [gd_t i1, r1, bd_some, gd_t gn, lt_eq, N_doubles hF h nb i hn, bd_some, bc_Sub (db_sub n10) (by omega), bd_some, lt_eq, nI_clamp (by omega), q4, et]
    unfold fF_isTold
    rw [gd_t fo, c91, f2, nI_clamp (by omega)]
    rcases f3 with ⟨g1, g2⟩ | ⟨g1, g2, g3, g4, g5⟩
    · rw [if_pos (show nI m ≤ 0 by rw [g2]; decide), bd_some, if_pos rfl, if_pos g1]
      unfold j_N_missedOf_95
      rw [win_c, Int32.mul_comm]
      exact ⟨T, rfl, fun _ _ => rfl⟩
    · rw [if_neg (show ¬ nI m ≤ 0 from nI_ge (a := 0) (b := m) (by omega) (by omega)), bd_some, if_neg (by decide), if_neg (show ¬ C.1 78 25 = 0 by rw [g1]; decide), gd_t gn, gd_t gn, gd_t gn, q2, q3, ← et, q6, et]
      obtain ⟨T2, w1, w3⟩ := F_valueOf (F := F) (G := G) (S := T) (q := fcF C nn n) hF fo m270 g4 g5 c91 (fun j hj => by rw [i.2.2.2 (C.2.2.1 + 9 + 1) j (by rcases oo with e | e <;> rw [e] <;> rfl)]; exact g3 j hj) (C.1 94 (C.1 95 n).toNatClampNeg) (kyC C n) (C.1 100 (20 + n)) (ldC C n) (nI (cnt (bt (dbF C nn n)) 12)) (C.1 96 n) ⟨rfl, rfl, rfl, rfl, rfl, rfl⟩
      rw [w1, bd2_some]
      unfold j_N_missedOf_95
      rw [win_c]
      exact ⟨T2, rfl, fun h q => w3 h (by omega) (by omega) (by omega)⟩
  obtain ⟨T2, w2, w4⟩ := fin
  rw [t1] at w2
  obtain ⟨e1, e2⟩ := Prod.mk.inj (Option.some.inj w2)
  exact ⟨T', by rw [t1, e1], t2, fun h q => by rw [e2]; exact w4 h q⟩
theorem M_missed (hF : 100000 ≤ F) (h : J2 C) (nb : NB C nn bs) (m : MR C U nn) (hn : n < nn) : ∃ V, fM_missedOf F G U (nI n) = some (misF C nn n, V) ∧ ∀ h, h ≠ 86 → h ≠ 87 → V.1 h = U.1 h := by
  obtain ⟨n10, m1, m2, m3, m4, m5⟩ := id m
  obtain ⟨-, r2, -⟩ := role_x (F := F) (G := G) h nb (Inv.rf h.1.1) hn
  obtain ⟨mm, m270, f1, f2, f3⟩ := h.fm
  have gn : inB (nI n) 10 = true := inB_nI (by omega) (by decide)
  have ga : inB (nI (10 + n)) 41 = true := inB_nI (by omega) (by decide)
  have gb : inB (nI (20 + n)) 41 = true := inB_nI (by omega) (by decide)
  have gc : inB (nI (30 + n)) 41 = true := inB_nI (by omega) (by decide)
  have g0 : inB (0 : Int32) 6 = true := by decide
  have g1 : inB (1 : Int32) 6 = true := by decide
  have g2 : inB (2 : Int32) 6 = true := by decide
  have g3 : inB (3 : Int32) 6 = true := by decide
  have g4 : inB (4 : Int32) 6 = true := by decide
  have g5 : inB (5 : Int32) 6 = true := by decide
  unfold fM_missedOf
  rw [gd_t gn, nI_clamp (n := n) (by omega), m3 95 (by omega), gd_t r2, gd_t g0, lt_eq, show (10 : Int32) + nI n = nI (10 + n) from ten_add 10 n, gd_t ga, gd_t g1, lt_eq, show (20 : Int32) + nI n = nI (20 + n) from ten_add 20 n, gd_t gb, gd_t g2, lt_eq, show (30 : Int32) + nI n = nI (30 + n) from ten_add 30 n, gd_t gc, gd_t g3, lt_eq, show (0 : Int32).toNatClampNeg = 0 from by decide, show (1 : Int32).toNatClampNeg = 1 from by decide, show (2 : Int32).toNatClampNeg = 2 from by decide, show (3 : Int32).toNatClampNeg = 3 from by decide, show (4 : Int32).toNatClampNeg = 4 from by decide, show (5 : Int32).toNatClampNeg = 5 from by decide, nI_clamp (n := 10 + n) (by omega), nI_clamp (n := 20 + n) (by omega), nI_clamp (n := 30 + n) (by omega)]
  have row : ∀ (X : St) (k : Nat) (x : Int32) (h : Nat), h ≠ 87 → (sI X 87 k x).1 h = X.1 h := fun X k x h q => sI_row q
  rw [row _ _ _ 101 (by omega), row _ _ _ 101 (by omega), row _ _ _ 101 (by omega), row _ _ _ 101 (by omega), row _ _ _ 101 (by omega), row _ _ _ 101 (by omega), m3 94 (by omega), m2 (10 + n) (by omega) (by omega), m2 (20 + n) (by omega) (by omega), m2 (30 + n) (by omega) (by omega)]
  generalize hX : sI (sI (sI (sI U 87 0 (C.1 94 (C.1 95 n).toNatClampNeg)) 87 1 (C.1 100 (10 + n))) 87 2 (C.1 100 (20 + n))) 87 3 (C.1 100 (30 + n)) = X
  have xr : ∀ h, h ≠ 87 → X.1 h = U.1 h := fun h q => by rw [← hX, row _ _ _ h q, row _ _ _ h q, row _ _ _ h q, row _ _ _ h q]
  have mX : MR C X nn := ⟨n10, by rw [xr 78 (by omega)]; exact m1, fun k k1 k2 => by rw [xr 101 (by omega)]; exact m2 k k1 k2, fun h q => by rw [xr h (by omega)]; exact m3 h q, by rw [xr 78 (by omega)]; exact m4, by rw [xr 78 (by omega)]; exact m5⟩
  rw [M_doubles hF mX hn, bd_some, M_members (by omega), bd_some, gd_t g4, lt_eq, gd_t gn, gd_t g5, lt_eq, row _ _ _ 96 (by omega), xr 96 (by omega), m3 96 (by omega)]
  generalize hY : sI (sI X 87 4 (nI (cnt (bt (dbF C nn n)) 12))) 87 5 (C.1 96 n) = Y
  have yr : ∀ h, h ≠ 87 → Y.1 h = U.1 h := fun h q => by rw [← hY, row _ _ _ h q, row _ _ _ h q]; exact xr h q
  have y87 : ∀ i, i < 6 → Y.1 87 i = fcF C nn n i := fun i hi => by
    rw [← hY, ← hX]
    rcases (by omega : i = 0 ∨ i = 1 ∨ i = 2 ∨ i = 3 ∨ i = 4 ∨ i = 5) with rfl | rfl | rfl | rfl | rfl | rfl <;> rfl
  have cst : misF C nn n = wiN (if C.1 78 25 = 0 then ldC C n + 5 * C.1 94 (C.1 95 n).toNatClampNeg - nI (cnt (bt (dbF C nn n)) 12) else (stk (C.1 83) (C.1 84) (fcF C nn n) mm).2 0) := by
    unfold misF
    rw [f2, nI_clamp (by omega)]
  rw [cst, yr 78 (by omega), m4]
  rcases f3 with ⟨e1, e2⟩ | ⟨e1, e2, e3, e4, e5⟩
  · rw [if_pos e1, if_pos e1, gd_t g3, gd_t g0, gd_t g4, y87 3 (by omega), y87 0 (by omega), y87 4 (by omega), M_within, bd_some]
    exact ⟨Y, rfl, fun h q1 q2 => yr h q2⟩
  · have n0 : ¬ C.1 78 25 = 0 := by rw [e1]; decide
    rw [if_neg n0, if_neg n0]
    obtain ⟨T, t1, t2, t3, -⟩ := M_steps (F := F) (G := G) (S := Y) (q := fcF C nn n) hF m270 e4 (by rw [yr 78 (by omega), m5]; exact f2) (fun j hj => by rw [yr 83 (by omega), m3 83 (by omega)]) (fun j hj => by rw [yr 84 (by omega), m3 84 (by omega)]) y87 (fun S84 => gd (inB (0 : Int32) 64) (bd (fM_within F G S84 (S84.1 86 0) (999 : Int32)) fun v87 => some (v87, S84)))
    have hv := stk_hg (q := fcF C nn n) e4 mm (Nat.le_refl mm)
    refine ⟨T, Eq.trans t1 ?_, fun h q1 q2 => by rw [t3 h q1]; exact yr h q2⟩
    show gd (inB (0 : Int32) 64) (bd (fM_within F G T (T.1 86 0) (999 : Int32)) fun v87 => some (v87, T)) = _
    rw [gd_t (by decide), t2 0 (by omega), M_within, bd_some]
theorem MD.mr (m : MD C U nn bs) : MR C U nn := by
  obtain ⟨n10, b2, n48, b46, a, hd, fr⟩ := m
  refine ⟨n10, n48, fun k k1 k2 => a k (by omega), fun h q => ?_, fr 78 25 rfl, fr 78 18 rfl⟩
  funext k
  refine fr h k ?_
  rw [Bool.eq_false_iff]; intro z
  simp only [scr, Bool.or_eq_true, Bool.and_eq_true, beq_iff_eq, Nat.ble_eq] at z
  omega
theorem MD.fr2 {V : St} (m : MD C U nn bs) (i : Inv C V) (h78 : V.1 78 48 = U.1 78 48 ∧ V.1 78 46 = U.1 78 46) (r : V.1 101 = U.1 101 ∧ V.1 102 = U.1 102) : MD C V nn bs := by
  obtain ⟨n10, b2, n48, b46, a, hd, fr⟩ := m
  exact ⟨n10, b2, h78.1.trans n48, h78.2.trans b46, fun k hk => by rw [r.1]; exact a k hk, fun b hb => by rw [r.2]; exact hd b hb, fun h k q => i.2.2.2 h k q⟩
/-- the reference weighs all -/
theorem M_weigh (hF : 100000 ≤ F) (hG : 20 ≤ G) (h : J2 C) (nb : NB C nn bs) (m : MD C U nn bs) (i : Inv C U) : ∃ V, fM_layMissed F G U = some V ∧ MD C V nn bs ∧ Inv C V ∧ ∀ j, j < nn → V.1 107 j = misF C nn j := by
  have n10 := nb.1
  obtain ⟨V, v1, v2, v3⟩ := cp2 (bod := b_M_layMissed_2 F G) (k := fun S => some S) (N := nn) (fun j W => (∀ i, i < j → W.1 107 i = misF C nn i) ∧ ∀ h, h ≠ 86 → h ≠ 87 → h ≠ 107 → W.1 h = U.1 h)
    (fun rec W hP => by
      unfold b_M_layMissed_2
      rw [hP.2 78 (by omega) (by omega) (by omega), m.2.2.1, if_pos (nI_le (Nat.le_refl nn) (by omega))])
    (fun rec j W hj hP => by
      obtain ⟨p1, p2⟩ := hP
      have mr : MR C W nn := by
        obtain ⟨a1, a2, a3, a4, a5, a6⟩ := m.mr
        exact ⟨a1, by rw [p2 78 (by omega) (by omega) (by omega)]; exact a2, fun k k1 k2 => by rw [p2 101 (by omega) (by omega) (by omega)]; exact a3 k k1 k2, fun h q => by rw [p2 h (by omega) (by omega) (by omega)]; exact a4 h q, by rw [p2 78 (by omega) (by omega) (by omega)]; exact a5, by rw [p2 78 (by omega) (by omega) (by omega)]; exact a6⟩
      obtain ⟨X, x1, x2⟩ := M_missed (F := F) (G := G) hF h nb mr hj
      unfold b_M_layMissed_2
      rw [p2 78 (by omega) (by omega) (by omega), m.2.2.1, if_neg (nI_ge hj (by omega)), x1, bd2_some, gd_t (inB_nI (by omega) (by decide)), lt_eq, lt_eq, nI_1, nI_clamp (by omega)]
      refine ⟨_, rfl, fun i hi => ?_, fun h q1 q2 q3 => by rw [sI_row q3, x2 h q1 q2]; exact p2 h q1 q2 q3⟩
      rw [sI_at]
      by_cases z : i = j
      · rw [if_pos ⟨rfl, z⟩, z]
      · rw [if_neg (fun y => z y.2), x2 107 (by omega) (by omega)]; exact p1 i (by omega))
    nn 0 F U rfl (by omega) (by omega) ⟨fun i hi => by omega, fun _ _ _ _ => rfl⟩
  have v1' : fM_layMissed F G U = some V := v1
  obtain ⟨V', w1, w2⟩ := s_fM_layMissed (F := F) (G := G) hF hG i
  rw [← Option.some.inj (v1'.symm.trans w1)] at w2
  exact ⟨V, v1', m.fr2 w2 ⟨by rw [v3 78 (by omega) (by omega) (by omega)], by rw [v3 78 (by omega) (by omega) (by omega)]⟩ ⟨v3 101 (by omega) (by omega) (by omega), v3 102 (by omega) (by omega) (by omega)⟩, w2, v2⟩
theorem note_ok (hF : 100000 ≤ F) (hG : 20 ≤ G) (h : J2 S) (p q : Int32) : ∃ v S1 S2, fN_note F G S p q = some (v, S1) ∧ fM_note F G S1 p q = some (v, S2) ∧ J2 S2 := by
  obtain ⟨nn, bs, nb⟩ := h.nb
  have n10 := nb.1
  have n48 := nb.2.2.2.1
  obtain ⟨w, a1, a2, -, a4⟩ := note_x (F := F) (G := G) (T := S) h.1 h.2.1 rfl p
  by_cases c1 : w = 0
  · refine ⟨-1, S, S, ?_, ?_, h⟩
    · unfold fN_note; rw [a1, bd_some, if_pos c1]
    · unfold fM_note; rw [a2, bd_some, if_pos c1]
  obtain ⟨n, rfl, hn, hn10⟩ := a4 c1
  have hnn : n < nn := by rw [n48, nI_toInt (by omega)] at hn; omega
  obtain ⟨et, i1, i2, i3⟩ := nb.cls h (Inv.rf h.1.1)
  obtain ⟨q1, q2, q3, q4, q5, q6, q7⟩ := i3 n hnn
  have gn : inB (nI n) 10 = true := inB_nI (by omega) (by decide)
  have g0 : inB (nI n) 41 = true := inB_nI (by omega) (by decide)
  have ga : inB (nI (10 + n)) 41 = true := inB_nI (by omega) (by decide)
  have gb : inB (nI (20 + n)) 41 = true := inB_nI (by omega) (by decide)
  have gc : inB (nI (30 + n)) 41 = true := inB_nI (by omega) (by decide)
  obtain ⟨T, t1, t2, -⟩ := N_missed (F := F) (G := G) hF hG h nb (Inv.rf h.1.1) hnn
  -- the reference at any state
  have ref : ∀ S1, Inv S S1 → ∃ U, fM_fill F G S1 = some U ∧ MD S U nn bs ∧ Inv S U ∧ fM_note F G S1 (nI n) q = if q = 0 then some (S.1 95 n, U) else if q = 1 then some (S.1 96 n, U) else if q = 2 then some (kyC S n, U) else if q = 3 then some (S.1 100 (20 + n), U) else if q = 4 then some (ldC S n, U) else if q = 5 then some (S.1 100 n, U) else if q = 6 then bd2 (fM_missedOf F G U (nI n)) (fun v20 S21 => some (v20, S21)) else if q = 7 then some (dbF S nn n, U) else some (-1, U) := fun S1 i => by
    obtain ⟨U, u1, u2, u3⟩ := fill_I (F := F) (G := G) hF hG nb i
    obtain ⟨w', a1', a2', -⟩ := note_x (F := F) (G := G) (T := S1) h.1 h.2.1 (i.2.2.2 78 48 rfl) (nI n)
    rw [← Option.some.inj (a1.symm.trans a1')] at a2'
    refine ⟨U, u1, u2, u3, ?_⟩
    unfold fM_note
    rw [a2', bd_some, if_neg c1, u1, bd_some, show (10 : Int32) + nI n = nI (10 + n) from ten_add 10 n, show (20 : Int32) + nI n = nI (20 + n) from ten_add 20 n, show (30 : Int32) + nI n = nI (30 + n) from ten_add 30 n, gd_t gn, gd_t gn, gd_t ga, gd_t gb, gd_t gc, gd_t g0, nI_clamp (n := n) (by omega), nI_clamp (n := 10 + n) (by omega), nI_clamp (n := 20 + n) (by omega), nI_clamp (n := 30 + n) (by omega), M_doubles hF u2.mr hnn, bd_some, u3.2.2.2 95 n rfl, u3.2.2.2 96 n rfl, u2.2.2.2.2.1 (10 + n) (by omega), u2.2.2.2.2.1 (20 + n) (by omega), u2.2.2.2.2.1 (30 + n) (by omega), u2.2.2.2.2.1 n (by omega)]
    rfl
  have cls : fN_note F G S (nI n) q = if q = 0 then some (S.1 95 n, S) else if q = 1 then some (S.1 96 n, S) else if q = 2 then some (kyC S n, S) else if q = 3 then some (S.1 100 (20 + n), S) else if q = 4 then some (ldC S n, S) else if q = 5 then some (S.1 100 n, S) else if q = 6 then some (misF S nn n, T) else if q = 7 then some (dbF S nn n, S) else some (-1, S) := by
    unfold fN_note
    rw [a1, bd_some, if_neg c1, gd_t i1, gd_t i1, gd_t gn, gd_t gn, gd_t gn, gd_t gn, gd_t gn, gd_t gn, nI_clamp (n := n) (by omega), q1, q2, q3, q4, q5, q6, t1, bd2_some, N_doubles hF h nb (Inv.rf h.1.1) hnn, bd_some]
  by_cases c6 : q = 6
  · obtain ⟨U, u1, u2, u3, u4⟩ := ref T t2
    obtain ⟨V, v1, -⟩ := M_missed (F := F) (G := G) hF h nb u2.mr hnn
    obtain ⟨v, V', w1, -, w2⟩ := s_fM_missedOf (F := F) (G := G) hF hG u3 (p1 := nI n) ⟨by rw [nI_toInt (by omega)]; omega, by rw [nI_toInt (by omega)]; omega⟩
    rw [← (Prod.mk.inj (Option.some.inj (v1.symm.trans w1))).2] at w2
    refine ⟨misF S nn n, T, V, ?_, ?_, h.q w2⟩
    · rw [cls, c6]; rfl
    · rw [u4, c6, v1]; rfl
  · obtain ⟨U, u1, u2, u3, u4⟩ := ref S (Inv.rf h.1.1)
    rw [if_neg c6] at u4 cls
    refine ⟨if q = 0 then S.1 95 n else if q = 1 then S.1 96 n else if q = 2 then kyC S n else if q = 3 then S.1 100 (20 + n) else if q = 4 then ldC S n else if q = 5 then S.1 100 n else if q = 7 then dbF S nn n else -1, S, U, ?_, ?_, h.q u3⟩
    · rw [cls]
      repeat' split
      all_goals rfl
    · rw [u4]
      repeat' split
      all_goals rfl
end MS
