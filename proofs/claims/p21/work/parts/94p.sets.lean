/-! WHICH NOTES WERE PLAYED: sets, sure, ask -/
theorem cp3 {R : Type} {bod : (Int32 → Int32 → St → Option R) → Int32 → Int32 → St → Option R} {k : St → Option R} {N : Nat} (g : Nat → Int32) (P : Nat → St → Prop) (he : ∀ rec S, P N S → bod rec (g N) (nI N) S = k S) (hs : ∀ rec i S, i < N → P i S → ∃ S', bod rec (g i) (nI i) S = rec (g (i + 1)) (nI (i + 1)) S' ∧ P (i + 1) S') : ∀ r i f S, N - i = r → i ≤ N → r < f → P i S → ∃ S', fx3 bod f (g i) (nI i) S = k S' ∧ P N S' := by
  intro r
  induction r with
  | zero =>
    intro i f S hr hi hf hP
    obtain ⟨q, rfl⟩ : ∃ q, f = q + 1 := ⟨f - 1, by omega⟩
    have e : i = N := by omega
    subst e
    rw [fx3_s, he _ S hP]
    exact ⟨S, rfl, hP⟩
  | succ r ih =>
    intro i f S hr hi hf hP
    obtain ⟨q, rfl⟩ : ∃ q, f = q + 1 := ⟨f - 1, by omega⟩
    obtain ⟨S1, h1, h2⟩ := hs (fx3 bod q) i S (by omega) hP
    rw [fx3_s, h1]
    exact ih (i + 1) q S1 (by omega) (by omega) (by omega) h2
theorem fa_s {P : Nat → Prop} {n : Nat} : (∀ i, i < n + 1 → P i) ↔ (∀ i, i < n → P i) ∧ P n := by
  refine ⟨fun h => ⟨fun i hi => h i (by omega), h n (by omega)⟩, fun h i hi => ?_⟩
  by_cases z : i = n
  · rw [z]; exact h.2
  · exact h.1 i (by omega)
theorem and0 {x y : Int32} : x &&& y = 0 ↔ ∀ i, i < 32 → (bt x i && bt y i) = false := by
  refine ⟨fun e i hi => ?_, fun h => ?_⟩
  · have t := congrArg (fun v => bt v i) e
    simp only [bt_and, bt_0] at t
    exact t
  · apply bt_ext
    intro i hi
    rw [bt_and, bt_0]; exact h i hi
theorem and0_or {x a b : Int32} : x &&& (a ||| b) = 0 ↔ x &&& a = 0 ∧ x &&& b = 0 := by
  rw [and0, and0, and0]
  refine ⟨fun h => ⟨fun i hi => ?_, fun i hi => ?_⟩, fun ⟨h1, h2⟩ i hi => ?_⟩
  · have := h i hi
    rw [bt_or] at this
    cases e1 : bt x i <;> cases e2 : bt a i <;> simp_all
  · have := h i hi
    rw [bt_or] at this
    cases e1 : bt x i <;> cases e2 : bt b i <;> simp_all
  · have a1 := h1 i hi
    have a2 := h2 i hi
    rw [bt_or]
    cases e1 : bt x i <;> cases e2 : bt a i <;> cases e3 : bt b i <;> simp_all
theorem shl_p {n : Nat} (h : n ≤ 12) : (1 : Int32) <<< (nI n &&& 31) = nI (2 ^ n) := (by decide +kernel : ∀ n, n < 13 → (1 : Int32) <<< (nI n &&& 31) = nI (2 ^ n)) n (by omega)
theorem pow10 {n : Nat} (h : n ≤ 10) : 2 ^ n ≤ 1024 := Nat.pow_le_pow_right (n := 2) (by decide) h
/-- the note would be heard so -/
def syB (C : St) (j n : Nat) : Bool := decide (C.1 97 n = C.1 109 j) && (!decide (C.1 108 j < C.1 96 n) && !decide (C.1 96 n + C.1 98 n ≤ C.1 108 j))
def say (C : St) (nn j : Nat) : Int32 := mset (syB C j) nn
/-- it counts at the time t -/
def cou (C : St) (t : Int32) (j : Nat) : Bool := !decide (t < C.1 110 j) && (decide (C.1 111 j < 0) || decide (t < C.1 111 j))
def fcS (C : St) (nn : Nat) (t x : Int32) (j : Nat) : Int32 := if cou C t j = true ∧ ¬ ((if x &&& say C nn j = 0 then (0 : Int32) else 1) = C.1 112 j) then 1 else 0
def soS (C : St) (nn n : Nat) (t x : Int32) : Bool := canP (fcS C nn t x) n
def alF (C : St) (nn n : Nat) (t : Int32) : Nat → Int32 := sumI (fun x => b2i (soS C nn n t (nI x)))
def wiF (C : St) (nn n : Nat) (t : Int32) (i : Nat) : Nat → Int32 := sumI (fun x => if soS C nn n t (nI x) then (if bt (nI x) i then 1 else 0) else 0)
/-- a state of the class with C's witness and score -/
def WC (C S : St) (o nn n : Nat) : Prop := isSc o = true ∧ nn ≤ 10 ∧ n ≤ 30 ∧ S.1 o 6 = nI nn ∧ (∀ i, i < nn → S.1 (o + 5) i = C.1 96 i ∧ S.1 (o + 6) i = C.1 97 i ∧ S.1 (o + 7) i = C.1 98 i) ∧ S.1 69 0 = nI n ∧ ∀ j, j < n → S.1 71 j = C.1 108 j ∧ S.1 72 j = C.1 109 j ∧ S.1 73 j = C.1 112 j ∧ S.1 74 j = C.1 110 j ∧ S.1 75 j = C.1 111 j ∧ iv (C.1 111 j) (-1) 100000 ∧ (C.1 112 j = 0 ∨ C.1 112 j = 1)
theorem WC.fr {C S S' : St} {o nn n : Nat} (w : WC C S o nn n) (r : ∀ h, h ≠ 69 → h ≠ 70 → h ≠ 76 → S'.1 h = S.1 h) (e : S'.1 69 0 = S.1 69 0) : WC C S' o nn n := by
  obtain ⟨w1, w2, w3, w4, w5, w6, w7⟩ := w
  have oo := isSc_or w1
  refine ⟨w1, w2, w3, by rw [r o (by omega) (by omega) (by omega)]; exact w4, fun i hi => ?_, by rw [e]; exact w6, fun j hj => ?_⟩
  · rw [r (o + 5) (by omega) (by omega) (by omega), r (o + 6) (by omega) (by omega) (by omega), r (o + 7) (by omega) (by omega) (by omega)]; exact w5 i hi
  · rw [r 71 (by omega) (by omega) (by omega), r 72 (by omega) (by omega) (by omega), r 73 (by omega) (by omega) (by omega), r 74 (by omega) (by omega) (by omega), r 75 (by omega) (by omega) (by omega)]; exact w7 j hj
section WS
variable {F G : Nat} {C S T : St} {o nn n : Nat} {t : Int32}
theorem I_sound (hF : 100000 ≤ F) (w : WC C S o nn n) {j : Nat} (hj : j < n) : fI_soundersOf F G S o (C.1 108 j) (C.1 109 j) = some (say C nn j) := by
  obtain ⟨w1, w2, w3, w4, w5, w6, w7⟩ := w
  unfold fI_soundersOf
  rw [gd_t w1]
  refine for_or (N := nn) (k := some) (by omega) (syB C j) (fun rec a => by unfold b_I_soundersOf_5; rw [w4, if_pos (nI_le (Nat.le_refl nn) (by omega))]) (fun rec a i hi => ?_) (by omega)
  have g : inB (nI i) 10 = true := inB_nI (by omega) (by decide)
  obtain ⟨q1, q2, q3⟩ := w5 i hi
  unfold b_I_soundersOf_5 syB
  rw [w4, if_neg (nI_ge hi (by omega))]
  simp only [gd_t g, nI_clamp (show i < 2 ^ 31 by omega), q1, q2, q3, lt_eq, nI_1]
  by_cases c1 : C.1 97 i = C.1 109 j
  · rw [if_pos c1, decide_eq_true c1, Bool.true_and]
    by_cases c2 : C.1 108 j < C.1 96 i
    · rw [if_pos c2, decide_eq_true c2, Bool.not_true, Bool.false_and, if_neg (show ¬ false = true by decide), Int32.or_zero]
    · rw [if_neg c2, decide_eq_false c2, Bool.not_false, Bool.true_and]
      by_cases c3 : C.1 96 i + C.1 98 i ≤ C.1 108 j
      · rw [if_pos c3, decide_eq_true c3, Bool.not_true, if_neg (show ¬ false = true by decide), Int32.or_zero]
      · rw [if_neg c3, decide_eq_false c3, Bool.not_false, if_pos rfl]
  · rw [if_neg c1, decide_eq_false c1, Bool.false_and, if_neg (show ¬ false = true by decide), Int32.or_zero]
/-- what is gathered of the first j -/
def GaP (C S : St) (nn : Nat) (t : Int32) (j : Nat) (V : St) : Prop := (∀ x : Int32, x &&& V.1 69 11 = 0 ↔ ∀ i, i < j → (cou C t i = true → C.1 112 i = 0 → x &&& say C nn i = 0)) ∧ (∃ m, m ≤ j ∧ V.1 69 10 = nI m ∧ ∀ x : Int32, (∀ i, i < m → ¬ x &&& V.1 76 i = 0) ↔ ∀ i, i < j → (cou C t i = true → ¬ C.1 112 i = 0 → ¬ x &&& say C nn i = 0)) ∧ (∀ h, h ≠ 69 → h ≠ 76 → V.1 h = S.1 h) ∧ (∀ c, c ≠ 10 → c ≠ 11 → V.1 69 c = S.1 69 c) ∧ V.2 = S.2
theorem I_gather (hF : 100000 ≤ F) (w : WC C S o nn n) : ∃ V, fI_gather F G S o t = some V ∧ GaP C S nn t n V := by
  have n30 := w.2.2.1
  unfold fI_gather
  rw [gd_t w.1, lt_eq, lt_eq]
  refine cp2 (bod := b_I_gather_12 F G o t) (k := fun S => some S) (N := n) (GaP C S nn t) (fun rec V hP => ?_) (fun rec j V hj hP => ?_) n 0 F _ rfl (by omega) (by omega) ⟨fun x => ⟨fun _ i hi => by omega, fun _ => ?_⟩, ⟨0, by omega, ?_, fun x => ⟨fun _ i hi => by omega, fun _ i hi => by omega⟩⟩, fun h q1 q2 => by rw [sI_row q1, sI_row q1], fun c q1 q2 => by rw [sI_at, if_neg (fun z => q2 z.2), sI_at, if_neg (fun z => q1 z.2)], rfl⟩
  · unfold b_I_gather_12
    rw [hP.2.2.2.1 0 (by omega) (by omega), w.2.2.2.2.2.1, if_pos (nI_le (Nat.le_refl n) (by omega))]
  · have wV : WC C V o nn n := w.fr (fun h q1 q2 q3 => hP.2.2.1 h q1 q3) (hP.2.2.2.1 0 (by omega) (by omega))
    obtain ⟨p1, ⟨m, m1, m2, m3⟩, p3, p4, p5⟩ := hP
    obtain ⟨a1, a2, a3, a4, a5, a6, a7⟩ := wV.2.2.2.2.2.2 j hj
    have g : inB (nI j) 30 = true := inB_nI (by omega) (by decide)
    have sd := I_sound (F := F) (G := G) hF wV hj
    -- it doesn't count
    have no : cou C t j = false → GaP C S nn t (j + 1) V := fun q => by
      refine ⟨fun x => ?_, ⟨m, by omega, m2, fun x => ?_⟩, p3, p4, p5⟩
      · rw [fa_s, p1 x]; exact ⟨fun z => ⟨z, fun y => by rw [q] at y; exact absurd y (by decide)⟩, fun z => z.1⟩
      · rw [fa_s, m3 x]; exact ⟨fun z => ⟨z, fun y => by rw [q] at y; exact absurd y (by decide)⟩, fun z => z.1⟩
    -- it counts
    have yes : cou C t j = true → ∃ V', (if V.1 73 j = 0 then rec (nI (j + 1)) (sI V 69 11 (V.1 69 11 ||| say C nn j)) else gd (inB (V.1 69 10) 30) (rec (nI (j + 1)) (sI (sI V 76 (V.1 69 10).toNatClampNeg (say C nn j)) 69 10 ((sI V 76 (V.1 69 10).toNatClampNeg (say C nn j)).1 69 10 + 1)))) = rec (nI (j + 1)) V' ∧ GaP C S nn t (j + 1) V' := fun q => by
      rw [a3]
      by_cases z : C.1 112 j = 0
      · rw [if_pos z]
        refine ⟨_, rfl, fun x => ?_, ⟨m, by omega, by rw [sI_at, if_neg (by omega)]; exact m2, fun x => ?_⟩, fun h q1 q2 => by rw [sI_row q1]; exact p3 h q1 q2, fun c q1 q2 => by rw [sI_at, if_neg (fun z => q2 z.2)]; exact p4 c q1 q2, p5⟩
        · rw [sI_self, fa_s, and0_or, p1 x]
          exact ⟨fun y => ⟨y.1, fun _ _ => y.2⟩, fun y => ⟨y.1, y.2 q z⟩⟩
        · rw [sI_row (by omega), fa_s, m3 x]
          exact ⟨fun y => ⟨y, fun _ y2 => absurd z y2⟩, fun y => y.1⟩
      · rw [if_neg z, m2, gd_t (inB_nI (by omega) (by decide)), nI_clamp (by omega)]
        have e10 : (sI V 76 m (say C nn j)).1 69 10 = nI m := by rw [sI_row (by omega)]; exact m2
        rw [e10, nI_1]
        refine ⟨_, rfl, fun x => ?_, ⟨m + 1, by omega, sI_self, fun x => ?_⟩, fun h q1 q2 => by rw [sI_row q1, sI_row q2]; exact p3 h q1 q2, fun c q1 q2 => by rw [sI_at, if_neg (fun z => q1 z.2), sI_row (by omega)]; exact p4 c q1 q2, p5⟩
        · rw [sI_at, if_neg (by omega), sI_row (by omega), fa_s, p1 x]
          exact ⟨fun y => ⟨y, fun _ y2 => absurd y2 z⟩, fun y => y.1⟩
        · rw [sI_row (by omega), fa_s, fa_s, ← m3 x, sI_self]
          refine ⟨fun y => ⟨fun i hi => ?_, fun _ _ => y.2⟩, fun y => ⟨fun i hi => ?_, y.2 q z⟩⟩
          · have := y.1 i hi
            rw [sI_at, if_neg (by omega)] at this; exact this
          · rw [sI_at, if_neg (by omega)]; exact y.1 i hi
    unfold b_I_gather_12 j_I_gather_44 j_I_gather_45
    rw [p4 0 (by omega) (by omega), w.2.2.2.2.2.1, if_neg (nI_ge hj (by omega))]
    simp only [gd_t g, nI_clamp (show j < 2 ^ 31 by omega), a1, a2, a4, a5, sd, bd_some, lt_eq, nI_1]
    have zz : (0 : Int32) = 0 := rfl
    have oz : ¬ (1 : Int32) = 0 := by decide
    by_cases c1 : t < C.1 110 j
    · have q : cou C t j = false := by unfold cou; rw [decide_eq_true c1]; rfl
      simp only [if_pos c1, ite_self]
      exact ⟨V, rfl, no q⟩
    · simp only [if_neg c1, if_pos zz, if_neg oz]
      by_cases c2 : C.1 111 j = -1
      · rw [if_pos c2]
        exact yes (by unfold cou; rw [decide_eq_false c1, c2]; rfl)
      · rw [if_neg c2]
        have c2' : ¬ C.1 111 j < 0 := by
          rw [Int32.lt_iff_toInt_lt]
          intro z
          apply c2
          apply Int32.toInt_inj.mp
          have := a6.1
          rw [show (0 : Int32).toInt = 0 from rfl] at z
          rw [show (-1 : Int32).toInt = -1 from rfl]
          omega
        by_cases c3 : t < C.1 111 j
        · rw [if_pos c3]
          exact yes (by unfold cou; rw [decide_eq_false c1, decide_eq_true c3, Bool.or_true]; rfl)
        · rw [if_neg c3]
          exact ⟨V, rfl, no (by unfold cou; rw [decide_eq_false c2', decide_eq_false c3, Bool.or_false, Bool.and_false])⟩
  · rw [sI_self]
    apply bt_ext
    intro i hi
    rw [bt_and, bt_0, Bool.and_false]
  · rw [sI_at, if_neg (by omega), sI_self]; rfl
theorem so_iff {x : Int32} (hb : ∀ j, j < n → C.1 112 j = 0 ∨ C.1 112 j = 1) : soS C nn n t x = true ↔ (∀ i, i < n → (cou C t i = true → C.1 112 i = 0 → x &&& say C nn i = 0)) ∧ ∀ i, i < n → (cou C t i = true → ¬ C.1 112 i = 0 → ¬ x &&& say C nn i = 0) := by
  unfold soS
  rw [canP_iff]
  constructor
  · intro h
    refine ⟨fun i hi q z => ?_, fun i hi q z y => ?_⟩
    · apply Classical.byContradiction
      intro y
      have := h i hi
      unfold fcS at this
      rw [if_neg y, if_pos ⟨q, by rw [z]; decide⟩] at this
      exact absurd this (by decide)
    · have := h i hi
      unfold fcS at this
      rw [if_pos y, if_pos ⟨q, fun e => z e.symm⟩] at this
      exact absurd this (by decide)
  · intro ⟨h1, h2⟩ i hi
    unfold fcS
    refine if_neg fun ⟨q, z⟩ => ?_
    rcases hb i hi with e | e
    · rw [e, if_pos (h1 i hi q e)] at z; exact z rfl
    · rw [e, if_neg (h2 i hi q (by rw [e]; decide))] at z; exact z rfl
theorem I_isSo (hF : 100000 ≤ F) (hn : n ≤ 30) (hb : ∀ j, j < n → C.1 112 j = 0 ∨ C.1 112 j = 1) {V : St} (p : GaP C S nn t n V) {W : St} (w11 : W.1 69 11 = V.1 69 11) (w10 : W.1 69 10 = V.1 69 10) (w76 : W.1 76 = V.1 76) (x : Int32) : fI_isSo F G W x = some (b2i (soS C nn n t x)) := by
  obtain ⟨p1, ⟨m, m1, m2, m3⟩, -⟩ := p
  unfold fI_isSo
  rw [w11]
  by_cases c : x &&& V.1 69 11 = 0
  · rw [if_pos c]
    have main : ∀ r i f, m - i = r → i ≤ m → r < f → canP (fun i => if x &&& V.1 76 i = 0 then (1 : Int32) else 0) i = true → fx1 (b_I_isSo_13 F G W x) f (nI i) = some (b2i (canP (fun i => if x &&& V.1 76 i = 0 then (1 : Int32) else 0) m)) := by
      intro r
      induction r with
      | zero =>
        intro i f hr hi hf hv
        obtain ⟨g, rfl⟩ : ∃ g, f = g + 1 := ⟨f - 1, by omega⟩
        have e : i = m := by omega
        subst e
        rw [fx1_s]
        unfold b_I_isSo_13
        rw [w10, m2, if_pos (nI_le (Nat.le_refl i) (by omega)), hv]; rfl
      | succ r ih =>
        intro i f hr hi hf hv
        obtain ⟨g, rfl⟩ : ∃ g, f = g + 1 := ⟨f - 1, by omega⟩
        have ih' := ih (i + 1) g (by omega) (by omega) (by omega)
        rw [fx1_s]
        generalize fx1 (b_I_isSo_13 F G W x) g = rec at ih' ⊢
        unfold b_I_isSo_13
        rw [w10, m2, if_neg (nI_ge (show i < m by omega) (by omega)), gd_t (inB_nI (by omega) (by decide)), nI_clamp (by omega), w76, lt_eq, nI_1]
        have st : canP (fun i => if x &&& V.1 76 i = 0 then (1 : Int32) else 0) (i + 1) = decide ((if x &&& V.1 76 i = 0 then (1 : Int32) else 0) = 0) := by
          show (canP _ i && _) = _
          rw [hv, Bool.true_and]
        by_cases z : x &&& V.1 76 i = 0
        · rw [if_pos z] at st ⊢
          have u := canP_up (c := fun i => if x &&& V.1 76 i = 0 then (1 : Int32) else 0) (a := i + 1) (by rw [st]; decide) (m - (i + 1))
          rw [show i + 1 + (m - (i + 1)) = m by omega] at u
          rw [u]; rfl
        · rw [if_neg z] at st ⊢
          exact ih' (by rw [st]; decide)
    rw [show (0 : Int32) = nI 0 from rfl, main m 0 F rfl (by omega) (by omega) rfl]
    congr 2
    rw [Bool.eq_iff_iff, canP_iff, so_iff hb, ← m3 x]
    refine ⟨fun h => ⟨(p1 x).mp c, fun i hi z => ?_⟩, fun h i hi => if_neg (h.2 i hi)⟩
    have := h i hi
    rw [if_pos z] at this
    exact absurd this (by decide)
  · rw [if_neg c]
    have e : soS C nn n t x = false := by
      rw [Bool.eq_false_iff]
      intro z
      exact c ((p1 x).mpr ((so_iff hb).mp z).1)
    rw [e]; rfl
theorem I_countIn (hF : 100000 ≤ F) (V : St) (s : Int32) : ∃ V', fI_countIn F G V s = some V' ∧ V'.1 69 2 = V.1 69 2 + 1 ∧ (∀ i, i < 10 → V'.1 70 i = V.1 70 i + (if bt s i then 1 else 0)) ∧ (∀ h, h ≠ 69 → h ≠ 70 → V'.1 h = V.1 h) ∧ (∀ c, c ≠ 2 → V'.1 69 c = V.1 69 c) ∧ V'.2 = V.2 := by
  unfold fI_countIn
  rw [lt_eq]
  obtain ⟨V', v1, v2, v3, v4⟩ := cp2 (bod := b_I_countIn_12 F G s) (k := fun S => some S) (N := 10) (fun i W => (∀ j, W.1 70 j = if j < i then V.1 70 j + (if bt s j then 1 else 0) else V.1 70 j) ∧ (∀ h, h ≠ 70 → W.1 h = (sI V 69 2 (V.1 69 2 + 1)).1 h) ∧ W.2 = V.2)
    (fun rec W _ => by
      unfold b_I_countIn_12
      rw [if_pos (by decide)])
    (fun rec i W hi hP => by
      obtain ⟨p1, p2, p3⟩ := hP
      unfold b_I_countIn_12
      rw [if_neg (show ¬ (10 : Int32) ≤ nI i from nI_ge (b := 10) hi (by decide)), gd_t (inB_nI hi (by decide)), gd_t (inB_nI hi (by decide)), lt_eq, lt_eq, nI_1, nI_clamp (by omega), bt_shr s (by omega), p1 i, if_neg (by omega)]
      refine ⟨_, rfl, fun j => ?_, fun h q => by rw [sI_row q]; exact p2 h q, p3⟩
      rw [sI_at]
      by_cases z : j = i
      · rw [if_pos ⟨rfl, z⟩, if_pos (show j < i + 1 by omega), z]
      · rw [if_neg (fun q => z q.2), p1 j]
        by_cases y : j < i
        · rw [if_pos y, if_pos (show j < i + 1 by omega)]
        · rw [if_neg y, if_neg (show ¬ j < i + 1 by omega)])
    10 0 F _ rfl (by omega) (by omega) ⟨fun j => by rw [if_neg (by omega), sI_row (by omega)], fun _ _ => rfl, rfl⟩
  refine ⟨V', v1, by rw [v3 69 (by omega), sI_self], fun i hi => by rw [v2 i, if_pos hi], fun h q1 q2 => by rw [v3 h q2, sI_row q1], fun c q => by rw [v3 69 (by omega), sI_at, if_neg (fun z => q z.2)], v4⟩
theorem I_count (hF : 100000 ≤ F) (w : WC C S o nn n) : ∃ T, fI_count F G S o t = some T ∧ T.1 69 2 = alF C nn n t (2 ^ nn) ∧ ∀ i, i < 10 → T.1 70 i = wiF C nn n t i (2 ^ nn) := by
  have n10 := w.2.1
  have p1024 := pow10 n10
  have hb : ∀ j, j < n → C.1 112 j = 0 ∨ C.1 112 j = 1 := fun j hj => (w.2.2.2.2.2.2 j hj).2.2.2.2.2.2
  obtain ⟨V, g1, g2⟩ := I_gather (F := F) (G := G) (t := t) hF w
  have wV : WC C V o nn n := w.fr (fun h q1 q2 q3 => g2.2.2.1 h q1 q3) (g2.2.2.2.1 0 (by omega) (by omega))
  unfold fI_count
  rw [gd_t w.1, g1, bd_some, lt_eq]
  obtain ⟨X, x1, x2, x3⟩ := cp2 (bod := b_I_count_13 F G o (fun S11 => fx2 (b_I_count_34 F G o) F (0 : Int32) S11)) (k := fun S11 => fx2 (b_I_count_34 F G o) F (0 : Int32) S11) (N := 10) (fun i W => (∀ j, j < i → W.1 70 j = 0) ∧ ∀ h, h ≠ 70 → W.1 h = (sI V 69 2 0).1 h)
    (fun rec W _ => by
      unfold b_I_count_13
      rw [if_pos (by decide)])
    (fun rec i W hi hP => by
      obtain ⟨p1, p2⟩ := hP
      unfold b_I_count_13
      rw [if_neg (show ¬ (10 : Int32) ≤ nI i from nI_ge (b := 10) hi (by decide)), gd_t (inB_nI hi (by decide)), lt_eq, lt_eq, nI_1, nI_clamp (by omega)]
      refine ⟨_, rfl, fun j hj => ?_, fun h q => by rw [sI_row q]; exact p2 h q⟩
      rw [sI_at]
      by_cases z : j = i
      · rw [if_pos ⟨rfl, z⟩]
      · rw [if_neg (fun q => z q.2)]; exact p1 j (by omega))
    10 0 F _ rfl (by omega) (by omega) ⟨fun j hj => by omega, fun _ _ => rfl⟩
  have oo := isSc_or w.1
  obtain ⟨T, t1, t2, t3, -⟩ := cp2 (bod := b_I_count_34 F G o) (k := fun S => some S) (N := 2 ^ nn) (fun s W => W.1 69 2 = alF C nn n t s ∧ (∀ i, i < 10 → W.1 70 i = wiF C nn n t i s) ∧ (∀ h, h ≠ 69 → h ≠ 70 → W.1 h = V.1 h) ∧ ∀ c, c ≠ 2 → W.1 69 c = V.1 69 c)
    (fun rec W hP => by
      unfold b_I_count_34
      rw [hP.2.2.1 o (by omega) (by omega), wV.2.2.2.1, shl_p (by omega), if_pos (nI_le (Nat.le_refl _) (by omega))])
    (fun rec s W hs hP => by
      obtain ⟨p1, p2, p3, p4⟩ := hP
      unfold b_I_count_34
      rw [p3 o (by omega) (by omega), wV.2.2.2.1, shl_p (by omega), if_neg (nI_ge hs (by omega)), I_isSo hF w.2.2.1 hb g2 (p4 11 (by omega)) (p4 10 (by omega)) (p3 76 (by omega) (by omega)), bd_some, lt_eq, nI_1]
      obtain ⟨W', k1, k2, k3, k4, k5, -⟩ := I_countIn (F := F) (G := G) hF W (nI s)
      cases e : soS C nn n t (nI s)
      · rw [if_pos (show b2i false = 0 from rfl)]
        refine ⟨W, rfl, ?_, fun i hi => ?_, p3, p4⟩
        · rw [p1]; show _ = alF C nn n t s + b2i (soS C nn n t (nI s)); rw [e]; exact (Int32.add_zero _).symm
        · rw [p2 i hi]; show _ = wiF C nn n t i s + (if soS C nn n t (nI s) then _ else 0); rw [e]; exact (Int32.add_zero _).symm
      · rw [if_neg (show ¬ b2i true = 0 by decide), k1, bd_some, lt_eq]
        refine ⟨W', rfl, ?_, fun i hi => ?_, fun h q1 q2 => by rw [k4 h q1 q2]; exact p3 h q1 q2, fun c q => by rw [k5 c q]; exact p4 c q⟩
        · rw [k2, p1]; show _ = alF C nn n t s + b2i (soS C nn n t (nI s)); rw [e]; rfl
        · rw [k3 i hi, p2 i hi]; show _ = wiF C nn n t i s + (if soS C nn n t (nI s) then _ else 0); rw [e]; rfl)
    (2 ^ nn) 0 F X rfl (Nat.zero_le _) (by omega) ⟨by rw [x3 69 (by omega), sI_self]; rfl, fun i hi => by rw [x2 i hi]; rfl, fun h q1 q2 => by rw [x3 h q2, sI_row q1], fun c q => by rw [x3 69 (by omega), sI_at, if_neg (fun z => q z.2)]⟩
  exact ⟨T, x1.trans t1, t2, t3⟩
end WS
