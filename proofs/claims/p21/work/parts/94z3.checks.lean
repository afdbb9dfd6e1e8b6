/-! the class's checks of a note -/
section CK
variable {F G : Nat} {C T : St} {nn bs fg sp n : Nat}
theorem df_v {o : Nat} (ho : iv (kyC C o) 0 87) (hn : iv (kyC C n) 0 87) : (dfK C n o).toInt = (kyC C o).toInt - (kyC C n).toInt := by
  unfold dfK
  rw [Int32.toInt_sub, i32b (by have := ho.1; have := hn.2; omega) (by have := ho.2; have := hn.1; omega)]
theorem abs_v {x : Int32} (h : -1000 ≤ x.toInt) (h2 : x.toInt ≤ 1000) : (absI x).toInt = if 0 ≤ x.toInt then x.toInt else -x.toInt := by
  unfold absI
  by_cases c : 0 ≤ x
  · have c' := Int32.le_iff_toInt_le.mp c
    have c' : 0 ≤ x.toInt := c'
    rw [if_pos c, if_pos c']
  · have c' : ¬ 0 ≤ x.toInt := fun z => c (Int32.le_iff_toInt_le.mpr z)
    rw [if_neg c, if_neg c', Int32.toInt_neg, i32b (by omega) (by omega)]
theorem sm_iff {o : Nat} (ho : iv (kyC C o) 0 87) (hn : iv (kyC C n) 0 87) (hs : sp ≤ 87) : smP (kyC C) sp n o ↔ (¬ dfK C n o = 0 ∧ absI (dfK C n o) ≤ nI sp) := by
  have d := df_v ho hn
  have b1 : -1000 ≤ (dfK C n o).toInt := by rw [d]; have := ho.1; have := hn.2; omega
  have b2 : (dfK C n o).toInt ≤ 1000 := by rw [d]; have := ho.2; have := hn.1; omega
  have av := abs_v b1 b2
  rw [Int32.le_iff_toInt_le, av, nI_toInt (by omega), d]
  have e0 : dfK C n o = 0 ↔ (kyC C o).toInt - (kyC C n).toInt = 0 := by
    rw [← d]
    exact ⟨fun z => by rw [z]; rfl, fun z => Int32.toInt_inj.mp z⟩
  have e1 : kyC C n = kyC C o ↔ (kyC C n).toInt = (kyC C o).toInt := ⟨fun z => by rw [z], fun z => Int32.toInt_inj.mp z⟩
  unfold smP
  rw [e0, ne_eq, e1]
  split <;> omega
theorem bS_iff (hk : ∀ i, i < nn → iv (kyC C i) 0 87) (hn : n < nn) (hs : sp ≤ 87) {j : Nat} (hj : j < n) : bS C nn bs sp n j = true ↔ tgP (hdl C nn) bs n j ∧ ¬ smP (kyC C) sp n j := by
  unfold bS
  rw [sm_iff (hk j (by omega)) (hk n hn) hs, decide_eq_false (show ¬ j = n by omega), ← bt_tg]
  by_cases c1 : bt (tgF C nn bs n) j = true <;> by_cases c2 : dfK C n j = 0 <;> by_cases c3 : absI (dfK C n j) ≤ nI sp <;> simp [c1, c2, c3]
theorem bR_iff (hk : ∀ i, i < nn → iv (kyC C i) 0 87) (hn : n < nn) {j : Nat} (hj : j < n) : bR C nn bs n j = true ↔ tgP (hdl C nn) bs n j ∧ ¬ (kyC C n).toInt < (kyC C j).toInt := by
  have d := df_v (hk j (by omega)) (hk n hn)
  have e : (0 < dfK C n j) ↔ (kyC C n).toInt < (kyC C j).toInt := by
    rw [Int32.lt_iff_toInt_lt, d, show (0 : Int32).toInt = 0 from rfl]; omega
  unfold bR
  rw [← e, decide_eq_false (show ¬ j = n by omega), ← bt_tg]
  by_cases c1 : bt (tgF C nn bs n) j = true <;> by_cases c2 : 0 < dfK C n j <;> simp [c1, c2]
theorem bL_iff (hk : ∀ i, i < nn → iv (kyC C i) 0 87) (hn : n < nn) {j : Nat} (hj : j < n) : bL C nn bs n j = true ↔ tgP (hdl C nn) bs n j ∧ ¬ (kyC C j).toInt < (kyC C n).toInt := by
  have d := df_v (hk j (by omega)) (hk n hn)
  have e : (dfK C n j < 0) ↔ (kyC C j).toInt < (kyC C n).toInt := by
    rw [Int32.lt_iff_toInt_lt, d, show (0 : Int32).toInt = 0 from rfl]; omega
  unfold bL
  rw [← e, decide_eq_false (show ¬ j = n by omega), ← bt_tg]
  by_cases c1 : bt (tgF C nn bs n) j = true <;> by_cases c2 : dfK C n j < 0 <;> simp [c1, c2]
theorem and_ms {x : Int32} {p : Nat → Bool} (hx : Sub x n) (hn : n ≤ nn) (n10 : nn ≤ 10) : x &&& mset p nn = 0 ↔ ∀ j, j < n → bt x j = true → p j = false := by
  rw [and0]
  constructor
  · intro h j hj z
    have := h j (by omega)
    rw [z, bt_mset _ (by omega) (by omega), decide_eq_true (show j < nn by omega), Bool.true_and, Bool.true_and] at this
    exact this
  · intro h i hi
    by_cases c : i < n
    · cases z : bt x i
      · rfl
      · rw [bt_mset _ (by omega) hi, h i c z, Bool.and_false, Bool.and_false]
    · rw [hx i (by omega) hi, Bool.false_and]
theorem A_freeL (hk : ∀ i, i < nn → iv (kyC C i) 0 87) (n10 : nn ≤ 10) (hn : n < nn) (hs : sp ≤ 87) (h63 : T.1 63 n = mset (bS C nn bs sp n) nn) (h64 : T.1 64 n = mset (bR C nn bs n) nn) {l r : Int32} (hl : Sub l n) (hr : Sub r n) : ∃ v : Bool, fA_isFreeLeft F G T (nI n) l r = some (b2i v) ∧ (v = true ↔ frL (kyC C) (hdl C nn) bs sp n l r) := by
  have gn : inB (nI n) 10 = true := inB_nI (by omega) (by decide)
  refine ⟨decide (l &&& mset (bS C nn bs sp n) nn ||| r &&& mset (bR C nn bs n) nn = 0), ?_, ?_⟩
  · unfold fA_isFreeLeft
    rw [gd_t gn, gd_t gn, nI_clamp (by omega), h63, h64]
    by_cases c : l &&& mset (bS C nn bs sp n) nn ||| r &&& mset (bR C nn bs n) nn = 0
    · rw [if_pos c, decide_eq_true c]; rfl
    · rw [if_neg c, decide_eq_false c]; rfl
  · rw [decide_eq_true_eq, or_z, and_ms hl (by omega) n10, and_ms hr (by omega) n10]
    constructor
    · intro ⟨h1, h2⟩ j hj t
      refine ⟨fun a => ?_, fun a => ?_⟩
      · apply Classical.byContradiction
        intro z
        have := (bS_iff hk hn hs hj).mpr ⟨t, z⟩
        rw [h1 j hj a] at this; exact absurd this (by decide)
      · apply Classical.byContradiction
        intro z
        have := (bR_iff hk hn hj).mpr ⟨t, z⟩
        rw [h2 j hj a] at this; exact absurd this (by decide)
    · intro h
      refine ⟨fun j hj a => ?_, fun j hj a => ?_⟩
      · rw [Bool.eq_false_iff]
        intro z
        obtain ⟨z1, z2⟩ := (bS_iff hk hn hs hj).mp z
        exact z2 ((h j hj z1).1 a)
      · rw [Bool.eq_false_iff]
        intro z
        obtain ⟨z1, z2⟩ := (bR_iff hk hn hj).mp z
        exact z2 ((h j hj z1).2 a)
theorem A_freeR (hk : ∀ i, i < nn → iv (kyC C i) 0 87) (n10 : nn ≤ 10) (hn : n < nn) (hs : sp ≤ 87) (h63 : T.1 63 n = mset (bS C nn bs sp n) nn) (h65 : T.1 65 n = mset (bL C nn bs n) nn) {l r : Int32} (hl : Sub l n) (hr : Sub r n) : ∃ v : Bool, fA_isFreeRight F G T (nI n) l r = some (b2i v) ∧ (v = true ↔ frR (kyC C) (hdl C nn) bs sp n l r) := by
  have gn : inB (nI n) 10 = true := inB_nI (by omega) (by decide)
  refine ⟨decide (r &&& mset (bS C nn bs sp n) nn ||| l &&& mset (bL C nn bs n) nn = 0), ?_, ?_⟩
  · unfold fA_isFreeRight
    rw [gd_t gn, gd_t gn, nI_clamp (by omega), h63, h65]
    by_cases c : r &&& mset (bS C nn bs sp n) nn ||| l &&& mset (bL C nn bs n) nn = 0
    · rw [if_pos c, decide_eq_true c]; rfl
    · rw [if_neg c, decide_eq_false c]; rfl
  · rw [decide_eq_true_eq, or_z, and_ms hr (by omega) n10, and_ms hl (by omega) n10]
    constructor
    · intro ⟨h1, h2⟩ j hj t
      refine ⟨fun a => ?_, fun a => ?_⟩
      · apply Classical.byContradiction
        intro z
        have := (bS_iff hk hn hs hj).mpr ⟨t, z⟩
        rw [h1 j hj a] at this; exact absurd this (by decide)
      · apply Classical.byContradiction
        intro z
        have := (bL_iff hk hn hj).mpr ⟨t, z⟩
        rw [h2 j hj a] at this; exact absurd this (by decide)
    · intro h
      refine ⟨fun j hj a => ?_, fun j hj a => ?_⟩
      · rw [Bool.eq_false_iff]
        intro z
        obtain ⟨z1, z2⟩ := (bS_iff hk hn hs hj).mp z
        exact z2 ((h j hj z1).1 a)
      · rw [Bool.eq_false_iff]
        intro z
        obtain ⟨z1, z2⟩ := (bL_iff hk hn hj).mp z
        exact z2 ((h j hj z1).2 a)
theorem cnt_imp {p q : Nat → Bool} (h : ∀ i, p i = true → q i = true) : ∀ n, cnt p n ≤ cnt q n
  | 0 => Nat.le_refl _
  | n + 1 => by
    have ih := cnt_imp h n
    rw [cnt, cnt]
    cases e : p n
    · rw [if_neg (show ¬ false = true by decide)]; omega
    · rw [h n e]; omega
theorem cnt_12 {x : Int32} {m : Nat} (hx : Sub x m) (hm : m ≤ 12) : cnt (bt x) 12 = cnt (bt x) m := by
  rw [show 12 = m + (12 - m) by omega, cnt_up (fun i h1 h2 => hx i h1 (by omega))]
theorem A_fing (hF : 100000 ≤ F) (k : AK C T nn bs fg sp) (hn : n < nn) (hf : fg ≤ 5) {x : Int32} (hx : Sub x (n + 1)) : ∃ v : Bool, fA_fingersReach F G T (nI n) x = some (b2i v) ∧ (v = true ↔ fiP (hdl C nn) bs fg n x) := by
  have n10 := k.1.1
  have bs12 := k.1.2.1
  have cx := cnt_le (p := bt x) (n := 12)
  unfold fA_fingersReach
  rw [bc_Sub (hx.up (show n + 1 ≤ 12 by omega)) (by omega), bd_some, k.2.2.1]
  have each : ∀ b, cnt (bt (x &&& hdl C nn b)) 12 = cnt (bt (x &&& hdl C nn b)) (n + 1) := fun b => cnt_12 (Sub.andL hx) (by omega)
  by_cases c : nI fg < nI (cnt (bt x) 12)
  · rw [if_pos c]
    refine ⟨canP (fun b => if bt (hdl C nn b) n = true ∧ fg < cnt (bt (x &&& hdl C nn b)) (n + 1) then (1 : Int32) else 0) bs, ?_, ?_⟩
    · have main : ∀ r b f, bs - b = r → b ≤ bs → r < f → canP (fun b => if bt (hdl C nn b) n = true ∧ fg < cnt (bt (x &&& hdl C nn b)) (n + 1) then (1 : Int32) else 0) b = true → fx1 (b_A_fingersReach_23 F G T (nI n) x 0) f (nI b) = some (b2i (canP (fun b => if bt (hdl C nn b) n = true ∧ fg < cnt (bt (x &&& hdl C nn b)) (n + 1) then (1 : Int32) else 0) bs)) := by
        intro r
        induction r with
        | zero =>
          intro b f hr hb hf' hv
          obtain ⟨g, rfl⟩ : ∃ g, f = g + 1 := ⟨f - 1, by omega⟩
          have e : b = bs := by omega
          subst e
          rw [fx1_s]
          unfold b_A_fingersReach_23
          rw [if_pos rfl, k.1.2.2.1, if_pos (nI_le (Nat.le_refl b) (by omega)), hv]; rfl
        | succ r ih =>
          intro b f hr hb hf' hv
          obtain ⟨g, rfl⟩ : ∃ g, f = g + 1 := ⟨f - 1, by omega⟩
          have ih' := ih (b + 1) g (by omega) (by omega) (by omega)
          rw [fx1_s]
          generalize fx1 (b_A_fingersReach_23 F G T (nI n) x 0) g = rec at ih' ⊢
          have st : canP (fun b => if bt (hdl C nn b) n = true ∧ fg < cnt (bt (x &&& hdl C nn b)) (n + 1) then (1 : Int32) else 0) (b + 1) = decide ((if bt (hdl C nn b) n = true ∧ fg < cnt (bt (x &&& hdl C nn b)) (n + 1) then (1 : Int32) else 0) = 0) := by
            show (canP _ b && _) = _
            rw [hv, Bool.true_and]
          have cl := cnt_le (p := bt (x &&& hdl C nn b)) (n := n + 1)
          unfold b_A_fingersReach_23
          rw [if_pos rfl, k.1.2.2.1, if_neg (nI_ge (show b < bs by omega) (by omega)), k.at (show b < bs by omega), bd_some, Int32.and_comm (hdl C nn b) x, bc_Sub (Sub.andL (hx.up (show n + 1 ≤ 12 by omega))) (by omega), bd_some, k.2.2.1, each b]
          simp only [lt_eq, nI_1]
          cases z : bt (hdl C nn b) n
          · rw [if_pos ((bit_0 _ (by omega)).mpr z)]
            rw [z, if_neg (fun q => absurd q.1 (by decide))] at st
            exact ih' (by rw [st]; decide)
          · rw [if_neg (bit_n0 (by omega) z)]
            by_cases d : nI (cnt (bt (x &&& hdl C nn b)) (n + 1)) ≤ nI fg
            · rw [if_pos d]
              have d' := (nI_le_i (by omega) (by omega)).mp d
              rw [if_neg (fun q => by have := q.2; omega)] at st
              exact ih' (by rw [st]; decide)
            · rw [if_neg d]
              have d' : fg < cnt (bt (x &&& hdl C nn b)) (n + 1) := by
                apply Nat.lt_of_not_le
                intro q
                exact d ((nI_le_i (by omega) (by omega)).mpr q)
              rw [z, if_pos ⟨rfl, d'⟩] at st
              have u := canP_up (c := fun b => if bt (hdl C nn b) n = true ∧ fg < cnt (bt (x &&& hdl C nn b)) (n + 1) then (1 : Int32) else 0) (a := b + 1) (by rw [st]; decide) (bs - (b + 1))
              rw [show b + 1 + (bs - (b + 1)) = bs by omega] at u
              rw [u]; rfl
      exact main bs 0 F rfl (by omega) (by omega) rfl
    · rw [canP_iff]
      unfold fiP
      constructor
      · intro h b hb z
        apply Nat.le_of_not_lt
        intro q
        have := h b hb
        rw [if_pos ⟨z, q⟩] at this; exact absurd this (by decide)
      · intro h b hb
        refine if_neg fun q => ?_
        have := h b hb q.1
        have := q.2
        omega
  · rw [if_neg c]
    refine ⟨true, ?_, ⟨fun _ b hb _ => ?_, fun _ => rfl⟩⟩
    · obtain ⟨F', hF'⟩ : ∃ F', F = F' + 1 := ⟨F - 1, by omega⟩
      have one : ∀ f, f = F' + 1 → fx1 (b_A_fingersReach_23 F G T (nI n) x 1) f 0 = some (b2i true) := by
        rintro _ rfl
        rw [fx1_s]
        unfold b_A_fingersReach_23
        rw [if_neg (by decide)]; rfl
      exact one F hF'
    · have le : cnt (bt x) 12 ≤ fg := by
        apply Nat.le_of_not_lt
        intro q
        exact c ((nI_lt_i (by omega) (by omega)).mpr q)
      have := cnt_imp (p := bt (x &&& hdl C nn b)) (q := bt x) (fun i z => by rw [bt_and, Bool.and_eq_true] at z; exact z.1) 12
      rw [each b] at this
      omega
theorem AK.leapB (k : AK C T nn bs fg sp) (hF : 100000 ≤ F) {a x : Int32} (ha : Sub a nn) (hx : Sub x nn) : fK_leapBetween F G T a x = some (lpF C nn a x) := by
  have lo : ∀ {y : Int32}, Sub y nn → ¬ y = 0 → fK_lowest F G T y = some (lowF (kyC C) (bt y) 1000000 nn) := fun {y} hy h0 => by
    rw [k.1.low hF hy h0, lowF_c (key' := kyC C) (fun i hi => (k.2.2.2.2.1 i hi).1)]
  unfold fK_leapBetween lpF
  by_cases h0 : a = 0
  · rw [if_pos h0, if_pos h0]
  rw [if_neg h0, if_neg h0]
  by_cases h1 : x = 0
  · rw [if_pos h1, if_pos h1]
  rw [if_neg h1, if_neg h1, lo hx h1, bd_some, lo ha h0, bd_some, abs_z]
theorem lp_iff {a x leap : Int32} (hl : iv leap 0 87) : lpF C nn a x ≤ leap ↔ lpO (kyC C) nn leap a x := by
  have z : (0 : Int32) ≤ leap := Int32.le_iff_toInt_le.mpr hl.1
  unfold lpF lpO
  by_cases h0 : a = 0
  · rw [if_pos h0]; exact ⟨fun _ => Or.inr (Or.inl h0), fun _ => z⟩
  · rw [if_neg h0]
    by_cases h1 : x = 0
    · rw [if_pos h1]; exact ⟨fun _ => Or.inl h1, fun _ => z⟩
    · rw [if_neg h1]
      exact ⟨fun q => Or.inr (Or.inr q), fun q => (q.resolve_left h1).resolve_left h0⟩
theorem A_leaps (hF : 100000 ≤ F) (b0 : 1 ≤ bs) (k : AK C T nn bs fg sp) (hlp : iv (C.1 78 51) 0 87) (hn : n < nn) (h66 : T.1 66 n = mset (stB C nn n) bs) {l r : Int32} (hl : Sub l nn) (hr : Sub r nn) : ∃ v : Bool, fA_leapsFit F G T (nI n) l r = some (b2i v) ∧ (v = true ↔ leP (kyC C) (hdl C nn) nn bs (C.1 78 51) n l r) := by
  have n10 := k.1.1
  have bs12 := k.1.2.1
  -- what is bad at a beat
  have bad : ∀ d, d + 1 < bs → (leP (kyC C) (hdl C nn) nn bs (C.1 78 51) n l r → stB C nn n (d + 1) = true → lpF C nn (l &&& hdl C nn d) (l &&& hdl C nn (d + 1)) ≤ C.1 78 51 ∧ lpF C nn (r &&& hdl C nn d) (r &&& hdl C nn (d + 1)) ≤ C.1 78 51) := fun d hd h z => by
    obtain ⟨t1, t2⟩ := (st_iff hn n10).mp z
    have := h d hd t1 t2
    exact ⟨(lp_iff hlp).mpr this.1, (lp_iff hlp).mpr this.2⟩
  have good : (∀ d, d + 1 < bs → stB C nn n (d + 1) = true → lpF C nn (l &&& hdl C nn d) (l &&& hdl C nn (d + 1)) ≤ C.1 78 51 ∧ lpF C nn (r &&& hdl C nn d) (r &&& hdl C nn (d + 1)) ≤ C.1 78 51) → leP (kyC C) (hdl C nn) nn bs (C.1 78 51) n l r := fun h d hd t1 t2 => by
    have := h d hd ((st_iff hn n10).mpr ⟨t1, t2⟩)
    exact ⟨(lp_iff hlp).mp this.1, (lp_iff hlp).mp this.2⟩
  unfold fA_leapsFit
  rw [gd_t (inB_nI (show n < 10 by omega) (by decide)), lt_eq, nI_clamp (by omega), h66]
  by_cases z : mset (stB C nn n) bs = 0
  · refine ⟨true, ?_, ⟨fun _ => good fun d hd q => ?_, fun _ => rfl⟩⟩
    · obtain ⟨F', hF'⟩ : ∃ F', F = F' + 1 := ⟨F - 1, by omega⟩
      have one : ∀ f, f = F' + 1 → fx1 (b_A_leapsFit_11 F G T l r (mset (stB C nn n) bs)) f 1 = some (b2i true) := by
        rintro _ rfl
        rw [fx1_s]
        unfold b_A_leapsFit_11
        rw [if_pos z]; rfl
      exact one F hF'
    · have := bt_mset (stB C nn n) (n := bs) (by omega) (i := d + 1) (by omega)
      rw [z, bt_0, q, decide_eq_true hd] at this
      exact absurd this (by decide)
  · have main : ∀ r' b f, bs - b = r' → 1 ≤ b → b ≤ bs → r' < f → ∃ v : Bool, fx1 (b_A_leapsFit_11 F G T l r (mset (stB C nn n) bs)) f (nI b) = some (b2i v) ∧ (v = true ↔ ∀ d, b ≤ d + 1 → d + 1 < bs → stB C nn n (d + 1) = true → lpF C nn (l &&& hdl C nn d) (l &&& hdl C nn (d + 1)) ≤ C.1 78 51 ∧ lpF C nn (r &&& hdl C nn d) (r &&& hdl C nn (d + 1)) ≤ C.1 78 51) := by
      intro r'
      induction r' with
      | zero =>
        intro b f hr' h1 hb hf
        obtain ⟨g, rfl⟩ : ∃ g, f = g + 1 := ⟨f - 1, by omega⟩
        refine ⟨true, ?_, ⟨fun _ d d1 d2 => by omega, fun _ => rfl⟩⟩
        rw [fx1_s]
        unfold b_A_leapsFit_11
        rw [if_neg z, k.1.2.2.1, if_pos (nI_le (show bs ≤ b by omega) (by omega))]; rfl
      | succ r' ih =>
        intro b f hr' h1 hb hf
        obtain ⟨g, rfl⟩ : ∃ g, f = g + 1 := ⟨f - 1, by omega⟩
        obtain ⟨v, v1, v2⟩ := ih (b + 1) g (by omega) (by omega) (by omega) (by omega)
        obtain ⟨e, rfl⟩ : ∃ e, b = e + 1 := ⟨b - 1, by omega⟩
        have sb : bt (mset (stB C nn n) bs) (e + 1) = stB C nn n (e + 1) := by
          rw [bt_mset _ (by omega) (by omega), decide_eq_true (show e + 1 < bs by omega), Bool.true_and]
        rw [fx1_s]
        generalize fx1 (b_A_leapsFit_11 F G T l r (mset (stB C nn n) bs)) g = rec at v1 ⊢
        unfold b_A_leapsFit_11
        rw [if_neg z, k.1.2.2.1, if_neg (nI_ge (show e + 1 < bs by omega) (by omega)), show nI (e + 1) - 1 = nI e from nI_pred e, k.at (show e < bs by omega), bd_some, k.at (show e + 1 < bs by omega), bd_some, k.leapB hF (Sub.andL hl) (Sub.andL hl), bd_some, k.leapB hF (Sub.andL hr) (Sub.andL hr), bd_some, k.2.2.2.1]
        simp only [lt_eq, nI_1]
        have one : stB C nn n (e + 1) = true → ∀ P : Prop, (P ↔ (lpF C nn (l &&& hdl C nn e) (l &&& hdl C nn (e + 1)) ≤ C.1 78 51 ∧ lpF C nn (r &&& hdl C nn e) (r &&& hdl C nn (e + 1)) ≤ C.1 78 51) ∧ v = true) → (P ↔ ∀ d, e + 1 ≤ d + 1 → d + 1 < bs → stB C nn n (d + 1) = true → lpF C nn (l &&& hdl C nn d) (l &&& hdl C nn (d + 1)) ≤ C.1 78 51 ∧ lpF C nn (r &&& hdl C nn d) (r &&& hdl C nn (d + 1)) ≤ C.1 78 51) := fun st P hP => by
          rw [hP, v2]
          refine ⟨fun q d d1 d2 d3 => ?_, fun q => ⟨q e (Nat.le_refl _) (by omega) st, fun d d1 d2 d3 => q d (by omega) d2 d3⟩⟩
          by_cases y : d = e
          · rw [y]; exact q.1
          · exact q.2 d (by omega) d2 d3
        cases st : stB C nn n (e + 1)
        · rw [if_pos ((bit_0 _ (by omega)).mpr (sb.trans st))]
          refine ⟨v, v1, v2.trans ⟨fun q d d1 d2 d3 => ?_, fun q d d1 d2 d3 => q d (by omega) d2 d3⟩⟩
          by_cases y : d = e
          · rw [y, st] at d3; exact absurd d3 (by decide)
          · exact q d (by omega) d2 d3
        · rw [if_neg (bit_n0 (by omega) (sb.trans st))]
          by_cases c1 : C.1 78 51 < lpF C nn (l &&& hdl C nn e) (l &&& hdl C nn (e + 1))
          · rw [if_pos c1]
            exact ⟨false, rfl, one st _ ⟨fun q => absurd q (by decide), fun q => absurd q.1.1 (Int32.not_le.mpr c1)⟩⟩
          · rw [if_neg c1]
            by_cases c2 : lpF C nn (r &&& hdl C nn e) (r &&& hdl C nn (e + 1)) ≤ C.1 78 51
            · rw [if_pos c2]
              exact ⟨v, v1, one st _ ⟨fun q => ⟨⟨Int32.not_lt.mp c1, c2⟩, q⟩, fun q => q.2⟩⟩
            · rw [if_neg c2]
              exact ⟨false, rfl, one st _ ⟨fun q => absurd q (by decide), fun q => absurd q.1.2 c2⟩⟩
    obtain ⟨v, v1, v2⟩ := main (bs - 1) 1 F rfl (Nat.le_refl _) b0 (by omega)
    exact ⟨v, v1, v2.trans ⟨fun q => good fun d d1 d2 => q d (by omega) d1 d2, fun q d _ d1 d2 => bad d d1 q d2⟩⟩
end CK
