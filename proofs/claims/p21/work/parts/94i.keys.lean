/-! THE CLASS'S CLASHES by the functions that the reference's have -/
theorem low_c {key : Nat → Int32} {p : Nat → Bool} : ∀ n, (∀ i, i < n → iv (key i) 0 87) → ((∀ i, i < n → p i = false) ∧ lowF key p 87 n = 87 ∧ lowF key p 1000000 n = 1000000) ∨ ((∃ i, i < n ∧ p i = true) ∧ lowF key p 87 n = lowF key p 1000000 n)
  | 0, _ => Or.inl ⟨fun i hi => by omega, rfl, rfl⟩
  | n + 1, h => by
    have k := h n (by omega)
    rcases low_c (key := key) (p := p) n (fun i hi => h i (by omega)) with ⟨a1, a2, a3⟩ | ⟨⟨i, i1, i2⟩, a2⟩
    · rw [lowF, lowF, a2, a3]
      cases hp : p n
      · refine Or.inl ⟨fun i hi => ?_, if_neg (fun z => absurd z.1 (by decide)), if_neg (fun z => absurd z.1 (by decide))⟩
        by_cases z : i = n
        · rw [z]; exact hp
        · exact a1 i (by omega)
      · refine Or.inr ⟨⟨n, by omega, hp⟩, ?_⟩
        rw [if_pos (show true = true ∧ key n < 1000000 from ⟨rfl, by rw [Int32.lt_iff_toInt_lt, show (1000000 : Int32).toInt = 1000000 from rfl]; have := k.2; omega⟩)]
        by_cases c : key n < 87
        · rw [if_pos ⟨rfl, c⟩]
        · rw [if_neg (fun z => c z.2)]
          apply Int32.toInt_inj.mp
          rw [Int32.lt_iff_toInt_lt, show (87 : Int32).toInt = 87 from rfl] at c
          rw [show (87 : Int32).toInt = 87 from rfl]
          have := k.2; omega
    · refine Or.inr ⟨⟨i, by omega, i2⟩, ?_⟩
      rw [lowF, lowF, a2]
theorem high_c {key : Nat → Int32} {p : Nat → Bool} : ∀ n, (∀ i, i < n → iv (key i) 0 87) → ((∀ i, i < n → p i = false) ∧ highF key p 0 n = 0 ∧ highF key p (-1) n = -1) ∨ ((∃ i, i < n ∧ p i = true) ∧ highF key p 0 n = highF key p (-1) n)
  | 0, _ => Or.inl ⟨fun i hi => by omega, rfl, rfl⟩
  | n + 1, h => by
    have k := h n (by omega)
    rcases high_c (key := key) (p := p) n (fun i hi => h i (by omega)) with ⟨a1, a2, a3⟩ | ⟨⟨i, i1, i2⟩, a2⟩
    · rw [highF, highF, a2, a3]
      cases hp : p n
      · refine Or.inl ⟨fun i hi => ?_, if_neg (fun z => absurd z.1 (by decide)), if_neg (fun z => absurd z.1 (by decide))⟩
        by_cases z : i = n
        · rw [z]; exact hp
        · exact a1 i (by omega)
      · refine Or.inr ⟨⟨n, by omega, hp⟩, ?_⟩
        rw [if_pos (show true = true ∧ (-1 : Int32) < key n from ⟨rfl, by rw [Int32.lt_iff_toInt_lt, show (-1 : Int32).toInt = -1 from rfl]; have := k.1; omega⟩)]
        by_cases c : 0 < key n
        · rw [if_pos ⟨rfl, c⟩]
        · rw [if_neg (fun z => c z.2)]
          apply Int32.toInt_inj.mp
          rw [Int32.lt_iff_toInt_lt, show (0 : Int32).toInt = 0 from rfl] at c
          rw [show (0 : Int32).toInt = 0 from rfl]
          have := k.1; omega
    · refine Or.inr ⟨⟨i, by omega, i2⟩, ?_⟩
      rw [highF, highF, a2]
/-- a set of notes below n -/
def Sub (x : Int32) (n : Nat) : Prop := ∀ i, n ≤ i → i < 32 → bt x i = false
theorem Sub.and {x y : Int32} {n : Nat} (h : Sub y n) : Sub (x &&& y) n := fun i h1 h2 => by rw [bt_and, h i h1 h2, Bool.and_false]
theorem Sub.andL {x y : Int32} {n : Nat} (h : Sub x n) : Sub (x &&& y) n := fun i h1 h2 => by rw [bt_and, h i h1 h2, Bool.false_and]
theorem Sub.or {x y : Int32} {n : Nat} (h : Sub x n) (k : Sub y n) : Sub (x ||| y) n := fun i h1 h2 => by rw [bt_or, h i h1 h2, k i h1 h2]; rfl
theorem Sub.mset {p : Nat → Bool} {n : Nat} (hn : n ≤ 32) : Sub (mset p n) n := fun i h1 h2 => by rw [bt_mset _ hn h2, decide_eq_false (by omega), Bool.false_and]
theorem Sub.zero {n : Nat} : Sub 0 n := fun i _ _ => bt_0 i
theorem Sub.up {x : Int32} {n m : Nat} (h : Sub x n) (hm : n ≤ m) : Sub x m := fun i h1 h2 => h i (by omega) h2
theorem Sub.ne {x : Int32} {n : Nat} (h : Sub x n) (hx : ¬ x = 0) : ∃ i, i < n ∧ bt x i = true := by
  apply Classical.byContradiction
  intro z
  apply hx
  apply bt_ext
  intro i hi
  rw [bt_0]
  by_cases c : i < n
  · cases e : bt x i
    · rfl
    · exact absurd ⟨i, c, e⟩ z
  · exact h i (by omega) hi
section KV
variable {F G : Nat} {T : St}
theorem K_lowest (hF : 100000 ≤ F) {n : Nat} (h1 : T.1 57 1 = nI n) (hn : n ≤ 10) (x : Int32) : fK_lowest F G T x = some (lowF (fun i => T.1 58 i) (bt x) 87 n) := by
  unfold fK_lowest
  refine for_acc (N := n) (k := some) (by omega) (lowF (fun i => T.1 58 i) (bt x) 87) (fun i a => if bt x i = true ∧ T.1 58 i < a then T.1 58 i else a) (fun i _ => rfl) (fun rec a => by unfold b_K_lowest_5; rw [h1, if_pos (nI_le (Nat.le_refl n) (by omega))])
    (fun rec a i hi => ?_) (by omega)
  unfold b_K_lowest_5
  rw [h1, if_neg (nI_ge hi (by omega)), gd_t (inB_nI (by omega) (by decide)), gd_t (inB_nI (by omega) (by decide)), nI_clamp (by omega), nI_1]
  simp only [lt_eq]
  by_cases hb : bt x i = true
  · rw [if_neg (show ¬ ((x >>> (nI i &&& 31)) &&& 1 = 0) from fun z => by rw [(bit_0 x (by omega)).mp z] at hb; exact absurd hb (by decide))]
    by_cases hc : a ≤ T.1 58 i
    · rw [if_pos hc, if_neg (fun z => Int32.not_lt.mpr hc z.2)]
    · rw [if_neg hc, if_pos ⟨hb, Int32.not_le.mp hc⟩]
  · rw [if_pos ((bit_0 x (by omega)).mpr (by simpa using hb)), if_neg (fun z => hb z.1)]
theorem K_highest (hF : 100000 ≤ F) {n : Nat} (h1 : T.1 57 1 = nI n) (hn : n ≤ 10) (x : Int32) : fK_highest F G T x = some (highF (fun i => T.1 58 i) (bt x) 0 n) := by
  unfold fK_highest
  refine for_acc (N := n) (k := some) (by omega) (highF (fun i => T.1 58 i) (bt x) 0) (fun i a => if bt x i = true ∧ a < T.1 58 i then T.1 58 i else a) (fun i _ => rfl) (fun rec a => by unfold b_K_highest_4; rw [h1, if_pos (nI_le (Nat.le_refl n) (by omega))])
    (fun rec a i hi => ?_) (by omega)
  unfold b_K_highest_4
  rw [h1, if_neg (nI_ge hi (by omega)), gd_t (inB_nI (by omega) (by decide)), gd_t (inB_nI (by omega) (by decide)), nI_clamp (by omega), nI_1]
  simp only [lt_eq]
  by_cases hb : bt x i = true
  · rw [if_neg (show ¬ ((x >>> (nI i &&& 31)) &&& 1 = 0) from fun z => by rw [(bit_0 x (by omega)).mp z] at hb; exact absurd hb (by decide))]
    by_cases hc : T.1 58 i ≤ a
    · rw [if_pos hc, if_neg (fun z => Int32.not_lt.mpr hc z.2)]
    · rw [if_neg hc, if_pos ⟨hb, Int32.not_le.mp hc⟩]
  · rw [if_pos ((bit_0 x (by omega)).mpr (by simpa using hb)), if_neg (fun z => hb z.1)]
/-- the keyboard's data as they must be -/
def KB (T : St) (nn bs : Nat) : Prop := nn ≤ 10 ∧ bs ≤ 12 ∧ T.1 57 0 = nI bs ∧ T.1 57 1 = nI nn ∧ (∀ i, i < nn → iv (T.1 58 i) 0 87) ∧ ∀ b, b < bs → Sub (T.1 61 b) nn
theorem KB.low {nn bs : Nat} (h : KB T nn bs) (hF : 100000 ≤ F) {x : Int32} (hx : Sub x nn) (h0 : ¬ x = 0) : fK_lowest F G T x = some (lowF (fun i => T.1 58 i) (bt x) 1000000 nn) := by
  obtain ⟨k1, k2, k3, k4, k5, k6⟩ := h
  rw [K_lowest hF k4 k1]
  rcases low_c (key := fun i => T.1 58 i) (p := bt x) nn k5 with ⟨a1, -⟩ | ⟨-, a2⟩
  · obtain ⟨i, i1, i2⟩ := hx.ne h0
    rw [a1 i i1] at i2; exact absurd i2 (by decide)
  · rw [a2]
theorem KB.high {nn bs : Nat} (h : KB T nn bs) (hF : 100000 ≤ F) {x : Int32} (hx : Sub x nn) (h0 : ¬ x = 0) : fK_highest F G T x = some (highF (fun i => T.1 58 i) (bt x) (-1) nn) := by
  obtain ⟨k1, k2, k3, k4, k5, k6⟩ := h
  rw [K_highest hF k4 k1]
  rcases high_c (key := fun i => T.1 58 i) (p := bt x) nn k5 with ⟨a1, -⟩ | ⟨-, a2⟩
  · obtain ⟨i, i1, i2⟩ := hx.ne h0
    rw [a1 i i1] at i2; exact absurd i2 (by decide)
  · rw [a2]
theorem bc_Sub {x : Int32} {n : Nat} (h : Sub x n) (hn : n ≤ 12) : fJ_bitCount F G T x = some (nI (cnt (bt x) 12)) := by
  rw [bc_eq, bc_set (h.up hn)]
theorem abs_z (x : Int32) : (if 0 ≤ x then x else 0 - x) = absI x := by
  unfold absI
  rw [Int32.zero_sub]
theorem K_own (hF : 100000 ≤ F) {nn bs : Nat} (h : KB T nn bs) {had set : Int32} (hs : Sub set nn) (hh : Sub had nn) : fK_clashesOfHand F G T had set = some (ownC (fun i => T.1 58 i) nn (T.1 57 4) set had (T.1 57 3) (T.1 57 2)) := by
  unfold fK_clashesOfHand ownC
  by_cases h0 : set = 0
  · rw [if_pos h0, if_pos h0]
  rw [if_neg h0, if_neg h0, h.low hF hs h0, bd_some, bc_Sub hs (by have := h.1; omega), bd_some]
  have key2 : ∀ c : Int32, j_K_clashesOfHand_51 F G T had (lowF (fun i => T.1 58 i) (bt set) 1000000 nn) c 0 = some (if had = 0 then c else if absI (lowF (fun i => T.1 58 i) (bt set) 1000000 nn - lowF (fun i => T.1 58 i) (bt had) 1000000 nn) ≤ T.1 57 4 then c else c ||| 16) ∧ j_K_clashesOfHand_51 F G T had (lowF (fun i => T.1 58 i) (bt set) 1000000 nn) c 2 = some (if had = 0 then c ||| 2 else if absI (lowF (fun i => T.1 58 i) (bt set) 1000000 nn - lowF (fun i => T.1 58 i) (bt had) 1000000 nn) ≤ T.1 57 4 then c ||| 2 else c ||| 2 ||| 16) := by
    intro c
    unfold j_K_clashesOfHand_51 j_K_clashesOfHand_79 j_K_clashesOfHand_80
    rw [lt_eq, lt_eq, Int32.or_zero]
    by_cases c0 : had = 0
    · rw [if_pos c0, if_pos c0, if_pos c0, if_pos c0]; exact ⟨rfl, rfl⟩
    · rw [if_neg c0, if_neg c0, if_neg c0, if_neg c0, h.low hF hh c0, bd_some, bd_some, abs_z]
      by_cases c1 : absI (lowF (fun i => T.1 58 i) (bt set) 1000000 nn - lowF (fun i => T.1 58 i) (bt had) 1000000 nn) ≤ T.1 57 4
      · rw [if_pos c1, if_pos c1, if_pos c1, if_pos c1]; exact ⟨rfl, rfl⟩
      · rw [if_neg c1, if_neg c1, if_neg c1, if_neg c1]; exact ⟨rfl, rfl⟩
  have key : ∀ c : Int32, j_K_clashesOfHand_28 F G T had set (lowF (fun i => T.1 58 i) (bt set) 1000000 nn) c = some (
      let c := if highF (fun i => T.1 58 i) (bt set) (-1) nn - lowF (fun i => T.1 58 i) (bt set) 1000000 nn ≤ T.1 57 2 then c else c ||| 2
      if had = 0 then c else if absI (lowF (fun i => T.1 58 i) (bt set) 1000000 nn - lowF (fun i => T.1 58 i) (bt had) 1000000 nn) ≤ T.1 57 4 then c else c ||| 16) := by
    intro c
    unfold j_K_clashesOfHand_28
    rw [h.high hF hs h0, bd_some]
    by_cases c1 : highF (fun i => T.1 58 i) (bt set) (-1) nn - lowF (fun i => T.1 58 i) (bt set) 1000000 nn ≤ T.1 57 2
    · rw [if_pos c1, (key2 c).1]; simp only [if_pos c1]
    · rw [if_neg c1, (key2 c).2]; simp only [if_neg c1]
  by_cases c2 : nI (cnt (bt set) 12) ≤ T.1 57 3
  · rw [if_pos c2, key]; simp only [if_pos c2]
  · rw [if_neg c2, key]; simp only [if_neg c2]
theorem tw1_up {key : Nat → Int32} {set : Int32} {a b : Nat} (h : tw1 key set a b = true) : ∀ j, tw1 key set a (b + j) = true
  | 0 => h
  | j + 1 => by show (tw1 key set a (b + j) || _) = true; rw [tw1_up h j]; rfl
theorem tw_up {key : Nat → Int32} {set : Int32} {a : Nat} (h : tw key set a = true) : ∀ j, tw key set (a + j) = true
  | 0 => h
  | j + 1 => by show (tw key set (a + j) || _) = true; rw [tw_up h j]; rfl
theorem K_tw1 {n : Nat} (hn : n ≤ 10) {set : Int32} {a : Nat} (ha : a < n) (k : Option Int32) : ∀ r b f, a - b = r → b ≤ a → r < f → tw1 (fun i => T.1 58 i) set a b = false → fx1 (b_K_hasKeyTwice_27 F G T set (nI a) 1 k) f (nI b) = if tw1 (fun i => T.1 58 i) set a a then some 1 else k := by
  intro r
  induction r with
  | zero =>
    intro b f hr hb hf ht
    obtain ⟨g, rfl⟩ : ∃ g, f = g + 1 := ⟨f - 1, by omega⟩
    have e : b = a := by omega
    subst e
    rw [fx1_s]
    unfold b_K_hasKeyTwice_27
    rw [if_neg (show ¬ (1 : Int32) = 0 by decide), if_pos (nI_le (Nat.le_refl b) (by omega)), ht]
    rfl
  | succ r ih =>
    intro b f hr hb hf ht
    obtain ⟨g, rfl⟩ : ∃ g, f = g + 1 := ⟨f - 1, by omega⟩
    have ih' := ih (b + 1) g (by omega) (by omega) (by omega)
    rw [fx1_s]
    generalize fx1 (b_K_hasKeyTwice_27 F G T set (nI a) 1 k) g = rec at ih' ⊢
    have st : tw1 (fun i => T.1 58 i) set a (b + 1) = (bt set b && decide (T.1 58 a = T.1 58 b)) := by
      show (tw1 (fun i => T.1 58 i) set a b || _) = _
      rw [ht, Bool.false_or]
    unfold b_K_hasKeyTwice_27
    rw [if_neg (show ¬ (1 : Int32) = 0 by decide), if_neg (show ¬ nI a ≤ nI b from fun z => by have := (nI_le_i (by omega) (by omega)).mp z; omega), gd_t (inB_nI (by omega) (by decide)), gd_t (inB_nI (by omega) (by decide)), nI_clamp (by omega), nI_clamp (by omega), lt_eq, nI_1]
    by_cases c : bt set b = true
    · rw [if_neg (show ¬ ((set >>> (nI b &&& 31)) &&& 1 = 0) from fun z => by rw [(bit_0 set (by omega)).mp z] at c; exact absurd c (by decide))]
      by_cases d : T.1 58 a = T.1 58 b
      · have t := tw1_up (key := fun i => T.1 58 i) (set := set) (a := a) (b := b + 1) (by rw [st, c, decide_eq_true d]; rfl) (a - (b + 1))
        rw [show b + 1 + (a - (b + 1)) = a by omega] at t
        rw [if_pos d, t]; rfl
      · rw [if_neg d, ih' (by rw [st, decide_eq_false d, Bool.and_false])]
    · rw [if_pos ((bit_0 set (by omega)).mpr (by simpa using c)), ih' (by rw [st]; simp [c])]
theorem K_twice (hF : 100000 ≤ F) {n : Nat} (h1 : T.1 57 1 = nI n) (hn : n ≤ 10) (set : Int32) : fK_hasKeyTwice F G T set = some (b2i (tw (fun i => T.1 58 i) set n)) := by
  unfold fK_hasKeyTwice
  have main : ∀ r a f, n - a = r → 1 ≤ a → (n ≤ a → a = 1 ∨ a = n) → r < f → tw (fun i => T.1 58 i) set a = false → fx1 (b_K_hasKeyTwice_2 F G T set) f (nI a) = some (b2i (tw (fun i => T.1 58 i) set n)) := by
    intro r
    induction r with
    | zero =>
      intro a f hr h1a hna hf ht
      obtain ⟨g, rfl⟩ : ∃ g, f = g + 1 := ⟨f - 1, by omega⟩
      rw [fx1_s]
      unfold b_K_hasKeyTwice_2
      have e : tw (fun i => T.1 58 i) set n = false := by
        rcases hna (by omega) with q | q
        · rcases (by omega : n = 0 ∨ n = 1) with z | z
          · rw [z]; rfl
          · rw [z, ← q]; exact ht
        · rw [← q]; exact ht
      rw [h1, if_pos ((nI_le_i (by omega) (by rcases hna (by omega) with q | q <;> omega)).mpr (by omega)), e]
      rfl
    | succ r ih =>
      intro a f hr h1a hna hf ht
      obtain ⟨g, rfl⟩ : ∃ g, f = g + 1 := ⟨f - 1, by omega⟩
      have ih' := ih (a + 1) g (by omega) (by omega) (fun z => by omega) (by omega)
      rw [fx1_s]
      generalize fx1 (b_K_hasKeyTwice_2 F G T set) g = rec at ih' ⊢
      have st : tw (fun i => T.1 58 i) set (a + 1) = (bt set a && tw1 (fun i => T.1 58 i) set a a) := by
        show (tw (fun i => T.1 58 i) set a || _) = _
        rw [ht, Bool.false_or]
      unfold b_K_hasKeyTwice_2
      rw [h1, if_neg (nI_ge (show a < n by omega) (by omega)), lt_eq, nI_1]
      by_cases c : bt set a = true
      · rw [if_neg (show ¬ ((set >>> (nI a &&& 31)) &&& 1 = 0) from fun z => by rw [(bit_0 set (by omega)).mp z] at c; exact absurd c (by decide))]
        have q := K_tw1 (F := F) (G := G) (T := T) hn (set := set) (a := a) (show a < n by omega) (rec (nI (a + 1))) a 0 F rfl (by omega) (by omega) rfl
        refine Eq.trans q ?_
        by_cases d : tw1 (fun i => T.1 58 i) set a a = true
        · have t := tw_up (key := fun i => T.1 58 i) (set := set) (a := a + 1) (by rw [st, c, d]; rfl) (n - (a + 1))
          rw [show a + 1 + (n - (a + 1)) = n by omega] at t
          rw [if_pos d, t]; rfl
        · rw [if_neg d]
          exact ih' (by rw [st]; simp [d])
      · rw [if_pos ((bit_0 set (by omega)).mpr (by simpa using c))]
        obtain ⟨F', hF'⟩ : ∃ F', F = F' + 1 := ⟨F - 1, by omega⟩
        have q : ∀ f, f = F' + 1 → fx1 (b_K_hasKeyTwice_27 F G T set (nI a) 0 (rec (nI (a + 1)))) f 0 = rec (nI (a + 1)) := by
          rintro _ rfl
          rw [fx1_s]
          unfold b_K_hasKeyTwice_27
          rw [if_pos rfl]
        refine Eq.trans (q F hF') ?_
        exact ih' (by rw [st]; simp [c])
  exact main (n - 1) 1 F rfl (by omega) (fun z => by omega) (by omega) (by show (false || (bt set 0 && false)) = false; simp)
theorem K_between (hF : 100000 ≤ F) {nn bs : Nat} (h : KB T nn bs) {l r ah he : Int32} (ha : Sub ah nn) (hh : Sub he nn) : fK_clashesBetween F G T l r ah he = some (clB (fun i => T.1 58 i) nn (T.1 57 4) (T.1 57 3) (T.1 57 2) (l &&& he) (r &&& he) (l &&& ah) (r &&& ah)) := by
  have sl : Sub (l &&& he) nn := hh.and
  have sr : Sub (r &&& he) nn := hh.and
  have key2 : ∀ c : Int32, j_K_clashesBetween_64 F G T (l &&& he) (r &&& he) c = some (if tw (fun i => T.1 58 i) ((l &&& he) ||| (r &&& he)) nn then c ||| 8 else c) := by
    intro c
    unfold j_K_clashesBetween_64
    rw [K_twice hF h.2.2.2.1 h.1, bd_some]
    cases tw (fun i => T.1 58 i) ((l &&& he) ||| (r &&& he)) nn
    · rw [if_pos (show b2i false = 0 from rfl), Int32.or_zero]; rfl
    · rfl
  unfold fK_clashesBetween clB
  rw [lt_eq, lt_eq, K_own hF h sl ha.and, bd_some, K_own hF h sr ha.and, bd_some, lt_eq]
  by_cases h1 : l &&& he = 0
  · rw [if_pos h1, key2]
    simp only [if_pos h1]
  · rw [if_neg h1]
    by_cases h2 : r &&& he = 0
    · rw [if_pos h2, key2]
      simp only [if_neg h1, if_pos h2]
    · rw [if_neg h2, h.high hF sl h1, bd_some, h.low hF sr h2, bd_some]
      by_cases h3 : highF (fun i => T.1 58 i) (bt (l &&& he)) (-1) nn < lowF (fun i => T.1 58 i) (bt (r &&& he)) 1000000 nn
      · rw [if_pos h3, key2]
        simp only [if_neg h1, if_neg h2, if_pos h3]
      · rw [if_neg h3, lt_eq, key2]
        simp only [if_neg h1, if_neg h2, if_neg h3]
/-- the clashes of beat b, by what the class has laid -/
def clK (T : St) (n : Nat) (l r : Int32) (b : Nat) : Int32 := clB (fun i => T.1 58 i) n (T.1 57 4) (T.1 57 3) (T.1 57 2) (l &&& T.1 61 b) (r &&& T.1 61 b) (l &&& ahd (T.1 61) b) (r &&& ahd (T.1 61) b)
theorem K_timelyAt {nn bs : Nat} (h : KB T nn bs) {b : Nat} (hb : b < bs) : fK_timelyAt F G T (nI b) = some (T.1 61 b) := by
  obtain ⟨k1, k2, k3, -⟩ := h
  unfold fK_timelyAt
  rw [if_neg (nI_nn (by omega)), k3, if_neg (nI_ge hb (by omega)), if_neg (show ¬ (12 : Int32) ≤ nI b from nI_ge (b := 12) (by omega) (by decide)), gd_t (inB_nI (by omega) (by decide)), nI_clamp (by omega)]
theorem K_ahead {nn bs : Nat} (h : KB T nn bs) {b : Nat} (hb : b < bs) : fK_timelyAt F G T (nI b - 1) = some (ahd (T.1 61) b) ∧ Sub (ahd (T.1 61) b) nn := by
  cases b with
  | zero =>
    refine ⟨?_, Sub.zero⟩
    unfold fK_timelyAt
    rw [if_pos (by decide)]; rfl
  | succ b =>
    rw [show nI (b + 1) - 1 = nI b from nI_pred b]
    exact ⟨K_timelyAt h (by omega), h.2.2.2.2.2 b (by omega)⟩
theorem K_clashesAt (hF : 100000 ≤ F) {nn bs : Nat} (h : KB T nn bs) {l r : Int32} {b : Nat} (hb : b < bs) : fK_clashesAt F G T l r (nI b) = some (clK T nn l r b) := by
  obtain ⟨a1, a2⟩ := K_ahead (F := F) (G := G) h hb
  unfold fK_clashesAt
  rw [a1, bd_some, K_timelyAt h hb, bd_some, K_between hF h a2 (h.2.2.2.2.2 b hb), bd_some]
  rfl
theorem K_clashing (hF : 100000 ≤ F) {nn bs : Nat} (h : KB T nn bs) (l r : Int32) : fK_clashingBeats F G T l r = some (mset (fun b => decide (¬ clK T nn l r b = 0)) bs) := by
  unfold fK_clashingBeats
  have hbs := h.2.1
  have h0 := h.2.2.1
  refine for_or (N := bs) (k := some) (by omega) _ (fun rec a => by unfold b_K_clashingBeats_5; rw [h0, if_pos (nI_le (Nat.le_refl bs) (by omega))]) (fun rec a b hi => ?_) (by omega)
  unfold b_K_clashingBeats_5
  rw [h0, if_neg (nI_ge hi (by omega)), K_clashesAt hF h hi, bd_some]
  by_cases hc : clK T nn l r b = 0
  · rw [if_pos hc, lt_eq, nI_1, decide_eq_false (fun z => z hc), if_neg (show ¬ false = true by decide), Int32.or_zero]
  · rw [if_neg hc, lt_eq, lt_eq, nI_1, decide_eq_true hc, if_pos rfl]
theorem K_canBe (hF : 100000 ≤ F) {nn bs : Nat} (h : KB T nn bs) (l r : Int32) : fK_canBePlayed F G T l r = some (b2i (canP (clK T nn l r) bs)) := by
  unfold fK_canBePlayed
  have hbs := h.2.1
  have h0 := h.2.2.1
  have main : ∀ m a f, a + m = bs → m < f → canP (clK T nn l r) a = true → fx1 (b_K_canBePlayed_2 F G T l r) f (nI a) = some (b2i (canP (clK T nn l r) bs)) := by
    intro m
    induction m with
    | zero =>
      intro a f ha hf hv
      obtain ⟨g, rfl⟩ : ∃ g, f = g + 1 := ⟨f - 1, by omega⟩
      have e : a = bs := by omega
      subst e
      rw [fx1_s]
      unfold b_K_canBePlayed_2
      rw [h0, if_pos (nI_le (Nat.le_refl a) (by omega)), hv]; rfl
    | succ m ih =>
      intro a f ha hf hv
      obtain ⟨g, rfl⟩ : ∃ g, f = g + 1 := ⟨f - 1, by omega⟩
      have ih' := ih (a + 1) g (by omega) (by omega)
      rw [fx1_s]
      generalize fx1 (b_K_canBePlayed_2 F G T l r) g = rec at ih' ⊢
      unfold b_K_canBePlayed_2
      rw [h0, if_neg (nI_ge (by omega) (by omega)), K_clashesAt hF h (by omega), bd_some]
      have st : canP (clK T nn l r) (a + 1) = decide (clK T nn l r a = 0) := by
        show (canP _ a && _) = _
        rw [hv, Bool.true_and]
      by_cases hc : clK T nn l r a = 0
      · rw [if_pos hc, lt_eq, nI_1]
        exact ih' (by rw [st]; exact decide_eq_true hc)
      · rw [if_neg hc]
        have t := canP_up (c := clK T nn l r) (a := a + 1) (by rw [st]; exact decide_eq_false hc) m
        rw [show a + 1 + m = bs by omega] at t
        rw [t]; rfl
  exact main bs 0 F (by omega) (by omega) rfl
end KV
theorem lowF_c {key key' : Nat → Int32} {p : Nat → Bool} {z : Int32} : ∀ {n}, (∀ i, i < n → key i = key' i) → lowF key p z n = lowF key' p z n
  | 0, _ => rfl
  | n + 1, h => by rw [lowF, lowF, lowF_c (n := n) (fun i hi => h i (by omega)), h n (by omega)]
theorem highF_c {key key' : Nat → Int32} {p : Nat → Bool} {z : Int32} : ∀ {n}, (∀ i, i < n → key i = key' i) → highF key p z n = highF key' p z n
  | 0, _ => rfl
  | n + 1, h => by rw [highF, highF, highF_c (n := n) (fun i hi => h i (by omega)), h n (by omega)]
theorem tw1_c {key key' : Nat → Int32} {set : Int32} {a : Nat} (ha : key a = key' a) : ∀ {b}, (∀ i, i < b → key i = key' i) → tw1 key set a b = tw1 key' set a b
  | 0, _ => rfl
  | b + 1, h => by rw [tw1, tw1, tw1_c ha (b := b) (fun i hi => h i (by omega)), h b (by omega), ha]
theorem tw_c {key key' : Nat → Int32} {set : Int32} : ∀ {n}, (∀ i, i < n → key i = key' i) → tw key set n = tw key' set n
  | 0, _ => rfl
  | n + 1, h => by rw [tw, tw, tw_c (n := n) (fun i hi => h i (by omega)), tw1_c (h n (by omega)) (fun i hi => h i (by omega))]
theorem clB_c {key key' : Nat → Int32} {n : Nat} {leap fing span l r la ra : Int32} (h : ∀ i, i < n → key i = key' i) : clB key n leap fing span l r la ra = clB key' n leap fing span l r la ra := by
  unfold clB ownC
  simp only [lowF_c h, highF_c h, tw_c h]
