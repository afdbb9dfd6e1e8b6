/-! WHAT CAN BE PLAYED, note by note and pair by pair -/
theorem low_is {key : Nat → Int32} {p : Nat → Bool} : ∀ n, (∀ i, i < n → iv (key i) 0 87) → (∀ j, j < n → p j = true → lowF key p 1000000 n ≤ key j) ∧ (((∀ j, j < n → p j = false) ∧ lowF key p 1000000 n = 1000000) ∨ ∃ i, i < n ∧ p i = true ∧ lowF key p 1000000 n = key i)
  | 0, _ => ⟨fun j hj => by omega, Or.inl ⟨fun j hj => by omega, rfl⟩⟩
  | n + 1, h => by
    obtain ⟨h1, h2⟩ := low_is (key := key) (p := p) n (fun i hi => h i (by omega))
    rw [lowF]
    by_cases c : p n = true ∧ key n < lowF key p 1000000 n
    · rw [if_pos c]
      refine ⟨fun j hj hp => ?_, Or.inr ⟨n, by omega, c.1, rfl⟩⟩
      by_cases z : j = n
      · rw [z]; exact Int32.le_refl _
      · exact Int32.le_of_lt (Int32.lt_of_lt_of_le c.2 (h1 j (by omega) hp))
    · rw [if_neg c]
      refine ⟨fun j hj hp => ?_, ?_⟩
      · by_cases z : j = n
        · rw [z] at hp ⊢; exact Int32.not_lt.mp (fun q => c ⟨hp, q⟩)
        · exact h1 j (by omega) hp
      · rcases h2 with ⟨e1, e2⟩ | ⟨i, i1, i2, i3⟩
        · by_cases hp : p n = true
          · refine absurd ⟨hp, ?_⟩ c
            rw [e2, Int32.lt_iff_toInt_lt, show (1000000 : Int32).toInt = 1000000 from rfl]
            have := (h n (by omega)).2; omega
          · refine Or.inl ⟨fun j hj => ?_, e2⟩
            by_cases z : j = n
            · rw [z]; simpa using hp
            · exact e1 j (by omega)
        · exact Or.inr ⟨i, by omega, i2, i3⟩
theorem high_is {key : Nat → Int32} {p : Nat → Bool} : ∀ n, (∀ i, i < n → iv (key i) 0 87) → (∀ j, j < n → p j = true → key j ≤ highF key p (-1) n) ∧ (((∀ j, j < n → p j = false) ∧ highF key p (-1) n = -1) ∨ ∃ i, i < n ∧ p i = true ∧ highF key p (-1) n = key i)
  | 0, _ => ⟨fun j hj => by omega, Or.inl ⟨fun j hj => by omega, rfl⟩⟩
  | n + 1, h => by
    obtain ⟨h1, h2⟩ := high_is (key := key) (p := p) n (fun i hi => h i (by omega))
    rw [highF]
    by_cases c : p n = true ∧ highF key p (-1) n < key n
    · rw [if_pos c]
      refine ⟨fun j hj hp => ?_, Or.inr ⟨n, by omega, c.1, rfl⟩⟩
      by_cases z : j = n
      · rw [z]; exact Int32.le_refl _
      · exact Int32.le_trans (h1 j (by omega) hp) (Int32.le_of_lt c.2)
    · rw [if_neg c]
      refine ⟨fun j hj hp => ?_, ?_⟩
      · by_cases z : j = n
        · rw [z] at hp ⊢; exact Int32.not_lt.mp (fun q => c ⟨hp, q⟩)
        · exact h1 j (by omega) hp
      · rcases h2 with ⟨e1, e2⟩ | ⟨i, i1, i2, i3⟩
        · by_cases hp : p n = true
          · refine absurd ⟨hp, ?_⟩ c
            rw [e2, Int32.lt_iff_toInt_lt, show (-1 : Int32).toInt = -1 from rfl]
            have := (h n (by omega)).1; omega
          · refine Or.inl ⟨fun j hj => ?_, e2⟩
            by_cases z : j = n
            · rw [z]; simpa using hp
            · exact e1 j (by omega)
        · exact Or.inr ⟨i, by omega, i2, i3⟩
theorem tw1_iff {key : Nat → Int32} {set : Int32} {a : Nat} : ∀ b, tw1 key set a b = true ↔ ∃ j, j < b ∧ bt set j = true ∧ key a = key j
  | 0 => ⟨fun z => absurd (show false = true from z) (by decide), fun ⟨j, hj, _⟩ => by omega⟩
  | b + 1 => by
    rw [tw1, Bool.or_eq_true, tw1_iff b, Bool.and_eq_true, decide_eq_true_eq]
    refine ⟨fun z => ?_, fun ⟨j, j1, j2, j3⟩ => ?_⟩
    · rcases z with ⟨j, j1, j2⟩ | z
      · exact ⟨j, by omega, j2⟩
      · exact ⟨b, by omega, z⟩
    · by_cases e : j = b
      · rw [e] at j2 j3; exact Or.inr ⟨j2, j3⟩
      · exact Or.inl ⟨j, by omega, j2, j3⟩
theorem tw_iff {key : Nat → Int32} {set : Int32} : ∀ n, tw key set n = true ↔ ∃ i j, i < n ∧ j < i ∧ bt set i = true ∧ bt set j = true ∧ key i = key j
  | 0 => ⟨fun z => absurd (show false = true from z) (by decide), fun ⟨i, _, hi, _⟩ => by omega⟩
  | n + 1 => by
    rw [tw, Bool.or_eq_true, tw_iff n, Bool.and_eq_true, tw1_iff]
    refine ⟨fun z => ?_, fun ⟨i, j, i1, i2, i3, i4, i5⟩ => ?_⟩
    · rcases z with ⟨i, j, i1, i2⟩ | ⟨z, j, j1, j2, j3⟩
      · exact ⟨i, j, by omega, i2⟩
      · exact ⟨n, j, by omega, j1, z, j2, j3⟩
    · by_cases e : i = n
      · rw [e] at i2 i3 i5; exact Or.inr ⟨i3, j, i2, i4, i5⟩
      · exact Or.inl ⟨i, j, by omega, i2, i3, i4, i5⟩
theorem or_z {x y : Int32} : x ||| y = 0 ↔ x = 0 ∧ y = 0 := by
  refine ⟨fun e => ⟨?_, ?_⟩, fun ⟨h1, h2⟩ => by rw [h1, h2]; decide⟩
  · apply bt_ext
    intro i hi
    have t := congrArg (fun v => bt v i) e
    simp only [bt_or, bt_0] at t
    rw [bt_0]
    cases q : bt x i
    · rfl
    · rw [q] at t; exact absurd t (by simp)
  · apply bt_ext
    intro i hi
    have t := congrArg (fun v => bt v i) e
    simp only [bt_or, bt_0] at t
    rw [bt_0]
    cases q : bt y i
    · rfl
    · rw [q] at t; exact absurd t (by simp)
theorem ownC_0 {key : Nat → Int32} {n : Nat} {leap set had fing span : Int32} : ownC key n leap set had fing span = 0 ↔ set = 0 ∨ (nI (cnt (bt set) 12) ≤ fing ∧ highF key (bt set) (-1) n - lowF key (bt set) 1000000 n ≤ span ∧ (had = 0 ∨ absI (lowF key (bt set) 1000000 n - lowF key (bt had) 1000000 n) ≤ leap)) := by
  have n16 : ∀ c : Int32, ¬ c ||| 16 = 0 := fun c z => absurd (or_z.mp z).2 (by decide)
  have n2 : ∀ c : Int32, ¬ c ||| 2 = 0 := fun c z => absurd (or_z.mp z).2 (by decide)
  unfold ownC
  by_cases h0 : set = 0
  · rw [if_pos h0]; exact ⟨fun _ => Or.inl h0, fun _ => rfl⟩
  rw [if_neg h0]
  by_cases c1 : nI (cnt (bt set) 12) ≤ fing <;> by_cases c2 : highF key (bt set) (-1) n - lowF key (bt set) 1000000 n ≤ span <;> by_cases c3 : had = 0 <;> by_cases c4 : absI (lowF key (bt set) 1000000 n - lowF key (bt had) 1000000 n) ≤ leap <;> simp [h0, c1, c2, c3, c4, n16, n2]
theorem clB_0 {key : Nat → Int32} {n : Nat} {leap fing span l r la ra : Int32} : clB key n leap fing span l r la ra = 0 ↔ ownC key n leap l la fing span = 0 ∧ ownC key n leap r ra fing span = 0 ∧ (l = 0 ∨ r = 0 ∨ highF key (bt l) (-1) n < lowF key (bt r) 1000000 n) ∧ tw key (l ||| r) n = false := by
  have n4 : ∀ c : Int32, ¬ c ||| 4 = 0 := fun c z => absurd (or_z.mp z).2 (by decide)
  have n8 : ∀ c : Int32, ¬ c ||| 8 = 0 := fun c z => absurd (or_z.mp z).2 (by decide)
  unfold clB
  generalize ownC key n leap l la fing span = a
  generalize ownC key n leap r ra fing span = b
  cases t : tw key (l ||| r) n
  · by_cases c1 : l = 0 <;> by_cases c2 : r = 0 <;> by_cases c3 : highF key (bt l) (-1) n < lowF key (bt r) 1000000 n <;> simp [c1, c2, c3, n4, or_z]
  · simp [n8]
/-- a pair in one hand -/
def smP (key : Nat → Int32) (sp : Nat) (i j : Nat) : Prop := key i ≠ key j ∧ (key i).toInt - (key j).toInt ≤ sp ∧ (key j).toInt - (key i).toInt ≤ sp
/-- a pair of notes that sound at one beat -/
def prP (key : Nat → Int32) (sp : Nat) (l r : Int32) (i j : Nat) : Prop := (bt l i = true → bt l j = true → smP key sp i j) ∧ (bt r i = true → bt r j = true → smP key sp i j) ∧ (bt l i = true → bt r j = true → (key i).toInt < (key j).toInt) ∧ (bt r i = true → bt l j = true → (key j).toInt < (key i).toInt)
def lpO (key : Nat → Int32) (nn : Nat) (leap a x : Int32) : Prop := x = 0 ∨ a = 0 ∨ absI (lowF key (bt x) 1000000 nn - lowF key (bt a) 1000000 nn) ≤ leap
theorem cnt_0 {p : Nat → Bool} : ∀ {n : Nat}, (∀ i, i < n → p i = false) → cnt p n = 0
  | 0, _ => rfl
  | n + 1, h => by rw [cnt, cnt_0 (fun i hi => h i (by omega)), h n (by omega)]; rfl
/-- a beat can be played: by counts, pairs and leaps -/
theorem beat_iff {key : Nat → Int32} {nn fg sp : Nat} {leap l r la ra : Int32} (hn : nn ≤ 10) (hk : ∀ i, i < nn → iv (key i) 0 87) (hf : fg ≤ 5) (hs : sp ≤ 87) (hl : Sub l nn) (hr : Sub r nn) (hd : ∀ i, i < nn → ¬ (bt l i = true ∧ bt r i = true)) : clB key nn leap (nI fg) (nI sp) l r la ra = 0 ↔ (cnt (bt l) nn ≤ fg ∧ cnt (bt r) nn ≤ fg) ∧ (∀ i, i < nn → ∀ j, j < i → prP key sp l r i j) ∧ lpO key nn leap la l ∧ lpO key nn leap ra r := by
  have c12 : ∀ {x : Int32}, Sub x nn → cnt (bt x) 12 = cnt (bt x) nn := fun {x} hx => by
    rw [show 12 = nn + (12 - nn) by omega, cnt_up (fun i h1 h2 => hx i h1 (by omega))]
  have own : ∀ {x a : Int32}, Sub x nn → (ownC key nn leap x a (nI fg) (nI sp) = 0 ↔ cnt (bt x) nn ≤ fg ∧ (∀ i j, i < nn → j < nn → bt x i = true → bt x j = true → (key i).toInt - (key j).toInt ≤ sp) ∧ lpO key nn leap a x) := fun {x a} hx => by
    rw [ownC_0, c12 hx]
    have cl := cnt_le (p := bt x) (n := nn)
    by_cases h0 : x = 0
    · refine ⟨fun _ => ⟨?_, fun i j _ _ z => ?_, Or.inl h0⟩, fun _ => Or.inl h0⟩
      · rw [cnt_0 (fun i hi => by rw [h0, bt_0])]; omega
      · rw [h0, bt_0] at z; exact absurd z (by decide)
    · obtain ⟨e, e1, e2⟩ := hx.ne h0
      obtain ⟨l1, l2⟩ := low_is (key := key) (p := bt x) nn hk
      obtain ⟨g1, g2⟩ := high_is (key := key) (p := bt x) nn hk
      have li : ∃ i, i < nn ∧ bt x i = true ∧ lowF key (bt x) 1000000 nn = key i := l2.resolve_left (fun z => by rw [z.1 e e1] at e2; exact absurd e2 (by decide))
      have gi : ∃ i, i < nn ∧ bt x i = true ∧ highF key (bt x) (-1) nn = key i := g2.resolve_left (fun z => by rw [z.1 e e1] at e2; exact absurd e2 (by decide))
      obtain ⟨a1, a2, a3, a4⟩ := li
      obtain ⟨b1, b2, b3, b4⟩ := gi
      have ka := hk a1 a2
      have kb := hk b1 b2
      have sub : (highF key (bt x) (-1) nn - lowF key (bt x) 1000000 nn).toInt = (key b1).toInt - (key a1).toInt := by
        rw [a4, b4, Int32.toInt_sub, i32b (by have := ka.2; have := kb.1; omega) (by have := ka.1; have := kb.2; omega)]
      have w : (highF key (bt x) (-1) nn - lowF key (bt x) 1000000 nn ≤ nI sp) ↔ ∀ i j, i < nn → j < nn → bt x i = true → bt x j = true → (key i).toInt - (key j).toInt ≤ sp := by
        rw [Int32.le_iff_toInt_le, sub, nI_toInt (by omega)]
        refine ⟨fun z i j hi hj pi pj => ?_, fun z => z b1 a1 b2 a2 b3 a3⟩
        have u1 := g1 i hi pi
        have u2 := l1 j hj pj
        rw [b4, Int32.le_iff_toInt_le] at u1
        rw [a4, Int32.le_iff_toInt_le] at u2
        omega
      rw [w, nI_le_i (by omega) (by omega)]
      unfold lpO
      refine ⟨fun z => ?_, fun z => ?_⟩
      · rcases z with z | z
        · exact absurd z h0
        · exact ⟨z.1, z.2.1, Or.inr z.2.2⟩
      · refine Or.inr ⟨z.1, z.2.1, ?_⟩
        rcases z.2.2 with q | q
        · exact absurd q h0
        · exact q
  have cr : (l = 0 ∨ r = 0 ∨ highF key (bt l) (-1) nn < lowF key (bt r) 1000000 nn) ↔ ∀ i j, i < nn → j < nn → bt l i = true → bt r j = true → (key i).toInt < (key j).toInt := by
    obtain ⟨l1, l2⟩ := low_is (key := key) (p := bt r) nn hk
    obtain ⟨g1, g2⟩ := high_is (key := key) (p := bt l) nn hk
    constructor
    · intro z i j hi hj pi pj
      rcases z with z | z | z
      · rw [z, bt_0] at pi; exact absurd pi (by decide)
      · rw [z, bt_0] at pj; exact absurd pj (by decide)
      · have u1 := g1 i hi pi
        have u2 := l1 j hj pj
        rw [Int32.le_iff_toInt_le] at u1 u2
        rw [Int32.lt_iff_toInt_lt] at z
        omega
    · intro z
      by_cases h0 : l = 0
      · exact Or.inl h0
      by_cases h1 : r = 0
      · exact Or.inr (Or.inl h1)
      obtain ⟨e, e1, e2⟩ := hl.ne h0
      obtain ⟨f, f1, f2⟩ := hr.ne h1
      obtain ⟨b1, b2, b3, b4⟩ := g2.resolve_left (fun z => by rw [z.1 e e1] at e2; exact absurd e2 (by decide))
      obtain ⟨a1, a2, a3, a4⟩ := l2.resolve_left (fun z => by rw [z.1 f f1] at f2; exact absurd f2 (by decide))
      refine Or.inr (Or.inr ?_)
      rw [Int32.lt_iff_toInt_lt, a4, b4]
      exact z b1 a1 b2 a2 b3 a3
  rw [clB_0, own hl, own hr, cr]
  have twf : tw key (l ||| r) nn = false ↔ ∀ i j, i < nn → j < i → (bt l i = true ∨ bt r i = true) → (bt l j = true ∨ bt r j = true) → key i ≠ key j := by
    rw [Bool.eq_false_iff]
    constructor
    · intro z i j hi hj pi pj e
      refine z ((tw_iff nn).mpr ⟨i, j, hi, hj, ?_, ?_, e⟩)
      · rw [bt_or, Bool.or_eq_true]; exact pi
      · rw [bt_or, Bool.or_eq_true]; exact pj
    · intro z w
      obtain ⟨i, j, i1, i2, i3, i4, i5⟩ := (tw_iff nn).mp w
      rw [bt_or, Bool.or_eq_true] at i3 i4
      exact z i j i1 i2 i3 i4 i5
  rw [twf]
  constructor
  · intro ⟨⟨p1, p2, p3⟩, ⟨q1, q2, q3⟩, r1, r2⟩
    refine ⟨⟨p1, q1⟩, fun i hi j hj => ⟨fun a b => ⟨r2 i j hi hj (Or.inl a) (Or.inl b), p2 i j hi (by omega) a b, p2 j i (by omega) hi b a⟩, fun a b => ⟨r2 i j hi hj (Or.inr a) (Or.inr b), q2 i j hi (by omega) a b, q2 j i (by omega) hi b a⟩, fun a b => r1 i j hi (by omega) a b, fun a b => r1 j i (by omega) hi b a⟩, p3, q3⟩
  · intro ⟨⟨p1, q1⟩, pr, p3, q3⟩
    have one : ∀ {x : Int32}, (∀ i j, i < nn → j < i → bt x i = true → bt x j = true → smP key sp i j) → ∀ i j, i < nn → j < nn → bt x i = true → bt x j = true → (key i).toInt - (key j).toInt ≤ sp := fun {x} h i j hi hj a b => by
      rcases Nat.lt_trichotomy i j with z | z | z
      · exact (h j i hj z b a).2.2
      · rw [z]; omega
      · exact (h i j hi z a b).2.1
    refine ⟨⟨p1, one (fun i j hi hj a b => (pr i hi j hj).1 a b), p3⟩, ⟨q1, one (fun i j hi hj a b => (pr i hi j hj).2.1 a b), q3⟩, fun i j hi hj a b => ?_, fun i j hi hj a b => ?_⟩
    · rcases Nat.lt_trichotomy i j with z | z | z
      · exact (pr j hj i z).2.2.2 b a
      · rw [z] at a; exact absurd ⟨a, b⟩ (hd j hj)
      · exact (pr i hi j z).2.2.1 a b
    · obtain ⟨s1, s2, s3, s4⟩ := pr i hi j hj
      rcases a with a | a <;> rcases b with b | b
      · exact (s1 a b).1
      · intro e; have := s3 a b; rw [e] at this; omega
      · intro e; have := s4 a b; rw [e] at this; omega
      · exact (s2 a b).1
