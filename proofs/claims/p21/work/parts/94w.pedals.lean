/-! THE FEWEST PEDALS: beat by beat, against all sets -/
/-- the latest pedal up to b, of a set as a number -/
def snN (x : Nat) : Nat → Nat
  | 0 => 0
  | b + 1 => if x.testBit (b + 1) = true then b + 1 else snN x b
def pcN (x : Nat) : Nat := cnt (fun i => x.testBit i) 12
/-- fewer, or as many and not greater -/
def le2 (x y : Nat) : Prop := pcN x < pcN y ∨ (pcN x = pcN y ∧ x ≤ y)
theorem le2_anti {x y : Nat} (h1 : le2 x y) (h2 : le2 y x) : x = y := by
  unfold le2 at h1 h2; omega
theorem le2_tr {x y z : Nat} (h1 : le2 x y) (h2 : le2 y z) : le2 x z := by
  unfold le2 at h1 h2 ⊢; omega
theorem cnt_flip {p q : Nat → Bool} {j : Nat} (hp : p j = true) (hq : q j = false) (h : ∀ i, i ≠ j → p i = q i) : ∀ n, j < n → cnt p n = cnt q n + 1
  | 0, z => absurd z (Nat.not_lt_zero j)
  | n + 1, z => by
    rw [cnt, cnt]
    by_cases e : j = n
    · subst e
      rw [hp, hq, cnt_c (p := p) (q := q) (fun i hi => h i (by omega))]
      rfl
    · rw [cnt_flip hp hq h n (by omega), h n (fun c => e c.symm)]
      omega
theorem bt_nI {x i : Nat} (hi : i < 32) : bt (nI x) i = x.testBit i := by
  have e : (nI x).toBitVec = BitVec.ofNat 32 x := rfl
  show (nI x).toBitVec.getLsbD i = _
  rw [e, BitVec.getLsbD_ofNat, decide_eq_true hi, Bool.true_and]
theorem pc_nI (x : Nat) : cnt (bt (nI x)) 12 = pcN x := cnt_c fun i hi => bt_nI (by omega)
theorem snc_nI {x : Nat} : ∀ {b : Nat}, b < 31 → snc (nI x) b = snN x b
  | 0, _ => rfl
  | b + 1, h => by rw [snc, snN, bt_nI (by omega), snc_nI (b := b) (by omega)]
theorem sn_le {x : Nat} : ∀ b, snN x b ≤ b
  | 0 => Nat.le_refl _
  | b + 1 => by
    have := sn_le (x := x) b
    rw [snN]; split <;> omega
theorem sn_c {x y : Nat} : ∀ {b : Nat}, (∀ i, 1 ≤ i → i ≤ b → x.testBit i = y.testBit i) → snN x b = snN y b
  | 0, _ => rfl
  | b + 1, h => by rw [snN, snN, h (b + 1) (by omega) (by omega), sn_c (b := b) (fun i h1 h2 => h i h1 (by omega))]
/-- it can be played up to beat b: fr c (the latest up to the beat ahead) (the latest up to c) -/
def okP (fr : Nat → Nat → Nat → Bool) (x b : Nat) : Prop := ∀ c, c ≤ b → fr c (snN x (c - 1)) (snN x c) = true
def inA (fr : Nat → Nat → Nat → Bool) (b s x : Nat) : Prop := x < 2 ^ (b + 1) ∧ x.testBit 0 = false ∧ snN x b = s ∧ okP fr x b
theorem ok_c {fr : Nat → Nat → Nat → Bool} {x y b : Nat} (h : ∀ i, 1 ≤ i → i ≤ b → x.testBit i = y.testBit i) (k : okP fr x b) : okP fr y b := fun c hc => by
  have := k c hc
  rw [sn_c (x := x) (y := y) (b := c - 1) (fun i h1 h2 => h i h1 (by omega)), sn_c (x := x) (y := y) (b := c) (fun i h1 h2 => h i h1 (by omega))] at this
  exact this
/-- the least of those with P, or none -/
def Mn (P : Nat → Prop) (v : Int32) : Prop := (v = -1 ∧ ∀ x, ¬ P x) ∨ ∃ x, v = nI x ∧ x < 4096 ∧ P x ∧ ∀ y, P y → le2 x y
theorem Mn.c {P Q : Nat → Prop} {v : Int32} (h : Mn P v) (e : ∀ x, P x ↔ Q x) : Mn Q v := by
  rcases h with ⟨h1, h2⟩ | ⟨x, h1, h2, h3, h4⟩
  · exact Or.inl ⟨h1, fun x z => h2 x ((e x).mpr z)⟩
  · exact Or.inr ⟨x, h1, h2, (e x).mp h3, fun y z => h4 y ((e y).mpr z)⟩
def btF (u v : Int32) : Int32 := if u = -1 then v else if v = -1 then u else if nI (cnt (bt u) 12) - nI (cnt (bt v) 12) < 0 then u else if nI (cnt (bt u) 12) - nI (cnt (bt v) 12) = 0 then (if v ≤ u then v else u) else v
theorem Mn.bt {P Q : Nat → Prop} {u v : Int32} (h : Mn P u) (k : Mn Q v) : Mn (fun x => P x ∨ Q x) (btF u v) := by
  unfold btF
  rcases h with ⟨h1, h2⟩ | ⟨x, h1, h2, h3, h4⟩
  · rw [if_pos h1]
    exact k.c fun x => ⟨Or.inr, fun z => z.elim (fun y => absurd y (h2 x)) id⟩
  · rw [if_neg (by rw [h1]; exact nI_m1 (by omega))]
    rcases k with ⟨k1, k2⟩ | ⟨y, k1, k2, k3, k4⟩
    · rw [if_pos k1]
      exact Or.inr ⟨x, h1, h2, Or.inl h3, fun z hz => hz.elim (h4 z) (fun q => absurd q (k2 z))⟩
    · have cx := cnt_le (p := fun i => x.testBit i) (n := 12)
      have cy := cnt_le (p := fun i => y.testBit i) (n := 12)
      have px : pcN x ≤ 12 := cx
      have py : pcN y ≤ 12 := cy
      have sb : (nI (pcN x) - nI (pcN y)).toInt = (pcN x : Int) - pcN y := by
        rw [Int32.toInt_sub, nI_toInt (by omega), nI_toInt (by omega), i32b (by omega) (by omega)]
      have tox : le2 x y → Mn (fun x => P x ∨ Q x) u := fun q => Or.inr ⟨x, h1, h2, Or.inl h3, fun z hz => hz.elim (h4 z) (fun w => le2_tr q (k4 z w))⟩
      have toy : le2 y x → Mn (fun x => P x ∨ Q x) v := fun q => Or.inr ⟨y, k1, k2, Or.inr k3, fun z hz => hz.elim (fun w => le2_tr q (h4 z w)) (k4 z)⟩
      rw [if_neg (by rw [k1]; exact nI_m1 (by omega)), h1, k1, pc_nI, pc_nI]
      rw [h1] at tox
      rw [k1] at toy
      have z0 : (0 : Int32).toInt = 0 := rfl
      by_cases c1 : nI (pcN x) - nI (pcN y) < 0
      · rw [if_pos c1]
        rw [Int32.lt_iff_toInt_lt, sb, z0] at c1
        exact tox (Or.inl (by omega))
      · rw [if_neg c1]
        rw [Int32.lt_iff_toInt_lt, sb, z0] at c1
        by_cases c2 : nI (pcN x) - nI (pcN y) = 0
        · rw [if_pos c2]
          have e : pcN x = pcN y := by
            have := congrArg Int32.toInt c2
            rw [sb, z0] at this; omega
          by_cases c3 : nI y ≤ nI x
          · rw [if_pos c3]
            exact toy (Or.inr ⟨e.symm, (nI_le_i (by omega) (by omega)).mp c3⟩)
          · rw [if_neg c3]
            have : ¬ y ≤ x := fun z => c3 ((nI_le_i (by omega) (by omega)).mpr z)
            exact tox (Or.inr ⟨e, by omega⟩)
        · rw [if_neg c2]
          refine toy (Or.inl ?_)
          have : ¬ (pcN x : Int) - pcN y = 0 := fun z => c2 (Int32.toInt_inj.mp (by rw [sb, z0]; exact z))
          omega
/-- a pedal more at the end -/
theorem tb_add {x b i : Nat} (hx : x < 2 ^ b) : (x + 2 ^ b).testBit i = (decide (i = b) || x.testBit i) := by
  rw [Nat.add_comm]
  rcases Nat.lt_trichotomy i b with h | h | h
  · rw [Nat.testBit_two_pow_add_gt h, decide_eq_false (by omega), Bool.false_or]
  · subst h
    rw [Nat.testBit_two_pow_add_eq, Nat.testBit_lt_two_pow hx, decide_eq_true rfl]; rfl
  · have h1 : 2 ^ b + x < 2 ^ i := by
      have : 2 ^ (b + 1) ≤ 2 ^ i := Nat.pow_le_pow_right (by decide) h
      have e : 2 ^ (b + 1) = 2 ^ b + 2 ^ b := by rw [Nat.pow_succ]; omega
      omega
    have h2 : x < 2 ^ i := by omega
    rw [Nat.testBit_lt_two_pow h1, Nat.testBit_lt_two_pow h2, decide_eq_false (by omega)]; rfl
theorem pc_add {x b : Nat} (hx : x < 2 ^ b) (hb : b < 12) : pcN (x + 2 ^ b) = pcN x + 1 := by
  unfold pcN
  refine cnt_flip (j := b) ?_ (Nat.testBit_lt_two_pow hx) (fun i hi => ?_) 12 hb
  · show (x + 2 ^ b).testBit b = true
    rw [tb_add hx, decide_eq_true rfl]; rfl
  · show (x + 2 ^ b).testBit i = x.testBit i
    rw [tb_add hx, decide_eq_false hi, Bool.false_or]
theorem nI_or {x b : Nat} (hx : x < 2 ^ b) (hb : b < 31) : nI x ||| ((1 : Int32) <<< (nI b &&& 31)) = nI (x + 2 ^ b) := by
  apply bt_ext
  intro i hi
  rw [bt_or, bt_one (by omega) hi, bt_nI hi, bt_nI hi, tb_add hx, Bool.or_comm]
theorem pow12 {n : Nat} (h : n ≤ 12) : 2 ^ n ≤ 4096 := Nat.pow_le_pow_right (n := 2) (by decide) h
/-- the sets with a pedal at b, out of those before -/
theorem Mn.add {fr : Nat → Nat → Nat → Bool} {b s : Nat} {v : Int32} (hb : b + 1 < 12) (h : Mn (inA fr b s) v) (hf : fr (b + 1) s (b + 1) = true) : Mn (fun x => ∃ y, inA fr b s y ∧ x = y + 2 ^ (b + 1)) (if v = -1 then -1 else v ||| ((1 : Int32) <<< (nI (b + 1) &&& 31))) := by
  rcases h with ⟨h1, h2⟩ | ⟨x, h1, h2, h3, h4⟩
  · rw [if_pos h1]
    exact Or.inl ⟨rfl, fun x ⟨y, y1, _⟩ => h2 y y1⟩
  · have p := pow12 (n := b + 2) (by omega)
    have e : 2 ^ (b + 2) = 2 ^ (b + 1) + 2 ^ (b + 1) := by rw [Nat.pow_succ]; omega
    have x1 := h3.1
    rw [if_neg (by rw [h1]; exact nI_m1 (by omega)), h1, nI_or x1 (by omega)]
    refine Or.inr ⟨x + 2 ^ (b + 1), rfl, by omega, ⟨x, h3, rfl⟩, fun z ⟨y, y1, y2⟩ => ?_⟩
    have q := h4 y y1
    unfold le2 at q ⊢
    rw [y2, pc_add x1 (by omega), pc_add y1.1 (by omega)]
    omega
theorem inA_add {fr : Nat → Nat → Nat → Bool} {b x : Nat} : inA fr (b + 1) (b + 1) x ↔ ∃ s, s ≤ b ∧ fr (b + 1) s (b + 1) = true ∧ ∃ y, inA fr b s y ∧ x = y + 2 ^ (b + 1) := by
  constructor
  · intro ⟨h1, h2, h3, h4⟩
    have tb : x.testBit (b + 1) = true := by
      rw [snN] at h3
      by_cases c : x.testBit (b + 1) = true
      · exact c
      · rw [if_neg c] at h3
        have := sn_le (x := x) b
        omega
    have ge : 2 ^ (b + 1) ≤ x := Nat.ge_two_pow_of_testBit tb
    have e : 2 ^ (b + 1 + 1) = 2 ^ (b + 1) + 2 ^ (b + 1) := by rw [Nat.pow_succ]; omega
    obtain ⟨y, rfl⟩ : ∃ y, x = y + 2 ^ (b + 1) := ⟨x - 2 ^ (b + 1), by omega⟩
    have hy : y < 2 ^ (b + 1) := by omega
    have bits : ∀ i, i ≤ b → (y + 2 ^ (b + 1)).testBit i = y.testBit i := fun i hi => by rw [tb_add hy, decide_eq_false (by omega), Bool.false_or]
    have s1 : ∀ c, c ≤ b → snN (y + 2 ^ (b + 1)) c = snN y c := fun c hc => sn_c fun i _ h2 => bits i (by omega)
    refine ⟨snN y b, sn_le b, ?_, y, ⟨hy, ?_, rfl, ?_⟩, rfl⟩
    · have := h4 (b + 1) (Nat.le_refl _)
      rw [Nat.add_sub_cancel, s1 b (Nat.le_refl _), h3] at this
      exact this
    · rw [← bits 0 (Nat.zero_le _)]; exact h2
    · exact ok_c (fun i _ h2 => bits i h2) (fun c hc => h4 c (by omega))
  · intro ⟨s, hs, hf, y, ⟨y1, y2, y3, y4⟩, e⟩
    subst e
    have e : 2 ^ (b + 1 + 1) = 2 ^ (b + 1) + 2 ^ (b + 1) := by rw [Nat.pow_succ]; omega
    have bits : ∀ i, i ≤ b → (y + 2 ^ (b + 1)).testBit i = y.testBit i := fun i hi => by rw [tb_add y1, decide_eq_false (by omega), Bool.false_or]
    have s1 : ∀ c, c ≤ b → snN (y + 2 ^ (b + 1)) c = snN y c := fun c hc => sn_c fun i _ h2 => bits i (by omega)
    have tp : snN (y + 2 ^ (b + 1)) (b + 1) = b + 1 := by
      rw [snN, if_pos]
      rw [tb_add y1, decide_eq_true rfl]; rfl
    refine ⟨by omega, by rw [bits 0 (Nat.zero_le _)]; exact y2, tp, fun c hc => ?_⟩
    by_cases z : c = b + 1
    · subst z
      rw [tp, Nat.add_sub_cancel, s1 b (Nat.le_refl _), y3]; exact hf
    · rw [s1 c (by omega), s1 (c - 1) (by omega)]; exact y4 c (by omega)
theorem inA_keep {fr : Nat → Nat → Nat → Bool} {b s x : Nat} (hs : s ≤ b) : inA fr (b + 1) s x ↔ fr (b + 1) s s = true ∧ inA fr b s x := by
  constructor
  · intro ⟨h1, h2, h3, h4⟩
    have tb : x.testBit (b + 1) = false := by
      rw [snN] at h3
      by_cases c : x.testBit (b + 1) = true
      · rw [if_pos c] at h3; omega
      · simpa using c
    have lt : x < 2 ^ (b + 1) := by
      apply Nat.lt_pow_two_of_testBit
      intro i hi
      by_cases z : i = b + 1
      · rw [z]; exact tb
      · exact Nat.testBit_lt_two_pow (Nat.lt_of_lt_of_le h1 (Nat.pow_le_pow_right (by decide) (by omega)))
    have h3' : snN x b = s := by
      rw [snN, if_neg (by rw [tb]; decide)] at h3; exact h3
    have f := h4 (b + 1) (Nat.le_refl _)
    rw [Nat.add_sub_cancel, h3', h3] at f
    exact ⟨f, lt, h2, h3', fun c hc => h4 c (by omega)⟩
  · intro ⟨f, h1, h2, h3, h4⟩
    have tb : x.testBit (b + 1) = false := Nat.testBit_lt_two_pow h1
    have h3' : snN x (b + 1) = s := by rw [snN, if_neg (by rw [tb]; decide)]; exact h3
    refine ⟨Nat.lt_of_lt_of_le h1 (Nat.pow_le_pow_right (by decide) (by omega)), h2, h3', fun c hc => ?_⟩
    by_cases z : c = b + 1
    · subst z
      rw [h3', Nat.add_sub_cancel, h3]; exact f
    · exact h4 c (by omega)
theorem Mn.uni {P Q : Nat → Prop} {u v : Int32} (h : Mn P u) (k : Mn Q v) (e : ∀ x, P x → Q x) (r : ∀ x, Q x → P x ∨ ∃ y, Q y ∧ ¬ le2 x y) : u = v := by
  rcases k with ⟨k1, k2⟩ | ⟨y, k1, k2, k3, k4⟩
  · rcases h with ⟨h1, -⟩ | ⟨x, -, -, h3, -⟩
    · rw [h1, k1]
    · exact absurd (e x h3) (k2 x)
  · have py : P y := by
      rcases r y k3 with z | ⟨z, z1, z2⟩
      · exact z
      · exact absurd (k4 z z1) z2
    rcases h with ⟨-, h2⟩ | ⟨x, h1, -, h3, h4⟩
    · exact absurd py (h2 y)
    · rw [h1, k1, le2_anti (h4 y py) (k4 x (e x h3))]
