/-! WHAT CAN BE PLAYED, as the search finds it: up to a note -/
def tgP (hd : Nat → Int32) (bs i j : Nat) : Prop := ∃ b, b < bs ∧ bt (hd b) i = true ∧ bt (hd b) j = true
/-- no note from n on sounds at the beats b and b + 1 -/
def tpP (hd : Nat → Int32) (nn n b : Nat) : Prop := ∀ i, n ≤ i → i < nn → bt (hd b) i = false ∧ bt (hd (b + 1)) i = false
def ctP (hd : Nat → Int32) (bs fg n : Nat) (x : Int32) : Prop := ∀ b, b < bs → cnt (bt (x &&& hd b)) n ≤ fg
def lvP (key hd : Nat → Int32) (nn : Nat) (leap l r : Int32) (b : Nat) : Prop := lpO key nn leap (l &&& hd b) (l &&& hd (b + 1)) ∧ lpO key nn leap (r &&& hd b) (r &&& hd (b + 1))
def GP (key hd : Nat → Int32) (nn bs fg sp : Nat) (leap : Int32) (n : Nat) (l r : Int32) : Prop := (∀ i, i < n → ∀ j, j < i → tgP hd bs i j → prP key sp l r i j) ∧ (ctP hd bs fg n l ∧ ctP hd bs fg n r) ∧ ∀ b, b + 1 < bs → tpP hd nn n b → lvP key hd nn leap l r b
/-- leaps that the note n settles -/
def leP (key hd : Nat → Int32) (nn bs : Nat) (leap : Int32) (n : Nat) (l r : Int32) : Prop := ∀ b, b + 1 < bs → tpP hd nn (n + 1) b → ¬ tpP hd nn n b → lvP key hd nn leap l r b
def plB (key hd : Nat → Int32) (nn bs fg sp : Nat) (leap l r : Int32) : Bool := canP (fun b => clB key nn leap (nI fg) (nI sp) (l &&& hd b) (r &&& hd b) (l &&& ahd hd b) (r &&& ahd hd b)) bs
section GO
variable {key hd : Nat → Int32} {nn bs fg sp : Nat} {leap : Int32}
theorem pl_iff (hn : nn ≤ 10) (hk : ∀ i, i < nn → iv (key i) 0 87) (hf : fg ≤ 5) (hs : sp ≤ 87) {l r : Int32} (hl : Sub l nn) (hr : Sub r nn) (hdj : ∀ i, i < nn → ¬ (bt l i = true ∧ bt r i = true)) : plB key hd nn bs fg sp leap l r = true ↔ GP key hd nn bs fg sp leap nn l r := by
  have bi := fun b : Nat => beat_iff (key := key) (nn := nn) (fg := fg) (sp := sp) (leap := leap) (l := l &&& hd b) (r := r &&& hd b) (la := l &&& ahd hd b) (ra := r &&& ahd hd b) hn hk hf hs (Sub.andL hl) (Sub.andL hr) (fun i hi z => by
    rw [bt_and, bt_and, Bool.and_eq_true, Bool.and_eq_true] at z
    exact hdj i hi ⟨z.1.1, z.2.1⟩)
  unfold plB
  rw [canP_iff]
  constructor
  · intro h
    have h' := fun b hb => (bi b).mp (h b hb)
    refine ⟨fun i hi j hj ⟨b, b1, b2, b3⟩ => ?_, ⟨fun b hb => (h' b hb).1.1, fun b hb => (h' b hb).1.2⟩, fun b hb _ => (h' (b + 1) hb).2.2⟩
    obtain ⟨p1, p2, p3, p4⟩ := (h' b b1).2.1 i hi j hj
    have on : ∀ {x : Int32} {k : Nat}, bt (hd b) k = true → bt x k = true → bt (x &&& hd b) k = true := fun {x k} a c => by rw [bt_and, a, c]; rfl
    exact ⟨fun a c => p1 (on b2 a) (on b3 c), fun a c => p2 (on b2 a) (on b3 c), fun a c => p3 (on b2 a) (on b3 c), fun a c => p4 (on b2 a) (on b3 c)⟩
  · intro ⟨g1, ⟨g2, g3⟩, g4⟩ b hb
    refine (bi b).mpr ⟨⟨g2 b hb, g3 b hb⟩, fun i hi j hj => ?_, ?_⟩
    · have of : ∀ {x : Int32} {k : Nat}, bt (x &&& hd b) k = true → bt x k = true ∧ bt (hd b) k = true := fun {x k} a => by
        rw [bt_and, Bool.and_eq_true] at a; exact a
      have pr : bt (hd b) i = true → bt (hd b) j = true → prP key sp l r i j := fun a c => g1 i hi j hj ⟨b, hb, a, c⟩
      exact ⟨fun a c => (pr (of a).2 (of c).2).1 (of a).1 (of c).1, fun a c => (pr (of a).2 (of c).2).2.1 (of a).1 (of c).1, fun a c => (pr (of a).2 (of c).2).2.2.1 (of a).1 (of c).1, fun a c => (pr (of a).2 (of c).2).2.2.2 (of a).1 (of c).1⟩
    · cases b with
      | zero =>
        have z : ∀ x : Int32, x &&& ahd hd 0 = 0 := fun x => by
          apply bt_ext
          intro i hi
          show bt (x &&& 0) i = bt 0 i
          rw [bt_and, bt_0, Bool.and_false]
        exact ⟨Or.inr (Or.inl (z l)), Or.inr (Or.inl (z r))⟩
      | succ c => exact g4 c hb (fun i h1 h2 => by omega)
theorem cnt_mono {p : Nat → Bool} {n : Nat} : cnt p n ≤ cnt p (n + 1) := by rw [cnt]; omega
theorem GP.mono {n : Nat} {l r : Int32} (h : GP key hd nn bs fg sp leap (n + 1) l r) : GP key hd nn bs fg sp leap n l r := by
  obtain ⟨h1, ⟨h2, h3⟩, h4⟩ := h
  refine ⟨fun i hi => h1 i (by omega), ⟨fun b hb => Nat.le_trans cnt_mono (h2 b hb), fun b hb => Nat.le_trans cnt_mono (h3 b hb)⟩, fun b hb ht => h4 b hb (fun i i1 i2 => ht i (by omega) i2)⟩
def agr (n : Nat) (x y : Int32) : Prop := ∀ i, i < n → bt x i = bt y i
theorem and_agr {n b : Nat} {x y : Int32} (hd0 : Sub (hd b) nn) (h : agr n x y) (z : ∀ i, n ≤ i → i < nn → bt (hd b) i = false) : x &&& hd b = y &&& hd b := by
  apply bt_ext
  intro i hi
  rw [bt_and, bt_and]
  by_cases c : i < n
  · rw [h i c]
  · by_cases d : i < nn
    · rw [z i (by omega) d, Bool.and_false, Bool.and_false]
    · rw [hd0 i (by omega) hi, Bool.and_false, Bool.and_false]
theorem GP.c {n : Nat} {l r l' r' : Int32} (hb : ∀ b, b < bs → Sub (hd b) nn) (hn : n ≤ nn) (h : GP key hd nn bs fg sp leap n l r) (a1 : agr n l l') (a2 : agr n r r') : GP key hd nn bs fg sp leap n l' r' := by
  obtain ⟨h1, ⟨h2, h3⟩, h4⟩ := h
  refine ⟨fun i hi j hj t => ?_, ⟨fun b hb' => ?_, fun b hb' => ?_⟩, fun b hb' t => ?_⟩
  · have p := h1 i hi j hj t
    unfold prP at p ⊢
    rw [← a1 i hi, ← a1 j (by omega), ← a2 i hi, ← a2 j (by omega)]; exact p
  · rw [cnt_c (q := bt (l &&& hd b)) (fun i hi => by rw [bt_and, bt_and, a1 i hi])]; exact h2 b hb'
  · rw [cnt_c (q := bt (r &&& hd b)) (fun i hi => by rw [bt_and, bt_and, a2 i hi])]; exact h3 b hb'
  · have q := h4 b hb' t
    unfold lvP at q ⊢
    rw [← and_agr (hb b (by omega)) a1 (fun i i1 i2 => (t i i1 i2).1), ← and_agr (hb (b + 1) hb') a1 (fun i i1 i2 => (t i i1 i2).2), ← and_agr (hb b (by omega)) a2 (fun i i1 i2 => (t i i1 i2).1), ← and_agr (hb (b + 1) hb') a2 (fun i i1 i2 => (t i i1 i2).2)]
    exact q
theorem GP.down {l r : Int32} : ∀ {k n : Nat}, GP key hd nn bs fg sp leap (n + k) l r → GP key hd nn bs fg sp leap n l r
  | 0, _, h => h
  | k + 1, n, h => GP.down (k := k) (GP.mono h)
/-- one note more -/
theorem G_s {n : Nat} {l r : Int32} : GP key hd nn bs fg sp leap (n + 1) l r ↔ GP key hd nn bs fg sp leap n l r ∧ (∀ j, j < n → tgP hd bs n j → prP key sp l r n j) ∧ (∀ b, b < bs → bt (hd b) n = true → cnt (bt (l &&& hd b)) (n + 1) ≤ fg ∧ cnt (bt (r &&& hd b)) (n + 1) ≤ fg) ∧ leP key hd nn bs leap n l r := by
  constructor
  · intro h
    exact ⟨h.mono, fun j hj t => h.1 n (by omega) j hj t, fun b hb _ => ⟨h.2.1.1 b hb, h.2.1.2 b hb⟩, fun b hb t _ => h.2.2 b hb t⟩
  · intro ⟨⟨h1, ⟨h2, h3⟩, h4⟩, p, q, w⟩
    have keep : ∀ {x : Int32} {b : Nat}, bt (hd b) n = false → cnt (bt (x &&& hd b)) (n + 1) = cnt (bt (x &&& hd b)) n := fun {x b} z => by
      rw [cnt, bt_and, z, Bool.and_false]; rfl
    refine ⟨fun i hi j hj t => ?_, ⟨fun b hb => ?_, fun b hb => ?_⟩, fun b hb t => ?_⟩
    · by_cases z : i = n
      · rw [z] at hj t ⊢; exact p j hj t
      · exact h1 i (by omega) j hj t
    · cases z : bt (hd b) n
      · rw [keep z]; exact h2 b hb
      · exact (q b hb z).1
    · cases z : bt (hd b) n
      · rw [keep z]; exact h3 b hb
      · exact (q b hb z).2
    · by_cases z : tpP hd nn n b
      · exact h4 b hb z
      · exact w b hb t z
theorem bt_b1 {n i : Nat} (hn : n < 32) (hi : i < 32) : bt (bit1 n) i = decide (i = n) := bt_one hn hi
theorem agr_b {n : Nat} {x : Int32} (hn : n < 32) : agr n x (x ||| bit1 n) := fun i hi => by
  rw [bt_or, bt_b1 hn (by omega), decide_eq_false (by omega), Bool.or_false]
theorem bt_at {n : Nat} {x : Int32} (hn : n < 32) : bt (x ||| bit1 n) n = true := by
  rw [bt_or, bt_b1 hn hn, decide_eq_true rfl, Bool.or_true]
theorem Sub.b1 {n : Nat} {x : Int32} (h : Sub x n) (hn : n < 32) : Sub (x ||| bit1 n) (n + 1) := fun i h1 h2 => by
  rw [bt_or, h i (by omega) h2, bt_b1 hn h2, decide_eq_false (by omega)]; rfl
/-- what the class asks of a note in the left -/
def frL (key hd : Nat → Int32) (bs sp n : Nat) (l r : Int32) : Prop := ∀ j, j < n → tgP hd bs n j → (bt l j = true → smP key sp n j) ∧ (bt r j = true → (key n).toInt < (key j).toInt)
def frR (key hd : Nat → Int32) (bs sp n : Nat) (l r : Int32) : Prop := ∀ j, j < n → tgP hd bs n j → (bt r j = true → smP key sp n j) ∧ (bt l j = true → (key j).toInt < (key n).toInt)
def fiP (hd : Nat → Int32) (bs fg n : Nat) (x : Int32) : Prop := ∀ b, b < bs → bt (hd b) n = true → cnt (bt (x &&& hd b)) (n + 1) ≤ fg
theorem cnt_out {n b : Nat} {x : Int32} (hx : Sub x n) (hn : n < 32) : cnt (bt (x &&& hd b)) (n + 1) = cnt (bt (x &&& hd b)) n := by
  rw [cnt, bt_and, hx n (Nat.le_refl _) hn, Bool.false_and]; rfl
theorem G_left {n : Nat} {l r : Int32} (hb : ∀ b, b < bs → Sub (hd b) nn) (hn : n < nn) (n10 : nn ≤ 10) (hl : Sub l n) (hr : Sub r n) (g : GP key hd nn bs fg sp leap n l r) : GP key hd nn bs fg sp leap (n + 1) (l ||| bit1 n) r ↔ frL key hd bs sp n l r ∧ fiP hd bs fg n (l ||| bit1 n) ∧ leP key hd nn bs leap n (l ||| bit1 n) r := by
  have ab := agr_b (n := n) (x := l) (by omega)
  have rn : bt r n = false := hr n (Nat.le_refl _) (by omega)
  rw [G_s]
  constructor
  · intro ⟨_, p, q, w⟩
    refine ⟨fun j hj t => ?_, fun b hb' z => (q b hb' z).1, w⟩
    obtain ⟨p1, p2, p3, p4⟩ := p j hj t
    exact ⟨fun a => p1 (bt_at (by omega)) (by rw [← ab j hj]; exact a), fun a => p3 (bt_at (by omega)) a⟩
  · intro ⟨p, q, w⟩
    refine ⟨g.c hb (by omega) ab (fun i _ => rfl), fun j hj t => ⟨fun _ a => (p j hj t).1 (by rw [ab j hj]; exact a), fun a => by rw [rn] at a; exact absurd a (by decide), fun _ a => (p j hj t).2 a, fun a => by rw [rn] at a; exact absurd a (by decide)⟩, fun b hb' z => ⟨q b hb' z, ?_⟩, w⟩
    rw [cnt_out hr (by omega)]; exact g.2.1.2 b hb'
theorem G_right {n : Nat} {l r : Int32} (hb : ∀ b, b < bs → Sub (hd b) nn) (hn : n < nn) (n10 : nn ≤ 10) (hl : Sub l n) (hr : Sub r n) (g : GP key hd nn bs fg sp leap n l r) : GP key hd nn bs fg sp leap (n + 1) l (r ||| bit1 n) ↔ frR key hd bs sp n l r ∧ fiP hd bs fg n (r ||| bit1 n) ∧ leP key hd nn bs leap n l (r ||| bit1 n) := by
  have ab := agr_b (n := n) (x := r) (by omega)
  have ln : bt l n = false := hl n (Nat.le_refl _) (by omega)
  rw [G_s]
  constructor
  · intro ⟨_, p, q, w⟩
    refine ⟨fun j hj t => ?_, fun b hb' z => (q b hb' z).2, w⟩
    obtain ⟨p1, p2, p3, p4⟩ := p j hj t
    exact ⟨fun a => p2 (bt_at (by omega)) (by rw [← ab j hj]; exact a), fun a => p4 (bt_at (by omega)) a⟩
  · intro ⟨p, q, w⟩
    refine ⟨g.c hb (by omega) (fun i _ => rfl) ab, fun j hj t => ⟨fun a => by rw [ln] at a; exact absurd a (by decide), fun _ a => (p j hj t).1 (by rw [ab j hj]; exact a), fun a => by rw [ln] at a; exact absurd a (by decide), fun _ a => (p j hj t).2 a⟩, fun b hb' z => ⟨?_, q b hb' z⟩, w⟩
    rw [cnt_out hl (by omega)]; exact g.2.1.1 b hb'
theorem G_out {n : Nat} {l r : Int32} (hn : n < nn) (n10 : nn ≤ 10) (hl : Sub l n) (hr : Sub r n) (g : GP key hd nn bs fg sp leap n l r) : GP key hd nn bs fg sp leap (n + 1) l r ↔ leP key hd nn bs leap n l r := by
  have ln : bt l n = false := hl n (Nat.le_refl _) (by omega)
  have rn : bt r n = false := hr n (Nat.le_refl _) (by omega)
  rw [G_s]
  refine ⟨fun z => z.2.2.2, fun w => ⟨g, fun j hj t => ⟨fun a => by rw [ln] at a; exact absurd a (by decide), fun a => by rw [rn] at a; exact absurd a (by decide), fun a => by rw [ln] at a; exact absurd a (by decide), fun a => by rw [rn] at a; exact absurd a (by decide)⟩, fun b hb' z => ⟨?_, ?_⟩, w⟩⟩
  · rw [cnt_out hl (by omega)]; exact g.2.1.1 b hb'
  · rw [cnt_out hr (by omega)]; exact g.2.1.2 b hb'
/-! the search over all, in order: left, right, out -/
def srch (pl : Int32 → Int32 → Bool) (mi : Nat → Nat) : Nat → Nat → Int32 → Int32 → Nat → Nat × Int32 × Int32 → Nat × Int32 × Int32
  | 0, _, l, r, lost, q => if lost < q.1 ∧ pl l r = true then (lost, l, r) else q
  | k + 1, n, l, r, lost, q => srch pl mi k (n + 1) l r (lost + mi n) (srch pl mi k (n + 1) l (r ||| bit1 n) lost (srch pl mi k (n + 1) (l ||| bit1 n) r lost q))
theorem sr_prune {pl : Int32 → Int32 → Bool} {mi : Nat → Nat} : ∀ {k n : Nat} {l r : Int32} {lost : Nat} {q : Nat × Int32 × Int32}, q.1 ≤ lost → srch pl mi k n l r lost q = q
  | 0, _, _, _, _, _, h => if_neg (fun z => by have := z.1; omega)
  | k + 1, n, l, r, lost, q, h => by
    rw [srch, sr_prune (k := k) h, sr_prune (k := k) h, sr_prune (k := k) (by omega)]
theorem sr_no {pl : Int32 → Int32 → Bool} {mi : Nat → Nat} {N : Nat} (hN : N ≤ 10) : ∀ {k n : Nat} {l r : Int32} {lost : Nat} {q : Nat × Int32 × Int32}, k + n = N → Sub l n → Sub r n → (∀ i, i < n → ¬ (bt l i = true ∧ bt r i = true)) → (∀ L R, Sub L N → Sub R N → (∀ i, i < N → ¬ (bt L i = true ∧ bt R i = true)) → agr n l L → agr n r R → pl L R = false) → srch pl mi k n l r lost q = q
  | 0, n, l, r, lost, q, e, hl, hr, hd, H => if_neg (fun z => by
      rw [H l r (by rw [← e]; simpa using hl) (by rw [← e]; simpa using hr) (fun i hi => hd i (by omega)) (fun _ _ => rfl) (fun _ _ => rfl)] at z
      exact absurd z.2 (by decide))
  | k + 1, n, l, r, lost, q, e, hl, hr, hd, H => by
    have dj : ∀ {x y : Int32}, Sub x n → Sub y n → (∀ i, i < n → ¬ (bt x i = true ∧ bt y i = true)) → ∀ i, i < n + 1 → ¬ (bt x i = true ∧ bt y i = true) := fun {x y} hx hy h i hi z => by
      by_cases c : i = n
      · have := hx i (by omega) (by omega)
        rw [this] at z; exact absurd z.1 (by decide)
      · exact h i (by omega) z
    have djl : ∀ i, i < n + 1 → ¬ (bt (l ||| bit1 n) i = true ∧ bt r i = true) := fun i hi z => by
      by_cases c : i = n
      · have := hr i (by omega) (by omega)
        rw [this] at z; exact absurd z.2 (by decide)
      · rw [← agr_b (n := n) (x := l) (by omega) i (by omega)] at z
        exact hd i (by omega) z
    have djr : ∀ i, i < n + 1 → ¬ (bt l i = true ∧ bt (r ||| bit1 n) i = true) := fun i hi z => by
      by_cases c : i = n
      · have := hl i (by omega) (by omega)
        rw [this] at z; exact absurd z.1 (by decide)
      · rw [← agr_b (n := n) (x := r) (by omega) i (by omega)] at z
        exact hd i (by omega) z
    have up : ∀ {x y : Int32}, agr n x y → ∀ {L : Int32}, agr (n + 1) y L → agr n x L := fun {x y} h1 {L} h2 i hi => (h1 i hi).trans (h2 i (by omega))
    have rf : ∀ x : Int32, agr n x x := fun x i _ => rfl
    rw [srch, sr_no hN (k := k) (by omega) (hl.b1 (by omega)) (hr.up (by omega)) djl (fun L R a b c d e => H L R a b c (up (agr_b (by omega)) d) (up (rf r) e)), sr_no hN (k := k) (by omega) (hl.up (by omega)) (hr.b1 (by omega)) djr (fun L R a b c d e => H L R a b c (up (rf l) d) (up (agr_b (by omega)) e)), sr_no hN (k := k) (by omega) (hl.up (by omega)) (hr.up (by omega)) (dj hl hr hd) (fun L R a b c d e => H L R a b c (up (rf l) d) (up (rf r) e))]
/-- what can't go on is of no use -/
theorem sr_bad (hn : nn ≤ 10) (hk : ∀ i, i < nn → iv (key i) 0 87) (hf : fg ≤ 5) (hs : sp ≤ 87) (hb : ∀ b, b < bs → Sub (hd b) nn) {mi : Nat → Nat} {k n : Nat} {l r : Int32} {lost : Nat} {q : Nat × Int32 × Int32} (e : k + n = nn) (hl : Sub l n) (hr : Sub r n) (hdj : ∀ i, i < n → ¬ (bt l i = true ∧ bt r i = true)) (bad : ¬ GP key hd nn bs fg sp leap n l r) : srch (plB key hd nn bs fg sp leap) mi k n l r lost q = q := by
  refine sr_no hn e hl hr hdj fun L R a b c d f => ?_
  rw [Bool.eq_false_iff]
  intro z
  have g := (pl_iff hn hk hf hs a b c).mp z
  rw [show nn = n + k by omega] at g
  have g2 : GP key hd nn bs fg sp leap n L R := by
    have : GP key hd (n + k) bs fg sp leap n L R := GP.down g
    rw [show n + k = nn by omega] at this; exact this
  exact bad (g2.c hb (by omega) (fun i hi => (d i hi).symm) (fun i hi => (f i hi).symm))
end GO
