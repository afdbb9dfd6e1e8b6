/-! PURE: clashes, as the reference has them -/
theorem M_truth {F G : Nat} (S : St) (x : Int32) : fM_truth F G S x = some (if x = 0 then 0 else 1) := by
  unfold fM_truth
  by_cases h : x = 0
  · rw [if_pos h, if_pos h]
  · rw [if_neg h, if_neg h]
def absI (x : Int32) : Int32 := if 0 ≤ x then x else -x
theorem M_plain {F G : Nat} (S : St) (x : Int32) : fM_plain F G S x = some (absI x) := by
  unfold fM_plain absI
  by_cases h : 0 ≤ x
  · rw [if_pos h, if_pos h]
  · rw [if_neg h, if_neg h]
def maxI (x y : Int32) : Int32 := if x ≤ y then y else x
theorem M_greater {F G : Nat} (S : St) (x y : Int32) : fM_greater F G S x y = some (maxI x y) := by
  unfold fM_greater maxI
  by_cases h : x ≤ y
  · rw [if_pos h, if_pos h]
  · rw [if_neg h, if_neg h]
theorem M_isIn {F G : Nat} (S : St) (x a b : Int32) : fM_isIn F G S x a b = some (if x < a ∨ b < x then 0 else 1) := by
  unfold fM_isIn
  by_cases h : x < a
  · rw [if_pos h, if_pos (Or.inl h)]
  · rw [if_neg h]
    by_cases h2 : b < x
    · rw [if_pos h2, if_pos (Or.inr h2)]
    · rw [if_neg h2, if_neg (by rintro (z | z) <;> contradiction)]
theorem isB_ite (c : Prop) [Decidable c] : isB (if c then (0 : Int32) else 1) = true := by
  by_cases h : c <;> simp [h, isB]
theorem isB_ite' (c : Prop) [Decidable c] : isB (if c then (1 : Int32) else 0) = true := by
  by_cases h : c <;> simp [h, isB]
theorem M_isNote {F G : Nat} (S : St) (x : Int32) : fM_isNote F G S x = some (if x < 0 ∨ S.1 78 48 - 1 < x then 0 else 1) := by
  unfold fM_isNote
  rw [M_isIn, bd_some, gd_t (isB_ite _)]
theorem M_isBeat {F G : Nat} (S : St) (x : Int32) : fM_isBeat F G S x = some (if x < 0 ∨ S.1 78 46 - 1 < x then 0 else 1) := by
  unfold fM_isBeat
  rw [M_isIn, bd_some, gd_t (isB_ite _)]
theorem M_isHand {F G : Nat} (S : St) (x : Int32) : fM_isHand F G S x = some (if x = 1 ∨ x = 2 then 1 else 0) := by
  unfold fM_isHand
  by_cases h : x = 1
  · rw [if_pos h, if_pos (Or.inl h)]
  · rw [if_neg h]
    by_cases h2 : x = 2
    · rw [if_pos h2, if_pos (Or.inr h2)]
    · rw [if_neg h2, if_neg (by rintro (z | z) <;> contradiction)]
/-- own clashes of a hand: its notes, those it had at the beat ahead -/
def ownC (key : Nat → Int32) (n : Nat) (leap set had fing span : Int32) : Int32 :=
  if set = 0 then 0
  else
    let c := if nI (cnt (bt set) 12) ≤ fing then (0 : Int32) else 1
    let c := if highF key (bt set) (-1) n - lowF key (bt set) 1000000 n ≤ span then c else c ||| 2
    if had = 0 then c else if absI (lowF key (bt set) 1000000 n - lowF key (bt had) 1000000 n) ≤ leap then c else c ||| 16
theorem M_ownClash {F G : Nat} {S : St} {n : Nat} (hn : S.1 78 48 = nI n) (hn2 : n ≤ 10) (hF : 12 < F) (set had fing span : Int32) : fM_ownClash F G S set had fing span = some (ownC (fun i => S.1 101 (10 + i)) n (S.1 78 51) set had fing span) := by
  have key : ∀ c : Int32, j_M_ownClash_19 F G S set had span c = some (
      let c := if highF (fun i => S.1 101 (10 + i)) (bt set) (-1) n - lowF (fun i => S.1 101 (10 + i)) (bt set) 1000000 n ≤ span then c else c ||| 2
      if had = 0 then c else if absI (lowF (fun i => S.1 101 (10 + i)) (bt set) 1000000 n - lowF (fun i => S.1 101 (10 + i)) (bt had) 1000000 n) ≤ S.1 78 51 then c else c ||| 16) := by
    intro c
    have key2 : ∀ c : Int32, j_M_ownClash_47 F G S had c (lowF (fun i => S.1 101 (10 + i)) (bt set) 1000000 n) = some (if had = 0 then c else if absI (lowF (fun i => S.1 101 (10 + i)) (bt set) 1000000 n - lowF (fun i => S.1 101 (10 + i)) (bt had) 1000000 n) ≤ S.1 78 51 then c else c ||| 16) := by
      intro c
      unfold j_M_ownClash_47
      by_cases h0 : had = 0
      · rw [if_pos h0, if_pos h0]
      · rw [if_neg h0, if_neg h0, M_lowest hn hn2 (by omega), bd_some, M_plain, bd_some]
        by_cases h1 : absI (lowF (fun i => S.1 101 (10 + i)) (bt set) 1000000 n - lowF (fun i => S.1 101 (10 + i)) (bt had) 1000000 n) ≤ S.1 78 51
        · rw [if_pos h1, if_pos h1]
        · rw [if_neg h1, if_neg h1, lt_eq]
    unfold j_M_ownClash_19
    rw [M_lowest hn hn2 (by omega), bd_some, M_highest hn hn2 (by omega), bd_some]
    by_cases h1 : highF (fun i => S.1 101 (10 + i)) (bt set) (-1) n - lowF (fun i => S.1 101 (10 + i)) (bt set) 1000000 n ≤ span
    · rw [if_pos h1, key2]
      simp only [if_pos h1]
    · rw [if_neg h1, lt_eq, key2]
      simp only [if_neg h1]
  unfold fM_ownClash ownC
  by_cases h0 : set = 0
  · rw [if_pos h0, if_pos h0]
  · rw [if_neg h0, if_neg h0, M_members hF, bd_some]
    by_cases h1 : nI (cnt (bt set) 12) ≤ fing
    · rw [if_pos h1, key]
      simp only [if_pos h1]
    · rw [if_neg h1, key]
      simp only [if_neg h1]
/-- two of one key in a set -/
def tw1 (key : Nat → Int32) (set : Int32) (a : Nat) : Nat → Bool
  | 0 => false
  | b + 1 => tw1 key set a b || (bt set b && decide (key a = key b))
def tw (key : Nat → Int32) (set : Int32) : Nat → Bool
  | 0 => false
  | a + 1 => tw key set a || (bt set a && tw1 key set a a)
def b2i (b : Bool) : Int32 := if b then 1 else 0
theorem b2i_0 {b : Bool} : b2i b = 0 ↔ b = false := by cases b <;> simp [b2i]
theorem isB_b2i (b : Bool) : isB (b2i b) = true := by cases b <;> rfl
theorem M_tw1 {F G : Nat} {S : St} {n : Nat} (hn2 : n ≤ 10) (hF : 10 < F) (set : Int32) {a : Nat} (ha : a < n) (k : Int32 → Option Int32) : fx2 (b_M_hasTwins_30 F G S set (nI a) k) F 0 0 = k (b2i (tw1 (fun i => S.1 101 (10 + i)) set a a)) := by
  refine for_acc (N := a) (k := k) (by omega) (fun b => b2i (tw1 (fun i => S.1 101 (10 + i)) set a b)) (fun b v => if v = 0 then b2i (bt set b && decide (S.1 101 (10 + a) = S.1 101 (10 + b))) else 1) (fun b _ => ?_) (fun rec v => by unfold b_M_hasTwins_30; rw [if_pos (nI_le (Nat.le_refl a) (by omega))])
    (fun rec v b hb => ?_) (by omega)
  · show b2i (tw1 _ set a b || (bt set b && decide (S.1 101 (10 + a) = S.1 101 (10 + b)))) = _
    cases tw1 (fun i => S.1 101 (10 + i)) set a b
    · simp [b2i]
    · simp [b2i]
  · unfold b_M_hasTwins_30
    rw [if_neg (nI_ge hb (by omega))]
    by_cases h0 : v = 0
    · rw [if_pos h0, if_pos h0, show (10 : Int32) = nI 10 from rfl, ten_add, ten_add, gd_t (inB_nI (by omega) (by decide)), gd_t (inB_nI (by omega) (by decide)), nI_clamp (by omega), nI_clamp (by omega), nI_1]
      simp only [lt_eq]
      by_cases hb1 : bt set b = true
      · rw [if_pos ((bit_1 set (by omega)).mpr hb1), hb1]
        by_cases hk : S.1 101 (10 + a) = S.1 101 (10 + b)
        · rw [if_pos hk]; simp [b2i, hk]
        · rw [if_neg hk]; simp [b2i, hk]
      · rw [if_neg (fun z => hb1 ((bit_1 set (by omega)).mp z))]
        simp [b2i, hb1]
    · rw [if_neg h0, if_neg h0, lt_eq, nI_1]
theorem M_hasTwins {F G : Nat} {S : St} {n : Nat} (hn : S.1 78 48 = nI n) (hn2 : n ≤ 10) (hF : 10 < F) (set : Int32) : fM_hasTwins F G S set = some (b2i (tw (fun i => S.1 101 (10 + i)) set n)) := by
  unfold fM_hasTwins
  have main : ∀ m a f, a + m = n → m < f → ∀ v : Bool, v = tw (fun i => S.1 101 (10 + i)) set a → fx2 (b_M_hasTwins_4 F G S set) f (b2i v) (nI a) = some (b2i (tw (fun i => S.1 101 (10 + i)) set n)) := by
    intro m
    induction m with
    | zero =>
      intro a f ha hf v hv
      obtain ⟨g, rfl⟩ : ∃ g, f = g + 1 := ⟨f - 1, by omega⟩
      show b_M_hasTwins_4 F G S set _ (b2i v) (nI a) = _
      unfold b_M_hasTwins_4
      have e : a = n := by omega
      subst e
      rw [hn, if_pos (nI_le (Nat.le_refl a) (by omega)), gd_t (isB_b2i v), hv]
    | succ m ih =>
      intro a f ha hf v hv
      obtain ⟨g, rfl⟩ : ∃ g, f = g + 1 := ⟨f - 1, by omega⟩
      have ih' := ih (a + 1) g (by omega) (by omega)
      show b_M_hasTwins_4 F G S set (fx2 (b_M_hasTwins_4 F G S set) g) (b2i v) (nI a) = _
      generalize fx2 (b_M_hasTwins_4 F G S set) g = rec at ih' ⊢
      unfold b_M_hasTwins_4
      rw [hn, if_neg (nI_ge (by omega) (by omega))]
      cases hv0 : v with
      | true =>
        rw [if_neg (by decide), gd_t (isB_b2i true)]
        have up : ∀ j, tw (fun i => S.1 101 (10 + i)) set (a + j) = true := by
          intro j
          induction j with
          | zero => rw [Nat.add_zero, ← hv, hv0]
          | succ j ihj => show (tw _ set (a + j) || _) = true; rw [ihj]; rfl
        have := up (m + 1)
        rw [ha] at this
        rw [this]
      | false =>
        rw [if_pos (by decide)]
        have hstep : tw (fun i => S.1 101 (10 + i)) set (a + 1) = (bt set a && tw1 (fun i => S.1 101 (10 + i)) set a a) := by
          show (tw _ set a || _) = _
          rw [← hv, hv0]; rfl
        by_cases hb : bt set a = true
        · rw [if_neg (fun z => by rw [(bit_0 set (by omega)).mp z] at hb; cases hb)]
          have := M_tw1 (F := F) (G := G) (S := S) (n := n) hn2 hF set (a := a) (by omega) (fun v20 => lt (nI a + 1) fun v21 => rec v20 v21)
          refine Eq.trans this ?_
          rw [lt_eq, nI_1]
          exact ih' _ (by rw [hstep, hb]; rfl)
        · have hb' : bt set a = false := by cases h : bt set a; rfl; exact absurd h hb
          rw [if_pos ((bit_0 set (by omega)).mpr hb'), lt_eq, nI_1]
          exact ih' false (by rw [hstep, hb']; rfl)
  have := main n 0 F (by omega) (by omega) false rfl
  exact this
/-- clashes of a beat: what both hold there, and held at the one ahead -/
def clB (key : Nat → Int32) (n : Nat) (leap fing span l r la ra : Int32) : Int32 :=
  let c := ownC key n leap l la fing span ||| ownC key n leap r ra fing span
  let c := if l = 0 then c else if r = 0 then c else if highF key (bt l) (-1) n < lowF key (bt r) 1000000 n then c else c ||| 4
  if tw key (l ||| r) n then c ||| 8 else c
def ahd (hold : Nat → Int32) (b : Nat) : Int32 := match b with
  | 0 => 0
  | b + 1 => hold b
theorem M_clashBy {F G : Nat} {S : St} {n : Nat} (hn : S.1 78 48 = nI n) (hn2 : n ≤ 10) (hF : 12 < F) {b : Nat} (hb : b < 12) (left right fing span : Int32) : fM_clashBy F G S (nI b) left right fing span = some (clB (fun i => S.1 101 (10 + i)) n (S.1 78 51) fing span (left &&& S.1 102 b) (right &&& S.1 102 b) (left &&& ahd (S.1 102) b) (right &&& ahd (S.1 102) b)) := by
  have key : ∀ a : Int32, j_M_clashBy_36 F G S left right fing span (left &&& S.1 102 b) (right &&& S.1 102 b) a = some (clB (fun i => S.1 101 (10 + i)) n (S.1 78 51) fing span (left &&& S.1 102 b) (right &&& S.1 102 b) (left &&& a) (right &&& a)) := by
    intro a
    have key2 : ∀ c : Int32, j_M_clashBy_100 F G S (left &&& S.1 102 b) (right &&& S.1 102 b) c = some (if tw (fun i => S.1 101 (10 + i)) ((left &&& S.1 102 b) ||| (right &&& S.1 102 b)) n then c ||| 8 else c) := by
      intro c
      unfold j_M_clashBy_100
      rw [M_hasTwins hn hn2 (by omega), bd_some]
      cases tw (fun i => S.1 101 (10 + i)) ((left &&& S.1 102 b) ||| (right &&& S.1 102 b)) n
      · rfl
      · rfl
    unfold j_M_clashBy_36 clB
    rw [M_ownClash hn hn2 hF, bd_some, M_ownClash hn hn2 hF, bd_some, lt_eq]
    by_cases h1 : left &&& S.1 102 b = 0
    · rw [if_pos h1, key2]
      simp only [if_pos h1]
    · rw [if_neg h1]
      by_cases h2 : right &&& S.1 102 b = 0
      · rw [if_pos h2, key2]
        simp only [if_neg h1, if_pos h2]
      · rw [if_neg h2, M_highest hn hn2 (by omega), bd_some, M_lowest hn hn2 (by omega), bd_some]
        by_cases h3 : highF (fun i => S.1 101 (10 + i)) (bt (left &&& S.1 102 b)) (-1) n < lowF (fun i => S.1 101 (10 + i)) (bt (right &&& S.1 102 b)) 1000000 n
        · rw [if_pos h3, key2]
          simp only [if_neg h1, if_neg h2, if_pos h3]
        · rw [if_neg h3, lt_eq, key2]
          simp only [if_neg h1, if_neg h2, if_neg h3]
  unfold fM_clashBy
  rw [gd_t (inB_nI hb (by decide)), nI_clamp (by omega), lt_eq, gd_t (inB_nI hb (by decide)), lt_eq]
  cases b with
  | zero => rw [if_pos (show nI 0 = 0 from rfl), key]; rfl
  | succ b => rw [if_neg (nI_ne0 (by omega) (by omega)), show nI (b + 1) - 1 = nI b from nI_pred b, gd_t (inB_nI (by omega) (by decide)), nI_clamp (by omega), key]; rfl
/-- it can be played -/
def canP (c : Nat → Int32) : Nat → Bool
  | 0 => true
  | b + 1 => canP c b && decide (c b = 0)
theorem canP_up {c : Nat → Int32} {a : Nat} (h : canP c a = false) : ∀ j, canP c (a + j) = false
  | 0 => h
  | j + 1 => by show (canP c (a + j) && _) = false; rw [canP_up h j]; rfl
/-- the clashes of beat b, by what the reference has laid -/
def clM (S : St) (n : Nat) (left right fing span : Int32) (b : Nat) : Int32 := clB (fun i => S.1 101 (10 + i)) n (S.1 78 51) fing span (left &&& S.1 102 b) (right &&& S.1 102 b) (left &&& ahd (S.1 102) b) (right &&& ahd (S.1 102) b)
theorem M_canBePlayed {F G : Nat} {S : St} {n bs : Nat} (hn : S.1 78 48 = nI n) (hn2 : n ≤ 10) (hb : S.1 78 46 = nI bs) (hb2 : bs ≤ 12) (hF : 12 < F) (left right fing span : Int32) : fM_canBePlayed F G S left right fing span = some (b2i (canP (clM S n left right fing span) bs)) := by
  unfold fM_canBePlayed
  have main : ∀ m a f, a + m = bs → m < f → ∀ v : Bool, v = canP (clM S n left right fing span) a → fx2 (b_M_canBePlayed_6 F G S left right fing span) f (b2i v) (nI a) = some (b2i (canP (clM S n left right fing span) bs)) := by
    intro m
    induction m with
    | zero =>
      intro a f ha hf v hv
      obtain ⟨g, rfl⟩ : ∃ g, f = g + 1 := ⟨f - 1, by omega⟩
      show b_M_canBePlayed_6 F G S left right fing span _ (b2i v) (nI a) = _
      unfold b_M_canBePlayed_6
      have e : a = bs := by omega
      subst e
      rw [hb, if_pos (nI_le (Nat.le_refl a) (by omega)), gd_t (isB_b2i v), hv]
    | succ m ih =>
      intro a f ha hf v hv
      obtain ⟨g, rfl⟩ : ∃ g, f = g + 1 := ⟨f - 1, by omega⟩
      have ih' := ih (a + 1) g (by omega) (by omega)
      show b_M_canBePlayed_6 F G S left right fing span (fx2 (b_M_canBePlayed_6 F G S left right fing span) g) (b2i v) (nI a) = _
      generalize fx2 (b_M_canBePlayed_6 F G S left right fing span) g = rec at ih' ⊢
      unfold b_M_canBePlayed_6
      rw [hb, if_neg (nI_ge (by omega) (by omega))]
      cases hv0 : v with
      | false =>
        rw [if_pos (by decide), gd_t (isB_b2i false)]
        have := canP_up (c := clM S n left right fing span) (a := a) (by rw [← hv, hv0]) (m + 1)
        rw [ha] at this
        rw [this]
      | true =>
        rw [if_neg (by decide), M_clashBy hn hn2 hF (by omega), bd_some]
        have hstep : canP (clM S n left right fing span) (a + 1) = decide (clM S n left right fing span a = 0) := by
          show (canP _ a && _) = _
          rw [← hv, hv0]; rfl
        by_cases hc : clM S n left right fing span a = 0
        · refine Eq.trans (if_pos hc) ?_
          rw [lt_eq, nI_1]
          exact ih' true (by rw [hstep]; simp [hc])
        · refine Eq.trans (if_neg hc) ?_
          rw [lt_eq, nI_1]
          exact ih' false (by rw [hstep]; simp [hc])
  exact main bs 0 F (by omega) (by omega) true rfl
theorem M_canBePlayedSo {F G : Nat} {S : St} {n bs : Nat} (hn : S.1 78 48 = nI n) (hn2 : n ≤ 10) (hb : S.1 78 46 = nI bs) (hb2 : bs ≤ 12) (hF : 12 < F) : fM_canBePlayedSo F G S = some (b2i (canP (clM S n (mset (fun i => decide (S.1 101 i = 1)) n) (mset (fun i => decide (S.1 101 i = 2)) n) (S.1 78 50) (S.1 78 49)) bs)) := by
  unfold fM_canBePlayedSo
  rw [M_given hn hn2 (by omega), bd_some, M_given hn hn2 (by omega), bd_some, M_canBePlayed hn hn2 hb hb2 hF, bd_some, gd_t (isB_b2i _)]
theorem M_clashBeats {F G : Nat} {S : St} {n bs : Nat} (hn : S.1 78 48 = nI n) (hn2 : n ≤ 10) (hb : S.1 78 46 = nI bs) (hb2 : bs ≤ 12) (hF : 12 < F) (span : Int32) : fM_clashBeats F G S span = some (mset (fun b => decide (¬ clM S n (mset (fun i => decide (S.1 101 i = 1)) n) (mset (fun i => decide (S.1 101 i = 2)) n) (S.1 78 50) span b = 0)) bs) := by
  unfold fM_clashBeats
  refine for_or (N := bs) (k := some) (by omega) _ (fun rec a => by unfold b_M_clashBeats_4; rw [hb, if_pos (nI_le (Nat.le_refl bs) (by omega))])
    (fun rec a b hi => ?_) (by omega)
  unfold b_M_clashBeats_4 j_M_clashBeats_41
  rw [hb, if_neg (nI_ge hi (by omega)), M_given hn hn2 (by omega), bd_some, M_given hn hn2 (by omega), bd_some, M_clashBy hn hn2 hF (by omega), bd_some, ← or_truth (by omega)]
  by_cases hc : clM S n (mset (fun i => decide (S.1 101 i = 1)) n) (mset (fun i => decide (S.1 101 i = 2)) n) (S.1 78 50) span b = 0
  · refine Eq.trans (if_pos hc) ?_
    simp [hc, bd, lt, fM_truth, nI_1]
  · refine Eq.trans (if_neg hc) ?_
    simp [hc, bd, lt, fM_truth, nI_1]
