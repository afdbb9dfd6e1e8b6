/-! PURE: loops, bits, sets -/
/-- a loop is its value, where a step keeps it -/
theorem fx1_val {A1 R : Type} {body : (A1 → Option R) → A1 → Option R} (ok : A1 → Prop) (μ : A1 → Nat) (val : A1 → Option R) (hs : ∀ rec : A1 → Option R, ∀ a, ok a → (∀ a', ok a' → μ a' < μ a → rec a' = val a') → body rec a = val a) : ∀ f a, ok a → μ a < f → fx1 body f a = val a
  | 0, _, _, h => absurd h (Nat.not_lt_zero _)
  | f + 1, a, ho, h => hs (fx1 body f) a ho (fun a' h1 h2 => fx1_val ok μ val hs f a' h1 (by omega))
theorem fx2_val {A1 A2 R : Type} {body : (A1 → A2 → Option R) → A1 → A2 → Option R} (ok : A1 → A2 → Prop) (μ : A1 → A2 → Nat) (val : A1 → A2 → Option R) (hs : ∀ rec : A1 → A2 → Option R, ∀ a b, ok a b → (∀ a' b', ok a' b' → μ a' b' < μ a b → rec a' b' = val a' b') → body rec a b = val a b) : ∀ f a b, ok a b → μ a b < f → fx2 body f a b = val a b
  | 0, _, _, _, h => absurd h (Nat.not_lt_zero _)
  | f + 1, a, b, ho, h => hs (fx2 body f) a b ho (fun a' b' h1 h2 => fx2_val ok μ val hs f a' b' h1 (by omega))
theorem fx3_val {A1 A2 A3 R : Type} {body : (A1 → A2 → A3 → Option R) → A1 → A2 → A3 → Option R} (ok : A1 → A2 → A3 → Prop) (μ : A1 → A2 → A3 → Nat) (val : A1 → A2 → A3 → Option R) (hs : ∀ rec : A1 → A2 → A3 → Option R, ∀ a b c, ok a b c → (∀ a' b' c', ok a' b' c' → μ a' b' c' < μ a b c → rec a' b' c' = val a' b' c') → body rec a b c = val a b c) : ∀ f a b c, ok a b c → μ a b c < f → fx3 body f a b c = val a b c
  | 0, _, _, _, _, h => absurd h (Nat.not_lt_zero _)
  | f + 1, a, b, c, ho, h => hs (fx3 body f) a b c ho (fun a' b' c' h1 h2 => fx3_val ok μ val hs f a' b' c' h1 (by omega))
/-- for (i = 0; i < n; i++), the index last -/
theorem for2 {A R : Type} {body : (A → Int32 → Option R) → A → Int32 → Option R} {N : Nat} (hN : N < 2 ^ 31) {k : A → Option R} {step : Nat → A → A} (I : Nat → A → Prop)
    (he : ∀ rec a, I N a → body rec a (nI N) = k a) (hs : ∀ rec a i, i < N → I i a → body rec a (nI i) = rec (step i a) (nI (i + 1))) (hI : ∀ a i, i < N → I i a → I (i + 1) (step i a)) :
    ∀ n i a f, i + n = N → I i a → n < f → fx2 body f a (nI i) = k (Nat.rec a (fun j x => step (i + j) x) n)
  | 0, i, a, f, h, hi, hf => by
    obtain ⟨g, rfl⟩ : ∃ g, f = g + 1 := ⟨f - 1, by omega⟩
    have e : i = N := by omega
    subst e
    exact he _ a hi
  | n + 1, i, a, f, h, hi, hf => by
    obtain ⟨g, rfl⟩ : ∃ g, f = g + 1 := ⟨f - 1, by omega⟩
    show body (fx2 body g) a (nI i) = _
    rw [hs _ a i (by omega) hi, for2 hN I he hs hI n (i + 1) (step i a) g (by omega) (hI a i (by omega) hi) (by omega)]
    congr 1
    have key : ∀ m, (Nat.rec (step i a) (fun j x => step (i + 1 + j) x) m : A) = Nat.rec a (fun j x => step (i + j) x) (m + 1) := by
      intro m
      induction m with
      | zero => rfl
      | succ m ih =>
        show step (i + 1 + m) _ = step (i + (m + 1)) _
        rw [ih, show i + 1 + m = i + (m + 1) by omega]
    exact key n
def bt (x : Int32) (i : Nat) : Bool := x.toBitVec.getLsbD i
theorem bt_ext {x y : Int32} (h : ∀ i, i < 32 → bt x i = bt y i) : x = y := by
  apply Int32.toBitVec_inj.mp
  apply BitVec.eq_of_getLsbD_eq
  intro i hi
  exact h i hi
theorem bt_or (x y : Int32) (i : Nat) : bt (x ||| y) i = (bt x i || bt y i) := by simp [bt]
theorem bt_and (x y : Int32) (i : Nat) : bt (x &&& y) i = (bt x i && bt y i) := by simp [bt]
theorem bt_xor (x y : Int32) (i : Nat) : bt (x ^^^ y) i = (bt x i ^^ bt y i) := by simp [bt]
theorem bt_0 (i : Nat) : bt 0 i = false := by simp [bt]
theorem nI_31 {i : Nat} (h : i < 32) : nI i &&& 31 = nI i := by
  have := (by decide +kernel : ∀ i, i < 32 → nI i &&& 31 = nI i)
  exact this i h
theorem bt_one {j i : Nat} (hj : j < 32) (hi : i < 32) : bt (1 <<< (nI j &&& 31)) i = decide (i = j) := by
  have := (by decide +kernel : ∀ j, j < 32 → ∀ i, i < 32 → bt (1 <<< (nI j &&& 31)) i = decide (i = j))
  exact this j hj i hi
theorem bt_shl1 {j i : Nat} (b : Int32) (hb : b = 0 ∨ b = 1) (hj : j < 32) (hi : i < 32) : bt (b <<< (nI j &&& 31)) i = (decide (i = j) && decide (b = 1)) := by
  rcases hb with rfl | rfl
  · have := (by decide +kernel : ∀ j, j < 32 → (0 : Int32) <<< (nI j &&& 31) = 0)
    rw [this j hj, bt_0]; simp
  · rw [bt_one hj hi]; simp
theorem bt_shr (x : Int32) {j : Nat} (hj : j < 32) : (x >>> (nI j &&& 31)) &&& 1 = if bt x j then 1 else 0 := by
  rw [nI_31 hj]
  apply Int32.toBitVec_inj.mp
  have hs : (nI j).toBitVec.smod 32 = BitVec.ofNat 32 j := (by decide +kernel : ∀ j, j < 32 → (nI j).toBitVec.smod 32 = BitVec.ofNat 32 j) j hj
  apply BitVec.eq_of_getLsbD_eq
  intro i hi
  have h1 : (if bt x j = true then (1 : Int32) else 0).toBitVec.getLsbD i = (decide (i = 0) && bt x j) := by
    cases hb : bt x j
    · simp
    · have := (by decide +kernel : ∀ i, i < 32 → (1 : Int32).toBitVec.getLsbD i = decide (i = 0))
      simp [this i hi]
  rw [h1]
  have h2 : (1 : Int32).toBitVec.getLsbD i = decide (i = 0) := (by decide +kernel : ∀ i, i < 32 → (1 : Int32).toBitVec.getLsbD i = decide (i = 0)) i hi
  simp only [Int32.toBitVec_and, Int32.toBitVec_shiftRight, BitVec.getLsbD_and, h2, hs]
  by_cases h0 : i = 0
  · subst h0
    have hj2 : (BitVec.ofNat 32 j).toNat = j := by
      rw [BitVec.toNat_ofNat]
      exact Nat.mod_eq_of_lt (by omega)
    simp only [BitVec.sshiftRight', BitVec.getLsbD_sshiftRight, hj2, bt]
    simp [hj]
  · simp [h0]
theorem b01 (c : Bool) : (if c then (1 : Int32) else 0) = 0 ∨ (if c then (1 : Int32) else 0) = 1 := by cases c <;> simp
/-- the set of those below n for which p -/
def mset (p : Nat → Bool) : Nat → Int32
  | 0 => 0
  | n + 1 => mset p n ||| (if p n then 1 <<< (nI n &&& 31) else 0)
theorem bt_mset (p : Nat → Bool) : ∀ {n : Nat}, n ≤ 32 → ∀ {i : Nat}, i < 32 → bt (mset p n) i = (decide (i < n) && p i)
  | 0, _, i, _ => by simp [mset, bt_0]
  | n + 1, hn, i, hi => by
    rw [mset, bt_or, bt_mset p (by omega) hi]
    cases hp : p n
    · by_cases h : i = n
      · subst h; simp [bt_0, hp]
      · have : decide (i < n + 1) = decide (i < n) := by simp; omega
        simp [bt_0, this]
    · rw [if_pos rfl, bt_one (by omega) hi]
      by_cases h : i = n
      · subst h; simp [hp]
      · have : decide (i < n + 1) = decide (i < n) := by simp; omega
        simp [this, h]
theorem mset_cong {p q : Nat → Bool} : ∀ {n : Nat}, (∀ i, i < n → p i = q i) → mset p n = mset q n
  | 0, _ => rfl
  | n + 1, h => by rw [mset, mset, mset_cong (fun i hi => h i (by omega)), h n (by omega)]
