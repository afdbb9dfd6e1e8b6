/-! PURE: the loops that come again and again -/
theorem inB_nI {i n : Nat} (h : i < n) (hn : n < 2 ^ 31) : inB (nI i) n = true := by
  simp only [inB, Bool.and_eq_true, decide_eq_true_eq]
  exact ⟨nI_pos' (by omega), by rw [nI_clamp (by omega)]; exact h⟩
theorem gd_t {α : Type} {b : Bool} {x : Option α} (h : b = true) : gd b x = x := by subst h; rfl
theorem bd_some {α β : Type} (a : α) (f : α → Option β) : bd (some a) f = f a := rfl
theorem bd2_some {α γ β : Type} (a : α) (c : γ) (f : α → γ → Option β) : bd2 (some (a, c)) f = f a c := rfl
theorem lt_eq {α β : Type} (a : α) (f : α → β) : lt a f = f a := rfl
/-- the index first, then what changes -/
theorem for2i {A R : Type} {body : (Int32 → A → Option R) → Int32 → A → Option R} {N : Nat} {k : A → Option R} {step : Nat → A → A} (I : Nat → A → Prop)
    (he : ∀ rec a, I N a → body rec (nI N) a = k a) (hs : ∀ rec a i, i < N → I i a → body rec (nI i) a = rec (nI (i + 1)) (step i a)) (hI : ∀ a i, i < N → I i a → I (i + 1) (step i a)) :
    ∀ n i a f, i + n = N → I i a → n < f → fx2 body f (nI i) a = k (Nat.rec a (fun j x => step (i + j) x) n)
  | 0, i, a, f, h, hi, hf => by
    obtain ⟨g, rfl⟩ : ∃ g, f = g + 1 := ⟨f - 1, by omega⟩
    have e : i = N := by omega
    subst e
    exact he _ a hi
  | n + 1, i, a, f, h, hi, hf => by
    obtain ⟨g, rfl⟩ : ∃ g, f = g + 1 := ⟨f - 1, by omega⟩
    show body (fx2 body g) (nI i) a = _
    rw [hs _ a i (by omega) hi, for2i I he hs hI n (i + 1) (step i a) g (by omega) (hI a i (by omega) hi) (by omega)]
    congr 1
    have key : ∀ m, (Nat.rec (step i a) (fun j x => step (i + 1 + j) x) m : A) = Nat.rec a (fun j x => step (i + j) x) (m + 1) := by
      intro m
      induction m with
      | zero => rfl
      | succ m ih =>
        show step (i + 1 + m) _ = step (i + (m + 1)) _
        rw [ih, show i + 1 + m = i + (m + 1) by omega]
    exact key n
/-- a set that is gathered bit by bit -/
theorem for_or {R : Type} {body : (Int32 → Int32 → Option R) → Int32 → Int32 → Option R} {N : Nat} (hN : N < 2 ^ 31) {k : Int32 → Option R} (p : Nat → Bool)
    (he : ∀ rec a, body rec a (nI N) = k a) (hs : ∀ rec a i, i < N → body rec a (nI i) = rec (a ||| (if p i then 1 <<< (nI i &&& 31) else 0)) (nI (i + 1))) {F : Nat} (hF : N < F) : fx2 body F 0 0 = k (mset p N) := by
  have h := for2 hN (k := k) (step := fun i a => a ||| (if p i then 1 <<< (nI i &&& 31) else 0)) (fun _ _ => True) (fun rec a _ => he rec a) (fun rec a i hi _ => hs rec a i hi) (fun _ _ _ _ => trivial) N 0 0 F (by omega) trivial hF
  rw [show (nI 0 : Int32) = 0 from rfl] at h
  rw [h]
  congr 1
  have key : ∀ m, (Nat.rec (0 : Int32) (fun j y => y ||| (if p (0 + j) then 1 <<< (nI (0 + j) &&& 31) else 0)) m : Int32) = mset p m := by
    intro m
    induction m with
    | zero => rfl
    | succ m ih =>
      show _ ||| _ = _
      rw [ih, mset, Nat.zero_add]
  exact key N
/-- a sum -/
def sumI (g : Nat → Int32) : Nat → Int32
  | 0 => 0
  | n + 1 => sumI g n + g n
theorem for_sum {R : Type} {body : (Int32 → Int32 → Option R) → Int32 → Int32 → Option R} {N : Nat} (hN : N < 2 ^ 31) {k : Int32 → Option R} (g : Nat → Int32)
    (he : ∀ rec a, body rec a (nI N) = k a) (hs : ∀ rec a i, i < N → body rec a (nI i) = rec (a + g i) (nI (i + 1))) {F : Nat} (hF : N < F) : fx2 body F 0 0 = k (sumI g N) := by
  have h := for2 hN (k := k) (step := fun i a => a + g i) (fun _ _ => True) (fun rec a _ => he rec a) (fun rec a i hi _ => hs rec a i hi) (fun _ _ _ _ => trivial) N 0 0 F (by omega) trivial hF
  rw [show (nI 0 : Int32) = 0 from rfl] at h
  rw [h]
  congr 1
  have key : ∀ m, (Nat.rec (0 : Int32) (fun j y => y + g (0 + j)) m : Int32) = sumI g m := by
    intro m
    induction m with
    | zero => rfl
    | succ m ih =>
      show _ + _ = _
      rw [ih, sumI, Nat.zero_add]
  exact key N
/-- how many below n -/
def cnt (p : Nat → Bool) : Nat → Nat
  | 0 => 0
  | n + 1 => cnt p n + (if p n then 1 else 0)
theorem sumI_cnt (p : Nat → Bool) : ∀ n, sumI (fun i => if p i then 1 else 0) n = nI (cnt p n)
  | 0 => rfl
  | n + 1 => by
    rw [sumI, sumI_cnt p n, cnt]
    cases p n
    · simp
    · simp [nI_1]
theorem sh_0 {i : Nat} (h : i < 32) : (0 : Int32) <<< (nI i &&& 31) = 0 := (by decide +kernel : ∀ i, i < 32 → (0 : Int32) <<< (nI i &&& 31) = 0) i h
/-- the reference's truth(c) << i, gathered -/
theorem or_truth {c : Prop} [Decidable c] {a : Int32} {i : Nat} (h : i < 32) : a ||| ((if c then (1 : Int32) else 0) <<< (nI i &&& 31)) = a ||| (if decide c then 1 <<< (nI i &&& 31) else 0) := by
  by_cases hc : c
  · simp [hc]
  · simp [hc, sh_0 h]
/-- lowest, highest of a set -/
def lowF (key : Nat → Int32) (p : Nat → Bool) (z : Int32) : Nat → Int32
  | 0 => z
  | n + 1 => if p n = true ∧ key n < lowF key p z n then key n else lowF key p z n
def highF (key : Nat → Int32) (p : Nat → Bool) (z : Int32) : Nat → Int32
  | 0 => z
  | n + 1 => if p n = true ∧ highF key p z n < key n then key n else highF key p z n
theorem for_acc {R : Type} {body : (Int32 → Int32 → Option R) → Int32 → Int32 → Option R} {N : Nat} (hN : N < 2 ^ 31) {k : Int32 → Option R} (g : Nat → Int32) (step : Nat → Int32 → Int32)
    (hg : ∀ i, i < N → g (i + 1) = step i (g i)) (he : ∀ rec a, body rec a (nI N) = k a) (hs : ∀ rec a i, i < N → body rec a (nI i) = rec (step i a) (nI (i + 1))) {F : Nat} (hF : N < F) : fx2 body F (g 0) 0 = k (g N) := by
  have h := for2 hN (k := k) (step := step) (fun _ _ => True) (fun rec a _ => he rec a) (fun rec a i hi _ => hs rec a i hi) (fun _ _ _ _ => trivial) N 0 (g 0) F (by omega) trivial hF
  rw [show (nI 0 : Int32) = 0 from rfl] at h
  rw [h]
  congr 1
  have key : ∀ m, m ≤ N → (Nat.rec (g 0) (fun j y => step (0 + j) y) m : Int32) = g m := by
    intro m
    induction m with
    | zero => intro _; rfl
    | succ m ih =>
      intro hm
      show step (0 + m) _ = _
      rw [ih (by omega), Nat.zero_add, hg m (by omega)]
  exact key N (Nat.le_refl N)
