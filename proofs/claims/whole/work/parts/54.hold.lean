/-! PURE: what is held, as the reference lays it -/
theorem sA_I (S : St) (h : Nat) (f : Nat → Int32) : (sA S h f).1 h = f := by simp [sA]
theorem sA_ne {S : St} {h j : Nat} {f : Nat → Int32} (hj : j ≠ h) : (sA S h f).1 j = S.1 j := by simp [sA, hj]
theorem sA_self (S : St) (h : Nat) : sA S h (S.1 h) = S := by
  apply Prod.ext
  · funext j
    by_cases hj : j = h
    · subst hj; simp [sA]
    · simp [sA, hj]
  · rfl
theorem sA_twice (S : St) (h : Nat) (f g : Nat → Int32) : sA (sA S h f) h g = sA S h g := by
  apply Prod.ext
  · funext j
    by_cases hj : j = h <;> simp [sA, hj]
  · rfl
theorem sI_A (S : St) (h k : Nat) (x : Int32) : sI S h k x = sA S h (upd (S.1 h) k x) := rfl
theorem sI_sA (S : St) (h k : Nat) (f : Nat → Int32) (x : Int32) : sI (sA S h f) h k x = sA S h (upd f k x) := by
  rw [sI_A, sA_I, sA_twice]
theorem sA_cong {S : St} {h : Nat} {f g : Nat → Int32} (e : ∀ k, f k = g k) : sA S h f = sA S h g := by rw [show f = g from funext e]
/-- a row that is filled from its start -/
def rowTo (f g : Nat → Int32) (n : Nat) : Nat → Int32 := fun k => if k < n then f k else g k
theorem rowTo_0 (f g : Nat → Int32) : rowTo f g 0 = g := by funext k; simp [rowTo]
theorem rowTo_s (f g : Nat → Int32) (n : Nat) : upd (rowTo f g n) n (f n) = rowTo f g (n + 1) := by
  funext k
  by_cases h : k = n
  · subst h; simp [upd, rowTo]
  · by_cases h2 : k < n
    · have : k < n + 1 := by omega
      simp [upd, rowTo, h, h2, this]
    · have : ¬ k < n + 1 := by omega
      simp [upd, rowTo, h, h2, this]
/-- a loop that fills a row, the index first -/
theorem for_row {R : Type} {body : (Int32 → St → Option R) → Int32 → St → Option R} {N : Nat} {k : St → Option R} (h : Nat) (f : Nat → Int32) (S : St)
    (he : ∀ rec r, body rec (nI N) (sA S h r) = k (sA S h r)) (hs : ∀ rec r i, i < N → body rec (nI i) (sA S h r) = rec (nI (i + 1)) (sA S h (upd r i (f i)))) {F : Nat} (hF : N < F) : fx2 body F 0 S = k (sA S h (rowTo f (S.1 h) N)) := by
  have main : ∀ m i g, i + m = N → m < g → fx2 body g (nI i) (sA S h (rowTo f (S.1 h) i)) = k (sA S h (rowTo f (S.1 h) N)) := by
    intro m
    induction m with
    | zero =>
      intro i g hi hg
      obtain ⟨g, rfl⟩ : ∃ z, g = z + 1 := ⟨g - 1, by omega⟩
      have e : i = N := by omega
      subst e
      exact he _ _
    | succ m ih =>
      intro i g hi hg
      obtain ⟨g, rfl⟩ : ∃ z, g = z + 1 := ⟨g - 1, by omega⟩
      show body (fx2 body g) (nI i) _ = _
      rw [hs _ _ i (by omega), rowTo_s]
      exact ih (i + 1) g (by omega) (by omega)
  have := main N 0 F (by omega) hF
  rw [rowTo_0, sA_self] at this
  exact this
/-- a note's time, by how far behind its beginning -/
def tq (l : Nat) (ped : Int32) (g : Nat) : Nat → Bool
  | 0 => decide (0 < l)
  | d + 1 => tq l ped g d && (decide (d + 1 < l) && !bt ped (g + (d + 1)))
def tmy (g l : Nat) (ped : Int32) (b : Nat) : Bool := decide (g ≤ b) && tq l ped g (b - g)
theorem tq_down {l : Nat} {ped : Int32} {g d : Nat} (h : tq l ped g d = false) : ∀ j, tq l ped g (d + j) = false
  | 0 => h
  | j + 1 => by show (tq l ped g (d + j) && _) = false; rw [tq_down h j]; rfl
def orIf (r : Nat → Int32) (p : Nat → Bool) (x : Int32) : Nat → Int32 := fun c => if p c = true then r c ||| x else r c
theorem M_hold1 {F G : Nat} {S : St} {bs i g l : Nat} (hi : i < 10) (hb : S.1 78 46 = nI bs) (hb2 : bs ≤ 12) (hg : S.1 96 i = nI g) (hl : S.1 101 (20 + i) = nI l) (hl2 : l ≤ 12) (hl1 : 0 < l) (k : St → Option St) :
    ∀ m b f r, b + m = bs → g ≤ b → (b = g ∨ tq l (S.1 101 40) g (b - g - 1) = true) → m + 1 < f → fx3 (b_M_layHold_40 F G (nI i) k) f 1 (nI b) (sA S 102 r) = k (sA S 102 (orIf r (fun c => decide (b ≤ c) && (decide (c < bs) && tq l (S.1 101 40) g (c - g))) (1 <<< (nI i &&& 31)))) := by
  intro m
  induction m with
  | zero =>
    intro b f r h1 h2 h3 hf
    obtain ⟨f, rfl⟩ : ∃ z, f = z + 1 := ⟨f - 1, by omega⟩
    show b_M_layHold_40 F G (nI i) k _ 1 (nI b) (sA S 102 r) = _
    unfold b_M_layHold_40
    have e : b = bs := by omega
    subst e
    rw [sA_ne (by decide), hb, if_pos (nI_le (Nat.le_refl b) (by omega))]
    congr 1
    apply sA_cong
    intro c
    have : (decide (b ≤ c) && (decide (c < b) && tq l (S.1 101 40) g (c - g))) = false := by
      by_cases z : b ≤ c
      · have : ¬ c < b := by omega
        simp [this]
      · simp [z]
    simp [orIf, this]
  | succ m ih =>
    intro b f r h1 h2 h3 hf
    obtain ⟨f, rfl⟩ : ∃ z, f = z + 1 := ⟨f - 1, by omega⟩
    have ih' := ih (b + 1) f
    -- behind a note's end
    have stop : ∀ r', fx3 (b_M_layHold_40 F G (nI i) k) f 0 (nI (b + 1)) (sA S 102 r') = k (sA S 102 r') := by
      intro r'
      obtain ⟨f, rfl⟩ : ∃ z, f = z + 1 := ⟨f - 1, by omega⟩
      show b_M_layHold_40 F G (nI i) k _ 0 (nI (b + 1)) (sA S 102 r') = _
      unfold b_M_layHold_40
      by_cases z : (sA S 102 r').1 78 46 ≤ nI (b + 1)
      · rw [if_pos z]
      · rw [if_neg z, if_pos rfl]
    show b_M_layHold_40 F G (nI i) k (fx3 (b_M_layHold_40 F G (nI i) k) f) 1 (nI b) (sA S 102 r) = _
    generalize fx3 (b_M_layHold_40 F G (nI i) k) f = rec at ih' stop ⊢
    have hstep : tq l (S.1 101 40) g (b - g) = (decide (b < g + l) && (decide (b = g) || !bt (S.1 101 40) b)) := by
      rcases h3 with rfl | h3
      · rw [Nat.sub_self]
        simp [tq]
      · by_cases e : b = g
        · subst e
          rw [Nat.sub_self]
          simp [tq]
        · obtain ⟨d, hd⟩ : ∃ d, b - g = d + 1 := ⟨b - g - 1, by omega⟩
          rw [hd] at h3 ⊢
          rw [Nat.add_sub_cancel] at h3
          show (tq l (S.1 101 40) g d && _) = _
          rw [h3, show g + (d + 1) = b by omega]
          have e2 : decide (d + 1 < l) = decide (b < g + l) := by simp; omega
          simp [e2, e]
    have j0 : j_M_layHold_101 F G (nI i) k rec (sA S 102 r) (nI b) 0 = rec 0 (nI (b + 1)) (sA S 102 r) := by
      unfold j_M_layHold_101
      rw [if_pos rfl, lt_eq, nI_1]
    have j1 : j_M_layHold_101 F G (nI i) k rec (sA S 102 r) (nI b) 1 = rec 1 (nI (b + 1)) (sA S 102 (upd r b (r b ||| (1 <<< (nI i &&& 31))))) := by
      unfold j_M_layHold_101
      rw [if_neg (by decide), gd_t (inB_nI (by omega) (by decide)), gd_t (inB_nI (by omega) (by decide)), nI_clamp (by omega), lt_eq, lt_eq, nI_1, sA_I, sI_sA]
    have yes : tq l (S.1 101 40) g (b - g) = true → rec 1 (nI (b + 1)) (sA S 102 (upd r b (r b ||| (1 <<< (nI i &&& 31))))) = k (sA S 102 (orIf r (fun c => decide (b ≤ c) && (decide (c < bs) && tq l (S.1 101 40) g (c - g))) (1 <<< (nI i &&& 31)))) := by
      intro ht
      rw [ih' (upd r b (r b ||| (1 <<< (nI i &&& 31)))) (by omega) (by omega) (Or.inr (by rw [show b + 1 - g - 1 = b - g by omega]; exact ht)) (by omega)]
      congr 1
      apply sA_cong
      intro c
      by_cases hc : c = b
      · subst hc
        have e1 : c < bs := by omega
        have e2 : ¬ c + 1 ≤ c := by omega
        simp [orIf, upd, ht, e1, e2]
      · have e1 : decide (b + 1 ≤ c) = decide (b ≤ c) := by simp; omega
        simp [orIf, upd, hc, e1]
    have no : tq l (S.1 101 40) g (b - g) = false → rec 0 (nI (b + 1)) (sA S 102 r) = k (sA S 102 (orIf r (fun c => decide (b ≤ c) && (decide (c < bs) && tq l (S.1 101 40) g (c - g))) (1 <<< (nI i &&& 31)))) := by
      intro ht
      rw [stop]
      congr 1
      apply sA_cong
      intro c
      have : (decide (b ≤ c) && (decide (c < bs) && tq l (S.1 101 40) g (c - g))) = false := by
        by_cases z : b ≤ c
        · have := tq_down ht (c - b)
          rw [show b - g + (c - b) = c - g by omega] at this
          simp [this]
        · simp [z]
      simp [orIf, this]
    unfold b_M_layHold_40
    rw [sA_ne (by decide), hb, if_neg (nI_ge (by omega) (by omega)), if_neg (by decide), show (20 : Int32) = nI 20 from rfl, ten_add, gd_t (inB_nI (by omega) (by decide)), gd_t (inB_nI (by omega) (by decide)), nI_clamp (by omega), nI_clamp (by omega), sA_ne (by decide), sA_ne (by decide), hg, hl, ten_add]
    by_cases c1 : g + l ≤ b
    · rw [if_pos (nI_le c1 (by omega))]
      unfold j_M_layHold_100
      rw [j0]
      exact no (by rw [hstep]; have : ¬ b < g + l := by omega
                   simp [this])
    · have c1' : b < g + l := by omega
      rw [if_neg (nI_ge c1' (by omega)), gd_t (inB_nI (by omega) (by decide))]
      by_cases c2 : b = g
      · rw [if_pos (by rw [c2])]
        unfold j_M_layHold_96
        rw [j1]
        exact yes (by rw [hstep]; simp [c1', c2]; exact hl1)
      · rw [if_neg (fun z => c2 ((nI_eq (by omega) (by omega)).mp z)), show (40 : Int32) = nI 40 from rfl, gd_t (inB_nI (by omega) (by decide)), nI_clamp (by omega)]
        cases hp : bt (S.1 101 40) b with
        | false =>
          rw [if_pos ((bit_0 _ (by omega)).mpr hp)]
          unfold j_M_layHold_96
          rw [j1]
          exact yes (by rw [hstep]; simp [c1', hp])
        | true =>
          rw [if_neg (fun z => by rw [(bit_0 _ (by omega)).mp z] at hp; cases hp)]
          unfold j_M_layHold_100
          rw [j0]
          exact no (by rw [hstep]; simp [c2, hp])
/-- the sets that are held, beat by beat -/
def holdF (g l : Nat → Nat) (ped : Int32) (bs n : Nat) (r : Nat → Int32) : Nat → Int32 := fun c => if c < 12 then mset (fun j => decide (c < bs) && tmy (g j) (l j) ped c) n else r c
theorem M_layHold {F G : Nat} {S : St} {n bs : Nat} {g l : Nat → Nat} (hn : S.1 78 48 = nI n) (hn2 : n ≤ 10) (hb : S.1 78 46 = nI bs) (hb2 : bs ≤ 12) (hg : ∀ i, i < n → S.1 96 i = nI (g i) ∧ g i < bs) (hl : ∀ i, i < n → S.1 101 (20 + i) = nI (l i) ∧ l i ≤ 12 ∧ 0 < l i) (hF : 14 < F) :
    fM_layHold F G S = some (sA S 102 (holdF g l (S.1 101 40) bs n (S.1 102))) := by
  unfold fM_layHold
  have h1 := for_row (body := b_M_layHold_2 F G (fun S7 => fx2 (b_M_layHold_23 F G) F (0 : Int32) S7)) (N := 12) (k := fun S7 => fx2 (b_M_layHold_23 F G) F (0 : Int32) S7) 102 (fun _ => 0) S (fun rec r => by unfold b_M_layHold_2; rw [if_pos (by decide)])
    (fun rec r i hi => by
      unfold b_M_layHold_2
      rw [show (12 : Int32) = nI 12 from rfl, if_neg (nI_ge hi (by decide)), gd_t (inB_nI hi (by decide)), nI_clamp (by omega), lt_eq, lt_eq, nI_1, sI_sA]) (F := F) (by omega)
  rw [h1]
  have main : ∀ m i f, i + m = n → m < f → fx2 (b_M_layHold_23 F G) f (nI i) (sA S 102 (holdF g l (S.1 101 40) bs i (S.1 102))) = some (sA S 102 (holdF g l (S.1 101 40) bs n (S.1 102))) := by
    intro m
    induction m with
    | zero =>
      intro i f hi hf
      obtain ⟨f, rfl⟩ : ∃ z, f = z + 1 := ⟨f - 1, by omega⟩
      show b_M_layHold_23 F G _ (nI i) _ = _
      unfold b_M_layHold_23
      have e : i = n := by omega
      subst e
      rw [sA_ne (by decide), hn, if_pos (nI_le (Nat.le_refl i) (by omega))]
    | succ m ih =>
      intro i f hi hf
      obtain ⟨f, rfl⟩ : ∃ z, f = z + 1 := ⟨f - 1, by omega⟩
      have ih' := ih (i + 1) f (by omega) (by omega)
      show b_M_layHold_23 F G (fx2 (b_M_layHold_23 F G) f) (nI i) _ = _
      generalize fx2 (b_M_layHold_23 F G) f = rec at ih' ⊢
      unfold b_M_layHold_23
      obtain ⟨hg1, hg2⟩ := hg i (by omega)
      obtain ⟨hl1, hl2, hl3⟩ := hl i (by omega)
      rw [sA_ne (by decide), hn, if_neg (nI_ge (by omega) (by omega)), gd_t (inB_nI (by omega) (by decide)), nI_clamp (by omega), sA_ne (by decide), hg1, lt_eq]
      rw [M_hold1 (S := S) (by omega) hb hb2 hg1 hl1 hl2 hl3 (fun S30 => lt (nI i + 1) fun v31 => rec v31 S30) (bs - g i) (g i) F _ (by omega) (Nat.le_refl _) (Or.inl rfl) (by omega)]
      rw [lt_eq, nI_1, ← ih']
      congr 1
      apply sA_cong
      intro c
      by_cases hc : c < 12
      · simp only [orIf, holdF, hc, if_true, mset]
        by_cases z : (decide (g i ≤ c) && (decide (c < bs) && tq (l i) (S.1 101 40) (g i) (c - g i))) = true
        · rw [if_pos z]
          have z2 : (decide (c < bs) && tmy (g i) (l i) (S.1 101 40) c) = true := by
            simp only [Bool.and_eq_true] at z ⊢
            exact ⟨z.2.1, by simp only [tmy, Bool.and_eq_true]; exact ⟨z.1, z.2.2⟩⟩
          rw [if_pos z2]
        · rw [if_neg z]
          have z2 : ¬ (decide (c < bs) && tmy (g i) (l i) (S.1 101 40) c) = true := by
            intro q
            apply z
            simp only [tmy, Bool.and_eq_true] at q ⊢
            exact ⟨q.2.1, q.1, q.2.2⟩
          rw [if_neg z2]
          simp
      · have z : (decide (g i ≤ c) && (decide (c < bs) && tq (l i) (S.1 101 40) (g i) (c - g i))) = false := by
          have : ¬ c < bs := by omega
          simp [this]
        simp [orIf, holdF, hc, z]
  have e0 : sA S 102 (rowTo (fun _ => 0) (S.1 102) 12) = sA S 102 (holdF g l (S.1 101 40) bs 0 (S.1 102)) := by
    apply sA_cong
    intro c
    by_cases hc : c < 12 <;> simp [rowTo, holdF, hc, mset]
  rw [e0]
  exact main n 0 F (by omega) (by omega)
