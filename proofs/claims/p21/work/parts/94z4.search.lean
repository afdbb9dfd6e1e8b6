/-! THE CLASS'S SEARCH is the search over all -/
def misN (C : St) (nn j : Nat) : Nat := (misF C nn j).toNatClampNeg
theorem mis_nI {C : St} {nn j : Nat} : misF C nn j = nI (misN C nn j) ∧ misN C nn j ≤ 999 := by
  obtain ⟨x, x1, x2⟩ := iv_nat (u := 999) (mis_iv (C := C) (nn := nn) (n := j))
  unfold misN
  rw [x1, nI_clamp (by omega)]
  exact ⟨rfl, x2⟩
/-- bars and leaps laid for all notes below m -/
def AB (C T : St) (nn bs sp m : Nat) : Prop := ∀ n, n < m → T.1 63 n = mset (bS C nn bs sp n) nn ∧ T.1 64 n = mset (bR C nn bs n) nn ∧ T.1 65 n = mset (bL C nn bs n) nn ∧ T.1 66 n = mset (stB C nn n) bs
/-- what the search has found so far -/
def fnd (T : St) (q : Nat × Int32 × Int32) : Prop := T.1 56 2 = nI q.1 ∧ T.1 56 3 = q.2.1 ∧ T.1 56 4 = q.2.2 ∧ q.1 ≤ 9991
def oth (T T' : St) : Prop := (∀ h k, ¬ (h = 56 ∧ (k = 2 ∨ k = 3 ∨ k = 4)) → T'.1 h k = T.1 h k) ∧ T'.2 = T.2
theorem oth.rf {T : St} : oth T T := ⟨fun _ _ _ => rfl, rfl⟩
theorem oth.tr {T T' T'' : St} (a : oth T T') (b : oth T' T'') : oth T T'' := ⟨fun h k q => (b.1 h k q).trans (a.1 h k q), b.2.trans a.2⟩
theorem oth.row {T T' : St} (a : oth T T') {h : Nat} (q : h ≠ 56) : T'.1 h = T.1 h := funext fun k => a.1 h k (fun z => q z.1)
section SE
variable {F G : Nat} {C : St} {nn bs fg sp : Nat}
theorem sr_le {pl : Int32 → Int32 → Bool} {mi : Nat → Nat} : ∀ {k n : Nat} {l r : Int32} {lost : Nat} {q : Nat × Int32 × Int32}, (srch pl mi k n l r lost q).1 ≤ q.1
  | 0, _, l, r, lost, q => by
    rw [srch]
    split
    · next h => exact Nat.le_of_lt h.1
    · exact Nat.le_refl _
  | k + 1, n, l, r, lost, q => by
    rw [srch]
    exact Nat.le_trans sr_le (Nat.le_trans sr_le sr_le)
theorem A_find (hF : 100000 ≤ F) (b0 : 1 ≤ bs) (hf1 : 1 ≤ fg) (hf : fg ≤ 5) (hs : sp ≤ 87) (hlp : iv (C.1 78 51) 0 87) : ∀ k n g (l r : Int32) (lost : Nat) (T : St) (q : Nat × Int32 × Int32), k + n = nn → k < g → AK C T nn bs fg sp → AB C T nn bs sp nn → fnd T q → Sub l n → Sub r n → (∀ i, i < n → ¬ (bt l i = true ∧ bt r i = true)) → GP (kyC C) (hdl C nn) nn bs fg sp (C.1 78 51) n l r → lost ≤ 999 * n → ∃ T', fA_find F G g 0 (nI n) l r (nI lost) T = some T' ∧ fnd T' (srch (plB (kyC C) (hdl C nn) nn bs fg sp (C.1 78 51)) (misN C nn) k n l r lost q) ∧ oth T T' := by
  intro k
  induction k with
  | zero =>
    intro n g l r lost T q e hg kT bT fT hl hr hd gp hlost
    obtain ⟨g', rfl⟩ : ∃ g', g = g' + 1 := ⟨g - 1, by omega⟩
    have en : n = nn := by omega
    subst en
    have n10 := kT.1.1
    have hk : ∀ i, i < n → iv (kyC C i) 0 87 := fun i hi => (kT.2.2.2.2.1 i hi).2
    have pl : plB (kyC C) (hdl C n) n bs fg sp (C.1 78 51) l r = true := (pl_iff n10 hk hf hs hl hr hd).mpr gp
    obtain ⟨f1, f2, f3, f4⟩ := fT
    show ∃ T', (if (0 : Nat) = 0 then fA_search F G (fA_find F G g') (nI n) l r (nI lost) T else none) = some T' ∧ _
    rw [if_pos rfl]
    unfold fA_search
    rw [f1, kT.1.2.2.2.1, if_neg (show ¬ nI n < nI n from fun z => by have := (nI_lt_i (by omega) (by omega)).mp z; omega), srch]
    by_cases c : lost < q.1
    · rw [if_pos ((nI_lt_i (by omega) (by omega)).mpr c), if_pos ⟨c, pl⟩, lt_eq, lt_eq, lt_eq]
      refine ⟨_, rfl, ⟨?_, ?_, sI_self, by show lost ≤ 9991; omega⟩, fun h k z => ?_, rfl⟩
      · rw [sI_at, if_neg (by omega), sI_at, if_neg (by omega), sI_self]
      · rw [sI_at, if_neg (by omega), sI_self]
      · rw [sI_at, if_neg (fun y => z ⟨y.1, Or.inr (Or.inr y.2)⟩), sI_at, if_neg (fun y => z ⟨y.1, Or.inr (Or.inl y.2)⟩), sI_at, if_neg (fun y => z ⟨y.1, Or.inl y.2⟩)]
    · rw [if_neg (fun z => c ((nI_lt_i (by omega) (by omega)).mp z)), if_neg (fun z => c z.1)]
      exact ⟨T, rfl, ⟨f1, f2, f3, f4⟩, oth.rf⟩
  | succ k ih =>
    intro n g l r lost T q e hg kT bT fT hl hr hd gp hlost
    obtain ⟨g', rfl⟩ : ∃ g', g = g' + 1 := ⟨g - 1, by omega⟩
    have n10 := kT.1.1
    have hn : n < nn := by omega
    have hk : ∀ i, i < nn → iv (kyC C i) 0 87 := fun i hi => (kT.2.2.2.2.1 i hi).2
    have hbS : ∀ b, b < bs → Sub (hdl C nn b) nn := fun b _ => hdl_sub n10
    show ∃ T', (if (0 : Nat) = 0 then fA_search F G (fA_find F G g') (nI n) l r (nI lost) T else none) = some T' ∧ _
    rw [if_pos rfl]
    by_cases cp : q.1 ≤ lost
    · -- too much is lost
      refine ⟨T, ?_, by rw [sr_prune cp]; exact fT, oth.rf⟩
      unfold fA_search
      rw [fT.1, if_neg (fun z => by have := (nI_lt_i (by have := fT.2.2.2; omega) (by have := fT.2.2.2; omega)).mp z; omega)]
    have q9 := fT.2.2.2
    have keepA : ∀ {X : St}, oth T X → AK C X nn bs fg sp := fun {X} a => kT.fr fun h q1 q2 => a.row (by omega)
    have keepB : ∀ {X : St}, oth T X → AB C X nn bs sp nn := fun {X} a m hm => by
      rw [a.row (h := 63) (by omega), a.row (h := 64) (by omega), a.row (h := 65) (by omega), a.row (h := 66) (by omega)]; exact bT m hm
    have l1 : Sub (l ||| bit1 n) (n + 1) := hl.b1 (by omega)
    have r1 : Sub (r ||| bit1 n) (n + 1) := hr.b1 (by omega)
    have dl : ∀ i, i < n + 1 → ¬ (bt (l ||| bit1 n) i = true ∧ bt r i = true) := fun i hi z => by
      by_cases c : i = n
      · rw [hr i (by omega) (by omega)] at z; exact absurd z.2 (by decide)
      · rw [← agr_b (n := n) (x := l) (by omega) i (by omega)] at z; exact hd i (by omega) z
    have dr : ∀ i, i < n + 1 → ¬ (bt l i = true ∧ bt (r ||| bit1 n) i = true) := fun i hi z => by
      by_cases c : i = n
      · rw [hl i (by omega) (by omega)] at z; exact absurd z.1 (by decide)
      · rw [← agr_b (n := n) (x := r) (by omega) i (by omega)] at z; exact hd i (by omega) z
    have d0 : ∀ i, i < n + 1 → ¬ (bt l i = true ∧ bt r i = true) := fun i hi z => by
      by_cases c : i = n
      · rw [hl i (by omega) (by omega)] at z; exact absurd z.1 (by decide)
      · exact hd i (by omega) z
    -- a step into a hand, or out
    have step : ∀ (X : St) (p : Nat × Int32 × Int32) (l' r' : Int32) (lost' : Nat), oth T X → fnd X p → Sub l' (n + 1) → Sub r' (n + 1) → (∀ i, i < n + 1 → ¬ (bt l' i = true ∧ bt r' i = true)) → lost' ≤ 999 * (n + 1) → GP (kyC C) (hdl C nn) nn bs fg sp (C.1 78 51) (n + 1) l' r' → ∃ X', fA_find F G g' 0 (nI (n + 1)) l' r' (nI lost') X = some X' ∧ fnd X' (srch (plB (kyC C) (hdl C nn) nn bs fg sp (C.1 78 51)) (misN C nn) k (n + 1) l' r' lost' p) ∧ oth T X' := fun X p l' r' lost' a f h1 h2 h3 h4 h5 => by
      obtain ⟨X', x1, x2, x3⟩ := ih (n + 1) g' l' r' lost' X p (by omega) (by omega) (keepA a) (keepB a) f h1 h2 h3 h5 h4
      exact ⟨X', x1, x2, a.tr x3⟩
    have no : ∀ (p : Nat × Int32 × Int32) (l' r' : Int32) (lost' : Nat), Sub l' (n + 1) → Sub r' (n + 1) → (∀ i, i < n + 1 → ¬ (bt l' i = true ∧ bt r' i = true)) → ¬ GP (kyC C) (hdl C nn) nn bs fg sp (C.1 78 51) (n + 1) l' r' → srch (plB (kyC C) (hdl C nn) nn bs fg sp (C.1 78 51)) (misN C nn) k (n + 1) l' r' lost' p = p := fun p l' r' lost' h1 h2 h3 h4 => sr_bad n10 hk hf hs hbS (by omega) h1 h2 h3 h4
    -- the last: out
    have third : ∀ (X : St) (p : Nat × Int32 × Int32), oth T X → fnd X p → ∃ X', j_A_search_141 F G (fA_find F G g') X (nI n) l r (nI lost) = some X' ∧ fnd X' (srch (plB (kyC C) (hdl C nn) nn bs fg sp (C.1 78 51)) (misN C nn) k (n + 1) l r (lost + misN C nn n) p) ∧ oth T X' := fun X p a f => by
      obtain ⟨v, v1, v2⟩ := A_leaps (F := F) (G := G) hF b0 (keepA a) hlp hn ((keepB a) n hn).2.2.2 (hl.up (by omega)) (hr.up (by omega))
      obtain ⟨m1, m2⟩ := mis_nI (C := C) (nn := nn) (j := n)
      unfold j_A_search_141
      rw [v1, bd_some]
      cases v
      · rw [if_pos (show b2i false = 0 from rfl), no p l r _ (hl.up (by omega)) (hr.up (by omega)) d0 (fun z => by
          have := v2.mpr ((G_out hn n10 hl hr gp).mp z)
          exact absurd this (by decide))]
        exact ⟨X, rfl, f, a⟩
      · obtain ⟨X', x1, x2, x3⟩ := step X p l r (lost + misN C nn n) a f (hl.up (by omega)) (hr.up (by omega)) d0 (by omega) ((G_out hn n10 hl hr gp).mpr (v2.mp rfl))
        rw [if_neg (show ¬ b2i true = 0 by decide), gd_t (inB_nI (show n < 10 by omega) (by decide)), nI_clamp (by omega), (keepA a).2.2.2.2.2.2 n hn, m1, nI_1, nI_add, x1, bd_some]
        exact ⟨X', rfl, x2, x3⟩
    -- the second: right
    have second : ∀ (X : St) (p : Nat × Int32 × Int32), oth T X → fnd X p → ∃ X', j_A_search_92 F G (fA_find F G g') X (nI n) l r (nI lost) (bit1 n) = some X' ∧ fnd X' (srch (plB (kyC C) (hdl C nn) nn bs fg sp (C.1 78 51)) (misN C nn) k (n + 1) l r (lost + misN C nn n) (srch (plB (kyC C) (hdl C nn) nn bs fg sp (C.1 78 51)) (misN C nn) k (n + 1) l (r ||| bit1 n) lost p)) ∧ oth T X' := fun X p a f => by
      obtain ⟨v, v1, v2⟩ := A_freeR (F := F) (G := G) (T := X) hk n10 hn hs ((keepB a) n hn).1 ((keepB a) n hn).2.2.1 hl hr
      obtain ⟨w, w1, w2⟩ := A_fing (F := F) (G := G) hF (keepA a) hn hf r1
      obtain ⟨y, y1, y2⟩ := A_leaps (F := F) (G := G) hF b0 (keepA a) hlp hn ((keepB a) n hn).2.2.2 (hl.up (by omega)) (r1.up (by omega))
      have gr := G_right hbS hn n10 hl hr gp
      have bad : ¬ (v = true ∧ w = true ∧ y = true) → srch (plB (kyC C) (hdl C nn) nn bs fg sp (C.1 78 51)) (misN C nn) k (n + 1) l (r ||| bit1 n) lost p = p := fun z => no p l (r ||| bit1 n) lost (hl.up (by omega)) r1 dr (fun g => z ⟨v2.mpr (gr.mp g).1, w2.mpr (gr.mp g).2.1, y2.mpr (gr.mp g).2.2⟩)
      unfold j_A_search_92
      rw [v1, bd_some, w1, bd_some, y1, bd_some]
      cases v
      · rw [if_pos (show b2i false = 0 from rfl), bad (fun z => absurd z.1 (by decide))]
        exact third X p a f
      rw [if_neg (show ¬ b2i true = 0 by decide)]
      cases w
      · rw [if_pos (show b2i false = 0 from rfl), bad (fun z => absurd z.2.1 (by decide))]
        exact third X p a f
      rw [if_neg (show ¬ b2i true = 0 by decide)]
      cases y
      · rw [if_pos (show b2i false = 0 from rfl), bad (fun z => absurd z.2.2 (by decide))]
        exact third X p a f
      obtain ⟨X', x1, x2, x3⟩ := step X p l (r ||| bit1 n) lost a f (hl.up (by omega)) r1 dr (by omega) (gr.mpr ⟨v2.mp rfl, w2.mp rfl, y2.mp rfl⟩)
      rw [if_neg (show ¬ b2i true = 0 by decide), nI_1, x1, bd_some]
      exact third X' _ x3 x2
    obtain ⟨v, v1, v2⟩ := A_freeL (F := F) (G := G) (T := T) hk n10 hn hs (bT n hn).1 (bT n hn).2.1 hl hr
    obtain ⟨w, w1, w2⟩ := A_fing (F := F) (G := G) hF kT hn hf l1
    obtain ⟨y, y1, y2⟩ := A_leaps (F := F) (G := G) hF b0 kT hlp hn (bT n hn).2.2.2 (l1.up (by omega)) (hr.up (by omega))
    have gl := G_left hbS hn n10 hl hr gp
    have bad : ¬ (v = true ∧ w = true ∧ y = true) → srch (plB (kyC C) (hdl C nn) nn bs fg sp (C.1 78 51)) (misN C nn) k (n + 1) (l ||| bit1 n) r lost q = q := fun z => no q (l ||| bit1 n) r lost l1 (hr.up (by omega)) dl (fun g => z ⟨v2.mpr (gl.mp g).1, w2.mpr (gl.mp g).2.1, y2.mpr (gl.mp g).2.2⟩)
    unfold fA_search
    rw [fT.1, kT.1.2.2.2.1, if_pos ((nI_lt_i (by omega) (by omega)).mpr (by omega)), if_pos ((nI_lt_i (by omega) (by omega)).mpr hn), lt_eq, srch]
    show ∃ T', (bd (fA_isFreeLeft F G T (nI n) l r) fun v6 => if v6 = 0 then j_A_search_92 F G (fA_find F G g') T (nI n) l r (nI lost) (bit1 n) else bd (fA_fingersReach F G T (nI n) (l ||| bit1 n)) fun v9 => if v9 = 0 then j_A_search_92 F G (fA_find F G g') T (nI n) l r (nI lost) (bit1 n) else bd (fA_leapsFit F G T (nI n) (l ||| bit1 n) r) fun v12 => if v12 = 0 then j_A_search_92 F G (fA_find F G g') T (nI n) l r (nI lost) (bit1 n) else bd (fA_find F G g' 0 (nI n + 1) (l ||| bit1 n) r (nI lost) T) fun S15 => j_A_search_92 F G (fA_find F G g') S15 (nI n) l r (nI lost) (bit1 n)) = some T' ∧ _
    rw [v1, bd_some, w1, bd_some, y1, bd_some]
    cases v
    · rw [if_pos (show b2i false = 0 from rfl), bad (fun z => absurd z.1 (by decide))]
      exact second T q oth.rf fT
    rw [if_neg (show ¬ b2i true = 0 by decide)]
    cases w
    · rw [if_pos (show b2i false = 0 from rfl), bad (fun z => absurd z.2.1 (by decide))]
      exact second T q oth.rf fT
    rw [if_neg (show ¬ b2i true = 0 by decide)]
    cases y
    · rw [if_pos (show b2i false = 0 from rfl), bad (fun z => absurd z.2.2 (by decide))]
      exact second T q oth.rf fT
    obtain ⟨X', x1, x2, x3⟩ := step T q (l ||| bit1 n) r lost oth.rf fT l1 (hr.up (by omega)) dl (by omega) (gl.mpr ⟨v2.mp rfl, w2.mp rfl, y2.mp rfl⟩)
    rw [if_neg (show ¬ b2i true = 0 by decide), nI_1, x1, bd_some]
    exact second X' _ x3 x2
/-- the whole arrangement -/
theorem A_arrange {T : St} (hF : 100000 ≤ F) (hG : 20 ≤ G) (b0 : 1 ≤ bs) (hf1 : 1 ≤ fg) (hf : fg ≤ 5) (hs : sp ≤ 87) (hlp : iv (C.1 78 51) 0 87) (k : AK C T nn bs fg sp) : ∃ T', fA_arrange F G T = some T' ∧ fnd T' (srch (plB (kyC C) (hdl C nn) nn bs fg sp (C.1 78 51)) (misN C nn) nn 0 0 0 0 (9991, 0, 0)) ∧ (∀ h, h ≠ 56 → h ≠ 63 → h ≠ 64 → h ≠ 65 → h ≠ 66 → T'.1 h = T.1 h) := by
  have n10 := k.1.1
  unfold fA_arrange
  obtain ⟨X, x1, x2, x3⟩ := cp2 (bod := b_A_arrange_2 F G (fun S8 => lt (sI S8 56 2 (9991 : Int32)) fun S9 => lt (sI S9 56 3 (0 : Int32)) fun S11 => lt (sI S11 56 4 (0 : Int32)) fun S13 => bd (fA_find F G G 0 (0 : Int32) (0 : Int32) (0 : Int32) (0 : Int32) S13) fun S16 => some S16)) (k := fun S8 => lt (sI S8 56 2 (9991 : Int32)) fun S9 => lt (sI S9 56 3 (0 : Int32)) fun S11 => lt (sI S11 56 4 (0 : Int32)) fun S13 => bd (fA_find F G G 0 (0 : Int32) (0 : Int32) (0 : Int32) (0 : Int32) S13) fun S16 => some S16) (N := nn) (fun m W => AB C W nn bs sp m ∧ (∀ h, h ≠ 63 → h ≠ 64 → h ≠ 65 → h ≠ 66 → W.1 h = T.1 h))
    (fun rec W hP => by
      unfold b_A_arrange_2
      rw [hP.2 57 (by omega) (by omega) (by omega) (by omega), k.1.2.2.2.1, if_pos (nI_le (Nat.le_refl nn) (by omega))])
    (fun rec m W hm hP => by
      obtain ⟨p1, p2⟩ := hP
      have kW : AK C W nn bs fg sp := k.fr fun h q1 q2 => p2 h (by omega) (by omega) (by omega) (by omega)
      obtain ⟨Y, y1, y2, y3, y4, y5⟩ := A_bars (F := F) (G := G) hF kW hm
      have kY : AK C Y nn bs fg sp := kW.fr fun h q1 q2 => funext fun c => y5 h c (by omega)
      obtain ⟨Z, z1, z2, z3⟩ := A_settle (F := F) (G := G) hF b0 kY hm
      unfold b_A_arrange_2
      rw [p2 57 (by omega) (by omega) (by omega) (by omega), k.1.2.2.2.1, if_neg (nI_ge hm (by omega)), y1, bd_some, z1, bd_some, lt_eq, nI_1]
      refine ⟨Z, rfl, fun n hn => ?_, fun h q1 q2 q3 q4 => funext fun c => ?_⟩
      · by_cases e : n = m
        · subst e
          exact ⟨(z3 63 n (by omega)).trans y2, (z3 64 n (by omega)).trans y3, (z3 65 n (by omega)).trans y4, z2⟩
        · obtain ⟨o1, o2, o3, o4⟩ := p1 n (by omega)
          exact ⟨(z3 63 n (by omega)).trans ((y5 63 n (by omega)).trans o1), (z3 64 n (by omega)).trans ((y5 64 n (by omega)).trans o2), (z3 65 n (by omega)).trans ((y5 65 n (by omega)).trans o3), (z3 66 n (by omega)).trans ((y5 66 n (by omega)).trans o4)⟩
      · rw [z3 h c (by omega), y5 h c (by omega), p2 h q1 q2 q3 q4])
    nn 0 F T rfl (by omega) (by omega) ⟨fun n hn => by omega, fun _ _ _ _ _ => rfl⟩
  have kX : AK C (sI (sI (sI X 56 2 9991) 56 3 0) 56 4 0) nn bs fg sp := k.fr fun h q1 q2 => by
    rw [sI_row (by omega), sI_row (by omega), sI_row (by omega)]; exact x3 h (by omega) (by omega) (by omega) (by omega)
  have bX : AB C (sI (sI (sI X 56 2 9991) 56 3 0) 56 4 0) nn bs sp nn := fun n hn => by
    have r : ∀ h, h ≠ 56 → (sI (sI (sI X 56 2 9991) 56 3 0) 56 4 0).1 h = X.1 h := fun h q => by rw [sI_row q, sI_row q, sI_row q]
    rw [r 63 (by omega), r 64 (by omega), r 65 (by omega), r 66 (by omega)]; exact x2 n hn
  have z : ∀ x : Int32, (0 : Int32) &&& x = 0 := fun x => by
    apply bt_ext
    intro i hi
    rw [bt_and, bt_0, Bool.false_and]
  have g0 : GP (kyC C) (hdl C nn) nn bs fg sp (C.1 78 51) 0 0 0 := ⟨fun i hi => by omega, ⟨fun b hb => Nat.zero_le _, fun b hb => Nat.zero_le _⟩, fun b hb t => ⟨Or.inl (z _), Or.inl (z _)⟩⟩
  obtain ⟨T', t1, t2, t3⟩ := A_find (F := F) (G := G) hF b0 hf1 hf hs hlp nn 0 G 0 0 0 _ (9991, 0, 0) (by omega) (by omega) kX bX ⟨by rw [sI_at, if_neg (by omega), sI_at, if_neg (by omega), sI_self]; rfl, by rw [sI_at, if_neg (by omega), sI_self], sI_self, by show 9991 ≤ 9991; omega⟩ Sub.zero Sub.zero (fun i hi => by omega) g0 (by omega)
  refine ⟨T', x1.trans ?_, t2, fun h q1 q2 q3 q4 q5 => ?_⟩
  · show lt (sI X 56 2 (9991 : Int32)) (fun S9 => lt (sI S9 56 3 (0 : Int32)) fun S11 => lt (sI S11 56 4 (0 : Int32)) fun S13 => bd (fA_find F G G 0 (0 : Int32) (0 : Int32) (0 : Int32) (0 : Int32) S13) fun S16 => some S16) = _
    rw [lt_eq, lt_eq, lt_eq]
    have t1' : fA_find F G G 0 (0 : Int32) (0 : Int32) (0 : Int32) (0 : Int32) (sI (sI (sI X 56 2 9991) 56 3 0) 56 4 0) = some T' := t1
    rw [t1', bd_some]
  · rw [t3.row q1, sI_row q1, sI_row q1, sI_row q1]; exact x3 h q2 q3 q4 q5
end SE
