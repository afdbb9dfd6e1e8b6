/-! HOW MUCH A NOTE IS MISSED: the formula's value, doubles -/
theorem fx4_s {A1 A2 A3 A4 R : Type} {body : (A1 → A2 → A3 → A4 → Option R) → A1 → A2 → A3 → A4 → Option R} {f : Nat} {a1 : A1} {a2 : A2} {a3 : A3} {a4 : A4} : fx4 body (f + 1) a1 a2 a3 a4 = body (fx4 body f) a1 a2 a3 a4 := rfl
/-- what an operator makes of two values -/
def dnF (a x y : Int32) : Int32 := if a = 37 then (if y = 0 then 0 else x - x / y * y) else if a = 38 then (if x = 0 then 0 else if y = 0 then 0 else 1) else if a = 42 then x * y else if a = 43 then x + y else if a = 45 then x - y else if a = 47 then (if y = 0 then 0 else x / y) else if a = 60 then (if y ≤ x then 0 else 1) else if a = 61 then (if x = y then 1 else 0) else if a = 62 then (if x ≤ y then 0 else 1) else if x = 0 then (if y = 0 then 0 else 1) else 1
theorem some_ite {c : Prop} [Decidable c] {α : Type} {a b : α} : (if c then some a else some b) = some (if c then a else b) := by
  by_cases h : c
  · rw [if_pos h, if_pos h]
  · rw [if_neg h, if_neg h]
theorem gd_nz {y : Int32} {α : Type} {a b : Option α} : (if y = 0 then a else gd (nz y) b) = if y = 0 then a else b := by
  by_cases h : y = 0
  · rw [if_pos h, if_pos h]
  · rw [if_neg h, if_neg h, gd_t (nz_of h)]
theorem M_done {F G : Nat} {S : St} (a x y : Int32) : fM_done F G S a x y = some (dnF a x y) := by
  unfold fM_done dnF
  have o1 : (if (1 : Int32) = 0 then (0 : Int32) else 1) = 1 := if_neg (by decide)
  simp only [M_truth, bd_some, o1, if_true, gd_nz, some_ite]
/-- the operator as the class writes it -/
def opF (a : Int32) : Int32 := if a = 38 then 13 else if a = 124 then 12 else a
theorem F_joined {F G : Nat} {S : St} {a : Int32} (h : isOp a = true) (x y : Int32) : fF_joined F G S (opF a) x y = some (dnF a x y) := by
  simp only [isOp, Bool.or_eq_true, beq_iff_eq] at h
  unfold fF_joined
  simp only [gd_nz, some_ite]
  congr 1
  rcases h with ((((((((h | h) | h) | h) | h) | h) | h) | h) | h) | h
  · subst h
    rw [show opF 38 = 13 from by decide, if_neg (show ¬ (13 : Int32) = 12 by decide), if_pos (show (13 : Int32) = 13 from rfl)]
    unfold dnF
    rw [if_neg (show ¬ (38 : Int32) = 37 by decide), if_pos (show (38 : Int32) = 38 from rfl)]
  · subst h
    rw [show opF 124 = 12 from by decide, if_pos (show (12 : Int32) = 12 from rfl)]
    unfold dnF
    rw [if_neg (show ¬ (124 : Int32) = 37 by decide), if_neg (show ¬ (124 : Int32) = 38 by decide), if_neg (show ¬ (124 : Int32) = 42 by decide), if_neg (show ¬ (124 : Int32) = 43 by decide), if_neg (show ¬ (124 : Int32) = 45 by decide), if_neg (show ¬ (124 : Int32) = 47 by decide), if_neg (show ¬ (124 : Int32) = 60 by decide), if_neg (show ¬ (124 : Int32) = 61 by decide), if_neg (show ¬ (124 : Int32) = 62 by decide)]
  · subst h
    rw [show opF 43 = 43 from by decide, if_neg (show ¬ (43 : Int32) = 12 by decide), if_neg (show ¬ (43 : Int32) = 13 by decide), if_neg (show ¬ (43 : Int32) = 37 by decide), if_neg (show ¬ (43 : Int32) = 42 by decide), if_pos (show (43 : Int32) = 43 from rfl)]
    unfold dnF
    rw [if_neg (show ¬ (43 : Int32) = 37 by decide), if_neg (show ¬ (43 : Int32) = 38 by decide), if_neg (show ¬ (43 : Int32) = 42 by decide), if_pos (show (43 : Int32) = 43 from rfl)]
  · subst h
    rw [show opF 45 = 45 from by decide, if_neg (show ¬ (45 : Int32) = 12 by decide), if_neg (show ¬ (45 : Int32) = 13 by decide), if_neg (show ¬ (45 : Int32) = 37 by decide), if_neg (show ¬ (45 : Int32) = 42 by decide), if_neg (show ¬ (45 : Int32) = 43 by decide), if_pos (show (45 : Int32) = 45 from rfl)]
    unfold dnF
    rw [if_neg (show ¬ (45 : Int32) = 37 by decide), if_neg (show ¬ (45 : Int32) = 38 by decide), if_neg (show ¬ (45 : Int32) = 42 by decide), if_neg (show ¬ (45 : Int32) = 43 by decide), if_pos (show (45 : Int32) = 45 from rfl)]
  · subst h
    rw [show opF 42 = 42 from by decide, if_neg (show ¬ (42 : Int32) = 12 by decide), if_neg (show ¬ (42 : Int32) = 13 by decide), if_neg (show ¬ (42 : Int32) = 37 by decide), if_pos (show (42 : Int32) = 42 from rfl)]
    unfold dnF
    rw [if_neg (show ¬ (42 : Int32) = 37 by decide), if_neg (show ¬ (42 : Int32) = 38 by decide), if_pos (show (42 : Int32) = 42 from rfl)]
  · subst h
    rw [show opF 47 = 47 from by decide, if_neg (show ¬ (47 : Int32) = 12 by decide), if_neg (show ¬ (47 : Int32) = 13 by decide), if_neg (show ¬ (47 : Int32) = 37 by decide), if_neg (show ¬ (47 : Int32) = 42 by decide), if_neg (show ¬ (47 : Int32) = 43 by decide), if_neg (show ¬ (47 : Int32) = 45 by decide), if_pos (show (47 : Int32) = 47 from rfl)]
    unfold dnF
    rw [if_neg (show ¬ (47 : Int32) = 37 by decide), if_neg (show ¬ (47 : Int32) = 38 by decide), if_neg (show ¬ (47 : Int32) = 42 by decide), if_neg (show ¬ (47 : Int32) = 43 by decide), if_neg (show ¬ (47 : Int32) = 45 by decide), if_pos (show (47 : Int32) = 47 from rfl)]
  · subst h
    rw [show opF 37 = 37 from by decide, if_neg (show ¬ (37 : Int32) = 12 by decide), if_neg (show ¬ (37 : Int32) = 13 by decide), if_pos (show (37 : Int32) = 37 from rfl)]
    unfold dnF
    rw [if_pos (show (37 : Int32) = 37 from rfl)]
  · subst h
    rw [show opF 60 = 60 from by decide, if_neg (show ¬ (60 : Int32) = 12 by decide), if_neg (show ¬ (60 : Int32) = 13 by decide), if_neg (show ¬ (60 : Int32) = 37 by decide), if_neg (show ¬ (60 : Int32) = 42 by decide), if_neg (show ¬ (60 : Int32) = 43 by decide), if_neg (show ¬ (60 : Int32) = 45 by decide), if_neg (show ¬ (60 : Int32) = 47 by decide), if_pos (show (60 : Int32) = 60 from rfl)]
    unfold dnF
    rw [if_neg (show ¬ (60 : Int32) = 37 by decide), if_neg (show ¬ (60 : Int32) = 38 by decide), if_neg (show ¬ (60 : Int32) = 42 by decide), if_neg (show ¬ (60 : Int32) = 43 by decide), if_neg (show ¬ (60 : Int32) = 45 by decide), if_neg (show ¬ (60 : Int32) = 47 by decide), if_pos (show (60 : Int32) = 60 from rfl)]
  · subst h
    rw [show opF 61 = 61 from by decide, if_neg (show ¬ (61 : Int32) = 12 by decide), if_neg (show ¬ (61 : Int32) = 13 by decide), if_neg (show ¬ (61 : Int32) = 37 by decide), if_neg (show ¬ (61 : Int32) = 42 by decide), if_neg (show ¬ (61 : Int32) = 43 by decide), if_neg (show ¬ (61 : Int32) = 45 by decide), if_neg (show ¬ (61 : Int32) = 47 by decide), if_neg (show ¬ (61 : Int32) = 60 by decide), if_pos (show (61 : Int32) = 61 from rfl)]
    unfold dnF
    rw [if_neg (show ¬ (61 : Int32) = 37 by decide), if_neg (show ¬ (61 : Int32) = 38 by decide), if_neg (show ¬ (61 : Int32) = 42 by decide), if_neg (show ¬ (61 : Int32) = 43 by decide), if_neg (show ¬ (61 : Int32) = 45 by decide), if_neg (show ¬ (61 : Int32) = 47 by decide), if_neg (show ¬ (61 : Int32) = 60 by decide), if_pos (show (61 : Int32) = 61 from rfl)]
  · subst h
    rw [show opF 62 = 62 from by decide, if_neg (show ¬ (62 : Int32) = 12 by decide), if_neg (show ¬ (62 : Int32) = 13 by decide), if_neg (show ¬ (62 : Int32) = 37 by decide), if_neg (show ¬ (62 : Int32) = 42 by decide), if_neg (show ¬ (62 : Int32) = 43 by decide), if_neg (show ¬ (62 : Int32) = 45 by decide), if_neg (show ¬ (62 : Int32) = 47 by decide), if_neg (show ¬ (62 : Int32) = 60 by decide), if_neg (show ¬ (62 : Int32) = 61 by decide), if_pos (show (62 : Int32) = 62 from rfl)]
    unfold dnF
    rw [if_neg (show ¬ (62 : Int32) = 37 by decide), if_neg (show ¬ (62 : Int32) = 38 by decide), if_neg (show ¬ (62 : Int32) = 42 by decide), if_neg (show ¬ (62 : Int32) = 43 by decide), if_neg (show ¬ (62 : Int32) = 45 by decide), if_neg (show ¬ (62 : Int32) = 47 by decide), if_neg (show ¬ (62 : Int32) = 60 by decide), if_neg (show ¬ (62 : Int32) = 61 by decide), if_pos (show (62 : Int32) = 62 from rfl)]
def up1 (v : Nat → Int32) (i : Nat) (x : Int32) : Nat → Int32 := fun j => if j = i then x else v j
theorem up1_at {v : Nat → Int32} {i : Nat} {x : Int32} : up1 v i x i = x := if_pos rfl
theorem up1_ne {v : Nat → Int32} {i j : Nat} {x : Int32} (h : j ≠ i) : up1 v i x j = v j := if_neg h
/-- the stack before the s-th step -/
def stk (f g q : Nat → Int32) : Nat → Nat × (Nat → Int32)
  | 0 => (0, fun _ => 0)
  | s + 1 => if f s = 0 then ((stk f g q s).1 + 1, up1 (stk f g q s).2 (stk f g q s).1 (g s)) else if f s = 1 then ((stk f g q s).1 + 1, up1 (stk f g q s).2 (stk f g q s).1 (q (g s).toNatClampNeg)) else if f s = 2 then ((stk f g q s).1, up1 (stk f g q s).2 ((stk f g q s).1 - 1) (if (stk f g q s).2 ((stk f g q s).1 - 1) = 0 then 1 else 0)) else ((stk f g q s).1 - 1, up1 (stk f g q s).2 ((stk f g q s).1 - 2) (dnF (g s) ((stk f g q s).2 ((stk f g q s).1 - 2)) ((stk f g q s).2 ((stk f g q s).1 - 1))))
theorem stk_hg {f g q : Nat → Int32} {m : Nat} (w : WFn f g m) : ∀ s, s ≤ m → ((stk f g q s).1 : Int) = hg f s
  | 0, _ => rfl
  | s + 1, h => by
    have ih := stk_hg (q := q) w s (by omega)
    obtain ⟨o1, o2, o3, o4, o5⟩ := w s (by omega)
    rw [stk, hg]
    rcases o1 with ⟨e, -⟩ | ⟨e, -⟩ | e | ⟨e, -⟩
    · rw [if_pos e, if_pos (Or.inl e)]; show (((stk f g q s).1 + 1 : Nat) : Int) = _; omega
    · rw [if_neg (by rw [e]; decide), if_pos e, if_pos (Or.inr e)]; show (((stk f g q s).1 + 1 : Nat) : Int) = _; omega
    · rw [if_neg (show ¬ f s = 0 by rw [e]; decide), if_neg (show ¬ f s = 1 by rw [e]; decide), if_pos e, if_neg (show ¬ (f s = 0 ∨ f s = 1) by rw [e]; decide), if_pos e]; exact ih
    · have := o5 e
      rw [if_neg (by rw [e]; decide), if_neg (by rw [e]; decide), if_neg (by rw [e]; decide), if_neg (by rw [e]; decide), if_neg (by rw [e]; decide)]; show (((stk f g q s).1 - 1 : Nat) : Int) = _; omega
section VF
variable {F G : Nat} {S : St} {f g q : Nat → Int32} {m : Nat}
theorem F_push {o h : Nat} (ho : isFo o = true) (h5 : S.1 o 5 = nI h) (hh : h < 31) (x : Int32) : fF_push F G S o x = some (sI (sI S (o + 2) h x) o 5 (nI (h + 1))) := by
  unfold fF_push
  have e : (sI S (o + 2) h x).1 o 5 = nI h := by rw [sI_row (by omega)]; exact h5
  rw [gd_t ho, h5, if_neg (show ¬ Int32.ofNat 31 ≤ nI h from nI_ge (b := 31) hh (by decide)), gd_t (inB_nI hh (by decide)), nI_clamp (by omega), lt_eq, lt_eq, e, nI_1]
/-- the class's stack -/
def VS (S T : St) (o : Nat) (v : Nat × (Nat → Int32)) : Prop := T.1 o 5 = nI v.1 ∧ (∀ i, i < v.1 → T.1 (o + 2) i = v.2 i) ∧ (∀ h k, h ≠ o + 2 → (h ≠ o ∨ k ≠ 5) → T.1 h k = S.1 h k) ∧ T.2 = S.2
theorem VS.push {T : St} {o h : Nat} {v : Nat → Int32} (k : VS S T o (h, v)) (ho : isFo o = true) (hh : h < 31) (x : Int32) : ∃ T', fF_push F G T o x = some T' ∧ VS S T' o (h + 1, up1 v h x) := by
  obtain ⟨k1, k2, k3, k4⟩ := k
  refine ⟨_, F_push ho k1 hh x, sI_self, fun i hi => ?_, fun h' k' q1 q2 => ?_, k4⟩
  · rw [sI_row (by omega), sI_at]
    by_cases z : i = h
    · rw [if_pos ⟨rfl, z⟩, z]; exact up1_at.symm
    · rw [if_neg (fun y => z y.2)]
      show T.1 (o + 2) i = up1 v h x i
      rw [up1_ne z]; exact k2 i (by have : i < h + 1 := hi; show i < h; omega)
  · rw [sI_at, if_neg (fun z => by omega), sI_row q1]; exact k3 h' k' q1 q2
theorem F_stepV {T : St} {o s : Nat} (ho : isFo o = true) (w : WFn f g m) (hs : s < m) (fa : ∀ i, i < 6 → S.1 (o + 3) i = q i) (k : VS S T o (stk f g q s)) : ∃ T', fF_step F G T o (encM (f s) (g s)) = some T' ∧ VS S T' o (stk f g q (s + 1)) := by
  obtain ⟨o1, o2, o3, o4, o5⟩ := w s hs
  have hv := stk_hg (q := q) w s (by omega)
  have fo := isFo_or ho
  rw [stk]
  generalize stk f g q s = v at k hv ⊢
  obtain ⟨h, v⟩ := v
  have hv : (h : Int) = hg f s := hv
  unfold fF_step encM
  rw [gd_t ho, lt_eq]
  rcases o1 with ⟨e, e'⟩ | ⟨e, e'⟩ | e | ⟨e, e'⟩
  · obtain ⟨T', t1, t2⟩ := k.push (F := F) (G := G) ho (by omega) (g s)
    rw [if_pos e, if_pos e, if_neg (Int32.not_lt.mpr e'), t1, bd_some]
    exact ⟨T', rfl, t2⟩
  · have n0 : ¬ f s = 0 := by rw [e]; decide
    obtain ⟨a, a1, a2⟩ := iv_nat (u := 5) e'
    obtain ⟨T', t1, t2⟩ := k.push (F := F) (G := G) ho (by omega) (q a)
    have c1 : -(15 + g s) < 0 ∧ ¬ -(-(15 + g s)) < 15 ∧ ¬ 20 < -(-(15 + g s)) ∧ -(-(15 + g s)) - 15 = nI a := by
      rw [a1]
      exact (by decide +kernel : ∀ a, a < 6 → -(15 + nI a) < 0 ∧ ¬ -(-(15 + nI a)) < 15 ∧ ¬ 20 < -(-(15 + nI a)) ∧ -(-(15 + nI a)) - 15 = nI a) a (by omega)
    obtain ⟨c1, c2, c3, c4⟩ := c1
    have f3 : T.1 (o + 3) a = q a := by rw [k.2.2.1 (o + 3) a (by omega) (by omega)]; exact fa a (by omega)
    rw [if_neg n0, if_pos e, if_neg n0, if_pos e, if_pos c1, if_neg c2, if_neg c3, c4, gd_t (inB_nI (by omega) (by decide)), nI_clamp (by omega), f3, t1, bd_some, a1, nI_clamp (by omega)]
    exact ⟨T', rfl, t2⟩
  · have n0 : ¬ f s = 0 := by rw [e]; decide
    have n1 : ¬ f s = 1 := by rw [e]; decide
    have h1 := o4 e
    obtain ⟨d, rfl⟩ : ∃ d, h = d + 1 := ⟨h - 1, by omega⟩
    obtain ⟨k1, k2, k3, k4⟩ := k
    have k1 : T.1 o 5 = nI (d + 1) := k1
    have vd : T.1 (o + 2) d = v d := k2 d (by show d < d + 1; omega)
    rw [if_neg n0, if_neg n1, if_pos e, if_neg n0, if_neg n1, if_pos e, if_pos (by decide), if_pos (by decide), Nat.add_sub_cancel]
    unfold j_F_step_43
    rw [if_pos (by decide), k1, if_neg (show ¬ nI (d + 1) ≤ 0 from nI_ge (a := 0) (b := d + 1) (by omega) (by omega)), nI_pred, gd_t (inB_nI (by omega) (by decide)), gd_t (inB_nI (by omega) (by decide)), gd_t (inB_nI (by omega) (by decide)), nI_clamp (by omega), vd, lt_eq, lt_eq]
    have fin : ∀ x : Int32, VS S (sI T (o + 2) d x) o (d + 1, up1 v d x) := fun x => by
      refine ⟨by rw [sI_row (by omega)]; exact k1, fun i hi => ?_, fun h' k' q1 q2 => by rw [sI_row q1]; exact k3 h' k' q1 q2, k4⟩
      rw [sI_at]
      by_cases z : i = d
      · rw [if_pos ⟨rfl, z⟩, z]; exact up1_at.symm
      · rw [if_neg (fun y => z y.2)]
        show _ = up1 v d x i
        rw [up1_ne z]; exact k2 i hi
    by_cases z : v d = 0
    · rw [if_pos z, if_pos z]; exact ⟨_, rfl, fin 1⟩
    · rw [if_neg z, if_neg z]; exact ⟨_, rfl, fin 0⟩
  · have n0 : ¬ f s = 0 := by rw [e]; decide
    have n1 : ¬ f s = 1 := by rw [e]; decide
    have n2 : ¬ f s = 2 := by rw [e]; decide
    have h1 := o5 e
    obtain ⟨d, rfl⟩ : ∃ d, h = d + 2 := ⟨h - 2, by omega⟩
    obtain ⟨k1, k2, k3, k4⟩ := k
    have k1 : T.1 o 5 = nI (d + 2) := k1
    have op : encO (g s) < 0 ∧ -(encO (g s)) = opF (g s) ∧ (opF (g s) < 15 ∨ 20 < opF (g s)) ∧ ¬ opF (g s) = 14 := by
      have hh := e'
      simp only [isOp, Bool.or_eq_true, beq_iff_eq] at hh
      rcases hh with ((((((((h | h) | h) | h) | h) | h) | h) | h) | h) | h <;> rw [h] <;> decide
    obtain ⟨c1, c2, c3, c4⟩ := op
    rw [if_neg n0, if_neg n1, if_neg n2, if_neg n0, if_neg n1, if_neg n2, if_pos c1, c2, show d + 2 - 1 = d + 1 from rfl, show d + 2 - 2 = d from rfl]
    have j43 : ∀ X : Option St, (if opF (g s) < 15 then X else if 20 < opF (g s) then X else gd (inB (opF (g s) - 15) 6) (bd (fF_push F G T o (T.1 (o + 3) (opF (g s) - 15).toNatClampNeg)) fun S8 => some S8)) = X := fun X => by
      by_cases z : opF (g s) < 15
      · rw [if_pos z]
      · rw [if_neg z]
        rcases c3 with y | y
        · exact absurd y z
        · rw [if_pos y]
    rw [j43]
    unfold j_F_step_43 j_F_step_89
    have e5 : (sI T o 5 (nI (d + 1))).1 o 5 = nI (d + 1) := sI_self
    have er : (sI T o 5 (nI (d + 1))).1 (o + 2) = T.1 (o + 2) := sI_row (by omega)
    rw [if_neg c4, k1, if_neg (show ¬ nI (d + 2) ≤ 1 from nI_ge (a := 1) (b := d + 2) (by omega) (by omega)), show nI (d + 2) - 1 = nI (d + 1) from nI_pred (d + 1), lt_eq, e5, er, nI_pred, gd_t (inB_nI (by omega) (by decide)), gd_t (inB_nI (by omega) (by decide)), nI_clamp (n := d) (by omega), nI_clamp (n := d + 1) (by omega), k2 d (by show d < d + 2; omega), k2 (d + 1) (by show d + 1 < d + 2; omega), F_joined e', bd_some, gd_t (inB_nI (by omega) (by decide)), lt_eq]
    refine ⟨_, rfl, by rw [sI_row (by omega)]; exact e5, fun i hi => ?_, fun h' k' q1 q2 => by rw [sI_row q1, sI_at, if_neg (fun z => by omega)]; exact k3 h' k' q1 q2, k4⟩
    rw [sI_at]
    by_cases z : i = d
    · rw [if_pos ⟨rfl, z⟩, z]; exact up1_at.symm
    · rw [if_neg (fun y => z y.2), er]
      show _ = up1 v d _ i
      rw [up1_ne z]; exact k2 i (by have : i < d + 1 := hi; show i < d + 2; omega)
theorem F_valueOf {o : Nat} (hF : 100000 ≤ F) (ho : isFo o = true) (hm : m ≤ 270) (w : WFn f g m) (h1 : hg f m = 1) (o1 : S.1 o 1 = nI m) (oc : ∀ i, i < m → S.1 (o + 1) i = encM (f i) (g i)) (p1 p2 p3 p4 p5 p6 : Int32) (hq : q 0 = p1 ∧ q 1 = p2 ∧ q 2 = p3 ∧ q 3 = p4 ∧ q 4 = p5 ∧ q 5 = p6) : ∃ T, fF_valueOf F G S o p1 p2 p3 p4 p5 p6 = some ((stk f g q m).2 0, T) ∧ ∀ h, h ≠ o → h ≠ o + 2 → h ≠ o + 3 → T.1 h = S.1 h := by
  have fo := isFo_or ho
  unfold fF_valueOf
  have g0 : inB (0 : Int32) 6 = true := by decide
  have g1 : inB (1 : Int32) 6 = true := by decide
  have g2 : inB (2 : Int32) 6 = true := by decide
  have g3 : inB (3 : Int32) 6 = true := by decide
  have g4 : inB (4 : Int32) 6 = true := by decide
  have g5 : inB (5 : Int32) 6 = true := by decide
  rw [gd_t ho, gd_t g0, lt_eq, gd_t g1, lt_eq, gd_t g2, lt_eq, gd_t g3, lt_eq, gd_t g4, lt_eq, gd_t g5, lt_eq, lt_eq, show (0 : Int32).toNatClampNeg = 0 from by decide, show (1 : Int32).toNatClampNeg = 1 from by decide, show (2 : Int32).toNatClampNeg = 2 from by decide, show (3 : Int32).toNatClampNeg = 3 from by decide, show (4 : Int32).toNatClampNeg = 4 from by decide, show (5 : Int32).toNatClampNeg = 5 from by decide]
  generalize hX : sI (sI (sI (sI (sI (sI (sI S (o + 3) 0 p1) (o + 3) 1 p2) (o + 3) 2 p3) (o + 3) 3 p4) (o + 3) 4 p5) (o + 3) 5 p6) o 5 0 = X
  have x5 : X.1 o 5 = nI 0 := by rw [← hX, sI_self]; rfl
  have x1 : X.1 o 1 = nI m := by rw [← hX, sI_at, if_neg (by omega), sI_row (by omega), sI_row (by omega), sI_row (by omega), sI_row (by omega), sI_row (by omega), sI_row (by omega)]; exact o1
  have xc : ∀ i, i < m → X.1 (o + 1) i = encM (f i) (g i) := fun i hi => by
    rw [← hX, sI_row (by omega), sI_row (by omega), sI_row (by omega), sI_row (by omega), sI_row (by omega), sI_row (by omega), sI_row (by omega)]; exact oc i hi
  have x3 : ∀ i, i < 6 → X.1 (o + 3) i = q i := fun i hi => by
    obtain ⟨q0, q1, q2, q3, q4, q5⟩ := hq
    rw [← hX, sI_row (by omega)]
    rcases (by omega : i = 0 ∨ i = 1 ∨ i = 2 ∨ i = 3 ∨ i = 4 ∨ i = 5) with rfl | rfl | rfl | rfl | rfl | rfl
    · rw [sI_at, if_neg (by omega), sI_at, if_neg (by omega), sI_at, if_neg (by omega), sI_at, if_neg (by omega), sI_at, if_neg (by omega), sI_self, q0]
    · rw [sI_at, if_neg (by omega), sI_at, if_neg (by omega), sI_at, if_neg (by omega), sI_at, if_neg (by omega), sI_self, q1]
    · rw [sI_at, if_neg (by omega), sI_at, if_neg (by omega), sI_at, if_neg (by omega), sI_self, q2]
    · rw [sI_at, if_neg (by omega), sI_at, if_neg (by omega), sI_self, q3]
    · rw [sI_at, if_neg (by omega), sI_self, q4]
    · rw [sI_self, q5]
  have xr : ∀ h, h ≠ o → h ≠ o + 3 → X.1 h = S.1 h := fun h q1 q2 => by rw [← hX, sI_row q1, sI_row q2, sI_row q2, sI_row q2, sI_row q2, sI_row q2, sI_row q2]
  obtain ⟨T, t1, t2⟩ := cp2 (bod := b_F_valueOf_53 F G o) (k := fun T => some ((stk f g q m).2 0, T)) (N := m) (fun s T => VS X T o (stk f g q s))
    (fun rec T hP => by
      have hv := stk_hg (q := q) w m (Nat.le_refl m)
      have e1 : (stk f g q m).1 = 1 := by omega
      have k1 := hP.1
      have k2 := hP.2.1 0 (by omega)
      rw [e1] at k1
      unfold b_F_valueOf_53
      rw [hP.2.2.1 o 1 (by omega) (by omega), x1, if_pos (nI_le (Nat.le_refl m) (by omega)), k1, if_neg (by decide), gd_t (by decide), show (0 : Int32).toNatClampNeg = 0 from by decide, k2])
    (fun rec s T hs hP => by
      obtain ⟨T', t1, t2⟩ := F_stepV (F := F) (G := G) ho w hs x3 hP
      unfold b_F_valueOf_53
      rw [hP.2.2.1 o 1 (by omega) (by omega), x1, if_neg (nI_ge hs (by omega)), gd_t (inB_nI (by omega) (by decide)), nI_clamp (by omega), hP.2.2.1 (o + 1) s (by omega) (by omega), xc s hs, t1, bd_some, lt_eq, nI_1]
      exact ⟨T', rfl, t2⟩)
    m 0 F X rfl (by omega) (by omega) ⟨x5, fun i hi => absurd hi (Nat.not_lt_zero i), fun _ _ _ _ => rfl, rfl⟩
  exact ⟨T, t1, fun h q1 q2 q3 => by rw [← xr h q1 q3]; exact funext fun k => t2.2.2.1 h k q2 (Or.inl q1)⟩
/-- the reference's steps -/
theorem M_steps (hF : 100000 ≤ F) (hm : m ≤ 270) (w : WFn f g m) (h18 : S.1 78 18 = nI m) (h83 : ∀ i, i < m → S.1 83 i = f i) (h84 : ∀ i, i < m → S.1 84 i = g i) (h87 : ∀ i, i < 6 → S.1 87 i = q i) (kk : St → Option (Int32 × St)) : ∃ T, fx3 (b_M_missedOf_128 F G kk) F 0 0 S = kk T ∧ (∀ i, i < (stk f g q m).1 → T.1 86 i = (stk f g q m).2 i) ∧ (∀ h, h ≠ 86 → T.1 h = S.1 h) ∧ T.2 = S.2 := by
  refine cp3 (bod := b_M_missedOf_128 F G kk) (k := kk) (N := m) (fun s => nI (stk f g q s).1) (fun s T => (∀ i, i < (stk f g q s).1 → T.1 86 i = (stk f g q s).2 i) ∧ (∀ h, h ≠ 86 → T.1 h = S.1 h) ∧ T.2 = S.2) (fun rec T hP => ?_) (fun rec s T hs hP => ?_) m 0 F S rfl (by omega) (by omega) ⟨fun i hi => absurd hi (Nat.not_lt_zero i), fun _ _ => rfl, rfl⟩
  · unfold b_M_missedOf_128
    rw [hP.2.1 78 (by omega), h18, if_pos (nI_le (Nat.le_refl m) (by omega))]
  · obtain ⟨p1, p2, p3⟩ := hP
    obtain ⟨o1, o2, o3, o4, o5⟩ := w s hs
    have hv := stk_hg (q := q) w s (by omega)
    show ∃ S', b_M_missedOf_128 F G kk rec (nI (stk f g q s).1) (nI s) T = rec (nI (stk f g q (s + 1)).1) (nI (s + 1)) S' ∧ _
    rw [stk]
    generalize stk f g q s = v at p1 hv ⊢
    obtain ⟨h, v⟩ := v
    have hv : (h : Int) = hg f s := hv
    have p1 : ∀ i, i < h → T.1 86 i = v i := p1
    show ∃ S', b_M_missedOf_128 F G kk rec (nI h) (nI s) T = _ ∧ _
    have gs : inB (nI s) 320 = true := inB_nI (by omega) (by decide)
    unfold b_M_missedOf_128 j_M_missedOf_155
    rw [p2 78 (by omega), h18, if_neg (nI_ge hs (by omega))]
    simp only [gd_t gs, nI_clamp (show s < 2 ^ 31 by omega), p2 83 (by omega), p2 84 (by omega), p2 87 (by omega), h83 s hs, h84 s hs]
    have put : ∀ x : Int32, (∀ i, i < h + 1 → (sI T 86 h x).1 86 i = up1 v h x i) ∧ (∀ h', h' ≠ 86 → (sI T 86 h x).1 h' = S.1 h') ∧ (sI T 86 h x).2 = S.2 := fun x => by
      refine ⟨fun i hi => ?_, fun h' q1 => by rw [sI_row q1]; exact p2 h' q1, p3⟩
      rw [sI_at]
      by_cases z : i = h
      · rw [if_pos ⟨rfl, z⟩, z, up1_at]
      · rw [if_neg (fun y => z y.2), up1_ne z]; exact p1 i (by omega)
    rcases o1 with ⟨e, e'⟩ | ⟨e, e'⟩ | e | ⟨e, e'⟩
    · simp only [if_pos e]
      rw [gd_t (inB_nI (show h < 64 by omega) (by decide)), nI_clamp (by omega), lt_eq, lt_eq, lt_eq, nI_1, nI_1]
      exact ⟨_, rfl, put _⟩
    · have n0 : ¬ f s = 0 := by rw [e]; decide
      obtain ⟨a, a1, a2⟩ := iv_nat (u := 5) e'
      simp only [if_neg n0, if_pos e]
      rw [a1, gd_t (inB_nI (show a < 6 by omega) (by decide)), gd_t (inB_nI (show h < 64 by omega) (by decide)), nI_clamp (n := h) (by omega), nI_clamp (n := a) (by omega), lt_eq, lt_eq, lt_eq, nI_1, nI_1, h87 a (by omega)]
      exact ⟨_, rfl, put _⟩
    · have n0 : ¬ f s = 0 := by rw [e]; decide
      have n1 : ¬ f s = 1 := by rw [e]; decide
      have h1 := o4 e
      obtain ⟨d, rfl⟩ : ∃ d, h = d + 1 := ⟨h - 1, by omega⟩
      simp only [if_neg n0, if_neg n1, if_pos e, Nat.add_sub_cancel]
      rw [nI_pred, gd_t (inB_nI (show d < 64 by omega) (by decide)), nI_clamp (n := d) (by omega), p1 d (by omega), M_truth, bd_some, M_truth, bd_some, if_neg (show ¬ (1 : Int32) = 0 by decide), if_pos (show (0 : Int32) = 0 from rfl), gd_t (inB_nI (show d < 64 by omega) (by decide)), gd_t (inB_nI (show d < 64 by omega) (by decide))]
      simp only [lt_eq, nI_1]
      have fin : ∀ x : Int32, (∀ i, i < d + 1 → (sI T 86 d x).1 86 i = up1 v d x i) ∧ (∀ h', h' ≠ 86 → (sI T 86 d x).1 h' = S.1 h') ∧ (sI T 86 d x).2 = S.2 := fun x => by
        refine ⟨fun i hi => ?_, fun h' q1 => by rw [sI_row q1]; exact p2 h' q1, p3⟩
        rw [sI_at]
        by_cases z : i = d
        · rw [if_pos ⟨rfl, z⟩, z, up1_at]
        · rw [if_neg (fun y => z y.2), up1_ne z]; exact p1 i hi
      by_cases z : v d = 0
      · rw [if_pos z, if_pos z]; exact ⟨_, rfl, fin 1⟩
      · rw [if_neg z, if_neg z]; exact ⟨_, rfl, fin 0⟩
    · have n0 : ¬ f s = 0 := by rw [e]; decide
      have n1 : ¬ f s = 1 := by rw [e]; decide
      have n2 : ¬ f s = 2 := by rw [e]; decide
      have h1 := o5 e
      obtain ⟨d, rfl⟩ : ∃ d, h = d + 2 := ⟨h - 2, by omega⟩
      simp only [if_neg n0, if_neg n1, if_neg n2]
      rw [show nI (d + 2) + (-1) = nI (d + 1) from by rw [← Int32.sub_eq_add_neg]; exact nI_pred (d + 1), lt_eq, nI_pred, gd_t (inB_nI (show d < 64 by omega) (by decide)), gd_t (inB_nI (show d + 1 < 64 by omega) (by decide)), nI_clamp (n := d) (by omega), nI_clamp (n := d + 1) (by omega), p1 d (by omega), p1 (d + 1) (by omega), M_done, bd_some, gd_t (inB_nI (show d < 64 by omega) (by decide)), lt_eq, lt_eq, nI_1]
      refine ⟨_, rfl, fun i hi => ?_, fun h' q1 => by rw [sI_row q1]; exact p2 h' q1, p3⟩
      have hi : i < d + 1 := hi
      rw [sI_at]
      show _ = up1 v d _ i
      by_cases z : i = d
      · rw [if_pos ⟨rfl, z⟩, z, up1_at]; rfl
      · rw [if_neg (fun y => z y.2), up1_ne z]; exact p1 i (by omega)
end VF
