/-! THE FORMULA: what waits in the reference, what the class has put already -/
def tg (s : Nat) : Nat := if s = 21 then 3 else if s = 38 then 2 else if s = 43 then 5 else if s = 45 then 5 else if s = 60 then 4 else if s = 61 then 4 else if s = 62 then 4 else if s = 124 then 1 else 6
def isBin (s : Nat) : Bool := s == 38 || s == 124 || s == 43 || s == 45 || s == 42 || s == 47 || s == 37 || s == 60 || s == 61 || s == 62
def topT : List Nat → Nat
  | [] => 0
  | s :: _ => if s = 20 then 0 else tg s
def okW : List Nat → Prop
  | [] => True
  | s :: r => okW r ∧ (s = 20 ∨ (s = 21 ∧ topT r < 4) ∨ (isBin s = true ∧ topT r < tg s))
def dp : List Nat → Nat
  | [] => 0
  | s :: r => dp r + (if s = 20 ∨ s = 21 then 1 else 0)
def nb : List Nat → Nat
  | [] => 0
  | s :: r => nb r + (if isBin s = true then 1 else 0)
def hr : List Nat → Bool
  | [] => false
  | s :: r => if s = 20 then false else if 4 < tg s then hr r else tg s == 4
def WaitIs (B : St) : List Nat → Prop
  | [] => True
  | s :: r => B.1 85 r.length = nI s ∧ WaitIs B r
def cO (s : Nat) : Int32 := if s = 21 then -14 else encO (nI s)
def PendC (A : St) (h : Nat) : Nat → List Nat → Prop
  | _, [] => True
  | m, s :: r => A.1 h m = cO s ∧ PendC A h (m + 1) r
theorem tg_le (s : Nat) : 1 ≤ tg s ∧ tg s ≤ 6 := by
  unfold tg
  repeat' split
  all_goals omega
theorem topT_le : ∀ l, topT l ≤ 6
  | [] => by decide
  | s :: r => by
    show (if s = 20 then 0 else tg s) ≤ 6
    have := tg_le s
    split <;> omega
theorem okW_len : ∀ l, okW l → l.length ≤ 7 * dp l + topT l
  | [], _ => by decide
  | s :: r, h => by
    have ih := okW_len r h.1
    have t6 := topT_le r
    show r.length + 1 ≤ 7 * (dp r + (if s = 20 ∨ s = 21 then 1 else 0)) + (if s = 20 then 0 else tg s)
    rcases h.2 with e | ⟨e, h4⟩ | ⟨e, h4⟩
    · rw [if_pos (Or.inl e), if_pos e]; omega
    · rw [if_pos (Or.inr e), if_neg (by omega)]
      have : tg s = 3 := by rw [e]; rfl
      omega
    · by_cases c : s = 20 ∨ s = 21
      · rcases c with c | c <;> rw [c] at e <;> cases e
      · rw [if_neg c, if_neg (fun z => c (Or.inl z))]; omega
theorem nb_le : ∀ l, nb l ≤ l.length
  | [] => by decide
  | s :: r => by
    have := nb_le r
    show nb r + (if isBin s = true then 1 else 0) ≤ r.length + 1
    split <;> omega
theorem okW_mem : ∀ l, okW l → ∀ s, s ∈ l → s = 20 ∨ s = 21 ∨ isBin s = true
  | [], _, s, h => by cases h
  | x :: r, h, s, hs => by
    rcases List.mem_cons.mp hs with e | e
    · rw [e]
      rcases h.2 with e | ⟨e, -⟩ | ⟨e, -⟩
      · exact Or.inl e
      · exact Or.inr (Or.inl e)
      · exact Or.inr (Or.inr e)
    · exact okW_mem r h.1 s e
theorem op_lt {s : Nat} (h : s = 20 ∨ s = 21 ∨ isBin s = true) : s < 256 := by
  rcases h with h | h | h
  · omega
  · omega
  · simp only [isBin, Bool.or_eq_true, beq_iff_eq] at h; omega
theorem okW_tl : ∀ l r, okW (l ++ r) → okW r
  | [], _, h => h
  | _ :: l, r, h => okW_tl l r h.1
section MK
variable {F G : Nat} {A B : St} {d : Nat}
theorem M_tight {s : Nat} (hs : s < 256) : fM_tight F G B (nI s) = some (nI (tg s)) := by
  unfold fM_tight
  exact (by decide +kernel : ∀ s, s < 256 → (if nI s = (21 : Int32) then some (3 : Int32) else if nI s = (38 : Int32) then some (2 : Int32) else if nI s = (43 : Int32) then some (5 : Int32) else if nI s = (45 : Int32) then some (5 : Int32) else if nI s = (60 : Int32) then some (4 : Int32) else if nI s = (61 : Int32) then some (4 : Int32) else if nI s = (62 : Int32) then some (4 : Int32) else if nI s = (124 : Int32) then some (1 : Int32) else some (6 : Int32)) = some (nI (tg s))) s hs
theorem WaitIs.ag : ∀ (l : List Nat) {B B' : St}, WaitIs B l → (∀ i, i < l.length → B'.1 85 i = B.1 85 i) → WaitIs B' l
  | [], _, _, _, _ => trivial
  | s :: r, _, _, h, e => ⟨(e r.length (by simp)).trans h.1, WaitIs.ag r h.2 (fun i hi => e i (by simp; omega))⟩
theorem PendC.ag {h : Nat} : ∀ (l : List Nat) (m : Nat) {A A' : St}, PendC A h m l → (∀ i, A'.1 h i = A.1 h i) → PendC A' h m l
  | [], _, _, _, _, _ => trivial
  | s :: r, m, _, _, h, e => ⟨(e m).trans h.1, PendC.ag r (m + 1) h.2 e⟩
theorem PendC.put {h : Nat} : ∀ (l : List Nat) (m : Nat) {A A' : St} {s : Nat}, PendC A h m l → (∀ i, i < m + l.length → A'.1 h i = A.1 h i) → A'.1 h (m + l.length) = cO s → PendC A' h m (l ++ [s])
  | [], m, _, _, _, _, _, e2 => ⟨e2, trivial⟩
  | x :: r, m, _, _, s, h, e, e2 => ⟨(e m (by simp)).trans h.1, PendC.put r (m + 1) h.2 (fun i hi => e i (by simp at hi ⊢; omega)) (by rw [List.length_cons] at e2; rw [show m + 1 + r.length = m + (r.length + 1) by omega]; exact e2)⟩
theorem M_hasBracket {l : List Nat} (hF : 100000 ≤ F) (hw : WaitIs B l) (ho : B.1 78 19 = nI l.length) (hl : l.length ≤ 159) (hk : ∀ s, s ∈ l → s < 256) : fM_hasBracket F G B = some (if 20 ∈ l then 1 else 0) := by
  have get : ∀ (l : List Nat), WaitIs B l → ∀ i, i < l.length → B.1 85 i = nI (l.reverse.getD i 0) := by
    intro l
    induction l with
    | nil => intro _ i hi; simp at hi
    | cons s r ih =>
      intro hw i hi
      rw [List.reverse_cons, List.getD_eq_getElem?_getD]
      by_cases c : i = r.length
      · rw [List.getElem?_append_right (by simp; omega), c, hw.1]
        simp
      · rw [List.getElem?_append_left (by simp at hi ⊢; omega), ← List.getD_eq_getElem?_getD]
        exact ih hw.2 i (by simp at hi; omega)
  have gt := get l hw
  have key : ∀ r j f (v : Int32), l.length - j = r → j ≤ l.length → r < f → (v = 0 ∨ v = 1) → ∃ v', fx2 (b_M_hasBracket_4 F G B) f v (nI j) = some v' ∧ (v' = 0 ∨ v' = 1) ∧ (v' = 1 ↔ v = 1 ∨ ∃ i, j ≤ i ∧ i < l.length ∧ l.reverse.getD i 0 = 20) := by
    intro r
    induction r with
    | zero =>
      intro j f v hr hj hf hv
      obtain ⟨g, rfl⟩ : ∃ g, f = g + 1 := ⟨f - 1, by omega⟩
      rw [fx2_s]
      generalize fx2 (b_M_hasBracket_4 F G B) g = rec
      unfold b_M_hasBracket_4
      rw [ho, if_pos (nI_le (by omega) (by omega))]
      refine ⟨v, ?_, hv, ⟨Or.inl, fun z => ?_⟩⟩
      · rcases hv with rfl | rfl <;> rfl
      · rcases z with z | ⟨i, z1, z2, -⟩
        · exact z
        · omega
    | succ r ih =>
      intro j f v hr hj hf hv
      obtain ⟨g, rfl⟩ : ∃ g, f = g + 1 := ⟨f - 1, by omega⟩
      rw [fx2_s]
      have ih0 := ih (j + 1) g 0 (by omega) (by omega) (by omega) (Or.inl rfl)
      have ih1 := ih (j + 1) g 1 (by omega) (by omega) (by omega) (Or.inr rfl)
      generalize fx2 (b_M_hasBracket_4 F G B) g = rec at ih0 ih1
      unfold b_M_hasBracket_4
      rw [ho, if_neg (nI_ge (by omega) (by omega))]
      simp only [lt_eq, nI_1]
      obtain ⟨v1, x1, x2, x3⟩ := ih1
      obtain ⟨v0, y1, y2, y3⟩ := ih0
      have x3 : v1 = 1 := x3.mpr (Or.inl rfl)
      rcases hv with rfl | rfl
      · rw [if_pos rfl, gd_t (inB_nI (by omega) (by decide)), nI_clamp (by omega), gt j (by omega)]
        have hlt : l.reverse.getD j 0 < 256 := by
          rw [List.getD_eq_getElem?_getD, List.getElem?_eq_getElem (by simp; omega)]
          exact hk _ (List.mem_reverse.mp (List.getElem_mem _))
        by_cases c : l.reverse.getD j 0 = 20
        · rw [if_pos (by rw [c]; rfl)]
          exact ⟨v1, x1, x2, ⟨fun _ => Or.inr ⟨j, by omega, by omega, c⟩, fun _ => x3⟩⟩
        · rw [if_neg (show ¬ nI (l.reverse.getD j 0) = (20 : Int32) from fun z => c ((nI_eq (by omega) (by decide)).mp z))]
          refine ⟨v0, y1, y2, y3.trans ⟨fun z => ?_, fun z => ?_⟩⟩
          · rcases z with z | ⟨i, z1, z2, z3⟩
            · exact Or.inl z
            · exact Or.inr ⟨i, by omega, z2, z3⟩
          · rcases z with z | ⟨i, z1, z2, z3⟩
            · exact Or.inl z
            · by_cases e2 : i = j
              · rw [e2] at z3; exact absurd z3 c
              · exact Or.inr ⟨i, by omega, z2, z3⟩
      · rw [if_neg (by decide)]
        exact ⟨v1, x1, x2, ⟨fun _ => Or.inl rfl, fun _ => x3⟩⟩
  unfold fM_hasBracket
  obtain ⟨v, h1, h2, h3⟩ := key l.length 0 F 0 rfl (by omega) (by omega) (Or.inl rfl)
  rw [show (nI 0 : Int32) = 0 from rfl] at h1
  rw [h1]
  congr 1
  by_cases c : 20 ∈ l
  · rw [if_pos c]
    apply h3.mpr
    obtain ⟨i, hi, e⟩ := List.mem_iff_getElem.mp (List.mem_reverse.mpr c)
    refine Or.inr ⟨i, by omega, by simpa using hi, ?_⟩
    rw [List.getD_eq_getElem?_getD, List.getElem?_eq_getElem hi, e]; rfl
  · rw [if_neg c]
    rcases h2 with h2 | h2
    · exact h2
    · exfalso
      rcases h3.mp h2 with z | ⟨i, z1, z2, z3⟩
      · exact absurd z (by decide)
      · apply c
        have hi : i < l.reverse.length := by simpa using z2
        rw [List.getD_eq_getElem?_getD, List.getElem?_eq_getElem hi] at z3
        have z4 : l.reverse[i]'hi = 20 := z3
        have := List.getElem_mem hi
        rw [z4] at this
        exact List.mem_reverse.mp this
theorem M_hasRelation {l : List Nat} (hF : 100000 ≤ F) (hw : WaitIs B l) (ho : B.1 78 19 = nI l.length) (hl : l.length ≤ 159) (hk : ∀ s, s ∈ l → s < 256) : fM_hasRelation F G B = some (if hr l = true then 1 else 0) := by
  have key : ∀ (l : List Nat) f, WaitIs B l → l.length ≤ 159 → (∀ s, s ∈ l → s < 256) → l.length < f → fx1 (b_M_hasRelation_7 F G B (fun v12 => j_M_hasRelation_41 F G B v12)) f (nI l.length - 1) = some (if hr l = true then 1 else 0) := by
    intro l
    induction l with
    | nil =>
      intro f _ _ _ hf
      obtain ⟨g, rfl⟩ : ∃ g, f = g + 1 := ⟨f - 1, by omega⟩
      rw [fx1_s]
      generalize fx1 (b_M_hasRelation_7 F G B (fun v12 => j_M_hasRelation_41 F G B v12)) g = rec
      unfold b_M_hasRelation_7
      rw [if_pos (show nI ([] : List Nat).length - 1 < 0 by decide)]
      show j_M_hasRelation_41 F G B (nI 0 - 1) = some 0
      unfold j_M_hasRelation_41
      rw [if_pos (by decide)]
    | cons s r ih =>
      intro f hw hl hk hf
      obtain ⟨g, rfl⟩ : ∃ g, f = g + 1 := ⟨f - 1, by omega⟩
      simp only [List.length_cons] at hl hf
      have ih1 := ih g hw.2 (by omega) (fun x hx => hk x (List.mem_cons_of_mem _ hx)) (by omega)
      have hs := hk s (List.mem_cons_self ..)
      have e1 : nI (s :: r).length - 1 = nI r.length := by
        rw [show (1 : Int32) = nI 1 from rfl, nI_subN (by simp) (by simp; omega)]
        rfl
      have e2 : nI r.length + -1 = nI r.length - 1 := by
        apply Int32.toInt_inj.mp
        have m1 : (-1 : Int32).toInt = -1 := rfl
        have p1 : (1 : Int32).toInt = 1 := rfl
        rw [Int32.toInt_add, Int32.toInt_sub, m1, p1]
        rfl
      have tl := tg_le s
      rw [fx1_s, e1]
      generalize fx1 (b_M_hasRelation_7 F G B (fun v12 => j_M_hasRelation_41 F G B v12)) g = rec at ih1
      unfold b_M_hasRelation_7
      rw [if_neg (nI_pos (by omega)), gd_t (inB_nI (by omega) (by decide)), gd_t (inB_nI (by omega) (by decide)), nI_clamp (by omega), hw.1, M_tight hs, bd_some, lt_eq, e2, ih1]
      show _ = some (if (if s = 20 then false else if 4 < tg s then hr r else tg s == 4) = true then 1 else 0)
      by_cases c : s = 20
      · rw [if_pos (show nI s = (20 : Int32) by rw [c]; rfl)]
        show j_M_hasRelation_41 F G B (nI r.length) = _
        unfold j_M_hasRelation_41
        rw [if_neg (nI_pos (by omega)), gd_t (inB_nI (by omega) (by decide)), nI_clamp (by omega), hw.1, if_pos (show nI s = (20 : Int32) by rw [c]; rfl), if_pos c]
        rfl
      · have hc : ¬ nI s = (20 : Int32) := fun z => c ((nI_eq (by omega) (by decide)).mp z)
        rw [if_neg hc, if_neg c]
        by_cases e : 4 < tg s
        · rw [if_neg (show ¬ nI (tg s) ≤ (4 : Int32) from nI_ge (a := 4) e (by omega)), if_pos e]
        · rw [if_pos (show nI (tg s) ≤ (4 : Int32) from nI_le (b := 4) (by omega) (by decide)), if_neg e]
          show j_M_hasRelation_41 F G B (nI r.length) = _
          unfold j_M_hasRelation_41
          rw [if_neg (nI_pos (by omega)), gd_t (inB_nI (by omega) (by decide)), gd_t (inB_nI (by omega) (by decide)), nI_clamp (by omega), hw.1, if_neg hc, M_tight hs, bd_some]
          by_cases e4 : tg s = 4
          · rw [if_pos (show nI (tg s) = (4 : Int32) by rw [e4]; rfl), e4]; rfl
          · rw [if_neg (show ¬ nI (tg s) = (4 : Int32) from fun z => e4 ((nI_eq (by omega) (by decide)).mp z)), if_neg (by simpa using e4)]
  unfold fM_hasRelation
  rw [lt_eq, ho]
  exact key l F hw hl hk (by omega)
theorem M_mayNot {l : List Nat} (hw : WaitIs B l) (ho : B.1 78 19 = nI l.length) (hl : l.length ≤ 159) (hk : ∀ s, s ∈ l → s < 256) : fM_mayNot F G B = some (if topT l < 4 then 1 else 0) := by
  unfold fM_mayNot
  rw [ho]
  cases l with
  | nil => rfl
  | cons s r =>
    have hs := hk s (List.mem_cons_self ..)
    have tl := tg_le s
    simp only [List.length_cons] at hl
    have e1 : nI (s :: r).length - 1 = nI r.length := by
      rw [show (1 : Int32) = nI 1 from rfl, nI_subN (by simp) (by simp; omega)]
      rfl
    rw [if_neg (fun z => by rw [show (0 : Int32) = nI 0 from rfl, nI_eq (by simp; omega) (by decide)] at z; simp at z), e1, gd_t (inB_nI (by omega) (by decide)), gd_t (inB_nI (by omega) (by decide)), nI_clamp (by omega), hw.1, M_tight hs, bd_some]
    show _ = some (if (if s = 20 then 0 else tg s) < 4 then 1 else 0)
    by_cases c : s = 20
    · rw [if_pos (show nI s = (20 : Int32) by rw [c]; rfl), if_pos c, if_pos (by decide)]
    · rw [if_neg (show ¬ nI s = (20 : Int32) from fun z => c ((nI_eq (by omega) (by decide)).mp z)), if_neg c]
      by_cases e : tg s < 4
      · rw [if_neg (show ¬ (4 : Int32) ≤ nI (tg s) from nI_ge (b := 4) e (by decide)), if_pos e]
      · rw [if_pos (show (4 : Int32) ≤ nI (tg s) from nI_le (a := 4) (by omega) (by omega)), if_neg e]
end MK
