/-! LINES: numbers and parts -/
theorem agcI {s l : Nat → Nat → Bool} {A A' : St} (a : Ag s l A A') (h k : Nat) (x : Int32) : Ag s l (sI A h k x) (sI A' h k x) := by
  refine ⟨a.1, fun h' k' e => ?_, a.2.2⟩
  rw [sI_at, sI_at]
  by_cases c : h' = h ∧ k' = k
  · rw [if_pos c, if_pos c]
  · rw [if_neg c, if_neg c]; exact a.2.1 h' k' e
theorem agcL {s l : Nat → Nat → Bool} {A A' : St} (a : Ag s l A A') (h k : Nat) (x : Int64) : Ag s l (sL A h k x) (sL A' h k x) := by
  refine ⟨a.1, a.2.1, fun h' k' e => ?_⟩
  rw [sL_at, sL_at]
  by_cases c : h' = h ∧ k' = k
  · rw [if_pos c, if_pos c]
  · rw [if_neg c, if_neg c]; exact a.2.2 h' k' e
section LP
variable {F G d np nn : Nat} {PN NN : Nat → List Nat} {A0 B0 A1 B1 A B : St} {b : Nat → Nat} {n : Nat} {t : Tk} {p : Nat}
theorem Lx.cA {h k : Nat} {x : Int32} (hh : 4 ≤ h ∨ (h = 1)) (o : Lx b n A B t p) : Lx b n (sI A h k x) B t p := by
  obtain ⟨l1, l2, l3, l4, l5, l6, l7, l8, l9, l10⟩ := o
  have e : ∀ k', (sI A h k x).1 2 k' = A.1 2 k' := fun k' => by rw [sI_at, if_neg (by omega)]
  have e3 : ∀ k', (sI A h k x).1 3 k' = A.1 3 k' := fun k' => by rw [sI_at, if_neg (by omega)]
  exact ⟨⟨(e 0).trans l1.1, l1.2.1, fun j hj => ⟨(l1.2.2 j hj).1, (e3 j).trans (l1.2.2 j hj).2⟩⟩, l2, ⟨(e 4).trans l3.1, fun q => ⟨(l3.2.1 q).1, (e 5).trans (l3.2.1 q).2⟩, fun q => (e 5).trans (l3.2.2 q)⟩, l4, l5, l6, (e 2).trans l7, l8, (e 3).trans l9, l10⟩
theorem Lx.cAL {h k : Nat} {x : Int64} (hh : 4 ≤ h) (o : Lx b n A B t p) : Lx b n (sL A h k x) B t p := by
  obtain ⟨l1, l2, l3, l4, l5, l6, l7, l8, l9, l10⟩ := o
  have e : (sL A h k x).2.1 2 6 = A.2.1 2 6 := by rw [sL_at, if_neg (by omega)]
  exact ⟨l1, l2, ⟨l3.1, fun q => ⟨e.trans (l3.2.1 q).1, (l3.2.1 q).2⟩, l3.2.2⟩, l4, l5, l6, l7, l8, l9, l10⟩
theorem Lx.cB {h k : Nat} {x : Int32} (hh : (h = 78 ∧ 9 ≤ k) ∨ 80 ≤ h) (o : Lx b n A B t p) : Lx b n A (sI B h k x) t p := by
  obtain ⟨l1, l2, l3, l4, l5, l6, l7, l8, l9, l10⟩ := o
  have e : ∀ k', k' < 9 → (sI B h k x).1 78 k' = B.1 78 k' := fun k' hk => by rw [sI_at, if_neg (by omega)]
  have e3 : ∀ k', (sI B h k x).1 79 k' = B.1 79 k' := fun k' => by rw [sI_at, if_neg (by omega)]
  exact ⟨l1, ⟨(e 5 (by omega)).trans l2.1, l2.2.1, fun j hj => ⟨(l2.2.2 j hj).1, (e3 j).trans (l2.2.2 j hj).2⟩⟩, l3, ⟨(e 6 (by omega)).trans l4.1, l4.2.1, fun q => (e 8 (by omega)).trans (l4.2.2 q)⟩, l5, l6, l7, fun q => (e 4 (by omega)).trans (l8 q), l9.trans (e 7 (by omega)).symm, l10⟩
theorem Lx.cBL {h k : Nat} {x : Int64} (hh : h = 80) (o : Lx b n A B t p) : Lx b n A (sL B h k x) t p := by
  obtain ⟨l1, l2, l3, l4, l5, l6, l7, l8, l9, l10⟩ := o
  have e : (sL B h k x).2.1 78 9 = B.2.1 78 9 := by rw [sL_at, if_neg (by omega)]
  exact ⟨l1, l2, l3, ⟨l4.1, fun q => e.trans (l4.2.1 q), l4.2.2⟩, l5, l6, l7, l8, l9, l10⟩
theorem OkX.cA {h k : Nat} {x : Int32} (hh : 4 ≤ h) (o : OkX b n A1 B1 A B t p) : OkX b n (sI A1 h k x) B1 (sI A h k x) B t p := by
  obtain ⟨k1, k2, k3, k4, k5, k6, k7⟩ := o
  have e : ∀ (S : St) j, (sI S h k x).1 1 j = S.1 1 j := fun S j => by rw [sI_at, if_neg (by omega)]
  exact ⟨k1.cA (Or.inl hh), (e A 0).trans k2, k3, by rw [e, e]; exact k4, k5, agcI k6 h k x, k7⟩
theorem OkX.cAL {h k : Nat} {x : Int64} (hh : 4 ≤ h) (o : OkX b n A1 B1 A B t p) : OkX b n (sL A1 h k x) B1 (sL A h k x) B t p := by
  obtain ⟨k1, k2, k3, k4, k5, k6, k7⟩ := o
  exact ⟨k1.cAL hh, k2, k3, k4, k5, agcL k6 h k x, k7⟩
theorem OkX.cB {h k : Nat} {x : Int32} (hh : (h = 78 ∧ 9 ≤ k) ∨ 80 ≤ h) (o : OkX b n A1 B1 A B t p) : OkX b n A1 (sI B1 h k x) A (sI B h k x) t p := by
  obtain ⟨k1, k2, k3, k4, k5, k6, k7⟩ := o
  have e : ∀ (S : St) j, j < 9 → (sI S h k x).1 78 j = S.1 78 j := fun S j hj => by rw [sI_at, if_neg (by omega)]
  exact ⟨k1.cB hh, k2, (e B 2 (by omega)).trans k3, k4, by rw [e _ _ (by omega), e _ _ (by omega)]; exact k5, k6, agcI k7 h k x⟩
theorem OkX.cBL {h k : Nat} {x : Int64} (hh : h = 80) (o : OkX b n A1 B1 A B t p) : OkX b n A1 (sL B1 h k x) A (sL B h k x) t p := by
  obtain ⟨k1, k2, k3, k4, k5, k6, k7⟩ := o
  exact ⟨k1.cBL hh, k2, k3, k4, k5, k6, agcL k7 h k x⟩
theorem LB.cA {h k : Nat} {x : Int32} (hp : pcs d h k = true) (h1 : 4 ≤ h) (h5 : ¬ (h = d ∧ (k = 5 ∨ k = 6))) (h9 : h ≠ d + 9) (o : LB d A0 B0 A B) : LB d A0 B0 (sI A h k x) B := by
  obtain ⟨⟨y, y1, y2, y3, y4⟩, k2, ⟨⟨z, z1, z2⟩, ⟨w, w1, w2⟩, v, v1, v2⟩, k4, k5⟩ := o
  have e : ∀ h' k', ¬ (h' = h ∧ k' = k) → (sI A h k x).1 h' k' = A.1 h' k' := fun h' k' q => by rw [sI_at, if_neg q]
  exact ⟨⟨y, y1, y2, (e 1 0 (by omega)).trans y3, y4⟩, (e 1 1 (by omega)).trans k2, ⟨⟨z, z1, (e d 5 (by omega)).trans z2⟩, ⟨w, w1, (e d 6 (by omega)).trans w2⟩, v, v1, (e (d + 9) 1 (by omega)).trans v2⟩, k4.sI _ hp, k5⟩
theorem LB.cB {h k : Nat} {x : Int32} (hp : pms h k = true) (h1 : (h = 78 ∧ 9 ≤ k) ∨ 80 ≤ h) (o : LB d A0 B0 A B) : LB d A0 B0 A (sI B h k x) := by
  obtain ⟨⟨y, y1, y2, y3, y4⟩, k2, k3, k4, k5⟩ := o
  have e : ∀ k', k' < 9 → (sI B h k x).1 78 k' = B.1 78 k' := fun k' q => by rw [sI_at, if_neg (by omega)]
  exact ⟨⟨y, y1, y2, y3, (e 2 (by omega)).trans y4⟩, k2.trans (e 3 (by omega)).symm, k3, k4, k5.sI _ hp⟩
theorem Dr.set0 {x : Nat} (hx : 1 ≤ x ∧ x ≤ 12) (hn : nn = 0) (h : Dr d np nn PN NN A B) : Dr d np nn PN NN (sI A d 0 (nI x)) (sI B 78 39 (nI x)) := by
  have eA : ∀ h k, ¬ (h = d ∧ k = 0) → (sI A d 0 (nI x)).1 h k = A.1 h k := fun h k e => by rw [sI_at, if_neg e]
  have eB : ∀ h k, ¬ (h = 78 ∧ k = 39) → (sI B 78 39 (nI x)).1 h k = B.1 h k := fun h k e => by rw [sI_at, if_neg e]
  obtain ⟨k1, k2, k3, k4, k5, k6, ⟨x0, a0, b0, c0, d0, e0⟩, ⟨x1, a1, b1, c1⟩, ⟨x2, a2, b2, c2, d2⟩, ⟨x3, a3, b3, c3⟩, ⟨x4, a4, b4, c4⟩, k7, k8, k9⟩ := h
  refine ⟨k1, k2, (eA _ _ (by omega)).trans k3, (eB _ _ (by omega)).trans k4, (eA _ _ (by omega)).trans k5, (eB _ _ (by omega)).trans k6, ⟨x, hx.1, hx.2, sI_self, sI_self, fun i hi => by omega⟩, ⟨x1, a1, (eA _ _ (by omega)).trans b1, (eB _ _ (by omega)).trans c1⟩, ⟨x2, a2, b2, (eA _ _ (by omega)).trans c2, (eB _ _ (by omega)).trans d2⟩, ⟨x3, a3, (eA _ _ (by omega)).trans b3, (eB _ _ (by omega)).trans c3⟩, ⟨x4, a4, (eA _ _ (by omega)).trans b4, (eB _ _ (by omega)).trans c4⟩, fun i hi => ?_, k8, fun i hi => ?_⟩
  · obtain ⟨q1, q2, q3, q4, q5⟩ := k7 i hi
    rw [eA (d + 2) i (by omega), eB 88 i (by omega)]
    exact ⟨q1, q2, q3, q4, q5⟩
  · have := k9 i hi
    rw [eA (d + 4) i (by omega), eA (d + 5) i (by omega), eA (d + 6) i (by omega), eA (d + 7) i (by omega), eA (d + 8) i (by omega), eB 89 i (by omega), eB 90 i (by omega), eB 91 i (by omega), eB 92 i (by omega), eB 93 i (by omega)]
    exact this
theorem Dr.set1 {x : Nat} (hx : x ≤ 87) (h : Dr d np nn PN NN A B) : Dr d np nn PN NN (sI A d 1 (nI x)) (sI B 78 42 (nI x)) := by
  have eA : ∀ h k, ¬ (h = d ∧ k = 1) → (sI A d 1 (nI x)).1 h k = A.1 h k := fun h k e => by rw [sI_at, if_neg e]
  have eB : ∀ h k, ¬ (h = 78 ∧ k = 42) → (sI B 78 42 (nI x)).1 h k = B.1 h k := fun h k e => by rw [sI_at, if_neg e]
  obtain ⟨k1, k2, k3, k4, k5, k6, ⟨x0, a0, b0, c0, d0, e0⟩, ⟨x1, a1, b1, c1⟩, ⟨x2, a2, b2, c2, d2⟩, ⟨x3, a3, b3, c3⟩, ⟨x4, a4, b4, c4⟩, k7, k8, k9⟩ := h
  refine ⟨k1, k2, (eA _ _ (by omega)).trans k3, (eB _ _ (by omega)).trans k4, (eA _ _ (by omega)).trans k5, (eB _ _ (by omega)).trans k6, ⟨x0, a0, b0, (eA _ _ (by omega)).trans c0, (eB _ _ (by omega)).trans d0, fun i hi => by rw [eB 90 i (by omega)]; exact e0 i hi⟩, ⟨x, hx, sI_self, sI_self⟩, ⟨x2, a2, b2, (eA _ _ (by omega)).trans c2, (eB _ _ (by omega)).trans d2⟩, ⟨x3, a3, (eA _ _ (by omega)).trans b3, (eB _ _ (by omega)).trans c3⟩, ⟨x4, a4, (eA _ _ (by omega)).trans b4, (eB _ _ (by omega)).trans c4⟩, fun i hi => ?_, k8, fun i hi => ?_⟩
  · obtain ⟨q1, q2, q3, q4, q5⟩ := k7 i hi
    rw [eA (d + 2) i (by omega), eB 88 i (by omega)]
    exact ⟨q1, q2, q3, q4, q5⟩
  · have := k9 i hi
    rw [eA (d + 4) i (by omega), eA (d + 5) i (by omega), eA (d + 6) i (by omega), eA (d + 7) i (by omega), eA (d + 8) i (by omega), eB 89 i (by omega), eB 90 i (by omega), eB 91 i (by omega), eB 92 i (by omega), eB 93 i (by omega)]
    exact this
theorem Dr.set2 {x : Nat} (hx : 1 ≤ x ∧ x ≤ 5) (h : Dr d np nn PN NN A B) : Dr d np nn PN NN (sI A d 2 (nI x)) (sI B 78 43 (nI x)) := by
  have eA : ∀ h k, ¬ (h = d ∧ k = 2) → (sI A d 2 (nI x)).1 h k = A.1 h k := fun h k e => by rw [sI_at, if_neg e]
  have eB : ∀ h k, ¬ (h = 78 ∧ k = 43) → (sI B 78 43 (nI x)).1 h k = B.1 h k := fun h k e => by rw [sI_at, if_neg e]
  obtain ⟨k1, k2, k3, k4, k5, k6, ⟨x0, a0, b0, c0, d0, e0⟩, ⟨x1, a1, b1, c1⟩, ⟨x2, a2, b2, c2, d2⟩, ⟨x3, a3, b3, c3⟩, ⟨x4, a4, b4, c4⟩, k7, k8, k9⟩ := h
  refine ⟨k1, k2, (eA _ _ (by omega)).trans k3, (eB _ _ (by omega)).trans k4, (eA _ _ (by omega)).trans k5, (eB _ _ (by omega)).trans k6, ⟨x0, a0, b0, (eA _ _ (by omega)).trans c0, (eB _ _ (by omega)).trans d0, fun i hi => by rw [eB 90 i (by omega)]; exact e0 i hi⟩, ⟨x1, a1, (eA _ _ (by omega)).trans b1, (eB _ _ (by omega)).trans c1⟩, ⟨x, hx.1, hx.2, sI_self, sI_self⟩, ⟨x3, a3, (eA _ _ (by omega)).trans b3, (eB _ _ (by omega)).trans c3⟩, ⟨x4, a4, (eA _ _ (by omega)).trans b4, (eB _ _ (by omega)).trans c4⟩, fun i hi => ?_, k8, fun i hi => ?_⟩
  · obtain ⟨q1, q2, q3, q4, q5⟩ := k7 i hi
    rw [eA (d + 2) i (by omega), eB 88 i (by omega)]
    exact ⟨q1, q2, q3, q4, q5⟩
  · have := k9 i hi
    rw [eA (d + 4) i (by omega), eA (d + 5) i (by omega), eA (d + 6) i (by omega), eA (d + 7) i (by omega), eA (d + 8) i (by omega), eB 89 i (by omega), eB 90 i (by omega), eB 91 i (by omega), eB 92 i (by omega), eB 93 i (by omega)]
    exact this
theorem Dr.set3 {x : Nat} (hx : x ≤ 87) (h : Dr d np nn PN NN A B) : Dr d np nn PN NN (sI A d 3 (nI x)) (sI B 78 44 (nI x)) := by
  have eA : ∀ h k, ¬ (h = d ∧ k = 3) → (sI A d 3 (nI x)).1 h k = A.1 h k := fun h k e => by rw [sI_at, if_neg e]
  have eB : ∀ h k, ¬ (h = 78 ∧ k = 44) → (sI B 78 44 (nI x)).1 h k = B.1 h k := fun h k e => by rw [sI_at, if_neg e]
  obtain ⟨k1, k2, k3, k4, k5, k6, ⟨x0, a0, b0, c0, d0, e0⟩, ⟨x1, a1, b1, c1⟩, ⟨x2, a2, b2, c2, d2⟩, ⟨x3, a3, b3, c3⟩, ⟨x4, a4, b4, c4⟩, k7, k8, k9⟩ := h
  refine ⟨k1, k2, (eA _ _ (by omega)).trans k3, (eB _ _ (by omega)).trans k4, (eA _ _ (by omega)).trans k5, (eB _ _ (by omega)).trans k6, ⟨x0, a0, b0, (eA _ _ (by omega)).trans c0, (eB _ _ (by omega)).trans d0, fun i hi => by rw [eB 90 i (by omega)]; exact e0 i hi⟩, ⟨x1, a1, (eA _ _ (by omega)).trans b1, (eB _ _ (by omega)).trans c1⟩, ⟨x2, a2, b2, (eA _ _ (by omega)).trans c2, (eB _ _ (by omega)).trans d2⟩, ⟨x, hx, sI_self, sI_self⟩, ⟨x4, a4, (eA _ _ (by omega)).trans b4, (eB _ _ (by omega)).trans c4⟩, fun i hi => ?_, k8, fun i hi => ?_⟩
  · obtain ⟨q1, q2, q3, q4, q5⟩ := k7 i hi
    rw [eA (d + 2) i (by omega), eB 88 i (by omega)]
    exact ⟨q1, q2, q3, q4, q5⟩
  · have := k9 i hi
    rw [eA (d + 4) i (by omega), eA (d + 5) i (by omega), eA (d + 6) i (by omega), eA (d + 7) i (by omega), eA (d + 8) i (by omega), eB 89 i (by omega), eB 90 i (by omega), eB 91 i (by omega), eB 92 i (by omega), eB 93 i (by omega)]
    exact this
theorem Dr.set4 {x : Nat} (hx : x ≤ 9) (h : Dr d np nn PN NN A B) : Dr d np nn PN NN (sI A d 4 (nI x)) (sI B 78 45 (nI x)) := by
  have eA : ∀ h k, ¬ (h = d ∧ k = 4) → (sI A d 4 (nI x)).1 h k = A.1 h k := fun h k e => by rw [sI_at, if_neg e]
  have eB : ∀ h k, ¬ (h = 78 ∧ k = 45) → (sI B 78 45 (nI x)).1 h k = B.1 h k := fun h k e => by rw [sI_at, if_neg e]
  obtain ⟨k1, k2, k3, k4, k5, k6, ⟨x0, a0, b0, c0, d0, e0⟩, ⟨x1, a1, b1, c1⟩, ⟨x2, a2, b2, c2, d2⟩, ⟨x3, a3, b3, c3⟩, ⟨x4, a4, b4, c4⟩, k7, k8, k9⟩ := h
  refine ⟨k1, k2, (eA _ _ (by omega)).trans k3, (eB _ _ (by omega)).trans k4, (eA _ _ (by omega)).trans k5, (eB _ _ (by omega)).trans k6, ⟨x0, a0, b0, (eA _ _ (by omega)).trans c0, (eB _ _ (by omega)).trans d0, fun i hi => by rw [eB 90 i (by omega)]; exact e0 i hi⟩, ⟨x1, a1, (eA _ _ (by omega)).trans b1, (eB _ _ (by omega)).trans c1⟩, ⟨x2, a2, b2, (eA _ _ (by omega)).trans c2, (eB _ _ (by omega)).trans d2⟩, ⟨x3, a3, (eA _ _ (by omega)).trans b3, (eB _ _ (by omega)).trans c3⟩, ⟨x, hx, sI_self, sI_self⟩, fun i hi => ?_, k8, fun i hi => ?_⟩
  · obtain ⟨q1, q2, q3, q4, q5⟩ := k7 i hi
    rw [eA (d + 2) i (by omega), eB 88 i (by omega)]
    exact ⟨q1, q2, q3, q4, q5⟩
  · have := k9 i hi
    rw [eA (d + 4) i (by omega), eA (d + 5) i (by omega), eA (d + 6) i (by omega), eA (d + 7) i (by omega), eA (d + 8) i (by omega), eB 89 i (by omega), eB 90 i (by omega), eB 91 i (by omega), eB 92 i (by omega), eB 93 i (by omega)]
    exact this
/-- a number behind a line's first word -/
theorem P_first (hF : 100000 ≤ F) {w l u : Nat} (hw : w < 21) {K : Int64} (hK : K = lN (p8 (kwL w))) (hl : l < 2 ^ 31) (hu : u < 2 ^ 31) (h : OkX b n A1 B1 A B t p) (hwd : wd t w = true) : ∃ A2 v v' A' B', fT_step F G A = some A2 ∧ fR_number F G A2 (nI l) (nI u) = some (v, A') ∧ fM_told F G B K (nI l) (nI u) = some (v', B') ∧ ((∃ m t' p', v = nI m ∧ v' = nI m ∧ l ≤ m ∧ m ≤ u ∧ OkX b n A1 B1 A' B' t' p' ∧ rem n t' p' < rem n t p) ∨ BdX A1 B1 A' B') ∧ A2.2.2 = A.2.2 := by
  obtain ⟨A2, B2, t2, p2, s1, s2, s3, s4⟩ := P_step (G := G) hF h (wd_no hwd).1 (wd_no hwd).2
  obtain ⟨v, v', A', B', x1, x2, x3⟩ := P_num (F := F) (G := G) hF hl hu s3
  refine ⟨A2, v, v', A', B', s1, x1, ?_, ?_, ?_⟩
  · unfold fM_told fM_want
    rw [if_pos (show B.1 78 2 ≤ 0 by rw [h.2.2.1]; decide), M_isWord hw h.1.2.2.2.1 h.1.2.2.2.2.1 hK, bd_some, if_pos hwd, if_neg (by decide), s2, bd_some, bd_some, x2, bd2_some]
  · rcases x3 with ⟨m, t', p', y1, y2, y3, y4, y5, y6⟩ | x3
    · exact Or.inl ⟨m, t', p', y1, y2, y3, y4, y5, by omega⟩
    · exact Or.inr x3
  · exact s3.2.2.2.2.2.1.1.trans h.2.2.2.2.2.1.1.symm
/-- the line of word 0 -/
theorem N_line0 (hF : 100000 ≤ F) (hd : isSc d = true) (hdr : A.2.2.2 = d) (hn : nn = 0) (h1 : Lx b n A B t p) (h2 : A.1 1 0 = 0) (h3 : B.1 78 2 = 0) (h4 : A.1 1 1 = -1) (h5 : B.1 78 3 = -1) (h6 : Dr d np nn PN NN A B) (h7 : Fm d A B) (h8 : Bq A B) (h9 : Ag (pcs d) (pcl d) A0 A) (h10 : Ag pms pml B0 B) (hwd : wd t 0 = true) : ∃ A2 v A3 v' B3, fT_step F G A = some A2 ∧ A2.2.2.2 = d ∧ fR_number F G A2 1 12 = some (v, A3) ∧ fM_told F G B 422607680627 1 12 = some (v', B3) ∧ ((∃ t' p', Md d A0 B0 b n (sI A3 d 0 v) (sI B3 78 39 v') t' p' ∧ rem n t' p' < rem n t p) ∨ LB d A0 B0 (sI A3 d 0 v) (sI B3 78 39 v')) := by
  have h4d := sc4 hd
  obtain ⟨A2, v, v', A', B', x1, x2, x3, x4, x5⟩ := P_first (F := F) (G := G) hF (w := 0) (l := 1) (u := 12) (K := 422607680627) (by decide) rfl (by decide) (by decide) (A1 := A) (B1 := B) ⟨h1, h2, h3, rfl, rfl, Ag.rf, Ag.rf⟩ hwd
  refine ⟨A2, v, A', v', B', x1, by rw [x5]; exact hdr, x2, x3, ?_⟩
  rcases x4 with ⟨m, t', p', y1, y2, y3, y4, y5, y6⟩ | x4
  · subst y1 y2
    have o2 := (y5.cA (h := d) (k := 0) (x := nI m) h4d).cB (h := 78) (k := 39) (x := nI m) (by omega)
    obtain ⟨k1, k2, k3, k4, k5, k6, k7⟩ := o2
    refine Or.inl ⟨t', p', ⟨np, nn, PN, NN, k1, k2, k3, ?_, ?_, (Dr.set0 ⟨y3, y4⟩ hn h6).x hd k6 k7, (Fm.cong h7 (fun h k q1 q2 => by rw [sI_at, if_neg (by omega)]) (fun h k q => by rw [sI_at, if_neg (by omega)])).x hd k6 k7, (Bq.cong h8 (by rw [sI_at, if_neg (by omega)]) (by rw [sI_at, if_neg (by omega)]) (fun k q1 q2 => by rw [sI_at, if_neg (by omega)])).x k6 k7, (h9.sI _ (by simp [pcs])).tr (k6.mono (fun _ _ e => pcs_x e) (fun _ _ e => pcl_x e)), (h10.sI _ rfl).tr (k7.mono (fun _ _ e => pms_y e) (fun _ _ e => pml_y e))⟩, y6⟩
    · rw [k4, sI_at, if_neg (by omega)]; exact h4
    · rw [k5, sI_at, if_neg (by omega)]; exact h5
  · exact Or.inr (((LB.of hd h9 h10 (Db.of h6 h7.sz) x4).cA (by simp [pcs]) h4d (by omega) (by omega)).cB rfl (by omega))
/-- the line of word 4 -/
theorem N_line1 (hF : 100000 ≤ F) (hd : isSc d = true) (hdr : A.2.2.2 = d) (h1 : Lx b n A B t p) (h2 : A.1 1 0 = 0) (h3 : B.1 78 2 = 0) (h4 : A.1 1 1 = -1) (h5 : B.1 78 3 = -1) (h6 : Dr d np nn PN NN A B) (h7 : Fm d A B) (h8 : Bq A B) (h9 : Ag (pcs d) (pcl d) A0 A) (h10 : Ag pms pml B0 B) (hwd : wd t 4 = true) : ∃ A2 v A3 v' B3, fT_step F G A = some A2 ∧ A2.2.2.2 = d ∧ fR_number F G A2 0 87 = some (v, A3) ∧ fM_told F G B 1936744814 0 87 = some (v', B3) ∧ ((∃ t' p', Md d A0 B0 b n (sI A3 d 1 v) (sI B3 78 42 v') t' p' ∧ rem n t' p' < rem n t p) ∨ LB d A0 B0 (sI A3 d 1 v) (sI B3 78 42 v')) := by
  have h4d := sc4 hd
  obtain ⟨A2, v, v', A', B', x1, x2, x3, x4, x5⟩ := P_first (F := F) (G := G) hF (w := 4) (l := 0) (u := 87) (K := 1936744814) (by decide) rfl (by decide) (by decide) (A1 := A) (B1 := B) ⟨h1, h2, h3, rfl, rfl, Ag.rf, Ag.rf⟩ hwd
  refine ⟨A2, v, A', v', B', x1, by rw [x5]; exact hdr, x2, x3, ?_⟩
  rcases x4 with ⟨m, t', p', y1, y2, y3, y4, y5, y6⟩ | x4
  · subst y1 y2
    have o2 := (y5.cA (h := d) (k := 1) (x := nI m) h4d).cB (h := 78) (k := 42) (x := nI m) (by omega)
    obtain ⟨k1, k2, k3, k4, k5, k6, k7⟩ := o2
    refine Or.inl ⟨t', p', ⟨np, nn, PN, NN, k1, k2, k3, ?_, ?_, (Dr.set1 y4 h6).x hd k6 k7, (Fm.cong h7 (fun h k q1 q2 => by rw [sI_at, if_neg (by omega)]) (fun h k q => by rw [sI_at, if_neg (by omega)])).x hd k6 k7, (Bq.cong h8 (by rw [sI_at, if_neg (by omega)]) (by rw [sI_at, if_neg (by omega)]) (fun k q1 q2 => by rw [sI_at, if_neg (by omega)])).x k6 k7, (h9.sI _ (by simp [pcs])).tr (k6.mono (fun _ _ e => pcs_x e) (fun _ _ e => pcl_x e)), (h10.sI _ rfl).tr (k7.mono (fun _ _ e => pms_y e) (fun _ _ e => pml_y e))⟩, y6⟩
    · rw [k4, sI_at, if_neg (by omega)]; exact h4
    · rw [k5, sI_at, if_neg (by omega)]; exact h5
  · exact Or.inr (((LB.of hd h9 h10 (Db.of h6 h7.sz) x4).cA (by simp [pcs]) h4d (by omega) (by omega)).cB rfl (by omega))
/-- the line of word 5 -/
theorem N_line2 (hF : 100000 ≤ F) (hd : isSc d = true) (hdr : A.2.2.2 = d) (h1 : Lx b n A B t p) (h2 : A.1 1 0 = 0) (h3 : B.1 78 2 = 0) (h4 : A.1 1 1 = -1) (h5 : B.1 78 3 = -1) (h6 : Dr d np nn PN NN A B) (h7 : Fm d A B) (h8 : Bq A B) (h9 : Ag (pcs d) (pcl d) A0 A) (h10 : Ag pms pml B0 B) (hwd : wd t 5 = true) : ∃ A2 v A3 v' B3, fT_step F G A = some A2 ∧ A2.2.2.2 = d ∧ fR_number F G A2 1 5 = some (v, A3) ∧ fM_told F G B 28826370526507635 1 5 = some (v', B3) ∧ ((∃ t' p', Md d A0 B0 b n (sI A3 d 2 v) (sI B3 78 43 v') t' p' ∧ rem n t' p' < rem n t p) ∨ LB d A0 B0 (sI A3 d 2 v) (sI B3 78 43 v')) := by
  have h4d := sc4 hd
  obtain ⟨A2, v, v', A', B', x1, x2, x3, x4, x5⟩ := P_first (F := F) (G := G) hF (w := 5) (l := 1) (u := 5) (K := 28826370526507635) (by decide) rfl (by decide) (by decide) (A1 := A) (B1 := B) ⟨h1, h2, h3, rfl, rfl, Ag.rf, Ag.rf⟩ hwd
  refine ⟨A2, v, A', v', B', x1, by rw [x5]; exact hdr, x2, x3, ?_⟩
  rcases x4 with ⟨m, t', p', y1, y2, y3, y4, y5, y6⟩ | x4
  · subst y1 y2
    have o2 := (y5.cA (h := d) (k := 2) (x := nI m) h4d).cB (h := 78) (k := 43) (x := nI m) (by omega)
    obtain ⟨k1, k2, k3, k4, k5, k6, k7⟩ := o2
    refine Or.inl ⟨t', p', ⟨np, nn, PN, NN, k1, k2, k3, ?_, ?_, (Dr.set2 ⟨y3, y4⟩ h6).x hd k6 k7, (Fm.cong h7 (fun h k q1 q2 => by rw [sI_at, if_neg (by omega)]) (fun h k q => by rw [sI_at, if_neg (by omega)])).x hd k6 k7, (Bq.cong h8 (by rw [sI_at, if_neg (by omega)]) (by rw [sI_at, if_neg (by omega)]) (fun k q1 q2 => by rw [sI_at, if_neg (by omega)])).x k6 k7, (h9.sI _ (by simp [pcs])).tr (k6.mono (fun _ _ e => pcs_x e) (fun _ _ e => pcl_x e)), (h10.sI _ rfl).tr (k7.mono (fun _ _ e => pms_y e) (fun _ _ e => pml_y e))⟩, y6⟩
    · rw [k4, sI_at, if_neg (by omega)]; exact h4
    · rw [k5, sI_at, if_neg (by omega)]; exact h5
  · exact Or.inr (((LB.of hd h9 h10 (Db.of h6 h7.sz) x4).cA (by simp [pcs]) h4d (by omega) (by omega)).cB rfl (by omega))
/-- the line of word 6 -/
theorem N_line3 (hF : 100000 ≤ F) (hd : isSc d = true) (hdr : A.2.2.2 = d) (h1 : Lx b n A B t p) (h2 : A.1 1 0 = 0) (h3 : B.1 78 2 = 0) (h4 : A.1 1 1 = -1) (h5 : B.1 78 3 = -1) (h6 : Dr d np nn PN NN A B) (h7 : Fm d A B) (h8 : Bq A B) (h9 : Ag (pcs d) (pcl d) A0 A) (h10 : Ag pms pml B0 B) (hwd : wd t 6 = true) : ∃ A2 v A3 v' B3, fT_step F G A = some A2 ∧ A2.2.2.2 = d ∧ fR_number F G A2 0 87 = some (v, A3) ∧ fM_told F G B 1818583408 0 87 = some (v', B3) ∧ ((∃ t' p', Md d A0 B0 b n (sI A3 d 3 v) (sI B3 78 44 v') t' p' ∧ rem n t' p' < rem n t p) ∨ LB d A0 B0 (sI A3 d 3 v) (sI B3 78 44 v')) := by
  have h4d := sc4 hd
  obtain ⟨A2, v, v', A', B', x1, x2, x3, x4, x5⟩ := P_first (F := F) (G := G) hF (w := 6) (l := 0) (u := 87) (K := 1818583408) (by decide) rfl (by decide) (by decide) (A1 := A) (B1 := B) ⟨h1, h2, h3, rfl, rfl, Ag.rf, Ag.rf⟩ hwd
  refine ⟨A2, v, A', v', B', x1, by rw [x5]; exact hdr, x2, x3, ?_⟩
  rcases x4 with ⟨m, t', p', y1, y2, y3, y4, y5, y6⟩ | x4
  · subst y1 y2
    have o2 := (y5.cA (h := d) (k := 3) (x := nI m) h4d).cB (h := 78) (k := 44) (x := nI m) (by omega)
    obtain ⟨k1, k2, k3, k4, k5, k6, k7⟩ := o2
    refine Or.inl ⟨t', p', ⟨np, nn, PN, NN, k1, k2, k3, ?_, ?_, (Dr.set3 y4 h6).x hd k6 k7, (Fm.cong h7 (fun h k q1 q2 => by rw [sI_at, if_neg (by omega)]) (fun h k q => by rw [sI_at, if_neg (by omega)])).x hd k6 k7, (Bq.cong h8 (by rw [sI_at, if_neg (by omega)]) (by rw [sI_at, if_neg (by omega)]) (fun k q1 q2 => by rw [sI_at, if_neg (by omega)])).x k6 k7, (h9.sI _ (by simp [pcs])).tr (k6.mono (fun _ _ e => pcs_x e) (fun _ _ e => pcl_x e)), (h10.sI _ rfl).tr (k7.mono (fun _ _ e => pms_y e) (fun _ _ e => pml_y e))⟩, y6⟩
    · rw [k4, sI_at, if_neg (by omega)]; exact h4
    · rw [k5, sI_at, if_neg (by omega)]; exact h5
  · exact Or.inr (((LB.of hd h9 h10 (Db.of h6 h7.sz) x4).cA (by simp [pcs]) h4d (by omega) (by omega)).cB rfl (by omega))
/-- the line of word 7 -/
theorem N_line4 (hF : 100000 ≤ F) (hd : isSc d = true) (hdr : A.2.2.2 = d) (h1 : Lx b n A B t p) (h2 : A.1 1 0 = 0) (h3 : B.1 78 2 = 0) (h4 : A.1 1 1 = -1) (h5 : B.1 78 3 = -1) (h6 : Dr d np nn PN NN A B) (h7 : Fm d A B) (h8 : Bq A B) (h9 : Ag (pcs d) (pcl d) A0 A) (h10 : Ag pms pml B0 B) (hwd : wd t 7 = true) : ∃ A2 v A3 v' B3, fT_step F G A = some A2 ∧ A2.2.2.2 = d ∧ fR_number F G A2 0 9 = some (v, A3) ∧ fM_told F G B 6644082 0 9 = some (v', B3) ∧ ((∃ t' p', Md d A0 B0 b n (sI A3 d 4 v) (sI B3 78 45 v') t' p' ∧ rem n t' p' < rem n t p) ∨ LB d A0 B0 (sI A3 d 4 v) (sI B3 78 45 v')) := by
  have h4d := sc4 hd
  obtain ⟨A2, v, v', A', B', x1, x2, x3, x4, x5⟩ := P_first (F := F) (G := G) hF (w := 7) (l := 0) (u := 9) (K := 6644082) (by decide) rfl (by decide) (by decide) (A1 := A) (B1 := B) ⟨h1, h2, h3, rfl, rfl, Ag.rf, Ag.rf⟩ hwd
  refine ⟨A2, v, A', v', B', x1, by rw [x5]; exact hdr, x2, x3, ?_⟩
  rcases x4 with ⟨m, t', p', y1, y2, y3, y4, y5, y6⟩ | x4
  · subst y1 y2
    have o2 := (y5.cA (h := d) (k := 4) (x := nI m) h4d).cB (h := 78) (k := 45) (x := nI m) (by omega)
    obtain ⟨k1, k2, k3, k4, k5, k6, k7⟩ := o2
    refine Or.inl ⟨t', p', ⟨np, nn, PN, NN, k1, k2, k3, ?_, ?_, (Dr.set4 y4 h6).x hd k6 k7, (Fm.cong h7 (fun h k q1 q2 => by rw [sI_at, if_neg (by omega)]) (fun h k q => by rw [sI_at, if_neg (by omega)])).x hd k6 k7, (Bq.cong h8 (by rw [sI_at, if_neg (by omega)]) (by rw [sI_at, if_neg (by omega)]) (fun k q1 q2 => by rw [sI_at, if_neg (by omega)])).x k6 k7, (h9.sI _ (by simp [pcs])).tr (k6.mono (fun _ _ e => pcs_x e) (fun _ _ e => pcl_x e)), (h10.sI _ rfl).tr (k7.mono (fun _ _ e => pms_y e) (fun _ _ e => pml_y e))⟩, y6⟩
    · rw [k4, sI_at, if_neg (by omega)]; exact h4
    · rw [k5, sI_at, if_neg (by omega)]; exact h5
  · exact Or.inr (((LB.of hd h9 h10 (Db.of h6 h7.sz) x4).cA (by simp [pcs]) h4d (by omega) (by omega)).cB rfl (by omega))
end LP
