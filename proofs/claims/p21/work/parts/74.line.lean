/-! LINES: what stays, a line's end, lines of a number -/
def Bq (A B : St) : Prop := A.1 1 4 ≠ 0 ∧ (bt (A.1 1 4) 3 = false ↔ B.1 78 24 = 0) ∧ (bt (A.1 1 4) 4 = false ↔ B.1 78 54 = 0) ∧ (bt (A.1 1 4) 5 = false ↔ B.1 78 55 = 0) ∧ (bt (A.1 1 4) 6 = false ↔ B.1 78 56 = 0) ∧ (bt (A.1 1 4) 7 = false ↔ B.1 78 57 = 0)
theorem Dr.cong {d np nn : Nat} {PN NN : Nat → List Nat} {A B A' B' : St} (h : Dr d np nn PN NN A B) (hA : ∀ h k, d ≤ h → h ≤ d + 8 → A'.1 h k = A.1 h k) (hL : ∀ h k, d ≤ h → h ≤ d + 8 → A'.2.1 h k = A.2.1 h k) (hB : ∀ k, 39 ≤ k → k ≤ 45 → B'.1 78 k = B.1 78 k) (hC : ∀ h k, 88 ≤ h → h ≤ 93 → B'.1 h k = B.1 h k) (hN : ∀ k, B'.2.1 80 k = B.2.1 80 k) : Dr d np nn PN NN A' B' := by
  obtain ⟨k1, k2, k3, k4, k5, k6, ⟨x0, a0, b0, c0, d0, e0⟩, ⟨x1, a1, b1, c1⟩, ⟨x2, a2, b2, c2, d2⟩, ⟨x3, a3, b3, c3⟩, ⟨x4, a4, b4, c4⟩, k7, k8, k9⟩ := h
  refine ⟨k1, k2, (hA d 5 (by omega) (by omega)).trans k3, (hB 40 (by omega) (by omega)).trans k4, (hA d 6 (by omega) (by omega)).trans k5, (hB 41 (by omega) (by omega)).trans k6, ⟨x0, a0, b0, (hA d 0 (by omega) (by omega)).trans c0, (hB 39 (by omega) (by omega)).trans d0, fun i hi => by rw [hC 90 i (by omega) (by omega)]; exact e0 i hi⟩, ⟨x1, a1, (hA d 1 (by omega) (by omega)).trans b1, (hB 42 (by omega) (by omega)).trans c1⟩, ⟨x2, a2, b2, (hA d 2 (by omega) (by omega)).trans c2, (hB 43 (by omega) (by omega)).trans d2⟩, ⟨x3, a3, (hA d 3 (by omega) (by omega)).trans b3, (hB 44 (by omega) (by omega)).trans c3⟩, ⟨x4, a4, (hA d 4 (by omega) (by omega)).trans b4, (hB 45 (by omega) (by omega)).trans c4⟩, fun i hi => ?_, k8, fun i hi => ?_⟩
  · obtain ⟨q1, q2, q3, q4, q5⟩ := k7 i hi
    rw [hL (d + 1) i (by omega) (by omega), hN, hA (d + 2) i (by omega) (by omega), hC 88 i (by omega) (by omega)]
    exact ⟨q1, q2, q3, q4, q5⟩
  · have := k9 i hi
    rw [hL (d + 3) i (by omega) (by omega), hN, hA (d + 4) i (by omega) (by omega), hA (d + 5) i (by omega) (by omega), hA (d + 6) i (by omega) (by omega), hA (d + 7) i (by omega) (by omega), hA (d + 8) i (by omega) (by omega), hC 89 i (by omega) (by omega), hC 90 i (by omega) (by omega), hC 91 i (by omega) (by omega), hC 92 i (by omega) (by omega), hC 93 i (by omega) (by omega)]
    exact this
theorem Fm.cong {d : Nat} {A B A' B' : St} (h : Fm d A B) (hA : ∀ h k, d + 9 ≤ h → h ≤ d + 10 → A'.1 h k = A.1 h k) (hB : ∀ h k, (h = 78 ∧ (k = 17 ∨ k = 20 ∨ k = 24)) ∨ h = 81 ∨ h = 82 → B'.1 h k = B.1 h k) : Fm d A' B' := by
  have e81 : B'.1 81 = B.1 81 := funext fun i => hB 81 i (by omega)
  have e82 : B'.1 82 = B.1 82 := funext fun i => hB 82 i (by omega)
  obtain ⟨⟨u, u1, u2, u3⟩, h⟩ := h
  refine ⟨⟨u, u1, (hA _ 0 (by omega) (by omega)).trans u2, (hB 78 20 (by omega)).trans u3⟩, ?_⟩
  rcases h with ⟨q1, q2, q3⟩ | ⟨q1, m, q2, q3, q4, q5, q6, q7, q8⟩
  · exact Or.inl ⟨(hB 78 24 (by omega)).trans q1, (hA _ 1 (by omega) (by omega)).trans q2, (hA _ 0 (by omega) (by omega)).trans q3⟩
  · refine Or.inr ⟨(hB 78 24 (by omega)).trans q1, m, q2, q3, (hA _ 1 (by omega) (by omega)).trans q4, (hB 78 17 (by omega)).trans q5, fun i hi => ?_, by rw [e81, e82]; exact q7, by rw [e81]; exact q8⟩
    rw [hA _ i (by omega) (by omega), e81, e82]; exact q6 i hi
theorem Bq.cong {A B A' B' : St} (h : Bq A B) (hA : A'.1 1 4 = A.1 1 4) (h24 : B'.1 78 24 = B.1 78 24) (hB : ∀ k, 54 ≤ k → k ≤ 57 → B'.1 78 k = B.1 78 k) : Bq A' B' := by
  unfold Bq
  rw [hA, h24, hB 54 (by omega) (by omega), hB 55 (by omega) (by omega), hB 56 (by omega) (by omega), hB 57 (by omega) (by omega)]
  exact h
theorem xs_hi {h k : Nat} (e : 4 ≤ h) : xs h k = false := by
  have h1 : (h == 1) = false := by simp; omega
  have h2 : (h == 2) = false := by simp; omega
  simp only [xs, lxs, h1, h2]; rfl
theorem lxl_hi {h k : Nat} (e : 4 ≤ h) : lxl h k = false := by
  have h2 : (h == 2) = false := by simp; omega
  simp only [lxl, h2]; rfl
theorem ys_78 {k : Nat} (e : 9 ≤ k) : ys 78 k = false := by
  have h2 : (k == 2) = false := by simp; omega
  have h3 : (k == 3) = false := by simp; omega
  have h4 : (k == 4) = false := by simp; omega
  have h6 : (k == 6) = false := by simp; omega
  have h7 : (k == 7) = false := by simp; omega
  have h8 : (k == 8) = false := by simp; omega
  simp only [ys, lys, h2, h3, h4, h6, h7, h8]; rfl
theorem ys_hi {h k : Nat} (e : 79 ≤ h) : ys h k = false := by
  have h2 : (h == 78) = false := by simp; omega
  simp only [ys, lys, h2]; rfl
theorem lyl_hi {h k : Nat} (e : 79 ≤ h) : lyl h k = false := by
  have h2 : (h == 78) = false := by simp; omega
  simp only [lyl, h2]; rfl
section LN
variable {F G d np nn : Nat} {PN NN : Nat → List Nat} {A0 B0 A1 B1 A B : St} {b : Nat → Nat} {n : Nat} {t : Tk} {p : Nat}
theorem sc4 (hd : isSc d = true) : 4 ≤ d := by have := isSc_or hd; omega
theorem Dr.x (hd : isSc d = true) {A' B' : St} (h : Dr d np nn PN NN A B) (a : Ag xs lxl A A') (c : Ag ys lyl B B') : Dr d np nn PN NN A' B' := by
  have := sc4 hd
  exact h.cong (fun h k h1 h2 => a.2.1 h k (xs_hi (by omega))) (fun h k h1 h2 => a.2.2 h k (lxl_hi (by omega))) (fun k h1 h2 => c.2.1 78 k (ys_78 (by omega))) (fun h k h1 h2 => c.2.1 h k (ys_hi (by omega))) (fun k => c.2.2 80 k (lyl_hi (by omega)))
theorem Fm.x (hd : isSc d = true) {A' B' : St} (h : Fm d A B) (a : Ag xs lxl A A') (c : Ag ys lyl B B') : Fm d A' B' := by
  have := sc4 hd
  refine h.cong (fun h k h1 h2 => a.2.1 h k (xs_hi (by omega))) (fun h k e => ?_)
  rcases e with ⟨rfl, e⟩ | e | e
  · exact c.2.1 78 k (ys_78 (by omega))
  · exact c.2.1 h k (ys_hi (by omega))
  · exact c.2.1 h k (ys_hi (by omega))
theorem Bq.x {A' B' : St} (h : Bq A B) (a : Ag xs lxl A A') (c : Ag ys lyl B B') : Bq A' B' := h.cong (a.2.1 1 4 rfl) (c.2.1 78 24 rfl) (fun k h1 h2 => c.2.1 78 k (ys_78 (by omega)))
theorem pcs_x {h k : Nat} (e : pcs d h k = false) : xs h k = false := by
  simp only [pcs, xs, Bool.or_eq_false_iff] at e ⊢
  refine ⟨?_, e.1.1.1.1.1.2⟩
  have e1 := e.1.1.1.1.1.1
  cases z : (h == 1)
  · rfl
  · rw [z] at e1
    simp only [Bool.true_and, Bool.or_eq_false_iff] at e1 ⊢
    exact ⟨e1.1.1, e1.1.2⟩
theorem pcl_x {h k : Nat} (e : pcl d h k = false) : lxl h k = false := pcl_lx e
theorem pms_y {h k : Nat} (e : pms h k = false) : ys h k = false := by
  cases c : ys h k
  · rfl
  · simp only [ys, lys, Bool.or_eq_true, Bool.and_eq_true, beq_iff_eq] at c
    rcases c with ⟨rfl, rfl | rfl⟩ | ⟨rfl, ((rfl | rfl) | rfl) | rfl⟩ <;> cases e
theorem pml_y {h k : Nat} (e : pml h k = false) : lyl h k = false := pml_ly e
/-- between lines -/
def Ln (d : Nat) (A0 B0 : St) (b : Nat → Nat) (n : Nat) (A B : St) (t : Tk) (p : Nat) : Prop := ∃ np nn PN NN, Lx b n A B t p ∧ A.1 1 0 = 0 ∧ B.1 78 2 = 0 ∧ A.1 1 1 = -1 ∧ B.1 78 3 = -1 ∧ Dr d np nn PN NN A B ∧ Fm d A B ∧ Bg A B ∧ (A.1 1 4 = 0 → nn = 0) ∧ Ag (pcs d) (pcl d) A0 A ∧ Ag pms pml B0 B
/-- within a line, before its end -/
def Md (d : Nat) (A0 B0 : St) (b : Nat → Nat) (n : Nat) (A B : St) (t : Tk) (p : Nat) : Prop := ∃ np nn PN NN, Lx b n A B t p ∧ A.1 1 0 = 0 ∧ B.1 78 2 = 0 ∧ A.1 1 1 = -1 ∧ B.1 78 3 = -1 ∧ Dr d np nn PN NN A B ∧ Fm d A B ∧ Bq A B ∧ Ag (pcs d) (pcl d) A0 A ∧ Ag pms pml B0 B
/-- what a fault leaves of the draft -/
def Db (d : Nat) (A : St) : Prop := (∃ x, x ≤ 4 ∧ A.1 d 5 = nI x) ∧ (∃ x, x ≤ 10 ∧ A.1 d 6 = nI x) ∧ SzC d A
def LB (d : Nat) (A0 B0 A B : St) : Prop := (∃ x, 1 ≤ x ∧ x ≤ 5 ∧ A.1 1 0 = nI x ∧ B.1 78 2 = nI x) ∧ A.1 1 1 = B.1 78 3 ∧ Db d A ∧ Ag (pcs d) (pcl d) A0 A ∧ Ag pms pml B0 B
theorem LB.fc (h : LB d A0 B0 A B) : ¬ A.1 1 0 = 0 := by
  obtain ⟨⟨x, h1, h2, h3, h4⟩, -⟩ := h
  rw [h3, show (0 : Int32) = nI 0 from rfl, nI_eq (by omega) (by omega)]
  omega
theorem LB.fm (h : LB d A0 B0 A B) : ¬ B.1 78 2 = 0 ∧ ¬ B.1 78 2 ≤ 0 := by
  obtain ⟨⟨x, h1, h2, h3, h4⟩, -⟩ := h
  rw [h4, show (0 : Int32) = nI 0 from rfl, nI_eq (by omega) (by omega), nI_leI (by omega) (by omega)]
  omega
theorem Fm.sz (h : Fm d A B) : SzC d A := by
  rcases h.2 with ⟨q1, q2, q3⟩ | ⟨q1, m, q2, q3, q4, -⟩
  · exact ⟨0, by omega, q2⟩
  · exact ⟨m, q3, q4⟩
theorem Db.of (h : Dr d np nn PN NN A B) (f : SzC d A) : Db d A := ⟨⟨np, h.1, h.2.2.1⟩, ⟨nn, h.2.1, h.2.2.2.2.1⟩, f⟩
theorem Db.x (hd : isSc d = true) {A' : St} (h : Db d A) (a : Ag xs lxl A A') : Db d A' := by
  have := sc4 hd
  obtain ⟨⟨x, x1, x2⟩, ⟨y, y1, y2⟩, z, z1, z2⟩ := h
  exact ⟨⟨x, x1, (a.2.1 d 5 (xs_hi (by omega))).trans x2⟩, ⟨y, y1, (a.2.1 d 6 (xs_hi (by omega))).trans y2⟩, z, z1, (a.2.1 (d + 9) 1 (xs_hi (by omega))).trans z2⟩
theorem LB.of (hd : isSc d = true) {A' B' : St} (fa : Ag (pcs d) (pcl d) A0 A) (fb : Ag pms pml B0 B) (hdb : Db d A) (h : BdX A B A' B') : LB d A0 B0 A' B' := ⟨h.1, h.2.1, hdb.x hd h.2.2.1, fa.tr (h.2.2.1.mono (fun _ _ e => pcs_x e) (fun _ _ e => pcl_x e)), fb.tr (h.2.2.2.mono (fun _ _ e => pms_y e) (fun _ _ e => pml_y e))⟩
theorem Md.x (h : Md d A0 B0 b n A B t p) : OkX b n A B A B t p := by
  obtain ⟨np, nn, PN, NN, k1, k2, k3, -⟩ := h
  exact ⟨k1, k2, k3, rfl, rfl, Ag.rf, Ag.rf⟩
/-- a line's end -/
theorem E_line (hF : 100000 ≤ F) (hd : isSc d = true) (h : Md d A0 B0 b n A B t p) : ∃ A' B', bd (fR_takeSign F G A 59) (fun S => some S) = some A' ∧ j_M_readLine_269 F G B = some B' ∧ ((∃ t' p', Ln d A0 B0 b n A' B' t' p' ∧ rem n t' p' < rem n t p) ∨ LB d A0 B0 A' B') := by
  obtain ⟨np, nn, PN, NN, k1, k2, k3, k4, k5, k6, k7, k8, k9, k10⟩ := id h
  have hk := k1.2.2.2.2.1
  have e53 : ∀ k, k ≠ 53 → (sI B 78 53 1).1 78 k = B.1 78 k := fun k hk => by rw [sI_at, if_neg (by omega)]
  have okC : OkX b n A (sI B 78 53 1) A (sI B 78 53 1) t p := by
    obtain ⟨l1, l2, l3, l4, l5, l6, l7, l8, l9, l10⟩ := k1
    exact ⟨⟨l1, l2, l3, l4, l5, l6, l7, l8, l9, l10⟩, k2, k3, rfl, rfl, Ag.rf, Ag.rf⟩
  have dr2 : Dr d np nn PN NN A (sI B 78 53 1) := k6.cong (fun _ _ _ _ => rfl) (fun _ _ _ _ => rfl) (fun k h1 h2 => e53 k (by omega)) (fun h k h1 h2 => by rw [sI_at, if_neg (by omega)]) (fun _ => rfl)
  have fm2 : Fm d A (sI B 78 53 1) := k7.cong (fun _ _ _ _ => rfl) (fun h k e => by rw [sI_at, if_neg (by omega)])
  have bq2 : Bq A (sI B 78 53 1) := k8.cong rfl rfl (fun k h1 h2 => e53 k (by omega))
  have fb2 : Ag pms pml B0 (sI B 78 53 1) := k10.sI _ rfl
  unfold j_M_readLine_269
  rw [lt_eq, if_pos (show (sI B 78 53 1).1 78 2 = 0 from k3)]
  by_cases c : sg t 59 = true
  · obtain ⟨A', B', t', p', a1, a2, a3, a4⟩ := P_sign (F := F) (G := G) hF (c := 59) (by decide) okC c
    have a1' : fR_takeSign F G A 59 = some A' := a1
    have h59 : (sI B 78 53 1).1 78 6 = 59 := by
      show B.1 78 6 = 59
      rw [k1.2.2.2.1.1]
      exact ((sort_o hk).2.2.2.2 59 (by decide) rfl).mpr (by simpa [sg] using c)
    rw [a1', bd_some, if_pos h59]
    unfold j_M_readLine_295
    rw [if_pos (show (sI B 78 53 1).1 78 2 = 0 from k3), a2, bd_some]
    obtain ⟨m1, m2, m3, m4, m5, m6, m7⟩ := a3
    refine ⟨A', B', rfl, rfl, Or.inl ⟨t', p', ⟨np, nn, PN, NN, m1, m2, m3, m4.trans k4, m5.trans k5, dr2.x hd m6 m7, fm2.x hd m6 m7, ?_, fun q => ?_, k9.tr (m6.mono (fun _ _ e => pcs_x e) (fun _ _ e => pcl_x e)), fb2.tr (m7.mono (fun _ _ e => pms_y e) (fun _ _ e => pml_y e))⟩, a4⟩⟩
    · have bq3 := bq2.x m6 m7
      have e1 : B'.1 78 53 = 1 := m7.2.1 78 53 rfl
      refine ⟨?_, bq3.2⟩
      rw [e1]
      exact ⟨fun q => absurd q bq3.1, fun q => absurd q (by decide)⟩
    · exact absurd q (bq2.x m6 m7).1
  · obtain ⟨A', B', a1, a2, a3⟩ := P_signN (F := F) (G := G) (c := 59) (by decide) okC c
    have a1' : fR_takeSign F G A 59 = some A' := a1
    have h59 : ¬ (sI B 78 53 1).1 78 6 = 59 := by
      intro q
      have q' : B.1 78 6 = 59 := q
      rw [k1.2.2.2.1.1] at q'
      obtain ⟨z1, z2⟩ := ((sort_o hk).2.2.2.2 59 (by decide) rfl).mp q'
      exact c (by simp [sg, z1, z2])
    rw [a1', bd_some, if_neg h59, a2, bd_some]
    unfold j_M_readLine_295
    rw [if_neg a3.fm.1]
    exact ⟨A', B', rfl, rfl, Or.inr (LB.of hd k9 fb2 (Db.of k6 k7.sz) a3)⟩
theorem E_lineB (h : LB d A0 B0 A B) : ∃ B', bd (fR_takeSign F G A 59) (fun S => some S) = some A ∧ j_M_readLine_269 F G B = some B' ∧ LB d A0 B0 A B' := by
  have hm : ¬ (sI B 78 53 1).1 78 2 = 0 := h.fm.1
  unfold j_M_readLine_269 j_M_readLine_295
  rw [R_takeSignF h.fc, bd_some, lt_eq, if_neg hm, if_neg hm]
  obtain ⟨x, y, z, u, v⟩ := h
  exact ⟨_, rfl, rfl, x, y, z, u, v.sI _ rfl⟩
end LN
