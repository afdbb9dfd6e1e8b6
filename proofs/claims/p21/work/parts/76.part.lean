/-! LINES: a part -/
section LQ
variable {F G d np nn : Nat} {PN NN : Nat → List Nat} {A0 B0 A1 B1 A B : St} {b : Nat → Nat} {n : Nat} {t : Tk} {p : Nat}
theorem kind_nm : kindC t = 2 ↔ nm t = true := by rw [kind_n, nm_iff]
/-- a new name -/
theorem P_new (hF : 100000 ≤ F) {fr m : Nat} (hm : fr + m ≤ 13) (h : OkX b n A1 B1 A B t p) (hN : ∀ i, i < m → okL (PN i) ∧ B.2.1 80 (fr + i) = lN (p8 (PN i))) {kn : Int32} (h1 : nm t = true → (kn = 0 ↔ ∀ i, i < m → PN i ≠ t.2.2)) (h2 : ¬ nm t = true → kn = 0) :
    ∃ v A' B', fR_newName F G A kn = some (v, A') ∧ (bd (fM_isName F G B) fun v4 => if v4 = 0 then bd (fM_wrong F G B (2 : Int32)) fun S12 => j_M_newName_33 F G S12 (nI fr) (nI m) else bd (fM_find F G B (nI fr) (nI m)) fun v7 => if v7 < 0 then j_M_newName_33 F G B (nI fr) (nI m) else bd (fM_wrong F G B (3 : Int32)) fun S10 => j_M_newName_33 F G S10 (nI fr) (nI m)) = some B' ∧ ((∃ t' p', nm t = true ∧ v = lN (p5 t.2.2) ∧ (∀ i, i < m → PN i ≠ t.2.2) ∧ OkX b n A1 (sL B1 80 (fr + m) (lN (p8 t.2.2))) A' B' t' p' ∧ rem n t' p' < rem n t p) ∨ BdX A1 B1 A' B') := by
  have hk := h.1.2.2.2.2.1
  have hle : B.1 78 2 ≤ 0 := by rw [h.2.2.1]; decide
  have bad : ∀ k, 1 ≤ k → k ≤ 5 → ∃ v A' B', j_R_newName_32 F G A (nI k) = some (v, A') ∧ (bd (fM_wrong F G B (nI k)) fun S12 => j_M_newName_33 F G S12 (nI fr) (nI m)) = some B' ∧ BdX A1 B1 A' B' := by
    intro k k1 k5
    obtain ⟨A', B', a1, a2, a3⟩ := P_bad (F := F) (G := G) k1 k5 h
    unfold j_R_newName_32 j_R_newName_35 j_M_newName_33
    rw [a1, a2, bd_some, bd_some, lt_eq, if_neg a3.fc, if_neg a3.fm.2]
    exact ⟨_, A', B', rfl, rfl, a3⟩
  unfold fR_newName j_R_newName_22
  rw [if_pos h.2.1, h.1.2.2.1.1, M_isName h.1.2.2.2.1 hk, bd_some]
  by_cases c : nm t = true
  · obtain ⟨c1, c2⟩ := nm_iff.mp c
    have hL := hk.2.1 c1
    obtain ⟨v, f1, f2⟩ := M_find (F := F) (G := G) (B := B) (fr := fr) (m := m) (PN := PN) hF hL (h.1.2.2.2.1.2.1 c1) (by omega) hN
    rw [if_pos (kind_nm.mpr c), if_pos c, if_neg (show ¬ (1 : Int32) = 0 by decide), f1, bd_some]
    by_cases e : kn = 0
    · have hne := (h1 c).mp e
      have hv : v = -1 := by
        rcases f2 with ⟨q, -⟩ | ⟨i, q1, q2, -⟩
        · exact q
        · exact absurd q2 (hne i q1)
      rw [if_pos e, hv, if_pos (show (-1 : Int32) < 0 by decide)]
      have o2 : OkX b n A1 (sL B1 80 (fr + m) (lN (p8 t.2.2))) A (sL B 80 (fr + m) (lN (p8 t.2.2))) t p := h.cBL rfl
      obtain ⟨A', B', t', p', s1, s2, s3, s4⟩ := P_step (G := G) hF o2 (by omega) (by omega)
      unfold j_R_newName_35 j_M_newName_33
      rw [lt_eq, if_pos h.2.1, s1, if_pos hle, nI_addN, gd_t (inB_nI (by omega) (by decide)), nI_clamp (by omega), lt_eq, h.1.2.2.2.1.2.1 c1, s2, h.1.2.2.1.2.1 c1 |>.1]
      exact ⟨_, A', B', rfl, rfl, Or.inl ⟨t', p', c, rfl, hne, s3, s4⟩⟩
    · simp only [if_neg e]
      have hv : ¬ v < 0 := by
        rcases f2 with ⟨-, q⟩ | ⟨i, q1, -, q3⟩
        · exact absurd ((h1 c).mpr q) e
        · rw [q3]; exact nI_pos (by omega)
      rw [if_neg hv]
      obtain ⟨v', A', B', y1, y2, y3⟩ := bad 3 (by omega) (by omega)
      exact ⟨v', A', B', y1, y2, Or.inr y3⟩
  · rw [if_neg (fun q => c (kind_nm.mp q)), if_neg c, if_pos rfl, if_pos (h2 c)]
    obtain ⟨v', A', B', y1, y2, y3⟩ := bad 2 (by omega) (by omega)
    exact ⟨v', A', B', y1, y2, Or.inr y3⟩
theorem Dr.addPart {L : List Nat} {r : Nat} (hd : isSc d = true) (hL : okL L) (hr : r ≤ 2) (h4 : np < 4) (hne : ∀ i, i < np → PN i ≠ L) (h : Dr d np nn PN NN A B) : Dr d (np + 1) nn (fun i => if i = np then L else PN i) NN (sI (sI (sL A (d + 1) np (lN (p5 L))) (d + 2) np (nI r)) d 5 (nI (np + 1))) (sI (sI (sL B 80 np (lN (p8 L))) 88 np (nI r)) 78 40 (nI (np + 1))) := by
  have eA : ∀ h k, ¬ (h = d ∧ k = 5) → ¬ (h = d + 2 ∧ k = np) → (sI (sI (sL A (d + 1) np (lN (p5 L))) (d + 2) np (nI r)) d 5 (nI (np + 1))).1 h k = A.1 h k := fun h k e1 e2 => by rw [sI_at, if_neg e1, sI_at, if_neg e2]; rfl
  have eB : ∀ h k, ¬ (h = 78 ∧ k = 40) → ¬ (h = 88 ∧ k = np) → (sI (sI (sL B 80 np (lN (p8 L))) 88 np (nI r)) 78 40 (nI (np + 1))).1 h k = B.1 h k := fun h k e1 e2 => by rw [sI_at, if_neg e1, sI_at, if_neg e2]; rfl
  have eAL : ∀ h k, ¬ (h = d + 1 ∧ k = np) → (sI (sI (sL A (d + 1) np (lN (p5 L))) (d + 2) np (nI r)) d 5 (nI (np + 1))).2.1 h k = A.2.1 h k := fun h k e => by
    show (sL A (d + 1) np (lN (p5 L))).2.1 h k = _
    rw [sL_at, if_neg e]
  have eBL : ∀ k, k ≠ np → (sI (sI (sL B 80 np (lN (p8 L))) 88 np (nI r)) 78 40 (nI (np + 1))).2.1 80 k = B.2.1 80 k := fun k e => by
    show (sL B 80 np (lN (p8 L))).2.1 80 k = _
    rw [sL_at, if_neg (fun q => e q.2)]
  obtain ⟨k1, k2, k3, k4, k5, k6, ⟨x0, a0, b0, c0, d0, e0⟩, ⟨x1, a1, b1, c1⟩, ⟨x2, a2, b2, c2, d2⟩, ⟨x3, a3, b3, c3⟩, ⟨x4, a4, b4, c4⟩, k7, k8, k9⟩ := h
  refine ⟨by omega, k2, sI_self, sI_self, (eA _ _ (by omega) (by omega)).trans k5, (eB _ _ (by omega) (by omega)).trans k6, ⟨x0, a0, b0, (eA _ _ (by omega) (by omega)).trans c0, (eB _ _ (by omega) (by omega)).trans d0, fun i hi => by rw [eB 90 i (by omega) (by omega)]; exact e0 i hi⟩, ⟨x1, a1, (eA _ _ (by omega) (by omega)).trans b1, (eB _ _ (by omega) (by omega)).trans c1⟩, ⟨x2, a2, b2, (eA _ _ (by omega) (by omega)).trans c2, (eB _ _ (by omega) (by omega)).trans d2⟩, ⟨x3, a3, (eA _ _ (by omega) (by omega)).trans b3, (eB _ _ (by omega) (by omega)).trans c3⟩, ⟨x4, a4, (eA _ _ (by omega) (by omega)).trans b4, (eB _ _ (by omega) (by omega)).trans c4⟩, fun i hi => ?_, fun i j hi hj e => ?_, fun i hi => ?_⟩
  · by_cases c : i = np
    · subst c
      dsimp only
      rw [if_pos rfl]
      refine ⟨hL, ?_, ?_, ?_, ?_⟩
      · show (sL A (d + 1) i (lN (p5 L))).2.1 (d + 1) i = _
        rw [sL_at, if_pos ⟨rfl, rfl⟩]
      · show (sL B 80 i (lN (p8 L))).2.1 80 i = _
        rw [sL_at, if_pos ⟨rfl, rfl⟩]
      · rw [sI_at, if_neg (by omega), sI_self, sI_at, if_neg (by omega), sI_self]
      · rw [sI_at, if_neg (by omega), sI_self]
        unfold iv
        rw [tn_nI (by omega)]; omega
    · obtain ⟨q1, q2, q3, q4, q5⟩ := k7 i (by omega)
      dsimp only
      rw [if_neg c, eAL _ _ (by omega), eBL _ c, eA _ _ (by omega) (by omega), eB _ _ (by omega) (by omega)]
      exact ⟨q1, q2, q3, q4, q5⟩
  · dsimp only at e
    by_cases ci : i = np <;> by_cases cj : j = np
    · omega
    · rw [if_pos ci, if_neg cj] at e
      exact absurd e.symm (hne j (by omega))
    · rw [if_neg ci, if_pos cj] at e
      exact absurd e (hne i (by omega))
    · rw [if_neg ci, if_neg cj] at e
      exact k8 i j (by omega) (by omega) e
  · obtain ⟨q1, q2, q3, q4, q5, q6⟩ := k9 i hi
    rw [eAL _ _ (by omega), eBL _ (by omega), eA (d + 4) i (by omega) (by omega), eA (d + 5) i (by omega) (by omega), eA (d + 6) i (by omega) (by omega), eA (d + 7) i (by omega) (by omega), eA (d + 8) i (by omega) (by omega), eB 89 i (by omega) (by omega), eB 90 i (by omega) (by omega), eB 91 i (by omega) (by omega), eB 92 i (by omega) (by omega), eB 93 i (by omega) (by omega)]
    refine ⟨q1, q2, q3, q4, ⟨q5.1, ?_⟩, q6⟩
    have := q5.2
    omega
theorem S_addPart (hd : isSc d = true) (h5 : A.1 d 5 = nI np) (h4 : np < 4) (v : Int64) (r : Int32) : fS_addPart F G A d v r = some (sI (sI (sL A (d + 1) np v) (d + 2) np r) d 5 (nI (np + 1))) := by
  unfold fS_addPart
  have e1 : (sL A (d + 1) np v).1 d 5 = nI np := h5
  have e2 : (sI (sL A (d + 1) np v) (d + 2) np r).1 d 5 = nI np := by rw [sI_at, if_neg (by omega)]; exact h5
  rw [gd_t hd, h5, show (4 : Int32) = nI 4 from rfl, if_neg (nI_ge h4 (by decide)), gd_t (inB_nI h4 (by decide)), nI_clamp (by omega), lt_eq, e1, gd_t (inB_nI h4 (by decide)), nI_clamp (by omega), lt_eq, lt_eq, e2, nI_1]
/-- which flag the class has for a name of a part -/
theorem R_partJ (hF : 100000 ≤ F) (hd : isSc d = true) (hdr : A.2.2.2 = d) (h : TkC A t) (hk : TkOk t) (h5 : A.1 d 5 = nI np) (h4 : np ≤ 4) (hN : ∀ i, i < np → okL (PN i) ∧ A.2.1 (d + 1) i = lN (p5 (PN i))) : ∃ kn : Int32, fR_partLine F G A = j_R_partLine_35 F G A kn ∧ (nm t = true → (kn = 0 ↔ ∀ i, i < np → PN i ≠ t.2.2)) ∧ (¬ nm t = true → kn = 0) := by
  unfold fR_partLine j_R_partLine_34
  rw [h.1]
  by_cases c : nm t = true
  · obtain ⟨c1, c2⟩ := nm_iff.mp c
    obtain ⟨v, f1, f2⟩ := S_partNamed (F := F) (G := G) (A := A) hF hd (hk.2.1 c1) h5 h4 hN
    rw [if_pos (kind_nm.mpr c), hdr, gd_t hd, (h.2.1 c1).1, f1, bd_some]
    rcases f2 with ⟨q1, q2⟩ | ⟨i, q1, q2, q3⟩
    · rw [q1, if_pos rfl]
      exact ⟨0, rfl, fun _ => ⟨fun _ => q2, fun _ => rfl⟩, fun z => absurd c z⟩
    · rw [q3, if_neg (nI_m1 (by omega))]
      exact ⟨1, rfl, fun _ => ⟨fun z => absurd z (by decide), fun z => absurd q2 (z i q1)⟩, fun z => absurd c z⟩
  · rw [if_neg (fun q => c (kind_nm.mp q))]
    exact ⟨0, rfl, fun z => absurd z c, fun _ => rfl⟩
/-- the line of a part -/
theorem Part_line (hF : 100000 ≤ F) (hd : isSc d = true) (hdr : A.2.2.2 = d) (h1 : Lx b n A B t p) (h2 : A.1 1 0 = 0) (h3 : B.1 78 2 = 0) (h4 : A.1 1 1 = -1) (h5 : B.1 78 3 = -1) (h6 : Dr d np nn PN NN A B) (h7 : Fm d A B) (h8 : Bq A B) (h9 : Ag (pcs d) (pcl d) A0 A) (h10 : Ag pms pml B0 B) (hwd : wd t 1 = true) (hnp : np < 4) : ∃ A2 A3 B3, fT_step F G A = some A2 ∧ fR_partLine F G A2 = some A3 ∧ fM_readPart F G B = some B3 ∧ ((∃ t' p', Md d A0 B0 b n A3 B3 t' p' ∧ rem n t' p' < rem n t p) ∨ LB d A0 B0 A3 B3) := by
  have h4d := sc4 hd
  have o1 : OkX b n A B A B t p := ⟨h1, h2, h3, rfl, rfl, Ag.rf, Ag.rf⟩
  obtain ⟨A2, B2, t2, p2, s1, s2, s3, s4⟩ := P_step (G := G) hF o1 (wd_no hwd).1 (wd_no hwd).2
  have aA := s3.2.2.2.2.2.1
  have aB := s3.2.2.2.2.2.2
  have d2 := h6.x hd aA aB
  have hd2 : A2.2.2.2 = d := by rw [aA.1]; exact hdr
  obtain ⟨kn, j1, j2, j3⟩ := R_partJ (F := F) (G := G) hF hd hd2 s3.1.2.2.1 s3.1.2.2.2.2.1 d2.2.2.1 d2.1 (fun i hi => ⟨(d2.2.2.2.2.2.2.2.2.2.2.2.1 i hi).1, (d2.2.2.2.2.2.2.2.2.2.2.2.1 i hi).2.1⟩)
  obtain ⟨v, A3, B3, n1, n2, n3⟩ := P_new (F := F) (G := G) hF (fr := 0) (m := np) (PN := PN) (by omega) s3 (fun i hi => ⟨(d2.2.2.2.2.2.2.2.2.2.2.2.1 i hi).1, by rw [Nat.zero_add]; exact (d2.2.2.2.2.2.2.2.2.2.2.2.1 i hi).2.2.1⟩) j2 j3
  have hnp2 : B.1 78 40 = nI np := h6.2.2.2.1
  have eN : fM_newName F G B 0 (nI np) = some B3 := by
    unfold fM_newName
    rw [s2, bd_some]
    exact n2
  refine ⟨A2, ?_⟩
  rw [j1]
  unfold j_R_partLine_35 fM_readPart
  rw [n1, bd2_some, hnp2, eN, bd_some]
  rcases n3 with ⟨t3, p3, m1, m2, m3, m4, m5⟩ | n3
  · rw [Nat.zero_add] at m4
    have hk3 := m4.1.2.2.2.2.1
    have tk3 := m4.1.2.2.1
    have hL : okL t2.2.2 := s3.1.2.2.2.2.1.2.1 (nm_iff.mp m1).1
    subst m2
    have w8 : fR_isWord F G A3 8 = some (if wd t3 8 = true then 1 else 0) := R_isWord (w := 8) (by decide) m4.2.1 tk3
    have w9 : fR_isWord F G A3 9 = some (if wd t3 9 = true then 1 else 0) := R_isWord (w := 9) (by decide) m4.2.1 tk3
    have hnp3 : B3.1 78 40 = nI np := by rw [m4.2.2.2.2.2.2.2.1 78 40 rfl]; exact hnp2
    have hp5 : A3.1 d 5 = nI np := by rw [m4.2.2.2.2.2.1.2.1 d 5 (xs_hi (by omega))]; exact h6.2.2.1
    have hd3 : A3.2.2.2 = d := by rw [m4.2.2.2.2.2.1.1]; exact hdr
    rw [w8, w9, bd_some, bd_some, if_pos (show B3.1 78 2 ≤ 0 by rw [m4.2.2.1]; decide), M_isWord (w := 8) (K := 1953853029) (by decide) m4.1.2.2.2.1 hk3 rfl, M_isWord (w := 9) (K := 1650553715) (by decide) m4.1.2.2.2.1 hk3 rfl, bd_some, bd_some]
    -- the end, once the role is known and its word is taken
    have fin : ∀ (r : Nat) (A5 B5 : St) (t5 : Tk) (p5' : Nat), r ≤ 2 → OkX b n A (sI (sL B 80 np (lN (p8 t2.2.2))) 88 np (nI r)) A5 B5 t5 p5' → rem n t5 p5' ≤ rem n t3 p3 → ∃ A6 B6, j_R_partLine_80 F G A5 (lN (p5 t2.2.2)) (nI r) = some A6 ∧ j_M_readPart_76 F G B5 = some B6 ∧ ((∃ t' p', Md d A0 B0 b n A6 B6 t' p' ∧ rem n t' p' < rem n t p) ∨ LB d A0 B0 A6 B6) := by
      intro r A5 B5 t5 p5' hr o5 hrem
      have q5 : A5.1 d 5 = nI np := by rw [o5.2.2.2.2.2.1.2.1 d 5 (xs_hi (by omega))]; exact h6.2.2.1
      have qd : A5.2.2.2 = d := by rw [o5.2.2.2.2.2.1.1]; exact hdr
      have q40 : B5.1 78 40 = nI np := by rw [o5.2.2.2.2.2.2.2.1 78 40 rfl]; exact hnp2
      unfold j_R_partLine_80 j_M_readPart_76
      rw [if_pos o5.2.1, qd, gd_t hd, S_addPart hd q5 hnp, bd_some, if_pos o5.2.2.1, lt_eq, q40, nI_1]
      have o6 := (((o5.cAL (h := d + 1) (k := np) (x := lN (p5 t2.2.2)) (by omega)).cA (h := d + 2) (k := np) (x := nI r) (by omega)).cA (h := d) (k := 5) (x := nI (np + 1)) h4d).cB (h := 78) (k := 40) (x := nI (np + 1)) (by omega)
      obtain ⟨k1, k2, k3, k4, k5, k6, k7⟩ := o6
      refine ⟨_, _, rfl, rfl, Or.inl ⟨t5, p5', ⟨np + 1, nn, _, NN, k1, k2, k3, ?_, ?_, (Dr.addPart hd hL hr hnp m3 h6).x hd k6 k7, (Fm.cong h7 (fun h k q1 q2 => by rw [sI_at, if_neg (by omega), sI_at, if_neg (by omega)]; rfl) (fun h k q => by rw [sI_at, if_neg (by omega), sI_at, if_neg (by omega)]; rfl)).x hd k6 k7, (Bq.cong h8 (by rw [sI_at, if_neg (by omega), sI_at, if_neg (by omega)]; rfl) (by rw [sI_at, if_neg (by omega), sI_at, if_neg (by omega)]; rfl) (fun k q1 q2 => by rw [sI_at, if_neg (by omega), sI_at, if_neg (by omega)]; rfl)).x k6 k7, (((h9.sL _ (by simp [pcl])).sI _ (by simp [pcs])).sI _ (by simp [pcs])).tr (k6.mono (fun _ _ e => pcs_x e) (fun _ _ e => pcl_x e)), (((h10.sL _ rfl).sI _ rfl).sI _ rfl).tr (k7.mono (fun _ _ e => pms_y e) (fun _ _ e => pml_y e))⟩, by omega⟩⟩
      · rw [k4, sI_at, if_neg (by omega), sI_at, if_neg (by omega)]; exact h4
      · rw [k5, sI_at, if_neg (by omega), sI_at, if_neg (by omega)]; exact h5
    have o4 : ∀ r, OkX b n A (sI (sL B 80 np (lN (p8 t2.2.2))) 88 np (nI r)) A3 (sI B3 88 np (nI r)) t3 p3 := fun r => m4.cB (by omega)
    have e52 : ∀ r, r ≤ 2 → j_M_readPart_52 F G B3 (nI np) (nI r) = if r = 0 then j_M_readPart_76 F G (sI B3 88 np (nI r)) else bd (fM_token F G (sI B3 88 np (nI r))) fun S18 => j_M_readPart_76 F G S18 := by
      intro r hr
      unfold j_M_readPart_52
      have e1 : (sI B3 88 np (nI r)).1 78 40 = nI np := hnp3
      rw [gd_t (inB_nI hnp (by decide)), nI_clamp (by omega), lt_eq, if_pos (show (sI B3 88 np (nI r)).1 78 2 = 0 from m4.2.2.1), e1, gd_t (inB_nI hnp (by decide)), nI_clamp (by omega), sI_self]
      by_cases c : r = 0
      · rw [if_pos c, c, if_pos (by decide)]
      · rw [if_neg c, if_neg (show ¬ nI r ≤ (0 : Int32) from nI_ge (a := 0) (by omega) (by omega))]
    rw [hnp3]
    by_cases c8 : wd t3 8 = true
    · obtain ⟨A5, B5, t5, p5', x1, x2, x3, x4⟩ := P_step (G := G) hF (o4 2) (wd_no c8).1 (wd_no c8).2
      obtain ⟨A6, B6, y1, y2, y3⟩ := fin 2 A5 B5 t5 p5' (by omega) x3 (by omega)
      have e52' : j_M_readPart_52 F G B3 (nI np) 2 = _ := e52 2 (by omega)
      have y1' : j_R_partLine_80 F G A5 (lN (p5 t2.2.2)) 2 = some A6 := y1
      rw [if_pos c8, if_neg (by decide), if_neg (by decide), x1, bd_some, y1', e52', if_neg (by decide), x2, bd_some, y2]
      exact ⟨A6, B6, s1, rfl, rfl, y3⟩
    · rw [if_neg c8, if_pos rfl, if_pos rfl]
      by_cases c9 : wd t3 9 = true
      · obtain ⟨A5, B5, t5, p5', x1, x2, x3, x4⟩ := P_step (G := G) hF (o4 1) (wd_no c9).1 (wd_no c9).2
        obtain ⟨A6, B6, y1, y2, y3⟩ := fin 1 A5 B5 t5 p5' (by omega) x3 (by omega)
        have e52' : j_M_readPart_52 F G B3 (nI np) 1 = _ := e52 1 (by omega)
        have y1' : j_R_partLine_80 F G A5 (lN (p5 t2.2.2)) 1 = some A6 := y1
        have et : fM_truth F G B3 1 = some 1 := rfl
        rw [if_pos c9, if_neg (by decide), x1, bd_some, y1', et, bd_some, e52', if_neg (by decide), x2, bd_some, y2]
        exact ⟨A6, B6, s1, rfl, rfl, y3⟩
      · obtain ⟨A6, B6, y1, y2, y3⟩ := fin 0 A3 (sI B3 88 np (nI 0)) t3 p3 (by omega) (o4 0) (Nat.le_refl _)
        have e52' : j_M_readPart_52 F G B3 (nI np) 0 = _ := e52 0 (by omega)
        have y1' : j_R_partLine_80 F G A3 (lN (p5 t2.2.2)) 0 = some A6 := y1
        have et : fM_truth F G B3 0 = some 0 := rfl
        rw [if_neg c9, if_pos rfl, y1', et, bd_some, e52', if_pos rfl, y2]
        exact ⟨A6, B6, s1, rfl, rfl, y3⟩
  · have lb := LB.of hd (h9) (h10) (Db.of h6 h7.sz) n3
    have hnp3 : B3.1 78 40 = nI np := by rw [n3.2.2.2.2.1 78 40 rfl]; exact hnp2
    rw [R_isWordF n3.fc, R_isWordF n3.fc, bd_some, bd_some, if_pos rfl, if_pos rfl, if_neg n3.fm.2, hnp3]
    unfold j_R_partLine_80 j_M_readPart_52 j_M_readPart_76
    rw [if_neg n3.fc, gd_t (inB_nI hnp (by decide)), nI_clamp (by omega), lt_eq, if_neg (show ¬ (sI B3 88 np 0).1 78 2 = 0 from n3.fm.1), if_neg (show ¬ (sI B3 88 np 0).1 78 2 = 0 from n3.fm.1)]
    exact ⟨A3, _, s1, rfl, rfl, Or.inr (lb.cB rfl (by omega))⟩
end LQ
