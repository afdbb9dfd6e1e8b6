/-! LINES: a note -/
def cN5 (F G : Nat) (v7 : Int64) (v12 v18 v23 v28 : Int32) (S29 : St) : Option St := bd (fR_isWord F G S29 (18 : Int32)) fun v31 => if v31 = 0 then j_R_noteLine_129 F G  S29 v7 v12 v18 v23 v28 (5 : Int32) else bd (fT_step F G S29 ) fun S34 => bd2 (fR_number F G S34 (1 : Int32) (9 : Int32)) fun v36 S37 => j_R_noteLine_129 F G  S37 v7 v12 v18 v23 v28 v36
def cN4 (F G : Nat) (v7 : Int64) (v12 v18 v23 : Int32) (S24 : St) : Option St := bd (fR_takeWord F G S24 (17 : Int32)) fun S26 => bd2 (fR_number F G S26 (1 : Int32) (12 : Int32)) fun v28 S29 => cN5 F G v7 v12 v18 v23 v28 S29
def cN3 (F G : Nat) (v7 : Int64) (v12 v18 : Int32) (S19 : St) : Option St := bd (fR_takeWord F G S19 (16 : Int32)) fun S21 => bd2 (fR_number F G S21 (0 : Int32) (87 : Int32)) fun v23 S24 => cN4 F G v7 v12 v18 v23 S24
def cN2 (F G : Nat) (v7 : Int64) (v12 : Int32) (S13 : St) : Option St := bd (fR_takeWord F G S13 (11 : Int32)) fun S15 => gd (isSc S15.2.2.2) (bd2 (fR_number F G S15 (0 : Int32) ((S15.1 S15.2.2.2 0) - (1 : Int32))) fun v18 S19 => cN3 F G v7 v12 v18 S19)
def cN1 (F G : Nat) (v7 : Int64) (S8 : St) : Option St := bd (fR_takeWord F G S8 (10 : Int32)) fun S10 => bd2 (fR_knownPart F G S10) fun v12 S13 => cN2 F G v7 v12 S13
theorem cN_eq {F G : Nat} {S : St} {s1 : Int32} : j_R_noteLine_34 F G S s1 = bd2 (fR_newName F G S s1) fun v7 S8 => cN1 F G v7 S8 := rfl
def mN5 (F G : Nat) (v3 : Int32) (S29 : St) : Option St := if (S29.1 78 2) = 0 then bd (fM_isWord F G S29 (1819243876 : Int64)) fun v33 => if v33 = 0 then j_M_readNote_118 F G  S29 v3 else bd2 (fM_told F G S29 (1819243876 : Int64) (1 : Int32) (9 : Int32)) fun v36 S37 => j_M_readNote_119 F G  S37 v3 v36 else j_M_readNote_118 F G  S29 v3
def mN4 (F G : Nat) (v3 : Int32) (S23 : St) : Option St := bd2 (fM_told F G S23 (1819242087 : Int64) (1 : Int32) (12 : Int32)) fun v26 S27 => gd (inB v3 10) (lt (sI S27 92 v3.toNatClampNeg v26) fun S29 => mN5 F G v3 S29)
def mN3 (F G : Nat) (v3 : Int32) (S17 : St) : Option St := bd2 (fM_told F G S17 (7038329 : Int64) (0 : Int32) (87 : Int32)) fun v20 S21 => gd (inB v3 10) (lt (sI S21 91 v3.toNatClampNeg v20) fun S23 => mN4 F G v3 S23)
def mN2 (F G : Nat) (v3 : Int32) (S11 : St) : Option St := bd2 (fM_told F G S11 (24948 : Int64) (0 : Int32) ((S11.1 78 39) - (1 : Int32))) fun v14 S15 => gd (inB v3 10) (lt (sI S15 90 v3.toNatClampNeg v14) fun S17 => mN3 F G v3 S17)
def mN1 (F G : Nat) (v3 : Int32) (S2 : St) : Option St := bd (fM_want F G S2 (28518 : Int64)) fun S6 => bd2 (fM_oldPart F G S6) fun v8 S9 => gd (inB v3 10) (lt (sI S9 89 v3.toNatClampNeg v8) fun S11 => mN2 F G v3 S11)
theorem mN_eq {F G : Nat} {S : St} : fM_readNote F G S = bd (fM_newName F G S (4 : Int32) (S.1 78 41)) fun S2 => mN1 F G (S2.1 78 41) S2 := rfl
section LR
variable {F G d np nn : Nat} {PN NN : Nat → List Nat} {A0 B0 A1 B1 A B : St} {b : Nat → Nat} {n : Nat} {t : Tk} {p : Nat}
/-! behind a fault -/
theorem cB5 (h : ¬ A.1 1 0 = 0) {v7 : Int64} {v12 v18 v23 v28 : Int32} : cN5 F G v7 v12 v18 v23 v28 A = some A := by
  unfold cN5 j_R_noteLine_129
  rw [R_isWordF h, bd_some, if_pos rfl, if_neg h]
theorem cB4 (h : ¬ A.1 1 0 = 0) {v7 : Int64} {v12 v18 v23 : Int32} : cN4 F G v7 v12 v18 v23 A = some A := by
  unfold cN4
  obtain ⟨v, e⟩ := R_numberF (F := F) (G := G) (l := 1) (u := 12) h
  rw [R_takeWordF h, bd_some, e, bd2_some, cB5 h]
theorem cB3 (h : ¬ A.1 1 0 = 0) {v7 : Int64} {v12 v18 : Int32} : cN3 F G v7 v12 v18 A = some A := by
  unfold cN3
  obtain ⟨v, e⟩ := R_numberF (F := F) (G := G) (l := 0) (u := 87) h
  rw [R_takeWordF h, bd_some, e, bd2_some, cB4 h]
theorem cB2 (hd : isSc d = true) (hdr : A.2.2.2 = d) (h : ¬ A.1 1 0 = 0) {v7 : Int64} {v12 : Int32} : cN2 F G v7 v12 A = some A := by
  unfold cN2
  obtain ⟨v, e⟩ := R_numberF (F := F) (G := G) (l := 0) (u := (A.1 d 0) - 1) h
  rw [R_takeWordF h, bd_some, hdr, gd_t hd, e, bd2_some, cB3 h]
theorem R_knownPartF (hF : 100000 ≤ F) (hd : isSc d = true) (hdr : A.2.2.2 = d) (h : ¬ A.1 1 0 = 0) (hdb : Db d A) : ∃ v, fR_knownPart F G A = some (v, A) := by
  have j29 : ∀ v, j_R_knownPart_29 F G A v = some (v, A) := by
    intro v
    unfold j_R_knownPart_29 j_R_knownPart_62
    rw [if_neg h, if_neg h]
  unfold fR_knownPart
  by_cases c : A.1 2 4 = 2
  · rw [if_pos c, hdr, gd_t hd]
    obtain ⟨⟨x, x1, x2⟩, -⟩ := hdb
    have key : ∀ r j f, x - j = r → j ≤ x → r < f → ∃ v, fx1 (b_S_partNamed_2 F G A d (A.2.1 2 6)) f (nI j) = some v := by
      intro r
      induction r with
      | zero =>
        intro j f hr hj hf
        obtain ⟨g, rfl⟩ : ∃ g, f = g + 1 := ⟨f - 1, by omega⟩
        rw [fx1_s]
        generalize fx1 (b_S_partNamed_2 F G A d (A.2.1 2 6)) g = rec
        unfold b_S_partNamed_2
        rw [x2, if_pos (nI_le (by omega) (by omega))]
        exact ⟨_, rfl⟩
      | succ r ih =>
        intro j f hr hj hf
        obtain ⟨g, rfl⟩ : ∃ g, f = g + 1 := ⟨f - 1, by omega⟩
        rw [fx1_s]
        have ih1 := ih (j + 1) g (by omega) (by omega) (by omega)
        generalize fx1 (b_S_partNamed_2 F G A d (A.2.1 2 6)) g = rec at ih1
        unfold b_S_partNamed_2
        rw [x2, if_neg (nI_ge (by omega) (by omega)), gd_t (inB_nI (by omega) (by decide)), lt_eq, nI_1]
        by_cases c : lg_cmp (A.2.1 (d + 1) (nI j).toNatClampNeg) (A.2.1 2 6) = 0
        · rw [if_pos c]; exact ⟨_, rfl⟩
        · rw [if_neg c]; exact ih1
    obtain ⟨v, e⟩ := key x 0 F rfl (by omega) (by omega)
    have e' : fS_partNamed F G A d (A.2.1 2 6) = some v := by
      unfold fS_partNamed
      rw [gd_t hd]
      exact e
    rw [e', bd_some]
    exact ⟨v, j29 v⟩
  · rw [if_neg c]
    exact ⟨_, j29 _⟩
theorem cB1 (hF : 100000 ≤ F) (hd : isSc d = true) (hdr : A.2.2.2 = d) (h : ¬ A.1 1 0 = 0) (hdb : Db d A) {v7 : Int64} : cN1 F G v7 A = some A := by
  unfold cN1
  obtain ⟨v, e⟩ := R_knownPartF (F := F) (G := G) hF hd hdr h hdb
  rw [R_takeWordF h, bd_some, e, bd2_some, cB2 hd hdr h]
theorem mB5 (hn : nn < 10) (h : LB d A0 B0 A B) : ∃ B', mN5 F G (nI nn) B = some B' ∧ LB d A0 B0 A B' := by
  unfold mN5 j_M_readNote_118 j_M_readNote_119
  have e : ∀ x, ¬ (sI B 93 nn x).1 78 2 = 0 := fun x => h.fm.1
  rw [if_neg h.fm.1, gd_t (inB_nI hn (by decide)), nI_clamp (by omega), lt_eq, if_neg (e _)]
  exact ⟨_, rfl, h.cB rfl (by omega)⟩
theorem mB4 (hn : nn < 10) (h : LB d A0 B0 A B) : ∃ B', mN4 F G (nI nn) B = some B' ∧ LB d A0 B0 A B' := by
  unfold mN4
  rw [M_toldF h.fm.2, bd2_some, gd_t (inB_nI hn (by decide)), nI_clamp (by omega), lt_eq]
  exact mB5 hn (h.cB rfl (by omega))
theorem mB3 (hn : nn < 10) (h : LB d A0 B0 A B) : ∃ B', mN3 F G (nI nn) B = some B' ∧ LB d A0 B0 A B' := by
  unfold mN3
  rw [M_toldF h.fm.2, bd2_some, gd_t (inB_nI hn (by decide)), nI_clamp (by omega), lt_eq]
  exact mB4 hn (h.cB rfl (by omega))
theorem mB2 (hn : nn < 10) (h : LB d A0 B0 A B) : ∃ B', mN2 F G (nI nn) B = some B' ∧ LB d A0 B0 A B' := by
  unfold mN2
  rw [M_toldF h.fm.2, bd2_some, gd_t (inB_nI hn (by decide)), nI_clamp (by omega), lt_eq]
  exact mB3 hn (h.cB rfl (by omega))
theorem mB1 (hn : nn < 10) (h : LB d A0 B0 A B) : ∃ B', mN1 F G (nI nn) B = some B' ∧ LB d A0 B0 A B' := by
  unfold mN1 fM_oldPart
  rw [M_wantF h.fm.2, bd_some, if_neg h.fm.2, bd2_some, gd_t (inB_nI hn (by decide)), nI_clamp (by omega), lt_eq]
  exact mB2 hn (h.cB rfl (by omega))
theorem OkX.x1 (h : OkX b n A1 B1 A B t p) : OkX b n A B A B t p := ⟨h.1, h.2.1, h.2.2.1, rfl, rfl, Ag.rf, Ag.rf⟩
/-- the part that a note is of -/
theorem P_part (hF : 100000 ≤ F) (hd : isSc d = true) (hdr : A.2.2.2 = d) (h : OkX b n A1 B1 A B t p) (h5 : A.1 d 5 = nI np) (h40 : B.1 78 40 = nI np) (h4 : np ≤ 4) (hN : ∀ i, i < np → okL (PN i) ∧ A.2.1 (d + 1) i = lN (p5 (PN i)) ∧ B.2.1 80 i = lN (p8 (PN i))) (hu : ∀ i j, i < np → j < np → PN i = PN j → i = j) : ∃ v v' A' B', fR_knownPart F G A = some (v, A') ∧ fM_oldPart F G B = some (v', B') ∧ ((∃ i t' p', i < np ∧ v = nI i ∧ v' = nI i ∧ OkX b n A1 B1 A' B' t' p' ∧ rem n t' p' < rem n t p) ∨ BdX A1 B1 A' B') := by
  have hk := h.1.2.2.2.2.1
  have hle : B.1 78 2 ≤ 0 := by rw [h.2.2.1]; decide
  have jbad : ∀ A' B', BdX A1 B1 A' B' → (∃ v, fM_find F G B' 0 (B'.1 78 40) = some v) → (∀ y, j_R_knownPart_62 F G A' y = some (y, A')) ∧ ∃ v, j_M_oldPart_41 F G B' = some (v, B') := by
    intro A' B' hb hf
    obtain ⟨v, hf⟩ := hf
    refine ⟨fun y => ?_, v, ?_⟩
    · unfold j_R_knownPart_62
      rw [if_neg hb.fc]
    · unfold j_M_oldPart_41
      rw [hf, bd_some, if_neg hb.fm.1]
  have anyfind : ∀ B', Ag ys lyl B B' → ∃ v, fM_find F G B' 0 (B'.1 78 40) = some v := by
    intro B' ab
    rw [ab.2.1 78 40 rfl, h40]
    have key : ∀ r j f (v0 : Int32), np - j = r → j ≤ np → r < f → ∃ v, fx2 (b_M_find_5 F G B' 0 (nI np)) f v0 (nI j) = some v := by
      intro r
      induction r with
      | zero =>
        intro j f v0 hr hj hf
        obtain ⟨g, rfl⟩ : ∃ g, f = g + 1 := ⟨f - 1, by omega⟩
        rw [fx2_s]
        generalize fx2 (b_M_find_5 F G B' 0 (nI np)) g = rec
        unfold b_M_find_5
        rw [if_pos (nI_le (by omega) (by omega))]
        exact ⟨_, rfl⟩
      | succ r ih =>
        intro j f v0 hr hj hf
        obtain ⟨g, rfl⟩ : ∃ g, f = g + 1 := ⟨f - 1, by omega⟩
        rw [fx2_s]
        have ih1 := ih (j + 1) g (nI j) (by omega) (by omega) (by omega)
        have ih2 := ih (j + 1) g v0 (by omega) (by omega) (by omega)
        generalize fx2 (b_M_find_5 F G B' 0 (nI np)) g = rec at ih1 ih2
        unfold b_M_find_5
        have e0 : (0 : Int32) + nI j = nI j := by rw [show (0 : Int32) = nI 0 from rfl, nI_addN, Nat.zero_add]
        rw [if_neg (nI_ge (by omega) (by omega)), e0, gd_t (inB_nI (by omega) (by decide)), lt_eq, lt_eq, nI_1]
        by_cases c : lg_cmp (B'.2.1 80 (nI j).toNatClampNeg) (B'.2.1 78 9) = 0
        · rw [if_pos c]; exact ih1
        · rw [if_neg c]; exact ih2
    exact key np 0 F (-1) rfl (by omega) (by omega)
  have bad : ∀ k, 1 ≤ k → k ≤ 5 → ∀ y, ∃ v v' A' B', j_R_knownPart_59 F G A y (nI k) = some (v, A') ∧ (bd (fM_wrong F G B (nI k)) fun S11 => j_M_oldPart_41 F G S11) = some (v', B') ∧ BdX A1 B1 A' B' := by
    intro k k1 k5 y
    obtain ⟨A', B', a1, a2, a3⟩ := P_bad (F := F) (G := G) k1 k5 h.x1
    have a3' : BdX A1 B1 A' B' := ⟨a3.1, a3.2.1, h.2.2.2.2.2.1.tr a3.2.2.1, h.2.2.2.2.2.2.tr a3.2.2.2⟩
    obtain ⟨g1, v', g2⟩ := jbad A' B' a3' (anyfind B' a3.2.2.2)
    unfold j_R_knownPart_59
    rw [a1, a2, bd_some, bd_some, g1, g2]
    exact ⟨_, _, A', B', rfl, rfl, a3'⟩
  unfold fR_knownPart fM_oldPart
  rw [if_pos hle, h.1.2.2.1.1, M_isName h.1.2.2.2.1 hk, bd_some, h40]
  by_cases c : nm t = true
  · obtain ⟨c1, c2⟩ := nm_iff.mp c
    have hL := hk.2.1 c1
    obtain ⟨v, f1, f2⟩ := S_partNamed (F := F) (G := G) (A := A) hF hd hL h5 h4 (fun i hi => ⟨(hN i hi).1, (hN i hi).2.1⟩)
    obtain ⟨v', g1, g2⟩ := M_find (F := F) (G := G) (B := B) (fr := 0) (m := np) (PN := PN) hF hL (h.1.2.2.2.1.2.1 c1) (by omega) (fun i hi => ⟨(hN i hi).1, by rw [Nat.zero_add]; exact (hN i hi).2.2⟩)
    have g1' : fM_find F G B 0 (nI np) = some v' := g1
    rw [if_pos (kind_nm.mpr c), hdr, gd_t hd, (h.1.2.2.1.2.1 c1).1, f1, bd_some, if_pos c, if_neg (show ¬ (1 : Int32) = 0 by decide), g1', bd_some]
    unfold j_R_knownPart_29
    rw [if_pos h.2.1]
    rcases f2 with ⟨q1, q2⟩ | ⟨i, q1, q2, q3⟩
    · have hv' : v' = -1 := by
        rcases g2 with ⟨z, -⟩ | ⟨j, z1, z2, -⟩
        · exact z
        · exact absurd z2 (q2 j z1)
      obtain ⟨w, w', A', B', y1, y2, y3⟩ := bad 5 (by omega) (by omega) v
      have y1' : j_R_knownPart_59 F G A v 5 = some (w, A') := y1
      rw [if_pos q1, h.1.2.2.1.1, if_pos (kind_nm.mpr c), y1', hv', if_neg (by decide)]
      exact ⟨w, w', A', B', rfl, y2, Or.inr y3⟩
    · have hv' : v' = nI i := by
        rcases g2 with ⟨-, z⟩ | ⟨j, z1, z2, z3⟩
        · exact absurd q2 (z i q1)
        · rw [z3, hu j i z1 q1 (z2.trans q2.symm)]
      obtain ⟨A', B', t', p', s1, s2, s3, s4⟩ := P_step (G := G) hF h (by omega) (by omega)
      rw [q3, if_neg (nI_m1 (by omega)), hv', if_pos (nI_pos' (by omega))]
      unfold j_R_knownPart_62 j_M_oldPart_41
      rw [if_pos h.2.1, s1, h40, g1', bd_some, bd_some, if_pos h.2.2.1, s2, bd_some, hv']
      exact ⟨_, _, A', B', rfl, rfl, Or.inl ⟨i, t', p', q1, rfl, rfl, s3, s4⟩⟩
  · rw [if_neg (fun q => c (kind_nm.mp q)), if_neg c, if_pos rfl]
    unfold j_R_knownPart_29
    obtain ⟨w, w', A', B', y1, y2, y3⟩ := bad 2 (by omega) (by omega) (-1)
    have y1' : j_R_knownPart_59 F G A (-1) 2 = some (w, A') := y1
    rw [if_pos h.2.1, if_pos rfl, h.1.2.2.1.1, if_neg (fun q => c (kind_nm.mp q)), y1']
    exact ⟨w, w', A', B', rfl, y2, Or.inr y3⟩
end LR
