/-! ONE CALL on a fresh object: those with more to them -/
theorem r_in {a M : Int32} {n : Nat} (hM : M.toInt = n) (h : ¬ a < 0 ∧ a ≤ M) : ∃ i, i < n + 1 ∧ a = nI i := by
  obtain ⟨j, hj, e⟩ := nI_of2 (n := n) hM h.1 h.2
  exact ⟨j, by omega, e⟩
theorem c_version : ∀ i, i < 2 → e22 (fN_version FU 100 SI (nI i)) (fun S => fM_version FU 100 S (nI i)) = true := by decide +kernel
theorem lay_ok : ∃ S, fN_layLeastMissed FU 100 SI (SI.1 SI.2.2.1 2) (SI.1 SI.2.2.1 1) = some S := by
  have h : (fN_layLeastMissed FU 100 SI (SI.1 SI.2.2.1 2) (SI.1 SI.2.2.1 1)).isSome = true := by decide +kernel
  exact Option.isSome_iff_exists.mp h
theorem K_version (a : Int32) : Q22 (fN_version FU 100 SI a) (fun S => fM_version FU 100 S a) := by
  by_cases ha : ¬ a < 0 ∧ a ≤ 1
  · obtain ⟨i, hi, rfl⟩ := r_in (n := 1) rfl ha
    exact e22_q (c_version i hi)
  · obtain ⟨S, hS⟩ := lay_ok
    refine ⟨-1, S, S, ?_, e_bd (m_in0 ha)⟩
    unfold fN_version
    rw [gd_t si_sc, hS, bd_some, if_neg (fun z => ha (by rw [z]; decide)), if_neg (fun z => ha (by rw [z]; decide))]
theorem c_child : ∀ i, i < 5 → ∀ j, j < 88 → e22 (fN_child FU 100 SI (nI (i + 1)) (nI j)) (fun S => fM_child FU 100 S (nI (i + 1)) (nI j)) = true := by decide +kernel
theorem K_child (a b : Int32) : Q22 (fN_child FU 100 SI a b) (fun S => fM_child FU 100 S a b) := by
  by_cases ha : ¬ a < 1 ∧ a ≤ 5
  · by_cases hb : ¬ b < 0 ∧ b ≤ 87
    · obtain ⟨j, hj, rfl⟩ := r_in (n := 87) rfl hb
      obtain ⟨i, hi, rfl⟩ := r_in (a := a) (M := 5) (n := 5) rfl ⟨fun z => ha.1 (Int32.lt_trans z (by decide)), ha.2⟩
      obtain ⟨i, rfl⟩ : ∃ k, i = k + 1 := by
        cases i with
        | zero => exact absurd (by decide) ha.1
        | succ k => exact ⟨k, rfl⟩
      exact e22_q (c_child i (by omega) j hj)
    · refine ⟨-1, sI SI 0 12 0, sI (sI SI 0 12 0) 78 68 0, ?_, ?_⟩
      · unfold fN_child
        rw [if_neg ha.1, if_neg (Int32.not_lt.mpr ha.2)]
        exact e_bd (n_key0 hb)
      · unfold fM_child
        have h1 : fM_isIn FU 100 (sI (sI SI 0 12 0) 78 68 0) a 1 5 = some 1 := by
          unfold fM_isIn
          rw [if_neg ha.1, if_neg (Int32.not_lt.mpr ha.2)]
        exact (e_on h1).trans (e_bd (m_in0 hb))
  · refine ⟨-1, sI SI 0 12 0, sI (sI SI 0 12 0) 78 68 0, ?_, e_bd (m_in0 ha)⟩
    unfold fN_child
    by_cases h1 : a < 1
    · exact if_pos h1
    · rw [if_neg h1]
      exact if_pos (Int32.not_le.mp fun z => ha ⟨h1, z⟩)
theorem c_spread : ∀ i, i < 2 → e22 (fN_spread FU 100 SI (nI (i + 1))) (fun S => fM_spread FU 100 S (nI (i + 1))) = true := by decide +kernel
theorem K_spread (a : Int32) : Q22 (fN_spread FU 100 SI a) (fun S => fM_spread FU 100 S a) := by
  by_cases h : a = 1 ∨ a = 2
  · rcases h with rfl | rfl
    · exact e22_q (c_spread 0 (by omega))
    · exact e22_q (c_spread 1 (by omega))
  · exact ⟨-1, SI, SI, e_bd (n_hand0 h), e_bd (m_hand0 h)⟩
theorem c_leaps : ∀ i, i < 2 → e22 (fN_leaps FU 100 SI (nI (i + 1))) (fun S => fM_leaps FU 100 S (nI (i + 1))) = true := by decide +kernel
theorem K_leaps (a : Int32) : Q22 (fN_leaps FU 100 SI a) (fun S => fM_leaps FU 100 S a) := by
  by_cases h : a = 1 ∨ a = 2
  · rcases h with rfl | rfl
    · exact e22_q (c_leaps 0 (by omega))
    · exact e22_q (c_leaps 1 (by omega))
  · exact ⟨-1, SI, SI, e_bd (n_hand0 h), e_bd (m_hand0 h)⟩
theorem c_busiest : ∀ i, i < 2 → e22 (fN_busiest FU 100 SI (nI (i + 1))) (fun S => fM_busiest FU 100 S (nI (i + 1))) = true := by decide +kernel
theorem K_busiest (a : Int32) : Q22 (fN_busiest FU 100 SI a) (fun S => fM_busiest FU 100 S a) := by
  by_cases h : a = 1 ∨ a = 2
  · rcases h with rfl | rfl
    · exact e22_q (c_busiest 0 (by omega))
    · exact e22_q (c_busiest 1 (by omega))
  · exact ⟨-1, SI, SI, e_bd (n_hand0 h), e_bd (m_hand0 h)⟩
theorem c_could : ∀ i, i < 2 → e22 (fN_could FU 100 SI (nI (i + 1))) (fun S => fM_could FU 100 S (nI (i + 1))) = true := by decide +kernel
theorem K_could (a : Int32) : Q22 (fN_could FU 100 SI a) (fun S => fM_could FU 100 S a) := by
  by_cases h : a = 1 ∨ a = 2
  · rcases h with rfl | rfl
    · exact e22_q (c_could 0 (by omega))
    · exact e22_q (c_could 1 (by omega))
  · exact ⟨-1, SI, SI, e_bd (n_hand0 h), e_bd (m_hand0 h)⟩
theorem c_law : ∀ i, i < 88 → e22 (fN_law FU 100 SI (nI i)) (fun S => fM_law FU 100 S (nI i)) = true := by decide +kernel
theorem K_law (a : Int32) : Q22 (fN_law FU 100 SI a) (fun S => fM_law FU 100 S a) := by
  by_cases ha : ¬ a < 0 ∧ a ≤ 87
  · obtain ⟨i, hi, rfl⟩ := r_in (n := 87) rfl ha
    exact e22_q (c_law i hi)
  · exact ⟨-1, SI, SI, e_bd (n_key0 ha), e_bd (m_in0 ha)⟩
theorem K_lies (a : Int32) : Q11 (fN_lies FU 100 SI a) (fM_lies FU 100 SI a) := by
  have e1 : SI.1 0 12 = 0 := by decide +kernel
  have e2 : SI.1 78 68 = 0 := by decide +kernel
  refine ⟨-1, ?_, e_bd (m_in0 ?_)⟩
  · unfold fN_lies
    by_cases h : a < 0
    · exact if_pos h
    · rw [if_neg h, e1, if_pos (Int32.not_lt.mp h)]
  · rw [e2]
    rintro ⟨h, h'⟩
    exact Int32.not_lt.mpr h' (m1_lt h)
theorem c_heard : ∀ i, i < 12 → ∀ j, j < 88 → ∀ k, k < 2 → e22 (fN_heard FU 100 SI (nI i) (nI j) (nI k)) (fun S => fM_heard FU 100 S (nI i) (nI j) (nI k)) = true := by decide +kernel
theorem K_heard (a b : Int32) {k : Nat} (hk : k < 2) : Q22 (fN_heard FU 100 SI a b (nI k)) (fun S => fM_heard FU 100 S a b (nI k)) := by
  by_cases ha : ¬ a < 0 ∧ a ≤ 11
  · obtain ⟨i, hi, rfl⟩ := r_beat ha
    by_cases hb : ¬ b < 0 ∧ b ≤ 87
    · obtain ⟨j, hj, rfl⟩ := r_in (n := 87) rfl hb
      exact e22_q (c_heard i hi j hj k hk)
    · have h1 : fN_isBeat FU 100 SI (nI i) = some 1 := (by decide +kernel : ∀ i, i < 12 → fN_isBeat FU 100 SI (nI i) = some 1) i hi
      have h2 : fM_isBeat FU 100 SI (nI i) = some 1 := (by decide +kernel : ∀ i, i < 12 → fM_isBeat FU 100 SI (nI i) = some 1) i hi
      exact ⟨-1, SI, SI, (e_on h1).trans (e_bd (n_key0 hb)), (e_on h2).trans (e_bd (m_in0 hb))⟩
  · exact ⟨-1, SI, SI, e_bd (n_beat0 ha), e_bd (m_beat0 si_78_46 ha)⟩
theorem K_untell (a : Int32) : Q22 (fN_untell FU 100 SI a) (fun S => fM_untell FU 100 S a) := by
  have e1 : SI.1 69 0 = 0 := by decide +kernel
  have e2 : SI.1 78 74 = 0 := by decide +kernel
  have h1 : fI_takeFromNowOn FU 100 SI a = some (0, SI) := by
    unfold fI_takeFromNowOn
    by_cases h : a < 0
    · exact if_pos h
    · rw [if_neg h, e1, if_pos (Int32.not_lt.mp h)]
  refine ⟨0, SI, SI, ?_, e_bd (m_in0 ?_)⟩
  · unfold fN_untell
    rw [h1]
    rfl
  · rw [e2]
    rintro ⟨h, h'⟩
    exact Int32.not_lt.mpr h' (m1_lt h)
theorem c_later : ∀ i, i < 1001 → e22 (fN_later FU 100 SI (nI i)) (fun S => fM_later FU 100 S (nI i)) = true := by decide +kernel
theorem K_later (a : Int32) : Q22 (fN_later FU 100 SI a) (fun S => fM_later FU 100 S a) := by
  by_cases ha : ¬ a < 0 ∧ a ≤ 1000
  · obtain ⟨i, hi, rfl⟩ := r_in (n := 1000) rfl ha
    exact e22_q (c_later i hi)
  · have h1 : fI_goOn FU 100 SI a = some (-1, SI) := by
      unfold fI_goOn
      by_cases h : a < 0
      · exact if_pos h
      · rw [if_neg h]
        exact if_pos (Int32.not_le.mp fun z => ha ⟨h, z⟩)
    refine ⟨-1, SI, SI, ?_, ?_⟩
    · unfold fN_later
      rw [h1]
      rfl
    · show fM_later FU 100 SI a = _
      unfold fM_later
      by_cases h : a < 0
      · exact if_pos h
      · rw [if_neg h]
        exact if_pos (Int32.not_le.mp fun z => ha ⟨h, z⟩)
/-- what a fresh witness counts doesn't hang on the time -/
theorem gather_k {S : St} (hS : S.1 69 0 = 0) (k : Int32) : fI_gather FU 100 S 17 k = fI_gather FU 100 S 17 0 := by
  have e : ∀ (z : Int32) (S : St), S.1 69 0 = 0 → fx2 (b_I_gather_12 FU 100 17 z) FU 0 S = some S := by
    intro z S h
    show b_I_gather_12 FU 100 17 z (fx2 _ 4999) 0 S = _
    unfold b_I_gather_12
    exact if_pos (by rw [h]; decide)
  unfold fI_gather
  simp only [lt_eq]
  rw [e k (sI (sI S 69 10 0) 69 11 0) hS, e 0 (sI (sI S 69 10 0) 69 11 0) hS]
theorem count_k (k : Int32) : fI_count FU 100 SI SI.2.2.1 k = fI_count FU 100 SI SI.2.2.1 0 := by
  unfold fI_count
  rw [show SI.2.2.1 = 17 from rfl, gather_k (by decide +kernel) k]
theorem c_sets : e22 (fN_sets FU 100 SI 0) (fun S => fM_sets FU 100 S 0) = true := by decide +kernel
theorem laySets_0 {S : St} (h74 : S.1 78 74 = 0) (h48 : S.1 78 48 = 0) (k : Int32) : ∃ S', fM_laySets FU 100 S k = some (1, S') := by
  have e1 : ∀ (kk : St → Option (Int32 × St)), fx2 (b_M_laySets_4 FU 100 k 0 kk) FU 0 S = kk S := by
    intro kk
    show b_M_laySets_4 FU 100 k 0 kk (fx2 _ 4999) 0 S = _
    unfold b_M_laySets_4
    exact if_pos (by rw [h74]; decide)
  have e2 : ∀ (kk : St → Option (Int32 × St)), fx2 (b_M_laySets_31 FU 100 k 0 kk) FU 0 S = kk (Nat.rec S (fun j x => sI x 114 (0 + j) 0) 10) := by
    intro kk
    have h := for2i (body := b_M_laySets_31 FU 100 k 0 kk) (N := 10) (k := kk) (step := fun i x => sI x 114 i 0) (fun _ _ => True)
      (fun rec a _ => by unfold b_M_laySets_31; exact if_pos (by decide))
      (fun rec a i hi _ => by
        unfold b_M_laySets_31
        rw [show (10 : Int32) = nI 10 from rfl, if_neg (nI_ge hi (by decide)), gd_t (inB_nI hi (by decide)), lt_eq, lt_eq, nI_clamp (by omega), nI_1])
      (fun _ _ _ _ => trivial) 10 0 S FU (by omega) trivial (by decide)
    exact h
  have hT : ∀ (m : Nat) (h k : Nat), h ≠ 114 → (Nat.rec S (fun j x => sI x 114 (0 + j) 0) m : St).1 h k = S.1 h k := by
    intro m h k hh
    induction m with
    | zero => rfl
    | succ m ih =>
      show (sI _ 114 (0 + m) 0).1 h k = _
      rw [← ih]
      simp [sI, hh]
  have g74 := hT 10 78 74 (by decide)
  have g48 := hT 10 78 48 (by decide)
  unfold fM_laySets
  rw [e1, e2]
  generalize (Nat.rec S (fun j x => sI x 114 (0 + j) 0) 10 : St) = T at g74 g48 ⊢
  rw [h74] at g74
  rw [h48] at g48
  refine ⟨T, ?_⟩
  show b_M_laySets_52 FU 100 k (fx3 _ 4999) 0 0 T = _
  have h3 : fx3 (b_M_laySets_52 FU 100 k) 4999 1 1 T = some (1, T) := by
    show b_M_laySets_52 FU 100 k (fx3 _ 4998) 1 1 T = _
    unfold b_M_laySets_52
    exact if_pos (by rw [g48]; decide)
  generalize fx3 (b_M_laySets_52 FU 100 k) 4999 = rec at h3 ⊢
  unfold b_M_laySets_52
  rw [if_neg (by rw [g48]; decide)]
  show b_M_laySets_68 FU 100 T k 0 0 _ (fx2 _ 4999) 1 0 = _
  unfold b_M_laySets_68
  rw [if_pos (by rw [g74]; decide)]
  unfold j_M_laySets_132
  refine (if_neg (show ¬ (1 : Int32) = 0 by decide)).trans ?_
  rw [lt_eq]
  show b_M_laySets_146 FU 100 k _ 0 _ (fx2 _ 4999) 0 T = _
  unfold b_M_laySets_146
  rw [if_pos (by rw [g48]; decide)]
  exact h3
def okQ (x : Option (Int32 × St)) (v : Int32) : Bool := match x with
  | none => false
  | some a => decide (a.1 = v) && decide (a.2.1 78 74 = 0) && decide (a.2.1 78 48 = 0)
theorem okQ_e {x : Option (Int32 × St)} {v : Int32} (h : okQ x v = true) : ∃ S, x = some (v, S) ∧ S.1 78 74 = 0 ∧ S.1 78 48 = 0 := by
  cases x with
  | none => cases h
  | some a =>
    obtain ⟨w, S⟩ := a
    simp only [okQ, Bool.and_eq_true, decide_eq_true_eq] at h
    exact ⟨S, by rw [h.1.1], h.1.2, h.2⟩
theorem K_sets (k : Int32) : Q22 (fN_sets FU 100 SI k) (fun S => fM_sets FU 100 S k) := by
  obtain ⟨S, hS, h1, h2⟩ := okQ_e (x := fN_sets FU 100 SI 0) (v := 1) (by decide +kernel)
  obtain ⟨S', hS'⟩ := laySets_0 h1 h2 k
  refine ⟨1, S, S', ?_, ?_⟩
  · rw [← hS]
    unfold fN_sets
    rw [count_k k]
  · show fM_sets FU 100 S k = _
    unfold fM_sets
    rw [hS']
    rfl
theorem K_ask (a k : Int32) : Q22 (fN_ask FU 100 SI a k) (fun S => fM_ask FU 100 S a k) := by
  by_cases ha : ¬ a < 0 ∧ a ≤ 1
  · obtain ⟨i, hi, rfl⟩ := r_in (n := 1) rfl ha
    obtain ⟨S, hS, h1, h2⟩ := okQ_e (x := fN_ask FU 100 SI (nI i) 0) (v := -1) ((by decide +kernel : ∀ i, i < 2 → okQ (fN_ask FU 100 SI (nI i) 0) (-1) = true) i hi)
    refine ⟨-1, S, S, ?_, ?_⟩
    · rw [← hS]
      unfold fN_ask
      rw [count_k k]
    · show fM_ask FU 100 S (nI i) k = _
      have h3 : fM_isIn FU 100 S (nI i) 0 1 = some 1 := by
        unfold fM_isIn
        rw [if_neg ha.1, if_neg (Int32.not_lt.mpr ha.2)]
      exact (e_on h3).trans (if_pos h2)
  · refine ⟨-1, SI, SI, ?_, e_bd (m_in0 ha)⟩
    unfold fN_ask
    by_cases h : a < 0
    · exact if_pos h
    · rw [if_neg h]
      exact if_neg fun z => ha ⟨h, z⟩
theorem c_image : ∀ i, i < 3 → e22 (fN_image FU 100 SI (nI i)) (fun S => fM_image FU 100 S (nI i)) = true := by decide +kernel
theorem m_box0 {S : St} {a : Int32} (h : ¬ (¬ a < 0 ∧ a ≤ 2)) : fM_isBox FU 100 S a = some 0 := by
  unfold fM_isBox
  by_cases h0 : a < 0
  · rw [if_pos h0]
  · rw [if_neg h0, if_pos]
    apply Int32.not_lt.mp
    intro z
    apply h
    refine ⟨h0, ?_⟩
    rw [Int32.le_iff_toInt_le]
    have z := Int32.lt_iff_toInt_lt.mp z
    have e : (3 : Int32).toInt = 3 := rfl
    have e' : (2 : Int32).toInt = 2 := rfl
    omega
theorem ge3 {a : Int32} (h0 : ¬ a < 0) (h : ¬ (¬ a < 0 ∧ a ≤ 2)) : (3 : Int32) ≤ a := by
  apply Int32.not_lt.mp
  intro z
  apply h
  refine ⟨h0, ?_⟩
  rw [Int32.le_iff_toInt_le]
  have z := Int32.lt_iff_toInt_lt.mp z
  have e : (3 : Int32).toInt = 3 := rfl
  have e' : (2 : Int32).toInt = 2 := rfl
  omega
theorem K_image (a : Int32) : Q22 (fN_image FU 100 SI a) (fun S => fM_image FU 100 S a) := by
  by_cases ha : ¬ a < 0 ∧ a ≤ 2
  · obtain ⟨i, hi, rfl⟩ := r_in (n := 2) rfl ha
    exact e22_q (c_image i hi)
  · refine ⟨-1, SI, SI, ?_, e_bd (m_box0 ha)⟩
    unfold fN_image
    by_cases h : a < 0
    · exact if_pos h
    · rw [if_neg h]
      exact if_neg (Int32.not_lt.mpr (ge3 h ha))
theorem n_kept0 {a : Int32} (ha : ¬ (¬ a < 0 ∧ a ≤ 2)) : fN_isKept FU 100 SI a = some 0 := by
  unfold fN_isKept
  by_cases h : a < 0
  · exact if_pos h
  · rw [if_neg h]
    exact if_pos (ge3 h ha)
theorem c_back : ∀ i, i < 3 → e22 (fN_back FU 100 SI (nI i)) (fun S => fM_back FU 100 S (nI i)) = true := by decide +kernel
theorem K_back (a : Int32) : Q22 (fN_back FU 100 SI a) (fun S => fM_back FU 100 S a) := by
  by_cases ha : ¬ a < 0 ∧ a ≤ 2
  · obtain ⟨i, hi, rfl⟩ := r_in (n := 2) rfl ha
    exact e22_q (c_back i hi)
  · exact ⟨-1, SI, SI, e_bd (n_kept0 ha), e_bd (m_box0 ha)⟩
theorem c_differ : ∀ i, i < 3 → e11 (fN_differ FU 100 SI (nI i)) (fM_differ FU 100 SI (nI i)) = true := by decide +kernel
theorem K_differ (a : Int32) : Q11 (fN_differ FU 100 SI a) (fM_differ FU 100 SI a) := by
  by_cases ha : ¬ a < 0 ∧ a ≤ 2
  · obtain ⟨i, hi, rfl⟩ := r_in (n := 2) rfl ha
    exact e11_q (c_differ i hi)
  · exact ⟨-1, e_bd (n_kept0 ha), e_bd (m_box0 ha)⟩
theorem c_about : ∀ i, i < 16 → e11 (fN_about FU 100 SI (nI i)) (fM_about FU 100 SI (nI i)) = true := by decide +kernel
theorem K_about (a : Int32) : Q11 (fN_about FU 100 SI a) (fM_about FU 100 SI a) := by
  by_cases ha : ¬ a < 0 ∧ a ≤ 15
  · obtain ⟨i, hi, rfl⟩ := r_in (n := 15) rfl ha
    exact e11_q (c_about i hi)
  · have hn : ∀ i : Nat, i < 16 → ¬ a = nI i := by
      intro i hi z
      subst z
      exact ha ((by decide +kernel : ∀ i, i < 16 → ¬ nI i < 0 ∧ nI i ≤ 15) i hi)
    have hr : fN_aboutTheRest FU 100 SI a = some (-1) := by
      unfold fN_aboutTheRest
      rw [if_neg (show ¬ a = 8 from hn 8 (by omega)), if_neg (show ¬ a = 9 from hn 9 (by omega)), if_neg (show ¬ a = 10 from hn 10 (by omega)), if_neg (show ¬ a = 11 from hn 11 (by omega)), if_neg (show ¬ a = 12 from hn 12 (by omega)), if_neg (show ¬ a = 13 from hn 13 (by omega)), if_neg (show ¬ a = 14 from hn 14 (by omega)), if_neg (show ¬ a = 15 from hn 15 (by omega))]
    refine ⟨-1, ?_, ?_⟩
    · unfold fN_about
      rw [if_neg (show ¬ a = 0 from hn 0 (by omega)), if_neg (show ¬ a = 1 from hn 1 (by omega)), if_neg (show ¬ a = 2 from hn 2 (by omega)), if_neg (show ¬ a = 3 from hn 3 (by omega)), if_neg (show ¬ a = 4 from hn 4 (by omega)), if_neg (show ¬ a = 5 from hn 5 (by omega)), if_neg (show ¬ a = 6 from hn 6 (by omega)), if_neg (show ¬ a = 7 from hn 7 (by omega)), hr, bd_some]
    · unfold fM_about
      rw [if_neg (show ¬ a = 0 from hn 0 (by omega)), if_neg (show ¬ a = 1 from hn 1 (by omega)), if_neg (show ¬ a = 2 from hn 2 (by omega)), if_neg (show ¬ a = 3 from hn 3 (by omega)), if_neg (show ¬ a = 4 from hn 4 (by omega)), if_neg (show ¬ a = 5 from hn 5 (by omega)), if_neg (show ¬ a = 6 from hn 6 (by omega)), if_neg (show ¬ a = 7 from hn 7 (by omega)), if_neg (show ¬ a = 8 from hn 8 (by omega)), if_neg (show ¬ a = 9 from hn 9 (by omega)), if_neg (show ¬ a = 10 from hn 10 (by omega)), if_neg (show ¬ a = 11 from hn 11 (by omega)), if_neg (show ¬ a = 12 from hn 12 (by omega)), if_neg (show ¬ a = 13 from hn 13 (by omega)), if_neg (show ¬ a = 14 from hn 14 (by omega)), if_neg (show ¬ a = 15 from hn 15 (by omega))]
