/-! PEDALS on a fresh object: the reference's row of all sets -/
theorem K_feed (a b c d e : Int32) : Q22 (fN_feed FU 100 SI a b c d e) (fun S => fM_feed FU 100 S a b c d e) := by
  obtain ⟨S1, h1, -, k1⟩ := N_feed (F := FU) (G := 100) (by decide) (S := SI) (n := 0) (by decide +kernel) (by omega) a b c d e
  have h0 : S1.1 78 1 = nI 0 := by
    rw [k1.2.1 78 (by decide) (by decide)]
    decide +kernel
  obtain ⟨S2, h2, -, -⟩ := M_feed (F := FU) (G := 100) (by decide) h0 (by omega) a b c d e
  exact ⟨_, S1, S2, h1, h2⟩
theorem cnt_le (p : Nat → Bool) : ∀ n, cnt p n ≤ n
  | 0 => Nat.le_refl 0
  | n + 1 => by
    have := cnt_le p n
    rw [cnt]
    cases p n <;> simp <;> omega
theorem ped_loop {F G : Nat} (hF : 12 < F) {z1 z2 z3 : Int32} {kk : Int32 → St → Option (Int32 × St)} {S : St} (hS : S.1 78 46 = 12) : ∀ (n s f : Nat), s + n = 4096 → n < f → fx3 (b_M_pedals_33 F G z1 z2 z3 kk) f 0 (nI s) S = kk 0 S
  | 0, s, f, h, hf => by
    obtain ⟨g, rfl⟩ : ∃ g, f = g + 1 := ⟨f - 1, by omega⟩
    obtain rfl : s = 4096 := by omega
    show b_M_pedals_33 F G z1 z2 z3 kk (fx3 _ g) 0 (nI 4096) S = _
    unfold b_M_pedals_33
    exact if_pos (by rw [hS]; decide)
  | n + 1, s, f, h, hf => by
    obtain ⟨g, rfl⟩ : ∃ g, f = g + 1 := ⟨f - 1, by omega⟩
    show b_M_pedals_33 F G z1 z2 z3 kk (fx3 _ g) 0 (nI s) S = _
    have ih := ped_loop (G := G) hF (z1 := z1) (z2 := z2) (z3 := z3) (kk := kk) hS n (s + 1) g (by omega) (by omega)
    generalize fx3 (b_M_pedals_33 F G z1 z2 z3 kk) g = rec at ih ⊢
    unfold b_M_pedals_33
    rw [if_neg (by rw [hS, show (1 : Int32) <<< ((12 : Int32) &&& 31) = nI 4096 from by decide +kernel]; exact nI_ge (by omega) (by decide)), if_neg (by decide), M_members hF, bd_some, M_members hF, bd_some]
    rw [if_neg, lt_eq, nI_1]
    · exact ih
    · have h0 : cnt (bt 0) 12 = 0 := by decide +kernel
      rw [h0]
      exact nI_pos (by have := cnt_le (bt (nI s)) 12; omega)
def pchk (x : Option (Int32 × St)) : Bool := match x with
  | none => false
  | some a => decide (a.1 = 0) && match fM_fill FU 100 a.2 with
    | none => false
    | some S5 => match fM_given FU 100 S5 1 with
      | none => false
      | some l => match fM_given FU 100 S5 2 with
        | none => false
        | some r => decide (S5.1 78 46 = 12) && match fM_layHold FU 100 (sI S5 101 (40 : Int32).toNatClampNeg 0) with
          | none => false
          | some T => decide (T.1 78 46 = 12) && decide (fM_canBePlayed FU 100 T l r (T.1 78 50) (T.1 78 49) = some 1)
theorem pchk_e {x : Option (Int32 × St)} (h : pchk x = true) : ∃ S1 S5 l r T, x = some (0, S1) ∧ fM_fill FU 100 S1 = some S5 ∧ fM_given FU 100 S5 1 = some l ∧ fM_given FU 100 S5 2 = some r ∧ S5.1 78 46 = 12 ∧ fM_layHold FU 100 (sI S5 101 (40 : Int32).toNatClampNeg 0) = some T ∧ T.1 78 46 = 12 ∧ fM_canBePlayed FU 100 T l r (T.1 78 50) (T.1 78 49) = some 1 := by
  cases x with
  | none => cases h
  | some a =>
    obtain ⟨v, S1⟩ := a
    simp only [pchk, Bool.and_eq_true, decide_eq_true_eq] at h
    obtain ⟨h0, h⟩ := h
    cases h1 : fM_fill FU 100 S1 with
    | none => rw [h1] at h; cases h
    | some S5 =>
      rw [h1] at h
      simp only at h
      cases h2 : fM_given FU 100 S5 1 with
      | none => rw [h2] at h; cases h
      | some l =>
        rw [h2] at h
        simp only at h
        cases h3 : fM_given FU 100 S5 2 with
        | none => rw [h3] at h; cases h
        | some r =>
          rw [h3] at h
          simp only [Bool.and_eq_true, decide_eq_true_eq] at h
          obtain ⟨h4, h⟩ := h
          cases h5 : fM_layHold FU 100 (sI S5 101 (40 : Int32).toNatClampNeg 0) with
          | none => rw [h5] at h; cases h
          | some T =>
            rw [h5] at h
            simp only [Bool.and_eq_true, decide_eq_true_eq] at h
            exact ⟨S1, S5, l, r, T, by rw [h0], h1, h2, h3, h4, h5, h.1, h.2⟩
theorem c_pedals : ∀ i, i < 2 → pchk (fN_pedals FU 100 SI (nI i)) = true := by decide +kernel
theorem K_pedals (a : Int32) : Q22 (fN_pedals FU 100 SI a) (fun S => fM_pedals FU 100 S a) := by
  by_cases ha : ¬ a < 0 ∧ a ≤ 1
  · obtain ⟨i, hi, rfl⟩ := r_in (n := 1) rfl ha
    obtain ⟨S1, S5, l, r, T, h1, h2, h3, h4, h5, h6, h7, h8⟩ := pchk_e (c_pedals i hi)
    refine ⟨0, S1, T, h1, ?_⟩
    show fM_pedals FU 100 S1 (nI i) = _
    have hin : fM_isIn FU 100 S1 (nI i) 0 1 = some 1 := by
      unfold fM_isIn
      rw [if_neg ha.1, if_neg (Int32.not_lt.mpr ha.2)]
    refine (e_on hin).trans ?_
    rw [h2, bd_some, h3, bd_some, h4, bd_some]
    have hl := ped_loop (F := FU) (G := 100) (by decide) (z1 := nI i) (z2 := l) (z3 := r) (kk := fun v31 S32 => if 0 ≤ v31 then if nI i = 0 then bd (fM_members FU 100 S32 v31) fun v36 => some (v36, S32) else some (v31, S32) else some ((-1 : Int32), S32)) h7 4095 1 4999 (by omega) (by omega)
    show b_M_pedals_33 FU 100 (nI i) l r _ (fx3 _ 4999) (-1) 0 S5 = _
    generalize hrec : fx3 (b_M_pedals_33 FU 100 (nI i) l r (fun v31 S32 => if 0 ≤ v31 then if nI i = 0 then bd (fM_members FU 100 S32 v31) fun v36 => some (v36, S32) else some (v31, S32) else some ((-1 : Int32), S32))) 4999 = rec at hl ⊢
    unfold b_M_pedals_33
    rw [if_neg (by rw [h5]; decide), if_pos (by decide)]
    unfold j_M_pedals_65
    rw [gd_t (by decide), lt_eq, h6, bd_some, h8, bd_some, if_neg (by decide), lt_eq]
    refine hl.trans ?_
    rw [if_pos (by decide)]
    by_cases hz : nI i = 0
    · rw [if_pos hz, M_members (by decide), bd_some, show cnt (bt 0) 12 = 0 from by decide +kernel]
      rfl
    · rw [if_neg hz]
  · refine ⟨-1, SI, SI, ?_, e_bd (m_in0 ha)⟩
    unfold fN_pedals
    by_cases h : a < 0
    · exact if_pos h
    · rw [if_neg h]
      exact if_neg fun z => ha ⟨h, z⟩
