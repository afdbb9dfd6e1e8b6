/-! ONE CALL on a fresh object -/
abbrev FU : Nat := 5000
abbrev Q22 (x : Option (Int32 × St)) (y : St → Option (Int32 × St)) : Prop := ∃ v S1 S2, x = some (v, S1) ∧ y S1 = some (v, S2)
abbrev Q12 (x : Option Int32) (y : Option (Int32 × St)) : Prop := ∃ v S2, x = some v ∧ y = some (v, S2)
abbrev Q11 (x y : Option Int32) : Prop := ∃ v, x = some v ∧ y = some v
def e22 (x : Option (Int32 × St)) (y : St → Option (Int32 × St)) : Bool := match x with
  | none => false
  | some a => match y a.2 with
    | none => false
    | some b => decide (a.1 = b.1)
def e11 (x y : Option Int32) : Bool := match x with
  | none => false
  | some a => match y with
    | none => false
    | some b => decide (a = b)
theorem e22_q {x : Option (Int32 × St)} {y : St → Option (Int32 × St)} (h : e22 x y = true) : Q22 x y := by
  cases x with
  | none => cases h
  | some a =>
    obtain ⟨v, S1⟩ := a
    have h : (match y S1 with | none => false | some b => decide (v = b.1)) = true := h
    cases hy : y S1 with
    | none => rw [hy] at h; cases h
    | some b =>
      obtain ⟨w, S2⟩ := b
      rw [hy] at h
      have h : v = w := of_decide_eq_true h
      exact ⟨v, S1, S2, rfl, by rw [hy, h]⟩
theorem e11_q {x y : Option Int32} (h : e11 x y = true) : Q11 x y := by
  cases x with
  | none => cases h
  | some a =>
    cases y with
    | none => cases h
    | some b =>
      have h : a = b := of_decide_eq_true h
      exact ⟨a, rfl, by rw [h]⟩
/-- an early end -/
theorem e_bd {α : Type} {x : Option Int32} {r : Option α} {rest : Int32 → Option α} (h : x = some 0) : bd x (fun v => if v = 0 then r else rest v) = r := by
  rw [h, bd_some]; exact if_pos rfl
theorem e_on {α : Type} {x : Option Int32} {r : Option α} {rest : Int32 → Option α} (h : x = some 1) : bd x (fun v => if v = 0 then r else rest v) = rest 1 := by
  rw [h, bd_some]; exact if_neg (show ¬ (1 : Int32) = 0 by decide)
theorem m1_lt {a : Int32} (h : ¬ a < 0) : (0 : Int32) - 1 < a := Int32.lt_of_lt_of_le (by decide) (Int32.not_lt.mp h)
theorem si_17_6 : SI.1 SI.2.2.1 6 = 0 := by decide +kernel
theorem si_17_0 : SI.1 SI.2.2.1 0 = 12 := by decide +kernel
theorem si_78_48 : SI.1 78 48 = 0 := by decide +kernel
theorem si_78_46 : SI.1 78 46 = 12 := by decide +kernel
theorem si_sc : isSc SI.2.2.1 = true := by decide +kernel
theorem n_note0 (a : Int32) : fN_isNote FU 100 SI a = some 0 := by
  unfold fN_isNote
  by_cases h : a < 0
  · rw [if_pos h]
  · rw [if_neg h, gd_t si_sc, si_17_6, if_pos (Int32.not_lt.mp h)]
theorem m_note0 {S : St} (hS : S.1 78 48 = 0) (a : Int32) : fM_isNote FU 100 S a = some 0 := by
  rw [M_isNote, hS, if_pos]
  by_cases h : a < 0
  · exact Or.inl h
  · exact Or.inr (m1_lt h)
theorem n_out0 (a : Int32) : fN_isLeftOut FU 100 SI a = some 0 := by
  unfold fN_isLeftOut
  exact e_bd (n_note0 a)
theorem m_out0 (a : Int32) : fM_isOut FU 100 SI a = some 0 := by
  unfold fM_isOut
  exact e_bd (m_note0 si_78_48 a)
theorem n_beat0 {a : Int32} (h : ¬ (¬ a < 0 ∧ a ≤ 11)) : fN_isBeat FU 100 SI a = some 0 := by
  unfold fN_isBeat
  by_cases h0 : a < 0
  · rw [if_pos h0]
  · rw [if_neg h0, gd_t si_sc, si_17_0, if_pos]
    apply Int32.not_lt.mp
    intro z
    apply h
    refine ⟨h0, ?_⟩
    rw [Int32.le_iff_toInt_le]
    have z := Int32.lt_iff_toInt_lt.mp z
    have e : (12 : Int32).toInt = 12 := rfl
    have e' : (11 : Int32).toInt = 11 := rfl
    omega
theorem m_beat0 {S : St} (hS : S.1 78 46 = 12) {a : Int32} (h : ¬ (¬ a < 0 ∧ a ≤ 11)) : fM_isBeat FU 100 S a = some 0 := by
  rw [M_isBeat, hS, if_pos]
  by_cases h0 : a < 0
  · exact Or.inl h0
  · refine Or.inr ?_
    apply Int32.not_le.mp
    intro z
    exact h ⟨h0, z⟩
theorem n_hand0 {S : St} {a : Int32} (h : ¬ (a = 1 ∨ a = 2)) : fN_isHand FU 100 S a = some 0 := by
  unfold fN_isHand
  rw [if_neg (fun z => h (Or.inl z)), if_neg (fun z => h (Or.inr z))]
theorem m_hand0 {S : St} {a : Int32} (h : ¬ (a = 1 ∨ a = 2)) : fM_isHand FU 100 S a = some 0 := by
  unfold fM_isHand
  rw [if_neg (fun z => h (Or.inl z)), if_neg (fun z => h (Or.inr z))]
theorem n_key0 {S : St} {a : Int32} (h : ¬ (¬ a < 0 ∧ a ≤ 87)) : fN_isKey FU 100 S a = some 0 := by
  unfold fN_isKey
  by_cases h0 : a < 0
  · rw [if_pos h0]
  · rw [if_neg h0, if_pos (Int32.not_le.mp fun z => h ⟨h0, z⟩)]
theorem m_in0 {S : St} {a l u : Int32} (h : ¬ (¬ a < l ∧ a ≤ u)) : fM_isIn FU 100 S a l u = some 0 := by
  unfold fM_isIn
  by_cases h0 : a < l
  · rw [if_pos h0]
  · rw [if_neg h0, if_pos (Int32.not_le.mp fun z => h ⟨h0, z⟩)]
/-! the calls, as the law numbers them -/
theorem K_end (a : Int32) : Q22 (fN_end FU 100 SI a) (fun S => fM_end FU 100 S a) := by
  have e1 : SI.1 2 0 = 0 := by decide +kernel
  have e2 : SI.1 78 1 = 0 := by decide +kernel
  have e3 : (sI SI 2 0 a).1 78 1 = 0 := e2
  unfold fN_end fM_end
  by_cases h : a < 0
  · exact ⟨_, _, _, if_pos h, if_pos h⟩
  · by_cases h' : a ≤ 0
    · refine ⟨_, _, _, (if_neg h).trans ((if_pos (by rw [e1]; exact h')).trans rfl), (if_neg h).trans ((if_pos (by rw [e3]; exact h')).trans rfl)⟩
    · refine ⟨_, _, _, (if_neg h).trans (if_neg (by rw [e1]; exact h')), (if_neg h).trans (if_neg (by rw [e2]; exact h'))⟩
theorem K_score : Q22 (fN_score FU 100 SI) (fun S => fM_score FU 100 S) := e22_q (by decide +kernel)
theorem K_fault (a : Int32) : Q11 (fN_fault FU 100 SI a) (fM_fault FU 100 SI a) := by
  have e1 : SI.1 78 2 = SI.1 1 0 := by decide +kernel
  have e2 : SI.1 78 3 = SI.1 1 1 := by decide +kernel
  unfold fN_fault fM_fault
  rw [e1, e2]
  by_cases h : a = 0
  · exact ⟨_, if_pos h, if_pos h⟩
  · by_cases h' : a = 1
    · exact ⟨_, (if_neg h).trans (if_pos h'), (if_neg h).trans (if_pos h')⟩
    · exact ⟨_, (if_neg h).trans (if_neg h'), (if_neg h).trans (if_neg h')⟩
theorem K_note (a b : Int32) : Q22 (fN_note FU 100 SI a b) (fun S => fM_note FU 100 S a b) := ⟨-1, SI, SI, e_bd (n_note0 a), e_bd (m_note0 si_78_48 a)⟩
theorem K_part (a b : Int32) : Q12 (fN_part FU 100 SI a b) (fM_part FU 100 SI a b) := by
  have e1 : SI.1 SI.2.2.1 5 = 0 := by decide +kernel
  have e2 : SI.1 78 47 = 0 := by decide +kernel
  refine ⟨-1, SI, ?_, e_bd (m_in0 ?_)⟩
  · unfold fN_part
    by_cases h : a < 0
    · exact if_pos h
    · rw [if_neg h, gd_t si_sc, e1, if_neg h]
  · rw [e2]
    rintro ⟨h, h'⟩
    exact Int32.not_lt.mpr h' (m1_lt h)
theorem r_beat {a : Int32} (h : ¬ a < 0 ∧ a ≤ 11) : ∃ i, i < 12 ∧ a = nI i := by
  obtain ⟨j, hj, e⟩ := nI_of2 (n := 11) rfl h.1 h.2
  exact ⟨j, by omega, e⟩
theorem fill_ok : ∃ S, fM_fill FU 100 SI = some S ∧ S.1 78 46 = 12 := by
  have h : (match fM_fill FU 100 SI with | none => false | some S => decide (S.1 78 46 = 12)) = true := by decide +kernel
  cases hS : fM_fill FU 100 SI with
  | none => rw [hS] at h; cases h
  | some S => rw [hS] at h; exact ⟨S, rfl, of_decide_eq_true h⟩
theorem c_held : ∀ i, i < 12 → ∀ j, j < 2 → e22 (fN_held FU 100 SI (nI i) (nI (j + 1))) (fun S => fM_held FU 100 S (nI i) (nI (j + 1))) = true := by decide +kernel
theorem K_held (a b : Int32) : Q22 (fN_held FU 100 SI a b) (fun S => fM_held FU 100 S a b) := by
  obtain ⟨S, hS, h46⟩ := fill_ok
  by_cases ha : ¬ a < 0 ∧ a ≤ 11
  · by_cases hb : b = 1 ∨ b = 2
    · obtain ⟨i, hi, rfl⟩ := r_beat ha
      rcases hb with rfl | rfl
      · exact e22_q (c_held i hi 0 (by omega))
      · exact e22_q (c_held i hi 1 (by omega))
    · obtain ⟨i, hi, rfl⟩ := r_beat ha
      have h1 : fN_isBeat FU 100 SI (nI i) = some 1 := (by decide +kernel : ∀ i, i < 12 → fN_isBeat FU 100 SI (nI i) = some 1) i hi
      have h2 : fM_isBeat FU 100 S (nI i) = some 1 := by
        rw [M_isBeat, h46]
        exact (by decide +kernel : ∀ i, i < 12 → some (if nI i < 0 ∨ (12 : Int32) - 1 < nI i then (0 : Int32) else 1) = some 1) i hi
      refine ⟨-1, SI, S, (e_on h1).trans (e_bd (n_hand0 hb)), ?_⟩
      show bd (fM_fill FU 100 SI) _ = _
      rw [hS]
      exact (e_on h2).trans (e_bd (m_hand0 hb))
  · refine ⟨-1, SI, S, e_bd (n_beat0 ha), ?_⟩
    show bd (fM_fill FU 100 SI) _ = _
    rw [hS]
    exact e_bd (m_beat0 h46 ha)
theorem c_sounds : ∀ i, i < 12 → e22 (fN_sounds FU 100 SI (nI i)) (fun S => fM_sounds FU 100 S (nI i)) = true := by decide +kernel
theorem K_sounds (a : Int32) : Q22 (fN_sounds FU 100 SI a) (fun S => fM_sounds FU 100 S a) := by
  by_cases ha : ¬ a < 0 ∧ a ≤ 11
  · obtain ⟨i, hi, rfl⟩ := r_beat ha
    exact e22_q (c_sounds i hi)
  · exact ⟨-1, SI, SI, e_bd (n_beat0 ha), e_bd (m_beat0 si_78_46 ha)⟩
theorem c_clash : ∀ i, i < 12 → e22 (fN_clash FU 100 SI (nI i)) (fun S => fM_clash FU 100 S (nI i)) = true := by decide +kernel
theorem K_clash (a : Int32) : Q22 (fN_clash FU 100 SI a) (fun S => fM_clash FU 100 S a) := by
  by_cases ha : ¬ a < 0 ∧ a ≤ 11
  · obtain ⟨i, hi, rfl⟩ := r_beat ha
    exact e22_q (c_clash i hi)
  · obtain ⟨S, hS, h46⟩ := fill_ok
    refine ⟨-1, SI, S, e_bd (n_beat0 ha), ?_⟩
    show bd (fM_fill FU 100 SI) _ = _
    rw [hS]
    exact e_bd (m_beat0 h46 ha)
theorem K_give (a b : Int32) : Q22 (fN_give FU 100 SI a b) (fun S => fM_give FU 100 S a b) := ⟨-1, SI, SI, e_bd (n_note0 a), e_bd (m_note0 si_78_48 a)⟩
theorem K_shift (a b : Int32) : Q22 (fN_shift FU 100 SI a b) (fun S => fM_shift FU 100 S a b) := ⟨-1, SI, SI, e_bd (n_note0 a), e_bd (m_note0 si_78_48 a)⟩
theorem K_louder (a b : Int32) : Q22 (fN_louder FU 100 SI a b) (fun S => fM_louder FU 100 S a b) := ⟨-1, SI, SI, e_bd (n_note0 a), e_bd (m_note0 si_78_48 a)⟩
theorem K_last (a b : Int32) : Q22 (fN_last FU 100 SI a b) (fun S => fM_last FU 100 S a b) := ⟨-1, SI, SI, e_bd (n_note0 a), e_bd (m_note0 si_78_48 a)⟩
theorem c_pedal : ∀ i, i < 12 → e22 (fN_pedal FU 100 SI (nI i)) (fun S => fM_pedal FU 100 S (nI i)) = true := by decide +kernel
theorem K_pedal (a : Int32) : Q22 (fN_pedal FU 100 SI a) (fun S => fM_pedal FU 100 S a) := by
  by_cases ha : ¬ a < 0 ∧ a ≤ 11
  · obtain ⟨i, hi, rfl⟩ := r_beat ha
    exact e22_q (c_pedal i hi)
  · exact ⟨-1, SI, SI, e_bd (n_beat0 ha), e_bd (m_beat0 si_78_46 ha)⟩
theorem K_undo : Q22 (fN_undo FU 100 SI) (fun S => fM_undo FU 100 S) := e22_q (by decide +kernel)
theorem K_redo : Q22 (fN_redo FU 100 SI) (fun S => fM_redo FU 100 S) := e22_q (by decide +kernel)
theorem K_clashes : Q22 (fN_clashes FU 100 SI) (fun S => fM_clashes FU 100 S) := e22_q (by decide +kernel)
theorem K_loss : Q22 (fN_loss FU 100 SI) (fun S => fM_loss FU 100 S) := e22_q (by decide +kernel)
theorem K_blur : Q22 (fN_blur FU 100 SI) (fun S => fM_blur FU 100 S) := e22_q (by decide +kernel)
theorem c_open : ∀ i, i < 12 → e22 (fN_open FU 100 SI (nI i)) (fun S => fM_open FU 100 S (nI i)) = true := by decide +kernel
theorem K_open (a : Int32) : Q22 (fN_open FU 100 SI a) (fun S => fM_open FU 100 S a) := by
  by_cases ha : ¬ a < 0 ∧ a ≤ 11
  · obtain ⟨i, hi, rfl⟩ := r_beat ha
    exact e22_q (c_open i hi)
  · exact ⟨-1, SI, SI, e_bd (n_beat0 ha), e_bd (m_beat0 si_78_46 ha)⟩
theorem K_lost : Q22 (fN_lost FU 100 SI) (fun S => fM_lost FU 100 S) := e22_q (by decide +kernel)
theorem K_gaps : Q22 (fN_gaps FU 100 SI) (fun S => fM_gaps FU 100 S) := e22_q (by decide +kernel)
theorem K_thickest : Q22 (fN_thickest FU 100 SI) (fun S => fM_thickest FU 100 S) := e22_q (by decide +kernel)
theorem K_dearest : Q22 (fN_dearest FU 100 SI) (fun S => fM_dearest FU 100 S) := e22_q (by decide +kernel)
theorem K_easier (a : Int32) : Q22 (fN_easier FU 100 SI a) (fun S => fM_easier FU 100 S a) := ⟨-1, SI, SI, e_bd (n_note0 a), e_bd (m_note0 si_78_48 a)⟩
theorem K_forbids (a b : Int32) : Q22 (fN_forbids FU 100 SI a b) (fun S => fM_forbids FU 100 S a b) := ⟨-1, SI, SI, e_bd (n_out0 a), e_bd (m_out0 a)⟩
theorem K_giveway (a b c : Int32) : Q22 (fN_giveway FU 100 SI a b c) (fun S => fM_giveway FU 100 S a b c) := ⟨-1, SI, SI, e_bd (n_out0 a), e_bd (m_out0 a)⟩
theorem K_letin (a b : Int32) : Q22 (fN_letin FU 100 SI a b) (fun S => fM_letin FU 100 S a b) := ⟨-100, SI, SI, e_bd (n_out0 a), e_bd (m_out0 a)⟩
theorem K_sure (a b : Int32) : Q22 (fN_sure FU 100 SI a b) (fun S => fM_sure FU 100 S a b) := ⟨-1, SI, SI, e_bd (n_note0 a), e_bd (m_note0 si_78_48 a)⟩
