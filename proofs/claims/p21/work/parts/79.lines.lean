/-! LINES: which one it is -/
section LT
variable {F G d np nn : Nat} {PN NN : Nat → List Nat} {A0 B0 A1 B1 A B : St} {b : Nat → Nat} {n : Nat} {t : Tk} {p : Nat}
theorem wd_one {k w : Nat} (h : wd t k = true) (hne : w ≠ k) : ¬ wd t w = true := by
  simp only [wd, Bool.and_eq_true, beq_iff_eq] at h ⊢
  omega
theorem c_0 (h : TkM B t) (hk : TkOk t) (hn : ¬ (wd t 0 = true ∧ (B.1 78 53) = 0)) : fM_readLine F G B = j_M_readLine_34 F G B := by
  unfold fM_readLine
  rw [M_isWord (w := 0) (K := 422607680627) (by decide) h hk rfl, bd_some]
  by_cases c : wd t 0 = true
  · rw [if_pos c, if_neg (show ¬ (1 : Int32) = 0 by decide)]
    by_cases e : (B.1 78 53) = 0
    · exact absurd ⟨c, e⟩ hn
    · rw [if_neg e]
  · rw [if_neg c, if_pos rfl]
theorem c_1 (h : TkM B t) (hk : TkOk t) (hn : ¬ (wd t 1 = true ∧ ¬ (4 : Int32) ≤ (B.1 78 40))) : j_M_readLine_34 F G B = j_M_readLine_59 F G B := by
  unfold j_M_readLine_34
  rw [M_isWord (w := 1) (K := 1885434484) (by decide) h hk rfl, bd_some]
  by_cases c : wd t 1 = true
  · rw [if_pos c, if_neg (show ¬ (1 : Int32) = 0 by decide)]
    by_cases e : (4 : Int32) ≤ (B.1 78 40)
    · rw [if_pos e]
    · exact absurd ⟨c, e⟩ hn
  · rw [if_neg c, if_pos rfl]
theorem c_2 (h : TkM B t) (hk : TkOk t) (hn : ¬ (wd t 2 = true ∧ ¬ (10 : Int32) ≤ (B.1 78 41))) : j_M_readLine_59 F G B = j_M_readLine_85 F G B := by
  unfold j_M_readLine_59
  rw [M_isWord (w := 2) (K := 1852798053) (by decide) h hk rfl, bd_some]
  by_cases c : wd t 2 = true
  · rw [if_pos c, if_neg (show ¬ (1 : Int32) = 0 by decide)]
    by_cases e : (10 : Int32) ≤ (B.1 78 41)
    · rw [if_pos e]
    · exact absurd ⟨c, e⟩ hn
  · rw [if_neg c, if_pos rfl]
theorem c_3 (h : TkM B t) (hk : TkOk t) (hn : ¬ (wd t 3 = true ∧ (B.1 78 24) = 0)) : j_M_readLine_85 F G B = j_M_readLine_109 F G B := by
  unfold j_M_readLine_85
  rw [M_isWord (w := 3) (K := 120299675936100) (by decide) h hk rfl, bd_some]
  by_cases c : wd t 3 = true
  · rw [if_pos c, if_neg (show ¬ (1 : Int32) = 0 by decide)]
    by_cases e : (B.1 78 24) = 0
    · exact absurd ⟨c, e⟩ hn
    · rw [if_neg e]
  · rw [if_neg c, if_pos rfl]
theorem c_4 (h : TkM B t) (hk : TkOk t) (hn : ¬ (wd t 4 = true ∧ (B.1 78 54) = 0)) : j_M_readLine_109 F G B = j_M_readLine_148 F G B := by
  unfold j_M_readLine_109
  rw [M_isWord (w := 4) (K := 1936744814) (by decide) h hk rfl, bd_some]
  by_cases c : wd t 4 = true
  · rw [if_pos c, if_neg (show ¬ (1 : Int32) = 0 by decide)]
    by_cases e : (B.1 78 54) = 0
    · exact absurd ⟨c, e⟩ hn
    · rw [if_neg e]
  · rw [if_neg c, if_pos rfl]
theorem c_5 (h : TkM B t) (hk : TkOk t) (hn : ¬ (wd t 5 = true ∧ (B.1 78 55) = 0)) : j_M_readLine_148 F G B = j_M_readLine_186 F G B := by
  unfold j_M_readLine_148
  rw [M_isWord (w := 5) (K := 28826370526507635) (by decide) h hk rfl, bd_some]
  by_cases c : wd t 5 = true
  · rw [if_pos c, if_neg (show ¬ (1 : Int32) = 0 by decide)]
    by_cases e : (B.1 78 55) = 0
    · exact absurd ⟨c, e⟩ hn
    · rw [if_neg e]
  · rw [if_neg c, if_pos rfl]
theorem c_6 (h : TkM B t) (hk : TkOk t) (hn : ¬ (wd t 6 = true ∧ (B.1 78 56) = 0)) : j_M_readLine_186 F G B = j_M_readLine_225 F G B := by
  unfold j_M_readLine_186
  rw [M_isWord (w := 6) (K := 1818583408) (by decide) h hk rfl, bd_some]
  by_cases c : wd t 6 = true
  · rw [if_pos c, if_neg (show ¬ (1 : Int32) = 0 by decide)]
    by_cases e : (B.1 78 56) = 0
    · exact absurd ⟨c, e⟩ hn
    · rw [if_neg e]
  · rw [if_neg c, if_pos rfl]
theorem c_7 (h : TkM B t) (hk : TkOk t) (hn : ¬ (wd t 7 = true ∧ (B.1 78 57) = 0)) : j_M_readLine_225 F G B = j_M_readLine_264 F G B := by
  unfold j_M_readLine_225
  rw [M_isWord (w := 7) (K := 6644082) (by decide) h hk rfl, bd_some]
  by_cases c : wd t 7 = true
  · rw [if_pos c, if_neg (show ¬ (1 : Int32) = 0 by decide)]
    by_cases e : (B.1 78 57) = 0
    · exact absurd ⟨c, e⟩ hn
    · rw [if_neg e]
  · rw [if_neg c, if_pos rfl]
theorem g_0 (h : TkM B t) (hk : TkOk t) (c : wd t 0 = true) (e : (B.1 78 53) = 0) : fM_readLine F G B = bd2 (fM_told F G B 422607680627 1 12) fun v6 S7 => lt (sI S7 78 39 v6) fun S8 => j_M_readLine_269 F G S8 := by
  unfold fM_readLine
  rw [M_isWord (w := 0) (K := 422607680627) (by decide) h hk rfl, bd_some, if_pos c, if_neg (show ¬ (1 : Int32) = 0 by decide), if_pos e]
theorem g_1 (h : TkM B t) (hk : TkOk t) (c : wd t 1 = true) (e : ¬ (4 : Int32) ≤ (B.1 78 40)) : j_M_readLine_34 F G B = bd (fM_readPart F G B) fun S15 => j_M_readLine_269 F G S15 := by
  unfold j_M_readLine_34
  rw [M_isWord (w := 1) (K := 1885434484) (by decide) h hk rfl, bd_some, if_pos c, if_neg (show ¬ (1 : Int32) = 0 by decide), if_neg e]
theorem g_2 (h : TkM B t) (hk : TkOk t) (c : wd t 2 = true) (e : ¬ (10 : Int32) ≤ (B.1 78 41)) : j_M_readLine_59 F G B = bd (fM_readNote F G B) fun S21 => j_M_readLine_269 F G S21 := by
  unfold j_M_readLine_59
  rw [M_isWord (w := 2) (K := 1852798053) (by decide) h hk rfl, bd_some, if_pos c, if_neg (show ¬ (1 : Int32) = 0 by decide), if_neg e]
theorem g_3 (h : TkM B t) (hk : TkOk t) (c : wd t 3 = true) (e : (B.1 78 24) = 0) : j_M_readLine_85 F G B = bd (fM_formula F G B) fun S27 => j_M_readLine_269 F G S27 := by
  unfold j_M_readLine_85
  rw [M_isWord (w := 3) (K := 120299675936100) (by decide) h hk rfl, bd_some, if_pos c, if_neg (show ¬ (1 : Int32) = 0 by decide), if_pos e]
theorem g_4 (h : TkM B t) (hk : TkOk t) (c : wd t 4 = true) (e : (B.1 78 54) = 0) : j_M_readLine_109 F G B = lt (sI B 78 54 (1 : Int32)) fun S32 => bd2 (fM_told F G S32 1936744814 0 87) fun v35 S36 => lt (sI S36 78 42 v35) fun S37 => j_M_readLine_269 F G S37 := by
  unfold j_M_readLine_109
  rw [M_isWord (w := 4) (K := 1936744814) (by decide) h hk rfl, bd_some, if_pos c, if_neg (show ¬ (1 : Int32) = 0 by decide), if_pos e]
theorem g_5 (h : TkM B t) (hk : TkOk t) (c : wd t 5 = true) (e : (B.1 78 55) = 0) : j_M_readLine_148 F G B = lt (sI B 78 55 (1 : Int32)) fun S32 => bd2 (fM_told F G S32 28826370526507635 1 5) fun v35 S36 => lt (sI S36 78 43 v35) fun S37 => j_M_readLine_269 F G S37 := by
  unfold j_M_readLine_148
  rw [M_isWord (w := 5) (K := 28826370526507635) (by decide) h hk rfl, bd_some, if_pos c, if_neg (show ¬ (1 : Int32) = 0 by decide), if_pos e]
theorem g_6 (h : TkM B t) (hk : TkOk t) (c : wd t 6 = true) (e : (B.1 78 56) = 0) : j_M_readLine_186 F G B = lt (sI B 78 56 (1 : Int32)) fun S32 => bd2 (fM_told F G S32 1818583408 0 87) fun v35 S36 => lt (sI S36 78 44 v35) fun S37 => j_M_readLine_269 F G S37 := by
  unfold j_M_readLine_186
  rw [M_isWord (w := 6) (K := 1818583408) (by decide) h hk rfl, bd_some, if_pos c, if_neg (show ¬ (1 : Int32) = 0 by decide), if_pos e]
theorem g_7 (h : TkM B t) (hk : TkOk t) (c : wd t 7 = true) (e : (B.1 78 57) = 0) : j_M_readLine_225 F G B = lt (sI B 78 57 (1 : Int32)) fun S32 => bd2 (fM_told F G S32 6644082 0 9) fun v35 S36 => lt (sI S36 78 45 v35) fun S37 => j_M_readLine_269 F G S37 := by
  unfold j_M_readLine_225
  rw [M_isWord (w := 7) (K := 6644082) (by decide) h hk rfl, bd_some, if_pos c, if_neg (show ¬ (1 : Int32) = 0 by decide), if_pos e]
theorem m_0 (h : TkM B t) (hk : TkOk t) (c : wd t 0 = true) (e : (B.1 78 53) = 0) : fM_readLine F G B = bd2 (fM_told F G B 422607680627 1 12) fun v6 S7 => lt (sI S7 78 39 v6) fun S8 => j_M_readLine_269 F G S8 := by
  rw [g_0 h hk c e]
theorem m_1 (h : TkM B t) (hk : TkOk t) (c : wd t 1 = true) (e : ¬ (4 : Int32) ≤ (B.1 78 40)) : fM_readLine F G B = bd (fM_readPart F G B) fun S15 => j_M_readLine_269 F G S15 := by
  rw [c_0 h hk (fun q => absurd q.1 (wd_one c (by decide))), g_1 h hk c e]
theorem m_2 (h : TkM B t) (hk : TkOk t) (c : wd t 2 = true) (e : ¬ (10 : Int32) ≤ (B.1 78 41)) : fM_readLine F G B = bd (fM_readNote F G B) fun S21 => j_M_readLine_269 F G S21 := by
  rw [c_0 h hk (fun q => absurd q.1 (wd_one c (by decide))), c_1 h hk (fun q => absurd q.1 (wd_one c (by decide))), g_2 h hk c e]
theorem m_3 (h : TkM B t) (hk : TkOk t) (c : wd t 3 = true) (e : (B.1 78 24) = 0) : fM_readLine F G B = bd (fM_formula F G B) fun S27 => j_M_readLine_269 F G S27 := by
  rw [c_0 h hk (fun q => absurd q.1 (wd_one c (by decide))), c_1 h hk (fun q => absurd q.1 (wd_one c (by decide))), c_2 h hk (fun q => absurd q.1 (wd_one c (by decide))), g_3 h hk c e]
theorem m_4 (h : TkM B t) (hk : TkOk t) (c : wd t 4 = true) (e : (B.1 78 54) = 0) : fM_readLine F G B = lt (sI B 78 54 (1 : Int32)) fun S32 => bd2 (fM_told F G S32 1936744814 0 87) fun v35 S36 => lt (sI S36 78 42 v35) fun S37 => j_M_readLine_269 F G S37 := by
  rw [c_0 h hk (fun q => absurd q.1 (wd_one c (by decide))), c_1 h hk (fun q => absurd q.1 (wd_one c (by decide))), c_2 h hk (fun q => absurd q.1 (wd_one c (by decide))), c_3 h hk (fun q => absurd q.1 (wd_one c (by decide))), g_4 h hk c e]
theorem m_5 (h : TkM B t) (hk : TkOk t) (c : wd t 5 = true) (e : (B.1 78 55) = 0) : fM_readLine F G B = lt (sI B 78 55 (1 : Int32)) fun S32 => bd2 (fM_told F G S32 28826370526507635 1 5) fun v35 S36 => lt (sI S36 78 43 v35) fun S37 => j_M_readLine_269 F G S37 := by
  rw [c_0 h hk (fun q => absurd q.1 (wd_one c (by decide))), c_1 h hk (fun q => absurd q.1 (wd_one c (by decide))), c_2 h hk (fun q => absurd q.1 (wd_one c (by decide))), c_3 h hk (fun q => absurd q.1 (wd_one c (by decide))), c_4 h hk (fun q => absurd q.1 (wd_one c (by decide))), g_5 h hk c e]
theorem m_6 (h : TkM B t) (hk : TkOk t) (c : wd t 6 = true) (e : (B.1 78 56) = 0) : fM_readLine F G B = lt (sI B 78 56 (1 : Int32)) fun S32 => bd2 (fM_told F G S32 1818583408 0 87) fun v35 S36 => lt (sI S36 78 44 v35) fun S37 => j_M_readLine_269 F G S37 := by
  rw [c_0 h hk (fun q => absurd q.1 (wd_one c (by decide))), c_1 h hk (fun q => absurd q.1 (wd_one c (by decide))), c_2 h hk (fun q => absurd q.1 (wd_one c (by decide))), c_3 h hk (fun q => absurd q.1 (wd_one c (by decide))), c_4 h hk (fun q => absurd q.1 (wd_one c (by decide))), c_5 h hk (fun q => absurd q.1 (wd_one c (by decide))), g_6 h hk c e]
theorem m_7 (h : TkM B t) (hk : TkOk t) (c : wd t 7 = true) (e : (B.1 78 57) = 0) : fM_readLine F G B = lt (sI B 78 57 (1 : Int32)) fun S32 => bd2 (fM_told F G S32 6644082 0 9) fun v35 S36 => lt (sI S36 78 45 v35) fun S37 => j_M_readLine_269 F G S37 := by
  rw [c_0 h hk (fun q => absurd q.1 (wd_one c (by decide))), c_1 h hk (fun q => absurd q.1 (wd_one c (by decide))), c_2 h hk (fun q => absurd q.1 (wd_one c (by decide))), c_3 h hk (fun q => absurd q.1 (wd_one c (by decide))), c_4 h hk (fun q => absurd q.1 (wd_one c (by decide))), c_5 h hk (fun q => absurd q.1 (wd_one c (by decide))), c_6 h hk (fun q => absurd q.1 (wd_one c (by decide))), g_7 h hk c e]
theorem m_no (h : TkM B t) (hk : TkOk t) (n0 : ¬ (wd t 0 = true ∧ (B.1 78 53) = 0)) (n1 : ¬ (wd t 1 = true ∧ ¬ (4 : Int32) ≤ (B.1 78 40))) (n2 : ¬ (wd t 2 = true ∧ ¬ (10 : Int32) ≤ (B.1 78 41))) (n3 : ¬ (wd t 3 = true ∧ (B.1 78 24) = 0)) (n4 : ¬ (wd t 4 = true ∧ (B.1 78 54) = 0)) (n5 : ¬ (wd t 5 = true ∧ (B.1 78 55) = 0)) (n6 : ¬ (wd t 6 = true ∧ (B.1 78 56) = 0)) (n7 : ¬ (wd t 7 = true ∧ (B.1 78 57) = 0)) : fM_readLine F G B = j_M_readLine_264 F G B := by
  rw [c_0 h hk n0, c_1 h hk n1, c_2 h hk n2, c_3 h hk n3, c_4 h hk n4, c_5 h hk n5, c_6 h hk n6, c_7 h hk n7]
/-! which lines there were -/
theorem bt_set {x : Int32} {k w : Nat} (hk : k < 32) (hw : w < 32) : bt (x ||| (1 <<< (nI k &&& 31))) w = (bt x w || decide (w = k)) := by rw [bt_or, bt_one hk hw]
theorem set_ne {x : Int32} {k : Nat} (hk : k < 32) : x ||| (1 <<< (nI k &&& 31)) ≠ 0 := by
  intro q
  have := bt_set (x := x) hk hk
  rw [q, bt_0] at this
  simp at this
theorem Bq_lo {k : Nat} (hk : k < 3) {x : Int32} (h : Bg A B) (hx : x = (A.1 1 4) ||| (1 <<< (nI k &&& 31))) : Bq (sI A 1 4 x) B := by
  obtain ⟨-, h3, h4, h5, h6, h7⟩ := h
  unfold Bq
  rw [sI_self, hx]
  refine ⟨set_ne (by omega), ?_, ?_, ?_, ?_, ?_⟩
  · rw [bt_set (by omega) (by omega), show decide (3 = k) = false by simp; omega, Bool.or_false]; exact h3
  · rw [bt_set (by omega) (by omega), show decide (4 = k) = false by simp; omega, Bool.or_false]; exact h4
  · rw [bt_set (by omega) (by omega), show decide (5 = k) = false by simp; omega, Bool.or_false]; exact h5
  · rw [bt_set (by omega) (by omega), show decide (6 = k) = false by simp; omega, Bool.or_false]; exact h6
  · rw [bt_set (by omega) (by omega), show decide (7 = k) = false by simp; omega, Bool.or_false]; exact h7
theorem Bq_3 {x : Int32} (h : Bg A B) (hx : x = (A.1 1 4) ||| (1 <<< (nI 3 &&& 31))) : Bq (sI A 1 4 x) (sI B 78 24 1) := by
  obtain ⟨-, h3, h4, h5, h6, h7⟩ := h
  unfold Bq
  rw [sI_self (S := A), hx]
  refine ⟨set_ne (by omega), ?_, ?_, ?_, ?_, ?_⟩
  · rw [bt_set (by omega) (by omega), sI_self]; simp
  · rw [bt_set (by omega) (by omega), show decide (4 = 3) = false by decide, Bool.or_false, sI_at, if_neg (by omega)]; exact h4
  · rw [bt_set (by omega) (by omega), show decide (5 = 3) = false by decide, Bool.or_false, sI_at, if_neg (by omega)]; exact h5
  · rw [bt_set (by omega) (by omega), show decide (6 = 3) = false by decide, Bool.or_false, sI_at, if_neg (by omega)]; exact h6
  · rw [bt_set (by omega) (by omega), show decide (7 = 3) = false by decide, Bool.or_false, sI_at, if_neg (by omega)]; exact h7
theorem Bq_4 {x : Int32} (h : Bg A B) (hx : x = (A.1 1 4) ||| (1 <<< (nI 4 &&& 31))) : Bq (sI A 1 4 x) (sI B 78 54 1) := by
  obtain ⟨-, h3, h4, h5, h6, h7⟩ := h
  unfold Bq
  rw [sI_self (S := A), hx]
  refine ⟨set_ne (by omega), ?_, ?_, ?_, ?_, ?_⟩
  · rw [bt_set (by omega) (by omega), show decide (3 = 4) = false by decide, Bool.or_false, sI_at, if_neg (by omega)]; exact h3
  · rw [bt_set (by omega) (by omega), sI_self]; simp
  · rw [bt_set (by omega) (by omega), show decide (5 = 4) = false by decide, Bool.or_false, sI_at, if_neg (by omega)]; exact h5
  · rw [bt_set (by omega) (by omega), show decide (6 = 4) = false by decide, Bool.or_false, sI_at, if_neg (by omega)]; exact h6
  · rw [bt_set (by omega) (by omega), show decide (7 = 4) = false by decide, Bool.or_false, sI_at, if_neg (by omega)]; exact h7
theorem Bq_5 {x : Int32} (h : Bg A B) (hx : x = (A.1 1 4) ||| (1 <<< (nI 5 &&& 31))) : Bq (sI A 1 4 x) (sI B 78 55 1) := by
  obtain ⟨-, h3, h4, h5, h6, h7⟩ := h
  unfold Bq
  rw [sI_self (S := A), hx]
  refine ⟨set_ne (by omega), ?_, ?_, ?_, ?_, ?_⟩
  · rw [bt_set (by omega) (by omega), show decide (3 = 5) = false by decide, Bool.or_false, sI_at, if_neg (by omega)]; exact h3
  · rw [bt_set (by omega) (by omega), show decide (4 = 5) = false by decide, Bool.or_false, sI_at, if_neg (by omega)]; exact h4
  · rw [bt_set (by omega) (by omega), sI_self]; simp
  · rw [bt_set (by omega) (by omega), show decide (6 = 5) = false by decide, Bool.or_false, sI_at, if_neg (by omega)]; exact h6
  · rw [bt_set (by omega) (by omega), show decide (7 = 5) = false by decide, Bool.or_false, sI_at, if_neg (by omega)]; exact h7
theorem Bq_6 {x : Int32} (h : Bg A B) (hx : x = (A.1 1 4) ||| (1 <<< (nI 6 &&& 31))) : Bq (sI A 1 4 x) (sI B 78 56 1) := by
  obtain ⟨-, h3, h4, h5, h6, h7⟩ := h
  unfold Bq
  rw [sI_self (S := A), hx]
  refine ⟨set_ne (by omega), ?_, ?_, ?_, ?_, ?_⟩
  · rw [bt_set (by omega) (by omega), show decide (3 = 6) = false by decide, Bool.or_false, sI_at, if_neg (by omega)]; exact h3
  · rw [bt_set (by omega) (by omega), show decide (4 = 6) = false by decide, Bool.or_false, sI_at, if_neg (by omega)]; exact h4
  · rw [bt_set (by omega) (by omega), show decide (5 = 6) = false by decide, Bool.or_false, sI_at, if_neg (by omega)]; exact h5
  · rw [bt_set (by omega) (by omega), sI_self]; simp
  · rw [bt_set (by omega) (by omega), show decide (7 = 6) = false by decide, Bool.or_false, sI_at, if_neg (by omega)]; exact h7
theorem Bq_7 {x : Int32} (h : Bg A B) (hx : x = (A.1 1 4) ||| (1 <<< (nI 7 &&& 31))) : Bq (sI A 1 4 x) (sI B 78 57 1) := by
  obtain ⟨-, h3, h4, h5, h6, h7⟩ := h
  unfold Bq
  rw [sI_self (S := A), hx]
  refine ⟨set_ne (by omega), ?_, ?_, ?_, ?_, ?_⟩
  · rw [bt_set (by omega) (by omega), show decide (3 = 7) = false by decide, Bool.or_false, sI_at, if_neg (by omega)]; exact h3
  · rw [bt_set (by omega) (by omega), show decide (4 = 7) = false by decide, Bool.or_false, sI_at, if_neg (by omega)]; exact h4
  · rw [bt_set (by omega) (by omega), show decide (5 = 7) = false by decide, Bool.or_false, sI_at, if_neg (by omega)]; exact h5
  · rw [bt_set (by omega) (by omega), show decide (6 = 7) = false by decide, Bool.or_false, sI_at, if_neg (by omega)]; exact h6
  · rw [bt_set (by omega) (by omega), sI_self]; simp
/-! the class: whether a line may begin -/
theorem mb_bit {k : Nat} (h3 : 3 ≤ k) (h7 : k ≤ 7) : fR_mayBegin F G A (nI k) = some (if bt (A.1 1 4) k = false then 1 else 0) := by
  unfold fR_mayBegin
  have e : ∀ j, j < 3 → ¬ nI k = nI j := fun j hj q => by have := (nI_eq (by omega) (by omega)).mp q; omega
  rw [if_neg (show ¬ nI k = (0 : Int32) from e 0 (by omega)), if_neg (show ¬ nI k = (1 : Int32) from e 1 (by omega)), if_neg (show ¬ nI k = (2 : Int32) from e 2 (by omega)), if_neg (show ¬ nI k < (3 : Int32) from fun q => by have := (nI_ltI (b := 3) (by omega) (by decide)).mp q; omega), if_neg (show ¬ (7 : Int32) < nI k from fun q => by have := (nI_ltI (a := 7) (by decide) (by omega)).mp q; omega), bt_shr _ (by omega)]
  cases bt (A.1 1 4) k
  · rfl
  · rfl
theorem mb_0 : fR_mayBegin F G A (nI 0) = some (if A.1 1 4 = 0 then 1 else 0) := by
  unfold fR_mayBegin
  rw [if_pos (show nI 0 = (0 : Int32) from rfl)]
  by_cases c : A.1 1 4 = 0
  · rw [if_pos c, if_pos c]
  · rw [if_neg c, if_neg c]
theorem mb_1 (hd : isSc d = true) (hdr : A.2.2.2 = d) : fR_mayBegin F G A (nI 1) = some (if (4 : Int32) ≤ A.1 d 5 then 0 else 1) := by
  unfold fR_mayBegin
  rw [if_neg (by decide), if_pos (by decide), hdr, gd_t hd]
  by_cases c : (4 : Int32) ≤ A.1 d 5
  · rw [if_pos c, if_pos c]
  · rw [if_neg c, if_neg c]
theorem mb_2 (hd : isSc d = true) (hdr : A.2.2.2 = d) : fR_mayBegin F G A (nI 2) = some (if (10 : Int32) ≤ A.1 d 6 then 0 else 1) := by
  unfold fR_mayBegin
  rw [if_neg (by decide), if_neg (by decide), if_pos (by decide), hdr, gd_t hd]
  by_cases c : (10 : Int32) ≤ A.1 d 6
  · rw [if_pos c, if_pos c]
  · rw [if_neg c, if_neg c]
theorem mb_hi {k : Nat} (h8 : 8 ≤ k) (h : k < 2 ^ 31) : fR_mayBegin F G A (nI k) = some 0 := by
  unfold fR_mayBegin
  have e : ∀ j, j < 3 → ¬ nI k = nI j := fun j hj q => by have := (nI_eq (by omega) (by omega)).mp q; omega
  rw [if_neg (show ¬ nI k = (0 : Int32) from e 0 (by omega)), if_neg (show ¬ nI k = (1 : Int32) from e 1 (by omega)), if_neg (show ¬ nI k = (2 : Int32) from e 2 (by omega)), if_neg (show ¬ nI k < (3 : Int32) from fun q => by have := (nI_ltI (b := 3) (by omega) (by decide)).mp q; omega), if_pos (show (7 : Int32) < nI k from nI_lt (a := 7) (by omega) (by omega))]
theorem mb_m : fR_mayBegin F G A (-1) = some 0 := by
  unfold fR_mayBegin
  rw [if_neg (by decide), if_neg (by decide), if_neg (by decide), if_pos (by decide)]
theorem R_lineW {k : Nat} (h : TkC A t) (hwd : wd t k = true) (hk : k < 21) : fR_readLine F G A = j_R_readLine_22 F G A (nI k) := by
  have h1 : t.1 = 1 ∧ kwi t.2.2 = k := by simpa [wd] using hwd
  unfold fR_readLine
  rw [h.1, if_pos (kind_w.mpr ⟨h1.1, by omega⟩), (h.2.1 h1.1).2, wv, if_pos (by omega), h1.2]
/-- no line can begin so -/
theorem L_no (hd : isSc d = true) (h : Ln d A0 B0 b n A B t p) {s0 : Int32} (hr : fR_readLine F G A = j_R_readLine_22 F G A s0) (hm : fR_mayBegin F G A s0 = some 0) (hM : fM_readLine F G B = j_M_readLine_264 F G B) : ∃ A' B', fR_readLine F G A = some A' ∧ fM_readLine F G B = some B' ∧ ((∃ t' p', Ln d A0 B0 b n A' B' t' p' ∧ rem n t' p' < rem n t p) ∨ LB d A0 B0 A' B') := by
  obtain ⟨np, nn, PN, NN, k1, k2, k3, k4, k5, k6, k7, k8, k9, k10, k11⟩ := h
  obtain ⟨A', B', a1, a2, a3⟩ := P_bad (F := F) (G := G) (k := 2) (by omega) (by omega) (A1 := A) (B1 := B) ⟨k1, k2, k3, rfl, rfl, Ag.rf, Ag.rf⟩
  have lb := LB.of hd k10 k11 (Db.of k6 k7.sz) a3
  have a1' : fR_refuse F G A 2 = some A' := a1
  have a2' : fM_wrong F G B 2 = some B' := a2
  rw [hr, hM]
  unfold j_R_readLine_22 j_M_readLine_264 j_M_readLine_269 j_M_readLine_295
  rw [hm, bd_some, if_pos rfl, a1', bd_some, a2', bd_some, lt_eq, if_neg (show ¬ (sI B' 78 53 1).1 78 2 = 0 from a3.fm.1), if_neg (show ¬ (sI B' 78 53 1).1 78 2 = 0 from a3.fm.1)]
  exact ⟨A', _, rfl, rfl, Or.inr (lb.cB rfl (by omega))⟩
/-- a line's end, wherever it comes from -/
theorem E_any (hF : 100000 ≤ F) (hd : isSc d = true) {r : Nat} (h : (∃ t' p', Md d A0 B0 b n A B t' p' ∧ rem n t' p' < r) ∨ LB d A0 B0 A B) : ∃ A' B', bd (fR_takeSign F G A 59) (fun S => some S) = some A' ∧ j_M_readLine_269 F G B = some B' ∧ ((∃ t' p', Ln d A0 B0 b n A' B' t' p' ∧ rem n t' p' < r) ∨ LB d A0 B0 A' B') := by
  rcases h with ⟨t', p', h, hr⟩ | h
  · obtain ⟨A', B', a1, a2, a3⟩ := E_line (F := F) (G := G) hF hd h
    refine ⟨A', B', a1, a2, ?_⟩
    rcases a3 with ⟨t2, p2, a3, a4⟩ | a3
    · exact Or.inl ⟨t2, p2, a3, by omega⟩
    · exact Or.inr a3
  · obtain ⟨B', a1, a2, a3⟩ := E_lineB (F := F) (G := G) h
    exact ⟨A, B', a1, a2, Or.inr a3⟩
theorem FS.fm {u : Nat} (h : FS d A B [] [] u 1) (h24 : B.1 78 24 = 1) : Fm d A B := by
  obtain ⟨k1, k2, k3, k4, k5, k6, k7, k8, k9, m, m1, m2, m3, m4, m5, m6, m7⟩ := h
  rw [if_neg (by decide)] at m7
  simp only [List.append_nil, List.length_nil, Nat.add_zero] at m2 m7
  have hm6 : hg (B.1 81) m = 1 := by rw [m6]; rfl
  refine ⟨⟨u, k1, k2, k3⟩, Or.inr ⟨h24, m, ?_, by omega, m2, m1, m3, m5, hm6⟩⟩
  by_cases c : m = 0
  · rw [c] at hm6; exact absurd hm6 (by show ¬ (0 : Int) = 1; decide)
  · omega
theorem fxs_dr (hd : isSc d = true) {h k : Nat} (h1 : d ≤ h) (h2 : h ≤ d + 8) : fxs d h k = false := by
  have := sc4 hd
  have e9 : (h == d + 9) = false := by simp; omega
  have e10 : (h == d + 10) = false := by simp; omega
  simp only [fxs, xs_hi (show 4 ≤ h by omega), e9, e10]; rfl
theorem fxs_pcs {h k : Nat} (e : pcs d h k = false) : fxs d h k = false := by
  have e1 := pcs_x e
  simp only [pcs, Bool.or_eq_false_iff] at e
  simp only [fxs, e1, Bool.false_or, Bool.or_eq_false_iff]
  exact ⟨e.1.2, e.2⟩
theorem fys_pms {h k : Nat} (e : pms h k = false) : fys h k = false := by
  cases c : fys h k
  · rfl
  · simp only [fys, Bool.or_eq_true] at c
    rcases c with (((c | c) | c) | c) | c
    · rw [pms_y e] at c; cases c
    · simp only [Bool.and_eq_true, Bool.or_eq_true, beq_iff_eq] at c
      obtain ⟨rfl, (((rfl | rfl) | rfl) | rfl) | rfl⟩ := c <;> cases e
    · simp only [beq_iff_eq] at c; subst c; cases (show pms 81 k = true from rfl).symm.trans e
    · simp only [beq_iff_eq] at c; subst c; cases (show pms 82 k = true from rfl).symm.trans e
    · simp only [beq_iff_eq] at c; subst c; cases (show pms 85 k = true from rfl).symm.trans e
end LT
