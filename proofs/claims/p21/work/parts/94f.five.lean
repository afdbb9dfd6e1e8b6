/-! THE FIVE ACTS -/
section FV
variable {F G : Nat} {S : St}
theorem J2.c4 (h : J2 S) : Cp4 S := by
  obtain ⟨nn, n1, n2, l, -⟩ := h.2.2
  exact l.c4 n2 n1
theorem in_no {x a b : Int32} (h1 : ¬ x < a) (h2 : ¬ b < x) : ¬ (if x < a ∨ b < x then (0 : Int32) else 1) = 0 := by
  rw [if_neg (fun z => z.elim h1 h2)]; decide
theorem in_y1 {x a b : Int32} (h1 : x < a) : (if x < a ∨ b < x then (0 : Int32) else 1) = 0 := if_pos (Or.inl h1)
theorem in_y2 {x a b : Int32} (h2 : b < x) : (if x < a ∨ b < x then (0 : Int32) else 1) = 0 := if_pos (Or.inr h2)
theorem iv_in {x a b : Int32} (h1 : ¬ x < a) (h2 : ¬ b < x) : iv x a.toInt b.toInt := by
  rw [Int32.not_lt, Int32.le_iff_toInt_le] at h1 h2
  exact ⟨h1, h2⟩
theorem louder_2 (hF : 100000 ≤ F) (h : J2 S) (p1 p2 : Int32) : ∃ v S1 S2, fN_louder F G S p1 p2 = some (v, S1) ∧ fM_louder F G S1 p1 p2 = some (v, S2) ∧ J2 S2 := by
  obtain ⟨w, a1, a2, a3, a4⟩ := note_x (F := F) (G := G) (T := S) h.1 h.2.1 rfl p1
  by_cases c1 : w = 0
  · refine ⟨-1, S, S, ?_, ?_, h⟩
    · unfold fN_louder; rw [a1, bd_some, if_pos c1]
    · unfold fM_louder; rw [a2, bd_some, if_pos c1]
  by_cases c2 : p2 < 1
  · refine ⟨-1, S, S, ?_, ?_, h⟩
    · unfold fN_louder; rw [a1, bd_some, if_neg c1, if_pos c2]
    · unfold fM_louder; rw [a2, bd_some, if_neg c1, M_isIn, bd_some, if_pos (in_y1 c2)]
  by_cases c3 : 9 < p2
  · refine ⟨-1, S, S, ?_, ?_, h⟩
    · unfold fN_louder; rw [a1, bd_some, if_neg c1, if_neg c2, if_pos c3]
    · unfold fM_louder; rw [a2, bd_some, if_neg c1, M_isIn, bd_some, if_pos (in_y2 c3)]
  obtain ⟨i, rfl, hi, hi10⟩ := a4 c1
  have cell := (h.c4.2 i hi).2.2.2.2.2.2.1
  have g : inB (nI i) 10 = true := inB_nI hi10 (by decide)
  have e30 : (30 : Int32) + nI i = nI (30 + i) := by rw [show (30 : Int32) = nI 30 from rfl, nI_add]
  have g3 : inB (nI (30 + i)) 41 = true := inB_nI (by omega) (by decide)
  by_cases c5 : S.1 34 i = p2
  · refine ⟨-1, S, S, ?_, ?_, h⟩
    · unfold fN_louder; rw [a1, bd_some, if_neg c1, if_neg c2, if_neg c3, gd_t g, nI_clamp (by omega), if_pos c5]
    · unfold fM_louder; rw [a2, bd_some, if_neg c1, M_isIn, bd_some, if_neg (in_no c2 c3), e30, gd_t g3, nI_clamp (by omega), if_pos (by rw [← cell]; exact c5)]
  obtain ⟨S1, s1, k1, r78, -, kk⟩ := act_pair (G := G) hF h (q := 3) (i := i) (x := p2) (by omega) (by omega) (fun _ => hi) (fun _ => ⟨fun z => by unfold cix at z; rw [if_neg (by decide)] at z; omega, fun _ z => by unfold cix at z; rw [if_neg (by decide)] at z; omega, fun _ z => by unfold cix at z; rw [if_neg (by decide)] at z; omega, fun _ => iv_in c2 c3⟩)
  obtain ⟨T, t1, t100, -, -, j2⟩ := kk S1 (Inv.rf (k1.good h.1.1))
  obtain ⟨w', a1', a2', -, -⟩ := note_x (F := F) (G := G) (T := S1) h.1 h.2.1 (by rw [r78 78 (by omega)]) (nI i)
  have ew : w' = w := Option.some.inj (a1'.symm.trans a1)
  refine ⟨S.1 34 i, S1, _, ?_, ?_, j2⟩
  · unfold fN_louder
    rw [a1, bd_some, if_neg c1, if_neg c2, if_neg c3, gd_t g, nI_clamp (by omega), if_neg c5, gd_t g, lt_eq, show fC_act F G S 30 (3 : Int32) (nI i) p2 = some S1 from s1, bd_some]
  · unfold fM_louder fM_change
    rw [a2', bd_some, ew, if_neg c1, M_isIn, bd_some, if_neg (in_no c2 c3), e30, gd_t g3, nI_clamp (by omega), if_neg (show ¬ S1.1 100 (30 + i) = p2 by rw [r78 100 (by omega), ← cell]; exact c5), t1, bd_some, gd_t g3, lt_eq, gd_t g3, lt_eq, bd2_some, t100, ← cell]
    rfl
theorem last_2 (hF : 100000 ≤ F) (h : J2 S) (p1 p2 : Int32) : ∃ v S1 S2, fN_last F G S p1 p2 = some (v, S1) ∧ fM_last F G S1 p1 p2 = some (v, S2) ∧ J2 S2 := by
  obtain ⟨w, a1, a2, a3, a4⟩ := note_x (F := F) (G := G) (T := S) h.1 h.2.1 rfl p1
  by_cases c1 : w = 0
  · refine ⟨-1, S, S, ?_, ?_, h⟩
    · unfold fN_last; rw [a1, bd_some, if_pos c1]
    · unfold fM_last; rw [a2, bd_some, if_pos c1]
  by_cases c2 : p2 < 1
  · refine ⟨-1, S, S, ?_, ?_, h⟩
    · unfold fN_last; rw [a1, bd_some, if_neg c1, if_pos c2]
    · unfold fM_last; rw [a2, bd_some, if_neg c1, M_isIn, bd_some, if_pos (in_y1 c2)]
  by_cases c3 : 12 < p2
  · refine ⟨-1, S, S, ?_, ?_, h⟩
    · unfold fN_last; rw [a1, bd_some, if_neg c1, if_neg c2, if_pos c3]
    · unfold fM_last; rw [a2, bd_some, if_neg c1, M_isIn, bd_some, if_pos (in_y2 c3)]
  obtain ⟨i, rfl, hi, hi10⟩ := a4 c1
  have cell := (h.c4.2 i hi).2.2.2.2.1
  have g : inB (nI i) 10 = true := inB_nI hi10 (by decide)
  have e30 : (20 : Int32) + nI i = nI (20 + i) := by rw [show (20 : Int32) = nI 20 from rfl, nI_add]
  have g3 : inB (nI (20 + i)) 41 = true := inB_nI (by omega) (by decide)
  by_cases c5 : S.1 33 i = p2
  · refine ⟨-1, S, S, ?_, ?_, h⟩
    · unfold fN_last; rw [a1, bd_some, if_neg c1, if_neg c2, if_neg c3, gd_t g, nI_clamp (by omega), if_pos c5]
    · unfold fM_last; rw [a2, bd_some, if_neg c1, M_isIn, bd_some, if_neg (in_no c2 c3), e30, gd_t g3, nI_clamp (by omega), if_pos (by rw [← cell]; exact c5)]
  obtain ⟨S1, s1, k1, r78, -, kk⟩ := act_pair (G := G) hF h (q := 2) (i := i) (x := p2) (by omega) (by omega) (fun _ => hi) (fun _ => ⟨fun z => by unfold cix at z; rw [if_neg (by decide)] at z; omega, fun _ z => by unfold cix at z; rw [if_neg (by decide)] at z; omega, fun _ _ => iv_in c2 c3, fun z => by unfold cix at z; rw [if_neg (by decide)] at z; omega⟩)
  obtain ⟨T, t1, t100, -, -, j2⟩ := kk S1 (Inv.rf (k1.good h.1.1))
  obtain ⟨w', a1', a2', -, -⟩ := note_x (F := F) (G := G) (T := S1) h.1 h.2.1 (by rw [r78 78 (by omega)]) (nI i)
  have ew : w' = w := Option.some.inj (a1'.symm.trans a1)
  refine ⟨S.1 33 i, S1, _, ?_, ?_, j2⟩
  · unfold fN_last
    rw [a1, bd_some, if_neg c1, if_neg c2, if_neg c3, gd_t g, nI_clamp (by omega), if_neg c5, gd_t g, lt_eq, show fC_act F G S 30 (2 : Int32) (nI i) p2 = some S1 from s1, bd_some]
  · unfold fM_last fM_change
    rw [a2', bd_some, ew, if_neg c1, M_isIn, bd_some, if_neg (in_no c2 c3), e30, gd_t g3, nI_clamp (by omega), if_neg (show ¬ S1.1 100 (20 + i) = p2 by rw [r78 100 (by omega), ← cell]; exact c5), t1, bd_some, gd_t g3, lt_eq, gd_t g3, lt_eq, bd2_some, t100, ← cell]
    rfl
theorem shift_2 (hF : 100000 ≤ F) (h : J2 S) (p1 p2 : Int32) : ∃ v S1 S2, fN_shift F G S p1 p2 = some (v, S1) ∧ fM_shift F G S1 p1 p2 = some (v, S2) ∧ J2 S2 := by
  obtain ⟨w, a1, a2, a3, a4⟩ := note_x (F := F) (G := G) (T := S) h.1 h.2.1 rfl p1
  by_cases c1 : w = 0
  · refine ⟨-1, S, S, ?_, ?_, h⟩
    · unfold fN_shift; rw [a1, bd_some, if_pos c1]
    · unfold fM_shift; rw [a2, bd_some, if_pos c1]
  by_cases c0 : p2 = 0
  · refine ⟨-1, S, S, ?_, ?_, h⟩
    · unfold fN_shift; rw [a1, bd_some, if_neg c1, c0, if_neg (by decide), if_neg (by decide), if_pos rfl]
    · unfold fM_shift; rw [a2, bd_some, if_neg c1, if_pos c0]
  by_cases c2 : p2 < -7
  · refine ⟨-1, S, S, ?_, ?_, h⟩
    · unfold fN_shift; rw [a1, bd_some, if_neg c1, if_pos c2]
    · unfold fM_shift; rw [a2, bd_some, if_neg c1, if_neg c0, M_isIn, bd_some, if_pos (in_y1 c2)]
  by_cases c3 : 7 < p2
  · refine ⟨-1, S, S, ?_, ?_, h⟩
    · unfold fN_shift; rw [a1, bd_some, if_neg c1, if_neg c2, if_pos c3]
    · unfold fM_shift; rw [a2, bd_some, if_neg c1, if_neg c0, M_isIn, bd_some, if_pos (in_y2 c3)]
  obtain ⟨i, rfl, hi, hi10⟩ := a4 c1
  have cell := (h.c4.2 i hi).2.2.1
  have g : inB (nI i) 10 = true := inB_nI hi10 (by decide)
  have e30 : (10 : Int32) + nI i = nI (10 + i) := by rw [show (10 : Int32) = nI 10 from rfl, nI_add]
  have g3 : inB (nI (10 + i)) 41 = true := inB_nI (by omega) (by decide)
  have em : S.1 100 (10 + i) + 12 * p2 = S.1 32 i + p2 * 12 := by rw [cell, Int32.mul_comm]
  obtain ⟨z, b1, b2, -, b3⟩ := key_x (F := F) (G := G) (S := S) (T := S) (S.1 32 i + p2 * 12)
  by_cases c5 : z = 0
  · refine ⟨-1, S, S, ?_, ?_, h⟩
    · unfold fN_shift; rw [a1, bd_some, if_neg c1, if_neg c2, if_neg c3, if_neg c0, gd_t g, nI_clamp (by omega), lt_eq, b1, bd_some, if_pos c5]
    · unfold fM_shift; rw [a2, bd_some, if_neg c1, if_neg c0, M_isIn, bd_some, if_neg (in_no c2 c3), e30, gd_t g3, nI_clamp (by omega), em, b2, bd_some, if_pos c5]
  obtain ⟨S1, s1, k1, r78, -, kk⟩ := act_pair (G := G) hF h (q := 1) (i := i) (x := S.1 32 i + p2 * 12) (by omega) (by omega) (fun _ => hi) (fun _ => ⟨fun z => by unfold cix at z; rw [if_neg (by decide)] at z; omega, fun _ _ => b3 c5, fun z => by unfold cix at z; rw [if_neg (by decide)] at z; omega, fun z => by unfold cix at z; rw [if_neg (by decide)] at z; omega⟩)
  obtain ⟨T, t1, t100, -, -, j2⟩ := kk S1 (Inv.rf (k1.good h.1.1))
  obtain ⟨w', a1', a2', -, -⟩ := note_x (F := F) (G := G) (T := S1) h.1 h.2.1 (by rw [r78 78 (by omega)]) (nI i)
  have ew : w' = w := Option.some.inj (a1'.symm.trans a1)
  obtain ⟨z', b1', b2', -, -⟩ := key_x (F := F) (G := G) (S := S) (T := S1) (S.1 32 i + p2 * 12)
  have ez : z' = z := Option.some.inj (b1'.symm.trans b1)
  refine ⟨S.1 32 i + p2 * 12, S1, _, ?_, ?_, j2⟩
  · unfold fN_shift
    rw [a1, bd_some, if_neg c1, if_neg c2, if_neg c3, if_neg c0, gd_t g, nI_clamp (by omega), lt_eq, b1, bd_some, if_neg c5, show fC_act F G S 30 (1 : Int32) (nI i) (S.1 32 i + p2 * 12) = some S1 from s1, bd_some]
  · unfold fM_shift
    rw [a2', bd_some, ew, if_neg c1, if_neg c0, M_isIn, bd_some, if_neg (in_no c2 c3), e30, gd_t g3, nI_clamp (by omega), show S1.1 100 (10 + i) = S.1 100 (10 + i) by rw [r78 100 (by omega)], em, b2', bd_some, ez, if_neg c5, t1, bd_some, gd_t g3, gd_t g3, t100, em, lt_eq, gd_t g3, sI_self]
    rfl
theorem pedal_2 (hF : 100000 ≤ F) (h : J2 S) (p1 : Int32) : ∃ v S1 S2, fN_pedal F G S p1 = some (v, S1) ∧ fM_pedal F G S1 p1 = some (v, S2) ∧ J2 S2 := by
  obtain ⟨w, a1, a2, a3, a4⟩ := beat_x (F := F) (G := G) (T := S) h.1 h.2.1 rfl p1
  by_cases c1 : w = 0
  · refine ⟨-1, S, S, ?_, ?_, h⟩
    · unfold fN_pedal; rw [a1, bd_some, if_pos c1]
    · unfold fM_pedal; rw [a2, bd_some, if_pos c1]
  obtain ⟨i, rfl, hi⟩ := iv_nat (u := 11) (a4 c1)
  have cell := h.c4.1
  obtain ⟨S1, s1, k1, r78, p30, kk⟩ := act_pair (G := G) hF h (q := 4) (i := i) (x := S.1 30 1 ^^^ ((1 : Int32) <<< (nI i &&& 31))) (by omega) (by omega) (fun z => by omega) (fun z => by omega)
  obtain ⟨T, t1, t100, -, -, j2⟩ := kk S1 (Inv.rf (k1.good h.1.1))
  obtain ⟨w', a1', a2', -, -⟩ := beat_x (F := F) (G := G) (T := S1) h.1 h.2.1 (by rw [r78 78 (by omega)]) (nI i)
  have ew : w' = w := Option.some.inj (a1'.symm.trans a1)
  have g : inB (40 : Int32) 41 = true := by decide
  have e40 : (40 : Int32).toNatClampNeg = 40 := by decide
  rw [if_pos rfl] at p30
  refine ⟨S.1 30 1 ^^^ ((1 : Int32) <<< (nI i &&& 31)), S1, _, ?_, ?_, j2⟩
  · unfold fN_pedal
    rw [a1, bd_some, if_neg c1, show fC_act F G S 30 (4 : Int32) (nI i) (S.1 30 1 ^^^ ((1 : Int32) <<< (nI i &&& 31))) = some S1 from s1, bd_some, p30]
  · unfold fM_pedal
    rw [a2', bd_some, ew, if_neg c1, t1, bd_some, gd_t g, gd_t g, lt_eq, gd_t g, e40, t100, sI_self, ← cell]
    rfl
/-- give: the act of both, then the clashes of both -/
theorem give_3 (hF : 100000 ≤ F) (hG : 20 ≤ G) (h : J2 S) (p1 p2 : Int32) : (fN_give F G S p1 p2 = some (-1, S) ∧ fM_give F G S p1 p2 = some (-1, S)) ∨ ∃ S1 v S1c S2 v' S2c, fN_give F G S p1 p2 = some (v, S1c) ∧ fN_clashes F G S1 = some (v, S1c) ∧ Inv S1 S1c ∧ fM_give F G S1c p1 p2 = some (v', S2c) ∧ fM_clashes F G S2 = some (v', S2c) ∧ J2 S2 ∧ J2 S2c ∧ S2.2 = S1.2 ∧ ∀ h, h < 78 → S2.1 h = S1c.1 h := by
  obtain ⟨w, a1, a2, a3, a4⟩ := note_x (F := F) (G := G) (T := S) h.1 h.2.1 rfl p1
  by_cases c1 : w = 0
  · refine Or.inl ⟨?_, ?_⟩
    · unfold fN_give; rw [a1, bd_some, if_pos c1]
    · unfold fM_give; rw [a2, bd_some, if_pos c1]
  by_cases c2 : p2 < 0
  · refine Or.inl ⟨?_, ?_⟩
    · unfold fN_give; rw [a1, bd_some, if_neg c1, if_pos c2]
    · unfold fM_give; rw [a2, bd_some, if_neg c1, M_isIn, bd_some, if_pos (in_y1 c2)]
  by_cases c3 : 2 < p2
  · refine Or.inl ⟨?_, ?_⟩
    · unfold fN_give; rw [a1, bd_some, if_neg c1, if_neg c2, if_pos c3]
    · unfold fM_give; rw [a2, bd_some, if_neg c1, M_isIn, bd_some, if_pos (in_y2 c3)]
  obtain ⟨i, rfl, hi, hi10⟩ := a4 c1
  have cell := (h.c4.2 i hi).1
  have g : inB (nI i) 10 = true := inB_nI hi10 (by decide)
  have g3 : inB (nI i) 41 = true := inB_nI (by omega) (by decide)
  by_cases c5 : S.1 31 i = p2
  · refine Or.inl ⟨?_, ?_⟩
    · unfold fN_give; rw [a1, bd_some, if_neg c1, if_neg c2, if_neg c3, gd_t g, nI_clamp (by omega), if_pos c5]
    · unfold fM_give; rw [a2, bd_some, if_neg c1, M_isIn, bd_some, if_neg (in_no c2 c3), gd_t g3, nI_clamp (by omega), if_pos (by rw [← cell]; exact c5)]
  have ec : cix 0 i = i := by unfold cix; rw [if_neg (by decide)]; omega
  obtain ⟨S1, s1, k1, r78, -, kk⟩ := act_pair (G := G) hF h (q := 0) (i := i) (x := p2) (by omega) (by omega) (fun _ => hi) (fun _ => by rw [ec]; exact ⟨fun _ => iv_in c2 c3, fun z => by omega, fun z => by omega, fun z => by omega⟩)
  obtain ⟨v, S1c, v1, -, vi⟩ := s_fN_clashes hF hG (Inv.rf (k1.good h.1.1))
  obtain ⟨T, t1, t100, tlo, t2, j2⟩ := kk S1c vi
  rw [ec] at j2
  obtain ⟨v', S2c, u1, -, ui⟩ := s_fM_clashes hF hG (Inv.rf j2.1.1)
  obtain ⟨w', a1', a2', -, -⟩ := note_x (F := F) (G := G) (T := S1c) h.1 h.2.1 (by rw [vi.2.2.2 78 48 rfl, r78 78 (by omega)]) (nI i)
  have ew : w' = w := Option.some.inj (a1'.symm.trans a1)
  have s100 : S1c.1 100 i = S.1 100 i := by rw [vi.2.2.2 100 i rfl, r78 100 (by omega)]
  refine Or.inr ⟨S1, v, S1c, sI T 100 i p2, v', S2c, ?_, v1, vi, ?_, u1, j2, j2.q ui, t2.trans vi.2.2.1, fun h q => by rw [sI_row (by omega)]; exact tlo h q⟩
  · unfold fN_give
    rw [a1, bd_some, if_neg c1, if_neg c2, if_neg c3, gd_t g, nI_clamp (by omega), if_neg c5, show fC_act F G S 30 (0 : Int32) (nI i) p2 = some S1 from s1, bd_some, v1]
    rfl
  · unfold fM_give
    rw [a2', bd_some, ew, if_neg c1, M_isIn, bd_some, if_neg (in_no c2 c3), gd_t g3, nI_clamp (by omega), if_neg (show ¬ S1c.1 100 i = p2 by rw [s100, ← cell]; exact c5), t1, bd_some, gd_t g3, lt_eq, u1]
    rfl
theorem give_k (hF : 100000 ≤ F) (hG : 20 ≤ G) (h : J2 S) (p1 p2 : Int32) : ∃ v v' S1 S2, fN_give F G S p1 p2 = some (v, S1) ∧ fM_give F G S1 p1 p2 = some (v', S2) ∧ J2 S2 := by
  rcases give_3 (G := G) hF hG h p1 p2 with ⟨e1, e2⟩ | ⟨S1, v, S1c, S2, v', S2c, e1, -, -, e2, -, -, e3, -, -⟩
  · exact ⟨_, _, _, _, e1, e2, h⟩
  · exact ⟨_, _, _, _, e1, e2, e3⟩
end FV
