/-! THE WITNESS: heard and untell -/
section WI
variable {F G : Nat} {S T : St}
/-- beats and keys: both know the same -/
theorem beat_x (hJ : J S) (h3 : Cp3 S) (hT : T.1 78 46 = S.1 78 46) (p : Int32) : ∃ v, fN_isBeat F G S p = some v ∧ fM_isBeat F G T p = some v ∧ (v = 0 ∨ v = 1) ∧ (¬ v = 0 → iv p 0 11) := by
  obtain ⟨np, nn, m, -, -, -, -, -, -, -, b5, -⟩ := h3
  have ib := hJ.1.2.1.2.2
  unfold fN_isBeat fM_isBeat fM_isIn
  rw [hT]
  by_cases c : p < 0
  · rw [if_pos c, if_pos c]
    exact ⟨0, rfl, rfl, Or.inl rfl, fun z => absurd rfl z⟩
  · rw [if_neg c, if_neg c, gd_t hJ.1.2.1.1, b5]
    rw [b5] at ib
    have e : (S.1 78 46 - 1).toInt = (S.1 78 46).toInt - 1 := by
      rw [Int32.toInt_sub, show (1 : Int32).toInt = 1 from rfl, i32b (by have := ib.1; omega) (by have := ib.2; omega)]
    by_cases d : S.1 78 46 ≤ p
    · have d' : S.1 78 46 - 1 < p := by
        rw [Int32.le_iff_toInt_le] at d
        rw [Int32.lt_iff_toInt_lt, e]; omega
      rw [if_pos d, if_pos d']
      exact ⟨0, rfl, rfl, Or.inl rfl, fun z => absurd rfl z⟩
    · have d' : ¬ S.1 78 46 - 1 < p := by
        rw [Int32.le_iff_toInt_le] at d
        rw [Int32.lt_iff_toInt_lt, e]; omega
      rw [if_neg d, if_neg d']
      refine ⟨1, rfl, rfl, Or.inr rfl, fun _ => ⟨?_, ?_⟩⟩
      · have := Int32.not_lt.mp c
        rw [Int32.le_iff_toInt_le] at this; exact this
      · rw [Int32.le_iff_toInt_le] at d
        have := ib.2; omega
theorem key_x (p : Int32) : ∃ v, fN_isKey F G S p = some v ∧ fM_isIn F G T p 0 87 = some v ∧ (v = 0 ∨ v = 1) ∧ (¬ v = 0 → iv p 0 87) := by
  unfold fN_isKey fM_isIn
  by_cases c : p < 0
  · rw [if_pos c]; exact ⟨0, rfl, rfl, Or.inl rfl, fun z => absurd rfl z⟩
  · rw [if_neg c]
    by_cases d : 87 < p
    · rw [if_pos d]; exact ⟨0, rfl, rfl, Or.inl rfl, fun z => absurd rfl z⟩
    · rw [if_neg d]
      refine ⟨1, rfl, rfl, Or.inr rfl, fun _ => ⟨?_, ?_⟩⟩
      · have := Int32.not_lt.mp c
        rw [Int32.le_iff_toInt_le] at this; exact this
      · have := Int32.not_lt.mp d
        rw [Int32.le_iff_toInt_le] at this; exact this
theorem note_x (hJ : J S) (h3 : Cp3 S) (hT : T.1 78 48 = S.1 78 48) (p : Int32) : ∃ v, fN_isNote F G S p = some v ∧ fM_isNote F G T p = some v ∧ (v = 0 ∨ v = 1) ∧ (¬ v = 0 → ∃ i, p = nI i ∧ (i : Int) < (S.1 78 48).toInt ∧ i < 10) := by
  obtain ⟨np, nn, m, -, hn, -, -, -, b3, b4, -⟩ := h3
  unfold fN_isNote fM_isNote fM_isIn
  rw [hT, b4]
  by_cases c : p < 0
  · rw [if_pos c, if_pos c]
    exact ⟨0, rfl, rfl, Or.inl rfl, fun z => absurd rfl z⟩
  · rw [if_neg c, if_neg c, gd_t hJ.1.2.1.1, b3]
    have e : (nI nn - 1).toInt = (nn : Int) - 1 := by
      rw [Int32.toInt_sub, nI_toInt (by omega), show (1 : Int32).toInt = 1 from rfl, i32b (by omega) (by omega)]
    by_cases d : nI nn ≤ p
    · have d' : nI nn - 1 < p := by
        rw [Int32.le_iff_toInt_le, nI_toInt (by omega)] at d
        rw [Int32.lt_iff_toInt_lt, e]; omega
      rw [if_pos d, if_pos d']
      exact ⟨0, rfl, rfl, Or.inl rfl, fun z => absurd rfl z⟩
    · have d' : ¬ nI nn - 1 < p := by
        rw [Int32.le_iff_toInt_le, nI_toInt (by omega)] at d
        rw [Int32.lt_iff_toInt_lt, e]; omega
      rw [if_neg d, if_neg d']
      refine ⟨1, rfl, rfl, Or.inr rfl, fun _ => ?_⟩
      have c' := Int32.not_lt.mp c
      rw [Int32.le_iff_toInt_le] at c'
      rw [Int32.le_iff_toInt_le, nI_toInt (by omega)] at d
      obtain ⟨i, e1, e2⟩ := iv_nat (x := p) (u := 9) ⟨c', by omega⟩
      rw [e1, nI_toInt (by omega)] at d
      exact ⟨i, e1, by rw [nI_toInt (by omega)]; omega, by omega⟩
end WI
section WH
variable {F G : Nat} {S : St}
def telS (S : St) (n : Nat) (p1 p2 p3 : Int32) : St := sI (sI (sI (sI (sI (sI S 71 n p1) 72 n p2) 73 n (vp_nar .boolean p3)) 74 n (S.1 69 1)) 75 n (-1)) 69 0 (nI (n + 1))
def telM (S : St) (n : Nat) (p1 p2 p3 : Int32) : St := sI (sI (sI (sI (sI (sI S 108 n p1) 109 n p2) 112 n (vp_nar .boolean p3)) 110 n (S.1 78 75)) 111 n (-1)) 78 74 (nI (n + 1))
theorem tel_c {n : Nat} (hn : S.1 69 0 = nI n) (h : n < 30) {p1 p2 p3 : Int32} : fI_tell F G S p1 p2 p3 = some (nI n, telS S n p1 p2 p3) := by
  have e : inB (nI n) 30 = true := inB_nI h (by decide)
  unfold fI_tell
  simp only [lt_eq]
  rw [hn, if_pos (show nI n < 30 from Int32.not_le.mp (nI_ge (b := 30) h (by decide))), gd_t e, nI_clamp (by omega)]
  rw [show (sI S 71 n p1).1 69 0 = nI n from hn, gd_t e, nI_clamp (by omega)]
  rw [show (sI (sI S 71 n p1) 72 n p2).1 69 0 = nI n from hn, gd_t e, nI_clamp (by omega)]
  rw [show (sI (sI (sI S 71 n p1) 72 n p2) 73 n (vp_nar .boolean p3)).1 69 0 = nI n from hn, gd_t e, nI_clamp (by omega)]
  rw [show (sI (sI (sI S 71 n p1) 72 n p2) 73 n (vp_nar .boolean p3)).1 69 1 = S.1 69 1 from rfl]
  rw [show (sI (sI (sI (sI S 71 n p1) 72 n p2) 73 n (vp_nar .boolean p3)) 74 n (S.1 69 1)).1 69 0 = nI n from hn, gd_t e, nI_clamp (by omega)]
  rw [show (sI (sI (sI (sI (sI S 71 n p1) 72 n p2) 73 n (vp_nar .boolean p3)) 74 n (S.1 69 1)) 75 n (-1)).1 69 0 = nI n from hn, nI_1, sI_self]
  rw [show nI (n + 1) - 1 = nI n from nI_subN (a := n + 1) (b := 1) (by omega) (by omega)]
  rfl
theorem tel_m {n : Nat} (hn : S.1 78 74 = nI n) (h : n < 30) {p1 p2 p3 : Int32} {v w : Int32} (e1 : fM_isBeat F G S p1 = some v) (c1 : ¬ v = 0) (e2 : fM_isIn F G S p2 0 87 = some w) (c2 : ¬ w = 0) : fM_heard F G S p1 p2 p3 = some (nI n, telM S n p1 p2 p3) := by
  have e : inB (nI n) 30 = true := inB_nI h (by decide)
  unfold fM_heard
  simp only [lt_eq]
  rw [e1, bd_some, if_neg c1, e2, bd_some, if_neg c2, hn, if_neg (show ¬ nI n = 30 from fun z => by have := (nI_eq (a := n) (b := 30) (by omega) (by omega)).mp z; omega), gd_t e, nI_clamp (by omega)]
  rw [show (sI S 108 n p1).1 78 74 = nI n from hn, gd_t e, nI_clamp (by omega)]
  rw [show (sI (sI S 108 n p1) 109 n p2).1 78 74 = nI n from hn, gd_t e, nI_clamp (by omega)]
  rw [show (sI (sI (sI S 108 n p1) 109 n p2) 112 n (vp_nar .boolean p3)).1 78 74 = nI n from hn, gd_t e, nI_clamp (by omega)]
  rw [show (sI (sI (sI S 108 n p1) 109 n p2) 112 n (vp_nar .boolean p3)).1 78 75 = S.1 78 75 from rfl]
  rw [show (sI (sI (sI (sI S 108 n p1) 109 n p2) 112 n (vp_nar .boolean p3)) 110 n (S.1 78 75)).1 78 74 = nI n from hn, gd_t e, nI_clamp (by omega)]
  rw [show (sI (sI (sI (sI (sI S 108 n p1) 109 n p2) 112 n (vp_nar .boolean p3)) 110 n (S.1 78 75)) 111 n (-1)).1 78 74 = nI n from hn, nI_1, sI_self]
  rw [show nI (n + 1) - 1 = nI n from nI_subN (a := n + 1) (b := 1) (by omega) (by omega)]
  rfl
theorem sI_row {S : St} {h h' k : Nat} {x : Int32} (e : h' ≠ h) : (sI S h k x).1 h' = S.1 h' := funext fun k' => by rw [sI_at, if_neg (fun c => e c.1)]
theorem heard_2 (hF : 100000 ≤ F) (hG : 20 ≤ G) (h : J2 S) {p1 p2 p3 : Int32} (hp3 : p3 = 0 ∨ p3 = 1) : ∃ v S1 S2, fN_heard F G S p1 p2 p3 = some (v, S1) ∧ fM_heard F G S1 p1 p2 p3 = some (v, S2) ∧ J2 S2 := by
  obtain ⟨hJ, h3, hX⟩ := id h
  obtain ⟨v, a1, a2, -, a3⟩ := beat_x (F := F) (G := G) (T := S) hJ h3 rfl p1
  obtain ⟨w, b1, b2, -, b3⟩ := key_x (F := F) (G := G) (S := S) (T := S) p2
  obtain ⟨nn, n1, n48, xl, xa, xb, hW⟩ := id hX
  obtain ⟨n, n30, w1, w2, w3⟩ := id hW
  by_cases c1 : v = 0
  · refine ⟨-1, S, S, ?_, ?_, h⟩
    · unfold fN_heard; rw [a1, bd_some, if_pos c1]
    · unfold fM_heard; rw [a2, bd_some, if_pos c1]
  by_cases c2 : w = 0
  · refine ⟨-1, S, S, ?_, ?_, h⟩
    · unfold fN_heard; rw [a1, bd_some, if_neg c1, b1, bd_some, if_pos c2]
    · unfold fM_heard; rw [a2, bd_some, if_neg c1, b2, bd_some, if_pos c2]
  by_cases c3 : n < 30
  · have hS1 : fN_heard F G S p1 p2 p3 = some (nI n, telS S n p1 p2 p3) := by
      unfold fN_heard
      rw [a1, bd_some, if_neg c1, b1, bd_some, if_neg c2, tel_c w1 c3]; rfl
    have m74 : (telS S n p1 p2 p3).1 78 74 = nI n := w2
    obtain ⟨v', a1', a2', -, -⟩ := beat_x (F := F) (G := G) (T := telS S n p1 p2 p3) hJ h3 rfl p1
    obtain ⟨w', b1', b2', -, -⟩ := key_x (F := F) (G := G) (S := S) (T := telS S n p1 p2 p3) p2
    have ev : v' = v := Option.some.inj (a1'.symm.trans a1)
    have ew : w' = w := Option.some.inj (b1'.symm.trans b1)
    have hS2 := tel_m (p3 := p3) m74 c3 a2' (by rw [ev]; exact c1) b2' (by rw [ew]; exact c2)
    obtain ⟨r1, S1', y1, k1⟩ := c_heard (p1 := p1) (p2 := p2) hF hG hJ.1 hp3
    obtain ⟨-, e1⟩ := Prod.mk.inj (Option.some.inj (hS1.symm.trans y1))
    rw [← e1] at k1
    obtain ⟨r2, S2', y2, k2⟩ := m_heard (p1 := p1) (p2 := p2) hF hG (k1.good hJ.1) hp3
    obtain ⟨-, e2⟩ := Prod.mk.inj (Option.some.inj (hS2.symm.trans y2))
    rw [← e2] at k2
    refine ⟨_, _, _, hS1, hS2, h.ch k1 k2 ?_⟩
    have row : ∀ h, ¬ (71 ≤ h ∧ h ≤ 75) → ¬ (108 ≤ h ∧ h ≤ 112) → h ≠ 69 → h ≠ 78 → (telM (telS S n p1 p2 p3) n p1 p2 p3).1 h = S.1 h := fun h q1 q2 q3 q4 => by
      unfold telM telS
      rw [sI_row (by omega), sI_row (by omega), sI_row (by omega), sI_row (by omega), sI_row (by omega), sI_row (by omega), sI_row (by omega), sI_row (by omega), sI_row (by omega), sI_row (by omega), sI_row (by omega), sI_row (by omega)]
    refine ⟨nn, n1, n48, xl.fr fun h q => row h (by omega) (by omega) (by omega) (by omega), xa.fr (fun h q => row h (by omega) (by omega) (by omega) (by omega)) rfl rfl, xb.fr fun h q => row h (by omega) (by omega) (by omega) (by omega), ⟨n + 1, by omega, rfl, rfl, fun j hj => ?_⟩⟩
    have c3' := hJ.2.2.2.2
    have t75 := hJ.1.1 78 75 _ _ rfl
    by_cases e : j = n
    · subst e
      simp only [telM, telS, sI_at, Nat.reduceEqDiff, false_and, and_self, if_true, if_false, reduceIte]
      exact ⟨trivial, trivial, trivial, c3', trivial, a3 c1, b3 c2, t75, ⟨by decide, by decide⟩⟩
    · simp only [telM, telS, sI_at, Nat.reduceEqDiff, false_and, and_self, true_and, if_neg e, if_true, if_false, reduceIte]
      exact w3 j (by omega)
  · have hn : n = 30 := by omega
    refine ⟨-1, S, S, ?_, ?_, h⟩
    · unfold fN_heard fI_tell
      rw [a1, bd_some, if_neg c1, b1, bd_some, if_neg c2, w1, hn, if_neg (by decide)]; rfl
    · unfold fM_heard
      rw [a2, bd_some, if_neg c1, b2, bd_some, if_neg c2, w2, hn, if_pos (show nI 30 = (30 : Int32) from rfl)]
theorem untell_2 (h : J2 S) {p : Int32} : ∃ v S1 S2, fN_untell F G S p = some (v, S1) ∧ fM_untell F G S1 p = some (v, S2) ∧ J2 S2 := by
  obtain ⟨hJ, h3, hX⟩ := id h
  obtain ⟨nn, n1, n48, xl, xa, xb, hW⟩ := id hX
  obtain ⟨n, n30, w1, w2, w3⟩ := id hW
  by_cases c1 : p < 0
  · refine ⟨0, S, S, ?_, ?_, h⟩
    · unfold fN_untell fI_takeFromNowOn
      rw [if_pos c1]; rfl
    · unfold fM_untell fM_isIn
      rw [if_pos c1, bd_some, if_pos rfl]
  have e : (nI n - 1).toInt = (n : Int) - 1 := by
    rw [Int32.toInt_sub, nI_toInt (by omega), show (1 : Int32).toInt = 1 from rfl, i32b (by omega) (by omega)]
  by_cases c2 : nI n ≤ p
  · refine ⟨0, S, S, ?_, ?_, h⟩
    · unfold fN_untell fI_takeFromNowOn
      rw [if_neg c1, w1, if_pos c2]; rfl
    · unfold fM_untell fM_isIn
      have d : nI n - 1 < p := by
        rw [Int32.le_iff_toInt_le, nI_toInt (by omega)] at c2
        rw [Int32.lt_iff_toInt_lt, e]; omega
      rw [if_neg c1, w2, if_pos d, bd_some, if_pos rfl]
  have d : ¬ nI n - 1 < p := by
    rw [Int32.le_iff_toInt_le, nI_toInt (by omega)] at c2
    rw [Int32.lt_iff_toInt_lt, e]; omega
  obtain ⟨i, e1, hi⟩ : ∃ i, p = nI i ∧ i < n := by
    have c' := Int32.not_lt.mp c1
    rw [Int32.le_iff_toInt_le] at c'
    rw [Int32.le_iff_toInt_le, nI_toInt (by omega)] at c2
    obtain ⟨i, e1, e2⟩ := iv_nat (x := p) (u := 30) ⟨c', by omega⟩
    rw [e1, nI_toInt (by omega)] at c2
    exact ⟨i, e1, by omega⟩
  subst e1
  obtain ⟨v1, v2, v3, v4, v5, v6, v7, v8, v9⟩ := w3 i hi
  have g : inB (nI i) 30 = true := inB_nI (by omega) (by decide)
  have z : (1 : Int32) = 0 → False := by decide
  by_cases c3 : S.1 75 i = -1
  · have hS1 : fN_untell F G S (nI i) = some (1, sI S 75 i (S.1 69 1)) := by
      unfold fN_untell fI_takeFromNowOn
      rw [if_neg c1, w1, if_neg c2, gd_t g, nI_clamp (by omega), if_pos c3, gd_t g]; rfl
    have hS2 : fM_untell F G (sI S 75 i (S.1 69 1)) (nI i) = some (1, sI (sI S 75 i (S.1 69 1)) 111 i (S.1 78 75)) := by
      unfold fM_untell fM_isIn
      rw [if_neg c1, show (sI S 75 i (S.1 69 1)).1 78 74 = nI n from w2, if_neg d, bd_some, if_neg (by decide), gd_t g, nI_clamp (by omega), show (sI S 75 i (S.1 69 1)).1 111 i = -1 by rw [← c3, v5, sI_at, if_neg (by omega)], if_pos (by decide), gd_t g]; rfl
    obtain ⟨r1, S1', y1, k1⟩ := c_untell (F := F) (G := G) (p1 := nI i) hJ.1
    obtain ⟨-, e1⟩ := Prod.mk.inj (Option.some.inj (hS1.symm.trans y1))
    rw [← e1] at k1
    obtain ⟨r2, S2', y2, k2⟩ := m_untell (F := F) (G := G) (p1 := nI i) (k1.good hJ.1)
    obtain ⟨-, e2⟩ := Prod.mk.inj (Option.some.inj (hS2.symm.trans y2))
    rw [← e2] at k2
    refine ⟨_, _, _, hS1, hS2, h.ch k1 k2 ?_⟩
    have row : ∀ h, h ≠ 75 → h ≠ 111 → (sI (sI S 75 i (S.1 69 1)) 111 i (S.1 78 75)).1 h = S.1 h := fun h q1 q2 => by
      rw [sI_row q2, sI_row q1]
    refine ⟨nn, n1, n48, xl.fr fun h q => row h (by omega) (by omega), xa.fr (fun h q => row h (by omega) (by omega)) rfl rfl, xb.fr fun h q => row h (by omega) (by omega), ⟨n, n30, w1, w2, fun j hj => ?_⟩⟩
    have c3' := hJ.2.2.2.2
    have t75 := hJ.1.1 78 75 _ _ rfl
    obtain ⟨u1, u2, u3, u4, u5, u6, u7, u8, u9⟩ := w3 j hj
    rw [row 71 (by omega) (by omega), row 72 (by omega) (by omega), row 73 (by omega) (by omega), row 74 (by omega) (by omega), row 108 (by omega) (by omega), row 109 (by omega) (by omega), row 110 (by omega) (by omega), row 112 (by omega) (by omega)]
    refine ⟨u1, u2, u3, u4, ?_, u6, u7, u8, ?_⟩
    · rw [sI_at, if_neg (by omega), sI_at, sI_at]
      by_cases q : j = i
      · rw [if_pos ⟨rfl, q⟩, if_pos ⟨rfl, q⟩]; exact c3'
      · rw [if_neg (by omega), if_neg (by omega), sI_at, if_neg (by omega)]; exact u5
    · rw [sI_at]
      by_cases q : j = i
      · rw [if_pos ⟨rfl, q⟩]; exact ⟨by have := t75.1; omega, t75.2⟩
      · rw [if_neg (by omega), sI_at, if_neg (by omega)]; exact u9
  · refine ⟨0, S, S, ?_, ?_, h⟩
    · unfold fN_untell fI_takeFromNowOn
      rw [if_neg c1, w1, if_neg c2, gd_t g, nI_clamp (by omega), if_neg c3]; rfl
    · unfold fM_untell fM_isIn
      have q : ¬ S.1 111 i < 0 := fun z => c3 (by
        rw [v5]
        rw [Int32.lt_iff_toInt_lt, show (0 : Int32).toInt = 0 from rfl] at z
        apply Int32.toInt_inj.mp
        rw [show (-1 : Int32).toInt = -1 from rfl]
        have := v9.1; omega)
      rw [if_neg c1, w2, if_neg d, bd_some, if_neg (by decide), gd_t g, nI_clamp (by omega), if_neg q]
end WH
