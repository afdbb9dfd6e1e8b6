/-! UNDO, REDO, and the five acts: both sides -/
section UR
variable {F G : Nat} {S : St}
theorem M_ex_x (hF : 100000 ≤ F) {x : Nat} (hx : x ≤ 39) {v : Int32} (hv : v = nI x) : ∃ T, fM_exchange F G S (41 * v) = some T ∧ (∀ k, k < 41 → T.1 104 (41 * x + k) = S.1 100 k ∧ T.1 100 k = S.1 104 (41 * x + k)) ∧ (∀ m, m < 41 * x ∨ 41 * x + 41 ≤ m → T.1 104 m = S.1 104 m) ∧ ∀ h, h ≠ 104 → h ≠ 100 → T.1 h = S.1 h := by
  unfold fM_exchange
  rw [hv, show (41 : Int32) * nI x = nI (41 * x) by rw [show (41 : Int32) = nI 41 from rfl, nI_mulN]]
  obtain ⟨U, e1, e2, e3, e4, e5⟩ := cp2 (bod := b_M_exchange_2 F G (nI (41 * x))) (k := fun S => some S) (N := 41) (fun n U => (∀ k, k < n → U.1 104 (41 * x + k) = S.1 100 k ∧ U.1 100 k = S.1 104 (41 * x + k)) ∧ (∀ k, n ≤ k → k < 41 → U.1 104 (41 * x + k) = S.1 104 (41 * x + k) ∧ U.1 100 k = S.1 100 k) ∧ (∀ m, m < 41 * x ∨ 41 * x + 41 ≤ m → U.1 104 m = S.1 104 m) ∧ ∀ h, h ≠ 104 → h ≠ 100 → U.1 h = S.1 h)
    (fun rec U _ => by
      unfold b_M_exchange_2
      rw [if_pos (by decide)])
    (fun rec i U hi hP => by
      obtain ⟨p1, p2, p3, p4⟩ := hP
      unfold b_M_exchange_2
      have g1 : inB (nI (41 * x + i)) 1640 = true := inB_nI (by omega) (by decide)
      have g2 : inB (nI i) 41 = true := inB_nI hi (by decide)
      have n1 : (nI (41 * x + i)).toNatClampNeg = 41 * x + i := nI_clamp (by omega)
      have n2 : (nI i).toNatClampNeg = i := nI_clamp (by omega)
      rw [if_neg (show ¬ (41 : Int32) ≤ nI i from nI_ge (b := 41) hi (by decide)), nI_add]
      simp only [lt_eq, gd_t g1, gd_t g2, nI_1, n1, n2]
      refine ⟨_, rfl, fun k hk => ?_, fun k k1 k2 => ?_, fun m hm => ?_, fun h q1 q2 => ?_⟩
      · by_cases z : k = i
        · subst z
          refine ⟨?_, ?_⟩
          · rw [sI_at, if_neg (by omega), sI_self]; exact (p2 k (Nat.le_refl _) hi).2
          · rw [sI_self]; exact (p2 k (Nat.le_refl _) hi).1
        · refine ⟨?_, ?_⟩
          · rw [sI_at, if_neg (by omega), sI_at, if_neg (by omega)]; exact (p1 k (by omega)).1
          · rw [sI_at, if_neg (by omega), sI_at, if_neg (by omega)]; exact (p1 k (by omega)).2
      · refine ⟨?_, ?_⟩
        · rw [sI_at, if_neg (by omega), sI_at, if_neg (by omega)]; exact (p2 k (by omega) k2).1
        · rw [sI_at, if_neg (by omega), sI_at, if_neg (by omega)]; exact (p2 k (by omega) k2).2
      · rw [sI_at, if_neg (by omega), sI_at, if_neg (by omega)]; exact p3 m hm
      · rw [sI_row q2, sI_row q1]; exact p4 h q1 q2)
    41 0 F S rfl (by omega) (by omega) ⟨fun k hk => by omega, fun _ _ _ => ⟨rfl, rfl⟩, fun _ _ => rfl, fun _ _ _ => rfl⟩
  exact ⟨U, e1, e2, e4, e5⟩
/-- the class puts a value; the reference goes to the laying beside: from W a to W b -/
theorem move_x {S2 : St} {nn a b t c : Nat} {x : Int32} {q i : Nat} (hn : nn ≤ 10) (h48 : S2.1 78 48 = nI nn) (xl : CpL nn S) (xb : CpB nn S) (xw : CpW S) (hat : a ≤ t) (hbt : b ≤ t) (ht : t ≤ 40) (ch : Chn nn t (S.1 52) (S.1 53) (S.1 54) (S.1 55) (wr S a))
    (hq : q ≤ 4) (h4 : q < 4 → i < nn) (hc : c = cix q i)
    (hb : wr S a b c = x) (hab : ∀ k, k ≤ 40 → k ≠ c → wr S a b k = wr S a a k)
    (hw : ∀ j, j ≤ t → ∀ k, k ≤ 40 → wr S2 b j k = wr S a j k)
    (e0 : S2.1 51 0 = nI b) (e1 : S2.1 51 1 = nI t) (e2 : S2.1 78 63 = nI b) (e3 : S2.1 78 64 = nI (t - b))
    (el : ∀ k, k ≤ 40 → lo S2 30 k = if k = c then x else lo S 30 k)
    (er : ∀ h, ¬ (30 ≤ h ∧ h ≤ 34) → h ≠ 51 → h ≠ 78 → h ≠ 100 → h ≠ 104 → S2.1 h = S.1 h) (e74 : S2.1 78 74 = S.1 78 74) : CpX S2 := by
  have c40 : c ≤ 40 := by rw [hc]; exact cix_le (fun z => Nat.lt_of_lt_of_le (h4 z) hn) hq
  have wa : ∀ k, wr S a a k = S.1 100 k := fun k => by unfold wr; rw [if_neg (by omega), if_pos rfl]
  have wb : ∀ k, wr S2 b b k = S2.1 100 k := fun k => by unfold wr; rw [if_neg (by omega), if_pos rfl]
  have f100 : ∀ k, k ≤ 40 → S2.1 100 k = wr S a b k := fun k hk => by rw [← wb k, hw b hbt k hk]
  have e100 : ∀ k, k ≤ 40 → S2.1 100 k = if k = cix q i then x else S.1 100 k := fun k hk => by
    rw [f100 k hk, ← hc]
    by_cases z : k = c
    · rw [if_pos z, z]; exact hb
    · rw [if_neg z, hab k hk z, wa]
  have vl : VL nn (S2.1 100) := (ch.1 b hbt).c f100
  have el' : ∀ k, k ≤ 40 → lo S2 30 k = if k = cix q i then x else lo S 30 k := by rw [← hc]; exact el
  refine ⟨nn, hn, h48, ⟨vl, xl.2.u hn hq h4 el' e100⟩, ⟨b, t, hbt, ht, e0, e1, e2, e3, ?_⟩, xb.fr fun h z => er h (by omega) (by omega) (by omega) (by omega) (by omega), xw.fr (fun h z => er h (by omega) (by omega) (by omega) (by omega) (by omega)) ?_ e74⟩
  · rw [er 52 (by omega) (by omega) (by omega) (by omega) (by omega), er 53 (by omega) (by omega) (by omega) (by omega) (by omega), er 54 (by omega) (by omega) (by omega) (by omega) (by omega), er 55 (by omega) (by omega) (by omega) (by omega) (by omega)]
    exact ch.c hn (fun _ _ => ⟨rfl, rfl, rfl, rfl⟩) hw
  · rw [er 69 (by omega) (by omega) (by omega) (by omega) (by omega)]
theorem undo_2 (hF : 100000 ≤ F) (h : J2 S) : ∃ v S1 S2, fN_undo F G S = some (v, S1) ∧ fM_undo F G S1 = some (v, S2) ∧ J2 S2 := by
  obtain ⟨hJ, h3, nn, n1, n48, xl, ⟨a, t, a1, a2, a3, a4, a5, a6, chn⟩, xb, xw⟩ := id h
  by_cases z : a = 0
  · subst z
    refine ⟨0, S, S, ?_, ?_, h⟩
    · unfold fN_undo fC_takeBack
      rw [gd_t (show isLa 30 = true from rfl), a3, if_neg (by decide)]; rfl
    · unfold fM_undo
      rw [a5, if_pos (show nI 0 = (0 : Int32) from rfl)]
  obtain ⟨q, i, c1, c2, c3, c4, c5, c6, c7⟩ := chn.2 (a - 1) (by omega)
  have h4 : q < 4 → i < 10 := fun z => Nat.lt_of_lt_of_le (c5 z) n1
  rw [show a - 1 + 1 = a by omega] at c7
  have hch := ch_le c3
  have g : inB (nI (a - 1)) 40 = true := inB_nI (by omega) (by decide)
  have hs : nI a - 1 = nI (a - 1) := nI_subN (b := 1) (by omega) (by omega)
  have hS1 : fN_undo F G S = some (1, sI (sI S 51 0 (nI (a - 1))) (ch q) (ck q i) (S.1 54 (a - 1))) := by
    unfold fN_undo fC_takeBack
    rw [gd_t (show isLa 30 = true from rfl), a3, if_pos (show (0 : Int32) < nI a by rw [Int32.lt_iff_toInt_lt, nI_toInt (by omega)]; show (0 : Int) < a; omega), lt_eq, hs, sI_self, gd_t g, gd_t g, gd_t g, nI_clamp (by omega), sI_at, if_neg (by omega), sI_at, if_neg (by omega), sI_at, if_neg (by omega), c1, c2, put_x c3 c4 h4]; rfl
  obtain ⟨r1, S1', y1, k1⟩ := c_undo (F := F) (G := G) hJ.1
  obtain ⟨-, e1⟩ := Prod.mk.inj (Option.some.inj (hS1.symm.trans y1))
  rw [← e1] at k1
  obtain ⟨r2, S2, y2, k2⟩ := m_undo (F := F) (G := G) hF (k1.good hJ.1)
  have row1 : ∀ h, ¬ (30 ≤ h ∧ h ≤ 34) → h ≠ 51 → (sI (sI S 51 0 (nI (a - 1))) (ch q) (ck q i) (S.1 54 (a - 1))).1 h = S.1 h := fun h q1 q2 => by rw [sI_row (by omega), sI_row q2]
  have y2' := y2
  unfold fM_undo at y2'
  rw [row1 78 (by omega) (by omega), a5, if_neg (show ¬ nI a = (0 : Int32) from fun w => z ((nI_eq (a := a) (b := 0) (by omega) (by omega)).mp w)), lt_eq, lt_eq, hs, sI_at, if_neg (by omega), row1 78 (by omega) (by omega), a6, nI_1] at y2'
  obtain ⟨T, t1, t2, t3, t4⟩ := M_ex_x (F := F) (G := G) (S := sI (sI (sI (sI S 51 0 (nI (a - 1))) (ch q) (ck q i) (S.1 54 (a - 1))) 78 63 (nI (a - 1))) 78 64 (nI (t - a + 1))) hF (x := a - 1) (by omega) (v := (sI (sI (sI (sI S 51 0 (nI (a - 1))) (ch q) (ck q i) (S.1 54 (a - 1))) 78 63 (nI (a - 1))) 78 64 (nI (t - a + 1))).1 78 63) (by rw [sI_at, if_neg (by omega), sI_self])
  rw [t1, bd_some] at y2'
  obtain ⟨rfl, rfl⟩ := Prod.mk.inj (Option.some.inj y2')
  refine ⟨_, _, _, hS1, y2, h.ch k1 k2 ?_⟩
  have b104 : ∀ m, (sI (sI (sI (sI S 51 0 (nI (a - 1))) (ch q) (ck q i) (S.1 54 (a - 1))) 78 63 (nI (a - 1))) 78 64 (nI (t - a + 1))).1 104 m = S.1 104 m := fun m => by rw [sI_row (by omega), sI_row (by omega), row1 104 (by omega) (by omega)]
  have b100 : ∀ m, (sI (sI (sI (sI S 51 0 (nI (a - 1))) (ch q) (ck q i) (S.1 54 (a - 1))) 78 63 (nI (a - 1))) 78 64 (nI (t - a + 1))).1 100 m = S.1 100 m := fun m => by rw [sI_row (by omega), sI_row (by omega), row1 100 (by omega) (by omega)]
  have rowT : ∀ h, h ≠ 78 → h ≠ 100 → h ≠ 104 → T.1 h = (sI (sI S 51 0 (nI (a - 1))) (ch q) (ck q i) (S.1 54 (a - 1))).1 h := fun h q1 q2 q3 => by rw [t4 h q3 q2, sI_row q1, sI_row q1]
  refine move_x (S := S) (a := a) (b := a - 1) (t := t) (c := cix q i) (x := S.1 54 (a - 1)) (q := q) (i := i) n1 ?_ xl xb xw a1 (by omega) a2 chn c3 c5 rfl c6 (fun k hk w => ?_) (fun j hj k hk => ?_) ?_ ?_ ?_ ?_ (fun k hk => ?_) (fun h q1 q2 q3 q4 q5 => ?_) ?_
  · rw [t4 78 (by omega) (by omega), sI_at, if_neg (by omega), sI_at, if_neg (by omega), row1 78 (by omega) (by omega)]; exact n48
  · have := c7 k hk
    rw [if_neg w] at this
    exact this.symm
  · unfold wr
    by_cases j1 : j < a - 1
    · rw [if_pos j1, if_pos (by omega), t3 _ (by omega), b104]
    · rw [if_neg j1]
      by_cases j2 : j = a - 1
      · rw [if_pos j2, if_pos (by omega), (t2 k (by omega)).2, b104, j2]
      · rw [if_neg j2, if_neg (by omega)]
        by_cases j3 : j = a
        · rw [if_pos j3, j3, (t2 k (by omega)).1, b100]
        · rw [if_neg j3, t3 _ (by omega), b104]
  · rw [rowT 51 (by omega) (by omega) (by omega), sI_at, if_neg (by omega), sI_self]
  · rw [rowT 51 (by omega) (by omega) (by omega), sI_at, if_neg (by omega), sI_at, if_neg (by omega)]; exact a4
  · rw [t4 78 (by omega) (by omega), sI_at, if_neg (by omega), sI_self]
  · rw [t4 78 (by omega) (by omega), sI_self, show t - (a - 1) = t - a + 1 by omega]
  · rw [lo_row (S := sI (sI S 51 0 (nI (a - 1))) (ch q) (ck q i) (S.1 54 (a - 1))) (o := 30) (fun h q1 q2 => rowT h (by omega) (by omega) (by omega)), lo_put c3 h4 hk, lo_row (S := S) (o := 30) (fun h q1 q2 => sI_row (by omega))]
  · rw [rowT h q3 q4 q5]; exact row1 h q1 q2
  · rw [t4 78 (by omega) (by omega), sI_at, if_neg (by omega), sI_at, if_neg (by omega), row1 78 (by omega) (by omega)]
theorem redo_2 (hF : 100000 ≤ F) (h : J2 S) : ∃ v S1 S2, fN_redo F G S = some (v, S1) ∧ fM_redo F G S1 = some (v, S2) ∧ J2 S2 := by
  obtain ⟨hJ, h3, nn, n1, n48, xl, ⟨a, t, a1, a2, a3, a4, a5, a6, chn⟩, xb, xw⟩ := id h
  by_cases z : a = t
  · refine ⟨0, S, S, ?_, ?_, h⟩
    · unfold fN_redo fC_doAgain
      rw [gd_t (show isLa 30 = true from rfl), a3, a4, z, if_neg (show ¬ nI t < nI t from fun w => by rw [Int32.lt_iff_toInt_lt] at w; omega)]; rfl
    · unfold fM_redo
      rw [a6, show t - a = 0 by omega, if_pos (show nI 0 = (0 : Int32) from rfl)]
  obtain ⟨q, i, c1, c2, c3, c4, c5, c6, c7⟩ := chn.2 a (by omega)
  have h4 : q < 4 → i < 10 := fun z => Nat.lt_of_lt_of_le (c5 z) n1
  have hch := ch_le c3
  have g : inB (nI a) 40 = true := inB_nI (by omega) (by decide)
  have row0 : ∀ h, ¬ (30 ≤ h ∧ h ≤ 34) → (sI S (ch q) (ck q i) (S.1 55 a)).1 h = S.1 h := fun h q1 => by rw [sI_row (by omega)]
  have hS1 : fN_redo F G S = some (1, sI (sI S (ch q) (ck q i) (S.1 55 a)) 51 0 (nI (a + 1))) := by
    unfold fN_redo fC_doAgain
    rw [gd_t (show isLa 30 = true from rfl), a3, a4, if_pos (show nI a < nI t by rw [Int32.lt_iff_toInt_lt, nI_toInt (by omega), nI_toInt (by omega)]; omega), gd_t g, gd_t g, gd_t g, nI_clamp (by omega), c1, c2, put_x c3 c4 h4, bd_some, lt_eq, row0 51 (by omega), a3, nI_1]; rfl
  obtain ⟨r1, S1', y1, k1⟩ := c_redo (F := F) (G := G) hJ.1
  obtain ⟨-, e1⟩ := Prod.mk.inj (Option.some.inj (hS1.symm.trans y1))
  rw [← e1] at k1
  obtain ⟨r2, S2, y2, k2⟩ := m_redo (F := F) (G := G) hF (k1.good hJ.1)
  have row1 : ∀ h, ¬ (30 ≤ h ∧ h ≤ 34) → h ≠ 51 → (sI (sI S (ch q) (ck q i) (S.1 55 a)) 51 0 (nI (a + 1))).1 h = S.1 h := fun h q1 q2 => by rw [sI_row q2, row0 h q1]
  have y2' := y2
  unfold fM_redo at y2'
  obtain ⟨T, t1, t2, t3, t4⟩ := M_ex_x (F := F) (G := G) (S := sI (sI S (ch q) (ck q i) (S.1 55 a)) 51 0 (nI (a + 1))) hF (x := a) (by omega) (v := nI a) rfl
  rw [row1 78 (by omega) (by omega), a6, if_neg (show ¬ nI (t - a) = (0 : Int32) from fun w => by have := (nI_eq (a := t - a) (b := 0) (by omega) (by omega)).mp w; omega), a5, t1, bd_some, lt_eq, lt_eq, t4 78 (by omega) (by omega), row1 78 (by omega) (by omega), a5, nI_1, sI_at, if_neg (by omega), t4 78 (by omega) (by omega), row1 78 (by omega) (by omega), a6, show nI (t - a) - 1 = nI (t - a - 1) from nI_subN (b := 1) (by omega) (by omega)] at y2'
  obtain ⟨rfl, rfl⟩ := Prod.mk.inj (Option.some.inj y2')
  refine ⟨_, _, _, hS1, y2, h.ch k1 k2 ?_⟩
  have rowT : ∀ h, h ≠ 78 → h ≠ 100 → h ≠ 104 → (sI (sI T 78 63 (nI (a + 1))) 78 64 (nI (t - a - 1))).1 h = (sI (sI S (ch q) (ck q i) (S.1 55 a)) 51 0 (nI (a + 1))).1 h := fun h q1 q2 q3 => by rw [sI_row q1, sI_row q1, t4 h q3 q2]
  have b104 : ∀ m, (sI (sI T 78 63 (nI (a + 1))) 78 64 (nI (t - a - 1))).1 104 m = T.1 104 m := fun m => by rw [sI_row (by omega), sI_row (by omega)]
  have b100 : ∀ m, (sI (sI T 78 63 (nI (a + 1))) 78 64 (nI (t - a - 1))).1 100 m = T.1 100 m := fun m => by rw [sI_row (by omega), sI_row (by omega)]
  have s104 := fun m => congrFun (row1 104 (by omega) (by omega)) m
  have s100 := fun m => congrFun (row1 100 (by omega) (by omega)) m
  refine move_x (S := S) (a := a) (b := a + 1) (t := t) (c := cix q i) (x := S.1 55 a) (q := q) (i := i) n1 ?_ xl xb xw a1 (by omega) a2 chn c3 c5 rfl ?_ (fun k hk w => ?_) (fun j hj k hk => ?_) ?_ ?_ ?_ ?_ (fun k hk => ?_) (fun h q1 q2 q3 q4 q5 => ?_) ?_
  · rw [sI_at, if_neg (by omega), sI_at, if_neg (by omega), t4 78 (by omega) (by omega), row1 78 (by omega) (by omega)]; exact n48
  · rw [c7 _ (cix_le h4 c3), if_pos rfl]
  · rw [c7 k hk, if_neg w]
  · unfold wr
    by_cases j1 : j < a
    · rw [if_pos (by omega), if_pos j1, b104, t3 _ (by omega), s104]
    · rw [if_neg j1]
      by_cases j2 : j = a
      · rw [if_pos (by omega), if_pos j2, b104, j2, (t2 k (by omega)).1, s100]
      · rw [if_neg (by omega), if_neg j2]
        by_cases j3 : j = a + 1
        · rw [if_pos j3, b100, (t2 k (by omega)).2, s104, j3, show a + 1 - 1 = a by omega]
        · rw [if_neg j3, b104, t3 _ (by omega), s104]
  · rw [rowT 51 (by omega) (by omega) (by omega), sI_self]
  · rw [rowT 51 (by omega) (by omega) (by omega), sI_at, if_neg (by omega), row0 51 (by omega)]; exact a4
  · rw [sI_at, if_neg (by omega), sI_self]
  · rw [sI_self, show t - (a + 1) = t - a - 1 by omega]
  · rw [lo_row (S := sI S (ch q) (ck q i) (S.1 55 a)) (o := 30) (fun h q1 q2 => by rw [rowT h (by omega) (by omega) (by omega), sI_row (by omega)]), lo_put c3 h4 hk]
  · rw [rowT h q3 q4 q5]; exact row1 h q1 q2
  · rw [sI_at, if_neg (by omega), sI_at, if_neg (by omega), t4 78 (by omega) (by omega), row1 78 (by omega) (by omega)]
end UR
