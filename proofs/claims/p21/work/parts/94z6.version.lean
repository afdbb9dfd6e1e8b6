/-! version and child -/
section VC
variable {F G : Nat} {S : St}
theorem hnd_b {q : Nat × Int32 × Int32} {j : Nat} : (hnd q j ≤ 0) ↔ bt (q.2.1 ||| q.2.2) j = false := by
  unfold hnd
  rw [bt_or]
  cases bt q.2.1 j
  · cases bt q.2.2 j
    · rw [if_neg (by decide), if_neg (by decide)]; exact ⟨fun _ => rfl, fun _ => by decide⟩
    · rw [if_neg (by decide), if_pos rfl]; exact ⟨fun z => absurd z (by decide), fun z => absurd z (by decide)⟩
  · rw [if_pos rfl]; exact ⟨fun z => absurd z (by decide), fun z => absurd z (by simp)⟩
theorem version_ok (hF : 100000 ≤ F) (hG : 20 ≤ G) (h : J2 S) (p : Int32) : ∃ v S1 S2, fN_version F G S p = some (v, S1) ∧ fM_version F G S1 p = some (v, S2) ∧ J2 S2 := by
  obtain ⟨nn, bs, nb⟩ := h.nb
  have n10 := nb.1
  have sc := h.1.1.2.1.1
  obtain ⟨np, n', m, -, -, -, -, -, -, -, -, ⟨e1, e1'⟩, ⟨e2, e2'⟩, -⟩ := id h.2.1
  obtain ⟨sp, sp1, sp2⟩ := iv_nat (u := 87) e1'
  obtain ⟨fg, fg1, fg2⟩ := iv_nat (u := 5) ⟨by have := e2'.1; omega, e2'.2⟩
  have fg0 : 1 ≤ fg := by
    have := e2'.1
    rw [fg1, nI_toInt (by omega)] at this; omega
  obtain ⟨q, q1, ql, qr, T, t1, t2, t3, t4, t5, ref⟩ := both_best (F := F) (G := G) hF hG h nb fg0 fg2 sp2
  obtain ⟨W, w1, w2, w3, w4⟩ := ref T t2
  have T50 : T.1 78 50 = nI fg := (t2.2.2.2 78 50 rfl).trans fg1
  have T49 : T.1 78 49 = nI sp := (t2.2.2.2 78 49 rfl).trans sp1
  have lay : fN_layLeastMissed F G S (S.1 S.2.2.1 2) (S.1 S.2.2.1 1) = some T := by rw [e2, e1, fg1, sp1]; exact t1
  have hN : ∀ x, (if p = 0 then some (T.1 56 2, T) else if p = 1 then bd (fJ_bitCount F G T ((T.1 56 3) ||| (T.1 56 4))) (fun v7 => some (v7, T)) else some ((-1 : Int32), T)) = x → fN_version F G S p = x := fun x hx => by
    unfold fN_version
    rw [gd_t sc, lay, bd_some]; exact hx
  by_cases c0 : p = 0
  · refine ⟨nI q.1, T, W, hN _ (by rw [if_pos c0, t3]), ?_, h.q w2⟩
    unfold fM_version
    rw [c0, M_isIn, bd_some, if_neg (by decide), T50, T49, w1, bd2_some, if_pos rfl]
  by_cases c1 : p = 1
  · have s : Sub (q.2.1 ||| q.2.2) nn := ql.or qr
    refine ⟨nI (cnt (bt (q.2.1 ||| q.2.2)) 12), T, W, hN _ (by rw [if_neg c0, if_pos c1, t4, t5, bc_Sub s (by omega), bd_some]), ?_, h.q w2⟩
    unfold fM_version
    rw [c1, M_isIn, bd_some, if_neg (by decide), T50, T49, w1, bd2_some, if_neg (by decide), cnt_12 s (by omega), ← sumI_cnt]
    refine for_sum (N := nn) (k := fun x => some (x, W)) (by omega) (fun i => if bt (q.2.1 ||| q.2.2) i = true then 1 else 0) (fun rec a => by unfold b_M_version_35; rw [w3, if_pos (nI_le (Nat.le_refl nn) (by omega))]) (fun rec a j hj => ?_) (by omega)
    unfold b_M_version_35
    rw [w3, if_neg (nI_ge hj (by omega)), gd_t (inB_nI (by omega) (by decide)), nI_clamp (by omega), w4 j hj, M_truth, bd_some, M_truth, bd_some, if_pos (show (0 : Int32) = 0 from rfl), if_neg (show ¬ (1 : Int32) = 0 by decide)]
    simp only [lt_eq, nI_1]
    cases z : bt (q.2.1 ||| q.2.2) j
    · rw [if_pos (hnd_b.mpr z), if_neg (by decide)]
    · rw [if_neg (fun y => by rw [hnd_b.mp y] at z; exact absurd z (by decide)), if_pos rfl]
  · refine ⟨-1, T, T, hN _ (by rw [if_neg c0, if_neg c1]), ?_, h.q t2⟩
    unfold fM_version
    have out : p < 0 ∨ 1 < p := by
      apply Classical.byContradiction
      intro z
      have z1 := Int32.not_lt.mp (fun y => z (Or.inl y))
      have z2 := Int32.not_lt.mp (fun y => z (Or.inr y))
      rw [Int32.le_iff_toInt_le] at z1 z2
      obtain ⟨x, x1, x2⟩ := iv_nat (x := p) (u := 1) ⟨z1, z2⟩
      rcases (by omega : x = 0 ∨ x = 1) with e | e
      · rw [e] at x1; exact c0 x1
      · rw [e] at x1; exact c1 x1
    rw [M_isIn, bd_some, if_pos (if_pos out)]
theorem child_ok (hF : 100000 ≤ F) (hG : 20 ≤ G) (h : J2 S) (p1 p2 : Int32) : ∃ v S1 S2, fN_child F G S p1 p2 = some (v, S1) ∧ fM_child F G S1 p1 p2 = some (v, S2) ∧ J2 S2 := by
  obtain ⟨nn, bs, nb⟩ := h.nb
  have z12 : Inv S (sI S 0 12 0) := (Inv.rf h.1.1).st rfl rfl ⟨by decide, by decide⟩
  have z68 : ∀ {X : St}, Inv S X → Inv S (sI X 78 68 0) := fun {X} i => i.st rfl rfl ⟨by decide, by decide⟩
  by_cases c1 : p1 < 1
  · refine ⟨-1, sI S 0 12 0, sI (sI S 0 12 0) 78 68 0, ?_, ?_, h.q (z68 z12)⟩
    · unfold fN_child; rw [if_pos c1, lt_eq]
    · unfold fM_child; rw [lt_eq, M_isIn, bd_some, if_pos (in_y1 c1)]
  by_cases c2 : 5 < p1
  · refine ⟨-1, sI S 0 12 0, sI (sI S 0 12 0) 78 68 0, ?_, ?_, h.q (z68 z12)⟩
    · unfold fN_child; rw [if_neg c1, if_pos c2, lt_eq]
    · unfold fM_child; rw [lt_eq, M_isIn, bd_some, if_pos (in_y2 c2)]
  by_cases c3 : p2 < 0 ∨ 87 < p2
  · refine ⟨-1, sI S 0 12 0, sI (sI S 0 12 0) 78 68 0, ?_, ?_, h.q (z68 z12)⟩
    · unfold fN_child; rw [if_neg c1, if_neg c2, isKey_v, bd_some, if_pos c3, if_pos rfl, lt_eq]
    · unfold fM_child; rw [lt_eq, M_isIn, bd_some, if_neg (in_no c1 c2), M_isIn, bd_some, if_pos c3, if_pos rfl]
  · have i1 : iv p1 1 5 := iv_in c1 c2
    obtain ⟨fg, fg1, fg2⟩ := iv_nat (x := p1) (u := 5) ⟨by have := i1.1; omega, i1.2⟩
    have fg0 : 1 ≤ fg := by
      have := i1.1
      rw [fg1, nI_toInt (by omega)] at this; omega
    obtain ⟨sp, sp1, sp2⟩ := iv_nat (x := p2) (u := 87) (key_iv c3)
    subst fg1; subst sp1
    obtain ⟨q, q1, ql, qr, T, t1, t2, t3, t4, t5, ref⟩ := both_best (F := F) (G := G) hF hG h nb fg0 fg2 sp2
    obtain ⟨W, w1, w2, -, -⟩ := ref (sI T 78 68 0) (z68 t2)
    refine ⟨nI q.1, T, W, ?_, ?_, h.q w2⟩
    · unfold fN_child
      rw [if_neg c1, if_neg c2, isKey_v, bd_some, if_neg c3, if_neg (by decide), t1, bd_some, t3]
    · unfold fM_child
      rw [lt_eq, M_isIn, bd_some, if_neg (in_no c1 c2), M_isIn, bd_some, if_neg c3, if_neg (by decide), w1, bd2_some]
end VC
