/-! FEED, END, LATER: class and reference answer alike -/
theorem and255 (x : Int32) : ∃ c, c < 256 ∧ x &&& 255 = nI c := by
  refine ⟨(x &&& 255).toBitVec.toNat, ?_, ?_⟩
  · rw [Int32.toBitVec_and, BitVec.toNat_and]
    exact Nat.lt_of_le_of_lt Nat.and_le_right (by decide)
  · apply Int32.toBitVec_inj.mp
    show _ = BitVec.ofNat 32 _
    simp
theorem byte255 (x : Int32) : vp_nar .byte x.toInt8.toInt32 = (x &&& 255).toInt8.toInt32 := by
  rw [vp_nar_byte, Int32.toInt8_and, show (255 : Int32).toInt8 = -1 from rfl, Int8.and_neg_one]
  simp
def Tw (n : Nat) (A B : St) : Prop := A.1 2 0 = nI n ∧ B.1 78 1 = nI n ∧ n ≤ 1600 ∧ ∀ k, k < n → ∃ c, c < 256 ∧ A.1 3 k = (nI c).toInt8.toInt32 ∧ B.1 79 k = nI c
section FD
variable {F G n : Nat} {A B S : St}
theorem Tw1 (h : Tw n A B) (hn : n < 1600) {z w : Int32} (hw : ¬ w < 0) : ∃ A' B', (∀ rec, b_T_putFourBytes_3 F G z rec w A = rec (w + (-8)) A') ∧ (∀ rec, b_M_four_3 F G z rec w B = rec (w + (-8)) B') ∧ Tw (n + 1) A' B' ∧ KpT A A' ∧ KpM B B' := by
  obtain ⟨h1, h2, h3, h4⟩ := h
  obtain ⟨c, c1, c2⟩ := and255 (z >>> (w &&& 31))
  refine ⟨sI (sI A 3 n (vp_nar .byte ((z >>> (w &&& 31)).toInt8.toInt32))) 2 0 (nI (n + 1)), sI (sI B 79 n ((z >>> (w &&& 31)) &&& (255 : Int32))) 78 1 (nI (n + 1)), fun rec => ?_, fun rec => ?_, ⟨sI_self, sI_self, by omega, fun k hk => ?_⟩, ⟨rfl, fun h q1 q2 => ?_, fun k hk => ?_⟩, ⟨rfl, fun h q1 q2 => ?_, fun k hk => ?_⟩⟩
  · unfold b_T_putFourBytes_3
    rw [if_neg hw, h1, show (1600 : Int32) = nI 1600 from rfl, if_neg (nI_ge hn (by decide)), gd_t (inB_nI hn (by decide)), lt_eq, lt_eq, lt_eq, nI_clamp (by omega), show (sI A 3 n (vp_nar .byte ((z >>> (w &&& 31)).toInt8.toInt32))).1 2 0 = A.1 2 0 from rfl, h1, nI_1]
  · unfold b_M_four_3
    rw [if_neg hw, h2, gd_t (inB_nI hn (by decide)), lt_eq, lt_eq, lt_eq, nI_clamp (by omega), show (sI B 79 n ((z >>> (w &&& 31)) &&& (255 : Int32))).1 78 1 = B.1 78 1 from rfl, h2, nI_1]
  · by_cases e : k = n
    · subst e
      refine ⟨c, c1, ?_, ?_⟩
      · rw [sI_at, if_neg (by omega), sI_self, byte255, c2]
      · rw [sI_at, if_neg (by omega), sI_self, c2]
    · obtain ⟨c', d1, d2, d3⟩ := h4 k (by omega)
      refine ⟨c', d1, ?_, ?_⟩
      · rw [sI_at, if_neg (by omega), sI_at, if_neg (by omega)]; exact d2
      · rw [sI_at, if_neg (by omega), sI_at, if_neg (by omega)]; exact d3
  · simp [sI, q1, q2]
  · simp [sI, upd, hk]
  · simp [sI, q1, q2]
  · simp [sI, upd, hk]
theorem Tw4 (hF : 4 < F) (h : Tw n A B) (hn : n + 4 ≤ 1600) (z : Int32) : ∃ A' B', fT_putFourBytes F G A z = some A' ∧ fM_four F G B z = some B' ∧ Tw (n + 4) A' B' ∧ KpT A A' ∧ KpM B B' := by
  unfold fT_putFourBytes fM_four
  obtain ⟨g, hg⟩ : ∃ g, F = g + 5 := ⟨F - 5, by omega⟩
  obtain ⟨A1, B1, a1, b1, n1, k1, l1⟩ := Tw1 (F := F) (G := G) (z := z) (w := 24) h (by omega) (by decide)
  obtain ⟨A2, B2, a2, b2, n2, k2, l2⟩ := Tw1 (F := F) (G := G) (z := z) (w := 24 + (-8)) n1 (by omega) (by decide)
  obtain ⟨A3, B3, a3, b3, n3, k3, l3⟩ := Tw1 (F := F) (G := G) (z := z) (w := 24 + (-8) + (-8)) n2 (by omega) (by decide)
  obtain ⟨A4, B4, a4, b4, n4, k4, l4⟩ := Tw1 (F := F) (G := G) (z := z) (w := 24 + (-8) + (-8) + (-8)) n3 (by omega) (by decide)
  refine ⟨A4, B4, ?_, ?_, n4, ((k1.tr k2).tr k3).tr k4, ((l1.tr l2).tr l3).tr l4⟩
  · have k : ∀ f, f = g + 5 → fx2 (b_T_putFourBytes_3 F G z) f 24 A = some A4 := by
      rintro _ rfl
      rw [fx2_s, a1, fx2_s, a2, fx2_s, a3, fx2_s, a4, fx2_s]
      unfold b_T_putFourBytes_3
      exact if_pos (by decide)
    exact k F hg
  · have k : ∀ f, f = g + 5 → fx2 (b_M_four_3 F G z) f 24 B = some B4 := by
      rintro _ rfl
      rw [fx2_s, b1, fx2_s, b2, fx2_s, b3, fx2_s, b4, fx2_s]
      unfold b_M_four_3
      exact if_pos (by decide)
    exact k F hg
theorem Tw20 (hF : 4 < F) (h : Tw n A B) (a b c d e : Int32) : ∃ v n' A' B', fN_feed F G A a b c d e = some (v, A') ∧ fM_feed F G B a b c d e = some (v, B') ∧ Tw n' A' B' ∧ KpT A A' ∧ KpM B B' := by
  unfold fN_feed fM_feed
  rw [h.1, h.2.1, show (20 : Int32) = nI 20 from rfl, nI_add, show (1600 : Int32) = nI 1600 from rfl]
  by_cases hh : n + 20 ≤ 1600
  · rw [if_pos (nI_le hh (by decide)), if_pos (nI_le hh (by decide))]
    obtain ⟨A1, B1, a1, b1, n1, k1, l1⟩ := Tw4 (G := G) hF h (by omega) a
    obtain ⟨A2, B2, a2, b2, n2, k2, l2⟩ := Tw4 (G := G) hF n1 (by omega) b
    obtain ⟨A3, B3, a3, b3, n3, k3, l3⟩ := Tw4 (G := G) hF n2 (by omega) c
    obtain ⟨A4, B4, a4, b4, n4, k4, l4⟩ := Tw4 (G := G) hF n3 (by omega) d
    obtain ⟨A5, B5, a5, b5, n5, k5, l5⟩ := Tw4 (G := G) hF n4 (by omega) e
    refine ⟨A5.1 2 0, _, A5, B5, ?_, ?_, n5, (((k1.tr k2).tr k3).tr k4).tr k5, (((l1.tr l2).tr l3).tr l4).tr l5⟩
    · rw [a1, bd_some, a2, bd_some, a3, bd_some, a4, bd_some, a5, bd_some]
    · rw [b1, bd_some, b2, bd_some, b3, bd_some, b4, bd_some, b5, bd_some, n5.1, n5.2.1]
  · rw [if_neg (nI_ge (by omega) (by have := h.2.2.1; omega)), if_neg (nI_ge (by omega) (by have := h.2.2.1; omega))]
    exact ⟨_, n, A, B, rfl, rfl, h, ⟨rfl, fun _ _ _ => rfl, fun _ _ => rfl⟩, ⟨rfl, fun _ _ _ => rfl, fun _ _ => rfl⟩⟩
theorem CpT.tw (h : CpT S) : ∃ n, Tw n S S := by
  obtain ⟨n, b, ⟨t1, t2, t3⟩, t4, t5⟩ := h
  exact ⟨n, t1, t4, t2, fun k hk => ⟨b k, (t3 k hk).1, (t3 k hk).2, (t5 k hk).2⟩⟩
theorem Tw.cp (h : Tw n S S) : CpT S := by
  obtain ⟨h1, h2, h3, h4⟩ := h
  refine ⟨n, fun k => (S.1 79 k).toNatClampNeg, ⟨h1, h3, fun k hk => ?_⟩, h2, fun k hk => ?_⟩
  · obtain ⟨c, c1, c2, c3⟩ := h4 k hk
    show (S.1 79 k).toNatClampNeg < 256 ∧ S.1 3 k = (nI (S.1 79 k).toNatClampNeg).toInt8.toInt32
    rw [c3, nI_clamp (by omega)]; exact ⟨c1, c2⟩
  · obtain ⟨c, c1, c2, c3⟩ := h4 k hk
    show (S.1 79 k).toNatClampNeg < 256 ∧ S.1 79 k = nI (S.1 79 k).toNatClampNeg
    rw [c3, nI_clamp (by omega)]; exact ⟨c1, rfl⟩
/-- tape cells changed, all else kept -/
theorem J.tape {S2 : St} (hJ : J S) (e2 : S2.2 = S.2) (hT : Tw n S2 S2) (fr : ∀ h k, h ≠ 3 → h ≠ 79 → ¬ (h = 2 ∧ k = 0) → ¬ (h = 78 ∧ k = 1) → S2.1 h k = S.1 h k) : J S2 := by
  obtain ⟨⟨b1, ⟨t1, t2, t3⟩, w1, a1⟩, -, c1, c2, c3⟩ := hJ
  refine ⟨⟨fun h k l u e => ?_, ?_, w1.c (fr _ _ (by omega) (by omega) (by omega) (by omega)) (fun k => fr _ _ (by omega) (by omega) (by omega) (by omega)) (fun k => fr _ _ (by omega) (by omega) (by omega) (by omega)), ?_⟩, hT.cp, ?_, ?_, ?_⟩
  · by_cases q1 : h = 2 ∧ k = 0
    · obtain ⟨rfl, rfl⟩ := q1
      cases e
      exact iv_nz (u := 1600) hT.1 hT.2.2.1 (by decide)
    by_cases q2 : h = 78 ∧ k = 1
    · obtain ⟨rfl, rfl⟩ := q2
      cases e
      exact iv_nz (u := 1600) hT.2.1 hT.2.2.1 (by decide)
    by_cases q3 : h = 3
    · subst q3; cases e
    by_cases q4 : h = 79
    · subst q4; cases e
    rw [fr h k q3 q4 q1 q2]; exact b1 h k l u e
  · rw [Told, e2]
    refine ⟨t1, t2, ?_⟩
    have hdd := isSc_or t1
    rw [fr _ _ (by omega) (by omega) (by omega) (by omega)]; exact t3
  · rw [ActM, fr _ _ (by omega) (by omega) (by omega) (by omega), fr _ _ (by omega) (by omega) (by omega) (by omega)]; exact a1
  · rw [fr _ _ (by omega) (by omega) (by omega) (by omega), fr _ _ (by omega) (by omega) (by omega) (by omega)]; exact c1
  · rw [fr _ _ (by omega) (by omega) (by omega) (by omega), fr _ _ (by omega) (by omega) (by omega) (by omega)]; exact c2
  · rw [fr _ _ (by omega) (by omega) (by omega) (by omega), fr _ _ (by omega) (by omega) (by omega) (by omega)]; exact c3
theorem feed_ok (hF : 100000 ≤ F) (hJ : J S) (a b c d e : Int32) : ∃ v S1 S2, fN_feed F G S a b c d e = some (v, S1) ∧ fM_feed F G S1 a b c d e = some (v, S2) ∧ J S2 := by
  obtain ⟨n, h⟩ := hJ.2.1.tw
  obtain ⟨v0, n0, S1, B0, p1, -, -, p2, -⟩ := Tw20 (F := F) (G := G) (by omega) h a b c d e
  have h' : Tw n S S1 := ⟨h.1, by rw [p2.2.1 78 (by omega) (by omega)]; exact h.2.1, h.2.2.1, fun k hk => by rw [p2.2.1 79 (by omega) (by omega)]; exact h.2.2.2 k hk⟩
  obtain ⟨v, n', S1', S2, q1, q2, q3, q4, q5⟩ := Tw20 (F := F) (G := G) (by omega) h' a b c d e
  obtain ⟨rfl, rfl⟩ := Prod.mk.inj (Option.some.inj (p1.symm.trans q1))
  have q3' : Tw n' S2 S2 := by
    obtain ⟨z1, z2, z3, z4⟩ := q3
    exact ⟨by rw [q5.2.1 2 (by omega) (by omega)]; exact z1, z2, z3, fun k hk => by rw [q5.2.1 3 (by omega) (by omega)]; exact z4 k hk⟩
  refine ⟨_, S1, S2, q1, q2, hJ.tape (q5.1.trans p2.1) q3' fun h k r1 r2 r3 r4 => ?_⟩
  have i1 : S2.1 h k = S1.1 h k := by
    by_cases z : h = 78
    · subst z; exact q5.2.2 k (by omega)
    · rw [q5.2.1 h z r2]
  have i2 : S1.1 h k = S.1 h k := by
    by_cases z : h = 2
    · subst z; exact p2.2.2 k (by omega)
    · rw [p2.2.1 h z r1]
  exact i1.trans i2
theorem end_ok (hJ : J S) (a : Int32) : ∃ v S1 S2, fN_end F G S a = some (v, S1) ∧ fM_end F G S1 a = some (v, S2) ∧ J S2 := by
  obtain ⟨n, h⟩ := hJ.2.1.tw
  unfold fN_end fM_end
  by_cases c1 : a < 0
  · rw [if_pos c1]
    exact ⟨_, _, S, rfl, if_pos c1, hJ⟩
  · rw [if_neg c1]
    by_cases c2 : a ≤ S.1 2 0
    · rw [if_pos c2, lt_eq]
      refine ⟨_, _, sI (sI S 2 0 a) 78 1 a, rfl, ?_, ?_⟩
      · rw [if_neg c1, if_pos (show a ≤ (sI S 2 0 a).1 78 1 by show a ≤ S.1 78 1; rw [h.2.1, ← h.1]; exact c2), lt_eq]
      · obtain ⟨m, hm⟩ : ∃ m, a = nI m ∧ m ≤ n := by
          refine ⟨a.toNatClampNeg, ?_, ?_⟩
          · have q : 0 ≤ a.toInt := by
              have := Int32.not_lt.mp c1
              rw [Int32.le_iff_toInt_le] at this; exact this
            apply Int32.toInt_inj.mp
            rw [nI_toInt (by have := tI_hi a; have := Int32.toNat_toInt a; omega)]
            have := Int32.toNat_toInt a; omega
          · rw [h.1, Int32.le_iff_toInt_le, nI_toInt (by have := h.2.2.1; omega)] at c2
            have := Int32.toNat_toInt a; omega
        refine hJ.tape (n := m) rfl ⟨?_, ?_, by have := h.2.2.1; omega, fun k hk => ?_⟩ fun h k r1 r2 r3 r4 => ?_
        · rw [sI_at, if_neg (by omega), sI_self]; exact hm.1
        · rw [sI_self]; exact hm.1
        · rw [sI_at, if_neg (by omega), sI_at, if_neg (by omega), sI_at, if_neg (by omega), sI_at, if_neg (by omega)]
          exact h.2.2.2 k (by omega)
        · rw [sI_at, if_neg r4, sI_at, if_neg r3]
    · rw [if_neg c2]
      refine ⟨_, _, S, rfl, ?_, hJ⟩
      rw [if_neg c1, if_neg (by rw [h.2.1, ← h.1]; exact c2)]
end FD
