/-! SCORE: class and reference answer alike, and keep what they keep -/
section SC
variable {F G d : Nat} {S : St}
theorem pcs_hi {h k : Nat} (hd : isSc d = true) (q : 30 ≤ h) : pcs d h k = false := by
  have hdd := isSc_or hd
  have e1 : (h == 1) = false := by simp; omega
  have e2 : (h == 2) = false := by simp; omega
  have e3 : (h == d) = false := by simp; omega
  have e4 : (h == d + 2) = false := by simp; omega
  have e5 : (h == d + 9) = false := by simp; omega
  have e6 : (h == d + 10) = false := by simp; omega
  have e7 : Nat.ble h (d + 8) = false := by
    rw [Bool.eq_false_iff]; intro z; have := Nat.le_of_ble_eq_true z; omega
  have e8 : lxs h k = false := by simp only [lxs, e2]; rfl
  simp only [pcs, e1, e3, e4, e5, e6, e7, e8, Bool.and_false, Bool.false_and, Bool.or_false]
theorem pcs_tl {k : Nat} (hd : isSc d = true) : pcs d (21 - d) k = false ∧ (pcs d (21 - d + 9) k = false) ∧ (2 ≤ k → pcs d (d + 9) k = false) := by
  rcases isSc_or hd with rfl | rfl
  · refine ⟨rfl, rfl, fun h => ?_⟩
    obtain ⟨j, rfl⟩ : ∃ j, k = j + 2 := ⟨k - 2, by omega⟩
    rfl
  · refine ⟨rfl, rfl, fun h => ?_⟩
    obtain ⟨j, rfl⟩ : ∃ j, k = j + 2 := ⟨k - 2, by omega⟩
    rfl
theorem pms_lo {h k : Nat} (q : h < 78) : pms h k = false := by
  have e1 : (h == 78) = false := by simp; omega
  have e2 : (h == 81) = false := by simp; omega
  have e3 : (h == 82) = false := by simp; omega
  have e4 : (h == 85) = false := by simp; omega
  have e5 : Nat.ble 88 h = false := by
    rw [Bool.eq_false_iff]; intro z; have := Nat.le_of_ble_eq_true z; omega
  simp only [pms, e1, e2, e3, e4, e5, Bool.false_and, Bool.or_false]
theorem mes_lo {nn h k : Nat} (q : h < 78) : mes nn h k = false := by
  have e : ∀ c, 78 ≤ c → (h == c) = false := fun c hc => by simp; omega
  simp only [mes, e 78 (by omega), e 83 (by omega), e 84 (by omega), e 94 (by omega), e 95 (by omega), e 96 (by omega), e 97 (by omega), e 98 (by omega), e 99 (by omega), e 100 (by omega), e 101 (by omega), e 115 (by omega), Bool.false_and, Bool.or_false]
theorem ecs_hi {h k : Nat} (q : 70 ≤ h) : ecs h k = false := by
  have e : ∀ c, c < 70 → (h == c) = false := fun c hc => by simp; omega
  simp only [ecs, fl4, e 2 (by omega), e 31 (by omega), e 32 (by omega), e 33 (by omega), e 34 (by omega), e 30 (by omega), e 51 (by omega), e 69 (by omega), e 0 (by omega), e 36 (by omega), e 41 (by omega), e 46 (by omega), Bool.false_and, Bool.or_false]
theorem fgm_at {n h k : Nat} {B : St} (q : ¬ (h = 78 ∧ (k = 1 ∨ k = 5))) : (fgm n B).1 h k = B.1 h k := by
  unfold fgm
  rw [sI_at, if_neg (by omega), sI_at, if_neg (by omega)]
/-- the class's score, first: it ends, and leaves the reference alone -/
theorem sc_class (hF : 100000 ≤ F) (hG : 60 ≤ G) (hJ : J S) : ∃ v S1, fN_score F G S = some (v, S1) ∧ ∀ h k, 78 ≤ h → S1.1 h k = S.1 h k := by
  obtain ⟨⟨b1, ⟨t1, t2, t3⟩, w1, a1⟩, ⟨n, b, hA, h1, h79⟩, c1, c2, c3⟩ := hJ
  have hd : isSc S.2.2.2 = true := by
    rw [t2]; rcases isSc_or t1 with q | q <;> rw [q] <;> rfl
  obtain ⟨A', B', e1, e2, e3⟩ := text_ok (F := F) (G := G) (d := S.2.2.2) (A := S) (B := S) hF hG hd rfl hA h1 h79
  rcases e3 with ⟨t', p', ⟨np, nn, PN, NN, k1, k2, k3, k4, k5, k6, k7, k8, k9, k10, k11⟩, h0⟩ | e3
  · obtain ⟨S1, f1, f2, f3, f4, -⟩ := C_end (F := F) (G := G) (A := A') (d := S.2.2.2) (tl := S.2.2.1) (nn := nn) hF hd t1 (by rw [k10.1]) (by rw [k10.1]) k2 k6.2.2.2.2.1
    exact ⟨_, S1, e1.trans f1, fun h k q => by rw [f4 h k (ecs_hi (by omega)), k10.2.1 h k (pcs_hi hd (by omega))]⟩
  · refine ⟨_, _, e1.trans (C_endB e3.fc), fun h k q => ?_⟩
    rw [sI_at, if_neg (by omega), e3.2.2.2.1.2.1 h k (pcs_hi hd (by omega))]
/-- what the bounds ask, cell by cell -/
theorem Bnd.mk {S : St} (h45 : iv (S.1 4 5) 0 4) (h46 : iv (S.1 4 6) 0 10) (h175 : iv (S.1 17 5) 0 4) (h176 : iv (S.1 17 6) 0 10) (h131 : iv (S.1 13 1) 0 270) (h135 : iv (S.1 13 5) 0 31) (h261 : iv (S.1 26 1) 0 270) (h265 : iv (S.1 26 5) 0 31) (h012 : iv (S.1 0 12) 0 10) (h20 : iv (S.1 2 0) 0 1600) (h570 : iv (S.1 57 0) 0 12) (h571 : iv (S.1 57 1) 0 10) (h690 : iv (S.1 69 0) 0 30) (h691 : iv (S.1 69 1) 0 100000) (h6910 : iv (S.1 69 10) 0 30) (h510 : iv (S.1 51 0) 0 40) (h511 : iv (S.1 51 1) 0 40) (h781 : iv (S.1 78 1) 0 1600) (h7818 : iv (S.1 78 18) 0 320) (h7846 : iv (S.1 78 46) 1 12) (h7847 : iv (S.1 78 47) 0 4) (h7848 : iv (S.1 78 48) 0 10) (h7863 : iv (S.1 78 63) 0 40) (h7864 : iv (S.1 78 64) 0 40) (h7868 : iv (S.1 78 68) 0 10) (h7874 : iv (S.1 78 74) 0 30) (h7875 : iv (S.1 78 75) 0 100000) (h95 : ∀ k, iv (S.1 95 k) 0 3) (h96 : ∀ k, iv (S.1 96 k) 0 11) (hb : ∀ h k, (h == 73 || h == 112 || h == 115) = true → iv (S.1 h k) 0 1) : Bnd S := by
  intro h k l u e
  unfold bnd at e
  by_cases c0 : ((h == 4 || h == 17)) = true
  · rw [if_pos c0] at e
    simp only [Bool.or_eq_true, beq_iff_eq] at c0
    by_cases k5 : (k == 5) = true
    · rw [if_pos k5] at e; cases e; rw [beq_iff_eq] at k5; subst k5; rcases c0 with q | q <;> subst q
      · exact h45
      · exact h175
    rw [if_neg k5] at e
    by_cases k6 : (k == 6) = true
    · rw [if_pos k6] at e; cases e; rw [beq_iff_eq] at k6; subst k6; rcases c0 with q | q <;> subst q
      · exact h46
      · exact h176
    rw [if_neg k6] at e
    cases e
  rw [if_neg c0] at e
  by_cases c1 : ((h == 13 || h == 26)) = true
  · rw [if_pos c1] at e
    simp only [Bool.or_eq_true, beq_iff_eq] at c1
    by_cases k1 : (k == 1) = true
    · rw [if_pos k1] at e; cases e; rw [beq_iff_eq] at k1; subst k1; rcases c1 with q | q <;> subst q
      · exact h131
      · exact h261
    rw [if_neg k1] at e
    by_cases k5 : (k == 5) = true
    · rw [if_pos k5] at e; cases e; rw [beq_iff_eq] at k5; subst k5; rcases c1 with q | q <;> subst q
      · exact h135
      · exact h265
    rw [if_neg k5] at e
    cases e
  rw [if_neg c1] at e
  by_cases c2 : (h == 0) = true
  · rw [if_pos c2] at e
    rw [beq_iff_eq] at c2; subst c2
    by_cases k12 : (k == 12) = true
    · rw [if_pos k12] at e; cases e; rw [beq_iff_eq] at k12; subst k12; exact h012
    rw [if_neg k12] at e
    cases e
  rw [if_neg c2] at e
  by_cases c3 : (h == 2) = true
  · rw [if_pos c3] at e
    rw [beq_iff_eq] at c3; subst c3
    by_cases k0 : (k == 0) = true
    · rw [if_pos k0] at e; cases e; rw [beq_iff_eq] at k0; subst k0; exact h20
    rw [if_neg k0] at e
    cases e
  rw [if_neg c3] at e
  by_cases c4 : (h == 57) = true
  · rw [if_pos c4] at e
    rw [beq_iff_eq] at c4; subst c4
    by_cases k0 : (k == 0) = true
    · rw [if_pos k0] at e; cases e; rw [beq_iff_eq] at k0; subst k0; exact h570
    rw [if_neg k0] at e
    by_cases k1 : (k == 1) = true
    · rw [if_pos k1] at e; cases e; rw [beq_iff_eq] at k1; subst k1; exact h571
    rw [if_neg k1] at e
    cases e
  rw [if_neg c4] at e
  by_cases c5 : (h == 69) = true
  · rw [if_pos c5] at e
    rw [beq_iff_eq] at c5; subst c5
    by_cases k0 : (k == 0) = true
    · rw [if_pos k0] at e; cases e; rw [beq_iff_eq] at k0; subst k0; exact h690
    rw [if_neg k0] at e
    by_cases k1 : (k == 1) = true
    · rw [if_pos k1] at e; cases e; rw [beq_iff_eq] at k1; subst k1; exact h691
    rw [if_neg k1] at e
    by_cases k10 : (k == 10) = true
    · rw [if_pos k10] at e; cases e; rw [beq_iff_eq] at k10; subst k10; exact h6910
    rw [if_neg k10] at e
    cases e
  rw [if_neg c5] at e
  by_cases c6 : (h == 51) = true
  · rw [if_pos c6] at e
    rw [beq_iff_eq] at c6; subst c6
    by_cases k0 : (k == 0) = true
    · rw [if_pos k0] at e; cases e; rw [beq_iff_eq] at k0; subst k0; exact h510
    rw [if_neg k0] at e
    by_cases k1 : (k == 1) = true
    · rw [if_pos k1] at e; cases e; rw [beq_iff_eq] at k1; subst k1; exact h511
    rw [if_neg k1] at e
    cases e
  rw [if_neg c6] at e
  by_cases c7 : (h == 78) = true
  · rw [if_pos c7] at e
    rw [beq_iff_eq] at c7; subst c7
    by_cases k1 : (k == 1) = true
    · rw [if_pos k1] at e; cases e; rw [beq_iff_eq] at k1; subst k1; exact h781
    rw [if_neg k1] at e
    by_cases k18 : (k == 18) = true
    · rw [if_pos k18] at e; cases e; rw [beq_iff_eq] at k18; subst k18; exact h7818
    rw [if_neg k18] at e
    by_cases k46 : (k == 46) = true
    · rw [if_pos k46] at e; cases e; rw [beq_iff_eq] at k46; subst k46; exact h7846
    rw [if_neg k46] at e
    by_cases k47 : (k == 47) = true
    · rw [if_pos k47] at e; cases e; rw [beq_iff_eq] at k47; subst k47; exact h7847
    rw [if_neg k47] at e
    by_cases k48 : (k == 48) = true
    · rw [if_pos k48] at e; cases e; rw [beq_iff_eq] at k48; subst k48; exact h7848
    rw [if_neg k48] at e
    by_cases k63 : (k == 63) = true
    · rw [if_pos k63] at e; cases e; rw [beq_iff_eq] at k63; subst k63; exact h7863
    rw [if_neg k63] at e
    by_cases k64 : (k == 64) = true
    · rw [if_pos k64] at e; cases e; rw [beq_iff_eq] at k64; subst k64; exact h7864
    rw [if_neg k64] at e
    by_cases k68 : (k == 68) = true
    · rw [if_pos k68] at e; cases e; rw [beq_iff_eq] at k68; subst k68; exact h7868
    rw [if_neg k68] at e
    by_cases k74 : (k == 74) = true
    · rw [if_pos k74] at e; cases e; rw [beq_iff_eq] at k74; subst k74; exact h7874
    rw [if_neg k74] at e
    by_cases k75 : (k == 75) = true
    · rw [if_pos k75] at e; cases e; rw [beq_iff_eq] at k75; subst k75; exact h7875
    rw [if_neg k75] at e
    cases e
  rw [if_neg c7] at e
  by_cases d95 : (h == 95) = true
  · rw [if_pos d95] at e; cases e; rw [beq_iff_eq] at d95; subst d95; exact h95 k
  rw [if_neg d95] at e
  by_cases d96 : (h == 96) = true
  · rw [if_pos d96] at e; cases e; rw [beq_iff_eq] at d96; subst d96; exact h96 k
  rw [if_neg d96] at e
  by_cases d1 : (h == 73 || h == 112 || h == 115) = true
  · rw [if_pos d1] at e; cases e; exact hb h k d1
  rw [if_neg d1] at e; cases e
end SC
