/-! SCORE: the reference, behind the text -/
section EM
variable {F G : Nat} {S : St} {R : Type}
theorem M_106 {k : St → Option (Int32 × St)} {m : Nat} (hF : 100000 ≤ F) (h18 : S.1 78 18 = nI m) (hm : m ≤ 320) : ∃ S', fx2 (b_M_score_106 F G k) F 0 S = k S' ∧ Ag (fun h k => (h == 83 || h == 84)) n0 S S' ∧ ∀ j, j < m → S'.1 83 j = S.1 81 j ∧ S'.1 84 j = S.1 82 j := by
  obtain ⟨S', h1, h2, h3⟩ := cp2 (bod := b_M_score_106 F G k) (k := k) (N := m) (fun i T => Ag (fun h k => (h == 83 || h == 84)) n0 S T ∧ ∀ j, j < i → T.1 83 j = S.1 81 j ∧ T.1 84 j = S.1 82 j)
    (fun rec T hP => by
      unfold b_M_score_106
      rw [hP.1.2.1 78 18 rfl, h18, if_pos (nI_le (Nat.le_refl _) (by omega))])
    (fun rec i T hi hP => by
      obtain ⟨p1, p2⟩ := hP
      unfold b_M_score_106
      have hin : inB (nI i) 320 = true := inB_nI (by omega) (by decide)
      rw [p1.2.1 78 18 rfl, h18, if_neg (nI_ge hi (by omega)), gd_t hin, gd_t hin, nI_clamp (by omega)]
      simp only [lt_eq, gd_t hin, nI_1]
      refine ⟨_, rfl, (p1.sI _ rfl).sI _ rfl, fun j hj => ?_⟩
      by_cases c : j = i
      · subst c
        refine ⟨?_, ?_⟩
        · rw [sI_at, if_neg (by omega), sI_self]; exact p1.2.1 81 j rfl
        · rw [sI_self, sI_at, if_neg (by omega)]; exact p1.2.1 82 j rfl
      · obtain ⟨z1, z2⟩ := p2 j (by omega)
        refine ⟨?_, ?_⟩
        · rw [sI_at, if_neg (by omega), sI_at, if_neg (by omega)]; exact z1
        · rw [sI_at, if_neg (by omega), sI_at, if_neg (by omega)]; exact z2)
    m 0 F S rfl (by omega) (by omega) ⟨Ag.rf, fun j hj => by omega⟩
  exact ⟨S', h1, h2, h3⟩
theorem M_146 {k : St → Option (Int32 × St)} {m : Nat} (hF : 100000 ≤ F) (h18 : S.1 78 47 = nI m) (hm : m ≤ 4) : ∃ S', fx2 (b_M_score_146 F G k) F 0 S = k S' ∧ Ag (fun h k => h == 94) n0 S S' ∧ ∀ j, j < m → S'.1 94 j = S.1 88 j := by
  obtain ⟨S', h1, h2, h3⟩ := cp2 (bod := b_M_score_146 F G k) (k := k) (N := m) (fun i T => Ag (fun h k => h == 94) n0 S T ∧ ∀ j, j < i → T.1 94 j = S.1 88 j)
    (fun rec T hP => by
      unfold b_M_score_146
      rw [hP.1.2.1 78 47 rfl, h18, if_pos (nI_le (Nat.le_refl _) (by omega))])
    (fun rec i T hi hP => by
      obtain ⟨p1, p2⟩ := hP
      unfold b_M_score_146
      have hin : inB (nI i) 4 = true := inB_nI (by omega) (by decide)
      rw [p1.2.1 78 47 rfl, h18, if_neg (nI_ge hi (by omega)), gd_t hin, gd_t hin, nI_clamp (by omega)]
      simp only [lt_eq, nI_1]
      refine ⟨_, rfl, p1.sI _ rfl, fun j hj => ?_⟩
      by_cases c : j = i
      · subst c
        rw [sI_self]; exact p1.2.1 88 j rfl
      · rw [sI_at, if_neg (by omega)]; exact p2 j (by omega))
    m 0 F S rfl (by omega) (by omega) ⟨Ag.rf, fun j hj => by omega⟩
  exact ⟨S', h1, h2, h3⟩
theorem M_174 {k : St → Option (Int32 × St)} {m : Nat} (hF : 100000 ≤ F) (h18 : S.1 78 48 = nI m) (hm : m ≤ 10) : ∃ S', fx2 (b_M_score_174 F G k) F 0 S = k S' ∧ Ag (fun h k => (h == 95 || h == 96 || h == 97 || h == 98 || h == 99) && Nat.blt k m) n0 S S' ∧ ∀ j, j < m → S'.1 95 j = S.1 89 j ∧ S'.1 96 j = S.1 90 j ∧ S'.1 97 j = S.1 91 j ∧ S'.1 98 j = S.1 92 j ∧ S'.1 99 j = S.1 93 j := by
  obtain ⟨S', h1, h2, h3⟩ := cp2 (bod := b_M_score_174 F G k) (k := k) (N := m) (fun i T => Ag (fun h k => (h == 95 || h == 96 || h == 97 || h == 98 || h == 99) && Nat.blt k m) n0 S T ∧ ∀ j, j < i → T.1 95 j = S.1 89 j ∧ T.1 96 j = S.1 90 j ∧ T.1 97 j = S.1 91 j ∧ T.1 98 j = S.1 92 j ∧ T.1 99 j = S.1 93 j)
    (fun rec T hP => by
      unfold b_M_score_174
      rw [hP.1.2.1 78 48 rfl, h18, if_pos (nI_le (Nat.le_refl _) (by omega))])
    (fun rec i T hi hP => by
      obtain ⟨p1, p2⟩ := hP
      unfold b_M_score_174
      have hin : inB (nI i) 10 = true := inB_nI (by omega) (by decide)
      have hb : Nat.blt i m = true := by simp [Nat.blt]; omega
      rw [p1.2.1 78 48 rfl, h18, if_neg (nI_ge hi (by omega)), gd_t hin, gd_t hin, nI_clamp (by omega)]
      simp only [lt_eq, gd_t hin, nI_1]
      refine ⟨_, rfl, ((((p1.sI _ ?_).sI _ ?_).sI _ ?_).sI _ ?_).sI _ ?_, fun j hj => ?_⟩
      · simp [hb]
      · simp [hb]
      · simp [hb]
      · simp [hb]
      · simp [hb]
      · by_cases c : j = i
        · subst c
          refine ⟨?_, ?_, ?_, ?_, ?_⟩
          · rw [sI_at, if_neg (by omega), sI_at, if_neg (by omega), sI_at, if_neg (by omega), sI_at, if_neg (by omega), sI_self]; exact p1.2.1 89 j rfl
          · rw [sI_at, if_neg (by omega), sI_at, if_neg (by omega), sI_at, if_neg (by omega), sI_self, sI_at, if_neg (by omega)]; exact p1.2.1 90 j rfl
          · rw [sI_at, if_neg (by omega), sI_at, if_neg (by omega), sI_self, sI_at, if_neg (by omega), sI_at, if_neg (by omega)]; exact p1.2.1 91 j rfl
          · rw [sI_at, if_neg (by omega), sI_self, sI_at, if_neg (by omega), sI_at, if_neg (by omega), sI_at, if_neg (by omega)]; exact p1.2.1 92 j rfl
          · rw [sI_self, sI_at, if_neg (by omega), sI_at, if_neg (by omega), sI_at, if_neg (by omega), sI_at, if_neg (by omega)]; exact p1.2.1 93 j rfl
        · have := p2 j (by omega)
          have e : ∀ (U : St) h h' (x : Int32), (sI U h i x).1 h' j = U.1 h' j := fun U h h' x => by rw [sI_at, if_neg (by omega)]
          simp only [e]
          exact this)
    m 0 F S rfl (by omega) (by omega) ⟨Ag.rf, fun j hj => by omega⟩
  exact ⟨S', h1, h2, h3⟩
/-- how the notes lie at first -/
def lay0 (nn : Nat) (S : St) (k : Nat) : Int32 := if 10 ≤ k ∧ k < 10 + nn then S.1 97 (k - 10) else if 20 ≤ k ∧ k < 20 + nn then S.1 98 (k - 20) else if 30 ≤ k ∧ k < 30 + nn then S.1 99 (k - 30) else 0
theorem M_begin {nn : Nat} (hF : 100000 ≤ F) (h48 : S.1 78 48 = nI nn) (hn : nn ≤ 10) : ∃ S', fM_begin F G S = some S' ∧ Ag (fun h k => h == 101) n0 S S' ∧ ∀ k, k < 41 → S'.1 101 k = lay0 nn S k := by
  unfold fM_begin
  obtain ⟨T, h1, h2, h3⟩ := cp2 (bod := b_M_begin_2 F G (fun S7 => fx2 (b_M_begin_23 F G) F (0 : Int32) S7)) (k := fun S7 => fx2 (b_M_begin_23 F G) F (0 : Int32) S7) (N := 41) (fun i T => Ag (fun h k => h == 101) n0 S T ∧ ∀ j, j < i → T.1 101 j = 0)
    (fun rec T hP => by
      unfold b_M_begin_2
      rw [if_pos (by decide)])
    (fun rec i T hi hP => by
      obtain ⟨p1, p2⟩ := hP
      unfold b_M_begin_2
      rw [if_neg (show ¬ (41 : Int32) ≤ nI i from nI_ge (b := 41) hi (by decide)), gd_t (inB_nI hi (by decide)), nI_clamp (by omega)]
      simp only [lt_eq, nI_1]
      refine ⟨_, rfl, p1.sI _ rfl, fun j hj => ?_⟩
      by_cases c : j = i
      · rw [c, sI_self]
      · rw [sI_at, if_neg (by omega)]; exact p2 j (by omega))
    41 0 F S rfl (by omega) (by omega) ⟨Ag.rf, fun j hj => by omega⟩
  have h1' : fx2 (b_M_begin_2 F G (fun S7 => fx2 (b_M_begin_23 F G) F (0 : Int32) S7)) F 0 S = fx2 (b_M_begin_23 F G) F (0 : Int32) T := h1
  rw [h1']
  obtain ⟨U, g1, g2, g3⟩ := cp2 (bod := b_M_begin_23 F G) (k := fun S => some S) (N := nn) (fun i U => Ag (fun h k => h == 101) n0 S U ∧ ∀ k, k < 41 → U.1 101 k = lay0 i S k)
    (fun rec U hP => by
      unfold b_M_begin_23
      rw [hP.1.2.1 78 48 rfl, h48, if_pos (nI_le (Nat.le_refl _) (by omega))])
    (fun rec i U hi hP => by
      obtain ⟨p1, p2⟩ := hP
      unfold b_M_begin_23
      have hin : inB (nI i) 10 = true := inB_nI (by omega) (by decide)
      have i10 : inB (nI (10 + i)) 41 = true := inB_nI (by omega) (by decide)
      have i20 : inB (nI (20 + i)) 41 = true := inB_nI (by omega) (by decide)
      have i30 : inB (nI (30 + i)) 41 = true := inB_nI (by omega) (by decide)
      rw [p1.2.1 78 48 rfl, h48, if_neg (nI_ge hi (by omega)), gd_t hin, show (10 : Int32) = nI 10 from rfl, show (20 : Int32) = nI 20 from rfl, show (30 : Int32) = nI 30 from rfl, nI_addN, nI_addN, nI_addN, gd_t i10, nI_clamp (by omega), nI_clamp (by omega), nI_clamp (by omega), nI_clamp (by omega)]
      simp only [lt_eq, gd_t hin, gd_t i20, gd_t i30, nI_1]
      refine ⟨_, rfl, ((p1.sI _ rfl).sI _ rfl).sI _ rfl, fun k hk => ?_⟩
      have v97 : U.1 97 i = S.1 97 i := p1.2.1 97 i rfl
      have v98 : ∀ (V : St) a (x : Int32), (sI V 101 a x).1 98 i = V.1 98 i := fun V a x => by rw [sI_at, if_neg (by omega)]
      have v99 : ∀ (V : St) a (x : Int32), (sI V 101 a x).1 99 i = V.1 99 i := fun V a x => by rw [sI_at, if_neg (by omega)]
      rw [v98, v99, v99, v97, p1.2.1 98 i rfl, p1.2.1 99 i rfl]
      by_cases c3 : k = 30 + i
      · rw [c3, sI_self, lay0, if_neg (by omega), if_neg (by omega), if_pos (by omega), show 30 + i - 30 = i by omega]
      · rw [sI_at, if_neg (by omega)]
        by_cases c2 : k = 20 + i
        · rw [c2, sI_self, lay0, if_neg (by omega), if_pos (by omega), show 20 + i - 20 = i by omega]
        · rw [sI_at, if_neg (by omega)]
          by_cases c1 : k = 10 + i
          · rw [c1, sI_self, lay0, if_pos (by omega), show 10 + i - 10 = i by omega]
          · rw [sI_at, if_neg (by omega), p2 k hk]
            unfold lay0
            have r1 : (10 ≤ k ∧ k < 10 + i) ↔ (10 ≤ k ∧ k < 10 + (i + 1)) := by omega
            have r2 : (20 ≤ k ∧ k < 20 + i) ↔ (20 ≤ k ∧ k < 20 + (i + 1)) := by omega
            have r3 : (30 ≤ k ∧ k < 30 + i) ↔ (30 ≤ k ∧ k < 30 + (i + 1)) := by omega
            simp only [r1, r2, r3])
    nn 0 F T rfl (by omega) (by omega) ⟨h2, fun k hk => by rw [h3 k hk, lay0, if_neg (by omega), if_neg (by omega), if_neg (by omega)]⟩
  exact ⟨U, g1, g2, g3⟩
theorem M_keepAir (hF : 100000 ≤ F) : ∃ S', fM_keepAir F G S = some S' ∧ Ag (fun h k => h == 100 && Nat.ble k 40) n0 S S' ∧ ∀ k, k < 41 → S'.1 100 k = S.1 101 k := by
  unfold fM_keepAir
  obtain ⟨U, g1, g2, g3⟩ := cp2 (bod := b_M_keepAir_2 F G) (k := fun S => some S) (N := 41) (fun i U => Ag (fun h k => h == 100 && Nat.ble k 40) n0 S U ∧ ∀ k, k < i → U.1 100 k = S.1 101 k)
    (fun rec U hP => by
      unfold b_M_keepAir_2
      rw [if_pos (by decide)])
    (fun rec i U hi hP => by
      obtain ⟨p1, p2⟩ := hP
      unfold b_M_keepAir_2
      have hin : inB (nI i) 41 = true := inB_nI hi (by decide)
      rw [if_neg (show ¬ (41 : Int32) ≤ nI i from nI_ge (b := 41) hi (by decide)), gd_t hin, gd_t hin, nI_clamp (by omega)]
      simp only [lt_eq, nI_1]
      refine ⟨_, rfl, p1.sI _ (by simp; omega), fun j hj => ?_⟩
      by_cases c : j = i
      · rw [c, sI_self]; exact p1.2.1 101 i rfl
      · rw [sI_at, if_neg (by omega)]; exact p2 j (by omega))
    41 0 F S rfl (by omega) (by omega) ⟨Ag.rf, fun j hj => by omega⟩
  exact ⟨U, g1, g2, g3⟩
theorem M_278 (hF : 100000 ≤ F) : ∃ S', fx2 (b_M_score_278 F G) F 0 S = some (S'.1 78 48, S') ∧ Ag (fun h k => h == 115 && Nat.blt k 3) n0 S S' ∧ ∀ k, k < 3 → S'.1 115 k = 0 := by
  obtain ⟨U, g1, g2, g3⟩ := cp2 (bod := b_M_score_278 F G) (k := fun S => some (S.1 78 48, S)) (N := 3) (fun i U => Ag (fun h k => h == 115 && Nat.blt k 3) n0 S U ∧ ∀ k, k < i → U.1 115 k = 0)
    (fun rec U hP => by
      unfold b_M_score_278
      rw [if_pos (by decide)])
    (fun rec i U hi hP => by
      obtain ⟨p1, p2⟩ := hP
      unfold b_M_score_278
      have hin : inB (nI i) 3 = true := inB_nI hi (by decide)
      rw [if_neg (show ¬ (3 : Int32) ≤ nI i from nI_ge (b := 3) hi (by decide)), gd_t hin, nI_clamp (by omega)]
      simp only [lt_eq, nI_1]
      refine ⟨_, rfl, p1.sI _ (by rcases (by omega : i = 0 ∨ i = 1 ∨ i = 2) with rfl | rfl | rfl <;> rfl), fun j hj => ?_⟩
      by_cases c : j = i
      · rw [c, sI_self]; rfl
      · rw [sI_at, if_neg (by omega)]; exact p2 j (by omega))
    3 0 F S rfl (by omega) (by omega) ⟨Ag.rf, fun j hj => by omega⟩
  exact ⟨U, g1, g2, g3⟩
end EM
