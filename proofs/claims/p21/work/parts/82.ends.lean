/-! SCORE: behind the text, class and reference -/
theorem cp2 {R : Type} {bod : (Int32 → St → Option R) → Int32 → St → Option R} {k : St → Option R} {N : Nat} (P : Nat → St → Prop) (he : ∀ rec S, P N S → bod rec (nI N) S = k S) (hs : ∀ rec i S, i < N → P i S → ∃ S', bod rec (nI i) S = rec (nI (i + 1)) S' ∧ P (i + 1) S') : ∀ r i f S, N - i = r → i ≤ N → r < f → P i S → ∃ S', fx2 bod f (nI i) S = k S' ∧ P N S' := by
  intro r
  induction r with
  | zero =>
    intro i f S hr hi hf hP
    obtain ⟨g, rfl⟩ : ∃ g, f = g + 1 := ⟨f - 1, by omega⟩
    have e : i = N := by omega
    subst e
    rw [fx2_s, he _ S hP]
    exact ⟨S, rfl, hP⟩
  | succ r ih =>
    intro i f S hr hi hf hP
    obtain ⟨g, rfl⟩ : ∃ g, f = g + 1 := ⟨f - 1, by omega⟩
    obtain ⟨S1, h1, h2⟩ := hs (fx2 bod g) i S (by omega) hP
    rw [fx2_s, h1]
    exact ih (i + 1) g S1 (by omega) (by omega) (by omega) h2
section EN
variable {F G d : Nat} {A B S : St}
/-! the class -/
def fl4 (h k : Nat) : Bool := (h == 31 || h == 32 || h == 33 || h == 34) && Nat.ble k 9
theorem L_follow (hF : 100000 ≤ F) (hd : isSc d = true) : ∃ S', fL_follow F G S 30 d = some S' ∧ Ag (fun h k => fl4 h k || (h == 30 && k == 1)) n0 S S' ∧ S'.1 30 1 = 0 ∧ ∀ k, k < 10 → S'.1 31 k = 0 ∧ S'.1 32 k = S.1 (d + 6) k ∧ S'.1 33 k = S.1 (d + 7) k ∧ S'.1 34 k = S.1 (d + 8) k := by
  have hdd := isSc_or hd
  unfold fL_follow
  rw [gd_t (show isLa 30 = true from rfl), gd_t hd, lt_eq]
  have nin : ∀ j k, (fl4 (d + 6 + j) k || (d + 6 + j == 30 && k == 1)) = false ∨ 3 ≤ j := by
    intro j k
    by_cases c : 3 ≤ j
    · exact Or.inr c
    · left
      have h1 : (d + 6 + j == 31) = false := by simp; omega
      have h2 : (d + 6 + j == 32) = false := by simp; omega
      have h3 : (d + 6 + j == 33) = false := by simp; omega
      have h4 : (d + 6 + j == 34) = false := by simp; omega
      have h5 : (d + 6 + j == 30) = false := by simp; omega
      simp only [fl4, h1, h2, h3, h4, h5]; rfl
  obtain ⟨S', h1, h2, h3, h4⟩ := cp2 (bod := b_L_follow_7 F G 30 d) (k := fun S => some S) (N := 10) (fun i T => Ag (fun h k => fl4 h k || (h == 30 && k == 1)) n0 S T ∧ T.1 30 1 = 0 ∧ ∀ k, k < i → T.1 31 k = 0 ∧ T.1 32 k = S.1 (d + 6) k ∧ T.1 33 k = S.1 (d + 7) k ∧ T.1 34 k = S.1 (d + 8) k)
    (fun rec T _ => by
      unfold b_L_follow_7
      rw [if_pos (by decide)])
    (fun rec i T hi hP => by
      obtain ⟨p1, p2, p3⟩ := hP
      unfold b_L_follow_7
      have hin : inB (nI i) 10 = true := inB_nI hi (by decide)
      rw [if_neg (show ¬ (10 : Int32) ≤ nI i from nI_ge (b := 10) hi (by decide)), gd_t hin, nI_clamp (by omega)]
      simp only [lt_eq, gd_t hin, nI_1]
      refine ⟨_, rfl, (((p1.sI _ ?_).sI _ ?_).sI _ ?_).sI _ ?_, p2, fun k hk => ?_⟩
      · simp [fl4]; omega
      · simp [fl4]; omega
      · simp [fl4]; omega
      · simp [fl4]; omega
      · have r6 : T.1 (d + 6) i = S.1 (d + 6) i := p1.2.1 _ _ ((nin 0 i).resolve_right (by omega))
        have r7 : T.1 (d + 7) i = S.1 (d + 7) i := p1.2.1 _ _ ((nin 1 i).resolve_right (by omega))
        have r8 : T.1 (d + 8) i = S.1 (d + 8) i := p1.2.1 _ _ ((nin 2 i).resolve_right (by omega))
        have g6 : ∀ (U : St) (x : Int32), (sI U 31 i x).1 (d + 6) i = U.1 (d + 6) i := fun U x => by rw [sI_at, if_neg (by omega)]
        have g7 : ∀ (U : St) h (x : Int32), h = 31 ∨ h = 32 → (sI U h i x).1 (d + 7) i = U.1 (d + 7) i := fun U h x q => by rw [sI_at, if_neg (by omega)]
        have g8 : ∀ (U : St) h (x : Int32), h = 31 ∨ h = 32 ∨ h = 33 → (sI U h i x).1 (d + 8) i = U.1 (d + 8) i := fun U h x q => by rw [sI_at, if_neg (by omega)]
        have e30 : (30 + 1, 30 + 2, 30 + 3, 30 + 4) = (31, 32, 33, 34) := rfl
        by_cases c : k = i
        · subst c
          refine ⟨?_, ?_, ?_, ?_⟩
          · rw [sI_at, if_neg (by omega), sI_at, if_neg (by omega), sI_at, if_neg (by omega), sI_self]
          · rw [sI_at, if_neg (by omega), sI_at, if_neg (by omega), sI_self, g6, r6]
          · rw [sI_at, if_neg (by omega), sI_self, g7 _ _ _ (by omega), g7 _ _ _ (by omega), r7]
          · rw [sI_self, g8 _ _ _ (by omega), g8 _ _ _ (by omega), g8 _ _ _ (by omega), r8]
        · obtain ⟨z1, z2, z3, z4⟩ := p3 k (by omega)
          refine ⟨?_, ?_, ?_, ?_⟩
          · rw [sI_at, if_neg (by omega), sI_at, if_neg (by omega), sI_at, if_neg (by omega), sI_at, if_neg (by omega)]; exact z1
          · rw [sI_at, if_neg (by omega), sI_at, if_neg (by omega), sI_at, if_neg (by omega), sI_at, if_neg (by omega)]; exact z2
          · rw [sI_at, if_neg (by omega), sI_at, if_neg (by omega), sI_at, if_neg (by omega), sI_at, if_neg (by omega)]; exact z3
          · rw [sI_at, if_neg (by omega), sI_at, if_neg (by omega), sI_at, if_neg (by omega), sI_at, if_neg (by omega)]; exact z4)
    10 0 F (sI S 30 1 0) rfl (by omega) (by omega) ⟨Ag.rf.sI _ rfl, sI_self, fun k hk => by omega⟩
  exact ⟨S', h1, h2, h3, h4⟩
def ecs (h k : Nat) : Bool := (h == 2 && k == 0) || fl4 h k || (h == 30 && k == 1) || (h == 51 && (k == 0 || k == 1)) || (h == 69 && k == 0) || (h == 0 && k == 12) || ((h == 36 || h == 41 || h == 46) && k == 0)
theorem C_end (hF : 100000 ≤ F) (hd : isSc d = true) {tl nn : Nat} (ht : isSc tl = true) (h1 : A.2.2.1 = tl) (h2 : A.2.2.2 = d) (h0 : A.1 1 0 = 0) (h6 : A.1 d 6 = nI nn) : ∃ S', j_N_score_39 F G A = some (nI nn, S') ∧ S'.2.1 = A.2.1 ∧ S'.2.2 = (d, tl) ∧ (∀ h k, ecs h k = false → S'.1 h k = A.1 h k) ∧ S'.1 2 0 = 0 ∧ S'.1 30 1 = 0 ∧ (∀ k, k < 10 → S'.1 31 k = 0 ∧ S'.1 32 k = A.1 (d + 6) k ∧ S'.1 33 k = A.1 (d + 7) k ∧ S'.1 34 k = A.1 (d + 8) k) ∧ S'.1 51 0 = 0 ∧ S'.1 51 1 = 0 ∧ S'.1 69 0 = 0 ∧ S'.1 0 12 = 0 ∧ S'.1 36 0 = 0 ∧ S'.1 41 0 = 0 ∧ S'.1 46 0 = 0 := by
  have hdd := isSc_or hd
  unfold j_N_score_39 fR_exchange fC_forget fI_forget
  rw [lt_eq, if_pos (show (sI A 2 0 0).1 1 0 = 0 from h0), show (sI A 2 0 0).2.2.1 = tl from h1, gd_t ht, gd_t ht, show (sI A 2 0 0).2.2.2 = d from h2, gd_t hd, lt_eq, bd2_some, gd_t hd, lt_eq]
  have e1 : (sT (sD (sI A 2 0 0) tl) d).2.2.1 = d := rfl
  rw [e1, gd_t hd]
  obtain ⟨T, t1, t2, t3, t4⟩ := L_follow (F := F) (G := G) (S := sT (sD (sI A 2 0 0) tl) d) hF hd
  rw [t1, bd_some]
  simp only [lt_eq, bd_some]
  have c6 : ∀ j k, j < 3 → (sT (sD (sI A 2 0 0) tl) d).1 (d + 6 + j) k = A.1 (d + 6 + j) k := fun j k hj => by
    show (sI A 2 0 0).1 (d + 6 + j) k = _
    rw [sI_at, if_neg (by omega)]
  obtain ⟨S', h1', h2', h3'⟩ := cp2 (bod := b_N_score_106 F G) (k := fun S => gd (isSc S.2.2.1) (some (S.1 S.2.2.1 6, S))) (N := 3) (fun i U => Ag (fun h k => (h == 36 || h == 41 || h == 46) && k == 0) n0 (sI (sI (sI (sI T 51 0 0) 51 1 0) 69 0 0) 0 12 0) U ∧ ∀ j, j < i → U.1 (36 + 5 * j) 0 = 0)
    (fun rec U _ => by
      unfold b_N_score_106
      rw [if_pos (by decide)])
    (fun rec i U hi hP => by
      obtain ⟨p1, p2⟩ := hP
      unfold b_N_score_106
      rw [if_neg (show ¬ Int32.ofNat 3 ≤ nI i from nI_ge (b := 3) hi (by decide)), gd_t (inB_nI hi (by decide)), nI_clamp (by omega), lt_eq, lt_eq, nI_1]
      refine ⟨_, rfl, p1.sI _ ?_, fun j hj => ?_⟩
      · rcases (by omega : i = 0 ∨ i = 1 ∨ i = 2) with rfl | rfl | rfl <;> rfl
      · by_cases c : j = i
        · rw [c, sI_self]
        · rw [sI_at, if_neg (by omega)]; exact p2 j (by omega))
    3 0 F _ rfl (by omega) (by omega) ⟨Ag.rf, fun j hj => by omega⟩
  have hU : S'.2.2 = (d, tl) := by rw [h2'.1]; exact t2.1
  have hnot : ∀ h k, ecs h k = false → S'.1 h k = A.1 h k := by
    intro h k e
    have e0 := e
    simp only [ecs, Bool.or_eq_false_iff] at e
    obtain ⟨⟨⟨⟨⟨⟨q1, q2⟩, q3⟩, q4⟩, q5⟩, q6⟩, q7⟩ := e
    have n1 : ¬ (h = 2 ∧ k = 0) := fun z => by rw [z.1, z.2] at q1; cases q1
    have n4 : ¬ (h = 51 ∧ (k = 0 ∨ k = 1)) := fun z => by
      rcases z with ⟨rfl, rfl | rfl⟩ <;> cases q4
    have n5 : ¬ (h = 69 ∧ k = 0) := fun z => by rw [z.1, z.2] at q5; cases q5
    have n6 : ¬ (h = 0 ∧ k = 12) := fun z => by rw [z.1, z.2] at q6; cases q6
    rw [h2'.2.1 h k q7, sI_at, if_neg n6, sI_at, if_neg n5, sI_at, if_neg (fun z => n4 ⟨z.1, Or.inr z.2⟩), sI_at, if_neg (fun z => n4 ⟨z.1, Or.inl z.2⟩), t2.2.1 h k (by simp only [q2, q3]; rfl)]
    show (sI A 2 0 0).1 h k = _
    rw [sI_at, if_neg n1]
  have hd6 : S'.1 d 6 = nI nn := by
    rw [hnot d 6 (by rcases hdd with rfl | rfl <;> rfl)]; exact h6
  have hrow : ∀ h k, 31 ≤ h → h ≤ 34 → S'.1 h k = T.1 h k := by
    intro h k q1 q2
    have : ((h == 36 || h == 41 || h == 46) && k == 0) = false := by
      have a1 : (h == 36) = false := by simp; omega
      have a2 : (h == 41) = false := by simp; omega
      have a3 : (h == 46) = false := by simp; omega
      rw [a1, a2, a3]; rfl
    rw [h2'.2.1 h k this, sI_at, if_neg (by omega), sI_at, if_neg (by omega), sI_at, if_neg (by omega), sI_at, if_neg (by omega)]
  refine ⟨S', ?_, ?_, hU, hnot, ?_, ?_, fun k hk => ?_, ?_, ?_, ?_, ?_, h3' 0 (by omega), h3' 1 (by omega), h3' 2 (by omega)⟩
  · have h1'' : fx2 (b_N_score_106 F G) F 0 (sI (sI (sI (sI T 51 0 0) 51 1 0) 69 0 0) 0 12 0) = _ := h1'
    rw [h1'', show S'.2.2.1 = d by rw [hU], gd_t hd, hd6]
  · have q : S'.2.1 = T.2.1 := funext fun h => funext fun k => h2'.2.2 h k rfl
    have q2 : T.2.1 = A.2.1 := funext fun h => funext fun k => t2.2.2 h k rfl
    rw [q, q2]
  · rw [h2'.2.1 2 0 rfl]
    show T.1 2 0 = 0
    rw [t2.2.1 2 0 rfl]; rfl
  · rw [h2'.2.1 30 1 rfl]; exact t3
  · obtain ⟨z1, z2, z3, z4⟩ := t4 k hk
    rw [hrow 31 k (by omega) (by omega), hrow 32 k (by omega) (by omega), hrow 33 k (by omega) (by omega), hrow 34 k (by omega) (by omega), z1, z2, z3, z4]
    exact ⟨rfl, c6 0 k (by omega), c6 1 k (by omega), c6 2 k (by omega)⟩
  · exact h2'.2.1 51 0 rfl
  · exact h2'.2.1 51 1 rfl
  · exact h2'.2.1 69 0 rfl
  · exact h2'.2.1 0 12 rfl
theorem C_endB (h0 : ¬ A.1 1 0 = 0) : j_N_score_39 F G A = some (-1, sI A 2 0 0) := by
  unfold j_N_score_39
  rw [lt_eq, if_neg (show ¬ (sI A 2 0 0).1 1 0 = 0 from h0)]
end EN
