/-! THE TEXT: both read all of it alike -/
def fgt (d : Nat) (A : St) : St := sI (sI (sI (sI (sI (sI (sI (sI (sI (sI (sI (sI A 1 0 0) 1 1 (-1)) 1 4 0) d 0 12) d 1 12) d 2 5) d 3 20) d 4 2) d 5 0) d 6 0) (d + 9) 0 0) (d + 9) 1 0
def fgm (n : Nat) (B : St) : St := sI (sI B 78 5 (nI n)) 78 1 0
def fgn (B : St) : St := sI (sI (sI (sI (sI (sI (sI (sI (sI (sI (sI (sI (sI (sI (sI (sI (sI B 78 4 0) 78 2 0) 78 3 (-1)) 78 39 12) 78 40 0) 78 41 0) 78 42 12) 78 43 5) 78 44 20) 78 45 2) 78 53 0) 78 54 0) 78 55 0) 78 56 0) 78 57 0) 78 24 0) 78 20 0
section LX
variable {F G d : Nat} {A0 B0 A B : St} {b : Nat → Nat} {n : Nat} {t : Tk} {p : Nat}
theorem fgt_at {h k : Nat} (q : ¬ (h = 1 ∧ (k = 0 ∨ k = 1 ∨ k = 4))) (q2 : ¬ (h = d ∧ k ≤ 6)) (q3 : ¬ (h = d + 9 ∧ k ≤ 1)) : (fgt d A).1 h k = A.1 h k := by
  unfold fgt
  rw [sI_at, if_neg (by omega), sI_at, if_neg (by omega), sI_at, if_neg (by omega), sI_at, if_neg (by omega), sI_at, if_neg (by omega), sI_at, if_neg (by omega), sI_at, if_neg (by omega), sI_at, if_neg (by omega), sI_at, if_neg (by omega), sI_at, if_neg (by omega), sI_at, if_neg (by omega), sI_at, if_neg (by omega)]
theorem fgt_new (hd : isSc d = true) : (fgt d A).1 1 0 = 0 ∧ (fgt d A).1 1 1 = -1 ∧ (fgt d A).1 1 4 = 0 ∧ (fgt d A).1 d 0 = 12 ∧ (fgt d A).1 d 1 = 12 ∧ (fgt d A).1 d 2 = 5 ∧ (fgt d A).1 d 3 = 20 ∧ (fgt d A).1 d 4 = 2 ∧ (fgt d A).1 d 5 = 0 ∧ (fgt d A).1 d 6 = 0 ∧ (fgt d A).1 (d + 9) 0 = 0 ∧ (fgt d A).1 (d + 9) 1 = 0 := by
  rcases isSc_or hd with rfl | rfl <;> exact ⟨rfl, rfl, rfl, rfl, rfl, rfl, rfl, rfl, rfl, rfl, rfl, rfl⟩
theorem fgt_ag : Ag (pcs d) (pcl d) A (fgt d A) := by
  unfold fgt
  exact (((((((((((Ag.rf.sI _ (by simp [pcs])).sI _ (by simp [pcs])).sI _ (by simp [pcs])).sI _ (by simp [pcs])).sI _ (by simp [pcs])).sI _ (by simp [pcs])).sI _ (by simp [pcs])).sI _ (by simp [pcs])).sI _ (by simp [pcs])).sI _ (by simp [pcs])).sI _ (by simp [pcs])).sI _ (by simp [pcs])
theorem fgn_ag : Ag pms pml B (fgn B) := by
  unfold fgn
  exact ((((((((((((((((Ag.rf.sI _ rfl).sI _ rfl).sI _ rfl).sI _ rfl).sI _ rfl).sI _ rfl).sI _ rfl).sI _ rfl).sI _ rfl).sI _ rfl).sI _ rfl).sI _ rfl).sI _ rfl).sI _ rfl).sI _ rfl).sI _ rfl).sI _ rfl
theorem R_begin (hd : isSc d = true) (hdr : A.2.2.2 = d) : fR_begin F G A = bd (fT_step F G (sI (fgt d A) 2 2 0)) fun S => some S := by
  unfold fR_begin fS_forget fF_forget fT_begin
  simp only [lt_eq]
  rw [show (sI (sI (sI A 1 0 0) 1 1 (-1)) 1 4 0).2.2.2 = d from hdr, gd_t hd, gd_t hd, gd_t (isFo_of hd)]
  simp only [bd_some]
  show bd (bd (fT_step F G (sI (fgt d A) 2 2 0)) fun S4 => some S4) _ = _
  cases fT_step F G (sI (fgt d A) 2 2 0) <;> rfl
/-- before the first line -/
theorem first_ok (hF : 100000 ≤ F) (hd : isSc d = true) (hdr : A.2.2.2 = d) (hA : TapeC A b n) (hB : TapeM (fgn (fgm n B)) b n) : ∃ A' B' t p, fR_begin F G A = some A' ∧ fM_token F G (fgn (fgm n B)) = some B' ∧ Ln d A (fgm n B) b n A' B' t p := by
  have h4d := sc4 hd
  obtain ⟨e0, e1, e4, d0, d1, d2, d3, d4, d5, d6, f0, f1⟩ := fgt_new (A := A) hd
  have hA5 : TapeC (sI (fgt d A) 2 2 0) b n := by
    refine ⟨?_, hA.2.1, fun k hk => ⟨(hA.2.2 k hk).1, ?_⟩⟩
    · rw [sI_at, if_neg (by omega), fgt_at (by omega) (by omega) (by omega)]; exact hA.1
    · rw [sI_at, if_neg (by omega), fgt_at (by omega) (by omega) (by omega)]; exact (hA.2.2 k hk).2
  obtain ⟨A', a1, a2, a3, a4, a5⟩ := T_step (F := F) (G := G) hF (p := 0) hA5 (Nat.zero_le _) sI_self
  obtain ⟨B', b1, b2, b3, b4, b5⟩ := M_token (F := F) (G := G) hF (p := 0) hB (Nat.zero_le _) rfl
  obtain ⟨s1, s2⟩ := stp_bd (P := isBk) (b := b) (n := n) (p := 0) (Nat.zero_le _)
  obtain ⟨x1, x2, x3⟩ := tkE_bd b s2
  have hz : (tkA b n (stp isBk b n 0)).1 ≠ 0 → stp isBk b n 0 < n := by
    intro q
    by_cases c : stp isBk b n 0 < n
    · exact c
    · rw [tkA, if_neg c] at q; exact absurd rfl q
  have cA : ∀ h k, lxs h k = false → ¬ (h = 2 ∧ k = 2) → A'.1 h k = (fgt d A).1 h k := fun h k q1 q2 => by rw [a2.2.1 h k q1, sI_at, if_neg q2]
  have lxd : ∀ j k, lxs (d + j) k = false := fun j k => by
    have : (d + j == 2) = false := by simp; omega
    simp only [lxs, this]; rfl
  have lxd0 : ∀ k, lxs d k = false := fun k => lxd 0 k
  have lys2 : ∀ k, 9 ≤ k → lys 78 k = false := fun k hk => by
    have q := ys_78 (k := k) hk
    simp only [ys, Bool.or_eq_false_iff] at q
    exact q.2
  refine ⟨A', B', _, _, ?_, b1, 0, 0, fun _ => [], fun _ => [], ⟨hA5.ag a2 rfl (fun _ => rfl), hB.ag b2 rfl (fun _ => rfl), a5, b5, tkA_ok b s2, x2, a4, fun q => ?_, a3.trans b3.symm, fun q => ?_⟩, ?_, ?_, ?_, ?_, ?_, ?_, ?_, fun _ => rfl, ?_, ?_⟩
  · rw [R_begin hd hdr, a1, bd_some]
  · rw [b4, if_neg q]
  · have := x3 (hz q); omega
  · rw [cA 1 0 rfl (by omega)]; exact e0
  · exact (b2.2.1 78 2 rfl).trans rfl
  · rw [cA 1 1 rfl (by omega)]; exact e1
  · exact (b2.2.1 78 3 rfl).trans rfl
  · refine ⟨by omega, by omega, ?_, (b2.2.1 78 40 rfl).trans rfl, ?_, (b2.2.1 78 41 rfl).trans rfl, ⟨12, by omega, by omega, ?_, (b2.2.1 78 39 rfl).trans rfl, fun i hi => by omega⟩, ⟨12, by omega, ?_, (b2.2.1 78 42 rfl).trans rfl⟩, ⟨5, by omega, by omega, ?_, (b2.2.1 78 43 rfl).trans rfl⟩, ⟨20, by omega, ?_, (b2.2.1 78 44 rfl).trans rfl⟩, ⟨2, by omega, ?_, (b2.2.1 78 45 rfl).trans rfl⟩, fun i hi => by omega, fun i j hi => by omega, fun i hi => by omega⟩
    · rw [cA d 5 (lxd0 5) (by omega)]; exact d5
    · rw [cA d 6 (lxd0 6) (by omega)]; exact d6
    · rw [cA d 0 (lxd0 0) (by omega)]; exact d0
    · rw [cA d 1 (lxd0 1) (by omega)]; exact d1
    · rw [cA d 2 (lxd0 2) (by omega)]; exact d2
    · rw [cA d 3 (lxd0 3) (by omega)]; exact d3
    · rw [cA d 4 (lxd0 4) (by omega)]; exact d4
  · refine ⟨⟨0, by omega, ?_, (b2.2.1 78 20 rfl).trans rfl⟩, Or.inl ⟨(b2.2.1 78 24 rfl).trans rfl, ?_, ?_⟩⟩
    · rw [cA (d + 9) 0 (lxd 9 0) (by omega)]; exact f0
    · rw [cA (d + 9) 1 (lxd 9 1) (by omega)]; exact f1
    · rw [cA (d + 9) 0 (lxd 9 0) (by omega)]; exact f0
  · have z4 : A'.1 1 4 = 0 := by rw [cA 1 4 rfl (by omega)]; exact e4
    have q : ∀ k, 53 ≤ k → k ≤ 57 → B'.1 78 k = 0 := fun k h1 h2 => by
      rw [b2.2.1 78 k (lys2 k (by omega))]
      rcases (by omega : k = 53 ∨ k = 54 ∨ k = 55 ∨ k = 56 ∨ k = 57) with rfl | rfl | rfl | rfl | rfl <;> rfl
    have q24 : B'.1 78 24 = 0 := (b2.2.1 78 24 rfl).trans rfl
    unfold Bg
    rw [z4, q24, q 53 (by omega) (by omega), q 54 (by omega) (by omega), q 55 (by omega) (by omega), q 56 (by omega) (by omega), q 57 (by omega) (by omega)]
    exact ⟨⟨fun _ => rfl, fun _ => rfl⟩, ⟨fun _ => rfl, fun _ => bt_0 3⟩, ⟨fun _ => rfl, fun _ => bt_0 4⟩, ⟨fun _ => rfl, fun _ => bt_0 5⟩, ⟨fun _ => rfl, fun _ => bt_0 6⟩, ⟨fun _ => rfl, fun _ => bt_0 7⟩⟩
  · exact (fgt_ag.sI _ (by simp [pcs, lxs])).tr (a2.mono (fun _ _ e => pcs_lx e) (fun _ _ e => pcl_lx e))
  · exact fgn_ag.tr (b2.mono (fun _ _ e => pms_ly e) (fun _ _ e => pml_ly e))
/-- all lines -/
theorem lines_ok (hF : 100000 ≤ F) (hG : 60 ≤ G) (hd : isSc d = true) (hdr : A0.2.2.2 = d) {k : St → Option (Int32 × St)} : ∀ r i f g A B t p, rem n t p ≤ r → i + rem n t p ≤ 1600 → r < f → r < g → Ln d A0 B0 b n A B t p → ∃ A' B', fx2 (b_N_score_9 F G k) f (nI i) A = k A' ∧ fx1 (b_M_readAll_105 F G) g B = some B' ∧ ((∃ t' p', Ln d A0 B0 b n A' B' t' p' ∧ t'.1 = 0) ∨ LB d A0 B0 A' B') := by
  have stopC : ∀ rec i A, (¬ A.1 1 0 = 0 ∨ A.1 2 4 = 0) → b_N_score_9 F G k rec (nI i) A = k A := by
    intro rec i A h
    unfold b_N_score_9 fR_goesOn
    by_cases c : (1600 : Int32) ≤ nI i
    · rw [if_pos c]
    · rw [if_neg c]
      by_cases c0 : A.1 1 0 = 0
      · rcases h with h | h
        · exact absurd c0 h
        · rw [if_pos c0, if_pos h, bd_some, if_pos rfl]
      · rw [if_neg c0, bd_some, if_pos rfl]
  have stopM : ∀ rec B, (¬ B.1 78 2 = 0 ∨ B.1 78 6 = 0) → b_M_readAll_105 F G rec B = some B := by
    intro rec B h
    unfold b_M_readAll_105
    by_cases c0 : B.1 78 2 = 0
    · rcases h with h | h
      · exact absurd c0 h
      · rw [if_pos c0, if_pos h]
    · rw [if_neg c0]
  intro r
  induction r with
  | zero =>
    intro i f g A B t p hr hi hf hg h
    obtain ⟨f', rfl⟩ : ∃ f', f = f' + 1 := ⟨f - 1, by omega⟩
    obtain ⟨g', rfl⟩ : ∃ g', g = g' + 1 := ⟨g - 1, by omega⟩
    have h0 : t.1 = 0 := by
      by_cases c : t.1 = 0
      · exact c
      · have := rem_pos (n := n) (p := p) c; omega
    obtain ⟨np, nn, PN, NN, k1, k2, -⟩ := id h
    rw [fx2_s, fx1_s, stopC _ i A (Or.inr (by rw [k1.2.2.1.1]; exact (kind_o k1.2.2.2.2.1).1.mpr h0)), stopM _ B (Or.inr (by rw [k1.2.2.2.1.1]; exact (sort_o k1.2.2.2.2.1).1.mpr h0))]
    exact ⟨A, B, rfl, rfl, Or.inl ⟨t, p, h, h0⟩⟩
  | succ r ih =>
    intro i f g A B t p hr hi hf hg h
    obtain ⟨f', rfl⟩ : ∃ f', f = f' + 1 := ⟨f - 1, by omega⟩
    obtain ⟨g', rfl⟩ : ∃ g', g = g' + 1 := ⟨g - 1, by omega⟩
    obtain ⟨np, nn, PN, NN, k1, k2, k3, -⟩ := id h
    rw [fx2_s, fx1_s]
    by_cases h0 : t.1 = 0
    · rw [stopC _ i A (Or.inr (by rw [k1.2.2.1.1]; exact (kind_o k1.2.2.2.2.1).1.mpr h0)), stopM _ B (Or.inr (by rw [k1.2.2.2.1.1]; exact (sort_o k1.2.2.2.2.1).1.mpr h0))]
      exact ⟨A, B, rfl, rfl, Or.inl ⟨t, p, h, h0⟩⟩
    · have hpos := rem_pos (n := n) (p := p) h0
      obtain ⟨A1, B1, a1, a2, a3⟩ := line_ok (F := F) (G := G) hF hG hd hdr h h0
      have eC : ∀ rec, b_N_score_9 F G k rec (nI i) A = rec (nI (i + 1)) A1 := by
        intro rec
        unfold b_N_score_9 fR_goesOn
        rw [if_neg (show ¬ (1600 : Int32) ≤ nI i from nI_ge (b := 1600) (by omega) (by decide)), if_pos k2, if_neg (show ¬ A.1 2 4 = 0 from fun q => h0 ((kind_o k1.2.2.2.2.1).1.mp (by rw [← k1.2.2.1.1]; exact q))), bd_some, if_neg (by decide), a1, bd_some, lt_eq, nI_1]
      have eM : ∀ rec, b_M_readAll_105 F G rec B = rec B1 := by
        intro rec
        unfold b_M_readAll_105
        rw [if_pos k3, if_neg (show ¬ B.1 78 6 = 0 from fun q => h0 ((sort_o k1.2.2.2.2.1).1.mp (by rw [← k1.2.2.2.1.1]; exact q))), a2, bd_some]
      rw [eC, eM]
      rcases a3 with ⟨t', p', a3, a4⟩ | a3
      · exact ih (i + 1) f' g' A1 B1 t' p' (by omega) (by omega) (by omega) (by omega) a3
      · obtain ⟨f2, rfl⟩ : ∃ f2, f' = f2 + 1 := ⟨f' - 1, by omega⟩
        obtain ⟨g2, rfl⟩ : ∃ g2, g' = g2 + 1 := ⟨g' - 1, by omega⟩
        rw [fx2_s, fx1_s, stopC _ (i + 1) A1 (Or.inl a3.fc), stopM _ B1 (Or.inl a3.fm.1)]
        exact ⟨A1, B1, rfl, rfl, Or.inr a3⟩
/-- the whole text -/
theorem text_ok (hF : 100000 ≤ F) (hG : 60 ≤ G) (hd : isSc d = true) (hdr : A.2.2.2 = d) (hA : TapeC A b n) (h1 : B.1 78 1 = nI n) (h79 : ∀ k, k < n → b k < 256 ∧ B.1 79 k = nI (b k)) : ∃ A' B', fN_score F G A = j_N_score_39 F G A' ∧ fM_readAll F G B = some B' ∧ ((∃ t' p', Ln d A (fgm n B) b n A' B' t' p' ∧ t'.1 = 0) ∨ LB d A (fgm n B) A' B') := by
  have hB : TapeM (fgn (fgm n B)) b n := ⟨rfl, hA.2.1, h79⟩
  obtain ⟨A1, B1, t, p, a1, a2, a3⟩ := first_ok (F := F) (G := G) hF hd hdr hA hB
  obtain ⟨np, nn, PN, NN, k1, -⟩ := id a3
  have h16 := hA.2.1
  have hr : rem n t p ≤ 1600 := by
    have h2 := k1.2.2.2.2.2.2.2.2.2
    unfold rem
    by_cases c : t.1 = 0
    · rw [if_pos c]; omega
    · rw [if_neg c]
      have := h2 c
      omega
  obtain ⟨A', B', x1, x2, x3⟩ := lines_ok (F := F) (G := G) hF hG hd hdr (k := fun S11 => j_N_score_39 F G S11) (rem n t p) 0 F F A1 B1 t p (Nat.le_refl _) (by omega) (by omega) (by omega) a3
  refine ⟨A', B', ?_, ?_, x3⟩
  · unfold fN_score
    rw [a1, bd_some]
    exact x1
  · unfold fM_readAll
    simp only [lt_eq]
    have e : fM_token F G (fgn (fgm n B)) = some B1 := a2
    rw [h1]
    show bd (fM_token F G (fgn (fgm n B))) _ = _
    rw [e, bd_some]
    exact x2
end LX
