/-! FEED: bytes onto the tape, class and reference -/
def KpT (S S' : St) : Prop := S'.2 = S.2 ∧ (∀ h, h ≠ 2 → h ≠ 3 → S'.1 h = S.1 h) ∧ (∀ k, k ≠ 0 → S'.1 2 k = S.1 2 k)
theorem KpT.tr {S S1 S2 : St} (a : KpT S S1) (b : KpT S1 S2) : KpT S S2 := ⟨b.1.trans a.1, fun h h1 h2 => (b.2.1 h h1 h2).trans (a.2.1 h h1 h2), fun k hk => (b.2.2 k hk).trans (a.2.2 k hk)⟩
theorem T_put1 {F G : Nat} {z : Int32} {rec : Int32 → St → Option St} {w : Int32} {S : St} {n : Nat} (hw : ¬ w < 0) (hn : S.1 2 0 = nI n) (h : n < 1600) : ∃ S', b_T_putFourBytes_3 F G z rec w S = rec (w + (-8)) S' ∧ S'.1 2 0 = nI (n + 1) ∧ KpT S S' := by
  unfold b_T_putFourBytes_3
  rw [if_neg hw, hn, show (1600 : Int32) = nI 1600 from rfl, if_neg (nI_ge h (by decide)), gd_t (inB_nI h (by decide)), lt_eq, lt_eq, lt_eq]
  refine ⟨_, rfl, ?_, rfl, ?_, ?_⟩
  · show (sI S 3 _ _).1 2 0 + 1 = _
    rw [show (sI S 3 (nI n).toNatClampNeg (vp_nar .byte ((z >>> (w &&& 31)).toInt8.toInt32))).1 2 0 = S.1 2 0 from rfl, hn, nI_1]
  · intro h h1 h2
    simp [sI, h1, h2]
  · intro k hk
    simp [sI, upd, hk]
theorem T_put4 {F G : Nat} (hF : 4 < F) {S : St} {n : Nat} (hn : S.1 2 0 = nI n) (h : n + 4 ≤ 1600) (z : Int32) : ∃ S', fT_putFourBytes F G S z = some S' ∧ S'.1 2 0 = nI (n + 4) ∧ KpT S S' := by
  unfold fT_putFourBytes
  obtain ⟨g, hg⟩ : ∃ g, F = g + 5 := ⟨F - 5, by omega⟩
  have hst : ∀ (w : Int32) (S : St) (m f : Nat), ¬ w < 0 → S.1 2 0 = nI m → m < 1600 → ∃ S', fx2 (b_T_putFourBytes_3 F G z) (f + 1) w S = fx2 (b_T_putFourBytes_3 F G z) f (w + (-8)) S' ∧ S'.1 2 0 = nI (m + 1) ∧ KpT S S' := fun w S m f h1 h2 h3 => T_put1 h1 h2 h3
  obtain ⟨S1, e1, n1, k1⟩ := hst 24 S n (g + 4) (by decide) hn (by omega)
  obtain ⟨S2, e2, n2, k2⟩ := hst (24 + (-8)) S1 (n + 1) (g + 3) (by decide) n1 (by omega)
  obtain ⟨S3, e3, n3, k3⟩ := hst (24 + (-8) + (-8)) S2 (n + 1 + 1) (g + 2) (by decide) n2 (by omega)
  obtain ⟨S4, e4, n4, k4⟩ := hst (24 + (-8) + (-8) + (-8)) S3 (n + 1 + 1 + 1) (g + 1) (by decide) n3 (by omega)
  have e5 : fx2 (b_T_putFourBytes_3 F G z) (g + 1) (24 + (-8) + (-8) + (-8) + (-8)) S4 = some S4 := by
    show b_T_putFourBytes_3 F G z (fx2 _ g) _ S4 = _
    unfold b_T_putFourBytes_3
    exact if_pos (by decide)
  refine ⟨S4, ?_, n4, ((k1.tr k2).tr k3).tr k4⟩
  have k : ∀ f, f = g + 5 → fx2 (b_T_putFourBytes_3 F G z) f 24 S = some S4 := by
    rintro _ rfl
    rw [e1, e2, e3, e4, e5]
  exact k F hg
/-- feed of the class: 20 bytes more, or none -/
theorem N_feed {F G : Nat} (hF : 4 < F) {S : St} {n : Nat} (hn : S.1 2 0 = nI n) (h : n ≤ 1600) (a b c d e : Int32) : ∃ S', fN_feed F G S a b c d e = some (if n + 20 ≤ 1600 then nI (n + 20) else -1, S') ∧ S'.1 2 0 = nI (if n + 20 ≤ 1600 then n + 20 else n) ∧ KpT S S' := by
  unfold fN_feed
  by_cases hh : n + 20 ≤ 1600
  · rw [hn, show (20 : Int32) = nI 20 from rfl, nI_add, show (1600 : Int32) = nI 1600 from rfl, if_pos (nI_le hh (by decide))]
    obtain ⟨S1, e1, n1, k1⟩ := T_put4 (G := G) hF hn (by omega) a
    obtain ⟨S2, e2, n2, k2⟩ := T_put4 (G := G) hF n1 (by omega) b
    obtain ⟨S3, e3, n3, k3⟩ := T_put4 (G := G) hF n2 (by omega) c
    obtain ⟨S4, e4, n4, k4⟩ := T_put4 (G := G) hF n3 (by omega) d
    obtain ⟨S5, e5, n5, k5⟩ := T_put4 (G := G) hF n4 (by omega) e
    have n5 : S5.1 2 0 = nI (n + 20) := n5
    refine ⟨S5, ?_, ?_, (((k1.tr k2).tr k3).tr k4).tr k5⟩
    · rw [e1, bd_some, e2, bd_some, e3, bd_some, e4, bd_some, e5, bd_some, n5, if_pos hh]
    · rw [if_pos hh, n5]
  · rw [hn, show (20 : Int32) = nI 20 from rfl, nI_add, show (1600 : Int32) = nI 1600 from rfl, if_neg (nI_ge (by omega) (by omega)), if_neg hh, if_neg hh]
    exact ⟨S, rfl, hn, rfl, fun _ _ _ => rfl, fun _ _ => rfl⟩
def KpM (S S' : St) : Prop := S'.2 = S.2 ∧ (∀ h, h ≠ 78 → h ≠ 79 → S'.1 h = S.1 h) ∧ (∀ k, k ≠ 1 → S'.1 78 k = S.1 78 k)
theorem KpM.tr {S S1 S2 : St} (a : KpM S S1) (b : KpM S1 S2) : KpM S S2 := ⟨b.1.trans a.1, fun h h1 h2 => (b.2.1 h h1 h2).trans (a.2.1 h h1 h2), fun k hk => (b.2.2 k hk).trans (a.2.2 k hk)⟩
theorem M_four1 {F G : Nat} {z : Int32} {rec : Int32 → St → Option St} {w : Int32} {S : St} {n : Nat} (hw : ¬ w < 0) (hn : S.1 78 1 = nI n) (h : n < 1600) : ∃ S', b_M_four_3 F G z rec w S = rec (w + (-8)) S' ∧ S'.1 78 1 = nI (n + 1) ∧ KpM S S' := by
  unfold b_M_four_3
  rw [if_neg hw, hn, gd_t (inB_nI h (by decide)), lt_eq, lt_eq, lt_eq]
  refine ⟨_, rfl, ?_, rfl, ?_, ?_⟩
  · show (sI S 79 _ _).1 78 1 + 1 = _
    rw [show (sI S 79 (nI n).toNatClampNeg ((z >>> (w &&& 31)) &&& (255 : Int32))).1 78 1 = S.1 78 1 from rfl, hn, nI_1]
  · intro h h1 h2
    simp [sI, h1, h2]
  · intro k hk
    simp [sI, upd, hk]
theorem M_four4 {F G : Nat} (hF : 4 < F) {S : St} {n : Nat} (hn : S.1 78 1 = nI n) (h : n + 4 ≤ 1600) (z : Int32) : ∃ S', fM_four F G S z = some S' ∧ S'.1 78 1 = nI (n + 4) ∧ KpM S S' := by
  unfold fM_four
  obtain ⟨g, hg⟩ : ∃ g, F = g + 5 := ⟨F - 5, by omega⟩
  have hst : ∀ (w : Int32) (S : St) (m f : Nat), ¬ w < 0 → S.1 78 1 = nI m → m < 1600 → ∃ S', fx2 (b_M_four_3 F G z) (f + 1) w S = fx2 (b_M_four_3 F G z) f (w + (-8)) S' ∧ S'.1 78 1 = nI (m + 1) ∧ KpM S S' := fun w S m f h1 h2 h3 => M_four1 h1 h2 h3
  obtain ⟨S1, e1, n1, k1⟩ := hst 24 S n (g + 4) (by decide) hn (by omega)
  obtain ⟨S2, e2, n2, k2⟩ := hst (24 + (-8)) S1 (n + 1) (g + 3) (by decide) n1 (by omega)
  obtain ⟨S3, e3, n3, k3⟩ := hst (24 + (-8) + (-8)) S2 (n + 1 + 1) (g + 2) (by decide) n2 (by omega)
  obtain ⟨S4, e4, n4, k4⟩ := hst (24 + (-8) + (-8) + (-8)) S3 (n + 1 + 1 + 1) (g + 1) (by decide) n3 (by omega)
  have e5 : fx2 (b_M_four_3 F G z) (g + 1) (24 + (-8) + (-8) + (-8) + (-8)) S4 = some S4 := by
    show b_M_four_3 F G z (fx2 _ g) _ S4 = _
    unfold b_M_four_3
    exact if_pos (by decide)
  refine ⟨S4, ?_, n4, ((k1.tr k2).tr k3).tr k4⟩
  have k : ∀ f, f = g + 5 → fx2 (b_M_four_3 F G z) f 24 S = some S4 := by
    rintro _ rfl
    rw [e1, e2, e3, e4, e5]
  exact k F hg
/-- feed of the reference -/
theorem M_feed {F G : Nat} (hF : 4 < F) {S : St} {n : Nat} (hn : S.1 78 1 = nI n) (h : n ≤ 1600) (a b c d e : Int32) : ∃ S', fM_feed F G S a b c d e = some (if n + 20 ≤ 1600 then nI (n + 20) else -1, S') ∧ S'.1 78 1 = nI (if n + 20 ≤ 1600 then n + 20 else n) ∧ KpM S S' := by
  unfold fM_feed
  by_cases hh : n + 20 ≤ 1600
  · rw [hn, show (20 : Int32) = nI 20 from rfl, nI_add, show (1600 : Int32) = nI 1600 from rfl, if_pos (nI_le hh (by decide))]
    obtain ⟨S1, e1, n1, k1⟩ := M_four4 (G := G) hF hn (by omega) a
    obtain ⟨S2, e2, n2, k2⟩ := M_four4 (G := G) hF n1 (by omega) b
    obtain ⟨S3, e3, n3, k3⟩ := M_four4 (G := G) hF n2 (by omega) c
    obtain ⟨S4, e4, n4, k4⟩ := M_four4 (G := G) hF n3 (by omega) d
    obtain ⟨S5, e5, n5, k5⟩ := M_four4 (G := G) hF n4 (by omega) e
    have n5 : S5.1 78 1 = nI (n + 20) := n5
    refine ⟨S5, ?_, ?_, (((k1.tr k2).tr k3).tr k4).tr k5⟩
    · rw [e1, bd_some, e2, bd_some, e3, bd_some, e4, bd_some, e5, bd_some, n5, if_pos hh]
    · rw [if_pos hh, n5]
  · rw [hn, show (20 : Int32) = nI 20 from rfl, nI_add, show (1600 : Int32) = nI 1600 from rfl, if_neg (nI_ge (by omega) (by omega)), if_neg hh, if_neg hh]
    exact ⟨S, rfl, hn, rfl, fun _ _ _ => rfl, fun _ _ => rfl⟩
