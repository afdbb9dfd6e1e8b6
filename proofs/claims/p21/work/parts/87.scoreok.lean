/-! SCORE: class and reference answer alike -/
theorem iv_z {x : Int32} (h : x = 0) {u : Int} (hu : 0 ≤ u) : iv x 0 u := by
  rw [h]; exact ⟨by decide, hu⟩
theorem iv_nz {x : Int32} {n : Nat} (h : x = nI n) {u : Nat} (hn : n ≤ u) (hu : u < 2 ^ 31) : iv x 0 (u : Int) := by
  rw [h]; exact iv_nI (l := 0) (Nat.zero_le _) hn hu
theorem hgt_hg {S : St} {f : Nat → Int32} {m : Nat} (h : ∀ k, k < m → S.1 83 k = f k) : ∀ s, s ≤ m → hgt S s = hg f s := by
  intro s
  induction s with
  | zero => intro _; rfl
  | succ s ih =>
    intro hs
    show (if S.1 83 s = 0 ∨ S.1 83 s = 1 then hgt S s + 1 else if S.1 83 s = 2 then hgt S s else hgt S s - 1) = if f s = 0 ∨ f s = 1 then hg f s + 1 else if f s = 2 then hg f s else hg f s - 1
    rw [h s (by omega), ih (by omega)]
theorem blt_f {a b : Nat} (h : ¬ a < b) : Nat.blt a b = false := by
  rw [Bool.eq_false_iff]; intro z; exact h (Nat.le_of_ble_eq_true z)
theorem mes_115 {nn k : Nat} (h : ¬ k < 3) : mes nn 115 k = false := by
  have : Nat.blt k 3 = false := blt_f h
  unfold mes
  rw [this]; rfl
theorem mes_9 {nn h k : Nat} (q : h = 95 ∨ h = 96) (c : ¬ k < nn) : mes nn h k = false := by
  have : Nat.blt k nn = false := blt_f c
  unfold mes
  rw [this]
  rcases q with rfl | rfl <;> rfl
section SO
variable {F G : Nat} {S : St}
theorem score_ok (hF : 100000 ≤ F) (hG : 60 ≤ G) (hJ : J S) : ∃ v S1 S2, fN_score F G S = some (v, S1) ∧ fM_score F G S1 = some (v, S2) ∧ J S2 := by
  obtain ⟨v, S1, s1, s2⟩ := sc_class hF hG hJ
  obtain ⟨⟨b1, ⟨t1, t2, t3⟩, w1, a1⟩, ⟨n, b, hA, h1, h79⟩, c1, c2, c3⟩ := hJ
  have hd : isSc S.2.2.2 = true := by
    rw [t2]; rcases isSc_or t1 with q | q <;> rw [q] <;> rfl
  have tD : S.2.2.1 = 21 - S.2.2.2 := by
    rw [t2]; rcases isSc_or t1 with q | q <;> rw [q]
  have hdd := isSc_or hd
  have ec : ∀ k, ecs S.2.2.2 k = false ∧ ecs (S.2.2.2 + 9) k = false ∧ ecs (21 - S.2.2.2) k = false ∧ ecs (21 - S.2.2.2 + 9) k = false := fun k => by
    rcases hdd with q | q <;> rw [q] <;> exact ⟨rfl, rfl, rfl, rfl⟩
  have oldT : ∀ k l u, bnd 4 k = some (l, u) → bnd 17 k = some (l, u) → iv (S.1 (21 - S.2.2.2) k) l u := fun k l u q1 q2 => by
    rw [← tD]; rcases isSc_or t1 with q | q <;> rw [q]
    · exact b1 _ _ _ _ q1
    · exact b1 _ _ _ _ q2
  have oldT9 : ∀ k l u, bnd 13 k = some (l, u) → bnd 26 k = some (l, u) → iv (S.1 (21 - S.2.2.2 + 9) k) l u := fun k l u q1 q2 => by
    rw [← tD]; rcases isSc_or t1 with q | q <;> rw [q]
    · exact b1 _ _ _ _ q1
    · exact b1 _ _ _ _ q2
  have oldD9 : iv (S.1 (S.2.2.2 + 9) 5) 0 31 := by
    rcases hdd with q | q <;> rw [q] <;> exact b1 _ _ _ _ rfl
  obtain ⟨A', B', e1, e2, e3⟩ := text_ok (F := F) (G := G) (d := S.2.2.2) (A := S) (B := S1) hF hG hd rfl hA ((s2 78 1 (by omega)).trans h1) (fun k hk => ⟨(h79 k hk).1, (s2 79 k (by omega)).trans (h79 k hk).2⟩)
  rcases e3 with ⟨t', p', ⟨np, nn, PN, NN, k1, k2, k3, k4, k5, k6, k7, k8, k9, k10, k11⟩, h0⟩ | e3
  · obtain ⟨S1', f1, f2, f3, f4, f20, f301, frow, f510, f511, f690, f012, f36, f41, f46⟩ := C_end (F := F) (G := G) (A := A') (d := S.2.2.2) (tl := S.2.2.1) (nn := nn) hF hd t1 (by rw [k10.1]) (by rw [k10.1]) k2 k6.2.2.2.2.1
    have z : (v, S1) = (nI nn, S1') := Option.some.inj (s1.symm.trans (e1.trans f1))
    obtain ⟨rfl, rfl⟩ := Prod.mk.inj z
    obtain ⟨hp4, hn10, d5, m40, d6, m41, ⟨x, x1, x2, d0, m39, hx⟩, -, -, -, -, hpn, -, hnn⟩ := id k6
    obtain ⟨m, hm, h24, hA9, hwf⟩ : ∃ m, m ≤ 270 ∧ ((B'.1 78 24 = 0 ∧ m = 0) ∨ (B'.1 78 24 = 1 ∧ B'.1 78 17 = nI m ∧ m ≤ 320)) ∧ A'.1 (S.2.2.2 + 9) 1 = nI m ∧ WFn (B'.1 81) (B'.1 82) m := by
      rcases k7.2 with ⟨q1, q2, -⟩ | ⟨q1, m, -, q2, q3, q4, -, q5, -⟩
      · exact ⟨0, by omega, Or.inl ⟨q1, rfl⟩, q2, fun s hs => by omega⟩
      · exact ⟨m, q2, Or.inr ⟨q1, q4, by omega⟩, q3, q5⟩
    obtain ⟨S2, g1, g2, g46, g47, g48, g49, g50, g51, g52, g21, g25, g18, gst, gpt, gnt, glay, g63, g64, g74, g68, g115⟩ := M_endOK (F := F) (G := G) (B := B') (m := m) hF (by rw [k3]; decide) m40 hp4 m41 hn10 h24 e2
    have lo : ∀ h k, h < 78 → S2.1 h k = S1.1 h k := fun h k q => by
      rw [g2.2.1 h k (mes_lo q), k11.2.1 h k (pms_lo q), fgm_at (by omega)]
    have lc : ∀ h k, h < 78 → ecs h k = false → S2.1 h k = A'.1 h k := fun h k q q2 => by rw [lo h k q, f4 h k q2]
    have U : ∀ h k, h < 78 → 30 ≤ h → ecs h k = false → S2.1 h k = S.1 h k := fun h k q1 q2 q3 => by rw [lc h k q1 q3, k10.2.1 h k (pcs_hi hd q2)]
    have V : ∀ h k, 78 ≤ h → mes nn h k = false → pms h k = false → ¬ (h = 78 ∧ (k = 1 ∨ k = 5)) → S2.1 h k = S.1 h k := fun h k q0 q1 q2 q3 => by
      rw [g2.2.1 h k q1, k11.2.1 h k q2, fgm_at q3, s2 h k q0]
    have D5 : iv (S2.1 S.2.2.2 5) 0 4 := by rw [lc _ 5 (by omega) (ec 5).1]; exact iv_nz d5 hp4 (by decide)
    have D6 : iv (S2.1 S.2.2.2 6) 0 10 := by rw [lc _ 6 (by omega) (ec 6).1]; exact iv_nz d6 hn10 (by decide)
    have D91 : iv (S2.1 (S.2.2.2 + 9) 1) 0 270 := by rw [lc _ 1 (by omega) (ec 1).2.1]; exact iv_nz hA9 hm (by decide)
    have D95 : iv (S2.1 (S.2.2.2 + 9) 5) 0 31 := by rw [lc _ 5 (by omega) (ec 5).2.1, k10.2.1 _ _ ((pcs_tl hd).2.2 (by omega))]; exact oldD9
    have T5 : iv (S2.1 (21 - S.2.2.2) 5) 0 4 := by rw [lc _ 5 (by omega) (ec 5).2.2.1, k10.2.1 _ _ (pcs_tl hd).1]; exact oldT 5 _ _ rfl rfl
    have T6 : iv (S2.1 (21 - S.2.2.2) 6) 0 10 := by rw [lc _ 6 (by omega) (ec 6).2.2.1, k10.2.1 _ _ (pcs_tl hd).1]; exact oldT 6 _ _ rfl rfl
    have T91 : iv (S2.1 (21 - S.2.2.2 + 9) 1) 0 270 := by rw [lc _ 1 (by omega) (ec 1).2.2.2, k10.2.1 _ _ (pcs_tl hd).2.1]; exact oldT9 1 _ _ rfl rfl
    have T95 : iv (S2.1 (21 - S.2.2.2 + 9) 5) 0 31 := by rw [lc _ 5 (by omega) (ec 5).2.2.2, k10.2.1 _ _ (pcs_tl hd).2.1]; exact oldT9 5 _ _ rfl rfl
    have D0 : iv (S2.1 S.2.2.2 0) 1 12 := by rw [lc _ 0 (by omega) (ec 0).1, d0]; exact iv_nI (l := 1) (u := 12) x1 x2 (by decide)
    have m1 : S2.1 78 1 = 0 := by rw [g2.2.1 78 1 rfl, k11.2.1 78 1 rfl]; rfl
    have h95 : ∀ k, iv (S2.1 95 k) 0 3 := fun k => by
      by_cases c : k < nn
      · rw [(gnt k c).1]
        have := (hnn k c).2.2.2.2.1
        exact ⟨this.1, by have := this.2; omega⟩
      · rw [V 95 k (by omega) (mes_9 (Or.inl rfl) c) rfl (by omega)]; exact b1 95 k _ _ rfl
    have h96 : ∀ k, iv (S2.1 96 k) 0 11 := fun k => by
      by_cases c : k < nn
      · rw [(gnt k c).2.1]
        have := hx k c
        exact ⟨this.1, by have := this.2; omega⟩
      · rw [V 96 k (by omega) (mes_9 (Or.inr rfl) c) rfl (by omega)]; exact b1 96 k _ _ rfl
    have hbb : ∀ h k, (h == 73 || h == 112 || h == 115) = true → iv (S2.1 h k) 0 1 := fun h k q => by
      simp only [Bool.or_eq_true, beq_iff_eq] at q
      rcases q with (rfl | rfl) | rfl
      · rw [U 73 k (by omega) (by omega) (ecs_hi (by omega))]; exact b1 73 k _ _ rfl
      · rw [V 112 k (by omega) rfl rfl (by omega)]; exact b1 112 k _ _ rfl
      · by_cases c : k < 3
        · exact iv_z (g115 k c) (by decide)
        · rw [V 115 k (by omega) (mes_115 c) rfl (by omega)]; exact b1 115 k _ _ rfl
    have r3 : iv (S2.1 0 12) 0 10 := by rw [lo 0 12 (by omega)]; exact iv_z f012 (by decide)
    have q20 : S2.1 2 0 = 0 := by rw [lo 2 0 (by omega)]; exact f20
    have r5 : iv (S2.1 57 0) 0 12 := by rw [U 57 0 (by omega) (by omega) rfl]; exact b1 57 0 _ _ rfl
    have r6 : iv (S2.1 57 1) 0 10 := by rw [U 57 1 (by omega) (by omega) rfl]; exact b1 57 1 _ _ rfl
    have r7 : iv (S2.1 69 0) 0 30 := by rw [lo 69 0 (by omega)]; exact iv_z f690 (by decide)
    have q691 : S2.1 69 1 = S.1 69 1 := U 69 1 (by omega) (by omega) rfl
    have r9 : iv (S2.1 69 10) 0 30 := by rw [U 69 10 (by omega) (by omega) rfl]; exact b1 69 10 _ _ rfl
    have ra : iv (S2.1 51 0) 0 40 := by rw [lo 51 0 (by omega)]; exact iv_z f510 (by decide)
    have rb : iv (S2.1 51 1) 0 40 := by rw [lo 51 1 (by omega)]; exact iv_z f511 (by decide)
    have q75 : S2.1 78 75 = S.1 78 75 := V 78 75 (by omega) rfl rfl (by omega)
    have r46 : iv (S2.1 78 46) 1 12 := by rw [g46, m39]; exact iv_nI (l := 1) (u := 12) x1 x2 (by decide)
    have hB : Bnd S2 := by
      rcases hdd with q | q <;> rw [q] at D5 D6 D91 D95 T5 T6 T91 T95
      · exact Bnd.mk D5 D6 T5 T6 D91 D95 T91 T95 r3 (iv_z q20 (by decide)) r5 r6 r7 (by rw [q691]; exact b1 69 1 _ _ rfl) r9 ra rb (iv_z m1 (by decide)) (iv_nz (u := 320) g18 (by omega) (by decide)) r46 (iv_nz (u := 4) g47 hp4 (by decide)) (iv_nz (u := 10) g48 hn10 (by decide)) (iv_z g63 (by decide)) (iv_z g64 (by decide)) (iv_z g68 (by decide)) (iv_z g74 (by decide)) (by rw [q75]; exact b1 78 75 _ _ rfl) h95 h96 hbb
      · exact Bnd.mk T5 T6 D5 D6 T91 T95 D91 D95 r3 (iv_z q20 (by decide)) r5 r6 r7 (by rw [q691]; exact b1 69 1 _ _ rfl) r9 ra rb (iv_z m1 (by decide)) (iv_nz (u := 320) g18 (by omega) (by decide)) r46 (iv_nz (u := 4) g47 hp4 (by decide)) (iv_nz (u := 10) g48 hn10 (by decide)) (iv_z g63 (by decide)) (iv_z g64 (by decide)) (iv_z g68 (by decide)) (iv_z g74 (by decide)) (by rw [q75]; exact b1 78 75 _ _ rfl) h95 h96 hbb
    have hT : S2.2.2 = (S.2.2.2, S.2.2.1) := by rw [g2.1, k11.1]; exact f3
    refine ⟨_, S1, S2, s1, g1, ⟨hB, ?_, ?_, ?_⟩, ⟨0, b, ⟨q20, by omega, fun k hk => by omega⟩, m1, fun k hk => by omega⟩, ?_, ?_, ?_⟩
    · rw [Told, hT]; exact ⟨hd, tD, D0⟩
    · intro s hs
      rw [g18, nI_toInt (by omega)] at hs
      have hs : s < m := by omega
      rw [hgt_hg (m := m) (fun k hk => (gst k hk).1) s (by omega), (gst s hs).1, (gst s hs).2]
      obtain ⟨o1, o2, o3, o4, o5⟩ := hwf s hs
      refine ⟨o2, by omega, fun q => ?_, o4, fun q1 q2 q3 => o5 ?_⟩
      · rcases o1 with o | o | o | o
        · rw [q] at o; exact absurd o.1 (by decide)
        · exact o.2
        · rw [q] at o; exact absurd o (by decide)
        · rw [q] at o; exact absurd o.1 (by decide)
      · rcases o1 with o | o | o | o
        · exact absurd o.1 q1
        · exact absurd o.1 q2
        · exact absurd o q3
        · exact o.1
    · rw [ActM, g63, g64]; decide
    · rw [lc 1 0 (by omega) rfl, k2, g2.2.1 78 2 rfl, k3]
    · rw [lc 1 1 (by omega) rfl, k4, g2.2.1 78 3 rfl, k5]
    · rw [q691, q75]; exact c3
  · have f1 := C_endB (F := F) (G := G) e3.fc
    have z : (v, S1) = (-1, sI A' 2 0 0) := Option.some.inj (s1.symm.trans (e1.trans f1))
    obtain ⟨z1, z2⟩ := Prod.mk.inj z
    have g1 := M_endB (F := F) (G := G) (Int32.not_le.mp e3.fm.2) e2
    obtain ⟨⟨x, x1, x2, x3, x4⟩, y1, ⟨⟨u5, w5, d5⟩, ⟨u6, w6, d6⟩, ⟨u9, w9, d9⟩⟩, k10, k11⟩ := e3
    have lc : ∀ h k, h < 78 → ¬ (h = 2 ∧ k = 0) → B'.1 h k = A'.1 h k := fun h k q q2 => by
      rw [k11.2.1 h k (pms_lo q), fgm_at (by omega), z2, sI_at, if_neg q2]
    have U : ∀ h k, h < 78 → 30 ≤ h → B'.1 h k = S.1 h k := fun h k q1 q2 => by rw [lc h k q1 (by omega), k10.2.1 h k (pcs_hi hd q2)]
    have V : ∀ h k, 78 ≤ h → pms h k = false → ¬ (h = 78 ∧ (k = 1 ∨ k = 5)) → B'.1 h k = S.1 h k := fun h k q0 q2 q3 => by
      rw [k11.2.1 h k q2, fgm_at q3, s2 h k q0]
    have D5 : iv (B'.1 S.2.2.2 5) 0 4 := by rw [lc _ 5 (by omega) (by omega)]; exact iv_nz d5 w5 (by decide)
    have D6 : iv (B'.1 S.2.2.2 6) 0 10 := by rw [lc _ 6 (by omega) (by omega)]; exact iv_nz d6 w6 (by decide)
    have D91 : iv (B'.1 (S.2.2.2 + 9) 1) 0 270 := by rw [lc _ 1 (by omega) (by omega)]; exact iv_nz d9 w9 (by decide)
    have D95 : iv (B'.1 (S.2.2.2 + 9) 5) 0 31 := by rw [lc _ 5 (by omega) (by omega), k10.2.1 _ _ ((pcs_tl hd).2.2 (by omega))]; exact oldD9
    have T5 : iv (B'.1 (21 - S.2.2.2) 5) 0 4 := by rw [lc _ 5 (by omega) (by omega), k10.2.1 _ _ (pcs_tl hd).1]; exact oldT 5 _ _ rfl rfl
    have T6 : iv (B'.1 (21 - S.2.2.2) 6) 0 10 := by rw [lc _ 6 (by omega) (by omega), k10.2.1 _ _ (pcs_tl hd).1]; exact oldT 6 _ _ rfl rfl
    have T91 : iv (B'.1 (21 - S.2.2.2 + 9) 1) 0 270 := by rw [lc _ 1 (by omega) (by omega), k10.2.1 _ _ (pcs_tl hd).2.1]; exact oldT9 1 _ _ rfl rfl
    have T95 : iv (B'.1 (21 - S.2.2.2 + 9) 5) 0 31 := by rw [lc _ 5 (by omega) (by omega), k10.2.1 _ _ (pcs_tl hd).2.1]; exact oldT9 5 _ _ rfl rfl
    have m1 : B'.1 78 1 = 0 := by rw [k11.2.1 78 1 rfl]; rfl
    have q20 : B'.1 2 0 = 0 := by rw [k11.2.1 2 0 (pms_lo (by omega)), fgm_at (by omega), z2, sI_self]
    have p0 : ∀ k, pcs S.2.2.2 0 k = false := fun k => by rcases hdd with q | q <;> rw [q] <;> rfl
    have r3 : iv (B'.1 0 12) 0 10 := by rw [lc 0 12 (by omega) (by omega), k10.2.1 0 12 (p0 12)]; exact b1 0 12 _ _ rfl
    have u : ∀ h k l u, h < 78 → 30 ≤ h → bnd h k = some (l, u) → iv (B'.1 h k) l u := fun h k l u q1 q2 q3 => by rw [U h k q1 q2]; exact b1 _ _ _ _ q3
    have w : ∀ h k l u, 78 ≤ h → pms h k = false → ¬ (h = 78 ∧ (k = 1 ∨ k = 5)) → bnd h k = some (l, u) → iv (B'.1 h k) l u := fun h k l u q1 q2 q4 q3 => by rw [V h k q1 q2 q4]; exact b1 _ _ _ _ q3
    have hbb : ∀ h k, (h == 73 || h == 112 || h == 115) = true → iv (B'.1 h k) 0 1 := fun h k q => by
      simp only [Bool.or_eq_true, beq_iff_eq] at q
      rcases q with (rfl | rfl) | rfl
      · exact u 73 k _ _ (by omega) (by omega) rfl
      · exact w 112 k _ _ (by omega) rfl (by omega) rfl
      · exact w 115 k _ _ (by omega) rfl (by omega) rfl
    have hB : Bnd B' := by
      rcases hdd with q | q <;> rw [q] at D5 D6 D91 D95 T5 T6 T91 T95
      · exact Bnd.mk D5 D6 T5 T6 D91 D95 T91 T95 r3 (iv_z q20 (by decide)) (u _ _ _ _ (by omega) (by omega) rfl) (u _ _ _ _ (by omega) (by omega) rfl) (u _ _ _ _ (by omega) (by omega) rfl) (u _ _ _ _ (by omega) (by omega) rfl) (u _ _ _ _ (by omega) (by omega) rfl) (u _ _ _ _ (by omega) (by omega) rfl) (u _ _ _ _ (by omega) (by omega) rfl) (iv_z m1 (by decide)) (w _ _ _ _ (by omega) rfl (by omega) rfl) (w _ _ _ _ (by omega) rfl (by omega) rfl) (w _ _ _ _ (by omega) rfl (by omega) rfl) (w _ _ _ _ (by omega) rfl (by omega) rfl) (w _ _ _ _ (by omega) rfl (by omega) rfl) (w _ _ _ _ (by omega) rfl (by omega) rfl) (w _ _ _ _ (by omega) rfl (by omega) rfl) (w _ _ _ _ (by omega) rfl (by omega) rfl) (w _ _ _ _ (by omega) rfl (by omega) rfl) (fun k => w 95 k _ _ (by omega) rfl (by omega) rfl) (fun k => w 96 k _ _ (by omega) rfl (by omega) rfl) hbb
      · exact Bnd.mk T5 T6 D5 D6 T91 T95 D91 D95 r3 (iv_z q20 (by decide)) (u _ _ _ _ (by omega) (by omega) rfl) (u _ _ _ _ (by omega) (by omega) rfl) (u _ _ _ _ (by omega) (by omega) rfl) (u _ _ _ _ (by omega) (by omega) rfl) (u _ _ _ _ (by omega) (by omega) rfl) (u _ _ _ _ (by omega) (by omega) rfl) (u _ _ _ _ (by omega) (by omega) rfl) (iv_z m1 (by decide)) (w _ _ _ _ (by omega) rfl (by omega) rfl) (w _ _ _ _ (by omega) rfl (by omega) rfl) (w _ _ _ _ (by omega) rfl (by omega) rfl) (w _ _ _ _ (by omega) rfl (by omega) rfl) (w _ _ _ _ (by omega) rfl (by omega) rfl) (w _ _ _ _ (by omega) rfl (by omega) rfl) (w _ _ _ _ (by omega) rfl (by omega) rfl) (w _ _ _ _ (by omega) rfl (by omega) rfl) (w _ _ _ _ (by omega) rfl (by omega) rfl) (fun k => w 95 k _ _ (by omega) rfl (by omega) rfl) (fun k => w 96 k _ _ (by omega) rfl (by omega) rfl) hbb
    have hT : B'.2.2 = S.2.2 := by
      rw [k11.1, show (fgm n S1).2.2 = S1.2.2 from rfl, z2]; exact k10.1
    refine ⟨-1, S1, B', by rw [s1, z1], g1, ⟨hB, ?_, w1.c (V 78 18 (by omega) rfl (by omega)) (fun k => V 83 k (by omega) rfl (by omega)) (fun k => V 84 k (by omega) rfl (by omega)), ?_⟩, ⟨0, b, ⟨q20, by omega, fun k hk => by omega⟩, m1, fun k hk => by omega⟩, ?_, ?_, ?_⟩
    · rw [Told, hT]
      refine ⟨t1, t2, ?_⟩
      rw [tD, lc _ 0 (by omega) (by omega), k10.2.1 _ _ (pcs_tl hd).1, ← tD]; exact t3
    · rw [ActM, V 78 63 (by omega) rfl (by omega), V 78 64 (by omega) rfl (by omega)]; exact a1
    · rw [lc 1 0 (by omega) (by omega), x3, x4]
    · rw [lc 1 1 (by omega) (by omega)]; exact y1
    · rw [U 69 1 (by omega) (by omega), V 78 75 (by omega) rfl (by omega)]; exact c3
end SO
