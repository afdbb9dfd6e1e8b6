/-! SCORE keeps the stronger invariant -/
theorem lo_0 {S : St} {o i : Nat} (h : i < 10) : lo S o i = S.1 (o + 1) i := if_pos h
theorem lo_1 {S : St} {o i : Nat} (h : i < 10) : lo S o (10 + i) = S.1 (o + 2) i := by
  unfold lo
  rw [if_neg (by omega), if_pos (by omega), show 10 + i - 10 = i by omega]
theorem lo_2 {S : St} {o i : Nat} (h : i < 10) : lo S o (20 + i) = S.1 (o + 3) i := by
  unfold lo
  rw [if_neg (by omega), if_neg (by omega), if_pos (by omega), show 20 + i - 20 = i by omega]
theorem lo_3 {S : St} {o i : Nat} (h : i < 10) : lo S o (30 + i) = S.1 (o + 4) i := by
  unfold lo
  rw [if_neg (by omega), if_neg (by omega), if_neg (by omega), if_pos (by omega), show 30 + i - 30 = i by omega]
theorem lo_4 {S : St} {o : Nat} : lo S o 40 = S.1 o 1 := by
  unfold lo
  rw [if_neg (by omega), if_neg (by omega), if_neg (by omega), if_neg (by omega)]
theorem cell4 {k : Nat} (h : k < 40) : ∃ i, i < 10 ∧ k % 10 = i ∧ (k = i ∨ k = 10 + i ∨ k = 20 + i ∨ k = 30 + i) := ⟨k % 10, by omega, rfl, by omega⟩
theorem Cp3.n {S : St} {nn : Nat} (h : Cp3 S) (h48 : S.1 78 48 = nI nn) (hn : nn ≤ 10) : S.1 S.2.2.1 6 = nI nn ∧ S.1 S.2.2.1 0 = S.1 78 46 ∧ ∀ i, i < nn → S.1 (S.2.2.1 + 4) i = S.1 95 i ∧ S.1 (S.2.2.1 + 5) i = S.1 96 i ∧ S.1 (S.2.2.1 + 6) i = S.1 97 i ∧ S.1 (S.2.2.1 + 7) i = S.1 98 i ∧ S.1 (S.2.2.1 + 8) i = S.1 99 i ∧ iv (S.1 96 i) 0 ((S.1 78 46).toInt - 1) ∧ iv (S.1 97 i) 0 87 ∧ iv (S.1 98 i) 1 12 ∧ iv (S.1 99 i) 1 9 := by
  obtain ⟨np, n', m, a1, a2, a3, b1, b2, b3, b4, b5, -, -, -, -, d1, d2, -⟩ := h
  have e : n' = nn := (nI_eq (a := n') (b := nn) (by omega) (by omega)).mp (b4.symm.trans h48)
  subst e
  refine ⟨b3, b5, fun i hi => ?_⟩
  obtain ⟨x1, x2, x3, x4, x5, x6, x7, x8, x9, x10⟩ := d2 i hi
  exact ⟨x1, x3, x5, x7, x9, x4, x6, x8, x10⟩
theorem CpL.c4 {S : St} {nn : Nat} (h : CpL nn S) (h48 : S.1 78 48 = nI nn) (hn : nn ≤ 10) : Cp4 S := by
  obtain ⟨v, c1, c2, c3⟩ := h
  refine ⟨?_, fun i hi => ?_⟩
  · rw [← c2]; exact lo_4.symm
  · rw [h48, nI_toInt (by omega)] at hi
    have hi : i < nn := by omega
    have r0 := (v i (by omega)).1 (by omega)
    have r1 := (v (10 + i) (by omega)).1 (by omega)
    have r2 := (v (20 + i) (by omega)).1 (by omega)
    have r3 := (v (30 + i) (by omega)).1 (by omega)
    have q0 := c1 i (by omega) (by omega)
    have q1 := c1 (10 + i) (by omega) (by omega)
    have q2 := c1 (20 + i) (by omega) (by omega)
    have q3 := c1 (30 + i) (by omega) (by omega)
    rw [lo_0 (by omega)] at q0
    rw [lo_1 (by omega)] at q1
    rw [lo_2 (by omega)] at q2
    rw [lo_3 (by omega)] at q3
    exact ⟨q0, r0.1 (by omega), q1, r1.2.1 (by omega) (by omega), q2, r2.2.2.1 (by omega) (by omega), q3, r3.2.2.2 (by omega)⟩
section SX
variable {F G : Nat} {S : St}
theorem score_cases (hF : 100000 ≤ F) (hG : 60 ≤ G) (hJ : J S) {v v' : Int32} {S1 S2 : St} (s1 : fN_score F G S = some (v, S1)) (s3 : fM_score F G S1 = some (v', S2)) :
    (∃ nn, nn ≤ 10 ∧ S2.1 78 48 = nI nn ∧ (∀ k, k < 41 → S2.1 100 k = lay0 nn S2 k) ∧ S2.1 30 1 = 0 ∧ (∀ k, k < 10 → S2.1 31 k = 0) ∧ (∀ i, i < nn → S2.1 32 i = S2.1 97 i ∧ S2.1 33 i = S2.1 98 i ∧ S2.1 34 i = S2.1 99 i) ∧ S2.1 51 0 = 0 ∧ S2.1 51 1 = 0 ∧ S2.1 69 0 = 0 ∧ S2.1 78 63 = 0 ∧ S2.1 78 64 = 0 ∧ S2.1 78 74 = 0 ∧ ∀ b, b < 3 → S2.1 (36 + 5 * b) 0 = 0 ∧ S2.1 115 b = 0)
    ∨ (∀ h k, (30 ≤ h ∧ h < 78) ∨ (78 ≤ h ∧ pms h k = false ∧ ¬ (h = 78 ∧ (k = 1 ∨ k = 5))) → S2.1 h k = S.1 h k) := by
  obtain ⟨v0, S10, s10, s2⟩ := sc_class hF hG hJ
  obtain ⟨rfl, rfl⟩ := Prod.mk.inj (Option.some.inj (s10.symm.trans s1))
  obtain ⟨⟨b1, ⟨t1, t2, t3⟩, w1, a1⟩, ⟨n, b, hA, h1, h79⟩, c1, c2, c3⟩ := hJ
  have hd : isSc S.2.2.2 = true := by
    rw [t2]; rcases isSc_or t1 with q | q <;> rw [q] <;> rfl
  obtain ⟨A', B', e1, e2, e3⟩ := text_ok (F := F) (G := G) (d := S.2.2.2) (A := S) (B := S10) hF hG hd rfl hA ((s2 78 1 (by omega)).trans h1) (fun k hk => ⟨(h79 k hk).1, (s2 79 k (by omega)).trans (h79 k hk).2⟩)
  rcases e3 with ⟨t', p', ⟨np, nn, PN, NN, k1, k2, k3, k4, k5, k6, k7, k8, k9, k10, k11⟩, h0⟩ | e3
  · obtain ⟨S1', f1, f2, f3, f4, f20, f301, frow, f510, f511, f690, f012, f36, f41, f46⟩ := C_end (F := F) (G := G) (A := A') (d := S.2.2.2) (tl := S.2.2.1) (nn := nn) hF hd t1 (by rw [k10.1]) (by rw [k10.1]) k2 k6.2.2.2.2.1
    obtain ⟨z1, rfl⟩ := Prod.mk.inj (Option.some.inj (s1.symm.trans (e1.trans f1)))
    obtain ⟨hp4, hn10, d5, m40, d6, m41, -, -, -, -, -, hpn, -, hnn⟩ := id k6
    obtain ⟨m, hm, h24⟩ : ∃ m, m ≤ 270 ∧ ((B'.1 78 24 = 0 ∧ m = 0) ∨ (B'.1 78 24 = 1 ∧ B'.1 78 17 = nI m ∧ m ≤ 320)) := by
      rcases k7.2 with ⟨q1, q2, -⟩ | ⟨q1, m, q0, q2, q3, q4, q5, q6, q7⟩
      · exact ⟨0, by omega, Or.inl ⟨q1, rfl⟩⟩
      · exact ⟨m, q2, Or.inr ⟨q1, q4, by omega⟩⟩
    obtain ⟨S2', g1, g2, g46, g47, g48, g49, g50, g51, g52, g21, g25, g18, gst, gpt, gnt, glay, g63, g64, g74, g68, g115⟩ := M_endOK (F := F) (G := G) (B := B') (m := m) hF (by rw [k3]; decide) m40 hp4 m41 hn10 h24 e2
    obtain ⟨z2, rfl⟩ := Prod.mk.inj (Option.some.inj (s3.symm.trans g1))
    have lw : ∀ h k, h < 78 → S2.1 h k = S10.1 h k := fun h k q => by
      rw [g2.2.1 h k (mes_lo q), k11.2.1 h k (pms_lo q), fgm_at (by omega)]
    refine Or.inl ⟨nn, hn10, g48, glay, ?_, fun k hk => ?_, fun i hi => ?_, ?_, ?_, ?_, g63, g64, g74, fun b hb => ⟨?_, g115 b hb⟩⟩
    · rw [lw 30 1 (by omega)]; exact f301
    · rw [lw 31 k (by omega)]; exact (frow k hk).1
    · obtain ⟨n1, n2, n3, n4, n5, n6, n7, n8, n9, n10, n11, n12⟩ := hnn i hi
      obtain ⟨o1, o2, o3, o4, o5⟩ := gnt i hi
      obtain ⟨r1, r2, r3, r4⟩ := frow i (by omega)
      rw [lw 32 i (by omega), lw 33 i (by omega), lw 34 i (by omega), r2, r3, r4, o3, o4, o5]
      exact ⟨n7, n9, n11⟩
    · rw [lw 51 0 (by omega)]; exact f510
    · rw [lw 51 1 (by omega)]; exact f511
    · rw [lw 69 0 (by omega)]; exact f690
    · rw [lw _ 0 (by omega)]
      rcases (by omega : b = 0 ∨ b = 1 ∨ b = 2) with rfl | rfl | rfl
      · exact f36
      · exact f41
      · exact f46
  · have f1 := C_endB (F := F) (G := G) e3.fc
    obtain ⟨z1, z2⟩ := Prod.mk.inj (Option.some.inj (s1.symm.trans (e1.trans f1)))
    have g1 := M_endB (F := F) (G := G) (Int32.not_le.mp e3.fm.2) e2
    obtain ⟨z3, rfl⟩ := Prod.mk.inj (Option.some.inj (s3.symm.trans g1))
    obtain ⟨-, -, -, k10, k11⟩ := e3
    have lw : ∀ h k, h < 78 → ¬ (h = 2 ∧ k = 0) → S2.1 h k = A'.1 h k := fun h k q q2 => by
      rw [k11.2.1 h k (pms_lo q), fgm_at (by omega), z2, sI_at, if_neg q2]
    refine Or.inr fun h k q => ?_
    rcases q with ⟨q1, q2⟩ | ⟨q0, q2, q3⟩
    · rw [lw h k q2 (by omega), k10.2.1 h k (pcs_hi hd q1)]
    · rw [k11.2.1 h k q2, fgm_at q3, s2 h k q0]
theorem score_2 (hF : 100000 ≤ F) (hG : 60 ≤ G) (h : J2 S) : ∃ v S1 S2, fN_score F G S = some (v, S1) ∧ fM_score F G S1 = some (v, S2) ∧ J2 S2 := by
  obtain ⟨v, S1, S2, r1, r2, r3⟩ := score_ok (F := F) (G := G) hF hG h.1
  have h4 : Cp4 S := by
    obtain ⟨nn, n1, n2, l, -⟩ := h.2.2
    exact l.c4 n2 n1
  obtain ⟨d3, d4⟩ := score_data hF hG h.1 h.2.1 h4 r1 r2
  refine ⟨v, S1, S2, r1, r2, r3, d3, ?_⟩
  rcases score_cases hF hG h.1 r1 r2 with ⟨nn, n1, n2, glay, p0, h0, rows, x1, x2, x3, x4, x5, x6, xb⟩ | fr
  · have rg := (d3.n n2 n1).2.2
    have ly : ∀ i, i < 10 → S2.1 100 i = 0 := fun i hi => by
      rw [glay _ (by omega)]; unfold lay0; rw [if_neg (by omega), if_neg (by omega), if_neg (by omega)]
    have ly1 : ∀ i, i < 10 → S2.1 100 (10 + i) = if i < nn then S2.1 97 i else 0 := fun i hi => by
      rw [glay _ (by omega)]; unfold lay0
      by_cases c : i < nn
      · rw [if_pos (by omega), if_pos c, show 10 + i - 10 = i by omega]
      · rw [if_neg (by omega), if_neg (by omega), if_neg (by omega), if_neg c]
    have ly2 : ∀ i, i < 10 → S2.1 100 (20 + i) = if i < nn then S2.1 98 i else 0 := fun i hi => by
      rw [glay _ (by omega)]; unfold lay0
      by_cases c : i < nn
      · rw [if_neg (by omega), if_pos (by omega), if_pos c, show 20 + i - 20 = i by omega]
      · rw [if_neg (by omega), if_neg (by omega), if_neg (by omega), if_neg c]
    have ly3 : ∀ i, i < 10 → S2.1 100 (30 + i) = if i < nn then S2.1 99 i else 0 := fun i hi => by
      rw [glay _ (by omega)]; unfold lay0
      by_cases c : i < nn
      · rw [if_neg (by omega), if_neg (by omega), if_pos (by omega), if_pos c, show 30 + i - 30 = i by omega]
      · rw [if_neg (by omega), if_neg (by omega), if_neg (by omega), if_neg c]
    have vl : VL nn (S2.1 100) := by
      intro k hk
      obtain ⟨i, i1, i2, i3⟩ := cell4 hk
      rw [i2]
      refine ⟨fun c => ?_, fun c => ?_⟩
      · obtain ⟨-, -, -, -, -, -, r7, r8, r9⟩ := rg i c
        rcases i3 with rfl | rfl | rfl | rfl
        · rw [ly k i1]; exact ⟨fun _ => ⟨by decide, by decide⟩, fun _ => by omega, fun _ => by omega, fun _ => by omega⟩
        · rw [ly1 i i1, if_pos c]; exact ⟨fun _ => by omega, fun _ _ => r7, fun _ => by omega, fun _ => by omega⟩
        · rw [ly2 i i1, if_pos c]; exact ⟨fun _ => by omega, fun _ _ => by omega, fun _ _ => r8, fun _ => by omega⟩
        · rw [ly3 i i1, if_pos c]; exact ⟨fun _ => by omega, fun _ _ => by omega, fun _ _ => by omega, fun _ => r9⟩
      · rcases i3 with rfl | rfl | rfl | rfl
        · exact ly k i1
        · rw [ly1 i i1, if_neg (by omega)]
        · rw [ly2 i i1, if_neg (by omega)]
        · rw [ly3 i i1, if_neg (by omega)]
    refine ⟨nn, n1, n2, ⟨vl, fun k hk c => ?_, ?_, fun i i1 i2 => ?_⟩, ⟨0, 0, Nat.le_refl _, by omega, x1, x2, x4, x5, fun j hj => ?_, fun j hj => by omega⟩, fun b hb => ⟨(xb b hb).1.trans (xb b hb).2.symm, Or.inl (xb b hb).2, fun z => absurd (xb b hb).2 z⟩, ⟨0, by omega, x3, x6, fun j hj => by omega⟩⟩
    · obtain ⟨i, i1, i2, i3⟩ := cell4 hk
      rw [i2] at c
      obtain ⟨q1, q2, q3⟩ := rows i c
      rcases i3 with rfl | rfl | rfl | rfl
      · rw [lo_0 i1, ly k i1]; exact h0 k i1
      · rw [lo_1 i1, ly1 i i1, if_pos c]; exact q1
      · rw [lo_2 i1, ly2 i i1, if_pos c]; exact q2
      · rw [lo_3 i1, ly3 i i1, if_pos c]; exact q3
    · rw [lo_4, glay 40 (by omega)]; unfold lay0
      rw [if_neg (by omega), if_neg (by omega), if_neg (by omega)]; exact p0
    · rw [lo_0 i2]; exact h0 i i2
    · have e : j = 0 := by omega
      subst e
      have e2 : wr S2 0 0 = S2.1 100 := funext fun k => by
        unfold wr
        rw [if_neg (by omega), if_pos rfl]
      rw [e2]; exact vl
  · refine h.2.2.fr (fr 78 48 (Or.inr ⟨by omega, rfl, by omega⟩)) fun h k q => fr h k ?_
    simp only [acs, Bool.or_eq_true, Bool.and_eq_true, beq_iff_eq, Nat.ble_eq] at q
    by_cases z : h < 78
    · exact Or.inl ⟨by omega, z⟩
    · refine Or.inr ⟨by omega, ?_, by omega⟩
      rw [Bool.eq_false_iff]
      intro y
      simp only [pms, Bool.or_eq_true, Bool.and_eq_true, beq_iff_eq, Nat.ble_eq] at y
      omega
end SX
