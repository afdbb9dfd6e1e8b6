/-! THE SCORE'S DATA, class and reference coupled -/
def Cp3 (S : St) : Prop := ∃ np nn m, np ≤ 4 ∧ nn ≤ 10 ∧ m ≤ 270 ∧ S.1 S.2.2.1 5 = nI np ∧ S.1 78 47 = nI np ∧ S.1 S.2.2.1 6 = nI nn ∧ S.1 78 48 = nI nn
  ∧ S.1 S.2.2.1 0 = S.1 78 46 ∧ (S.1 S.2.2.1 1 = S.1 78 49 ∧ iv (S.1 78 49) 0 87) ∧ (S.1 S.2.2.1 2 = S.1 78 50 ∧ iv (S.1 78 50) 1 5) ∧ (S.1 S.2.2.1 3 = S.1 78 51 ∧ iv (S.1 78 51) 0 87) ∧ (S.1 S.2.2.1 4 = S.1 78 52 ∧ iv (S.1 78 52) 0 9)
  ∧ (∀ i, i < np → S.1 (S.2.2.1 + 2) i = S.1 94 i ∧ iv (S.1 94 i) 0 2)
  ∧ (∀ i, i < nn → S.1 (S.2.2.1 + 4) i = S.1 95 i ∧ iv (S.1 95 i) 0 ((np : Int) - 1) ∧ S.1 (S.2.2.1 + 5) i = S.1 96 i ∧ iv (S.1 96 i) 0 ((S.1 78 46).toInt - 1) ∧ S.1 (S.2.2.1 + 6) i = S.1 97 i ∧ iv (S.1 97 i) 0 87 ∧ S.1 (S.2.2.1 + 7) i = S.1 98 i ∧ iv (S.1 98 i) 1 12 ∧ S.1 (S.2.2.1 + 8) i = S.1 99 i ∧ iv (S.1 99 i) 1 9)
  ∧ (∃ u, u ≤ 30 ∧ S.1 (S.2.2.1 + 9) 0 = nI u ∧ S.1 78 21 = nI u) ∧ S.1 (S.2.2.1 + 9) 1 = nI m ∧ S.1 78 18 = nI m
  ∧ ((S.1 78 25 = 0 ∧ m = 0) ∨ (S.1 78 25 = 1 ∧ 1 ≤ m ∧ (∀ i, i < m → S.1 (S.2.2.1 + 10) i = encM (S.1 83 i) (S.1 84 i)) ∧ WFn (S.1 83) (S.1 84) m ∧ hg (S.1 83) m = 1))
/-- the laying that stands, note by note -/
def Cp4 (S : St) : Prop := S.1 30 1 = S.1 100 40 ∧ ∀ i : Nat, (i : Int) < (S.1 78 48).toInt → S.1 31 i = S.1 100 i ∧ iv (S.1 100 i) 0 2 ∧ S.1 32 i = S.1 100 (10 + i) ∧ iv (S.1 100 (10 + i)) 0 87 ∧ S.1 33 i = S.1 100 (20 + i) ∧ iv (S.1 100 (20 + i)) 1 12 ∧ S.1 34 i = S.1 100 (30 + i) ∧ iv (S.1 100 (30 + i)) 1 9
/-- the reference's cells that Cp3 speaks of -/
def c3m (h k : Nat) : Bool := (h == 78 && (k == 18 || k == 21 || k == 25 || (Nat.ble 46 k && Nat.ble k 52))) || h == 83 || h == 84 || (Nat.ble 94 h && Nat.ble h 99)
theorem Cp3.fr {S S' : St} (h : Cp3 S) (e : S'.2.2.1 = S.2.2.1) (g : ∀ j k, j ≤ 10 → (j ≠ 9 ∨ k ≤ 1) → S'.1 (S.2.2.1 + j) k = S.1 (S.2.2.1 + j) k) (f : ∀ h k, c3m h k = true → S'.1 h k = S.1 h k) : Cp3 S' := by
  obtain ⟨np, nn, m, a1, a2, a3, b1, b2, b3, b4, b5, ⟨b6, c6⟩, ⟨b7, c7⟩, ⟨b8, c8⟩, ⟨b9, c9⟩, d1, d2, ⟨u, u1, u2, u3⟩, d3, d4, d5⟩ := h
  have g0 : ∀ k, S'.1 S.2.2.1 k = S.1 S.2.2.1 k := fun k => g 0 k (by omega) (by omega)
  have m8 : ∀ k, c3m 78 k = true → S'.1 78 k = S.1 78 k := fun k q => f 78 k q
  have e83 : S'.1 83 = S.1 83 := funext fun k => f 83 k rfl
  have e84 : S'.1 84 = S.1 84 := funext fun k => f 84 k rfl
  have e9 : ∀ h k, 94 ≤ h → h ≤ 99 → S'.1 h k = S.1 h k := fun h k q1 q2 => f h k (by
    rcases (by omega : h = 94 ∨ h = 95 ∨ h = 96 ∨ h = 97 ∨ h = 98 ∨ h = 99) with rfl | rfl | rfl | rfl | rfl | rfl <;> rfl)
  refine ⟨np, nn, m, a1, a2, a3, ?_, ?_, ?_, ?_, ?_, ⟨?_, ?_⟩, ⟨?_, ?_⟩, ⟨?_, ?_⟩, ⟨?_, ?_⟩, fun i hi => ?_, fun i hi => ?_, ⟨u, u1, ?_, ?_⟩, ?_, ?_, ?_⟩
  · rw [e, g0]; exact b1
  · rw [m8 47 rfl]; exact b2
  · rw [e, g0]; exact b3
  · rw [m8 48 rfl]; exact b4
  · rw [e, g0, m8 46 rfl]; exact b5
  · rw [e, g0, m8 49 rfl]; exact b6
  · rw [m8 49 rfl]; exact c6
  · rw [e, g0, m8 50 rfl]; exact b7
  · rw [m8 50 rfl]; exact c7
  · rw [e, g0, m8 51 rfl]; exact b8
  · rw [m8 51 rfl]; exact c8
  · rw [e, g0, m8 52 rfl]; exact b9
  · rw [m8 52 rfl]; exact c9
  · rw [e, g 2 i (by omega) (by omega), e9 94 i (by omega) (by omega)]; exact d1 i hi
  · rw [e, g 4 i (by omega) (by omega), g 5 i (by omega) (by omega), g 6 i (by omega) (by omega), g 7 i (by omega) (by omega), g 8 i (by omega) (by omega), e9 95 i (by omega) (by omega), e9 96 i (by omega) (by omega), e9 97 i (by omega) (by omega), e9 98 i (by omega) (by omega), e9 99 i (by omega) (by omega), m8 46 rfl]; exact d2 i hi
  · rw [e, g 9 0 (by omega) (by omega)]; exact u2
  · rw [m8 21 rfl]; exact u3
  · rw [e, g 9 1 (by omega) (by omega)]; exact d3
  · rw [m8 18 rfl]; exact d4
  · rw [m8 25 rfl, e83, e84, e]
    rcases d5 with d5 | ⟨d5, d6, d7, d8⟩
    · exact Or.inl d5
    · exact Or.inr ⟨d5, d6, fun i hi => by rw [g 10 i (by omega) (by omega)]; exact d7 i hi, d8⟩
theorem hg_c {f g : Nat → Int32} {m : Nat} (h : ∀ k, k < m → f k = g k) : ∀ s, s ≤ m → hg f s = hg g s := by
  intro s
  induction s with
  | zero => intro _; rfl
  | succ s ih =>
    intro hs
    show (if f s = 0 ∨ f s = 1 then hg f s + 1 else if f s = 2 then hg f s else hg f s - 1) = if g s = 0 ∨ g s = 1 then hg g s + 1 else if g s = 2 then hg g s else hg g s - 1
    rw [h s (by omega), ih (by omega)]
theorem WFn.c {f g f' g' : Nat → Int32} {m : Nat} (w : WFn f g m) (h : ∀ k, k < m → f' k = f k ∧ g' k = g k) : WFn f' g' m := by
  intro s hs
  rw [(h s hs).1, (h s hs).2, hg_c (m := m) (fun k hk => (h k hk).1) s (by omega)]
  exact w s hs
theorem pcs_other {d j k : Nat} (hd : isSc d = true) (hj : j ≤ 10) : pcs d (21 - d + j) k = false := by
  rcases isSc_or hd with rfl | rfl <;> rcases (by omega : j = 0 ∨ j = 1 ∨ j = 2 ∨ j = 3 ∨ j = 4 ∨ j = 5 ∨ j = 6 ∨ j = 7 ∨ j = 8 ∨ j = 9 ∨ j = 10) with rfl | rfl | rfl | rfl | rfl | rfl | rfl | rfl | rfl | rfl | rfl <;> rfl
theorem ecs_d {d j k : Nat} (hd : isSc d = true) (hj : j ≤ 10) : ecs (d + j) k = false := by
  rcases isSc_or hd with rfl | rfl <;> rcases (by omega : j = 0 ∨ j = 1 ∨ j = 2 ∨ j = 3 ∨ j = 4 ∨ j = 5 ∨ j = 6 ∨ j = 7 ∨ j = 8 ∨ j = 9 ∨ j = 10) with rfl | rfl | rfl | rfl | rfl | rfl | rfl | rfl | rfl | rfl | rfl <;> rfl
/-- after score the data are coupled -/
theorem score_data {F G : Nat} {S : St} (hF : 100000 ≤ F) (hG : 60 ≤ G) (hJ : J S) (h3 : Cp3 S) (h4 : Cp4 S) {v v' : Int32} {S1 S2 : St} (s1 : fN_score F G S = some (v, S1)) (s3 : fM_score F G S1 = some (v', S2)) : Cp3 S2 ∧ Cp4 S2 := by
  obtain ⟨v0, S10, s10, s2⟩ := sc_class hF hG hJ
  obtain ⟨rfl, rfl⟩ := Prod.mk.inj (Option.some.inj (s10.symm.trans s1))
  obtain ⟨⟨b1, ⟨t1, t2, t3⟩, w1, a1⟩, ⟨n, b, hA, h1, h79⟩, c1, c2, c3⟩ := hJ
  have hd : isSc S.2.2.2 = true := by
    rw [t2]; rcases isSc_or t1 with q | q <;> rw [q] <;> rfl
  have tD : S.2.2.1 = 21 - S.2.2.2 := by
    rw [t2]; rcases isSc_or t1 with q | q <;> rw [q]
  have hdd := isSc_or hd
  obtain ⟨A', B', e1, e2, e3⟩ := text_ok (F := F) (G := G) (d := S.2.2.2) (A := S) (B := S10) hF hG hd rfl hA ((s2 78 1 (by omega)).trans h1) (fun k hk => ⟨(h79 k hk).1, (s2 79 k (by omega)).trans (h79 k hk).2⟩)
  rcases e3 with ⟨t', p', ⟨np, nn, PN, NN, k1, k2, k3, k4, k5, k6, k7, k8, k9, k10, k11⟩, h0⟩ | e3
  · obtain ⟨S1', f1, f2, f3, f4, f20, f301, frow, -⟩ := C_end (F := F) (G := G) (A := A') (d := S.2.2.2) (tl := S.2.2.1) (nn := nn) hF hd t1 (by rw [k10.1]) (by rw [k10.1]) k2 k6.2.2.2.2.1
    obtain ⟨z1, rfl⟩ := Prod.mk.inj (Option.some.inj (s1.symm.trans (e1.trans f1)))
    obtain ⟨hp4, hn10, d5, m40, d6, m41, ⟨x, x1, x2, d0, m39, hx⟩, ⟨y1, w1, q11, q12⟩, ⟨y2, w2, w2', q21, q22⟩, ⟨y3, w3, q31, q32⟩, ⟨y4, w4, q41, q42⟩, hpn, -, hnn⟩ := id k6
    obtain ⟨⟨u, u1, u2, u3⟩, k7'⟩ := k7
    obtain ⟨m, hm, h24, hA9⟩ : ∃ m, m ≤ 270 ∧ ((B'.1 78 24 = 0 ∧ m = 0) ∨ (B'.1 78 24 = 1 ∧ B'.1 78 17 = nI m ∧ m ≤ 320)) ∧ A'.1 (S.2.2.2 + 9) 1 = nI m ∧ ((B'.1 78 24 = 0 ∧ m = 0) ∨ (B'.1 78 24 = 1 ∧ 1 ≤ m ∧ (∀ i, i < m → A'.1 (S.2.2.2 + 10) i = encM (B'.1 81 i) (B'.1 82 i)) ∧ WFn (B'.1 81) (B'.1 82) m ∧ hg (B'.1 81) m = 1)) := by
      rcases k7' with ⟨q1, q2, -⟩ | ⟨q1, m, q0, q2, q3, q4, q5, q6, q7⟩
      · exact ⟨0, by omega, Or.inl ⟨q1, rfl⟩, q2, Or.inl ⟨q1, rfl⟩⟩
      · exact ⟨m, q2, Or.inr ⟨q1, q4, by omega⟩, q3, Or.inr ⟨q1, q0, q5, q6, q7⟩⟩
    obtain ⟨hA9, hcode⟩ := hA9
    obtain ⟨S2', g1, g2, g46, g47, g48, g49, g50, g51, g52, g21, g25, g18, gst, gpt, gnt, glay, -⟩ := M_endOK (F := F) (G := G) (B := B') (m := m) hF (by rw [k3]; decide) m40 hp4 m41 hn10 h24 e2
    obtain ⟨z2, rfl⟩ := Prod.mk.inj (Option.some.inj (s3.symm.trans g1))
    have lo : ∀ h k, h < 78 → S2.1 h k = S10.1 h k := fun h k q => by
      rw [g2.2.1 h k (mes_lo q), k11.2.1 h k (pms_lo q), fgm_at (by omega)]
    have lc : ∀ j k, j ≤ 10 → S2.1 (S.2.2.2 + j) k = A'.1 (S.2.2.2 + j) k := fun j k q => by rw [lo _ k (by omega), f4 _ k (ecs_d hd q)]
    have lc0 : ∀ k, S2.1 S.2.2.2 k = A'.1 S.2.2.2 k := fun k => lc 0 k (by omega)
    have hT : S2.2.2.1 = S.2.2.2 := by
      have : S2.2.2 = (S.2.2.2, S.2.2.1) := by rw [g2.1, k11.1]; exact f3
      rw [this]
    have r : ∀ {a c y : Int32} {l u z : Nat}, y = nI z → l ≤ z → z ≤ u → u < 2 ^ 31 → iv y l u := fun q1 q2 q3 q4 => by rw [q1]; exact iv_nI q2 q3 q4
    refine ⟨⟨np, nn, m, hp4, hn10, hm, ?_, g47, ?_, g48, ?_, ⟨?_, ?_⟩, ⟨?_, ?_⟩, ⟨?_, ?_⟩, ⟨?_, ?_⟩, fun i hi => ?_, fun i hi => ?_, ⟨u, u1, ?_, ?_⟩, ?_, g18, ?_⟩, ?_, fun i hi => ?_⟩
    · rw [hT, lc0]; exact d5
    · rw [hT, lc0]; exact d6
    · rw [hT, lc0, d0, g46, m39]
    · rw [hT, lc0, q11, g49, q12]
    · rw [g49, q12]; exact iv_nI (l := 0) (u := 87) (Nat.zero_le _) w1 (by decide)
    · rw [hT, lc0, q21, g50, q22]
    · rw [g50, q22]; exact iv_nI (l := 1) (u := 5) w2 w2' (by decide)
    · rw [hT, lc0, q31, g51, q32]
    · rw [g51, q32]; exact iv_nI (l := 0) (u := 87) (Nat.zero_le _) w3 (by decide)
    · rw [hT, lc0, q41, g52, q42]
    · rw [g52, q42]; exact iv_nI (l := 0) (u := 9) (Nat.zero_le _) w4 (by decide)
    · rw [hT, lc 2 i (by omega), gpt i hi]; exact (hpn i hi).2.2.2
    · obtain ⟨n1, n2, n3, n4, n5, n6, n7, n8, n9, n10, n11, n12⟩ := hnn i hi
      obtain ⟨o1, o2, o3, o4, o5⟩ := gnt i hi
      rw [hT, lc 4 i (by omega), lc 5 i (by omega), lc 6 i (by omega), lc 7 i (by omega), lc 8 i (by omega), o1, o2, o3, o4, o5, g46, m39, nI_toInt (by omega)]
      exact ⟨n4, n5, n6, hx i hi, n7, n8, n9, n10, n11, n12⟩
    · rw [hT, lc 9 0 (by omega)]; exact u2
    · rw [g21]; exact u3
    · rw [hT, lc 9 1 (by omega)]; exact hA9
    · rw [g25]
      rcases hcode with hcode | ⟨q1, q2, q3, q4, q5⟩
      · exact Or.inl hcode
      · refine Or.inr ⟨q1, q2, fun i hi => ?_, q4.c (fun k hk => gst k hk), ?_⟩
        · rw [hT, lc 10 i (by omega), (gst i hi).1, (gst i hi).2]; exact q3 i hi
        · rw [hg_c (m := m) (fun k hk => (gst k hk).1) m (Nat.le_refl _)]; exact q5
    · rw [lo 30 1 (by omega), f301, glay 40 (by omega)]
      unfold lay0
      rw [if_neg (by omega), if_neg (by omega), if_neg (by omega)]
    · rw [g48, nI_toInt (by omega)] at hi
      have hi : i < nn := by omega
      obtain ⟨n1, n2, n3, n4, n5, n6, n7, n8, n9, n10, n11, n12⟩ := hnn i hi
      obtain ⟨o1, o2, o3, o4, o5⟩ := gnt i hi
      obtain ⟨r1, r2, r3, r4⟩ := frow i (by omega)
      have l0 : S2.1 100 i = 0 := by rw [glay i (by omega)]; unfold lay0; rw [if_neg (by omega), if_neg (by omega), if_neg (by omega)]
      have l1 : S2.1 100 (10 + i) = B'.1 91 i := by rw [glay _ (by omega)]; unfold lay0; rw [if_pos (by omega), show 10 + i - 10 = i by omega, o3]
      have l2 : S2.1 100 (20 + i) = B'.1 92 i := by rw [glay _ (by omega)]; unfold lay0; rw [if_neg (by omega), if_pos (by omega), show 20 + i - 20 = i by omega, o4]
      have l3 : S2.1 100 (30 + i) = B'.1 93 i := by rw [glay _ (by omega)]; unfold lay0; rw [if_neg (by omega), if_neg (by omega), if_pos (by omega), show 30 + i - 30 = i by omega, o5]
      rw [l0, l1, l2, l3, lo 31 i (by omega), lo 32 i (by omega), lo 33 i (by omega), lo 34 i (by omega), r1, r2, r3, r4]
      exact ⟨rfl, ⟨by decide, by decide⟩, n7, n8, n9, n10, n11, n12⟩
  · have f1 := C_endB (F := F) (G := G) e3.fc
    obtain ⟨z1, z2⟩ := Prod.mk.inj (Option.some.inj (s1.symm.trans (e1.trans f1)))
    have g1 := M_endB (F := F) (G := G) (Int32.not_le.mp e3.fm.2) e2
    obtain ⟨z3, rfl⟩ := Prod.mk.inj (Option.some.inj (s3.symm.trans g1))
    obtain ⟨-, -, -, k10, k11⟩ := e3
    have lc : ∀ h k, h < 78 → ¬ (h = 2 ∧ k = 0) → S2.1 h k = A'.1 h k := fun h k q q2 => by
      rw [k11.2.1 h k (pms_lo q), fgm_at (by omega), z2, sI_at, if_neg q2]
    have U : ∀ h k, h < 78 → 30 ≤ h → S2.1 h k = S.1 h k := fun h k q1 q2 => by rw [lc h k q1 (by omega), k10.2.1 h k (pcs_hi hd q2)]
    have V : ∀ h k, 78 ≤ h → pms h k = false → ¬ (h = 78 ∧ (k = 1 ∨ k = 5)) → S2.1 h k = S.1 h k := fun h k q0 q2 q3 => by
      rw [k11.2.1 h k q2, fgm_at q3, s2 h k q0]
    have hT : S2.2.2 = S.2.2 := by
      rw [k11.1, show (fgm n S10).2.2 = S10.2.2 from rfl, z2]; exact k10.1
    refine ⟨h3.fr (by rw [hT]) (fun j k q1 q2 => ?_) (fun h k q => ?_), ?_, fun i hi => ?_⟩
    · have := isSc_or t1
      rw [lc _ k (by omega) (by omega), tD, k10.2.1 _ _ (pcs_other hd q1)]
    · simp only [c3m, Bool.or_eq_true, Bool.and_eq_true, beq_iff_eq] at q
      rcases q with ((⟨rfl, q⟩ | rfl) | rfl) | ⟨q1, q2⟩
      · rcases q with ((rfl | rfl) | rfl) | ⟨q1, q2⟩
        · exact V 78 18 (by omega) rfl (by omega)
        · exact V 78 21 (by omega) rfl (by omega)
        · exact V 78 25 (by omega) rfl (by omega)
        · have q1 := Nat.le_of_ble_eq_true q1
          have q2 := Nat.le_of_ble_eq_true q2
          rcases (by omega : k = 46 ∨ k = 47 ∨ k = 48 ∨ k = 49 ∨ k = 50 ∨ k = 51 ∨ k = 52) with rfl | rfl | rfl | rfl | rfl | rfl | rfl <;> exact V 78 _ (by omega) rfl (by omega)
      · exact V 83 k (by omega) rfl (by omega)
      · exact V 84 k (by omega) rfl (by omega)
      · have q1 := Nat.le_of_ble_eq_true q1
        have q2 := Nat.le_of_ble_eq_true q2
        rcases (by omega : h = 94 ∨ h = 95 ∨ h = 96 ∨ h = 97 ∨ h = 98 ∨ h = 99) with rfl | rfl | rfl | rfl | rfl | rfl <;> exact V _ k (by omega) rfl (by omega)
    · rw [U 30 1 (by omega) (by omega), V 100 40 (by omega) rfl (by omega)]; exact h4.1
    · rw [V 78 48 (by omega) rfl (by omega)] at hi
      rw [U 31 i (by omega) (by omega), U 32 i (by omega) (by omega), U 33 i (by omega) (by omega), U 34 i (by omega) (by omega), V 100 i (by omega) rfl (by omega), V 100 (10 + i) (by omega) rfl (by omega), V 100 (20 + i) (by omega) rfl (by omega), V 100 (30 + i) (by omega) rfl (by omega)]
      exact h4.2 i hi
