/-! THE STRONGER INVARIANT: score, laying, acts, boxes, witness -/
def rng (k : Nat) (v : Int32) : Prop := (k < 10 → iv v 0 2) ∧ (10 ≤ k → k < 20 → iv v 0 87) ∧ (20 ≤ k → k < 30 → iv v 1 12) ∧ (30 ≤ k → iv v 1 9)
/-- a laying of the reference -/
def VL (nn : Nat) (f : Nat → Int32) : Prop := ∀ k, k < 40 → (k % 10 < nn → rng k (f k)) ∧ (nn ≤ k % 10 → f k = 0)
/-- a laying of the class beside it -/
def CL (nn : Nat) (c f : Nat → Int32) : Prop := (∀ k, k < 40 → k % 10 < nn → c k = f k) ∧ c 40 = f 40 ∧ ∀ i, nn ≤ i → i < 10 → c i = 0
def lo (S : St) (o k : Nat) : Int32 := if k < 10 then S.1 (o + 1) k else if k < 20 then S.1 (o + 2) (k - 10) else if k < 30 then S.1 (o + 3) (k - 20) else if k < 40 then S.1 (o + 4) (k - 30) else S.1 o 1
/-- the j-th of the layings that acts lead through; a of them stand behind -/
def wr (S : St) (a j k : Nat) : Int32 := if j < a then S.1 104 (41 * j + k) else if j = a then S.1 100 k else S.1 104 (41 * (j - 1) + k)
def ChS (nn : Nat) (q' i' b x : Int32) (f g : Nat → Int32) : Prop := ∃ q i, q' = nI q ∧ i' = nI i ∧ q ≤ 4 ∧ i < 12 ∧ (q < 4 → i < nn) ∧ f (cix q i) = b ∧ ∀ k, k ≤ 40 → g k = if k = cix q i then x else f k
def Chn (nn t : Nat) (K I B X : Nat → Int32) (W : Nat → Nat → Int32) : Prop := (∀ j, j ≤ t → VL nn (W j)) ∧ ∀ j, j < t → ChS nn (K j) (I j) (B j) (X j) (W j) (W (j + 1))
def CpL (nn : Nat) (S : St) : Prop := VL nn (S.1 100) ∧ CL nn (lo S 30) (S.1 100)
def CpA (nn : Nat) (S : St) : Prop := ∃ a t, a ≤ t ∧ t ≤ 40 ∧ S.1 51 0 = nI a ∧ S.1 51 1 = nI t ∧ S.1 78 63 = nI a ∧ S.1 78 64 = nI (t - a) ∧ Chn nn t (S.1 52) (S.1 53) (S.1 54) (S.1 55) (wr S a)
def CpB (nn : Nat) (S : St) : Prop := ∀ b, b < 3 → S.1 (36 + 5 * b) 0 = S.1 115 b ∧ (S.1 115 b = 0 ∨ S.1 115 b = 1) ∧ (¬ S.1 115 b = 0 → VL nn (fun k => S.1 116 (41 * b + k)) ∧ CL nn (lo S (36 + 5 * b)) (fun k => S.1 116 (41 * b + k)))
def CpW (S : St) : Prop := ∃ n, n ≤ 30 ∧ S.1 69 0 = nI n ∧ S.1 78 74 = nI n ∧ ∀ j, j < n → S.1 71 j = S.1 108 j ∧ S.1 72 j = S.1 109 j ∧ S.1 73 j = S.1 112 j ∧ S.1 74 j = S.1 110 j ∧ S.1 75 j = S.1 111 j ∧ iv (S.1 108 j) 0 11 ∧ iv (S.1 109 j) 0 87 ∧ iv (S.1 110 j) 0 100000 ∧ iv (S.1 111 j) (-1) 100000
def CpX (S : St) : Prop := ∃ nn, nn ≤ 10 ∧ S.1 78 48 = nI nn ∧ CpL nn S ∧ CpA nn S ∧ CpB nn S ∧ CpW S
def J2 (S : St) : Prop := J S ∧ Cp3 S ∧ CpX S
theorem acs_t {h k : Nat} (q : (30 ≤ h ∧ h ≤ 55) ∨ (h = 69 ∧ k = 0) ∨ (71 ≤ h ∧ h ≤ 75) ∨ (h = 78 ∧ (k = 63 ∨ k = 64 ∨ k = 74)) ∨ h = 100 ∨ h = 104 ∨ (108 ≤ h ∧ h ≤ 112) ∨ 115 ≤ h) : acs h k = true := by
  simp only [acs, Bool.or_eq_true, Bool.and_eq_true, beq_iff_eq, Nat.ble_eq]
  omega
theorem acs_scr {h k : Nat} (q : acs h k = true) : scr h k = false := by
  rw [Bool.eq_false_iff]
  intro z
  simp only [acs, Bool.or_eq_true, Bool.and_eq_true, beq_iff_eq, Nat.ble_eq] at q
  simp only [scr, Bool.or_eq_true, Bool.and_eq_true, beq_iff_eq, Nat.ble_eq] at z
  omega
theorem c3m_kps {h k : Nat} (q : c3m h k = true) : kps h k = false := by
  rw [Bool.eq_false_iff]
  intro z
  simp only [c3m, Bool.or_eq_true, Bool.and_eq_true, beq_iff_eq, Nat.ble_eq] at q
  simp only [kps, acs, scr, Bool.or_eq_true, Bool.and_eq_true, beq_iff_eq, Nat.ble_eq] at z
  omega
theorem told_kps {t j k : Nat} (ht : isSc t = true) (hj : j ≤ 10) (hk : j ≠ 9 ∨ k ≤ 1) : kps (t + j) k = false := by
  rw [Bool.eq_false_iff]
  intro z
  have := isSc_or ht
  simp only [kps, acs, scr, Bool.or_eq_true, Bool.and_eq_true, beq_iff_eq, Nat.ble_eq] at z
  omega
theorem CpL.fr {nn : Nat} {S S' : St} (h : CpL nn S) (row : ∀ h, (30 ≤ h ∧ h ≤ 34) ∨ h = 100 → S'.1 h = S.1 h) : CpL nn S' := by
  have elo : lo S' 30 = lo S 30 := funext fun k => by
    unfold lo
    rw [row (30 + 1) (by omega), row (30 + 2) (by omega), row (30 + 3) (by omega), row (30 + 4) (by omega), row 30 (by omega)]
  unfold CpL
  rw [row 100 (by omega), elo]; exact h
theorem CpA.fr {nn : Nat} {S S' : St} (h : CpA nn S) (row : ∀ h, (51 ≤ h ∧ h ≤ 55) ∨ h = 100 ∨ h = 104 → S'.1 h = S.1 h) (e63 : S'.1 78 63 = S.1 78 63) (e64 : S'.1 78 64 = S.1 78 64) : CpA nn S' := by
  have ewr : ∀ a, wr S' a = wr S a := fun a => funext fun j => funext fun k => by
    unfold wr
    rw [row 100 (by omega), row 104 (by omega)]
  obtain ⟨a, t, a1, a2, a3, a4, a5, a6, a7⟩ := h
  refine ⟨a, t, a1, a2, ?_, ?_, ?_, ?_, ?_⟩
  · rw [row 51 (by omega)]; exact a3
  · rw [row 51 (by omega)]; exact a4
  · rw [e63]; exact a5
  · rw [e64]; exact a6
  · rw [row 52 (by omega), row 53 (by omega), row 54 (by omega), row 55 (by omega), ewr]; exact a7
theorem CpB.fr {nn : Nat} {S S' : St} (h : CpB nn S) (row : ∀ h, (36 ≤ h ∧ h ≤ 50) ∨ h = 115 ∨ h = 116 → S'.1 h = S.1 h) : CpB nn S' := by
  intro b hb
  have elo : lo S' (36 + 5 * b) = lo S (36 + 5 * b) := funext fun k => by
    unfold lo
    rw [row (36 + 5 * b + 1) (by omega), row (36 + 5 * b + 2) (by omega), row (36 + 5 * b + 3) (by omega), row (36 + 5 * b + 4) (by omega), row (36 + 5 * b) (by omega)]
  rw [row (36 + 5 * b) (by omega), row 115 (by omega), row 116 (by omega), elo]; exact h b hb
theorem CpW.fr {S S' : St} (h : CpW S) (row : ∀ h, (71 ≤ h ∧ h ≤ 75) ∨ (108 ≤ h ∧ h ≤ 112) → S'.1 h = S.1 h) (e69 : S'.1 69 0 = S.1 69 0) (e74 : S'.1 78 74 = S.1 78 74) : CpW S' := by
  obtain ⟨n, w1, w2, w3, w4⟩ := h
  refine ⟨n, w1, e69.trans w2, e74.trans w3, fun j hj => ?_⟩
  rw [row 71 (by omega), row 72 (by omega), row 73 (by omega), row 74 (by omega), row 75 (by omega), row 108 (by omega), row 109 (by omega), row 110 (by omega), row 111 (by omega), row 112 (by omega)]
  exact w4 j hj
theorem CpX.fr {S S' : St} (h : CpX S) (e48 : S'.1 78 48 = S.1 78 48) (f : ∀ h k, acs h k = true → S'.1 h k = S.1 h k) : CpX S' := by
  have row : ∀ h, (30 ≤ h ∧ h ≤ 55) ∨ (71 ≤ h ∧ h ≤ 75) ∨ h = 100 ∨ h = 104 ∨ (108 ≤ h ∧ h ≤ 112) ∨ 115 ≤ h → S'.1 h = S.1 h := fun h q => funext fun k => f h k (acs_t (by omega))
  obtain ⟨nn, n1, n2, l, a, b, w⟩ := h
  exact ⟨nn, n1, e48.trans n2, l.fr fun h q => row h (by omega), a.fr (fun h q => row h (by omega)) (f 78 63 rfl) (f 78 64 rfl), b.fr fun h q => row h (by omega), w.fr (fun h q => row h (by omega)) (f 69 0 rfl) (f 78 74 rfl)⟩
theorem Kp.x3 {S S' : St} (g : Good S) (h3 : Cp3 S) (a : Kp S S') : Cp3 S' :=
  h3.fr (by rw [a.1]) (fun j k q1 q2 => a.2.2.2 _ _ (told_kps g.2.1.1 q1 q2)) (fun h k q => a.2.2.2 h k (c3m_kps q))
theorem J2.q {S T : St} (h : J2 S) (i : Inv S T) : J2 T :=
  ⟨i.kp.j h.1, i.kp.x3 h.1.1 h.2.1, h.2.2.fr (i.2.2.2 78 48 rfl) fun h' k q => i.2.2.2 h' k (acs_scr q)⟩
/-- a call that changes, class and reference one behind the other -/
theorem J2.ch {S S1 S2 : St} (h : J2 S) (k1 : Kp S S1) (k2 : Kp S1 S2) (x : CpX S2) : J2 S2 :=
  ⟨k2.j (k1.j h.1), (k1.tr k2).x3 h.1.1 h.2.1, x⟩
/-- the tape, the time: nothing else -/
theorem J2.tm {S S2 : St} (h : J2 S) (hJ : J S2) (e : S2.2.2 = S.2.2) (fr : ∀ h k, h ≠ 3 → h ≠ 79 → ¬ (h = 2 ∧ k = 0) → ¬ (h = 78 ∧ (k = 1 ∨ k = 75)) → ¬ (h = 69 ∧ k = 1) → S2.1 h k = S.1 h k) : J2 S2 := by
  have t := isSc_or h.1.1.2.1.1
  refine ⟨hJ, h.2.1.fr (by rw [e]) (fun j k q1 q2 => fr _ _ (by omega) (by omega) (by omega) (by omega) (by omega)) (fun h' k q => ?_), h.2.2.fr (fr _ _ (by omega) (by omega) (by omega) (by omega) (by omega)) fun h' k q => ?_⟩
  · simp only [c3m, Bool.or_eq_true, Bool.and_eq_true, beq_iff_eq, Nat.ble_eq] at q
    exact fr _ _ (by omega) (by omega) (by omega) (by omega) (by omega)
  · simp only [acs, Bool.or_eq_true, Bool.and_eq_true, beq_iff_eq, Nat.ble_eq] at q
    exact fr _ _ (by omega) (by omega) (by omega) (by omega) (by omega)
section JF
variable {F G : Nat} {S : St}
theorem feed_2 (hF : 100000 ≤ F) (h : J2 S) (a b c d e : Int32) : ∃ v S1 S2, fN_feed F G S a b c d e = some (v, S1) ∧ fM_feed F G S1 a b c d e = some (v, S2) ∧ J2 S2 := by
  obtain ⟨v, S1, S2, r1, r2, r3⟩ := feed_ok (G := G) hF h.1 a b c d e
  obtain ⟨n, hT⟩ := h.1.2.1.tw
  obtain ⟨v0, n0, T1, B0, p1, -, -, p2, -⟩ := Tw20 (F := F) (G := G) (by omega) hT a b c d e
  obtain ⟨rfl, rfl⟩ := Prod.mk.inj (Option.some.inj (r1.symm.trans p1))
  have h' : Tw n S S1 := ⟨hT.1, by rw [p2.2.1 78 (by omega) (by omega)]; exact hT.2.1, hT.2.2.1, fun k hk => by rw [p2.2.1 79 (by omega) (by omega)]; exact hT.2.2.2 k hk⟩
  obtain ⟨v', n', S1', T2, q1, q2, q3, q4, q5⟩ := Tw20 (F := F) (G := G) (by omega) h' a b c d e
  obtain ⟨rfl, rfl⟩ := Prod.mk.inj (Option.some.inj (r1.symm.trans q1))
  obtain ⟨-, rfl⟩ := Prod.mk.inj (Option.some.inj (r2.symm.trans q2))
  refine ⟨v, S1, S2, r1, r2, h.tm r3 (by rw [q5.1, p2.1]) fun h k z1 z2 z3 z4 z5 => ?_⟩
  have i1 : S2.1 h k = S1.1 h k := by
    by_cases z : h = 78
    · subst z; exact q5.2.2 k (by omega)
    · rw [q5.2.1 h z z2]
  have i2 : S1.1 h k = S.1 h k := by
    by_cases z : h = 2
    · subst z; exact p2.2.2 k (by omega)
    · rw [p2.2.1 h z z1]
  exact i1.trans i2
theorem end_2 (h : J2 S) (a : Int32) : ∃ v S1 S2, fN_end F G S a = some (v, S1) ∧ fM_end F G S1 a = some (v, S2) ∧ J2 S2 := by
  obtain ⟨v, S1, S2, r1, r2, r3⟩ := end_ok (F := F) (G := G) h.1 a
  refine ⟨v, S1, S2, r1, r2, ?_⟩
  have u1 := r1
  have u2 := r2
  unfold fN_end at u1
  unfold fM_end at u2
  by_cases c1 : a < 0
  · rw [if_pos c1] at u1 u2
    obtain ⟨-, rfl⟩ := Prod.mk.inj (Option.some.inj u1)
    obtain ⟨-, rfl⟩ := Prod.mk.inj (Option.some.inj u2)
    exact h
  rw [if_neg c1] at u1 u2
  have b1 : S1 = S ∨ S1 = sI S 2 0 a := by
    by_cases c2 : a ≤ S.1 2 0
    · rw [if_pos c2] at u1
      exact Or.inr (Prod.mk.inj (Option.some.inj u1)).2.symm
    · rw [if_neg c2] at u1
      exact Or.inl (Prod.mk.inj (Option.some.inj u1)).2.symm
  have b2 : S2 = S1 ∨ S2 = sI S1 78 1 a := by
    by_cases c2 : a ≤ S1.1 78 1
    · rw [if_pos c2] at u2
      exact Or.inr (Prod.mk.inj (Option.some.inj u2)).2.symm
    · rw [if_neg c2] at u2
      exact Or.inl (Prod.mk.inj (Option.some.inj u2)).2.symm
  refine h.tm r3 ?_ fun h k z1 z2 z3 z4 z5 => ?_
  · rcases b1 with rfl | rfl <;> rcases b2 with rfl | rfl <;> rfl
  · have i1 : S1.1 h k = S.1 h k := by
      rcases b1 with q | q
      · rw [q]
      · rw [q, sI_at, if_neg z3]
    have i2 : S2.1 h k = S1.1 h k := by
      rcases b2 with q | q
      · rw [q]
      · rw [q, sI_at, if_neg (by omega)]
    exact i2.trans i1
theorem later_2 (h : J2 S) (a : Int32) : ∃ v S1 S2, fN_later F G S a = some (v, S1) ∧ fM_later F G S1 a = some (v, S2) ∧ J2 S2 := by
  obtain ⟨v, S1, S2, r1, r2, r3⟩ := later_ok (F := F) (G := G) h.1 a
  refine ⟨v, S1, S2, r1, r2, ?_⟩
  have u1 := r1
  have u2 := r2
  unfold fN_later fI_goOn at u1
  unfold fM_later at u2
  have b1 : S1 = S ∨ ∃ x, S1 = sI S 69 1 x := by
    by_cases c1 : a < 0
    · rw [if_pos c1] at u1
      exact Or.inl (Prod.mk.inj (Option.some.inj u1)).2.symm
    rw [if_neg c1] at u1
    by_cases c2 : 1000 < a
    · rw [if_pos c2] at u1
      exact Or.inl (Prod.mk.inj (Option.some.inj u1)).2.symm
    rw [if_neg c2] at u1
    by_cases c3 : S.1 69 1 + a ≤ 100000
    · rw [if_pos c3] at u1
      exact Or.inr ⟨_, (Prod.mk.inj (Option.some.inj u1)).2.symm⟩
    · rw [if_neg c3] at u1
      exact Or.inl (Prod.mk.inj (Option.some.inj u1)).2.symm
  have b2 : S2 = S1 ∨ ∃ x, S2 = sI S1 78 75 x := by
    by_cases c1 : a < 0
    · rw [if_pos c1] at u2
      exact Or.inl (Prod.mk.inj (Option.some.inj u2)).2.symm
    rw [if_neg c1] at u2
    by_cases c2 : 1000 < a
    · rw [if_pos c2] at u2
      exact Or.inl (Prod.mk.inj (Option.some.inj u2)).2.symm
    rw [if_neg c2] at u2
    by_cases c3 : S1.1 78 75 + a ≤ 100000
    · rw [if_pos c3] at u2
      exact Or.inr ⟨_, (Prod.mk.inj (Option.some.inj u2)).2.symm⟩
    · rw [if_neg c3] at u2
      exact Or.inl (Prod.mk.inj (Option.some.inj u2)).2.symm
  refine h.tm r3 ?_ fun h k z1 z2 z3 z4 z5 => ?_
  · rcases b1 with rfl | ⟨x, rfl⟩ <;> rcases b2 with rfl | ⟨y, rfl⟩ <;> rfl
  · have i1 : S1.1 h k = S.1 h k := by
      rcases b1 with q | ⟨x, q⟩
      · rw [q]
      · rw [q, sI_at, if_neg z5]
    have i2 : S2.1 h k = S1.1 h k := by
      rcases b2 with q | ⟨x, q⟩
      · rw [q]
      · rw [q, sI_at, if_neg (by omega)]
    exact i2.trans i1
end JF
