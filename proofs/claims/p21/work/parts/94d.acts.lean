/-! ACTS keep the stronger invariant: chains of layings -/
theorem cix_le {q i : Nat} (h4 : q < 4 → i < 10) : q ≤ 4 → cix q i ≤ 40 := by
  intro hq
  unfold cix
  split
  · exact Nat.le_refl _
  · have := h4 (by omega); omega
section CHN
variable {nn t : Nat} {K I B X K' I' B' X' : Nat → Int32} {W W' : Nat → Nat → Int32}
theorem VL.c {f g : Nat → Int32} (h : VL nn f) (e : ∀ k, k ≤ 40 → g k = f k) : VL nn g := fun k hk => by rw [e k (by omega)]; exact h k hk
theorem ChS.c {q i b x : Int32} {f g f' g' : Nat → Int32} (h : ChS nn q i b x f g) (hn : nn ≤ 10) (e1 : ∀ k, k ≤ 40 → f' k = f k) (e2 : ∀ k, k ≤ 40 → g' k = g k) : ChS nn q i b x f' g' := by
  obtain ⟨q', i', a1, a2, a3, a4, a5, a6, a7⟩ := h
  have hc : cix q' i' ≤ 40 := cix_le (fun z => Nat.lt_of_lt_of_le (a5 z) hn) a3
  exact ⟨q', i', a1, a2, a3, a4, a5, by rw [e1 _ hc]; exact a6, fun k hk => by rw [e1 k hk, e2 k hk]; exact a7 k hk⟩
theorem Chn.c (h : Chn nn t K I B X W) (hn : nn ≤ 10) (eK : ∀ j, j < t → K' j = K j ∧ I' j = I j ∧ B' j = B j ∧ X' j = X j) (eW : ∀ j, j ≤ t → ∀ k, k ≤ 40 → W' j k = W j k) : Chn nn t K' I' B' X' W' :=
  ⟨fun j hj => (h.1 j hj).c (eW j hj), fun j hj => by
    obtain ⟨e1, e2, e3, e4⟩ := eK j hj
    rw [e1, e2, e3, e4]
    exact (h.2 j hj).c hn (eW j (by omega)) (eW (j + 1) (by omega))⟩
theorem Chn.sh {a0 d : Nat} (h : Chn nn t K I B X W) (ha : a0 + d ≤ t) : Chn nn a0 (fun j => K (j + d)) (fun j => I (j + d)) (fun j => B (j + d)) (fun j => X (j + d)) (fun j => W (j + d)) :=
  ⟨fun j hj => h.1 (j + d) (by omega), fun j hj => by
    have := h.2 (j + d) (by omega)
    rw [show j + d + 1 = j + 1 + d by omega] at this
    exact this⟩
theorem Chn.snoc (h : Chn nn t K I B X W) (v : VL nn (W (t + 1))) (s : ChS nn (K t) (I t) (B t) (X t) (W t) (W (t + 1))) : Chn nn (t + 1) K I B X W := by
  refine ⟨fun j hj => ?_, fun j hj => ?_⟩
  · by_cases e : j = t + 1
    · rw [e]; exact v
    · exact h.1 j (by omega)
  · by_cases e : j = t
    · rw [e]; exact s
    · exact h.2 j (by omega)
theorem cix_mod {q i k : Nat} (hk : k < 40) (hi : i < 10) (e : k = cix q i) : k % 10 = i := by
  unfold cix at e
  split at e <;> omega
theorem cix_lt {q i k : Nat} (hk : k < 40) (e : k = cix q i) : q ≠ 4 := by
  intro z
  unfold cix at e
  rw [if_pos z] at e
  omega
theorem VL.u {f g : Nat → Int32} (h : VL nn f) (hn : nn ≤ 10) {q i : Nat} (hq : q ≤ 4) (h4 : q < 4 → i < nn) {x : Int32} (hx : q < 4 → rng (cix q i) x) (e : ∀ k, k ≤ 40 → g k = if k = cix q i then x else f k) : VL nn g := by
  intro k hk
  rw [e k (by omega)]
  by_cases c : k = cix q i
  · have q4 : q < 4 := by have := cix_lt hk c; omega
    have i4 := h4 q4
    rw [if_pos c, cix_mod hk (by omega) c]
    refine ⟨fun _ => ?_, fun z => by omega⟩
    rw [c]; exact hx q4
  · rw [if_neg c]; exact h k hk
theorem CL.u {c f c' f' : Nat → Int32} (h : CL nn c f) (hn : nn ≤ 10) {q i : Nat} (hq : q ≤ 4) (h4 : q < 4 → i < nn) {x : Int32} (ec : ∀ k, k ≤ 40 → c' k = if k = cix q i then x else c k) (ef : ∀ k, k ≤ 40 → f' k = if k = cix q i then x else f k) : CL nn c' f' := by
  refine ⟨fun k hk z => ?_, ?_, fun j j1 j2 => ?_⟩
  · rw [ec k (by omega), ef k (by omega), h.1 k hk z]
  · rw [ec 40 (by omega), ef 40 (by omega), h.2.1]
  · rw [ec j (by omega), if_neg]
    · exact h.2.2 j j1 j2
    · intro z
      have q4 := cix_lt (by omega) z
      have i4 := h4 (by omega)
      have := cix_mod (by omega) (by omega) z
      omega
/-- an active cell is the same in both -/
theorem CL.at {c f : Nat → Int32} (h : CL nn c f) (hn : nn ≤ 10) {q i : Nat} (hq : q ≤ 4) (h4 : q < 4 → i < nn) : c (cix q i) = f (cix q i) := by
  by_cases z : q = 4
  · rw [show cix q i = 40 by unfold cix; rw [if_pos z]]; exact h.2.1
  · have i4 := h4 (by omega)
    have e : cix q i = 10 * q + i := by unfold cix; rw [if_neg z]
    exact h.1 _ (by omega) (by omega)
end CHN
section AX2
variable {F G : Nat} {S : St}
theorem lo_put {q i k : Nat} {x : Int32} (hq : q ≤ 4) (h4 : q < 4 → i < 10) (hk : k ≤ 40) : lo (sI S (ch q) (ck q i) x) 30 k = if k = cix q i then x else lo S 30 k := by
  by_cases z : q = 4
  · subst z
    exact lc_sI (S := S) (q := 4) (i := 0) hq (by omega) hk
  · exact lc_sI hq (h4 (by omega)) hk
theorem lo_at {q i : Nat} (hq : q ≤ 4) (h4 : q < 4 → i < 10) : S.1 (ch q) (ck q i) = lo S 30 (cix q i) := by
  unfold ch ck cix
  rcases (by omega : q = 0 ∨ q = 1 ∨ q = 2 ∨ q = 3 ∨ q = 4) with rfl | rfl | rfl | rfl | rfl
  · rw [if_neg (by decide), if_neg (by decide), if_neg (by decide), show 10 * 0 + i = i by omega]; exact (lo_0 (h4 (by omega))).symm
  · rw [if_neg (by decide), if_neg (by decide), if_neg (by decide)]; exact (lo_1 (h4 (by omega))).symm
  · rw [if_neg (by decide), if_neg (by decide), if_neg (by decide)]; exact (lo_2 (h4 (by omega))).symm
  · rw [if_neg (by decide), if_neg (by decide), if_neg (by decide)]; exact (lo_3 (h4 (by omega))).symm
  · rw [if_pos rfl, if_pos rfl, if_pos rfl]; exact lo_4.symm
theorem lo_row {S' : St} {o : Nat} (r : ∀ h, o ≤ h → h ≤ o + 4 → S'.1 h = S.1 h) : lo S' o = lo S o := funext fun k => by
  unfold lo
  rw [r (o + 1) (by omega) (by omega), r (o + 2) (by omega) (by omega), r (o + 3) (by omega) (by omega), r (o + 4) (by omega) (by omega), r o (by omega) (by omega)]
theorem ch_le {q : Nat} (hq : q ≤ 4) : 30 ≤ ch q ∧ ch q ≤ 34 := by unfold ch; split <;> omega
/-- what the class's act does -/
def ActC (S S1 : St) (a0 d q i : Nat) (x : Int32) : Prop := S1.2 = S.2 ∧ S1.1 51 0 = nI (a0 + 1) ∧ S1.1 51 1 = nI (a0 + 1) ∧ (∀ j, j < a0 → S1.1 52 j = S.1 52 (j + d) ∧ S1.1 53 j = S.1 53 (j + d) ∧ S1.1 54 j = S.1 54 (j + d) ∧ S1.1 55 j = S.1 55 (j + d)) ∧ S1.1 52 a0 = nI q ∧ S1.1 53 a0 = nI i ∧ S1.1 54 a0 = lo S 30 (cix q i) ∧ S1.1 55 a0 = x ∧ (∀ k, k ≤ 40 → lo S1 30 k = if k = cix q i then x else lo S 30 k) ∧ ∀ h k, ¬ (30 ≤ h ∧ h ≤ 34) → ¬ (51 ≤ h ∧ h ≤ 55) → (acs h k = true ∨ (h = 78 ∧ k = 48)) → S1.1 h k = S.1 h k
theorem actS_x {a q i : Nat} {x : Int32} (hq : q ≤ 4) (h4 : q < 4 → i < 10) : ActC S (actS S a q i x) a 0 q i x ∧ ∀ h, 78 ≤ h → (actS S a q i x).1 h = S.1 h := by
  have hc := ch_le hq
  have rw0 : ∀ h, ¬ (30 ≤ h ∧ h ≤ 34) → ¬ (51 ≤ h ∧ h ≤ 55) → (actS S a q i x).1 h = S.1 h := fun h q1 q2 => by
    unfold actS
    rw [sI_row (by omega), sI_row (by omega), sI_row (by omega), sI_row (by omega), sI_row (by omega), sI_row (by omega), sI_row (by omega)]
  refine ⟨?_, fun h q => rw0 h (by omega) (by omega)⟩
  refine ⟨rfl, ?_, ?_, fun j hj => ⟨?_, ?_, ?_, ?_⟩, ?_, ?_, ?_, ?_, fun k hk => ?_, fun h k q1 q2 _ => by rw [rw0 h q1 q2]⟩
  · unfold actS; rw [sI_at, if_neg (by omega), sI_at, if_neg (by omega), sI_self]
  · unfold actS; rw [sI_at, if_neg (by omega), sI_self]
  · unfold actS; simp only [sI_at]; rw [if_neg (by omega), if_neg (by omega), if_neg (by omega), if_neg (by omega), if_neg (by omega), if_neg (by omega), if_neg (by omega), Nat.add_zero]
  · unfold actS; simp only [sI_at]; rw [if_neg (by omega), if_neg (by omega), if_neg (by omega), if_neg (by omega), if_neg (by omega), if_neg (by omega), if_neg (by omega), Nat.add_zero]
  · unfold actS; simp only [sI_at]; rw [if_neg (by omega), if_neg (by omega), if_neg (by omega), if_neg (by omega), if_neg (by omega), if_neg (by omega), if_neg (by omega), Nat.add_zero]
  · unfold actS; simp only [sI_at]; rw [if_neg (by omega), if_neg (by omega), if_neg (by omega), if_neg (by omega), if_neg (by omega), if_neg (by omega), if_neg (by omega), Nat.add_zero]
  · unfold actS; rw [sI_at, if_neg (by omega), sI_at, if_neg (by omega), sI_at, if_neg (by omega), sI_at, if_neg (by omega), sI_at, if_neg (by omega), sI_at, if_neg (by omega), sI_self]
  · unfold actS; rw [sI_at, if_neg (by omega), sI_at, if_neg (by omega), sI_at, if_neg (by omega), sI_at, if_neg (by omega), sI_at, if_neg (by omega), sI_self]
  · unfold actS; rw [sI_at, if_neg (by omega), sI_at, if_neg (by omega), sI_at, if_neg (by omega), sI_at, if_neg (by omega), sI_self]; exact lo_at hq h4
  · unfold actS; rw [sI_at, if_neg (by omega), sI_at, if_neg (by omega), sI_at, if_neg (by omega), sI_self]
  · unfold actS
    rw [lo_put hq h4 hk, lo_row (S := S) (fun h r1 r2 => by rw [sI_row (by omega), sI_row (by omega), sI_row (by omega), sI_row (by omega), sI_row (by omega), sI_row (by omega)])]
theorem drop_x : Sf (fC_dropOldest F G S) (fun D => D.2 = S.2 ∧ D.1 51 0 = nI 39 ∧ (∀ j, j < 39 → D.1 52 j = S.1 52 (j + 1) ∧ D.1 53 j = S.1 53 (j + 1) ∧ D.1 54 j = S.1 54 (j + 1) ∧ D.1 55 j = S.1 55 (j + 1)) ∧ ∀ h, ¬ (51 ≤ h ∧ h ≤ 55) → D.1 h = S.1 h) := by
  unfold fC_dropOldest
  refine sf_lt (sf_gd rfl (sf_lt (sf_gd rfl (sf_lt (sf_gd rfl (sf_lt (sf_gd rfl (sf_lt (sf_some ⟨rfl, rfl, fun j hj => ⟨?_, ?_, ?_, ?_⟩, fun h q => ?_⟩)))))))))
  · show va_cpy (S.1 52) (S.1 52) 1 0 39 j = _
    unfold va_cpy; rw [if_pos ⟨Nat.zero_le _, by omega⟩, show 1 + (j - 0) = j + 1 by omega]
  · show va_cpy (S.1 53) (S.1 53) 1 0 39 j = _
    unfold va_cpy; rw [if_pos ⟨Nat.zero_le _, by omega⟩, show 1 + (j - 0) = j + 1 by omega]
  · show va_cpy (S.1 54) (S.1 54) 1 0 39 j = _
    unfold va_cpy; rw [if_pos ⟨Nat.zero_le _, by omega⟩, show 1 + (j - 0) = j + 1 by omega]
  · show va_cpy (S.1 55) (S.1 55) 1 0 39 j = _
    unfold va_cpy; rw [if_pos ⟨Nat.zero_le _, by omega⟩, show 1 + (j - 0) = j + 1 by omega]
  · simp only [sA]
    rw [if_neg (by omega), if_neg (by omega), if_neg (by omega), if_neg (by omega), sI_row (by omega)]
theorem C_act {a0 d q i : Nat} {x : Int32} (h51 : S.1 51 0 = nI (a0 + d)) (h39 : a0 < 40) (hd : d = 0 ∨ (d = 1 ∧ a0 = 39)) (hq : q ≤ 4) (hi : i < 12) (h4 : q < 4 → i < 10) : ∃ S1, fC_act F G S 30 (nI q) (nI i) x = some S1 ∧ ActC S S1 a0 d q i x ∧ ∀ h, 78 ≤ h → S1.1 h = S.1 h := by
  unfold fC_act
  rw [gd_t (show isLa 30 = true from rfl), h51]
  rcases hd with rfl | ⟨rfl, rfl⟩
  · rw [Nat.add_zero, if_pos (show nI a0 < 40 from Int32.not_le.mp (nI_ge (b := 40) h39 (by decide)))]
    exact ⟨_, act13_x (by rw [h51, Nat.add_zero]) h39 hq hi h4, actS_x hq h4⟩
  · rw [if_neg (by decide)]
    obtain ⟨D, e, d2, d51, dj, dr⟩ := drop_x (F := F) (G := G) (S := S)
    rw [e, bd_some]
    obtain ⟨⟨x1, x2, x3, x4, x5, x6, x7, x8, x9, x10⟩, x11⟩ := actS_x (S := D) (a := 39) (x := x) hq h4
    have el : lo D 30 = lo S 30 := lo_row fun h q1 q2 => dr h (by omega)
    refine ⟨_, act13_x d51 (by omega) hq hi h4, ⟨x1.trans d2, x2, x3, fun j hj => ?_, x5, x6, by rw [← el]; exact x7, x8, by rw [← el]; exact x9, fun h k q1 q2 q3 => (x10 h k q1 q2 q3).trans (by rw [dr h q2])⟩, fun h q => (x11 h q).trans (dr h (by omega))⟩
    obtain ⟨y1, y2, y3, y4⟩ := x4 j hj
    obtain ⟨z1, z2, z3, z4⟩ := dj j hj
    exact ⟨y1.trans z1, y2.trans z2, y3.trans z3, y4.trans z4⟩
/-- what the reference's act does -/
def ActM2 (S T : St) (a0 d : Nat) : Prop := T.1 78 63 = nI (a0 + 1) ∧ T.1 78 64 = 0 ∧ (∀ m, m < 41 * a0 → T.1 104 m = S.1 104 (m + 41 * d)) ∧ (∀ k, k < 41 → T.1 104 (41 * a0 + k) = S.1 100 k) ∧ ∀ h k, h ≠ 104 → ¬ (h = 78 ∧ (k = 63 ∨ k = 64)) → T.1 h k = S.1 h k
theorem M_act51 (hF : 100000 ≤ F) {a : Nat} (h63 : S.1 78 63 = nI a) (ha : a < 40) : ∃ T, fx2 (b_M_act_51 F G) F 0 S = some T ∧ ActM2 S T a 0 := by
  obtain ⟨U, e1, e2, e3, e4, e5⟩ := cp2 (bod := b_M_act_51 F G) (k := fun S => lt (sI S 78 63 ((S.1 78 63) + (1 : Int32))) fun S3 => lt (sI S3 78 64 (0 : Int32)) fun S5 => some S5) (N := 41) (fun n U => U.1 78 63 = nI a ∧ (∀ m, m < 41 * a → U.1 104 m = S.1 104 m) ∧ (∀ k, k < n → U.1 104 (41 * a + k) = S.1 100 k) ∧ ∀ h, h ≠ 104 → U.1 h = S.1 h)
    (fun rec U _ => by
      unfold b_M_act_51
      rw [if_pos (by decide)])
    (fun rec i U hi hP => by
      obtain ⟨p1, p2, p3, p4⟩ := hP
      unfold b_M_act_51
      rw [if_neg (show ¬ (41 : Int32) ≤ nI i from nI_ge (b := 41) hi (by decide)), gd_t (inB_nI hi (by decide)), p1, show (41 : Int32) * nI a + nI i = nI (41 * a + i) by rw [show (41 : Int32) = nI 41 from rfl, nI_mulN, nI_add], gd_t (inB_nI (by omega) (by decide)), lt_eq, lt_eq, nI_1, nI_clamp (by omega), nI_clamp (by omega)]
      refine ⟨_, rfl, ?_, fun m hm => ?_, fun k hk => ?_, fun h q => ?_⟩
      · rw [sI_at, if_neg (by omega)]; exact p1
      · rw [sI_at, if_neg (by omega)]; exact p2 m hm
      · rw [sI_at]
        by_cases z : k = i
        · rw [if_pos ⟨rfl, by omega⟩, p4 100 (by omega), z]
        · rw [if_neg (by omega)]; exact p3 k (by omega)
      · rw [sI_row q]; exact p4 h q)
    41 0 F S rfl (by omega) (by omega) ⟨h63, fun _ _ => rfl, fun k hk => by omega, fun _ _ => rfl⟩
  refine ⟨_, e1, ?_, rfl, fun m hm => ?_, fun k hk => ?_, fun h k q1 q2 => ?_⟩
  · rw [sI_at, if_neg (by omega), sI_self, e2, nI_1]
  · rw [sI_at, if_neg (by omega), sI_at, if_neg (by omega)]; exact e3 m hm
  · rw [sI_at, if_neg (by omega), sI_at, if_neg (by omega)]; exact e4 k hk
  · rw [sI_at, if_neg (by omega), sI_at, if_neg (by omega), e5 h q1]
theorem M_act_x (hF : 100000 ≤ F) {a0 d : Nat} (h63 : S.1 78 63 = nI (a0 + d)) (h39 : a0 < 40) (hd : d = 0 ∨ (d = 1 ∧ a0 = 39)) : ∃ T, fM_act F G S = some T ∧ ActM2 S T a0 d := by
  unfold fM_act
  rcases hd with rfl | ⟨rfl, rfl⟩
  · rw [h63, Nat.add_zero, if_neg (show ¬ nI a0 = (40 : Int32) from fun z => by have := (nI_eq (a := a0) (b := 40) (by omega) (by omega)).mp z; omega)]
    exact M_act51 hF h63 h39
  · rw [h63, if_pos (show nI (39 + 1) = (40 : Int32) from rfl)]
    obtain ⟨U, e1, e2, e3, e4⟩ := cp2 (bod := b_M_act_11 F G (fun S20 => lt (sI S20 78 63 ((S20.1 78 63) - (1 : Int32))) fun S21 => fx2 (b_M_act_51 F G) F (0 : Int32) S21)) (k := fun S20 => lt (sI S20 78 63 ((S20.1 78 63) - (1 : Int32))) fun S21 => fx2 (b_M_act_51 F G) F (0 : Int32) S21) (N := 1599) (fun n U => (∀ m, m < n → U.1 104 m = S.1 104 (m + 41)) ∧ (∀ m, n ≤ m → U.1 104 m = S.1 104 m) ∧ ∀ h, h ≠ 104 → U.1 h = S.1 h)
      (fun rec U _ => by
        unfold b_M_act_11
        rw [if_pos (by decide)])
      (fun rec i U hi hP => by
        obtain ⟨p1, p2, p3⟩ := hP
        unfold b_M_act_11
        rw [if_neg (show ¬ (1599 : Int32) ≤ nI i from nI_ge (b := 1599) hi (by decide)), show (41 : Int32) + nI i = nI (41 + i) by rw [show (41 : Int32) = nI 41 from rfl, nI_add], gd_t (inB_nI (by omega) (by decide)), gd_t (inB_nI (by omega) (by decide)), lt_eq, lt_eq, nI_1, nI_clamp (by omega), nI_clamp (by omega)]
        refine ⟨_, rfl, fun m hm => ?_, fun m hm => ?_, fun h q => ?_⟩
        · rw [sI_at]
          by_cases z : m = i
          · rw [if_pos ⟨rfl, z⟩, p2 _ (by omega), z, Nat.add_comm 41 i]
          · rw [if_neg (by omega)]; exact p1 m (by omega)
        · rw [sI_at, if_neg (by omega)]; exact p2 m (by omega)
        · rw [sI_row q]; exact p3 h q)
      1599 0 F S rfl (by omega) (by omega) ⟨fun m hm => by omega, fun _ _ => rfl, fun _ _ => rfl⟩
    obtain ⟨T, t1, t2, t3, t4, t5, t6⟩ := M_act51 (F := F) (G := G) (S := sI U 78 63 ((U.1 78 63) - (1 : Int32))) (a := 39) hF (by rw [sI_self, e4 78 (by omega), h63]; rfl) (by omega)
    refine ⟨T, e1.trans t1, t2, t3, fun m hm => ?_, fun k hk => ?_, fun h k q1 q2 => ?_⟩
    · rw [t4 m hm, sI_at, if_neg (by omega)]; exact e2 m (by omega)
    · rw [t5 k hk, sI_at, if_neg (by omega), e4 100 (by omega)]
    · rw [t6 h k q1 q2, sI_at, if_neg (by omega), e4 h q1]
/-- both acts, one behind the other: the invariant stands again -/
theorem acts_x {S1 T : St} {nn a0 d q i : Nat} {x : Int32} (hn : nn ≤ 10) (h48 : S.1 78 48 = nI nn) (xl : CpL nn S) (xb : CpB nn S) (xw : CpW S) {a t : Nat} (ha : a ≤ t) (he : a = a0 + d) (ch : Chn nn t (S.1 52) (S.1 53) (S.1 54) (S.1 55) (wr S a)) (h39 : a0 < 40) (hq : q ≤ 4) (hi : i < 12) (h4 : q < 4 → i < nn) (hx : q < 4 → rng (cix q i) x) (hC : ActC S S1 a0 d q i x) (hM : ActM2 S1 T a0 d) : CpX (sI T 100 (cix q i) x) := by
  obtain ⟨c1, c2, c3, c4, c5, c6, c7, c8, c9, c10⟩ := hC
  obtain ⟨m1, m2, m3, m4, m5⟩ := hM
  have r : ∀ h, h ≠ 104 → h ≠ 78 → h ≠ 100 → (sI T 100 (cix q i) x).1 h = S1.1 h := fun h q1 q2 q3 => by
    rw [sI_row q3]; exact funext fun k => m5 h k q1 (by omega)
  have r2 : ∀ h, (36 ≤ h ∧ h ≤ 50) ∨ (71 ≤ h ∧ h ≤ 75) ∨ (108 ≤ h ∧ h ≤ 112) ∨ 115 ≤ h → (sI T 100 (cix q i) x).1 h = S.1 h := fun h z => (r h (by omega) (by omega) (by omega)).trans (funext fun k => c10 h k (by omega) (by omega) (Or.inl (acs_t (by omega))))
  have s104 : ∀ k, S1.1 104 k = S.1 104 k := fun k => c10 104 k (by omega) (by omega) (Or.inl (acs_t (by omega)))
  have s100 : ∀ k, S1.1 100 k = S.1 100 k := fun k => c10 100 k (by omega) (by omega) (Or.inl (acs_t (by omega)))
  have e100 : ∀ k, k ≤ 40 → (sI T 100 (cix q i) x).1 100 k = if k = cix q i then x else S.1 100 k := fun k hk => by
    rw [sI_at, m5 100 k (by omega) (by omega), s100]
    by_cases z : k = cix q i
    · rw [if_pos ⟨rfl, z⟩, if_pos z]
    · rw [if_neg (fun c => z c.2), if_neg z]
  have e104 : ∀ m, (sI T 100 (cix q i) x).1 104 m = T.1 104 m := fun m => by rw [sI_at, if_neg (by omega)]
  have elo : ∀ k, k ≤ 40 → lo (sI T 100 (cix q i) x) 30 k = if k = cix q i then x else lo S 30 k := fun k hk => by
    rw [lo_row (S := S1) (o := 30) (fun h q1 q2 => r h (by omega) (by omega) (by omega))]; exact c9 k hk
  have w1 : ∀ j, j ≤ a0 → ∀ k, k ≤ 40 → wr (sI T 100 (cix q i) x) (a0 + 1) j k = wr S a (j + d) k := fun j hj k hk => by
    unfold wr
    rw [if_pos (by omega), e104]
    by_cases z : j = a0
    · rw [if_neg (by omega), if_pos (by omega), z, m4 k (by omega), s100]
    · rw [if_pos (by omega), m3 _ (by omega), s104, show 41 * j + k + 41 * d = 41 * (j + d) + k by omega]
  have w2 : wr (sI T 100 (cix q i) x) (a0 + 1) (a0 + 1) = (sI T 100 (cix q i) x).1 100 := funext fun k => by
    unfold wr
    rw [if_neg (by omega), if_pos rfl]
  have w3 : ∀ k, k ≤ 40 → wr (sI T 100 (cix q i) x) (a0 + 1) a0 k = S.1 100 k := fun k hk => by
    rw [w1 a0 (Nat.le_refl _) k hk, ← he]
    unfold wr
    rw [if_neg (by omega), if_pos rfl]
  have vl : VL nn ((sI T 100 (cix q i) x).1 100) := xl.1.u hn hq h4 hx e100
  have c40 : cix q i ≤ 40 := cix_le (fun z => Nat.lt_of_lt_of_le (h4 z) hn) hq
  refine ⟨nn, hn, ?_, ⟨vl, xl.2.u hn hq h4 elo e100⟩, ⟨a0 + 1, a0 + 1, Nat.le_refl _, by omega, ?_, ?_, ?_, ?_, ?_⟩, xb.fr fun h z => r2 h (by omega), xw.fr (fun h z => r2 h (by omega)) ?_ ?_⟩
  · rw [sI_at, if_neg (by omega), m5 78 48 (by omega) (by omega), c10 78 48 (by omega) (by omega) (Or.inr ⟨rfl, rfl⟩)]; exact h48
  · rw [r 51 (by omega) (by omega) (by omega)]; exact c2
  · rw [r 51 (by omega) (by omega) (by omega)]; exact c3
  · rw [sI_at, if_neg (by omega)]; exact m1
  · rw [sI_at, if_neg (by omega), m2, Nat.sub_self]; rfl
  · rw [r 52 (by omega) (by omega) (by omega), r 53 (by omega) (by omega) (by omega), r 54 (by omega) (by omega) (by omega), r 55 (by omega) (by omega) (by omega)]
    refine Chn.snoc ((ch.sh (a0 := a0) (d := d) (by omega)).c hn c4 w1) (by rw [w2]; exact vl) ⟨q, i, c5, c6, hq, hi, h4, ?_, fun k hk => ?_⟩
    · rw [w3 _ c40, c7]; exact (xl.2.at hn hq h4).symm
    · rw [w2, e100 k hk, c8, w3 k hk]
  · rw [r 69 (by omega) (by omega) (by omega)]; exact c10 69 0 (by omega) (by omega) (Or.inl rfl)
  · rw [sI_at, if_neg (by omega), m5 78 74 (by omega) (by omega)]; exact c10 78 74 (by omega) (by omega) (Or.inl rfl)
theorem ActC.q {S1 S1c : St} {a0 d q i : Nat} {x : Int32} (h : ActC S S1 a0 d q i x) (k : Inv S1 S1c) : ActC S S1c a0 d q i x := by
  obtain ⟨c1, c2, c3, c4, c5, c6, c7, c8, c9, c10⟩ := h
  have f : ∀ h k, acs h k = true → S1c.1 h k = S1.1 h k := fun h k' z => k.2.2.2 h k' (acs_scr z)
  have r : ∀ h, 30 ≤ h → h ≤ 55 → S1c.1 h = S1.1 h := fun h z1 z2 => funext fun k' => f h k' (acs_t (by omega))
  refine ⟨k.2.2.1.trans c1, ?_, ?_, ?_, ?_, ?_, ?_, ?_, ?_, fun h k' q1 q2 q3 => ?_⟩
  · rw [r 51 (by omega) (by omega)]; exact c2
  · rw [r 51 (by omega) (by omega)]; exact c3
  · rw [r 52 (by omega) (by omega), r 53 (by omega) (by omega), r 54 (by omega) (by omega), r 55 (by omega) (by omega)]; exact c4
  · rw [r 52 (by omega) (by omega)]; exact c5
  · rw [r 53 (by omega) (by omega)]; exact c6
  · rw [r 54 (by omega) (by omega)]; exact c7
  · rw [r 55 (by omega) (by omega)]; exact c8
  · rw [lo_row (S := S1) (o := 30) (fun h z1 z2 => r h (by omega) (by omega))]; exact c9
  · refine Eq.trans ?_ (c10 h k' q1 q2 q3)
    rcases q3 with q3 | ⟨rfl, rfl⟩
    · exact f h k' q3
    · exact k.2.2.2 78 48 rfl
theorem act_pair (hF : 100000 ≤ F) (h : J2 S) {q i : Nat} {x : Int32} (hq : q ≤ 4) (hi : i < 12) (h4 : q < 4 → (i : Int) < (S.1 78 48).toInt) (hx : q < 4 → rng (cix q i) x) : ∃ S1, fC_act F G S 30 (nI q) (nI i) x = some S1 ∧ Kp S S1 ∧ (∀ h, 78 ≤ h → S1.1 h = S.1 h) ∧ (S1.1 30 1 = if q = 4 then x else S.1 30 1) ∧ ∀ S1c, Inv S1 S1c → ∃ T, fM_act F G S1c = some T ∧ (∀ k, T.1 100 k = S.1 100 k) ∧ (∀ h, h < 78 → T.1 h = S1c.1 h) ∧ T.2 = S1c.2 ∧ J2 (sI T 100 (cix q i) x) := by
  obtain ⟨hJ, h3, nn, n1, n48, xl, ⟨a, t, a1, a2, a3, a4, a5, a6, ch⟩, xb, xw⟩ := id h
  have h4' : q < 4 → i < nn := fun z => by
    have := h4 z
    rw [n48, nI_toInt (by omega)] at this; omega
  obtain ⟨a0, d, he, h39, hd⟩ : ∃ a0 d, a = a0 + d ∧ a0 < 40 ∧ (d = 0 ∨ (d = 1 ∧ a0 = 39)) := by
    by_cases z : a = 40
    · exact ⟨39, 1, by omega, by omega, Or.inr ⟨rfl, rfl⟩⟩
    · exact ⟨a, 0, by omega, by omega, Or.inl rfl⟩
  obtain ⟨S1, s1, hC, r78⟩ := C_act (F := F) (G := G) (x := x) (by rw [a3, he]) h39 hd hq hi (fun z => by have := h4' z; omega)
  obtain ⟨S1', s1', k1⟩ := k_act (F := F) (G := G) (p2 := nI q) (p3 := nI i) (p4 := x) hJ.1
  rw [← Option.some.inj (s1.symm.trans s1')] at k1
  refine ⟨S1, s1, k1, r78, ?_, fun S1c kc => ?_⟩
  · have := hC.2.2.2.2.2.2.2.2.1 40 (Nat.le_refl _)
    rw [lo_4, lo_4] at this
    rw [this]
    unfold cix
    by_cases z : q = 4
    · rw [if_pos z, if_pos z, if_pos rfl]
    · have := h4' (by omega)
      rw [if_neg z, if_neg z, if_neg (by omega)]
  · have hC' := hC.q kc
    have kk := k1.tr kc.kp
    obtain ⟨T, t1, hM⟩ := M_act_x (F := F) (G := G) (S := S1c) hF (a0 := a0) (d := d) (by rw [hC'.2.2.2.2.2.2.2.2.2 78 63 (by omega) (by omega) (Or.inl rfl), a5, he]) h39 hd
    obtain ⟨T', t1', k2⟩ := m_act (F := F) (G := G) hF (kk.good hJ.1)
    rw [← Option.some.inj (t1.symm.trans t1')] at k2
    refine ⟨T, t1, fun k => ?_, fun h z => funext fun k => hM.2.2.2.2 h k (by omega) (by omega), k2.1, h.ch kk (k2.sN rfl rfl (by decide)) (acts_x n1 n48 xl xb xw a1 he ch h39 hq hi h4' hx hC' hM)⟩
    rw [hM.2.2.2.2 100 k (by omega) (by omega)]
    exact hC'.2.2.2.2.2.2.2.2.2 100 k (by omega) (by omega) (Or.inl rfl)
end AX2
