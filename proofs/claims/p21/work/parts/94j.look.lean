/-! LOOKING AT THE KEYS: both sides beside each other -/
theorem mset_up {p : Nat → Bool} {n : Nat} : ∀ {k : Nat}, (∀ i, n ≤ i → i < n + k → p i = false) → mset p (n + k) = mset p n
  | 0, _ => rfl
  | k + 1, h => by
    show mset p (n + k) ||| (if p (n + k) then _ else 0) = _
    rw [mset_up (k := k) (fun i h1 h2 => h i h1 (by omega)), h (n + k) (by omega) (by omega), if_neg (show ¬ false = true by decide), Int32.or_zero]
def bgn (C : St) (i : Nat) : Nat := (C.1 96 i).toNatClampNeg
def lgn (C : St) (i : Nat) : Nat := (C.1 100 (20 + i)).toNatClampNeg
def hdl (C : St) (nn b : Nat) : Int32 := mset (HL (bgn C) (lgn C) (C.1 100 40) b) nn
def giv (C : St) (nn : Nat) (h : Int32) : Int32 := mset (fun i => decide (C.1 100 i = h)) nn
/-- the class's keyboard, laid by the state C -/
def KD (C T : St) (nn bs : Nat) : Prop := KB T nn bs ∧ T.1 57 2 = C.1 78 49 ∧ T.1 57 3 = C.1 78 50 ∧ T.1 57 4 = C.1 78 51 ∧ T.1 57 5 = giv C nn 1 ∧ T.1 57 6 = giv C nn 2 ∧ T.1 57 7 = C.1 100 40 ∧ (∀ i, i < nn → T.1 58 i = C.1 100 (10 + i) ∧ T.1 59 i = nI (bgn C i) ∧ T.1 60 i = nI (lgn C i)) ∧ ∀ b, b < bs → T.1 61 b = hdl C nn b
/-- the reference's rows, laid by the state C -/
def MD (C U : St) (nn bs : Nat) : Prop := nn ≤ 10 ∧ bs ≤ 12 ∧ U.1 78 48 = nI nn ∧ U.1 78 46 = nI bs ∧ (∀ k, k < 41 → U.1 101 k = C.1 100 k) ∧ (∀ b, b < 12 → U.1 102 b = if b < bs then hdl C nn b else 0) ∧ ∀ h k, scr h k = false → U.1 h k = C.1 h k
/-- how many notes and beats -/
def NB (C : St) (nn bs : Nat) : Prop := nn ≤ 10 ∧ 1 ≤ bs ∧ bs ≤ 12 ∧ C.1 78 48 = nI nn ∧ C.1 78 46 = nI bs ∧ C.1 C.2.2.1 6 = nI nn ∧ C.1 C.2.2.1 0 = nI bs ∧ (∀ i, i < nn → C.1 96 i = nI (bgn C i) ∧ bgn C i < bs ∧ C.1 100 (20 + i) = nI (lgn C i) ∧ 1 ≤ lgn C i ∧ lgn C i ≤ 12) ∧ CpL nn C
section LK
variable {F G : Nat} {C S : St}
theorem J2.nb (h : J2 C) : ∃ nn bs, NB C nn bs := by
  obtain ⟨hJ, h3, nn, n1, n48, xl, -⟩ := id h
  obtain ⟨d6, d0, dr⟩ := h3.n n48 n1
  obtain ⟨bs, b1, b2⟩ := iv_nat (u := 12) (hJ.1.1 78 46 _ _ rfl |> fun z => iv_w z rfl)
  have b0 : 1 ≤ bs := by
    have := (hJ.1.1 78 46 _ _ rfl).1
    rw [b1, nI_toInt (by omega)] at this; omega
  refine ⟨nn, bs, n1, b0, b2, n48, b1, d6, d0.trans b1, fun i hi => ?_, xl⟩
  obtain ⟨-, -, -, -, -, r6, -⟩ := dr i hi
  have v := ((xl.1 (20 + i) (by omega)).1 (by omega)).2.2.1 (by omega) (by omega)
  rw [b1, nI_toInt (by omega)] at r6
  obtain ⟨x, x1, x2⟩ := iv_nat (x := C.1 96 i) (u := 11) ⟨r6.1, by have := r6.2; omega⟩
  obtain ⟨y, y1, y2⟩ := iv_nat (x := C.1 100 (20 + i)) (u := 12) ⟨by have := v.1; omega, v.2⟩
  have ex : bgn C i = x := by unfold bgn; rw [x1, nI_clamp (by omega)]
  have ey : lgn C i = y := by unfold lgn; rw [y1, nI_clamp (by omega)]
  rw [ex, ey]
  refine ⟨x1, ?_, y1, ?_, y2⟩
  · have := r6.2; rw [x1, nI_toInt (by omega)] at this; omega
  · have := v.1; rw [y1, nI_toInt (by omega)] at this; omega
/-- the class looks: S has C's own cells -/
theorem look_J (hF : 100000 ≤ F) (h : J2 C) {nn bs : Nat} (nb : NB C nn bs) (e2 : S.2.2 = C.2.2) (e : ∀ h k, h < 78 → scr h k = false → S.1 h k = C.1 h k) : ∃ T, fN_lookAtKeys F G S = some T ∧ KD C T nn bs ∧ (∀ h, ¬ (57 ≤ h ∧ h ≤ 61) → T.1 h = S.1 h) ∧ T.2 = S.2 := by
  obtain ⟨n1, b0, b2, n48, b46, d6, d0, dr, xl⟩ := nb
  have sc := h.1.1.2.1.1
  have oo := isSc_or sc
  have et : S.2.2.1 = C.2.2.1 := by rw [e2]
  have eo : ∀ j k, j ≤ 8 → S.1 (C.2.2.1 + j) k = C.1 (C.2.2.1 + j) k := fun j k q => e _ k (by omega) (by
    rw [Bool.eq_false_iff]; intro z
    simp only [scr, Bool.or_eq_true, Bool.and_eq_true, beq_iff_eq, Nat.ble_eq] at z
    omega)
  have eo0 : ∀ k, S.1 C.2.2.1 k = C.1 C.2.2.1 k := fun k => eo 0 k (by omega)
  have el : ∀ h k, 30 ≤ h → h ≤ 34 → S.1 h k = C.1 h k := fun h k q1 q2 => e h k (by omega) (acs_scr (acs_t (by omega)))
  obtain ⟨d6', d0', dd⟩ := h.2.1.n n48 n1
  have c1 : ∀ i, i < nn → C.1 33 i = C.1 100 (20 + i) := fun i hi => by
    have := xl.2.1 (20 + i) (by omega) (by omega)
    rw [lo_2 (by omega)] at this; exact this
  have c2 : ∀ i, i < nn → C.1 32 i = C.1 100 (10 + i) := fun i hi => by
    have := xl.2.1 (10 + i) (by omega) (by omega)
    rw [lo_1 (by omega)] at this; exact this
  obtain ⟨T, t0, t1, t2, t3, t4, t5, t6, t7, t8, t9, t10, t11, t12⟩ := K_lay_x (F := F) (G := G) (S := S) (o := C.2.2.1) (nn := nn) (bs := bs) (bg := bgn C) (lg := lgn C) hF sc n1 b2 ((eo0 6).trans d6) ((eo0 0).trans d0) (fun i hi => by
    rw [eo 5 i (by omega), (dd i hi).2.1]
    exact ⟨(dr i hi).1, by have := (dr i hi).2.1; omega⟩) (fun i hi => by
    rw [el 33 i (by omega) (by omega), c1 i hi]
    exact ⟨(dr i hi).2.2.1, (dr i hi).2.2.2.2⟩)
  obtain ⟨np, n', m, -, -, -, -, -, -, -, -, ⟨s1, -⟩, ⟨s2, -⟩, ⟨s3, -⟩, -⟩ := h.2.1
  have gv : ∀ q : Int32, ¬ q = 0 → mset (fun i => decide (S.1 31 i = q)) 10 = giv C nn q := fun q hq => by
    unfold giv
    rw [show 10 = nn + (10 - nn) by omega, mset_up (fun i i1 i2 => by
      rw [el 31 i (by omega) (by omega)]
      have := xl.2.2.2 i i1 (by omega)
      rw [lo_0 (by omega)] at this
      rw [show C.1 31 i = 0 from this]
      exact decide_eq_false (fun z => hq z.symm))]
    exact mset_cong fun i hi => by
      rw [el 31 i (by omega) (by omega)]
      have := xl.2.1 i (by omega) (by omega)
      rw [lo_0 (by omega)] at this
      rw [show C.1 31 i = C.1 100 i from this]
  have p30 : S.1 30 1 = C.1 100 40 := by
    rw [el 30 1 (by omega) (by omega)]
    have := xl.2.2.1
    rw [lo_4] at this; exact this
  refine ⟨T, ?_, ⟨⟨n1, b2, t1, t2, fun i hi => ?_, fun b hb => ?_⟩, ?_, ?_, ?_, ?_, ?_, ?_, fun i hi => ?_, fun b hb => ?_⟩, t11, t12⟩
  · unfold fN_lookAtKeys
    rw [et, gd_t sc, t0, bd_some]
  · rw [(t9 i hi).1, el 32 i (by omega) (by omega), c2 i hi]
    exact ((xl.1 (10 + i) (by omega)).1 (by omega)).2.1 (by omega) (by omega)
  · rw [t10 b hb]; exact Sub.mset (by omega)
  · rw [t3, eo0 1, s1]
  · rw [t4, eo0 2, s2]
  · rw [t5, eo0 3, s3]
  · rw [t6]; exact gv 1 (by decide)
  · rw [t7]; exact gv 2 (by decide)
  · rw [t8]; exact p30
  · refine ⟨?_, (t9 i hi).2⟩
    rw [(t9 i hi).1, el 32 i (by omega) (by omega), c2 i hi]
  · rw [t10 b hb, p30]; rfl
theorem look_I (hF : 100000 ≤ F) (hG : 20 ≤ G) (h : J2 S) {nn bs : Nat} (nb : NB S nn bs) : ∃ T, fN_lookAtKeys F G S = some T ∧ KD S T nn bs ∧ Inv S T := by
  obtain ⟨T, t1, t2, -, -⟩ := look_J (F := F) (G := G) (S := S) hF h nb rfl (fun _ _ _ _ => rfl)
  obtain ⟨T', u1, u2⟩ := s_fN_lookAtKeys hF hG (Inv.rf h.1.1)
  rw [← Option.some.inj (t1.symm.trans u1)] at u2
  exact ⟨T, t1, t2, u2⟩
theorem fill_I (hF : 100000 ≤ F) (hG : 20 ≤ G) {nn bs : Nat} (nb : NB C nn bs) (i : Inv C S) : ∃ U, fM_fill F G S = some U ∧ MD C U nn bs ∧ Inv C U := by
  obtain ⟨n1, b0, b2, n48, b46, d6, d0, dr, xl⟩ := nb
  have f := i.2.2.2
  have f100 : ∀ k, S.1 100 k = C.1 100 k := fun k => f 100 k rfl
  obtain ⟨U, u1, u2, u3, u4, u5⟩ := M_fill_x (F := F) (G := G) (S := S) (nn := nn) (bs := bs) (bg := bgn C) (lg := lgn C) hF n1 b2 ((f 78 48 rfl).trans n48) ((f 78 46 rfl).trans b46) (fun j hj => by
    rw [f 96 j rfl]; exact ⟨(dr j hj).1, by have := (dr j hj).2.1; omega⟩) (fun j hj => by
    rw [f100]; exact ⟨(dr j hj).2.2.1, (dr j hj).2.2.2.2⟩)
  obtain ⟨U', w1, w2⟩ := s_fM_fill hF hG i
  rw [← Option.some.inj (u1.symm.trans w1)] at w2
  refine ⟨U, u1, ⟨n1, b2, ?_, ?_, fun k hk => by rw [u2 k hk, f100], fun b hb => by rw [u3 b hb, f100]; rfl, fun h k q => w2.2.2.2 h k q⟩, w2⟩
  · rw [u4 78 (by omega) (by omega), f 78 48 rfl]; exact n48
  · rw [u4 78 (by omega) (by omega), f 78 46 rfl]; exact b46
theorem MD.given {U : St} {nn bs : Nat} (m : MD C U nn bs) (hF : 100000 ≤ F) (h : Int32) : fM_given F G U h = some (giv C nn h) := by
  obtain ⟨n1, b2, n48, b46, a, hd, -⟩ := m
  rw [M_given n48 n1 (by omega)]
  unfold giv
  rw [mset_cong fun i hi => by rw [a i (by omega)]]
theorem MD.at {U : St} {nn bs b : Nat} (m : MD C U nn bs) (hb : b < bs) : U.1 102 b = hdl C nn b := by
  rw [m.2.2.2.2.2.1 b (by have := m.2.1; omega), if_pos hb]
theorem KM_ahd {U T : St} {nn bs b : Nat} (k : KD C T nn bs) (m : MD C U nn bs) (hb : b < bs) : ahd (U.1 102) b = ahd (T.1 61) b := by
  cases b with
  | zero => rfl
  | succ b =>
    show U.1 102 b = T.1 61 b
    rw [m.at (by omega), k.2.2.2.2.2.2.2.2 b (by omega)]
/-- the clashes of a beat are the same -/
theorem cl_eq {U T : St} {nn bs b : Nat} {l r sp : Int32} (k : KD C T nn bs) (m : MD C U nn bs) (hs : T.1 57 2 = sp) (hb : b < bs) : clM U nn l r (C.1 78 50) sp b = clK T nn l r b := by
  unfold clM clK
  rw [KM_ahd k m hb, m.at hb, k.2.2.2.2.2.2.2.2 b hb, k.2.2.1, k.2.2.2.1, hs, m.2.2.2.2.2.2 78 51 rfl]
  exact clB_c fun i hi => by rw [m.2.2.2.2.1 _ (by have := m.1; omega), (k.2.2.2.2.2.2.2.1 i hi).1]
end LK
section QA
variable {F G : Nat} {S : St}
theorem beat_b (h : J2 S) {nn bs : Nat} (nb : NB S nn bs) {p w : Int32} (a1 : fN_isBeat F G S p = some w) (c : ¬ w = 0) : ∃ b, p = nI b ∧ b < bs := by
  obtain ⟨n1, b0, b2, n48, b46, d6, d0, dr, xl⟩ := nb
  unfold fN_isBeat at a1
  by_cases c1 : p < 0
  · rw [if_pos c1] at a1; exact absurd (Option.some.inj a1).symm c
  rw [if_neg c1, gd_t h.1.1.2.1.1, d0] at a1
  by_cases c2 : nI bs ≤ p
  · rw [if_pos c2] at a1; exact absurd (Option.some.inj a1).symm c
  have c1' := Int32.not_lt.mp c1
  rw [Int32.le_iff_toInt_le] at c1'
  rw [Int32.le_iff_toInt_le, nI_toInt (by omega)] at c2
  obtain ⟨b, e1, e2⟩ := iv_nat (x := p) (u := 12) ⟨c1', by omega⟩
  rw [e1, nI_toInt (by omega)] at c2
  exact ⟨b, e1, by omega⟩
theorem held_ok (hF : 100000 ≤ F) (hG : 20 ≤ G) (h : J2 S) (p q : Int32) : ∃ v S1 S2, fN_held F G S p q = some (v, S1) ∧ fM_held F G S1 p q = some (v, S2) ∧ J2 S2 := by
  obtain ⟨nn, bs, nb⟩ := h.nb
  obtain ⟨w, a1, -⟩ := beat_x (F := F) (G := G) (T := S) h.1 h.2.1 rfl p
  have hand : fN_isHand F G S q = fM_isHand F G S q := rfl
  have fin : ∀ S1, Inv S S1 → ∃ U, fM_fill F G S1 = some U ∧ MD S U nn bs ∧ Inv S U ∧ fM_isBeat F G U p = some w := fun S1 i => by
    obtain ⟨U, u1, u2, u3⟩ := fill_I (F := F) (G := G) hF hG nb i
    obtain ⟨w', a1', a2', -⟩ := beat_x (F := F) (G := G) (T := U) h.1 h.2.1 (u3.2.2.2 78 46 rfl) p
    rw [← Option.some.inj (a1.symm.trans a1')] at a2'
    exact ⟨U, u1, u2, u3, a2'⟩
  by_cases c1 : w = 0
  · obtain ⟨U, u1, u2, u3, u4⟩ := fin S (Inv.rf h.1.1)
    refine ⟨-1, S, U, ?_, ?_, h.q u3⟩
    · unfold fN_held; rw [a1, bd_some, if_pos c1]
    · unfold fM_held; rw [u1, bd_some, u4, bd_some, if_pos c1]
  obtain ⟨b, rfl, hb⟩ := beat_b h nb a1 c1
  by_cases c2 : q = 1 ∨ q = 2
  · obtain ⟨T, t1, t2, t3⟩ := look_I (F := F) (G := G) hF hG h nb
    obtain ⟨U, u1, u2, u3, u4⟩ := fin T t3
    have e1 : fN_isHand F G S q = some 1 := by
      unfold fN_isHand
      rcases c2 with c | c
      · rw [if_pos c]
      · rw [c, if_neg (by decide), if_pos rfl]
    have e2 : fM_isHand F G U q = some 1 := e1
    have e3 : fK_setOf F G T q = some (giv S nn q) := by
      unfold fK_setOf
      rcases c2 with c | c
      · rw [if_pos c, t2.2.2.2.2.1, c]
      · rw [c, if_neg (by decide), t2.2.2.2.2.2.1]
    refine ⟨giv S nn q &&& hdl S nn b, T, U, ?_, ?_, h.q u3⟩
    · unfold fN_held fK_heldBy
      rw [a1, bd_some, if_neg c1, e1, bd_some, if_neg (by decide), t1, bd_some, e3, bd_some, K_timelyAt t2.1 hb, bd_some, bd_some, t2.2.2.2.2.2.2.2.2 b hb]
    · unfold fM_held
      rw [u1, bd_some, u4, bd_some, if_neg c1, e2, bd_some, if_neg (by decide), u2.given hF, bd_some, gd_t (inB_nI (by have := u2.2.1; omega) (by decide)), nI_clamp (by have := u2.2.1; omega), u2.at hb]
  · have e1 : fN_isHand F G S q = some 0 := by
      unfold fN_isHand
      rw [if_neg (fun z => c2 (Or.inl z)), if_neg (fun z => c2 (Or.inr z))]
    obtain ⟨U, u1, u2, u3, u4⟩ := fin S (Inv.rf h.1.1)
    have e2 : fM_isHand F G U q = some 0 := e1
    refine ⟨-1, S, U, ?_, ?_, h.q u3⟩
    · unfold fN_held; rw [a1, bd_some, if_neg c1, e1, bd_some, if_pos rfl]
    · unfold fM_held; rw [u1, bd_some, u4, bd_some, if_neg c1, e2, bd_some, if_pos rfl]
theorem clash_ok (hF : 100000 ≤ F) (hG : 20 ≤ G) (h : J2 S) (p : Int32) : ∃ v S1 S2, fN_clash F G S p = some (v, S1) ∧ fM_clash F G S1 p = some (v, S2) ∧ J2 S2 := by
  obtain ⟨nn, bs, nb⟩ := h.nb
  obtain ⟨w, a1, -⟩ := beat_x (F := F) (G := G) (T := S) h.1 h.2.1 rfl p
  have fin : ∀ S1, Inv S S1 → ∃ U, fM_fill F G S1 = some U ∧ MD S U nn bs ∧ Inv S U ∧ fM_isBeat F G U p = some w := fun S1 i => by
    obtain ⟨U, u1, u2, u3⟩ := fill_I (F := F) (G := G) hF hG nb i
    obtain ⟨w', a1', a2', -⟩ := beat_x (F := F) (G := G) (T := U) h.1 h.2.1 (u3.2.2.2 78 46 rfl) p
    rw [← Option.some.inj (a1.symm.trans a1')] at a2'
    exact ⟨U, u1, u2, u3, a2'⟩
  by_cases c1 : w = 0
  · obtain ⟨U, u1, u2, u3, u4⟩ := fin S (Inv.rf h.1.1)
    refine ⟨-1, S, U, ?_, ?_, h.q u3⟩
    · unfold fN_clash; rw [a1, bd_some, if_pos c1]
    · unfold fM_clash; rw [u1, bd_some, u4, bd_some, if_pos c1]
  obtain ⟨b, rfl, hb⟩ := beat_b h nb a1 c1
  obtain ⟨T, t1, t2, t3⟩ := look_I (F := F) (G := G) hF hG h nb
  obtain ⟨U, u1, u2, u3, u4⟩ := fin T t3
  refine ⟨clK T nn (giv S nn 1) (giv S nn 2) b, T, U, ?_, ?_, h.q u3⟩
  · unfold fN_clash
    rw [a1, bd_some, if_neg c1, t1, bd_some, K_clashesAt hF t2.1 hb, bd_some, t2.2.2.2.2.1, t2.2.2.2.2.2.1]
  · unfold fM_clash
    rw [u1, bd_some, u4, bd_some, if_neg c1, u2.given hF, bd_some, u2.given hF, bd_some, M_clashBy u2.2.2.1 u2.1 (by omega) (by have := u2.2.1; omega), bd_some, u2.2.2.2.2.2.2 78 50 rfl, u2.2.2.2.2.2.2 78 49 rfl, ← cl_eq t2 u2 t2.2.1 hb]
    rfl
/-- all clashing beats, by any sets and a span -/
theorem beats_eq {C T U : St} {nn bs : Nat} (hF : 100000 ≤ F) (k : KD C T nn bs) (m : MD C U nn bs) : ∃ x, fK_clashingBeats F G T (T.1 57 5) (T.1 57 6) = some x ∧ fM_clashBeats F G U (U.1 78 49) = some x ∧ Sub x bs := by
  refine ⟨_, K_clashing hF k.1 _ _, ?_, Sub.mset (by have := m.2.1; omega)⟩
  rw [M_clashBeats m.2.2.1 m.1 m.2.2.2.1 m.2.1 (by omega), m.2.2.2.2.2.2 78 50 rfl, m.2.2.2.2.2.2 78 49 rfl]
  congr 1
  refine mset_cong fun b hb => ?_
  have g : ∀ q, mset (fun i => decide (U.1 101 i = q)) nn = giv C nn q := fun q => mset_cong fun i hi => by rw [m.2.2.2.2.1 i (by have := m.1; omega)]
  rw [g, g, cl_eq k m k.2.1 hb, k.2.2.2.2.1, k.2.2.2.2.2.1]
theorem clashes_J {C S S' : St} (hF : 100000 ≤ F) (hG : 20 ≤ G) (h : J2 C) (e2 : S.2.2 = C.2.2) (e : ∀ h k, h < 78 → scr h k = false → S.1 h k = C.1 h k) (i : Inv C S') : ∃ x T U, fN_clashes F G S = some (x, T) ∧ fM_clashes F G S' = some (x, U) := by
  obtain ⟨nn, bs, nb⟩ := h.nb
  obtain ⟨T, t1, t2, -, -⟩ := look_J (F := F) (G := G) hF h nb e2 e
  obtain ⟨U, u1, u2, u3⟩ := fill_I (F := F) (G := G) hF hG nb i
  obtain ⟨x, x1, x2, -⟩ := beats_eq (F := F) (G := G) hF t2 u2
  refine ⟨x, T, U, ?_, ?_⟩
  · unfold fN_clashes; rw [t1, bd_some, x1, bd_some]
  · unfold fM_clashes; rw [u1, bd_some, x2, bd_some]
theorem clashes_ok (hF : 100000 ≤ F) (hG : 20 ≤ G) (h : J2 S) : ∃ v S1 S2, fN_clashes F G S = some (v, S1) ∧ fM_clashes F G S1 = some (v, S2) ∧ J2 S2 := by
  obtain ⟨v, T, v1, -, vi⟩ := s_fN_clashes hF hG (Inv.rf h.1.1)
  obtain ⟨x, T', U, x1, x2⟩ := clashes_J (F := F) (G := G) (S := S) (S' := T) hF hG h rfl (fun _ _ _ _ => rfl) vi
  obtain ⟨u, U', y1, -, y2⟩ := s_fM_clashes hF hG vi
  obtain ⟨rfl, rfl⟩ := Prod.mk.inj (Option.some.inj (x1.symm.trans v1))
  obtain ⟨rfl, rfl⟩ := Prod.mk.inj (Option.some.inj (x2.symm.trans y1))
  exact ⟨x, _, _, x1, x2, h.q y2⟩
theorem give_ok (hF : 100000 ≤ F) (hG : 20 ≤ G) (h : J2 S) (p1 p2 : Int32) : ∃ v S1 S2, fN_give F G S p1 p2 = some (v, S1) ∧ fM_give F G S1 p1 p2 = some (v, S2) ∧ J2 S2 := by
  rcases give_3 (G := G) hF hG h p1 p2 with ⟨e1, e2⟩ | ⟨S1, v, S1c, S2, v', S2c, e1, e2, e3, e4, e5, e6, e7, e8, e9⟩
  · exact ⟨_, _, _, e1, e2, h⟩
  · obtain ⟨x, T, U, x1, x2⟩ := clashes_J (F := F) (G := G) (C := S2) (S := S1) (S' := S2) hF hG e6 (by rw [e8]) (fun h k q1 q2 => by rw [e9 h q1, e3.2.2.2 h k q2]) (Inv.rf e6.1.1)
    obtain ⟨rfl, -⟩ := Prod.mk.inj (Option.some.inj (x1.symm.trans e2))
    obtain ⟨rfl, -⟩ := Prod.mk.inj (Option.some.inj (x2.symm.trans e5))
    exact ⟨_, _, _, e1, e4, e7⟩
theorem law_ok2 (hF : 100000 ≤ F) (hG : 20 ≤ G) (h : J2 S) (p : Int32) : ∃ v S1 S2, fN_law F G S p = some (v, S1) ∧ fM_law F G S1 p = some (v, S2) ∧ J2 S2 := by
  obtain ⟨nn, bs, nb⟩ := h.nb
  obtain ⟨w, a1, a2, -⟩ := key_x (F := F) (G := G) (S := S) (T := S) p
  by_cases c1 : w = 0
  · refine ⟨-1, S, S, ?_, ?_, h⟩
    · unfold fN_law; rw [a1, bd_some, if_pos c1]
    · unfold fM_law; rw [a2, bd_some, if_pos c1]
  obtain ⟨T, t1, t2, t3⟩ := look_I (F := F) (G := G) hF hG h nb
  have t3' : Inv S (sI T 57 2 p) := t3.stN rfl rfl
  obtain ⟨U, u1, u2, u3⟩ := fill_I (F := F) (G := G) hF hG nb t3'
  have kb : KB (sI T 57 2 p) nn bs := t2.1
  have val := K_clashing (F := F) (G := G) hF kb ((sI T 57 2 p).1 57 5) ((sI T 57 2 p).1 57 6)
  have sub : Sub (mset (fun b => decide (¬ clK (sI T 57 2 p) nn ((sI T 57 2 p).1 57 5) ((sI T 57 2 p).1 57 6) b = 0)) bs) bs := Sub.mset (by have := u2.2.1; omega)
  have val2 : fM_clashBeats F G U p = some (mset (fun b => decide (¬ clK (sI T 57 2 p) nn ((sI T 57 2 p).1 57 5) ((sI T 57 2 p).1 57 6) b = 0)) bs) := by
    rw [M_clashBeats u2.2.2.1 u2.1 u2.2.2.2.1 u2.2.1 (by omega), u2.2.2.2.2.2.2 78 50 rfl]
    congr 1
    refine mset_cong fun b hb => ?_
    have g : ∀ q, mset (fun i => decide (U.1 101 i = q)) nn = giv S nn q := fun q => mset_cong fun i hi => by rw [u2.2.2.2.2.1 i (by have := u2.1; omega)]
    rw [g, g, show (sI T 57 2 p).1 57 5 = giv S nn 1 from t2.2.2.2.2.1, show (sI T 57 2 p).1 57 6 = giv S nn 2 from t2.2.2.2.2.2.1]
    have q : clM U nn (giv S nn 1) (giv S nn 2) (S.1 78 50) p b = clK (sI T 57 2 p) nn (giv S nn 1) (giv S nn 2) b := by
      unfold clM clK
      show clB _ _ _ _ _ _ _ _ _ = clB (fun i => T.1 58 i) nn (T.1 57 4) (T.1 57 3) p (giv S nn 1 &&& T.1 61 b) (giv S nn 2 &&& T.1 61 b) (giv S nn 1 &&& ahd (T.1 61) b) (giv S nn 2 &&& ahd (T.1 61) b)
      rw [KM_ahd t2 u2 hb, u2.at hb, t2.2.2.2.2.2.2.2.2 b hb, t2.2.2.1, t2.2.2.2.1, u2.2.2.2.2.2.2 78 51 rfl]
      exact clB_c fun i hi => by rw [u2.2.2.2.2.1 _ (by have := u2.1; omega), (t2.2.2.2.2.2.2.2.1 i hi).1]
    rw [q]
  generalize mset (fun b => decide (¬ clK (sI T 57 2 p) nn ((sI T 57 2 p).1 57 5) ((sI T 57 2 p).1 57 6) b = 0)) bs = x at val sub val2
  obtain ⟨w', a1', a2', -⟩ := key_x (F := F) (G := G) (S := S) (T := sI T 57 2 p) p
  rw [← Option.some.inj (a1.symm.trans a1')] at a2'
  refine ⟨nI (cnt (bt x) 12), sI T 57 2 p, U, ?_, ?_, h.q u3⟩
  · unfold fN_law
    rw [a1, bd_some, if_neg c1, t1, bd_some, lt_eq, val, bd_some, bc_Sub sub (by have := u2.2.1; omega), bd_some]
  · unfold fM_law
    rw [a2', bd_some, if_neg c1, u1, bd_some, val2, bd_some, M_members (by omega), bd_some]
end QA
