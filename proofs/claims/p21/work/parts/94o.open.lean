/-! WHAT STAYS OPEN TO AN EAR: open, lost, gaps; easier -/
theorem canP_iff {c : Nat → Int32} : ∀ n, canP c n = true ↔ ∀ b, b < n → c b = 0
  | 0 => ⟨fun _ b hb => by omega, fun _ => rfl⟩
  | n + 1 => by
    show (canP c n && decide (c n = 0)) = true ↔ _
    rw [Bool.and_eq_true, canP_iff n, decide_eq_true_eq]
    refine ⟨fun ⟨h1, h2⟩ b hb => ?_, fun h => ⟨fun b hb => h b (by omega), h n (by omega)⟩⟩
    by_cases z : b = n
    · rw [z]; exact h2
    · exact h1 b (by omega)
theorem high_max {key : Nat → Int32} {p : Nat → Bool} : ∀ n, (∀ i, i < n → p i = true → key i ≤ highF key p 0 n) ∧ (highF key p 0 n = 0 ∨ ∃ i, i < n ∧ p i = true ∧ highF key p 0 n = key i)
  | 0 => ⟨fun i hi => by omega, Or.inl rfl⟩
  | n + 1 => by
    obtain ⟨h1, h2⟩ := high_max (key := key) (p := p) n
    rw [highF]
    by_cases c : p n = true ∧ highF key p 0 n < key n
    · rw [if_pos c]
      refine ⟨fun i hi hp => ?_, Or.inr ⟨n, by omega, c.1, rfl⟩⟩
      by_cases z : i = n
      · rw [z]; exact Int32.le_refl _
      · exact Int32.le_trans (h1 i (by omega) hp) (Int32.le_of_lt c.2)
    · rw [if_neg c]
      refine ⟨fun i hi hp => ?_, ?_⟩
      · by_cases z : i = n
        · rw [z] at hp ⊢
          exact Int32.not_lt.mp (fun q => c ⟨hp, q⟩)
        · exact h1 i (by omega) hp
      · rcases h2 with e | ⟨i, i1, i2, i3⟩
        · exact Or.inl e
        · exact Or.inr ⟨i, by omega, i2, i3⟩
def ldC (C : St) (i : Nat) : Int32 := C.1 100 (30 + i)
/-- open, as the class has it -/
def opB (C : St) (nn b n : Nat) : Bool := bt (snd C nn b) n && decide (¬ C.1 78 52 < highF (ldC C) (bt (snd C nn b)) 0 nn - ldC C n)
def opc (C : St) (nn b n o : Nat) : Int32 := if bt (snd C nn b) o = true ∧ C.1 78 52 < ldC C o - ldC C n then 1 else 0
def tuB (C : St) (i : Nat) : Bool := decide (C.1 94 (C.1 95 i).toNatClampNeg = 2)
section OP
variable {F G : Nat} {C S T U V : St} {nn bs : Nat}
theorem NB.inv2 (nb : NB C nn bs) (h : J2 C) (i : Inv C T) : T.1 T.2.2.1 4 = C.1 78 52 ∧ (∀ j, j < nn → T.1 31 j = C.1 100 j ∧ T.1 34 j = ldC C j ∧ T.1 (T.2.2.1 + 5) j = nI (bgn C j) ∧ iv (ldC C j) 1 9) ∧ iv (C.1 78 52) 0 9 := by
  obtain ⟨n1, b0, b2, n48, b46, d6, d0, dr, xl⟩ := nb
  have sc := h.1.1.2.1.1
  have f := i.2.2.2
  obtain ⟨np, n', m, -, -, -, -, -, -, -, -, -, -, -, ⟨s4, s4'⟩, -⟩ := id h.2.1
  obtain ⟨-, -, dd⟩ := h.2.1.n n48 n1
  rw [i.2.2.1]
  refine ⟨?_, fun j hj => ⟨?_, ?_, ?_, ?_⟩, s4'⟩
  · rw [f C.2.2.1 4 (by rcases isSc_or sc with e | e <;> rw [e] <;> rfl)]; exact s4
  · rw [f 31 j rfl]
    have := xl.2.1 j (by omega) (by omega)
    rw [lo_0 (by omega)] at this; exact this
  · rw [f 34 j rfl]
    have := xl.2.1 (30 + j) (by omega) (by omega)
    rw [lo_3 (by omega)] at this; exact this
  · rw [f (C.2.2.1 + 5) j (by rcases isSc_or sc with e | e <;> rw [e] <;> rfl), (dd j hj).2.1]; exact (dr j hj).1
  · exact ((xl.1 (30 + j) (by omega)).1 (by omega)).2.2.2 (by omega)
theorem op_eq (he : iv (C.1 78 52) 0 9) (hl : ∀ j, j < nn → iv (ldC C j) 1 9) {b n : Nat} (hn : n < nn) : opB C nn b n = (bt (snd C nn b) n && canP (opc C nn b n) nn) := by
  unfold opB
  cases s : bt (snd C nn b) n
  · rfl
  rw [Bool.true_and, Bool.true_and, Bool.eq_iff_iff, decide_eq_true_eq, canP_iff]
  obtain ⟨m1, m2⟩ := high_max (key := ldC C) (p := bt (snd C nn b)) nn
  have ln := hl n hn
  have z0 : (0 : Int32).toInt = 0 := rfl
  have hi : iv (highF (ldC C) (bt (snd C nn b)) 0 nn) 0 9 := by
    rcases m2 with e | ⟨i, i1, i2, i3⟩
    · rw [e]; exact ⟨by decide, by decide⟩
    · rw [i3]; exact ⟨by have := (hl i i1).1; omega, (hl i i1).2⟩
  have sub : ∀ {x : Int32}, iv x 0 9 → (x - ldC C n).toInt = x.toInt - (ldC C n).toInt := fun {x} hx => by
    rw [Int32.toInt_sub, i32b (by have := hx.1; have := ln.2; omega) (by have := hx.2; have := ln.1; omega)]
  constructor
  · intro q o ho
    unfold opc
    refine if_neg fun ⟨w1, w2⟩ => q ?_
    have le := m1 o ho w1
    have lo := hl o ho
    rw [Int32.lt_iff_toInt_lt, sub ⟨by have := lo.1; omega, lo.2⟩] at w2
    rw [Int32.le_iff_toInt_le] at le
    rw [Int32.lt_iff_toInt_lt, sub hi]
    omega
  · intro q w
    rcases m2 with e | ⟨i, i1, i2, i3⟩
    · rw [e, Int32.lt_iff_toInt_lt, sub ⟨by decide, by decide⟩, z0] at w
      have := he.1; have := ln.1; omega
    · have := q i i1
      unfold opc at this
      rw [i3] at w
      rw [if_pos ⟨i2, w⟩] at this
      exact absurd this (by decide)
theorem N_openAt (hF : 100000 ≤ F) (k : KD C T nn bs) (i1 : isSc T.2.2.1 = true) (i2 : T.1 T.2.2.1 6 = nI nn) (i4 : T.1 T.2.2.1 4 = C.1 78 52) (i34 : ∀ j, j < nn → T.1 34 j = ldC C j) {b : Nat} (hb : b < bs) : fN_openAt F G T (nI b) = some (mset (opB C nn b) nn) := by
  have n10 := k.1.1
  unfold fN_openAt
  rw [K_sounding hF k hb, bd_some]
  have second : ∀ z, z = highF (ldC C) (bt (snd C nn b)) 0 nn → fx2 (b_N_openAt_62 F G T (snd C nn b) z) F 0 0 = some (mset (opB C nn b) nn) := fun z hz =>
    for_or (N := nn) (k := some) (by omega) (opB C nn b) (fun rec a => by unfold b_N_openAt_62; rw [gd_t i1, i2, if_pos (nI_le (Nat.le_refl nn) (by omega))]) (fun rec a i hi => by
      unfold b_N_openAt_62 opB
      rw [gd_t i1, i2, if_neg (nI_ge hi (by omega)), gd_t (inB_nI (by omega) (by decide)), nI_clamp (by omega), i4, i34 i hi, hz]
      simp only [lt_eq, nI_1]
      cases s : bt (snd C nn b) i
      · rw [if_pos ((bit_0 _ (by omega)).mpr s), Bool.false_and, if_neg (show ¬ false = true by decide), Int32.or_zero]
      · rw [if_neg (bit_n0 (by omega) s), Bool.true_and]
        by_cases c : C.1 78 52 < highF (ldC C) (bt (snd C nn b)) 0 nn - ldC C i
        · rw [if_pos c, decide_eq_false (fun q => q c), if_neg (show ¬ false = true by decide), Int32.or_zero]
        · rw [if_neg c, decide_eq_true c, if_pos rfl]) (by omega)
  refine Eq.trans (for_acc (N := nn) (k := fun v13 => fx2 (b_N_openAt_62 F G T (snd C nn b) v13) F (0 : Int32) (0 : Int32)) (by omega) (highF (ldC C) (bt (snd C nn b)) 0) (fun i a => if bt (snd C nn b) i = true ∧ a < ldC C i then ldC C i else a) (fun i _ => rfl) (fun rec a => by unfold b_N_openAt_14; rw [gd_t i1, i2, if_pos (nI_le (Nat.le_refl nn) (by omega))]) (fun rec a i hi => ?_) (by omega)) (second _ rfl)
  unfold b_N_openAt_14
  rw [gd_t i1, i2, if_neg (nI_ge hi (by omega)), gd_t (inB_nI (by omega) (by decide)), nI_clamp (by omega), i34 i hi]
  simp only [lt_eq, nI_1]
  cases s : bt (snd C nn b) i
  · rw [if_pos ((bit_0 _ (by omega)).mpr s), if_neg (fun q => absurd q.1 (by decide))]
  · rw [if_neg (bit_n0 (by omega) s)]
    by_cases c : a < ldC C i
    · rw [if_pos c, if_pos ⟨rfl, c⟩]
    · rw [if_neg c, if_neg (fun q => c q.2)]
theorem M_open1 (hF : 100000 ≤ F) (m : MD C V nn bs) {b n : Nat} (hb : b < bs) (hn : n < nn) (v : V.1 103 b = snd C nn b) (z2 : Int32) (kk : Int32 → Option Int32) : ∀ r o f, nn - o = r → o ≤ nn → r < f → fx2 (b_M_openAt_36 F G V (nI b) z2 (nI n) kk) f (b2i (canP (opc C nn b n) o)) (nI o) = kk (b2i (canP (opc C nn b n) nn)) := by
  have n10 := m.1
  have b12 := m.2.1
  intro r
  induction r with
  | zero =>
    intro o f hr ho hf
    obtain ⟨g, rfl⟩ : ∃ g, f = g + 1 := ⟨f - 1, by omega⟩
    have e : o = nn := by omega
    subst e
    rw [fx2_s]
    unfold b_M_openAt_36
    rw [m.2.2.1, if_pos (nI_le (Nat.le_refl o) (by omega))]
  | succ r ih =>
    intro o f hr ho hf
    obtain ⟨g, rfl⟩ : ∃ g, f = g + 1 := ⟨f - 1, by omega⟩
    have ih' := ih (o + 1) g (by omega) (by omega) (by omega)
    rw [fx2_s]
    generalize fx2 (b_M_openAt_36 F G V (nI b) z2 (nI n) kk) g = rec at ih' ⊢
    unfold b_M_openAt_36
    rw [m.2.2.1, if_neg (nI_ge (show o < nn by omega) (by omega))]
    cases cv : canP (opc C nn b n) o
    · have t := canP_up (c := opc C nn b n) (a := o) cv (nn - o)
      rw [show o + (nn - o) = nn by omega] at t
      rw [if_pos (show b2i false = 0 from rfl), t]
    · have st : canP (opc C nn b n) (o + 1) = decide (opc C nn b n o = 0) := by
        show (canP _ o && _) = _
        rw [cv, Bool.true_and]
      rw [st] at ih'
      rw [if_neg (show ¬ b2i true = 0 by decide), gd_t (inB_nI (by omega) (by decide)), nI_clamp (n := b) (by omega), v, show (30 : Int32) = nI 30 from rfl, ten_add, ten_add, gd_t (inB_nI (by omega) (by decide)), gd_t (inB_nI (by omega) (by decide)), nI_clamp (by omega), nI_clamp (by omega), m.2.2.2.2.1 (30 + o) (by omega), m.2.2.2.2.1 (30 + n) (by omega), m.2.2.2.2.2.2 78 52 rfl]
      simp only [lt_eq, nI_1]
      cases s : bt (snd C nn b) o
      · have e : opc C nn b n o = 0 := if_neg fun q => by rw [s] at q; exact absurd q.1 (by decide)
        rw [decide_eq_true e] at ih'
        rw [if_pos ((bit_0 _ (by omega)).mpr s)]; exact ih'
      · rw [if_neg (bit_n0 (by omega) s)]
        by_cases c : C.1 78 52 < C.1 100 (30 + o) - C.1 100 (30 + n)
        · have e : ¬ opc C nn b n o = 0 := by
            unfold opc
            rw [if_pos ⟨s, c⟩]; decide
          rw [decide_eq_false e] at ih'
          rw [if_pos c]; exact ih'
        · have e : opc C nn b n o = 0 := if_neg fun q => c q.2
          rw [decide_eq_true e] at ih'
          rw [if_neg c]; exact ih'
theorem M_openAt (hF : 100000 ≤ F) (he : iv (C.1 78 52) 0 9) (hl : ∀ j, j < nn → iv (ldC C j) 1 9) (m : MD C V nn bs) {b : Nat} (hb : b < bs) (v : V.1 103 b = snd C nn b) : fM_openAt F G V (nI b) = some (mset (opB C nn b) nn) := by
  have n10 := m.1
  have b12 := m.2.1
  unfold fM_openAt
  refine for_or (N := nn) (k := some) (by omega) (opB C nn b) (fun rec a => by unfold b_M_openAt_4; rw [m.2.2.1, if_pos (nI_le (Nat.le_refl nn) (by omega))]) (fun rec a n hn => ?_) (by omega)
  have j : ∀ x : Bool, j_M_openAt_104 F G V (nI b) rec V a (nI n) (b2i x) = rec (a ||| (if x then 1 <<< (nI n &&& 31) else 0)) (nI (n + 1)) := fun x => by
    unfold j_M_openAt_104
    rw [M_truth, bd_some, lt_eq, lt_eq, nI_1]
    cases x
    · rw [if_pos (show b2i false = 0 from rfl), sh_0 (by omega)]; rfl
    · rw [if_neg (show ¬ b2i true = 0 by decide)]; rfl
  rw [op_eq he hl hn]
  unfold b_M_openAt_4
  rw [m.2.2.1, if_neg (nI_ge hn (by omega)), gd_t (inB_nI (by omega) (by decide)), nI_clamp (n := b) (by omega), v]
  cases s : bt (snd C nn b) n
  · rw [if_neg (bit_n1 (by omega) s), Bool.false_and]
    obtain ⟨F', hF'⟩ : ∃ F', F = F' + 1 := ⟨F - 1, by omega⟩
    have one : ∀ f, f = F' + 1 → fx2 (b_M_openAt_36 F G V (nI b) a (nI n) (fun v17 => j_M_openAt_104 F G V (nI b) rec V a (nI n) v17)) f 0 0 = j_M_openAt_104 F G V (nI b) rec V a (nI n) (b2i false) := by
      rintro _ rfl
      rw [fx2_s]
      unfold b_M_openAt_36
      rw [m.2.2.1, if_neg (show ¬ nI nn ≤ 0 from nI_ge (a := 0) (b := nn) (by omega) (by omega)), if_pos rfl]
      rfl
    exact (one F hF').trans (j false)
  · rw [if_pos ((bit_1 _ (by omega)).mpr s), Bool.true_and]
    exact (M_open1 hF m hb hn v a (fun v18 => j_M_openAt_104 F G V (nI b) rec V a (nI n) v18) nn 0 F rfl (by omega) (by omega)).trans (j _)
theorem open_ok (hF : 100000 ≤ F) (hG : 20 ≤ G) (h : J2 S) (p : Int32) : ∃ v S1 S2, fN_open F G S p = some (v, S1) ∧ fM_open F G S1 p = some (v, S2) ∧ J2 S2 := by
  obtain ⟨nn, bs, nb⟩ := h.nb
  obtain ⟨w, a1, a2, -⟩ := beat_x (F := F) (G := G) (T := S) h.1 h.2.1 rfl p
  by_cases c1 : w = 0
  · refine ⟨-1, S, S, ?_, ?_, h⟩
    · unfold fN_open; rw [a1, bd_some, if_pos c1]
    · unfold fM_open; rw [a2, bd_some, if_pos c1]
  obtain ⟨b, rfl, hb⟩ := beat_b h nb a1 c1
  obtain ⟨T, t1, t2, t3⟩ := look_I (F := F) (G := G) hF hG h nb
  obtain ⟨U, u1, u2, u3⟩ := fill_I (F := F) (G := G) hF hG nb t3
  obtain ⟨V, v1, v2, v3, v4⟩ := sound_I (F := F) (G := G) hF hG u2 u3
  obtain ⟨w', a1', a2', -⟩ := beat_x (F := F) (G := G) (T := T) h.1 h.2.1 (t3.2.2.2 78 46 rfl) (nI b)
  rw [← Option.some.inj (a1.symm.trans a1')] at a2'
  obtain ⟨i1, i2, i3, -, -⟩ := nb.inv h t3
  obtain ⟨i4, i5, i6⟩ := nb.inv2 h t3
  refine ⟨mset (opB S nn b) nn, T, V, ?_, ?_, h.q v4⟩
  · unfold fN_open
    rw [a1, bd_some, if_neg c1, t1, bd_some, N_openAt hF t2 i1 i2 i4 (fun j hj => (i5 j hj).2.1) hb, bd_some]
  · unfold fM_open
    rw [a2', bd_some, if_neg c1, u1, bd_some, v1, bd_some, M_openAt hF i6 (fun j hj => (i5 j hj).2.2.2) v3 hb (v2 b hb), bd_some]
/-! lost and gaps -/
theorem role_x (h : J2 C) (nb : NB C nn bs) (i : Inv C T) {n : Nat} (hn : n < nn) : fS_roleOf F G T T.2.2.1 (nI n) = some (C.1 94 (C.1 95 n).toNatClampNeg) ∧ inB (C.1 95 n) 4 = true ∧ ∃ p, C.1 95 n = nI p ∧ p < 4 := by
  obtain ⟨n1, b0, b2, n48, b46, d6, d0, dr, xl⟩ := nb
  have sc := h.1.1.2.1.1
  have f := i.2.2.2
  obtain ⟨np, n', m, np4, nn', -, e5, e47, e6, e48, -, -, -, -, -, ro, no, -⟩ := id h.2.1
  have en : n' = nn := (nI_eq (a := n') (b := nn) (by omega) (by omega)).mp (e48.symm.trans n48)
  subst en
  obtain ⟨q1, q2, -⟩ := no n hn
  obtain ⟨p, p1, p2⟩ := iv_nat (x := C.1 95 n) (u := 3) ⟨q2.1, by have := q2.2; omega⟩
  have pn : p < np := by
    have := q2.2
    rw [p1, nI_toInt (by omega)] at this; omega
  have fo : ∀ j k, j ≤ 8 → T.1 (C.2.2.1 + j) k = C.1 (C.2.2.1 + j) k := fun j k q => f _ k (by
    rw [Bool.eq_false_iff]; intro z
    have := isSc_or sc
    simp only [scr, Bool.or_eq_true, Bool.and_eq_true, beq_iff_eq, Nat.ble_eq] at z
    omega)
  have fo0 : ∀ k, T.1 C.2.2.1 k = C.1 C.2.2.1 k := fun k => fo 0 k (by omega)
  refine ⟨?_, by rw [p1]; exact inB_nI (by omega) (by decide), p, p1, by omega⟩
  rw [i.2.2.1]
  unfold fS_roleOf j_S_roleOf_22
  rw [gd_t sc, if_neg (nI_nn (by omega)), fo0, d6, if_neg (nI_ge hn (by omega)), gd_t (inB_nI (by omega) (by decide)), nI_clamp (n := n) (by omega), fo 4 n (by omega), q1, p1, if_neg (nI_nn (by omega)), fo0, e5, if_neg (nI_ge pn (by omega)), gd_t (inB_nI (by omega) (by decide)), nI_clamp (n := p) (by omega), fo 2 p (by omega), (ro p pn).1]
theorem M_tunes (hF : 100000 ≤ F) (h : J2 C) (nb : NB C nn bs) (i : Inv C V) : fM_tunes F G V = some (mset (tuB C) nn) := by
  have n10 := nb.1
  have f := i.2.2.2
  have v48 : V.1 78 48 = nI nn := (f 78 48 rfl).trans nb.2.2.2.1
  unfold fM_tunes
  refine for_or (N := nn) (k := some) (by omega) (tuB C) (fun rec a => by unfold b_M_tunes_4; rw [v48, if_pos (nI_le (Nat.le_refl nn) (by omega))]) (fun rec a n hn => ?_) (by omega)
  obtain ⟨-, r2, -⟩ := role_x (F := F) (G := G) h nb i hn
  unfold b_M_tunes_4 j_M_tunes_33 tuB
  rw [v48, if_neg (nI_ge hn (by omega)), gd_t (inB_nI (by omega) (by decide)), nI_clamp (by omega), f 95 n rfl, gd_t r2, f 94 _ rfl, M_truth, bd_some, M_truth, bd_some]
  simp only [lt_eq, nI_1]
  by_cases c : C.1 94 (C.1 95 n).toNatClampNeg = 2
  · rw [if_pos c, decide_eq_true c, if_neg (show ¬ (1 : Int32) = 0 by decide), if_pos rfl]
  · rw [if_neg c, decide_eq_false c, if_pos trivial, sh_0 (by omega), if_neg (show ¬ false = true by decide)]
theorem and_one {x : Int32} {n : Nat} (hn : n < 32) : (x &&& ((1 : Int32) <<< (nI n &&& 31)) = 0) ↔ bt x n = false := by
  constructor
  · intro e
    have t := congrArg (fun v => bt v n) e
    simp only [bt_and, bt_one hn hn, bt_0] at t
    simpa using t
  · intro e
    apply bt_ext
    intro i hi
    rw [bt_and, bt_one hn hi, bt_0]
    by_cases z : i = n
    · rw [z, e]; rfl
    · rw [decide_eq_false z, Bool.and_false]
def lsB (C : St) (nn i : Nat) : Bool := tuB C i && (!decide (C.1 100 i = 0) && !opB C nn (bgn C i) i)
theorem lost_ok (hF : 100000 ≤ F) (hG : 20 ≤ G) (h : J2 S) : ∃ v S1 S2, fN_lost F G S = some (v, S1) ∧ fM_lost F G S1 = some (v, S2) ∧ J2 S2 := by
  obtain ⟨nn, bs, nb⟩ := h.nb
  obtain ⟨T, t1, t2, t3⟩ := look_I (F := F) (G := G) hF hG h nb
  obtain ⟨U, u1, u2, u3⟩ := fill_I (F := F) (G := G) hF hG nb t3
  obtain ⟨V, v1, v2, v3, v4⟩ := sound_I (F := F) (G := G) hF hG u2 u3
  obtain ⟨i1, i2, i3, -, -⟩ := nb.inv h t3
  obtain ⟨i4, i5, i6⟩ := nb.inv2 h t3
  have n10 := nb.1
  have bs12 := nb.2.2.1
  have dr := nb.2.2.2.2.2.2.2.1
  have opb : ∀ {n : Nat}, n < nn → bt (mset (opB S nn (bgn S n)) nn) n = opB S nn (bgn S n) n := fun {n} hn => by
    rw [bt_mset _ (by omega) (by omega), decide_eq_true hn, Bool.true_and]
  refine ⟨mset (lsB S nn) nn, T, V, ?_, ?_, h.q v4⟩
  · unfold fN_lost
    rw [t1, bd_some]
    refine for_or (N := nn) (k := fun x => some (x, T)) (by omega) (lsB S nn) (fun rec a => by unfold b_N_lost_8; rw [gd_t i1, i2, if_pos (nI_le (Nat.le_refl nn) (by omega))]) (fun rec a n hn => ?_) (by omega)
    obtain ⟨r1, -, -⟩ := role_x (F := F) (G := G) h nb t3 hn
    have g10 : inB (nI n) 10 = true := inB_nI (by omega) (by decide)
    unfold b_N_lost_8 j_N_lost_47 j_N_lost_48 lsB tuB
    rw [gd_t i1, i2, if_neg (nI_ge hn (by omega)), r1, bd_some]
    simp only [gd_t g10, gd_t i1, nI_clamp (show n < 2 ^ 31 by omega), (i5 n hn).1, (i5 n hn).2.2.1, N_openAt (F := F) (G := G) hF t2 i1 i2 i4 (fun j hj => (i5 j hj).2.1) (dr n hn).2.1, bd_some, lt_eq, nI_1]
    have oz : ¬ (1 : Int32) = 0 := by decide
    by_cases c1 : S.1 94 (S.1 95 n).toNatClampNeg = 2
    · rw [if_pos c1, decide_eq_true c1, Bool.true_and]
      by_cases c2 : S.1 100 n = 0
      · rw [if_pos c2, if_pos trivial, decide_eq_true c2, Bool.not_true, Bool.false_and, if_neg (show ¬ false = true by decide), Int32.or_zero]
      · rw [if_neg c2, if_neg oz, decide_eq_false c2, Bool.not_false, Bool.true_and]
        cases o : opB S nn (bgn S n) n
        · rw [if_pos ((bit_0 _ (by omega)).mpr ((opb hn).trans o)), if_pos (show (!false) = true from rfl)]
        · rw [if_neg (bit_n0 (by omega) ((opb hn).trans o)), if_neg (show ¬ (!true) = true by decide), Int32.or_zero]
    · rw [if_neg c1, if_pos trivial, decide_eq_false c1, Bool.false_and, if_neg (show ¬ false = true by decide), Int32.or_zero]
  · unfold fM_lost
    rw [u1, bd_some, v1, bd_some]
    have fv := v4.2.2.2
    refine for_or (N := nn) (k := fun x => some (x, V)) (by omega) (lsB S nn) (fun rec a => by unfold b_M_lost_12; rw [v3.2.2.1, if_pos (nI_le (Nat.le_refl nn) (by omega))]) (fun rec a n hn => ?_) (by omega)
    unfold b_M_lost_12 j_M_lost_58
    rw [v3.2.2.1, if_neg (nI_ge hn (by omega)), M_tunes hF h nb v4, bd_some, v3.given hF, bd_some, gd_t (inB_nI (by omega) (by decide)), nI_clamp (by omega), fv 96 n rfl, (dr n hn).1, M_openAt hF i6 (fun j hj => (i5 j hj).2.2.2) v3 (dr n hn).2.1 (v2 _ (dr n hn).2.1), bd_some, M_truth, bd_some, M_truth, bd_some]
    simp only [lt_eq, nI_1]
    have val : bt ((mset (tuB S) nn &&& (giv S nn 0 ^^^ (-1))) &&& (mset (opB S nn (bgn S n)) nn ^^^ (-1))) n = lsB S nn n := by
      rw [bt_and, bt_and, bt_not _ (by omega), bt_not _ (by omega), opb hn]
      unfold giv lsB
      rw [bt_mset _ (by omega) (by omega), bt_mset _ (by omega) (by omega), decide_eq_true hn, Bool.true_and, Bool.true_and, Bool.and_assoc]
    cases o : lsB S nn n
    · rw [if_pos ((and_one (by omega)).mpr (val.trans o)), if_pos trivial, sh_0 (by omega), if_neg (show ¬ false = true by decide)]
    · rw [if_neg (fun z => by rw [(and_one (by omega)).mp z, o] at val; exact absurd val (by decide)), if_neg (show ¬ (1 : Int32) = 0 by decide), if_pos rfl]
theorem gaps_ok (hF : 100000 ≤ F) (hG : 20 ≤ G) (h : J2 S) : ∃ v S1 S2, fN_gaps F G S = some (v, S1) ∧ fM_gaps F G S1 = some (v, S2) ∧ J2 S2 := by
  obtain ⟨nn, bs, nb⟩ := h.nb
  obtain ⟨T, t1, t2, t3⟩ := look_I (F := F) (G := G) hF hG h nb
  obtain ⟨U, u1, u2, u3⟩ := fill_I (F := F) (G := G) hF hG nb t3
  obtain ⟨V, v1, v2, v3, v4⟩ := sound_I (F := F) (G := G) hF hG u2 u3
  obtain ⟨i1, i2, i3, -, -⟩ := nb.inv h t3
  have n10 := nb.1
  have bs12 := nb.2.2.1
  refine ⟨mset (fun b => decide (snd S nn b &&& mset (tuB S) nn = 0)) bs, T, V, ?_, ?_, h.q v4⟩
  · unfold fN_gaps
    rw [t1, bd_some]
    have second : fx2 (b_N_gaps_47 F G T (mset (tuB S) nn)) F 0 0 = some (mset (fun b => decide (snd S nn b &&& mset (tuB S) nn = 0)) bs, T) :=
      for_or (N := bs) (k := fun x => some (x, T)) (by omega) (fun b => decide (snd S nn b &&& mset (tuB S) nn = 0)) (fun rec a => by unfold b_N_gaps_47; rw [gd_t i1, i3, if_pos (nI_le (Nat.le_refl bs) (by omega))]) (fun rec a b hb => by
        unfold b_N_gaps_47
        rw [gd_t i1, i3, if_neg (nI_ge hb (by omega)), K_sounding hF t2 hb, bd_some]
        simp only [lt_eq, nI_1]
        by_cases c : snd S nn b &&& mset (tuB S) nn = 0
        · rw [if_pos c, decide_eq_true c, if_pos rfl]
        · rw [if_neg c, decide_eq_false c, if_neg (show ¬ false = true by decide), Int32.or_zero]) (by omega)
    refine Eq.trans (for_or (N := nn) (k := fun v14 => fx2 (b_N_gaps_47 F G T v14) F (0 : Int32) (0 : Int32)) (by omega) (tuB S) (fun rec a => by unfold b_N_gaps_8; rw [gd_t i1, i2, if_pos (nI_le (Nat.le_refl nn) (by omega))]) (fun rec a n hn => ?_) (by omega)) second
    obtain ⟨r1, -, -⟩ := role_x (F := F) (G := G) h nb t3 hn
    unfold b_N_gaps_8 tuB
    rw [gd_t i1, i2, if_neg (nI_ge hn (by omega)), r1, bd_some]
    simp only [lt_eq, nI_1]
    by_cases c1 : S.1 94 (S.1 95 n).toNatClampNeg = 2
    · rw [if_pos c1, decide_eq_true c1, if_pos rfl]
    · rw [if_neg c1, decide_eq_false c1, if_neg (show ¬ false = true by decide), Int32.or_zero]
  · unfold fM_gaps
    rw [u1, bd_some, v1, bd_some]
    refine for_or (N := bs) (k := fun x => some (x, V)) (by omega) (fun b => decide (snd S nn b &&& mset (tuB S) nn = 0)) (fun rec a => by unfold b_M_gaps_12; rw [v3.2.2.2.1, if_pos (nI_le (Nat.le_refl bs) (by omega))]) (fun rec a b hb => ?_) (by omega)
    unfold b_M_gaps_12 j_M_gaps_40
    rw [v3.2.2.2.1, if_neg (nI_ge hb (by omega)), gd_t (inB_nI (by omega) (by decide)), M_tunes hF h nb v4, bd_some, nI_clamp (by omega), v2 b hb, M_truth, bd_some, M_truth, bd_some]
    simp only [lt_eq, nI_1]
    by_cases c : snd S nn b &&& mset (tuB S) nn = 0
    · rw [if_pos c, decide_eq_true c, if_neg (show ¬ (1 : Int32) = 0 by decide), if_pos rfl]
    · rw [if_neg c, decide_eq_false c, if_pos trivial, sh_0 (by omega), if_neg (show ¬ false = true by decide)]
/-! easier -/
theorem clB_f {key key' : Nat → Int32} {n : Nat} {leap fing span l r la ra : Int32} (h : ∀ i, i < n → key i = key' i) : clB key n leap fing span l r la ra = clB key' n leap fing span l r la ra := clB_c h
theorem easier_ok (hF : 100000 ≤ F) (hG : 20 ≤ G) (h : J2 S) (p : Int32) : ∃ v S1 S2, fN_easier F G S p = some (v, S1) ∧ fM_easier F G S1 p = some (v, S2) ∧ J2 S2 := by
  obtain ⟨nn, bs, nb⟩ := h.nb
  have n10 := nb.1
  have bs12 := nb.2.2.1
  have n48 := nb.2.2.2.1
  obtain ⟨w, a1, a2, -, a4⟩ := note_x (F := F) (G := G) (T := S) h.1 h.2.1 rfl p
  by_cases c1 : w = 0
  · refine ⟨-1, S, S, ?_, ?_, h⟩
    · unfold fN_easier; rw [a1, bd_some, if_pos c1]
    · unfold fM_easier; rw [a2, bd_some, if_pos c1]
  obtain ⟨n, rfl, hn, hn10⟩ := a4 c1
  have hnn : n < nn := by rw [n48, nI_toInt (by omega)] at hn; omega
  have c31 := (h.c4.2 n hn).1
  by_cases c2 : S.1 100 n = 0
  · refine ⟨-1, S, S, ?_, ?_, h⟩
    · unfold fN_easier; rw [a1, bd_some, if_neg c1, gd_t (inB_nI hn10 (by decide)), nI_clamp (by omega), if_pos (c31.trans c2)]
    · unfold fM_easier; rw [a2, bd_some, if_neg c1, gd_t (inB_nI (by omega) (by decide)), nI_clamp (by omega), if_pos c2]
  obtain ⟨T, t1, t2, t3⟩ := look_I (F := F) (G := G) hF hG h nb
  obtain ⟨U, u1, u2, u3⟩ := fill_I (F := F) (G := G) hF hG nb t3
  obtain ⟨x, x1, x2, x3⟩ := beats_eq (F := F) (G := G) hF t2 u2
  obtain ⟨w', a1', a2', -⟩ := note_x (F := F) (G := G) (T := T) h.1 h.2.1 (t3.2.2.2 78 48 rfl) (nI n)
  rw [← Option.some.inj (a1.symm.trans a1')] at a2'
  have fu := u3.2.2.2
  have u3' : Inv S (sI U 101 n 0) := u3.stN rfl rfl
  have less : ∀ q : Int32, ¬ q = 0 → mset (fun i => decide ((sI U 101 n 0).1 101 i = q)) nn = giv S nn q &&& (((1 : Int32) <<< (nI n &&& 31)) ^^^ (-1)) := fun q hq => by
    apply bt_ext
    intro i hi
    unfold giv
    rw [bt_and, bt_not _ hi, bt_one (by omega) hi, bt_mset _ (by omega) hi, bt_mset _ (by omega) hi]
    by_cases z : i < nn
    · rw [sI_at]
      by_cases y : i = n
      · rw [if_pos ⟨rfl, y⟩, decide_eq_true y, decide_eq_false (show ¬ (0 : Int32) = q from fun e => hq e.symm), Bool.not_true, Bool.and_false, Bool.and_false]
      · rw [if_neg (fun e => y e.2), decide_eq_false y, Bool.not_false, Bool.and_true, u2.2.2.2.2.1 i (by omega)]
    · rw [decide_eq_false z, Bool.false_and, Bool.false_and, Bool.false_and]
  have k2 := K_clashing (F := F) (G := G) hF t2.1 (T.1 57 5 &&& (((1 : Int32) <<< (nI n &&& 31)) ^^^ (-1))) (T.1 57 6 &&& (((1 : Int32) <<< (nI n &&& 31)) ^^^ (-1)))
  have m2 : fM_clashBeats F G (sI U 101 n 0) ((sI U 101 n 0).1 78 49) = some (mset (fun b => decide (¬ clK T nn (T.1 57 5 &&& (((1 : Int32) <<< (nI n &&& 31)) ^^^ (-1))) (T.1 57 6 &&& (((1 : Int32) <<< (nI n &&& 31)) ^^^ (-1))) b = 0)) bs) := by
    rw [M_clashBeats (n := nn) (bs := bs) (by rw [sI_row (by omega)]; exact u2.2.2.1) n10 (by rw [sI_row (by omega)]; exact u2.2.2.2.1) bs12 (by omega), less 1 (by decide), less 2 (by decide)]
    congr 1
    refine mset_cong fun b hb => ?_
    have r78 : ∀ k, (sI U 101 n 0).1 78 k = U.1 78 k := fun k => by rw [sI_row (by omega)]
    have r102 : (sI U 101 n 0).1 102 = U.1 102 := sI_row (by omega)
    have e : clM (sI U 101 n 0) nn (giv S nn 1 &&& (((1 : Int32) <<< (nI n &&& 31)) ^^^ (-1))) (giv S nn 2 &&& (((1 : Int32) <<< (nI n &&& 31)) ^^^ (-1))) ((sI U 101 n 0).1 78 50) ((sI U 101 n 0).1 78 49) b = clM U nn (giv S nn 1 &&& (((1 : Int32) <<< (nI n &&& 31)) ^^^ (-1))) (giv S nn 2 &&& (((1 : Int32) <<< (nI n &&& 31)) ^^^ (-1))) (S.1 78 50) (S.1 78 49) b := by
      unfold clM
      rw [r78, r78, r78, r102, fu 78 50 rfl, fu 78 49 rfl]
      exact clB_f fun i hi => by rw [sI_at, if_neg (by omega)]
    rw [e, cl_eq t2 u2 t2.2.1 hb, t2.2.2.2.2.1, t2.2.2.2.2.2.1]
  generalize mset (fun b => decide (¬ clK T nn (T.1 57 5 &&& (((1 : Int32) <<< (nI n &&& 31)) ^^^ (-1))) (T.1 57 6 &&& (((1 : Int32) <<< (nI n &&& 31)) ^^^ (-1))) b = 0)) bs = x' at k2 m2
  have x3' : Sub x' bs := by
    obtain ⟨x'', e1⟩ : ∃ x'', x'' = x' := ⟨x', rfl⟩
    have := K_clashing (F := F) (G := G) hF t2.1 (T.1 57 5 &&& (((1 : Int32) <<< (nI n &&& 31)) ^^^ (-1))) (T.1 57 6 &&& (((1 : Int32) <<< (nI n &&& 31)) ^^^ (-1)))
    rw [Option.some.inj (k2.symm.trans this)]
    exact Sub.mset (by omega)
  refine ⟨nI (cnt (bt x) 12) - nI (cnt (bt x') 12), T, sI U 101 n 0, ?_, ?_, h.q u3'⟩
  · unfold fN_easier
    rw [a1, bd_some, if_neg c1, gd_t (inB_nI hn10 (by decide)), nI_clamp (by omega), if_neg (fun z => c2 (c31.symm.trans z)), t1, bd_some, lt_eq, x1, bd_some, k2, bd_some, bc_Sub x3 bs12, bd_some, bc_Sub x3' bs12, bd_some]
  · unfold fM_easier fM_clashes
    rw [a2', bd_some, if_neg c1, gd_t (inB_nI (by omega) (by decide)), nI_clamp (by omega), t3.2.2.2 100 n rfl, if_neg c2, u1, bd_some, x2, bd_some, bd2_some, M_members (by omega), bd_some, gd_t (inB_nI (by omega) (by decide)), lt_eq, m2, bd_some, M_members (by omega), bd_some]
end OP
