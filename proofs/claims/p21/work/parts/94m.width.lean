/-! HOW WIDE, HOW FAR, HOW FULL: spread, leaps, thickest, busiest -/
/-- a loop whose accumulator is known at each index -/
theorem for_g {R : Type} {body : (Int32 → Int32 → Option R) → Int32 → Int32 → Option R} {N i0 : Nat} {k : Int32 → Option R} (g : Nat → Int32) (he : ∀ rec, body rec (g N) (nI N) = k (g N)) (hs : ∀ rec i, i0 ≤ i → i < N → body rec (g i) (nI i) = rec (g (i + 1)) (nI (i + 1))) : ∀ r i f, N - i = r → i0 ≤ i → i ≤ N → r < f → fx2 body f (g i) (nI i) = k (g N) := by
  intro r
  induction r with
  | zero =>
    intro i f hr h0 hi hf
    obtain ⟨q, rfl⟩ : ∃ q, f = q + 1 := ⟨f - 1, by omega⟩
    have e : i = N := by omega
    subst e
    rw [fx2_s]; exact he _
  | succ r ih =>
    intro i f hr h0 hi hf
    obtain ⟨q, rfl⟩ : ∃ q, f = q + 1 := ⟨f - 1, by omega⟩
    rw [fx2_s, hs _ i h0 (by omega)]
    exact ih (i + 1) q (by omega) (by omega) (by omega) (by omega)
def mxF (w : Nat → Int32) : Nat → Int32
  | 0 => 0
  | n + 1 => if mxF w n < w n then w n else mxF w n
theorem mxF_nn {w : Nat → Int32} : ∀ n, ¬ mxF w n < 0
  | 0 => by show ¬ (0 : Int32) < 0; decide
  | n + 1 => by
    have := mxF_nn (w := w) n
    rw [mxF]
    split
    · next c =>
      rw [Int32.lt_iff_toInt_lt] at c this ⊢
      have z : (0 : Int32).toInt = 0 := rfl
      omega
    · exact this
theorem mx_0 {w : Nat → Int32} {n : Nat} (h : w n = 0) : mxF w (n + 1) = mxF w n := by
  rw [mxF, h, if_neg (mxF_nn n)]
theorem mx_M {w : Nat → Int32} {n : Nat} : maxI (mxF w n) (w n) = mxF w (n + 1) := by
  unfold maxI
  rw [mxF]
  by_cases c : mxF w n < w n
  · rw [if_pos c, if_pos (Int32.le_of_lt c)]
  · rw [if_neg c]
    by_cases d : mxF w n ≤ w n
    · rw [if_pos d]
      apply Int32.toInt_inj.mp
      rw [Int32.lt_iff_toInt_lt] at c
      rw [Int32.le_iff_toInt_le] at d
      omega
    · rw [if_neg d]
section WD
variable {F G : Nat} {C S T U : St} {nn bs : Nat}
theorem NB.inv (nb : NB C nn bs) (h : J2 C) (i : Inv C T) : isSc T.2.2.1 = true ∧ T.1 T.2.2.1 6 = nI nn ∧ T.1 T.2.2.1 0 = nI bs ∧ T.1 78 48 = nI nn ∧ T.1 78 46 = nI bs := by
  obtain ⟨n1, b0, b2, n48, b46, d6, d0, dr, xl⟩ := nb
  have sc := h.1.1.2.1.1
  have f := i.2.2.2
  rw [i.2.2.1]
  refine ⟨sc, ?_, ?_, (f 78 48 rfl).trans n48, (f 78 46 rfl).trans b46⟩
  · rw [f C.2.2.1 6 (by rcases isSc_or sc with e | e <;> rw [e] <;> rfl)]; exact d6
  · rw [f C.2.2.1 0 (by rcases isSc_or sc with e | e <;> rw [e] <;> rfl)]; exact d0
def kyC (C : St) (i : Nat) : Int32 := C.1 100 (10 + i)
theorem hdl_sub {b : Nat} (hn : nn ≤ 10) : Sub (hdl C nn b) nn := Sub.mset (by omega)
theorem KD.at (k : KD C T nn bs) {b : Nat} (hb : b < bs) : fK_timelyAt F G T (nI b) = some (hdl C nn b) := by
  rw [K_timelyAt k.1 hb, k.2.2.2.2.2.2.2.2 b hb]
theorem KD.set (k : KD C T nn bs) {q : Int32} (hq : q = 1 ∨ q = 2) : fK_setOf F G T q = some (giv C nn q) := by
  unfold fK_setOf
  rcases hq with c | c
  · rw [if_pos c, k.2.2.2.2.1, c]
  · rw [c, if_neg (by decide), k.2.2.2.2.2.1]
theorem KD.held (k : KD C T nn bs) {q : Int32} (hq : q = 1 ∨ q = 2) {b : Nat} (hb : b < bs) : fK_heldBy F G T q (nI b) = some (giv C nn q &&& hdl C nn b) := by
  unfold fK_heldBy
  rw [k.set hq, bd_some, k.at hb, bd_some]
theorem KD.low (k : KD C T nn bs) (hF : 100000 ≤ F) {x : Int32} (hx : Sub x nn) (h0 : ¬ x = 0) : fK_lowest F G T x = some (lowF (kyC C) (bt x) 1000000 nn) := by
  rw [k.1.low hF hx h0, lowF_c (key' := kyC C) (fun i hi => (k.2.2.2.2.2.2.2.1 i hi).1)]
theorem KD.high (k : KD C T nn bs) (hF : 100000 ≤ F) {x : Int32} (hx : Sub x nn) (h0 : ¬ x = 0) : fK_highest F G T x = some (highF (kyC C) (bt x) (-1) nn) := by
  rw [k.1.high hF hx h0, highF_c (key' := kyC C) (fun i hi => (k.2.2.2.2.2.2.2.1 i hi).1)]
theorem MD.ky (m : MD C U nn bs) {i : Nat} (hi : i < nn) : U.1 101 (10 + i) = kyC C i := m.2.2.2.2.1 _ (by have := m.1; omega)
theorem MD.low (m : MD C U nn bs) (hF : 100000 ≤ F) (x : Int32) : fM_lowest F G U x = some (lowF (kyC C) (bt x) 1000000 nn) := by
  rw [M_lowest m.2.2.1 m.1 (by omega), lowF_c (key' := kyC C) (fun i hi => m.ky hi)]
theorem MD.high (m : MD C U nn bs) (hF : 100000 ≤ F) (x : Int32) : fM_highest F G U x = some (highF (kyC C) (bt x) (-1) nn) := by
  rw [M_highest m.2.2.1 m.1 (by omega), highF_c (key' := kyC C) (fun i hi => m.ky hi)]
/-- how wide a set is -/
def wdF (C : St) (nn : Nat) (x : Int32) : Int32 := if x = 0 then 0 else highF (kyC C) (bt x) (-1) nn - lowF (kyC C) (bt x) 1000000 nn
theorem KD.width (k : KD C T nn bs) (hF : 100000 ≤ F) {x : Int32} (hx : Sub x nn) : fK_width F G T x = some (wdF C nn x) := by
  unfold fK_width wdF
  by_cases h0 : x = 0
  · rw [if_pos h0, if_pos h0]
  · rw [if_neg h0, if_neg h0, k.high hF hx h0, bd_some, k.low hF hx h0, bd_some]
theorem spread_ok (hF : 100000 ≤ F) (hG : 20 ≤ G) (h : J2 S) (q : Int32) : ∃ v S1 S2, fN_spread F G S q = some (v, S1) ∧ fM_spread F G S1 q = some (v, S2) ∧ J2 S2 := by
  obtain ⟨nn, bs, nb⟩ := h.nb
  obtain ⟨y, b1, b2, b3⟩ := hand_x (F := F) (G := G) (C := S) (S := S) q
  by_cases c2 : y = 0
  · refine ⟨-1, S, S, ?_, ?_, h⟩
    · unfold fN_spread; rw [b1, bd_some, if_pos c2]
    · unfold fM_spread; rw [b2, bd_some, if_pos c2]
  obtain ⟨T, t1, t2, t3⟩ := look_I (F := F) (G := G) hF hG h nb
  obtain ⟨U, u1, u2, u3⟩ := fill_I (F := F) (G := G) hF hG nb t3
  have b2' : fM_isHand F G T q = some y := b2
  obtain ⟨i1, i2, i3, -, -⟩ := nb.inv h t3
  have n10 := nb.1
  have bs12 := nb.2.2.1
  have sb : ∀ b, Sub (giv S nn q &&& hdl S nn b) nn := fun b => (hdl_sub n10).and
  refine ⟨mxF (fun b => wdF S nn (giv S nn q &&& hdl S nn b)) bs, T, U, ?_, ?_, h.q u3⟩
  · unfold fN_spread
    rw [b1, bd_some, if_neg c2, t1, bd_some]
    refine for_g (body := b_N_spread_17 F G T q) (N := bs) (i0 := 0) (k := fun x => some (x, T)) (mxF (fun b => wdF S nn (giv S nn q &&& hdl S nn b))) (fun rec => ?_) (fun rec b _ hb => ?_) bs 0 F rfl (by omega) (by omega) (by omega)
    · unfold b_N_spread_17
      rw [gd_t i1, i3, if_pos (nI_le (Nat.le_refl bs) (by omega))]
    · unfold b_N_spread_17
      rw [gd_t i1, i3, if_neg (nI_ge hb (by omega)), t2.held (b3 c2) hb, bd_some, t2.width hF (sb b), bd_some, lt_eq, lt_eq, nI_1]
      rfl
  · unfold fM_spread
    rw [b2', bd_some, if_neg c2, u1, bd_some]
    refine for_g (body := b_M_spread_17 F G U q) (N := bs) (i0 := 0) (k := fun x => some (x, U)) (mxF (fun b => wdF S nn (giv S nn q &&& hdl S nn b))) (fun rec => ?_) (fun rec b _ hb => ?_) bs 0 F rfl (by omega) (by omega) (by omega)
    · unfold b_M_spread_17
      rw [u2.2.2.2.1, if_pos (nI_le (Nat.le_refl bs) (by omega))]
    · unfold b_M_spread_17
      rw [u2.2.2.2.1, if_neg (nI_ge hb (by omega)), u2.given hF, bd_some, gd_t (inB_nI (by omega) (by decide)), lt_eq, nI_clamp (by omega), u2.at hb]
      by_cases e : giv S nn q &&& hdl S nn b = 0
      · rw [if_pos e, lt_eq, nI_1, mx_0 (by show wdF _ _ _ = 0; unfold wdF; rw [if_pos e])]
      · rw [if_neg e, u2.high hF, bd_some, u2.low hF, bd_some, M_greater, bd_some, lt_eq, nI_1, ← mx_M]
        unfold wdF
        simp only [if_neg e]
/-- how far from one set to the next -/
def lpF (C : St) (nn : Nat) (a x : Int32) : Int32 := if a = 0 then 0 else if x = 0 then 0 else absI (lowF (kyC C) (bt x) 1000000 nn - lowF (kyC C) (bt a) 1000000 nn)
theorem KD.leapB (k : KD C T nn bs) (hF : 100000 ≤ F) {a x : Int32} (ha : Sub a nn) (hx : Sub x nn) : fK_leapBetween F G T a x = some (lpF C nn a x) := by
  unfold fK_leapBetween lpF
  by_cases h0 : a = 0
  · rw [if_pos h0, if_pos h0]
  rw [if_neg h0, if_neg h0]
  by_cases h1 : x = 0
  · rw [if_pos h1, if_pos h1]
  rw [if_neg h1, if_neg h1, k.low hF hx h1, bd_some, k.low hF ha h0, bd_some, abs_z]
def lpB (C : St) (nn : Nat) (q : Int32) : Nat → Int32
  | 0 => 0
  | b + 1 => lpF C nn (giv C nn q &&& hdl C nn b) (giv C nn q &&& hdl C nn (b + 1))
theorem leaps_ok (hF : 100000 ≤ F) (hG : 20 ≤ G) (h : J2 S) (q : Int32) : ∃ v S1 S2, fN_leaps F G S q = some (v, S1) ∧ fM_leaps F G S1 q = some (v, S2) ∧ J2 S2 := by
  obtain ⟨nn, bs, nb⟩ := h.nb
  obtain ⟨y, b1, b2, b3⟩ := hand_x (F := F) (G := G) (C := S) (S := S) q
  by_cases c2 : y = 0
  · refine ⟨-1, S, S, ?_, ?_, h⟩
    · unfold fN_leaps; rw [b1, bd_some, if_pos c2]
    · unfold fM_leaps; rw [b2, bd_some, if_pos c2]
  obtain ⟨T, t1, t2, t3⟩ := look_I (F := F) (G := G) hF hG h nb
  obtain ⟨U, u1, u2, u3⟩ := fill_I (F := F) (G := G) hF hG nb t3
  have b2' : fM_isHand F G T q = some y := b2
  obtain ⟨i1, i2, i3, -, -⟩ := nb.inv h t3
  have n10 := nb.1
  have bs0 := nb.2.1
  have bs12 := nb.2.2.1
  have sb : ∀ b, Sub (giv S nn q &&& hdl S nn b) nn := fun b => (hdl_sub n10).and
  have e1 : mxF (lpB S nn q) 1 = 0 := if_neg (show ¬ (0 : Int32) < 0 by decide)
  refine ⟨mxF (lpB S nn q) bs, T, U, ?_, ?_, h.q u3⟩
  · unfold fN_leaps
    rw [b1, bd_some, if_neg c2, t1, bd_some]
    have key := for_g (body := b_N_leaps_17 F G T q) (N := bs) (i0 := 1) (k := fun x => some (x, T)) (mxF (lpB S nn q)) (fun rec => by
      unfold b_N_leaps_17
      rw [gd_t i1, i3, if_pos (nI_le (Nat.le_refl bs) (by omega))]) (fun rec b h1 hb => by
      obtain ⟨d, rfl⟩ : ∃ d, b = d + 1 := ⟨b - 1, by omega⟩
      unfold b_N_leaps_17
      rw [gd_t i1, i3, if_neg (nI_ge hb (by omega)), show nI (d + 1) - 1 = nI d from nI_pred d, t2.held (b3 c2) (by omega), bd_some, t2.held (b3 c2) hb, bd_some, t2.leapB hF (sb d) (sb (d + 1)), bd_some, lt_eq, lt_eq, nI_1]
      rfl) (bs - 1) 1 F rfl (by omega) (by omega) (by omega)
    rw [e1] at key
    exact key
  · unfold fM_leaps
    rw [b2', bd_some, if_neg c2, u1, bd_some]
    have key := for_g (body := b_M_leaps_17 F G U q) (N := bs) (i0 := 1) (k := fun x => some (x, U)) (mxF (lpB S nn q)) (fun rec => by
      unfold b_M_leaps_17
      rw [u2.2.2.2.1, if_pos (nI_le (Nat.le_refl bs) (by omega))]) (fun rec b h1 hb => by
      obtain ⟨d, rfl⟩ : ∃ d, b = d + 1 := ⟨b - 1, by omega⟩
      unfold b_M_leaps_17
      rw [u2.2.2.2.1, if_neg (nI_ge hb (by omega)), u2.given hF, bd_some, gd_t (inB_nI (by omega) (by decide)), lt_eq, bd_some, show nI (d + 1) - 1 = nI d from nI_pred d, gd_t (inB_nI (show d < 12 by omega) (by decide)), lt_eq, nI_clamp (n := d + 1) (by omega), nI_clamp (n := d) (by omega), u2.at hb, u2.at (show d < bs by omega)]
      have z : ∀ x, lpB S nn q (d + 1) = x → lpF S nn (giv S nn q &&& hdl S nn d) (giv S nn q &&& hdl S nn (d + 1)) = x := fun x hx => hx
      by_cases e : giv S nn q &&& hdl S nn (d + 1) = 0
      · rw [if_pos e, lt_eq, nI_1, mx_0 (n := d + 1) (by
          show lpF _ _ _ _ = 0
          unfold lpF
          rw [e]
          split <;> simp)]
      rw [if_neg e]
      by_cases e2 : giv S nn q &&& hdl S nn d = 0
      · rw [if_pos e2, lt_eq, nI_1, mx_0 (n := d + 1) (by
          show lpF _ _ _ _ = 0
          unfold lpF
          rw [if_pos e2])]
      rw [if_neg e2, u2.low hF, bd_some, u2.low hF, bd_some, M_plain, bd_some, M_greater, bd_some, lt_eq, nI_1, ← mx_M (w := lpB S nn q) (n := d + 1)]
      have v : lpB S nn q (d + 1) = absI (lowF (kyC S) (bt (giv S nn q &&& hdl S nn (d + 1))) 1000000 nn - lowF (kyC S) (bt (giv S nn q &&& hdl S nn d)) 1000000 nn) := by
        show lpF _ _ _ _ = _
        unfold lpF
        rw [if_neg e2, if_neg e]
      rw [v]) (bs - 1) 1 F rfl (by omega) (by omega) (by omega)
    rw [e1] at key
    exact key
/-- the first of the fullest -/
def fbF (c : Nat → Int32) : Nat → Nat
  | 0 => 0
  | n + 1 => if c n ≤ c (fbF c n) then fbF c n else n
theorem fb_s {c : Nat → Int32} {n : Nat} : fbF c (n + 1) = if c n ≤ c (fbF c n) then fbF c n else n := rfl
theorem fb_1 {c : Nat → Int32} : fbF c 1 = 0 := if_pos (Int32.le_refl _)
theorem fb_lt {c : Nat → Int32} : ∀ n, fbF c (n + 1) < n + 1
  | 0 => by rw [fb_1]; omega
  | n + 1 => by
    have := fb_lt (c := c) n
    rw [fbF]
    split <;> omega
def cbF (C : St) (nn : Nat) (x : Int32) (b : Nat) : Int32 := nI (cnt (bt (x &&& hdl C nn b)) 12)
theorem KD.full (k : KD C T nn bs) (hF : 100000 ≤ F) (h0 : 1 ≤ bs) (x : Int32) : fK_fullestBeat F G T x = some (nI (fbF (cbF C nn x) bs)) := by
  have n10 := k.1.1
  have bs12 := k.1.2.1
  have hb0 := k.1.2.2.1
  have val : ∀ b, b < bs → bd (fK_timelyAt F G T (nI b)) (fun v3 => fJ_bitCount F G T (x &&& v3)) = some (cbF C nn x b) := fun b hb => by
    rw [k.at hb, bd_some, bc_Sub (hdl_sub n10).and (by omega)]; rfl
  have val1 : ∀ b, b < bs → fJ_bitCount F G T (x &&& hdl C nn b) = some (cbF C nn x b) := fun b hb => by
    rw [bc_Sub (hdl_sub n10).and (by omega)]; rfl
  have main : ∀ r b f, bs - b = r → 1 ≤ b → b ≤ bs → r < f → fx3 (b_K_fullestBeat_7 F G T x) f (nI (fbF (cbF C nn x) b)) (cbF C nn x (fbF (cbF C nn x) b)) (nI b) = some (nI (fbF (cbF C nn x) bs)) := by
    intro r
    induction r with
    | zero =>
      intro b f hr h1 hb hf
      obtain ⟨g, rfl⟩ : ∃ g, f = g + 1 := ⟨f - 1, by omega⟩
      have e : b = bs := by omega
      subst e
      rw [fx3_s]
      unfold b_K_fullestBeat_7
      rw [hb0, if_pos (nI_le (Nat.le_refl b) (by omega))]
    | succ r ih =>
      intro b f hr h1 hb hf
      obtain ⟨g, rfl⟩ : ∃ g, f = g + 1 := ⟨f - 1, by omega⟩
      have ih' := ih (b + 1) g (by omega) (by omega) (by omega) (by omega)
      rw [fx3_s]
      generalize fx3 (b_K_fullestBeat_7 F G T x) g = rec at ih' ⊢
      unfold b_K_fullestBeat_7
      rw [hb0, if_neg (nI_ge (show b < bs by omega) (by omega)), k.at (show b < bs by omega), bd_some, val1 b (by omega), bd_some, lt_eq, lt_eq, nI_1]
      rw [fbF] at ih'
      by_cases c : cbF C nn x b ≤ cbF C nn x (fbF (cbF C nn x) b)
      · rw [if_pos c] at ih' ⊢; exact ih'
      · rw [if_neg c] at ih' ⊢; exact ih'
  unfold fK_fullestBeat
  obtain ⟨F', hF'⟩ : ∃ F', F = F' + 1 := ⟨F - 1, by omega⟩
  have one : ∀ f, f = F' + 1 → fx3 (b_K_fullestBeat_7 F G T x) f 0 0 0 = some (nI (fbF (cbF C nn x) bs)) := by
    rintro _ rfl
    have m1 := main (bs - 1) 1 F' rfl (by omega) (by omega) (by omega)
    rw [fb_1] at m1
    rw [fx3_s]
    generalize fx3 (b_K_fullestBeat_7 F G T x) F' = rec at m1 ⊢
    unfold b_K_fullestBeat_7
    have a0 := k.at (F := F) (G := G) (show 0 < bs by omega)
    have v0 := val1 0 (by omega)
    rw [show nI 0 = 0 from rfl] at a0
    rw [hb0, if_neg (show ¬ nI bs ≤ 0 from nI_ge (a := 0) (b := bs) (by omega) (by omega)), a0, bd_some, v0, bd_some, lt_eq, lt_eq]
    have m1' : rec 0 (cbF C nn x 0) (0 + 1) = some (nI (fbF (cbF C nn x) bs)) := m1
    by_cases c : cbF C nn x 0 ≤ 0
    · rw [if_pos c]
      have z : cbF C nn x 0 = 0 := by
        apply Int32.toInt_inj.mp
        unfold cbF at c ⊢
        have cl := cnt_le (p := bt (x &&& hdl C nn 0)) (n := 12)
        rw [Int32.le_iff_toInt_le, nI_toInt (by omega), show (0 : Int32).toInt = 0 from rfl] at c
        rw [nI_toInt (by omega), show (0 : Int32).toInt = 0 from rfl]
        omega
      rw [z] at m1'; exact m1'
    · rw [if_neg c]; exact m1'
  exact one F hF'
theorem thickest_ok (hF : 100000 ≤ F) (hG : 20 ≤ G) (h : J2 S) : ∃ v S1 S2, fN_thickest F G S = some (v, S1) ∧ fM_thickest F G S1 = some (v, S2) ∧ J2 S2 := by
  obtain ⟨nn, bs, nb⟩ := h.nb
  obtain ⟨T, t1, t2, t3⟩ := look_I (F := F) (G := G) hF hG h nb
  obtain ⟨U, u1, u2, u3⟩ := fill_I (F := F) (G := G) hF hG nb t3
  have bs0 := nb.2.1
  have bs12 := nb.2.2.1
  refine ⟨nI (fbF (cbF S nn (giv S nn 1 ||| giv S nn 2)) bs), T, U, ?_, ?_, h.q u3⟩
  · unfold fN_thickest
    rw [t1, bd_some, t2.2.2.2.2.1, t2.2.2.2.2.2.1, t2.full hF bs0, bd_some]
  · unfold fM_thickest
    rw [u1, bd_some, u2.given hF, bd_some, u2.given hF, bd_some, lt_eq]
    have key := for_g (body := b_M_thickest_20 F G U (giv S nn 1 ||| giv S nn 2)) (N := bs) (i0 := 1) (k := fun x => some (x, U)) (fun b => nI (fbF (cbF S nn (giv S nn 1 ||| giv S nn 2)) b)) (fun rec => by
      unfold b_M_thickest_20
      rw [u2.2.2.2.1, if_pos (nI_le (Nat.le_refl bs) (by omega))]) (fun rec b h1 hb => by
      obtain ⟨d, rfl⟩ : ∃ d, b = d + 1 := ⟨b - 1, by omega⟩
      have fl := fb_lt (c := cbF S nn (giv S nn 1 ||| giv S nn 2)) d
      unfold b_M_thickest_20
      show _ = rec (nI (fbF _ (d + 1 + 1))) _
      rw [u2.2.2.2.1, if_neg (nI_ge hb (by omega)), gd_t (inB_nI (by omega) (by decide)), nI_clamp (n := d + 1) (by omega), u2.at hb, Int32.and_comm (hdl S nn (d + 1)), M_members (by omega), bd_some, gd_t (inB_nI (show fbF (cbF S nn (giv S nn 1 ||| giv S nn 2)) (d + 1) < 12 by omega) (by decide)), nI_clamp (show fbF (cbF S nn (giv S nn 1 ||| giv S nn 2)) (d + 1) < 2 ^ 31 by omega), u2.at (show fbF (cbF S nn (giv S nn 1 ||| giv S nn 2)) (d + 1) < bs by omega), Int32.and_comm (hdl S nn (fbF (cbF S nn (giv S nn 1 ||| giv S nn 2)) (d + 1))), M_members (by omega), bd_some, lt_eq, lt_eq, nI_1, fb_s (n := d + 1)]
      by_cases c : cbF S nn (giv S nn 1 ||| giv S nn 2) (d + 1) ≤ cbF S nn (giv S nn 1 ||| giv S nn 2) (fbF (cbF S nn (giv S nn 1 ||| giv S nn 2)) (d + 1))
      · rw [if_pos c]; exact if_pos c
      · rw [if_neg c]; exact if_neg c) (bs - 1) 1 F rfl (by omega) (by omega) (by omega)
    rw [fb_1] at key
    exact key
theorem busiest_ok (hF : 100000 ≤ F) (hG : 20 ≤ G) (h : J2 S) (q : Int32) : ∃ v S1 S2, fN_busiest F G S q = some (v, S1) ∧ fM_busiest F G S1 q = some (v, S2) ∧ J2 S2 := by
  obtain ⟨nn, bs, nb⟩ := h.nb
  obtain ⟨y, b1, b2, b3⟩ := hand_x (F := F) (G := G) (C := S) (S := S) q
  by_cases c2 : y = 0
  · refine ⟨-1, S, S, ?_, ?_, h⟩
    · unfold fN_busiest; rw [b1, bd_some, if_pos c2]
    · unfold fM_busiest; rw [b2, bd_some, if_pos c2]
  obtain ⟨T, t1, t2, t3⟩ := look_I (F := F) (G := G) hF hG h nb
  obtain ⟨U, u1, u2, u3⟩ := fill_I (F := F) (G := G) hF hG nb t3
  have b2' : fM_isHand F G T q = some y := b2
  have bs0 := nb.2.1
  have bs12 := nb.2.2.1
  refine ⟨nI (fbF (cbF S nn (giv S nn q)) bs), T, U, ?_, ?_, h.q u3⟩
  · unfold fN_busiest
    rw [b1, bd_some, if_neg c2, t1, bd_some, t2.set (b3 c2), bd_some, t2.full hF bs0, bd_some]
  · unfold fM_busiest
    rw [b2', bd_some, if_neg c2, u1, bd_some]
    have key := for_g (body := b_M_busiest_17 F G U q) (N := bs) (i0 := 1) (k := fun x => some (x, U)) (fun b => nI (fbF (cbF S nn (giv S nn q)) b)) (fun rec => by
      unfold b_M_busiest_17
      rw [u2.2.2.2.1, if_pos (nI_le (Nat.le_refl bs) (by omega))]) (fun rec b h1 hb => by
      obtain ⟨d, rfl⟩ : ∃ d, b = d + 1 := ⟨b - 1, by omega⟩
      have fl := fb_lt (c := cbF S nn (giv S nn q)) d
      unfold b_M_busiest_17
      show _ = rec (nI (fbF _ (d + 1 + 1))) _
      rw [u2.2.2.2.1, if_neg (nI_ge hb (by omega)), u2.given hF, bd_some, gd_t (inB_nI (by omega) (by decide)), nI_clamp (n := d + 1) (by omega), u2.at hb, M_members (by omega), bd_some, bd_some, gd_t (inB_nI (show fbF (cbF S nn (giv S nn q)) (d + 1) < 12 by omega) (by decide)), nI_clamp (show fbF (cbF S nn (giv S nn q)) (d + 1) < 2 ^ 31 by omega), u2.at (show fbF (cbF S nn (giv S nn q)) (d + 1) < bs by omega), M_members (by omega), bd_some, lt_eq, lt_eq, nI_1, fb_s (n := d + 1)]
      by_cases c : cbF S nn (giv S nn q) (d + 1) ≤ cbF S nn (giv S nn q) (fbF (cbF S nn (giv S nn q)) (d + 1))
      · rw [if_pos c]; exact if_pos c
      · rw [if_neg c]; exact if_neg c) (bs - 1) 1 F rfl (by omega) (by omega) (by omega)
    rw [fb_1] at key
    exact key
end WD
