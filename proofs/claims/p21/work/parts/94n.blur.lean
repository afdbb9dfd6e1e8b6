/-! WHAT BLURS -/
theorem both_x {z : Int32} {x y : Nat} (hx : x < 32) (hy : y < 32) : z &&& (((1 : Int32) <<< (nI x &&& 31)) ||| ((1 : Int32) <<< (nI y &&& 31))) = (((1 : Int32) <<< (nI x &&& 31)) ||| ((1 : Int32) <<< (nI y &&& 31))) ↔ (bt z x && bt z y) = true := by
  have m : ∀ i, i < 32 → bt (((1 : Int32) <<< (nI x &&& 31)) ||| ((1 : Int32) <<< (nI y &&& 31))) i = (decide (i = x) || decide (i = y)) := fun i hi => by rw [bt_or, bt_one hx hi, bt_one hy hi]
  constructor
  · intro e
    have ex : bt z x = true := by
      have t := congrArg (fun v => bt v x) e
      simp only [bt_and, m x hx] at t
      simpa using t
    have ey : bt z y = true := by
      have t := congrArg (fun v => bt v y) e
      simp only [bt_and, m y hy] at t
      simpa using t
    rw [ex, ey]; rfl
  · intro e
    rw [Bool.and_eq_true] at e
    apply bt_ext
    intro i hi
    rw [bt_and, m i hi]
    by_cases a : i = x
    · rw [a, e.1, Bool.true_and]
    · by_cases b : i = y
      · rw [b, e.2, Bool.true_and]
      · rw [decide_eq_false a, decide_eq_false b, Bool.or_false, Bool.and_false]
theorem bit_n0 {x : Int32} {j : Nat} (hj : j < 32) (h : bt x j = true) : ¬ ((x >>> (nI j &&& 31)) &&& 1 = 0) := fun z => by
  rw [(bit_0 x hj).mp z] at h; exact absurd h (by decide)
theorem bit_n1 {x : Int32} {j : Nat} (hj : j < 32) (h : bt x j = false) : ¬ ((x >>> (nI j &&& 31)) &&& 1 = 1) := fun z => by
  rw [(bit_1 x hj).mp z] at h; exact absurd h (by decide)
def blN (C : St) (x y : Nat) : Bool := decide (absI (kyC C x - kyC C y) = 1) || decide (absI (kyC C x - kyC C y) = 2)
def blB (C : St) (nn b x y : Nat) : Bool := (bt (snd C nn b) x && bt (snd C nn b) y) && (blN C x y && !(bt (hdl C nn b) x && bt (hdl C nn b) y))
def bl1 (C : St) (nn b x : Nat) : Nat → Int32 := sumI (fun y => b2i (blB C nn b x y))
def bl2 (C : St) (nn b : Nat) : Nat → Int32 := sumI (fun x => bl1 C nn b x x)
def bl3 (C : St) (nn : Nat) : Nat → Int32 := sumI (fun b => bl2 C nn b nn)
section BL
variable {F G : Nat} {C S T U V : St} {nn bs : Nat}
theorem K_bl1 (hF : 100000 ≤ F) (k : KD C T nn bs) {b x : Nat} (hx : x < nn) (kk : Int32 → Option Int32) (a : Int32) : fx2 (b_K_blurredAt_30 F G T (snd C nn b) (hdl C nn b) (nI x) kk) F a 0 = kk (a + bl1 C nn b x x) := by
  have n10 := k.1.1
  have key := for_g (body := b_K_blurredAt_30 F G T (snd C nn b) (hdl C nn b) (nI x) kk) (N := x) (i0 := 0) (k := kk) (fun y => a + bl1 C nn b x y) (fun rec => by
    unfold b_K_blurredAt_30
    rw [if_pos (nI_le (Nat.le_refl x) (by omega))]) (fun rec y _ hy => by
    have e1 : blB C nn b x y = true → a + bl1 C nn b x (y + 1) = a + bl1 C nn b x y + 1 := fun q => by
      show a + (bl1 C nn b x y + b2i (blB C nn b x y)) = _
      rw [q, ← Int32.add_assoc]; rfl
    have e0 : blB C nn b x y = false → a + bl1 C nn b x (y + 1) = a + bl1 C nn b x y := fun q => by
      show a + (bl1 C nn b x y + b2i (blB C nn b x y)) = _
      rw [q, show b2i false = 0 from rfl, Int32.add_zero]
    show b_K_blurredAt_30 F G T (snd C nn b) (hdl C nn b) (nI x) kk rec (a + bl1 C nn b x y) (nI y) = rec (a + bl1 C nn b x (y + 1)) (nI (y + 1))
    generalize a + bl1 C nn b x y = w at e1 e0 ⊢
    unfold b_K_blurredAt_30 j_K_blurredAt_80 j_K_blurredAt_85
    rw [if_neg (show ¬ nI x ≤ nI y from fun z => by have := (nI_le_i (by omega) (by omega)).mp z; omega), lt_eq, gd_t (inB_nI (by omega) (by decide)), gd_t (inB_nI (by omega) (by decide)), lt_eq, nI_clamp (n := x) (by omega), nI_clamp (n := y) (by omega), abs_z, (k.2.2.2.2.2.2.2.1 x hx).1, (k.2.2.2.2.2.2.2.1 y (by omega)).1]
    simp only [lt_eq, nI_1]
    have near : blN C x y = true → (if (snd C nn b &&& (((1 : Int32) <<< (nI x &&& 31)) ||| ((1 : Int32) <<< (nI y &&& 31)))) = (((1 : Int32) <<< (nI x &&& 31)) ||| ((1 : Int32) <<< (nI y &&& 31))) then if (hdl C nn b &&& (((1 : Int32) <<< (nI x &&& 31)) ||| ((1 : Int32) <<< (nI y &&& 31)))) = (((1 : Int32) <<< (nI x &&& 31)) ||| ((1 : Int32) <<< (nI y &&& 31))) then rec w (nI (y + 1)) else rec (w + 1) (nI (y + 1)) else rec w (nI (y + 1))) = rec (a + bl1 C nn b x (y + 1)) (nI (y + 1)) := fun q => by
      by_cases s : (bt (snd C nn b) x && bt (snd C nn b) y) = true
      · rw [if_pos ((both_x (by omega) (by omega)).mpr s)]
        by_cases h : (bt (hdl C nn b) x && bt (hdl C nn b) y) = true
        · rw [if_pos ((both_x (by omega) (by omega)).mpr h), e0 (by unfold blB; rw [s, q, h]; rfl)]
        · rw [if_neg (fun z => h ((both_x (by omega) (by omega)).mp z)), e1 (by unfold blB; rw [s, q, Bool.eq_false_iff.mpr h]; rfl)]
      · rw [if_neg (fun z => s ((both_x (by omega) (by omega)).mp z)), e0 (by unfold blB; rw [Bool.eq_false_iff.mpr s]; rfl)]
    have one : ¬ (1 : Int32) = 0 := by decide
    by_cases c1 : absI (kyC C x - kyC C y) = 1
    · have c1' : absI (C.1 100 (10 + x) - C.1 100 (10 + y)) = 1 := c1
      rw [if_pos c1', if_neg one]
      exact near (by unfold blN; rw [decide_eq_true c1]; rfl)
    · have c1' : ¬ absI (C.1 100 (10 + x) - C.1 100 (10 + y)) = 1 := c1
      rw [if_neg c1']
      by_cases c2 : absI (kyC C x - kyC C y) = 2
      · have c2' : absI (C.1 100 (10 + x) - C.1 100 (10 + y)) = 2 := c2
        rw [if_pos c2', if_neg one]
        exact near (by unfold blN; rw [decide_eq_true c2, Bool.or_true])
      · have c2' : ¬ absI (C.1 100 (10 + x) - C.1 100 (10 + y)) = 2 := c2
        rw [if_neg c2', if_pos trivial, e0 (by unfold blB blN; rw [decide_eq_false c1, decide_eq_false c2, Bool.or_false, Bool.false_and, Bool.and_false])]) x 0 F rfl (by omega) (by omega) (by omega)
  have e0 : a + bl1 C nn b x 0 = a := Int32.add_zero a
  simp only [e0] at key
  exact key
theorem K_blur (hF : 100000 ≤ F) (k : KD C T nn bs) {b : Nat} (hb : b < bs) : fK_blurredAt F G T (nI b) = some (bl2 C nn b nn) := by
  have n10 := k.1.1
  unfold fK_blurredAt
  rw [K_sounding hF k hb, bd_some, k.at hb, bd_some]
  by_cases c : nn = 0
  · obtain ⟨F', hF'⟩ : ∃ F', F = F' + 1 := ⟨F - 1, by omega⟩
    have one : ∀ f, f = F' + 1 → fx2 (b_K_blurredAt_18 F G T (snd C nn b) (hdl C nn b)) f 0 1 = some (bl2 C nn b nn) := by
      rintro _ rfl
      rw [fx2_s]
      unfold b_K_blurredAt_18
      rw [k.1.2.2.2.1, if_pos (show nI nn ≤ 1 by rw [c]; decide), c]; rfl
    exact one F hF'
  · exact for_g (body := b_K_blurredAt_18 F G T (snd C nn b) (hdl C nn b)) (N := nn) (i0 := 1) (k := some) (bl2 C nn b) (fun rec => by
      unfold b_K_blurredAt_18
      rw [k.1.2.2.2.1, if_pos (nI_le (Nat.le_refl nn) (by omega))]) (fun rec x _ hx => by
      unfold b_K_blurredAt_18
      rw [k.1.2.2.2.1, if_neg (nI_ge hx (by omega)), K_bl1 hF k hx, lt_eq, nI_1]
      rfl) (nn - 1) 1 F rfl (by omega) (by omega) (by omega)
theorem M_blurs (m : MD C V nn bs) {b : Nat} (hb : b < bs) (v : V.1 103 b = snd C nn b) {x y : Nat} (hx : x < nn) (hy : y < nn) : fM_blurs F G V (nI b) (nI x) (nI y) = some (b2i (blB C nn b x y)) := by
  have n10 := m.1
  have b12 := m.2.1
  have gb : inB (nI b) 12 = true := inB_nI (by omega) (by decide)
  have tail : j_M_blurs_64 F G V (nI b) (nI x) (nI y) = some (b2i (!(bt (hdl C nn b) x && bt (hdl C nn b) y))) := by
    unfold j_M_blurs_64
    rw [gd_t gb, gd_t gb, nI_clamp (by omega), m.at hb]
    cases h1 : bt (hdl C nn b) x
    · rw [if_neg (bit_n1 (by omega) h1)]; rfl
    · rw [if_pos ((bit_1 _ (by omega)).mpr h1)]
      cases h2 : bt (hdl C nn b) y
      · rw [if_neg (bit_n1 (by omega) h2)]; rfl
      · rw [if_pos ((bit_1 _ (by omega)).mpr h2)]; rfl
  unfold fM_blurs
  rw [gd_t gb, gd_t gb, nI_clamp (n := b) (by omega), v]
  cases s1 : bt (snd C nn b) x
  · rw [if_pos ((bit_0 _ (by omega)).mpr s1)]
    unfold blB; rw [s1]; rfl
  rw [if_neg (bit_n0 (by omega) s1)]
  cases s2 : bt (snd C nn b) y
  · rw [if_pos ((bit_0 _ (by omega)).mpr s2)]
    unfold blB; rw [s2, Bool.and_false]; rfl
  rw [if_neg (bit_n0 (by omega) s2), show (10 : Int32) = nI 10 from rfl, ten_add, ten_add, gd_t (inB_nI (by omega) (by decide)), gd_t (inB_nI (by omega) (by decide)), nI_clamp (by omega), nI_clamp (by omega), m.ky hx, m.ky hy, M_plain, bd_some, tail]
  unfold blB blN
  rw [s1, s2]
  by_cases c1 : absI (kyC C x - kyC C y) = 1
  · rw [if_pos c1, decide_eq_true c1]; rfl
  · rw [if_neg c1, decide_eq_false c1, Bool.false_or]
    by_cases c2 : absI (kyC C x - kyC C y) = 2
    · rw [if_pos c2, decide_eq_true c2]; rfl
    · rw [if_neg c2, decide_eq_false c2]; rfl
theorem M_bl1 (hF : 100000 ≤ F) (m : MD C V nn bs) {b : Nat} (hb : b < bs) (v : V.1 103 b = snd C nn b) {x : Nat} (hx : x < nn) (kk : Int32 → Option (Int32 × St)) (a : Int32) : fx2 (b_M_blur_33 F G V (nI b) (nI x) kk) F a 0 = kk (a + bl1 C nn b x x) := by
  have n10 := m.1
  have key := for_g (body := b_M_blur_33 F G V (nI b) (nI x) kk) (N := x) (i0 := 0) (k := kk) (fun y => a + bl1 C nn b x y) (fun rec => by
    unfold b_M_blur_33
    rw [if_pos (nI_le (Nat.le_refl x) (by omega))]) (fun rec y _ hy => by
    unfold b_M_blur_33
    rw [if_neg (show ¬ nI x ≤ nI y from fun z => by have := (nI_le_i (by omega) (by omega)).mp z; omega), M_blurs m hb v hx (by omega), bd_some, M_truth, bd_some, lt_eq, lt_eq, nI_1, Int32.add_assoc]
    show rec (a + (bl1 C nn b x y + _)) _ = rec (a + (bl1 C nn b x y + b2i (blB C nn b x y))) _
    cases blB C nn b x y <;> rfl) x 0 F rfl (by omega) (by omega) (by omega)
  have e0 : a + bl1 C nn b x 0 = a := Int32.add_zero a
  simp only [e0] at key
  exact key
theorem M_bl2 (hF : 100000 ≤ F) (m : MD C V nn bs) {b : Nat} (hb : b < bs) (v : V.1 103 b = snd C nn b) (kk : Int32 → Option (Int32 × St)) (a : Int32) : fx2 (b_M_blur_22 F G V (nI b) kk) F a 0 = kk (a + bl2 C nn b nn) := by
  have n10 := m.1
  have key := for_g (body := b_M_blur_22 F G V (nI b) kk) (N := nn) (i0 := 0) (k := kk) (fun x => a + bl2 C nn b x) (fun rec => by
    unfold b_M_blur_22
    rw [m.2.2.1, if_pos (nI_le (Nat.le_refl nn) (by omega))]) (fun rec x _ hx => by
    unfold b_M_blur_22
    rw [m.2.2.1, if_neg (nI_ge hx (by omega)), M_bl1 hF m hb v hx, lt_eq, nI_1, Int32.add_assoc]
    rfl) nn 0 F rfl (by omega) (by omega) (by omega)
  have e0 : a + bl2 C nn b 0 = a := Int32.add_zero a
  simp only [e0] at key
  exact key
theorem blur_ok (hF : 100000 ≤ F) (hG : 20 ≤ G) (h : J2 S) : ∃ v S1 S2, fN_blur F G S = some (v, S1) ∧ fM_blur F G S1 = some (v, S2) ∧ J2 S2 := by
  obtain ⟨nn, bs, nb⟩ := h.nb
  obtain ⟨T, t1, t2, t3⟩ := look_I (F := F) (G := G) hF hG h nb
  obtain ⟨U, u1, u2, u3⟩ := fill_I (F := F) (G := G) hF hG nb t3
  obtain ⟨V, v1, v2, v3, v4⟩ := sound_I (F := F) (G := G) hF hG u2 u3
  obtain ⟨i1, i2, i3, -, -⟩ := nb.inv h t3
  have bs12 := nb.2.2.1
  refine ⟨bl3 S nn bs, T, V, ?_, ?_, h.q v4⟩
  · unfold fN_blur
    rw [t1, bd_some]
    exact for_g (body := b_N_blur_8 F G T) (N := bs) (i0 := 0) (k := fun x => some (x, T)) (bl3 S nn) (fun rec => by
      unfold b_N_blur_8
      rw [gd_t i1, i3, if_pos (nI_le (Nat.le_refl bs) (by omega))]) (fun rec b _ hb => by
      unfold b_N_blur_8
      rw [gd_t i1, i3, if_neg (nI_ge hb (by omega)), K_blur hF t2 hb, bd_some, lt_eq, lt_eq, nI_1]
      rfl) bs 0 F rfl (by omega) (by omega) (by omega)
  · unfold fM_blur
    rw [u1, bd_some, v1, bd_some]
    exact for_g (body := b_M_blur_12 F G V) (N := bs) (i0 := 0) (k := fun x => some (x, V)) (bl3 S nn) (fun rec => by
      unfold b_M_blur_12
      rw [v3.2.2.2.1, if_pos (nI_le (Nat.le_refl bs) (by omega))]) (fun rec b _ hb => by
      unfold b_M_blur_12
      rw [v3.2.2.2.1, if_neg (nI_ge hb (by omega)), M_bl2 hF v3 hb (v2 b hb), lt_eq, nI_1]
      rfl) bs 0 F rfl (by omega) (by omega) (by omega)
end BL
