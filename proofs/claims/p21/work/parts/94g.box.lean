/-! IMAGES: image and back; how many are given to a hand -/
/-- how many bits, as the library counts them -/
def bcF (p : Int32) : Int32 :=
  lt (p - (((p.toUInt32 >>> ((1 : Int32).toUInt32 &&& Int32.toUInt32 31)).toInt32) &&& (1431655765 : Int32))) fun v1 => lt ((v1 &&& (858993459 : Int32)) + (((v1.toUInt32 >>> ((2 : Int32).toUInt32 &&& Int32.toUInt32 31)).toInt32) &&& (858993459 : Int32))) fun v3 => lt ((v3 + ((v3.toUInt32 >>> ((4 : Int32).toUInt32 &&& Int32.toUInt32 31)).toInt32)) &&& (252645135 : Int32)) fun v5 => lt (v5 + ((v5.toUInt32 >>> ((8 : Int32).toUInt32 &&& Int32.toUInt32 31)).toInt32)) fun v7 => lt (v7 + ((v7.toUInt32 >>> ((16 : Int32).toUInt32 &&& Int32.toUInt32 31)).toInt32)) fun v9 => v9 &&& (63 : Int32)
theorem bc_eq {F G : Nat} {S : St} (p : Int32) : fJ_bitCount F G S p = some (bcF p) := rfl
theorem bc_64 : ∀ a, a < 64 → ∀ b, b < 64 → bcF (nI (64 * a + b)) = nI (cnt (bt (nI (64 * a + b))) 12) := by decide +kernel
theorem bc_12 (x : Nat) (h : x < 4096) : bcF (nI x) = nI (cnt (bt (nI x)) 12) := by
  have := bc_64 (x / 64) (by omega) (x % 64) (by omega)
  rw [show 64 * (x / 64) + x % 64 = x by omega] at this
  exact this
theorem small_bt {x : Int32} {n : Nat} (hn : n ≤ 31) (h : ∀ i, n ≤ i → i < 32 → bt x i = false) : ∃ m, m < 2 ^ n ∧ x = nI m := by
  have e : x.toBitVec.toNat < 2 ^ n := by
    apply Nat.lt_pow_two_of_testBit
    intro i hi
    by_cases c : i < 32
    · exact h i hi c
    · exact Nat.testBit_lt_two_pow (Nat.lt_of_lt_of_le x.toBitVec.isLt (Nat.pow_le_pow_right (by decide) (by omega)))
  refine ⟨x.toBitVec.toNat, e, ?_⟩
  apply Int32.toBitVec_inj.mp
  show _ = BitVec.ofNat 32 _
  simp
theorem bc_set {x : Int32} (h : ∀ i, 12 ≤ i → i < 32 → bt x i = false) : bcF x = nI (cnt (bt x) 12) := by
  obtain ⟨m, hm, e⟩ := small_bt (n := 12) (by omega) h
  rw [e]
  exact bc_12 m hm
theorem cnt_c {p q : Nat → Bool} : ∀ {n : Nat}, (∀ i, i < n → p i = q i) → cnt p n = cnt q n
  | 0, _ => rfl
  | n + 1, h => by rw [cnt, cnt, cnt_c (fun i hi => h i (by omega)), h n (by omega)]
theorem cnt_le {p : Nat → Bool} : ∀ {n : Nat}, cnt p n ≤ n
  | 0 => Nat.le_refl _
  | n + 1 => by
    have := cnt_le (p := p) (n := n)
    rw [cnt]
    split <;> omega
theorem cnt_up {p : Nat → Bool} {n : Nat} : ∀ {k : Nat}, (∀ i, n ≤ i → i < n + k → p i = false) → cnt p (n + k) = cnt p n
  | 0, _ => rfl
  | k + 1, h => by
    show cnt p (n + k) + (if p (n + k) then 1 else 0) = _
    rw [cnt_up (k := k) (fun i h1 h2 => h i h1 (by omega)), h (n + k) (by omega) (by omega)]
    rfl
section BX
variable {F G : Nat} {S : St}
theorem N_setOf (hF : 100000 ≤ F) {o : Nat} (ho : isLa o = true) (h : Int32) : fL_setOf F G S o h = some (mset (fun i => decide (S.1 (o + 1) i = h)) 10) := by
  unfold fL_setOf
  rw [gd_t ho]
  refine for_or (N := 10) (k := some) (by omega) (fun i => decide (S.1 (o + 1) i = h)) (fun rec a => by unfold b_L_setOf_4; rw [if_pos (by decide)]) (fun rec a i hi => ?_) (by omega)
  unfold b_L_setOf_4
  rw [if_neg (show ¬ (10 : Int32) ≤ nI i from nI_ge (b := 10) hi (by decide)), gd_t (inB_nI hi (by decide)), nI_clamp (by omega)]
  by_cases hc : S.1 (o + 1) i = h
  · rw [if_pos hc, lt_eq, lt_eq, nI_1, decide_eq_true hc, if_pos rfl]
  · rw [if_neg hc, lt_eq, nI_1, decide_eq_false hc, if_neg (by decide), Int32.or_zero]
/-- the notes that are given to a hand -/
def gvn (S : St) (i : Nat) : Bool := decide (S.1 31 i = 1) || decide (S.1 31 i = 2)
theorem N_givenSet (hF : 100000 ≤ F) : fN_givenSet F G S = some (mset (gvn S) 10) := by
  unfold fN_givenSet
  rw [N_setOf hF rfl, bd_some, N_setOf hF rfl, bd_some]
  congr 1
  apply bt_ext
  intro i hi
  rw [bt_or, bt_mset _ (by omega) hi, bt_mset _ (by omega) hi, bt_mset _ (by omega) hi]
  unfold gvn
  cases decide (i < 10) <;> simp
theorem N_given (hF : 100000 ≤ F) {nn : Nat} (hn : nn ≤ 10) (hz : ∀ i, nn ≤ i → i < 10 → S.1 31 i = 0) : ∃ x, fN_givenSet F G S = some x ∧ fJ_bitCount F G S x = some (nI (cnt (gvn S) nn)) := by
  refine ⟨_, N_givenSet hF, ?_⟩
  rw [bc_eq, bc_set (fun i h1 h2 => by rw [bt_mset _ (by omega) h2]; simp; omega)]
  congr 2
  rw [cnt_c (q := fun i => decide (i < 10) && gvn S i) (fun i hi => bt_mset _ (by omega) (by omega)), show 12 = nn + (12 - nn) by omega, cnt_up (fun i h1 h2 => ?_)]
  · exact cnt_c fun i hi => by
      rw [decide_eq_true (show i < 10 by omega), Bool.true_and]
  · by_cases c : i < 10
    · rw [decide_eq_true c, Bool.true_and]
      unfold gvn
      rw [hz i h1 c]; rfl
    · rw [decide_eq_false c, Bool.false_and]
theorem M_played_x (hF : 100000 ≤ F) {nn : Nat} (h48 : S.1 78 48 = nI nn) (hn : nn ≤ 10) : fM_played F G S = some (nI (cnt (fun i => decide (0 < S.1 100 i)) nn)) := by
  unfold fM_played
  rw [for_sum (N := nn) (k := some) (by omega) (fun i => if decide (0 < S.1 100 i) then 1 else 0) (fun rec a => by unfold b_M_played_4; rw [h48, if_pos (nI_le (Nat.le_refl nn) (by omega))])
    (fun rec a i hi => by
      unfold b_M_played_4
      rw [h48, if_neg (nI_ge hi (by omega)), gd_t (inB_nI (by omega) (by decide)), nI_clamp (by omega)]
      by_cases c : S.1 100 i ≤ 0
      · rw [if_pos c, M_truth, bd_some, lt_eq, lt_eq, nI_1, decide_eq_false (Int32.not_lt.mpr c)]; rfl
      · rw [if_neg c, M_truth, bd_some, lt_eq, lt_eq, nI_1, decide_eq_true (Int32.not_le.mp c)]; rfl) (by omega), sumI_cnt]
theorem gv_eq {x : Int32} (h : iv x 0 2) : (decide (x = 1) || decide (x = 2)) = decide (0 < x) := by
  obtain ⟨n, rfl, hn⟩ := iv_nat (u := 2) h
  rcases (by omega : n = 0 ∨ n = 1 ∨ n = 2) with rfl | rfl | rfl <;> decide
/-- how many are given: both count alike -/
theorem many_x {nn : Nat} (xl : CpL nn S) : cnt (gvn S) nn = cnt (fun i => decide (0 < S.1 100 i)) nn ∨ 10 < nn := by
  by_cases hn : 10 < nn
  · exact Or.inr hn
  refine Or.inl (cnt_c fun i hi => ?_)
  have c := xl.2.1 i (by omega) (by omega)
  rw [lo_0 (by omega)] at c
  have v := (xl.1 i (by omega)).1 (by omega)
  unfold gvn
  rw [show S.1 31 i = S.1 100 i from c]
  exact gv_eq (v.1 (by omega))
theorem copy_x (hF : 100000 ≤ F) {o o2 : Nat} (ho : isLa o = true) (ho2 : isLa o2 = true) (hne : o ≠ o2) : ∃ U, fL_copy F G S o o2 = some U ∧ U.2 = S.2 ∧ (∀ k, k ≤ 40 → lo U o k = lo S o2 k) ∧ U.1 o 0 = S.1 o 0 ∧ ∀ h, ¬ (o ≤ h ∧ h ≤ o + 4) → U.1 h = S.1 h := by
  have d1 := isLa_or ho
  have d2 := isLa_or ho2
  unfold fL_copy
  rw [gd_t ho, gd_t ho2, lt_eq]
  obtain ⟨U, e1, e2, e3, e4, e5, e6⟩ := cp2 (bod := b_L_copy_10 F G o o2) (k := fun S => some S) (N := 10) (fun n U => U.2 = S.2 ∧ (∀ j, j < n → U.1 (o + 1) j = S.1 (o2 + 1) j ∧ U.1 (o + 2) j = S.1 (o2 + 2) j ∧ U.1 (o + 3) j = S.1 (o2 + 3) j ∧ U.1 (o + 4) j = S.1 (o2 + 4) j) ∧ U.1 o 1 = S.1 o2 1 ∧ U.1 o 0 = S.1 o 0 ∧ ∀ h, ¬ (o ≤ h ∧ h ≤ o + 4) → U.1 h = S.1 h)
    (fun rec U _ => by
      unfold b_L_copy_10
      rw [if_pos (by decide)])
    (fun rec i U hi hP => by
      obtain ⟨p1, p2, p3, p4, p5⟩ := hP
      unfold b_L_copy_10
      have hin : inB (nI i) 10 = true := inB_nI hi (by decide)
      have n2 : (nI i).toNatClampNeg = i := nI_clamp (by omega)
      rw [if_neg (show ¬ (10 : Int32) ≤ nI i from nI_ge (b := 10) hi (by decide))]
      simp only [lt_eq, gd_t hin, nI_1, n2]
      have q1 := congrFun (p5 (o2 + 1) (by omega)) i
      have q2 := congrFun (p5 (o2 + 2) (by omega)) i
      have q3 := congrFun (p5 (o2 + 3) (by omega)) i
      have q4 := congrFun (p5 (o2 + 4) (by omega)) i
      refine ⟨_, rfl, p1, fun j hj => ⟨?_, ?_, ?_, ?_⟩, ?_, ?_, fun h q => ?_⟩
      · rw [sI_row (by omega), sI_row (by omega), sI_row (by omega), sI_at]
        by_cases z : j = i
        · rw [if_pos ⟨rfl, z⟩, q1, z]
        · rw [if_neg (by omega)]; exact (p2 j (by omega)).1
      · rw [sI_row (by omega), sI_row (by omega), sI_at]
        by_cases z : j = i
        · rw [if_pos ⟨rfl, z⟩, sI_at, if_neg (by omega), q2, z]
        · rw [if_neg (by omega), sI_at, if_neg (by omega)]; exact (p2 j (by omega)).2.1
      · rw [sI_row (by omega), sI_at]
        by_cases z : j = i
        · rw [if_pos ⟨rfl, z⟩, sI_at, if_neg (by omega), sI_at, if_neg (by omega), q3, z]
        · rw [if_neg (by omega), sI_at, if_neg (by omega), sI_at, if_neg (by omega)]; exact (p2 j (by omega)).2.2.1
      · rw [sI_at]
        by_cases z : j = i
        · rw [if_pos ⟨rfl, z⟩, sI_at, if_neg (by omega), sI_at, if_neg (by omega), sI_at, if_neg (by omega), q4, z]
        · rw [if_neg (by omega), sI_at, if_neg (by omega), sI_at, if_neg (by omega), sI_at, if_neg (by omega)]; exact (p2 j (by omega)).2.2.2
      · rw [sI_at, if_neg (by omega), sI_at, if_neg (by omega), sI_at, if_neg (by omega), sI_at, if_neg (by omega)]; exact p3
      · rw [sI_at, if_neg (by omega), sI_at, if_neg (by omega), sI_at, if_neg (by omega), sI_at, if_neg (by omega)]; exact p4
      · rw [sI_row (by omega), sI_row (by omega), sI_row (by omega), sI_row (by omega)]; exact p5 h q)
    10 0 F (sI S o 1 (S.1 o2 1)) rfl (by omega) (by omega) ⟨rfl, fun j hj => by omega, sI_self, by rw [sI_at, if_neg (by omega)], fun h q => sI_row (by omega)⟩
  refine ⟨U, e1, e2, fun k hk => ?_, e5, e6⟩
  unfold lo
  by_cases k1 : k < 10
  · rw [if_pos k1, if_pos k1]; exact (e3 k k1).1
  rw [if_neg k1, if_neg k1]
  by_cases k2 : k < 20
  · rw [if_pos k2, if_pos k2]; exact (e3 _ (by omega)).2.1
  rw [if_neg k2, if_neg k2]
  by_cases k3 : k < 30
  · rw [if_pos k3, if_pos k3]; exact (e3 _ (by omega)).2.2.1
  rw [if_neg k3, if_neg k3]
  by_cases k4 : k < 40
  · rw [if_pos k4, if_pos k4]; exact (e3 _ (by omega)).2.2.2
  rw [if_neg k4, if_neg k4]; exact e4
theorem CL.c {nn : Nat} {c f c' f' : Nat → Int32} (h : CL nn c f) (e1 : ∀ k, k ≤ 40 → c' k = c k) (e2 : ∀ k, k ≤ 40 → f' k = f k) : CL nn c' f' :=
  ⟨fun k hk z => by rw [e1 k (by omega), e2 k (by omega)]; exact h.1 k hk z, by rw [e1 40 (by omega), e2 40 (by omega)]; exact h.2.1, fun i i1 i2 => by rw [e1 i (by omega)]; exact h.2.2 i i1 i2⟩
theorem image_2 (hF : 100000 ≤ F) (hG : 20 ≤ G) (h : J2 S) (p : Int32) : ∃ v S1 S2, fN_image F G S p = some (v, S1) ∧ fM_image F G S1 p = some (v, S2) ∧ J2 S2 := by
  obtain ⟨hJ, h3, nn, n1, n48, xl, xa, xb, xw⟩ := id h
  by_cases c1 : p < 0
  · refine ⟨-1, S, S, ?_, ?_, h⟩
    · unfold fN_image; rw [if_pos c1]
    · unfold fM_image fM_isBox; rw [if_pos c1, bd_some, if_pos rfl]
  by_cases c2 : p < 3
  · obtain ⟨b, rfl, hb⟩ : ∃ b, p = nI b ∧ b < 3 := by
      obtain ⟨b, e, hb⟩ := iv_nat (u := 2) (iv_02 c1 c2)
      exact ⟨b, e, by omega⟩
    have g3 : inB (nI b) 3 = true := inB_nI hb (by decide)
    have la : isLa (36 + 5 * b) = true := by rcases (by omega : b = 0 ∨ b = 1 ∨ b = 2) with rfl | rfl | rfl <;> rfl
    obtain ⟨U, u1, u2, u3, u4, u5⟩ := copy_x (F := F) (G := G) (S := S) hF la (show isLa 30 = true from rfl) (by omega)
    have rowV : ∀ h, ¬ (36 + 5 * b ≤ h ∧ h ≤ 36 + 5 * b + 4) → (sI U (36 + 5 * b) 0 1).1 h = S.1 h := fun h q => by rw [sI_row (by omega)]; exact u5 h q
    have loV : ∀ k, k ≤ 40 → lo (sI U (36 + 5 * b) 0 1) (36 + 5 * b) k = lo S 30 k := fun k hk => by
      rw [← u3 k hk]
      unfold lo
      rw [sI_row (by omega), sI_row (by omega), sI_row (by omega), sI_row (by omega), sI_at, if_neg (show ¬ (36 + 5 * b = 36 + 5 * b ∧ 1 = 0) by omega)]
    have hz : ∀ i, nn ≤ i → i < 10 → (sI U (36 + 5 * b) 0 1).1 31 i = 0 := fun i i1 i2 => by
      rw [rowV 31 (by omega)]
      have := xl.2.2.2 i i1 i2
      rw [lo_0 i2] at this; exact this
    obtain ⟨x, x1, x2⟩ := N_given (F := F) (G := G) (S := sI U (36 + 5 * b) 0 1) hF n1 hz
    have gs : gvn (sI U (36 + 5 * b) 0 1) = gvn S := funext fun i => by unfold gvn; rw [rowV 31 (by omega)]
    rw [gs] at x2
    have hS1 : fN_image F G S (nI b) = some (nI (cnt (gvn S) nn), sI U (36 + 5 * b) 0 1) := by
      unfold fN_image
      rw [if_neg c1, if_pos (show nI b < Int32.ofNat 3 from c2), gd_t g3, nI_clamp (by omega), u1, bd_some, gd_t g3, lt_eq, x1, bd_some, x2, bd_some]
    obtain ⟨r1, S1', y1, k1⟩ := c_image (p1 := nI b) hF hG hJ.1
    obtain ⟨-, e1⟩ := Prod.mk.inj (Option.some.inj (hS1.symm.trans y1))
    rw [← e1] at k1
    obtain ⟨V, w1, w2, w3, w4⟩ := cp2 (bod := b_M_image_18 F G (nI b) (fun S14 => bd (fM_played F G S14) fun v16 => some (v16, S14))) (k := fun S14 => bd (fM_played F G S14) fun v16 => some (v16, S14)) (N := 41) (fun n V => (∀ k, k < n → V.1 116 (41 * b + k) = S.1 100 k) ∧ (∀ m, m < 41 * b ∨ 41 * b + 41 ≤ m → V.1 116 m = S.1 116 m) ∧ ∀ h, h ≠ 116 → V.1 h = (sI (sI U (36 + 5 * b) 0 1) 115 b (vp_nar .boolean (1 : Int32))).1 h)
      (fun rec V _ => by
        unfold b_M_image_18
        rw [if_pos (by decide)])
      (fun rec i V hi hP => by
        obtain ⟨p1, p2, p3⟩ := hP
        unfold b_M_image_18
        rw [if_neg (show ¬ (41 : Int32) ≤ nI i from nI_ge (b := 41) hi (by decide)), gd_t (inB_nI hi (by decide)), show (41 : Int32) * nI b + nI i = nI (41 * b + i) by rw [show (41 : Int32) = nI 41 from rfl, nI_mulN, nI_add], gd_t (inB_nI (by omega) (by decide)), lt_eq, lt_eq, nI_1, nI_clamp (by omega), nI_clamp (by omega)]
        refine ⟨_, rfl, fun k hk => ?_, fun m hm => ?_, fun h q => ?_⟩
        · rw [sI_at]
          by_cases z : k = i
          · rw [if_pos ⟨rfl, by omega⟩, p3 100 (by omega), sI_row (by omega), rowV 100 (by omega), z]
          · rw [if_neg (by omega)]; exact p1 k (by omega)
        · rw [sI_at, if_neg (by omega)]; exact p2 m hm
        · rw [sI_row q]; exact p3 h q)
      41 0 F (sI (sI U (36 + 5 * b) 0 1) 115 b (vp_nar .boolean (1 : Int32))) rfl (by omega) (by omega) ⟨fun k hk => by omega, fun m _ => by rw [sI_row (by omega), rowV 116 (by omega)], fun _ _ => rfl⟩
    have r48 : V.1 78 48 = nI nn := by rw [w4 78 (by omega), sI_row (by omega), rowV 78 (by omega)]; exact n48
    have r100 : V.1 100 = S.1 100 := by rw [w4 100 (by omega), sI_row (by omega), rowV 100 (by omega)]
    have hS2 : fM_image F G (sI U (36 + 5 * b) 0 1) (nI b) = some (nI (cnt (gvn S) nn), V) := by
      unfold fM_image fM_isBox
      rw [if_neg c1, if_neg (Int32.not_le.mpr c2), bd_some, if_neg (by decide), gd_t g3, lt_eq, nI_clamp (by omega), show (0 : Int32) = nI 0 from rfl, w1, M_played_x hF r48 n1, bd_some, r100]
      rcases many_x xl with q | q
      · rw [q]
      · omega
    obtain ⟨r2, S2', y2, k2⟩ := m_image (p1 := nI b) hF hG (k1.good hJ.1)
    obtain ⟨-, e2⟩ := Prod.mk.inj (Option.some.inj (hS2.symm.trans y2))
    rw [← e2] at k2
    refine ⟨_, _, _, hS1, hS2, h.ch k1 k2 ?_⟩
    have rowW : ∀ h, ¬ (36 + 5 * b ≤ h ∧ h ≤ 36 + 5 * b + 4) → h ≠ 115 → h ≠ 116 → V.1 h = S.1 h := fun h q1 q2 q3 => by rw [w4 h q3, sI_row q2]; exact rowV h q1
    refine ⟨nn, n1, r48, xl.fr fun h q => rowW h (by omega) (by omega) (by omega), xa.fr (fun h q => rowW h (by omega) (by omega) (by omega)) (by rw [rowW 78 (by omega) (by omega) (by omega)]) (by rw [rowW 78 (by omega) (by omega) (by omega)]), fun b' hb' => ?_, xw.fr (fun h q => rowW h (by omega) (by omega) (by omega)) (by rw [rowW 69 (by omega) (by omega) (by omega)]) (by rw [rowW 78 (by omega) (by omega) (by omega)])⟩
    by_cases z : b' = b
    · subst z
      have e115 : V.1 115 b' = 1 := by rw [w4 115 (by omega), sI_self]; rfl
      have e36 : V.1 (36 + 5 * b') 0 = 1 := by rw [w4 _ (by omega), sI_row (by omega), sI_self]
      refine ⟨e36.trans e115.symm, Or.inr e115, fun _ => ⟨xl.1.c fun k hk => w2 k (by omega), xl.2.c (fun k hk => ?_) fun k hk => w2 k (by omega)⟩⟩
      rw [← loV k hk]
      exact congrFun (lo_row fun h q1 q2 => by rw [w4 h (by omega), sI_row (by omega)]) k
    · have e115 : V.1 115 b' = S.1 115 b' := by rw [w4 115 (by omega), sI_at, if_neg (by omega), rowV 115 (by omega)]
      obtain ⟨o1, o2, o3⟩ := xb b' hb'
      have el : lo V (36 + 5 * b') = lo S (36 + 5 * b') := lo_row fun h q1 q2 => rowW h (by omega) (by omega) (by omega)
      rw [e115, rowW (36 + 5 * b') (by omega) (by omega) (by omega), el]
      refine ⟨o1, o2, fun q => ⟨(o3 q).1.c fun k hk => w3 _ (by omega), (o3 q).2.c (fun _ _ => rfl) fun k hk => w3 _ (by omega)⟩⟩
  · refine ⟨-1, S, S, ?_, ?_, h⟩
    · unfold fN_image; rw [if_neg c1, if_neg (show ¬ p < Int32.ofNat 3 from c2)]
    · unfold fM_image fM_isBox; rw [if_neg c1, if_pos (Int32.not_lt.mp c2), bd_some, if_pos rfl]
theorem back_2 (hF : 100000 ≤ F) (hG : 20 ≤ G) (h : J2 S) (p : Int32) : ∃ v S1 S2, fN_back F G S p = some (v, S1) ∧ fM_back F G S1 p = some (v, S2) ∧ J2 S2 := by
  obtain ⟨hJ, h3, nn, n1, n48, xl, xa, xb, xw⟩ := id h
  by_cases c1 : p < 0
  · refine ⟨-1, S, S, ?_, ?_, h⟩
    · unfold fN_back fN_isKept; rw [if_pos c1, bd_some, if_pos rfl]
    · unfold fM_back fM_isBox; rw [if_pos c1, bd_some, if_pos rfl]
  by_cases c2 : p < 3
  · obtain ⟨b, rfl, hb⟩ : ∃ b, p = nI b ∧ b < 3 := by
      obtain ⟨b, e, hb⟩ := iv_nat (u := 2) (iv_02 c1 c2)
      exact ⟨b, e, by omega⟩
    have g3 : inB (nI b) 3 = true := inB_nI hb (by decide)
    have c2' : ¬ Int32.ofNat 3 ≤ nI b := Int32.not_le.mpr c2
    obtain ⟨o1, o2, o3⟩ := xb b hb
    by_cases c3 : S.1 115 b = 0
    · refine ⟨-1, S, S, ?_, ?_, h⟩
      · unfold fN_back fN_isKept; rw [if_neg c1, if_neg c2', gd_t g3, nI_clamp (by omega), if_pos (o1.trans c3), bd_some, if_pos rfl]
      · unfold fM_back fM_isBox; rw [if_neg c1, if_neg (Int32.not_le.mpr c2), bd_some, if_neg (by decide), gd_t g3, nI_clamp (by omega), if_pos c3]
    obtain ⟨v1, v2⟩ := o3 c3
    have la : isLa (36 + 5 * b) = true := by rcases (by omega : b = 0 ∨ b = 1 ∨ b = 2) with rfl | rfl | rfl <;> rfl
    obtain ⟨U, u1, u2, u3, u4, u5⟩ := copy_x (F := F) (G := G) (S := S) hF (show isLa 30 = true from rfl) la (by omega)
    have rowV : ∀ h, ¬ (30 ≤ h ∧ h ≤ 34) → h ≠ 51 → (sI (sI U 51 0 0) 51 1 0).1 h = S.1 h := fun h q1 q2 => by rw [sI_row q2, sI_row q2]; exact u5 h q1
    have loV : ∀ k, k ≤ 40 → lo (sI (sI U 51 0 0) 51 1 0) 30 k = lo S (36 + 5 * b) k := fun k hk => by
      rw [← u3 k hk]
      exact congrFun (lo_row fun h q1 q2 => by rw [sI_row (by omega), sI_row (by omega)]) k
    have hz : ∀ i, nn ≤ i → i < 10 → (sI (sI U 51 0 0) 51 1 0).1 31 i = 0 := fun i i1 i2 => by
      have := v2.2.2 i i1 i2
      rw [← loV i (by omega), lo_0 i2] at this; exact this
    obtain ⟨x, x1, x2⟩ := N_given (F := F) (G := G) (S := sI (sI U 51 0 0) 51 1 0) hF n1 hz
    have hS1 : fN_back F G S (nI b) = some (nI (cnt (gvn (sI (sI U 51 0 0) 51 1 0)) nn), sI (sI U 51 0 0) 51 1 0) := by
      unfold fN_back fN_isKept fC_forget
      rw [if_neg c1, if_neg c2', gd_t g3, nI_clamp (by omega), if_neg (fun z => c3 (o1.symm.trans z)), bd_some, if_neg (by decide), gd_t g3, u1, bd_some, lt_eq, lt_eq, bd_some, x1, bd_some, x2, bd_some]
    obtain ⟨r1, S1', y1, k1⟩ := c_back (p1 := nI b) hF hG hJ.1
    obtain ⟨-, e1⟩ := Prod.mk.inj (Option.some.inj (hS1.symm.trans y1))
    rw [← e1] at k1
    obtain ⟨V, w1, w2, w3⟩ := cp2 (bod := b_M_back_20 F G (nI b) (fun S13 => lt (sI S13 78 63 (0 : Int32)) fun S14 => lt (sI S14 78 64 (0 : Int32)) fun S16 => bd (fM_played F G S16) fun v19 => some (v19, S16))) (k := fun S13 => lt (sI S13 78 63 (0 : Int32)) fun S14 => lt (sI S14 78 64 (0 : Int32)) fun S16 => bd (fM_played F G S16) fun v19 => some (v19, S16)) (N := 41) (fun n V => (∀ k, k < n → V.1 100 k = S.1 116 (41 * b + k)) ∧ ∀ h, h ≠ 100 → V.1 h = (sI (sI U 51 0 0) 51 1 0).1 h)
      (fun rec V _ => by
        unfold b_M_back_20
        rw [if_pos (by decide)])
      (fun rec i V hi hP => by
        obtain ⟨p1, p3⟩ := hP
        unfold b_M_back_20
        rw [if_neg (show ¬ (41 : Int32) ≤ nI i from nI_ge (b := 41) hi (by decide)), show (41 : Int32) * nI b + nI i = nI (41 * b + i) by rw [show (41 : Int32) = nI 41 from rfl, nI_mulN, nI_add], gd_t (inB_nI (by omega) (by decide)), gd_t (inB_nI hi (by decide)), lt_eq, lt_eq, nI_1, nI_clamp (by omega), nI_clamp (by omega)]
        refine ⟨_, rfl, fun k hk => ?_, fun h q => ?_⟩
        · rw [sI_at]
          by_cases z : k = i
          · rw [if_pos ⟨rfl, z⟩, p3 116 (by omega), rowV 116 (by omega) (by omega), z]
          · rw [if_neg (by omega)]; exact p1 k (by omega)
        · rw [sI_row q]; exact p3 h q)
      41 0 F (sI (sI U 51 0 0) 51 1 0) rfl (by omega) (by omega) ⟨fun k hk => by omega, fun _ _ => rfl⟩
    have rowW : ∀ h, ¬ (30 ≤ h ∧ h ≤ 34) → h ≠ 51 → h ≠ 78 → h ≠ 100 → (sI (sI V 78 63 0) 78 64 0).1 h = S.1 h := fun h q1 q2 q3 q4 => by rw [sI_row q3, sI_row q3, w3 h q4]; exact rowV h q1 q2
    have c78 : ∀ k, k ≠ 63 → k ≠ 64 → (sI (sI V 78 63 0) 78 64 0).1 78 k = S.1 78 k := fun k q1 q2 => by rw [sI_at, if_neg (by omega), sI_at, if_neg (by omega), w3 78 (by omega), rowV 78 (by omega) (by omega)]
    have r48 : (sI (sI V 78 63 0) 78 64 0).1 78 48 = nI nn := by rw [c78 48 (by omega) (by omega)]; exact n48
    have r100 : ∀ k, k ≤ 40 → (sI (sI V 78 63 0) 78 64 0).1 100 k = S.1 116 (41 * b + k) := fun k hk => by rw [sI_row (by omega), sI_row (by omega)]; exact w2 k (by omega)
    have lo2 : ∀ k, k ≤ 40 → lo (sI (sI V 78 63 0) 78 64 0) 30 k = lo S (36 + 5 * b) k := fun k hk => by
      rw [← loV k hk]
      exact congrFun (lo_row fun h q1 q2 => by rw [sI_row (by omega), sI_row (by omega), w3 h (by omega)]) k
    have xl2 : CpL nn (sI (sI V 78 63 0) 78 64 0) := ⟨v1.c r100, v2.c lo2 r100⟩
    have gs : gvn (sI (sI V 78 63 0) 78 64 0) = gvn (sI (sI U 51 0 0) 51 1 0) := funext fun i => by unfold gvn; rw [sI_row (by omega), sI_row (by omega), w3 31 (by omega)]
    have hS2 : fM_back F G (sI (sI U 51 0 0) 51 1 0) (nI b) = some (nI (cnt (gvn (sI (sI U 51 0 0) 51 1 0)) nn), sI (sI V 78 63 0) 78 64 0) := by
      unfold fM_back fM_isBox
      rw [if_neg c1, if_neg (Int32.not_le.mpr c2), bd_some, if_neg (by decide), gd_t g3, nI_clamp (by omega), rowV 115 (by omega) (by omega), if_neg c3]
      refine w1.trans ?_
      rw [lt_eq, lt_eq, M_played_x hF r48 n1, bd_some]
      rcases many_x xl2 with q | q
      · rw [← q, gs]
      · omega
    obtain ⟨r2, S2', y2, k2⟩ := m_back (p1 := nI b) hF hG (k1.good hJ.1)
    obtain ⟨-, e2⟩ := Prod.mk.inj (Option.some.inj (hS2.symm.trans y2))
    rw [← e2] at k2
    refine ⟨_, _, _, hS1, hS2, h.ch k1 k2 ?_⟩
    have r51 : (sI (sI V 78 63 0) 78 64 0).1 51 = (sI (sI U 51 0 0) 51 1 0).1 51 := by rw [sI_row (by omega), sI_row (by omega), w3 51 (by omega)]
    refine ⟨nn, n1, r48, xl2, ⟨0, 0, Nat.le_refl _, by omega, ?_, ?_, ?_, ?_, fun j hj => ?_, fun j hj => by omega⟩, xb.fr fun h q => rowW h (by omega) (by omega) (by omega) (by omega), xw.fr (fun h q => rowW h (by omega) (by omega) (by omega) (by omega)) (by rw [rowW 69 (by omega) (by omega) (by omega) (by omega)]) (c78 74 (by omega) (by omega))⟩
    · rw [r51, sI_at, if_neg (by omega), sI_self]; rfl
    · rw [r51, sI_self]; rfl
    · rw [sI_at, if_neg (by omega), sI_self]; rfl
    · rw [sI_self]; rfl
    · have e : j = 0 := by omega
      subst e
      refine xl2.1.c fun k hk => ?_
      unfold wr
      rw [if_neg (by omega), if_pos rfl]
  · refine ⟨-1, S, S, ?_, ?_, h⟩
    · unfold fN_back fN_isKept; rw [if_neg c1, if_pos (show Int32.ofNat 3 ≤ p from Int32.not_lt.mp c2), bd_some, if_pos rfl]
    · unfold fM_back fM_isBox; rw [if_neg c1, if_pos (Int32.not_lt.mp c2), bd_some, if_pos rfl]
end BX
