/-! giveway: who must give way -/
/-- less missed: fewer, or as many and less missed -/
def lsM (C : St) (nn : Nat) (x y : Int32) : Bool := decide (nI (cnt (bt x) 12) < nI (cnt (bt y) 12)) || (decide (nI (cnt (bt x) 12) = nI (cnt (bt y) 12)) && decide (mbF C nn x < mbF C nn y))
def gvA (C : St) (nn : Nat) : Int32 := giv C nn 1 ||| giv C nn 2
def gwP (C : St) (nn bs n : Nat) (q x : Int32) : Bool := canP (clS C nn (kyC C) (mvL C nn n q &&& (x ^^^ (-1))) (mvR C nn n q &&& (x ^^^ (-1)))) bs
def gwF (C : St) (nn bs n : Nat) (q : Int32) : Nat → Int32
  | 0 => -1
  | s + 1 => if nI s &&& (gvA C nn ^^^ (-1)) = 0 ∧ (gwF C nn bs n q s = -1 ∨ lsM C nn (nI s) (gwF C nn bs n q s) = true) ∧ gwP C nn bs n q (nI s) = true then nI s else gwF C nn bs n q s
theorem gw_or {C : St} {nn bs n : Nat} {q : Int32} : ∀ s, gwF C nn bs n q s = -1 ∨ ∃ t, t < s ∧ gwF C nn bs n q s = nI t
  | 0 => Or.inl rfl
  | s + 1 => by
    rw [gwF]
    by_cases c : nI s &&& (gvA C nn ^^^ (-1)) = 0 ∧ (gwF C nn bs n q s = -1 ∨ lsM C nn (nI s) (gwF C nn bs n q s) = true) ∧ gwP C nn bs n q (nI s) = true
    · rw [if_pos c]; exact Or.inr ⟨s, by omega, rfl⟩
    · rw [if_neg c]
      rcases gw_or (C := C) (nn := nn) (bs := bs) (n := n) (q := q) s with e | ⟨t, t1, t2⟩
      · exact Or.inl e
      · exact Or.inr ⟨t, by omega, t2⟩
/-- a number below a power of two, as a set -/
theorem Sub.num {s n : Nat} (hs : s < 2 ^ n) (hn : n ≤ 31) : Sub (nI s) n := fun i h1 h2 => by
  have p31 : 2 ^ n ≤ 2 ^ 31 := Nat.pow_le_pow_right (by decide) hn
  have e : (nI s).toBitVec = BitVec.ofNat 32 s := rfl
  show (nI s).toBitVec.getLsbD i = false
  rw [e, BitVec.getLsbD_ofNat]
  have : s.testBit i = false := Nat.testBit_lt_two_pow (Nat.lt_of_lt_of_le hs (Nat.pow_le_pow_right (by decide) h1))
  rw [this, Bool.and_false]
theorem sub_le {s g : Nat} (hs : s < 2 ^ 31) (hg : g < 2 ^ 31) (h : nI s &&& (nI g ^^^ (-1)) = 0) : s ≤ g := by
  have e : nI s &&& nI g = nI s := by
    apply bt_ext
    intro i hi
    rw [and0] at h
    have := h i hi
    rw [bt_not _ hi] at this
    rw [bt_and]
    cases e1 : bt (nI s) i
    · rfl
    · rw [e1] at this
      cases e2 : bt (nI g) i
      · rw [e2] at this; exact absurd this (by decide)
      · rfl
  have k := iv_andR (x := nI s) (y := nI g) (l1 := 0) (u1 := (g : Int)) (u := (g : Int)) ⟨by rw [nI_toInt hg]; omega, by rw [nI_toInt hg]; omega⟩ (by simp only [Bool.and_eq_true, qle, decide_eq_true_eq]; omega)
  rw [e] at k
  have := k.2
  rw [nI_toInt hs] at this
  omega
section GW
variable {F G : Nat} {C S T U V : St} {nn bs n : Nat}
theorem giv_sub {q : Int32} (hn : nn ≤ 10) : Sub (giv C nn q) nn := Sub.mset (by omega)
theorem A_together (hF : 100000 ≤ F) (h1 : T.1 57 1 = nI nn) (hn : nn ≤ 10) (hm : ∀ j, j < nn → T.1 62 j = misF C nn j) (x : Int32) : fA_missedTogether F G T x = some (mbF C nn x) := by
  unfold fA_missedTogether mbF
  refine for_sum (N := nn) (k := some) (by omega) (fun j => if bt x j then misF C nn j else 0) (fun rec a => by unfold b_A_missedTogether_4; rw [h1, if_pos (nI_le (Nat.le_refl nn) (by omega))]) (fun rec a j hj => ?_) (by omega)
  unfold b_A_missedTogether_4
  rw [h1, if_neg (nI_ge hj (by omega)), gd_t (inB_nI (by omega) (by decide)), nI_clamp (by omega), hm j hj]
  simp only [lt_eq, nI_1]
  cases e : bt x j
  · rw [if_pos ((bit_0 _ (by omega)).mpr e), if_neg (show ¬ false = true by decide)]
  · rw [if_neg (bit_n0 (by omega) e), if_pos rfl]
theorem A_less (hF : 100000 ≤ F) (h1 : T.1 57 1 = nI nn) (hn : nn ≤ 10) (hm : ∀ j, j < nn → T.1 62 j = misF C nn j) {x y : Int32} (hx : Sub x nn) (hy : Sub y nn) : fA_isLessMissed F G T x y = some (b2i (lsM C nn x y)) := by
  unfold fA_isLessMissed lsM
  rw [bc_Sub hx (by omega), bd_some, bc_Sub hy (by omega), bd_some, A_together hF h1 hn hm, bd_some, A_together hF h1 hn hm, bd_some]
  by_cases c1 : nI (cnt (bt x) 12) < nI (cnt (bt y) 12)
  · rw [if_pos c1, decide_eq_true c1]; rfl
  · rw [if_neg c1, decide_eq_false c1]
    by_cases c2 : nI (cnt (bt x) 12) = nI (cnt (bt y) 12)
    · rw [if_pos c2, decide_eq_true c2]
      by_cases c3 : mbF C nn y ≤ mbF C nn x
      · rw [if_pos c3, decide_eq_false (Int32.not_lt.mpr c3)]; rfl
      · rw [if_neg c3, decide_eq_true (Int32.not_le.mp c3)]; rfl
    · rw [if_neg c2, decide_eq_false c2]; rfl
theorem KD.cls (k : KD C T nn bs) {l r : Int32} {b : Nat} (hb : b < bs) : clK T nn l r b = clS C nn (kyC C) l r b := by
  obtain ⟨⟨k1, k2, k3, k4, k5, k6⟩, s2, s3, s4, s5, s6, s7, s8, s9⟩ := k
  unfold clK clS
  rw [s2, s3, s4, s9 b hb, ahd_c (g := hdl C nn) (fun c hc => s9 c (by omega))]
  exact clB_c fun i hi => (s8 i hi).1
theorem A_fewest (hF : 100000 ≤ F) (k : KD C T nn bs) (hm : ∀ j, j < nn → T.1 62 j = misF C nn j) {q : Int32} (hq : q = 1 ∨ q = 2) : fA_fewestInTheWay F G T (nI n) q = some (gwF C nn bs n q (2 ^ nn)) := by
  have n10 := k.1.1
  have p1024 := pow10 n10
  have h1 := k.1.2.2.2.1
  have lp : ∀ l r, l = mvL C nn n q → r = mvR C nn n q → fx2 (b_A_fewestInTheWay_66 F G T l r (gvA C nn)) F (-1) 0 = some (gwF C nn bs n q (2 ^ nn)) := fun l r hl hr => by
    subst hl; subst hr
    refine for_g (body := b_A_fewestInTheWay_66 F G T (mvL C nn n q) (mvR C nn n q) (gvA C nn)) (N := 2 ^ nn) (i0 := 0) (k := some) (gwF C nn bs n q) (fun rec => ?_) (fun rec s _ hs => ?_) (2 ^ nn) 0 F rfl (by omega) (Nat.zero_le _) (by omega)
    · unfold b_A_fewestInTheWay_66
      rw [h1, shl_p (by omega), if_pos (nI_le (Nat.le_refl _) (by omega))]
    · have cp : canP (clK T nn (mvL C nn n q &&& (nI s ^^^ (-1))) (mvR C nn n q &&& (nI s ^^^ (-1)))) bs = gwP C nn bs n q (nI s) := canP_c fun b hb => k.cls hb
      unfold b_A_fewestInTheWay_66 j_A_fewestInTheWay_107 j_A_fewestInTheWay_111 j_A_fewestInTheWay_112
      rw [h1, shl_p (by omega), if_neg (nI_ge hs (by omega)), K_canBe hF k.1, bd_some, cp, gwF]
      simp only [lt_eq, nI_1, if_true]
      rw [if_neg (show ¬ (1 : Int32) = 0 by decide)]
      by_cases c1 : nI s &&& (gvA C nn ^^^ (-1)) = 0
      · rw [if_pos c1]
        have try_ : (gwF C nn bs n q s = -1 ∨ lsM C nn (nI s) (gwF C nn bs n q s) = true) → (if b2i (gwP C nn bs n q (nI s)) = 0 then rec (gwF C nn bs n q s) (nI (s + 1)) else rec (nI s) (nI (s + 1))) = rec (if nI s &&& (gvA C nn ^^^ (-1)) = 0 ∧ (gwF C nn bs n q s = -1 ∨ lsM C nn (nI s) (gwF C nn bs n q s) = true) ∧ gwP C nn bs n q (nI s) = true then nI s else gwF C nn bs n q s) (nI (s + 1)) := fun z => by
          cases e : gwP C nn bs n q (nI s)
          · rw [if_pos (show b2i false = 0 from rfl), if_neg (fun y => absurd y.2.2 (by decide))]
          · rw [if_neg (show ¬ b2i true = 0 by decide), if_pos ⟨c1, z, rfl⟩]
        by_cases c2 : gwF C nn bs n q s = -1
        · rw [if_pos c2]; exact try_ (Or.inl c2)
        · rw [if_neg c2]
          obtain ⟨t, t1, t2⟩ : ∃ t, t < s ∧ gwF C nn bs n q s = nI t := by
            rcases gw_or (C := C) (nn := nn) (bs := bs) (n := n) (q := q) s with e | e
            · exact absurd e c2
            · exact e
          rw [A_less hF h1 n10 hm (Sub.num hs (by omega)) (by rw [t2]; exact Sub.num (by omega) (by omega)), bd_some]
          cases e : lsM C nn (nI s) (gwF C nn bs n q s)
          · rw [if_pos (show b2i false = 0 from rfl), if_neg (fun y => y.2.1.elim c2 (fun z => absurd z (by decide)))]
          · rw [if_neg (show ¬ b2i true = 0 by decide)]
            have := try_ (Or.inr e)
            rw [e] at this; exact this
      · rw [if_neg c1, if_neg (fun y => c1 y.1)]
  unfold fA_fewestInTheWay j_A_fewestInTheWay_19 j_A_fewestInTheWay_40
  rw [k.2.2.2.2.1, k.2.2.2.2.2.1]
  simp only [lt_eq]
  rcases hq with e | e
  · have n2 : ¬ q = 2 := by rw [e]; decide
    rw [if_pos e, if_neg n2, Int32.or_zero]
    exact lp _ _ (by unfold mvL; rw [if_pos e]) (by unfold mvR; rw [if_neg n2])
  · have n1 : ¬ q = 1 := by rw [e]; decide
    rw [if_neg n1, if_pos e, Int32.or_zero]
    exact lp _ _ (by unfold mvL; rw [if_neg n1]) (by unfold mvR; rw [if_pos e])
theorem gw_top {gm : Nat} {q : Int32} (hn : nn ≤ 10) (hg : gvA C nn = nI gm) (hgm : gm < 2 ^ nn) : gwF C nn bs n q (2 ^ nn) = gwF C nn bs n q (gm + 1) := by
  have p1024 := pow10 hn
  have up : ∀ d, gm + 1 + d ≤ 2 ^ nn → gwF C nn bs n q (gm + 1 + d) = gwF C nn bs n q (gm + 1) := by
    intro d
    induction d with
    | zero => intro _; rfl
    | succ d ih =>
      intro h
      show (if nI (gm + 1 + d) &&& (gvA C nn ^^^ (-1)) = 0 ∧ _ then _ else gwF C nn bs n q (gm + 1 + d)) = _
      rw [if_neg (fun z => by
        have z1 := z.1
        rw [hg] at z1
        have := sub_le (s := gm + 1 + d) (g := gm) (by omega) (by omega) z1
        omega), ih (by omega)]
  have := up (2 ^ nn - (gm + 1)) (by omega)
  rw [show gm + 1 + (2 ^ nn - (gm + 1)) = 2 ^ nn by omega] at this
  exact this
theorem giveway_ok (hF : 100000 ≤ F) (hG : 20 ≤ G) (h : J2 S) (p q z : Int32) : ∃ v S1 S2, fN_giveway F G S p q z = some (v, S1) ∧ fM_giveway F G S1 p q z = some (v, S2) ∧ J2 S2 := by
  obtain ⟨nn, bs, nb⟩ := h.nb
  have n10 := nb.1
  have bs12 := nb.2.2.1
  have p1024 := pow10 n10
  obtain ⟨w, a1, a2, a3⟩ := out_x (F := F) (G := G) (S := S) h rfl (fun _ _ _ => rfl) p
  obtain ⟨y, b1, b2, b3⟩ := hand_x (F := F) (G := G) (C := S) (S := S) q
  by_cases c1 : w = 0
  · refine ⟨-1, S, S, ?_, ?_, h⟩
    · unfold fN_giveway; rw [a1, bd_some, if_pos c1]
    · unfold fM_giveway; rw [a2, bd_some, if_pos c1]
  by_cases c2 : y = 0
  · refine ⟨-1, S, S, ?_, ?_, h⟩
    · unfold fN_giveway; rw [a1, bd_some, if_neg c1, b1, bd_some, if_pos c2]
    · unfold fM_giveway; rw [a2, bd_some, if_neg c1, b2, bd_some, if_pos c2]
  by_cases c3 : z < 0
  · refine ⟨-1, S, S, ?_, ?_, h⟩
    · unfold fN_giveway; rw [a1, bd_some, if_neg c1, b1, bd_some, if_neg c2, if_pos c3]
    · unfold fM_giveway; rw [a2, bd_some, if_neg c1, b2, bd_some, if_neg c2, M_isIn, bd_some, if_pos (in_y1 c3)]
  by_cases c4 : z ≤ 1
  · obtain ⟨n, rfl, hn, h0⟩ := out_0 h nb a1 c1
    have hq := b3 c2
    obtain ⟨T0, t1, t2, t3⟩ := look_I (F := F) (G := G) hF hG h nb
    obtain ⟨T, s1, s2, s3, s4⟩ := C_weigh (F := F) (G := G) hF hG h nb t2 t3
    obtain ⟨U, u1, u2, u3⟩ := fill_I (F := F) (G := G) hF hG nb s3
    obtain ⟨V, v1, v2, v3, v4⟩ := M_weigh (F := F) (G := G) hF hG h nb u2 u3
    obtain ⟨w', a1', a2', -⟩ := out_x (F := F) (G := G) (S := T) h (by rw [s3.2.2.1]) s3.2.2.2 (nI n)
    rw [← Option.some.inj (a1.symm.trans a1')] at a2'
    have b2' : fM_isHand F G T q = some y := b2
    have i4 : Inv S (sI V 101 n q) := v3.stN rfl rfl
    -- the sets of the reference
    have back10 : sI (sI V 101 (10 + n) (V.1 101 (10 + n))) 101 n q = sI V 101 n q := by
      have : sI V 101 (10 + n) (V.1 101 (10 + n)) = V := by
        refine Prod.ext (funext fun h' => funext fun k' => ?_) rfl
        rw [sI_at]
        by_cases c : h' = 101 ∧ k' = 10 + n
        · rw [if_pos c, c.1, c.2]
        · rw [if_neg c]
      rw [this]
    obtain ⟨g1, g2⟩ := given_mv v2 hn h0 (x := V.1 101 (10 + n)) hq
    rw [back10] at g1 g2
    have r78 : ∀ k, (sI V 101 n q).1 78 k = V.1 78 k := fun k => by rw [sI_row (by omega)]
    have r107 : (sI V 101 n q).1 107 = V.1 107 := sI_row (by omega)
    have e48 : (sI V 101 n q).1 78 48 = nI nn := (r78 48).trans v2.2.2.1
    have e46 : (sI V 101 n q).1 78 46 = nI bs := (r78 46).trans v2.2.2.2.1
    have may : (mvL S nn n q ||| mvR S nn n q) &&& (((1 : Int32) <<< (nI n &&& 31)) ^^^ (-1)) = gvA S nn := by
      apply bt_ext
      intro i hi
      have gL : bt (mvL S nn n q) i = (bt (giv S nn 1) i || (decide (q = 1) && decide (i = n))) := by
        unfold mvL
        by_cases e : q = 1
        · rw [if_pos e, bt_or, bt_one (by omega) hi, decide_eq_true e, Bool.true_and]
        · rw [if_neg e, decide_eq_false e, Bool.false_and, Bool.or_false]
      have gR : bt (mvR S nn n q) i = (bt (giv S nn 2) i || (decide (q = 2) && decide (i = n))) := by
        unfold mvR
        by_cases e : q = 2
        · rw [if_pos e, bt_or, bt_one (by omega) hi, decide_eq_true e, Bool.true_and]
        · rw [if_neg e, decide_eq_false e, Bool.false_and, Bool.or_false]
      unfold gvA
      rw [bt_and, bt_not _ hi, bt_one (by omega) hi, bt_or, bt_or, gL, gR]
      by_cases e : i = n
      · have o1 : bt (giv S nn 1) i = false := by
          unfold giv
          rw [bt_mset _ (by omega) hi, e, h0, decide_eq_false (show ¬ (0 : Int32) = 1 by decide), Bool.and_false]
        have o2 : bt (giv S nn 2) i = false := by
          unfold giv
          rw [bt_mset _ (by omega) hi, e, h0, decide_eq_false (show ¬ (0 : Int32) = 2 by decide), Bool.and_false]
        rw [o1, o2, decide_eq_true e, Bool.not_true, Bool.and_false]; rfl
      · rw [decide_eq_false e, Bool.and_false, Bool.and_false, Bool.or_false, Bool.or_false, Bool.not_false, Bool.and_true]
    obtain ⟨gm, gm1, gm2⟩ := small_bt (x := gvA S nn) (n := nn) (by omega) ((giv_sub n10).or (giv_sub n10))
    have cl : ∀ l r, canP (clM (sI V 101 n q) nn l r ((sI V 101 n q).1 78 50) ((sI V 101 n q).1 78 49)) bs = canP (clS S nn (kyC S) l r) bs := fun l r => canP_c fun b hb => by
      have r102 : (sI V 101 n q).1 102 = V.1 102 := sI_row (by omega)
      unfold clM clS
      rw [r78, r78, r78, r102, v2.2.2.2.2.2.2 78 50 rfl, v2.2.2.2.2.2.2 78 49 rfl, v2.2.2.2.2.2.2 78 51 rfl, v2.at hb, ahd_c (f := V.1 102) (g := hdl S nn) (fun c hc => v2.at (by omega))]
      exact clB_c fun i hi => by rw [sI_at, if_neg (by omega)]; exact v2.ky hi
    have hm107 : ∀ j, j < nn → (sI V 101 n q).1 107 j = misF S nn j := fun j hj => by rw [r107]; exact v4 j hj
    have lp : ∀ kk : Int32 → Option (Int32 × St), fx2 (b_M_giveway_74 F G (sI V 101 n q) z (mvL S nn n q) (mvR S nn n q) (nI gm) kk) F (-1) 0 = kk (gwF S nn bs n q (2 ^ nn)) := fun kk => by
      rw [gw_top n10 gm2 gm1]
      refine for_g (body := b_M_giveway_74 F G (sI V 101 n q) z (mvL S nn n q) (mvR S nn n q) (nI gm) kk) (N := gm + 1) (i0 := 0) (k := kk) (gwF S nn bs n q) (fun rec => ?_) (fun rec s _ hs => ?_) (gm + 1) 0 F rfl (by omega) (Nat.zero_le _) (by omega)
      · unfold b_M_giveway_74
        rw [if_pos ((nI_lt_i (by omega) (by omega)).mpr (by omega))]
      · unfold b_M_giveway_74 j_M_giveway_140
        rw [if_neg (fun e => by have := (nI_lt_i (by omega) (by omega)).mp e; omega), M_canBePlayed (n := nn) (bs := bs) e48 n10 e46 bs12 (by omega), bd_some, cl, M_members (by omega), bd_some, M_members (by omega), bd_some, bd_some, bd_some, M_missedBy hF e48 n10 hm107, bd_some, M_missedBy hF e48 n10 hm107, bd_some, gwF, ← gm2]
        simp only [lt_eq, nI_1]
        show (if nI s &&& (gvA S nn ^^^ (-1)) = 0 then if gwF S nn bs n q s < 0 then (if b2i (gwP S nn bs n q (nI s)) = 0 then rec (gwF S nn bs n q s) (nI (s + 1)) else rec (nI s) (nI (s + 1))) else if nI (cnt (bt (gwF S nn bs n q s)) 12) < nI (cnt (bt (nI s)) 12) then rec (gwF S nn bs n q s) (nI (s + 1)) else if nI (cnt (bt (nI s)) 12) = nI (cnt (bt (gwF S nn bs n q s)) 12) then (if mbF S nn (nI s) < mbF S nn (gwF S nn bs n q s) then (if b2i (gwP S nn bs n q (nI s)) = 0 then rec (gwF S nn bs n q s) (nI (s + 1)) else rec (nI s) (nI (s + 1))) else rec (gwF S nn bs n q s) (nI (s + 1))) else (if b2i (gwP S nn bs n q (nI s)) = 0 then rec (gwF S nn bs n q s) (nI (s + 1)) else rec (nI s) (nI (s + 1))) else rec (gwF S nn bs n q s) (nI (s + 1))) = _
        by_cases c1 : nI s &&& (gvA S nn ^^^ (-1)) = 0
        · rw [if_pos c1]
          have try_ : (gwF S nn bs n q s = -1 ∨ lsM S nn (nI s) (gwF S nn bs n q s) = true) → (if b2i (gwP S nn bs n q (nI s)) = 0 then rec (gwF S nn bs n q s) (nI (s + 1)) else rec (nI s) (nI (s + 1))) = rec (if nI s &&& (gvA S nn ^^^ (-1)) = 0 ∧ (gwF S nn bs n q s = -1 ∨ lsM S nn (nI s) (gwF S nn bs n q s) = true) ∧ gwP S nn bs n q (nI s) = true then nI s else gwF S nn bs n q s) (nI (s + 1)) := fun z => by
            cases e : gwP S nn bs n q (nI s)
            · rw [if_pos (show b2i false = 0 from rfl), if_neg (fun y => absurd y.2.2 (by decide))]
            · rw [if_neg (show ¬ b2i true = 0 by decide), if_pos ⟨c1, z, rfl⟩]
          rcases gw_or (C := S) (nn := nn) (bs := bs) (n := n) (q := q) s with e | ⟨t, t1, t2⟩
          · rw [if_pos (by rw [e]; decide)]; exact try_ (Or.inl e)
          · have nm : ¬ gwF S nn bs n q s = -1 := by rw [t2]; exact nI_m1 (by omega)
            rw [if_neg (by rw [t2]; exact nI_nn (by omega))]
            have skip : lsM S nn (nI s) (gwF S nn bs n q s) = false → rec (gwF S nn bs n q s) (nI (s + 1)) = rec (if nI s &&& (gvA S nn ^^^ (-1)) = 0 ∧ (gwF S nn bs n q s = -1 ∨ lsM S nn (nI s) (gwF S nn bs n q s) = true) ∧ gwP S nn bs n q (nI s) = true then nI s else gwF S nn bs n q s) (nI (s + 1)) := fun e => by
              rw [if_neg (fun y => y.2.1.elim nm (fun z => by rw [e] at z; exact absurd z (by decide)))]
            by_cases d1 : nI (cnt (bt (gwF S nn bs n q s)) 12) < nI (cnt (bt (nI s)) 12)
            · rw [if_pos d1]
              refine skip ?_
              unfold lsM
              have n1 : ¬ nI (cnt (bt (nI s)) 12) < nI (cnt (bt (gwF S nn bs n q s)) 12) := fun y => by
                rw [Int32.lt_iff_toInt_lt] at y d1; omega
              have n2 : ¬ nI (cnt (bt (nI s)) 12) = nI (cnt (bt (gwF S nn bs n q s)) 12) := fun y => by
                rw [y, Int32.lt_iff_toInt_lt] at d1; omega
              rw [decide_eq_false n1, decide_eq_false n2]; rfl
            · rw [if_neg d1]
              by_cases d2 : nI (cnt (bt (nI s)) 12) = nI (cnt (bt (gwF S nn bs n q s)) 12)
              · rw [if_pos d2]
                have n1 : ¬ nI (cnt (bt (nI s)) 12) < nI (cnt (bt (gwF S nn bs n q s)) 12) := fun y => by
                  rw [d2, Int32.lt_iff_toInt_lt] at y; omega
                by_cases d3 : mbF S nn (nI s) < mbF S nn (gwF S nn bs n q s)
                · rw [if_pos d3]
                  refine try_ (Or.inr ?_)
                  unfold lsM
                  rw [decide_eq_true d2, decide_eq_true d3, Bool.and_true, Bool.or_true]
                · rw [if_neg d3]
                  refine skip ?_
                  unfold lsM
                  rw [decide_eq_false n1, decide_eq_false d3, Bool.and_false]; rfl
              · rw [if_neg d2]
                refine try_ (Or.inr ?_)
                have n1 : nI (cnt (bt (nI s)) 12) < nI (cnt (bt (gwF S nn bs n q s)) 12) := by
                  have d2' : ¬ (nI (cnt (bt (nI s)) 12)).toInt = (nI (cnt (bt (gwF S nn bs n q s)) 12)).toInt := fun y => d2 (Int32.toInt_inj.mp y)
                  rw [Int32.lt_iff_toInt_lt] at d1 ⊢; omega
                unfold lsM
                rw [decide_eq_true n1, Bool.true_or]
        · rw [if_neg c1, if_neg (fun y => c1 y.1)]
    -- the answers
    rcases gw_or (C := S) (nn := nn) (bs := bs) (n := n) (q := q) (2 ^ nn) with e | ⟨t, e1, e2⟩
    · refine ⟨-1, T, sI V 101 n q, ?_, ?_, h.q i4⟩
      · unfold fN_giveway
        rw [a1, bd_some, if_neg c1, b1, bd_some, if_neg c2, if_neg c3, if_pos c4, t1, bd_some, s1, bd_some, A_fewest hF s2 s4 hq, bd_some, e, if_pos rfl]
        by_cases d : z = 0
        · rw [if_pos d]
        · rw [if_neg d]
      · unfold fM_giveway
        rw [a2', bd_some, if_neg c1, b2', bd_some, if_neg c2, M_isIn, bd_some, if_neg (in_no c3 (Int32.not_lt.mpr c4)), u1, bd_some, v1, bd_some, gd_t (inB_nI (show n < 41 by omega) (by decide)), lt_eq, nI_clamp (n := n) (by omega), M_given e48 n10 (by omega), bd_some, M_given e48 n10 (by omega), bd_some, lt_eq, g1, g2, may, gm2, lp, e]
        rfl
    · have sb : Sub (nI t) nn := Sub.num e1 (by omega)
      refine ⟨if z = 0 then nI (cnt (bt (nI t)) 12) else nI t, T, sI V 101 n q, ?_, ?_, h.q i4⟩
      · unfold fN_giveway
        rw [a1, bd_some, if_neg c1, b1, bd_some, if_neg c2, if_neg c3, if_pos c4, t1, bd_some, s1, bd_some, A_fewest hF s2 s4 hq, bd_some, e2, if_neg (nI_m1 (by omega)), bc_Sub sb (by omega), bd_some]
        by_cases d : z = 0
        · rw [if_pos d, if_pos d]
        · rw [if_neg d, if_neg d]
      · unfold fM_giveway
        rw [a2', bd_some, if_neg c1, b2', bd_some, if_neg c2, M_isIn, bd_some, if_neg (in_no c3 (Int32.not_lt.mpr c4)), u1, bd_some, v1, bd_some, gd_t (inB_nI (show n < 41 by omega) (by decide)), lt_eq, nI_clamp (n := n) (by omega), M_given e48 n10 (by omega), bd_some, M_given e48 n10 (by omega), bd_some, lt_eq, g1, g2, may, gm2, lp, e2]
        show (if 0 ≤ nI t then if z = 0 then bd (fM_members F G (sI V 101 n q) (nI t)) (fun v58 => some (v58, sI V 101 n q)) else some (nI t, sI V 101 n q) else some ((-1 : Int32), sI V 101 n q)) = _
        rw [if_pos (Int32.not_lt.mp (nI_nn (by omega))), M_members (by omega), bd_some]
        by_cases d : z = 0
        · rw [if_pos d, if_pos d]
        · rw [if_neg d, if_neg d]
  · refine ⟨-1, S, S, ?_, ?_, h⟩
    · unfold fN_giveway; rw [a1, bd_some, if_neg c1, b1, bd_some, if_neg c2, if_neg c3, if_neg c4]
    · unfold fM_giveway; rw [a2, bd_some, if_neg c1, b2, bd_some, if_neg c2, M_isIn, bd_some, if_pos (in_y2 (Int32.not_le.mp c4))]
end GW
