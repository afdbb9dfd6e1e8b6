/-! pedals: both sides -/
/-- whose time a beat is, if the latest pedal was at s -/
def tmQ (C : St) (nn s b : Nat) : Int32 := mset (fun n => decide (s ≤ bgn C n) && (decide (bgn C n ≤ b) && decide (b < bgn C n + lgn C n))) nn
def tmQA (C : St) (nn s : Nat) : Nat → Int32
  | 0 => 0
  | b + 1 => tmQ C nn s b
def frP (C : St) (nn : Nat) (b sa s : Nat) : Bool := decide (clB (kyC C) nn (C.1 78 51) (C.1 78 50) (C.1 78 49) (giv C nn 1 &&& tmQ C nn s b) (giv C nn 2 &&& tmQ C nn s b) (giv C nn 1 &&& tmQA C nn sa b) (giv C nn 2 &&& tmQA C nn sa b) = 0)
theorem mset_no : ∀ n, mset (fun _ => false) n = 0
  | 0 => rfl
  | n + 1 => by rw [mset, mset_no n, if_neg (by decide), Int32.or_zero]
section PD
variable {F G : Nat} {C S T U V : St} {nn bs : Nat}
theorem tmQ_sub {s b : Nat} (hn : nn ≤ 10) : Sub (tmQ C nn s b) nn := Sub.mset (by omega)
theorem KD.rows (k : KD C T nn bs) (nb : NB C nn bs) : (∀ i, i < nn → T.1 59 i = nI (bgn C i) ∧ bgn C i < 12) ∧ ∀ i, i < nn → T.1 60 i = nI (lgn C i) ∧ lgn C i ≤ 12 := by
  have dr := nb.2.2.2.2.2.2.2.1
  have b12 := nb.2.2.1
  refine ⟨fun i hi => ⟨(k.2.2.2.2.2.2.2.1 i hi).2.1, ?_⟩, fun i hi => ⟨(k.2.2.2.2.2.2.2.1 i hi).2.2, (dr i hi).2.2.2.2⟩⟩
  have := (dr i hi).2.1
  omega
theorem K_tneg (hF : 100000 ≤ F) (k : KD C T nn bs) (nb : NB C nn bs) (w : Int32) : fK_timelySince F G T w (-1) = some 0 := by
  have n10 := nb.1
  obtain ⟨r1, r2⟩ := k.rows nb
  unfold fK_timelySince
  refine Eq.trans (for_or (N := nn) (k := some) (by omega) (fun _ => false) (fun rec a => by unfold b_K_timelySince_5; rw [k.1.2.2.2.1, if_pos (nI_le (Nat.le_refl nn) (by omega))]) (fun rec a i hi => ?_) (by omega)) (by rw [mset_no])
  obtain ⟨q1, q2⟩ := r1 i hi
  unfold b_K_timelySince_5
  rw [k.1.2.2.2.1, if_neg (nI_ge hi (by omega)), gd_t (inB_nI (by omega) (by decide)), nI_clamp (by omega), lt_eq, q1, if_neg (show ¬ false = true by decide), Int32.or_zero]
  simp only [lt_eq, nI_1]
  by_cases c : nI (bgn C i) < w
  · rw [if_pos c]
  · rw [if_neg c, if_pos (show (-1 : Int32) < nI (bgn C i) by rw [Int32.lt_iff_toInt_lt, nI_toInt (by omega)]; show (-1 : Int) < _; omega)]
theorem P_free (hF : 100000 ≤ F) (k : KD C T nn bs) (nb : NB C nn bs) {b sa s : Nat} (hb : b < 12) (hsa : sa < 12) (hs : s < 13) : fP_isFree F G T (nI b) (nI sa) (nI s) = some (b2i (frP C nn b sa s)) := by
  have n10 := nb.1
  obtain ⟨r1, r2⟩ := k.rows nb
  obtain ⟨⟨k1, k2, k3, k4, k5, k6⟩, s2, s3, s4, s5, s6, s7, s8, s9⟩ := id k
  have here : fK_timelySince F G T (nI s) (nI b) = some (tmQ C nn s b) := K_timely hF n10 k4 r1 r2 (by omega) (by omega)
  have fin : ∀ ah, Sub ah nn → tmQA C nn sa b = ah → bd (fK_clashesBetween F G T (T.1 57 5) (T.1 57 6) ah (tmQ C nn s b)) (fun v6 => if v6 = 0 then some (1 : Int32) else some (0 : Int32)) = some (b2i (frP C nn b sa s)) := fun ah h1 h2 => by
    rw [K_between hF k.1 h1 (tmQ_sub n10), bd_some, s2, s3, s4, s5, s6, clB_c (key' := kyC C) (fun i hi => (s8 i hi).1)]
    unfold frP
    rw [h2]
    by_cases c : clB (kyC C) nn (C.1 78 51) (C.1 78 50) (C.1 78 49) (giv C nn 1 &&& tmQ C nn s b) (giv C nn 2 &&& tmQ C nn s b) (giv C nn 1 &&& ah) (giv C nn 2 &&& ah) = 0
    · rw [if_pos c, decide_eq_true c]; rfl
    · rw [if_neg c, decide_eq_false c]; rfl
  unfold fP_isFree
  cases b with
  | zero =>
    rw [show nI 0 - 1 = -1 from by decide, K_tneg hF k nb, bd_some, here, bd_some]
    exact fin 0 Sub.zero rfl
  | succ b =>
    rw [show nI (b + 1) - 1 = nI b from nI_pred b, K_timely hF n10 k4 r1 r2 (by omega) (by omega), bd_some, here, bd_some]
    exact fin _ (tmQ_sub n10) rfl
theorem P_better {u v : Int32} (hu : u = -1 ∨ Sub u 12) (hv : v = -1 ∨ Sub v 12) : fP_better F G T u v = some (btF u v) := by
  unfold fP_better j_P_better_10 btF
  by_cases c1 : u = -1
  · rw [if_pos c1, if_pos c1, if_pos c1]
  · rw [if_neg c1, if_neg c1, if_neg c1]
    by_cases c2 : v = -1
    · rw [if_pos c2, if_pos c2]
    · rw [if_neg c2, if_neg c2, bc_Sub (hu.resolve_left c1) (by omega), bd_some, bc_Sub (hv.resolve_left c2) (by omega), bd_some, lt_eq]
      by_cases c3 : nI (cnt (bt u) 12) - nI (cnt (bt v) 12) < 0
      · rw [if_pos c3, if_pos c3]
      · rw [if_neg c3, if_neg c3]
        by_cases c4 : nI (cnt (bt u) 12) - nI (cnt (bt v) 12) = 0
        · rw [if_pos c4, if_pos c4, some_ite]
        · rw [if_neg c4, if_neg c4]
theorem Mn.s12 {P : Nat → Prop} {v : Int32} (h : Mn P v) : v = -1 ∨ Sub v 12 := by
  rcases h with ⟨h1, -⟩ | ⟨x, h1, h2, -⟩
  · exact Or.inl h1
  · right; rw [h1]; exact Sub.num (n := 12) h2 (by omega)
/-- the best with a pedal at b + 1, out of the first j -/
def bwF (fr : Nat → Nat → Nat → Bool) (B : Nat → Int32) (b : Nat) : Nat → Int32
  | 0 => -1
  | j + 1 => if B j = -1 then bwF fr B b j else if fr (b + 1) j (b + 1) = false then bwF fr B b j else btF (bwF fr B b j) (B j ||| ((1 : Int32) <<< (nI (b + 1) &&& 31)))
theorem bw_mn {fr : Nat → Nat → Nat → Bool} {B : Nat → Int32} {b : Nat} (hb : b + 1 < 12) (hB : ∀ s, s ≤ b → Mn (inA fr b s) (B s)) : ∀ j, j ≤ b + 1 → Mn (fun x => ∃ s, s < j ∧ fr (b + 1) s (b + 1) = true ∧ ∃ y, inA fr b s y ∧ x = y + 2 ^ (b + 1)) (bwF fr B b j)
  | 0, _ => Or.inl ⟨rfl, fun x ⟨s, s1, _⟩ => by omega⟩
  | j + 1, h => by
    have ih := bw_mn hb hB j (by omega)
    have hj := hB j (by omega)
    rw [bwF]
    by_cases c1 : B j = -1
    · rw [if_pos c1]
      refine ih.c fun x => ⟨fun ⟨s, s1, s2⟩ => ⟨s, by omega, s2⟩, fun ⟨s, s1, s2, y, y1, y2⟩ => ?_⟩
      by_cases z : s = j
      · rcases hj with ⟨-, q⟩ | ⟨q, q1⟩
        · rw [z] at y1; exact absurd y1 (q y)
        · rw [c1] at q1; exact absurd q1.1.symm (nI_m1 (by have := q1.2.1; omega))
      · exact ⟨s, by omega, s2, y, y1, y2⟩
    · rw [if_neg c1]
      by_cases c2 : fr (b + 1) j (b + 1) = false
      · rw [if_pos c2]
        refine ih.c fun x => ⟨fun ⟨s, s1, s2⟩ => ⟨s, by omega, s2⟩, fun ⟨s, s1, s2, y⟩ => ?_⟩
        by_cases z : s = j
        · rw [z, c2] at s2; exact absurd s2 (by decide)
        · exact ⟨s, by omega, s2, y⟩
      · rw [if_neg c2]
        have c2 : fr (b + 1) j (b + 1) = true := by simpa using c2
        have ad := hj.add hb c2
        rw [if_neg c1] at ad
        refine (ih.bt ad).c fun x => ⟨fun q => ?_, fun ⟨s, s1, s2, y⟩ => ?_⟩
        · rcases q with ⟨s, s1, s2⟩ | ⟨y, y1, y2⟩
          · exact ⟨s, by omega, s2⟩
          · exact ⟨j, by omega, c2, y, y1, y2⟩
        · by_cases z : s = j
          · rw [z] at y
            obtain ⟨y, y1, y2⟩ := y
            exact Or.inr ⟨y, y1, y2⟩
          · exact Or.inl ⟨s, by omega, s2, y⟩
theorem P_with (hF : 100000 ≤ F) (k : KD C T nn bs) (nb : NB C nn bs) {b : Nat} (hb : b + 1 < 12) (hB : ∀ s, s ≤ b → Mn (inA (frP C nn) b s) (T.1 68 s)) : ∃ v, fP_bestWithPedalAt F G T (nI (b + 1)) = some v ∧ Mn (inA (frP C nn) (b + 1) (b + 1)) v := by
  have mn := bw_mn hb hB
  refine ⟨bwF (frP C nn) (T.1 68) b (b + 1), ?_, (mn (b + 1) (Nat.le_refl _)).c fun x => ?_⟩
  · unfold fP_bestWithPedalAt
    refine for_g (body := b_P_bestWithPedalAt_5 F G T (nI (b + 1))) (N := b + 1) (i0 := 0) (k := some) (bwF (frP C nn) (T.1 68) b) (fun rec => ?_) (fun rec j _ hj => ?_) (b + 1) 0 F rfl (by omega) (by omega) (by omega)
    · unfold b_P_bestWithPedalAt_5
      rw [if_pos (nI_le (Nat.le_refl _) (by omega))]
    · unfold b_P_bestWithPedalAt_5
      rw [if_neg (show ¬ nI (b + 1) ≤ nI j from fun z => by have := (nI_le_i (by omega) (by omega)).mp z; omega), gd_t (inB_nI (by omega) (by decide)), gd_t (inB_nI (by omega) (by decide)), nI_clamp (n := j) (by omega), P_free hF k nb (by omega) (by omega) (by omega), bd_some, bwF]
      simp only [lt_eq, nI_1]
      by_cases c1 : T.1 68 j = -1
      · rw [if_pos c1, if_pos c1]
      · rw [if_neg c1, if_neg c1]
        cases c2 : frP C nn (b + 1) j (b + 1)
        · rw [if_pos (show b2i false = 0 from rfl), if_pos rfl]
        · have ad := (hB j (by omega)).add hb c2
          rw [if_neg c1] at ad
          rw [if_neg (show ¬ b2i true = 0 by decide), if_neg (show ¬ true = false by decide), P_better (mn j (by omega)).s12 ad.s12, bd_some]
  · rw [inA_add]
    exact ⟨fun ⟨s, s1, s2⟩ => ⟨s, by omega, s2⟩, fun ⟨s, s1, s2⟩ => ⟨s, by omega, s2⟩⟩
theorem P_fewest (hF : 100000 ≤ F) (k : KD C T nn bs) (nb : NB C nn bs) : ∃ v T', fP_fewest F G T = some (v, T') ∧ Mn (fun x => ∃ s, s < bs ∧ inA (frP C nn) (bs - 1) s x) v := by
  have n10 := nb.1
  have b0 := nb.2.1
  have b12 := nb.2.2.1
  -- the last loop
  have last : ∀ W : St, KD C W nn bs → (∀ s, s < bs → Mn (inA (frP C nn) (bs - 1) s) (W.1 68 s)) → ∃ v, fx2 (b_P_fewest_83 F G W) F (-1) 0 = some (v, W) ∧ Mn (fun x => ∃ s, s < bs ∧ inA (frP C nn) (bs - 1) s x) v := fun W kW hW => by
    have mn : ∀ j, j ≤ bs → Mn (fun x => ∃ s, s < j ∧ inA (frP C nn) (bs - 1) s x) ((Nat.rec (-1 : Int32) (fun j a => btF a (W.1 68 j)) j : Int32)) := by
      intro j
      induction j with
      | zero => intro _; exact Or.inl ⟨rfl, fun x ⟨s, s1, _⟩ => by omega⟩
      | succ j ih =>
        intro hj
        refine ((ih (by omega)).bt (hW j (by omega))).c fun x => ⟨fun q => ?_, fun ⟨s, s1, s2⟩ => ?_⟩
        · rcases q with ⟨s, s1, s2⟩ | q
          · exact ⟨s, by omega, s2⟩
          · exact ⟨j, by omega, q⟩
        · by_cases z : s = j
          · rw [z] at s2; exact Or.inr s2
          · exact Or.inl ⟨s, by omega, s2⟩
    refine ⟨_, for_g (body := b_P_fewest_83 F G W) (N := bs) (i0 := 0) (k := fun x => some (x, W)) (fun j => (Nat.rec (-1 : Int32) (fun j a => btF a (W.1 68 j)) j : Int32)) (fun rec => ?_) (fun rec j _ hj => ?_) bs 0 F rfl (by omega) (by omega) (by omega), mn bs (Nat.le_refl _)⟩
    · unfold b_P_fewest_83
      rw [kW.1.2.2.1, if_pos (nI_le (Nat.le_refl bs) (by omega))]
    · unfold b_P_fewest_83
      rw [kW.1.2.2.1, if_neg (nI_ge hj (by omega)), gd_t (inB_nI (by omega) (by decide)), nI_clamp (by omega), P_better (mn j (by omega)).s12 (hW j hj).s12, bd_some, lt_eq, nI_1]
  -- beat by beat
  have go : ∀ X : St, KD C X nn bs → Mn (inA (frP C nn) 0 0) (X.1 68 0) → ∃ v T', fx2 (b_P_fewest_23 F G (fun S27 => fx2 (b_P_fewest_83 F G S27) F (-1 : Int32) (0 : Int32))) F 1 X = some (v, T') ∧ Mn (fun x => ∃ s, s < bs ∧ inA (frP C nn) (bs - 1) s x) v := fun X kX hX => by
    obtain ⟨W, w1, d, w2, w3, w4⟩ := cp2 (bod := b_P_fewest_23 F G (fun S27 => fx2 (b_P_fewest_83 F G S27) F (-1 : Int32) (0 : Int32))) (k := fun S27 => fx2 (b_P_fewest_83 F G S27) F (-1 : Int32) (0 : Int32)) (N := bs) (fun b W => ∃ d, b = d + 1 ∧ (∀ s, s ≤ d → Mn (inA (frP C nn) d s) (W.1 68 s)) ∧ KD C W nn bs)
      (fun rec W hP => by
        obtain ⟨d, -, -, kW⟩ := hP
        unfold b_P_fewest_23
        rw [kW.1.2.2.1, if_pos (nI_le (Nat.le_refl bs) (by omega))])
      (fun rec b W hb hP => by
        obtain ⟨d, rfl, hW, kW⟩ := hP
        obtain ⟨v, v1, v2⟩ := P_with (F := F) (G := G) hF kW nb (show d + 1 < 12 by omega) hW
        have kX1 : KD C (sI W 68 (d + 1) v) nn bs := kW.fr fun h q1 q2 => sI_row (by omega)
        obtain ⟨Y, y1, y2, y3⟩ := cp2 (bod := b_P_fewest_45 F G (nI (d + 1)) (fun S24 => lt (nI (d + 1) + 1) fun v25 => rec v25 S24)) (k := fun S24 => lt (nI (d + 1) + 1) fun v25 => rec v25 S24) (N := d + 1) (fun j Y => (∀ s, Y.1 68 s = if s < j ∧ frP C nn (d + 1) s s = false then -1 else (sI W 68 (d + 1) v).1 68 s) ∧ ∀ h, h ≠ 68 → Y.1 h = W.1 h)
          (fun rec' Y _ => by
            unfold b_P_fewest_45
            rw [if_pos (nI_le (Nat.le_refl _) (by omega))])
          (fun rec' j Y hj hP => by
            obtain ⟨p1, p2⟩ := hP
            have kY : KD C Y nn bs := kW.fr fun h q1 q2 => p2 h (by omega)
            unfold b_P_fewest_45
            rw [if_neg (show ¬ nI (d + 1) ≤ nI j from fun z => by have := (nI_le_i (by omega) (by omega)).mp z; omega), P_free hF kY nb (by omega) (by omega) (by omega), bd_some, gd_t (inB_nI (by omega) (by decide)), nI_clamp (n := j) (by omega)]
            simp only [lt_eq, nI_1]
            cases c : frP C nn (d + 1) j j
            · rw [if_pos (show b2i false = 0 from rfl)]
              refine ⟨_, rfl, fun s => ?_, fun h q => by rw [sI_row q]; exact p2 h q⟩
              rw [sI_at]
              by_cases z : s = j
              · rw [if_pos ⟨rfl, z⟩, if_pos ⟨by omega, by rw [z]; exact c⟩]
              · rw [if_neg (fun y => z y.2), p1 s]
                by_cases y : s < j ∧ frP C nn (d + 1) s s = false
                · rw [if_pos y, if_pos ⟨by omega, y.2⟩]
                · rw [if_neg y, if_neg (fun x => y ⟨by omega, x.2⟩)]
            · rw [if_neg (show ¬ b2i true = 0 by decide)]
              refine ⟨Y, rfl, fun s => ?_, p2⟩
              rw [p1 s]
              by_cases y : s < j ∧ frP C nn (d + 1) s s = false
              · rw [if_pos y, if_pos ⟨by omega, y.2⟩]
              · rw [if_neg y, if_neg (fun x => y ⟨by
                  by_cases z : s = j
                  · rw [z, c] at x; exact absurd x.2 (by decide)
                  · omega, x.2⟩)])
          (d + 1) 0 F (sI W 68 (d + 1) v) rfl (by omega) (by omega) ⟨fun s => by rw [if_neg (fun z => absurd z.1 (Nat.not_lt_zero s))], fun h q => sI_row q⟩
        unfold b_P_fewest_23
        rw [kW.1.2.2.1, if_neg (nI_ge hb (by omega)), v1, bd_some, gd_t (inB_nI (by omega) (by decide)), lt_eq, nI_clamp (by omega)]
        refine ⟨Y, y1.trans ?_, d + 1, rfl, fun s hs => ?_, kW.fr fun h q1 q2 => y3 h (by omega)⟩
        · show lt (nI (d + 1) + 1) (fun v25 => rec v25 Y) = _
          rw [lt_eq, nI_1]
        · rw [y2 s]
          by_cases z : s = d + 1
          · rw [if_neg (fun y => by omega), z, sI_self]; exact v2
          · have old : (sI W 68 (d + 1) v).1 68 s = W.1 68 s := by rw [sI_at, if_neg (fun y => z y.2)]
            rw [old]
            cases c : frP C nn (d + 1) s s
            · rw [if_pos ⟨by omega, rfl⟩]
              exact Or.inl ⟨rfl, fun x q => by
                have := ((inA_keep (by omega)).mp q).1
                rw [c] at this; exact absurd this (by decide)⟩
            · rw [if_neg (fun y => absurd y.2 (by decide))]
              exact (hW s (by omega)).c fun x => ⟨fun q => (inA_keep (by omega)).mpr ⟨c, q⟩, fun q => ((inA_keep (by omega)).mp q).2⟩)
      (bs - 1) 1 F X rfl (by omega) (by omega) ⟨0, rfl, fun s hs => by rw [show s = 0 by omega]; exact hX, kX⟩
    have dd : d = bs - 1 := by omega
    obtain ⟨v, v1, v2⟩ := last W w4 (fun s hs => by rw [← dd]; exact w3 s (by omega))
    exact ⟨v, W, w1.trans v1, v2⟩
  have f0 := P_free (F := F) (G := G) hF k nb (b := 0) (sa := 0) (s := 0) (by omega) (by omega) (by omega)
  rw [show nI 0 = 0 from rfl] at f0
  unfold fP_fewest
  rw [f0, bd_some]
  have z0 : (0 : Int32).toNatClampNeg = 0 := by decide
  have g0 : inB (0 : Int32) 12 = true := by decide
  rw [gd_t g0, gd_t g0, lt_eq, lt_eq, z0]
  have A0 : ∀ x, inA (frP C nn) 0 0 x ↔ x = 0 ∧ frP C nn 0 0 0 = true := fun x => by
    constructor
    · rintro ⟨h1, h2, -, h4⟩
      refine ⟨?_, h4 0 (Nat.le_refl _)⟩
      rw [Nat.testBit_zero, decide_eq_false_iff_not] at h2
      have : x < 2 := h1
      omega
    · intro ⟨h1, h2⟩
      subst h1
      refine ⟨by decide, by decide, rfl, fun c hc => ?_⟩
      rw [show c = 0 by omega]; exact h2
  cases c : frP C nn 0 0 0
  · rw [if_pos (show b2i false = 0 from rfl)]
    exact go _ (k.fr fun h q1 q2 => sI_row (by omega)) (by rw [sI_self]; exact Or.inl ⟨rfl, fun x q => by have := ((A0 x).mp q).2; rw [c] at this; exact absurd this (by decide)⟩)
  · rw [if_neg (show ¬ b2i true = 0 by decide)]
    exact go _ (k.fr fun h q1 q2 => sI_row (by omega)) (by rw [sI_self]; exact Or.inr ⟨0, rfl, by omega, (A0 0).mpr ⟨rfl, c⟩, fun y q => by rw [((A0 y).mp q).1]; exact Or.inr ⟨rfl, Nat.le_refl _⟩⟩)
/-! the reference -/
def pdF (ok : Nat → Bool) : Nat → Int32
  | 0 => -1
  | x + 1 => if (pdF ok x < 0 ∨ nI (cnt (bt (nI x)) 12) < nI (cnt (bt (pdF ok x)) 12)) ∧ ok x = true then nI x else pdF ok x
theorem pd_mn {ok : Nat → Bool} : ∀ x, x ≤ 4096 → Mn (fun y => y < x ∧ ok y = true) (pdF ok x)
  | 0, _ => Or.inl ⟨rfl, fun y q => by omega⟩
  | x + 1, h => by
    have ih := pd_mn (ok := ok) x (by omega)
    rw [pdF]
    have cl : ∀ z, pcN z ≤ 12 := fun z => cnt_le (p := fun i => z.testBit i) (n := 12)
    rcases ih with ⟨h1, h2⟩ | ⟨y, h1, h2, h3, h4⟩
    · cases c : ok x
      · rw [if_neg (fun q => absurd q.2 (by decide)), h1]
        refine Or.inl ⟨rfl, fun y q => ?_⟩
        by_cases z : y = x
        · rw [z, c] at q; exact absurd q.2 (by decide)
        · exact h2 y ⟨by omega, q.2⟩
      · rw [if_pos ⟨Or.inl (by rw [h1]; decide), rfl⟩]
        refine Or.inr ⟨x, rfl, by omega, ⟨by omega, c⟩, fun y q => ?_⟩
        by_cases z : y = x
        · rw [z]; exact Or.inr ⟨rfl, Nat.le_refl _⟩
        · exact absurd ⟨by omega, q.2⟩ (h2 y)
    · rw [h1, pc_nI, pc_nI]
      by_cases c : (nI y < 0 ∨ nI (pcN x) < nI (pcN y)) ∧ ok x = true
      · rw [if_pos c]
        have lt : pcN x < pcN y := by
          rcases c.1 with q | q
          · exact absurd q (nI_nn (by omega))
          · exact (nI_lt_i (by have := cl x; omega) (by have := cl y; omega)).mp q
        refine Or.inr ⟨x, rfl, by omega, ⟨by omega, c.2⟩, fun z q => ?_⟩
        by_cases e : z = x
        · rw [e]; exact Or.inr ⟨rfl, Nat.le_refl _⟩
        · have := h4 z ⟨by omega, q.2⟩
          unfold le2 at this ⊢; omega
      · rw [if_neg c]
        refine Or.inr ⟨y, rfl, h2, ⟨by omega, h3.2⟩, fun z q => ?_⟩
        by_cases e : z = x
        · have nl : ¬ pcN x < pcN y := fun w => c ⟨Or.inr ((nI_lt_i (by have := cl x; omega) (by have := cl y; omega)).mpr w), by rw [← e]; exact q.2⟩
          rw [e]
          have := h3.1
          unfold le2; omega
        · exact h4 z ⟨by omega, q.2⟩
def okB (C : St) (nn bs x : Nat) : Bool := canP (fun b => if frP C nn b (snN x (b - 1)) (snN x b) = true then 0 else 1) bs
theorem okB_iff {x : Nat} (hb : 1 ≤ bs) : okB C nn bs x = true ↔ okP (frP C nn) x (bs - 1) := by
  unfold okB
  rw [canP_iff]
  constructor
  · intro h c hc
    have := h c (by omega)
    by_cases z : frP C nn c (snN x (c - 1)) (snN x c) = true
    · exact z
    · rw [if_neg z] at this; exact absurd this (by decide)
  · intro h b hb'
    rw [if_pos (h b (by omega))]
theorem M_pedL (hF : 100000 ≤ F) (hG : 20 ≤ G) (nb : NB C nn bs) (m : MD C U nn bs) (i : Inv C U) (z1 : Int32) (kk : Int32 → St → Option (Int32 × St)) : ∃ W, fx3 (b_M_pedals_33 F G z1 (giv C nn 1) (giv C nn 2) kk) F (-1) 0 U = kk (pdF (okB C nn bs) (2 ^ bs)) W ∧ Inv C W := by
  have n10 := nb.1
  have b0 := nb.2.1
  have b12 := nb.2.2.1
  have p := pow12 b12
  have dr := nb.2.2.2.2.2.2.2.1
  obtain ⟨W, w1, w2, -⟩ := cp3 (bod := b_M_pedals_33 F G z1 (giv C nn 1) (giv C nn 2) kk) (k := fun W => kk (pdF (okB C nn bs) (2 ^ bs)) W) (N := 2 ^ bs) (pdF (okB C nn bs)) (fun x W => Inv C W ∧ (∀ h, h ≠ 101 → h ≠ 102 → W.1 h = U.1 h) ∧ ∀ k, k < 40 → W.1 101 k = U.1 101 k)
    (fun rec W hP => by
      unfold b_M_pedals_33
      rw [hP.2.1 78 (by omega) (by omega), m.2.2.2.1, shl_p (by omega), if_pos (nI_le (Nat.le_refl _) (by omega))])
    (fun rec x W hx hP => by
      obtain ⟨p0, p1, p2⟩ := hP
      have X1 : Inv C (sI W 101 40 (nI x)) := p0.stN rfl rfl
      obtain ⟨Y, y1, y2, y3, -⟩ := M_layHold_x (F := F) (G := G) (S := sI W 101 40 (nI x)) (nn := nn) (bs := bs) (bg := bgn C) (lg := lgn C) hF n10 b12 (by rw [sI_row (by omega), p1 78 (by omega) (by omega)]; exact m.2.2.1) (by rw [sI_row (by omega), p1 78 (by omega) (by omega)]; exact m.2.2.2.1) (fun j hj => by
        rw [sI_row (by omega), p1 96 (by omega) (by omega), m.2.2.2.2.2.2 96 j rfl]
        exact ⟨(dr j hj).1, by have := (dr j hj).2.1; omega⟩) (fun j hj => by
        rw [sI_at, if_neg (by omega), p2 (20 + j) (by omega), m.2.2.2.2.1 (20 + j) (by omega)]
        exact ⟨(dr j hj).2.2.1, (dr j hj).2.2.2.2⟩)
      obtain ⟨Y', s1, s2⟩ := s_fM_layHold (F := F) (G := G) hF hG X1
      rw [← Option.some.inj (y1.symm.trans s1)] at s2
      have pd : (sI W 101 40 (nI x)).1 101 40 = nI x := sI_self
      have r78 : ∀ k, Y.1 78 k = U.1 78 k := fun k => by rw [y3 78 (by omega), sI_row (by omega), p1 78 (by omega) (by omega)]
      have h102 : ∀ b, b < bs → Y.1 102 b = tmQ C nn (snN x b) b := fun b hb => by
        rw [y2 b (by omega), if_pos hb, pd]
        unfold tmQ
        refine mset_cong fun n hn => ?_
        unfold HL
        rw [snc_nI (by omega)]
      have k101 : ∀ j, j < nn → Y.1 101 (10 + j) = kyC C j := fun j hj => by
        rw [y3 101 (by omega), sI_at, if_neg (by omega), p2 (10 + j) (by omega)]; exact m.ky hj
      have can : canP (clM Y nn (giv C nn 1) (giv C nn 2) (Y.1 78 50) (Y.1 78 49)) bs = okB C nn bs x := by
        have e : ∀ b, b < bs → (clM Y nn (giv C nn 1) (giv C nn 2) (Y.1 78 50) (Y.1 78 49) b = 0 ↔ frP C nn b (snN x (b - 1)) (snN x b) = true) := fun b hb => by
          have ah : ahd (Y.1 102) b = tmQA C nn (snN x (b - 1)) b := by
            cases b with
            | zero => rfl
            | succ c => exact h102 c (by omega)
          unfold clM frP
          rw [h102 b hb, ah, r78, r78, r78, m.2.2.2.2.2.2 78 50 rfl, m.2.2.2.2.2.2 78 49 rfl, m.2.2.2.2.2.2 78 51 rfl, clB_c (key' := kyC C) k101, decide_eq_true_eq]
        unfold okB
        rw [Bool.eq_iff_iff, canP_iff, canP_iff]
        constructor
        · intro h b hb; rw [if_pos ((e b hb).mp (h b hb))]
        · intro h b hb
          refine (e b hb).mpr ?_
          have := h b hb
          by_cases z : frP C nn b (snN x (b - 1)) (snN x b) = true
          · exact z
          · rw [if_neg z] at this; exact absurd this (by decide)
      have g40 : inB (40 : Int32) 41 = true := by decide
      have e40 : (40 : Int32).toNatClampNeg = 40 := by decide
      have tr : j_M_pedals_65 F G z1 (giv C nn 1) (giv C nn 2) kk rec W (pdF (okB C nn bs) x) (nI x) = if okB C nn bs x = true then rec (nI x) (nI (x + 1)) Y else rec (pdF (okB C nn bs) x) (nI (x + 1)) Y := by
        unfold j_M_pedals_65
        rw [gd_t g40, e40, lt_eq, y1, bd_some, M_canBePlayed (n := nn) (bs := bs) (by rw [r78]; exact m.2.2.1) n10 (by rw [r78]; exact m.2.2.2.1) b12 (by omega), bd_some, can, lt_eq, lt_eq, nI_1]
        cases okB C nn bs x
        · rfl
        · rfl
      have okY : Inv C Y ∧ (∀ h, h ≠ 101 → h ≠ 102 → Y.1 h = U.1 h) ∧ ∀ k, k < 40 → Y.1 101 k = U.1 101 k := ⟨s2, fun h q1 q2 => by rw [y3 h q2, sI_row q1]; exact p1 h q1 q2, fun k hk => by rw [y3 101 (by omega), sI_at, if_neg (by omega)]; exact p2 k hk⟩
      unfold b_M_pedals_33
      rw [p1 78 (by omega) (by omega), m.2.2.2.1, shl_p (by omega), if_neg (nI_ge hx (by omega)), tr, M_members (by omega), bd_some, M_members (by omega), bd_some, lt_eq, nI_1, pdF]
      have go : (pdF (okB C nn bs) x < 0 ∨ nI (cnt (bt (nI x)) 12) < nI (cnt (bt (pdF (okB C nn bs) x)) 12)) → ∃ S', (if okB C nn bs x = true then rec (nI x) (nI (x + 1)) Y else rec (pdF (okB C nn bs) x) (nI (x + 1)) Y) = rec (if (pdF (okB C nn bs) x < 0 ∨ nI (cnt (bt (nI x)) 12) < nI (cnt (bt (pdF (okB C nn bs) x)) 12)) ∧ okB C nn bs x = true then nI x else pdF (okB C nn bs) x) (nI (x + 1)) S' ∧ Inv C S' ∧ (∀ h, h ≠ 101 → h ≠ 102 → S'.1 h = U.1 h) ∧ ∀ k, k < 40 → S'.1 101 k = U.1 101 k := fun q => by
        refine ⟨Y, ?_, okY⟩
        by_cases z : okB C nn bs x = true
        · rw [if_pos z, if_pos ⟨q, z⟩]
        · rw [if_neg z, if_neg (fun y => z y.2)]
      by_cases c1 : pdF (okB C nn bs) x < 0
      · rw [if_pos c1]; exact go (Or.inl c1)
      · rw [if_neg c1]
        by_cases c2 : nI (cnt (bt (nI x)) 12) < nI (cnt (bt (pdF (okB C nn bs) x)) 12)
        · rw [if_pos c2]; exact go (Or.inr c2)
        · rw [if_neg c2, if_neg (fun y => y.1.elim c1 c2)]
          exact ⟨W, rfl, p0, p1, p2⟩)
    (2 ^ bs) 0 F U rfl (Nat.zero_le _) (by omega) ⟨i, fun _ _ _ => rfl, fun _ _ => rfl⟩
  exact ⟨W, w1, w2⟩
theorem ped_eq (b0 : 1 ≤ bs) (b12 : bs ≤ 12) {v : Int32} (h : Mn (fun x => ∃ s, s < bs ∧ inA (frP C nn) (bs - 1) s x) v) : v = pdF (okB C nn bs) (2 ^ bs) := by
  have e : bs - 1 + 1 = bs := by omega
  refine Mn.uni h (pd_mn (ok := okB C nn bs) (2 ^ bs) (pow12 b12)) (fun x ⟨s, s1, x1, x2, x3, x4⟩ => ⟨by rw [e] at x1; exact x1, (okB_iff b0).mpr x4⟩) (fun x ⟨x1, x2⟩ => ?_)
  have ok := (okB_iff b0).mp x2
  cases t : x.testBit 0
  · exact Or.inl ⟨snN x (bs - 1), by have := sn_le (x := x) (bs - 1); omega, by rw [e]; exact x1, t, rfl, ok⟩
  · right
    rw [Nat.testBit_zero, decide_eq_true_eq] at t
    have bits : ∀ i, 1 ≤ i → x.testBit i = (x - 1).testBit i := fun i hi => by
      obtain ⟨j, rfl⟩ : ∃ j, i = j + 1 := ⟨i - 1, by omega⟩
      rw [Nat.testBit_succ, Nat.testBit_succ, show x / 2 = (x - 1) / 2 by omega]
    refine ⟨x - 1, ⟨by omega, (okB_iff b0).mpr (ok_c (fun i h1 _ => bits i h1) ok)⟩, ?_⟩
    have pc : pcN x = pcN (x - 1) + 1 := by
      unfold pcN
      refine cnt_flip (j := 0) ?_ ?_ (fun i hi => bits i (by omega)) 12 (by omega)
      · show x.testBit 0 = true
        rw [Nat.testBit_zero, decide_eq_true_eq]; exact t
      · show (x - 1).testBit 0 = false
        rw [Nat.testBit_zero, decide_eq_false_iff_not]; omega
    unfold le2; omega
theorem pedals_ok (hF : 100000 ≤ F) (hG : 20 ≤ G) (h : J2 S) (z : Int32) : ∃ v S1 S2, fN_pedals F G S z = some (v, S1) ∧ fM_pedals F G S1 z = some (v, S2) ∧ J2 S2 := by
  obtain ⟨nn, bs, nb⟩ := h.nb
  by_cases c3 : z < 0
  · refine ⟨-1, S, S, ?_, ?_, h⟩
    · unfold fN_pedals; rw [if_pos c3]
    · unfold fM_pedals; rw [M_isIn, bd_some, if_pos (in_y1 c3)]
  by_cases c4 : z ≤ 1
  · obtain ⟨T0, t1, t2, t3⟩ := look_I (F := F) (G := G) hF hG h nb
    obtain ⟨v, T, q1, q2⟩ := P_fewest (F := F) (G := G) hF t2 nb
    obtain ⟨v', T', r1, -, r2⟩ := s_fP_fewest (F := F) (G := G) hF hG t3
    obtain ⟨-, rfl⟩ := Prod.mk.inj (Option.some.inj (q1.symm.trans r1))
    obtain ⟨U, u1, u2, u3⟩ := fill_I (F := F) (G := G) hF hG nb r2
    have eq := ped_eq nb.2.1 nb.2.2.1 q2
    have s12 := q2.s12
    obtain ⟨W, w1, w2⟩ := M_pedL (F := F) (G := G) hF hG nb u2 u3 z (fun v31 S32 => if 0 ≤ v31 then if z = 0 then bd (fM_members F G S32 v31) fun v36 => some (v36, S32) else some (v31, S32) else some ((-1 : Int32), S32))
    rw [← eq] at w1
    have M0 : fM_pedals F G T z = if 0 ≤ v then if z = 0 then some (nI (cnt (bt v) 12), W) else some (v, W) else some (-1, W) := by
      unfold fM_pedals
      rw [M_isIn, bd_some, if_neg (in_no c3 (Int32.not_lt.mpr c4)), u1, bd_some, u2.given hF, bd_some, u2.given hF, bd_some]
      refine Eq.trans w1 ?_
      show (if 0 ≤ v then if z = 0 then bd (fM_members F G W v) (fun v36 => some (v36, W)) else some (v, W) else some ((-1 : Int32), W)) = _
      rw [M_members (by omega), bd_some]
    rcases s12 with e | e
    · refine ⟨-1, T, W, ?_, ?_, h.q w2⟩
      · unfold fN_pedals
        rw [if_neg c3, if_pos c4, t1, bd_some, q1, bd2_some, e, if_pos rfl]
        by_cases d : z = 0
        · rw [if_pos d]
        · rw [if_neg d]
      · rw [M0, e, if_neg (by decide)]
    · obtain ⟨x, x1, x2⟩ := small_bt (n := 12) (by omega) e
      have x2 : v = nI x := x2
      have x1 : x < 4096 := x1
      refine ⟨if z = 0 then nI (cnt (bt v) 12) else v, T, W, ?_, ?_, h.q w2⟩
      · unfold fN_pedals
        rw [if_neg c3, if_pos c4, t1, bd_some, q1, bd2_some, if_neg (show ¬ v = -1 by rw [x2]; exact nI_m1 (by omega)), bc_Sub e (by omega), bd_some]
        by_cases d : z = 0
        · rw [if_pos d, if_pos d]
        · rw [if_neg d, if_neg d]
      · rw [M0, if_pos (show 0 ≤ v by rw [x2]; exact Int32.not_lt.mp (nI_nn (by omega)))]
        by_cases d : z = 0
        · rw [if_pos d, if_pos d]
        · rw [if_neg d, if_neg d]
  · refine ⟨-1, S, S, ?_, ?_, h⟩
    · unfold fN_pedals; rw [if_neg c3, if_neg c4]
    · unfold fM_pedals; rw [M_isIn, bd_some, if_pos (in_y2 (Int32.not_le.mp c4))]
end PD
