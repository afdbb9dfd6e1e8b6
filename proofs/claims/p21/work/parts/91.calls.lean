/-! THE CALLS THAT CHANGE, of the class; LATER; the fresh state -/
section CC
variable {F G : Nat} {S : St}
theorem c_give (hF : 100000 ≤ F) (hG : 20 ≤ G) (hS : Good S) {p1 p2 : Int32} : Sf2 (fN_give F G S p1 p2) (fun _ S' => Kp S S') := by
  unfold fN_give
  refine sg_bd (s_fN_isNote hF hG (Inv.rf hS)) fun v hv => sg_ite (fun _ => sg_s (Kp.rf hS)) fun c => sg_ite (fun _ => sg_s (Kp.rf hS)) fun _ => sg_ite (fun _ => sg_s (Kp.rf hS)) fun _ => ?_
  refine sg_gd (inB_iv (hv.2 c) rfl) (sg_ite (fun _ => sg_s (Kp.rf hS)) fun _ => sg_bd (k_act hS) fun T k => ?_)
  exact sg_bd2 (s_fN_clashes hF hG (Inv.rf (k.good hS))) fun v U hU => sg_s (k.tr hU.2.kp)
theorem c_shift (hF : 100000 ≤ F) (hG : 20 ≤ G) (hS : Good S) {p1 p2 : Int32} : Sf2 (fN_shift F G S p1 p2) (fun _ S' => Kp S S') := by
  unfold fN_shift
  refine sg_bd (s_fN_isNote hF hG (Inv.rf hS)) fun v hv => sg_ite (fun _ => sg_s (Kp.rf hS)) fun c => sg_ite (fun _ => sg_s (Kp.rf hS)) fun _ => sg_ite (fun _ => sg_s (Kp.rf hS)) fun _ => sg_ite (fun _ => sg_s (Kp.rf hS)) fun _ => ?_
  exact sg_gd (inB_iv (hv.2 c) rfl) (sg_lt (sg_bd (s_fN_isKey hF hG (Inv.rf hS)) fun _ _ => sg_ite (fun _ => sg_s (Kp.rf hS)) fun _ => sg_bd (k_act hS) fun T k => sg_s k))
theorem c_louder (hF : 100000 ≤ F) (hG : 20 ≤ G) (hS : Good S) {p1 p2 : Int32} : Sf2 (fN_louder F G S p1 p2) (fun _ S' => Kp S S') := by
  unfold fN_louder
  refine sg_bd (s_fN_isNote hF hG (Inv.rf hS)) fun v hv => sg_ite (fun _ => sg_s (Kp.rf hS)) fun c => sg_ite (fun _ => sg_s (Kp.rf hS)) fun _ => sg_ite (fun _ => sg_s (Kp.rf hS)) fun _ => ?_
  have g := inB_iv (n := 10) (hv.2 c) rfl
  exact sg_gd g (sg_ite (fun _ => sg_s (Kp.rf hS)) fun _ => sg_gd g (sg_lt (sg_bd (k_act hS) fun T k => sg_s k)))
theorem c_last (hF : 100000 ≤ F) (hG : 20 ≤ G) (hS : Good S) {p1 p2 : Int32} : Sf2 (fN_last F G S p1 p2) (fun _ S' => Kp S S') := by
  unfold fN_last
  refine sg_bd (s_fN_isNote hF hG (Inv.rf hS)) fun v hv => sg_ite (fun _ => sg_s (Kp.rf hS)) fun c => sg_ite (fun _ => sg_s (Kp.rf hS)) fun _ => sg_ite (fun _ => sg_s (Kp.rf hS)) fun _ => ?_
  have g := inB_iv (n := 10) (hv.2 c) rfl
  exact sg_gd g (sg_ite (fun _ => sg_s (Kp.rf hS)) fun _ => sg_gd g (sg_lt (sg_bd (k_act hS) fun T k => sg_s k)))
theorem c_pedal (hF : 100000 ≤ F) (hG : 20 ≤ G) (hS : Good S) {p1 : Int32} : Sf2 (fN_pedal F G S p1) (fun _ S' => Kp S S') := by
  unfold fN_pedal
  exact sg_bd (s_fN_isBeat hF hG (Inv.rf hS)) fun v hv => sg_ite (fun _ => sg_s (Kp.rf hS)) fun c => sg_bd (k_act hS) fun T k => sg_s k
theorem c_undo (hS : Good S) : Sf2 (fN_undo F G S) (fun _ S' => Kp S S') := by
  unfold fN_undo
  exact sg_bd2 (k_back hS) fun v T h => sg_gd h.1 (sg_s h.2)
theorem c_redo (hS : Good S) : Sf2 (fN_redo F G S) (fun _ S' => Kp S S') := by
  unfold fN_redo
  exact sg_bd2 (k_again hS) fun v T h => sg_gd h.1 (sg_s h.2)
theorem c_heard (hF : 100000 ≤ F) (hG : 20 ≤ G) (hS : Good S) {p1 p2 p3 : Int32} (h3 : p3 = 0 ∨ p3 = 1) : Sf2 (fN_heard F G S p1 p2 p3) (fun _ S' => Kp S S') := by
  unfold fN_heard
  exact sg_bd (s_fN_isBeat hF hG (Inv.rf hS)) fun v _ => sg_ite (fun _ => sg_s (Kp.rf hS)) fun _ => sg_bd (s_fN_isKey hF hG (Inv.rf hS)) fun w _ => sg_ite (fun _ => sg_s (Kp.rf hS)) fun _ => sg_bd2 (k_tell hS h3) fun _ _ h => sg_s h
theorem c_untell (hS : Good S) {p1 : Int32} : Sf2 (fN_untell F G S p1) (fun _ S' => Kp S S') := by
  unfold fN_untell
  exact sg_bd2 (k_take hS) fun v T h => sg_gd h.1 (sg_s h.2)
theorem iv_02 {p : Int32} (h1 : ¬ p < 0) (h2 : p < Int32.ofNat 3) : iv p 0 2 := by
  have a1 := Int32.not_lt.mp h1
  rw [Int32.le_iff_toInt_le] at a1
  rw [Int32.lt_iff_toInt_lt, show (Int32.ofNat 3).toInt = 3 from rfl] at h2
  exact ⟨a1, by omega⟩
theorem c_image (hF : 100000 ≤ F) (hG : 20 ≤ G) (hS : Good S) {p1 : Int32} : Sf2 (fN_image F G S p1) (fun _ S' => Kp S S') := by
  unfold fN_image
  refine sg_ite (fun _ => sg_s (Kp.rf hS)) fun c1 => sg_ite (fun c2 => ?_) fun _ => sg_s (Kp.rf hS)
  have i2 := iv_02 c1 c2
  have l := la_k (j := 0) (k := 0) (la_box i2) (by omega)
  refine sg_gd (inB_iv i2 rfl) (sg_bd (k_copy hF (Kp.rf hS) (la_box i2) rfl) fun T k => sg_gd (inB_iv i2 rfl) (sg_lt ?_))
  have k := k.sN (x := 1) l.1 l.2.1 l.2.2
  exact sg_bd (s_fN_givenSet hF hG (Inv.rf (k.good hS))) fun _ _ => sg_bd (s_fJ_bitCount hF hG (Inv.rf (k.good hS))) fun _ _ => sg_s k
theorem c_back (hF : 100000 ≤ F) (hG : 20 ≤ G) (hS : Good S) {p1 : Int32} : Sf2 (fN_back F G S p1) (fun _ S' => Kp S S') := by
  unfold fN_back
  refine sg_bd (s_fN_isKept hF hG (Inv.rf hS)) fun v hv => sg_ite (fun _ => sg_s (Kp.rf hS)) fun c => ?_
  have i2 := hv.2 c
  refine sg_gd (inB_iv i2 rfl) (sg_bd (k_copy hF (Kp.rf hS) rfl (la_box i2)) fun T k => ?_)
  unfold fC_forget
  have k := (k.sB (h := 51) (k := 0) (x := 0) rfl rfl ⟨by decide, by decide⟩ (by decide)).sB (h := 51) (k := 1) (x := 0) rfl rfl ⟨by decide, by decide⟩ (by decide)
  refine sg_bd (Q := fun U => Kp S U) (sf_lt (sf_lt (sf_some k))) fun U k => ?_
  exact sg_bd (s_fN_givenSet hF hG (Inv.rf (k.good hS))) fun _ _ => sg_bd (s_fJ_bitCount hF hG (Inv.rf (k.good hS))) fun _ _ => sg_s k
theorem later_ok (hJ : J S) (a : Int32) : ∃ v S1 S2, fN_later F G S a = some (v, S1) ∧ fM_later F G S1 a = some (v, S2) ∧ J S2 := by
  obtain ⟨g, ct, c1, c2, c3⟩ := id hJ
  unfold fN_later fI_goOn fM_later
  by_cases d1 : a < 0
  · rw [if_pos d1]; exact ⟨_, _, S, rfl, if_pos d1, hJ⟩
  rw [if_neg d1]
  by_cases d2 : 1000 < a
  · rw [if_pos d2]
    refine ⟨_, _, S, rfl, ?_, hJ⟩
    rw [if_neg d1, if_pos d2]
  rw [if_neg d2]
  by_cases d3 : S.1 69 1 + a ≤ 100000
  · rw [if_pos d3]
    refine ⟨_, _, sI (sI S 69 1 (S.1 69 1 + a)) 78 75 (S.1 69 1 + a), rfl, ?_, ?_⟩
    · rw [if_neg d1, if_neg d2, show (sI S 69 1 (S.1 69 1 + a)).1 78 75 = S.1 69 1 from c3.symm, if_pos d3]
      rfl
    · have i : iv (S.1 69 1 + a) 0 100000 := by
        have h := g.1 69 1 _ _ rfl
        have a1 := Int32.not_lt.mp d1
        have a2 := Int32.not_lt.mp d2
        rw [Int32.le_iff_toInt_le] at a1 a2 d3
        rw [show (0 : Int32).toInt = 0 from rfl] at a1
        rw [show (1000 : Int32).toInt = 1000 from rfl] at a2
        rw [show (100000 : Int32).toInt = 100000 from rfl] at d3
        have e : (S.1 69 1 + a).toInt = (S.1 69 1).toInt + a.toInt := by
          rw [Int32.toInt_add, i32b (by have := h.1; omega) (by have := h.2; omega)]
        exact ⟨by rw [e]; have := h.1; omega, d3⟩
      have hb : Bnd (sI (sI S 69 1 (S.1 69 1 + a)) 78 75 (S.1 69 1 + a)) := (g.1.st (fun l u e => by cases e; exact i)).st (fun l u e => by cases e; exact i)
      refine ⟨⟨hb, ?_, g.2.2.1.c rfl (fun _ => rfl) (fun _ => rfl), g.2.2.2⟩, ct, c1, c2, rfl⟩
      obtain ⟨t1, t2, t3⟩ := g.2.1
      refine ⟨t1, t2, ?_⟩
      show iv ((sI (sI S 69 1 (S.1 69 1 + a)) 78 75 (S.1 69 1 + a)).1 S.2.2.1 0) 1 12
      have := isSc_or t1
      rw [sI_at, if_neg (by omega), sI_at, if_neg (by omega)]; exact t3
  · rw [if_neg d3]
    refine ⟨_, _, S, rfl, ?_, hJ⟩
    rw [if_neg d1, if_neg d2, ← c3, if_neg d3]
end CC
