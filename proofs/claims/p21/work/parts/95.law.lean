/-! THE LAW, call after call -/
def Yes1 (t : Option (Int32 × St)) : Prop := ∃ S', t = some (1, S')
theorem Yes1_ite {c : Prop} [Decidable c] {a b : Option (Int32 × St)} (h1 : c → Yes1 a) (h2 : ¬ c → Yes1 b) : Yes1 (if c then a else b) := by
  by_cases h : c
  · rw [if_pos h]; exact h1 h
  · rw [if_neg h]; exact h2 h
theorem Yes1_gd {b : Bool} {x : Option (Int32 × St)} (h : b = true) (k : Yes1 x) : Yes1 (gd b x) := by rw [gd_t h]; exact k
theorem Yes1_bd2 {x : Option (Int32 × St)} {v : Int32} {S1 : St} {f : Int32 → St → Option (Int32 × St)} (h : x = some (v, S1)) (k : Yes1 (f v S1)) : Yes1 (bd2 x f) := by rw [h]; exact k
theorem Yes1_bd {x : Option Int32} {v : Int32} {f : Int32 → Option (Int32 × St)} (h : x = some v) (k : Yes1 (f v)) : Yes1 (bd x f) := by rw [h]; exact k
theorem Yes1_ok {x : Option (Int32 × St)} {y : St → Option (Int32 × St)} {f : Int32 → St → Option (Int32 × St)} (K : ∃ v S1 S2, x = some (v, S1) ∧ y S1 = some (v, S2) ∧ J2 S2) (k : ∀ v S1 S2, y S1 = some (v, S2) → J2 S2 → Yes1 (f v S1)) : Yes1 (bd2 x f) := by
  obtain ⟨v, S1, S2, h1, h2, h3⟩ := K
  exact Yes1_bd2 h1 (k v S1 S2 h2 h3)
theorem Yes1_ok3 {x : Option (Int32 × St)} {y : St → Option (Int32 × St)} {f : Int32 → St → Option (Int32 × St)} (K : ∃ v v' S1 S2, x = some (v, S1) ∧ y S1 = some (v', S2) ∧ J2 S2) (k : ∀ v v' S1 S2, y S1 = some (v', S2) → J2 S2 → Yes1 (f v S1)) : Yes1 (bd2 x f) := by
  obtain ⟨v, v', S1, S2, h1, h2, h3⟩ := K
  exact Yes1_bd2 h1 (k v v' S1 S2 h2 h3)
theorem Yes1_ok1 {x y : Option Int32} {f : Int32 → Option (Int32 × St)} (K : ∃ v, x = some v ∧ y = some v) (k : ∀ v, y = some v → Yes1 (f v)) : Yes1 (bd x f) := by
  obtain ⟨v, h1, h2⟩ := K
  exact Yes1_bd h1 (k v h2)
theorem Yes1_ok2 {x : Option Int32} {y : Option (Int32 × St)} {f : Int32 → Option (Int32 × St)} (K : ∃ v S2, x = some v ∧ y = some (v, S2) ∧ J2 S2) (k : ∀ v S2, y = some (v, S2) → J2 S2 → Yes1 (f v)) : Yes1 (bd x f) := by
  obtain ⟨v, S2, h1, h2, h3⟩ := K
  exact Yes1_bd h1 (k v S2 h2 h3)
theorem Yes1_q2 {S : St} {x : Option (Int32 × St)} {l u : Int} {f : Int32 → St → Option (Int32 × St)} (hJ : J2 S) (h : Sf2 x (fun r T => iv r l u ∧ Inv S T)) (k : ∀ v T, J2 T → Yes1 (f v T)) : Yes1 (bd2 x f) := by
  obtain ⟨v, T, h1, h2⟩ := h
  exact Yes1_bd2 h1 (k v T (hJ.q h2.2))
theorem Yes1_k1 {x : Option Int32} {Q : Int32 → Prop} {f : Int32 → Option (Int32 × St)} (h : Sf x Q) (k : ∀ v, Yes1 (f v)) : Yes1 (bd x f) := by
  obtain ⟨v, h1, h2⟩ := h
  exact Yes1_bd h1 (k v)
theorem Yes1_fin {rec : Int32 → St → Option (Int32 × St)} {w v : Int32} {S : St} (h : Yes1 (rec (w + 6) S)) : Yes1 (if v = v then lt (w + 6) fun u => rec u S else some ((0 : Int32), S)) := by
  rw [if_pos rfl]; exact h
theorem Yes1_end {rec : Int32 → St → Option (Int32 × St)} {w : Int32} {S : St} (h : Yes1 (rec (w + 6) S)) : Yes1 (lt (w + 6) fun u => rec u S) := h
theorem fault_ok {F G : Nat} {S : St} (hJ : J S) (a : Int32) : ∃ v, fN_fault F G S a = some v ∧ fM_fault F G S a = some v := by
  obtain ⟨-, -, c1, c2, -⟩ := hJ
  unfold fN_fault fM_fault
  rw [c1, c2]
  repeat' split
  all_goals first
    | exact ⟨_, rfl, rfl⟩
    | contradiction
set_option maxRecDepth 100000 in
set_option maxHeartbeats 4000000 in
theorem law_one {F : Nat} (hF : 100000 ≤ F) {X : Nat × (Nat → Int32)} {w : Nat} {w3 : Int32} (hw3 : w3 = nI w) (hw : w + 6 ≤ X.1) (hX : X.1 ≤ 384) {rec : Int32 → St → Option (Int32 × St)} {S : St} (hJ : J2 S) (hrec : ∀ S, J2 S → Yes1 (rec (w3 + 6) S)) : Yes1 (b_Z_law_18 F 100 X rec w3 S) := by
  have hG : 20 ≤ 100 := by omega
  have hG60 : 60 ≤ 100 := by omega
  have g : ∀ k, k < 6 → inB (w3 + nI k) X.1 = true := fun k hk => by rw [hw3, nI_add]; exact inB_nI (by omega) (by omega)
  have g1 : inB (w3 + 1) X.1 = true := g 1 (by omega)
  have g2 : inB (w3 + 2) X.1 = true := g 2 (by omega)
  have g3 : inB (w3 + 3) X.1 = true := g 3 (by omega)
  have g4 : inB (w3 + 4) X.1 = true := g 4 (by omega)
  have g5 : inB (w3 + 5) X.1 = true := g 5 (by omega)
  have g0 : inB w3 X.1 = true := by rw [hw3]; exact inB_nI (by omega) (by omega)
  unfold b_Z_law_18
  refine Yes1_ite (fun _ => ⟨_, rfl⟩) (fun _ => ?_)
  refine Yes1_gd g0 ?_
  refine Yes1_ite (fun _ => ?_) (fun _ => ?_)
  · exact Yes1_gd g1 (Yes1_gd g2 (Yes1_gd g3 (Yes1_gd g4 (Yes1_gd g5 (Yes1_ok (feed_2 hF hJ _ _ _ _ _) fun v S1 S2 h2 h3 => Yes1_gd g1 (Yes1_gd g2 (Yes1_gd g3 (Yes1_gd g4 (Yes1_gd g5 (Yes1_bd2 h2 (Yes1_end (hrec S2 h3))))))))))))
  refine Yes1_ite (fun _ => ?_) (fun _ => ?_)
  · exact Yes1_gd g1 (Yes1_ok (end_2 hJ _) fun v S1 S2 h2 h3 => Yes1_gd g1 (Yes1_bd2 h2 (Yes1_end (hrec S2 h3))))
  refine Yes1_ite (fun _ => ?_) (fun _ => ?_)
  · exact Yes1_ok (score_2 hF hG60 hJ) fun v S1 S2 h2 h3 => Yes1_bd2 h2 (Yes1_end (hrec S2 h3))
  refine Yes1_ite (fun _ => ?_) (fun _ => ?_)
  · exact Yes1_gd g1 (Yes1_k1 (s_fN_fault hF hG (Inv.rf hJ.1.1)) fun v => Yes1_gd g1 (Yes1_k1 (s_fM_fault hF hG (Inv.rf hJ.1.1)) fun v => Yes1_end (hrec S hJ)))
  refine Yes1_ite (fun _ => ?_) (fun _ => ?_)
  · exact Yes1_gd g1 (Yes1_gd g2 (Yes1_q2 hJ (s_fN_note hF hG (Inv.rf hJ.1.1)) fun v T hT => Yes1_gd g1 (Yes1_gd g2 (Yes1_q2 hT (s_fM_note hF hG (Inv.rf hT.1.1)) fun v U hU => Yes1_end (hrec U hU)))))
  refine Yes1_ite (fun _ => ?_) (fun _ => ?_)
  · exact Yes1_gd g1 (Yes1_gd g2 (Yes1_k1 (s_fN_part hF hG (Inv.rf hJ.1.1)) fun v => Yes1_gd g1 (Yes1_gd g2 (Yes1_q2 hJ (s_fM_part hF hG (Inv.rf hJ.1.1)) fun v U hU => Yes1_end (hrec U hU)))))
  refine Yes1_ite (fun _ => ?_) (fun _ => ?_)
  · exact Yes1_gd g1 (Yes1_gd g2 (Yes1_q2 hJ (s_fN_held hF hG (Inv.rf hJ.1.1)) fun v T hT => Yes1_gd g1 (Yes1_gd g2 (Yes1_q2 hT (s_fM_held hF hG (Inv.rf hT.1.1)) fun v U hU => Yes1_end (hrec U hU)))))
  refine Yes1_ite (fun _ => ?_) (fun _ => ?_)
  · exact Yes1_gd g1 (Yes1_q2 hJ (s_fN_sounds hF hG (Inv.rf hJ.1.1)) fun v T hT => Yes1_gd g1 (Yes1_q2 hT (s_fM_sounds hF hG (Inv.rf hT.1.1)) fun v U hU => Yes1_end (hrec U hU)))
  refine Yes1_ite (fun _ => ?_) (fun _ => ?_)
  · exact Yes1_gd g1 (Yes1_q2 hJ (s_fN_clash hF hG (Inv.rf hJ.1.1)) fun v T hT => Yes1_gd g1 (Yes1_q2 hT (s_fM_clash hF hG (Inv.rf hT.1.1)) fun v U hU => Yes1_end (hrec U hU)))
  refine Yes1_ite (fun _ => ?_) (fun _ => ?_)
  · exact Yes1_gd g1 (Yes1_gd g2 (Yes1_ok3 (give_k hF hG hJ _ _) fun v v2 S1 S2 h2 h3 => Yes1_gd g1 (Yes1_gd g2 (Yes1_bd2 h2 (Yes1_end (hrec S2 h3))))))
  refine Yes1_ite (fun _ => ?_) (fun _ => ?_)
  · exact Yes1_gd g1 (Yes1_gd g2 (Yes1_ok (shift_2 hF hJ _ _) fun v S1 S2 h2 h3 => Yes1_gd g1 (Yes1_gd g2 (Yes1_bd2 h2 (Yes1_end (hrec S2 h3))))))
  refine Yes1_ite (fun _ => ?_) (fun _ => ?_)
  · exact Yes1_gd g1 (Yes1_gd g2 (Yes1_ok (louder_2 hF hJ _ _) fun v S1 S2 h2 h3 => Yes1_gd g1 (Yes1_gd g2 (Yes1_bd2 h2 (Yes1_end (hrec S2 h3))))))
  refine Yes1_ite (fun _ => ?_) (fun _ => ?_)
  · exact Yes1_gd g1 (Yes1_gd g2 (Yes1_ok (last_2 hF hJ _ _) fun v S1 S2 h2 h3 => Yes1_gd g1 (Yes1_gd g2 (Yes1_bd2 h2 (Yes1_end (hrec S2 h3))))))
  refine Yes1_ite (fun _ => ?_) (fun _ => ?_)
  · exact Yes1_gd g1 (Yes1_ok (pedal_2 hF hJ _) fun v S1 S2 h2 h3 => Yes1_gd g1 (Yes1_bd2 h2 (Yes1_end (hrec S2 h3))))
  refine Yes1_ite (fun _ => ?_) (fun _ => ?_)
  · exact Yes1_ok (undo_2 hF hJ) fun v S1 S2 h2 h3 => Yes1_bd2 h2 (Yes1_end (hrec S2 h3))
  refine Yes1_ite (fun _ => ?_) (fun _ => ?_)
  · exact Yes1_ok (redo_2 hF hJ) fun v S1 S2 h2 h3 => Yes1_bd2 h2 (Yes1_end (hrec S2 h3))
  refine Yes1_ite (fun _ => ?_) (fun _ => ?_)
  · exact Yes1_q2 hJ (s_fN_clashes hF hG (Inv.rf hJ.1.1)) fun v T hT => Yes1_q2 hT (s_fM_clashes hF hG (Inv.rf hT.1.1)) fun v U hU => Yes1_end (hrec U hU)
  refine Yes1_ite (fun _ => ?_) (fun _ => ?_)
  · exact Yes1_q2 hJ (s_fN_loss hF hG (Inv.rf hJ.1.1)) fun v T hT => Yes1_q2 hT (s_fM_loss hF hG (Inv.rf hT.1.1)) fun v U hU => Yes1_end (hrec U hU)
  refine Yes1_ite (fun _ => ?_) (fun _ => ?_)
  · exact Yes1_gd g1 (Yes1_q2 hJ (s_fN_version hF hG (Inv.rf hJ.1.1)) fun v T hT => Yes1_gd g1 (Yes1_q2 hT (s_fM_version hF hG (Inv.rf hT.1.1)) fun v U hU => Yes1_end (hrec U hU)))
  refine Yes1_ite (fun _ => ?_) (fun _ => ?_)
  · exact Yes1_gd g1 (Yes1_gd g2 (Yes1_ok (child_ok hF hG hJ _ _) fun v S1 S2 h2 h3 => Yes1_gd g1 (Yes1_gd g2 (Yes1_bd2 h2 (Yes1_fin (hrec S2 h3))))))
  refine Yes1_ite (fun _ => ?_) (fun _ => ?_)
  · exact Yes1_gd g1 (Yes1_gd g2 (Yes1_q2 hJ (s_fN_forbids hF hG (Inv.rf hJ.1.1)) fun v T hT => Yes1_gd g1 (Yes1_gd g2 (Yes1_q2 hT (s_fM_forbids hF hG (Inv.rf hT.1.1)) fun v U hU => Yes1_end (hrec U hU)))))
  refine Yes1_ite (fun _ => ?_) (fun _ => ?_)
  · exact Yes1_gd g1 (Yes1_gd g2 (Yes1_gd g3 (Yes1_q2 hJ (s_fN_giveway hF hG (Inv.rf hJ.1.1)) fun v T hT => Yes1_gd g1 (Yes1_gd g2 (Yes1_gd g3 (Yes1_q2 hT (s_fM_giveway hF hG (Inv.rf hT.1.1)) fun v U hU => Yes1_end (hrec U hU)))))))
  refine Yes1_ite (fun _ => ?_) (fun _ => ?_)
  · exact Yes1_gd g1 (Yes1_gd g2 (Yes1_q2 hJ (s_fN_letin hF hG (Inv.rf hJ.1.1)) fun v T hT => Yes1_gd g1 (Yes1_gd g2 (Yes1_q2 hT (s_fM_letin hF hG (Inv.rf hT.1.1)) fun v U hU => Yes1_end (hrec U hU)))))
  refine Yes1_ite (fun _ => ?_) (fun _ => ?_)
  · exact Yes1_gd g1 (Yes1_q2 hJ (s_fN_pedals hF hG (Inv.rf hJ.1.1)) fun v T hT => Yes1_gd g1 (Yes1_q2 hT (s_fM_pedals hF hG (Inv.rf hT.1.1)) fun v U hU => Yes1_end (hrec U hU)))
  refine Yes1_ite (fun _ => ?_) (fun _ => ?_)
  · exact Yes1_gd g1 (Yes1_q2 hJ (s_fN_spread hF hG (Inv.rf hJ.1.1)) fun v T hT => Yes1_gd g1 (Yes1_q2 hT (s_fM_spread hF hG (Inv.rf hT.1.1)) fun v U hU => Yes1_end (hrec U hU)))
  refine Yes1_ite (fun _ => ?_) (fun _ => ?_)
  · exact Yes1_gd g1 (Yes1_q2 hJ (s_fN_leaps hF hG (Inv.rf hJ.1.1)) fun v T hT => Yes1_gd g1 (Yes1_q2 hT (s_fM_leaps hF hG (Inv.rf hT.1.1)) fun v U hU => Yes1_end (hrec U hU)))
  refine Yes1_ite (fun _ => ?_) (fun _ => ?_)
  · exact Yes1_q2 hJ (s_fN_blur hF hG (Inv.rf hJ.1.1)) fun v T hT => Yes1_q2 hT (s_fM_blur hF hG (Inv.rf hT.1.1)) fun v U hU => Yes1_end (hrec U hU)
  refine Yes1_ite (fun _ => ?_) (fun _ => ?_)
  · exact Yes1_gd g1 (Yes1_q2 hJ (s_fN_open hF hG (Inv.rf hJ.1.1)) fun v T hT => Yes1_gd g1 (Yes1_q2 hT (s_fM_open hF hG (Inv.rf hT.1.1)) fun v U hU => Yes1_end (hrec U hU)))
  refine Yes1_ite (fun _ => ?_) (fun _ => ?_)
  · exact Yes1_q2 hJ (s_fN_lost hF hG (Inv.rf hJ.1.1)) fun v T hT => Yes1_q2 hT (s_fM_lost hF hG (Inv.rf hT.1.1)) fun v U hU => Yes1_end (hrec U hU)
  refine Yes1_ite (fun _ => ?_) (fun _ => ?_)
  · exact Yes1_q2 hJ (s_fN_gaps hF hG (Inv.rf hJ.1.1)) fun v T hT => Yes1_q2 hT (s_fM_gaps hF hG (Inv.rf hT.1.1)) fun v U hU => Yes1_end (hrec U hU)
  refine Yes1_ite (fun _ => ?_) (fun _ => ?_)
  · exact Yes1_gd g1 (Yes1_q2 hJ (s_fN_easier hF hG (Inv.rf hJ.1.1)) fun v T hT => Yes1_gd g1 (Yes1_q2 hT (s_fM_easier hF hG (Inv.rf hT.1.1)) fun v U hU => Yes1_end (hrec U hU)))
  refine Yes1_ite (fun _ => ?_) (fun _ => ?_)
  · exact Yes1_q2 hJ (s_fN_thickest hF hG (Inv.rf hJ.1.1)) fun v T hT => Yes1_q2 hT (s_fM_thickest hF hG (Inv.rf hT.1.1)) fun v U hU => Yes1_end (hrec U hU)
  refine Yes1_ite (fun _ => ?_) (fun _ => ?_)
  · exact Yes1_gd g1 (Yes1_q2 hJ (s_fN_busiest hF hG (Inv.rf hJ.1.1)) fun v T hT => Yes1_gd g1 (Yes1_q2 hT (s_fM_busiest hF hG (Inv.rf hT.1.1)) fun v U hU => Yes1_end (hrec U hU)))
  refine Yes1_ite (fun _ => ?_) (fun _ => ?_)
  · exact Yes1_gd g1 (Yes1_q2 hJ (s_fN_law hF hG (Inv.rf hJ.1.1)) fun v T hT => Yes1_gd g1 (Yes1_q2 hT (s_fM_law hF hG (Inv.rf hT.1.1)) fun v U hU => Yes1_end (hrec U hU)))
  refine Yes1_ite (fun _ => ?_) (fun _ => ?_)
  · exact Yes1_q2 hJ (s_fN_dearest hF hG (Inv.rf hJ.1.1)) fun v T hT => Yes1_q2 hT (s_fM_dearest hF hG (Inv.rf hT.1.1)) fun v U hU => Yes1_end (hrec U hU)
  refine Yes1_ite (fun _ => ?_) (fun _ => ?_)
  · exact Yes1_gd g1 (Yes1_q2 hJ (s_fN_could hF hG (Inv.rf hJ.1.1)) fun v T hT => Yes1_gd g1 (Yes1_q2 hT (s_fM_could hF hG (Inv.rf hT.1.1)) fun v U hU => Yes1_end (hrec U hU)))
  refine Yes1_ite (fun _ => ?_) (fun _ => ?_)
  · exact Yes1_gd g1 (Yes1_k1 (s_fN_lies hF hG (Inv.rf hJ.1.1)) fun v => Yes1_gd g1 (Yes1_k1 (s_fM_lies hF hG (Inv.rf hJ.1.1)) fun v => Yes1_end (hrec S hJ)))
  refine Yes1_ite (fun _ => ?_) (fun _ => ?_)
  · refine Yes1_gd g1 (Yes1_gd g2 (Yes1_gd g3 ?_))
    refine Yes1_ite (fun h3 => ?_) (fun h3 => ?_)
    · unfold j_Z_law_1171
      refine Yes1_ok (heard_2 hF hG hJ (Or.inl rfl)) fun v S1 S2 h2 hU => Yes1_gd g1 (Yes1_gd g2 (Yes1_gd g3 ?_))
      exact Yes1_ite (fun _ => Yes1_bd2 h2 (Yes1_end (hrec S2 hU))) (fun c => absurd h3 c)
    · unfold j_Z_law_1171
      refine Yes1_ok (heard_2 hF hG hJ (Or.inr rfl)) fun v S1 S2 h2 hU => Yes1_gd g1 (Yes1_gd g2 (Yes1_gd g3 ?_))
      exact Yes1_ite (fun c => absurd c h3) (fun _ => Yes1_bd2 h2 (Yes1_end (hrec S2 hU)))
  refine Yes1_ite (fun _ => ?_) (fun _ => ?_)
  · exact Yes1_gd g1 (Yes1_ok (untell_2 hJ (p := _)) fun v S1 S2 h2 h3 => Yes1_gd g1 (Yes1_bd2 h2 (Yes1_end (hrec S2 h3))))
  refine Yes1_ite (fun _ => ?_) (fun _ => ?_)
  · exact Yes1_gd g1 (Yes1_ok (later_2 hJ _) fun v S1 S2 h2 h3 => Yes1_gd g1 (Yes1_bd2 h2 (Yes1_end (hrec S2 h3))))
  refine Yes1_ite (fun _ => ?_) (fun _ => ?_)
  · exact Yes1_gd g1 (Yes1_q2 hJ (s_fN_sets hF hG (Inv.rf hJ.1.1)) fun v T hT => Yes1_gd g1 (Yes1_q2 hT (s_fM_sets hF hG (Inv.rf hT.1.1)) fun v U hU => Yes1_end (hrec U hU)))
  refine Yes1_ite (fun _ => ?_) (fun _ => ?_)
  · exact Yes1_gd g1 (Yes1_gd g2 (Yes1_q2 hJ (s_fN_sure hF hG (Inv.rf hJ.1.1)) fun v T hT => Yes1_gd g1 (Yes1_gd g2 (Yes1_q2 hT (s_fM_sure hF hG (Inv.rf hT.1.1)) fun v U hU => Yes1_end (hrec U hU)))))
  refine Yes1_ite (fun _ => ?_) (fun _ => ?_)
  · exact Yes1_gd g1 (Yes1_gd g2 (Yes1_q2 hJ (s_fN_ask hF hG (Inv.rf hJ.1.1)) fun v T hT => Yes1_gd g1 (Yes1_gd g2 (Yes1_q2 hT (s_fM_ask hF hG (Inv.rf hT.1.1)) fun v U hU => Yes1_end (hrec U hU)))))
  refine Yes1_ite (fun _ => ?_) (fun _ => ?_)
  · exact Yes1_gd g1 (Yes1_ok (image_2 hF hG hJ _) fun v S1 S2 h2 h3 => Yes1_gd g1 (Yes1_bd2 h2 (Yes1_end (hrec S2 h3))))
  refine Yes1_ite (fun _ => ?_) (fun _ => ?_)
  · exact Yes1_gd g1 (Yes1_ok (back_2 hF hG hJ _) fun v S1 S2 h2 h3 => Yes1_gd g1 (Yes1_bd2 h2 (Yes1_end (hrec S2 h3))))
  refine Yes1_ite (fun _ => ?_) (fun _ => ?_)
  · exact Yes1_gd g1 (Yes1_k1 (s_fN_differ hF hG (Inv.rf hJ.1.1)) fun v => Yes1_gd g1 (Yes1_k1 (s_fM_differ hF hG (Inv.rf hJ.1.1)) fun v => Yes1_end (hrec S hJ)))
  refine Yes1_ite (fun _ => ?_) (fun _ => ?_)
  · exact Yes1_gd g1 (Yes1_k1 (s_fN_about hF hG (Inv.rf hJ.1.1)) fun v => Yes1_gd g1 (Yes1_k1 (s_fM_about hF hG (Inv.rf hJ.1.1)) fun v => Yes1_end (hrec S hJ)))
  exact Yes1_end (hrec S hJ)
theorem law_all {F : Nat} (hF : 100000 ≤ F) {X : Nat × (Nat → Int32)} (hX : X.1 ≤ 384) : ∀ f w S, w ≤ X.1 → X.1 < w + 6 * f → J2 S → Yes1 (fx2 (b_Z_law_18 F 100 X) f (nI w) S) := by
  intro f
  induction f with
  | zero => intro w S h1 h2; omega
  | succ f ih =>
    intro w S h1 h2 hJ
    rw [fx2_s]
    by_cases c : w + 6 ≤ X.1
    · refine law_one hF rfl c hX hJ fun T hT => ?_
      rw [show nI w + 6 = nI (w + 6) from nI_add w 6]
      exact ih (w + 6) T c (by omega) hT
    · refine ⟨S, ?_⟩
      unfold b_Z_law_18
      refine if_pos ?_
      rw [Int32.lt_iff_toInt_lt, Int32.toInt_sub, show (Int32.ofNat X.1).toInt = X.1 from nI_toInt (by omega), show (6 : Int32).toInt = 6 from rfl, i32b (by omega) (by omega), nI_toInt (by omega)]
      omega
theorem ilk_k {n : Nat} (h : (fcells.all fun q => !(q.1 == n)) = true) (k : Nat) : SI.1 n k = 0 := ilk_out h k
theorem J_SI : J SI := by
  have z : ∀ h k, SI.1 h k = 0 → ∀ u : Int, 0 ≤ u → iv (SI.1 h k) 0 u := fun h k e u hu => iv_z e hu
  refine ⟨⟨Bnd.mk (z _ _ rfl _ (by decide)) (z _ _ rfl _ (by decide)) (z _ _ rfl _ (by decide)) (z _ _ rfl _ (by decide)) (z _ _ rfl _ (by decide)) (z _ _ rfl _ (by decide)) (z _ _ rfl _ (by decide)) (z _ _ rfl _ (by decide)) (z _ _ rfl _ (by decide)) (z _ _ rfl _ (by decide)) (z _ _ rfl _ (by decide)) (z _ _ rfl _ (by decide)) (z _ _ rfl _ (by decide)) (z _ _ rfl _ (by decide)) (z _ _ rfl _ (by decide)) (z _ _ rfl _ (by decide)) (z _ _ rfl _ (by decide)) (z _ _ rfl _ (by decide)) (z _ _ rfl _ (by decide)) ⟨by decide, by decide⟩ (z _ _ rfl _ (by decide)) (z _ _ rfl _ (by decide)) (z _ _ rfl _ (by decide)) (z _ _ rfl _ (by decide)) (z _ _ rfl _ (by decide)) (z _ _ rfl _ (by decide)) (z _ _ rfl _ (by decide)) (fun k => z _ _ (ilk_k rfl k) _ (by decide)) (fun k => z _ _ (ilk_k rfl k) _ (by decide)) (fun h k q => ?_), ⟨rfl, rfl, ⟨by decide, by decide⟩⟩, ?_, ?_⟩, ⟨0, fun _ => 0, ⟨rfl, by omega, fun k hk => by omega⟩, rfl, fun k hk => by omega⟩, rfl, rfl, rfl⟩
  · simp only [Bool.or_eq_true, beq_iff_eq] at q
    rcases q with (rfl | rfl) | rfl <;> exact z _ _ (ilk_k rfl k) _ (by decide)
  · intro s hs
    rw [show SI.1 78 18 = 0 from rfl, show (0 : Int32).toInt = 0 from rfl] at hs
    omega
  · show (0 : Int32).toInt + (0 : Int32).toInt ≤ 40
    decide
theorem J2_SI : J2 SI := by
  have r100 : ∀ k, SI.1 100 k = 0 := ilk_k rfl
  have r31 : ∀ k, SI.1 31 k = 0 := ilk_k rfl
  have vl : VL 0 (SI.1 100) := fun k hk => ⟨fun z => by omega, fun _ => r100 k⟩
  have bx : ∀ b, b < 3 → SI.1 (36 + 5 * b) 0 = 0 ∧ SI.1 115 b = 0 := fun b hb => by
    rcases (by omega : b = 0 ∨ b = 1 ∨ b = 2) with rfl | rfl | rfl <;> exact ⟨rfl, rfl⟩
  refine ⟨J_SI, ⟨0, 0, 0, by omega, by omega, by omega, rfl, rfl, rfl, rfl, rfl, ⟨rfl, ⟨by decide, by decide⟩⟩, ⟨rfl, ⟨by decide, by decide⟩⟩, ⟨rfl, ⟨by decide, by decide⟩⟩, ⟨rfl, ⟨by decide, by decide⟩⟩, fun i hi => by omega, fun i hi => by omega, ⟨0, by omega, rfl, rfl⟩, rfl, rfl, Or.inl ⟨rfl, rfl⟩⟩, ⟨0, by omega, rfl, ⟨vl, fun k hk z => by omega, ?_, fun i i1 i2 => ?_⟩, ⟨0, 0, by omega, by omega, rfl, rfl, rfl, rfl, fun j hj => ?_, fun j hj => by omega⟩, fun b hb => ⟨(bx b hb).1.trans (bx b hb).2.symm, Or.inl (bx b hb).2, fun z => absurd (bx b hb).2 z⟩, ⟨0, by omega, rfl, rfl, fun j hj => by omega⟩⟩⟩
  · rw [lo_4, r100]; rfl
  · rw [lo_0 i2]; exact r31 i
  · have e : j = 0 := by omega
    subst e
    refine vl.c fun k hk => ?_
    unfold wr
    rw [if_neg (by omega), if_pos rfl]
theorem law_ok : LawOK := by
  intro X hX
  obtain ⟨S', h⟩ := law_all (F := 100000) (Nat.le_refl _) hX 100000 0 SI (Nat.zero_le _) (by omega) J2_SI
  exact ⟨100000, S', by rw [S0_SI]; exact h⟩
