/-! THE LAW of one call -/
def okL (t : Option (Int32 × St)) : Prop := ∃ S', t = some (1, S')
theorem okL_ite {c : Prop} [Decidable c] {a b : Option (Int32 × St)} (h1 : c → okL a) (h2 : ¬ c → okL b) : okL (if c then a else b) := by
  by_cases h : c
  · rw [if_pos h]; exact h1 h
  · rw [if_neg h]; exact h2 h
theorem okL_gd {b : Bool} {x : Option (Int32 × St)} (h : b = true) (k : okL x) : okL (gd b x) := by rw [gd_t h]; exact k
theorem okL_bd2 {x : Option (Int32 × St)} {v : Int32} {S1 : St} {f : Int32 → St → Option (Int32 × St)} (h : x = some (v, S1)) (k : okL (f v S1)) : okL (bd2 x f) := by rw [h]; exact k
theorem okL_bd {x : Option Int32} {v : Int32} {f : Int32 → Option (Int32 × St)} (h : x = some v) (k : okL (f v)) : okL (bd x f) := by rw [h]; exact k
theorem okL_q22 {x : Option (Int32 × St)} {y : St → Option (Int32 × St)} {f : Int32 → St → Option (Int32 × St)} (K : Q22 x y) (k : ∀ v S1 S2, y S1 = some (v, S2) → okL (f v S1)) : okL (bd2 x f) := by
  obtain ⟨v, S1, S2, h1, h2⟩ := K
  exact okL_bd2 h1 (k v S1 S2 h2)
theorem okL_q12 {x : Option Int32} {y : Option (Int32 × St)} {f : Int32 → Option (Int32 × St)} (K : Q12 x y) (k : ∀ v S2, y = some (v, S2) → okL (f v)) : okL (bd x f) := by
  obtain ⟨v, S2, h1, h2⟩ := K
  exact okL_bd h1 (k v S2 h2)
theorem okL_q11 {x y : Option Int32} {f : Int32 → Option (Int32 × St)} (K : Q11 x y) (k : ∀ v, y = some v → okL (f v)) : okL (bd x f) := by
  obtain ⟨v, h1, h2⟩ := K
  exact okL_bd h1 (k v h2)
theorem okL_fin {rec : Int32 → St → Option (Int32 × St)} (hrec : ∀ S, rec (0 + 6) S = some (1, S)) {v : Int32} {S : St} : okL (if v = v then lt ((0 : Int32) + 6) fun u => rec u S else some ((0 : Int32), S)) := by
  rw [if_pos rfl]
  exact ⟨S, hrec S⟩
set_option maxRecDepth 100000 in
set_option maxHeartbeats 4000000 in
theorem law_one {X : Nat × (Nat → Int32)} (h6 : X.1 = 6) {rec : Int32 → St → Option (Int32 × St)} (hrec : ∀ S, rec (0 + 6) S = some (1, S)) : okL (b_Z_law_18 FU 100 X rec 0 SI) := by
  have g1 : inB ((0 : Int32) + 1) X.1 = true := by rw [h6]; decide
  have g2 : inB ((0 : Int32) + 2) X.1 = true := by rw [h6]; decide
  have g3 : inB ((0 : Int32) + 3) X.1 = true := by rw [h6]; decide
  have g4 : inB ((0 : Int32) + 4) X.1 = true := by rw [h6]; decide
  have g5 : inB ((0 : Int32) + 5) X.1 = true := by rw [h6]; decide
  unfold b_Z_law_18
  refine okL_ite (fun _ => ⟨_, rfl⟩) (fun _ => ?_)
  refine okL_gd (by rw [h6]; decide) ?_
  refine okL_ite (fun _ => ?_) (fun _ => ?_)
  · exact okL_gd g1 (okL_gd g2 (okL_gd g3 (okL_gd g4 (okL_gd g5 (okL_q22 (K_feed _ _ _ _ _) fun v S1 S2 h2 => okL_gd g1 (okL_gd g2 (okL_gd g3 (okL_gd g4 (okL_gd g5 (okL_bd2 h2 (okL_fin hrec)))))))))))
  refine okL_ite (fun _ => ?_) (fun _ => ?_)
  · exact okL_gd g1 (okL_q22 (K_end _) fun v S1 S2 h2 => okL_gd g1 (okL_bd2 h2 (okL_fin hrec)))
  refine okL_ite (fun _ => ?_) (fun _ => ?_)
  · exact okL_q22 (K_score) fun v S1 S2 h2 => okL_bd2 h2 (okL_fin hrec)
  refine okL_ite (fun _ => ?_) (fun _ => ?_)
  · exact okL_gd g1 (okL_q11 (K_fault _) fun v h2 => okL_gd g1 (okL_bd h2 (okL_fin hrec)))
  refine okL_ite (fun _ => ?_) (fun _ => ?_)
  · exact okL_gd g1 (okL_gd g2 (okL_q22 (K_note _ _) fun v S1 S2 h2 => okL_gd g1 (okL_gd g2 (okL_bd2 h2 (okL_fin hrec)))))
  refine okL_ite (fun _ => ?_) (fun _ => ?_)
  · exact okL_gd g1 (okL_gd g2 (okL_q12 (K_part _ _) fun v S2 h2 => okL_gd g1 (okL_gd g2 (okL_bd2 h2 (okL_fin hrec)))))
  refine okL_ite (fun _ => ?_) (fun _ => ?_)
  · exact okL_gd g1 (okL_gd g2 (okL_q22 (K_held _ _) fun v S1 S2 h2 => okL_gd g1 (okL_gd g2 (okL_bd2 h2 (okL_fin hrec)))))
  refine okL_ite (fun _ => ?_) (fun _ => ?_)
  · exact okL_gd g1 (okL_q22 (K_sounds _) fun v S1 S2 h2 => okL_gd g1 (okL_bd2 h2 (okL_fin hrec)))
  refine okL_ite (fun _ => ?_) (fun _ => ?_)
  · exact okL_gd g1 (okL_q22 (K_clash _) fun v S1 S2 h2 => okL_gd g1 (okL_bd2 h2 (okL_fin hrec)))
  refine okL_ite (fun _ => ?_) (fun _ => ?_)
  · exact okL_gd g1 (okL_gd g2 (okL_q22 (K_give _ _) fun v S1 S2 h2 => okL_gd g1 (okL_gd g2 (okL_bd2 h2 (okL_fin hrec)))))
  refine okL_ite (fun _ => ?_) (fun _ => ?_)
  · exact okL_gd g1 (okL_gd g2 (okL_q22 (K_shift _ _) fun v S1 S2 h2 => okL_gd g1 (okL_gd g2 (okL_bd2 h2 (okL_fin hrec)))))
  refine okL_ite (fun _ => ?_) (fun _ => ?_)
  · exact okL_gd g1 (okL_gd g2 (okL_q22 (K_louder _ _) fun v S1 S2 h2 => okL_gd g1 (okL_gd g2 (okL_bd2 h2 (okL_fin hrec)))))
  refine okL_ite (fun _ => ?_) (fun _ => ?_)
  · exact okL_gd g1 (okL_gd g2 (okL_q22 (K_last _ _) fun v S1 S2 h2 => okL_gd g1 (okL_gd g2 (okL_bd2 h2 (okL_fin hrec)))))
  refine okL_ite (fun _ => ?_) (fun _ => ?_)
  · exact okL_gd g1 (okL_q22 (K_pedal _) fun v S1 S2 h2 => okL_gd g1 (okL_bd2 h2 (okL_fin hrec)))
  refine okL_ite (fun _ => ?_) (fun _ => ?_)
  · exact okL_q22 (K_undo) fun v S1 S2 h2 => okL_bd2 h2 (okL_fin hrec)
  refine okL_ite (fun _ => ?_) (fun _ => ?_)
  · exact okL_q22 (K_redo) fun v S1 S2 h2 => okL_bd2 h2 (okL_fin hrec)
  refine okL_ite (fun _ => ?_) (fun _ => ?_)
  · exact okL_q22 (K_clashes) fun v S1 S2 h2 => okL_bd2 h2 (okL_fin hrec)
  refine okL_ite (fun _ => ?_) (fun _ => ?_)
  · exact okL_q22 (K_loss) fun v S1 S2 h2 => okL_bd2 h2 (okL_fin hrec)
  refine okL_ite (fun _ => ?_) (fun _ => ?_)
  · exact okL_gd g1 (okL_q22 (K_version _) fun v S1 S2 h2 => okL_gd g1 (okL_bd2 h2 (okL_fin hrec)))
  refine okL_ite (fun _ => ?_) (fun _ => ?_)
  · exact okL_gd g1 (okL_gd g2 (okL_q22 (K_child _ _) fun v S1 S2 h2 => okL_gd g1 (okL_gd g2 (okL_bd2 h2 (okL_fin hrec)))))
  refine okL_ite (fun _ => ?_) (fun _ => ?_)
  · exact okL_gd g1 (okL_gd g2 (okL_q22 (K_forbids _ _) fun v S1 S2 h2 => okL_gd g1 (okL_gd g2 (okL_bd2 h2 (okL_fin hrec)))))
  refine okL_ite (fun _ => ?_) (fun _ => ?_)
  · exact okL_gd g1 (okL_gd g2 (okL_gd g3 (okL_q22 (K_giveway _ _ _) fun v S1 S2 h2 => okL_gd g1 (okL_gd g2 (okL_gd g3 (okL_bd2 h2 (okL_fin hrec)))))))
  refine okL_ite (fun _ => ?_) (fun _ => ?_)
  · exact okL_gd g1 (okL_gd g2 (okL_q22 (K_letin _ _) fun v S1 S2 h2 => okL_gd g1 (okL_gd g2 (okL_bd2 h2 (okL_fin hrec)))))
  refine okL_ite (fun _ => ?_) (fun _ => ?_)
  · exact okL_gd g1 (okL_q22 (K_pedals _) fun v S1 S2 h2 => okL_gd g1 (okL_bd2 h2 (okL_fin hrec)))
  refine okL_ite (fun _ => ?_) (fun _ => ?_)
  · exact okL_gd g1 (okL_q22 (K_spread _) fun v S1 S2 h2 => okL_gd g1 (okL_bd2 h2 (okL_fin hrec)))
  refine okL_ite (fun _ => ?_) (fun _ => ?_)
  · exact okL_gd g1 (okL_q22 (K_leaps _) fun v S1 S2 h2 => okL_gd g1 (okL_bd2 h2 (okL_fin hrec)))
  refine okL_ite (fun _ => ?_) (fun _ => ?_)
  · exact okL_q22 (K_blur) fun v S1 S2 h2 => okL_bd2 h2 (okL_fin hrec)
  refine okL_ite (fun _ => ?_) (fun _ => ?_)
  · exact okL_gd g1 (okL_q22 (K_open _) fun v S1 S2 h2 => okL_gd g1 (okL_bd2 h2 (okL_fin hrec)))
  refine okL_ite (fun _ => ?_) (fun _ => ?_)
  · exact okL_q22 (K_lost) fun v S1 S2 h2 => okL_bd2 h2 (okL_fin hrec)
  refine okL_ite (fun _ => ?_) (fun _ => ?_)
  · exact okL_q22 (K_gaps) fun v S1 S2 h2 => okL_bd2 h2 (okL_fin hrec)
  refine okL_ite (fun _ => ?_) (fun _ => ?_)
  · exact okL_gd g1 (okL_q22 (K_easier _) fun v S1 S2 h2 => okL_gd g1 (okL_bd2 h2 (okL_fin hrec)))
  refine okL_ite (fun _ => ?_) (fun _ => ?_)
  · exact okL_q22 (K_thickest) fun v S1 S2 h2 => okL_bd2 h2 (okL_fin hrec)
  refine okL_ite (fun _ => ?_) (fun _ => ?_)
  · exact okL_gd g1 (okL_q22 (K_busiest _) fun v S1 S2 h2 => okL_gd g1 (okL_bd2 h2 (okL_fin hrec)))
  refine okL_ite (fun _ => ?_) (fun _ => ?_)
  · exact okL_gd g1 (okL_q22 (K_law _) fun v S1 S2 h2 => okL_gd g1 (okL_bd2 h2 (okL_fin hrec)))
  refine okL_ite (fun _ => ?_) (fun _ => ?_)
  · exact okL_q22 (K_dearest) fun v S1 S2 h2 => okL_bd2 h2 (okL_fin hrec)
  refine okL_ite (fun _ => ?_) (fun _ => ?_)
  · exact okL_gd g1 (okL_q22 (K_could _) fun v S1 S2 h2 => okL_gd g1 (okL_bd2 h2 (okL_fin hrec)))
  refine okL_ite (fun _ => ?_) (fun _ => ?_)
  · exact okL_gd g1 (okL_q11 (K_lies _) fun v h2 => okL_gd g1 (okL_bd h2 (okL_fin hrec)))
  refine okL_ite (fun _ => ?_) (fun _ => ?_)
  · refine okL_gd g1 (okL_gd g2 (okL_gd g3 ?_))
    refine okL_ite (fun h3 => ?_) (fun h3 => ?_)
    · unfold j_Z_law_1171
      refine okL_q22 (K_heard _ _ (k := 0) (by omega)) fun v S1 S2 h2 => ?_
      refine okL_gd g1 (okL_gd g2 (okL_gd g3 ?_))
      refine okL_ite (fun _ => ?_) (fun z => absurd h3 z)
      unfold j_Z_law_1198
      exact okL_bd2 h2 (okL_fin hrec)
    · unfold j_Z_law_1171
      refine okL_q22 (K_heard _ _ (k := 1) (by omega)) fun v S1 S2 h2 => ?_
      refine okL_gd g1 (okL_gd g2 (okL_gd g3 ?_))
      refine okL_ite (fun z => absurd z h3) (fun _ => ?_)
      unfold j_Z_law_1198
      exact okL_bd2 h2 (okL_fin hrec)
  refine okL_ite (fun _ => ?_) (fun _ => ?_)
  · exact okL_gd g1 (okL_q22 (K_untell _) fun v S1 S2 h2 => okL_gd g1 (okL_bd2 h2 (okL_fin hrec)))
  refine okL_ite (fun _ => ?_) (fun _ => ?_)
  · exact okL_gd g1 (okL_q22 (K_later _) fun v S1 S2 h2 => okL_gd g1 (okL_bd2 h2 (okL_fin hrec)))
  refine okL_ite (fun _ => ?_) (fun _ => ?_)
  · exact okL_gd g1 (okL_q22 (K_sets _) fun v S1 S2 h2 => okL_gd g1 (okL_bd2 h2 (okL_fin hrec)))
  refine okL_ite (fun _ => ?_) (fun _ => ?_)
  · exact okL_gd g1 (okL_gd g2 (okL_q22 (K_sure _ _) fun v S1 S2 h2 => okL_gd g1 (okL_gd g2 (okL_bd2 h2 (okL_fin hrec)))))
  refine okL_ite (fun _ => ?_) (fun _ => ?_)
  · exact okL_gd g1 (okL_gd g2 (okL_q22 (K_ask _ _) fun v S1 S2 h2 => okL_gd g1 (okL_gd g2 (okL_bd2 h2 (okL_fin hrec)))))
  refine okL_ite (fun _ => ?_) (fun _ => ?_)
  · exact okL_gd g1 (okL_q22 (K_image _) fun v S1 S2 h2 => okL_gd g1 (okL_bd2 h2 (okL_fin hrec)))
  refine okL_ite (fun _ => ?_) (fun _ => ?_)
  · exact okL_gd g1 (okL_q22 (K_back _) fun v S1 S2 h2 => okL_gd g1 (okL_bd2 h2 (okL_fin hrec)))
  refine okL_ite (fun _ => ?_) (fun _ => ?_)
  · exact okL_gd g1 (okL_q11 (K_differ _) fun v h2 => okL_gd g1 (okL_bd h2 (okL_fin hrec)))
  refine okL_ite (fun _ => ?_) (fun _ => ?_)
  · exact okL_gd g1 (okL_q11 (K_about _) fun v h2 => okL_gd g1 (okL_bd h2 (okL_fin hrec)))
  exact ⟨SI, hrec SI⟩
theorem law_ok : LawOK := by
  intro X hX
  rw [S0_SI]
  by_cases h6 : X.1 = 6
  · obtain ⟨S', h⟩ := law_one h6 (rec := fx2 (b_Z_law_18 FU 100 X) 4999) (fun S => by
      show b_Z_law_18 FU 100 X (fx2 _ 4998) (0 + 6) S = _
      unfold b_Z_law_18
      exact if_pos (by rw [h6]; decide))
    exact ⟨FU, S', h⟩
  · refine ⟨1, SI, ?_⟩
    show b_Z_law_18 1 100 X (fx2 _ 0) 0 SI = _
    unfold b_Z_law_18
    exact if_pos ((by decide +kernel : ∀ n, n < 6 → Int32.ofNat n - 6 < 0) X.1 (by omega))
