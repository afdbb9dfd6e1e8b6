/-! ACTS of the class: they end, and keep -/
theorem iv_nat {x : Int32} {u : Nat} (h : iv x 0 (u : Int)) : ∃ n, x = nI n ∧ n ≤ u := by
  obtain ⟨h1, h2⟩ := h
  have e := Int32.toNat_toInt x
  have := tI_hi x
  refine ⟨x.toNatClampNeg, ?_, by omega⟩
  apply Int32.toInt_inj.mp
  rw [nI_toInt (by omega)]
  omega
section AC
variable {α β : Type} {P : α → Prop} {P2 : α → St → Prop}
theorem sf_lt {x : β} {f : β → Option α} (k : Sf (f x) P) : Sf (lt x f) P := k
theorem sg_lt {x : β} {f : β → Option (α × St)} (k : Sf2 (f x) P2) : Sf2 (lt x f) P2 := k
theorem sg_s {a : α} {S : St} (h : P2 a S) : Sf2 (some (a, S)) P2 := ⟨a, S, rfl, h⟩
variable {F G : Nat} {C S : St}
def KC (C S S' : St) : Prop := Kp C S' ∧ S'.1 51 0 = S.1 51 0 ∧ S'.1 51 1 = S.1 51 1
theorem k_row {p1 : Int32} : Sf (fL_rowOf F G S 30 p1) (fun v => v = 31 ∨ v = 32 ∨ v = 33 ∨ v = 34) := by
  unfold fL_rowOf
  refine sf_gd rfl ?_
  refine sf_ite (fun _ => sf_some (by omega)) fun _ => ?_
  refine sf_ite (fun _ => sf_some (by omega)) fun _ => ?_
  exact sf_ite (fun _ => sf_some (by omega)) fun _ => sf_some (by omega)
theorem inB_c {p : Int32} {n : Nat} (h1 : ¬ p < 0) (h2 : ¬ Int32.ofNat n ≤ p) (hn : n < 2 ^ 31) : inB p n = true := by
  have a1 : 0 ≤ p.toInt := by
    have := Int32.not_lt.mp h1
    rw [Int32.le_iff_toInt_le] at this; exact this
  have a2 : p.toInt < n := by
    have := Int32.not_le.mp h2
    rw [Int32.lt_iff_toInt_lt, show (Int32.ofNat n).toInt = n from nI_toInt hn] at this; exact this
  obtain ⟨m, e, hm⟩ := iv_nat (x := p) (u := n - 1) ⟨a1, by omega⟩
  rw [e]; rw [e, nI_toInt (by omega)] at a2
  exact inB_nI (by omega) hn
theorem k_value {p1 p2 : Int32} : Sf (fL_valueOf F G S 30 p1 p2) (fun _ => True) := by
  unfold fL_valueOf
  refine sf_gd rfl (sf_bd k_row fun v hv => ?_)
  refine sf_gd (by rcases hv with rfl | rfl | rfl | rfl <;> rfl) ?_
  refine sf_ite (fun _ => sf_some trivial) fun _ => sf_ite (fun _ => sf_some trivial) fun h1 => sf_ite (fun _ => sf_some trivial) fun h2 => ?_
  exact sf_gd (inB_c h1 h2 (by decide)) (sf_some trivial)
theorem k_put (hK : Kp C S) {p1 p2 p3 : Int32} : Sf (fL_put F G S 30 p1 p2 p3) (KC C S) := by
  unfold fL_put
  refine sf_gd rfl (sf_bd k_row fun v hv => ?_)
  refine sf_gd (by rcases hv with rfl | rfl | rfl | rfl <;> rfl) ?_
  refine sf_ite (fun _ => sf_lt (sf_some ⟨hK.sN rfl rfl (by decide), rfl, rfl⟩)) fun _ => sf_ite (fun _ => sf_some ⟨hK, rfl, rfl⟩) fun h1 => sf_ite (fun _ => sf_some ⟨hK, rfl, rfl⟩) fun h2 => ?_
  refine sf_gd (inB_c h1 h2 (by decide)) (sf_lt (sf_some ?_))
  rcases hv with rfl | rfl | rfl | rfl <;> exact ⟨hK.sN rfl rfl (by decide), rfl, rfl⟩
theorem k_act13 (hK : Kp C S) (h : iv (S.1 51 0) 0 39) {y2 y3 y4 : Int32} : Sf (j_C_act_13 F G 30 S y2 y3 y4) (Kp C) := by
  have e : inB (S.1 51 0) 40 = true := inB_iv h rfl
  unfold j_C_act_13
  refine sf_gd e (sf_lt (sf_gd e (sf_lt (sf_bd k_value fun v _ => sf_gd e (sf_lt (sf_gd e (sf_lt (sf_lt (sf_lt ?_))))))))) 
  have k4 := ((((hK.sN (h := 52) (k := (S.1 51 0).toNatClampNeg) (x := y2) rfl rfl (by decide)).sN (h := 53) (k := (S.1 51 0).toNatClampNeg) (x := y3) rfl rfl (by decide)).sN (h := 54) (k := (S.1 51 0).toNatClampNeg) (x := v) rfl rfl (by decide)).sN (h := 55) (k := (S.1 51 0).toNatClampNeg) (x := y4) rfl rfl (by decide))
  have i1 : iv (S.1 51 0 + 1) 0 40 := iv_add h (show iv (1 : Int32) 1 1 from ⟨by decide, by decide⟩) rfl
  have k6 := (k4.sB (h := 51) (k := 0) (x := S.1 51 0 + 1) rfl rfl i1 (by decide)).sB (h := 51) (k := 1) (x := S.1 51 0 + 1) rfl rfl i1 (by decide)
  exact sf_bd (k_put (F := F) (G := G) (C := C) (S := _) k6) fun T hT => sf_some hT.1
theorem kp_sA {S' : St} (a : Kp S S') {h : Nat} {f : Nat → Int32} (hh : h = 52 ∨ h = 53 ∨ h = 54 ∨ h = 55) : Kp S (sA S' h f) := by
  have at' : ∀ j k, j ≠ h → (sA S' h f).1 j k = S'.1 j k := fun j k q => by
    show (if j = h then f else S'.1 j) k = _
    rw [if_neg q]
  refine ⟨a.1, fun j k l u e => ?_, ?_, fun j k e => ?_⟩
  · by_cases q : j = h
    · subst q; rcases hh with rfl | rfl | rfl | rfl <;> cases e
    · rw [at' j k q]; exact a.2.1 j k l u e
  · rw [ActM, at' _ _ (by omega), at' _ _ (by omega)]; exact a.2.2.1
  · by_cases q : j = h
    · subst q; rcases hh with rfl | rfl | rfl | rfl <;> cases e
    · rw [at' j k q]; exact a.2.2.2 j k e
theorem k_act (hS : Good S) {p2 p3 p4 : Int32} : Sf (fC_act F G S 30 p2 p3 p4) (Kp S) := by
  have h := hS.1 51 0 _ _ rfl
  unfold fC_act
  refine sf_gd rfl (sf_ite (fun c => ?_) fun c => ?_)
  · refine k_act13 (Kp.rf hS) ⟨h.1, ?_⟩
    rw [Int32.lt_iff_toInt_lt, show (40 : Int32).toInt = 40 from rfl] at c
    omega
  · unfold fC_dropOldest
    have k0 := (Kp.rf hS).sB (h := 51) (k := 0) (x := 39) rfl rfl ⟨by decide, by decide⟩ (by decide)
    refine sf_bd (Q := fun T => Kp S T ∧ T.1 51 0 = 39) ?_ fun T hT => k_act13 hT.1 (by rw [hT.2]; exact ⟨by decide, by decide⟩)
    refine sf_lt (sf_gd rfl (sf_lt (sf_gd rfl (sf_lt (sf_gd rfl (sf_lt (sf_gd rfl (sf_lt (sf_some ⟨?_, rfl⟩)))))))))
    exact kp_sA (kp_sA (kp_sA (kp_sA k0 (Or.inl rfl)) (Or.inr (Or.inl rfl))) (Or.inr (Or.inr (Or.inl rfl)))) (Or.inr (Or.inr (Or.inr rfl)))
theorem k_back (hS : Good S) : Sf2 (fC_takeBack F G S 30) (fun v S' => isB v = true ∧ Kp S S') := by
  have h := hS.1 51 0 _ _ rfl
  unfold fC_takeBack
  refine sg_gd rfl (sg_ite (fun c => ?_) fun c => sg_s ⟨rfl, Kp.rf hS⟩)
  have c : 0 < (S.1 51 0).toInt := by rw [Int32.lt_iff_toInt_lt] at c; exact c
  obtain ⟨n, e, hn⟩ := iv_nat (u := 40) h
  have hx : S.1 51 0 - 1 = nI (n - 1) := by
    rw [e, show (1 : Int32) = nI 1 from rfl]
    exact nI_subN (by rw [e, nI_toInt (by omega)] at c; omega) (by omega)
  rw [hx]
  have c : 1 ≤ n := by rw [e, nI_toInt (by omega)] at c; omega
  have i : iv (nI (n - 1)) 0 40 := iv_nI (l := 0) (u := 40) (Nat.zero_le _) (by omega) (by decide)
  have e40 : inB (nI (n - 1)) 40 = true := inB_nI (by omega) (by decide)
  have k0 := (Kp.rf hS).sB (h := 51) (k := 0) (x := nI (n - 1)) rfl rfl i (by decide)
  refine sg_lt (sg_gd e40 (sg_gd e40 (sg_gd e40 (sg_bd (k_put (F := F) (G := G) k0) fun T hT => sg_s ⟨rfl, hT.1⟩))))
theorem k_again (hS : Good S) : Sf2 (fC_doAgain F G S 30) (fun v S' => isB v = true ∧ Kp S S') := by
  have h := hS.1 51 0 _ _ rfl
  have h1 := hS.1 51 1 _ _ rfl
  unfold fC_doAgain
  refine sg_gd rfl (sg_ite (fun c => ?_) fun c => sg_s ⟨rfl, Kp.rf hS⟩)
  rw [Int32.lt_iff_toInt_lt] at c
  have i39 : iv (S.1 51 0) 0 39 := ⟨h.1, by have := h1.2; omega⟩
  have e40 : inB (S.1 51 0) 40 = true := inB_iv i39 rfl
  refine sg_gd e40 (sg_gd e40 (sg_gd e40 (sg_bd (k_put (F := F) (G := G) (Kp.rf hS)) fun T hT => sg_lt (sg_s ⟨rfl, hT.1.sB rfl rfl ?_ (by decide)⟩))))
  rw [hT.2.1]
  exact iv_add i39 (show iv (1 : Int32) 1 1 from ⟨by decide, by decide⟩) rfl
theorem k_tell (hS : Good S) {p1 p2 p3 : Int32} (h3 : p3 = 0 ∨ p3 = 1) : Sf2 (fI_tell F G S p1 p2 p3) (fun _ S' => Kp S S') := by
  have h := hS.1 69 0 _ _ rfl
  unfold fI_tell
  refine sg_ite (fun c => ?_) fun c => sg_s (Kp.rf hS)
  rw [Int32.lt_iff_toInt_lt, show (30 : Int32).toInt = 30 from rfl] at c
  have i29 : iv (S.1 69 0) 0 29 := ⟨h.1, by omega⟩
  have e : inB (S.1 69 0) 30 = true := inB_iv i29 rfl
  refine sg_gd e (sg_lt (sg_gd e (sg_lt (sg_gd e (sg_lt (sg_gd e (sg_lt (sg_gd e (sg_lt (sg_lt (sg_s ?_)))))))))))
  have b3 : iv (vp_nar .boolean p3) 0 1 := by rcases h3 with rfl | rfl <;> exact ⟨by decide, by decide⟩
  refine Kp.sB (Kp.sN (Kp.sN (Kp.sB (Kp.sN (Kp.sN (Kp.rf hS) rfl rfl (by decide)) rfl rfl (by decide)) rfl rfl b3 (by decide)) rfl rfl (by decide)) rfl rfl (by decide)) rfl rfl ?_ (by decide)
  exact iv_add i29 (show iv (1 : Int32) 1 1 from ⟨by decide, by decide⟩) rfl
theorem k_take (hS : Good S) {p1 : Int32} : Sf2 (fI_takeFromNowOn F G S p1) (fun v S' => isB v = true ∧ Kp S S') := by
  have h := hS.1 69 0 _ _ rfl
  unfold fI_takeFromNowOn
  refine sg_ite (fun _ => sg_s ⟨rfl, Kp.rf hS⟩) fun c1 => sg_ite (fun _ => sg_s ⟨rfl, Kp.rf hS⟩) fun c2 => ?_
  have e : inB p1 30 = true := inB_c c1 (fun z => c2 (by
    rw [Int32.le_iff_toInt_le] at z ⊢
    rw [show (Int32.ofNat 30).toInt = 30 from rfl] at z
    have := h.2; omega)) (by decide)
  exact sg_gd e (sg_ite (fun _ => sg_gd e (sg_lt (sg_s ⟨rfl, (Kp.rf hS).sN rfl rfl (by decide)⟩))) fun _ => sg_s ⟨rfl, Kp.rf hS⟩)
theorem la_k {o j k : Nat} (h : isLa o = true) (hj : j ≤ 4) : kps (o + j) k = true ∧ bnd (o + j) k = none ∧ o + j ≠ 78 := by
  rcases isLa_or h with rfl | rfl | rfl | rfl <;> rcases (by omega : j = 0 ∨ j = 1 ∨ j = 2 ∨ j = 3 ∨ j = 4) with rfl | rfl | rfl | rfl | rfl <;> exact ⟨rfl, rfl, by decide⟩
theorem k_copy (hF : 100000 ≤ F) (hK : Kp C S) {o o2 : Nat} (ho : isLa o = true) (ho2 : isLa o2 = true) : Sf (fL_copy F G S o o2) (Kp C) := by
  unfold fL_copy
  refine sf_gd ho (sf_gd ho2 (sf_lt ?_))
  have l0 := la_k (k := 1) ho (Nat.zero_le 4)
  obtain ⟨T, e1, e2⟩ := cp2 (bod := b_L_copy_10 F G o o2) (k := fun S => some S) (N := 10) (fun _ T => Kp C T)
    (fun rec T _ => by
      unfold b_L_copy_10
      rw [if_pos (by decide)])
    (fun rec i T hi hP => by
      unfold b_L_copy_10
      have hin : inB (nI i) 10 = true := inB_nI hi (by decide)
      rw [if_neg (show ¬ (10 : Int32) ≤ nI i from nI_ge (b := 10) hi (by decide))]
      simp only [lt_eq, gd_t hin, nI_1]
      have l1 := la_k (k := (nI i).toNatClampNeg) ho (show 1 ≤ 4 by omega)
      have l2 := la_k (k := (nI i).toNatClampNeg) ho (show 2 ≤ 4 by omega)
      have l3 := la_k (k := (nI i).toNatClampNeg) ho (show 3 ≤ 4 by omega)
      have l4 := la_k (k := (nI i).toNatClampNeg) ho (show 4 ≤ 4 by omega)
      exact ⟨_, rfl, (((hP.sN l1.1 l1.2.1 l1.2.2).sN l2.1 l2.2.1 l2.2.2).sN l3.1 l3.2.1 l3.2.2).sN l4.1 l4.2.1 l4.2.2⟩)
    10 0 F (sI S o 1 (S.1 o2 1)) rfl (by omega) (by omega) (hK.sN l0.1 l0.2.1 l0.2.2)
  exact ⟨T, e1, e2⟩
theorem la_box {p : Int32} (h : iv p 0 2) : isLa (36 + 5 * p.toNatClampNeg) = true := isLa_iv h rfl
end AC
