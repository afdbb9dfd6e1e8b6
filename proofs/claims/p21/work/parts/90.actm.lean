/-! ACTS of the reference: they end, and keep -/
def Kq (C S : St) : Prop := S.2 = C.2 ∧ Bnd S ∧ ∀ h k, kps h k = false → S.1 h k = C.1 h k
theorem Kp.q {C S : St} (h : Kp C S) : Kq C S := ⟨h.1, h.2.1, h.2.2.2⟩
theorem Kq.p {C S : St} (h : Kq C S) (a : ActM S) : Kp C S := ⟨h.1, h.2.1, a, h.2.2⟩
theorem Kq.st {C S : St} (a : Kq C S) {h k : Nat} {x : Int32} (hk : kps h k = true) (hb : ∀ l u, bnd h k = some (l, u) → iv x l u) : Kq C (sI S h k x) := by
  refine ⟨a.1, a.2.1.st hb, fun h' k' e => ?_⟩
  rw [sI_at, if_neg (fun c => by rw [c.1, c.2, hk] at e; cases e)]
  exact a.2.2 h' k' e
theorem Kq.sN {C S : St} (a : Kq C S) {h k : Nat} {x : Int32} (hk : kps h k = true) (hb : bnd h k = none) : Kq C (sI S h k x) := a.st hk fun l u e => by rw [hb] at e; cases e
theorem Kq.sB {C S : St} (a : Kq C S) {h k : Nat} {x : Int32} {l u : Int} (hk : kps h k = true) (hb : bnd h k = some (l, u)) (hx : iv x l u) : Kq C (sI S h k x) := a.st hk fun l' u' e => by rw [hb] at e; cases e; exact hx
theorem sf_eq {α : Type} {P : α → Prop} {x y : Option α} (h : x = y) (k : Sf y P) : Sf x P := by rw [h]; exact k
theorem sg_eq {α : Type} {P : α → St → Prop} {x y : Option (α × St)} (h : x = y) (k : Sf2 y P) : Sf2 x P := by rw [h]; exact k
section AM
variable {F G : Nat} {C S T : St}
theorem m_act51 (hF : 100000 ≤ F) (hK : Kq C T) {a : Nat} (h63 : T.1 78 63 = nI a) (ha : a ≤ 39) : Sf (fx2 (b_M_act_51 F G) F 0 T) (Kp C) := by
  obtain ⟨U, e1, e2, e3⟩ := cp2 (bod := b_M_act_51 F G) (k := fun S => lt (sI S 78 63 ((S.1 78 63) + (1 : Int32))) fun S3 => lt (sI S3 78 64 (0 : Int32)) fun S5 => some S5) (N := 41) (fun _ U => Kq C U ∧ U.1 78 63 = nI a)
    (fun rec U _ => by
      unfold b_M_act_51
      rw [if_pos (by decide)])
    (fun rec i U hi hP => by
      unfold b_M_act_51
      rw [if_neg (show ¬ (41 : Int32) ≤ nI i from nI_ge (b := 41) hi (by decide)), gd_t (inB_nI hi (by decide)), hP.2, show (41 : Int32) * nI a + nI i = nI (41 * a + i) by rw [show (41 : Int32) = nI 41 from rfl, nI_mulN, nI_add], gd_t (inB_nI (by omega) (by decide)), lt_eq, lt_eq, nI_1]
      exact ⟨_, rfl, hP.1.sN rfl rfl, hP.2⟩)
    41 0 F T rfl (by omega) (by omega) ⟨hK, h63⟩
  refine ⟨_, e1, Kq.p ?_ ?_⟩
  · refine (e2.sB rfl rfl ?_).sB rfl rfl ⟨by decide, by decide⟩
    rw [e3, nI_1]; exact iv_nI (l := 0) (u := 40) (Nat.zero_le _) (by omega) (by decide)
  · show (U.1 78 63 + 1).toInt + (0 : Int32).toInt ≤ 40
    rw [e3, nI_1, nI_toInt (by omega), show (0 : Int32).toInt = 0 from rfl]
    omega
theorem m_act (hF : 100000 ≤ F) (hS : Good S) : Sf (fM_act F G S) (Kp S) := by
  obtain ⟨a, e, ha⟩ := iv_nat (u := 40) (hS.1 78 63 _ _ rfl)
  unfold fM_act
  rw [e]
  by_cases c : nI a = 40
  · rw [if_pos c]
    have ha : a = 40 := by
      have := (nI_eq (a := a) (b := 40) (by omega) (by omega)).mp c
      exact this
    obtain ⟨U, e1, e2, e3⟩ := cp2 (bod := b_M_act_11 F G (fun S20 => lt (sI S20 78 63 ((S20.1 78 63) - (1 : Int32))) fun S21 => fx2 (b_M_act_51 F G) F (0 : Int32) S21)) (k := fun S20 => lt (sI S20 78 63 ((S20.1 78 63) - (1 : Int32))) fun S21 => fx2 (b_M_act_51 F G) F (0 : Int32) S21) (N := 1599) (fun _ U => Kq S U ∧ U.1 78 63 = nI 40)
      (fun rec U _ => by
        unfold b_M_act_11
        rw [if_pos (by decide)])
      (fun rec i U hi hP => by
        unfold b_M_act_11
        rw [if_neg (show ¬ (1599 : Int32) ≤ nI i from nI_ge (b := 1599) hi (by decide)), show (41 : Int32) + nI i = nI (41 + i) by rw [show (41 : Int32) = nI 41 from rfl, nI_add], gd_t (inB_nI (by omega) (by decide)), gd_t (inB_nI (by omega) (by decide)), lt_eq, lt_eq, nI_1]
        exact ⟨_, rfl, hP.1.sN rfl rfl, hP.2⟩)
      1599 0 F S rfl (by omega) (by omega) ⟨(Kp.rf hS).q, by rw [e, ha]⟩
    refine sf_eq e1 (sf_lt ?_)
    refine (m_act51 hF (a := 39) (e2.sB rfl rfl ?_) ?_ (by omega))
    · rw [e3]; exact ⟨by decide, by decide⟩
    · show U.1 78 63 - 1 = _
      rw [e3]; rfl
  · rw [if_neg c]
    refine m_act51 hF (Kp.rf hS).q e ?_
    by_cases z : a = 40
    · exact absurd (by rw [z]; rfl) c
    · omega
theorem m_ex (hF : 100000 ≤ F) (hK : Kq C T) {x : Nat} (hx : x ≤ 39) {v : Int32} (hv : v = nI x) : ∃ T', fM_exchange F G T (41 * v) = some T' ∧ Kq C T' ∧ ∀ k, T'.1 78 k = T.1 78 k := by
  unfold fM_exchange
  rw [hv, show (41 : Int32) * nI x = nI (41 * x) by rw [show (41 : Int32) = nI 41 from rfl, nI_mulN]]
  obtain ⟨U, e1, e2, e3⟩ := cp2 (bod := b_M_exchange_2 F G (nI (41 * x))) (k := fun S => some S) (N := 41) (fun _ U => Kq C U ∧ ∀ k, U.1 78 k = T.1 78 k)
    (fun rec U _ => by
      unfold b_M_exchange_2
      rw [if_pos (by decide)])
    (fun rec i U hi hP => by
      unfold b_M_exchange_2
      have g1 : inB (nI (41 * x + i)) 1640 = true := inB_nI (by omega) (by decide)
      have g2 : inB (nI i) 41 = true := inB_nI hi (by decide)
      rw [if_neg (show ¬ (41 : Int32) ≤ nI i from nI_ge (b := 41) hi (by decide)), nI_add]
      simp only [lt_eq, gd_t g1, gd_t g2, nI_1]
      exact ⟨_, rfl, (hP.1.sN rfl rfl).sN rfl rfl, fun k => hP.2 k⟩)
    41 0 F T rfl (by omega) (by omega) ⟨hK, fun _ => rfl⟩
  exact ⟨U, e1, e2, e3⟩
theorem m_undo (hF : 100000 ≤ F) (hS : Good S) : Sf2 (fM_undo F G S) (fun _ S' => Kp S S') := by
  obtain ⟨a, e, ha⟩ := iv_nat (u := 40) (hS.1 78 63 _ _ rfl)
  obtain ⟨b, f, hb⟩ := iv_nat (u := 40) (hS.1 78 64 _ _ rfl)
  have hA := hS.2.2.2
  rw [ActM, e, f, nI_toInt (by omega), nI_toInt (by omega)] at hA
  unfold fM_undo
  refine sg_ite (fun _ => sg_s (Kp.rf hS)) fun c => ?_
  have a1 : 1 ≤ a := by
    by_cases z : a = 0
    · rw [z] at e; exact absurd e c
    · omega
  refine sg_lt (sg_lt ?_)
  have h1 : S.1 78 63 - 1 = nI (a - 1) := by rw [e]; exact nI_subN (b := 1) a1 (by omega)
  have h2 : (sI S 78 63 (S.1 78 63 - 1)).1 78 64 + 1 = nI (b + 1) := by show S.1 78 64 + 1 = _; rw [f, nI_1]
  rw [h2, h1]
  have k0 : Kq S (sI (sI S 78 63 (nI (a - 1))) 78 64 (nI (b + 1))) := ((Kp.rf hS).q.sB rfl rfl (iv_nI (l := 0) (u := 40) (Nat.zero_le _) (by omega) (by decide))).sB rfl rfl (iv_nI (l := 0) (u := 40) (Nat.zero_le _) (by omega) (by decide))
  obtain ⟨T, t1, t2, t3⟩ := m_ex (F := F) (G := G) (x := a - 1) hF k0 (by omega) (v := (sI (sI S 78 63 (nI (a - 1))) 78 64 (nI (b + 1))).1 78 63) rfl
  rw [t1, bd_some]
  refine sg_s (t2.p ?_)
  rw [ActM, t3, t3]
  show (nI (a - 1)).toInt + (nI (b + 1)).toInt ≤ 40
  rw [nI_toInt (by omega), nI_toInt (by omega)]; omega
theorem m_redo (hF : 100000 ≤ F) (hS : Good S) : Sf2 (fM_redo F G S) (fun _ S' => Kp S S') := by
  obtain ⟨a, e, ha⟩ := iv_nat (u := 40) (hS.1 78 63 _ _ rfl)
  obtain ⟨b, f, hb⟩ := iv_nat (u := 40) (hS.1 78 64 _ _ rfl)
  have hA := hS.2.2.2
  rw [ActM, e, f, nI_toInt (by omega), nI_toInt (by omega)] at hA
  unfold fM_redo
  refine sg_ite (fun _ => sg_s (Kp.rf hS)) fun c => ?_
  have b1 : 1 ≤ b := by
    by_cases z : b = 0
    · rw [z] at f; exact absurd f c
    · omega
  obtain ⟨T, t1, t2, t3⟩ := m_ex (F := F) (G := G) (x := a) hF (Kp.rf hS).q (by omega) e
  rw [t1, bd_some]
  refine sg_lt (sg_lt (sg_s ?_))
  have h1 : T.1 78 63 + 1 = nI (a + 1) := by rw [t3, e, nI_1]
  have h2 : (sI T 78 63 (T.1 78 63 + 1)).1 78 64 - 1 = nI (b - 1) := by
    show T.1 78 64 - 1 = _
    rw [t3, f]; exact nI_subN (b := 1) b1 (by omega)
  rw [h2, h1]
  refine Kq.p ((t2.sB rfl rfl (iv_nI (l := 0) (u := 40) (Nat.zero_le _) (by omega) (by decide))).sB rfl rfl (iv_nI (l := 0) (u := 40) (Nat.zero_le _) (by omega) (by decide))) ?_
  show (nI (a + 1)).toInt + (nI (b - 1)).toInt ≤ 40
  rw [nI_toInt (by omega), nI_toInt (by omega)]; omega
theorem k_isIn {a b c : Int32} : Sf (fM_isIn F G S a b c) (fun r => (r = 0 ∨ r = 1) ∧ (¬ r = 0 → ¬ a < b ∧ ¬ c < a)) := by
  unfold fM_isIn
  exact sf_ite (fun _ => sf_some ⟨Or.inl rfl, fun z => absurd rfl z⟩) fun h1 => sf_ite (fun _ => sf_some ⟨Or.inl rfl, fun z => absurd rfl z⟩) fun h2 => sf_some ⟨Or.inr rfl, fun _ => ⟨h1, h2⟩⟩
theorem m_heard (hF : 100000 ≤ F) (hG : 20 ≤ G) (hS : Good S) {p1 p2 p3 : Int32} (h3 : p3 = 0 ∨ p3 = 1) : Sf2 (fM_heard F G S p1 p2 p3) (fun _ S' => Kp S S') := by
  have h := hS.1 78 74 _ _ rfl
  unfold fM_heard
  refine sg_bd (s_fM_isBeat hF hG (Inv.rf hS)) fun v _ => sg_ite (fun _ => sg_s (Kp.rf hS)) fun _ => sg_bd k_isIn fun w _ => sg_ite (fun _ => sg_s (Kp.rf hS)) fun _ => sg_ite (fun _ => sg_s (Kp.rf hS)) fun c => ?_
  obtain ⟨n, e, hn⟩ := iv_nat (u := 30) h
  have n30 : n ≤ 29 := by
    by_cases z : n = 30
    · rw [z] at e; exact absurd e c
    · omega
  have i29 : iv (S.1 78 74) 0 29 := by rw [e]; exact iv_nI (l := 0) (u := 29) (Nat.zero_le _) n30 (by decide)
  have g : inB (S.1 78 74) 30 = true := inB_iv i29 rfl
  refine sg_gd g (sg_lt (sg_gd g (sg_lt (sg_gd g (sg_lt (sg_gd g (sg_lt (sg_gd g (sg_lt (sg_lt (sg_s ?_)))))))))))
  have b3 : iv (vp_nar .boolean p3) 0 1 := by rcases h3 with rfl | rfl <;> exact ⟨by decide, by decide⟩
  refine Kq.p (Kq.sB (Kq.sN (Kq.sN (Kq.sB (Kq.sN (Kq.sN (Kp.rf hS).q rfl rfl) rfl rfl) rfl rfl b3) rfl rfl) rfl rfl) rfl rfl ?_) hS.2.2.2
  exact iv_add i29 (show iv (1 : Int32) 1 1 from ⟨by decide, by decide⟩) rfl
theorem inB_2 {p : Int32} {n : Nat} {u : Int} (h1 : ¬ p < 0) (h2 : p.toInt ≤ u) (hu : u < n) (hn : n < 2 ^ 31) : inB p n = true := by
  refine inB_c h1 (fun z => ?_) hn
  rw [Int32.le_iff_toInt_le, show (Int32.ofNat n).toInt = n from nI_toInt hn] at z
  omega
theorem m_untell (hS : Good S) {p1 : Int32} : Sf2 (fM_untell F G S p1) (fun _ S' => Kp S S') := by
  obtain ⟨n, e, hn⟩ := iv_nat (u := 30) (hS.1 78 74 _ _ rfl)
  unfold fM_untell
  refine sg_bd k_isIn fun v hv => sg_ite (fun _ => sg_s (Kp.rf hS)) fun c => ?_
  obtain ⟨c1, c2⟩ := hv.2 c
  have g : inB p1 30 = true := by
    have c2 := Int32.not_lt.mp c2
    rw [Int32.le_iff_toInt_le] at c2
    have z : (S.1 78 74 - 1).toInt = (n : Int) - 1 := by
      rw [e, Int32.toInt_sub, nI_toInt (by omega), show (1 : Int32).toInt = 1 from rfl, i32b (by omega) (by omega)]
    rw [z] at c2
    exact inB_2 c1 c2 (by omega) (by decide)
  exact sg_gd g (sg_ite (fun _ => sg_gd g (sg_lt (sg_s ((Kp.rf hS).sN rfl rfl (by decide))))) fun _ => sg_s (Kp.rf hS))
theorem m_image (hF : 100000 ≤ F) (hG : 20 ≤ G) (hS : Good S) {p1 : Int32} : Sf2 (fM_image F G S p1) (fun _ S' => Kp S S') := by
  unfold fM_image
  refine sg_bd (s_fM_isBox hF hG (Inv.rf hS)) fun v hv => sg_ite (fun _ => sg_s (Kp.rf hS)) fun c => ?_
  have i2 := hv.2 c
  obtain ⟨x, e, hx⟩ := iv_nat (u := 2) i2
  refine sg_gd (inB_iv i2 rfl) (sg_lt ?_)
  obtain ⟨U, e1, e2⟩ := cp2 (bod := b_M_image_18 F G p1 (fun S14 => bd (fM_played F G S14) fun v16 => some (v16, S14))) (k := fun S14 => bd (fM_played F G S14) fun v16 => some (v16, S14)) (N := 41) (fun _ U => Kp S U)
    (fun rec U _ => by
      unfold b_M_image_18
      rw [if_pos (by decide)])
    (fun rec i U hi hP => by
      unfold b_M_image_18
      rw [if_neg (show ¬ (41 : Int32) ≤ nI i from nI_ge (b := 41) hi (by decide)), gd_t (inB_nI hi (by decide)), e, show (41 : Int32) * nI x + nI i = nI (41 * x + i) by rw [show (41 : Int32) = nI 41 from rfl, nI_mulN, nI_add], gd_t (inB_nI (by omega) (by decide)), lt_eq, lt_eq, nI_1]
      exact ⟨_, rfl, hP.sN rfl rfl (by decide)⟩)
    41 0 F (sI S 115 p1.toNatClampNeg (vp_nar .boolean (1 : Int32))) rfl (by omega) (by omega) ((Kp.rf hS).sB rfl rfl ⟨by decide, by decide⟩ (by decide))
  refine sg_eq e1 ?_
  exact sg_bd (s_fM_played hF hG (Inv.rf (e2.good hS))) fun _ _ => sg_s e2
theorem m_back (hF : 100000 ≤ F) (hG : 20 ≤ G) (hS : Good S) {p1 : Int32} : Sf2 (fM_back F G S p1) (fun _ S' => Kp S S') := by
  unfold fM_back
  refine sg_bd (s_fM_isBox hF hG (Inv.rf hS)) fun v hv => sg_ite (fun _ => sg_s (Kp.rf hS)) fun c => ?_
  have i2 := hv.2 c
  obtain ⟨x, e, hx⟩ := iv_nat (u := 2) i2
  refine sg_gd (inB_iv i2 rfl) (sg_ite (fun _ => sg_s (Kp.rf hS)) fun _ => ?_)
  obtain ⟨U, e1, e2⟩ := cp2 (bod := b_M_back_20 F G p1 (fun S13 => lt (sI S13 78 63 (0 : Int32)) fun S14 => lt (sI S14 78 64 (0 : Int32)) fun S16 => bd (fM_played F G S16) fun v19 => some (v19, S16))) (k := fun S13 => lt (sI S13 78 63 (0 : Int32)) fun S14 => lt (sI S14 78 64 (0 : Int32)) fun S16 => bd (fM_played F G S16) fun v19 => some (v19, S16)) (N := 41) (fun _ U => Kq S U)
    (fun rec U _ => by
      unfold b_M_back_20
      rw [if_pos (by decide)])
    (fun rec i U hi hP => by
      unfold b_M_back_20
      rw [if_neg (show ¬ (41 : Int32) ≤ nI i from nI_ge (b := 41) hi (by decide)), e, show (41 : Int32) * nI x + nI i = nI (41 * x + i) by rw [show (41 : Int32) = nI 41 from rfl, nI_mulN, nI_add], gd_t (inB_nI (by omega) (by decide)), gd_t (inB_nI hi (by decide)), lt_eq, lt_eq, nI_1]
      exact ⟨_, rfl, hP.sN rfl rfl⟩)
    41 0 F S rfl (by omega) (by omega) (Kp.rf hS).q
  refine sg_eq e1 ?_
  have k : Kp S (sI (sI U 78 63 0) 78 64 0) := Kq.p ((e2.sB rfl rfl ⟨by decide, by decide⟩).sB rfl rfl ⟨by decide, by decide⟩) (by show (0 : Int32).toInt + (0 : Int32).toInt ≤ 40; decide)
  exact sg_lt (sg_lt (sg_bd (s_fM_played hF hG (Inv.rf (k.good hS))) fun _ _ => sg_s k))
theorem inB_p {p : Int32} {c : Nat} (h : iv p 0 9) (hc : c ≤ 30) : inB (nI c + p) 41 = true := by
  obtain ⟨x, e, hx⟩ := iv_nat (u := 9) h
  rw [e, nI_add]; exact inB_nI (by omega) (by decide)
theorem m_change (hF : 100000 ≤ F) (hS : Good S) {p1 p2 : Int32} (h : inB p1 41 = true) : Sf2 (fM_change F G S p1 p2) (fun _ S' => Kp S S') := by
  unfold fM_change
  exact sg_bd (m_act hF hS) fun T hT => sg_gd h (sg_lt (sg_gd h (sg_lt (sg_s (hT.sN rfl rfl (by decide))))))
theorem m_give (hF : 100000 ≤ F) (hG : 20 ≤ G) (hS : Good S) {p1 p2 : Int32} : Sf2 (fM_give F G S p1 p2) (fun _ S' => Kp S S') := by
  unfold fM_give
  refine sg_bd (s_fM_isNote hF hG (Inv.rf hS)) fun v hv => sg_ite (fun _ => sg_s (Kp.rf hS)) fun c => sg_bd k_isIn fun w _ => sg_ite (fun _ => sg_s (Kp.rf hS)) fun _ => ?_
  have g : inB p1 41 = true := inB_iv (hv.2 c) rfl
  refine sg_gd g (sg_ite (fun _ => sg_s (Kp.rf hS)) fun _ => sg_bd (m_act hF hS) fun T hT => sg_gd g (sg_lt ?_))
  have k := hT.sN (h := 100) (k := p1.toNatClampNeg) (x := p2) rfl rfl (by decide)
  exact sg_bd2 (s_fM_clashes hF hG (Inv.rf (k.good hS))) fun v U hU => sg_s (k.tr hU.2.kp)
theorem m_shift (hF : 100000 ≤ F) (hG : 20 ≤ G) (hS : Good S) {p1 p2 : Int32} : Sf2 (fM_shift F G S p1 p2) (fun _ S' => Kp S S') := by
  unfold fM_shift
  refine sg_bd (s_fM_isNote hF hG (Inv.rf hS)) fun v hv => sg_ite (fun _ => sg_s (Kp.rf hS)) fun c => sg_ite (fun _ => sg_s (Kp.rf hS)) fun _ => sg_bd k_isIn fun w _ => sg_ite (fun _ => sg_s (Kp.rf hS)) fun _ => ?_
  have g : inB (10 + p1) 41 = true := inB_p (c := 10) (hv.2 c) (by omega)
  exact sg_gd g (sg_bd k_isIn fun _ _ => sg_ite (fun _ => sg_s (Kp.rf hS)) fun _ => sg_bd (m_act hF hS) fun T hT => sg_gd g (sg_gd g (sg_lt (sg_gd g (sg_s (hT.sN rfl rfl (by decide)))))))
theorem m_louder (hF : 100000 ≤ F) (hG : 20 ≤ G) (hS : Good S) {p1 p2 : Int32} : Sf2 (fM_louder F G S p1 p2) (fun _ S' => Kp S S') := by
  unfold fM_louder
  refine sg_bd (s_fM_isNote hF hG (Inv.rf hS)) fun v hv => sg_ite (fun _ => sg_s (Kp.rf hS)) fun c => sg_bd k_isIn fun w _ => sg_ite (fun _ => sg_s (Kp.rf hS)) fun _ => ?_
  have g : inB (30 + p1) 41 = true := inB_p (c := 30) (hv.2 c) (by omega)
  exact sg_gd g (sg_ite (fun _ => sg_s (Kp.rf hS)) fun _ => sg_bd2 (m_change hF hS g) fun _ _ h => sg_s h)
theorem m_last (hF : 100000 ≤ F) (hG : 20 ≤ G) (hS : Good S) {p1 p2 : Int32} : Sf2 (fM_last F G S p1 p2) (fun _ S' => Kp S S') := by
  unfold fM_last
  refine sg_bd (s_fM_isNote hF hG (Inv.rf hS)) fun v hv => sg_ite (fun _ => sg_s (Kp.rf hS)) fun c => sg_bd k_isIn fun w _ => sg_ite (fun _ => sg_s (Kp.rf hS)) fun _ => ?_
  have g : inB (20 + p1) 41 = true := inB_p (c := 20) (hv.2 c) (by omega)
  exact sg_gd g (sg_ite (fun _ => sg_s (Kp.rf hS)) fun _ => sg_bd2 (m_change hF hS g) fun _ _ h => sg_s h)
theorem m_pedal (hF : 100000 ≤ F) (hG : 20 ≤ G) (hS : Good S) {p1 : Int32} : Sf2 (fM_pedal F G S p1) (fun _ S' => Kp S S') := by
  unfold fM_pedal
  refine sg_bd (s_fM_isBeat hF hG (Inv.rf hS)) fun v hv => sg_ite (fun _ => sg_s (Kp.rf hS)) fun c => ?_
  exact sg_bd (m_act hF hS) fun T hT => sg_gd rfl (sg_gd rfl (sg_lt (sg_gd rfl (sg_s (hT.sN rfl rfl (by decide))))))
end AM
