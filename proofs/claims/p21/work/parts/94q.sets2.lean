/-! sets, sure, ask: the reference's side and the answers -/
section WM
variable {F G : Nat} {C S T : St} {nn n : Nat} {t : Int32}
/-- a state of the reference with C's witness and score -/
def MC (C S : St) (nn n : Nat) : Prop := nn ≤ 10 ∧ n ≤ 30 ∧ S.1 78 48 = nI nn ∧ S.1 78 74 = nI n ∧ (∀ h, (96 ≤ h ∧ h ≤ 98) ∨ (108 ≤ h ∧ h ≤ 112) → S.1 h = C.1 h) ∧ ∀ j, j < n → iv (C.1 111 j) (-1) 100000 ∧ (C.1 112 j = 0 ∨ C.1 112 j = 1)
theorem MC.fr {S' : St} (w : MC C S nn n) (r : ∀ h, h ≠ 113 → h ≠ 114 → S'.1 h = S.1 h) : MC C S' nn n := by
  obtain ⟨w1, w2, w3, w4, w5, w6⟩ := w
  exact ⟨w1, w2, by rw [r 78 (by omega) (by omega)]; exact w3, by rw [r 78 (by omega) (by omega)]; exact w4, fun h q => by rw [r h (by omega) (by omega)]; exact w5 h q, w6⟩
theorem M_sayers (hF : 100000 ≤ F) (w : MC C S nn n) {j : Nat} (hj : j < n) : fM_sayersOf F G S (nI j) = some (say C nn j) := by
  obtain ⟨w1, w2, w3, w4, w5, w6⟩ := w
  unfold fM_sayersOf
  refine for_or (N := nn) (k := some) (by omega) (syB C j) (fun rec a => by unfold b_M_sayersOf_4; rw [w3, if_pos (nI_le (Nat.le_refl nn) (by omega))]) (fun rec a i hi => ?_) (by omega)
  have g : inB (nI i) 10 = true := inB_nI (by omega) (by decide)
  have g2 : inB (nI j) 30 = true := inB_nI (by omega) (by decide)
  unfold b_M_sayersOf_4 j_M_sayersOf_69 j_M_sayersOf_70 syB
  rw [w3, if_neg (nI_ge hi (by omega))]
  simp only [gd_t g, gd_t g2, nI_clamp (show i < 2 ^ 31 by omega), nI_clamp (show j < 2 ^ 31 by omega), w5 96 (by omega), w5 97 (by omega), w5 98 (by omega), w5 108 (by omega), w5 109 (by omega), lt_eq, nI_1, M_truth, bd_some]
  have z1 : (if True then (0 : Int32) else 1) = 0 := if_pos trivial
  have o1 : (if (1 : Int32) = 0 then (0 : Int32) else 1) = 1 := if_neg (by decide)
  rw [z1, o1, sh_0 (by omega), Int32.or_zero]
  by_cases c1 : C.1 97 i = C.1 109 j
  · rw [if_pos c1, decide_eq_true c1, Bool.true_and]
    by_cases c2 : C.1 108 j < C.1 96 i
    · rw [if_pos c2, decide_eq_true c2, Bool.not_true, Bool.false_and, if_neg (show ¬ false = true by decide), Int32.or_zero]
    · rw [if_neg c2, decide_eq_false c2, Bool.not_false, Bool.true_and]
      by_cases c3 : C.1 96 i + C.1 98 i ≤ C.1 108 j
      · rw [if_pos c3, decide_eq_true c3, Bool.not_true, if_neg (show ¬ false = true by decide), Int32.or_zero]
      · rw [if_neg c3, decide_eq_false c3, Bool.not_false, if_pos rfl]
  · rw [if_neg c1, decide_eq_false c1, Bool.false_and, if_neg (show ¬ false = true by decide), Int32.or_zero]
theorem M_counts (w : MC C S nn n) {j : Nat} (hj : j < n) : fM_counts F G S (nI j) t = some (b2i (cou C t j)) := by
  obtain ⟨w1, w2, w3, w4, w5, w6⟩ := w
  have g2 : inB (nI j) 30 = true := inB_nI (by omega) (by decide)
  have a6 := (w6 j hj).1
  unfold fM_counts cou
  simp only [gd_t g2, nI_clamp (show j < 2 ^ 31 by omega), w5 110 (by omega), w5 111 (by omega)]
  by_cases c1 : t < C.1 110 j
  · rw [if_pos c1, decide_eq_true c1]; rfl
  · rw [if_neg c1, decide_eq_false c1]
    by_cases c2 : C.1 111 j < 0
    · rw [if_pos c2, decide_eq_true c2]; rfl
    · rw [if_neg c2, decide_eq_false c2]
      by_cases c3 : C.1 111 j ≤ t
      · rw [if_pos c3, decide_eq_false (Int32.not_lt.mpr c3)]; rfl
      · rw [if_neg c3, decide_eq_true (Int32.not_le.mp c3)]; rfl
theorem M_fits (w : MC C S nn n) (s13 : ∀ j, j < n → S.1 113 j = say C nn j) (z2 x : Int32) (kk : Int32 → Option (Int32 × St)) : ∀ r j f, n - j = r → j ≤ n → r < f → fx2 (b_M_laySets_68 F G S t z2 x kk) f (b2i (canP (fcS C nn t x) j)) (nI j) = kk (b2i (soS C nn n t x)) := by
  have n30 := w.2.1
  have w74 := w.2.2.2.1
  unfold soS
  intro r
  induction r with
  | zero =>
    intro j f hr hj hf
    obtain ⟨g, rfl⟩ : ∃ g, f = g + 1 := ⟨f - 1, by omega⟩
    have e : j = n := by omega
    subst e
    rw [fx2_s]
    unfold b_M_laySets_68
    rw [w74, if_pos (nI_le (Nat.le_refl j) (by omega))]
  | succ r ih =>
    intro j f hr hj hf
    obtain ⟨g, rfl⟩ : ∃ g, f = g + 1 := ⟨f - 1, by omega⟩
    have ih' := ih (j + 1) g (by omega) (by omega) (by omega)
    rw [fx2_s]
    generalize fx2 (b_M_laySets_68 F G S t z2 x kk) g = rec at ih' ⊢
    unfold b_M_laySets_68 j_M_laySets_109
    rw [w74, if_neg (nI_ge (show j < n by omega) (by omega))]
    cases cv : canP (fcS C nn t x) j
    · have u := canP_up (c := fcS C nn t x) (a := j) cv (n - j)
      rw [show j + (n - j) = n by omega] at u
      rw [if_pos (show b2i false = 0 from rfl), u]
    · have st : canP (fcS C nn t x) (j + 1) = decide (fcS C nn t x j = 0) := by
        show (canP _ j && _) = _
        rw [cv, Bool.true_and]
      rw [st] at ih'
      have g2 : inB (nI j) 30 = true := inB_nI (by omega) (by decide)
      rw [if_neg (show ¬ b2i true = 0 by decide), M_counts w (show j < n by omega), bd_some]
      simp only [gd_t g2, nI_clamp (show j < 2 ^ 31 by omega), s13 j (by omega), w.2.2.2.2.1 112 (by omega), lt_eq, nI_1]
      cases e : cou C t j
      · have e0 : fcS C nn t x j = 0 := if_neg fun q => by rw [e] at q; exact absurd q.1 (by decide)
        rw [decide_eq_true e0] at ih'
        rw [if_pos (show b2i false = 0 from rfl)]; exact ih'
      · rw [if_neg (show ¬ b2i true = 0 by decide)]
        have key : ∀ v : Int32, (if x &&& say C nn j = 0 then (0 : Int32) else 1) = v → (if v = C.1 112 j then rec 1 (nI (j + 1)) else rec 0 (nI (j + 1))) = kk (b2i (canP (fcS C nn t x) n)) := fun v hv => by
          by_cases y : v = C.1 112 j
          · have e0 : fcS C nn t x j = 0 := if_neg fun q => q.2 (by rw [hv]; exact y)
            rw [decide_eq_true e0] at ih'
            rw [if_pos y]; exact ih'
          · have e0 : ¬ fcS C nn t x j = 0 := by
              unfold fcS
              rw [if_pos ⟨e, by rw [hv]; exact y⟩]; decide
            rw [decide_eq_false e0] at ih'
            rw [if_neg y]; exact ih'
        by_cases z : x &&& say C nn j = 0
        · rw [if_pos z]; exact key 0 (if_pos z)
        · rw [if_neg z]; exact key 1 (if_neg z)
theorem M_laySets (hF : 100000 ≤ F) (w : MC C S nn n) : ∃ T, fM_laySets F G S t = some (alF C nn n t (2 ^ nn), T) ∧ ∀ i, i < nn → T.1 114 i = wiF C nn n t i (2 ^ nn) := by
  have n10 := w.1
  have n30 := w.2.1
  have p1024 := pow10 n10
  unfold fM_laySets
  obtain ⟨V, v1, v2, v3⟩ := cp2 (bod := b_M_laySets_4 F G t 0 (fun S9 => fx2 (b_M_laySets_31 F G t (0 : Int32) (fun S16 => fx3 (b_M_laySets_52 F G t) F (0 : Int32) (0 : Int32) S16)) F (0 : Int32) S9)) (k := fun S9 => fx2 (b_M_laySets_31 F G t (0 : Int32) (fun S16 => fx3 (b_M_laySets_52 F G t) F (0 : Int32) (0 : Int32) S16)) F (0 : Int32) S9) (N := n) (fun j W => (∀ i, i < j → W.1 113 i = say C nn i) ∧ ∀ h, h ≠ 113 → W.1 h = S.1 h)
    (fun rec W hP => by
      unfold b_M_laySets_4
      rw [hP.2 78 (by omega), w.2.2.2.1, if_pos (nI_le (Nat.le_refl n) (by omega))])
    (fun rec j W hj hP => by
      obtain ⟨p1, p2⟩ := hP
      unfold b_M_laySets_4
      rw [p2 78 (by omega), w.2.2.2.1, if_neg (nI_ge hj (by omega)), M_sayers hF (w.fr fun h q1 q2 => p2 h q1) hj, bd_some, gd_t (inB_nI (by omega) (by decide)), lt_eq, lt_eq, nI_1, nI_clamp (by omega)]
      refine ⟨_, rfl, fun i hi => ?_, fun h q => by rw [sI_row q]; exact p2 h q⟩
      rw [sI_at]
      by_cases z : i = j
      · rw [if_pos ⟨rfl, z⟩, z]
      · rw [if_neg (fun q => z q.2)]; exact p1 i (by omega))
    n 0 F S rfl (by omega) (by omega) ⟨fun i hi => by omega, fun _ _ => rfl⟩
  obtain ⟨X, x1, x2, x3⟩ := cp2 (bod := b_M_laySets_31 F G t 0 (fun S16 => fx3 (b_M_laySets_52 F G t) F (0 : Int32) (0 : Int32) S16)) (k := fun S16 => fx3 (b_M_laySets_52 F G t) F (0 : Int32) (0 : Int32) S16) (N := 10) (fun i W => (∀ j, j < i → W.1 114 j = 0) ∧ ∀ h, h ≠ 114 → W.1 h = V.1 h)
    (fun rec W _ => by
      unfold b_M_laySets_31
      rw [if_pos (by decide)])
    (fun rec i W hi hP => by
      obtain ⟨p1, p2⟩ := hP
      unfold b_M_laySets_31
      rw [if_neg (show ¬ (10 : Int32) ≤ nI i from nI_ge (b := 10) hi (by decide)), gd_t (inB_nI hi (by decide)), lt_eq, lt_eq, nI_1, nI_clamp (by omega)]
      refine ⟨_, rfl, fun j hj => ?_, fun h q => by rw [sI_row q]; exact p2 h q⟩
      rw [sI_at]
      by_cases z : j = i
      · rw [if_pos ⟨rfl, z⟩]
      · rw [if_neg (fun q => z q.2)]; exact p1 j (by omega))
    10 0 F V rfl (by omega) (by omega) ⟨fun j hj => by omega, fun _ _ => rfl⟩
  have wX : MC C X nn n := w.fr fun h q1 q2 => by rw [x3 h q2]; exact v3 h q1
  obtain ⟨T, t1, t2, -⟩ := cp3 (bod := b_M_laySets_52 F G t) (k := fun W => some (alF C nn n t (2 ^ nn), W)) (N := 2 ^ nn) (alF C nn n t) (fun s W => (∀ i, i < nn → W.1 114 i = wiF C nn n t i s) ∧ ∀ h, h ≠ 114 → W.1 h = X.1 h)
    (fun rec W hP => by
      unfold b_M_laySets_52
      rw [hP.2 78 (by omega), wX.2.2.1, shl_p (by omega), if_pos (nI_le (Nat.le_refl _) (by omega))])
    (fun rec s W hs hP => by
      obtain ⟨p1, p2⟩ := hP
      have wW : MC C W nn n := wX.fr fun h q1 q2 => p2 h q2
      have al : alF C nn n t (s + 1) = alF C nn n t s + b2i (soS C nn n t (nI s)) := rfl
      unfold b_M_laySets_52
      rw [p2 78 (by omega), wX.2.2.1, shl_p (by omega), if_neg (nI_ge hs (by omega))]
      have ft := M_fits (F := F) (G := G) (t := t) wW (fun j hj => by rw [p2 113 (by omega), x3 113 (by omega)]; exact v2 j hj) (alF C nn n t s) (nI s) (fun v33 => j_M_laySets_132 F G t rec W (alF C nn n t s) (nI s) v33) n 0 F rfl (by omega) (by omega)
      cases e : soS C nn n t (nI s)
      · refine ⟨W, Eq.trans ft ?_, fun i hi => ?_, p2⟩
        · unfold j_M_laySets_132
          rw [e, if_pos (show b2i false = 0 from rfl), lt_eq, nI_1, al, e, show b2i false = 0 from rfl, Int32.add_zero]
        · rw [p1 i hi]; show _ = wiF C nn n t i s + (if soS C nn n t (nI s) then _ else 0); rw [e]; exact (Int32.add_zero _).symm
      · obtain ⟨W', k1, k2, k3⟩ := cp2 (bod := b_M_laySets_146 F G t (alF C nn n t s + 1) (nI s) (fun S44 => lt (nI s + 1) fun v45 => rec (alF C nn n t s + 1) v45 S44)) (k := fun S44 => lt (nI s + 1) fun v45 => rec (alF C nn n t s + 1) v45 S44) (N := nn) (fun i X' => (∀ j, X'.1 114 j = if j < i then W.1 114 j + (if bt (nI s) j then 1 else 0) else W.1 114 j) ∧ ∀ h, h ≠ 114 → X'.1 h = W.1 h)
          (fun rec' W' hP => by
            unfold b_M_laySets_146
            rw [hP.2 78 (by omega), wW.2.2.1, if_pos (nI_le (Nat.le_refl nn) (by omega))])
          (fun rec' i W' hi hP => by
            obtain ⟨q1, q2⟩ := hP
            unfold b_M_laySets_146
            rw [q2 78 (by omega), wW.2.2.1, if_neg (nI_ge hi (by omega)), gd_t (inB_nI (by omega) (by decide)), gd_t (inB_nI (by omega) (by decide)), lt_eq, lt_eq, nI_1, nI_clamp (by omega), bt_shr (nI s) (by omega), q1 i, if_neg (by omega)]
            refine ⟨_, rfl, fun j => ?_, fun h q => by rw [sI_row q]; exact q2 h q⟩
            rw [sI_at]
            by_cases z : j = i
            · rw [if_pos ⟨rfl, z⟩, if_pos (show j < i + 1 by omega), z]
            · rw [if_neg (fun q => z q.2), q1 j]
              by_cases y : j < i
              · rw [if_pos y, if_pos (show j < i + 1 by omega)]
              · rw [if_neg y, if_neg (show ¬ j < i + 1 by omega)])
          nn 0 F W rfl (by omega) (by omega) ⟨fun j => by rw [if_neg (by omega)], fun _ _ => rfl⟩
        refine ⟨W', Eq.trans ft ?_, fun i hi => ?_, fun h q => by rw [k3 h q]; exact p2 h q⟩
        · unfold j_M_laySets_132
          rw [e, if_neg (show ¬ b2i true = 0 by decide), lt_eq, al, e, show b2i true = 1 from rfl]
          refine Eq.trans k1 ?_
          show lt (nI s + 1) (fun v45 => rec (alF C nn n t s + 1) v45 W') = _
          rw [lt_eq, nI_1]
        · rw [k2 i, if_pos hi, p1 i hi]; show _ = wiF C nn n t i s + (if soS C nn n t (nI s) then _ else 0); rw [e]; rfl)
    (2 ^ nn) 0 F X rfl (Nat.zero_le _) (by omega) ⟨fun i hi => by rw [x2 i (by omega)]; rfl, fun _ _ => rfl⟩
  exact ⟨T, v1.trans (x1.trans t1), t2⟩
end WM
section WA
variable {F G : Nat} {C S T : St} {nn bs n : Nat}
theorem J2.wc (h : J2 C) : ∃ nn bs n, NB C nn bs ∧ (∀ T, Inv C T → WC C T C.2.2.1 nn n ∧ MC C T nn n) := by
  obtain ⟨nn, bs, nb⟩ := h.nb
  obtain ⟨n1, b0, b2, n48, b46, d6, d0, dr, xl⟩ := id nb
  obtain ⟨-, -, dd⟩ := h.2.1.n n48 n1
  obtain ⟨n', -, -, -, -, -, n, w1, w2, w3, w4⟩ := id h.2.2
  refine ⟨nn, bs, n, nb, fun T i => ?_⟩
  have f := i.2.2.2
  have sc := h.1.1.2.1.1
  have fo : ∀ j k, j ≤ 8 → T.1 (C.2.2.1 + j) k = C.1 (C.2.2.1 + j) k := fun j k q => f _ k (by
    rw [Bool.eq_false_iff]; intro z
    have := isSc_or sc
    simp only [scr, Bool.or_eq_true, Bool.and_eq_true, beq_iff_eq, Nat.ble_eq] at z
    omega)
  have b01 : ∀ j, C.1 112 j = 0 ∨ C.1 112 j = 1 := fun j => by
    obtain ⟨x, x1, x2⟩ := iv_nat (u := 1) (h.1.1.1 112 j 0 1 rfl)
    rw [x1]
    rcases (by omega : x = 0 ∨ x = 1) with rfl | rfl
    · exact Or.inl rfl
    · exact Or.inr rfl
  refine ⟨⟨sc, n1, w1, (fo 0 6 (by omega)).trans d6, fun j hj => ?_, (f 69 0 rfl).trans w2, fun j hj => ?_⟩, n1, w1, (f 78 48 rfl).trans n48, (f 78 74 rfl).trans w3, fun h q => ?_, fun j hj => ?_⟩
  · rw [fo 5 j (by omega), fo 6 j (by omega), fo 7 j (by omega)]
    obtain ⟨q1, q2, q3, q4, -⟩ := dd j hj
    exact ⟨q2, q3, q4⟩
  · obtain ⟨a1, a2, a3, a4, a5, a6, a7, a8, a9⟩ := w4 j hj
    rw [f 71 j rfl, f 72 j rfl, f 73 j rfl, f 74 j rfl, f 75 j rfl]
    exact ⟨a1, a2, a3, a4, a5, a9, b01 j⟩
  · funext k
    refine f h k ?_
    rw [Bool.eq_false_iff]; intro z
    simp only [scr, Bool.or_eq_true, Bool.and_eq_true, beq_iff_eq, Nat.ble_eq] at z
    omega
  · exact ⟨(w4 j hj).2.2.2.2.2.2.2.2, b01 j⟩
/-- both count alike -/
theorem both_count (hF : 100000 ≤ F) (hG : 20 ≤ G) (h : J2 S) (t : Int32) : ∃ nn bs n, NB S nn bs ∧ ∃ T, fI_count F G S S.2.2.1 t = some T ∧ Inv S T ∧ T.1 69 2 = alF S nn n t (2 ^ nn) ∧ (∀ i, i < 10 → T.1 70 i = wiF S nn n t i (2 ^ nn)) ∧ ∃ U, fM_laySets F G T t = some (alF S nn n t (2 ^ nn), U) ∧ Inv S U ∧ ∀ i, i < nn → U.1 114 i = wiF S nn n t i (2 ^ nn) := by
  obtain ⟨nn, bs, n, nb, wm⟩ := h.wc
  obtain ⟨T, t1, t2, t3⟩ := I_count (F := F) (G := G) (t := t) hF (wm S (Inv.rf h.1.1)).1
  obtain ⟨T', t1', t4⟩ := s_fI_count (F := F) (G := G) hF hG (Inv.rf h.1.1) (o2 := S.2.2.1) rfl (p2 := t)
  rw [← Option.some.inj (t1.symm.trans t1')] at t4
  obtain ⟨U, u1, u2⟩ := M_laySets (F := F) (G := G) (t := t) hF (wm T t4).2
  obtain ⟨v, U', u1', -, u3⟩ := s_fM_laySets (F := F) (G := G) hF hG t4 (p1 := t)
  rw [← (Prod.mk.inj (Option.some.inj (u1.symm.trans u1'))).2] at u3
  exact ⟨nn, bs, n, nb, T, t1, t4, t2, t3, U, u1, u3, u2⟩
theorem sets_ok (hF : 100000 ≤ F) (hG : 20 ≤ G) (h : J2 S) (t : Int32) : ∃ v S1 S2, fN_sets F G S t = some (v, S1) ∧ fM_sets F G S1 t = some (v, S2) ∧ J2 S2 := by
  obtain ⟨nn, bs, n, nb, T, t1, t4, t2, t3, U, u1, u3, u2⟩ := both_count (F := F) (G := G) hF hG h t
  refine ⟨alF S nn n t (2 ^ nn), T, U, ?_, ?_, h.q u3⟩
  · unfold fN_sets
    rw [gd_t h.1.1.2.1.1, t1, bd_some, t2]
  · unfold fM_sets
    rw [u1, bd2_some]
theorem sure_ok (hF : 100000 ≤ F) (hG : 20 ≤ G) (h : J2 S) (p t : Int32) : ∃ v S1 S2, fN_sure F G S p t = some (v, S1) ∧ fM_sure F G S1 p t = some (v, S2) ∧ J2 S2 := by
  obtain ⟨nn, bs, n, nb, T, t1, t4, t2, t3, U, u1, u3, u2⟩ := both_count (F := F) (G := G) hF hG h t
  have n48 := nb.2.2.2.1
  have n10 := nb.1
  obtain ⟨w, a1, a2, -, a4⟩ := note_x (F := F) (G := G) (T := S) h.1 h.2.1 rfl p
  by_cases c1 : w = 0
  · refine ⟨-1, S, S, ?_, ?_, h⟩
    · unfold fN_sure; rw [a1, bd_some, if_pos c1]
    · unfold fM_sure; rw [a2, bd_some, if_pos c1]
  obtain ⟨i, rfl, hi, hi10⟩ := a4 c1
  have hnn : i < nn := by rw [n48, nI_toInt (by omega)] at hi; omega
  obtain ⟨w', a1', a2', -⟩ := note_x (F := F) (G := G) (T := T) h.1 h.2.1 (t4.2.2.2 78 48 rfl) (nI i)
  rw [← Option.some.inj (a1.symm.trans a1')] at a2'
  have g : inB (nI i) 10 = true := inB_nI hi10 (by decide)
  have hN : fN_sure F G S (nI i) t = if alF S nn n t (2 ^ nn) = 0 then some (-1, T) else if wiF S nn n t i (2 ^ nn) = alF S nn n t (2 ^ nn) then some (1, T) else if wiF S nn n t i (2 ^ nn) = 0 then some (0, T) else some (-2, T) := by
    unfold fN_sure
    rw [a1, bd_some, if_neg c1, gd_t h.1.1.2.1.1, t1, bd_some, t2, gd_t g, nI_clamp (by omega), lt_eq, t3 i hi10]
  have hM : fM_sure F G T (nI i) t = if alF S nn n t (2 ^ nn) = 0 then some (-1, U) else if wiF S nn n t i (2 ^ nn) = alF S nn n t (2 ^ nn) then some (1, U) else if wiF S nn n t i (2 ^ nn) = 0 then some (0, U) else some (-2, U) := by
    unfold fM_sure
    rw [a2', bd_some, if_neg c1, u1, bd2_some, gd_t g, gd_t g, nI_clamp (by omega), u2 i hnn]
  rw [hN]
  by_cases e1 : alF S nn n t (2 ^ nn) = 0
  · exact ⟨-1, T, U, if_pos e1, by rw [hM, if_pos e1], h.q u3⟩
  by_cases e2 : wiF S nn n t i (2 ^ nn) = alF S nn n t (2 ^ nn)
  · exact ⟨1, T, U, by rw [if_neg e1, if_pos e2], by rw [hM, if_neg e1, if_pos e2], h.q u3⟩
  by_cases e3 : wiF S nn n t i (2 ^ nn) = 0
  · exact ⟨0, T, U, by rw [if_neg e1, if_neg e2, if_pos e3], by rw [hM, if_neg e1, if_neg e2, if_pos e3], h.q u3⟩
  · exact ⟨-2, T, U, by rw [if_neg e1, if_neg e2, if_neg e3], by rw [hM, if_neg e1, if_neg e2, if_neg e3], h.q u3⟩
/-! ask: bounds of what is counted -/
theorem al_nat {t : Int32} : ∀ s, ∃ a, a ≤ s ∧ alF C nn n t s = nI a ∧ ∀ i, ∃ w, w ≤ a ∧ wiF C nn n t i s = nI w
  | 0 => ⟨0, Nat.le_refl _, rfl, fun _ => ⟨0, Nat.le_refl _, rfl⟩⟩
  | s + 1 => by
    obtain ⟨a, a1, a2, a3⟩ := al_nat (t := t) s
    cases e : soS C nn n t (nI s)
    · refine ⟨a, by omega, ?_, fun i => ?_⟩
      · show alF C nn n t s + b2i (soS C nn n t (nI s)) = _
        rw [e, a2]; exact Int32.add_zero _
      · obtain ⟨w, w1, w2⟩ := a3 i
        refine ⟨w, w1, ?_⟩
        show wiF C nn n t i s + (if soS C nn n t (nI s) then _ else 0) = _
        rw [e, w2]; exact Int32.add_zero _
    · refine ⟨a + 1, by omega, ?_, fun i => ?_⟩
      · show alF C nn n t s + b2i (soS C nn n t (nI s)) = _
        rw [e, a2]; exact nI_1 a
      · obtain ⟨w, w1, w2⟩ := a3 i
        cases b : bt (nI s) i
        · refine ⟨w, by omega, ?_⟩
          show wiF C nn n t i s + (if soS C nn n t (nI s) then (if bt (nI s) i then 1 else 0) else 0) = _
          rw [e, w2, b]; exact Int32.add_zero _
        · refine ⟨w + 1, by omega, ?_⟩
          show wiF C nn n t i s + (if soS C nn n t (nI s) then (if bt (nI s) i then 1 else 0) else 0) = _
          rw [e, w2, b]; exact nI_1 w
theorem max_lt {x y : Int32} : (if x < y then y else x) = maxI x y := by
  unfold maxI
  by_cases c : x < y
  · rw [if_pos c, if_pos (Int32.le_of_lt c)]
  · rw [if_neg c]
    by_cases d : x ≤ y
    · rw [if_pos d]
      apply Int32.toInt_inj.mp
      rw [Int32.lt_iff_toInt_lt] at c
      rw [Int32.le_iff_toInt_le] at d
      omega
    · rw [if_neg d]
/-- the first of the least -/
def fmF (c : Nat → Int32) : Nat → Nat
  | 0 => 0
  | n + 1 => if c (fmF c n) ≤ c n then fmF c n else n
theorem fm_s {c : Nat → Int32} {n : Nat} : fmF c (n + 1) = if c (fmF c n) ≤ c n then fmF c n else n := rfl
theorem fm_1 {c : Nat → Int32} : fmF c 1 = 0 := if_pos (Int32.le_refl _)
theorem fm_lt {c : Nat → Int32} : ∀ n, fmF c (n + 1) < n + 1
  | 0 => by rw [fm_1]; omega
  | n + 1 => by
    have := fm_lt (c := c) n
    rw [fm_s]
    split <;> omega
def amF (C : St) (nn n : Nat) (t : Int32) (i : Nat) : Int32 := maxI (wiF C nn n t i (2 ^ nn)) (alF C nn n t (2 ^ nn) - wiF C nn n t i (2 ^ nn))
theorem ask_ok (hF : 100000 ≤ F) (hG : 20 ≤ G) (h : J2 S) (p t : Int32) : ∃ v S1 S2, fN_ask F G S p t = some (v, S1) ∧ fM_ask F G S1 p t = some (v, S2) ∧ J2 S2 := by
  obtain ⟨nn, bs, n, nb, T, t1, t4, t2, t3, U, u1, u3, u2⟩ := both_count (F := F) (G := G) hF hG h t
  have n48 := nb.2.2.2.1
  have n10 := nb.1
  have sc := h.1.1.2.1.1
  have p1024 := pow10 n10
  by_cases c1 : p < 0
  · refine ⟨-1, S, S, ?_, ?_, h⟩
    · unfold fN_ask; rw [if_pos c1]
    · unfold fM_ask; rw [M_isIn, bd_some, if_pos (in_y1 c1)]
  by_cases c2 : p ≤ 1
  · have inn : ∀ X, fM_isIn F G X p 0 1 = some 1 := fun X => by rw [M_isIn, if_neg (fun z => z.elim c1 (fun q => Int32.not_lt.mpr c2 q))]
    obtain ⟨i1, i2, i3, i4, -⟩ := nb.inv h t4
    obtain ⟨a, al1, al2, al3⟩ := al_nat (C := S) (nn := nn) (n := n) (t := t) (2 ^ nn)
    -- the class, from an index on
    have out : ∀ w3 w4 : Int32, (if p = 0 then some (w3, T) else if w3 = (-1 : Int32) then some (w3, T) else some (w4, T)) = some ((if p = 0 then w3 else if w3 = -1 then w3 else w4), T) := fun w3 w4 => by
      by_cases z : p = 0
      · rw [if_pos z, if_pos z]
      · rw [if_neg z, if_neg z]
        by_cases y : w3 = -1
        · rw [if_pos y, if_pos y]
        · rw [if_neg y, if_neg y]
    have hN0 : ∀ f, f = F → fN_ask F G S p t = fx3 (b_N_ask_39 F G T p) f (-1) (alF S nn n t (2 ^ nn) + 1) 0 := fun f hf => by
      unfold fN_ask
      rw [if_neg c1, if_pos c2, gd_t sc, t1, bd_some, lt_eq, t2, hf]
    obtain ⟨F', hF'⟩ : ∃ F', F = F' + 1 := ⟨F - 1, by omega⟩
    have none : (nn = 0 ∨ alF S nn n t (2 ^ nn) = 0) → fN_ask F G S p t = some (-1, T) := fun q => by
      rw [hN0 (F' + 1) hF'.symm, fx3_s]
      unfold b_N_ask_39
      rw [gd_t i1, i2, t2, out]
      have o1 : (if p = 0 then (-1 : Int32) else if (-1 : Int32) = -1 then -1 else alF S nn n t (2 ^ nn) + 1) = -1 := by
        by_cases z : p = 0
        · rw [if_pos z]
        · rw [if_neg z, if_pos rfl]
      rw [o1]
      by_cases z : nI nn ≤ 0
      · rw [if_pos z]
      · rw [if_neg z]
        rcases q with q | q
        · rw [q] at z; exact absurd (by decide) z
        · rw [q, if_pos (Int32.le_refl _)]
    by_cases e0 : nn = 0
    · refine ⟨-1, T, T, none (Or.inl e0), ?_, h.q t4⟩
      unfold fM_ask
      rw [inn, bd_some, if_neg (by decide), i4, e0, if_pos (show nI 0 = 0 from rfl)]
    by_cases e1 : alF S nn n t (2 ^ nn) = 0
    · refine ⟨-1, T, U, none (Or.inr e1), ?_, h.q u3⟩
      unfold fM_ask
      rw [inn, bd_some, if_neg (by decide), i4, if_neg (nI_ne0 (by omega) (by omega)), u1, bd2_some, if_pos e1]
    have apos : 0 < a := by
      rcases Nat.eq_zero_or_pos a with z | z
      · rw [z] at al2; exact absurd al2 e1
      · exact z
    have alp : ¬ alF S nn n t (2 ^ nn) ≤ 0 := by rw [al2]; exact nI_ge (a := 0) (b := a) apos (by omega)
    have am : ∀ i, ∃ m, m ≤ a ∧ amF S nn n t i = nI m := fun i => by
      obtain ⟨w, w1, w2⟩ := al3 i
      unfold amF maxI
      rw [al2, w2, nI_subN w1 (by omega)]
      split
      · exact ⟨a - w, by omega, rfl⟩
      · exact ⟨w, w1, rfl⟩
    have stp : ∀ i, i < nn → ∀ (rec : Int32 → Int32 → Int32 → Option (Int32 × St)) w3 w4, b_N_ask_39 F G T p rec w3 w4 (nI i) = if w4 ≤ amF S nn n t i then rec w3 w4 (nI (i + 1)) else rec (nI i) (amF S nn n t i) (nI (i + 1)) := fun i hi rec w3 w4 => by
      unfold b_N_ask_39
      rw [gd_t i1, i2, if_neg (nI_ge hi (by omega)), t2, if_neg alp, gd_t (inB_nI (by omega) (by decide)), gd_t (inB_nI (by omega) (by decide)), nI_clamp (by omega), t3 i (by omega), max_lt, lt_eq, lt_eq, lt_eq, nI_1]
      rfl
    have main : ∀ r i f, nn - i = r → 1 ≤ i → i ≤ nn → r < f → fx3 (b_N_ask_39 F G T p) f (nI (fmF (amF S nn n t) i)) (amF S nn n t (fmF (amF S nn n t) i)) (nI i) = some ((if p = 0 then nI (fmF (amF S nn n t) nn) else amF S nn n t (fmF (amF S nn n t) nn)), T) := by
      intro r
      induction r with
      | zero =>
        intro i f hr h1 hi hf
        obtain ⟨g, rfl⟩ : ∃ g, f = g + 1 := ⟨f - 1, by omega⟩
        have e : i = nn := by omega
        subst e
        rw [fx3_s]
        unfold b_N_ask_39
        rw [gd_t i1, i2, if_pos (nI_le (Nat.le_refl i) (by omega)), out]
        congr 2
        by_cases z : p = 0
        · rw [if_pos z, if_pos z]
        · rw [if_neg z, if_neg z, if_neg (nI_m1 (by have := fm_lt (c := amF S i n t) (i - 1); rw [show i - 1 + 1 = i by omega] at this; omega))]
      | succ r ih =>
        intro i f hr h1 hi hf
        obtain ⟨g, rfl⟩ : ∃ g, f = g + 1 := ⟨f - 1, by omega⟩
        have ih' := ih (i + 1) g (by omega) (by omega) (by omega) (by omega)
        rw [fx3_s, stp i (by omega)]
        rw [fm_s] at ih'
        by_cases c : amF S nn n t (fmF (amF S nn n t) i) ≤ amF S nn n t i
        · rw [if_pos c] at ih' ⊢; exact ih'
        · rw [if_neg c] at ih' ⊢; exact ih'
    have hN : fN_ask F G S p t = some ((if p = 0 then nI (fmF (amF S nn n t) nn) else amF S nn n t (fmF (amF S nn n t) nn)), T) := by
      have m1 := main (nn - 1) 1 F' rfl (by omega) (by omega) (by omega)
      rw [fm_1] at m1
      have s0 := stp 0 (by omega) (fx3 (b_N_ask_39 F G T p) F') (-1) (alF S nn n t (2 ^ nn) + 1)
      rw [show nI 0 = 0 from rfl] at s0
      rw [hN0 (F' + 1) hF'.symm, fx3_s, s0, if_neg ?_]
      · exact m1
      · obtain ⟨m, q1, q2⟩ := am 0
        rw [q2, al2, nI_1]
        exact nI_ge (by omega) (by omega)
    have hM : fM_ask F G T p t = some ((if p = 0 then nI (fmF (amF S nn n t) nn) else amF S nn n t (fmF (amF S nn n t) nn)), U) := by
      obtain ⟨-, -, -, j4, -⟩ := nb.inv h u3
      have fl : ∀ i, 1 ≤ i → fmF (amF S nn n t) i < i := fun i h1 => by
        have := fm_lt (c := amF S nn n t) (i - 1)
        rw [show i - 1 + 1 = i by omega] at this; exact this
      unfold fM_ask
      rw [inn, bd_some, if_neg (by decide), i4, if_neg (nI_ne0 (by omega) (by omega)), u1, bd2_some, if_neg e1]
      have key := for_g (body := b_M_ask_36 F G U p (alF S nn n t (2 ^ nn)) (fun v23 => if p = 0 then some (v23, U) else gd (inB v23 10) (gd (inB v23 10) (bd (fM_greater F G U (U.1 114 v23.toNatClampNeg) (alF S nn n t (2 ^ nn) - (U.1 114 v23.toNatClampNeg))) fun v28 => some (v28, U))))) (N := nn) (i0 := 1) (k := fun v23 => if p = 0 then some (v23, U) else gd (inB v23 10) (gd (inB v23 10) (bd (fM_greater F G U (U.1 114 v23.toNatClampNeg) (alF S nn n t (2 ^ nn) - (U.1 114 v23.toNatClampNeg))) fun v28 => some (v28, U)))) (fun i => nI (fmF (amF S nn n t) i)) (fun rec => by
        unfold b_M_ask_36
        rw [j4, if_pos (nI_le (Nat.le_refl nn) (by omega))]) (fun rec i h1 hi => by
        have fi := fl i h1
        unfold b_M_ask_36
        show _ = rec (nI (fmF _ (i + 1))) _
        rw [j4, if_neg (nI_ge hi (by omega)), gd_t (inB_nI (by omega) (by decide)), gd_t (inB_nI (by omega) (by decide)), nI_clamp (n := i) (by omega), u2 i hi, M_greater, bd_some, gd_t (inB_nI (show fmF (amF S nn n t) i < 10 by omega) (by decide)), gd_t (inB_nI (show fmF (amF S nn n t) i < 10 by omega) (by decide)), nI_clamp (show fmF (amF S nn n t) i < 2 ^ 31 by omega), u2 _ (show fmF (amF S nn n t) i < nn by omega), M_greater, bd_some, lt_eq, lt_eq, nI_1, fm_s]
        by_cases c : amF S nn n t (fmF (amF S nn n t) i) ≤ amF S nn n t i
        · rw [if_pos c]; exact if_pos c
        · rw [if_neg c]; exact if_neg c) (nn - 1) 1 F rfl (by omega) (by omega) (by omega)
      rw [fm_1] at key
      refine Eq.trans key ?_
      have fn := fl nn (by omega)
      show (if p = 0 then some (nI (fmF (amF S nn n t) nn), U) else gd (inB (nI (fmF (amF S nn n t) nn)) 10) (gd (inB (nI (fmF (amF S nn n t) nn)) 10) (bd (fM_greater F G U (U.1 114 (nI (fmF (amF S nn n t) nn)).toNatClampNeg) (alF S nn n t (2 ^ nn) - (U.1 114 (nI (fmF (amF S nn n t) nn)).toNatClampNeg))) fun v28 => some (v28, U)))) = _
      by_cases z : p = 0
      · rw [if_pos z, if_pos z]
      · rw [if_neg z, if_neg z, gd_t (inB_nI (by omega) (by decide)), gd_t (inB_nI (by omega) (by decide)), nI_clamp (by omega), u2 _ fn, M_greater, bd_some]
        rfl
    exact ⟨_, T, U, hN, hM, h.q u3⟩
  · refine ⟨-1, S, S, ?_, ?_, h⟩
    · unfold fN_ask; rw [if_neg c1, if_neg c2]
    · unfold fM_ask; rw [M_isIn, bd_some, if_pos (in_y2 (Int32.not_le.mp c2))]
end WA
