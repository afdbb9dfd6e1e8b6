/-! loss and dearest; the class weighs all -/
theorem KD.fr {C T T' : St} {nn bs : Nat} (k : KD C T nn bs) (r : ∀ h, 57 ≤ h → h ≤ 61 → T'.1 h = T.1 h) : KD C T' nn bs := by
  have r57 := r 57 (by omega) (by omega)
  have r58 := r 58 (by omega) (by omega)
  have r59 := r 59 (by omega) (by omega)
  have r60 := r 60 (by omega) (by omega)
  have r61 := r 61 (by omega) (by omega)
  unfold KD KB at k ⊢
  rw [r57, r58, r59, r60, r61]
  exact k
def mbF (C : St) (nn : Nat) (x : Int32) : Int32 := sumI (fun j => if bt x j then misF C nn j else 0) nn
section LS
variable {F G : Nat} {C S T U V : St} {nn bs n : Nat}
theorem C_weigh (hF : 100000 ≤ F) (hG : 20 ≤ G) (h : J2 C) (nb : NB C nn bs) (k : KD C T nn bs) (i : Inv C T) : ∃ T', fN_weighAll F G T = some T' ∧ KD C T' nn bs ∧ Inv C T' ∧ ∀ j, j < nn → T'.1 62 j = misF C nn j := by
  have n10 := nb.1
  obtain ⟨V, v1, v2, v3, v4⟩ := cp2 (bod := b_N_weighAll_2 F G) (k := fun S => some S) (N := nn) (fun j W => Inv C W ∧ (∀ i, i < j → W.1 62 i = misF C nn i) ∧ ∀ h, 57 ≤ h → h ≤ 61 → W.1 h = T.1 h)
    (fun rec W hP => by
      obtain ⟨-, i1, i2, -⟩ := nb.cls h hP.1
      unfold b_N_weighAll_2
      rw [gd_t i1, i2, if_pos (nI_le (Nat.le_refl nn) (by omega))])
    (fun rec j W hj hP => by
      obtain ⟨p0, p1, p2⟩ := hP
      obtain ⟨-, i1, i2, -⟩ := nb.cls h p0
      obtain ⟨X, x1, x2, x3⟩ := N_missed (F := F) (G := G) hF hG h nb p0 hj
      unfold b_N_weighAll_2
      rw [gd_t i1, i2, if_neg (nI_ge hj (by omega)), x1, bd2_some, gd_t (inB_nI (by omega) (by decide)), lt_eq, lt_eq, nI_1, nI_clamp (by omega)]
      refine ⟨_, rfl, x2.stN rfl rfl, fun i hi => ?_, fun h q1 q2 => by rw [sI_row (by omega), x3 h (by omega)]; exact p2 h q1 q2⟩
      rw [sI_at]
      by_cases z : i = j
      · rw [if_pos ⟨rfl, z⟩, z]
      · rw [if_neg (fun y => z y.2), x3 62 (by omega)]; exact p1 i (by omega))
    nn 0 F T rfl (by omega) (by omega) ⟨i, fun i hi => by omega, fun _ _ _ => rfl⟩
  exact ⟨V, v1, k.fr v4, v2, v3⟩
theorem M_missedBy (hF : 100000 ≤ F) (h48 : V.1 78 48 = nI nn) (hn : nn ≤ 10) (hm : ∀ j, j < nn → V.1 107 j = misF C nn j) (x : Int32) : fM_missedBy F G V x = some (mbF C nn x) := by
  unfold fM_missedBy mbF
  refine for_sum (N := nn) (k := some) (by omega) (fun j => if bt x j then misF C nn j else 0) (fun rec a => by unfold b_M_missedBy_4; rw [h48, if_pos (nI_le (Nat.le_refl nn) (by omega))]) (fun rec a j hj => ?_) (by omega)
  unfold b_M_missedBy_4
  rw [h48, if_neg (nI_ge hj (by omega)), gd_t (inB_nI (by omega) (by decide)), nI_clamp (by omega), hm j hj]
  simp only [lt_eq, nI_1]
  cases e : bt x j
  · rw [if_neg (bit_n1 (by omega) e), if_neg (show ¬ false = true by decide)]
  · rw [if_pos ((bit_1 _ (by omega)).mpr e), if_pos rfl]
def loF (C : St) (nn : Nat) : Nat → Int32 := sumI (fun j => if C.1 100 j = 0 then misF C nn j else 0)
theorem sumI_c {f g : Nat → Int32} : ∀ {n : Nat}, (∀ i, i < n → f i = g i) → sumI f n = sumI g n
  | 0, _ => rfl
  | n + 1, h => by rw [sumI, sumI, sumI_c (fun i hi => h i (by omega)), h n (by omega)]
theorem loss_ok (hF : 100000 ≤ F) (hG : 20 ≤ G) (h : J2 S) : ∃ v S1 S2, fN_loss F G S = some (v, S1) ∧ fM_loss F G S1 = some (v, S2) ∧ J2 S2 := by
  obtain ⟨nn, bs, nb⟩ := h.nb
  have n10 := nb.1
  obtain ⟨T, t1, t2⟩ := cp3 (bod := b_N_loss_4 F G) (k := fun W => some (loF S nn nn, W)) (N := nn) (loF S nn) (fun j W => Inv S W)
    (fun rec W hP => by
      obtain ⟨-, i1, i2, -⟩ := nb.cls h hP
      unfold b_N_loss_4
      rw [gd_t i1, i2, if_pos (nI_le (Nat.le_refl nn) (by omega))])
    (fun rec j W hj hP => by
      obtain ⟨-, i1, i2, i3⟩ := nb.cls h hP
      obtain ⟨X, x1, x2, -⟩ := N_missed (F := F) (G := G) hF hG h nb hP hj
      have lo : loF S nn (j + 1) = loF S nn j + (if S.1 100 j = 0 then misF S nn j else 0) := rfl
      unfold b_N_loss_4
      rw [gd_t i1, i2, if_neg (nI_ge hj (by omega)), gd_t (inB_nI (by omega) (by decide)), nI_clamp (by omega), (i3 j hj).1, x1, bd2_some]
      simp only [lt_eq, nI_1]
      by_cases c : S.1 100 j = 0
      · rw [if_pos c] at lo ⊢
        exact ⟨X, by rw [lo], x2⟩
      · rw [if_neg c] at lo ⊢
        exact ⟨W, by rw [lo, Int32.add_zero], hP⟩)
    nn 0 F S rfl (by omega) (by omega) (Inv.rf h.1.1)
  obtain ⟨U, u1, u2, u3⟩ := fill_I (F := F) (G := G) hF hG nb t2
  obtain ⟨V, v1, v2, v3, v4⟩ := M_weigh (F := F) (G := G) hF hG h nb u2 u3
  refine ⟨loF S nn nn, T, V, t1, ?_, h.q v3⟩
  unfold fM_loss
  rw [u1, bd_some, v1, bd_some, v2.given hF, bd_some, M_missedBy hF v2.2.2.1 n10 v4, bd_some]
  congr 2
  unfold mbF loF
  refine sumI_c fun j hj => ?_
  unfold giv
  rw [bt_mset _ (by omega) (by omega), decide_eq_true hj, Bool.true_and]
  by_cases c : S.1 100 j = 0
  · rw [decide_eq_true c, if_pos rfl, if_pos c]
  · rw [decide_eq_false c, if_neg (show ¬ false = true by decide), if_neg c]
/-- the dearest so far, and how much it is missed -/
def deF (C : St) (nn : Nat) : Nat → Int32 × Int32
  | 0 => (-1, -1)
  | i + 1 => if C.1 100 i = 0 ∧ (deF C nn i).2 < misF C nn i then (nI i, misF C nn i) else deF C nn i
theorem mis_iv : iv (misF C nn n) 0 999 := wiN_iv _
theorem de_or : ∀ i, deF C nn i = (-1, -1) ∨ ∃ b, b < i ∧ deF C nn i = (nI b, misF C nn b)
  | 0 => Or.inl rfl
  | i + 1 => by
    rw [deF]
    by_cases c : C.1 100 i = 0 ∧ (deF C nn i).2 < misF C nn i
    · rw [if_pos c]; exact Or.inr ⟨i, by omega, rfl⟩
    · rw [if_neg c]
      rcases de_or i with e | ⟨b, b1, b2⟩
      · exact Or.inl e
      · exact Or.inr ⟨b, by omega, b2⟩
theorem de_ge (i : Nat) : (-1 : Int32) ≤ (deF C nn i).2 := by
  rcases de_or (C := C) (nn := nn) i with e | ⟨b, -, e⟩
  · rw [e]; decide
  · rw [e]
    have := (mis_iv (C := C) (nn := nn) (n := b)).1
    show -1 ≤ misF C nn b
    rw [Int32.le_iff_toInt_le, show (-1 : Int32).toInt = -1 from rfl]; omega
theorem dearest_ok (hF : 100000 ≤ F) (hG : 20 ≤ G) (h : J2 S) : ∃ v S1 S2, fN_dearest F G S = some (v, S1) ∧ fM_dearest F G S1 = some (v, S2) ∧ J2 S2 := by
  obtain ⟨nn, bs, nb⟩ := h.nb
  have n10 := nb.1
  have main : ∀ r j f (W : St), nn - j = r → j ≤ nn → r < f → Inv S W → ∃ T, fx4 (b_N_dearest_6 F G) f (deF S nn j).1 (deF S nn j).2 (nI j) W = some ((deF S nn nn).1, T) ∧ Inv S T := by
    intro r
    induction r with
    | zero =>
      intro j f W hr hj hf hP
      obtain ⟨g, rfl⟩ : ∃ g, f = g + 1 := ⟨f - 1, by omega⟩
      have e : j = nn := by omega
      subst e
      obtain ⟨-, i1, i2, -⟩ := nb.cls h hP
      refine ⟨W, ?_, hP⟩
      rw [fx4_s]
      unfold b_N_dearest_6
      rw [gd_t i1, i2, if_pos (nI_le (Nat.le_refl j) (by omega))]
    | succ r ih =>
      intro j f W hr hj hf hP
      obtain ⟨g, rfl⟩ : ∃ g, f = g + 1 := ⟨f - 1, by omega⟩
      obtain ⟨-, i1, i2, i3⟩ := nb.cls h hP
      obtain ⟨X, x1, x2, -⟩ := N_missed (F := F) (G := G) hF hG h nb hP (show j < nn by omega)
      have ih' := fun W hW => ih (j + 1) g W (by omega) (by omega) (by omega) hW
      rw [fx4_s]
      generalize fx4 (b_N_dearest_6 F G) g = rec at ih' ⊢
      have st : deF S nn (j + 1) = if S.1 100 j = 0 ∧ (deF S nn j).2 < misF S nn j then (nI j, misF S nn j) else deF S nn j := rfl
      unfold b_N_dearest_6 j_N_dearest_38
      rw [gd_t i1, i2, if_neg (nI_ge (show j < nn by omega) (by omega)), gd_t (inB_nI (by omega) (by decide)), nI_clamp (by omega), (i3 j (by omega)).1, x1, bd2_some]
      simp only [lt_eq, nI_1]
      by_cases c : S.1 100 j = 0
      · rw [if_pos c]
        by_cases d : misF S nn j ≤ (deF S nn j).2
        · rw [if_neg (fun z => Int32.not_lt.mpr d z.2)] at st
          rw [st] at ih'
          rw [if_pos d]; exact ih' X x2
        · rw [if_pos ⟨c, Int32.not_le.mp d⟩] at st
          rw [st] at ih'
          rw [if_neg d]; exact ih' X x2
      · rw [if_neg c, if_pos (de_ge j)]
        rw [if_neg (fun z => c z.1)] at st
        rw [st] at ih'
        exact ih' W hP
  obtain ⟨T, t1, t2⟩ := main nn 0 F S rfl (by omega) (by omega) (Inv.rf h.1.1)
  obtain ⟨U, u1, u2, u3⟩ := fill_I (F := F) (G := G) hF hG nb t2
  obtain ⟨V, v1, v2, v3, v4⟩ := M_weigh (F := F) (G := G) hF hG h nb u2 u3
  refine ⟨(deF S nn nn).1, T, V, t1, ?_, h.q v3⟩
  unfold fM_dearest
  rw [u1, bd_some, v1, bd_some]
  refine for_g (body := b_M_dearest_12 F G V) (N := nn) (i0 := 0) (k := fun x => some (x, V)) (fun j => (deF S nn j).1) (fun rec => ?_) (fun rec j _ hj => ?_) nn 0 F rfl (by omega) (by omega) (by omega)
  · unfold b_M_dearest_12
    rw [v2.2.2.1, if_pos (nI_le (Nat.le_refl nn) (by omega))]
  · have st : deF S nn (j + 1) = if S.1 100 j = 0 ∧ (deF S nn j).2 < misF S nn j then (nI j, misF S nn j) else deF S nn j := rfl
    show b_M_dearest_12 F G V rec (deF S nn j).1 (nI j) = rec (deF S nn (j + 1)).1 (nI (j + 1))
    unfold b_M_dearest_12
    rw [v2.2.2.1, if_neg (nI_ge hj (by omega)), gd_t (inB_nI (by omega) (by decide)), nI_clamp (n := j) (by omega), v3.2.2.2 100 j rfl, st]
    simp only [lt_eq, nI_1]
    by_cases c : S.1 100 j = 0
    · rw [if_pos c]
      rcases de_or (C := S) (nn := nn) j with e | ⟨b, b1, e⟩
      · have lt : (-1 : Int32) < misF S nn j := by
          have := (mis_iv (C := S) (nn := nn) (n := j)).1
          rw [Int32.lt_iff_toInt_lt, show (-1 : Int32).toInt = -1 from rfl]; omega
        rw [e, if_pos (show (-1 : Int32) < 0 by decide), if_pos ⟨c, lt⟩]
      · rw [e]
        show (if nI b < 0 then _ else _) = _
        rw [if_neg (nI_nn (by omega)), gd_t (inB_nI (by omega) (by decide)), gd_t (inB_nI (show b < 10 by omega) (by decide)), nI_clamp (n := b) (by omega), v4 j hj, v4 b (by omega)]
        by_cases d : misF S nn j ≤ misF S nn b
        · rw [if_pos d, if_neg (fun z => Int32.not_lt.mpr d z.2)]
        · rw [if_neg d, if_pos ⟨c, Int32.not_le.mp d⟩]
    · rw [if_neg c, if_neg (fun z => c z.1)]
end LS
