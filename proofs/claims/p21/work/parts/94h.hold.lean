/-! WHAT IS HELD: the reference's rows and the class's, by one set -/
theorem nI_lt_i {a b : Nat} (ha : a < 2 ^ 31) (hb : b < 2 ^ 31) : nI a < nI b ↔ a < b := by rw [Int32.lt_iff_toInt_lt, nI_toInt ha, nI_toInt hb]; omega
theorem nI_le_i {a b : Nat} (ha : a < 2 ^ 31) (hb : b < 2 ^ 31) : nI a ≤ nI b ↔ a ≤ b := by rw [Int32.le_iff_toInt_le, nI_toInt ha, nI_toInt hb]; omega
/-- the latest beat with pedal up to b -/
def snc (pd : Int32) : Nat → Nat
  | 0 => 0
  | b + 1 => if bt pd (b + 1) = true then b + 1 else snc pd b
theorem snc_le {pd : Int32} : ∀ b, snc pd b ≤ b
  | 0 => Nat.le_refl _
  | b + 1 => by
    rw [snc]
    have := snc_le (pd := pd) b
    split <;> omega
def HL (bg lg : Nat → Nat) (pd : Int32) (b n : Nat) : Bool := decide (snc pd b ≤ bg n) && (decide (bg n ≤ b) && decide (b < bg n + lg n))
theorem HL_t {bg lg : Nat → Nat} {pd : Int32} {b n : Nat} : HL bg lg pd b n = true ↔ snc pd b ≤ bg n ∧ bg n ≤ b ∧ b < bg n + lg n := by
  simp [HL]
theorem HL_f {bg lg : Nat → Nat} {pd : Int32} {b n : Nat} (h : ¬ (snc pd b ≤ bg n ∧ bg n ≤ b ∧ b < bg n + lg n)) : HL bg lg pd b n = false := by
  rw [Bool.eq_false_iff]; exact fun z => h (HL_t.mp z)
theorem snc_mono {pd : Int32} {b : Nat} : ∀ k, snc pd b ≤ snc pd (b + k)
  | 0 => Nat.le_refl _
  | k + 1 => by
    have h1 := snc_mono (pd := pd) (b := b) k
    have h2 := snc_le (pd := pd) (b + k)
    show _ ≤ snc pd (b + k + 1)
    rw [snc]
    split <;> omega
section HM
variable {F G : Nat} {S : St}
theorem fx3_s {A1 A2 A3 R : Type} {body : (A1 → A2 → A3 → Option R) → A1 → A2 → A3 → Option R} {f : Nat} {a1 : A1} {a2 : A2} {a3 : A3} : fx3 body (f + 1) a1 a2 a3 = body (fx3 body f) a1 a2 a3 := rfl
/-- one note of the reference: from beat b on -/
theorem M_hold1 {n bs : Nat} {bg lg : Nat → Nat} {pd : Int32} (k : St → Option St) (hn : n < 10) (hbs : bs ≤ 12) (hbg : bg n < 12) (hlg : lg n ≤ 12) : ∀ r b f (U : St), bs - b = r → r < f → bg n ≤ b → b ≤ 12 → (bg n < b → HL bg lg pd (b - 1) n = true) → U.1 78 46 = nI bs → U.1 96 n = nI (bg n) → U.1 101 (20 + n) = nI (lg n) → U.1 101 40 = pd →
    ∃ U', fx3 (b_M_layHold_40 F G (nI n) k) f 1 (nI b) U = k U' ∧ (∀ c, c < 12 → U'.1 102 c = if b ≤ c ∧ c < bs ∧ HL bg lg pd c n = true then U.1 102 c ||| 1 <<< (nI n &&& 31) else U.1 102 c) ∧ (∀ h, h ≠ 102 → U'.1 h = U.1 h) ∧ U'.2 = U.2 := by
  intro r
  induction r with
  | zero =>
    intro b f U hr hf hb hb12 hl h46 h96 h101 h40
    obtain ⟨g, rfl⟩ : ∃ g, f = g + 1 := ⟨f - 1, by omega⟩
    refine ⟨U, ?_, fun c hc => by rw [if_neg (by omega)], fun _ _ => rfl, rfl⟩
    rw [fx3_s]
    unfold b_M_layHold_40
    rw [h46, if_pos ((nI_le_i (by omega) (by omega)).mpr (by omega))]
  | succ r ih =>
    intro b f U hr hf hb hb12 hl h46 h96 h101 h40
    obtain ⟨g, rfl⟩ : ∃ g, f = g + 1 := ⟨f - 1, by omega⟩
    have g20 : (20 : Int32) + nI n = nI (20 + n) := by rw [show (20 : Int32) = nI 20 from rfl, nI_add]
    have gd1 : inB (nI n) 10 = true := inB_nI hn (by decide)
    have gd2 : inB (nI (20 + n)) 41 = true := inB_nI (by omega) (by decide)
    have gd3 : inB (nI b) 12 = true := inB_nI (by omega) (by decide)
    have gd4 : inB (40 : Int32) 41 = true := by decide
    have e40 : (40 : Int32).toNatClampNeg = 40 := by decide
    -- it goes on
    have go : HL bg lg pd b n = true → ∃ U', (fun S26 : St => fx3 (b_M_layHold_40 F G (nI n) k) g 1 (nI (b + 1)) S26) (sI U 102 b (U.1 102 b ||| 1 <<< (nI n &&& 31))) = k U' ∧ (∀ c, c < 12 → U'.1 102 c = if b ≤ c ∧ c < bs ∧ HL bg lg pd c n = true then U.1 102 c ||| 1 <<< (nI n &&& 31) else U.1 102 c) ∧ (∀ h, h ≠ 102 → U'.1 h = U.1 h) ∧ U'.2 = U.2 := fun hh => by
      obtain ⟨U', u1, u2, u3, u4⟩ := ih (b + 1) g (sI U 102 b (U.1 102 b ||| 1 <<< (nI n &&& 31))) (by omega) (by omega) (by omega) (by omega) (fun _ => by rw [Nat.add_sub_cancel]; exact hh) (by rw [sI_row (by omega)]; exact h46) (by rw [sI_row (by omega)]; exact h96) (by rw [sI_row (by omega)]; exact h101) (by rw [sI_row (by omega)]; exact h40)
      refine ⟨U', u1, fun c hc => ?_, fun h q => by rw [u3 h q, sI_row q], u4⟩
      rw [u2 c hc, sI_at]
      by_cases z : c = b
      · subst z
        rw [if_neg (by omega), if_pos ⟨rfl, rfl⟩, if_pos ⟨Nat.le_refl _, by omega, hh⟩]
      · rw [if_neg (show ¬ (102 = 102 ∧ c = b) from fun q => z q.2)]
        by_cases y : b ≤ c ∧ c < bs ∧ HL bg lg pd c n = true
        · rw [if_pos y, if_pos ⟨by omega, y.2⟩]
        · rw [if_neg y, if_neg (fun q => y ⟨by omega, q.2⟩)]
    -- it ends
    have st : (∀ c, b ≤ c → HL bg lg pd c n = false) → ∃ U', fx3 (b_M_layHold_40 F G (nI n) k) g 0 (nI (b + 1)) U = k U' ∧ (∀ c, c < 12 → U'.1 102 c = if b ≤ c ∧ c < bs ∧ HL bg lg pd c n = true then U.1 102 c ||| 1 <<< (nI n &&& 31) else U.1 102 c) ∧ (∀ h, h ≠ 102 → U'.1 h = U.1 h) ∧ U'.2 = U.2 := fun hh => by
      refine ⟨U, ?_, fun c hc => ?_, fun _ _ => rfl, rfl⟩
      · obtain ⟨g', rfl⟩ : ∃ g', g = g' + 1 := ⟨g - 1, by omega⟩
        rw [fx3_s]
        unfold b_M_layHold_40
        by_cases y : U.1 78 46 ≤ nI (b + 1)
        · rw [if_pos y]
        · rw [if_neg y, if_pos rfl]
      · rw [if_neg (fun q => by rw [hh c q.1] at q; exact absurd q.2.2 (by decide))]
    have hs := snc_le (pd := pd) b
    rw [fx3_s]
    generalize fx3 (b_M_layHold_40 F G (nI n) k) g = rec at go st ⊢
    unfold b_M_layHold_40 j_M_layHold_100 j_M_layHold_96 j_M_layHold_101
    rw [h46, if_neg (show ¬ nI bs ≤ nI b from fun z => by have := (nI_le_i (by omega) (by omega)).mp z; omega), if_neg (show ¬ (1 : Int32) = 0 by decide), gd_t gd1, g20, gd_t gd2, nI_clamp (n := n) (by omega), nI_clamp (n := 20 + n) (by omega), h96, h101, nI_add, gd_t gd1, gd_t gd4, e40, h40, if_pos (show (0 : Int32) = 0 from rfl), if_neg (show ¬ (1 : Int32) = 0 by decide), gd_t gd3, gd_t gd3, lt_eq, lt_eq, lt_eq, nI_1, nI_clamp (n := b) (by omega)]
    by_cases c1 : bg n + lg n ≤ b
    · rw [if_pos ((nI_le_i (by omega) (by omega)).mpr c1)]
      exact st fun c hc => HL_f (by omega)
    rw [if_neg (fun z => c1 ((nI_le_i (by omega) (by omega)).mp z))]
    by_cases c2 : b = bg n
    · rw [if_pos (show nI b = nI (bg n) by rw [c2])]
      exact go (HL_t.mpr ⟨by omega, by omega, by omega⟩)
    rw [if_neg (fun z => c2 ((nI_eq (a := b) (b := bg n) (by omega) (by omega)).mp z))]
    have sb : snc pd b = if bt pd b = true then b else snc pd (b - 1) := by
      obtain ⟨d, rfl⟩ : ∃ d, b = d + 1 := ⟨b - 1, by omega⟩
      rw [snc, Nat.add_sub_cancel]
    by_cases c3 : bt pd b = true
    · rw [if_neg (fun z => by rw [(bit_0 pd (by omega)).mp z] at c3; exact absurd c3 (by decide))]
      refine st fun c hc => HL_f fun q => ?_
      have := snc_mono (pd := pd) (b := b) (c - b)
      rw [show b + (c - b) = c by omega, sb, if_pos c3] at this
      omega
    · rw [if_pos ((bit_0 pd (by omega)).mpr (by simpa using c3))]
      refine go (HL_t.mpr ⟨?_, hb, by omega⟩)
      rw [sb, if_neg c3]
      exact (HL_t.mp (hl (by omega))).1
theorem M_layHold_x (hF : 100000 ≤ F) {nn bs : Nat} {bg lg : Nat → Nat} (hn : nn ≤ 10) (hbs : bs ≤ 12) (h48 : S.1 78 48 = nI nn) (h46 : S.1 78 46 = nI bs) (h96 : ∀ i, i < nn → S.1 96 i = nI (bg i) ∧ bg i < 12) (h101 : ∀ i, i < nn → S.1 101 (20 + i) = nI (lg i) ∧ lg i ≤ 12) : ∃ T, fM_layHold F G S = some T ∧ (∀ c, c < 12 → T.1 102 c = if c < bs then mset (HL bg lg (S.1 101 40) c) nn else 0) ∧ (∀ h, h ≠ 102 → T.1 h = S.1 h) ∧ T.2 = S.2 := by
  unfold fM_layHold
  obtain ⟨U, e1, e2, e3, e4⟩ := cp2 (bod := b_M_layHold_2 F G (fun S7 => fx2 (b_M_layHold_23 F G) F (0 : Int32) S7)) (k := fun S7 => fx2 (b_M_layHold_23 F G) F (0 : Int32) S7) (N := 12) (fun i U => (∀ c, c < i → U.1 102 c = 0) ∧ (∀ h, h ≠ 102 → U.1 h = S.1 h) ∧ U.2 = S.2)
    (fun rec U _ => by
      unfold b_M_layHold_2
      rw [if_pos (by decide)])
    (fun rec i U hi hP => by
      obtain ⟨p1, p2, p3⟩ := hP
      unfold b_M_layHold_2
      rw [if_neg (show ¬ (12 : Int32) ≤ nI i from nI_ge (b := 12) hi (by decide)), gd_t (inB_nI hi (by decide)), lt_eq, lt_eq, nI_1, nI_clamp (by omega)]
      refine ⟨_, rfl, fun c hc => ?_, fun h q => by rw [sI_row q]; exact p2 h q, p3⟩
      rw [sI_at]
      by_cases z : c = i
      · rw [if_pos ⟨rfl, z⟩]
      · rw [if_neg (fun q => z q.2)]; exact p1 c (by omega))
    12 0 F S rfl (by omega) (by omega) ⟨fun c hc => by omega, fun _ _ => rfl, rfl⟩
  obtain ⟨V, f1, f2, f3, f4⟩ := cp2 (bod := b_M_layHold_23 F G) (k := fun S => some S) (N := nn) (fun i V => (∀ c, c < 12 → V.1 102 c = if c < bs then mset (HL bg lg (S.1 101 40) c) i else 0) ∧ (∀ h, h ≠ 102 → V.1 h = S.1 h) ∧ V.2 = S.2)
    (fun rec V hP => by
      unfold b_M_layHold_23
      rw [hP.2.1 78 (by omega), h48, if_pos (nI_le (Nat.le_refl nn) (by omega))])
    (fun rec i V hi hP => by
      obtain ⟨p1, p2, p3⟩ := hP
      obtain ⟨q1, q2⟩ := h96 i hi
      obtain ⟨q3, q4⟩ := h101 i hi
      obtain ⟨V', v1, v2, v3, v4⟩ := M_hold1 (F := F) (G := G) (n := i) (bs := bs) (bg := bg) (lg := lg) (pd := S.1 101 40) (fun S30 => lt (nI i + 1) fun v31 => rec v31 S30) (by omega) hbs q2 q4 (bs - bg i) (bg i) F V rfl (by omega) (Nat.le_refl _) (by omega) (fun z => by omega) (by rw [p2 78 (by omega)]; exact h46) (by rw [p2 96 (by omega)]; exact q1) (by rw [p2 101 (by omega)]; exact q3) (by rw [p2 101 (by omega)])
      unfold b_M_layHold_23
      rw [p2 78 (by omega), h48, if_neg (nI_ge hi (by omega)), gd_t (inB_nI (by omega) (by decide)), nI_clamp (by omega), lt_eq, p2 96 (by omega), q1, v1, lt_eq, nI_1]
      refine ⟨V', rfl, fun c hc => ?_, fun h q => by rw [v3 h q]; exact p2 h q, v4.trans p3⟩
      rw [v2 c hc, p1 c hc]
      by_cases z : c < bs
      · rw [if_pos z, if_pos z, mset]
        by_cases y : HL bg lg (S.1 101 40) c i = true
        · rw [if_pos ⟨(HL_t.mp y).2.1, z, y⟩, if_pos y]
        · rw [if_neg (fun q => y q.2.2), if_neg y, Int32.or_zero]
      · rw [if_neg (fun q => z q.2.1), if_neg z, if_neg z])
    nn 0 F U rfl (by omega) (by omega) ⟨fun c hc => by rw [e2 c hc, mset]; split <;> rfl, e3, e4⟩
  exact ⟨V, e1.trans f1, f2, f3, f4⟩
theorem M_fill_x (hF : 100000 ≤ F) {nn bs : Nat} {bg lg : Nat → Nat} (hn : nn ≤ 10) (hbs : bs ≤ 12) (h48 : S.1 78 48 = nI nn) (h46 : S.1 78 46 = nI bs) (h96 : ∀ i, i < nn → S.1 96 i = nI (bg i) ∧ bg i < 12) (h100 : ∀ i, i < nn → S.1 100 (20 + i) = nI (lg i) ∧ lg i ≤ 12) : ∃ T, fM_fill F G S = some T ∧ (∀ k, k < 41 → T.1 101 k = S.1 100 k) ∧ (∀ c, c < 12 → T.1 102 c = if c < bs then mset (HL bg lg (S.1 100 40) c) nn else 0) ∧ (∀ h, h ≠ 101 → h ≠ 102 → T.1 h = S.1 h) ∧ T.2 = S.2 := by
  unfold fM_fill
  obtain ⟨U, e1, e2, e3, e4⟩ := cp2 (bod := b_M_fill_2 F G (fun S8 => bd (fM_layHold F G S8) fun S10 => some S10)) (k := fun S8 => bd (fM_layHold F G S8) fun S10 => some S10) (N := 41) (fun i U => (∀ k, k < i → U.1 101 k = S.1 100 k) ∧ (∀ h, h ≠ 101 → U.1 h = S.1 h) ∧ U.2 = S.2)
    (fun rec U _ => by
      unfold b_M_fill_2
      rw [if_pos (by decide)])
    (fun rec i U hi hP => by
      obtain ⟨p1, p2, p3⟩ := hP
      unfold b_M_fill_2
      rw [if_neg (show ¬ (41 : Int32) ≤ nI i from nI_ge (b := 41) hi (by decide)), gd_t (inB_nI hi (by decide)), gd_t (inB_nI hi (by decide)), lt_eq, lt_eq, nI_1, nI_clamp (by omega)]
      refine ⟨_, rfl, fun k hk => ?_, fun h q => by rw [sI_row q]; exact p2 h q, p3⟩
      rw [sI_at]
      by_cases z : k = i
      · rw [if_pos ⟨rfl, z⟩, p2 100 (by omega), z]
      · rw [if_neg (fun q => z q.2)]; exact p1 k (by omega))
    41 0 F S rfl (by omega) (by omega) ⟨fun k hk => by omega, fun _ _ => rfl, rfl⟩
  obtain ⟨T, t1, t2, t3, t4⟩ := M_layHold_x (F := F) (G := G) (S := U) (bg := bg) (lg := lg) hF hn hbs (by rw [e3 78 (by omega)]; exact h48) (by rw [e3 78 (by omega)]; exact h46) (fun i hi => by rw [e3 96 (by omega)]; exact h96 i hi) (fun i hi => by rw [e2 _ (by omega)]; exact h100 i hi)
  refine ⟨T, e1.trans (by rw [t1, bd_some]), fun k hk => by rw [t3 101 (by omega)]; exact e2 k hk, fun c hc => ?_, fun h q1 q2 => by rw [t3 h q2]; exact e3 h q1, t4.trans e4⟩
  rw [t2 c hc, e2 40 (by omega)]
end HM
section HC
variable {F G : Nat} {S : St}
theorem K_timely (hF : 100000 ≤ F) {nn : Nat} {bg lg : Nat → Nat} (hn : nn ≤ 10) (h1 : S.1 57 1 = nI nn) (h59 : ∀ i, i < nn → S.1 59 i = nI (bg i) ∧ bg i < 12) (h60 : ∀ i, i < nn → S.1 60 i = nI (lg i) ∧ lg i ≤ 12) {s b : Nat} (hs : s < 2 ^ 31) (hb : b < 2 ^ 31) : fK_timelySince F G S (nI s) (nI b) = some (mset (fun n => decide (s ≤ bg n) && (decide (bg n ≤ b) && decide (b < bg n + lg n))) nn) := by
  unfold fK_timelySince
  refine for_or (N := nn) (k := some) (by omega) (fun n => decide (s ≤ bg n) && (decide (bg n ≤ b) && decide (b < bg n + lg n))) (fun rec a => by unfold b_K_timelySince_5; rw [h1, if_pos (nI_le (Nat.le_refl nn) (by omega))]) (fun rec a i hi => ?_) (by omega)
  obtain ⟨q1, q2⟩ := h59 i hi
  obtain ⟨q3, q4⟩ := h60 i hi
  unfold b_K_timelySince_5
  rw [h1, if_neg (nI_ge hi (by omega)), gd_t (inB_nI (by omega) (by decide)), nI_clamp (by omega), lt_eq, q1, gd_t (inB_nI (by omega) (by decide)), q3, nI_add]
  simp only [lt_eq, nI_1]
  by_cases c1 : s ≤ bg i
  · rw [if_neg (fun z => by have := (nI_lt_i (by omega) hs).mp z; omega), decide_eq_true c1, Bool.true_and]
    by_cases c2 : bg i ≤ b
    · rw [if_neg (fun z => by have := (nI_lt_i hb (by omega)).mp z; omega), decide_eq_true c2, Bool.true_and]
      by_cases c3 : b < bg i + lg i
      · rw [if_neg (fun z => by have := (nI_le_i (by omega) hb).mp z; omega), decide_eq_true c3, if_pos rfl]
      · rw [if_pos ((nI_le_i (by omega) hb).mpr (by omega)), decide_eq_false c3, if_neg (show ¬ false = true by decide), Int32.or_zero]
    · rw [if_pos ((nI_lt_i hb (by omega)).mpr (by omega)), decide_eq_false c2, Bool.false_and, if_neg (show ¬ false = true by decide), Int32.or_zero]
  · rw [if_pos ((nI_lt_i (by omega) hs).mpr (by omega)), decide_eq_false c1, Bool.false_and, if_neg (show ¬ false = true by decide), Int32.or_zero]
/-- the keyboard as the class lays it -/
theorem K_lay_x (hF : 100000 ≤ F) {o nn bs : Nat} {bg lg : Nat → Nat} (ho : isSc o = true) (hn : nn ≤ 10) (hbs : bs ≤ 12) (h6 : S.1 o 6 = nI nn) (h0 : S.1 o 0 = nI bs) (h5 : ∀ i, i < nn → S.1 (o + 5) i = nI (bg i) ∧ bg i < 12) (h33 : ∀ i, i < nn → S.1 33 i = nI (lg i) ∧ lg i ≤ 12) : ∃ T, fK_lay F G S o 30 = some T ∧ T.1 57 0 = nI bs ∧ T.1 57 1 = nI nn ∧ T.1 57 2 = S.1 o 1 ∧ T.1 57 3 = S.1 o 2 ∧ T.1 57 4 = S.1 o 3 ∧ T.1 57 5 = mset (fun i => decide (S.1 31 i = 1)) 10 ∧ T.1 57 6 = mset (fun i => decide (S.1 31 i = 2)) 10 ∧ T.1 57 7 = S.1 30 1 ∧ (∀ i, i < nn → T.1 58 i = S.1 32 i ∧ T.1 59 i = nI (bg i) ∧ T.1 60 i = nI (lg i)) ∧ (∀ b, b < bs → T.1 61 b = mset (HL bg lg (S.1 30 1) b) nn) ∧ (∀ h, ¬ (57 ≤ h ∧ h ≤ 61) → T.1 h = S.1 h) ∧ T.2 = S.2 := by
  have hoo := isSc_or ho
  unfold fK_lay
  rw [gd_t ho, gd_t (show isLa 30 = true from rfl)]
  simp only [lt_eq]
  have so : ∀ {X : St} {j k : Nat} {x : Int32}, (sI X 57 j x).1 o k = X.1 o k := fun {X j k x} => by rw [sI_row (by omega)]
  rw [so, so, so, so, so, so, so, so, so, so, N_setOf hF rfl, bd_some, N_setOf hF rfl, bd_some]
  simp only [show ∀ (X : St) (j : Nat) (x : Int32), (sI X 57 j x).1 (30 + 1) = X.1 31 from fun X j x => sI_row (by omega), show ∀ (X : St) (j k : Nat) (x : Int32), (sI X 57 j x).1 30 k = X.1 30 k from fun X j k x => by rw [sI_row (by omega)]]
  generalize hX : sI (sI (sI (sI (sI (sI (sI (sI S 57 0 (S.1 o 0)) 57 1 (S.1 o 6)) 57 2 (S.1 o 1)) 57 3 (S.1 o 2)) 57 4 (S.1 o 3)) 57 5 (mset (fun i => decide (S.1 31 i = 1)) 10)) 57 6 (mset (fun i => decide (S.1 31 i = 2)) 10)) 57 7 (S.1 30 1) = X
  have x57 : X.1 57 0 = nI bs ∧ X.1 57 1 = nI nn ∧ X.1 57 2 = S.1 o 1 ∧ X.1 57 3 = S.1 o 2 ∧ X.1 57 4 = S.1 o 3 ∧ X.1 57 5 = mset (fun i => decide (S.1 31 i = 1)) 10 ∧ X.1 57 6 = mset (fun i => decide (S.1 31 i = 2)) 10 ∧ X.1 57 7 = S.1 30 1 := by
    rw [← hX, ← h0, ← h6]
    exact ⟨rfl, rfl, rfl, rfl, rfl, rfl, rfl, rfl⟩
  have xr : ∀ h, h ≠ 57 → X.1 h = S.1 h := fun h q => by
    rw [← hX, sI_row q, sI_row q, sI_row q, sI_row q, sI_row q, sI_row q, sI_row q, sI_row q]
  have x2 : X.2 = S.2 := by rw [← hX]; rfl
  obtain ⟨y0, y1, y2, y3, y4, y5, y6, y7⟩ := x57
  obtain ⟨V, f1, f2, f3, f4⟩ := cp2 (bod := b_K_lay_68 F G o 30 (fun S36 => fx3 (b_K_lay_123 F G) F (0 : Int32) (0 : Int32) S36)) (k := fun S36 => fx3 (b_K_lay_123 F G) F (0 : Int32) (0 : Int32) S36) (N := nn) (fun n V => (∀ i, i < n → V.1 58 i = S.1 32 i ∧ V.1 59 i = nI (bg i) ∧ V.1 60 i = nI (lg i)) ∧ (∀ h, ¬ (58 ≤ h ∧ h ≤ 60) → V.1 h = X.1 h) ∧ V.2 = S.2)
    (fun rec V hP => by
      unfold b_K_lay_68
      rw [hP.2.1 57 (by omega), y1, if_pos (nI_le (Nat.le_refl nn) (by omega))])
    (fun rec i V hi hP => by
      obtain ⟨p1, p2, p3⟩ := hP
      have g : inB (nI i) 10 = true := inB_nI (by omega) (by decide)
      unfold b_K_lay_68
      rw [p2 57 (by omega), y1, if_neg (nI_ge hi (by omega))]
      simp only [lt_eq, gd_t g, nI_1, nI_clamp (show i < 2 ^ 31 by omega)]
      refine ⟨_, rfl, fun j hj => ?_, fun h q => ?_, p3⟩
      · have r32 : V.1 (30 + 2) i = S.1 32 i := by rw [p2 (30 + 2) (by omega), xr (30 + 2) (by omega)]
        have r5 : V.1 (o + 5) i = nI (bg i) := by rw [p2 (o + 5) (by omega), xr (o + 5) (by omega)]; exact (h5 i hi).1
        have r33 : V.1 (30 + 3) i = nI (lg i) := by rw [p2 (30 + 3) (by omega), xr (30 + 3) (by omega)]; exact (h33 i hi).1
        by_cases z : j = i
        · subst z
          refine ⟨?_, ?_, ?_⟩
          · rw [sI_row (by omega), sI_row (by omega), sI_self]; exact r32
          · rw [sI_row (by omega), sI_self, sI_row (by omega)]; exact r5
          · rw [sI_self, sI_row (by omega), sI_row (by omega)]; exact r33
        · refine ⟨?_, ?_, ?_⟩
          · rw [sI_row (by omega), sI_row (by omega), sI_at, if_neg (fun q => z q.2)]; exact (p1 j (by omega)).1
          · rw [sI_row (by omega), sI_at, if_neg (fun q => z q.2), sI_row (by omega)]; exact (p1 j (by omega)).2.1
          · rw [sI_at, if_neg (fun q => z q.2), sI_row (by omega), sI_row (by omega)]; exact (p1 j (by omega)).2.2
      · rw [sI_row (by omega), sI_row (by omega), sI_row (by omega)]; exact p2 h q)
    nn 0 F X rfl (by omega) (by omega) ⟨fun i hi => by omega, fun _ _ => rfl, x2⟩
  have lp : ∀ r b f s (W : St), bs - b = r → b ≤ bs → r < f → (b = 0 → s = 0) → (∀ d, b = d + 1 → s = snc (S.1 30 1) d) → (∀ c, c < b → W.1 61 c = mset (HL bg lg (S.1 30 1) c) nn) → (∀ h, h ≠ 61 → W.1 h = V.1 h) → W.2 = S.2 → ∃ T, fx3 (b_K_lay_123 F G) f (nI s) (nI b) W = some T ∧ (∀ c, c < bs → T.1 61 c = mset (HL bg lg (S.1 30 1) c) nn) ∧ (∀ h, h ≠ 61 → T.1 h = V.1 h) ∧ T.2 = S.2 := by
    intro r
    induction r with
    | zero =>
      intro b f s W hr hb hf s0 s1 w1 w2 w3
      obtain ⟨g, rfl⟩ : ∃ g, f = g + 1 := ⟨f - 1, by omega⟩
      have e : b = bs := by omega
      subst e
      refine ⟨W, ?_, w1, w2, w3⟩
      rw [fx3_s]
      unfold b_K_lay_123
      rw [w2 57 (by omega), f3 57 (by omega), y0, if_pos (nI_le (Nat.le_refl b) (by omega))]
    | succ r ih =>
      intro b f s W hr hb hf s0 s1 w1 w2 w3
      obtain ⟨g, rfl⟩ : ∃ g, f = g + 1 := ⟨f - 1, by omega⟩
      have hs : s < 2 ^ 31 := by
        by_cases z : b = 0
        · rw [s0 z]; decide
        · obtain ⟨d, rfl⟩ : ∃ d, b = d + 1 := ⟨b - 1, by omega⟩
          have := s1 d rfl
          have := snc_le (pd := S.1 30 1) d
          omega
      have w57 : ∀ k, W.1 57 k = X.1 57 k := fun k => by rw [w2 57 (by omega), f3 57 (by omega)]
      have key : j_K_lay_147 F G (fx3 (b_K_lay_123 F G) g) W (nI b) (nI (snc (S.1 30 1) b)) = fx3 (b_K_lay_123 F G) g (nI (snc (S.1 30 1) b)) (nI (b + 1)) (sI W 61 b (mset (HL bg lg (S.1 30 1) b) nn)) := by
        unfold j_K_lay_147
        have := snc_le (pd := S.1 30 1) b
        rw [K_timely (F := F) (G := G) (S := W) (nn := nn) (bg := bg) (lg := lg) hF hn (by rw [w57, y1]) (fun i hi => by rw [w2 59 (by omega)]; exact ⟨(f2 i hi).2.1, (h5 i hi).2⟩) (fun i hi => by rw [w2 60 (by omega)]; exact ⟨(f2 i hi).2.2, (h33 i hi).2⟩) (by omega) (by omega), bd_some, gd_t (inB_nI (by omega) (by decide)), lt_eq, lt_eq, nI_1, nI_clamp (by omega)]
        rfl
      have nxt := ih (b + 1) g (snc (S.1 30 1) b) (sI W 61 b (mset (HL bg lg (S.1 30 1) b) nn)) (by omega) (by omega) (by omega) (fun z => by omega) (fun d hd => by rw [show d = b by omega]) (fun c hc => by
        rw [sI_at]
        by_cases z : c = b
        · rw [if_pos ⟨rfl, z⟩, z]
        · rw [if_neg (fun q => z q.2)]; exact w1 c (by omega)) (fun h q => by rw [sI_row q]; exact w2 h q) w3
      rw [fx3_s]
      generalize fx3 (b_K_lay_123 F G) g = rec at key nxt ⊢
      unfold b_K_lay_123 fK_hasPedal
      rw [w57, y0, if_neg (show ¬ nI bs ≤ nI b from fun z => by have := (nI_le_i (by omega) (by omega)).mp z; omega), w57, y7]
      have sE : ¬ bt (S.1 30 1) b = true → s = snc (S.1 30 1) b := fun c => by
        by_cases z : b = 0
        · rw [s0 z, z]; rfl
        · obtain ⟨d, rfl⟩ : ∃ d, b = d + 1 := ⟨b - 1, by omega⟩
          rw [s1 d rfl, snc, if_neg c]
      have sB : bt (S.1 30 1) b = true → b = snc (S.1 30 1) b := fun c => by
        by_cases z : b = 0
        · rw [z]; rfl
        · obtain ⟨d, rfl⟩ : ∃ d, b = d + 1 := ⟨b - 1, by omega⟩
          rw [snc, if_pos c]
      by_cases c : bt (S.1 30 1) b = true
      · rw [if_neg (show ¬ ((S.1 30 1 >>> (nI b &&& 31)) &&& 1 = 0) from fun z => by rw [(bit_0 _ (by omega)).mp z] at c; exact absurd c (by decide)), bd_some, if_neg (show ¬ (1 : Int32) = 0 by decide)]
        rw [show j_K_lay_147 F G rec W (nI b) (nI b) = j_K_lay_147 F G rec W (nI b) (nI (snc (S.1 30 1) b)) by rw [← sB c], key]
        exact nxt
      · rw [if_pos ((bit_0 _ (by omega)).mpr (by simpa using c)), bd_some, if_pos rfl, sE c, key]
        exact nxt
  obtain ⟨T, t1, t2, t3, t4⟩ := lp bs 0 F 0 V rfl (by omega) (by omega) (fun _ => rfl) (fun d hd => by omega) (fun c hc => by omega) (fun _ _ => rfl) f4
  have r57 : ∀ k, T.1 57 k = X.1 57 k := fun k => by rw [t3 57 (by omega), f3 57 (by omega)]
  refine ⟨T, f1.trans t1, by rw [r57, y0], by rw [r57, y1], by rw [r57, y2], by rw [r57, y3], by rw [r57, y4], by rw [r57, y5], by rw [r57, y6], by rw [r57, y7], fun i hi => ?_, t2, fun h q => ?_, t4⟩
  · rw [t3 58 (by omega), t3 59 (by omega), t3 60 (by omega)]; exact f2 i hi
  · rw [t3 h (by omega), f3 h (by omega), xr h (by omega)]
end HC
