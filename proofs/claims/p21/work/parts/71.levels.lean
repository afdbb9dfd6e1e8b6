/-! THE FORMULA: the six levels of the class -/
theorem sgn_13 {t : Tk} (h : wd t 13 = true) : sgn t = 38 := by unfold sgn; rw [if_pos h]
theorem sgn_12 {t : Tk} (h : wd t 12 = true) : sgn t = 124 := by
  have : ¬ wd t 13 = true := by
    simp only [wd, Bool.and_eq_true, beq_iff_eq] at h ⊢
    omega
  unfold sgn; rw [if_neg this, if_pos h]
theorem sgn_sg {t : Tk} {c : Nat} (hb : isBS c = true) (h : sg t c = true) : sgn t = c := by
  simp only [sg, Bool.and_eq_true, beq_iff_eq] at h
  have h1 : ∀ w, ¬ wd t w = true := by
    intro w z
    simp only [wd, Bool.and_eq_true, beq_iff_eq] at z
    omega
  unfold sgn; rw [if_neg (h1 13), if_neg (h1 12), if_pos ⟨h.1, by rw [h.2]; exact hb⟩, h.2]
theorem sgn_inv {t : Tk} (h0 : sgn t ≠ 0) : (wd t 13 = true ∧ sgn t = 38) ∨ (wd t 12 = true ∧ sgn t = 124) ∨ (sg t (sgn t) = true ∧ isBS (sgn t) = true ∧ sgn t = t.2.1 ∧ t.1 = 3) := by
  by_cases c1 : wd t 13 = true
  · exact Or.inl ⟨c1, sgn_13 c1⟩
  · by_cases c2 : wd t 12 = true
    · exact Or.inr (Or.inl ⟨c2, sgn_12 c2⟩)
    · have e : sgn t = if t.1 = 3 ∧ isBS t.2.1 = true then t.2.1 else 0 := by unfold sgn; rw [if_neg c1, if_neg c2]
      by_cases c3 : t.1 = 3 ∧ isBS t.2.1 = true
      · rw [if_pos c3] at e
        exact Or.inr (Or.inr ⟨by rw [e]; simp [sg, c3.1], by rw [e]; exact c3.2, e, c3.1⟩)
      · rw [if_neg c3] at e; exact absurd e h0
theorem bs_lt {c : Nat} (h : isBS c = true) : c < 256 := by
  simp only [isBS, Bool.or_eq_true, beq_iff_eq] at h
  omega
theorem bs_tg {c : Nat} (h : isBS c = true) : (tg c = 4 ↔ c = 60 ∨ c = 62 ∨ c = 61) ∧ (tg c = 5 ↔ c = 43 ∨ c = 45) ∧ (tg c = 6 ↔ c = 42 ∨ c = 47 ∨ c = 37) ∧ 4 ≤ tg c ∧ cO c = -(nI c) :=
  (by decide +kernel : ∀ c, c < 256 → isBS c = true → (tg c = 4 ↔ c = 60 ∨ c = 62 ∨ c = 61) ∧ (tg c = 5 ↔ c = 43 ∨ c = 45) ∧ (tg c = 6 ↔ c = 42 ∨ c = 47 ∨ c = 37) ∧ 4 ≤ tg c ∧ cO c = -(nI c)) c (bs_lt h) h
section FL
variable {F G d : Nat} {A1 B1 A B : St} {b : Nat → Nat} {n : Nat} {t : Tk} {p : Nat} {st pend : List Nat} {u md : Nat} {P : Nat → Int32 → St → Option St} {z : Int32}
theorem is0 (c : Prop) [Decidable c] : (if c then (1 : Int32) else 0) = 0 ↔ ¬ c := by
  by_cases h : c
  · rw [if_pos h]; exact ⟨fun q => absurd q (by decide), fun q => absurd h q⟩
  · rw [if_neg h]; exact ⟨fun _ => h, fun _ => rfl⟩
theorem either_0 (rec : Int32 → St → Option St) (i : Nat) (A : St) (h : ¬ A.1 1 0 = 0) : b_R_either_7 F G P z rec (nI i) A = some A := by
  unfold b_R_either_7
  by_cases c : (1600 : Int32) ≤ nI i
  · rw [if_pos c]
  · rw [if_neg c, R_isWordF h, bd_some, if_pos rfl]
theorem either_1 (rec : Int32 → St → Option St) (i : Nat) (A B : St) (t : Tk) (p : Nat) (h : OkF d b n A1 B1 A B t p) (hs : ¬ (sgn t ≠ 0 ∧ tg (sgn t) = 1)) : b_R_either_7 F G P z rec (nI i) A = some A := by
  unfold b_R_either_7
  by_cases c : (1600 : Int32) ≤ nI i
  · rw [if_pos c]
  · rw [if_neg c, show (12 : Int32) = nI 12 from rfl, R_isWord (by decide) h.2.1 h.1.2.2.1, bd_some, if_pos ((is0 _).mpr (fun q => hs (by rw [sgn_12 q]; decide)))]
theorem either_2 (rec : Int32 → St → Option St) (i : Nat) (A B : St) (t : Tk) (p : Nat) (hi : i < 1600) (h : OkF d b n A1 B1 A B t p) (h0 : sgn t ≠ 0) (hT : tg (sgn t) = 1) : b_R_either_7 F G P z rec (nI i) A = bd (fT_step F G A) fun S8 => bd (P 1 z S8) fun S10 => gd (isSc S10.2.2.2) (bd (fF_put F G S10 (S10.2.2.2 + 9) (cO (sgn t))) fun S13 => rec (nI (i + 1)) S13) := by
  have hw : wd t 12 = true ∧ sgn t = 124 := by
    rcases sgn_inv h0 with q | q | q
    · rw [q.2] at hT; cases hT
    · exact q
    · have := (bs_tg q.2.1).2.2.2.1; omega
  unfold b_R_either_7
  rw [if_neg (show ¬ (1600 : Int32) ≤ nI i from nI_ge (b := 1600) hi (by decide)), show (12 : Int32) = nI 12 from rfl, R_isWord (by decide) h.2.1 h.1.2.2.1, bd_some, if_neg (fun q => (is0 _).mp q hw.1), hw.2]
  simp only [lt_eq, nI_1]
  rfl
theorem both_0 (rec : Int32 → St → Option St) (i : Nat) (A : St) (h : ¬ A.1 1 0 = 0) : b_R_both_7 F G P z rec (nI i) A = some A := by
  unfold b_R_both_7
  by_cases c : (1600 : Int32) ≤ nI i
  · rw [if_pos c]
  · rw [if_neg c, R_isWordF h, bd_some, if_pos rfl]
theorem both_1 (rec : Int32 → St → Option St) (i : Nat) (A B : St) (t : Tk) (p : Nat) (h : OkF d b n A1 B1 A B t p) (hs : ¬ (sgn t ≠ 0 ∧ tg (sgn t) = 2)) : b_R_both_7 F G P z rec (nI i) A = some A := by
  unfold b_R_both_7
  by_cases c : (1600 : Int32) ≤ nI i
  · rw [if_pos c]
  · rw [if_neg c, show (13 : Int32) = nI 13 from rfl, R_isWord (by decide) h.2.1 h.1.2.2.1, bd_some, if_pos ((is0 _).mpr (fun q => hs (by rw [sgn_13 q]; decide)))]
theorem both_2 (rec : Int32 → St → Option St) (i : Nat) (A B : St) (t : Tk) (p : Nat) (hi : i < 1600) (h : OkF d b n A1 B1 A B t p) (h0 : sgn t ≠ 0) (hT : tg (sgn t) = 2) : b_R_both_7 F G P z rec (nI i) A = bd (fT_step F G A) fun S8 => bd (P 2 z S8) fun S10 => gd (isSc S10.2.2.2) (bd (fF_put F G S10 (S10.2.2.2 + 9) (cO (sgn t))) fun S13 => rec (nI (i + 1)) S13) := by
  have hw : wd t 13 = true ∧ sgn t = 38 := by
    rcases sgn_inv h0 with q | q | q
    · exact q
    · rw [q.2] at hT; cases hT
    · have := (bs_tg q.2.1).2.2.2.1; omega
  unfold b_R_both_7
  rw [if_neg (show ¬ (1600 : Int32) ≤ nI i from nI_ge (b := 1600) hi (by decide)), show (13 : Int32) = nI 13 from rfl, R_isWord (by decide) h.2.1 h.1.2.2.1, bd_some, if_neg (fun q => (is0 _).mp q hw.1), hw.2]
  simp only [lt_eq, nI_1]
  rfl
theorem sum_0 (rec : Int32 → St → Option St) (i : Nat) (A : St) (h : ¬ A.1 1 0 = 0) : b_R_sum_7 F G P z rec (nI i) A = some A := by
  unfold b_R_sum_7
  by_cases c : (1600 : Int32) ≤ nI i
  · rw [if_pos c]
  · rw [if_neg c, R_isSignF h, R_isSignF h, bd_some, if_pos rfl, bd_some, if_pos rfl]
theorem sum_1 (rec : Int32 → St → Option St) (i : Nat) (A B : St) (t : Tk) (p : Nat) (h : OkF d b n A1 B1 A B t p) (hs : ¬ (sgn t ≠ 0 ∧ tg (sgn t) = 5)) : b_R_sum_7 F G P z rec (nI i) A = some A := by
  have hk := h.1.2.2.2.2.1
  unfold b_R_sum_7
  by_cases c : (1600 : Int32) ≤ nI i
  · rw [if_pos c]
  · rw [if_neg c, show (43 : Int32) = nI 43 from rfl, R_isSign (by decide) h.2.1 h.1.2.2.1 hk, show (45 : Int32) = nI 45 from rfl, R_isSign (by decide) h.2.1 h.1.2.2.1 hk, bd_some, bd_some, if_pos ((is0 _).mpr (fun q => hs (by rw [sgn_sg rfl q]; decide))), if_pos ((is0 _).mpr (fun q => hs (by rw [sgn_sg rfl q]; decide)))]
theorem sum_2 (rec : Int32 → St → Option St) (i : Nat) (A B : St) (t : Tk) (p : Nat) (hi : i < 1600) (h : OkF d b n A1 B1 A B t p) (h0 : sgn t ≠ 0) (hT : tg (sgn t) = 5) : b_R_sum_7 F G P z rec (nI i) A = bd (fT_step F G A) fun S8 => bd (P 4 z S8) fun S10 => gd (isSc S10.2.2.2) (bd (fF_put F G S10 (S10.2.2.2 + 9) (cO (sgn t))) fun S13 => rec (nI (i + 1)) S13) := by
  have hk := h.1.2.2.2.2.1
  have hw : sg t (sgn t) = true ∧ isBS (sgn t) = true ∧ sgn t = t.2.1 ∧ t.1 = 3 := by
    rcases sgn_inv h0 with q | q | q
    · rw [q.2] at hT; cases hT
    · rw [q.2] at hT; cases hT
    · exact q
  have hc := (bs_tg hw.2.1).2.1.mp hT
  have hv : A.1 2 5 = nI (sgn t) := by rw [hw.2.2.1]; exact h.1.2.2.1.2.2 (Or.inr hw.2.2.2)
  have key : j_R_sum_32 F G P z rec A (nI i) = bd (fT_step F G A) fun S8 => bd (P 4 z S8) fun S10 => gd (isSc S10.2.2.2) (bd (fF_put F G S10 (S10.2.2.2 + 9) (cO (sgn t))) fun S13 => rec (nI (i + 1)) S13) := by
    unfold j_R_sum_32
    simp only [lt_eq, nI_1, hv]
    rw [(bs_tg hw.2.1).2.2.2.2]
  unfold b_R_sum_7
  rw [if_neg (show ¬ (1600 : Int32) ≤ nI i from nI_ge (b := 1600) hi (by decide)), show (43 : Int32) = nI 43 from rfl, R_isSign (by decide) h.2.1 h.1.2.2.1 hk, show (45 : Int32) = nI 45 from rfl, R_isSign (by decide) h.2.1 h.1.2.2.1 hk, bd_some, bd_some, key]
  rcases hc with hc | hc
  · rw [if_neg (fun q => (is0 _).mp q (by rw [← hc]; exact hw.1))]
  · by_cases c : (if sg t 43 = true then (1 : Int32) else 0) = 0
    · rw [if_pos c, if_neg (fun q => (is0 _).mp q (by rw [← hc]; exact hw.1))]
    · rw [if_neg c]
theorem term_0 (rec : Int32 → St → Option St) (i : Nat) (A : St) (h : ¬ A.1 1 0 = 0) : b_R_term_7 F G P z rec (nI i) A = some A := by
  unfold b_R_term_7
  by_cases c : (1600 : Int32) ≤ nI i
  · rw [if_pos c]
  · rw [if_neg c, R_isSignF h, R_isSignF h, R_isSignF h, bd_some, if_pos rfl, bd_some, if_pos rfl, bd_some, if_pos rfl]
theorem term_1 (rec : Int32 → St → Option St) (i : Nat) (A B : St) (t : Tk) (p : Nat) (h : OkF d b n A1 B1 A B t p) (hs : ¬ (sgn t ≠ 0 ∧ tg (sgn t) = 6)) : b_R_term_7 F G P z rec (nI i) A = some A := by
  have hk := h.1.2.2.2.2.1
  unfold b_R_term_7
  by_cases c : (1600 : Int32) ≤ nI i
  · rw [if_pos c]
  · rw [if_neg c, show (42 : Int32) = nI 42 from rfl, R_isSign (by decide) h.2.1 h.1.2.2.1 hk, show (47 : Int32) = nI 47 from rfl, R_isSign (by decide) h.2.1 h.1.2.2.1 hk, show (37 : Int32) = nI 37 from rfl, R_isSign (by decide) h.2.1 h.1.2.2.1 hk, bd_some, bd_some, bd_some, if_pos ((is0 _).mpr (fun q => hs (by rw [sgn_sg rfl q]; decide))), if_pos ((is0 _).mpr (fun q => hs (by rw [sgn_sg rfl q]; decide))), if_pos ((is0 _).mpr (fun q => hs (by rw [sgn_sg rfl q]; decide)))]
theorem term_2 (rec : Int32 → St → Option St) (i : Nat) (A B : St) (t : Tk) (p : Nat) (hi : i < 1600) (h : OkF d b n A1 B1 A B t p) (h0 : sgn t ≠ 0) (hT : tg (sgn t) = 6) : b_R_term_7 F G P z rec (nI i) A = bd (fT_step F G A) fun S8 => bd (P 5 z S8) fun S10 => gd (isSc S10.2.2.2) (bd (fF_put F G S10 (S10.2.2.2 + 9) (cO (sgn t))) fun S13 => rec (nI (i + 1)) S13) := by
  have hk := h.1.2.2.2.2.1
  have hw : sg t (sgn t) = true ∧ isBS (sgn t) = true ∧ sgn t = t.2.1 ∧ t.1 = 3 := by
    rcases sgn_inv h0 with q | q | q
    · rw [q.2] at hT; cases hT
    · rw [q.2] at hT; cases hT
    · exact q
  have hc := (bs_tg hw.2.1).2.2.1.mp hT
  have hv : A.1 2 5 = nI (sgn t) := by rw [hw.2.2.1]; exact h.1.2.2.1.2.2 (Or.inr hw.2.2.2)
  have key : j_R_term_41 F G P z rec A (nI i) = bd (fT_step F G A) fun S8 => bd (P 5 z S8) fun S10 => gd (isSc S10.2.2.2) (bd (fF_put F G S10 (S10.2.2.2 + 9) (cO (sgn t))) fun S13 => rec (nI (i + 1)) S13) := by
    unfold j_R_term_41
    simp only [lt_eq, nI_1, hv]
    rw [(bs_tg hw.2.1).2.2.2.2]
  unfold b_R_term_7
  rw [if_neg (show ¬ (1600 : Int32) ≤ nI i from nI_ge (b := 1600) hi (by decide)), show (42 : Int32) = nI 42 from rfl, R_isSign (by decide) h.2.1 h.1.2.2.1 hk, show (47 : Int32) = nI 47 from rfl, R_isSign (by decide) h.2.1 h.1.2.2.1 hk, show (37 : Int32) = nI 37 from rfl, R_isSign (by decide) h.2.1 h.1.2.2.1 hk, bd_some, bd_some, bd_some, key]
  by_cases c : (if sg t 42 = true then (1 : Int32) else 0) = 0
  · rw [if_pos c]
    by_cases c2 : (if sg t 47 = true then (1 : Int32) else 0) = 0
    · rw [if_pos c2, if_neg (fun q => (is0 _).mp q (by
        rcases hc with hc | hc | hc
        · exact absurd (by rw [← hc]; exact hw.1) ((is0 _).mp c)
        · exact absurd (by rw [← hc]; exact hw.1) ((is0 _).mp c2)
        · rw [← hc]; exact hw.1))]
    · rw [if_neg c2]
  · rw [if_neg c]
/-- one: nots, or a sum and perhaps its relation -/
theorem F_one (hF : 100000 ≤ F) (hd : isSc d = true) (hdr : A1.2.2.2 = d) (h : OkF d b n A1 B1 A B t p) (fs : FS d A B st [] u 0) (hst : topT st < 4)
    (I3 : ¬ wd t 14 = true → ∃ A', P 3 (nI (dp st)) A = some A' ∧ Out F G d b n A1 B1 5 st B (rem n t p) A')
    (I3s : ∀ A B t p u s, OkF d b n A1 B1 A B t p → FS d A B (s :: st) [] u 0 → tg s = 4 → isBin s = true → ∃ A', P 3 (nI (dp st)) A = some A' ∧ Out F G d b n A1 B1 5 (s :: st) B (rem n t p) A')
    (I2 : dp st < 7 → ∀ A B t p, OkF d b n A1 B1 A B t p → FS d A B (21 :: st) [] u 0 → ∃ A', P 2 (nI (dp st + 1)) A = some A' ∧ Out F G d b n A1 B1 3 (21 :: st) B (rem n t p) A') :
    ∃ A', fR_one F G P (nI (dp st)) A = some A' ∧ Out F G d b n A1 B1 3 st B (rem n t p) A' := by
  have hk := h.1.2.2.2.2.1
  obtain ⟨d23, d7, d19, d55⟩ := fs.dU
  have i14 : fR_isWord F G A 14 = some (if wd t 14 = true then 1 else 0) := R_isWord (w := 14) (by decide) h.2.1 h.1.2.2.1
  unfold fR_one
  rw [i14, bd_some]
  by_cases c14 : wd t 14 = true
  · rw [if_pos c14, if_neg (by decide)]
    have hw := wd_no c14
    have hpos := rem_pos (n := n) (p := p) hw.2
    by_cases c7 : dp st < 7
    · rw [if_pos (show nI (dp st) < (7 : Int32) from nI_lt (b := 7) c7 (by decide)), nI_1]
      obtain ⟨A2, B2, t2, p2, s1, s2, s3, s4, s5⟩ := U_open (F := F) (G := G) (s := 21) (u' := u) hF hd (Or.inl ⟨rfl, hst, rfl⟩) h fs (by omega) hw.1 hw.2 (B2 := B) Ag.rf fs.2.2.1 fs.2.2.2.1 (fun _ _ _ => rfl) (A2 := A) Ag.rf fs.2.1 rfl (fun _ => rfl)
      obtain ⟨A3, q1, c, e, q2, q3⟩ := I2 c7 A2 B2 t2 p2 s3 s4
      rw [s1, bd_some, q1, bd_some]
      have key : ∀ g f, mU F G (g + 1) f B = mU F G g f B2 := by
        intro g f
        rw [U_s]
        unfold mU
        generalize fx2 (b_M_unit_2 F G (fun S27 => j_M_unit_101 F G S27)) g = rec
        unfold b_M_unit_2
        rw [if_neg (by decide), if_pos h.2.2.1, M_isWord (w := 14) (K := 7237492) (by decide) h.1.2.2.2.1 hk rfl, bd_some, if_pos c14, if_neg (by decide), M_mayNot fs.2.2.2.2.2.2.1 fs.2.2.2.2.1 (by have := fs.len; omega) fs.mem, bd_some, if_pos (show topT ([] ++ st) < 4 from hst), if_neg (by decide), d23, if_pos ((le6 d7).mpr (by omega)), show (21 : Int32) = nI 21 from rfl, s2, bd_some]
      rcases q3 with ⟨B3, t3, p3, pend3, u3, r1, r2, r3, r4, r5, r6, r7⟩ | ⟨r0, B3, r1, r2, r3⟩
      · have e3 : A3.2.2.2 = d := by rw [r2.dr]; exact hdr
        obtain ⟨A4, w1, w2, w3⟩ := F_put (F := F) (G := G) hd r2 r3
        have w1' : fF_put F G A3 (d + 9) (-14) = some A4 := w1
        rw [e3, gd_t hd, w1', bd_some]
        have eapp : (pend3 ++ [21]) ++ st = pend3 ++ 21 :: st := by simp
        refine ⟨A4, rfl, c + 1, e, by omega, Or.inl ⟨B3, t3, p3, pend3 ++ [21], u3, fun g f => ?_, w2, w3, fun x hx => ?_, by rw [eapp]; exact r5, by omega, by omega⟩⟩
        · rw [show g + (c + 1) = g + c + 1 by omega, key, r1]
        · rcases List.mem_append.mp hx with hx | hx
          · exact r4 x hx
          · rw [List.mem_singleton] at hx
            rw [hx]; decide
      · have e3 : A3.2.2.2 = d := by rw [r2.dr]; exact hdr
        obtain ⟨A4, w1, w2, w3⟩ := R_putB (F := F) (G := G) hd r3 (-14)
        rw [e3, gd_t hd, w1, bd_some]
        refine ⟨A4, rfl, c + 1, e, by omega, Or.inr ⟨by omega, B3, fun g f => ?_, r2.agC hd w2, w3⟩⟩
        rw [show g + (c + 1) = g + c + 1 by omega, key, r1]
    · rw [if_neg (show ¬ nI (dp st) < (7 : Int32) from fun q => c7 ((nI_ltI (by omega) (by decide)).mp q))]
      obtain ⟨A2, B2, a1, a2, a3, a4⟩ := F_bad (F := F) (G := G) h
      have ho : B2.1 78 19 = nI st.length := (a4.2.1 78 19 rfl).trans d19
      obtain ⟨B3, x1, x2, x3⟩ := U_openB (F := F) (G := G) (s := 21) a3 ho (by omega) 0 0
      rw [a1, bd_some]
      refine ⟨A2, rfl, 2, 1, by omega, Or.inr ⟨by omega, B3, fun g f => ?_, x3, fs.szU.ag hd ?_⟩⟩
      · obtain ⟨B3', y1, y2, y3⟩ := U_openB (F := F) (G := G) (s := 21) a3 ho (by omega) g f
        rw [x1] at y1
        obtain rfl := Option.some.inj y1
        rw [show g + 2 = g + 1 + 1 by omega, U_s, ← y2]
        unfold mU
        generalize fx2 (b_M_unit_2 F G (fun S27 => j_M_unit_101 F G S27)) (g + 1) = rec
        unfold b_M_unit_2
        rw [if_neg (by decide), if_pos h.2.2.1, M_isWord (w := 14) (K := 7237492) (by decide) h.1.2.2.2.1 hk rfl, bd_some, if_pos c14, if_neg (by decide), M_mayNot fs.2.2.2.2.2.2.1 fs.2.2.2.2.1 (by have := fs.len; omega) fs.mem, bd_some, if_pos (show topT ([] ++ st) < 4 from hst), if_neg (by decide), d23, if_neg (fun q => by have := (le6 d7).mp q; omega), a2, bd_some, show (21 : Int32) = nI 21 from rfl, x1, bd_some]
      · have := P_bad (F := F) (G := G) (k := 2) (by omega) (by omega) h.x
        obtain ⟨A2', B2', b1, b2, b3⟩ := this
        rw [show nI 2 = (2 : Int32) from rfl, a1] at b1
        obtain rfl := Option.some.inj b1
        exact b3.2.2.1
  · rw [if_neg c14, if_pos rfl]
    obtain ⟨A3, q1, c, e, q2, q3⟩ := I3 c14
    rw [q1, bd_some]
    rcases q3 with ⟨B3, t3, p3, pend3, u3, r1, r2, r3, r4, r5, r6, r7⟩ | ⟨r0, B3, r1, r2, r3⟩
    · have hk3 := r2.1.2.2.2.2.1
      have s60 := R_isSign (F := F) (G := G) (c := 60) (by decide) r2.2.1 r2.1.2.2.1 hk3
      have s62 := R_isSign (F := F) (G := G) (c := 62) (by decide) r2.2.1 r2.1.2.2.1 hk3
      have s61 := R_isSign (F := F) (G := G) (c := 61) (by decide) r2.2.1 r2.1.2.2.1 hk3
      rw [show (60 : Int32) = nI 60 from rfl, show (62 : Int32) = nI 62 from rfl, show (61 : Int32) = nI 61 from rfl, s60, s62, s61, bd_some, bd_some, bd_some]
      by_cases hrel : sgn t3 ≠ 0 ∧ tg (sgn t3) = 4
      · obtain ⟨hb, hlt⟩ := sgn_bin hrel.1
        have hw : sg t3 (sgn t3) = true ∧ isBS (sgn t3) = true ∧ sgn t3 = t3.2.1 ∧ t3.1 = 3 := by
          rcases sgn_inv hrel.1 with q | q | q
          · rw [q.2] at hrel; cases hrel.2
          · rw [q.2] at hrel; cases hrel.2
          · exact q
        have hc := (bs_tg hw.2.1).1.mp hrel.2
        have hv : A3.1 2 5 = nI (sgn t3) := by rw [hw.2.2.1]; exact r2.1.2.2.1.2.2 (Or.inr hw.2.2.2)
        obtain ⟨A5, B5, t5, p5, s1, s2, s3, s4, s5⟩ := L_op (G := G) hF hd r2 r3 hrel.1 (fun _ => by rw [hr_skip _ _ r4]; exact hr_low hst) (fun x hx => ⟨(r4 x hx).1, by have := (r4 x hx).2; omega⟩) (by omega)
        obtain ⟨A6, x1, c6, e6, x2, x3⟩ := I3s A5 B5 t5 p5 u3 (sgn t3) s3 s4 hrel.2 hb
        obtain ⟨g', hg'⟩ : ∃ g', F = g' + c6 := ⟨F - c6, by have := s3.rm; omega⟩
        have j80 : j_R_one_80 F G P A3 (nI (dp st)) = gd (isSc A6.2.2.2) (bd (fF_put F G A6 (A6.2.2.2 + 9) (cO (sgn t3))) fun S33 => some S33) := by
          unfold j_R_one_80
          rw [lt_eq, hv, s1, bd_some, x1, bd_some, (bs_tg hw.2.1).2.2.2.2]
        have hpick : (if (if sg t3 60 = true then (1 : Int32) else 0) = 0 then if (if sg t3 62 = true then (1 : Int32) else 0) = 0 then if (if sg t3 61 = true then (1 : Int32) else 0) = 0 then some A3 else j_R_one_80 F G P A3 (nI (dp st)) else j_R_one_80 F G P A3 (nI (dp st)) else j_R_one_80 F G P A3 (nI (dp st))) = j_R_one_80 F G P A3 (nI (dp st)) := by
          by_cases z1 : (if sg t3 60 = true then (1 : Int32) else 0) = 0
          · rw [if_pos z1]
            by_cases z2 : (if sg t3 62 = true then (1 : Int32) else 0) = 0
            · rw [if_pos z2, if_neg (fun q => (is0 _).mp q (by
                rcases hc with hc | hc | hc
                · exact absurd (by rw [← hc]; exact hw.1) ((is0 _).mp z1)
                · exact absurd (by rw [← hc]; exact hw.1) ((is0 _).mp z2)
                · rw [← hc]; exact hw.1))]
            · rw [if_neg z2]
          · rw [if_neg z1]
        rw [hpick, j80]
        have key : ∀ g f, mU F G (g + c) (f + (e6 + 1 + e)) B = mU F G F (f + e6) B5 := by
          intro g f
          rw [show f + (e6 + 1 + e) = (f + e6 + 1) + e by omega, r1, s2]
        rcases x3 with ⟨B7, t7, p7, pend7, u7, y1, y2, y3, y4, y5, y6, y7⟩ | ⟨y0, B7, y1, y2, y3⟩
        · have e3 : A6.2.2.2 = d := by rw [y2.dr]; exact hdr
          obtain ⟨A8, w1, w2, w3⟩ := F_put (F := F) (G := G) hd y2 y3
          rw [e3, gd_t hd, w1, bd_some]
          have eapp : (pend7 ++ [sgn t3]) ++ st = pend7 ++ sgn t3 :: st := by simp
          refine ⟨A8, rfl, c, e6 + 1 + e, q2, Or.inl ⟨B7, t7, p7, pend7 ++ [sgn t3], u7, fun g f => ?_, w2, w3, fun x hx => ?_, ?_, by omega, by omega⟩⟩
          · rw [key, ← y1 g' f, ← hg']
          · rcases List.mem_append.mp hx with hx | hx
            · exact ⟨(y4 x hx).1, by have := (y4 x hx).2; omega⟩
            · rw [List.mem_singleton] at hx
              rw [hx]; exact ⟨fun q => bin_no hb (Or.inl q), by omega⟩
          · rw [eapp]
            by_cases z0 : sgn t7 = 0
            · exact Or.inl z0
            · have zb := bin_tg (sgn_bin z0).1
              rcases y5 with z | z | ⟨z, z', -⟩
              · exact Or.inl z
              · by_cases z4 : tg (sgn t7) = 4
                · exact Or.inr (Or.inr ⟨z4, by omega, by rw [hr_skip _ _ y4]; exact hr_rel hrel.2 (fun q => bin_no hb (Or.inl q))⟩)
                · exact Or.inr (Or.inl (by omega))
              · omega
        · have e3 : A6.2.2.2 = d := by rw [y2.dr]; exact hdr
          obtain ⟨A8, w1, w2, w3⟩ := R_putB (F := F) (G := G) hd y3 (cO (sgn t3))
          rw [e3, gd_t hd, w1, bd_some]
          refine ⟨A8, rfl, c, e6 + 1 + e, q2, Or.inr ⟨by omega, B7, fun g f => ?_, y2.agC hd w2, w3⟩⟩
          rw [key, ← y1 g' f, ← hg']
      · have n60 : ¬ sg t3 60 = true := fun q => hrel (by rw [sgn_sg rfl q]; decide)
        have n62 : ¬ sg t3 62 = true := fun q => hrel (by rw [sgn_sg rfl q]; decide)
        have n61 : ¬ sg t3 61 = true := fun q => hrel (by rw [sgn_sg rfl q]; decide)
        rw [if_pos ((is0 _).mpr n60), if_pos ((is0 _).mpr n62), if_pos ((is0 _).mpr n61)]
        refine ⟨A3, rfl, c, e, q2, Or.inl ⟨B3, t3, p3, pend3, u3, r1, r2, r3, fun x hx => ⟨(r4 x hx).1, by have := (r4 x hx).2; omega⟩, ?_, r6, r7⟩⟩
        by_cases z0 : sgn t3 = 0
        · exact Or.inl z0
        · have zb := bin_tg (sgn_bin z0).1
          rcases r5 with z | z | ⟨z, z', -⟩
          · exact Or.inl z
          · have : tg (sgn t3) ≠ 4 := fun q => hrel ⟨z0, q⟩
            exact Or.inr (Or.inl (by omega))
          · omega
    · rw [R_isSignF r2.fc, R_isSignF r2.fc, R_isSignF r2.fc, bd_some, if_pos rfl, bd_some, if_pos rfl, bd_some, if_pos rfl]
      exact ⟨A3, rfl, c, e, q2, Or.inr ⟨r0, B3, r1, r2, r3⟩⟩
end FL
