/-! THE FORMULA: units; the whole of it -/
section FU
variable {F G d : Nat} {A1 B1 A B : St} {b : Nat → Nat} {n : Nat} {t : Tk} {p : Nat} {st pend : List Nat} {u md : Nat} {P : Nat → Int32 → St → Option St} {z : Int32}
theorem R_unitJ (h0 : A.1 1 0 = 0) (h : TkC A t) (hk : TkOk t) : fR_unit F G P z A = j_R_unit_55 F G P A z (if sg t 40 = true then 1 else 0) (if ft t = true then 1 else 0) := by
  have i40 : fR_isSign F G A 40 = some (if sg t 40 = true then 1 else 0) := R_isSign (c := 40) (by decide) h0 h hk
  unfold fR_unit j_R_unit_54
  rw [if_pos h0, i40, bd_some, h.1]
  by_cases c : kindC t = 1
  · obtain ⟨c1, c2⟩ := kind_w.mp c
    rw [if_pos c, (h.2.1 c1).2, wv, if_pos c2]
    by_cases e1 : kwi t.2.2 < 15
    · rw [if_pos (show nI (kwi t.2.2) < (15 : Int32) from nI_lt (b := 15) e1 (by decide)), if_neg (show ¬ ft t = true from fun q => by simp [ft] at q; omega)]
    · rw [if_neg (show ¬ nI (kwi t.2.2) < (15 : Int32) from fun q => e1 ((nI_ltI (by omega) (by decide)).mp q)), if_neg (show ¬ (20 : Int32) < nI (kwi t.2.2) from fun q => by have := (nI_ltI (a := 20) (by decide) (by omega)).mp q; omega), if_pos (show ft t = true by simp [ft, c1]; omega)]
  · rw [if_neg c, if_neg (show ¬ ft t = true from fun q => c (kind_w.mpr (by simp [ft] at q; omega)))]
theorem R_unitBad (hd : isSc d = true) (hdr : A.2.2.2 = d) (hu : A.1 (d + 9) 0 = nI u) (hu30 : u ≤ 30) {w : Nat} (hw : w ≤ 7) (h0 : A.1 1 0 = 0) (h : TkC A t) (hk : TkOk t) (hbad : u = 30 ∨ (sg t 40 = true ∧ w = 7) ∨ (¬ sg t 40 = true ∧ ¬ ft t = true ∧ t.1 ≠ 2)) : fR_unit F G P (nI w) A = bd (fR_refuse F G A 2) fun S => some S := by
  rw [R_unitJ h0 h hk]
  unfold j_R_unit_55 j_R_unit_85 j_R_unit_81 j_R_unit_86
  rw [hdr, gd_t hd, hu]
  by_cases c : u = 30
  · rw [if_pos (show (30 : Int32) ≤ nI u by rw [c]; decide), if_pos rfl]
  · rw [if_neg (show ¬ (30 : Int32) ≤ nI u from fun q => by have := (nI_leI (a := 30) (by decide) (by omega)).mp q; omega)]
    rcases hbad with q | ⟨q1, q2⟩ | ⟨q1, q2, q3⟩
    · exact absurd q c
    · rw [if_pos q1, if_neg (by decide), if_pos (show (7 : Int32) ≤ nI w by rw [q2]; decide), if_pos rfl]
    · rw [if_neg q1, if_neg q2, if_pos rfl, if_neg (by decide), if_pos rfl, if_pos rfl, h.1, if_neg (fun z => q3 ((kind_o hk).2.1.mp z))]
theorem R_unitGo (hd : isSc d = true) (hdr : A.2.2.2 = d) (hu : A.1 (d + 9) 0 = nI u) (hu30 : u < 30) {w : Nat} (hw : w ≤ 7) (h0 : A.1 1 0 = 0) (h : TkC A t) (hk : TkOk t) (hgo : (sg t 40 = true ∧ w < 7) ∨ (¬ sg t 40 = true ∧ (ft t = true ∨ t.1 = 2))) : fR_unit F G P (nI w) A = j_R_unit_118 F G P A (nI w) (if sg t 40 = true then 1 else 0) (if ft t = true then 1 else 0) := by
  rw [R_unitJ h0 h hk]
  unfold j_R_unit_55 j_R_unit_85 j_R_unit_81 j_R_unit_86
  rw [hdr, gd_t hd, hu, if_neg (show ¬ (30 : Int32) ≤ nI u from fun q => by have := (nI_leI (a := 30) (by decide) (by omega)).mp q; omega)]
  rcases hgo with ⟨q1, q2⟩ | ⟨q1, q2⟩
  · rw [if_pos q1, if_neg (by decide), if_neg (show ¬ (7 : Int32) ≤ nI w from fun q => by have := (nI_leI (a := 7) (by decide) (by omega)).mp q; omega), if_neg (by decide), if_neg (by decide)]
  · rw [if_neg q1, if_pos rfl, if_neg (by decide), if_pos rfl]
    rcases q2 with q2 | q2
    · rw [if_pos q2, if_neg (by decide)]
    · by_cases q3 : ft t = true
      · rw [if_pos q3, if_neg (by decide)]
      · rw [if_neg q3, if_pos rfl, h.1, if_pos ((kind_o hk).2.1.mpr q2)]
/-- the reference at no not and no bracket: it looks for a unit -/
theorem U_look (h : OkF d b n A1 B1 A B t p) (fs : FS d A B st [] u 0) (hn : ¬ (wd t 14 = true ∧ topT st < 4)) (h40 : ¬ sg t 40 = true) (g f : Nat) : mU F G (g + 2) f B = bd (j_M_unit_101 F G B) (fun S => mL F G f S) := by
  have hk := h.1.2.2.2.2.1
  have i40 : ¬ B.1 78 6 = 40 := fun q => h40 (by
    rw [h.1.2.2.2.1.1] at q
    obtain ⟨z1, z2⟩ := ((sort_o hk).2.2.2.2 40 (by decide) rfl).mp q
    simp [sg, z1, z2])
  rw [show g + 2 = g + 1 + 1 by omega, U_s]
  have e : b_M_unit_2 F G (fun S27 => j_M_unit_101 F G S27) (fx2 (b_M_unit_2 F G (fun S27 => j_M_unit_101 F G S27)) (g + 1)) 1 B = fx2 (b_M_unit_2 F G (fun S27 => j_M_unit_101 F G S27)) (g + 1) 0 B := by
    generalize fx2 (b_M_unit_2 F G (fun S27 => j_M_unit_101 F G S27)) (g + 1) = rec
    unfold b_M_unit_2 j_M_unit_53
    rw [if_neg (by decide), if_pos h.2.2.1, M_isWord (w := 14) (K := 7237492) (by decide) h.1.2.2.2.1 hk rfl, bd_some, if_neg i40]
    by_cases c : wd t 14 = true
    · rw [if_pos c, if_neg (by decide), M_mayNot fs.2.2.2.2.2.2.1 fs.2.2.2.2.1 (by have := fs.len; omega) fs.mem, bd_some, if_neg (show ¬ topT ([] ++ st) < 4 from fun q => hn ⟨c, q⟩), if_pos rfl]
    · rw [if_neg c, if_pos rfl]
  rw [e, fx2_s]
  generalize fx2 (b_M_unit_2 F G (fun S27 => j_M_unit_101 F G S27)) g = rec
  unfold b_M_unit_2
  rw [if_pos rfl]
theorem M_countUnit (h20 : B.1 78 20 = nI u) (h22 : B.1 78 22 = nI u) : fM_countUnit F G B = some (sI (sI B 78 20 (nI (u + 1))) 78 22 (nI (u + 1))) := by
  unfold fM_countUnit
  rw [lt_eq, lt_eq, h20, nI_1]
  have e : (sI B 78 20 (nI (u + 1))).1 78 22 = nI u := h22
  rw [e, nI_1]
/-- a number or a fact -/
theorem F_opnd (hF : 100000 ≤ F) (hd : isSc d = true) (h : OkF d b n A1 B1 A B t p) (fs : FS d A B st [] u 0) (hu : u < 30) (h4 : t.1 ≠ 4) (h0 : t.1 ≠ 0) {x y v : Int32} (hx : x = 0 ∨ x = 1) (ok : okI x y) (he : encM x y = v) : ∃ m A3 A4 B3 t' p', fT_step F G (sI A (d + 9) 0 (nI (u + 1))) = some A3 ∧ fF_put F G A3 (d + 9) v = some A4 ∧ B.1 78 17 = nI m ∧ m < 320 ∧ fM_token F G (sI (sI (sI (sI (sI B 78 20 (nI (u + 1))) 78 22 (nI (u + 1))) 81 m x) 82 m y) 78 17 (nI (m + 1))) = some B3 ∧ OkF d b n A1 B1 A4 B3 t' p' ∧ FS d A4 B3 st [] (u + 1) 1 ∧ rem n t' p' < rem n t p := by
  obtain ⟨m0, hm9, hm17, hmsz⟩ := fs.mU
  obtain ⟨k1, k2, k3, k4, k5, k6, k7, k8, k9, m, m1, m2, m3, m4, m5, m6, m7, m8⟩ := id fs
  have em : m0 = m := by
    have := fs.len
    rw [if_pos rfl] at m7
    rw [m1] at hm17
    have hd7 : dp ([] ++ st) ≤ 7 := k9
    exact ((nI_eq (by omega) (by omega)).mp hm17).symm
  subst em
  rw [if_pos rfl] at m7
  simp only [List.nil_append] at k5 k6 k7 k8 k9 m6 m7 m8
  simp only [List.length_nil, Nat.add_zero] at m2
  have hl := fs.len
  simp only [List.nil_append] at hl
  have aA : Ag (gxs d) n0 A (sI A (d + 9) 0 (nI (u + 1))) := Ag.rf.sI _ (by simp [gxs])
  have aB : Ag gys n0 B (sI (sI (sI (sI (sI B 78 20 (nI (u + 1))) 78 22 (nI (u + 1))) 81 m0 x) 82 m0 y) 78 17 (nI (m0 + 1))) := ((((Ag.rf.sI _ rfl).sI _ rfl).sI _ rfl).sI _ rfl).sI _ rfl
  have ok2 := (h.agM aB).agC hd aA
  obtain ⟨A3, B3, t', p', s1, s2, s3, s4⟩ := P_step (G := G) hF ok2.x h4 h0
  have ok3 := OkF.of ok2 s3
  have xA := s3.2.2.2.2.2.1
  have xB := s3.2.2.2.2.2.2
  have c90 : A3.1 (d + 9) 0 = nI (u + 1) := by rw [xA.2.1 _ _ (lx_d hd 5 0), sI_self]
  have c91 : A3.1 (d + 9) 1 = nI m0 := by rw [xA.2.1 _ _ (lx_d hd 5 1), sI_at, if_neg (by omega)]; exact m2
  have c10 : ∀ i, A3.1 (d + 10) i = A.1 (d + 10) i := fun i => by rw [xA.2.1 _ _ (lx_d hd 6 i), sI_at, if_neg (by omega)]
  refine ⟨m0, A3, _, B3, t', p', s1, R_put hd c91 (by omega) v, m1, by omega, s2, ok3.agC hd put_ag, ?_, s4⟩
  have f81 : ∀ i, B3.1 81 i = if i = m0 then x else B.1 81 i := by
    intro i
    rw [xB.2.1 81 i rfl]
    show (sI (sI (sI B 78 20 (nI (u + 1))) 78 22 (nI (u + 1))) 81 m0 x).1 81 i = _
    rw [sI_at]
    by_cases c : i = m0
    · rw [if_pos ⟨rfl, c⟩, if_pos c]
    · rw [if_neg (fun q => c q.2), if_neg c]; rfl
  have f82 : ∀ i, B3.1 82 i = if i = m0 then y else B.1 82 i := by
    intro i
    rw [xB.2.1 82 i rfl]
    show (sI (sI (sI (sI B 78 20 (nI (u + 1))) 78 22 (nI (u + 1))) 81 m0 x) 82 m0 y).1 82 i = _
    rw [sI_at]
    by_cases c : i = m0
    · rw [if_pos ⟨rfl, c⟩, if_pos c]
    · rw [if_neg (fun q => c q.2), if_neg c]; rfl
  have g81 : ∀ i, i < m0 → B3.1 81 i = B.1 81 i := fun i hi => by rw [f81, if_neg (by omega)]
  have g82 : ∀ i, i < m0 → B3.1 82 i = B.1 82 i := fun i hi => by rw [f82, if_neg (by omega)]
  have x81 : B3.1 81 m0 = x := by rw [f81, if_pos rfl]
  have x82 : B3.1 82 m0 = y := by rw [f82, if_pos rfl]
  have hnb := nb_le st
  refine ⟨by omega, ?_, ?_, ?_, ?_, ?_, k7.ag _ (fun i _ => ?_), k8, k9, m0 + 1, ?_, ?_, fun i hi => ?_, trivial, m5.ext g81 g82 (by rw [x81, x82]; exact ok) (by rw [m6]; omega) (by rw [m6]; omega) (fun q => by rw [x81] at q; rcases hx with hx | hx <;> rw [hx] at q <;> cases q) (fun q => by rw [x81] at q; rcases hx with hx | hx <;> rw [hx] at q <;> cases q), ?_, ?_, ?_⟩
  · rw [sI_at, if_neg (by omega), sI_at, if_neg (by omega)]; exact c90
  · exact xB.2.1 78 20 rfl
  · exact xB.2.1 78 22 rfl
  · exact (xB.2.1 78 19 rfl).trans k5
  · exact (xB.2.1 78 23 rfl).trans k6
  · exact xB.2.1 85 i rfl
  · exact xB.2.1 78 17 rfl
  · rw [sI_self]; rfl
  · rw [sI_at, if_neg (by omega), sI_at]
    by_cases c : i = m0
    · rw [if_pos ⟨rfl, c⟩, c, x81, x82, he]
    · rw [if_neg (fun q => c q.2), c10, g81 i (by omega), g82 i (by omega)]; exact m3 i (by omega)
  · show (if B3.1 81 m0 = 0 ∨ B3.1 81 m0 = 1 then _ else _) = _
    rw [hg_cong m0 g81, x81, if_pos hx, m6]
    rfl
  · rw [if_neg (by decide)]
    show m0 + 1 + st.length ≤ _
    omega
  · show nb st + 1 ≤ u + 1
    omega
/-- a unit -/
theorem F_unit (hF : 100000 ≤ F) (hd : isSc d = true) (hdr : A1.2.2.2 = d) (h : OkF d b n A1 B1 A B t p) (fs : FS d A B st [] u 0) (hn : ¬ (wd t 14 = true ∧ topT st < 4))
    (I0 : dp st < 7 → ∀ A B t p, OkF d b n A1 B1 A B t p → FS d A B (20 :: st) [] (u + 1) 0 → ∃ A', P 0 (nI (dp st + 1)) A = some A' ∧ Out F G d b n A1 B1 1 (20 :: st) B (rem n t p) A') :
    ∃ A', fR_unit F G P (nI (dp st)) A = some A' ∧ Out F G d b n A1 B1 7 st B (rem n t p) A' := by
  have hk := h.1.2.2.2.2.1
  have hdA : A.2.2.2 = d := by rw [h.dr]; exact hdr
  obtain ⟨d23, d7, d19, d55⟩ := fs.dU
  have hu30 := fs.1
  obtain ⟨Ab, Bb, a1, a2, a3, a4⟩ := F_bad (F := F) (G := G) h
  have szb : SzC d Ab := by
    obtain ⟨A2', B2', b1, b2, b3⟩ := P_bad (F := F) (G := G) (k := 2) (by omega) (by omega) h.x
    rw [show nI 2 = (2 : Int32) from rfl, a1] at b1
    obtain rfl := Option.some.inj b1
    exact fs.szU.ag hd b3.2.2.1
  have lbad : ∀ f, mL F G (f + 1) Bb = some Bb := fun f => L_fault a3.fm.1 f
  by_cases c40 : sg t 40 = true
  · have hw := sg_no c40
    have hpos := rem_pos (n := n) (p := p) hw.2
    have h3 : t.1 = 3 ∧ t.2.1 = 40 := by simpa [sg] using c40
    have n14 : ¬ wd t 14 = true := by
      simp only [wd, Bool.and_eq_true, beq_iff_eq]; omega
    have i40 : B.1 78 6 = 40 := by
      rw [h.1.2.2.2.1.1]
      exact ((sort_o hk).2.2.2.2 40 (by decide) rfl).mpr h3
    by_cases cgo : u < 30 ∧ dp st < 7
    · rw [R_unitGo hd hdA fs.2.1 cgo.1 d7 h.2.1 h.1.2.2.1 hk (Or.inl ⟨c40, cgo.2⟩)]
      have hcu := M_countUnit (F := F) (G := G) fs.2.2.1 fs.2.2.2.1
      obtain ⟨A2, B2, t2, p2, s1, s2, s3, s4, s5⟩ := U_open (F := F) (G := G) (s := 20) (u' := u + 1) hF hd (Or.inr ⟨rfl, rfl, cgo.1⟩) h fs (by omega) hw.1 hw.2 (B2 := sI (sI B 78 20 (nI (u + 1))) 78 22 (nI (u + 1))) ((Ag.rf.sI _ rfl).sI _ rfl) rfl rfl (fun h k hh => by rw [sI_at, if_neg (fun q => hh ⟨q.1, Or.inr q.2⟩), sI_at, if_neg (fun q => hh ⟨q.1, Or.inl q.2⟩)]) (A2 := sI A (d + 9) 0 (nI (u + 1))) (Ag.rf.sI _ (by simp [gxs])) sI_self (by rw [sI_at, if_neg (by omega)]) (fun i => by rw [sI_at, if_neg (by omega)])
      obtain ⟨A3, q1, c, e, q2, q3⟩ := I0 cgo.2 A2 B2 t2 p2 s3 s4
      have key : ∀ g f, mU F G (g + 1) f B = mU F G g f B2 := by
        intro g f
        rw [U_s]
        unfold mU
        generalize fx2 (b_M_unit_2 F G (fun S27 => j_M_unit_101 F G S27)) g = rec
        unfold b_M_unit_2 j_M_unit_53 j_M_unit_83
        rw [if_neg (by decide), if_pos h.2.2.1, M_isWord (w := 14) (K := 7237492) (by decide) h.1.2.2.2.1 hk rfl, bd_some, if_neg n14, if_pos rfl, if_pos i40, M_isFull fs, bd_some, if_neg (show ¬ u = 30 by omega), if_pos rfl, d23, if_pos ((le6 d7).mpr (by omega)), hcu, bd_some, show (20 : Int32) = nI 20 from rfl, s2, bd_some]
      unfold j_R_unit_118
      rw [hdA, gd_t hd, fs.2.1, nI_1, lt_eq, lt_eq, s1, bd_some, if_pos c40, if_neg (by decide), nI_1, q1, bd_some]
      rcases q3 with ⟨B3, t3, p3, pend3, u3, r1, r2, r3, r4, r5, r6, r7⟩ | ⟨r0, B3, r1, r2, r3⟩
      · by_cases c41 : sg t3 41 = true
        · obtain ⟨A5, B5, t5, p5, x1, x2, x3, x4, x5⟩ := L_rb (G := G) hF hd r2 r3 c41 (fun x hx => (r4 x hx).1)
          have i41 : fR_isSign F G A3 41 = some (if sg t3 41 = true then 1 else 0) := R_isSign (c := 41) (by decide) r2.2.1 r2.1.2.2.1 r2.1.2.2.2.2.1
          unfold fR_takeSign
          rw [i41, bd_some, if_pos c41, if_neg (by decide), x1, bd_some, bd_some]
          refine ⟨A5, rfl, c + 1, e + 1, by omega, Or.inl ⟨B5, t5, p5, [], u3, fun g f => ?_, x3, x4, fun x hx => absurd hx (by simp), ?_, by omega, by omega⟩⟩
          · rw [show g + (c + 1) = g + c + 1 by omega, key, show f + (e + 1) = (f + 1) + e by omega, r1, x2]
          · by_cases q : sgn t5 = 0
            · exact Or.inl q
            · exact Or.inr (Or.inl (by have := tg_le (sgn t5); omega))
        · obtain ⟨A5, B5, x1, x2, x3, x4⟩ := F_bad (F := F) (G := G) r2
          have i41 : fR_isSign F G A3 41 = some (if sg t3 41 = true then 1 else 0) := R_isSign (c := 41) (by decide) r2.2.1 r2.1.2.2.1 r2.1.2.2.2.2.1
          have sz5 : SzC d A5 := by
            obtain ⟨A2', B2', b1, b2, b3⟩ := P_bad (F := F) (G := G) (k := 2) (by omega) (by omega) r2.x
            rw [show nI 2 = (2 : Int32) from rfl, x1] at b1
            obtain rfl := Option.some.inj b1
            exact r3.sz.ag hd b3.2.2.1
          unfold fR_takeSign
          rw [i41, bd_some, if_neg c41, if_pos rfl, x1, bd_some, bd_some]
          refine ⟨A5, rfl, c + 1, e + 2, by omega, Or.inr ⟨by omega, B5, fun g f => ?_, x3, sz5⟩⟩
          rw [show g + (c + 1) = g + c + 1 by omega, key, show f + (e + 2) = (f + 1 + 1) + e by omega, r1, L_end hF r2 r3 (fun q => absurd q c41) (by
            rcases r5 with q | q | ⟨q, -, q2⟩
            · exact Or.inl q
            · have := tg_le (sgn t3); omega
            · exact Or.inr ⟨q, q2⟩) f]
          unfold j_M_formula_162 j_M_formula_181
          rw [if_pos r2.2.2.1, M_hasBracket hF r3.2.2.2.2.2.2.1 r3.2.2.2.2.1 (by have := r3.len; omega) r3.mem, bd_some, show (if 20 ∈ pend3 ++ 20 :: st then (1 : Int32) else 0) = 1 from if_pos (by simp), if_neg (by decide), x2, bd_some, if_neg x3.fm.1]
      · rw [R_takeSignF r2.fc, bd_some]
        refine ⟨A3, rfl, c + 1, e, by omega, Or.inr ⟨by omega, B3, fun g f => ?_, r2, r3⟩⟩
        rw [show g + (c + 1) = g + c + 1 by omega, key, r1]
    · rw [R_unitBad hd hdA fs.2.1 hu30 d7 h.2.1 h.1.2.2.1 hk (by
        by_cases q : u = 30
        · exact Or.inl q
        · exact Or.inr (Or.inl ⟨c40, by omega⟩)), a1, bd_some]
      have o20 : Bb.1 78 20 = nI u := (a4.2.1 78 20 rfl).trans fs.2.2.1
      have o22 : Bb.1 78 22 = nI u := (a4.2.1 78 22 rfl).trans fs.2.2.2.1
      have hcu := M_countUnit (F := F) (G := G) o20 o22
      have hbb := a3.agM (B' := sI (sI Bb 78 20 (nI (u + 1))) 78 22 (nI (u + 1))) ((Ag.rf.sI _ rfl).sI _ rfl)
      have ho : (sI (sI Bb 78 20 (nI (u + 1))) 78 22 (nI (u + 1))).1 78 19 = nI st.length := (a4.2.1 78 19 rfl).trans d19
      obtain ⟨B3, x1, x2, x3⟩ := U_openB (F := F) (G := G) (s := 20) hbb ho (by omega) 0 0
      refine ⟨Ab, rfl, 2, 1, by omega, Or.inr ⟨by omega, B3, fun g f => ?_, x3, szb⟩⟩
      obtain ⟨B3', y1, y2, y3⟩ := U_openB (F := F) (G := G) (s := 20) hbb ho (by omega) g f
      rw [x1] at y1
      obtain rfl := Option.some.inj y1
      rw [show g + 2 = g + 1 + 1 by omega, U_s, ← y2]
      unfold mU
      generalize fx2 (b_M_unit_2 F G (fun S27 => j_M_unit_101 F G S27)) (g + 1) = rec
      unfold b_M_unit_2 j_M_unit_53 j_M_unit_78 j_M_unit_83
      rw [if_neg (by decide), if_pos h.2.2.1, M_isWord (w := 14) (K := 7237492) (by decide) h.1.2.2.2.1 hk rfl, bd_some, if_neg n14, if_pos rfl, if_pos i40, M_isFull fs, bd_some, a2, bd_some, hcu, bd_some, show (20 : Int32) = nI 20 from rfl, x1, bd_some]
      by_cases q : u = 30
      · rw [if_pos q, if_neg (by decide)]
      · rw [if_neg q, if_pos rfl, d23, if_neg (fun q2 => by have := (le6 d7).mp q2; omega)]
  · by_cases cop : u < 30 ∧ (ft t = true ∨ t.1 = 2)
    · have h12 : t.1 = 1 ∨ t.1 = 2 := by
        rcases cop.2 with q | q
        · simp [ft] at q; omega
        · exact Or.inr q
      have hpos := rem_pos (n := n) (p := p) (show t.1 ≠ 0 by omega)
      rw [R_unitGo hd hdA fs.2.1 cop.1 d7 h.2.1 h.1.2.2.1 hk (Or.inr ⟨c40, cop.2⟩)]
      have hcu := M_countUnit (F := F) (G := G) fs.2.2.1 fs.2.2.2.1
      unfold j_R_unit_118
      have e25 : (sI A (d + 9) 0 (nI (u + 1))).1 2 5 = A.1 2 5 := by
        rw [sI_at, if_neg (by omega)]
      rw [hdA, gd_t hd, fs.2.1, nI_1, lt_eq, lt_eq, if_neg c40, e25]
      by_cases cf : ft t = true
      · have hf : t.1 = 1 ∧ 15 ≤ kwi t.2.2 ∧ kwi t.2.2 ≤ 20 := by simp [ft] at cf; omega
        have hv : A.1 2 5 = nI (kwi t.2.2) := by
          rw [(h.1.2.2.1.2.1 hf.1).2, wv, if_pos (by omega)]
        have hfin := (by decide +kernel : ∀ k, k < 21 → 15 ≤ k → encM 1 (nI (k - 15)) = -(nI k) ∧ ((0 : Int) ≤ (nI (k - 15)).toInt ∧ (nI (k - 15)).toInt ≤ 5) ∧ ¬ nI (k - 15) < 0 ∧ (0 : Int32) ≤ nI (k - 15)) (kwi t.2.2) (by omega) hf.2.1
        obtain ⟨m, A3, A4, B3, t', p', x1, x2, x3, x4, x5, x6, x7, x8⟩ := F_opnd (F := F) (G := G) hF hd h fs cop.1 (by omega) (by omega) (x := 1) (y := nI (kwi t.2.2 - 15)) (v := -(nI (kwi t.2.2))) (Or.inr rfl) (Or.inr (Or.inl ⟨rfl, hfin.2.1⟩)) hfin.1
        have e3 : A3.2.2.2 = d := by
          obtain ⟨A3', q1, q2, -⟩ := T_step (F := F) (G := G) hF (((h.agC hd (A' := sI A (d + 9) 0 (nI (u + 1))) (Ag.rf.sI _ (by simp [gxs]))).1).1) h.1.2.2.2.2.2.1 (((h.agC hd (A' := sI A (d + 9) 0 (nI (u + 1))) (Ag.rf.sI _ (by simp [gxs]))).1).2.2.2.2.2.2.1)
          rw [x1] at q1
          obtain rfl := Option.some.inj q1
          have := congrArg Prod.snd q2.1
          exact this.trans hdA
        rw [if_pos cf, x1, bd_some, if_pos rfl, e3, gd_t hd, if_neg (by decide), hv, x2, bd_some]
        refine ⟨A4, rfl, 2, 0, by omega, Or.inl ⟨B3, t', p', [], u + 1, fun g f => ?_, x6, x7, fun x hx => absurd hx (by simp), ?_, by omega, x8⟩⟩
        · rw [U_look h fs hn c40, Nat.add_zero]
          unfold j_M_unit_101 j_M_unit_126 j_M_unit_138 j_M_unit_160
          rw [if_pos (show B.1 78 2 ≤ 0 by rw [h.2.2.1]; decide), M_asked h.1.2.2.2.1 hk, bd_some, if_pos cf, h.1.2.2.2.1.1, if_neg (fun q => by have := (sort_o hk).2.2.1.mp q; omega), if_neg hfin.2.2.1, M_isFull fs, bd_some, if_neg (show ¬ u = 30 by omega), if_pos rfl, hcu, bd_some, if_pos hfin.2.2.2, if_pos hfin.2.2.2]
          rw [M_add (m := m) (B := sI (sI B 78 20 (nI (u + 1))) 78 22 (nI (u + 1))) x3 x4, bd_some, x5, bd_some, if_pos (show B.1 78 2 ≤ 0 by rw [h.2.2.1]; decide), bd_some]
        · by_cases q : sgn t' = 0
          · exact Or.inl q
          · exact Or.inr (Or.inl (by have := tg_le (sgn t'); omega))
      · have hf : t.1 = 2 := by
          rcases cop.2 with q | q
          · exact absurd q cf
          · exact q
        have hv : A.1 2 5 = nI t.2.1 := h.1.2.2.1.2.2 (Or.inl hf)
        have hlt := hk.2.2.1 hf
        obtain ⟨m, A3, A4, B3, t', p', x1, x2, x3, x4, x5, x6, x7, x8⟩ := F_opnd (F := F) (G := G) hF hd h fs cop.1 (by omega) (by omega) (x := 0) (y := nI t.2.1) (v := nI t.2.1) (Or.inl rfl) (Or.inl ⟨rfl, nI_pos' (by omega)⟩) rfl
        have e3 : A3.2.2.2 = d := by
          obtain ⟨A3', q1, q2, -⟩ := T_step (F := F) (G := G) hF (((h.agC hd (A' := sI A (d + 9) 0 (nI (u + 1))) (Ag.rf.sI _ (by simp [gxs]))).1).1) h.1.2.2.2.2.2.1 (((h.agC hd (A' := sI A (d + 9) 0 (nI (u + 1))) (Ag.rf.sI _ (by simp [gxs]))).1).2.2.2.2.2.2.1)
          rw [x1] at q1
          obtain rfl := Option.some.inj q1
          have := congrArg Prod.snd q2.1
          exact this.trans hdA
        rw [if_neg cf, x1, bd_some, if_pos rfl, e3, gd_t hd, if_pos rfl, hv, x2, bd_some]
        refine ⟨A4, rfl, 2, 0, by omega, Or.inl ⟨B3, t', p', [], u + 1, fun g f => ?_, x6, x7, fun x hx => absurd hx (by simp), ?_, by omega, x8⟩⟩
        · rw [U_look h fs hn c40, Nat.add_zero]
          have e8 : (sI (sI B 78 20 (nI (u + 1))) 78 22 (nI (u + 1))).1 78 8 = nI t.2.1 := h.1.2.2.2.1.2.2 hf
          unfold j_M_unit_101 j_M_unit_126 j_M_unit_138 j_M_unit_160
          rw [if_pos (show B.1 78 2 ≤ 0 by rw [h.2.2.1]; decide), M_asked h.1.2.2.2.1 hk, bd_some, if_neg cf, h.1.2.2.2.1.1, if_pos ((sort_o hk).2.2.1.mpr hf), M_isFull fs, bd_some, if_neg (show ¬ u = 30 by omega), if_pos rfl, hcu, bd_some, if_neg (show ¬ (0 : Int32) ≤ -1 by decide), if_neg (show ¬ (0 : Int32) ≤ -1 by decide), e8]
          rw [M_add (m := m) (B := sI (sI B 78 20 (nI (u + 1))) 78 22 (nI (u + 1))) x3 x4, bd_some, x5, bd_some, if_pos (show B.1 78 2 ≤ 0 by rw [h.2.2.1]; decide), bd_some]
        · by_cases q : sgn t' = 0
          · exact Or.inl q
          · exact Or.inr (Or.inl (by have := tg_le (sgn t'); omega))
    · rw [R_unitBad hd hdA fs.2.1 hu30 d7 h.2.1 h.1.2.2.1 hk (by
        by_cases q : u = 30
        · exact Or.inl q
        · exact Or.inr (Or.inr ⟨c40, fun z => cop ⟨by omega, Or.inl z⟩, fun z => cop ⟨by omega, Or.inr z⟩⟩)), a1, bd_some]
      refine ⟨Ab, rfl, 2, 1, by omega, Or.inr ⟨by omega, Bb, fun g f => ?_, a3, szb⟩⟩
      rw [U_look h fs hn c40]
      have jb : j_M_unit_133 F G B (if ft t = true then nI (kwi t.2.2 - 15) else -1) = some Bb := by
        unfold j_M_unit_133 j_M_unit_138
        rw [a2, bd_some, if_neg a3.fm.2]
      unfold j_M_unit_101 j_M_unit_126
      rw [if_pos (show B.1 78 2 ≤ 0 by rw [h.2.2.1]; decide), M_asked h.1.2.2.2.1 hk, bd_some, M_isFull fs, bd_some, jb]
      by_cases q : u = 30
      · rw [show (if u = 30 then (1 : Int32) else 0) = 1 from if_pos q, if_neg (show ¬ (1 : Int32) = 0 by decide), ite_self, ite_self, bd_some, lbad]
      · have nf : ¬ ft t = true := fun z => cop ⟨by omega, Or.inl z⟩
        have n2 : ¬ t.1 = 2 := fun z => cop ⟨by omega, Or.inr z⟩
        rw [h.1.2.2.2.1.1, if_neg (fun z => n2 ((sort_o hk).2.2.1.mp z)), if_neg nf, if_pos (by decide), bd_some, lbad]
end FU
