/-! THE FORMULA: the reference's turns -/
def mL (F G f : Nat) (B : St) : Option St := fx2 (b_M_formula_35 F G (fun S51 => j_M_formula_162 F G S51)) f 1 B
def mU (F G g f : Nat) (B : St) : Option St := bd (fx2 (b_M_unit_2 F G (fun S27 => j_M_unit_101 F G S27)) g 1 B) (fun S => mL F G f S)
def isBS (c : Nat) : Bool := c == 60 || c == 62 || c == 61 || c == 43 || c == 45 || c == 42 || c == 47 || c == 37
def sgn (t : Tk) : Nat := if wd t 13 = true then 38 else if wd t 12 = true then 124 else if t.1 = 3 ∧ isBS t.2.1 = true then t.2.1 else 0
def ft (t : Tk) : Bool := t.1 == 1 && (Nat.ble 15 (kwi t.2.2) && Nat.ble (kwi t.2.2) 20)
theorem sgn_bin {t : Tk} (h : sgn t ≠ 0) : isBin (sgn t) = true ∧ sgn t < 256 := by
  unfold sgn at h ⊢
  by_cases c1 : wd t 13 = true
  · rw [if_pos c1]; decide
  · rw [if_neg c1] at h ⊢
    by_cases c2 : wd t 12 = true
    · rw [if_pos c2]; decide
    · rw [if_neg c2] at h ⊢
      by_cases c3 : t.1 = 3 ∧ isBS t.2.1 = true
      · rw [if_pos c3]
        obtain ⟨-, c3⟩ := c3
        simp only [isBS, Bool.or_eq_true, beq_iff_eq] at c3
        simp only [isBin, Bool.or_eq_true, beq_iff_eq]
        omega
      · rw [if_neg c3] at h; exact absurd rfl h
theorem sgn_go {t : Tk} (h : sgn t ≠ 0) : t.1 ≠ 4 ∧ t.1 ≠ 0 ∧ ¬ sg t 41 = true := by
  unfold sgn at h
  by_cases c1 : wd t 13 = true
  · simp only [wd, Bool.and_eq_true, beq_iff_eq] at c1
    refine ⟨by omega, by omega, ?_⟩
    simp only [sg, Bool.and_eq_true, beq_iff_eq]; omega
  · rw [if_neg c1] at h
    by_cases c2 : wd t 12 = true
    · simp only [wd, Bool.and_eq_true, beq_iff_eq] at c2
      refine ⟨by omega, by omega, ?_⟩
      simp only [sg, Bool.and_eq_true, beq_iff_eq]; omega
    · rw [if_neg c2] at h
      by_cases c3 : t.1 = 3 ∧ isBS t.2.1 = true
      · obtain ⟨c3, c4⟩ := c3
        simp only [isBS, Bool.or_eq_true, beq_iff_eq] at c4
        refine ⟨by omega, by omega, ?_⟩
        simp only [sg, Bool.and_eq_true, beq_iff_eq]; omega
      · rw [if_neg c3] at h; exact absurd rfl h
section FT
variable {F G d : Nat} {A1 B1 A B : St} {b : Nat → Nat} {n : Nat} {t : Tk} {p : Nat} {st pend : List Nat} {u md : Nat}
theorem M_sign (h : TkM B t) (hk : TkOk t) : fM_sign F G B = some (nI (sgn t)) := by
  unfold fM_sign sgn
  rw [M_isWord (w := 13) (K := 6385252) (by decide) h hk rfl, M_isWord (w := 12) (K := 28530) (by decide) h hk rfl, bd_some, bd_some]
  by_cases c1 : wd t 13 = true
  · rw [if_pos c1, if_pos c1, if_neg (by decide)]; rfl
  · rw [if_neg c1, if_neg c1, if_pos rfl]
    by_cases c2 : wd t 12 = true
    · rw [if_pos c2, if_pos c2, if_neg (by decide)]; rfl
    · rw [if_neg c2, if_neg c2, if_pos rfl, h.1]
      have key : ∀ c, c < 256 → (if nI c = (60 : Int32) then some (nI c) else if nI c = (62 : Int32) then some (nI c) else if nI c = (61 : Int32) then some (nI c) else if nI c = (43 : Int32) then some (nI c) else if nI c = (45 : Int32) then some (nI c) else if nI c = (42 : Int32) then some (nI c) else if nI c = (47 : Int32) then some (nI c) else if nI c = (37 : Int32) then some (nI c) else some (0 : Int32)) = some (nI (if isBS c = true then c else 0)) := by decide +kernel
      by_cases c3 : t.1 = 3
      · have e : sortM t = nI t.2.1 := by rw [sortM, if_neg (by omega), if_neg (by omega), if_neg (by omega), if_pos c3]
        have hs := hk.2.2.2 c3
        have hl : t.2.1 < 256 := by
          simp only [isSg, Bool.or_eq_true, beq_iff_eq] at hs
          omega
        rw [e, key _ hl]
        by_cases c4 : isBS t.2.1 = true
        · rw [if_pos c4, if_pos ⟨c3, c4⟩]
        · rw [if_neg c4, if_neg (fun z => c4 z.2)]
      · have e3 : ¬ (t.1 = 3 ∧ isBS t.2.1 = true) := fun z => c3 z.1
        rw [if_neg e3]
        have e : ∃ c, c < 4 ∧ sortM t = nI c := by
          unfold sortM
          by_cases e0 : t.1 = 0
          · rw [if_pos e0]; exact ⟨0, by decide, rfl⟩
          · rw [if_neg e0]
            by_cases e1 : t.1 = 1
            · rw [if_pos e1]; exact ⟨1, by decide, rfl⟩
            · rw [if_neg e1]
              by_cases e2 : t.1 = 2
              · rw [if_pos e2]; exact ⟨2, by decide, rfl⟩
              · rw [if_neg e2, if_neg c3]; exact ⟨3, by decide, rfl⟩
        obtain ⟨c, hc, e⟩ := e
        rw [e, key c (by omega)]
        have : ∀ c, c < 4 → nI (if isBS c = true then c else 0) = nI 0 := by decide
        rw [this c hc]
theorem M_asked (h : TkM B t) (hk : TkOk t) : fM_asked F G B = some (if ft t = true then nI (kwi t.2.2 - 15) else -1) := by
  unfold fM_asked
  rw [h.1]
  by_cases c : t.1 = 1
  · rw [if_pos ((sort_o hk).2.1.mpr c), h.2.1 c]
    have hL := hk.2.1 c
    simp only [lgk hL (w := 15) (K := 1919904869) (by decide) rfl, lgk hL (w := 16) (K := 7038329) (by decide) rfl, lgk hL (w := 17) (K := 1819242087) (by decide) rfl, lgk hL (w := 18) (K := 1819243876) (by decide) rfl, lgk hL (w := 19) (K := 28270047624193380) (by decide) rfl, lgk hL (w := 20) (K := 1650811252) (by decide) rfl]
    have e : ft t = (Nat.ble 15 (kwi t.2.2) && Nat.ble (kwi t.2.2) 20) := by simp [ft, c]
    rw [e]
    have := kwi_le t.2.2
    generalize kwi t.2.2 = w at *
    exact (by decide +kernel : ∀ w, w < 22 → (if w = 15 then some (0 : Int32) else if w = 16 then some (1 : Int32) else if w = 17 then some (2 : Int32) else if w = 18 then some (3 : Int32) else if w = 19 then some (4 : Int32) else if w = 20 then some (5 : Int32) else some (-1 : Int32)) = some (if (Nat.ble 15 w && Nat.ble w 20) = true then nI (w - 15) else -1)) w (by omega)
  · rw [if_neg (fun z => c ((sort_o hk).2.1.mp z)), if_neg (by simp [ft, c])]
/-- a fault ends the reference's formula -/
theorem L_fault (h1 : ¬ B.1 78 2 = 0) (f : Nat) : mL F G (f + 1) B = some B := by
  unfold mL
  rw [fx2_s]
  generalize fx2 (b_M_formula_35 F G (fun S51 => j_M_formula_162 F G S51)) f = rec
  unfold b_M_formula_35
  rw [if_neg (by decide), if_neg h1]
  show j_M_formula_162 F G B = _
  unfold j_M_formula_162 j_M_formula_181
  rw [if_neg h1, if_neg h1]
theorem M_push {s : Nat} (fs : FS d A B st [] u 1) (hb : isBin s = true) (ht : topT st < tg s) : FS d A (sI (sI B 85 st.length (nI s)) 78 19 (nI (st.length + 1))) (s :: st) [] u 0 ∧ Ag gys n0 B (sI (sI B 85 st.length (nI s)) 78 19 (nI (st.length + 1))) := by
  obtain ⟨k1, k2, k3, k4, k5, k6, k7, k8, k9, m, m1, m2, m3, m4, m5, m6, m7, m8⟩ := fs
  simp only [List.nil_append] at k5 k6 k7 k8 k9 m6 m7
  have hdp : dp (s :: st) = dp st := by rw [dp_cons, if_neg (bin_no hb)]; rfl
  refine ⟨⟨k1, k2, k3, k4, ?_, ?_, ⟨?_, ?_⟩, ⟨k8, Or.inr (Or.inr ⟨hb, ht⟩)⟩, ?_, m, m1, m2, m3, m4, m5, ?_, ?_, ?_⟩, (Ag.rf.sI _ rfl).sI _ rfl⟩
  · rfl
  · show B.1 78 23 = _
    rw [k6]; show _ = nI (dp (s :: st)); rw [hdp]
  · show (sI B 85 st.length (nI s)).1 85 st.length = _
    rw [sI_self]
  · refine k7.ag _ (fun i hi => ?_)
    show (sI B 85 st.length (nI s)).1 85 i = _
    rw [sI_at, if_neg (by omega)]
  · show dp (s :: st) ≤ 7; rw [hdp]; exact k9
  · show hg (B.1 81) m = _
    rw [m6]
    show ((nb st : Int) + (1 : Nat)) = (nb (s :: st) : Int) + (0 : Nat)
    rw [nb_cons, if_pos hb]; omega
  · rw [if_pos rfl]
    rw [if_neg (by decide)] at m7
    show m + (st.length + 1) ≤ 9 * u + (1 + dp (s :: st))
    omega
  · have m8' : nb st + 1 ≤ u := m8
    show nb (s :: st) + 0 ≤ u
    rw [nb_cons, if_pos hb]; omega
/-- an operator: what is as tight is done, it waits, a unit is next -/
theorem L_op (hF : 100000 ≤ F) (hd : isSc d = true) (h : OkF d b n A1 B1 A B t p) (fs : FS d A B st pend u 1) (h0 : sgn t ≠ 0) (h4 : tg (sgn t) = 4 → hr (pend ++ st) = false) (hp : ∀ x, x ∈ pend → x ≠ 20 ∧ tg (sgn t) ≤ tg x) (hst : topT st < tg (sgn t)) : ∃ A' B' t' p', fT_step F G A = some A' ∧ (∀ f, mL F G (f + 1) B = mU F G F f B') ∧ OkF d b n A1 B1 A' B' t' p' ∧ FS d A' B' (sgn t :: st) [] u 0 ∧ rem n t' p' < rem n t p := by
  obtain ⟨hb, hlt⟩ := sgn_bin h0
  obtain ⟨g4, g0, g41⟩ := sgn_go h0
  have hk := h.1.2.2.2.2.1
  have tl := tg_le (sgn t)
  obtain ⟨B2, c1, c2, c3⟩ := M_close1 (F := F) (G := G) (f := F) (z := tg (sgn t)) (by omega) (fun s r e => by
    by_cases q : s = 20
    · exact Or.inl q
    · right
      rw [e] at hst
      have : topT (s :: r) = tg s := if_neg q
      omega) pend F B fs hp (by have := fs.len; simp at this; omega)
  obtain ⟨p1, p2⟩ := M_push c2 hb hst
  have hl2 := c2.len
  simp only [List.nil_append] at hl2
  have ok3 := (h.agM c3).agM p2
  obtain ⟨A', B', t', p', s1, s2, s3, s4, s5, -⟩ := F_step (G := G) hF hd ok3 p1 g4 g0
  refine ⟨A', B', t', p', s1, fun f => ?_, s3, s4, s5⟩
  have ho : B2.1 78 19 = nI st.length := c2.2.2.2.2.1
  unfold mU
  unfold mL
  rw [fx2_s]
  generalize fx2 (b_M_formula_35 F G (fun S51 => j_M_formula_162 F G S51)) f = rec
  unfold b_M_formula_35
  have j118 : j_M_formula_118 F G (fun S51 => j_M_formula_162 F G S51) rec B 1 (nI (sgn t)) = bd (fx2 (b_M_unit_2 F G (fun S27 => j_M_unit_101 F G S27)) F 1 B') (fun S => rec 1 S) := by
    unfold j_M_formula_118 fM_close fM_unit
    rw [M_tight hlt, bd_some, c1, bd_some, ho, gd_t (inB_nI (by omega) (by decide)), nI_clamp (by omega), lt_eq, lt_eq]
    have e : (sI B2 85 st.length (nI (sgn t))).1 78 19 + 1 = nI (st.length + 1) := by
      show B2.1 78 19 + 1 = _
      rw [ho, nI_1]
    rw [e, s2, bd_some]
  have j99 : j_M_formula_99 F G (fun S51 => j_M_formula_162 F G S51) rec B 1 (nI (sgn t)) = bd (fx2 (b_M_unit_2 F G (fun S27 => j_M_unit_101 F G S27)) F 1 B') (fun S => rec 1 S) := by
    unfold j_M_formula_99
    rw [if_neg (show ¬ nI (sgn t) = (0 : Int32) from fun z => h0 ((nI_eq (by omega) (by decide)).mp z)), M_tight hlt, bd_some]
    by_cases e : tg (sgn t) = 4
    · rw [if_pos (show nI (tg (sgn t)) = (4 : Int32) by rw [e]; rfl), M_hasRelation hF fs.2.2.2.2.2.2.1 fs.2.2.2.2.1 (by have := fs.len; omega) fs.mem, bd_some, h4 e, if_pos (by decide)]
      exact j118
    · rw [if_neg (show ¬ nI (tg (sgn t)) = (4 : Int32) from fun z => e ((nI_eq (by omega) (by decide)).mp z))]
      exact j118
  rw [if_neg (by decide), if_pos h.2.2.1, M_sign h.1.2.2.2.1 hk, bd_some, h.1.2.2.2.1.1, if_neg (fun z => g41 (by
    obtain ⟨z1, z2⟩ := ((sort_o hk).2.2.2.2 41 (by decide) rfl).mp z
    simp [sg, z1, z2]))]
  exact j99
/-- a bracket is closed -/
theorem L_rb (hF : 100000 ≤ F) (hd : isSc d = true) (h : OkF d b n A1 B1 A B t p) (fs : FS d A B (20 :: st) pend u 1) (hs : sg t 41 = true) (hp : ∀ x, x ∈ pend → x ≠ 20) : ∃ A' B' t' p', fT_step F G A = some A' ∧ (∀ f, mL F G (f + 1) B = mL F G f B') ∧ OkF d b n A1 B1 A' B' t' p' ∧ FS d A' B' st [] u 1 ∧ rem n t' p' < rem n t p := by
  have hk := h.1.2.2.2.2.1
  obtain ⟨g4, g0⟩ := sg_no hs
  obtain ⟨B2, c1, c2, c3⟩ := M_close1 (F := F) (G := G) (f := F) (z := 0) (by omega) (fun s r e => by
    cases e; exact Or.inl rfl) pend F B fs (fun x hx => ⟨hp x hx, by omega⟩) (by have := fs.len; simp at this; omega)
  have hl2 := c2.len
  simp only [List.nil_append, List.length_cons] at hl2
  obtain ⟨k1, k2, k3, k4, k5, k6, k7, k8, k9, m, m1, m2, m3, m4, m5, m6, m7, m8⟩ := id c2
  simp only [List.nil_append, List.length_cons] at k5 k6 k7 k8 k9 m6 m7
  have hdp : dp (20 :: st) = dp st + 1 := by rw [dp_cons, if_pos (Or.inl rfl)]
  have hnb : nb (20 :: st) = nb st := by rw [nb_cons, if_neg (by decide)]; rfl
  have p2 : Ag gys n0 B2 (sI (sI B2 78 19 (nI st.length)) 78 23 (nI (dp st))) := (Ag.rf.sI _ rfl).sI _ rfl
  have p1 : FS d A (sI (sI B2 78 19 (nI st.length)) 78 23 (nI (dp st))) st [] u 1 := by
    refine ⟨k1, k2, k3, k4, rfl, rfl, k7.2.ag _ (fun i _ => rfl), k8.1, ?_, m, m1, m2, m3, m4, m5, ?_, ?_, ?_⟩
    · show dp st ≤ 7; omega
    · show hg (B2.1 81) m = _
      rw [m6, hnb]; rfl
    · rw [if_neg (by decide)] at m7 ⊢
      show m + st.length ≤ _
      omega
    · have m8' : nb (20 :: st) + 1 ≤ u := m8
      rw [hnb] at m8'; exact m8'
  have ok3 := (h.agM c3).agM p2
  obtain ⟨A', B', t', p', s1, s2, s3, s4, s5, -⟩ := F_step (G := G) hF hd ok3 p1 g4 g0
  refine ⟨A', B', t', p', s1, fun f => ?_, s3, s4, s5⟩
  have hs41 : sortM t = (41 : Int32) := ((sort_o hk).2.2.2.2 41 (by decide) rfl).mpr (by simpa [sg] using hs)
  unfold mL
  rw [fx2_s]
  generalize fx2 (b_M_formula_35 F G (fun S51 => j_M_formula_162 F G S51)) f = rec
  unfold b_M_formula_35
  rw [if_neg (by decide), if_pos h.2.2.1, M_sign h.1.2.2.2.1 hk, bd_some, h.1.2.2.2.1.1, if_pos hs41, M_hasBracket hF fs.2.2.2.2.2.2.1 fs.2.2.2.2.1 (by have := fs.len; omega) fs.mem, bd_some, show (if 20 ∈ pend ++ 20 :: st then (1 : Int32) else 0) = 1 from if_pos (by simp), if_neg (by decide)]
  have c1' : fM_close F G B 0 = some B2 := c1
  rw [c1', bd_some, lt_eq]
  have e1 : B2.1 78 19 - 1 = nI st.length := by
    rw [k5, show (1 : Int32) = nI 1 from rfl, nI_subN (by omega) (by omega)]; rfl
  rw [e1, lt_eq]
  have e2 : (sI B2 78 19 (nI st.length)).1 78 23 - 1 = nI (dp st) := by
    show B2.1 78 23 - 1 = _
    rw [k6, hdp, show (1 : Int32) = nI 1 from rfl, nI_subN (by omega) (by omega)]; rfl
  rw [e2, s2, bd_some]
/-- the formula's end -/
theorem L_end (hF : 100000 ≤ F) (h : OkF d b n A1 B1 A B t p) (fs : FS d A B st pend u 1) (hs : sg t 41 = true → ¬ 20 ∈ pend ++ st) (h0 : sgn t = 0 ∨ (tg (sgn t) = 4 ∧ hr (pend ++ st) = true)) (f : Nat) : mL F G (f + 1 + 1) B = j_M_formula_162 F G B := by
  have hk := h.1.2.2.2.2.1
  have e0 : mL F G (f + 1 + 1) B = fx2 (b_M_formula_35 F G (fun S51 => j_M_formula_162 F G S51)) (f + 1) 0 B := by
    unfold mL
    rw [fx2_s]
    generalize fx2 (b_M_formula_35 F G (fun S51 => j_M_formula_162 F G S51)) (f + 1) = rec
    unfold b_M_formula_35
    have j99 : j_M_formula_99 F G (fun S51 => j_M_formula_162 F G S51) rec B 1 (nI (sgn t)) = rec 0 B := by
      unfold j_M_formula_99
      by_cases c : sgn t = 0
      · rw [if_pos (by rw [c]; rfl)]
      · obtain ⟨hb, hlt⟩ := sgn_bin c
        rcases h0 with q | ⟨q1, q2⟩
        · exact absurd q c
        · rw [if_neg (show ¬ nI (sgn t) = (0 : Int32) from fun z => c ((nI_eq (by omega) (by decide)).mp z)), M_tight hlt, bd_some, if_pos (show nI (tg (sgn t)) = (4 : Int32) by rw [q1]; rfl), M_hasRelation hF fs.2.2.2.2.2.2.1 fs.2.2.2.2.1 (by have := fs.len; omega) fs.mem, bd_some, q2, if_neg (by decide)]
    rw [if_neg (by decide), if_pos h.2.2.1, M_sign h.1.2.2.2.1 hk, bd_some, h.1.2.2.2.1.1]
    by_cases c : sg t 41 = true
    · have hs41 : sortM t = (41 : Int32) := ((sort_o hk).2.2.2.2 41 (by decide) rfl).mpr (by simpa [sg] using c)
      rw [if_pos hs41, M_hasBracket hF fs.2.2.2.2.2.2.1 fs.2.2.2.2.1 (by have := fs.len; omega) fs.mem, bd_some, if_neg (hs c), if_pos rfl]
      exact j99
    · rw [if_neg (fun z => c (by
        obtain ⟨z1, z2⟩ := ((sort_o hk).2.2.2.2 41 (by decide) rfl).mp z
        simp [sg, z1, z2]))]
      exact j99
  rw [e0, fx2_s]
  generalize fx2 (b_M_formula_35 F G (fun S51 => j_M_formula_162 F G S51)) f = rec
  unfold b_M_formula_35
  rw [if_pos rfl]
/-- a unit's loop, a turn more -/
theorem U_s (g f : Nat) : mU F G (g + 1) f B = bd (b_M_unit_2 F G (fun S27 => j_M_unit_101 F G S27) (fx2 (b_M_unit_2 F G (fun S27 => j_M_unit_101 F G S27)) g) 1 B) (fun S => mL F G f S) := by
  unfold mU
  rw [fx2_s]
theorem M_openUp {w : Nat} {s : Nat} (ho : B.1 78 19 = nI w) (hw : w < 160) : fM_openUp F G B (nI s) = if B.1 78 2 = 0 then bd (fM_token F G (sI (sI (sI B 85 w (nI s)) 78 19 (nI (w + 1))) 78 23 (B.1 78 23 + 1))) (fun S10 => some S10) else some (sI (sI (sI B 85 w (nI s)) 78 19 (nI (w + 1))) 78 23 (B.1 78 23 + 1)) := by
  unfold fM_openUp
  rw [ho, gd_t (inB_nI hw (by decide)), nI_clamp (by omega), lt_eq, lt_eq, lt_eq]
  have e : (sI B 85 w (nI s)).1 78 19 + 1 = nI (w + 1) := by
    show B.1 78 19 + 1 = _
    rw [ho, nI_1]
  rw [e]
  rfl
theorem M_isFull (fs : FS d A B st pend u md) : fM_isFull F G B = some (if u = 30 then 1 else 0) := by
  unfold fM_isFull
  have hu := fs.1
  rw [fs.2.2.1, fs.2.2.2.1, if_neg (show ¬ nI u = (60 : Int32) from fun z => by have := (nI_eq (a := u) (b := 60) (by omega) (by decide)).mp z; omega)]
  by_cases c : u = 30
  · rw [if_pos (show nI u = (30 : Int32) by rw [c]; rfl), if_pos c]
  · rw [if_neg (show ¬ nI u = (30 : Int32) from fun z => c ((nI_eq (by omega) (by decide)).mp z)), if_neg c]
theorem FS.dU (fs : FS d A B st [] u 0) : B.1 78 23 = nI (dp st) ∧ dp st ≤ 7 ∧ B.1 78 19 = nI st.length ∧ st.length ≤ 55 := ⟨fs.2.2.2.2.2.1, fs.2.2.2.2.2.2.2.2.1, fs.2.2.2.2.1, fs.len⟩
theorem le6 {k : Nat} (hk : k ≤ 7) : (nI k ≤ (6 : Int32)) ↔ k ≤ 6 := by
  rw [show (6 : Int32) = nI 6 from rfl, nI_leI (by omega) (by decide)]
/-- the reference ends a unit at a fault -/
theorem U_fault (h1 : ¬ B.1 78 2 = 0) (h2 : ¬ B.1 78 2 ≤ 0) (g f : Nat) : mU F G (g + 1) (f + 1) B = some B := by
  rw [U_s]
  generalize fx2 (b_M_unit_2 F G (fun S27 => j_M_unit_101 F G S27)) g = rec
  unfold b_M_unit_2
  rw [if_neg (by decide), if_neg h1]
  show bd (j_M_unit_101 F G B) _ = _
  unfold j_M_unit_101
  rw [if_neg h2, bd_some, L_fault h1]
/-- something opens: a not, or a bracket -/
theorem U_open {s u' : Nat} (hF : 100000 ≤ F) (hd : isSc d = true) (hs : (s = 21 ∧ topT st < 4 ∧ u' = u) ∨ (s = 20 ∧ u' = u + 1 ∧ u < 30)) (h : OkF d b n A1 B1 A B t p) (fs : FS d A B st [] u 0) (h6 : dp st ≤ 6) (h4 : t.1 ≠ 4) (h0 : t.1 ≠ 0) {B2 : St} (aB : Ag gys n0 B B2) (e20 : B2.1 78 20 = nI u') (e22 : B2.1 78 22 = nI u') (eo : ∀ h k, ¬ (h = 78 ∧ (k = 20 ∨ k = 22)) → B2.1 h k = B.1 h k) {A2 : St} (aA : Ag (gxs d) n0 A A2) (a9 : A2.1 (d + 9) 0 = nI u') (a91 : A2.1 (d + 9) 1 = A.1 (d + 9) 1) (a10 : ∀ i, A2.1 (d + 10) i = A.1 (d + 10) i) : ∃ A' B' t' p', fT_step F G A2 = some A' ∧ fM_openUp F G B2 (nI s) = some B' ∧ OkF d b n A1 B1 A' B' t' p' ∧ FS d A' B' (s :: st) [] u' 0 ∧ rem n t' p' < rem n t p := by
  obtain ⟨k1, k2, k3, k4, k5, k6, k7, k8, k9, m, m1, m2, m3, m4, m5, m6, m7, m8⟩ := id fs
  have hl := fs.len
  simp only [List.nil_append] at k5 k6 k7 k8 k9 m6 m7 hl
  rw [if_pos trivial] at m7
  have ho : B2.1 78 19 = nI st.length := (eo 78 19 (by omega)).trans k5
  have hdp : dp (s :: st) = dp st + 1 := by
    rw [dp_cons, if_pos]
    omega
  have hnb : nb (s :: st) = nb st := by
    rw [nb_cons]
    rcases hs with ⟨rfl, -⟩ | ⟨rfl, -⟩ <;> rfl
  have e23 : B2.1 78 23 + 1 = nI (dp (s :: st)) := by rw [eo 78 23 (by omega), k6, nI_1, hdp]
  have f81 : B2.1 81 = B.1 81 := funext fun i => eo 81 i (by omega)
  have f82 : B2.1 82 = B.1 82 := funext fun i => eo 82 i (by omega)
  have a3 : Ag gys n0 B2 (sI (sI (sI B2 85 st.length (nI s)) 78 19 (nI (st.length + 1))) 78 23 (B2.1 78 23 + 1)) := ((Ag.rf.sI _ rfl).sI _ rfl).sI _ rfl
  have f3 : FS d A2 (sI (sI (sI B2 85 st.length (nI s)) 78 19 (nI (st.length + 1))) 78 23 (B2.1 78 23 + 1)) (s :: st) [] u' 0 := by
    refine ⟨by omega, a9, e20, e22, rfl, ?_, ⟨?_, ?_⟩, ⟨k8, ?_⟩, ?_, m, ?_, ?_, ?_, trivial, ?_, ?_, ?_, ?_⟩
    · rw [sI_self]; exact e23
    · show (sI B2 85 st.length (nI s)).1 85 st.length = _
      rw [sI_self]
    · refine k7.ag _ (fun i hi => ?_)
      show (sI B2 85 st.length (nI s)).1 85 i = _
      rw [sI_at, if_neg (by omega)]
      exact eo 85 i (by omega)
    · rcases hs with ⟨q1, q2, -⟩ | ⟨q1, -⟩
      · exact Or.inr (Or.inl ⟨q1, q2⟩)
      · exact Or.inl q1
    · show dp (s :: st) ≤ 7; omega
    · exact (eo 78 17 (by omega)).trans m1
    · exact a91.trans m2
    · intro i hi
      show A2.1 (d + 10) i = encM (B2.1 81 i) (B2.1 82 i)
      rw [a10, f81, f82]; exact m3 i hi
    · show WFn (B2.1 81) (B2.1 82) m
      rw [f81, f82]; exact m5
    · show hg (B2.1 81) m = (nb (s :: st) : Int) + (0 : Nat)
      rw [f81, hnb]; exact m6
    · rw [if_pos rfl]
      show m + (st.length + 1) ≤ 9 * u' + (1 + dp (s :: st))
      omega
    · have m8' : nb st + 0 ≤ u := m8
      show nb (s :: st) + 0 ≤ u'
      omega
  have ok3 := ((h.agM aB).agM a3).agC hd aA
  obtain ⟨A', B', t', p', s1, s2, s3, s4, s5, -⟩ := F_step (G := G) hF hd ok3 f3 h4 h0
  refine ⟨A', B', t', p', s1, ?_, s3, s4, s5⟩
  rw [M_openUp ho (by omega), if_pos ((eo 78 2 (by omega)).trans h.2.2.1), s2]
  rfl
/-- something can't open -/
theorem U_openB {s : Nat} (h : BdF d A1 B1 A B) {w : Nat} (ho : B.1 78 19 = nI w) (hw : w < 160) (g f : Nat) : ∃ B', fM_openUp F G B (nI s) = some B' ∧ mU F G (g + 1) (f + 1) B' = some B' ∧ BdF d A1 B1 A B' := by
  have a3 : Ag gys n0 B (sI (sI (sI B 85 w (nI s)) 78 19 (nI (w + 1))) 78 23 (B.1 78 23 + 1)) := ((Ag.rf.sI _ rfl).sI _ rfl).sI _ rfl
  rw [M_openUp ho hw, if_neg h.fm.1]
  have hb := h.agM a3
  exact ⟨_, rfl, U_fault hb.fm.1 hb.fm.2 g f, hb⟩
end FT
