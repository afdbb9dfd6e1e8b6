/-! THE FORMULA: the class's descent against the reference's turns -/
def SzC (d : Nat) (A : St) : Prop := ∃ k, k ≤ 270 ∧ A.1 (d + 9) 1 = nI k
def nx (T : Nat) (t : Tk) (l : List Nat) : Prop := sgn t = 0 ∨ tg (sgn t) < T ∨ (tg (sgn t) = 4 ∧ T ≤ 4 ∧ hr l = true)
def OutL (F G d : Nat) (b : Nat → Nat) (n : Nat) (A1 B1 : St) (T : Nat) (st : List Nat) (B : St) (r : Nat) (A' : St) : Prop :=
  ∃ e, ((∃ B' t' p' pend u', (∀ f, mL F G (f + e) B = mL F G f B') ∧ OkF d b n A1 B1 A' B' t' p' ∧ FS d A' B' st pend u' 1 ∧ (∀ x, x ∈ pend → x ≠ 20 ∧ T ≤ tg x) ∧ nx T t' (pend ++ st) ∧ e + rem n t' p' ≤ r)
    ∨ (e ≤ r + 2 ∧ ∃ B', (∀ f, mL F G (f + e) B = some B') ∧ BdF d A1 B1 A' B' ∧ SzC d A'))
def Out (F G d : Nat) (b : Nat → Nat) (n : Nat) (A1 B1 : St) (T : Nat) (st : List Nat) (B : St) (r : Nat) (A' : St) : Prop :=
  ∃ c e, c ≤ r + 2 ∧ ((∃ B' t' p' pend u', (∀ g f, mU F G (g + c) (f + e) B = mL F G f B') ∧ OkF d b n A1 B1 A' B' t' p' ∧ FS d A' B' st pend u' 1 ∧ (∀ x, x ∈ pend → x ≠ 20 ∧ T ≤ tg x) ∧ nx T t' (pend ++ st) ∧ e + rem n t' p' ≤ r ∧ rem n t' p' < r)
    ∨ (e ≤ r + 2 ∧ ∃ B', (∀ g f, mU F G (g + c) (f + e) B = some B') ∧ BdF d A1 B1 A' B' ∧ SzC d A'))
theorem bin_tg {s : Nat} (h : isBin s = true) : tg s ≠ 3 := by
  have hs : s < 256 := op_lt (Or.inr (Or.inr h))
  exact (by decide +kernel : ∀ s, s < 256 → isBin s = true → tg s ≠ 3) s hs h
theorem hr_skip : ∀ (l st : List Nat), (∀ x, x ∈ l → x ≠ 20 ∧ 5 ≤ tg x) → hr (l ++ st) = hr st
  | [], _, _ => rfl
  | x :: l, st, h => by
    obtain ⟨h1, h2⟩ := h x (List.mem_cons_self ..)
    show (if x = 20 then false else if 4 < tg x then hr (l ++ st) else tg x == 4) = hr st
    rw [if_neg h1, if_pos (by omega)]
    exact hr_skip l st (fun y hy => h y (List.mem_cons_of_mem _ hy))
theorem hr_low {st : List Nat} (h : topT st < 4) : hr st = false := by
  cases st with
  | nil => rfl
  | cons s r =>
    have h' : (if s = 20 then 0 else tg s) < 4 := h
    show (if s = 20 then false else if 4 < tg s then hr r else tg s == 4) = false
    by_cases c : s = 20
    · rw [if_pos c]
    · rw [if_neg c] at h' ⊢
      rw [if_neg (by omega)]
      simp; omega
theorem hr_rel {s : Nat} {st : List Nat} (h : tg s = 4) (h20 : s ≠ 20) : hr (s :: st) = true := by
  show (if s = 20 then false else if 4 < tg s then hr st else tg s == 4) = true
  rw [if_neg h20, if_neg (by omega), h]; rfl
section FP
variable {F G d : Nat} {A1 B1 A B : St} {b : Nat → Nat} {n : Nat} {t : Tk} {p : Nat} {st pend : List Nat} {u md : Nat}
theorem OkF.dr (h : OkF d b n A1 B1 A B t p) : A.2.2 = A1.2.2 := h.2.2.2.2.2.1.1
theorem BdF.dr (h : BdF d A1 B1 A B) : A.2.2 = A1.2.2 := h.2.2.1.1
theorem OkF.rm (h : OkF d b n A1 B1 A B t p) : rem n t p ≤ 1600 := by
  have h1 := h.1.1.2.1
  have h2 := h.1.2.2.2.2.2.2.2.2.2
  unfold rem
  by_cases c : t.1 = 0
  · rw [if_pos c]; omega
  · rw [if_neg c]
    have := h2 c
    omega
theorem rem_pos (h0 : t.1 ≠ 0) : 1 ≤ rem n t p := by
  unfold rem
  rw [if_neg h0]; omega
theorem FS.sz (h : FS d A B st pend u 1) : SzC d A := by
  obtain ⟨k1, k2, k3, k4, k5, k6, k7, k8, k9, m, m1, m2, m3, m4, m5, m6, m7, m8⟩ := h
  rw [if_neg (by decide)] at m7
  simp only [List.length_append] at m7
  exact ⟨m + pend.length, by omega, m2⟩
theorem WFn_pos {f g : Nat → Int32} : ∀ {m : Nat}, WFn f g m → 0 < m → 1 ≤ hg f m
  | 0, _, h => absurd h (by decide)
  | m + 1, h, _ => by
    obtain ⟨k1, k2, k3, k4, k5⟩ := h m (by omega)
    show 1 ≤ (if f m = 0 ∨ f m = 1 then hg f m + 1 else if f m = 2 then hg f m else hg f m - 1)
    by_cases c : f m = 0 ∨ f m = 1
    · rw [if_pos c]; omega
    · rw [if_neg c]
      by_cases c2 : f m = 2
      · rw [if_pos c2]; exact k4 c2
      · rw [if_neg c2]
        have : f m = 3 := by
          rcases k1 with ⟨q, -⟩ | ⟨q, -⟩ | q | ⟨q, -⟩
          · exact absurd (Or.inl q) c
          · exact absurd (Or.inr q) c
          · exact absurd q c2
          · exact q
        have := k5 this
        omega
theorem okW_cnt : ∀ l, okW l → nb l + dp l = l.length
  | [], _ => rfl
  | s :: r, h => by
    have ih := okW_cnt r h.1
    rw [nb_cons, dp_cons, List.length_cons]
    rcases h.2 with e | ⟨e, -⟩ | ⟨e, -⟩
    · rw [if_pos (Or.inl e), if_neg (by rw [e]; decide)]; omega
    · rw [if_pos (Or.inr e), if_neg (by rw [e]; decide)]; omega
    · rw [if_neg (bin_no e), if_pos e]; omega
theorem FS.mU (h : FS d A B st [] u 0) : ∃ m, m ≤ 9 * u ∧ B.1 78 17 = nI m ∧ A.1 (d + 9) 1 = nI m := by
  obtain ⟨k1, k2, k3, k4, k5, k6, k7, k8, k9, m, m1, m2, m3, m4, m5, m6, m7, m8⟩ := h
  rw [if_pos rfl] at m7
  simp only [List.nil_append] at m7 k9 k8 m6
  have hc := okW_cnt _ k8
  refine ⟨m, ?_, m1, m2⟩
  by_cases c : 0 < m
  · have := WFn_pos m5 c
    omega
  · omega
theorem FS.szU (h : FS d A B st [] u 0) : SzC d A := by
  obtain ⟨m, h1, h2, h3⟩ := h.mU
  exact ⟨m, by have := h.1; omega, h3⟩
theorem SzC.ag (hd : isSc d = true) {A' : St} (h : SzC d A) (a : Ag xs lxl A A') : SzC d A' := by
  obtain ⟨k, h1, h2⟩ := h
  exact ⟨k, h1, (a.2.1 _ _ (lx_d hd 5 1)).trans h2⟩
/-- the class puts -/
theorem R_put {k : Nat} (hd : isSc d = true) (hs : A.1 (d + 9) 1 = nI k) (hk : k < 270) (v : Int32) : fF_put F G A (d + 9) v = some (sI (sI A (d + 10) k v) (d + 9) 1 (nI (k + 1))) := by
  unfold fF_put
  have e : (sI A (d + 10) k v).1 (d + 9) 1 = nI k := by rw [sI_at, if_neg (by omega)]; exact hs
  rw [gd_t (isFo_of hd), hs, show (270 : Int32) = nI 270 from rfl, if_neg (nI_ge hk (by decide)), gd_t (inB_nI hk (by decide)), nI_clamp (by omega), lt_eq, lt_eq]
  show some (sI (sI A (d + 10) k v) (d + 9) 1 ((sI A (d + 10) k v).1 (d + 9) 1 + 1)) = _
  rw [e, nI_1]
theorem put_ag {k : Nat} {v x : Int32} : Ag (gxs d) n0 A (sI (sI A (d + 10) k v) (d + 9) 1 x) := (Ag.rf.sI _ (by simp [gxs])).sI _ (by simp [gxs])
theorem R_putB (hd : isSc d = true) (h : SzC d A) (v : Int32) : ∃ A', fF_put F G A (d + 9) v = some A' ∧ Ag (gxs d) n0 A A' ∧ SzC d A' := by
  obtain ⟨k, h1, h2⟩ := h
  by_cases c : k < 270
  · exact ⟨_, R_put hd h2 c v, put_ag, k + 1, by omega, by rw [sI_self]⟩
  · unfold fF_put
    rw [gd_t (isFo_of hd), h2, show (270 : Int32) = nI 270 from rfl, if_pos (nI_le (by omega) (by omega))]
    exact ⟨A, rfl, Ag.rf, k, h1, h2⟩
/-- what waited is put by the class: it waits no more there -/
theorem F_put {s : Nat} (hd : isSc d = true) (h : OkF d b n A1 B1 A B t p) (fs : FS d A B (s :: st) pend u 1) : ∃ A', fF_put F G A (d + 9) (cO s) = some A' ∧ OkF d b n A1 B1 A' B t p ∧ FS d A' B st (pend ++ [s]) u 1 := by
  obtain ⟨k1, k2, k3, k4, k5, k6, k7, k8, k9, m, m1, m2, m3, m4, m5, m6, m7, m8⟩ := fs
  have e : (pend ++ [s]) ++ st = pend ++ s :: st := by simp
  have m7' := m7
  rw [if_neg (by decide)] at m7'
  simp only [List.length_append, List.length_cons] at m7'
  have hlt : m + pend.length < 270 := by omega
  refine ⟨_, R_put hd m2 hlt _, h.agC hd put_ag, ?_⟩
  have c10 : ∀ i, i < m + pend.length → (sI (sI A (d + 10) (m + pend.length) (cO s)) (d + 9) 1 (nI (m + pend.length + 1))).1 (d + 10) i = A.1 (d + 10) i := by
    intro i hi
    rw [sI_at, if_neg (by omega), sI_at, if_neg (by omega)]
  have x10 : (sI (sI A (d + 10) (m + pend.length) (cO s)) (d + 9) 1 (nI (m + pend.length + 1))).1 (d + 10) (m + pend.length) = cO s := by
    rw [sI_at, if_neg (by omega), sI_self]
  refine ⟨k1, ?_, k3, k4, by rw [e]; exact k5, by rw [e]; exact k6, by rw [e]; exact k7, by rw [e]; exact k8, by rw [e]; exact k9, m, m1, ?_, fun i hi => ?_, PendC.put pend m m4 c10 x10, m5, by rw [e]; exact m6, by rw [e]; exact m7, by rw [e]; exact m8⟩
  · rw [sI_at, if_neg (by omega), sI_at, if_neg (by omega)]; exact k2
  · rw [sI_self, List.length_append]; rfl
  · rw [c10 i (by omega)]; exact m3 i hi
theorem nx_or {T : Nat} {l : List Nat} (hT : T = 1 ∨ T = 2 ∨ T = 5 ∨ T = 6) (h : nx (T + 1) t l) (c : ¬ (sgn t ≠ 0 ∧ tg (sgn t) = T)) : nx T t l := by
  by_cases c0 : sgn t = 0
  · exact Or.inl c0
  · rcases h with h | h | ⟨h1, h2, h3⟩
    · exact Or.inl h
    · refine Or.inr (Or.inl ?_)
      have : tg (sgn t) ≠ T := fun z => c ⟨c0, z⟩
      omega
    · exact Or.inr (Or.inr ⟨h1, by omega, h3⟩)
/-- a level's loop over its operators -/
theorem F_loop (hF : 100000 ≤ F) (hd : isSc d = true) (hdr : A1.2.2.2 = d) {T : Nat} (hT : T = 1 ∨ T = 2 ∨ T = 5 ∨ T = 6) {bod : (Int32 → St → Option St) → Int32 → St → Option St} {P' : St → Option St} (hst : topT st < T)
    (H0 : ∀ rec i A, ¬ A.1 1 0 = 0 → bod rec (nI i) A = some A)
    (H1 : ∀ rec i A B t p, OkF d b n A1 B1 A B t p → ¬ (sgn t ≠ 0 ∧ tg (sgn t) = T) → bod rec (nI i) A = some A)
    (H2 : ∀ rec i A B t p, i < 1600 → OkF d b n A1 B1 A B t p → sgn t ≠ 0 → tg (sgn t) = T → bod rec (nI i) A = bd (fT_step F G A) fun S8 => bd (P' S8) fun S10 => gd (isSc S10.2.2.2) (bd (fF_put F G S10 (S10.2.2.2 + 9) (cO (sgn t))) fun S13 => rec (nI (i + 1)) S13))
    (HP : ∀ A B t p u s, OkF d b n A1 B1 A B t p → FS d A B (s :: st) [] u 0 → tg s = T → isBin s = true → ∃ A', P' A = some A' ∧ Out F G d b n A1 B1 (T + 1) (s :: st) B (rem n t p) A') :
    ∀ r i f A B t p pend u, rem n t p ≤ r → i + rem n t p ≤ 1600 → r < f → OkF d b n A1 B1 A B t p → FS d A B st pend u 1 → (∀ x, x ∈ pend → x ≠ 20 ∧ T ≤ tg x) → nx (T + 1) t (pend ++ st) → ∃ A', fx2 bod f (nI i) A = some A' ∧ OutL F G d b n A1 B1 T st B (rem n t p) A' := by
  intro r
  induction r with
  | zero =>
    intro i f A B t p pend u hr hi hf ok fs hp hx
    obtain ⟨g, rfl⟩ : ∃ g, f = g + 1 := ⟨f - 1, by omega⟩
    have h0 : t.1 = 0 := by
      by_cases c : t.1 = 0
      · exact c
      · have := rem_pos (n := n) (p := p) c; omega
    have hs : ¬ (sgn t ≠ 0 ∧ tg (sgn t) = T) := fun z => (sgn_go z.1).2.1 h0
    rw [fx2_s, H1 _ i A B t p ok hs]
    exact ⟨A, rfl, 0, Or.inl ⟨B, t, p, pend, u, fun f => rfl, ok, fs, hp, nx_or hT hx hs, by omega⟩⟩
  | succ r ih =>
    intro i f A B t p pend u hr hi hf ok fs hp hx
    obtain ⟨g, rfl⟩ : ∃ g, f = g + 1 := ⟨f - 1, by omega⟩
    rw [fx2_s]
    by_cases hs : sgn t ≠ 0 ∧ tg (sgn t) = T
    · obtain ⟨hb, hlt⟩ := sgn_bin hs.1
      have hpos := rem_pos (n := n) (p := p) (sgn_go hs.1).2.1
      obtain ⟨A2, B2, t2, p2, s1, s2, s3, s4, s5⟩ := L_op (G := G) hF hd ok fs hs.1 (fun z => by rw [hs.2] at z; omega) (fun x hx => by rw [hs.2]; exact hp x hx) (by rw [hs.2]; exact hst)
      obtain ⟨A3, q1, c, e, q2, q3⟩ := HP A2 B2 t2 p2 u (sgn t) s3 s4 hs.2 hb
      have hcF : ∃ g', F = g' + c := ⟨F - c, by have := s3.rm; omega⟩
      obtain ⟨g', hg'⟩ := hcF
      rw [H2 _ i A B t p (by omega) ok hs.1 hs.2, s1, bd_some, q1, bd_some]
      rcases q3 with ⟨B3, t3, p3, pend3, u3, r1, r2, r3, r4, r5, r6, r7⟩ | ⟨r0, B3, r1, r2, r3⟩
      · have e3 : A3.2.2.2 = d := by rw [r2.dr]; exact hdr
        obtain ⟨A4, w1, w2, w3⟩ := F_put (F := F) (G := G) hd r2 r3
        rw [e3, gd_t hd, w1, bd_some]
        have eapp : (pend3 ++ [sgn t]) ++ st = pend3 ++ sgn t :: st := by simp
        obtain ⟨A5, y1, e5, y2⟩ := ih (i + 1) g A4 B3 t3 p3 (pend3 ++ [sgn t]) u3 (by omega) (by omega) (by omega) w2 w3 (fun x hx => by
          rcases List.mem_append.mp hx with hx | hx
          · have := r4 x hx; exact ⟨this.1, by omega⟩
          · rw [List.mem_singleton] at hx
            rw [hx]
            exact ⟨fun z => bin_no hb (Or.inl z), by omega⟩) (by rw [eapp]; exact r5)
        have key : ∀ f, mL F G (f + (e + 1)) B = mL F G f B3 := by
          intro f
          rw [show f + (e + 1) = (f + e) + 1 by omega, s2, ← r1 g' f, ← hg']
        refine ⟨A5, y1, e5 + (e + 1), ?_⟩
        rcases y2 with ⟨B5, t5, p5, pend5, u5, z1, z2, z3, z4, z5, z6⟩ | ⟨z0, B5, z1, z2, z3⟩
        · refine Or.inl ⟨B5, t5, p5, pend5, u5, fun f => ?_, z2, z3, z4, z5, by omega⟩
          rw [← z1 f, ← key, show f + (e5 + (e + 1)) = f + e5 + (e + 1) by omega]
        · refine Or.inr ⟨by omega, B5, fun f => ?_, z2, z3⟩
          rw [← z1 f, ← key, show f + (e5 + (e + 1)) = f + e5 + (e + 1) by omega]
      · have e3 : A3.2.2.2 = d := by rw [r2.dr]; exact hdr
        obtain ⟨A4, w1, w2, w3⟩ := R_putB (F := F) (G := G) hd r3 (cO (sgn t))
        rw [e3, gd_t hd, w1, bd_some]
        have hb4 := r2.agC hd w2
        obtain ⟨g2, rfl⟩ : ∃ g2, g = g2 + 1 := ⟨g - 1, by omega⟩
        rw [fx2_s, H0 _ (i + 1) A4 hb4.fc]
        refine ⟨A4, rfl, e + 1, Or.inr ⟨by omega, B3, fun f => ?_, hb4, w3⟩⟩
        rw [show f + (e + 1) = (f + e) + 1 by omega, s2, ← r1 g' f, ← hg']
    · rw [H1 _ i A B t p ok hs]
      exact ⟨A, rfl, 0, Or.inl ⟨B, t, p, pend, u, fun f => rfl, ok, fs, hp, nx_or hT hx hs, by omega⟩⟩
/-- a level: what is below it, then its loop -/
theorem F_level (hF : 100000 ≤ F) (hd : isSc d = true) (hdr : A1.2.2.2 = d) {T : Nat} (hT : T = 1 ∨ T = 2 ∨ T = 5 ∨ T = 6) {bod : (Int32 → St → Option St) → Int32 → St → Option St} {P' : St → Option St} (hst : topT st < T)
    (H0 : ∀ rec i A, ¬ A.1 1 0 = 0 → bod rec (nI i) A = some A)
    (H1 : ∀ rec i A B t p, OkF d b n A1 B1 A B t p → ¬ (sgn t ≠ 0 ∧ tg (sgn t) = T) → bod rec (nI i) A = some A)
    (H2 : ∀ rec i A B t p, i < 1600 → OkF d b n A1 B1 A B t p → sgn t ≠ 0 → tg (sgn t) = T → bod rec (nI i) A = bd (fT_step F G A) fun S8 => bd (P' S8) fun S10 => gd (isSc S10.2.2.2) (bd (fF_put F G S10 (S10.2.2.2 + 9) (cO (sgn t))) fun S13 => rec (nI (i + 1)) S13))
    (HP : ∀ A B t p u s, OkF d b n A1 B1 A B t p → FS d A B (s :: st) [] u 0 → tg s = T → isBin s = true → ∃ A', P' A = some A' ∧ Out F G d b n A1 B1 (T + 1) (s :: st) B (rem n t p) A')
    (h1 : ∃ A', P' A = some A' ∧ Out F G d b n A1 B1 (T + 1) st B (rem n t p) A') (hr : rem n t p ≤ 1600) : ∃ A', bd (P' A) (fun S2 => fx2 bod F 0 S2) = some A' ∧ Out F G d b n A1 B1 T st B (rem n t p) A' := by
  obtain ⟨A2, q1, c, e, q2, q3⟩ := h1
  rw [q1, bd_some]
  rcases q3 with ⟨B3, t3, p3, pend3, u3, r1, r2, r3, r4, r5, r6, r7⟩ | ⟨r0, B3, r1, r2, r3⟩
  · obtain ⟨A5, y1, e5, y2⟩ := F_loop hF hd hdr hT hst H0 H1 H2 HP (rem n t3 p3) 0 F A2 B3 t3 p3 pend3 u3 (Nat.le_refl _) (by omega) (by omega) r2 r3 (fun x hx => ⟨(r4 x hx).1, by have := (r4 x hx).2; omega⟩) r5
    refine ⟨A5, y1, c, e5 + e, q2, ?_⟩
    rcases y2 with ⟨B5, t5, p5, pend5, u5, z1, z2, z3, z4, z5, z6⟩ | ⟨z0, B5, z1, z2, z3⟩
    · refine Or.inl ⟨B5, t5, p5, pend5, u5, fun g f => ?_, z2, z3, z4, z5, by omega, by omega⟩
      rw [← z1 f, ← r1 g, Nat.add_assoc]
    · refine Or.inr ⟨by omega, B5, fun g f => ?_, z2, z3⟩
      rw [← z1 f, ← r1 g, Nat.add_assoc]
  · obtain ⟨g, hg⟩ : ∃ g, F = g + 1 := ⟨F - 1, by omega⟩
    have e0 : fx2 bod F 0 A2 = some A2 := by
      rw [hg, fx2_s]
      exact H0 _ 0 A2 r2.fc
    exact ⟨A2, e0, c, e, q2, Or.inr ⟨r0, B3, r1, r2, r3⟩⟩
end FP
