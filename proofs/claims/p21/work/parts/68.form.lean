/-! THE FORMULA: both readers, step by step -/
def fxs (d h k : Nat) : Bool := xs h k || (h == d + 9 && Nat.ble k 1) || h == d + 10
def fys (h k : Nat) : Bool := ys h k || (h == 78 && (k == 17 || k == 19 || k == 20 || k == 22 || k == 23)) || h == 81 || h == 82 || h == 85
def gxs (d h k : Nat) : Bool := (h == d + 9 && Nat.ble k 1) || h == d + 10
def gys (h k : Nat) : Bool := (h == 78 && (k == 17 || k == 19 || k == 20 || k == 22 || k == 23)) || h == 81 || h == 82 || h == 85
def n0 (_ _ : Nat) : Bool := false
def OkF (d : Nat) (b : Nat → Nat) (n : Nat) (A1 B1 A B : St) (t : Tk) (p : Nat) : Prop := Lx b n A B t p ∧ A.1 1 0 = 0 ∧ B.1 78 2 = 0 ∧ A.1 1 1 = A1.1 1 1 ∧ B.1 78 3 = B1.1 78 3 ∧ Ag (fxs d) lxl A1 A ∧ Ag fys lyl B1 B
def BdF (d : Nat) (A1 B1 A B : St) : Prop := (∃ x, 1 ≤ x ∧ x ≤ 5 ∧ A.1 1 0 = nI x ∧ B.1 78 2 = nI x) ∧ A.1 1 1 = B.1 78 3 ∧ Ag (fxs d) lxl A1 A ∧ Ag fys lyl B1 B
def FS (d : Nat) (A B : St) (st pend : List Nat) (u md : Nat) : Prop :=
  u ≤ 30 ∧ A.1 (d + 9) 0 = nI u ∧ B.1 78 20 = nI u ∧ B.1 78 22 = nI u
  ∧ B.1 78 19 = nI (pend ++ st).length ∧ B.1 78 23 = nI (dp (pend ++ st)) ∧ WaitIs B (pend ++ st) ∧ okW (pend ++ st) ∧ dp (pend ++ st) ≤ 7
  ∧ ∃ m, B.1 78 17 = nI m ∧ A.1 (d + 9) 1 = nI (m + pend.length) ∧ (∀ i, i < m → A.1 (d + 10) i = encM (B.1 81 i) (B.1 82 i)) ∧ PendC A (d + 10) m pend ∧ WFn (B.1 81) (B.1 82) m ∧ hg (B.1 81) m = nb (pend ++ st) + md ∧ m + (pend ++ st).length ≤ 9 * u + (if md = 0 then 1 + dp (pend ++ st) else 0) ∧ nb (pend ++ st) + md ≤ u
theorem FS.cong {d : Nat} {A B A' B' : St} {st pend : List Nat} {u md : Nat} (h : FS d A B st pend u md) (h9 : ∀ k, k ≤ 1 → A'.1 (d + 9) k = A.1 (d + 9) k) (h10 : ∀ i, A'.1 (d + 10) i = A.1 (d + 10) i) (hB : ∀ h k, gys h k = true → B'.1 h k = B.1 h k) : FS d A' B' st pend u md := by
  obtain ⟨k1, k2, k3, k4, k5, k6, k7, k8, k9, m, m1, m2, m3, m4, m5, m6, m7, m8⟩ := h
  have e81 : B'.1 81 = B.1 81 := funext fun i => hB 81 i rfl
  have e82 : B'.1 82 = B.1 82 := funext fun i => hB 82 i rfl
  refine ⟨k1, (h9 0 (by omega)).trans k2, (hB 78 20 rfl).trans k3, (hB 78 22 rfl).trans k4, (hB 78 19 rfl).trans k5, (hB 78 23 rfl).trans k6, k7.ag _ (fun i _ => hB 85 i rfl), k8, k9, m, (hB 78 17 rfl).trans m1, (h9 1 (by omega)).trans m2, fun i hi => ?_, m4.ag _ _ h10, ?_, ?_, m7, m8⟩
  · rw [h10, e81, e82]; exact m3 i hi
  · rw [e81, e82]; exact m5
  · rw [e81]; exact m6
section FR
variable {F G d : Nat} {A1 B1 A B : St} {b : Nat → Nat} {n : Nat} {t : Tk} {p : Nat} {st pend : List Nat} {u md : Nat}
theorem BdF.fc (h : BdF d A1 B1 A B) : ¬ A.1 1 0 = 0 := by
  obtain ⟨⟨x, h1, h2, h3, h4⟩, -⟩ := h
  rw [h3, show (0 : Int32) = nI 0 from rfl, nI_eq (by omega) (by omega)]
  omega
theorem BdF.fm (h : BdF d A1 B1 A B) : ¬ B.1 78 2 = 0 ∧ ¬ B.1 78 2 ≤ 0 := by
  obtain ⟨⟨x, h1, h2, h3, h4⟩, -⟩ := h
  rw [h4, show (0 : Int32) = nI 0 from rfl, nI_eq (by omega) (by omega), nI_leI (by omega) (by omega)]
  omega
theorem fxs_x {h k : Nat} (e : fxs d h k = false) : xs h k = false := by
  simp only [fxs, Bool.or_eq_false_iff] at e
  exact e.1.1
theorem fys_y {h k : Nat} (e : fys h k = false) : ys h k = false := by
  simp only [fys, Bool.or_eq_false_iff] at e
  exact e.1.1.1.1
theorem fxs_g {h k : Nat} (e : fxs d h k = false) : gxs d h k = false := by
  simp only [fxs, gxs, Bool.or_eq_false_iff] at e ⊢
  exact ⟨e.1.2, e.2⟩
theorem fys_g {h k : Nat} (e : fys h k = false) : gys h k = false := by
  simp only [fys, gys, Bool.or_eq_false_iff] at e ⊢
  exact ⟨⟨⟨e.1.1.1.2, e.1.1.2⟩, e.1.2⟩, e.2⟩
theorem sc_ne (hd : isSc d = true) : d = 4 ∨ d = 17 := isSc_or hd
theorem lx_d (hd : isSc d = true) (j k : Nat) : xs (d + 4 + j) k = false := by
  have : d = 4 ∨ d = 17 := isSc_or hd
  simp only [xs, lxs]
  have h1 : (d + 4 + j == 1) = false := by simp; omega
  have h2 : (d + 4 + j == 2) = false := by simp; omega
  rw [h1, h2]; rfl
theorem gxs_cell (hd : isSc d = true) {h k : Nat} (e : h = 1 ∨ h = 2 ∨ h = 3) : gxs d h k = false := by
  have : d = 4 ∨ d = 17 := isSc_or hd
  have h1 : (h == d + 9) = false := by simp; omega
  have h2 : (h == d + 10) = false := by simp; omega
  simp only [gxs, h1, h2]; rfl
theorem FS.lex (hd : isSc d = true) {A' B' : St} (h : FS d A B st pend u md) (a : Ag xs lxl A A') (c : Ag ys lyl B B') : FS d A' B' st pend u md := by
  refine h.cong (fun k _ => a.2.1 _ _ (lx_d hd 5 k)) (fun i => a.2.1 _ _ (lx_d hd 6 i)) (fun h k e => c.2.1 h k ?_)
  cases z : ys h k
  · rfl
  · simp only [ys, lys, Bool.or_eq_true, Bool.and_eq_true, beq_iff_eq] at z
    simp only [gys, Bool.or_eq_true, Bool.and_eq_true, beq_iff_eq] at e
    omega
theorem Lx.agC (hd : isSc d = true) {A' : St} (h : Lx b n A B t p) (a : Ag (gxs d) n0 A A') : Lx b n A' B t p := by
  obtain ⟨k1, k2, k3, k4, k5, k6, k7, k8, k9, k10⟩ := h
  have e : ∀ k, A'.1 2 k = A.1 2 k := fun k => a.2.1 2 k (gxs_cell hd (by omega))
  refine ⟨k1.ag a (gxs_cell hd (by omega)) (fun k => gxs_cell hd (by omega)), k2, ⟨(e 4).trans k3.1, fun z => ⟨(a.2.2 2 6 rfl).trans (k3.2.1 z).1, (e 5).trans (k3.2.1 z).2⟩, fun z => (e 5).trans (k3.2.2 z)⟩, k4, k5, k6, (e 2).trans k7, k8, (e 3).trans k9, k10⟩
theorem Lx.agM {B' : St} (h : Lx b n A B t p) (a : Ag gys n0 B B') : Lx b n A B' t p := by
  obtain ⟨k1, k2, k3, k4, k5, k6, k7, k8, k9, k10⟩ := h
  refine ⟨k1, k2.ag a rfl (fun k => rfl), k3, ⟨(a.2.1 78 6 rfl).trans k4.1, fun z => (a.2.2 78 9 rfl).trans (k4.2.1 z), fun z => (a.2.1 78 8 rfl).trans (k4.2.2 z)⟩, k5, k6, k7, fun z => (a.2.1 78 4 rfl).trans (k8 z), k9.trans (a.2.1 78 7 rfl).symm, k10⟩
theorem OkF.agC (hd : isSc d = true) {A' : St} (h : OkF d b n A1 B1 A B t p) (a : Ag (gxs d) n0 A A') : OkF d b n A1 B1 A' B t p := by
  obtain ⟨k1, k2, k3, k4, k5, k6, k7⟩ := h
  exact ⟨k1.agC hd a, (a.2.1 1 0 (gxs_cell hd (by omega))).trans k2, k3, (a.2.1 1 1 (gxs_cell hd (by omega))).trans k4, k5, k6.tr (a.mono (fun _ _ e => fxs_g e) (fun _ _ _ => rfl)), k7⟩
theorem OkF.agM {B' : St} (h : OkF d b n A1 B1 A B t p) (a : Ag gys n0 B B') : OkF d b n A1 B1 A B' t p := by
  obtain ⟨k1, k2, k3, k4, k5, k6, k7⟩ := h
  exact ⟨k1.agM a, k2, (a.2.1 78 2 rfl).trans k3, k4, (a.2.1 78 3 rfl).trans k5, k6, k7.tr (a.mono (fun _ _ e => fys_g e) (fun _ _ _ => rfl))⟩
theorem BdF.agC (hd : isSc d = true) {A' : St} (h : BdF d A1 B1 A B) (a : Ag (gxs d) n0 A A') : BdF d A1 B1 A' B := by
  obtain ⟨⟨x, x1, x2, x3, x4⟩, k2, k3, k4⟩ := h
  exact ⟨⟨x, x1, x2, (a.2.1 1 0 (gxs_cell hd (by omega))).trans x3, x4⟩, (a.2.1 1 1 (gxs_cell hd (by omega))).trans k2, k3.tr (a.mono (fun _ _ e => fxs_g e) (fun _ _ _ => rfl)), k4⟩
theorem BdF.agM {B' : St} (h : BdF d A1 B1 A B) (a : Ag gys n0 B B') : BdF d A1 B1 A B' := by
  obtain ⟨⟨x, x1, x2, x3, x4⟩, k2, k3, k4⟩ := h
  exact ⟨⟨x, x1, x2, x3, (a.2.1 78 2 rfl).trans x4⟩, k2.trans (a.2.1 78 3 rfl).symm, k3, k4.tr (a.mono (fun _ _ e => fys_g e) (fun _ _ _ => rfl))⟩
theorem OkF.x (h : OkF d b n A1 B1 A B t p) : OkX b n A B A B t p := ⟨h.1, h.2.1, h.2.2.1, rfl, rfl, Ag.rf, Ag.rf⟩
theorem OkF.of {A' B' : St} {t' : Tk} {p' : Nat} (h : OkF d b n A1 B1 A B t p) (k : OkX b n A B A' B' t' p') : OkF d b n A1 B1 A' B' t' p' := by
  obtain ⟨l1, l2, l3, l4, l5, l6, l7⟩ := k
  exact ⟨l1, l2, l3, l4.trans h.2.2.2.1, l5.trans h.2.2.2.2.1, h.2.2.2.2.2.1.tr (l6.mono (fun _ _ e => fxs_x e) (fun _ _ e => e)), h.2.2.2.2.2.2.tr (l7.mono (fun _ _ e => fys_y e) (fun _ _ e => e))⟩
theorem BdF.of {A' B' : St} (h : OkF d b n A1 B1 A B t p) (k : BdX A B A' B') : BdF d A1 B1 A' B' := by
  obtain ⟨l1, l2, l6, l7⟩ := k
  exact ⟨l1, l2, h.2.2.2.2.2.1.tr (l6.mono (fun _ _ e => fxs_x e) (fun _ _ e => e)), h.2.2.2.2.2.2.tr (l7.mono (fun _ _ e => fys_y e) (fun _ _ e => e))⟩
/-- both take a token within the formula -/
theorem F_step (hF : 100000 ≤ F) (hd : isSc d = true) (h : OkF d b n A1 B1 A B t p) (fs : FS d A B st pend u md) (h4 : t.1 ≠ 4) (h0 : t.1 ≠ 0) : ∃ A' B' t' p', fT_step F G A = some A' ∧ fM_token F G B = some B' ∧ OkF d b n A1 B1 A' B' t' p' ∧ FS d A' B' st pend u md ∧ rem n t' p' < rem n t p ∧ Ag xs lxl A A' := by
  obtain ⟨A', B', t', p', a1, a2, a3, a4⟩ := P_step (G := G) hF h.x h4 h0
  exact ⟨A', B', t', p', a1, a2, OkF.of h a3, fs.lex hd a3.2.2.2.2.2.1 a3.2.2.2.2.2.2, a4, a3.2.2.2.2.2.1⟩
theorem F_bad (h : OkF d b n A1 B1 A B t p) : ∃ A' B', fR_refuse F G A 2 = some A' ∧ fM_wrong F G B 2 = some B' ∧ BdF d A1 B1 A' B' ∧ Ag ys lyl B B' := by
  obtain ⟨A', B', a1, a2, a3⟩ := P_bad (F := F) (G := G) (k := 2) (by omega) (by omega) h.x
  exact ⟨A', B', a1, a2, BdF.of h a3, a3.2.2.2⟩
/-! the code grows -/
theorem hg_cong {f f' : Nat → Int32} : ∀ m, (∀ i, i < m → f' i = f i) → hg f' m = hg f m
  | 0, _ => rfl
  | m + 1, h => by
    have := hg_cong m (fun i hi => h i (by omega))
    simp only [hg, h m (by omega), this]
theorem WFn.ext {f g f' g' : Nat → Int32} {m : Nat} (h : WFn f g m) (hf : ∀ i, i < m → f' i = f i) (hg' : ∀ i, i < m → g' i = g i) (ok : okI (f' m) (g' m)) (h0 : 0 ≤ hg f m) (h63 : hg f m ≤ 30) (h2 : f' m = 2 → 1 ≤ hg f m) (h3 : f' m = 3 → 2 ≤ hg f m) : WFn f' g' (m + 1) := by
  intro s hs
  by_cases e : s = m
  · subst e
    rw [hg_cong s hf]
    exact ⟨ok, h0, h63, h2, h3⟩
  · obtain ⟨k1, k2, k3, k4, k5⟩ := h s (by omega)
    rw [hf s (by omega), hg' s (by omega), hg_cong s (fun i hi => hf i (by omega))]
    exact ⟨k1, k2, k3, k4, k5⟩
theorem M_add {m : Nat} (hm : B.1 78 17 = nI m) (h : m < 320) (x y : Int32) : fM_add F G B x y = some (sI (sI (sI B 81 m x) 82 m y) 78 17 (nI (m + 1))) := by
  unfold fM_add
  have e1 : (sI B 81 (nI m).toNatClampNeg x).1 78 17 = nI m := hm
  rw [hm, gd_t (inB_nI h (by decide)), lt_eq, e1, gd_t (inB_nI h (by decide)), lt_eq, lt_eq, nI_clamp (by omega)]
  have e2 : (sI (sI B 81 m x) 82 m y).1 78 17 = nI m := hm
  rw [e2, nI_1]
theorem FS.len (h : FS d A B st pend u md) : (pend ++ st).length ≤ 55 := by
  have := okW_len _ h.2.2.2.2.2.2.2.1
  have h7 := h.2.2.2.2.2.2.2.2.1
  have := topT_le (pend ++ st)
  omega
theorem FS.mem (h : FS d A B st pend u md) : ∀ s, s ∈ pend ++ st → s < 256 := fun s hs => op_lt (okW_mem _ h.2.2.2.2.2.2.2.1 s hs)
theorem dp_cons (s : Nat) (r : List Nat) : dp (s :: r) = dp r + (if s = 20 ∨ s = 21 then 1 else 0) := rfl
theorem nb_cons (s : Nat) (r : List Nat) : nb (s :: r) = nb r + (if isBin s = true then 1 else 0) := rfl
theorem bin_no {s : Nat} (h : isBin s = true) : ¬ (s = 20 ∨ s = 21) := by
  intro c
  rcases c with c | c <;> rw [c] at h <;> cases h
theorem isOp_bin {s : Nat} (h : isBin s = true) : isOp (nI s) = true := by
  have hs : s < 256 := op_lt (Or.inr (Or.inr h))
  exact (by decide +kernel : ∀ s, s < 256 → isBin s = true → isOp (nI s) = true) s hs h
/-- what waits and is as tight is done -/
theorem M_close1 {z f : Nat} (hz : z ≤ 6) (hst : ∀ s r, st = s :: r → s = 20 ∨ tg s < z) : ∀ (pend : List Nat) (f : Nat) (B : St), FS d A B st pend u 1 → (∀ s, s ∈ pend → s ≠ 20 ∧ z ≤ tg s) → pend.length < f → ∃ B', fx1 (b_M_close_0 F G (nI z)) f B = some B' ∧ FS d A B' st [] u 1 ∧ Ag gys n0 B B' := by
  intro pend
  induction pend with
  | nil =>
    intro f B fs hp hf
    obtain ⟨g, rfl⟩ : ∃ g, f = g + 1 := ⟨f - 1, by omega⟩
    refine ⟨B, ?_, fs, Ag.rf⟩
    rw [fx1_s]
    generalize fx1 (b_M_close_0 F G (nI z)) g = rec
    unfold b_M_close_0
    have ho : B.1 78 19 = nI st.length := fs.2.2.2.2.1
    rw [ho]
    cases st with
    | nil => rw [if_pos (by decide)]
    | cons s r =>
      have hl := fs.len
      simp only [List.nil_append, List.length_cons] at hl
      have e1 : nI (s :: r).length - 1 = nI r.length := by
        rw [show (1 : Int32) = nI 1 from rfl, nI_subN (by simp) (by simp; omega)]
        rfl
      have hw : B.1 85 r.length = nI s := fs.2.2.2.2.2.2.1.1
      have hs : s < 256 := fs.mem s (by simp)
      have tl := tg_le s
      rw [if_neg (show ¬ nI (s :: r).length ≤ (0 : Int32) from nI_ge (a := 0) (by simp) (by simp; omega)), e1, gd_t (inB_nI (by omega) (by decide)), gd_t (inB_nI (by omega) (by decide)), nI_clamp (by omega), hw, M_tight hs, bd_some]
      by_cases c : s = 20
      · rw [if_pos (show nI s = (20 : Int32) by rw [c]; rfl)]
      · rw [if_neg (show ¬ nI s = (20 : Int32) from fun q => c ((nI_eq (by omega) (by decide)).mp q))]
        rcases hst s r rfl with q | q
        · exact absurd q c
        · rw [if_pos (nI_lt q (by omega))]
  | cons s pr ih =>
    intro f B fs hp hf
    obtain ⟨g, rfl⟩ : ∃ g, f = g + 1 := ⟨f - 1, by omega⟩
    have hl := fs.len
    have hs : s < 256 := fs.mem s (by simp)
    obtain ⟨k1, k2, k3, k4, k5, k6, k7, k8, k9, m, m1, m2, m3, m4, m5, m6, m7, m8⟩ := fs
    obtain ⟨hp1, hp2⟩ := hp s (List.mem_cons_self ..)
    have tl := tg_le s
    simp only [List.cons_append, List.length_cons] at hl k5 m2 m7
    rw [if_neg (by decide)] at m7
    have hwt : B.1 85 (pr ++ st).length = nI s := k7.1
    have e1 : nI ((pr ++ st).length + 1) - 1 = nI (pr ++ st).length := by
      rw [show (1 : Int32) = nI 1 from rfl, nI_subN (by omega) (by omega)]
      rfl
    have hnb := nb_le ((s :: pr) ++ st)
    simp only [List.cons_append, List.length_cons] at hnb
    have hm : m < 320 := by omega
    have stepB : ∀ (x y : Int32) (B2 : St) (v : Nat), (B2 = sI (sI (sI (sI B 78 19 (nI (pr ++ st).length)) 81 m x) 82 m y) 78 17 (nI (m + 1)) ∧ dp (pr ++ st) = dp (s :: (pr ++ st))) ∨ (B2 = sI (sI (sI (sI (sI B 78 19 (nI (pr ++ st).length)) 81 m x) 82 m y) 78 17 (nI (m + 1))) 78 23 (nI (dp (pr ++ st))) ∧ v = v) → encM x y = cO s → okI x y → (x = 2 → 1 ≤ hg (B.1 81) m) → (x = 3 → 2 ≤ hg (B.1 81) m) → ((x = 2 ∧ nb (s :: (pr ++ st)) = nb (pr ++ st)) ∨ (x = 3 ∧ nb (s :: (pr ++ st)) = nb (pr ++ st) + 1)) → FS d A B2 st pr u 1 ∧ Ag gys n0 B B2 := by
      intro x y B2 v hB2 he hok h2 h3 hn
      have a0 : Ag gys n0 B B2 := by
        rcases hB2 with ⟨rfl, -⟩ | ⟨rfl, -⟩
        · exact (((Ag.rf.sI _ rfl).sI _ rfl).sI _ rfl).sI _ rfl
        · exact ((((Ag.rf.sI _ rfl).sI _ rfl).sI _ rfl).sI _ rfl).sI _ rfl
      have c20 : B2.1 78 20 = nI u := by rcases hB2 with ⟨rfl, -⟩ | ⟨rfl, -⟩ <;> exact k3
      have c22 : B2.1 78 22 = nI u := by rcases hB2 with ⟨rfl, -⟩ | ⟨rfl, -⟩ <;> exact k4
      have c19 : B2.1 78 19 = nI (pr ++ st).length := by rcases hB2 with ⟨rfl, -⟩ | ⟨rfl, -⟩ <;> rfl
      have c23 : B2.1 78 23 = nI (dp (pr ++ st)) := by
        rcases hB2 with ⟨rfl, e⟩ | ⟨rfl, -⟩
        · rw [e]; exact k6
        · rfl
      have c17 : B2.1 78 17 = nI (m + 1) := by rcases hB2 with ⟨rfl, -⟩ | ⟨rfl, -⟩ <;> rfl
      have c85 : ∀ i, B2.1 85 i = B.1 85 i := by rcases hB2 with ⟨rfl, -⟩ | ⟨rfl, -⟩ <;> exact fun i => rfl
      have c81 : ∀ i, B2.1 81 i = if i = m then x else B.1 81 i := by
        intro i
        have : (sI (sI B 78 19 (nI (pr ++ st).length)) 81 m x).1 81 i = if i = m then x else B.1 81 i := by
          rw [sI_at]
          by_cases c : i = m
          · rw [if_pos ⟨rfl, c⟩, if_pos c]
          · rw [if_neg (fun z => c z.2), if_neg c]; rfl
        rcases hB2 with ⟨rfl, -⟩ | ⟨rfl, -⟩ <;> exact this
      have c82 : ∀ i, B2.1 82 i = if i = m then y else B.1 82 i := by
        intro i
        have : (sI (sI (sI B 78 19 (nI (pr ++ st).length)) 81 m x) 82 m y).1 82 i = if i = m then y else B.1 82 i := by
          rw [sI_at]
          by_cases c : i = m
          · rw [if_pos ⟨rfl, c⟩, if_pos c]
          · rw [if_neg (fun z => c z.2), if_neg c]; rfl
        rcases hB2 with ⟨rfl, -⟩ | ⟨rfl, -⟩ <;> exact this
      have f81 : ∀ i, i < m → B2.1 81 i = B.1 81 i := fun i hi => by rw [c81, if_neg (by omega)]
      have f82 : ∀ i, i < m → B2.1 82 i = B.1 82 i := fun i hi => by rw [c82, if_neg (by omega)]
      have x81 : B2.1 81 m = x := by rw [c81, if_pos rfl]
      have x82 : B2.1 82 m = y := by rw [c82, if_pos rfl]
      have m8' : nb (s :: (pr ++ st)) + 1 ≤ u := m8
      have hh : hg (B.1 81) m ≤ 30 ∧ 0 ≤ hg (B.1 81) m := by
        rw [m6]
        show ((nb (s :: (pr ++ st)) : Int) + (1 : Nat)) ≤ 30 ∧ _
        omega
      refine ⟨⟨k1, k2, c20, c22, c19, c23, k7.2.ag _ (fun i _ => c85 i), k8.1, ?_, m + 1, c17, ?_, ?_, m4.2, m5.ext f81 f82 (by rw [x81, x82]; exact hok) hh.2 hh.1 (by rw [x81]; exact h2) (by rw [x81]; exact h3), ?_, ?_, ?_⟩, a0⟩
      · have : dp (pr ++ st) ≤ dp (s :: (pr ++ st)) := by rw [dp_cons]; omega
        have k9' : dp (s :: (pr ++ st)) ≤ 7 := k9
        omega
      · rw [m2]; congr 1; omega
      · intro i hi
        by_cases c : i = m
        · rw [c, x81, x82, he]; exact m4.1
        · rw [f81 i (by omega), f82 i (by omega)]; exact m3 i (by omega)
      · show (if B2.1 81 m = 0 ∨ B2.1 81 m = 1 then _ else _) = _
        rw [hg_cong m f81, x81, m6]
        show _ = ((nb (pr ++ st) : Int) + (1 : Nat))
        have m6' : ((nb ((s :: pr) ++ st) : Nat) : Int) = (nb (s :: (pr ++ st)) : Nat) := rfl
        rcases hn with ⟨rfl, e⟩ | ⟨rfl, e⟩
        · rw [if_neg (by decide), if_pos rfl, m6', e]
        · rw [if_neg (by decide), if_neg (by decide), m6', e]; omega
      · rw [if_neg (by decide)]; omega
      · show nb (pr ++ st) + 1 ≤ u
        rcases hn with ⟨-, e⟩ | ⟨-, e⟩ <;> omega
    rw [fx1_s]
    generalize hrec : fx1 (b_M_close_0 F G (nI z)) g = rec
    have ih' : ∀ B2, FS d A B2 st pr u 1 → Ag gys n0 B B2 → ∃ B', rec B2 = some B' ∧ FS d A B' st [] u 1 ∧ Ag gys n0 B B' := by
      intro B2 f2 a2
      obtain ⟨B', y1, y2, y3⟩ := ih g B2 f2 (fun x hx => hp x (List.mem_cons_of_mem _ hx)) (by simp at hf; omega)
      rw [hrec] at y1
      exact ⟨B', y1, y2, a2.tr y3⟩
    unfold b_M_close_0
    have k5' : B.1 78 19 = nI ((pr ++ st).length + 1) := k5
    rw [k5', if_neg (show ¬ nI ((pr ++ st).length + 1) ≤ (0 : Int32) from nI_ge (a := 0) (by omega) (by omega)), e1, gd_t (inB_nI (by omega) (by decide)), gd_t (inB_nI (by omega) (by decide)), nI_clamp (by omega), hwt, if_neg (show ¬ nI s = (20 : Int32) from fun q => hp1 ((nI_eq (by omega) (by decide)).mp q)), M_tight hs, bd_some, if_neg (fun q => by rw [nI_ltI (by omega) (by omega)] at q; omega), lt_eq]
    have e19 : (sI B 78 19 (nI (pr ++ st).length)).1 78 19 = nI (pr ++ st).length := sI_self
    have e85 : (sI B 78 19 (nI (pr ++ st).length)).1 85 (pr ++ st).length = nI s := hwt
    have e17 : (sI B 78 19 (nI (pr ++ st).length)).1 78 17 = nI m := m1
    rw [e19, gd_t (inB_nI (by omega) (by decide)), gd_t (inB_nI (by omega) (by decide)), nI_clamp (by omega), e85, M_add e17 hm, M_add e17 hm, bd_some, bd_some]
    have h1hg : 1 ≤ hg (B.1 81) m := by rw [m6]; omega
    by_cases c : s = 21
    · rw [if_pos (show nI s = (21 : Int32) by rw [c]; rfl), lt_eq]
      have e23 : (sI (sI (sI (sI B 78 19 (nI (pr ++ st).length)) 81 m 2) 82 m 0) 78 17 (nI (m + 1))).1 78 23 - 1 = nI (dp (pr ++ st)) := by
        show B.1 78 23 - 1 = _
        have : dp (s :: pr ++ st) = dp (pr ++ st) + 1 := by
          show dp (s :: (pr ++ st)) = _
          rw [dp_cons, if_pos (Or.inr c)]
        have k9' : dp (s :: pr ++ st) ≤ 7 := k9
        rw [k6, this, show (1 : Int32) = nI 1 from rfl, nI_subN (by omega) (by omega)]
        rfl
      rw [e23]
      obtain ⟨f2, a2⟩ := stepB 2 0 _ 0 (Or.inr ⟨rfl, rfl⟩) (by rw [c]; rfl) (Or.inr (Or.inr (Or.inl rfl))) (fun _ => h1hg) (fun q => absurd q (by decide)) (Or.inl ⟨rfl, by rw [nb_cons, if_neg (by rw [c]; decide)]; rfl⟩)
      exact ih' _ f2 a2
    · have hb : isBin s = true := by
        rcases k8.2 with q | ⟨q, -⟩ | ⟨q, -⟩
        · exact absurd q hp1
        · exact absurd q c
        · exact q
      have enb : nb (s :: (pr ++ st)) = nb (pr ++ st) + 1 := by rw [nb_cons, if_pos hb]
      rw [if_neg (show ¬ nI s = (21 : Int32) from fun q => c ((nI_eq (by omega) (by decide)).mp q))]
      obtain ⟨f2, a2⟩ := stepB 3 (nI s) _ 0 (Or.inl ⟨rfl, by rw [dp_cons, if_neg (bin_no hb)]; rfl⟩) (by
        show encO (nI s) = cO s
        rw [cO, if_neg c]) (Or.inr (Or.inr (Or.inr ⟨rfl, isOp_bin hb⟩))) (fun q => absurd q (by decide)) (fun _ => by
        rw [m6]
        show (2 : Int) ≤ (nb (s :: (pr ++ st)) : Int) + (1 : Nat)
        rw [enb]; omega) (Or.inr ⟨rfl, enb⟩)
      exact ih' _ f2 a2
end FR
