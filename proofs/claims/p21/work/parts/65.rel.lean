/-! BOTH READERS: what couples them -/
def pcs (d h k : Nat) : Bool := (h == 1 && (k == 0 || k == 1 || k == 4)) || lxs h k || (h == d && Nat.ble k 6) || h == d + 2 || (Nat.ble (d + 4) h && Nat.ble h (d + 8)) || (h == d + 9 && Nat.ble k 1) || h == d + 10
def pcl (d h k : Nat) : Bool := lxl h k || h == d + 1 || h == d + 3
def pms (h k : Nat) : Bool := (h == 78 && (k == 2 || k == 3 || k == 4 || k == 6 || k == 7 || k == 8 || k == 17 || k == 19 || k == 20 || k == 22 || k == 23 || k == 24 || (Nat.ble 39 k && Nat.ble k 45) || (Nat.ble 53 k && Nat.ble k 57))) || h == 81 || h == 82 || h == 85 || (Nat.ble 88 h && Nat.ble h 93)
def pml (h k : Nat) : Bool := lyl h k || h == 80
theorem or_f {a b : Bool} (h : (a || b) = false) : a = false ∧ b = false := by simpa using h
theorem pcs_lx {d h k : Nat} (e : pcs d h k = false) : lxs h k = false := by
  simp only [pcs, Bool.or_eq_false_iff] at e
  exact e.1.1.1.1.1.2
theorem pcl_lx {d h k : Nat} (e : pcl d h k = false) : lxl h k = false := by
  simp only [pcl, Bool.or_eq_false_iff] at e
  exact e.1.1
theorem pms_ly {h k : Nat} (e : pms h k = false) : lys h k = false := by
  cases c : lys h k
  · rfl
  · simp only [lys, Bool.and_eq_true, Bool.or_eq_true, beq_iff_eq] at c
    obtain ⟨rfl, ((rfl | rfl) | rfl) | rfl⟩ := c <;> cases e
theorem pml_ly {h k : Nat} (e : pml h k = false) : lyl h k = false := by
  simp only [pml, Bool.or_eq_false_iff] at e
  exact e.1
def isOp (a : Int32) : Bool := a == 38 || a == 124 || a == 43 || a == 45 || a == 42 || a == 47 || a == 37 || a == 60 || a == 61 || a == 62
def encO (a : Int32) : Int32 := if a = 38 then -13 else if a = 124 then -12 else -a
def encM (s a : Int32) : Int32 := if s = 0 then a else if s = 1 then -(15 + a) else if s = 2 then -14 else encO a
def hg (f : Nat → Int32) : Nat → Int
  | 0 => 0
  | s + 1 => if f s = 0 ∨ f s = 1 then hg f s + 1 else if f s = 2 then hg f s else hg f s - 1
def okI (s a : Int32) : Prop := (s = 0 ∧ 0 ≤ a) ∨ (s = 1 ∧ iv a 0 5) ∨ s = 2 ∨ (s = 3 ∧ isOp a = true)
def WFn (f g : Nat → Int32) (m : Nat) : Prop := ∀ s, s < m → okI (f s) (g s) ∧ 0 ≤ hg f s ∧ hg f s ≤ 30 ∧ (f s = 2 → 1 ≤ hg f s) ∧ (f s = 3 → 2 ≤ hg f s)
/-- the formula that is told so far -/
def Fm (d : Nat) (A B : St) : Prop := (∃ u, u ≤ 30 ∧ A.1 (d + 9) 0 = nI u ∧ B.1 78 20 = nI u) ∧ ((B.1 78 24 = 0 ∧ A.1 (d + 9) 1 = 0 ∧ A.1 (d + 9) 0 = 0) ∨ (B.1 78 24 = 1 ∧ ∃ m, 1 ≤ m ∧ m ≤ 270 ∧ A.1 (d + 9) 1 = nI m ∧ B.1 78 17 = nI m ∧ (∀ i, i < m → A.1 (d + 10) i = encM (B.1 81 i) (B.1 82 i)) ∧ WFn (B.1 81) (B.1 82) m ∧ hg (B.1 81) m = 1))
def okL (L : List Nat) : Prop := (∀ c, c ∈ L → isLt c = true) ∧ L.length ≤ 8
/-- the score that is told so far: np parts by the names PN, nn notes by the names NN -/
def Dr (d np nn : Nat) (PN NN : Nat → List Nat) (A B : St) : Prop :=
  np ≤ 4 ∧ nn ≤ 10 ∧ A.1 d 5 = nI np ∧ B.1 78 40 = nI np ∧ A.1 d 6 = nI nn ∧ B.1 78 41 = nI nn
  ∧ (∃ x, 1 ≤ x ∧ x ≤ 12 ∧ A.1 d 0 = nI x ∧ B.1 78 39 = nI x ∧ ∀ i, i < nn → iv (B.1 90 i) 0 ((x : Int) - 1))
  ∧ (∃ x, x ≤ 87 ∧ A.1 d 1 = nI x ∧ B.1 78 42 = nI x) ∧ (∃ x, 1 ≤ x ∧ x ≤ 5 ∧ A.1 d 2 = nI x ∧ B.1 78 43 = nI x) ∧ (∃ x, x ≤ 87 ∧ A.1 d 3 = nI x ∧ B.1 78 44 = nI x) ∧ (∃ x, x ≤ 9 ∧ A.1 d 4 = nI x ∧ B.1 78 45 = nI x)
  ∧ (∀ i, i < np → okL (PN i) ∧ A.2.1 (d + 1) i = lN (p5 (PN i)) ∧ B.2.1 80 i = lN (p8 (PN i)) ∧ A.1 (d + 2) i = B.1 88 i ∧ iv (B.1 88 i) 0 2) ∧ (∀ i j, i < np → j < np → PN i = PN j → i = j)
  ∧ (∀ i, i < nn → okL (NN i) ∧ A.2.1 (d + 3) i = lN (p5 (NN i)) ∧ B.2.1 80 (4 + i) = lN (p8 (NN i)) ∧ A.1 (d + 4) i = B.1 89 i ∧ iv (B.1 89 i) 0 ((np : Int) - 1) ∧ A.1 (d + 5) i = B.1 90 i ∧ A.1 (d + 6) i = B.1 91 i ∧ iv (B.1 91 i) 0 87 ∧ A.1 (d + 7) i = B.1 92 i ∧ iv (B.1 92 i) 1 12 ∧ A.1 (d + 8) i = B.1 93 i ∧ iv (B.1 93 i) 1 9)
/-- which lines there were -/
def Bg (A B : St) : Prop := (A.1 1 4 = 0 ↔ B.1 78 53 = 0) ∧ (bt (A.1 1 4) 3 = false ↔ B.1 78 24 = 0) ∧ (bt (A.1 1 4) 4 = false ↔ B.1 78 54 = 0) ∧ (bt (A.1 1 4) 5 = false ↔ B.1 78 55 = 0) ∧ (bt (A.1 1 4) 6 = false ↔ B.1 78 56 = 0) ∧ (bt (A.1 1 4) 7 = false ↔ B.1 78 57 = 0)
def Lx (b : Nat → Nat) (n : Nat) (A B : St) (t : Tk) (p : Nat) : Prop := TapeC A b n ∧ TapeM B b n ∧ TkC A t ∧ TkM B t ∧ TkOk t ∧ p ≤ n ∧ A.1 2 2 = nI p ∧ (t.1 ≠ 4 → B.1 78 4 = nI p) ∧ A.1 2 3 = B.1 78 7 ∧ (t.1 ≠ 0 → 1 ≤ p)
def rem (n : Nat) (t : Tk) (p : Nat) : Nat := if t.1 = 0 then 0 else n - p + 1
section BR
variable {F G : Nat} {A B : St} {b : Nat → Nat} {n : Nat} {t : Tk} {p : Nat}
/-- both take the next token -/
theorem both_step (hF : 100000 ≤ F) (h : Lx b n A B t p) (h4 : t.1 ≠ 4) (h0 : t.1 ≠ 0) : ∃ A' B' t' p', fT_step F G A = some A' ∧ fM_token F G B = some B' ∧ Lx b n A' B' t' p' ∧ Ag lxs lxl A A' ∧ Ag lys lyl B B' ∧ rem n t' p' < rem n t p := by
  obtain ⟨k1, k2, k3, k4, k5, k6, k7, k8, k9, k10⟩ := h
  obtain ⟨A', a1, a2, a3, a4, a5⟩ := T_step (G := G) hF k1 k6 k7
  obtain ⟨B', b1, b2, b3, b4, b5⟩ := M_token (G := G) hF k2 k6 (k8 h4)
  obtain ⟨s1, s2⟩ := stp_bd (P := isBk) (b := b) k6
  obtain ⟨e1, e2, e3⟩ := tkE_bd b s2
  have k10 := k10 h0
  have hz : (tkA b n (stp isBk b n p)).1 ≠ 0 → stp isBk b n p < n := by
    intro z
    by_cases c : stp isBk b n p < n
    · exact c
    · rw [tkA, if_neg c] at z; exact absurd rfl z
  refine ⟨A', B', _, _, a1, b1, ⟨k1.ag a2 rfl (fun _ => rfl), k2.ag b2 rfl (fun _ => rfl), a5, b5, tkA_ok b s2, e2, a4, fun z => ?_, a3.trans b3.symm, fun z => ?_⟩, a2, b2, ?_⟩
  · rw [b4, if_neg z]
  · omega
  · unfold rem
    rw [if_neg h0]
    by_cases c : (tkA b n (stp isBk b n p)).1 = 0
    · rw [if_pos c]; omega
    · rw [if_neg c]
      have := hz c
      have := e3 this
      omega
/-! words -/
theorem kwf_eq {L : List Nat} {w : Nat} : ∀ r i, kwf r i L = w → w < 21 → i + r = 21 → L = kwL w := by
  intro r
  induction r with
  | zero => intro i h hw _; rw [kwf] at h; omega
  | succ r ih =>
    intro i h hw hs
    rw [kwf] at h
    by_cases c : L = kwL i
    · rw [if_pos c] at h
      rw [← h]; exact c
    · rw [if_neg c] at h
      exact ih (i + 1) h hw (by omega)
theorem kwi_iff {L : List Nat} {w : Nat} (hw : w < 21) : kwi L = w ↔ L = kwL w := by
  constructor
  · intro h; exact kwf_eq 21 0 h hw rfl
  · intro h
    rw [h]
    exact (by decide +kernel : ∀ w, w < 21 → kwi (kwL w) = w) w hw
theorem kw_p8 {L : List Nat} (hL : okL L) {w : Nat} (hw : w < 21) : lN (p8 L) = lN (p8 (kwL w)) ↔ kwi L = w := by
  rw [kwi_iff hw]
  have h1 := p8_lt hL.1
  have h2 := p8_lt (kw_ok w hw).2
  have g1 : (2 : Nat) ^ (8 * L.length) ≤ 2 ^ 64 := Nat.pow_le_pow_right (by decide) (by have := hL.2; omega)
  have g2 : (2 : Nat) ^ (8 * (kwL w).length) ≤ 2 ^ 64 := Nat.pow_le_pow_right (by decide) (by have := (kw_ok w hw).1; omega)
  exact ⟨fun h => p8_inj hL.1 (kw_ok w hw).2 (lN_inj (by omega) (by omega) h), fun h => by rw [h]⟩
theorem kind_w : kindC t = 1 ↔ t.1 = 1 ∧ kwi t.2.2 < 21 := by
  unfold kindC
  by_cases c0 : t.1 = 0
  · rw [if_pos c0]; exact ⟨fun z => absurd z (by decide), fun z => by omega⟩
  · rw [if_neg c0]
    by_cases c1 : t.1 = 1
    · rw [if_pos c1]
      by_cases c2 : kwi t.2.2 < 21
      · rw [if_pos c2]; exact ⟨fun _ => ⟨c1, c2⟩, fun _ => rfl⟩
      · rw [if_neg c2]; exact ⟨fun z => absurd z (by decide), fun z => absurd z.2 c2⟩
    · rw [if_neg c1]
      by_cases c2 : t.1 = 2
      · rw [if_pos c2]; exact ⟨fun z => absurd z (by decide), fun z => by omega⟩
      · rw [if_neg c2]
        by_cases c3 : t.1 = 3
        · rw [if_pos c3]; exact ⟨fun z => absurd z (by decide), fun z => by omega⟩
        · rw [if_neg c3]; exact ⟨fun z => absurd z (by decide), fun z => by omega⟩
theorem kind_n : kindC t = 2 ↔ t.1 = 1 ∧ ¬ kwi t.2.2 < 21 := by
  unfold kindC
  by_cases c0 : t.1 = 0
  · rw [if_pos c0]; exact ⟨fun z => absurd z (by decide), fun z => by omega⟩
  · rw [if_neg c0]
    by_cases c1 : t.1 = 1
    · rw [if_pos c1]
      by_cases c2 : kwi t.2.2 < 21
      · rw [if_pos c2]; exact ⟨fun z => absurd z (by decide), fun z => absurd c2 z.2⟩
      · rw [if_neg c2]; exact ⟨fun _ => ⟨c1, c2⟩, fun _ => rfl⟩
    · rw [if_neg c1]
      by_cases c2 : t.1 = 2
      · rw [if_pos c2]; exact ⟨fun z => absurd z (by decide), fun z => by omega⟩
      · rw [if_neg c2]
        by_cases c3 : t.1 = 3
        · rw [if_pos c3]; exact ⟨fun z => absurd z (by decide), fun z => by omega⟩
        · rw [if_neg c3]; exact ⟨fun z => absurd z (by decide), fun z => by omega⟩
theorem kind_o (hk : TkOk t) : (kindC t = 0 ↔ t.1 = 0) ∧ (kindC t = 3 ↔ t.1 = 2) ∧ (kindC t = 4 ↔ t.1 = 3) ∧ (kindC t = 5 ↔ t.1 = 4) := by
  have h4 := hk.1
  unfold kindC
  by_cases c0 : t.1 = 0
  · rw [if_pos c0, c0]; decide
  · rw [if_neg c0]
    by_cases c1 : t.1 = 1
    · rw [if_pos c1, c1]
      by_cases c2 : kwi t.2.2 < 21
      · rw [if_pos c2]; decide
      · rw [if_neg c2]; decide
    · rw [if_neg c1]
      by_cases c2 : t.1 = 2
      · rw [if_pos c2, c2]; decide
      · rw [if_neg c2]
        by_cases c3 : t.1 = 3
        · rw [if_pos c3, c3]; decide
        · rw [if_neg c3, show t.1 = 4 by omega]; decide
theorem sort_o (hk : TkOk t) : (sortM t = 0 ↔ t.1 = 0) ∧ (sortM t = 1 ↔ t.1 = 1) ∧ (sortM t = 2 ↔ t.1 = 2) ∧ (sortM t = 3 ↔ t.1 = 4) ∧ ∀ c, c < 256 → isSg c = true → (sortM t = nI c ↔ t.1 = 3 ∧ t.2.1 = c) := by
  have hsg : ∀ c, isSg c = true → 4 ≤ c ∧ c < 256 := by
    intro c h
    simp only [isSg, Bool.or_eq_true, beq_iff_eq] at h
    omega
  have n0 : (0 : Int32) = nI 0 := rfl
  have n1 : (1 : Int32) = nI 1 := rfl
  have n2 : (2 : Int32) = nI 2 := rfl
  have n3 : (3 : Int32) = nI 3 := rfl
  have h4 := hk.1
  unfold sortM
  rw [n0, n1, n2, n3]
  by_cases c0 : t.1 = 0
  · rw [if_pos c0, c0]
    refine ⟨by decide, by decide, by decide, by decide, fun c hc hs => ?_⟩
    rw [nI_eq (by omega) (by omega)]
    have := hsg c hs
    omega
  · rw [if_neg c0]
    by_cases c1 : t.1 = 1
    · rw [if_pos c1, c1]
      refine ⟨by decide, by decide, by decide, by decide, fun c hc hs => ?_⟩
      rw [nI_eq (by omega) (by omega)]
      have := hsg c hs
      omega
    · rw [if_neg c1]
      by_cases c2 : t.1 = 2
      · rw [if_pos c2, c2]
        refine ⟨by decide, by decide, by decide, by decide, fun c hc hs => ?_⟩
        rw [nI_eq (by omega) (by omega)]
        have := hsg c hs
        omega
      · rw [if_neg c2]
        by_cases c3 : t.1 = 3
        · rw [if_pos c3]
          have := hsg _ (hk.2.2.2 c3)
          refine ⟨?_, ?_, ?_, ?_, fun c hc hs => ?_⟩
          · rw [nI_eq (by omega) (by omega)]; omega
          · rw [nI_eq (by omega) (by omega)]; omega
          · rw [nI_eq (by omega) (by omega)]; omega
          · rw [nI_eq (by omega) (by omega)]; omega
          · rw [nI_eq (by omega) (by omega)]; omega
        · rw [if_neg c3, show t.1 = 4 by omega]
          refine ⟨by decide, by decide, by decide, by decide, fun c hc hs => ?_⟩
          rw [nI_eq (by omega) (by omega)]
          have := hsg c hs
          omega
/-! tests of the token, class and reference -/
def wd (t : Tk) (w : Nat) : Bool := t.1 == 1 && kwi t.2.2 == w
def sg (t : Tk) (c : Nat) : Bool := t.1 == 3 && t.2.1 == c
theorem R_isWord {w : Nat} (hw : w < 21) (h0 : A.1 1 0 = 0) (h : TkC A t) : fR_isWord F G A (nI w) = some (if wd t w = true then 1 else 0) := by
  unfold fR_isWord
  rw [if_pos h0, h.1]
  by_cases c : kindC t = 1
  · obtain ⟨c1, c2⟩ := kind_w.mp c
    rw [if_pos c, (h.2.1 c1).2, wv, if_pos c2]
    by_cases e : kwi t.2.2 = w
    · rw [if_pos (by rw [e]), if_pos (by simp [wd, c1, e])]
    · rw [if_neg (fun z => e ((nI_eq (by omega) (by omega)).mp z)), if_neg (by simp [wd, c1, e])]
  · rw [if_neg c, if_neg (fun z => c (kind_w.mpr (by simp [wd] at z; omega)))]
theorem R_isWordF {w : Int32} (h0 : ¬ A.1 1 0 = 0) : fR_isWord F G A w = some 0 := by
  unfold fR_isWord
  rw [if_neg h0]
theorem R_isSign {c : Nat} (hc : c < 256) (h0 : A.1 1 0 = 0) (h : TkC A t) (hk : TkOk t) : fR_isSign F G A (nI c) = some (if sg t c = true then 1 else 0) := by
  unfold fR_isSign
  rw [if_pos h0, h.1]
  by_cases d : kindC t = 4
  · have c1 := (kind_o hk).2.2.1.mp d
    rw [if_pos d, h.2.2 (Or.inr c1)]
    have hs := hk.2.2.2 c1
    have : t.2.1 < 256 := by
      simp only [isSg, Bool.or_eq_true, beq_iff_eq] at hs
      omega
    by_cases e : t.2.1 = c
    · rw [if_pos (by rw [e]), if_pos (by simp [sg, c1, e])]
    · rw [if_neg (fun z => e ((nI_eq (by omega) (by omega)).mp z)), if_neg (by simp [sg, c1, e])]
  · rw [if_neg d, if_neg (fun z => d ((kind_o hk).2.2.1.mpr (by simp [sg] at z; omega)))]
theorem R_isSignF {w : Int32} (h0 : ¬ A.1 1 0 = 0) : fR_isSign F G A w = some 0 := by
  unfold fR_isSign
  rw [if_neg h0]
theorem M_isWord {w : Nat} (hw : w < 21) (h : TkM B t) (hk : TkOk t) {K : Int64} (hK : K = lN (p8 (kwL w))) : fM_isWord F G B K = some (if wd t w = true then 1 else 0) := by
  unfold fM_isWord
  rw [h.1, hK]
  by_cases c : t.1 = 1
  · rw [if_pos ((sort_o hk).2.1.mpr c), h.2.1 c]
    by_cases e : kwi t.2.2 = w
    · rw [if_pos ((lg_cmp_eq _ _).mpr ((kw_p8 (hk.2.1 c) hw).mpr e)), if_pos (by simp [wd, c, e])]
    · rw [if_neg (fun z => e ((kw_p8 (hk.2.1 c) hw).mp ((lg_cmp_eq _ _).mp z))), if_neg (by simp [wd, c, e])]
  · rw [if_neg (fun z => c ((sort_o hk).2.1.mp z)), if_neg (by simp [wd, c])]
end BR
