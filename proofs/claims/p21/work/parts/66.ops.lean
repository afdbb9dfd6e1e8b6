/-! BOTH READERS: words, numbers, names; a fault -/
def xs (h k : Nat) : Bool := (h == 1 && (k == 0 || k == 1)) || lxs h k
def ys (h k : Nat) : Bool := (h == 78 && (k == 2 || k == 3)) || lys h k
theorem xs_lx {h k : Nat} (e : xs h k = false) : lxs h k = false := by
  simp only [xs, Bool.or_eq_false_iff] at e
  exact e.2
theorem ys_ly {h k : Nat} (e : ys h k = false) : lys h k = false := by
  simp only [ys, Bool.or_eq_false_iff] at e
  exact e.2
/-- both go on, since A1 and B1 only tokens were taken -/
def OkX (b : Nat → Nat) (n : Nat) (A1 B1 A B : St) (t : Tk) (p : Nat) : Prop := Lx b n A B t p ∧ A.1 1 0 = 0 ∧ B.1 78 2 = 0 ∧ A.1 1 1 = A1.1 1 1 ∧ B.1 78 3 = B1.1 78 3 ∧ Ag xs lxl A1 A ∧ Ag ys lyl B1 B
/-- both have the same fault -/
def BdX (A1 B1 A B : St) : Prop := (∃ x, 1 ≤ x ∧ x ≤ 5 ∧ A.1 1 0 = nI x ∧ B.1 78 2 = nI x) ∧ A.1 1 1 = B.1 78 3 ∧ Ag xs lxl A1 A ∧ Ag ys lyl B1 B
theorem BdX.fc {A1 B1 A B : St} (h : BdX A1 B1 A B) : ¬ A.1 1 0 = 0 := by
  obtain ⟨⟨x, h1, h2, h3, h4⟩, -⟩ := h
  rw [h3, show (0 : Int32) = nI 0 from rfl, nI_eq (by omega) (by omega)]
  omega
theorem BdX.fm {A1 B1 A B : St} (h : BdX A1 B1 A B) : ¬ B.1 78 2 = 0 ∧ ¬ B.1 78 2 ≤ 0 := by
  obtain ⟨⟨x, h1, h2, h3, h4⟩, -⟩ := h
  rw [h4, show (0 : Int32) = nI 0 from rfl, nI_eq (by omega) (by omega), nI_leI (by omega) (by omega)]
  omega
section PR
variable {F G : Nat} {A1 B1 A B : St} {b : Nat → Nat} {n : Nat} {t : Tk} {p : Nat}
theorem P_step (hF : 100000 ≤ F) (h : OkX b n A1 B1 A B t p) (h4 : t.1 ≠ 4) (h0 : t.1 ≠ 0) : ∃ A' B' t' p', fT_step F G A = some A' ∧ fM_token F G B = some B' ∧ OkX b n A1 B1 A' B' t' p' ∧ rem n t' p' < rem n t p := by
  obtain ⟨k1, k2, k3, k4, k5, k6, k7⟩ := h
  obtain ⟨A', B', t', p', a1, a2, a3, a4, a5, a6⟩ := both_step (G := G) hF k1 h4 h0
  exact ⟨A', B', t', p', a1, a2, ⟨a3, (a4.2.1 1 0 rfl).trans k2, (a5.2.1 78 2 rfl).trans k3, (a4.2.1 1 1 rfl).trans k4, (a5.2.1 78 3 rfl).trans k5, k6.tr (a4.mono (fun _ _ e => xs_lx e) (fun _ _ e => e)), k7.tr (a5.mono (fun _ _ e => ys_ly e) (fun _ _ e => e))⟩, a6⟩
theorem P_bad {k : Nat} (hk : 1 ≤ k) (hk5 : k ≤ 5) (h : OkX b n A1 B1 A B t p) : ∃ A' B', fR_refuse F G A (nI k) = some A' ∧ fM_wrong F G B (nI k) = some B' ∧ BdX A1 B1 A' B' := by
  obtain ⟨k1, k2, k3, k4, k5, k6, k7⟩ := h
  obtain ⟨l1, l2, l3, l4, l5, l6, l7, l8, l9, l10⟩ := k1
  unfold fR_refuse j_R_refuse_24 fM_wrong j_M_wrong_22
  rw [if_pos k2, if_pos (show B.1 78 2 ≤ 0 by rw [k3]; decide), l3.1, l4.1]
  have key : ∀ x, 1 ≤ x → x ≤ 5 → ∃ A' B', lt (sI A 1 0 (nI x)) (fun S3 => lt (sI S3 1 1 (S3.1 2 3)) fun S5 => some S5) = some A' ∧ lt (sI B 78 2 (nI x)) (fun S3 => lt (sI S3 78 3 (S3.1 78 7)) fun S5 => some S5) = some B' ∧ BdX A1 B1 A' B' := by
    intro x h1 h5
    refine ⟨_, _, rfl, rfl, ⟨x, h1, h5, ?_, ?_⟩, ?_, (k6.sI _ rfl).sI _ rfl, (k7.sI _ rfl).sI _ rfl⟩
    · rw [sI_at, if_neg (by omega), sI_self]
    · rw [sI_at, if_neg (by omega), sI_self]
    · rw [sI_self, sI_self]
      exact l9
  by_cases c : t.1 = 4
  · rw [if_pos ((kind_o l5).2.2.2.mpr c), if_pos ((sort_o l5).2.2.2.1.mpr c)]
    exact key 1 (by omega) (by omega)
  · rw [if_neg (fun z => c ((kind_o l5).2.2.2.mp z)), if_neg (fun z => c ((sort_o l5).2.2.2.1.mp z))]
    exact key k hk hk5
theorem R_refuseF {k : Int32} (h : ¬ A.1 1 0 = 0) : fR_refuse F G A k = some A := by
  unfold fR_refuse
  rw [if_neg h]
theorem M_wrongF {k : Int32} (h : ¬ B.1 78 2 ≤ 0) : fM_wrong F G B k = some B := by
  unfold fM_wrong
  rw [if_neg h]
theorem wd_no {w : Nat} (h : wd t w = true) : t.1 ≠ 4 ∧ t.1 ≠ 0 := by
  simp only [wd, Bool.and_eq_true, beq_iff_eq] at h
  omega
theorem sg_no {w : Nat} (h : sg t w = true) : t.1 ≠ 4 ∧ t.1 ≠ 0 := by
  simp only [sg, Bool.and_eq_true, beq_iff_eq] at h
  omega
/-- a word that must stand there -/
theorem P_want (hF : 100000 ≤ F) {w : Nat} (hw : w < 21) {K : Int64} (hK : K = lN (p8 (kwL w))) (h : OkX b n A1 B1 A B t p) : ∃ A' B', fR_takeWord F G A (nI w) = some A' ∧ fM_want F G B K = some B' ∧ ((∃ t' p', OkX b n A1 B1 A' B' t' p' ∧ rem n t' p' < rem n t p) ∨ BdX A1 B1 A' B') := by
  unfold fR_takeWord fM_want
  rw [R_isWord hw h.2.1 h.1.2.2.1, M_isWord hw h.1.2.2.2.1 h.1.2.2.2.2.1 hK, bd_some, bd_some, if_pos (show B.1 78 2 ≤ 0 by rw [h.2.2.1]; decide)]
  by_cases c : wd t w = true
  · obtain ⟨A', B', t', p', a1, a2, a3, a4⟩ := P_step (G := G) hF h (wd_no c).1 (wd_no c).2
    rw [if_pos c, if_neg (by decide), if_neg (by decide), a1, a2]
    exact ⟨A', B', rfl, rfl, Or.inl ⟨t', p', a3, a4⟩⟩
  · obtain ⟨A', B', a1, a2, a3⟩ := P_bad (F := F) (G := G) (k := 2) (by omega) (by omega) h
    rw [if_neg c, if_pos rfl, if_pos rfl, show (2 : Int32) = nI 2 from rfl, a1, a2]
    exact ⟨A', B', rfl, rfl, Or.inr a3⟩
theorem R_takeWordF {w : Int32} (h : ¬ A.1 1 0 = 0) : fR_takeWord F G A w = some A := by
  unfold fR_takeWord
  rw [R_isWordF h, bd_some, if_pos rfl, R_refuseF h]
  rfl
theorem M_wantF {K : Int64} (h : ¬ B.1 78 2 ≤ 0) : fM_want F G B K = some B := by
  unfold fM_want
  rw [if_neg h]
/-- a sign that must stand there -/
theorem P_sign (hF : 100000 ≤ F) {c : Nat} (hc : c < 256) (h : OkX b n A1 B1 A B t p) (hs : sg t c = true) : ∃ A' B' t' p', fR_takeSign F G A (nI c) = some A' ∧ fM_token F G B = some B' ∧ OkX b n A1 B1 A' B' t' p' ∧ rem n t' p' < rem n t p := by
  unfold fR_takeSign
  rw [R_isSign hc h.2.1 h.1.2.2.1 h.1.2.2.2.2.1, bd_some, if_pos hs, if_neg (by decide)]
  obtain ⟨A', B', t', p', a1, a2, a3, a4⟩ := P_step (G := G) hF h (sg_no hs).1 (sg_no hs).2
  rw [a1]
  exact ⟨A', B', t', p', rfl, a2, a3, a4⟩
theorem P_signN {c : Nat} (hc : c < 256) (h : OkX b n A1 B1 A B t p) (hs : ¬ sg t c = true) : ∃ A' B', fR_takeSign F G A (nI c) = some A' ∧ fM_wrong F G B 2 = some B' ∧ BdX A1 B1 A' B' := by
  unfold fR_takeSign
  rw [R_isSign hc h.2.1 h.1.2.2.1 h.1.2.2.2.2.1, bd_some, if_neg hs, if_pos rfl]
  obtain ⟨A', B', a1, a2, a3⟩ := P_bad (F := F) (G := G) (k := 2) (by omega) (by omega) h
  rw [show (2 : Int32) = nI 2 from rfl, a1]
  exact ⟨A', B', rfl, a2, a3⟩
theorem R_takeSignF {w : Int32} (h : ¬ A.1 1 0 = 0) : fR_takeSign F G A w = some A := by
  unfold fR_takeSign
  rw [R_isSignF h, bd_some, if_pos rfl, R_refuseF h]
  rfl
/-- a number -/
theorem P_num (hF : 100000 ≤ F) {l u : Nat} (hl : l < 2 ^ 31) (hu : u < 2 ^ 31) (h : OkX b n A1 B1 A B t p) : ∃ v v' A' B', fR_number F G A (nI l) (nI u) = some (v, A') ∧ fM_toldNumber F G B (nI l) (nI u) = some (v', B') ∧ ((∃ m t' p', v = nI m ∧ v' = nI m ∧ l ≤ m ∧ m ≤ u ∧ OkX b n A1 B1 A' B' t' p' ∧ rem n t' p' < rem n t p) ∨ BdX A1 B1 A' B') := by
  have hbad : ∀ A' B', BdX A1 B1 A' B' → (∃ v, j_R_number_23 F G A' (nI l) (nI u) = some (v, A')) ∧ (∀ y, j_R_number_53 F G A' y = some (y, A')) ∧ (∃ v, j_M_toldNumber_46 F G B' = some (v, B')) := by
    intro A' B' hb
    refine ⟨?_, ?_, ?_⟩
    · unfold j_R_number_23 j_R_number_53
      rw [lt_eq, if_neg hb.fc, if_neg hb.fc]
      exact ⟨_, rfl⟩
    · intro y
      unfold j_R_number_53
      rw [if_neg hb.fc]
    · unfold j_M_toldNumber_46
      rw [lt_eq, if_neg hb.fm.1]
      exact ⟨_, rfl⟩
  have hk := h.1.2.2.2.2.1
  unfold fR_number fM_toldNumber
  rw [if_pos h.2.1, if_pos (show B.1 78 2 ≤ 0 by rw [h.2.2.1]; decide), h.1.2.2.1.1, h.1.2.2.2.1.1]
  by_cases c : t.1 = 2
  · rw [if_pos ((kind_o hk).2.1.mpr c), if_pos ((sort_o hk).2.2.1.mpr c), h.1.2.2.2.1.2.2 c]
    have hm := hk.2.2.1 c
    unfold j_R_number_23
    rw [lt_eq, h.1.2.2.1.2.2 (Or.inl c), if_pos h.2.1]
    have bad4 : ∃ v v' A' B', j_R_number_48 F G A (nI t.2.1) = some (v, A') ∧ j_M_toldNumber_41 F G B = some (v', B') ∧ ((∃ m t' p', v = nI m ∧ v' = nI m ∧ l ≤ m ∧ m ≤ u ∧ OkX b n A1 B1 A' B' t' p' ∧ rem n t' p' < rem n t p) ∨ BdX A1 B1 A' B') := by
      obtain ⟨A', B', a1, a2, a3⟩ := P_bad (F := F) (G := G) (k := 4) (by omega) (by omega) h
      obtain ⟨-, g2, v', g3⟩ := hbad A' B' a3
      unfold j_R_number_48 j_M_toldNumber_41
      rw [show (4 : Int32) = nI 4 from rfl, a1, a2, bd_some, bd_some, g2, g3]
      exact ⟨_, _, _, _, rfl, rfl, Or.inr a3⟩
    by_cases c1 : t.2.1 < l
    · rw [if_pos (nI_lt c1 hl), if_pos (nI_lt c1 hl)]
      exact bad4
    · rw [if_neg (fun z => c1 ((nI_ltI (by omega) hl).mp z)), if_neg (fun z => c1 ((nI_ltI (by omega) hl).mp z))]
      by_cases c2 : t.2.1 ≤ u
      · rw [if_pos (nI_le c2 hu), if_pos (nI_le c2 hu)]
        obtain ⟨A', B', t', p', a1, a2, a3, a4⟩ := P_step (G := G) hF h (by omega) (by omega)
        unfold j_R_number_53 j_M_toldNumber_46
        rw [lt_eq, if_pos h.2.1, if_pos h.2.2.1, a1, a2, h.1.2.2.2.1.2.2 c]
        exact ⟨_, _, _, _, rfl, rfl, Or.inl ⟨t.2.1, t', p', rfl, rfl, by omega, c2, a3, a4⟩⟩
      · rw [if_neg (fun z => c2 ((nI_leI (by omega) hu).mp z)), if_neg (fun z => c2 ((nI_leI (by omega) hu).mp z))]
        exact bad4
  · rw [if_neg (fun z => c ((kind_o hk).2.1.mp z)), if_neg (fun z => c ((sort_o hk).2.2.1.mp z))]
    obtain ⟨A', B', a1, a2, a3⟩ := P_bad (F := F) (G := G) (k := 2) (by omega) (by omega) h
    obtain ⟨⟨v, g1⟩, -, v', g3⟩ := hbad A' B' a3
    rw [show (2 : Int32) = nI 2 from rfl, a1, a2, bd_some, bd_some, g1, g3]
    exact ⟨_, _, _, _, rfl, rfl, Or.inr a3⟩
theorem R_numberF {l u : Int32} (h : ¬ A.1 1 0 = 0) : ∃ v, fR_number F G A l u = some (v, A) := by
  unfold fR_number j_R_number_23 j_R_number_53
  rw [if_neg h, lt_eq, if_neg h, if_neg h]
  exact ⟨_, rfl⟩
theorem M_toldNumberF {l u : Int32} (h : ¬ B.1 78 2 ≤ 0) : fM_toldNumber F G B l u = some (0, B) := by
  unfold fM_toldNumber
  rw [if_neg h]
/-- a word, then a number -/
theorem P_told (hF : 100000 ≤ F) {w l u : Nat} (hw : w < 21) {K : Int64} (hK : K = lN (p8 (kwL w))) (hl : l < 2 ^ 31) (hu : u < 2 ^ 31) (h : OkX b n A1 B1 A B t p) : ∃ A' v v' A'' B'', fR_takeWord F G A (nI w) = some A' ∧ fR_number F G A' (nI l) (nI u) = some (v, A'') ∧ fM_told F G B K (nI l) (nI u) = some (v', B'') ∧ ((∃ m t' p', v = nI m ∧ v' = nI m ∧ l ≤ m ∧ m ≤ u ∧ OkX b n A1 B1 A'' B'' t' p' ∧ rem n t' p' < rem n t p) ∨ BdX A1 B1 A'' B'') := by
  obtain ⟨A', B', a1, a2, a3⟩ := P_want (G := G) hF hw hK h
  unfold fM_told
  rw [a2, bd_some]
  rcases a3 with ⟨t1, p1, a3, a4⟩ | a3
  · obtain ⟨v, v', A'', B'', b1, b2, b3⟩ := P_num (G := G) hF hl hu a3
    rw [b2, bd2_some]
    refine ⟨A', v, v', A'', B'', a1, b1, rfl, ?_⟩
    rcases b3 with ⟨m, t2, p2, c1, c2, c3, c4, c5, c6⟩ | b3
    · exact Or.inl ⟨m, t2, p2, c1, c2, c3, c4, c5, by omega⟩
    · exact Or.inr b3
  · obtain ⟨v, b1⟩ := R_numberF (F := F) (G := G) (l := nI l) (u := nI u) a3.fc
    rw [M_toldNumberF a3.fm.2, bd2_some]
    exact ⟨A', v, 0, A', B', a1, b1, rfl, Or.inr a3⟩
theorem M_toldF {K : Int64} {l u : Int32} (h : ¬ B.1 78 2 ≤ 0) : fM_told F G B K l u = some (0, B) := by
  unfold fM_told
  rw [M_wantF h, bd_some, M_toldNumberF h, bd2_some]
/-! names -/
theorem lgk {L : List Nat} (hL : okL L) {w : Nat} (hw : w < 21) {K : Int64} (hK : K = lN (p8 (kwL w))) : lg_cmp (lN (p8 L)) K = 0 ↔ kwi L = w := by
  rw [lg_cmp_eq, hK, kw_p8 hL hw]
theorem kwi_le (L : List Nat) : kwi L ≤ 21 := by
  have key : ∀ r i, i + r = 21 → kwf r i L ≤ 21 := by
    intro r
    induction r with
    | zero => intro i _; exact Nat.le_refl _
    | succ r ih =>
      intro i h
      rw [kwf]
      by_cases c : L = kwL i
      · rw [if_pos c]; omega
      · rw [if_neg c]; exact ih (i + 1) (by omega)
  exact key 21 0 rfl
theorem M_isOwn {L : List Nat} (hL : okL L) (h : B.2.1 78 9 = lN (p8 L)) : fM_isOwn F G B = some (if kwi L < 21 then 1 else 0) := by
  unfold fM_isOwn
  rw [h]
  simp only [lgk hL (w := 0) (K := 422607680627) (by decide) rfl, lgk hL (w := 1) (K := 1885434484) (by decide) rfl, lgk hL (w := 8) (K := 1953853029) (by decide) rfl, lgk hL (w := 9) (K := 1650553715) (by decide) rfl, lgk hL (w := 2) (K := 1852798053) (by decide) rfl, lgk hL (w := 10) (K := 28518) (by decide) rfl, lgk hL (w := 11) (K := 24948) (by decide) rfl, lgk hL (w := 16) (K := 7038329) (by decide) rfl, lgk hL (w := 17) (K := 1819242087) (by decide) rfl, lgk hL (w := 18) (K := 1819243876) (by decide) rfl, lgk hL (w := 3) (K := 120299675936100) (by decide) rfl, lgk hL (w := 4) (K := 1936744814) (by decide) rfl, lgk hL (w := 5) (K := 28826370526507635) (by decide) rfl, lgk hL (w := 6) (K := 1818583408) (by decide) rfl, lgk hL (w := 7) (K := 6644082) (by decide) rfl, lgk hL (w := 15) (K := 1919904869) (by decide) rfl, lgk hL (w := 19) (K := 28270047624193380) (by decide) rfl, lgk hL (w := 20) (K := 1650811252) (by decide) rfl, lgk hL (w := 13) (K := 6385252) (by decide) rfl, lgk hL (w := 12) (K := 28530) (by decide) rfl, lgk hL (w := 14) (K := 7237492) (by decide) rfl]
  have := kwi_le L
  generalize kwi L = w at *
  exact (by decide +kernel : ∀ w, w < 22 → (if w = 0 then some (1 : Int32) else if w = 1 then some (1 : Int32) else if w = 8 then some (1 : Int32) else if w = 9 then some (1 : Int32) else if w = 2 then some (1 : Int32) else if w = 10 then some (1 : Int32) else if w = 11 then some (1 : Int32) else if w = 16 then some (1 : Int32) else if w = 17 then some (1 : Int32) else if w = 18 then some (1 : Int32) else if w = 3 then some (1 : Int32) else if w = 4 then some (1 : Int32) else if w = 5 then some (1 : Int32) else if w = 6 then some (1 : Int32) else if w = 7 then some (1 : Int32) else if w = 15 then some (1 : Int32) else if w = 19 then some (1 : Int32) else if w = 20 then some (1 : Int32) else if w = 13 then some (1 : Int32) else if w = 12 then some (1 : Int32) else if w = 14 then some (1 : Int32) else some (0 : Int32)) = some (if w < 21 then (1 : Int32) else 0)) w (by omega)
def nm (t : Tk) : Bool := t.1 == 1 && kwi t.2.2 == 21
theorem nm_iff : nm t = true ↔ t.1 = 1 ∧ ¬ kwi t.2.2 < 21 := by
  have := kwi_le t.2.2
  simp only [nm, Bool.and_eq_true, beq_iff_eq]
  omega
theorem M_isName (h : TkM B t) (hk : TkOk t) : fM_isName F G B = some (if nm t = true then 1 else 0) := by
  unfold fM_isName
  rw [h.1]
  by_cases c : t.1 = 1
  · rw [if_pos ((sort_o hk).2.1.mpr c), M_isOwn (hk.2.1 c) (h.2.1 c), bd_some]
    by_cases e : kwi t.2.2 < 21
    · rw [if_pos e, if_neg (by decide), if_neg (fun z => (nm_iff.mp z).2 e)]
    · rw [if_neg e, if_pos rfl, if_pos (nm_iff.mpr ⟨c, e⟩)]
  · rw [if_neg (fun z => c ((sort_o hk).2.1.mp z)), if_neg (fun z => c (nm_iff.mp z).1)]
theorem M_find {fr m : Nat} {L : List Nat} {PN : Nat → List Nat} (hF : 100000 ≤ F) (hL : okL L) (hw : B.2.1 78 9 = lN (p8 L)) (hm : fr + m ≤ 14) (hN : ∀ i, i < m → okL (PN i) ∧ B.2.1 80 (fr + i) = lN (p8 (PN i))) : ∃ v, fM_find F G B (nI fr) (nI m) = some v ∧ ((v = -1 ∧ ∀ i, i < m → PN i ≠ L) ∨ ∃ i, i < m ∧ PN i = L ∧ v = nI i) := by
  have heq : ∀ i, i < m → (lg_cmp (B.2.1 80 (fr + i)) (B.2.1 78 9) = 0 ↔ PN i = L) := by
    intro i hi
    obtain ⟨o1, o2⟩ := hN i hi
    rw [lg_cmp_eq, hw, o2]
    have h1 := p8_lt hL.1
    have h2 := p8_lt o1.1
    have g1 : (2 : Nat) ^ (8 * L.length) ≤ 2 ^ 64 := Nat.pow_le_pow_right (by decide) (by have := hL.2; omega)
    have g2 : (2 : Nat) ^ (8 * (PN i).length) ≤ 2 ^ 64 := Nat.pow_le_pow_right (by decide) (by have := o1.2; omega)
    exact ⟨fun h => p8_inj o1.1 hL.1 (lN_inj (by omega) (by omega) h), fun h => by rw [h]⟩
  have key : ∀ r j f (v0 : Int32), m - j = r → j ≤ m → r < f → ((v0 = -1 ∧ ∀ i, i < j → PN i ≠ L) ∨ ∃ i, i < m ∧ PN i = L ∧ v0 = nI i) → ∃ v, fx2 (b_M_find_5 F G B (nI fr) (nI m)) f v0 (nI j) = some v ∧ ((v = -1 ∧ ∀ i, i < m → PN i ≠ L) ∨ ∃ i, i < m ∧ PN i = L ∧ v = nI i) := by
    intro r
    induction r with
    | zero =>
      intro j f v0 hr hj hf hv
      obtain ⟨g, rfl⟩ : ∃ g, f = g + 1 := ⟨f - 1, by omega⟩
      rw [fx2_s]
      generalize fx2 (b_M_find_5 F G B (nI fr) (nI m)) g = rec
      unfold b_M_find_5
      rw [if_pos (nI_le (by omega) (by omega))]
      have e : j = m := by omega
      rw [e] at hv
      exact ⟨v0, rfl, hv⟩
    | succ r ih =>
      intro j f v0 hr hj hf hv
      obtain ⟨g, rfl⟩ : ∃ g, f = g + 1 := ⟨f - 1, by omega⟩
      rw [fx2_s]
      have ih1 := ih (j + 1) g (nI j) (by omega) (by omega) (by omega)
      have ih2 := ih (j + 1) g v0 (by omega) (by omega) (by omega)
      generalize fx2 (b_M_find_5 F G B (nI fr) (nI m)) g = rec at ih1 ih2
      unfold b_M_find_5
      rw [if_neg (nI_ge (by omega) (by omega)), nI_addN, gd_t (inB_nI (by omega) (by decide)), nI_clamp (by omega), lt_eq, lt_eq, nI_1]
      by_cases c : PN j = L
      · rw [if_pos ((heq j (by omega)).mpr c)]
        exact ih1 (Or.inr ⟨j, by omega, c, rfl⟩)
      · rw [if_neg (fun z => c ((heq j (by omega)).mp z))]
        refine ih2 ?_
        rcases hv with ⟨h1, h2⟩ | h
        · refine Or.inl ⟨h1, fun i hi => ?_⟩
          by_cases e : i = j
          · rw [e]; exact c
          · exact h2 i (by omega)
        · exact Or.inr h
  unfold fM_find
  exact key m 0 F (-1) rfl (by omega) (by omega) (Or.inl ⟨rfl, fun i hi => by omega⟩)
theorem p5_eq {L M : List Nat} (hL : okL L) (hM : okL M) : lN (p5 L) = lN (p5 M) ↔ L = M := by
  have h1 := p5_lt hL.1 hL.2
  have h2 := p5_lt hM.1 hM.2
  have g1 : (2 : Nat) ^ (5 * L.length) ≤ 2 ^ 40 := Nat.pow_le_pow_right (by decide) (by have := hL.2; omega)
  have g2 : (2 : Nat) ^ (5 * M.length) ≤ 2 ^ 40 := Nat.pow_le_pow_right (by decide) (by have := hM.2; omega)
  exact ⟨fun h => p5_inj hL.1 hM.1 (lN_inj (by omega) (by omega) h), fun h => by rw [h]⟩
theorem S_partNamed {d m : Nat} {L : List Nat} {PN : Nat → List Nat} (hF : 100000 ≤ F) (hd : isSc d = true) (hL : okL L) (h5 : A.1 d 5 = nI m) (hm : m ≤ 4) (hN : ∀ i, i < m → okL (PN i) ∧ A.2.1 (d + 1) i = lN (p5 (PN i))) : ∃ v, fS_partNamed F G A d (lN (p5 L)) = some v ∧ ((v = -1 ∧ ∀ i, i < m → PN i ≠ L) ∨ ∃ i, i < m ∧ PN i = L ∧ v = nI i) := by
  have key : ∀ r j f, m - j = r → j ≤ m → r < f → (∀ i, i < j → PN i ≠ L) → ∃ v, fx1 (b_S_partNamed_2 F G A d (lN (p5 L))) f (nI j) = some v ∧ ((v = -1 ∧ ∀ i, i < m → PN i ≠ L) ∨ ∃ i, i < m ∧ PN i = L ∧ v = nI i) := by
    intro r
    induction r with
    | zero =>
      intro j f hr hj hf hv
      obtain ⟨g, rfl⟩ : ∃ g, f = g + 1 := ⟨f - 1, by omega⟩
      rw [fx1_s]
      generalize fx1 (b_S_partNamed_2 F G A d (lN (p5 L))) g = rec
      unfold b_S_partNamed_2
      rw [h5, if_pos (nI_le (by omega) (by omega))]
      exact ⟨_, rfl, Or.inl ⟨rfl, fun i hi => hv i (by omega)⟩⟩
    | succ r ih =>
      intro j f hr hj hf hv
      obtain ⟨g, rfl⟩ : ∃ g, f = g + 1 := ⟨f - 1, by omega⟩
      rw [fx1_s]
      have ih1 := ih (j + 1) g (by omega) (by omega) (by omega)
      generalize fx1 (b_S_partNamed_2 F G A d (lN (p5 L))) g = rec at ih1
      obtain ⟨o1, o2⟩ := hN j (by omega)
      unfold b_S_partNamed_2
      rw [h5, if_neg (nI_ge (by omega) (by omega)), gd_t (inB_nI (by omega) (by decide)), nI_clamp (by omega), o2, lt_eq, nI_1]
      by_cases c : PN j = L
      · rw [if_pos ((lg_cmp_eq _ _).mpr ((p5_eq o1 hL).mpr c))]
        exact ⟨_, rfl, Or.inr ⟨j, by omega, c, rfl⟩⟩
      · rw [if_neg (fun z => c ((p5_eq o1 hL).mp ((lg_cmp_eq _ _).mp z)))]
        refine ih1 (fun i hi => ?_)
        by_cases e : i = j
        · rw [e]; exact c
        · exact hv i (by omega)
  unfold fS_partNamed
  rw [gd_t hd]
  exact key m 0 F rfl (by omega) (by omega) (fun i hi => by omega)
theorem S_hasNote {d m : Nat} {L : List Nat} {PN : Nat → List Nat} (hF : 100000 ≤ F) (hd : isSc d = true) (hL : okL L) (h5 : A.1 d 6 = nI m) (hm : m ≤ 10) (hN : ∀ i, i < m → okL (PN i) ∧ A.2.1 (d + 3) i = lN (p5 (PN i))) : ∃ v, fS_hasNoteNamed F G A d (lN (p5 L)) = some v ∧ ((v = 0 ∧ ∀ i, i < m → PN i ≠ L) ∨ (v = 1 ∧ ∃ i, i < m ∧ PN i = L)) := by
  have key : ∀ r j f, m - j = r → j ≤ m → r < f → (∀ i, i < j → PN i ≠ L) → ∃ v, fx1 (b_S_hasNoteNamed_2 F G A d (lN (p5 L))) f (nI j) = some v ∧ ((v = 0 ∧ ∀ i, i < m → PN i ≠ L) ∨ (v = 1 ∧ ∃ i, i < m ∧ PN i = L)) := by
    intro r
    induction r with
    | zero =>
      intro j f hr hj hf hv
      obtain ⟨g, rfl⟩ : ∃ g, f = g + 1 := ⟨f - 1, by omega⟩
      rw [fx1_s]
      generalize fx1 (b_S_hasNoteNamed_2 F G A d (lN (p5 L))) g = rec
      unfold b_S_hasNoteNamed_2
      rw [h5, if_pos (nI_le (by omega) (by omega))]
      exact ⟨_, rfl, Or.inl ⟨rfl, fun i hi => hv i (by omega)⟩⟩
    | succ r ih =>
      intro j f hr hj hf hv
      obtain ⟨g, rfl⟩ : ∃ g, f = g + 1 := ⟨f - 1, by omega⟩
      rw [fx1_s]
      have ih1 := ih (j + 1) g (by omega) (by omega) (by omega)
      generalize fx1 (b_S_hasNoteNamed_2 F G A d (lN (p5 L))) g = rec at ih1
      obtain ⟨o1, o2⟩ := hN j (by omega)
      unfold b_S_hasNoteNamed_2
      rw [h5, if_neg (nI_ge (by omega) (by omega)), gd_t (inB_nI (by omega) (by decide)), nI_clamp (by omega), o2, lt_eq, nI_1]
      by_cases c : PN j = L
      · rw [if_pos ((lg_cmp_eq _ _).mpr ((p5_eq o1 hL).mpr c))]
        exact ⟨_, rfl, Or.inr ⟨rfl, j, by omega, c⟩⟩
      · rw [if_neg (fun z => c ((p5_eq o1 hL).mp ((lg_cmp_eq _ _).mp z)))]
        refine ih1 (fun i hi => ?_)
        by_cases e : i = j
        · rw [e]; exact c
        · exact hv i (by omega)
  unfold fS_hasNoteNamed
  rw [gd_t hd]
  exact key m 0 F rfl (by omega) (by omega) (fun i hi => by omega)
end PR
