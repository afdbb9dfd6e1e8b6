/-! TOKENS: what both readers see -/
abbrev Tk : Type := Nat × Nat × List Nat
def KW : List (List Nat) := [[98, 101, 97, 116, 115], [112, 97, 114, 116], [110, 111, 116, 101], [109, 105, 115, 115, 101, 100], [115, 112, 97, 110], [102, 105, 110, 103, 101, 114, 115], [108, 101, 97, 112], [101, 97, 114], [116, 117, 110, 101], [98, 97, 115, 115], [111, 102], [97, 116], [111, 114], [97, 110, 100], [110, 111, 116], [114, 111, 108, 101], [107, 101, 121], [108, 111, 110, 103], [108, 111, 117, 100], [100, 111, 117, 98, 108, 101, 100], [98, 101, 97, 116]]
def kwL (i : Nat) : List Nat := KW.getD i []
def kwf : Nat → Nat → List Nat → Nat
  | 0, _, _ => 21
  | r + 1, i, L => if L = kwL i then i else kwf r (i + 1) L
def kwi (L : List Nat) : Nat := kwf 21 0 L
def wv (k : Nat) : Int32 := if k < 21 then nI k else -1
def tkW (b : Nat → Nat) (n s : Nat) : Tk := if stp isLt b n s - s ≤ 8 then (1, 0, seg b s (stp isLt b n s - s)) else (4, 0, [])
def tkN (b : Nat → Nat) (n s : Nat) : Tk := if stp isDg b n s - s ≤ 4 ∧ ¬ (stp isDg b n s < n ∧ isLt (b (stp isDg b n s)) = true) then (2, nv (seg b s (stp isDg b n s - s)), []) else (4, 0, [])
def tkA (b : Nat → Nat) (n s : Nat) : Tk := if s < n then (if isLt (b s) = true then tkW b n s else if isDg (b s) = true then tkN b n s else if isSg (b s) = true then (3, b s, []) else (4, 0, [])) else (0, 0, [])
def tkE (b : Nat → Nat) (n s : Nat) : Nat := if s < n then (if isLt (b s) = true then stp isLt b n s else if isDg (b s) = true then stp isDg b n s else s + 1) else s
def kindC (t : Tk) : Int32 := if t.1 = 0 then 0 else if t.1 = 1 then (if kwi t.2.2 < 21 then 1 else 2) else if t.1 = 2 then 3 else if t.1 = 3 then 4 else 5
def TkC (A : St) (t : Tk) : Prop := A.1 2 4 = kindC t ∧ (t.1 = 1 → A.2.1 2 6 = lN (p5 t.2.2) ∧ A.1 2 5 = wv (kwi t.2.2)) ∧ (t.1 = 2 ∨ t.1 = 3 → A.1 2 5 = nI t.2.1)
def sortM (t : Tk) : Int32 := if t.1 = 0 then 0 else if t.1 = 1 then 1 else if t.1 = 2 then 2 else if t.1 = 3 then nI t.2.1 else 3
def TkM (B : St) (t : Tk) : Prop := B.1 78 6 = sortM t ∧ (t.1 = 1 → B.2.1 78 9 = lN (p8 t.2.2)) ∧ (t.1 = 2 → B.1 78 8 = nI t.2.1)
def TkOk (t : Tk) : Prop := t.1 ≤ 4 ∧ (t.1 = 1 → (∀ c, c ∈ t.2.2 → isLt c = true) ∧ t.2.2.length ≤ 8) ∧ (t.1 = 2 → t.2.1 < 10000) ∧ (t.1 = 3 → isSg t.2.1 = true)
def TapeC (A : St) (b : Nat → Nat) (n : Nat) : Prop := A.1 2 0 = nI n ∧ n ≤ 1600 ∧ ∀ k, k < n → b k < 256 ∧ A.1 3 k = (nI (b k)).toInt8.toInt32
def TapeM (B : St) (b : Nat → Nat) (n : Nat) : Prop := B.1 78 5 = nI n ∧ n ≤ 1600 ∧ ∀ k, k < n → b k < 256 ∧ B.1 79 k = nI (b k)
theorem TapeC.ag {s l : Nat → Nat → Bool} {A A' : St} {b : Nat → Nat} {n : Nat} (h : TapeC A b n) (a : Ag s l A A') (h0 : s 2 0 = false) (h3 : ∀ k, s 3 k = false) : TapeC A' b n :=
  ⟨(a.2.1 2 0 h0).trans h.1, h.2.1, fun k hk => ⟨(h.2.2 k hk).1, (a.2.1 3 k (h3 k)).trans (h.2.2 k hk).2⟩⟩
theorem TapeM.ag {s l : Nat → Nat → Bool} {A A' : St} {b : Nat → Nat} {n : Nat} (h : TapeM A b n) (a : Ag s l A A') (h0 : s 78 5 = false) (h3 : ∀ k, s 79 k = false) : TapeM A' b n :=
  ⟨(a.2.1 78 5 h0).trans h.1, h.2.1, fun k hk => ⟨(h.2.2 k hk).1, (a.2.1 79 k (h3 k)).trans (h.2.2 k hk).2⟩⟩
theorem nI_mulN (a b : Nat) : nI a * nI b = nI (a * b) := by
  show Int32.ofNat a * Int32.ofNat b = Int32.ofNat (a * b)
  rw [Int32.ofNat_mul]
theorem nv_lt {L : List Nat} (h : ∀ c, c ∈ L → isDg c = true) : nv L < 10 ^ L.length := by
  have key : ∀ (L : List Nat) (v e : Nat), (∀ c, c ∈ L → isDg c = true) → v < 10 ^ e → L.foldl (fun v c => v * 10 + (c - 48)) v < 10 ^ (e + L.length) := by
    intro L
    induction L with
    | nil => intro v e _ hv; simpa using hv
    | cons c L ih =>
      intro v e h hv
      have hc : isDg c = true := h c (List.mem_cons_self ..)
      simp only [isDg, Bool.and_eq_true, Nat.ble_eq] at hc
      have := ih (v * 10 + (c - 48)) (e + 1) (fun x hx => h x (List.mem_cons_of_mem _ hx)) (by
        have e1 : 10 ^ (e + 1) = 10 ^ e * 10 := Nat.pow_succ ..
        omega)
      simp only [List.foldl_cons, List.length_cons]
      rw [show e + (L.length + 1) = e + 1 + L.length by omega]
      exact this
  have := key L 0 0 h (by decide)
  simpa [nv] using this
theorem tkA_ok (b : Nat → Nat) {n s : Nat} (hs : s ≤ n) : TkOk (tkA b n s) := by
  unfold tkA
  by_cases h0 : s < n
  · rw [if_pos h0]
    by_cases h1 : isLt (b s) = true
    · rw [if_pos h1]
      unfold tkW
      obtain ⟨a1, a2, a3, a4⟩ := stp_ok (P := isLt) (b := b) _ s rfl hs
      by_cases h2 : stp isLt b n s - s ≤ 8
      · rw [if_pos h2]
        refine ⟨by simp, fun _ => ⟨seg_all _ (fun i i1 i2 => a3 i i1 (by omega)), by rw [seg_len]; exact h2⟩, fun z => absurd z (by simp), fun z => absurd z (by simp)⟩
      · rw [if_neg h2]; exact ⟨by simp, fun z => absurd z (by simp), fun z => absurd z (by simp), fun z => absurd z (by simp)⟩
    · rw [if_neg h1]
      by_cases h2 : isDg (b s) = true
      · rw [if_pos h2]
        unfold tkN
        obtain ⟨a1, a2, a3, a4⟩ := stp_ok (P := isDg) (b := b) _ s rfl hs
        by_cases h3 : stp isDg b n s - s ≤ 4 ∧ ¬ (stp isDg b n s < n ∧ isLt (b (stp isDg b n s)) = true)
        · rw [if_pos h3]
          refine ⟨by simp, fun z => absurd z (by simp), fun _ => ?_, fun z => absurd z (by simp)⟩
          have := nv_lt (L := seg b s (stp isDg b n s - s)) (seg_all _ (fun i i1 i2 => a3 i i1 (by omega)))
          rw [seg_len] at this
          have h4 : (10 : Nat) ^ (stp isDg b n s - s) ≤ 10 ^ 4 := Nat.pow_le_pow_right (by decide) h3.1
          show nv _ < 10000
          omega
        · rw [if_neg h3]; exact ⟨by simp, fun z => absurd z (by simp), fun z => absurd z (by simp), fun z => absurd z (by simp)⟩
      · rw [if_neg h2]
        by_cases h3 : isSg (b s) = true
        · rw [if_pos h3]; exact ⟨by simp, fun z => absurd z (by simp), fun z => absurd z (by simp), fun _ => h3⟩
        · rw [if_neg h3]; exact ⟨by simp, fun z => absurd z (by simp), fun z => absurd z (by simp), fun z => absurd z (by simp)⟩
  · rw [if_neg h0]; exact ⟨by simp, fun z => absurd z (by simp), fun z => absurd z (by simp), fun z => absurd z (by simp)⟩
theorem tkE_bd (b : Nat → Nat) {n s : Nat} (hs : s ≤ n) : s ≤ tkE b n s ∧ tkE b n s ≤ n ∧ (s < n → s < tkE b n s) := by
  unfold tkE
  by_cases h0 : s < n
  · rw [if_pos h0]
    by_cases h1 : isLt (b s) = true
    · rw [if_pos h1, stp_go h0 h1]
      obtain ⟨a1, a2⟩ := stp_bd (P := isLt) (b := b) (n := n) (p := s + 1) (by omega)
      omega
    · rw [if_neg h1]
      by_cases h2 : isDg (b s) = true
      · rw [if_pos h2, stp_go h0 h2]
        obtain ⟨a1, a2⟩ := stp_bd (P := isDg) (b := b) (n := n) (p := s + 1) (by omega)
        omega
      · rw [if_neg h2]; omega
  · rw [if_neg h0]; omega
/-! the class: its tape -/
section CT
variable {F G : Nat} {A : St} {b : Nat → Nat} {n : Nat}
theorem T_at (ht : TapeC A b n) {p : Nat} (hp : p < 2 ^ 31) : fT_at F G A (nI p) = some (if p < n then nI (b p) else -1) := by
  obtain ⟨h1, h2, h3⟩ := ht
  unfold fT_at
  rw [if_neg (nI_pos hp), h1]
  by_cases c : p < n
  · rw [if_neg (nI_ge c (by omega)), show (1600 : Int32) = nI 1600 from rfl, if_neg (nI_ge (by omega) (by decide)), gd_t (inB_nI (by omega) (by decide)), nI_clamp hp, (h3 p c).2, sc_k8 _ (h3 p c).1, if_pos c]
  · rw [if_pos (nI_le (by omega) hp), if_neg c]
theorem T_isBlank {c : Nat} (hc : c < 256) : fT_isBlank F G A (nI c) = some (if isBk c = true then 1 else 0) := by
  unfold fT_isBlank
  exact (by decide +kernel : ∀ c, c < 256 → (if nI c = (32 : Int32) then some (1 : Int32) else if nI c = (10 : Int32) then some (1 : Int32) else some (0 : Int32)) = some (if isBk c = true then 1 else 0)) c hc
theorem T_isLetter {c : Nat} (hc : c < 256) : fT_isLetter F G A (nI c) = some (if isLt c = true then 1 else 0) := by
  unfold fT_isLetter
  exact (by decide +kernel : ∀ c, c < 256 → (if nI c < (97 : Int32) then some (0 : Int32) else if (122 : Int32) < nI c then some (0 : Int32) else some (1 : Int32)) = some (if isLt c = true then 1 else 0)) c hc
theorem T_isDigit {c : Nat} (hc : c < 256) : fT_isDigit F G A (nI c) = some (if isDg c = true then 1 else 0) := by
  unfold fT_isDigit
  exact (by decide +kernel : ∀ c, c < 256 → (if nI c < (48 : Int32) then some (0 : Int32) else if (57 : Int32) < nI c then some (0 : Int32) else some (1 : Int32)) = some (if isDg c = true then 1 else 0)) c hc
theorem T_skip {k : St → Option St} : ∀ (r p f : Nat) (A : St), n - p = r → p ≤ n → A.1 2 2 = nI p → TapeC A b n → r < f → ∃ A', fx1 (b_T_step_0 F G k) f A = k A' ∧ Ag (fun h k => h == 2 && k == 2) (fun _ _ => false) A A' ∧ A'.1 2 2 = nI (stp isBk b n p) := by
  intro r
  induction r with
  | zero =>
    intro p f A hr hp hn ht hf
    have h16 := ht.2.1
    obtain ⟨g, rfl⟩ : ∃ g, f = g + 1 := ⟨f - 1, by omega⟩
    refine ⟨A, ?_, Ag.rf, ?_⟩
    · show b_T_step_0 F G k (fx1 _ g) A = k A
      unfold b_T_step_0
      rw [ht.1, hn, if_pos (nI_le (by omega) (by omega))]
    · rw [hn, stp_no (by omega)]
  | succ r ih =>
    intro p f A hr hp hn ht hf
    have h16 := ht.2.1
    obtain ⟨g, rfl⟩ : ∃ g, f = g + 1 := ⟨f - 1, by omega⟩
    by_cases c : isBk (b p) = true
    · obtain ⟨A', h1, h2, h3⟩ := ih (p + 1) g (sI A 2 2 (nI p + 1)) (by omega) (by omega) (by rw [sI_at, if_pos ⟨rfl, rfl⟩, nI_1]) (ht.ag ((Ag.rf (s := fun h k => h == 2 && k == 2) (l := fun _ _ => false)).sI _ rfl) rfl (fun _ => rfl)) (by omega)
      refine ⟨A', ?_, (Ag.rf.sI _ rfl).tr h2, by rw [h3, stp_go (by omega) c]⟩
      rw [← h1]
      show b_T_step_0 F G k (fx1 (b_T_step_0 F G k) g) A = _
      generalize fx1 (b_T_step_0 F G k) g = rec
      unfold b_T_step_0
      rw [ht.1, hn, if_neg (nI_ge (by omega) (by omega)), T_at ht (by omega), if_pos (by omega), bd_some, T_isBlank (ht.2.2 p (by omega)).1, if_pos c, bd_some, if_neg (by decide)]
      rfl
    · refine ⟨A, ?_, Ag.rf, by rw [hn, stp_no (fun z => c z.2)]⟩
      show b_T_step_0 F G k (fx1 (b_T_step_0 F G k) g) A = _
      generalize fx1 (b_T_step_0 F G k) g = rec
      unfold b_T_step_0
      rw [ht.1, hn, if_neg (nI_ge (by omega) (by omega)), T_at ht (by omega), if_pos (by omega), bd_some, T_isBlank (ht.2.2 p (by omega)).1, if_neg c, bd_some, if_pos rfl]
theorem T_wloop {s : Nat} {k : St → Option St} : ∀ (r q f : Nat) (A : St), n - q = r → s ≤ q → q ≤ n → A.1 2 2 = nI q → TapeC A b n → (∀ i, s ≤ i → i < q → isLt (b i) = true) → (q - s ≤ 8 → A.2.1 2 6 = lN (p5 (seg b s (q - s)))) → r < f → ∃ A', fx1 (b_T_takeWord_5 F G k) f A = k A' ∧ Ag (fun h k => h == 2 && k == 2) (fun h k => h == 2 && k == 6) A A' ∧ A'.1 2 2 = nI (stp isLt b n q) ∧ (stp isLt b n q - s ≤ 8 → A'.2.1 2 6 = lN (p5 (seg b s (stp isLt b n q - s)))) := by
  intro r
  induction r with
  | zero =>
    intro q f A hr hs hp hn ht hl ha hf
    have h16 := ht.2.1
    obtain ⟨g, rfl⟩ : ∃ g, f = g + 1 := ⟨f - 1, by omega⟩
    have e : stp isLt b n q = q := stp_no (by omega)
    refine ⟨A, ?_, Ag.rf, by rw [hn, e], by rw [e]; exact ha⟩
    show b_T_takeWord_5 F G k (fx1 _ g) A = k A
    unfold b_T_takeWord_5
    rw [ht.1, hn, if_pos (nI_le (by omega) (by omega))]
  | succ r ih =>
    intro q f A hr hs hp hn ht hl ha hf
    have h16 := ht.2.1
    obtain ⟨g, rfl⟩ : ∃ g, f = g + 1 := ⟨f - 1, by omega⟩
    by_cases c : isLt (b q) = true
    · have hc := (ht.2.2 q (by omega)).1
      obtain ⟨A', h1, h2, h3, h4⟩ := ih (q + 1) g (sI (sL A 2 6 (((A.2.1 2 6) <<< ((5 : Int32).toInt64 &&& 63)) ||| (((nI (b q) - (97 : Int32)) + (1 : Int32)).toInt64))) 2 2 (nI q + 1)) (by omega) (by omega) (by omega) (by rw [sI_at, if_pos ⟨rfl, rfl⟩, nI_1]) (ht.ag (((Ag.rf (s := fun h k => h == 2 && k == 2) (l := fun h k => h == 2 && k == 6)).sL _ rfl).sI _ rfl) rfl (fun _ => rfl)) (fun i i1 i2 => by
          by_cases e : i = q
          · rw [e]; exact c
          · exact hl i i1 (by omega)) (by
          intro h8
          show (sL A 2 6 _).2.1 2 6 = _
          rw [sL_at, if_pos ⟨rfl, rfl⟩, ha (by omega), show (5 : Int32) = nI 5 from rfl, (by decide +kernel : ∀ c, c < 256 → isLt c = true → ((nI c - (97 : Int32)) + (1 : Int32)).toInt64 = lN (c - 96)) _ hc c]
          have hlt := p5_lt (L := seg b s (q - s)) (seg_all _ (fun i i1 i2 => hl i i1 (by omega))) (by rw [seg_len]; omega)
          rw [seg_len] at hlt
          have h40 : (2 : Nat) ^ (5 * (q - s)) ≤ 2 ^ 35 := Nat.pow_le_pow_right (by decide) (by omega)
          have c2 := c
          simp only [isLt, Bool.and_eq_true, Nat.ble_eq] at c2
          rw [lN_acc (by decide) (by omega) (by omega), show q + 1 - s = (q - s) + 1 by omega, seg, p5_app, show s + (q - s) = q by omega]) (by omega)
      refine ⟨A', ?_, ((Ag.rf.sL _ rfl).sI _ rfl).tr h2, by rw [h3, stp_go (by omega) c], by rw [stp_go (by omega) c]; exact h4⟩
      rw [← h1]
      show b_T_takeWord_5 F G k (fx1 (b_T_takeWord_5 F G k) g) A = _
      generalize fx1 (b_T_takeWord_5 F G k) g = rec
      unfold b_T_takeWord_5
      rw [ht.1, hn, if_neg (nI_ge (by omega) (by omega)), T_at ht (by omega), if_pos (by omega), bd_some, T_isLetter hc, if_pos c, bd_some, if_neg (by decide), bd_some]
      show rec (sI _ 2 2 (A.1 2 2 + 1)) = _
      rw [hn]
    · have e : stp isLt b n q = q := stp_no (fun z => c z.2)
      refine ⟨A, ?_, Ag.rf, by rw [hn, e], by rw [e]; exact ha⟩
      show b_T_takeWord_5 F G k (fx1 (b_T_takeWord_5 F G k) g) A = _
      generalize fx1 (b_T_takeWord_5 F G k) g = rec
      unfold b_T_takeWord_5
      rw [ht.1, hn, if_neg (nI_ge (by omega) (by omega)), T_at ht (by omega), if_pos (by omega), bd_some, T_isLetter (ht.2.2 q (by omega)).1, if_neg c, bd_some, if_pos rfl]
theorem T_nloop {s : Nat} {k : St → Option St} : ∀ (r q f : Nat) (A : St), n - q = r → s ≤ q → q ≤ n → A.1 2 2 = nI q → TapeC A b n → (∀ i, s ≤ i → i < q → isDg (b i) = true) → (q - s ≤ 4 → A.1 2 5 = nI (nv (seg b s (q - s)))) → r < f → ∃ A', fx1 (b_T_takeNumber_5 F G k) f A = k A' ∧ Ag (fun h k => h == 2 && (k == 2 || k == 5)) (fun _ _ => false) A A' ∧ A'.1 2 2 = nI (stp isDg b n q) ∧ (stp isDg b n q - s ≤ 4 → A'.1 2 5 = nI (nv (seg b s (stp isDg b n q - s)))) := by
  intro r
  induction r with
  | zero =>
    intro q f A hr hs hp hn ht hl ha hf
    have h16 := ht.2.1
    obtain ⟨g, rfl⟩ : ∃ g, f = g + 1 := ⟨f - 1, by omega⟩
    have e : stp isDg b n q = q := stp_no (by omega)
    refine ⟨A, ?_, Ag.rf, by rw [hn, e], by rw [e]; exact ha⟩
    show b_T_takeNumber_5 F G k (fx1 _ g) A = k A
    unfold b_T_takeNumber_5
    rw [ht.1, hn, if_pos (nI_le (by omega) (by omega))]
  | succ r ih =>
    intro q f A hr hs hp hn ht hl ha hf
    have h16 := ht.2.1
    obtain ⟨g, rfl⟩ : ∃ g, f = g + 1 := ⟨f - 1, by omega⟩
    by_cases c : isDg (b q) = true
    · have hc := (ht.2.2 q (by omega)).1
      obtain ⟨A', h1, h2, h3, h4⟩ := ih (q + 1) g (sI (sI A 2 5 ((((A.1 2 5) * (10 : Int32)) + nI (b q)) - (48 : Int32))) 2 2 (nI q + 1)) (by omega) (by omega) (by omega) (by rw [sI_at, if_pos ⟨rfl, rfl⟩, nI_1]) (ht.ag (((Ag.rf (s := fun h k => h == 2 && (k == 2 || k == 5)) (l := fun _ _ => false)).sI _ rfl).sI _ rfl) rfl (fun _ => rfl)) (fun i i1 i2 => by
          by_cases e : i = q
          · rw [e]; exact c
          · exact hl i i1 (by omega)) (by
          intro h8
          rw [sI_at, if_neg (by omega), sI_at, if_pos ⟨rfl, rfl⟩, ha (by omega)]
          have hlt := nv_lt (L := seg b s (q - s)) (seg_all _ (fun i i1 i2 => hl i i1 (by omega)))
          rw [seg_len] at hlt
          have h40 : (10 : Nat) ^ (q - s) ≤ 10 ^ 3 := Nat.pow_le_pow_right (by decide) (by omega)
          have c2 := c
          simp only [isDg, Bool.and_eq_true, Nat.ble_eq] at c2
          rw [show (10 : Int32) = nI 10 from rfl, show (48 : Int32) = nI 48 from rfl, nI_mulN, nI_addN, nI_subN (by omega) (by omega), show q + 1 - s = (q - s) + 1 by omega, seg, nv_app, show s + (q - s) = q by omega]
          congr 1
          omega) (by omega)
      refine ⟨A', ?_, ((Ag.rf.sI _ rfl).sI _ rfl).tr h2, by rw [h3, stp_go (by omega) c], by rw [stp_go (by omega) c]; exact h4⟩
      rw [← h1]
      show b_T_takeNumber_5 F G k (fx1 (b_T_takeNumber_5 F G k) g) A = _
      generalize fx1 (b_T_takeNumber_5 F G k) g = rec
      unfold b_T_takeNumber_5
      rw [ht.1, hn, if_neg (nI_ge (by omega) (by omega)), T_at ht (by omega), if_pos (by omega), bd_some, T_isDigit hc, if_pos c, bd_some, if_neg (by decide), bd_some]
      show rec (sI _ 2 2 (A.1 2 2 + 1)) = _
      rw [hn]
    · have e : stp isDg b n q = q := stp_no (fun z => c z.2)
      refine ⟨A, ?_, Ag.rf, by rw [hn, e], by rw [e]; exact ha⟩
      show b_T_takeNumber_5 F G k (fx1 (b_T_takeNumber_5 F G k) g) A = _
      generalize fx1 (b_T_takeNumber_5 F G k) g = rec
      unfold b_T_takeNumber_5
      rw [ht.1, hn, if_neg (nI_ge (by omega) (by omega)), T_at ht (by omega), if_pos (by omega), bd_some, T_isDigit (ht.2.2 q (by omega)).1, if_neg c, bd_some, if_pos rfl]
end CT
