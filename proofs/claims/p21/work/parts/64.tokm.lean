/-! A TOKEN of the reference -/
def lys (h k : Nat) : Bool := h == 78 && (k == 4 || k == 6 || k == 7 || k == 8)
def lyl (h k : Nat) : Bool := h == 78 && k == 9
theorem lys_4 {h k : Nat} (e : lys h k = false) : (h == 78 && k == 4) = false := by
  cases c : (h == 78 && k == 4)
  · rfl
  · obtain ⟨rfl, rfl⟩ := eq2 c; cases e
theorem lys_8 {h k : Nat} (e : lys h k = false) : (h == 78 && k == 8) = false := by
  cases c : (h == 78 && k == 8)
  · rfl
  · obtain ⟨rfl, rfl⟩ := eq2 c; cases e
section MS
variable {F G : Nat} {A : St} {b : Nat → Nat} {n : Nat}
theorem M_here {p k : Nat} (ht : TapeM A b n) (hp : A.1 78 4 = nI p) (h31 : p + k < 2 ^ 31) : fM_here F G A (nI k) = some (if p + k < n then nI (b (p + k)) else -1) := by
  obtain ⟨h1, h2, h3⟩ := ht
  unfold fM_here
  rw [hp, h1, nI_addN]
  by_cases c : p + k < n
  · rw [if_neg (nI_ge c (by omega)), gd_t (inB_nI (by omega) (by decide)), nI_clamp h31, (h3 _ c).2, if_pos c]
  · rw [if_pos (nI_le (by omega) h31), if_neg c]
theorem M_here0 {p : Nat} (ht : TapeM A b n) (hp : A.1 78 4 = nI p) (h31 : p < 2 ^ 31) : fM_here F G A 0 = some (if p < n then nI (b p) else -1) := M_here (k := 0) ht hp h31
theorem M_isLetter {c : Nat} (hc : c < 256) : fM_isLetter F G A (nI c) = some (if isLt c = true then 1 else 0) := by
  unfold fM_isLetter
  exact (by decide +kernel : ∀ c, c < 256 → (if nI c < (97 : Int32) then some (0 : Int32) else if (122 : Int32) < nI c then some (0 : Int32) else some (1 : Int32)) = some (if isLt c = true then 1 else 0)) c hc
theorem M_isLetterM : fM_isLetter F G A (-1) = some 0 := by
  unfold fM_isLetter
  decide +kernel
theorem M_isDigit {c : Nat} (hc : c < 256) : fM_isDigit F G A (nI c) = some (if isDg c = true then 1 else 0) := by
  unfold fM_isDigit
  exact (by decide +kernel : ∀ c, c < 256 → (if nI c < (48 : Int32) then some (0 : Int32) else if (57 : Int32) < nI c then some (0 : Int32) else some (1 : Int32)) = some (if isDg c = true then 1 else 0)) c hc
theorem M_isDigitM : fM_isDigit F G A (-1) = some 0 := by
  unfold fM_isDigit
  decide +kernel
theorem M_isSign {c : Nat} (hc : c < 256) : fM_isSign F G A (nI c) = some (if isSg c = true then 1 else 0) := by
  unfold fM_isSign
  exact (by decide +kernel : ∀ c, c < 256 → (if nI c = (59 : Int32) then some (1 : Int32) else if nI c = (40 : Int32) then some (1 : Int32) else if nI c = (41 : Int32) then some (1 : Int32) else if nI c = (60 : Int32) then some (1 : Int32) else if nI c = (62 : Int32) then some (1 : Int32) else if nI c = (61 : Int32) then some (1 : Int32) else if nI c = (43 : Int32) then some (1 : Int32) else if nI c = (45 : Int32) then some (1 : Int32) else if nI c = (42 : Int32) then some (1 : Int32) else if nI c = (47 : Int32) then some (1 : Int32) else if nI c = (37 : Int32) then some (1 : Int32) else some (0 : Int32)) = some (if isSg c = true then 1 else 0)) c hc
theorem M_skip {k : St → Option St} : ∀ (r p f : Nat) (A : St), n - p = r → p ≤ n → A.1 78 4 = nI p → TapeM A b n → r < f → ∃ A', fx1 (b_M_token_0 F G k) f A = k A' ∧ Ag (fun h k => h == 78 && k == 4) (fun _ _ => false) A A' ∧ A'.1 78 4 = nI (stp isBk b n p) := by
  intro r
  induction r with
  | zero =>
    intro p f A hr hp hn ht hf
    have h16 := ht.2.1
    obtain ⟨g, rfl⟩ : ∃ g, f = g + 1 := ⟨f - 1, by omega⟩
    refine ⟨A, ?_, Ag.rf, by rw [hn, stp_no (by omega)]⟩
    rw [fx1_s]
    generalize fx1 (b_M_token_0 F G k) g = rec
    have hh := M_here (F := F) (G := G) (k := 0) ht hn (by omega)
    rw [if_neg (by omega)] at hh
    unfold b_M_token_0
    rw [show (0 : Int32) = nI 0 from rfl, hh, bd_some, if_neg (by decide), bd_some, if_neg (by decide)]
  | succ r ih =>
    intro p f A hr hp hn ht hf
    have h16 := ht.2.1
    obtain ⟨g, rfl⟩ : ∃ g, f = g + 1 := ⟨f - 1, by omega⟩
    have hh := M_here (F := F) (G := G) (k := 0) ht hn (by omega)
    rw [if_pos (by omega), Nat.add_zero] at hh
    have hc := (ht.2.2 p (by omega)).1
    rw [fx1_s]
    by_cases c : isBk (b p) = true
    · obtain ⟨A', h1, h2, h3⟩ := ih (p + 1) g (sI A 78 4 (nI p + 1)) (by omega) (by omega) (by rw [sI_self, nI_1]) (ht.ag ((Ag.rf (s := fun h k => h == 78 && k == 4) (l := fun _ _ => false)).sI _ rfl) rfl (fun _ => rfl)) (by omega)
      refine ⟨A', ?_, (Ag.rf.sI _ rfl).tr h2, by rw [h3, stp_go (by omega) c]⟩
      rw [← h1]
      generalize fx1 (b_M_token_0 F G k) g = rec
      unfold b_M_token_0 j_M_token_20
      rw [hn, show (0 : Int32) = nI 0 from rfl, hh, bd_some, bd_some]
      have : nI (b p) = 32 ∨ nI (b p) = 10 := (by decide +kernel : ∀ c, c < 256 → isBk c = true → nI c = 32 ∨ nI c = 10) _ hc c
      rcases this with e | e
      · rw [if_pos e]; rfl
      · by_cases e2 : nI (b p) = 32
        · rw [if_pos e2]; rfl
        · rw [if_neg e2, if_pos e]; rfl
    · refine ⟨A, ?_, Ag.rf, by rw [hn, stp_no (fun z => c z.2)]⟩
      generalize fx1 (b_M_token_0 F G k) g = rec
      unfold b_M_token_0
      have : ¬ nI (b p) = 32 ∧ ¬ nI (b p) = 10 := (by decide +kernel : ∀ c, c < 256 → ¬ isBk c = true → ¬ nI c = 32 ∧ ¬ nI c = 10) _ hc c
      rw [show (0 : Int32) = nI 0 from rfl, hh, bd_some, if_neg this.1, bd_some, if_neg this.2]
theorem M_wloop {s : Nat} {k : Int32 → St → Option St} : ∀ (r q f : Nat) (A : St), n - q = r → s ≤ q → q ≤ n → A.1 78 4 = nI s → TapeM A b n → (∀ i, s ≤ i → i < q → isLt (b i) = true) → (q - s ≤ 8 → A.2.1 78 9 = lN (p8 (seg b s (q - s)))) → r < f → ∃ A', fx2 (b_M_token_78 F G k) f (nI (q - s)) A = k (nI (stp isLt b n q - s)) A' ∧ Ag (fun _ _ => false) lyl A A' ∧ (stp isLt b n q - s ≤ 8 → A'.2.1 78 9 = lN (p8 (seg b s (stp isLt b n q - s)))) := by
  intro r
  induction r with
  | zero =>
    intro q f A hr hs hp hn ht hl ha hf
    have h16 := ht.2.1
    obtain ⟨g, rfl⟩ : ∃ g, f = g + 1 := ⟨f - 1, by omega⟩
    have e : stp isLt b n q = q := stp_no (by omega)
    refine ⟨A, ?_, Ag.rf, by rw [e]; exact ha⟩
    rw [fx2_s, e]
    generalize fx2 (b_M_token_78 F G k) g = rec
    unfold b_M_token_78
    rw [M_here ht hn (by omega), if_neg (by omega), bd_some, M_isLetterM, bd_some, if_pos rfl]
  | succ r ih =>
    intro q f A hr hs hp hn ht hl ha hf
    have h16 := ht.2.1
    obtain ⟨g, rfl⟩ : ∃ g, f = g + 1 := ⟨f - 1, by omega⟩
    have hh := M_here (F := F) (G := G) (k := q - s) ht hn (by omega)
    rw [if_pos (by omega), show s + (q - s) = q by omega] at hh
    have hc := (ht.2.2 q (by omega)).1
    by_cases c : isLt (b q) = true
    · have hl' : ∀ i, s ≤ i → i < q + 1 → isLt (b i) = true := fun i i1 i2 => by
        by_cases e : i = q
        · rw [e]; exact c
        · exact hl i i1 (by omega)
      rw [stp_go (by omega) c]
      by_cases h8 : q - s < 8
      · obtain ⟨A', h1, h2, h4⟩ := ih (q + 1) g (sL A 78 9 (((A.2.1 78 9) <<< ((8 : Int32).toInt64 &&& 63)) ||| (nI (b q)).toInt64)) (by omega) (by omega) (by omega) hn (ht.ag ((Ag.rf (s := fun _ _ => false) (l := lyl)).sL _ rfl) rfl (fun _ => rfl)) hl' (by
          intro _
          rw [sL_at, if_pos ⟨rfl, rfl⟩, ha (by omega), nI_l (n := b q) (by omega), show (8 : Int32) = nI 8 from rfl]
          have hlt := p8_lt (L := seg b s (q - s)) (seg_all _ (fun i i1 i2 => hl i i1 (by omega)))
          rw [seg_len] at hlt
          have h40 : (2 : Nat) ^ (8 * (q - s)) ≤ 2 ^ 56 := Nat.pow_le_pow_right (by decide) (by omega)
          rw [lN_acc (by decide) (by omega) (by omega), show q + 1 - s = (q - s) + 1 by omega, seg, p8_app, show s + (q - s) = q by omega]) (by omega)
        refine ⟨A', ?_, (Ag.rf.sL _ rfl).tr h2, h4⟩
        rw [← h1, fx2_s]
        generalize fx2 (b_M_token_78 F G k) g = rec
        unfold b_M_token_78
        rw [hh, bd_some, M_isLetter hc, if_pos c, bd_some, if_neg (by decide), show (8 : Int32) = nI 8 from rfl, if_neg (nI_ge h8 (by decide)), bd_some, lt_eq, lt_eq, nI_1, show q - s + 1 = q + 1 - s by omega]
      · obtain ⟨A', h1, h2, h4⟩ := ih (q + 1) g A (by omega) (by omega) (by omega) hn ht hl' (fun z => by omega) (by omega)
        refine ⟨A', ?_, h2, h4⟩
        rw [← h1, fx2_s]
        generalize fx2 (b_M_token_78 F G k) g = rec
        unfold b_M_token_78
        rw [hh, bd_some, M_isLetter hc, if_pos c, bd_some, if_neg (by decide), show (8 : Int32) = nI 8 from rfl, if_pos (nI_le (by omega) (by omega)), lt_eq, nI_1, show q - s + 1 = q + 1 - s by omega]
    · have e : stp isLt b n q = q := stp_no (fun z => c z.2)
      refine ⟨A, ?_, Ag.rf, by rw [e]; exact ha⟩
      rw [fx2_s, e]
      generalize fx2 (b_M_token_78 F G k) g = rec
      unfold b_M_token_78
      rw [hh, bd_some, M_isLetter hc, if_neg c, bd_some, if_pos rfl]
theorem M_nloop {s : Nat} {k : Int32 → St → Option St} : ∀ (r q f : Nat) (A : St), n - q = r → s ≤ q → q ≤ n → A.1 78 4 = nI s → TapeM A b n → (∀ i, s ≤ i → i < q → isDg (b i) = true) → (q - s ≤ 4 → A.1 78 8 = nI (nv (seg b s (q - s)))) → r < f → ∃ A', fx2 (b_M_token_144 F G k) f (nI (q - s)) A = k (nI (stp isDg b n q - s)) A' ∧ Ag (fun h k => h == 78 && k == 8) (fun _ _ => false) A A' ∧ (stp isDg b n q - s ≤ 4 → A'.1 78 8 = nI (nv (seg b s (stp isDg b n q - s)))) := by
  intro r
  induction r with
  | zero =>
    intro q f A hr hs hp hn ht hl ha hf
    have h16 := ht.2.1
    obtain ⟨g, rfl⟩ : ∃ g, f = g + 1 := ⟨f - 1, by omega⟩
    have e : stp isDg b n q = q := stp_no (by omega)
    refine ⟨A, ?_, Ag.rf, by rw [e]; exact ha⟩
    rw [fx2_s, e]
    generalize fx2 (b_M_token_144 F G k) g = rec
    unfold b_M_token_144
    rw [M_here ht hn (by omega), if_neg (by omega), bd_some, M_isDigitM, bd_some, if_pos rfl]
  | succ r ih =>
    intro q f A hr hs hp hn ht hl ha hf
    have h16 := ht.2.1
    obtain ⟨g, rfl⟩ : ∃ g, f = g + 1 := ⟨f - 1, by omega⟩
    have hh := M_here (F := F) (G := G) (k := q - s) ht hn (by omega)
    rw [if_pos (by omega), show s + (q - s) = q by omega] at hh
    have hc := (ht.2.2 q (by omega)).1
    by_cases c : isDg (b q) = true
    · have hl' : ∀ i, s ≤ i → i < q + 1 → isDg (b i) = true := fun i i1 i2 => by
        by_cases e : i = q
        · rw [e]; exact c
        · exact hl i i1 (by omega)
      rw [stp_go (by omega) c]
      by_cases h8 : q - s < 4
      · obtain ⟨A', h1, h2, h4⟩ := ih (q + 1) g (sI A 78 8 ((((10 : Int32) * (A.1 78 8)) + nI (b q)) - (48 : Int32))) (by omega) (by omega) (by omega) hn (ht.ag ((Ag.rf (s := fun h k => h == 78 && k == 8) (l := fun _ _ => false)).sI _ rfl) rfl (fun _ => rfl)) hl' (by
          intro _
          rw [sI_self, ha (by omega)]
          have hlt := nv_lt (L := seg b s (q - s)) (seg_all _ (fun i i1 i2 => hl i i1 (by omega)))
          rw [seg_len] at hlt
          have h40 : (10 : Nat) ^ (q - s) ≤ 10 ^ 3 := Nat.pow_le_pow_right (by decide) (by omega)
          have c2 := c
          simp only [isDg, Bool.and_eq_true, Nat.ble_eq] at c2
          rw [show (10 : Int32) = nI 10 from rfl, show (48 : Int32) = nI 48 from rfl, nI_mulN, nI_addN, nI_subN (by omega) (by omega), show q + 1 - s = (q - s) + 1 by omega, seg, nv_app, show s + (q - s) = q by omega]
          congr 1
          omega) (by omega)
        refine ⟨A', ?_, (Ag.rf.sI _ rfl).tr h2, h4⟩
        rw [← h1, fx2_s]
        generalize fx2 (b_M_token_144 F G k) g = rec
        unfold b_M_token_144
        rw [hh, bd_some, M_isDigit hc, if_pos c, bd_some, if_neg (by decide), show (4 : Int32) = nI 4 from rfl, if_neg (nI_ge h8 (by decide)), bd_some, lt_eq, lt_eq, nI_1, show q - s + 1 = q + 1 - s by omega]
      · obtain ⟨A', h1, h2, h4⟩ := ih (q + 1) g A (by omega) (by omega) (by omega) hn ht hl' (fun z => by omega) (by omega)
        refine ⟨A', ?_, h2, h4⟩
        rw [← h1, fx2_s]
        generalize fx2 (b_M_token_144 F G k) g = rec
        unfold b_M_token_144
        rw [hh, bd_some, M_isDigit hc, if_pos c, bd_some, if_neg (by decide), show (4 : Int32) = nI 4 from rfl, if_pos (nI_le (by omega) (by omega)), lt_eq, nI_1, show q - s + 1 = q + 1 - s by omega]
    · have e : stp isDg b n q = q := stp_no (fun z => c z.2)
      refine ⟨A, ?_, Ag.rf, by rw [e]; exact ha⟩
      rw [fx2_s, e]
      generalize fx2 (b_M_token_144 F G k) g = rec
      unfold b_M_token_144
      rw [hh, bd_some, M_isDigit hc, if_neg c, bd_some, if_pos rfl]
/-- the end of a token: the place behind it is taken, but not behind a wrong one -/
theorem M_tail {A0 B : St} {s m : Nat} {y : Int32} {t : Tk} (a : Ag lys lyl A0 B) (h4 : B.1 78 4 = nI s) (h7 : B.1 78 7 = nI s) (hy : y = sortM t) (hw : t.1 = 1 → B.2.1 78 9 = lN (p8 t.2.2)) (hv : t.1 = 2 → B.1 78 8 = nI t.2.1) (hk : TkOk t) : ∃ A', lt (sI B 78 6 y) (fun S => j_M_token_232 F G S (nI m)) = some A' ∧ Ag lys lyl A0 A' ∧ A'.1 78 7 = nI s ∧ A'.1 78 4 = nI (if t.1 = 4 then s else s + m) ∧ TkM A' t := by
  rw [lt_eq]
  unfold j_M_token_232
  rw [sI_self]
  by_cases c : t.1 = 4
  · have e : y = 3 := by rw [hy, sortM, if_neg (by omega), if_neg (by omega), if_neg (by omega), if_neg (by omega)]
    rw [if_pos e, if_pos c]
    exact ⟨_, rfl, a.sI _ rfl, h7, h4, by rw [sI_self]; exact hy, hw, hv⟩
  · have e : ¬ y = 3 := by
      rw [hy, sortM]
      obtain ⟨k1, k2, k3, k4⟩ := hk
      by_cases c0 : t.1 = 0
      · rw [if_pos c0]; decide
      · rw [if_neg c0]
        by_cases c1 : t.1 = 1
        · rw [if_pos c1]; decide
        · rw [if_neg c1]
          by_cases c2 : t.1 = 2
          · rw [if_pos c2]; decide
          · rw [if_neg c2, if_pos (by omega)]
            have := k4 (by omega)
            have hh : t.2.1 < 256 ∧ t.2.1 ≠ 3 := by
              simp only [isSg, Bool.or_eq_true, beq_iff_eq] at this
              omega
            rw [show (3 : Int32) = nI 3 from rfl, nI_eq (by omega) (by omega)]
            exact hh.2
    rw [if_neg e, if_neg c]
    refine ⟨_, rfl, (a.sI _ rfl).sI _ rfl, h7, ?_, ?_, hw, ?_⟩
    · rw [sI_self]
      show B.1 78 4 + nI m = _
      rw [h4, nI_addN]
    · exact hy
    · exact hv
/-- a token of the reference -/
theorem M_token (hF : 100000 ≤ F) {p : Nat} (ht : TapeM A b n) (hp : p ≤ n) (hn : A.1 78 4 = nI p) : ∃ A', fM_token F G A = some A' ∧ Ag lys lyl A A' ∧ A'.1 78 7 = nI (stp isBk b n p) ∧ A'.1 78 4 = nI (if (tkA b n (stp isBk b n p)).1 = 4 then stp isBk b n p else tkE b n (stp isBk b n p)) ∧ TkM A' (tkA b n (stp isBk b n p)) := by
  have h16 := ht.2.1
  obtain ⟨q1, q2⟩ := stp_bd (P := isBk) (b := b) hp
  unfold fM_token
  generalize hk : (fun S9 : St => lt (sI S9 78 7 (S9.1 78 4)) fun S10 => bd (fM_here F G S10 (0 : Int32)) fun v13 => lt (sL S10 78 9 (0 : Int64)) fun S14 => lt (sI S14 78 8 (0 : Int32)) fun S16 => if 0 ≤ v13 then bd (fM_isLetter F G S16 v13) fun v20 => if v20 = 0 then bd (fM_isDigit F G S16 v13) fun v23 => if v23 = 0 then bd (fM_isSign F G S16 v13) fun v26 => if v26 = 0 then j_M_token_229 F G  S16 (1 : Int32) (3 : Int32) else j_M_token_229 F G  S16 (1 : Int32) v13 else fx2 (b_M_token_144 F G  (fun v42 S43 => if (4 : Int32) < v42 then j_M_token_203 F G  S43 v42 else bd (fM_here F G S43 v42) fun v46 => bd (fM_isLetter F G S43 v46) fun v48 => if v48 = 0 then j_M_token_208 F G  S43 v42 (2 : Int32) else j_M_token_203 F G  S43 v42)) F (0 : Int32) S16 else fx2 (b_M_token_78 F G  (fun v64 S65 => if v64 ≤ (8 : Int32) then j_M_token_131 F G  S65 v64 (1 : Int32) else j_M_token_131 F G  S65 v64 (3 : Int32))) F (0 : Int32) S16 else lt (sI S16 78 6 (0 : Int32)) fun S67 => j_M_token_232 F G  S67 (0 : Int32)) = kk
  obtain ⟨B0, h1, h2, h3⟩ := M_skip (F := F) (G := G) (k := kk) (n - p) p F A rfl hp hn ht (by omega)
  rw [h1, ← hk]
  generalize hs : stp isBk b n p = s at *
  have a1 : Ag lys lyl A B0 := h2.mono (fun h k e => lys_4 e) (fun h k e => rfl)
  show ∃ A', (bd (fM_here F G (sI B0 78 7 (B0.1 78 4)) (0 : Int32)) _) = some A' ∧ _
  have hB7 : (sI B0 78 7 (B0.1 78 4)).1 78 7 = nI s := by rw [sI_self, h3]
  have hB4 : (sI B0 78 7 (B0.1 78 4)).1 78 4 = nI s := h3
  have a2 : Ag lys lyl A (sI B0 78 7 (B0.1 78 4)) := a1.sI _ rfl
  generalize sI B0 78 7 (B0.1 78 4) = B at *
  have hBt : TapeM B b n := ht.ag a2 rfl (fun _ => rfl)
  rw [M_here0 hBt hB4 (by omega), bd_some, lt_eq, lt_eq]
  have a3 : Ag lys lyl A (sI (sL B 78 9 0) 78 8 0) := (a2.sL _ rfl).sI _ rfl
  have hC7 : (sI (sL B 78 9 0) 78 8 0).1 78 7 = nI s := hB7
  have hC4 : (sI (sL B 78 9 0) 78 8 0).1 78 4 = nI s := hB4
  have hC9 : (sI (sL B 78 9 0) 78 8 0).2.1 78 9 = lN 0 := by
    show (sL B 78 9 0).2.1 78 9 = _
    rw [sL_at, if_pos ⟨rfl, rfl⟩]; rfl
  have hC8 : (sI (sL B 78 9 0) 78 8 0).1 78 8 = nI 0 := by rw [sI_self]; rfl
  generalize sI (sL B 78 9 0) 78 8 0 = C at *
  have hCt : TapeM C b n := ht.ag a3 rfl (fun _ => rfl)
  have hok := tkA_ok b (n := n) (s := s) q2
  by_cases c : s < n
  · have hc := (ht.2.2 s c).1
    have eA : tkA b n s = if isLt (b s) = true then tkW b n s else if isDg (b s) = true then tkN b n s else if isSg (b s) = true then (3, b s, []) else (4, 0, []) := by rw [tkA, if_pos c]
    have eE : tkE b n s = if isLt (b s) = true then stp isLt b n s else if isDg (b s) = true then stp isDg b n s else s + 1 := by rw [tkE, if_pos c]
    rw [if_pos c, if_pos (nI_pos' (by omega)), M_isLetter hc, bd_some]
    by_cases d : isLt (b s) = true
    · rw [if_pos d] at eA eE
      rw [if_pos d, if_neg (by decide)]
      obtain ⟨w1, w2, w3, w4⟩ := stp_ok (P := isLt) (b := b) _ s rfl q2
      have := M_wloop (F := F) (G := G) (s := s) (k := fun v64 S65 => if v64 ≤ (8 : Int32) then j_M_token_131 F G  S65 v64 (1 : Int32) else j_M_token_131 F G  S65 v64 (3 : Int32)) (n - s) s F C rfl (Nat.le_refl _) q2 hC4 hCt (fun i i1 i2 => by omega) (fun _ => by rw [Nat.sub_self]; exact hC9) (by omega)
      rw [Nat.sub_self] at this
      obtain ⟨D, x1, x2, x3⟩ := this
      rw [show (nI 0 : Int32) = 0 from rfl] at x1
      rw [x1]
      have aD : Ag lys lyl A D := a3.tr (x2.mono (fun _ _ _ => rfl) (fun _ _ e => e))
      have hD7 : D.1 78 7 = nI s := (x2.2.1 78 7 rfl).trans hC7
      have hD4 : D.1 78 4 = nI s := (x2.2.1 78 4 rfl).trans hC4
      rw [eA] at hok ⊢
      rw [eE]
      by_cases e : stp isLt b n s - s ≤ 8
      · have eW : tkW b n s = (1, 0, seg b s (stp isLt b n s - s)) := by rw [tkW, if_pos e]
        rw [eW] at hok ⊢
        rw [if_pos (show nI (stp isLt b n s - s) ≤ (8 : Int32) from nI_le (b := 8) e (by decide))]
        unfold j_M_token_131
        have := M_tail (F := F) (G := G) (m := stp isLt b n s - s) aD hD4 hD7 (y := 1) rfl (fun _ => x3 e) (fun z => by simp at z) hok
        rw [show s + (stp isLt b n s - s) = stp isLt b n s by omega] at this
        exact this
      · have eW : tkW b n s = (4, 0, []) := by rw [tkW, if_neg e]
        rw [eW] at hok ⊢
        rw [if_neg (show ¬ nI (stp isLt b n s - s) ≤ (8 : Int32) from nI_ge (a := 8) (by omega) (by omega))]
        unfold j_M_token_131
        have := M_tail (F := F) (G := G) (m := stp isLt b n s - s) aD hD4 hD7 (y := 3) rfl (fun z => by simp at z) (fun z => by simp at z) hok
        rw [show s + (stp isLt b n s - s) = stp isLt b n s by omega] at this
        exact this
    · rw [if_neg d] at eA eE
      rw [if_neg d, if_pos rfl, M_isDigit hc, bd_some]
      by_cases e : isDg (b s) = true
      · rw [if_pos e] at eA eE
        rw [if_pos e, if_neg (by decide)]
        obtain ⟨w1, w2, w3, w4⟩ := stp_ok (P := isDg) (b := b) _ s rfl q2
        have := M_nloop (F := F) (G := G) (s := s) (k := fun v42 S43 => if (4 : Int32) < v42 then j_M_token_203 F G  S43 v42 else bd (fM_here F G S43 v42) fun v46 => bd (fM_isLetter F G S43 v46) fun v48 => if v48 = 0 then j_M_token_208 F G  S43 v42 (2 : Int32) else j_M_token_203 F G  S43 v42) (n - s) s F C rfl (Nat.le_refl _) q2 hC4 hCt (fun i i1 i2 => by omega) (fun _ => by rw [Nat.sub_self]; exact hC8) (by omega)
        rw [Nat.sub_self] at this
        obtain ⟨D, x1, x2, x3⟩ := this
        rw [show (nI 0 : Int32) = 0 from rfl] at x1
        rw [x1]
        have aD : Ag lys lyl A D := a3.tr (x2.mono (fun _ _ e => lys_8 e) (fun _ _ _ => rfl))
        have hD7 : D.1 78 7 = nI s := (x2.2.1 78 7 rfl).trans hC7
        have hD4 : D.1 78 4 = nI s := (x2.2.1 78 4 rfl).trans hC4
        have hDt : TapeM D b n := ht.ag aD rfl (fun _ => rfl)
        have bad : ∃ A', j_M_token_203 F G D (nI (stp isDg b n s - s)) = some A' ∧ Ag lys lyl A A' ∧ A'.1 78 7 = nI s ∧ A'.1 78 4 = nI (if ((4, 0, []) : Tk).1 = 4 then s else stp isDg b n s) ∧ TkM A' (4, 0, []) := by
          unfold j_M_token_203 j_M_token_208
          have := M_tail (F := F) (G := G) (m := stp isDg b n s - s) (t := (4, 0, [])) aD hD4 hD7 (y := 3) rfl (fun z => by simp at z) (fun z => by simp at z) ⟨by simp, fun z => by simp at z, fun z => by simp at z, fun z => by simp at z⟩
          rw [show s + (stp isDg b n s - s) = stp isDg b n s by omega] at this
          exact this
        rw [eA] at hok ⊢
        rw [eE]
        by_cases g : stp isDg b n s - s ≤ 4
        · rw [if_neg (fun z => by rw [show (4 : Int32) = nI 4 from rfl, nI_ltI (by decide) (by omega)] at z; omega), M_here hDt hD4 (by omega), bd_some, show s + (stp isDg b n s - s) = stp isDg b n s by omega]
          have good : ¬ (stp isDg b n s < n ∧ isLt (b (stp isDg b n s)) = true) → TkOk (2, nv (seg b s (stp isDg b n s - s)), []) → ∃ A', j_M_token_208 F G D (nI (stp isDg b n s - s)) 2 = some A' ∧ Ag lys lyl A A' ∧ A'.1 78 7 = nI s ∧ A'.1 78 4 = nI (if ((2, nv (seg b s (stp isDg b n s - s)), []) : Tk).1 = 4 then s else stp isDg b n s) ∧ TkM A' (2, nv (seg b s (stp isDg b n s - s)), []) := by
            intro _ hk2
            unfold j_M_token_208
            have := M_tail (F := F) (G := G) (m := stp isDg b n s - s) (t := (2, nv (seg b s (stp isDg b n s - s)), [])) aD hD4 hD7 (y := 2) rfl (fun z => by simp at z) (fun _ => x3 g) hk2
            rw [show s + (stp isDg b n s - s) = stp isDg b n s by omega] at this
            exact this
          by_cases i : stp isDg b n s < n
          · rw [if_pos i, M_isLetter (ht.2.2 _ i).1, bd_some]
            by_cases j : isLt (b (stp isDg b n s)) = true
            · have eN : tkN b n s = (4, 0, []) := by rw [tkN, if_neg (fun z => z.2 ⟨i, j⟩)]
              rw [if_pos j, if_neg (by decide), eN]
              exact bad
            · have hcond : stp isDg b n s - s ≤ 4 ∧ ¬ (stp isDg b n s < n ∧ isLt (b (stp isDg b n s)) = true) := ⟨g, fun z => j z.2⟩
              have eN : tkN b n s = (2, nv (seg b s (stp isDg b n s - s)), []) := by rw [tkN, if_pos hcond]
              rw [eN] at hok ⊢
              rw [if_neg j, if_pos rfl]
              exact good hcond.2 hok
          · have hcond : stp isDg b n s - s ≤ 4 ∧ ¬ (stp isDg b n s < n ∧ isLt (b (stp isDg b n s)) = true) := ⟨g, fun z => i z.1⟩
            have eN : tkN b n s = (2, nv (seg b s (stp isDg b n s - s)), []) := by rw [tkN, if_pos hcond]
            rw [eN] at hok ⊢
            rw [if_neg i, M_isLetterM, bd_some, if_pos rfl]
            exact good hcond.2 hok
        · rw [if_pos (show (4 : Int32) < nI (stp isDg b n s - s) from nI_lt (a := 4) (by omega) (by omega)), show tkN b n s = (4, 0, []) by rw [tkN, if_neg (fun z => g z.1)]]
          exact bad
      · rw [if_neg e] at eA eE
        rw [if_neg e, if_pos rfl, M_isSign hc, bd_some]
        rw [eA] at hok ⊢
        rw [eE]
        unfold j_M_token_229
        by_cases g : isSg (b s) = true
        · have eS : (if isSg (b s) = true then ((3, b s, []) : Tk) else (4, 0, [])) = (3, b s, []) := if_pos g
          rw [eS] at hok ⊢
          rw [if_pos g, if_neg (by decide)]
          exact M_tail (F := F) (G := G) (m := 1) a3 hC4 hC7 rfl (fun z => by simp at z) (fun z => by simp at z) hok
        · have eS : (if isSg (b s) = true then ((3, b s, []) : Tk) else (4, 0, [])) = (4, 0, []) := if_neg g
          rw [eS] at hok ⊢
          rw [if_neg g, if_pos rfl]
          exact M_tail (F := F) (G := G) (m := 1) a3 hC4 hC7 rfl (fun z => by simp at z) (fun z => by simp at z) hok
  · have eA : tkA b n s = (0, 0, []) := by rw [tkA, if_neg c]
    have eE : tkE b n s = s := by rw [tkE, if_neg c]
    rw [eA] at hok ⊢
    rw [eE]
    rw [if_neg c, if_neg (by decide)]
    exact M_tail (F := F) (G := G) (m := 0) a3 hC4 hC7 rfl (fun z => by simp at z) (fun z => by simp at z) hok
end MS
