/-! SAFETY: intervals of ints, the judgement Sf, the invariant of questions -/
def iv (x : Int32) (l u : Int) : Prop := l ≤ x.toInt ∧ x.toInt ≤ u
def qle (a b : Int) : Bool := decide (a ≤ b)
theorem qle_t {a b : Int} (h : qle a b = true) : a ≤ b := of_decide_eq_true h
theorem i32b {z : Int} (h1 : -2147483648 ≤ z) (h2 : z ≤ 2147483647) : z.bmod (2 ^ 32) = z := Int.bmod_eq_of_le (by omega) (by omega)
theorem tI_lo (x : Int32) : -2147483648 ≤ x.toInt := by have := Int32.le_toInt x; omega
theorem tI_hi (x : Int32) : x.toInt ≤ 2147483647 := by have := Int32.toInt_lt x; omega
theorem tI_pos {x : Int32} (h : 0 ≤ x.toInt) : x.toBitVec.toNat < 2 ^ 31 ∧ x.toInt = x.toBitVec.toNat := by
  have e : x.toInt = x.toBitVec.toInt := rfl
  rw [BitVec.toInt_eq_toNat_cond] at e
  have hl := x.toBitVec.isLt
  split at e <;> omega
theorem tI_nat {x : Int32} (h : x.toBitVec.toNat < 2 ^ 31) : x.toInt = x.toBitVec.toNat := by
  have e : x.toInt = x.toBitVec.toInt := rfl
  rw [BitVec.toInt_eq_toNat_cond] at e
  split at e <;> omega
theorem tI_nI {x : Int32} {l u : Int} (h : iv x l u) (h0 : 0 ≤ l) : ∃ j : Nat, x = nI j ∧ x.toInt = j ∧ l ≤ j ∧ (j : Int) ≤ u ∧ j < 2 ^ 31 := by
  obtain ⟨j, hj, e⟩ := nI_of (x := x) (Int32.not_lt.mpr (Int32.le_iff_toInt_le.mpr (by show (0 : Int) ≤ _; have := h.1; omega)))
  have e2 : x.toInt = j := by rw [e]; exact Int32.toInt_ofNat_of_lt hj
  have := h.1; have := h.2
  exact ⟨j, e, e2, by omega, by omega, hj⟩
theorem iv_top (x : Int32) : iv x (-2147483648) 2147483647 := ⟨tI_lo x, tI_hi x⟩
theorem iv_w {x : Int32} {l u l' u' : Int} (h : iv x l u) (e : (qle l' l && qle u u') = true) : iv x l' u' := by
  simp only [Bool.and_eq_true, qle, decide_eq_true_eq] at e
  exact ⟨Int.le_trans e.1 h.1, Int.le_trans h.2 e.2⟩
theorem iv_neg {x : Int32} {l1 u1 l u : Int} (h : iv x l1 u1) (e : (qle (-2147483647) l1 && qle l (-u1) && qle (-l1) u) = true) : iv (-x) l u := by
  simp only [Bool.and_eq_true, qle, decide_eq_true_eq] at e
  obtain ⟨h1, h2⟩ := h
  have := tI_hi x
  unfold iv
  rw [Int32.toInt_neg, i32b (by omega) (by omega)]
  omega
theorem iv_add {x y : Int32} {l1 u1 l2 u2 l u : Int} (h1 : iv x l1 u1) (h2 : iv y l2 u2) (e : (qle l (l1 + l2) && qle (u1 + u2) u && qle (-2147483648) l && qle u 2147483647) = true) : iv (x + y) l u := by
  simp only [Bool.and_eq_true, qle, decide_eq_true_eq] at e
  obtain ⟨a1, a2⟩ := h1
  obtain ⟨b1, b2⟩ := h2
  unfold iv
  rw [Int32.toInt_add, i32b (by omega) (by omega)]
  omega
theorem iv_sub {x y : Int32} {l1 u1 l2 u2 l u : Int} (h1 : iv x l1 u1) (h2 : iv y l2 u2) (e : (qle l (l1 - u2) && qle (u1 - l2) u && qle (-2147483648) l && qle u 2147483647) = true) : iv (x - y) l u := by
  simp only [Bool.and_eq_true, qle, decide_eq_true_eq] at e
  obtain ⟨a1, a2⟩ := h1
  obtain ⟨b1, b2⟩ := h2
  unfold iv
  rw [Int32.toInt_sub, i32b (by omega) (by omega)]
  omega
theorem iv_mul {x y : Int32} {l1 u1 l2 u2 l u : Int} (h1 : iv x l1 u1) (h2 : iv y l2 u2) (e : (qle 0 l1 && qle 0 l2 && qle l (l1 * l2) && qle (u1 * u2) u && qle u 2147483647) = true) : iv (x * y) l u := by
  simp only [Bool.and_eq_true, qle, decide_eq_true_eq] at e
  obtain ⟨a1, a2⟩ := h1
  obtain ⟨b1, b2⟩ := h2
  have c1 : x.toInt * y.toInt ≤ u1 * u2 := Int.mul_le_mul a2 b2 (by omega) (by omega)
  have c2 : l1 * l2 ≤ x.toInt * y.toInt := Int.mul_le_mul a1 b1 (by omega) (by omega)
  have c3 : 0 ≤ x.toInt * y.toInt := Int.mul_nonneg (by omega) (by omega)
  unfold iv
  rw [Int32.toInt_mul, i32b (by omega) (by omega)]
  omega
theorem iv_andR {x y : Int32} {l1 u1 u : Int} (h : iv y l1 u1) (e : (qle 0 l1 && qle u1 u) = true) : iv (x &&& y) 0 u := by
  simp only [Bool.and_eq_true, qle, decide_eq_true_eq] at e
  obtain ⟨b1, b2⟩ := h
  obtain ⟨c1, c2⟩ := tI_pos (x := y) (by omega)
  have hn : (x &&& y).toBitVec.toNat = x.toBitVec.toNat &&& y.toBitVec.toNat := by rw [Int32.toBitVec_and, BitVec.toNat_and]
  have hl : x.toBitVec.toNat &&& y.toBitVec.toNat ≤ y.toBitVec.toNat := Nat.and_le_right
  have := tI_nat (x := x &&& y) (by omega)
  unfold iv
  omega
theorem iv_andL {x y : Int32} {l1 u1 u : Int} (h : iv x l1 u1) (e : (qle 0 l1 && qle u1 u) = true) : iv (x &&& y) 0 u := by
  simp only [Bool.and_eq_true, qle, decide_eq_true_eq] at e
  obtain ⟨b1, b2⟩ := h
  obtain ⟨c1, c2⟩ := tI_pos (x := x) (by omega)
  have hn : (x &&& y).toBitVec.toNat = x.toBitVec.toNat &&& y.toBitVec.toNat := by rw [Int32.toBitVec_and, BitVec.toNat_and]
  have hl : x.toBitVec.toNat &&& y.toBitVec.toNat ≤ x.toBitVec.toNat := Nat.and_le_left
  have := tI_nat (x := x &&& y) (by omega)
  unfold iv
  omega
theorem iv_or {x y : Int32} {n : Nat} {l1 u1 l2 u2 u : Int} (h1 : iv x l1 u1) (h2 : iv y l2 u2) (e : (qle 0 l1 && qle 0 l2 && decide (n ≤ 31) && qle (u1 + 1) (2 ^ n : Nat) && qle (u2 + 1) (2 ^ n : Nat) && qle ((2 ^ n : Nat) - 1) u) = true) : iv (x ||| y) 0 u := by
  simp only [Bool.and_eq_true, qle, decide_eq_true_eq] at e
  obtain ⟨⟨⟨⟨⟨e1, e2⟩, e3⟩, e4⟩, e5⟩, e6⟩ := e
  obtain ⟨a1, a2⟩ := h1
  obtain ⟨b1, b2⟩ := h2
  obtain ⟨c1, c2⟩ := tI_pos (x := x) (by omega)
  obtain ⟨d1, d2⟩ := tI_pos (x := y) (by omega)
  have hn : (x ||| y).toBitVec.toNat = x.toBitVec.toNat ||| y.toBitVec.toNat := by rw [Int32.toBitVec_or, BitVec.toNat_or]
  have hl : x.toBitVec.toNat ||| y.toBitVec.toNat < 2 ^ n := Nat.or_lt_two_pow (by omega) (by omega)
  have h31 : (2 : Nat) ^ n ≤ 2 ^ 31 := Nat.pow_le_pow_right (by decide) e3
  have := tI_nat (x := x ||| y) (by omega)
  unfold iv
  omega
theorem iv_shl {x : Int32} {l1 u1 u : Int} (h : iv x l1 u1) (e : (qle 0 l1 && qle u1 30 && qle (2 ^ u1.toNat : Nat) u) = true) : iv (1 <<< (x &&& 31)) 1 u := by
  simp only [Bool.and_eq_true, qle, decide_eq_true_eq] at e
  obtain ⟨⟨e1, e2⟩, e3⟩ := e
  obtain ⟨j, rfl, h1, h2, h3, h4⟩ := tI_nI h e1
  have := (by decide +kernel : ∀ j, j < 31 → ((1 : Int32) <<< (nI j &&& 31)).toInt = (2 ^ j : Nat)) j (by omega)
  have hp : (2 : Nat) ^ j ≤ 2 ^ u1.toNat := Nat.pow_le_pow_right (by decide) (by omega)
  have hq : 0 < (2 : Nat) ^ j := Nat.pow_pos (by decide)
  unfold iv
  rw [this]
  omega
theorem iv_shb {b x : Int32} {l0 u0 l1 u1 u : Int} (h0 : iv b l0 u0) (h : iv x l1 u1) (e : (qle 0 l0 && qle u0 1 && qle 0 l1 && qle u1 30 && qle (2 ^ u1.toNat : Nat) u) = true) : iv (b <<< (x &&& 31)) 0 u := by
  simp only [Bool.and_eq_true, qle, decide_eq_true_eq] at e
  obtain ⟨⟨⟨⟨e1, e2⟩, e3⟩, e4⟩, e5⟩ := e
  obtain ⟨a1, a2⟩ := h0
  rcases (by omega : b.toInt = 0 ∨ b.toInt = 1) with q | q
  · have q : b = 0 := Int32.toInt_inj.mp q
    subst q
    obtain ⟨j, rfl, h1, h2, h3, h4⟩ := tI_nI h e3
    rw [(by decide +kernel : ∀ j, j < 31 → (0 : Int32) <<< (nI j &&& 31) = 0) j (by omega)]
    have : 0 < (2 : Nat) ^ u1.toNat := Nat.pow_pos (by decide)
    exact ⟨by decide, by show (0 : Int) ≤ u; omega⟩
  · have q : b = 1 := Int32.toInt_inj.mp q
    subst q
    have k := iv_shl (u := u) h (by simp only [Bool.and_eq_true, qle, decide_eq_true_eq]; exact ⟨⟨e3, e4⟩, e5⟩)
    exact ⟨by have := k.1; omega, k.2⟩
theorem iv_div {x c : Int32} {l1 u1 n u : Int} (h : iv x l1 u1) (hc : iv c n n) (e : (qle 0 l1 && qle 1 n && qle (u1 / n) u) = true) : iv (x / c) 0 u := by
  simp only [Bool.and_eq_true, qle, decide_eq_true_eq] at e
  obtain ⟨⟨e1, e2⟩, e3⟩ := e
  obtain ⟨a1, a2⟩ := h
  have hn : c.toInt = n := by have := hc.1; have := hc.2; omega
  have h0 : 0 ≤ x.toInt / n := Int.ediv_nonneg (by omega) (by omega)
  have h1 : x.toInt / n ≤ u1 / n := Int.ediv_le_ediv (by omega) a2
  have h2 : x.toInt / n ≤ x.toInt := Int.ediv_le_self n (by omega)
  have := tI_hi x
  unfold iv
  rw [Int32.toInt_div, hn, Int.tdiv_eq_ediv_of_nonneg (by omega), i32b (by omega) (by omega)]
  omega
theorem iv_rem {x c : Int32} {l1 u1 n u : Int} (h : iv x l1 u1) (hc : iv c n n) (e : (qle 0 l1 && qle 1 n && qle (n - 1) u) = true) : iv (x - x / c * c) 0 u := by
  simp only [Bool.and_eq_true, qle, decide_eq_true_eq] at e
  obtain ⟨⟨e1, e2⟩, e3⟩ := e
  obtain ⟨a1, a2⟩ := h
  have hn : c.toInt = n := by have := hc.1; have := hc.2; omega
  have h0 : 0 ≤ x.toInt / n := Int.ediv_nonneg (by omega) (by omega)
  have h2 : x.toInt / n ≤ x.toInt := Int.ediv_le_self n (by omega)
  have h3 := Int.mul_ediv_add_emod x.toInt n
  have h4 : 0 ≤ x.toInt % n := Int.emod_nonneg _ (by omega)
  have h5 : x.toInt % n < n := Int.emod_lt_of_pos _ (by omega)
  have h6 : x.toInt / n * n = n * (x.toInt / n) := Int.mul_comm _ _
  have h7 : 0 ≤ n * (x.toInt / n) := Int.mul_nonneg (by omega) h0
  have := tI_hi x
  unfold iv
  rw [Int32.toInt_sub, Int32.toInt_mul, Int32.toInt_div, hn, Int.tdiv_eq_ediv_of_nonneg (by omega), i32b (z := x.toInt / n) (by omega) (by omega), h6, i32b (z := n * (x.toInt / n)) (by omega) (by omega), i32b (by omega) (by omega)]
  omega
theorem iv_eqA {a b : Int32} {l u : Int} (c : a = b) (p : iv b l u) : iv a l u := by rw [c]; exact p
theorem iv_leA {a b : Int32} {l1 u1 l2 u2 l u : Int} (c : a ≤ b) (p : iv a l1 u1) (q : iv b l2 u2) (e : (qle l l1 && (qle u1 u || qle u2 u)) = true) : iv a l u := by
  simp only [Bool.and_eq_true, Bool.or_eq_true, qle, decide_eq_true_eq] at e
  have h := Int32.le_iff_toInt_le.mp c
  obtain ⟨a1, a2⟩ := p; obtain ⟨b1, b2⟩ := q
  unfold iv; omega
theorem iv_leB {a b : Int32} {l1 u1 l2 u2 l u : Int} (c : a ≤ b) (p : iv a l1 u1) (q : iv b l2 u2) (e : (qle u2 u && (qle l l1 || qle l l2)) = true) : iv b l u := by
  simp only [Bool.and_eq_true, Bool.or_eq_true, qle, decide_eq_true_eq] at e
  have h := Int32.le_iff_toInt_le.mp c
  obtain ⟨a1, a2⟩ := p; obtain ⟨b1, b2⟩ := q
  unfold iv; omega
theorem iv_ltA {a b : Int32} {l1 u1 l2 u2 l u : Int} (c : a < b) (p : iv a l1 u1) (q : iv b l2 u2) (e : (qle l l1 && (qle u1 u || qle (u2 - 1) u)) = true) : iv a l u := by
  simp only [Bool.and_eq_true, Bool.or_eq_true, qle, decide_eq_true_eq] at e
  have h := Int32.lt_iff_toInt_lt.mp c
  obtain ⟨a1, a2⟩ := p; obtain ⟨b1, b2⟩ := q
  unfold iv; omega
theorem iv_ltB {a b : Int32} {l1 u1 l2 u2 l u : Int} (c : a < b) (p : iv a l1 u1) (q : iv b l2 u2) (e : (qle u2 u && (qle l (l1 + 1) || qle l l2)) = true) : iv b l u := by
  simp only [Bool.and_eq_true, Bool.or_eq_true, qle, decide_eq_true_eq] at e
  have h := Int32.lt_iff_toInt_lt.mp c
  obtain ⟨a1, a2⟩ := p; obtain ⟨b1, b2⟩ := q
  unfold iv; omega
theorem iv_le0 {a b : Int32} {l1 u1 l2 u2 : Int} (c : a ≤ b) (p : iv a l1 u1) (q : iv b l2 u2) (e : qle (u2 + 1) l1 = true) : False := by
  have e := qle_t e
  have h := Int32.le_iff_toInt_le.mp c
  obtain ⟨a1, a2⟩ := p; obtain ⟨b1, b2⟩ := q
  omega
theorem iv_lt0 {a b : Int32} {l1 u1 l2 u2 : Int} (c : a < b) (p : iv a l1 u1) (q : iv b l2 u2) (e : qle u2 l1 = true) : False := by
  have e := qle_t e
  have h := Int32.lt_iff_toInt_lt.mp c
  obtain ⟨a1, a2⟩ := p; obtain ⟨b1, b2⟩ := q
  omega
theorem iv_neL {a b : Int32} {l1 u1 n l u : Int} (c : ¬ a = b) (p : iv a l1 u1) (q : iv b n n) (e : (qle n l1 && qle l (n + 1) && qle u1 u) = true) : iv a l u := by
  simp only [Bool.and_eq_true, qle, decide_eq_true_eq] at e
  have h : a.toInt ≠ b.toInt := fun z => c (Int32.toInt_inj.mp z)
  obtain ⟨a1, a2⟩ := p; obtain ⟨b1, b2⟩ := q
  unfold iv; omega
theorem iv_neU {a b : Int32} {l1 u1 n l u : Int} (c : ¬ a = b) (p : iv a l1 u1) (q : iv b n n) (e : (qle u1 n && qle (n - 1) u && qle l l1) = true) : iv a l u := by
  simp only [Bool.and_eq_true, qle, decide_eq_true_eq] at e
  have h : a.toInt ≠ b.toInt := fun z => c (Int32.toInt_inj.mp z)
  obtain ⟨a1, a2⟩ := p; obtain ⟨b1, b2⟩ := q
  unfold iv; omega
theorem inB_iv {i : Int32} {n : Nat} {l u : Int} (p : iv i l u) (e : (qle 0 l && qle (u + 1) n) = true) : inB i n = true := by
  simp only [Bool.and_eq_true, qle, decide_eq_true_eq] at e
  obtain ⟨a1, a2⟩ := p
  simp only [inB, Bool.and_eq_true, decide_eq_true_eq]
  refine ⟨Int32.le_iff_toInt_le.mpr (by show (0 : Int) ≤ _; omega), ?_⟩
  rw [← Int32.toNat_toInt]
  omega
theorem isB_iv {x : Int32} {l u : Int} (p : iv x l u) (e : (qle 0 l && qle u 1) = true) : isB x = true := by
  simp only [Bool.and_eq_true, qle, decide_eq_true_eq] at e
  obtain ⟨a1, a2⟩ := p
  simp only [isB, Bool.or_eq_true, decide_eq_true_eq]
  rcases (by omega : x.toInt = 0 ∨ x.toInt = 1) with h | h
  · exact Or.inl (Int32.toInt_inj.mp h)
  · exact Or.inr (Int32.toInt_inj.mp h)
theorem nz_of {x : Int32} (c : ¬ x = 0) : nz x = true := by simp only [nz, decide_eq_true_eq]; exact c
theorem isIn_iv {a b c v : Int32} {l1 u1 l2 u2 : Int} (p : iv b l1 u1) (q : iv c l2 u2) (k : ¬ v = 0 → b ≤ a ∧ a ≤ c) (h : ¬ v = 0) : iv a l1 u2 := by
  obtain ⟨h1, h2⟩ := k h
  have h1 := Int32.le_iff_toInt_le.mp h1
  have h2 := Int32.le_iff_toInt_le.mp h2
  exact ⟨Int.le_trans p.1 h1, Int.le_trans h2 q.2⟩
theorem ms_up {v w : Int32} {l u U M : Int} (e : v = w + 1) (h : iv w l u) (c : qle u 2147483646 = true) (hm : U - w.toInt ≤ M) : U - v.toInt + 1 ≤ M := by
  have c := qle_t c
  obtain ⟨a1, a2⟩ := h
  have := tI_lo w
  have e1 : (1 : Int32).toInt = 1 := rfl
  rw [e, Int32.toInt_add, e1, i32b (by omega) (by omega)]
  omega
theorem ms_dn {v w : Int32} {l u L M : Int} (e : v = w + -1) (h : iv w l u) (c : qle (-2147483647) l = true) (hm : w.toInt - L ≤ M) : v.toInt - L + 1 ≤ M := by
  have c := qle_t c
  obtain ⟨a1, a2⟩ := h
  have := tI_hi w
  have e1 : (-1 : Int32).toInt = -1 := rfl
  rw [e, Int32.toInt_add, e1, i32b (by omega) (by omega)]
  omega
theorem ms_iu {x : Int32} {l u U : Int} {F : Nat} (p : iv x l u) (hF : 100000 ≤ F) (e : qle (U - l + 1) 100000 = true) : U - x.toInt + 1 ≤ (F : Int) := by
  have e := qle_t e
  obtain ⟨a1, a2⟩ := p
  omega
theorem ms_id {x : Int32} {l u L : Int} {F : Nat} (p : iv x l u) (hF : 100000 ≤ F) (e : qle (u - L + 1) 100000 = true) : x.toInt - L + 1 ≤ (F : Int) := by
  have e := qle_t e
  obtain ⟨a1, a2⟩ := p
  omega
theorem ms_zu {w : Int32} {l u : Int} (h : iv w l u) (hm : u - w.toInt + 1 ≤ ((0 : Nat) : Int)) : False := by
  obtain ⟨a1, a2⟩ := h
  omega
theorem ms_zd {w : Int32} {l u : Int} (h : iv w l u) (hm : w.toInt - l + 1 ≤ ((0 : Nat) : Int)) : False := by
  obtain ⟨a1, a2⟩ := h
  omega
theorem ms_s {a : Int} {f : Nat} (hm : a + 1 ≤ ((f + 1 : Nat) : Int)) : a ≤ (f : Int) := by omega
theorem ms_p {y : Int32} {l u M : Int} (h : iv y l u) (hm : 11 - y.toInt ≤ M + 1) (c : qle u 2147483646 = true) : 11 - (y + 1).toInt ≤ M := by
  have c := qle_t c
  obtain ⟨a1, a2⟩ := h
  have := tI_lo y
  have e1 : (1 : Int32).toInt = 1 := rfl
  rw [Int32.toInt_add, e1, i32b (by omega) (by omega)]
  omega
/-! the judgement: it ends, and so -/
def Sf {α : Type} (x : Option α) (P : α → Prop) : Prop := ∃ r, x = some r ∧ P r
def Sf2 {α : Type} (x : Option (α × St)) (P : α → St → Prop) : Prop := ∃ r S, x = some (r, S) ∧ P r S
section SFR
variable {α β γ : Type} {P : α → Prop} {P2 : α → St → Prop} {Q : β → Prop} {Q2 : β → St → Prop}
theorem sf_some {a : α} (h : P a) : Sf (some a) P := ⟨a, rfl, h⟩
theorem sg_some {a : Int32} {S : St} {l u : Int} {C' : St → Prop} (h : iv a l u) (k : C' S) : Sf2 (some (a, S)) (fun r T => iv r l u ∧ C' T) := ⟨a, S, rfl, h, k⟩
theorem sf_ite {c : Prop} [Decidable c] {a b : Option α} (h1 : c → Sf a P) (h2 : ¬ c → Sf b P) : Sf (if c then a else b) P := by
  by_cases h : c
  · rw [if_pos h]; exact h1 h
  · rw [if_neg h]; exact h2 h
theorem sg_ite {c : Prop} [Decidable c] {a b : Option (α × St)} (h1 : c → Sf2 a P2) (h2 : ¬ c → Sf2 b P2) : Sf2 (if c then a else b) P2 := by
  by_cases h : c
  · rw [if_pos h]; exact h1 h
  · rw [if_neg h]; exact h2 h
theorem sf_gd {b : Bool} {x : Option α} (h : b = true) (k : Sf x P) : Sf (gd b x) P := by rw [gd_t h]; exact k
theorem sg_gd {b : Bool} {x : Option (α × St)} (h : b = true) (k : Sf2 x P2) : Sf2 (gd b x) P2 := by rw [gd_t h]; exact k
theorem sf_bd {x : Option β} {f : β → Option α} (h : Sf x Q) (k : ∀ a, Q a → Sf (f a) P) : Sf (bd x f) P := by
  obtain ⟨a, rfl, q⟩ := h
  exact k a q
theorem sg_bd {x : Option β} {f : β → Option (α × St)} (h : Sf x Q) (k : ∀ a, Q a → Sf2 (f a) P2) : Sf2 (bd x f) P2 := by
  obtain ⟨a, rfl, q⟩ := h
  exact k a q
theorem sf_bd2 {x : Option (β × St)} {f : β → St → Option α} (h : Sf2 x Q2) (k : ∀ a S, Q2 a S → Sf (f a S) P) : Sf (bd2 x f) P := by
  obtain ⟨a, S, rfl, q⟩ := h
  exact k a S q
theorem sg_bd2 {x : Option (β × St)} {f : β → St → Option (α × St)} (h : Sf2 x Q2) (k : ∀ a S, Q2 a S → Sf2 (f a S) P2) : Sf2 (bd2 x f) P2 := by
  obtain ⟨a, S, rfl, q⟩ := h
  exact k a S q
theorem sf_ltI {x : Int32} {l u : Int} {f : Int32 → Option α} (p : iv x l u) (k : ∀ v, iv v l u → v = x → Sf (f v) P) : Sf (lt x f) P := k x p rfl
theorem sg_ltI {x : Int32} {l u : Int} {f : Int32 → Option (α × St)} (p : iv x l u) (k : ∀ v, iv v l u → v = x → Sf2 (f v) P2) : Sf2 (lt x f) P2 := k x p rfl
theorem Sf.mono {x : Option α} {P' : α → Prop} (h : Sf x P) (k : ∀ a, P a → P' a) : Sf x P' := by
  obtain ⟨a, e, q⟩ := h
  exact ⟨a, e, k a q⟩
end SFR
/-! what questions keep: bounds of cells, the cells that they write -/
def scr (h k : Nat) : Bool := (h == 0 && k == 12) || ((h == 13 || h == 26) && k == 5) || (h == 15 || h == 16 || h == 28 || h == 29) || (h == 56 && (k == 2 || k == 3 || k == 4)) || (h == 57 && Nat.ble k 7) || (Nat.ble 58 h && Nat.ble h 66) || (h == 68 || h == 70 || h == 76 || h == 77) || (h == 69 && (k == 2 || k == 10 || k == 11)) || (h == 78 && k == 68) || (h == 86 || h == 87 || h == 101 || h == 102 || h == 103 || h == 105 || h == 106 || h == 107 || h == 113 || h == 114)
def bnd (h k : Nat) : Option (Int × Int) :=
  if (h == 4 || h == 17) then (if k == 5 then some (0, 4) else if k == 6 then some (0, 10) else none)
  else if (h == 13 || h == 26) then (if k == 1 then some (0, 270) else if k == 5 then some (0, 31) else none)
  else if h == 0 then (if k == 12 then some (0, 10) else none)
  else if h == 2 then (if k == 0 then some (0, 1600) else none)
  else if h == 57 then (if k == 0 then some (0, 12) else if k == 1 then some (0, 10) else none)
  else if h == 69 then (if k == 0 then some (0, 30) else if k == 1 then some (0, 100000) else if k == 10 then some (0, 30) else none)
  else if h == 51 then (if k == 0 then some (0, 40) else if k == 1 then some (0, 40) else none)
  else if h == 78 then (if k == 1 then some (0, 1600) else if k == 18 then some (0, 320) else if k == 46 then some (1, 12) else if k == 47 then some (0, 4) else if k == 48 then some (0, 10) else if k == 63 then some (0, 40) else if k == 64 then some (0, 40) else if k == 68 then some (0, 10) else if k == 74 then some (0, 30) else if k == 75 then some (0, 100000) else none)
  else if h == 95 then some (0, 3)
  else if h == 96 then some (0, 11)
  else if (h == 73 || h == 112 || h == 115) then some (0, 1)
  else none
def Bnd (S : St) : Prop := ∀ h k l u, bnd h k = some (l, u) → iv (S.1 h k) l u
/-- the height of the reference's stack before its s-th step -/
def hgt (S : St) : Nat → Int
  | 0 => 0
  | s + 1 => if S.1 83 s = 0 ∨ S.1 83 s = 1 then hgt S s + 1 else if S.1 83 s = 2 then hgt S s else hgt S s - 1
def WFm (S : St) : Prop := ∀ s : Nat, (s : Int) < (S.1 78 18).toInt → 0 ≤ hgt S s ∧ hgt S s ≤ 63 ∧ (S.1 83 s = 1 → iv (S.1 84 s) 0 5) ∧ (S.1 83 s = 2 → 1 ≤ hgt S s) ∧ (¬ S.1 83 s = 0 → ¬ S.1 83 s = 1 → ¬ S.1 83 s = 2 → 2 ≤ hgt S s)
def Told (S : St) : Prop := isSc S.2.2.1 = true ∧ S.2.2.2 = 21 - S.2.2.1 ∧ iv (S.1 S.2.2.1 0) 1 12
def ActM (S : St) : Prop := (S.1 78 63).toInt + (S.1 78 64).toInt ≤ 40
def Good (S : St) : Prop := Bnd S ∧ Told S ∧ WFm S ∧ ActM S
def Inv (C S : St) : Prop := Good C ∧ Bnd S ∧ S.2 = C.2 ∧ ∀ h k, scr h k = false → S.1 h k = C.1 h k
theorem Inv.rf {S : St} (h : Good S) : Inv S S := ⟨h, h.1, rfl, fun _ _ _ => rfl⟩
theorem sI_at {S : St} {h k : Nat} {x : Int32} {h' k' : Nat} : (sI S h k x).1 h' k' = if h' = h ∧ k' = k then x else S.1 h' k' := by
  by_cases e : h' = h
  · subst e
    by_cases e2 : k' = k
    · subst e2; simp [sI, upd]
    · simp [sI, upd, e2]
  · simp [sI, e]
theorem Bnd.st {S : St} (hS : Bnd S) {h k : Nat} {x : Int32} (hx : ∀ l u, bnd h k = some (l, u) → iv x l u) : Bnd (sI S h k x) := by
  intro h' k' l u e
  rw [sI_at]
  by_cases c : h' = h ∧ k' = k
  · obtain ⟨rfl, rfl⟩ := c
    rw [if_pos ⟨rfl, rfl⟩]
    exact hx l u e
  · rw [if_neg c]; exact hS h' k' l u e
theorem Inv.st0 {C S : St} (hS : Inv C S) {h k : Nat} {x : Int32} (hk : scr h k = true) (hx : ∀ l u, bnd h k = some (l, u) → iv x l u) : Inv C (sI S h k x) := by
  refine ⟨hS.1, hS.2.1.st hx, hS.2.2.1, fun h' k' hs => ?_⟩
  rw [sI_at, if_neg (fun c => by rw [c.1, c.2, hk] at hs; cases hs)]
  exact hS.2.2.2 h' k' hs
theorem Inv.st {C S : St} (hS : Inv C S) {h k : Nat} {x : Int32} {l u : Int} (hk : scr h k = true) (hb : bnd h k = some (l, u)) (hx : iv x l u) : Inv C (sI S h k x) :=
  hS.st0 hk fun l' u' e => by rw [hb] at e; cases e; exact hx
theorem Inv.stN {C S : St} (hS : Inv C S) {h k : Nat} {x : Int32} (hk : scr h k = true) (hb : bnd h k = none) : Inv C (sI S h k x) :=
  hS.st0 hk fun l' u' e => by rw [hb] at e; cases e
theorem Inv.told {C S : St} (hS : Inv C S) : S.2.2.1 = C.2.2.1 := by rw [hS.2.2.1]
theorem sco {C S : St} (hS : Inv C S) {o : Nat} (e : o = C.2.2.1) : isSc o = true := by rw [e]; exact hS.1.2.1.1
theorem sco_0 {C S : St} (hS : Inv C S) {o : Nat} (e : o = C.2.2.1) : iv (S.1 o 0) 1 12 := by
  have h := hS.1.2.1.2.2
  rw [← e] at h
  rcases isSc_or (sco hS e) with q | q <;> subst q <;> rw [hS.2.2.2 _ _ rfl] <;> exact h
theorem sco_5 {C S : St} (hS : Inv C S) {o : Nat} (e : o = C.2.2.1) : iv (S.1 o 5) 0 4 := by
  rcases isSc_or (sco hS e) with q | q <;> subst q <;> exact hS.2.1 _ _ _ _ rfl
theorem sco_6 {C S : St} (hS : Inv C S) {o : Nat} (e : o = C.2.2.1) : iv (S.1 o 6) 0 10 := by
  rcases isSc_or (sco hS e) with q | q <;> subst q <;> exact hS.2.1 _ _ _ _ rfl
theorem sco_fo {C S : St} (hS : Inv C S) {o : Nat} (e : o = C.2.2.1) : isFo (o + 9) = true := by
  rcases isSc_or (sco hS e) with q | q <;> subst q <;> rfl
theorem fo_1 {C S : St} (hS : Inv C S) {o : Nat} (e : isFo o = true) : iv (S.1 o 1) 0 270 := by
  rcases isFo_or e with q | q <;> subst q <;> exact hS.2.1 _ _ _ _ rfl
theorem fo_5 {C S : St} (hS : Inv C S) {o : Nat} (e : isFo o = true) : iv (S.1 o 5) 0 31 := by
  rcases isFo_or e with q | q <;> subst q <;> exact hS.2.1 _ _ _ _ rfl
theorem stF_5 {C S : St} (hS : Inv C S) {o : Nat} {x : Int32} (e : isFo o = true) (hx : iv x 0 31) : Inv C (sI S o 5 x) := by
  rcases isFo_or e with q | q <;> subst q <;> exact hS.st rfl rfl hx
theorem stFr_2 {C S : St} (hS : Inv C S) {o : Nat} {x : Int32} (e : isFo o = true) (k : Nat) {l u : Int} (_ : iv x l u) : Inv C (sI S (o + 2) k x) := by
  rcases isFo_or e with q | q <;> subst q <;> exact hS.stN rfl rfl
theorem stFr_3 {C S : St} (hS : Inv C S) {o : Nat} {x : Int32} (e : isFo o = true) (k : Nat) {l u : Int} (_ : iv x l u) : Inv C (sI S (o + 3) k x) := by
  rcases isFo_or e with q | q <;> subst q <;> exact hS.stN rfl rfl
theorem cyF_2 {S : St} {o k j : Nat} {x : Int32} {l u : Int} (h : iv (S.1 o j) l u) : iv ((sI S (o + 2) k x).1 o j) l u := by
  rw [sI_at, if_neg (by omega)]; exact h
theorem nwc {S : St} {h k : Nat} {x : Int32} {l u : Int} (p : iv x l u) : iv ((sI S h k x).1 h k) l u := by
  rw [sI_at, if_pos ⟨rfl, rfl⟩]; exact p
theorem isLa_iv {i : Int32} {l u : Int} (p : iv i l u) (e : (qle 0 l && qle u 2) = true) : isLa (36 + 5 * i.toNatClampNeg) = true := by
  simp only [Bool.and_eq_true, qle, decide_eq_true_eq] at e
  obtain ⟨a1, a2⟩ := p
  rw [← Int32.toNat_toInt]
  rcases (by omega : i.toInt = 0 ∨ i.toInt = 1 ∨ i.toInt = 2) with h | h | h <;> rw [h] <;> rfl
section SFS
variable {α : Type} {P : α → Prop} {P2 : α → St → Prop} {C T : St}
theorem sf_ltS {Q : St → Prop} {f : St → Option α} (h : Inv C T) (q : Q T) (k : ∀ T, Inv C T → Q T → Sf (f T) P) : Sf (lt T f) P := k T h q
theorem sf_ltS0 {f : St → Option α} (h : Inv C T) (k : ∀ T, Inv C T → Sf (f T) P) : Sf (lt T f) P := k T h
theorem sg_ltS {Q : St → Prop} {f : St → Option (α × St)} (h : Inv C T) (q : Q T) (k : ∀ T, Inv C T → Q T → Sf2 (f T) P2) : Sf2 (lt T f) P2 := k T h q
theorem sg_ltS0 {f : St → Option (α × St)} (h : Inv C T) (k : ∀ T, Inv C T → Sf2 (f T) P2) : Sf2 (lt T f) P2 := k T h
end SFS
