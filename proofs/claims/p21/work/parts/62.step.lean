/-! TOKENS of the class: words by their numbers, signs; a step -/
theorem fx1_s {A1 R : Type} {body : (A1 → Option R) → A1 → Option R} {f : Nat} {a1 : A1} : fx1 body (f + 1) a1 = body (fx1 body f) a1 := rfl
theorem fx2_s {A1 A2 R : Type} {body : (A1 → A2 → Option R) → A1 → A2 → Option R} {f : Nat} {a1 : A1} {a2 : A2} : fx2 body (f + 1) a1 a2 = body (fx2 body f) a1 a2 := rfl
theorem mem_32 {L : List Nat} (h : ∀ c, c ∈ L → c ≠ 32) {j : Nat} : L.getD j 32 = 32 ↔ L.length ≤ j := by
  rw [List.getD_eq_getElem?_getD]
  by_cases c : j < L.length
  · rw [List.getElem?_eq_getElem c]
    constructor
    · intro e; exact absurd e (h _ (List.getElem_mem c))
    · intro e; omega
  · rw [List.getElem?_eq_none (by omega)]
    constructor
    · intro _; omega
    · intro _; rfl
theorem getD_ext {L M : List Nat} (h1 : ∀ c, c ∈ L → c ≠ 32) (h2 : ∀ c, c ∈ M → c ≠ 32) (hl : L.length ≤ 8) (hm : M.length ≤ 8) (h : ∀ j, j < 8 → M.getD j 32 = L.getD j 32) : L = M := by
  have hlen : L.length = M.length := by
    by_cases c : L.length < M.length
    · have e1 := (mem_32 h1 (j := L.length)).mpr (Nat.le_refl _)
      rw [← h _ (by omega)] at e1
      have := (mem_32 h2).mp e1
      omega
    · by_cases c2 : M.length < L.length
      · have e1 := (mem_32 h2 (j := M.length)).mpr (Nat.le_refl _)
        rw [h _ (by omega)] at e1
        have := (mem_32 h1).mp e1
        omega
      · omega
  apply List.ext_getElem hlen
  intro j a1 a2
  have e := h j (by omega)
  rw [List.getD_eq_getElem?_getD, List.getD_eq_getElem?_getD, List.getElem?_eq_getElem a1, List.getElem?_eq_getElem a2] at e
  exact e.symm
def mtc (b : Nat → Nat) (s q num : Nat) : Nat → Nat → Bool
  | 0, _ => true
  | r + 1, i => decide ((kwL num).getD i 32 = (if s + i < q then b (s + i) else 32)) && mtc b s q num r (i + 1)
theorem mtc_all {b : Nat → Nat} {s q num : Nat} : ∀ r i, mtc b s q num r i = true ↔ ∀ j, i ≤ j → j < i + r → (kwL num).getD j 32 = (if s + j < q then b (s + j) else 32) := by
  intro r
  induction r with
  | zero => intro i; simp only [mtc, true_iff]; intro j h1 h2; omega
  | succ r ih =>
    intro i
    simp only [mtc, Bool.and_eq_true, decide_eq_true_eq, ih (i + 1)]
    constructor
    · rintro ⟨h1, h2⟩ j a1 a2
      by_cases e : j = i
      · rw [e]; exact h1
      · exact h2 j (by omega) (by omega)
    · intro h
      exact ⟨h i (by omega) (by omega), fun j a1 a2 => h j (by omega) (by omega)⟩
theorem kw_ok : ∀ i, i < 21 → (kwL i).length ≤ 8 ∧ ∀ c, c ∈ kwL i → isLt c = true := by decide +kernel
theorem lt_32 {c : Nat} (h : isLt c = true) : c ≠ 32 := by
  simp only [isLt, Bool.and_eq_true, Nat.ble_eq] at h
  omega
theorem mtc_iff {b : Nat → Nat} {s q num : Nat} (hn : num < 21) (hq : q - s ≤ 8) (hl : ∀ i, s ≤ i → i < q → isLt (b i) = true) : mtc b s q num 8 0 = true ↔ seg b s (q - s) = kwL num := by
  have hsg : ∀ c, c ∈ seg b s (q - s) → isLt c = true := seg_all _ (fun i i1 i2 => hl i i1 (by omega))
  have hget : ∀ j, (seg b s (q - s)).getD j 32 = (if s + j < q then b (s + j) else 32) := by
    intro j
    rw [seg_get]
    by_cases c : s + j < q
    · rw [if_pos c, if_pos (by omega)]
    · rw [if_neg c, if_neg (by omega)]
  rw [mtc_all]
  constructor
  · intro h
    refine getD_ext (fun c hc => lt_32 (hsg c hc)) (fun c hc => lt_32 ((kw_ok num hn).2 c hc)) (by rw [seg_len]; exact hq) (kw_ok num hn).1 (fun j hj => ?_)
    rw [hget, h j (by omega) (by omega)]
  · intro h j _ _
    rw [← h, hget]
section CW
variable {F G : Nat} {S : St} {b : Nat → Nat} {n : Nat}
theorem J_char {i j : Nat} (hi : i < 21) (hj : j < 8) : fJ_charAt F G S 0 (nI (8 * i + j)) = some (nI ((kwL i).getD j 32)) := by
  unfold fJ_charAt fJ_isLatin1 fJ_charAt2 fJ_checkIndex fJ_checkIndex3
  exact (by decide +kernel : ∀ i, i < 21 → ∀ j, j < 8 → (gd (decide (0 < 2)) (bd (gd (decide (0 < 2)) (if (1 : Int32) = 0 then some (0 : Int32) else if (0 : Int32) = 0 then some (1 : Int32) else some (0 : Int32))) fun v2 => if v2 = 0 then none else bd (gd (decide (0 < 2)) (bd (bd (if nI (8 * i + j) < 0 then none else if nI (8 * i + j) < (Int32.ofNat (lenS.getD 0 0)) then some (nI (8 * i + j)) else none) fun v2 => some ()) fun v2 => gd (inB (nI (8 * i + j)) (lenS.getD 0 0)) (gd (decide (narrow .char (.int (((((bytS.getD 0 []).getD (nI (8 * i + j)).toNatClampNeg 0) &&& (255 : Int32)).toUInt32 % 65536).toInt32)) = .int (((((bytS.getD 0 []).getD (nI (8 * i + j)).toNatClampNeg 0) &&& (255 : Int32)).toUInt32 % 65536).toInt32))) (some (((((bytS.getD 0 []).getD (nI (8 * i + j)).toNatClampNeg 0) &&& (255 : Int32)).toUInt32 % 65536).toInt32))))) fun v5 => gd (decide (narrow .char (.int v5) = .int v5)) (some v5))) = some (nI ((kwL i).getD j 32))) i hi j hj
theorem J_len : fJ_length F G S 0 = some (nI 168) := by
  unfold fJ_length fJ_coder
  decide +kernel
theorem W_key {s q num r i c : Nat} {z3 : Int32} {k : Int32 → Option Int32} {rec : Int32 → Int32 → Option Int32} (hnum : num < 21) (hi : i < 8) (hc : c < 128) (ih : rec 1 (nI (i + 1)) = k (if mtc b s q num r (i + 1) = true then 1 else 0)) (h0 : ∀ w6, rec 0 w6 = k 0) : j_W_numberOf_86 F G S (nI s) (nI q) z3 (nI (8 * num)) k rec S (nI i) (nI c) = k (if (decide ((kwL num).getD i 32 = c) && mtc b s q num r (i + 1)) = true then 1 else 0) := by
  have hk : (kwL num).getD i 32 < 128 := (by decide +kernel : ∀ num, num < 21 → ∀ i, i < 8 → (kwL num).getD i 32 < 128) num hnum i hi
  unfold j_W_numberOf_86
  rw [nI_addN, J_char hnum hi, bd_some]
  generalize (kwL num).getD i 32 = a at hk
  by_cases e : a = c
  · rw [if_pos (by rw [e]), lt_eq, nI_1, ih, decide_eq_true e, Bool.true_and]
  · rw [if_neg (fun z => e ((nI_eq (Nat.lt_trans hk (by decide)) (Nat.lt_trans hc (by decide))).mp z)), lt_eq, h0, decide_eq_false e, Bool.false_and]
    rfl
theorem W_s0 {s q num i : Nat} {z3 : Int32} {k : Int32 → Option Int32} {rec : Int32 → Int32 → Option Int32} (hnum : num < 21) (hi8 : i < 8) (hs : s + i < 2 ^ 31) : b_W_numberOf_28 F G S (nI s) (nI q) z3 (nI (8 * num)) k rec 1 (nI i) = if nI q ≤ nI (s + i) then j_W_numberOf_86 F G S (nI s) (nI q) z3 (nI (8 * num)) k rec S (nI i) (nI 32) else if nI 1600 ≤ nI (s + i) then j_W_numberOf_86 F G S (nI s) (nI q) z3 (nI (8 * num)) k rec S (nI i) (nI 32) else gd (inB (nI (s + i)) 1600) (j_W_numberOf_86 F G S (nI s) (nI q) z3 (nI (8 * num)) k rec S (nI i) (S.1 3 (nI (s + i)).toNatClampNeg)) := by
  have h168 : 8 * num + i < 168 := by omega
  unfold b_W_numberOf_28 j_W_numberOf_84
  rw [if_neg (by decide), show (8 : Int32) = nI 8 from rfl, if_neg (nI_ge hi8 (by decide)), J_len, bd_some, nI_addN, if_neg (nI_ge h168 (by decide)), nI_addN, lt_eq, if_neg (nI_pos hs)]
  rfl
theorem W_s1 {s q num r i : Nat} {z3 : Int32} {k : Int32 → Option Int32} {rec : Int32 → Int32 → Option Int32} (ht : TapeC S b n) (hnum : num < 21) (hi8 : i < 8) (hq : q ≤ n) (hl : ∀ i, s ≤ i → i < q → isLt (b i) = true) (c : s + i < q) (ih : rec 1 (nI (i + 1)) = k (if mtc b s q num r (i + 1) = true then 1 else 0)) (h0 : ∀ w6, rec 0 w6 = k 0) : b_W_numberOf_28 F G S (nI s) (nI q) z3 (nI (8 * num)) k rec 1 (nI i) = k (if mtc b s q num (r + 1) i = true then 1 else 0) := by
  have h16 := ht.2.1
  have hc := hl (s + i) (by omega) c
  have hc2 : b (s + i) < 128 := by
    simp only [isLt, Bool.and_eq_true, Nat.ble_eq] at hc
    omega
  rw [W_s0 hnum hi8 (by omega), if_neg (nI_ge c (by omega)), if_neg (nI_ge (by omega) (by decide)), gd_t (inB_nI (by omega) (by decide)), nI_clamp (by omega), (ht.2.2 (s + i) (by omega)).2, (by decide +kernel : ∀ c, c < 128 → (nI c).toInt8.toInt32 = nI c) _ hc2, W_key hnum hi8 hc2 ih h0, mtc, if_pos c]
theorem W_s2 {s q num r i : Nat} {z3 : Int32} {k : Int32 → Option Int32} {rec : Int32 → Int32 → Option Int32} (hnum : num < 21) (hi8 : i < 8) (hq : s + i < 2 ^ 31) (c : ¬ s + i < q) (ih : rec 1 (nI (i + 1)) = k (if mtc b s q num r (i + 1) = true then 1 else 0)) (h0 : ∀ w6, rec 0 w6 = k 0) : b_W_numberOf_28 F G S (nI s) (nI q) z3 (nI (8 * num)) k rec 1 (nI i) = k (if mtc b s q num (r + 1) i = true then 1 else 0) := by
  rw [W_s0 hnum hi8 hq, if_pos (nI_le (Nat.not_lt.mp c) hq), W_key hnum hi8 (by decide) ih h0, mtc, if_neg c]
theorem W_i0 {s q num i g : Nat} {z3 : Int32} {k : Int32 → Option Int32} (hi : i = 8) : fx2 (b_W_numberOf_28 F G S (nI s) (nI q) z3 (nI (8 * num)) k) (g + 1) 1 (nI i) = k 1 := by
  subst hi
  show b_W_numberOf_28 F G S (nI s) (nI q) z3 (nI (8 * num)) k (fx2 (b_W_numberOf_28 F G S (nI s) (nI q) z3 (nI (8 * num)) k) g) 1 (nI 8) = _
  generalize fx2 (b_W_numberOf_28 F G S (nI s) (nI q) z3 (nI (8 * num)) k) g = rec
  unfold b_W_numberOf_28
  rw [if_neg (by decide), if_pos (by decide)]
theorem W_i1 {s q num g : Nat} {z3 : Int32} {k : Int32 → Option Int32} (w6 : Int32) : fx2 (b_W_numberOf_28 F G S (nI s) (nI q) z3 (nI (8 * num)) k) (g + 1) 0 w6 = k 0 := by
  show b_W_numberOf_28 F G S (nI s) (nI q) z3 (nI (8 * num)) k (fx2 (b_W_numberOf_28 F G S (nI s) (nI q) z3 (nI (8 * num)) k) g) 0 w6 = _
  generalize fx2 (b_W_numberOf_28 F G S (nI s) (nI q) z3 (nI (8 * num)) k) g = rec
  unfold b_W_numberOf_28
  rw [if_pos rfl]
theorem W_i2 {s q num g r i : Nat} {z3 : Int32} {k : Int32 → Option Int32} (ht : TapeC S b n) (hnum : num < 21) (hi8 : i < 8) (hs : s ≤ q) (hq : q ≤ n) (hl : ∀ i, s ≤ i → i < q → isLt (b i) = true) (ih : fx2 (b_W_numberOf_28 F G S (nI s) (nI q) z3 (nI (8 * num)) k) (g + 1) 1 (nI (i + 1)) = k (if mtc b s q num r (i + 1) = true then 1 else 0)) : fx2 (b_W_numberOf_28 F G S (nI s) (nI q) z3 (nI (8 * num)) k) (g + 1 + 1) 1 (nI i) = k (if mtc b s q num (r + 1) i = true then 1 else 0) := by
  have h16 := ht.2.1
  have hm : s + i < 2 ^ 31 := by omega
  have h0 := fun w6 => W_i1 (F := F) (G := G) (S := S) (s := s) (q := q) (num := num) (g := g) (z3 := z3) (k := k) w6
  rw [fx2_s]
  generalize fx2 (b_W_numberOf_28 F G S (nI s) (nI q) z3 (nI (8 * num)) k) (g + 1) = rec at ih h0
  by_cases c : s + i < q
  · exact W_s1 ht hnum hi8 hq hl c ih h0
  · exact W_s2 hnum hi8 hm c ih h0
theorem W_in {s q num : Nat} {z3 : Int32} {k : Int32 → Option Int32} (ht : TapeC S b n) (hnum : num < 21) (hs : s ≤ q) (hq : q ≤ n) (hl : ∀ i, s ≤ i → i < q → isLt (b i) = true) : ∀ r i f, 8 - i = r → i ≤ 8 → r + 1 < f → fx2 (b_W_numberOf_28 F G S (nI s) (nI q) z3 (nI (8 * num)) k) f 1 (nI i) = k (if mtc b s q num r i = true then 1 else 0) := by
  intro r
  induction r with
  | zero =>
    intro i f hr hi hf
    obtain ⟨g, rfl⟩ : ∃ g, f = g + 1 := ⟨f - 1, by omega⟩
    rw [W_i0 (by omega), mtc, if_pos rfl]
  | succ r ih =>
    intro i f hr hi hf
    obtain ⟨g, rfl⟩ : ∃ g, f = g + 1 + 1 := ⟨f - 2, by omega⟩
    exact W_i2 ht hnum (by omega) hs hq hl (ih (i + 1) (g + 1) (by omega) (by omega) (by omega))
theorem W_out {s q : Nat} (hF : 100000 ≤ F) (ht : TapeC S b n) (hs : s ≤ q) (hq : q ≤ n) (h8 : q - s ≤ 8) (hl : ∀ i, s ≤ i → i < q → isLt (b i) = true) : ∀ r i f, 21 - i = r → i ≤ 21 → r < f → fx1 (b_W_numberOf_2 F G S (nI s) (nI q)) f (nI i) = some (wv (kwf r i (seg b s (q - s)))) := by
  have h16 := ht.2.1
  intro r
  induction r with
  | zero =>
    intro i f hr hi hf
    obtain ⟨g, rfl⟩ : ∃ g, f = g + 1 := ⟨f - 1, by omega⟩
    show b_W_numberOf_2 F G S (nI s) (nI q) (fx1 _ g) (nI i) = _
    unfold b_W_numberOf_2
    rw [show (20 : Int32) = nI 20 from rfl, if_pos (nI_lt (by omega) (by omega))]
    rfl
  | succ r ih =>
    intro i f hr hi hf
    obtain ⟨g, rfl⟩ : ∃ g, f = g + 1 := ⟨f - 1, by omega⟩
    have ih := ih (i + 1) g (by omega) (by omega) (by omega)
    show b_W_numberOf_2 F G S (nI s) (nI q) (fx1 (b_W_numberOf_2 F G S (nI s) (nI q)) g) (nI i) = _
    generalize fx1 (b_W_numberOf_2 F G S (nI s) (nI q)) g = rec at ih
    unfold b_W_numberOf_2
    rw [show (20 : Int32) = nI 20 from rfl, if_neg (fun z => by rw [nI_ltI (by omega) (by omega)] at z; omega), nI_subN hs (by omega), show (8 : Int32) = nI 8 from rfl, if_neg (fun z => by rw [nI_ltI (by omega) (by omega)] at z; omega), lt_eq, nI_mulN, Nat.mul_comm i 8]
    have := W_in (F := F) (G := G) (z3 := nI i) (k := fun v23 => j_W_numberOf_116 F G S (nI s) (nI q) rec S (nI i) v23) ht (show i < 21 by omega) hs hq hl 8 0 F rfl (by omega) (by omega)
    rw [show (nI 0 : Int32) = 0 from rfl] at this
    rw [this]
    show j_W_numberOf_116 F G S (nI s) (nI q) rec S (nI i) (if mtc b s q i 8 0 = true then 1 else 0) = _
    unfold j_W_numberOf_116
    rw [kwf]
    by_cases c : seg b s (q - s) = kwL i
    · rw [if_pos ((mtc_iff (by omega) h8 hl).mpr c), if_neg (by decide), if_pos c, wv, if_pos (by omega)]
    · rw [if_neg (fun z => c ((mtc_iff (by omega) h8 hl).mp z)), if_pos rfl, if_neg c, lt_eq, nI_1, ih]
theorem W_num {s q : Nat} (hF : 100000 ≤ F) (ht : TapeC S b n) (hs : s ≤ q) (hq : q ≤ n) (h8 : q - s ≤ 8) (hl : ∀ i, s ≤ i → i < q → isLt (b i) = true) : fW_numberOf F G S (nI s) (nI q) = some (wv (kwi (seg b s (q - s)))) := by
  unfold fW_numberOf
  exact W_out hF ht hs hq h8 hl 21 0 F rfl (by omega) (by omega)
theorem W_big {s q : Nat} (hF : 100000 ≤ F) (hs : s ≤ q) (hq : q ≤ 1600) (h8 : 8 < q - s) : fW_numberOf F G S (nI s) (nI q) = some (-1) := by
  unfold fW_numberOf
  obtain ⟨g, rfl⟩ : ∃ g, F = g + 1 := ⟨F - 1, by omega⟩
  show b_W_numberOf_2 (g + 1) G S (nI s) (nI q) (fx1 _ g) 0 = _
  unfold b_W_numberOf_2
  rw [if_neg (by decide), nI_subN hs (by omega), show (8 : Int32) = nI 8 from rfl, if_pos (nI_lt h8 (by omega))]
theorem J_len1 : fJ_length F G S 1 = some (nI 11) := by
  unfold fJ_length fJ_coder
  decide +kernel
theorem J_lat : fJ_isLatin1 F G S 1 = some 1 := by
  unfold fJ_isLatin1
  decide +kernel
theorem J_idx {z4 : Int32} : ∀ r i f, 11 - i = r → i ≤ 11 → r < f → ∃ v, fx1 (b_J_indexOfChar_7 F G S 1 (nI 11) z4) f (nI i) = some v ∧ (v < 0 ↔ ∀ j, i ≤ j → j < 11 → (bytS.getD 1 []).getD j 0 ≠ z4) := by
  intro r
  induction r with
  | zero =>
    intro i f hr hi hf
    obtain ⟨g, rfl⟩ : ∃ g, f = g + 1 := ⟨f - 1, by omega⟩
    refine ⟨-1, ?_, ?_⟩
    · show b_J_indexOfChar_7 F G S 1 (nI 11) z4 (fx1 _ g) (nI i) = _
      unfold b_J_indexOfChar_7
      rw [if_pos (nI_le (by omega) (by omega))]
    · constructor
      · intro _ j h1 h2; omega
      · intro _; decide
  | succ r ih =>
    intro i f hr hi hf
    obtain ⟨g, rfl⟩ : ∃ g, f = g + 1 := ⟨f - 1, by omega⟩
    obtain ⟨v, h1, h2⟩ := ih (i + 1) g (by omega) (by omega) (by omega)
    by_cases c : (bytS.getD 1 []).getD i 0 = z4
    · refine ⟨nI i, ?_, ?_⟩
      · show b_J_indexOfChar_7 F G S 1 (nI 11) z4 (fx1 _ g) (nI i) = _
        unfold b_J_indexOfChar_7
        rw [if_neg (nI_ge (by omega) (by decide)), gd_t (inB_nI (show i < lenS.getD 1 0 from (by show i < 11; omega)) (by decide)), nI_clamp (by omega), if_pos c]
      · constructor
        · intro z; exact absurd z (nI_pos (by omega))
        · intro z; exact absurd c (z i (Nat.le_refl _) (by omega))
    · refine ⟨v, ?_, ?_⟩
      · rw [← h1]
        show b_J_indexOfChar_7 F G S 1 (nI 11) z4 (fx1 (b_J_indexOfChar_7 F G S 1 (nI 11) z4) g) (nI i) = _
        generalize fx1 (b_J_indexOfChar_7 F G S 1 (nI 11) z4) g = rec
        unfold b_J_indexOfChar_7
        rw [if_neg (nI_ge (by omega) (by decide)), gd_t (inB_nI (show i < lenS.getD 1 0 from (by show i < 11; omega)) (by decide)), nI_clamp (by omega), if_neg c, lt_eq, nI_1]
      · rw [h2]
        constructor
        · intro z j a1 a2
          by_cases e : j = i
          · rw [e]; exact c
          · exact z j (by omega) a2
        · intro z j a1 a2; exact z j (by omega) a2
theorem J_sign {c : Nat} (hF : 100000 ≤ F) (hc : c < 256) : ∃ v, fJ_indexOf F G S 1 (((nI c).toUInt32 % 65536).toInt32) = some v ∧ (v < 0 ↔ isSg c = false) := by
  obtain ⟨v, h1, h2⟩ := J_idx (F := F) (G := G) (S := S) (z4 := (((nI c).toUInt32 % 65536).toInt32).toInt8.toInt32) 11 0 F rfl (by omega) (by omega)
  refine ⟨v, ?_, ?_⟩
  · have e1 : ¬ (((nI c).toUInt32 % 65536).toInt32) < 0 := (by decide +kernel : ∀ c, c < 256 → ¬ (((nI c).toUInt32 % 65536).toInt32) < 0) c hc
    have e2 : ¬ (255 : Int32) < (((nI c).toUInt32 % 65536).toInt32) := (by decide +kernel : ∀ c, c < 256 → ¬ (255 : Int32) < (((nI c).toUInt32 % 65536).toInt32)) c hc
    have h1' : fx1 (b_J_indexOfChar_7 F G S 1 (nI 11) ((((nI c).toUInt32 % 65536).toInt32).toInt8.toInt32)) F 0 = some v := h1
    unfold fJ_indexOf
    rw [gd_t (by decide)]
    unfold fJ_indexOf2
    rw [gd_t (by decide), J_lat, bd_some, if_neg (by decide), J_len1, bd_some]
    unfold fJ_indexOf3 fJ_canEncode
    rw [gd_t (by decide), if_neg e1, if_neg e2, bd_some, if_neg (by decide), if_neg (by decide), lt_eq, show Int32.ofNat (lenS.getD 1 0) = nI 11 from rfl, if_neg (by decide), lt_eq, if_pos (by decide)]
    unfold fJ_indexOfChar
    rw [gd_t (by decide), lt_eq, h1']
    rfl
  · rw [h2]
    have := (by decide +kernel : ∀ c, c < 256 → ((∀ j, j < 11 → (bytS.getD 1 []).getD j 0 ≠ (((nI c).toUInt32 % 65536).toInt32).toInt8.toInt32) ↔ isSg c = false)) c hc
    rw [← this]
    exact ⟨fun z j hj => z j (by omega) hj, fun z j _ hj => z j hj⟩
end CW
