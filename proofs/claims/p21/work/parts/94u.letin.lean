/-! letin: by how many octaves, by which hand -/
def kyS (C : St) (n : Nat) (x : Int32) (i : Nat) : Int32 := if i = n then x else kyC C i
/-- clashes of a beat with these keys -/
def clS (C : St) (nn : Nat) (key : Nat → Int32) (l r : Int32) (b : Nat) : Int32 := clB key nn (C.1 78 51) (C.1 78 50) (C.1 78 49) (l &&& hdl C nn b) (r &&& hdl C nn b) (l &&& ahd (hdl C nn) b) (r &&& ahd (hdl C nn) b)
def bit1 (n : Nat) : Int32 := 1 <<< (nI n &&& 31)
/-- the hand that could play it with that key -/
def hfS (C : St) (nn bs n : Nat) (x : Int32) : Int32 := if canP (clS C nn (kyS C n x) (giv C nn 1 ||| bit1 n) (giv C nn 2)) bs = true then 1 else if canP (clS C nn (kyS C n x) (giv C nn 1) (giv C nn 2 ||| bit1 n)) bs = true then 2 else 0
def hsO (C : St) (nn bs n : Nat) (o : Int32) : Int32 := if kyC C n + o * 12 < 0 ∨ 87 < kyC C n + o * 12 then 0 else hfS C nn bs n (kyC C n + o * 12)
theorem canP_c {c d : Nat → Int32} : ∀ {n : Nat}, (∀ b, b < n → c b = d b) → canP c n = canP d n
  | 0, _ => rfl
  | n + 1, h => by
    show (canP c n && decide (c n = 0)) = (canP d n && decide (d n = 0))
    rw [canP_c (fun b hb => h b (by omega)), h n (by omega)]
theorem ahd_c {f g : Nat → Int32} {b : Nat} (h : ∀ c, c < b → f c = g c) : ahd f b = ahd g b := by
  cases b with
  | zero => rfl
  | succ b => exact h b (by omega)
section LI
variable {F G : Nat} {C S T U : St} {nn bs n : Nat}
theorem KD.shift (k : KD C T nn bs) {x : Int32} (hx : iv x 0 87) (n : Nat) : KB (sI T 58 n x) nn bs ∧ ∀ l r b, b < bs → clK (sI T 58 n x) nn l r b = clS C nn (kyS C n x) l r b := by
  obtain ⟨⟨k1, k2, k3, k4, k5, k6⟩, s2, s3, s4, s5, s6, s7, s8, s9⟩ := k
  have r57 : (sI T 58 n x).1 57 = T.1 57 := sI_row (by omega)
  have r61 : (sI T 58 n x).1 61 = T.1 61 := sI_row (by omega)
  have r58 : ∀ i, i < nn → (sI T 58 n x).1 58 i = kyS C n x i := fun i hi => by
    unfold kyS
    rw [sI_at]
    by_cases z : i = n
    · rw [if_pos ⟨rfl, z⟩, if_pos z]
    · rw [if_neg (fun y => z y.2), if_neg z, (s8 i hi).1]; rfl
  refine ⟨⟨k1, k2, by rw [r57]; exact k3, by rw [r57]; exact k4, fun i hi => ?_, fun b hb => by rw [r61]; exact k6 b hb⟩, fun l r b hb => ?_⟩
  · rw [sI_at]
    by_cases z : i = n
    · rw [if_pos ⟨rfl, z⟩]; exact hx
    · rw [if_neg (fun y => z y.2)]; exact k5 i hi
  · unfold clK clS
    rw [r57, r61, s2, s3, s4, s9 b hb, ahd_c (g := hdl C nn) (fun c hc => s9 c (by omega))]
    exact clB_c fun i hi => r58 i hi
theorem MD.shift (m : MD C U nn bs) {x q : Int32} (hn : n < nn) : ∀ l r b, b < bs → clM (sI (sI U 101 (10 + n) x) 101 n q) nn l r (C.1 78 50) (C.1 78 49) b = clS C nn (kyS C n x) l r b := by
  obtain ⟨n10, b12, m3, m4, m5, m6, m7⟩ := id m
  intro l r b hb
  have r78 : (sI (sI U 101 (10 + n) x) 101 n q).1 78 = U.1 78 := by rw [sI_row (by omega), sI_row (by omega)]
  have r102 : (sI (sI U 101 (10 + n) x) 101 n q).1 102 = U.1 102 := by rw [sI_row (by omega), sI_row (by omega)]
  unfold clM clS
  rw [r78, r102, m7 78 51 rfl, m.at hb, ahd_c (f := U.1 102) (g := hdl C nn) (fun c hc => m.at (by omega))]
  refine clB_c fun i hi => ?_
  unfold kyS
  rw [sI_at, if_neg (by omega), sI_at]
  by_cases z : i = n
  · rw [if_pos ⟨rfl, by omega⟩, if_pos z]
  · rw [if_neg (fun y => z (by omega)), if_neg z]; exact m.ky hi
theorem isKey_v (v : Int32) : fN_isKey F G T v = some (if v < 0 ∨ 87 < v then 0 else 1) := by
  obtain ⟨w, a1, a2, -⟩ := key_x (F := F) (G := G) (S := T) (T := T) v
  rw [a1, ← a2, M_isIn]
theorem key_iv {v : Int32} (h : ¬ (v < 0 ∨ 87 < v)) : iv v 0 87 := by
  have h1 := Int32.not_lt.mp (fun z => h (Or.inl z))
  have h2 := Int32.not_lt.mp (fun z => h (Or.inr z))
  rw [Int32.le_iff_toInt_le] at h1 h2
  exact ⟨h1, h2⟩
theorem sI_back {h k : Nat} {x : Int32} : sI (sI T h k x) h k (T.1 h k) = T := by
  refine Prod.ext (funext fun h' => funext fun k' => ?_) rfl
  rw [sI_at, sI_at]
  by_cases c : h' = h ∧ k' = k
  · rw [if_pos c, c.1, c.2]
  · rw [if_neg c, if_neg c]
theorem K_hand (hF : 100000 ≤ F) (k : KD C T nn bs) (hn : n < nn) (o : Int32) : fK_handForShifted F G T (nI n) o = some (hsO C nn bs n o, T) := by
  have n10 := k.1.1
  have gn : inB (nI n) 10 = true := inB_nI (by omega) (by decide)
  have t58 : T.1 58 n = kyC C n := (k.2.2.2.2.2.2.2.1 n hn).1
  unfold fK_handForShifted hsO
  rw [gd_t gn, lt_eq, nI_clamp (by omega), lt_eq, isKey_v, bd_some, t58]
  by_cases c : kyC C n + o * 12 < 0 ∨ 87 < kyC C n + o * 12
  · rw [if_pos c, if_pos rfl, if_pos c]
  · rw [if_neg c, if_neg (by decide), if_neg c, lt_eq, gd_t gn, lt_eq]
    obtain ⟨kb, kc⟩ := k.shift (key_iv c) n
    have r57 : (sI T 58 n (kyC C n + o * 12)).1 57 = T.1 57 := sI_row (by omega)
    have cp : ∀ l r, canP (clK (sI T 58 n (kyC C n + o * 12)) nn l r) bs = canP (clS C nn (kyS C n (kyC C n + o * 12)) l r) bs := fun l r => canP_c fun b hb => kc l r b hb
    have bk : sI (sI T 58 n (kyC C n + o * 12)) 58 n (kyC C n) = T := by rw [← t58]; exact sI_back
    unfold j_K_handForShifted_83 hfS
    rw [r57, k.2.2.2.2.1, k.2.2.2.2.2.1, K_canBe hF kb, bd_some, K_canBe hF kb, bd_some, cp, cp]
    simp only [gd_t gn, lt_eq, nI_clamp (show n < 2 ^ 31 by omega), bk]
    show (if b2i (canP (clS C nn (kyS C n (kyC C n + o * 12)) (giv C nn 1 ||| bit1 n) (giv C nn 2)) bs) = 0 then (if b2i (canP (clS C nn (kyS C n (kyC C n + o * 12)) (giv C nn 1) (giv C nn 2 ||| bit1 n)) bs) = 0 then some (0, T) else some (2, T)) else some (1, T)) = _
    cases canP (clS C nn (kyS C n (kyC C n + o * 12)) (giv C nn 1 ||| bit1 n) (giv C nn 2)) bs
    · rw [if_pos (show b2i false = 0 from rfl), if_neg (show ¬ false = true by decide)]
      cases canP (clS C nn (kyS C n (kyC C n + o * 12)) (giv C nn 1) (giv C nn 2 ||| bit1 n)) bs
      · rfl
      · rfl
    · rfl
theorem given_mv (m : MD C U nn bs) (hn : n < nn) (h0 : C.1 100 n = 0) {x q : Int32} (hq : q = 1 ∨ q = 2) : mset (fun i => decide ((sI (sI U 101 (10 + n) x) 101 n q).1 101 i = 1)) nn = mvL C nn n q ∧ mset (fun i => decide ((sI (sI U 101 (10 + n) x) 101 n q).1 101 i = 2)) nn = mvR C nn n q := by
  have n10 := m.1
  have key : ∀ p : Int32, ¬ p = 0 → mset (fun i => decide ((sI (sI U 101 (10 + n) x) 101 n q).1 101 i = p)) nn = if q = p then giv C nn p ||| 1 <<< (nI n &&& 31) else giv C nn p := fun p hp => by
    apply bt_ext
    intro i hi
    have cell : i < nn → (sI (sI U 101 (10 + n) x) 101 n q).1 101 i = if i = n then q else C.1 100 i := fun z => by
      rw [sI_at]
      by_cases y : i = n
      · rw [if_pos ⟨rfl, y⟩, if_pos y]
      · rw [if_neg (fun e => y e.2), if_neg y, sI_at, if_neg (by omega)]; exact m.2.2.2.2.1 i (by omega)
    have lhs : bt (mset (fun i => decide ((sI (sI U 101 (10 + n) x) 101 n q).1 101 i = p)) nn) i = (decide (i < nn) && decide ((if i = n then q else C.1 100 i) = p)) := by
      rw [bt_mset _ (by omega) hi]
      by_cases z : i < nn
      · rw [decide_eq_true z, cell z]
      · rw [decide_eq_false z, Bool.false_and, Bool.false_and]
    rw [lhs]
    by_cases e : q = p
    · rw [if_pos e, bt_or, bt_one (by omega) hi]
      unfold giv
      rw [bt_mset _ (by omega) hi]
      by_cases y : i = n
      · rw [if_pos y, decide_eq_true e, decide_eq_true y, decide_eq_true (show i < nn by omega), Bool.or_true]; rfl
      · rw [if_neg y, decide_eq_false y, Bool.or_false]
    · rw [if_neg e]
      unfold giv
      rw [bt_mset _ (by omega) hi]
      by_cases y : i = n
      · rw [if_pos y, decide_eq_false e, y, h0, decide_eq_false (show ¬ (0 : Int32) = p from fun z => hp z.symm)]
      · rw [if_neg y]
  refine ⟨(key 1 (by decide)).trans ?_, (key 2 (by decide)).trans ?_⟩
  · unfold mvL; rfl
  · unfold mvR; rfl
def ltB (C : St) (nn bs n : Nat) (o q : Int32) : Bool := if kyC C n + o * 12 < 0 ∨ 87 < kyC C n + o * 12 then false else canP (clS C nn (kyS C n (kyC C n + o * 12)) (mvL C nn n q) (mvR C nn n q)) bs
theorem M_lets (hF : 100000 ≤ F) (hG : 20 ≤ G) (nb : NB C nn bs) (i : Inv C S) (hn : n < nn) (h0 : C.1 100 n = 0) (o : Int32) {q : Int32} (hq : q = 1 ∨ q = 2) : ∃ S', fM_letsIn F G S (nI n) o q = some (b2i (ltB C nn bs n o q), S') ∧ Inv C S' := by
  have n10 := nb.1
  have bs12 := nb.2.2.1
  have ga : inB (nI (10 + n)) 41 = true := inB_nI (by omega) (by decide)
  unfold fM_letsIn ltB
  rw [show (10 : Int32) + nI n = nI (10 + n) from ten_add 10 n, gd_t ga, lt_eq, nI_clamp (n := 10 + n) (by omega), i.2.2.2 100 (10 + n) rfl, Int32.mul_comm 12 o, M_isIn, bd_some]
  show ∃ S', (if (if kyC C n + o * 12 < 0 ∨ 87 < kyC C n + o * 12 then (0 : Int32) else 1) = 0 then _ else _) = _ ∧ _
  by_cases c : kyC C n + o * 12 < 0 ∨ 87 < kyC C n + o * 12
  · rw [if_pos c, if_pos rfl, if_pos c]
    exact ⟨S, rfl, i⟩
  · rw [if_neg c, if_neg (by decide), if_neg c]
    obtain ⟨U, u1, u2, u3⟩ := fill_I (F := F) (G := G) hF hG nb i
    have i2 : Inv C (sI (sI U 101 (10 + n) (C.1 100 (10 + n) + o * 12)) 101 n q) := (u3.stN rfl rfl).stN rfl rfl
    refine ⟨_, ?_, i2⟩
    obtain ⟨g1, g2⟩ := given_mv u2 hn h0 (x := C.1 100 (10 + n) + o * 12) hq
    have r78 : ∀ k, (sI (sI U 101 (10 + n) (C.1 100 (10 + n) + o * 12)) 101 n q).1 78 k = U.1 78 k := fun k => by rw [sI_row (by omega), sI_row (by omega)]
    rw [u1, bd_some, gd_t ga, lt_eq, gd_t (inB_nI (show n < 41 by omega) (by decide)), lt_eq, nI_clamp (n := n) (by omega), M_canBePlayedSo (n := nn) (bs := bs) (by rw [r78]; exact u2.2.2.1) n10 (by rw [r78]; exact u2.2.2.2.1) bs12 (by omega), bd_some, gd_t (isB_b2i _), g1, g2, r78, r78, u2.2.2.2.2.2.2 78 50 rfl, u2.2.2.2.2.2.2 78 49 rfl]
    rw [canP_c (fun b hb => u2.shift hn _ _ b hb)]
    rfl
theorem lt_hs (hq : C.1 100 n = 0) (o : Int32) : hsO C nn bs n o = if ltB C nn bs n o 1 = true then 1 else if ltB C nn bs n o 2 = true then 2 else 0 := by
  unfold hsO ltB hfS
  by_cases c : kyC C n + o * 12 < 0 ∨ 87 < kyC C n + o * 12
  · rw [if_pos c, if_pos c, if_pos c]; rfl
  · rw [if_neg c, if_neg c, if_neg c]
    have e1 : mvL C nn n 1 = giv C nn 1 ||| bit1 n := if_pos rfl
    have e2 : mvR C nn n 1 = giv C nn 2 := if_neg (by decide)
    have e3 : mvL C nn n 2 = giv C nn 1 := if_neg (by decide)
    have e4 : mvR C nn n 2 = giv C nn 2 ||| bit1 n := if_pos rfl
    rw [e1, e2, e3, e4]
/-- the first that lets it in: the class's order -/
def ltF (H : Int32 → Int32) (z : Int32) : Nat → Nat → Int32
  | 0, _ => -100
  | r + 1, o => if H (nI o) = 0 then (if H (-(nI o)) = 0 then ltF H z r (o + 1) else if z = 0 then -(nI o) else H (-(nI o))) else if z = 0 then nI o else H (nI o)
def ocF (k : Nat) : Int32 := if nI k - nI k / 2 * 2 = 1 then (nI k + 1) / 2 else -(nI k / 2)
def lmF (H : Int32 → Int32) (z : Int32) : Nat → Nat → Int32
  | 0, _ => -100
  | r + 1, k => if H (ocF k) = 0 then lmF H z r (k + 1) else if z = 0 then ocF k else H (ocF k)
theorem oc_v {o : Nat} (h : o < 7) : ocF (2 * o + 1) = nI (o + 1) ∧ ocF (2 * o + 2) = -(nI (o + 1)) := (by decide +kernel : ∀ o, o < 7 → ocF (2 * o + 1) = nI (o + 1) ∧ ocF (2 * o + 2) = -(nI (o + 1))) o h
theorem lt_lm {H : Int32 → Int32} {z : Int32} : ∀ r o, r + o ≤ 7 → ltF H z r (o + 1) = lmF H z (2 * r) (2 * o + 1)
  | 0, _, _ => rfl
  | r + 1, o, h => by
    obtain ⟨e1, e2⟩ := oc_v (o := o) (by omega)
    have ih := lt_lm (H := H) (z := z) r (o + 1) (by omega)
    rw [show 2 * (r + 1) = 2 * r + 1 + 1 by omega, lmF, lmF, show 2 * o + 1 + 1 = 2 * o + 2 from rfl, e1, e2, ltF]
    by_cases c : H (nI (o + 1)) = 0
    · rw [if_pos c, if_pos c]
      by_cases d : H (-(nI (o + 1))) = 0
      · rw [if_pos d, if_pos d, ih]
        congr 1
      · rw [if_neg d, if_neg d]
    · rw [if_neg c, if_neg c]
theorem lt_all {H : Int32 → Int32} {z : Int32} : ltF H z 8 0 = lmF H z 15 0 := by
  have ih := lt_lm (H := H) (z := z) 7 0 (by omega)
  have e0 : ocF 0 = nI 0 := by decide
  have e1 : -(nI 0) = nI 0 := by decide
  rw [show (15 : Nat) = 14 + 1 from rfl, show (8 : Nat) = 7 + 1 from rfl, lmF, ltF, e0, e1]
  by_cases c : H (nI 0) = 0
  · rw [if_pos c, if_pos c, if_pos c]; exact ih
  · rw [if_neg c, if_neg c]
theorem N_letL (hF : 100000 ≤ F) (k : KD C T nn bs) (hn : n < nn) (z : Int32) : ∀ r o f, r + o = 8 → r < f → fx2 (b_N_letin_26 F G (nI n) z) f (nI o) T = some (ltF (hsO C nn bs n) z r o, T) := by
  intro r
  induction r with
  | zero =>
    intro o f hr hf
    obtain ⟨g, rfl⟩ : ∃ g, f = g + 1 := ⟨f - 1, by omega⟩
    rw [fx2_s]
    unfold b_N_letin_26
    rw [if_pos (show (7 : Int32) < nI o from (nI_lt_i (a := 7) (by omega) (by omega)).mpr (by omega))]
    rfl
  | succ r ih =>
    intro o f hr hf
    obtain ⟨g, rfl⟩ : ∃ g, f = g + 1 := ⟨f - 1, by omega⟩
    have ih' := ih (o + 1) g (by omega) (by omega)
    rw [fx2_s]
    generalize fx2 (b_N_letin_26 F G (nI n) z) g = rec at ih' ⊢
    unfold b_N_letin_26
    rw [if_neg (show ¬ (7 : Int32) < nI o from fun y => by have := (nI_lt_i (a := 7) (by omega) (by omega)).mp y; omega), K_hand hF k hn, bd2_some, K_hand hF k hn, bd2_some, lt_eq, nI_1, ltF, ih']
    by_cases c : hsO C nn bs n (nI o) = 0
    · rw [if_pos c, if_pos c]
      by_cases d : hsO C nn bs n (-(nI o)) = 0
      · rw [if_pos d, if_pos d]
      · rw [if_neg d, if_neg d]
        by_cases e : z = 0
        · rw [if_pos e, if_pos e]
        · rw [if_neg e, if_neg e]
    · rw [if_neg c, if_neg c]
      by_cases e : z = 0
      · rw [if_pos e, if_pos e]
      · rw [if_neg e, if_neg e]
theorem M_letH (hF : 100000 ≤ F) (hG : 20 ≤ G) (nb : NB C nn bs) (i : Inv C S) (hn : n < nn) (h0 : C.1 100 n = 0) (z z3 o : Int32) (kk : St → Option (Int32 × St)) : ∃ S', Inv C S' ∧ fx2 (b_M_letin_52 F G (nI n) z z3 o kk) F 1 S = if hsO C nn bs n o = 0 then kk S' else some ((if z = 0 then o else hsO C nn bs n o), S') := by
  obtain ⟨F', hF'⟩ : ∃ F', F = F' + 1 + 1 + 1 := ⟨F - 3, by omega⟩
  have all : ∀ f, f = F' + 1 + 1 + 1 → ∃ S', Inv C S' ∧ fx2 (b_M_letin_52 F G (nI n) z z3 o kk) f 1 S = if hsO C nn bs n o = 0 then kk S' else some ((if z = 0 then o else hsO C nn bs n o), S') := by
    rintro _ rfl
    obtain ⟨S1, s1, s2⟩ := M_lets (F := F) (G := G) hF hG nb i hn h0 o (q := 1) (Or.inl rfl)
    obtain ⟨S2, r1, r2⟩ := M_lets (F := F) (G := G) hF hG nb s2 hn h0 o (q := 2) (Or.inr rfl)
    rw [lt_hs h0]
    rw [fx2_s]
    have nx : fx2 (b_M_letin_52 F G (nI n) z z3 o kk) (F' + 1 + 1) 2 S1 = if ltB C nn bs n o 2 = true then some ((if z = 0 then o else 2), S2) else kk S2 := by
      rw [fx2_s]
      have nx2 : fx2 (b_M_letin_52 F G (nI n) z z3 o kk) (F' + 1) 3 S2 = kk S2 := by
        rw [fx2_s]
        unfold b_M_letin_52
        rw [if_pos (by decide)]
      generalize fx2 (b_M_letin_52 F G (nI n) z z3 o kk) (F' + 1) = rec at nx2 ⊢
      unfold b_M_letin_52
      rw [if_neg (by decide), r1, bd2_some, lt_eq, show (2 : Int32) + 1 = 3 from by decide, nx2]
      cases ltB C nn bs n o 2
      · rw [if_pos (show b2i false = 0 from rfl), if_neg (show ¬ false = true by decide)]
      · rw [if_neg (show ¬ b2i true = 0 by decide), if_pos rfl]
        by_cases e : z = 0
        · rw [if_pos e, if_pos e]
        · rw [if_neg e, if_neg e]
    generalize fx2 (b_M_letin_52 F G (nI n) z z3 o kk) (F' + 1 + 1) = rec at nx ⊢
    unfold b_M_letin_52
    rw [if_neg (by decide), s1, bd2_some, lt_eq, show (1 : Int32) + 1 = 2 from by decide, nx]
    cases ltB C nn bs n o 1
    · refine ⟨S2, r2, ?_⟩
      rw [if_pos (show b2i false = 0 from rfl), if_neg (show ¬ false = true by decide)]
      cases ltB C nn bs n o 2
      · rw [if_neg (show ¬ false = true by decide), if_neg (show ¬ false = true by decide), if_pos rfl]
      · rw [if_pos (show true = true from rfl), if_pos (show true = true from rfl), if_neg (show ¬ (2 : Int32) = 0 by decide)]
    · refine ⟨S1, s2, ?_⟩
      rw [if_neg (show ¬ b2i true = 0 by decide), if_pos (show true = true from rfl), if_neg (show ¬ (1 : Int32) = 0 by decide)]
      by_cases e : z = 0
      · rw [if_pos e, if_pos e]
      · rw [if_neg e, if_neg e]
  exact all F hF'
theorem M_letL (hF : 100000 ≤ F) (hG : 20 ≤ G) (nb : NB C nn bs) (hn : n < nn) (h0 : C.1 100 n = 0) (z : Int32) : ∀ r k f (S : St), r + k = 15 → r < f → Inv C S → ∃ S', Inv C S' ∧ fx2 (b_M_letin_22 F G (nI n) z) f (nI k) S = some (lmF (hsO C nn bs n) z r k, S') := by
  intro r
  induction r with
  | zero =>
    intro k f S hr hf i
    obtain ⟨g, rfl⟩ : ∃ g, f = g + 1 := ⟨f - 1, by omega⟩
    refine ⟨S, i, ?_⟩
    rw [fx2_s]
    unfold b_M_letin_22
    rw [if_pos (show (14 : Int32) < nI k from (nI_lt_i (a := 14) (by omega) (by omega)).mpr (by omega))]
    rfl
  | succ r ih =>
    intro k f S hr hf i
    obtain ⟨g, rfl⟩ : ∃ g, f = g + 1 := ⟨f - 1, by omega⟩
    have ih' := fun S i => ih (k + 1) g S (by omega) (by omega) i
    rw [fx2_s]
    generalize fx2 (b_M_letin_22 F G (nI n) z) g = rec at ih' ⊢
    have fin : ∀ o, ocF k = o → ∃ S', Inv C S' ∧ fx2 (b_M_letin_52 F G (nI n) z (nI k) o (fun S24 => lt (nI k + 1) fun v25 => rec v25 S24)) F 1 S = some (lmF (hsO C nn bs n) z (r + 1) k, S') := fun o ho => by
      obtain ⟨S', s1, s2⟩ := M_letH (F := F) (G := G) hF hG nb i hn h0 z (nI k) o (fun S24 => lt (nI k + 1) fun v25 => rec v25 S24)
      rw [s2, lmF, ho]
      by_cases c : hsO C nn bs n o = 0
      · rw [if_pos c, if_pos c]
        obtain ⟨S'', t1, t2⟩ := ih' S' s1
        refine ⟨S'', t1, ?_⟩
        show lt (nI k + 1) (fun v25 => rec v25 S') = _
        rw [lt_eq, nI_1, t2]
      · rw [if_neg c, if_neg c]
        exact ⟨S', s1, rfl⟩
    unfold b_M_letin_22
    rw [if_neg (show ¬ (14 : Int32) < nI k from fun y => by have := (nI_lt_i (a := 14) (by omega) (by omega)).mp y; omega), lt_eq, lt_eq]
    by_cases c : nI k - nI k / 2 * 2 = 1
    · rw [if_pos c]; exact fin _ (if_pos c)
    · rw [if_neg c]; exact fin _ (if_neg c)
theorem out_0 (h : J2 C) (nb : NB C nn bs) {p w : Int32} (a : fN_isLeftOut F G C p = some w) (c : ¬ w = 0) : ∃ n, p = nI n ∧ n < nn ∧ C.1 100 n = 0 := by
  obtain ⟨x, x1, -, -, x4⟩ := note_x (F := F) (G := G) (T := C) h.1 h.2.1 rfl p
  unfold fN_isLeftOut at a
  rw [x1, bd_some] at a
  by_cases c1 : x = 0
  · rw [if_pos c1] at a; exact absurd (Option.some.inj a).symm c
  obtain ⟨n, rfl, hn, hn10⟩ := x4 c1
  rw [if_neg c1, gd_t (inB_nI hn10 (by decide)), nI_clamp (by omega), (h.c4.2 n hn).1] at a
  by_cases c2 : C.1 100 n = 0
  · refine ⟨n, rfl, ?_, c2⟩
    have n10 := nb.1
    rw [nb.2.2.2.1, nI_toInt (by omega)] at hn; omega
  · rw [if_neg c2] at a; exact absurd (Option.some.inj a).symm c
theorem letin_ok (hF : 100000 ≤ F) (hG : 20 ≤ G) (h : J2 S) (p z : Int32) : ∃ v S1 S2, fN_letin F G S p z = some (v, S1) ∧ fM_letin F G S1 p z = some (v, S2) ∧ J2 S2 := by
  obtain ⟨nn, bs, nb⟩ := h.nb
  obtain ⟨w, a1, a2, a3⟩ := out_x (F := F) (G := G) (S := S) h rfl (fun _ _ _ => rfl) p
  by_cases c1 : w = 0
  · refine ⟨-100, S, S, ?_, ?_, h⟩
    · unfold fN_letin; rw [a1, bd_some, if_pos c1]
    · unfold fM_letin; rw [a2, bd_some, if_pos c1]
  by_cases c2 : z < 0
  · refine ⟨-100, S, S, ?_, ?_, h⟩
    · unfold fN_letin; rw [a1, bd_some, if_neg c1, if_pos c2]
    · unfold fM_letin; rw [a2, bd_some, if_neg c1, M_isIn, bd_some, if_pos (in_y1 c2)]
  by_cases c3 : z ≤ 1
  · obtain ⟨n, rfl, hn, h0⟩ := out_0 h nb a1 c1
    obtain ⟨T, t1, t2, t3⟩ := look_I (F := F) (G := G) hF hG h nb
    obtain ⟨w', a1', a2', -⟩ := out_x (F := F) (G := G) (S := T) h (by rw [t3.2.2.1]) t3.2.2.2 (nI n)
    rw [← Option.some.inj (a1.symm.trans a1')] at a2'
    obtain ⟨U, u1, u2⟩ := M_letL (F := F) (G := G) hF hG nb hn h0 z 15 0 F T rfl (by omega) t3
    refine ⟨ltF (hsO S nn bs n) z 8 0, T, U, ?_, ?_, h.q u1⟩
    · unfold fN_letin
      rw [a1, bd_some, if_neg c1, if_neg c2, if_pos c3, t1, bd_some]
      exact N_letL hF t2 hn z 8 0 F rfl (by omega)
    · unfold fM_letin
      rw [a2', bd_some, if_neg c1, M_isIn, bd_some, if_neg (in_no c2 (Int32.not_lt.mpr c3)), lt_all]
      exact u2
  · refine ⟨-100, S, S, ?_, ?_, h⟩
    · unfold fN_letin; rw [a1, bd_some, if_neg c1, if_neg c2, if_neg c3]
    · unfold fM_letin; rw [a2, bd_some, if_neg c1, M_isIn, bd_some, if_pos (in_y2 (Int32.not_le.mp c3))]
end LI
