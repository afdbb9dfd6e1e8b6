/-! ALL VERSIONS by their codes -/
def dgt (n p i : Nat) : Nat := (p / 3 ^ (n - 1 - i)) % 3
theorem dg_s {n p d i : Nat} (hd : d < 3) (hi : i < n) : dgt (n + 1) (3 * p + d) i = dgt n p i := by
  unfold dgt
  rw [show n + 1 - 1 - i = (n - 1 - i) + 1 by omega, Nat.pow_succ, Nat.mul_comm (3 ^ (n - 1 - i)) 3, ← Nat.div_div_eq_div_mul, show (3 * p + d) / 3 = p by omega]
theorem dg_n {n p d : Nat} (hd : d < 3) : dgt (n + 1) (3 * p + d) n = d := by
  unfold dgt
  rw [show n + 1 - 1 - n = 0 by omega, Nat.pow_zero, Nat.div_one]; omega
def PLs (n p : Nat) : Int32 := mset (fun i => decide (dgt n p i = 0)) n
def PRs (n p : Nat) : Int32 := mset (fun i => decide (dgt n p i = 1)) n
def sumN (f : Nat → Nat) : Nat → Nat
  | 0 => 0
  | n + 1 => sumN f n + f n
theorem sumN_c {f g : Nat → Nat} : ∀ {n : Nat}, (∀ i, i < n → f i = g i) → sumN f n = sumN g n
  | 0, _ => rfl
  | n + 1, h => by rw [sumN, sumN, sumN_c (fun i hi => h i (by omega)), h n (by omega)]
theorem sumN_le {f : Nat → Nat} {m : Nat} (h : ∀ i, f i ≤ m) : ∀ n, sumN f n ≤ m * n
  | 0 => Nat.le_refl _
  | n + 1 => by
    have := sumN_le h n
    have := h n
    rw [sumN, Nat.mul_succ]; omega
def POs (mi : Nat → Nat) (n p : Nat) : Nat := sumN (fun i => if dgt n p i = 2 then mi i else 0) n
theorem PL_s {n p d : Nat} (hd : d < 3) : PLs (n + 1) (3 * p + d) = if d = 0 then PLs n p ||| bit1 n else PLs n p := by
  unfold PLs
  rw [mset, mset_cong (q := fun i => decide (dgt n p i = 0)) (fun i hi => by rw [dg_s hd hi]), dg_n hd]
  by_cases c : d = 0
  · rw [if_pos c, decide_eq_true c, if_pos rfl]; rfl
  · rw [if_neg c, decide_eq_false c, if_neg (by decide), Int32.or_zero]
theorem PR_s {n p d : Nat} (hd : d < 3) : PRs (n + 1) (3 * p + d) = if d = 1 then PRs n p ||| bit1 n else PRs n p := by
  unfold PRs
  rw [mset, mset_cong (q := fun i => decide (dgt n p i = 1)) (fun i hi => by rw [dg_s hd hi]), dg_n hd]
  by_cases c : d = 1
  · rw [if_pos c, decide_eq_true c, if_pos rfl]; rfl
  · rw [if_neg c, decide_eq_false c, if_neg (by decide), Int32.or_zero]
theorem PO_s {mi : Nat → Nat} {n p d : Nat} (hd : d < 3) : POs mi (n + 1) (3 * p + d) = POs mi n p + (if d = 2 then mi n else 0) := by
  unfold POs
  rw [sumN, sumN_c (g := fun i => if dgt n p i = 2 then mi i else 0) (fun i hi => by rw [dg_s hd hi]), dg_n hd]
section CO
variable {pl : Int32 → Int32 → Bool} {mi : Nat → Nat} {nn : Nat}
def lfC (pl : Int32 → Int32 → Bool) (mi : Nat → Nat) (nn c : Nat) (q : Nat × Int32 × Int32) : Nat × Int32 × Int32 := if POs mi nn c < q.1 ∧ pl (PLs nn c) (PRs nn c) = true then (POs mi nn c, PLs nn c, PRs nn c) else q
def frC (pl : Int32 → Int32 → Bool) (mi : Nat → Nat) (nn s : Nat) (q : Nat × Int32 × Int32) : Nat → Nat × Int32 × Int32
  | 0 => q
  | m + 1 => lfC pl mi nn (s + m) (frC pl mi nn s q m)
theorem fr_add {s : Nat} {q : Nat × Int32 × Int32} {m : Nat} : ∀ k, frC pl mi nn s q (m + k) = frC pl mi nn (s + m) (frC pl mi nn s q m) k
  | 0 => rfl
  | k + 1 => by
    show lfC pl mi nn (s + (m + k)) (frC pl mi nn s q (m + k)) = lfC pl mi nn (s + m + k) _
    rw [fr_add k, Nat.add_assoc]
theorem sr_fr : ∀ k n p q, k + n = nn → srch pl mi k n (PLs n p) (PRs n p) (POs mi n p) q = frC pl mi nn (p * 3 ^ k) q (3 ^ k)
  | 0, n, p, q, e => by
    have e : n = nn := by omega
    subst e
    rw [srch, Nat.pow_zero, Nat.mul_one]
    show _ = lfC pl mi n (p + 0) q
    rw [Nat.add_zero]
    rfl
  | k + 1, n, p, q, e => by
    have h0 := sr_fr k (n + 1) (3 * p + 0) 
    have h1 := sr_fr k (n + 1) (3 * p + 1)
    have h2 := sr_fr k (n + 1) (3 * p + 2)
    rw [PL_s (by omega), PR_s (by omega), PO_s (by omega)] at h0 h1 h2
    rw [if_pos rfl, if_neg (by omega), if_neg (by omega), Nat.add_zero (POs mi n p)] at h0
    rw [if_neg (by omega), if_pos rfl, if_neg (by omega), Nat.add_zero (POs mi n p)] at h1
    rw [if_neg (by omega), if_neg (by omega), if_pos rfl] at h2
    rw [srch, h0 q (by omega), h1 _ (by omega), h2 _ (by omega)]
    have e3 : 3 ^ (k + 1) = 3 ^ k + (3 ^ k + 3 ^ k) := by rw [Nat.pow_succ]; omega
    rw [e3, fr_add, fr_add]
    have a0 : (3 * p + 0) * 3 ^ k = p * (3 ^ k + (3 ^ k + 3 ^ k)) := by
      rw [Nat.add_zero, Nat.mul_comm 3 p, Nat.mul_assoc]; congr 1; omega
    have a1 : (3 * p + 1) * 3 ^ k = p * (3 ^ k + (3 ^ k + 3 ^ k)) + 3 ^ k := by
      rw [Nat.add_mul, Nat.one_mul, ← a0, Nat.add_zero]
    have a2 : (3 * p + 2) * 3 ^ k = p * (3 ^ k + (3 ^ k + 3 ^ k)) + 3 ^ k + 3 ^ k := by
      rw [Nat.add_mul, ← a0, Nat.add_zero]; omega
    rw [a0, a1, a2]
theorem sr_all {q : Nat × Int32 × Int32} : srch pl mi nn 0 0 0 0 q = frC pl mi nn 0 q (3 ^ nn) := by
  have := sr_fr (pl := pl) (mi := mi) (nn := nn) nn 0 0 q rfl
  rw [Nat.zero_mul] at this
  exact this
/-- something is always found -/
theorem sr_found : ∀ {k n : Nat} {l r : Int32} {lost : Nat} {q : Nat × Int32 × Int32}, pl l r = true → (∀ i, mi i ≤ 999) → (srch pl mi k n l r lost q).1 ≤ lost + 999 * k
  | 0, n, l, r, lost, q, h, hm => by
    rw [srch]
    by_cases c : lost < q.1
    · rw [if_pos ⟨c, h⟩]; show lost ≤ _; omega
    · rw [if_neg (fun z => c z.1)]; omega
  | k + 1, n, l, r, lost, q, h, hm => by
    rw [srch]
    have := sr_found (k := k) (n := n + 1) (lost := lost + mi n) (q := srch pl mi k (n + 1) l (r ||| bit1 n) lost (srch pl mi k (n + 1) (l ||| bit1 n) r lost q)) h hm
    have := hm n
    rw [Nat.mul_succ]
    omega
end CO
/-! Int32 thirds -/
theorem nI_div3 {x : Nat} (h : x < 2 ^ 31) : nI x / 3 = nI (x / 3) := by
  apply Int32.toInt_inj.mp
  rw [Int32.toInt_div, nI_toInt h, show (3 : Int32).toInt = 3 from rfl, nI_toInt (by omega), Int.tdiv_eq_ediv_of_nonneg (by omega), i32b (by omega) (by omega)]
  omega
theorem nI_mod3 {x : Nat} (h : x < 2 ^ 31) : nI x - nI x / 3 * 3 = nI (x % 3) := by
  rw [nI_div3 h, show (3 : Int32) = nI 3 from rfl, nI_mulN, nI_subN (by omega) h]
  congr 1; omega
def hO (d : Nat) : Int32 := if d = 0 then 1 else if d = 1 then 2 else 0
theorem hO_v {d : Nat} (h : d < 3) : (nI d + 1) - (nI d + 1) / 3 * 3 = hO d := (by decide +kernel : ∀ d, d < 3 → (nI d + 1) - (nI d + 1) / 3 * 3 = hO d) d h
theorem pow3 {n : Nat} (h : n ≤ 10) : 3 ^ n ≤ 59049 := Nat.pow_le_pow_right (n := 3) (by decide) h
section RV
variable {F G : Nat} {C S T U V : St} {nn bs fg sp : Nat}
theorem M_power (hF : 100000 ≤ F) {n : Nat} (hn : n ≤ 10) : fM_power F G S 3 (nI n) = some (nI (3 ^ n)) := by
  unfold fM_power
  refine for_g (body := b_M_power_4 F G S 3 (nI n)) (N := n) (i0 := 0) (k := some) (fun i => nI (3 ^ i)) (fun rec => ?_) (fun rec i _ hi => ?_) n 0 F rfl (by omega) (by omega) (by omega)
  · unfold b_M_power_4
    rw [if_pos (nI_le (Nat.le_refl n) (by omega))]
  · unfold b_M_power_4
    rw [if_neg (nI_ge hi (by omega)), lt_eq, lt_eq, nI_1, show (3 : Int32) = nI 3 from rfl, nI_mulN]
    rfl
/-- a code is laid: its hands, its loss -/
theorem M_layV (hF : 100000 ≤ F) (n10 : nn ≤ 10) (h48 : V.1 78 48 = nI nn) (h107 : ∀ j, j < nn → V.1 107 j = nI (misN C nn j)) {c : Nat} (hc : c < 2 ^ 31) : ∃ W, fM_layVersion F G V (nI c) = some (nI (POs (misN C nn) nn c), W) ∧ (∀ i, i < nn → W.1 106 i = hO (dgt nn c i)) ∧ (∀ h, h ≠ 106 → W.1 h = V.1 h) ∧ W.2 = V.2 := by
  have mb : ∀ i, (fun i => if dgt nn c i = 2 then misN C nn i else 0) i ≤ 999 := fun i => by
    show (if dgt nn c i = 2 then misN C nn i else 0) ≤ 999
    split
    · exact (mis_nI (C := C) (nn := nn) (j := i)).2
    · omega
  have main : ∀ m f (t : Nat) (W : St), m ≤ nn → m < f → t + sumN (fun i => if dgt nn c i = 2 then misN C nn i else 0) m = POs (misN C nn) nn c → (∀ i, m ≤ i → i < nn → W.1 106 i = hO (dgt nn c i)) → (∀ h, h ≠ 106 → W.1 h = V.1 h) → W.2 = V.2 → ∃ W', fx4 (b_M_layVersion_12 F G) f (nI (c / 3 ^ (nn - m))) (nI t) (nI m - 1) W = some (nI (POs (misN C nn) nn c), W') ∧ (∀ i, i < nn → W'.1 106 i = hO (dgt nn c i)) ∧ (∀ h, h ≠ 106 → W'.1 h = V.1 h) ∧ W'.2 = V.2 := by
    intro m
    induction m with
    | zero =>
      intro f t W hm hf ht w1 w2 w3
      obtain ⟨g, rfl⟩ : ∃ g, f = g + 1 := ⟨f - 1, by omega⟩
      refine ⟨W, ?_, fun i hi => w1 i (by omega) hi, w2, w3⟩
      rw [fx4_s]
      unfold b_M_layVersion_12
      rw [if_pos (show nI 0 - 1 < 0 by decide)]
      rw [← ht]; rfl
    | succ m ih =>
      intro f t W hm hf ht w1 w2 w3
      obtain ⟨g, rfl⟩ : ∃ g, f = g + 1 := ⟨f - 1, by omega⟩
      have gm : inB (nI m) 10 = true := inB_nI (by omega) (by decide)
      have cd : c / 3 ^ (nn - (m + 1)) < 2 ^ 31 := Nat.lt_of_le_of_lt (Nat.div_le_self _ _) hc
      have nx : c / 3 ^ (nn - (m + 1)) / 3 = c / 3 ^ (nn - m) := by
        rw [Nat.div_div_eq_div_mul, ← Nat.pow_succ, show (nn - (m + 1)).succ = nn - m by omega]
      have dd : c / 3 ^ (nn - (m + 1)) % 3 = dgt nn c m := by
        unfold dgt
        rw [show nn - 1 - m = nn - (m + 1) by omega]
      have d3 : dgt nn c m < 3 := Nat.mod_lt _ (by decide)
      have sm : sumN (fun i => if dgt nn c i = 2 then misN C nn i else 0) (m + 1) = sumN (fun i => if dgt nn c i = 2 then misN C nn i else 0) m + (if dgt nn c m = 2 then misN C nn m else 0) := rfl
      have tot : POs (misN C nn) nn c ≤ 999 * nn := sumN_le mb nn
      rw [fx4_s]
      have ih' := fun t W => ih g t W (by omega) (by omega)
      generalize fx4 (b_M_layVersion_12 F G) g = rec at ih' ⊢
      unfold b_M_layVersion_12
      rw [nI_pred, if_neg (nI_nn (by omega)), gd_t gm, lt_eq, nI_mod3 cd, dd, hO_v d3, lt_eq, nI_div3 cd, nx, gd_t gm, gd_t gm, nI_clamp (by omega), sI_self, sI_row (show 107 ≠ 106 by omega), w2 107 (by omega), h107 m (by omega), nI_add]
      simp only [lt_eq]
      have dn : nI m + (-1) = nI m - 1 := by rw [Int32.sub_eq_add_neg]
      rw [dn]
      have fr : ∀ i, m ≤ i → i < nn → (sI W 106 m (hO (dgt nn c m))).1 106 i = hO (dgt nn c i) := fun i i1 i2 => by
        rw [sI_at]
        by_cases z : i = m
        · rw [if_pos ⟨rfl, z⟩, z]
        · rw [if_neg (fun y => z y.2)]; exact w1 i (by omega) i2
      by_cases e : dgt nn c m = 2
      · rw [if_pos e] at sm
        rw [if_pos (show hO (dgt nn c m) = 0 by rw [e]; rfl)]
        exact ih' (t + misN C nn m) _ (by omega) fr (fun h q => by rw [sI_row q]; exact w2 h q) w3
      · rw [if_neg e] at sm
        rw [if_neg (show ¬ hO (dgt nn c m) = 0 by
          rcases (by omega : dgt nn c m = 0 ∨ dgt nn c m = 1) with z | z <;> rw [z] <;> decide), Int32.add_zero]
        exact ih' t _ (by omega) fr (fun h q => by rw [sI_row q]; exact w2 h q) w3
  unfold fM_layVersion
  rw [lt_eq, h48]
  have := main nn F 0 V (Nat.le_refl _) (by omega) (by rw [Nat.zero_add]; rfl) (fun i i1 i2 => by omega) (fun _ _ => rfl) rfl
  rw [Nat.sub_self, Nat.pow_zero, Nat.div_one] at this
  exact this
def fst (C : St) (nn bs fg sp : Nat) (c : Nat) : Nat × Int32 × Int32 := frC (plB (kyC C) (hdl C nn) nn bs fg sp (C.1 78 51)) (misN C nn) nn 0 (9991, 0, 0) c
def lsI (C : St) (nn bs fg sp c : Nat) : Int32 := if (fst C nn bs fg sp c).1 = 9991 then 1000000 else nI (fst C nn bs fg sp c).1
def hnd (q : Nat × Int32 × Int32) (i : Nat) : Int32 := if bt q.2.1 i = true then 1 else if bt q.2.2 i = true then 2 else 0
theorem PO_le (c : Nat) : POs (misN C nn) nn c ≤ 999 * nn := by
  unfold POs
  refine sumN_le (fun i => ?_) nn
  show (if dgt nn c i = 2 then misN C nn i else 0) ≤ 999
  by_cases z : dgt nn c i = 2
  · rw [if_pos z]; exact (mis_nI (C := C) (nn := nn) (j := i)).2
  · rw [if_neg z]; omega
theorem fst_or : ∀ c, (fst C nn bs fg sp c).1 = 9991 ∨ (fst C nn bs fg sp c).1 ≤ 999 * nn
  | 0 => Or.inl rfl
  | c + 1 => by
    show (lfC _ _ nn (0 + c) (fst C nn bs fg sp c)).1 = 9991 ∨ (lfC _ _ nn (0 + c) (fst C nn bs fg sp c)).1 ≤ 999 * nn
    unfold lfC
    split
    · exact Or.inr (PO_le _)
    · exact fst_or c
theorem M_best (hF : 100000 ≤ F) (hG : 20 ≤ G) (h : J2 C) (nb : NB C nn bs) (hf : fg ≤ 5) (hs : sp ≤ 87) (i : Inv C S) : ∃ W, fM_best F G S (nI fg) (nI sp) = some (lsI C nn bs fg sp (3 ^ nn), W) ∧ Inv C W ∧ W.1 78 48 = nI nn ∧ (¬ (fst C nn bs fg sp (3 ^ nn)).1 = 9991 → ∀ j, j < nn → W.1 105 j = hnd (fst C nn bs fg sp (3 ^ nn)) j) := by
  have n10 := nb.1
  have b12 := nb.2.2.1
  have p3 := pow3 n10
  obtain ⟨U, u1, u2, u3⟩ := fill_I (F := F) (G := G) hF hG nb i
  obtain ⟨V, v1, v2, v3, v4⟩ := M_weigh (F := F) (G := G) hF hG h nb u2 u3
  have h107 : ∀ j, j < nn → V.1 107 j = nI (misN C nn j) := fun j hj => (v4 j hj).trans (mis_nI (C := C) (nn := nn) (j := j)).1
  obtain ⟨W, w1, w2⟩ := cp3 (bod := b_M_best_15 F G (nI fg) (nI sp)) (k := fun W => some (lsI C nn bs fg sp (3 ^ nn), sI W 78 68 (W.1 78 48))) (N := 3 ^ nn) (lsI C nn bs fg sp) (fun c W => (∀ h, h ≠ 105 → h ≠ 106 → W.1 h = V.1 h) ∧ (¬ (fst C nn bs fg sp c).1 = 9991 → ∀ j, j < nn → W.1 105 j = hnd (fst C nn bs fg sp c) j))
    (fun rec W hP => by
      unfold b_M_best_15
      rw [hP.1 78 (by omega) (by omega), v2.2.2.1, M_power hF n10, bd_some, if_pos (nI_le (Nat.le_refl _) (by omega)), lt_eq])
    (fun rec c W hc hP => by
      obtain ⟨p1, p2⟩ := hP
      have W48 : W.1 78 48 = nI nn := by rw [p1 78 (by omega) (by omega)]; exact v2.2.2.1
      obtain ⟨X, x1, x2, x3, -⟩ := M_layV (F := F) (G := G) (C := C) hF n10 W48 (fun j hj => by rw [p1 107 (by omega) (by omega)]; exact h107 j hj) (c := c) (by omega)
      have X78 : ∀ k, X.1 78 k = V.1 78 k := fun k => by rw [x3 78 (by omega), p1 78 (by omega) (by omega)]
      have X48 : X.1 78 48 = nI nn := (X78 48).trans v2.2.2.1
      have X46 : X.1 78 46 = nI bs := (X78 46).trans v2.2.2.2.1
      have row : ∀ q : Nat, q < 3 → mset (fun j => decide (X.1 106 j = hO q)) nn = mset (fun j => decide (dgt nn c j = q)) nn := fun q hq => mset_cong fun j hj => by
        have d3 : dgt nn c j < 3 := Nat.mod_lt _ (by decide)
        rw [x2 j hj, Bool.eq_iff_iff, decide_eq_true_eq, decide_eq_true_eq]
        exact (by decide +kernel : ∀ a, a < 3 → ∀ b, b < 3 → (hO a = hO b ↔ a = b)) _ d3 q hq
      have r1 : fM_rowOf F G X 1 = some (PLs nn c) := by rw [M_rowOf X48 n10 (by omega)]; exact congrArg some (row 0 (by omega))
      have r2 : fM_rowOf F G X 2 = some (PRs nn c) := by rw [M_rowOf X48 n10 (by omega)]; exact congrArg some (row 1 (by omega))
      have can : canP (clM X nn (PLs nn c) (PRs nn c) (nI fg) (nI sp)) bs = plB (kyC C) (hdl C nn) nn bs fg sp (C.1 78 51) (PLs nn c) (PRs nn c) := canP_c fun b hb => by
        unfold clM
        have h102 : ∀ b, b < bs → X.1 102 b = hdl C nn b := fun b hb => by rw [x3 102 (by omega), p1 102 (by omega) (by omega)]; exact v2.at hb
        rw [h102 b hb, ahd_c (f := X.1 102) (g := hdl C nn) (fun d hd => h102 d (by omega)), X78, v2.2.2.2.2.2.2 78 51 rfl]
        exact clB_c fun j hj => by rw [x3 101 (by omega), p1 101 (by omega) (by omega)]; exact v2.ky hj
      have st : fst C nn bs fg sp (c + 1) = lfC (plB (kyC C) (hdl C nn) nn bs fg sp (C.1 78 51)) (misN C nn) nn c (fst C nn bs fg sp c) := by
        show lfC _ _ nn (0 + c) _ = _
        rw [Nat.zero_add]; rfl
      have tot := PO_le (C := C) (nn := nn) c
      have fr := fst_or (C := C) (nn := nn) (bs := bs) (fg := fg) (sp := sp) c
      have cmp : (lsI C nn bs fg sp c ≤ nI (POs (misN C nn) nn c)) ↔ ¬ POs (misN C nn) nn c < (fst C nn bs fg sp c).1 := by
        unfold lsI
        by_cases z : (fst C nn bs fg sp c).1 = 9991
        · rw [if_pos z, show (1000000 : Int32) = nI 1000000 from rfl, nI_le_i (by omega) (by omega)]; omega
        · rw [if_neg z, nI_le_i (by omega) (by omega)]; omega
      unfold b_M_best_15
      rw [W48, M_power hF n10, bd_some, if_neg (nI_ge hc (by omega)), x1, bd2_some, r1, bd_some, r2, bd_some, M_canBePlayed (n := nn) (bs := bs) X48 n10 X46 b12 (by omega), bd_some, can]
      simp only [lt_eq, nI_1]
      have keep : fst C nn bs fg sp (c + 1) = fst C nn bs fg sp c → ∃ S', rec (lsI C nn bs fg sp c) (nI (c + 1)) X = rec (lsI C nn bs fg sp (c + 1)) (nI (c + 1)) S' ∧ (∀ h, h ≠ 105 → h ≠ 106 → S'.1 h = V.1 h) ∧ (¬ (fst C nn bs fg sp (c + 1)).1 = 9991 → ∀ j, j < nn → S'.1 105 j = hnd (fst C nn bs fg sp (c + 1)) j) := fun e => by
        refine ⟨X, ?_, fun h q1 q2 => by rw [x3 h q2]; exact p1 h q1 q2, fun z j hj => ?_⟩
        · unfold lsI; rw [e]
        · rw [e] at z ⊢
          rw [x3 105 (by omega)]; exact p2 z j hj
      by_cases d1 : lsI C nn bs fg sp c ≤ nI (POs (misN C nn) nn c)
      · rw [if_pos d1]
        refine keep ?_
        rw [st]; unfold lfC
        rw [if_neg (fun z => (cmp.mp d1) z.1)]
      · rw [if_neg d1]
        have lt : POs (misN C nn) nn c < (fst C nn bs fg sp c).1 := by
          apply Classical.byContradiction
          intro z
          exact d1 (cmp.mpr z)
        cases d2 : plB (kyC C) (hdl C nn) nn bs fg sp (C.1 78 51) (PLs nn c) (PRs nn c)
        · rw [if_pos (show b2i false = 0 from rfl)]
          refine keep ?_
          rw [st]; unfold lfC
          rw [if_neg (fun z => by rw [d2] at z; exact absurd z.2 (by decide))]
        · rw [if_neg (show ¬ b2i true = 0 by decide)]
          have st2 : fst C nn bs fg sp (c + 1) = (POs (misN C nn) nn c, PLs nn c, PRs nn c) := by
            rw [st]; unfold lfC
            rw [if_pos ⟨lt, d2⟩]
          obtain ⟨Y, y1, y2, y3⟩ := cp2 (bod := b_M_best_70 F G (nI fg) (nI sp) (nI (POs (misN C nn) nn c)) (nI c) (fun S30 => rec (nI (POs (misN C nn) nn c)) (nI (c + 1)) S30)) (k := fun S30 => rec (nI (POs (misN C nn) nn c)) (nI (c + 1)) S30) (N := nn) (fun j Y => (∀ i, i < j → Y.1 105 i = X.1 106 i) ∧ ∀ h, h ≠ 105 → Y.1 h = X.1 h)
            (fun rec' Y hP => by
              unfold b_M_best_70
              rw [hP.2 78 (by omega), X48, if_pos (nI_le (Nat.le_refl nn) (by omega))])
            (fun rec' j Y hj hP => by
              obtain ⟨q1, q2⟩ := hP
              unfold b_M_best_70
              rw [q2 78 (by omega), X48, if_neg (nI_ge hj (by omega)), gd_t (inB_nI (by omega) (by decide)), gd_t (inB_nI (by omega) (by decide)), lt_eq, lt_eq, nI_1, nI_clamp (by omega), q2 106 (by omega)]
              refine ⟨_, rfl, fun i hi => ?_, fun h q => by rw [sI_row q]; exact q2 h q⟩
              rw [sI_at]
              by_cases z : i = j
              · rw [if_pos ⟨rfl, z⟩, z]
              · rw [if_neg (fun y => z y.2)]; exact q1 i (by omega))
            nn 0 F X rfl (by omega) (by omega) ⟨fun i hi => by omega, fun _ _ => rfl⟩
          refine ⟨Y, y1.trans ?_, fun h q1 q2 => by rw [y3 h q1, x3 h q2]; exact p1 h q1 q2, fun _ j hj => ?_⟩
          · show rec (nI (POs (misN C nn) nn c)) (nI (c + 1)) Y = _
            unfold lsI
            rw [st2]
            rw [if_neg (show ¬ POs (misN C nn) nn c = 9991 by omega)]
          · have d3 : dgt nn c j < 3 := Nat.mod_lt _ (by decide)
            rw [y2 j hj, x2 j hj, st2]
            unfold hnd PLs PRs
            show hO (dgt nn c j) = if bt (mset (fun i => decide (dgt nn c i = 0)) nn) j = true then 1 else if bt (mset (fun i => decide (dgt nn c i = 1)) nn) j = true then 2 else 0
            rw [bt_mset _ (by omega) (by omega), bt_mset _ (by omega) (by omega), decide_eq_true hj, Bool.true_and, Bool.true_and]
            rcases (by omega : dgt nn c j = 0 ∨ dgt nn c j = 1 ∨ dgt nn c j = 2) with e | e | e <;> rw [e] <;> rfl)
    (3 ^ nn) 0 F V rfl (Nat.zero_le _) (by omega) ⟨fun _ _ _ => rfl, fun z => absurd rfl z⟩
  have val : fM_best F G S (nI fg) (nI sp) = some (lsI C nn bs fg sp (3 ^ nn), sI W 78 68 (W.1 78 48)) := by
    unfold fM_best
    rw [u1, bd_some, v1, bd_some]; exact w1
  obtain ⟨v, X, r1, -, r2⟩ := s_fM_best (F := F) (G := G) hF hG i (p1 := nI fg) (p2 := nI sp)
  obtain ⟨-, e2⟩ := Prod.mk.inj (Option.some.inj (val.symm.trans r1))
  rw [← e2] at r2
  refine ⟨_, val, r2, ?_, fun z j hj => ?_⟩
  · rw [sI_at, if_neg (by omega), w2.1 78 (by omega) (by omega)]; exact v2.2.2.1
  · rw [sI_row (by omega)]; exact w2.2 z j hj
theorem N_lay (hF : 100000 ≤ F) (hG : 20 ≤ G) (h : J2 S) (nb : NB S nn bs) (hf1 : 1 ≤ fg) (hf : fg ≤ 5) (hs : sp ≤ 87) : ∃ T, fN_layLeastMissed F G S (nI fg) (nI sp) = some T ∧ Inv S T ∧ fnd T (fst S nn bs fg sp (3 ^ nn)) := by
  have n10 := nb.1
  obtain ⟨np, n', m, -, -, -, -, -, -, -, -, -, -, ⟨-, hlp⟩, -⟩ := id h.2.1
  obtain ⟨T0, t1, t2, t3⟩ := look_I (F := F) (G := G) hF hG h nb
  obtain ⟨T1, s1, s2, s3, s4⟩ := C_weigh (F := F) (G := G) hF hG h nb t2 t3
  have kA : AK S (sI (sI T1 57 3 (nI fg)) 57 2 (nI sp)) nn bs fg sp := by
    obtain ⟨⟨k1, k2, k3, k4, k5, k6⟩, q2, q3, q4, q5, q6, q7, q8, q9⟩ := s2
    have r : ∀ h, h ≠ 57 → (sI (sI T1 57 3 (nI fg)) 57 2 (nI sp)).1 h = T1.1 h := fun h q => by rw [sI_row q, sI_row q]
    have c : ∀ k, k ≠ 2 → k ≠ 3 → (sI (sI T1 57 3 (nI fg)) 57 2 (nI sp)).1 57 k = T1.1 57 k := fun k z1 z2 => by rw [sI_at, if_neg (fun y => z1 y.2), sI_at, if_neg (fun y => z2 y.2)]
    refine ⟨⟨k1, k2, (c 0 (by omega) (by omega)).trans k3, (c 1 (by omega) (by omega)).trans k4, fun i hi => by rw [r 58 (by omega)]; exact k5 i hi, fun b hb => by rw [r 61 (by omega)]; exact k6 b hb⟩, sI_self, by rw [sI_at, if_neg (by omega), sI_self], (c 4 (by omega) (by omega)).trans q4, fun i hi => ⟨by rw [r 58 (by omega)]; exact (q8 i hi).1, ?_⟩, fun b hb => by rw [r 61 (by omega)]; exact q9 b hb, fun j hj => by rw [r 62 (by omega)]; exact s4 j hj⟩
    have := k5 i hi
    rw [(q8 i hi).1] at this; exact this
  obtain ⟨T2, a1, a2, a3⟩ := A_arrange (F := F) (G := G) hF hG nb.2.1 hf1 hf hs hlp kA
  have i2 : Inv S (sI (sI T1 57 3 (nI fg)) 57 2 (nI sp)) := (s3.stN rfl rfl).stN rfl rfl
  obtain ⟨T2', b1, b2⟩ := s_fA_arrange (F := F) (G := G) hF hG i2
  rw [← Option.some.inj (a1.symm.trans b1)] at b2
  -- what lies there then
  obtain ⟨T3, c1, c2, c3⟩ := cp2 (bod := b_N_layLeastMissed_33 F G) (k := fun W => some (sI W 0 12 (nI nn))) (N := nn) (fun j W => (∀ h, h ≠ 77 → W.1 h = T2.1 h) ∧ W.2 = T2.2)
    (fun rec W hP => by
      obtain ⟨-, i1, i2, -⟩ := nb.cls h b2
      unfold b_N_layLeastMissed_33
      have oo := isSc_or i1
      rw [hP.2, gd_t i1, hP.1 T2.2.2.1 (by omega), i2, if_pos (nI_le (Nat.le_refl nn) (by omega)), lt_eq])
    (fun rec j W hj hP => by
      obtain ⟨p1, p2⟩ := hP
      obtain ⟨-, i1, i2, -⟩ := nb.cls h b2
      have oo := isSc_or i1
      obtain ⟨v, hv⟩ : ∃ v, fA_handOf F G W (nI j) = some v := by
        unfold fA_handOf
        repeat' split
        all_goals exact ⟨_, rfl⟩
      unfold b_N_layLeastMissed_33
      rw [p2, gd_t i1, p1 T2.2.2.1 (by omega), i2, if_neg (nI_ge hj (by omega)), hv, bd_some, gd_t (inB_nI (by omega) (by decide)), lt_eq, lt_eq, nI_1, nI_clamp (by omega)]
      exact ⟨_, rfl, fun h q => by rw [sI_row q]; exact p1 h q, p2⟩)
    nn 0 F T2 rfl (by omega) (by omega) ⟨fun _ _ => rfl, rfl⟩
  have val : fN_layLeastMissed F G S (nI fg) (nI sp) = some (sI T3 0 12 (nI nn)) := by
    unfold fN_layLeastMissed
    rw [t1, bd_some, s1, bd_some, lt_eq, lt_eq, a1, bd_some]; exact c1
  obtain ⟨X, r1, r2⟩ := s_fN_layLeastMissed (F := F) (G := G) hF hG (Inv.rf h.1.1) (p1 := nI fg) (p2 := nI sp)
  rw [← Option.some.inj (val.symm.trans r1)] at r2
  refine ⟨_, val, r2, ?_⟩
  unfold fst
  rw [← sr_all]
  obtain ⟨f1, f2, f3, f4⟩ := a2
  have r56 : ∀ k, (sI T3 0 12 (nI nn)).1 56 k = T2.1 56 k := fun k => by rw [sI_row (by omega), c2 56 (by omega)]
  exact ⟨(r56 2).trans f1, (r56 3).trans f2, (r56 4).trans f3, f4⟩
theorem found (h : J2 S) (nb : NB S nn bs) (hf : fg ≤ 5) (hs : sp ≤ 87) : (fst S nn bs fg sp (3 ^ nn)).1 ≤ 999 * nn := by
  have n10 := nb.1
  have hk : ∀ i, i < nn → iv (kyC S i) 0 87 := fun i hi => ((nb.2.2.2.2.2.2.2.2.1 (10 + i) (by omega)).1 (by omega)).2.1 (by omega) (by omega)
  unfold fst
  rw [← sr_all]
  have z : ∀ x : Int32, (0 : Int32) &&& x = 0 := fun x => by
    apply bt_ext
    intro i hi
    rw [bt_and, bt_0, Bool.false_and]
  have pl : plB (kyC S) (hdl S nn) nn bs fg sp (S.1 78 51) 0 0 = true := (pl_iff n10 hk hf hs Sub.zero Sub.zero (fun i hi y => by rw [bt_0] at y; exact absurd y.1 (by decide))).mpr ⟨fun i hi j hj t => ⟨fun a => by rw [bt_0] at a; exact absurd a (by decide), fun a => by rw [bt_0] at a; exact absurd a (by decide), fun a => by rw [bt_0] at a; exact absurd a (by decide), fun a => by rw [bt_0] at a; exact absurd a (by decide)⟩, ⟨fun b hb => by rw [z, cnt_0 (fun i hi => bt_0 i)]; omega, fun b hb => by rw [z, cnt_0 (fun i hi => bt_0 i)]; omega⟩, fun b hb t => ⟨Or.inl (z _), Or.inl (z _)⟩⟩
  have := sr_found (pl := plB (kyC S) (hdl S nn) nn bs fg sp (S.1 78 51)) (mi := misN S nn) (k := nn) (n := 0) (lost := 0) (q := (9991, 0, 0)) pl (fun i => (mis_nI (C := S) (nn := nn) (j := i)).2)
  omega
theorem fst_sub (n10 : nn ≤ 10) : ∀ c, Sub (fst S nn bs fg sp c).2.1 nn ∧ Sub (fst S nn bs fg sp c).2.2 nn
  | 0 => ⟨Sub.zero, Sub.zero⟩
  | c + 1 => by
    show Sub (lfC _ _ nn (0 + c) (fst S nn bs fg sp c)).2.1 nn ∧ Sub (lfC _ _ nn (0 + c) (fst S nn bs fg sp c)).2.2 nn
    unfold lfC
    split
    · exact ⟨Sub.mset (by omega), Sub.mset (by omega)⟩
    · exact fst_sub n10 c
/-- both find the same -/
theorem both_best (hF : 100000 ≤ F) (hG : 20 ≤ G) (h : J2 S) (nb : NB S nn bs) (hf1 : 1 ≤ fg) (hf : fg ≤ 5) (hs : sp ≤ 87) : ∃ q : Nat × Int32 × Int32, q.1 ≤ 9990 ∧ Sub q.2.1 nn ∧ Sub q.2.2 nn ∧ ∃ T, fN_layLeastMissed F G S (nI fg) (nI sp) = some T ∧ Inv S T ∧ T.1 56 2 = nI q.1 ∧ T.1 56 3 = q.2.1 ∧ T.1 56 4 = q.2.2 ∧ ∀ S1, Inv S S1 → ∃ W, fM_best F G S1 (nI fg) (nI sp) = some (nI q.1, W) ∧ Inv S W ∧ W.1 78 48 = nI nn ∧ ∀ j, j < nn → W.1 105 j = hnd q j := by
  have n10 := nb.1
  obtain ⟨T, t1, t2, t3, t4, t5, t6⟩ := N_lay (F := F) (G := G) hF hG h nb hf1 hf hs
  have fd := found h nb hf hs
  refine ⟨fst S nn bs fg sp (3 ^ nn), by omega, (fst_sub n10 _).1, (fst_sub n10 _).2, T, t1, t2, t3, t4, t5, fun S1 i => ?_⟩
  obtain ⟨W, w1, w2, w3, w4⟩ := M_best (F := F) (G := G) hF hG h nb hf hs i
  have e : lsI S nn bs fg sp (3 ^ nn) = nI (fst S nn bs fg sp (3 ^ nn)).1 := if_neg (by omega)
  rw [e] at w1
  exact ⟨W, w1, w2, w3, w4 (by omega)⟩
end RV
