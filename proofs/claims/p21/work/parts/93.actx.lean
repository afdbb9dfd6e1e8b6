/-! ACTS, exactly: the laying as 41 cells -/
def lc (S : St) (k : Nat) : Int32 := if k < 10 then S.1 31 k else if k < 20 then S.1 32 (k - 10) else if k < 30 then S.1 33 (k - 20) else if k < 40 then S.1 34 (k - 30) else S.1 30 1
def cix (q i : Nat) : Nat := if q = 4 then 40 else 10 * q + i
/-- the cell of kind q and note i in the class -/
def ch (q : Nat) : Nat := if q = 4 then 30 else 31 + q
def ck (q i : Nat) : Nat := if q = 4 then 1 else i
section AX
variable {F G : Nat} {S : St}
theorem lc_sI {q i k : Nat} {x : Int32} (hq : q ≤ 4) (hi : i < 10) (hk : k ≤ 40) : lc (sI S (ch q) (ck q i) x) k = if k = cix q i then x else lc S k := by
  unfold lc ch ck cix
  rcases (by omega : q = 0 ∨ q = 1 ∨ q = 2 ∨ q = 3 ∨ q = 4) with rfl | rfl | rfl | rfl | rfl
  all_goals simp only [reduceIte, Nat.reduceEqDiff, Nat.reduceMul, Nat.reduceAdd, Nat.mul_zero, Nat.zero_add]
  all_goals
    by_cases k1 : k < 10
    · rw [if_pos k1, if_pos k1, sI_at]
      by_cases e : k = i
      · first
          | rw [if_pos (by omega), if_pos (by omega)]
          | rw [if_neg (by omega), if_neg (by omega)]
      · rw [if_neg (by omega), if_neg (by omega)]
    · rw [if_neg k1, if_neg k1]
      by_cases k2 : k < 20
      · rw [if_pos k2, if_pos k2, sI_at]
        by_cases e : k - 10 = i
        · first
            | rw [if_pos (by omega), if_pos (by omega)]
            | rw [if_neg (by omega), if_neg (by omega)]
        · rw [if_neg (by omega), if_neg (by omega)]
      · rw [if_neg k2, if_neg k2]
        by_cases k3 : k < 30
        · rw [if_pos k3, if_pos k3, sI_at]
          by_cases e : k - 20 = i
          · first
              | rw [if_pos (by omega), if_pos (by omega)]
              | rw [if_neg (by omega), if_neg (by omega)]
          · rw [if_neg (by omega), if_neg (by omega)]
        · rw [if_neg k3, if_neg k3]
          by_cases k4 : k < 40
          · rw [if_pos k4, if_pos k4, sI_at]
            by_cases e : k - 30 = i
            · first
                | rw [if_pos (by omega), if_pos (by omega)]
                | rw [if_neg (by omega), if_neg (by omega)]
            · rw [if_neg (by omega), if_neg (by omega)]
          · rw [if_neg k4, if_neg k4, sI_at]
            first
              | rw [if_pos (by omega), if_pos (by omega)]
              | rw [if_neg (by omega), if_neg (by omega)]
theorem row_x {q : Nat} (hq : q ≤ 4) : fL_rowOf F G S 30 (nI q) = some (if q = 4 then 34 else 31 + q) := by
  unfold fL_rowOf
  rw [gd_t (show isLa 30 = true from rfl)]
  rcases (by omega : q = 0 ∨ q = 1 ∨ q = 2 ∨ q = 3 ∨ q = 4) with rfl | rfl | rfl | rfl | rfl <;> rfl
theorem put_x {q i : Nat} (hq : q ≤ 4) (hi : i < 12) (h4 : q < 4 → i < 10) {x : Int32} : fL_put F G S 30 (nI q) (nI i) x = some (sI S (ch q) (ck q i) x) := by
  unfold fL_put
  rw [gd_t (show isLa 30 = true from rfl), row_x hq, bd_some, gd_t (by rcases (by omega : q = 0 ∨ q = 1 ∨ q = 2 ∨ q = 3 ∨ q = 4) with rfl | rfl | rfl | rfl | rfl <;> rfl)]
  by_cases c : q = 4
  · subst c; rfl
  · rw [if_neg (show ¬ nI q = (4 : Int32) from fun z => c ((nI_eq (a := q) (b := 4) (by omega) (by omega)).mp z)), if_neg (nI_nn (by omega)), if_neg (show ¬ Int32.ofNat 10 ≤ nI i from nI_ge (b := 10) (h4 (by omega)) (by decide)), gd_t (inB_nI (h4 (by omega)) (by decide)), lt_eq, nI_clamp (by omega), if_neg c]
    unfold ch ck
    rw [if_neg c, if_neg c]
theorem val_x {q i : Nat} (hq : q ≤ 4) (hi : i < 12) (h4 : q < 4 → i < 10) : fL_valueOf F G S 30 (nI q) (nI i) = some (S.1 (ch q) (ck q i)) := by
  unfold fL_valueOf
  rw [gd_t (show isLa 30 = true from rfl), row_x hq, bd_some, gd_t (by rcases (by omega : q = 0 ∨ q = 1 ∨ q = 2 ∨ q = 3 ∨ q = 4) with rfl | rfl | rfl | rfl | rfl <;> rfl)]
  by_cases c : q = 4
  · subst c; rfl
  · rw [if_neg (show ¬ nI q = (4 : Int32) from fun z => c ((nI_eq (a := q) (b := 4) (by omega) (by omega)).mp z)), if_neg (nI_nn (by omega)), if_neg (show ¬ Int32.ofNat 10 ≤ nI i from nI_ge (b := 10) (h4 (by omega)) (by decide)), gd_t (inB_nI (h4 (by omega)) (by decide)), nI_clamp (by omega), if_neg c]
    unfold ch ck
    rw [if_neg c, if_neg c]
/-- one act of the class, a acts stand before it -/
def actS (S : St) (a q i : Nat) (x : Int32) : St := sI (sI (sI (sI (sI (sI (sI S 52 a (nI q)) 53 a (nI i)) 54 a (S.1 (ch q) (ck q i))) 55 a x) 51 0 (nI (a + 1))) 51 1 (nI (a + 1))) (ch q) (ck q i) x
theorem act13_x {a q i : Nat} (ha : S.1 51 0 = nI a) (h40 : a < 40) (hq : q ≤ 4) (hi : i < 12) (h4 : q < 4 → i < 10) {x : Int32} : j_C_act_13 F G 30 S (nI q) (nI i) x = some (actS S a q i x) := by
  have e : inB (nI a) 40 = true := inB_nI h40 (by decide)
  have hch : ch q = 30 ∨ ch q = 31 ∨ ch q = 32 ∨ ch q = 33 ∨ ch q = 34 := by unfold ch; split <;> omega
  unfold j_C_act_13
  simp only [lt_eq]
  rw [ha, gd_t e, nI_clamp (by omega), show (sI S 52 a (nI q)).1 51 0 = nI a from ha, gd_t e, nI_clamp (by omega), val_x hq hi h4, bd_some, show (sI (sI S 52 a (nI q)) 53 a (nI i)).1 51 0 = nI a from ha, gd_t e, nI_clamp (by omega), show (sI (sI S 52 a (nI q)) 53 a (nI i)).1 (ch q) (ck q i) = S.1 (ch q) (ck q i) by rw [sI_at, if_neg (by omega), sI_at, if_neg (by omega)]]
  rw [show (sI (sI (sI S 52 a (nI q)) 53 a (nI i)) 54 a (S.1 (ch q) (ck q i))).1 51 0 = nI a from ha, gd_t e, nI_clamp (by omega), show (sI (sI (sI (sI S 52 a (nI q)) 53 a (nI i)) 54 a (S.1 (ch q) (ck q i))) 55 a x).1 51 0 = nI a from ha, nI_1, sI_self, put_x hq hi h4, bd_some]
  rfl
end AX
