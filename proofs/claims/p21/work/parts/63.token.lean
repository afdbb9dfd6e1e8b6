/-! A STEP of the class, a TOKEN of the reference -/
def lxs (h k : Nat) : Bool := h == 2 && (Nat.ble 2 k && Nat.ble k 5)
def lxl (h k : Nat) : Bool := h == 2 && k == 6
theorem eq2 {h k a c : Nat} (e : (h == a && k == c) = true) : h = a ∧ k = c := by simpa using e
theorem lxs_2 {h k : Nat} (e : lxs h k = false) : (h == 2 && k == 2) = false := by
  cases c : (h == 2 && k == 2)
  · rfl
  · obtain ⟨rfl, rfl⟩ := eq2 c; cases e
theorem lxs_25 {h k : Nat} (e : lxs h k = false) : (h == 2 && (k == 2 || k == 5)) = false := by
  cases c : (h == 2 && (k == 2 || k == 5))
  · rfl
  · simp only [Bool.and_eq_true, Bool.or_eq_true, beq_iff_eq] at c
    obtain ⟨rfl, rfl | rfl⟩ := c <;> cases e
theorem sI_self {S : St} {h k : Nat} {x : Int32} : (sI S h k x).1 h k = x := by rw [sI_at, if_pos ⟨rfl, rfl⟩]
theorem lN_inj {a c : Nat} (ha : a < 2 ^ 64) (hc : c < 2 ^ 64) (h : lN a = lN c) : a = c := by
  have h1 : (lN a).toBitVec.toNat = (lN c).toBitVec.toNat := by rw [h]
  have t : ∀ m, m < 2 ^ 64 → (lN m).toBitVec.toNat = m := fun m hm => by
    show (BitVec.ofNat 64 m).toNat = m
    rw [BitVec.toNat_ofNat, Nat.mod_eq_of_lt hm]
  rw [t a ha, t c hc] at h1
  exact h1
section CS
variable {F G : Nat} {A : St} {b : Nat → Nat} {n : Nat}
theorem T_isLetterM : fT_isLetter F G A (-1) = some 0 := by
  unfold fT_isLetter
  decide +kernel
theorem wv_m1 (k : Nat) : wv k = -1 ↔ ¬ k < 21 := by
  unfold wv
  by_cases c : k < 21
  · rw [if_pos c]
    exact ⟨fun z => absurd z (nI_m1 (by omega)), fun z => absurd c z⟩
  · rw [if_neg c]
    exact ⟨fun _ => c, fun _ => rfl⟩
theorem T_takeWord (hF : 100000 ≤ F) {s : Nat} (ht : TapeC A b n) (hs : s < n) (hp : A.1 2 3 = nI s) (hn : A.1 2 2 = nI s) : ∃ A', fT_takeWord F G A = some A' ∧ Ag lxs lxl A A' ∧ A'.1 2 3 = nI s ∧ A'.1 2 2 = nI (stp isLt b n s) ∧ TkC A' (tkW b n s) := by
  have h16 := ht.2.1
  obtain ⟨q1, q2, q3, q4⟩ := stp_ok (P := isLt) (b := b) _ s rfl (Nat.le_of_lt hs)
  have a1 : Ag lxs lxl A (sL A 2 6 0) := Ag.rf.sL _ rfl
  obtain ⟨B, h1, h2, h3, h4⟩ := T_wloop (F := F) (G := G) (s := s) (k := fun S15 => j_T_takeWord_68 F G S15) (n - s) s F (sL A 2 6 0) rfl (Nat.le_refl _) (by omega) hn (ht.ag a1 rfl (fun _ => rfl)) (fun i i1 i2 => by omega) (fun _ => by rw [Nat.sub_self, sL_at, if_pos ⟨rfl, rfl⟩]; rfl) (by omega)
  have a2 : Ag lxs lxl A B := a1.tr (h2.mono (fun h k e => lxs_2 e) (fun h k e => e))
  have hB3 : B.1 2 3 = nI s := (h2.2.1 2 3 rfl).trans hp
  have hBt : TapeC B b n := ht.ag a2 rfl (fun _ => rfl)
  unfold fT_takeWord
  rw [lt_eq, h1]
  unfold j_T_takeWord_68
  rw [hB3, h3]
  unfold tkW
  by_cases c : stp isLt b n s - s ≤ 8
  · rw [W_num hF hBt q1 q2 c (fun i i1 i2 => q3 i i1 i2), bd_some, lt_eq, if_pos c]
    have hle : (nI (stp isLt b n s) - nI s) ≤ (8 : Int32) := by
      rw [nI_subN q1 (by omega)]
      exact nI_le (b := 8) c (by decide)
    rw [sI_self]
    unfold j_T_takeWord_101
    have e2 : ∀ x y : Int32, (sI (sI B 2 5 x) 2 4 y).1 2 2 = nI (stp isLt b n s) := fun x y => h3
    have e3 : ∀ x y : Int32, (sI (sI B 2 5 x) 2 4 y).1 2 3 = nI s := fun x y => hB3
    simp only [lt_eq, e2, e3, if_pos hle]
    by_cases d : kwi (seg b s (stp isLt b n s - s)) < 21
    · rw [if_neg (fun z => (wv_m1 _).mp z d)]
      refine ⟨_, rfl, (a2.sI _ rfl).sI _ rfl, e3 _ _, e2 _ _, ?_, ?_, ?_⟩
      · rw [sI_at, if_pos ⟨rfl, rfl⟩, kindC, if_neg (by simp), if_pos rfl, if_pos d]
      · intro _; exact ⟨h4 c, by rw [sI_at, if_neg (by omega), sI_at, if_pos ⟨rfl, rfl⟩]⟩
      · intro z; simp at z
    · rw [if_pos ((wv_m1 _).mpr d)]
      refine ⟨_, rfl, (a2.sI _ rfl).sI _ rfl, e3 _ _, e2 _ _, ?_, ?_, ?_⟩
      · rw [sI_at, if_pos ⟨rfl, rfl⟩, kindC, if_neg (by simp), if_pos rfl, if_neg d]
      · intro _; exact ⟨h4 c, by rw [sI_at, if_neg (by omega), sI_at, if_pos ⟨rfl, rfl⟩]⟩
      · intro z; simp at z
  · rw [W_big hF q1 (by omega) (by omega), bd_some, lt_eq, if_neg c]
    have hle : ¬ (nI (stp isLt b n s) - nI s) ≤ (8 : Int32) := by
      rw [nI_subN q1 (by omega)]
      exact nI_ge (a := 8) (by omega) (by omega)
    rw [sI_self, if_pos rfl]
    unfold j_T_takeWord_101
    have e2 : ∀ x y : Int32, (sI (sI B 2 5 x) 2 4 y).1 2 2 = nI (stp isLt b n s) := fun x y => h3
    have e3 : ∀ x y : Int32, (sI (sI B 2 5 x) 2 4 y).1 2 3 = nI s := fun x y => hB3
    simp only [lt_eq, e2, e3, if_neg hle]
    refine ⟨_, rfl, ((a2.sI _ rfl).sI _ rfl).sI _ rfl, hB3, h3, ?_, ?_, ?_⟩
    · rw [sI_at, if_pos ⟨rfl, rfl⟩]; rfl
    · intro z; simp at z
    · intro z; simp at z
theorem T_takeNumber (hF : 100000 ≤ F) {s : Nat} (ht : TapeC A b n) (hs : s < n) (hp : A.1 2 3 = nI s) (hn : A.1 2 2 = nI s) : ∃ A', fT_takeNumber F G A = some A' ∧ Ag lxs lxl A A' ∧ A'.1 2 3 = nI s ∧ A'.1 2 2 = nI (stp isDg b n s) ∧ TkC A' (tkN b n s) := by
  have h16 := ht.2.1
  obtain ⟨q1, q2, q3, q4⟩ := stp_ok (P := isDg) (b := b) _ s rfl (Nat.le_of_lt hs)
  have a1 : Ag lxs lxl A (sI A 2 5 0) := Ag.rf.sI _ rfl
  obtain ⟨B, h1, h2, h3, h4⟩ := T_nloop (F := F) (G := G) (s := s) (k := fun S15 => j_T_takeNumber_66 F G S15) (n - s) s F (sI A 2 5 0) rfl (Nat.le_refl _) (by omega) hn (ht.ag a1 rfl (fun _ => rfl)) (fun i i1 i2 => by omega) (fun _ => by rw [Nat.sub_self, sI_at, if_pos ⟨rfl, rfl⟩]; rfl) (by omega)
  have a2 : Ag lxs lxl A B := a1.tr (h2.mono (fun h k e => lxs_25 e) (fun h k e => rfl))
  have hB3 : B.1 2 3 = nI s := (h2.2.1 2 3 rfl).trans hp
  have hBt : TapeC B b n := ht.ag a2 rfl (fun _ => rfl)
  have bad : ∃ A', lt (sI B 2 4 (5 : Int32)) (fun S17 => some S17) = some A' ∧ Ag lxs lxl A A' ∧ A'.1 2 3 = nI s ∧ A'.1 2 2 = nI (stp isDg b n s) ∧ TkC A' (4, 0, []) := by
    refine ⟨_, rfl, a2.sI _ rfl, hB3, h3, ?_, ?_, ?_⟩
    · rw [sI_at, if_pos ⟨rfl, rfl⟩]; rfl
    · intro z; simp at z
    · intro z; simp at z
  unfold fT_takeNumber
  rw [lt_eq, h1]
  unfold j_T_takeNumber_66
  rw [hB3, h3, nI_subN q1 (by omega), T_at hBt (by omega), bd_some]
  unfold tkN
  by_cases c : stp isDg b n s - s ≤ 4
  · rw [if_neg (fun z => by rw [show (4 : Int32) = nI 4 from rfl, nI_ltI (by decide) (by omega)] at z; omega)]
    by_cases d : stp isDg b n s < n
    · rw [if_pos d, T_isLetter (ht.2.2 _ d).1, bd_some]
      by_cases e : isLt (b (stp isDg b n s)) = true
      · rw [if_pos e, if_neg (by decide), if_neg (fun z => z.2 ⟨d, e⟩)]
        exact bad
      · rw [if_neg e, if_pos rfl, if_pos ⟨c, fun z => e z.2⟩]
        refine ⟨_, rfl, a2.sI _ rfl, hB3, h3, ?_, ?_, ?_⟩
        · rw [sI_at, if_pos ⟨rfl, rfl⟩]; rfl
        · intro z; simp at z
        · intro _; rw [sI_at, if_neg (by omega), h4 c]
    · rw [if_neg d, T_isLetterM, bd_some, if_pos rfl, if_pos ⟨c, fun z => d z.1⟩]
      refine ⟨_, rfl, a2.sI _ rfl, hB3, h3, ?_, ?_, ?_⟩
      · rw [sI_at, if_pos ⟨rfl, rfl⟩]; rfl
      · intro z; simp at z
      · intro _; rw [sI_at, if_neg (by omega), h4 c]
  · rw [if_pos (show (4 : Int32) < nI (stp isDg b n s - s) from nI_lt (a := 4) (by omega) (by omega)), if_neg (fun z => c z.1)]
    exact bad
/-- a step of the class -/
theorem T_step (hF : 100000 ≤ F) {p : Nat} (ht : TapeC A b n) (hp : p ≤ n) (hn : A.1 2 2 = nI p) : ∃ A', fT_step F G A = some A' ∧ Ag lxs lxl A A' ∧ A'.1 2 3 = nI (stp isBk b n p) ∧ A'.1 2 2 = nI (tkE b n (stp isBk b n p)) ∧ TkC A' (tkA b n (stp isBk b n p)) := by
  have h16 := ht.2.1
  obtain ⟨q1, q2⟩ := stp_bd (P := isBk) (b := b) hp
  obtain ⟨B0, h1, h2, h3⟩ := T_skip (F := F) (G := G) (k := fun S9 => j_T_step_38 F G S9) (n - p) p F A rfl hp hn ht (by omega)
  unfold fT_step
  rw [h1]
  generalize stp isBk b n p = s at *
  have a1 : Ag lxs lxl A B0 := h2.mono (fun h k e => lxs_2 e) (fun h k e => rfl)
  unfold j_T_step_38
  rw [lt_eq]
  have hB3 : (sI B0 2 3 (B0.1 2 2)).1 2 3 = nI s := by rw [sI_at, if_pos ⟨rfl, rfl⟩, h3]
  have hB2 : (sI B0 2 3 (B0.1 2 2)).1 2 2 = nI s := h3
  have a2 : Ag lxs lxl A (sI B0 2 3 (B0.1 2 2)) := a1.sI _ rfl
  generalize sI B0 2 3 (B0.1 2 2) = B at *
  have hBt : TapeC B b n := ht.ag a2 rfl (fun _ => rfl)
  rw [hB2, T_at hBt (by omega), bd_some]
  unfold tkA tkE
  by_cases c : s < n
  · have hc := (ht.2.2 s c).1
    rw [if_pos c, if_pos c, if_pos c, if_neg (nI_m1 (by omega)), T_isLetter hc, bd_some]
    by_cases d : isLt (b s) = true
    · rw [if_pos d, if_pos d, if_pos d, if_neg (by decide)]
      obtain ⟨A', x1, x2, x3, x4, x5⟩ := T_takeWord (G := G) hF hBt c hB3 hB2
      rw [x1, bd_some]
      exact ⟨A', rfl, a2.tr x2, x3, x4, x5⟩
    · rw [if_neg d, if_neg d, if_neg d, if_pos rfl, T_isDigit hc, bd_some]
      by_cases e : isDg (b s) = true
      · rw [if_pos e, if_pos e, if_pos e, if_neg (by decide)]
        obtain ⟨A', x1, x2, x3, x4, x5⟩ := T_takeNumber (G := G) hF hBt c hB3 hB2
        rw [x1, bd_some]
        exact ⟨A', rfl, a2.tr x2, x3, x4, x5⟩
      · rw [if_neg e, if_neg e, if_neg e, if_pos rfl]
        obtain ⟨v, y1, y2⟩ := J_sign (F := F) (G := G) (S := B) hF hc
        rw [y1, bd_some]
        unfold j_T_step_112
        by_cases g : isSg (b s) = true
        · rw [if_neg (fun z => by rw [y2.mp z] at g; cases g), if_pos g]
          refine ⟨_, rfl, ((a2.sI _ rfl).sI _ rfl).sI _ rfl, hB3, ?_, ?_, ?_, ?_⟩
          · rw [sI_at, if_pos ⟨rfl, rfl⟩]
            show B.1 2 2 + 1 = _
            rw [hB2, nI_1]
          · rfl
          · intro z; simp at z
          · intro _; rfl
        · rw [if_pos (y2.mpr (by simpa using g)), if_neg g]
          refine ⟨_, rfl, ((a2.sI _ rfl).sI _ rfl).sI _ rfl, hB3, ?_, ?_, ?_, ?_⟩
          · rw [sI_at, if_pos ⟨rfl, rfl⟩]
            show B.1 2 2 + 1 = _
            rw [hB2, nI_1]
          · rfl
          · intro z; simp at z
          · intro z; simp at z
  · rw [if_neg c, if_neg c, if_neg c, if_pos rfl]
    refine ⟨_, rfl, a2.sI _ rfl, hB3, hB2, ?_, ?_, ?_⟩
    · rfl
    · intro z; simp at z
    · intro z; simp at z
end CS
