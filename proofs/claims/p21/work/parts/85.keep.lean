/-! WHAT THE CALLS KEEP: bounds, and class and reference coupled in tape, fault and time -/
def CpT (S : St) : Prop := ∃ n b, TapeC S b n ∧ S.1 78 1 = nI n ∧ ∀ k, k < n → b k < 256 ∧ S.1 79 k = nI (b k)
def Cp (S : St) : Prop := CpT S ∧ S.1 1 0 = S.1 78 2 ∧ S.1 1 1 = S.1 78 3 ∧ S.1 69 1 = S.1 78 75
def J (S : St) : Prop := Good S ∧ Cp S
/-- cells that acts change -/
def acs (h k : Nat) : Bool := (Nat.ble 30 h && Nat.ble h 55) || (h == 69 && k == 0) || (Nat.ble 71 h && Nat.ble h 75) || (h == 78 && (k == 63 || k == 64 || k == 74)) || h == 100 || h == 104 || (Nat.ble 108 h && Nat.ble h 112) || Nat.ble 115 h
def kps (h k : Nat) : Bool := scr h k || acs h k
def Kp (S S' : St) : Prop := S'.2 = S.2 ∧ Bnd S' ∧ ActM S' ∧ ∀ h k, kps h k = false → S'.1 h k = S.1 h k
theorem Kp.rf {S : St} (h : Good S) : Kp S S := ⟨rfl, h.1, h.2.2.2, fun _ _ _ => rfl⟩
theorem Kp.tr {S S1 S2 : St} (a : Kp S S1) (b : Kp S1 S2) : Kp S S2 := ⟨b.1.trans a.1, b.2.1, b.2.2.1, fun h k e => (b.2.2.2 h k e).trans (a.2.2.2 h k e)⟩
theorem hgt_c {S S' : St} {m : Nat} (h : ∀ k, k < m → S'.1 83 k = S.1 83 k) : ∀ s, s ≤ m → hgt S' s = hgt S s := by
  intro s
  induction s with
  | zero => intro _; rfl
  | succ s ih =>
    intro hs
    show (if S'.1 83 s = 0 ∨ S'.1 83 s = 1 then hgt S' s + 1 else if S'.1 83 s = 2 then hgt S' s else hgt S' s - 1) = if S.1 83 s = 0 ∨ S.1 83 s = 1 then hgt S s + 1 else if S.1 83 s = 2 then hgt S s else hgt S s - 1
    rw [h s (by omega), ih (by omega)]
theorem WFm.c {S S' : St} (w : WFm S) (h18 : S'.1 78 18 = S.1 78 18) (h83 : ∀ k, S'.1 83 k = S.1 83 k) (h84 : ∀ k, S'.1 84 k = S.1 84 k) : WFm S' := by
  intro s hs
  rw [h18] at hs
  rw [h83, h84, hgt_c (m := s) (fun k _ => h83 k) s (Nat.le_refl _)]
  exact w s hs
theorem Kp.good {S S' : St} (g : Good S) (a : Kp S S') : Good S' := by
  refine ⟨a.2.1, ?_, g.2.2.1.c (a.2.2.2 78 18 rfl) (fun k => a.2.2.2 83 k rfl) (fun k => a.2.2.2 84 k rfl), a.2.2.1⟩
  obtain ⟨t1, t2, t3⟩ := g.2.1
  rw [Told, a.1]
  refine ⟨t1, t2, ?_⟩
  rcases isSc_or t1 with q | q <;> rw [q] at t3 ⊢
  · rw [a.2.2.2 4 0 rfl]; exact t3
  · rw [a.2.2.2 17 0 rfl]; exact t3
theorem Kp.j {S S' : St} (g : J S) (a : Kp S S') : J S' := by
  obtain ⟨g1, ⟨n, b, ⟨t1, t2, t3⟩, t4, t5⟩, c1, c2, c3⟩ := g
  have f := a.2.2.2
  refine ⟨a.good g1, ⟨n, b, ⟨(f 2 0 rfl).trans t1, t2, fun k hk => ⟨(t3 k hk).1, (f 3 k rfl).trans (t3 k hk).2⟩⟩, (f 78 1 rfl).trans t4, fun k hk => ⟨(t5 k hk).1, (f 79 k rfl).trans (t5 k hk).2⟩⟩, ?_, ?_, ?_⟩
  · rw [f 1 0 rfl, f 78 2 rfl]; exact c1
  · rw [f 1 1 rfl, f 78 3 rfl]; exact c2
  · rw [f 69 1 rfl, f 78 75 rfl]; exact c3
theorem Inv.kp {C S : St} (h : Inv C S) : Kp C S := by
  refine ⟨h.2.2.1, h.2.1, ?_, fun h' k e => h.2.2.2 h' k ?_⟩
  · rw [ActM, h.2.2.2 78 63 rfl, h.2.2.2 78 64 rfl]; exact h.1.2.2.2
  · simp only [kps, Bool.or_eq_false_iff] at e; exact e.1
/-- a cell that acts change -/
theorem Kp.s0 {S S' : St} (a : Kp S S') {h k : Nat} {x : Int32} (hk : kps h k = true) (hb : ∀ l u, bnd h k = some (l, u) → iv x l u) (hA : ActM (sI S' h k x)) : Kp S (sI S' h k x) := by
  refine ⟨a.1, a.2.1.st hb, hA, fun h' k' e => ?_⟩
  rw [sI_at, if_neg (fun c => by rw [c.1, c.2, hk] at e; cases e)]
  exact a.2.2.2 h' k' e
theorem Kp.sN {S S' : St} (a : Kp S S') {h k : Nat} {x : Int32} (hk : kps h k = true) (hb : bnd h k = none) (hA : h ≠ 78) : Kp S (sI S' h k x) := by
  refine a.s0 hk (fun l u e => by rw [hb] at e; cases e) ?_
  rw [ActM, sI_at, if_neg (by omega), sI_at, if_neg (by omega)]
  exact a.2.2.1
theorem Kp.sB {S S' : St} (a : Kp S S') {h k : Nat} {x : Int32} {l u : Int} (hk : kps h k = true) (hb : bnd h k = some (l, u)) (hx : iv x l u) (hA : h ≠ 78) : Kp S (sI S' h k x) := by
  refine a.s0 hk (fun l' u' e => by rw [hb] at e; cases e; exact hx) ?_
  rw [ActM, sI_at, if_neg (by omega), sI_at, if_neg (by omega)]
  exact a.2.2.1
