/-! THE TEXT: places, tokens -/
theorem nI_nn {a : Nat} (ha : a < 2 ^ 31) : ¬ nI a < 0 := by
  rw [show (0 : Int32) = nI 0 from rfl, nI_ltI ha (by decide)]; omega
theorem nI_m1 {a : Nat} (ha : a < 2 ^ 31) : ¬ nI a = -1 := by
  intro h
  have := congrArg Int32.toInt h
  rw [tn_nI ha] at this
  have e : (-1 : Int32).toInt = -1 := rfl
  omega
theorem nI_cl {a : Nat} (ha : a < 2 ^ 31) : (nI a).toNatClampNeg = a := nI_clamp ha
theorem nI_addN (a b : Nat) : nI a + nI b = nI (a + b) := nI_add a b
theorem nI_subN {a b : Nat} (h : b ≤ a) (ha : a < 2 ^ 31) : nI a - nI b = nI (a - b) := by
  apply Int32.toInt_inj.mp
  rw [Int32.toInt_sub, tn_nI ha, tn_nI (by omega), tn_nI (by omega), i32b (by omega) (by omega)]
  omega
theorem lN_acc {k v c : Nat} (hk : k < 64) (hc : c < 2 ^ k) (h : v * 2 ^ k + c < 2 ^ 64) : lN v <<< ((nI k).toInt64 &&& 63) ||| lN c = lN (v * 2 ^ k + c) := by
  have e1 : ((nI k).toInt64 &&& 63) = lN k := (by decide +kernel : ∀ k, k < 64 → ((nI k).toInt64 &&& 63) = lN k) k hk
  have e2 : (BitVec.ofNat 64 k).smod 64 = BitVec.ofNat 64 k := (by decide +kernel : ∀ k, k < 64 → (BitVec.ofNat 64 k).smod 64 = BitVec.ofNat 64 k) k hk
  have tb : ∀ n, (lN n).toBitVec = BitVec.ofNat 64 n := fun _ => rfl
  have hv : v < 2 ^ 64 := by
    have : v * 1 ≤ v * 2 ^ k := Nat.mul_le_mul_left v (Nat.pow_pos (by decide))
    omega
  rw [e1]
  apply Int64.toBitVec_inj.mp
  apply BitVec.eq_of_toNat_eq
  rw [Int64.toBitVec_or, Int64.toBitVec_shiftLeft, tb, tb, tb, tb, e2, BitVec.toNat_or, BitVec.shiftLeft_eq', BitVec.toNat_shiftLeft]
  simp only [BitVec.toNat_ofNat]
  rw [Nat.mod_eq_of_lt (show k < 2 ^ 64 by omega), Nat.mod_eq_of_lt hv, Nat.mod_eq_of_lt (show c < 2 ^ 64 by omega), Nat.mod_eq_of_lt (show v * 2 ^ k + c < 2 ^ 64 by omega), Nat.shiftLeft_eq, Nat.mod_eq_of_lt (show v * 2 ^ k < 2 ^ 64 by omega)]
  rw [Nat.mul_comm, Nat.two_pow_add_eq_or_of_lt hc]
/-! what a call leaves alone -/
def Ag (s l : Nat → Nat → Bool) (A A' : St) : Prop := A'.2.2 = A.2.2 ∧ (∀ h k, s h k = false → A'.1 h k = A.1 h k) ∧ (∀ h k, l h k = false → A'.2.1 h k = A.2.1 h k)
theorem Ag.rf {s l : Nat → Nat → Bool} {A : St} : Ag s l A A := ⟨rfl, fun _ _ _ => rfl, fun _ _ _ => rfl⟩
theorem Ag.tr {s l : Nat → Nat → Bool} {A A1 A2 : St} (a : Ag s l A A1) (b : Ag s l A1 A2) : Ag s l A A2 := ⟨b.1.trans a.1, fun h k e => (b.2.1 h k e).trans (a.2.1 h k e), fun h k e => (b.2.2 h k e).trans (a.2.2 h k e)⟩
theorem Ag.mono {s l s' l' : Nat → Nat → Bool} {A A1 : St} (a : Ag s l A A1) (hs : ∀ h k, s' h k = false → s h k = false) (hl : ∀ h k, l' h k = false → l h k = false) : Ag s' l' A A1 := ⟨a.1, fun h k e => a.2.1 h k (hs h k e), fun h k e => a.2.2 h k (hl h k e)⟩
theorem Ag.sI {s l : Nat → Nat → Bool} {A A1 : St} (a : Ag s l A A1) {h k : Nat} (x : Int32) (e : s h k = true) : Ag s l A (sI A1 h k x) := by
  refine ⟨a.1, fun h' k' e' => ?_, a.2.2⟩
  rw [sI_at, if_neg (fun c => by rw [c.1, c.2, e] at e'; cases e')]
  exact a.2.1 h' k' e'
theorem sL_at {S : St} {h k : Nat} {x : Int64} {h' k' : Nat} : (sL S h k x).2.1 h' k' = if h' = h ∧ k' = k then x else S.2.1 h' k' := by
  by_cases e : h' = h
  · subst e
    by_cases e2 : k' = k
    · subst e2; simp [sL, vp_updL]
    · simp [sL, vp_updL, e2]
  · simp [sL, e]
theorem Ag.sL {s l : Nat → Nat → Bool} {A A1 : St} (a : Ag s l A A1) {h k : Nat} (x : Int64) (e : l h k = true) : Ag s l A (sL A1 h k x) := by
  refine ⟨a.1, a.2.1, fun h' k' e' => ?_⟩
  rw [sL_at, if_neg (fun c => by rw [c.1, c.2, e] at e'; cases e')]
  exact a.2.2 h' k' e'
/-! runs of letters, digits, blanks -/
def isLt (c : Nat) : Bool := Nat.ble 97 c && Nat.ble c 122
def isDg (c : Nat) : Bool := Nat.ble 48 c && Nat.ble c 57
def isBk (c : Nat) : Bool := c == 32 || c == 10
def isSg (c : Nat) : Bool := c == 59 || c == 40 || c == 41 || c == 60 || c == 62 || c == 61 || c == 43 || c == 45 || c == 42 || c == 47 || c == 37
def run (P : Nat → Bool) (b : Nat → Nat) (n : Nat) : Nat → Nat → Nat
  | 0, p => p
  | r + 1, p => if p < n ∧ P (b p) = true then run P b n r (p + 1) else p
def stp (P : Nat → Bool) (b : Nat → Nat) (n p : Nat) : Nat := run P b n (n - p) p
theorem stp_go {P : Nat → Bool} {b : Nat → Nat} {n p : Nat} (h : p < n) (hP : P (b p) = true) : stp P b n p = stp P b n (p + 1) := by
  unfold stp
  obtain ⟨r, hr⟩ : ∃ r, n - p = r + 1 := ⟨n - p - 1, by omega⟩
  rw [hr, run, if_pos ⟨h, hP⟩, show n - (p + 1) = r by omega]
theorem stp_no {P : Nat → Bool} {b : Nat → Nat} {n p : Nat} (h : ¬ (p < n ∧ P (b p) = true)) : stp P b n p = p := by
  unfold stp
  cases hr : n - p with
  | zero => rfl
  | succ r => rw [run, if_neg h]
theorem stp_ok {P : Nat → Bool} {b : Nat → Nat} {n : Nat} : ∀ r p, n - p = r → p ≤ n → p ≤ stp P b n p ∧ stp P b n p ≤ n ∧ (∀ i, p ≤ i → i < stp P b n p → P (b i) = true) ∧ ¬ (stp P b n p < n ∧ P (b (stp P b n p)) = true) := by
  intro r
  induction r with
  | zero =>
    intro p hr hp
    have e : stp P b n p = p := stp_no (by omega)
    rw [e]
    exact ⟨Nat.le_refl _, hp, fun i h1 h2 => by omega, by omega⟩
  | succ r ih =>
    intro p hr hp
    by_cases c : p < n ∧ P (b p) = true
    · rw [stp_go c.1 c.2]
      obtain ⟨h1, h2, h3, h4⟩ := ih (p + 1) (by omega) (by omega)
      refine ⟨by omega, h2, fun i a1 a2 => ?_, h4⟩
      by_cases e : i = p
      · rw [e]; exact c.2
      · exact h3 i (by omega) a2
    · rw [stp_no c]
      exact ⟨Nat.le_refl _, hp, fun i h1 h2 => by omega, c⟩
theorem stp_bd {P : Nat → Bool} {b : Nat → Nat} {n p : Nat} (hp : p ≤ n) : p ≤ stp P b n p ∧ stp P b n p ≤ n := ⟨(stp_ok _ p rfl hp).1, (stp_ok _ p rfl hp).2.1⟩
def seg (b : Nat → Nat) (p : Nat) : Nat → List Nat
  | 0 => []
  | m + 1 => seg b p m ++ [b (p + m)]
def p5 (L : List Nat) : Nat := L.foldl (fun v c => v * 32 + (c - 96)) 0
def p8 (L : List Nat) : Nat := L.foldl (fun v c => v * 256 + c) 0
def nv (L : List Nat) : Nat := L.foldl (fun v c => v * 10 + (c - 48)) 0
theorem p5_app (L : List Nat) (c : Nat) : p5 (L ++ [c]) = p5 L * 32 + (c - 96) := by simp [p5, List.foldl_append]
theorem p8_app (L : List Nat) (c : Nat) : p8 (L ++ [c]) = p8 L * 256 + c := by simp [p8, List.foldl_append]
theorem nv_app (L : List Nat) (c : Nat) : nv (L ++ [c]) = nv L * 10 + (c - 48) := by simp [nv, List.foldl_append]
theorem seg_len (b : Nat → Nat) (p : Nat) : ∀ m, (seg b p m).length = m
  | 0 => rfl
  | m + 1 => by rw [seg, List.length_append, seg_len b p m]; rfl
theorem seg_all {b : Nat → Nat} {p : Nat} {P : Nat → Bool} : ∀ m, (∀ i, p ≤ i → i < p + m → P (b i) = true) → ∀ c, c ∈ seg b p m → P c = true
  | 0, _, c, h => by cases h
  | m + 1, h, c, hc => by
    rw [seg, List.mem_append] at hc
    rcases hc with hc | hc
    · exact seg_all m (fun i h1 h2 => h i h1 (by omega)) c hc
    · rw [List.mem_singleton] at hc
      rw [hc]
      exact h _ (by omega) (by omega)
theorem seg_get (b : Nat → Nat) (p : Nat) : ∀ (m i : Nat), (seg b p m).getD i 32 = if i < m then b (p + i) else 32
  | 0, i => by simp [seg]
  | m + 1, i => by
    have ih := seg_get b p m i
    have hl := seg_len b p m
    rw [List.getD_eq_getElem?_getD] at ih ⊢
    rw [seg]
    by_cases h : i < m
    · rw [List.getElem?_append_left (by omega), ih, if_pos h, if_pos (by omega)]
    · rw [List.getElem?_append_right (by omega), hl]
      by_cases e : i = m
      · subst e
        rw [if_pos (by omega)]
        simp
      · rw [if_neg (by omega), List.getElem?_eq_none (by simp; omega)]
        rfl
theorem p5_lt {L : List Nat} (h : ∀ c, c ∈ L → isLt c = true) (hl : L.length ≤ 8) : p5 L < 2 ^ (5 * L.length) := by
  have key : ∀ (L : List Nat) (v : Nat), (∀ c, c ∈ L → isLt c = true) → ∀ e, v < 2 ^ e → L.foldl (fun v c => v * 32 + (c - 96)) v < 2 ^ (e + 5 * L.length) := by
    intro L
    induction L with
    | nil => intro v _ e hv; simpa using hv
    | cons c L ih =>
      intro v h e hv
      have hc : isLt c = true := h c (List.mem_cons_self ..)
      simp only [isLt, Bool.and_eq_true, Nat.ble_eq] at hc
      have := ih (v * 32 + (c - 96)) (fun x hx => h x (List.mem_cons_of_mem _ hx)) (e + 5) (by
        have e1 : 2 ^ (e + 5) = 2 ^ e * 32 := by rw [Nat.pow_add]
        omega)
      simp only [List.foldl_cons, List.length_cons]
      rw [show e + 5 * (L.length + 1) = e + 5 + 5 * L.length by omega]
      exact this
  have := key L 0 h 0 (by decide)
  simpa [p5] using this
theorem p8_lt {L : List Nat} (h : ∀ c, c ∈ L → isLt c = true) : p8 L < 2 ^ (8 * L.length) := by
  have key : ∀ (L : List Nat) (v : Nat), (∀ c, c ∈ L → isLt c = true) → ∀ e, v < 2 ^ e → L.foldl (fun v c => v * 256 + c) v < 2 ^ (e + 8 * L.length) := by
    intro L
    induction L with
    | nil => intro v _ e hv; simpa using hv
    | cons c L ih =>
      intro v h e hv
      have hc : isLt c = true := h c (List.mem_cons_self ..)
      simp only [isLt, Bool.and_eq_true, Nat.ble_eq] at hc
      have := ih (v * 256 + c) (fun x hx => h x (List.mem_cons_of_mem _ hx)) (e + 8) (by
        have e1 : 2 ^ (e + 8) = 2 ^ e * 256 := by rw [Nat.pow_add]
        omega)
      simp only [List.foldl_cons, List.length_cons]
      rw [show e + 8 * (L.length + 1) = e + 8 + 8 * L.length by omega]
      exact this
  have := key L 0 h 0 (by decide)
  simpa [p8] using this
/-- letters are known by their number -/
theorem p8_inj {L M : List Nat} (hL : ∀ c, c ∈ L → isLt c = true) (hM : ∀ c, c ∈ M → isLt c = true) (h : p8 L = p8 M) : L = M := by
  have key : ∀ (n : Nat) (L M : List Nat), L.length = n → (∀ c, c ∈ L → isLt c = true) → (∀ c, c ∈ M → isLt c = true) → p8 L.reverse = p8 M.reverse → L = M := by
    intro n
    induction n with
    | zero =>
      intro L M e hL hM h
      cases L with
      | cons c L => simp at e
      | nil =>
        cases M with
        | nil => rfl
        | cons c M =>
          have hc := hM c (List.mem_cons_self ..)
          simp only [isLt, Bool.and_eq_true, Nat.ble_eq] at hc
          rw [List.reverse_cons, p8_app] at h
          simp [p8] at h
          omega
    | succ n ih =>
      intro L M e hL hM h
      cases L with
      | nil => simp at e
      | cons c L =>
        have hc := hL c (List.mem_cons_self ..)
        simp only [isLt, Bool.and_eq_true, Nat.ble_eq] at hc
        cases M with
        | nil =>
          rw [List.reverse_cons, p8_app] at h
          simp [p8] at h
          omega
        | cons d M =>
          have hd := hM d (List.mem_cons_self ..)
          simp only [isLt, Bool.and_eq_true, Nat.ble_eq] at hd
          rw [List.reverse_cons, List.reverse_cons, p8_app, p8_app] at h
          have e1 : c = d := by omega
          have e2 : p8 L.reverse = p8 M.reverse := by omega
          rw [e1, ih L M (by simpa using e) (fun x hx => hL x (List.mem_cons_of_mem _ hx)) (fun x hx => hM x (List.mem_cons_of_mem _ hx)) e2]
  have := key _ L.reverse M.reverse rfl (fun c hc => hL c (List.mem_reverse.mp hc)) (fun c hc => hM c (List.mem_reverse.mp hc)) (by simpa using h)
  simpa using congrArg List.reverse this
theorem p5_inj {L M : List Nat} (hL : ∀ c, c ∈ L → isLt c = true) (hM : ∀ c, c ∈ M → isLt c = true) (h : p5 L = p5 M) : L = M := by
  have key : ∀ (n : Nat) (L M : List Nat), L.length = n → (∀ c, c ∈ L → isLt c = true) → (∀ c, c ∈ M → isLt c = true) → p5 L.reverse = p5 M.reverse → L = M := by
    intro n
    induction n with
    | zero =>
      intro L M e hL hM h
      cases L with
      | cons c L => simp at e
      | nil =>
        cases M with
        | nil => rfl
        | cons c M =>
          have hc := hM c (List.mem_cons_self ..)
          simp only [isLt, Bool.and_eq_true, Nat.ble_eq] at hc
          rw [List.reverse_cons, p5_app] at h
          simp [p5] at h
          omega
    | succ n ih =>
      intro L M e hL hM h
      cases L with
      | nil => simp at e
      | cons c L =>
        have hc := hL c (List.mem_cons_self ..)
        simp only [isLt, Bool.and_eq_true, Nat.ble_eq] at hc
        cases M with
        | nil =>
          rw [List.reverse_cons, p5_app] at h
          simp [p5] at h
          omega
        | cons d M =>
          have hd := hM d (List.mem_cons_self ..)
          simp only [isLt, Bool.and_eq_true, Nat.ble_eq] at hd
          rw [List.reverse_cons, List.reverse_cons, p5_app, p5_app] at h
          have e1 : c = d := by omega
          have e2 : p5 L.reverse = p5 M.reverse := by omega
          rw [e1, ih L M (by simpa using e) (fun x hx => hL x (List.mem_cons_of_mem _ hx)) (fun x hx => hM x (List.mem_cons_of_mem _ hx)) e2]
  have := key _ L.reverse M.reverse rfl (fun c hc => hL c (List.mem_reverse.mp hc)) (fun c hc => hM c (List.mem_reverse.mp hc)) (by simpa using h)
  simpa using congrArg List.reverse this
