/-! THE WORLD: handles (small numbers) for cells; a memory of ints, longs, references by handle and place; what an address is, σ says -/
abbrev Mem : Type := (Nat → Nat → Int32) × (Nat → Nat → Int64) × (Nat → Nat → Option Nat)
abbrev Sg : Type := (Nat → Nat) × Value
abbrev Kds : Type := List (Nat × Nat)
def rv (σ : Sg) (v : Value) : Value := match v with
  | .ref h => .ref (σ.1 h)
  | .retAddr _ => σ.2
  | .int x => .int x
  | .long x => .long x
  | .float x => .float x
  | .double x => .double x
  | .null => .null
def fvT (t : FieldType) (σ : Sg) (M : Mem) (h k : Nat) : Value := match t with
  | .long => .long (M.2.1 h k)
  | .object _ => va_rf ((M.2.2 h k).map σ.1)
  | .array _ => va_rf ((M.2.2 h k).map σ.1)
  | _ => .int (M.1 h k)
def cE (dA : Nat → ClassId) (σ : Sg) (M : Mem) (h : Nat) (kd : Nat × Nat) : va_E :=
  if kd.1 = 0 then .inr (kd.2, (List.range (nF kd.2)).map fun k => fvT (tyT kd.2 k) σ M h k)
  else if kd.1 = 2 then .inl (dA 2, kd.2, .inr (.inl (M.2.1 h)))
  else if kd.1 = 5 then .inl (dA 5, kd.2, .inr (.inr (.inr (.inr fun j => (M.2.2 h j).map σ.1))))
  else .inl (dA kd.1, kd.2, .inl (M.1 h))
def wld (dA : Nat → ClassId) (σ : Sg) (ks : Kds) (M : Mem) : va_W := ks.mapIdx fun h kd => (σ.1 h, cE dA σ M h kd)
theorem wld_at {dA : Nat → ClassId} {σ : Sg} {ks : Kds} {M : Mem} {h : Nat} {kd : Nat × Nat} (hk : ks[h]? = some kd) : (wld dA σ ks M)[h]? = some (σ.1 h, cE dA σ M h kd) := by
  simp [wld, List.getElem?_mapIdx, hk]
theorem wld_len {dA : Nat → ClassId} {σ : Sg} {ks : Kds} {M : Mem} : (wld dA σ ks M).length = ks.length := by simp [wld]
theorem cE_agree {dA : Nat → ClassId} {σ : Sg} {M M' : Mem} {h : Nat} {kd : Nat × Nat} (h1 : M'.1 h = M.1 h) (h2 : M'.2.1 h = M.2.1 h) (h3 : M'.2.2 h = M.2.2 h) : cE dA σ M' h kd = cE dA σ M h kd := by
  simp only [cE, fvT, h1, h2, h3]
theorem wld_set {dA : Nat → ClassId} {σ : Sg} {ks : Kds} {M M' : Mem} {h : Nat} {kd : Nat × Nat} (hk : ks[h]? = some kd) (ha : ∀ j, j ≠ h → M'.1 j = M.1 j ∧ M'.2.1 j = M.2.1 j ∧ M'.2.2 j = M.2.2 j) : (wld dA σ ks M).set h (σ.1 h, cE dA σ M' h kd) = wld dA σ ks M' := by
  have hl : h < ks.length := (List.getElem?_eq_some_iff.mp hk).1
  apply List.ext_getElem?
  intro j
  by_cases hj : j = h
  · subst hj
    rw [List.getElem?_set_self (by rw [wld_len]; exact hl), wld_at hk]
  · rw [List.getElem?_set_ne (fun q => hj q.symm)]
    cases hkj : ks[j]? with
    | none => simp [wld, List.getElem?_mapIdx, hkj]
    | some kj =>
      obtain ⟨a1, a2, a3⟩ := ha j hj
      rw [wld_at hkj, wld_at hkj, cE_agree a1 a2 a3]
/-- writes -/
def setI (M : Mem) (h k : Nat) (x : Int32) : Mem := (fun j => if j = h then upd (M.1 h) k x else M.1 j, M.2)
def setL (M : Mem) (h k : Nat) (x : Int64) : Mem := (M.1, fun j => if j = h then vp_updL (M.2.1 h) k x else M.2.1 j, M.2.2)
def setR (M : Mem) (h k : Nat) (x : Option Nat) : Mem := (M.1, M.2.1, fun j => if j = h then va_up (M.2.2 h) k x else M.2.2 j)
def setA (M : Mem) (h : Nat) (f : Nat → Int32) : Mem := (fun j => if j = h then f else M.1 j, M.2)
def setRA (M : Mem) (h : Nat) (f : Nat → Option Nat) : Mem := (M.1, M.2.1, fun j => if j = h then f else M.2.2 j)
def clr (M : Mem) (h : Nat) : Mem := (fun j => if j = h then (fun _ => 0) else M.1 j, fun j => if j = h then (fun _ => 0) else M.2.1 j, fun j => if j = h then (fun _ => none) else M.2.2 j)
theorem fld_at {dA : Nat → ClassId} {σ : Sg} {M : Mem} {h ci : Nat} : cE dA σ M h (0, ci) = .inr (ci, (List.range (nF ci)).map fun k => fvT (tyT ci k) σ M h k) := rfl
theorem fld_get {σ : Sg} {M : Mem} {h ci k : Nat} (hk : k < nF ci) : ((List.range (nF ci)).map fun k => fvT (tyT ci k) σ M h k)[k]? = some (fvT (tyT ci k) σ M h k) := by
  simp [List.getElem?_range, hk]
theorem fld_set {σ : Sg} {M M' : Mem} {h ci k : Nat} {v : Value} (hk : k < nF ci) (hv : fvT (tyT ci k) σ M' h k = v) (ho : ∀ j, j ≠ k → fvT (tyT ci j) σ M' h j = fvT (tyT ci j) σ M h j) :
    ((List.range (nF ci)).map fun k => fvT (tyT ci k) σ M h k).set k v = (List.range (nF ci)).map fun k => fvT (tyT ci k) σ M' h k := by
  apply List.ext_getElem?
  intro j
  by_cases hj : j = k
  · subst hj
    rw [List.getElem?_set_self (by simpa using hk), fld_get hk, hv]
  · rw [List.getElem?_set_ne (fun q => hj q.symm)]
    by_cases hl : j < nF ci
    · rw [fld_get hl, fld_get hl, ho j hj]
    · rw [List.getElem?_eq_none (by simp; omega), List.getElem?_eq_none (by simp; omega)]
def tyL (dA : Nat → ClassId) : List (ClassId × FieldType) := [(dA 0, .int), (dA 1, .int), (dA 2, .long), (dA 3, .byte), (dA 4, .boolean), (dA 5, .object "NinetyPlayers$Laying")]
/-! THE OUTSIDE: two texts, a static or two, the script, links between nest mates -/
def txW : String := "beats   part    note    missed  span    fingers leap    ear     tune    bass    of      at      or      and     not     role    key     long    loud    doubled beat    "
def txT : String := ";()<>=+-*/%"
def bytS : List (List Int32) := [[98, 101, 97, 116, 115, 32, 32, 32, 112, 97, 114, 116, 32, 32, 32, 32, 110, 111, 116, 101, 32, 32, 32, 32, 109, 105, 115, 115, 101, 100, 32, 32, 115, 112, 97, 110, 32, 32, 32, 32, 102, 105, 110, 103, 101, 114, 115, 32, 108, 101, 97, 112, 32, 32, 32, 32, 101, 97, 114, 32, 32, 32, 32, 32, 116, 117, 110, 101, 32, 32, 32, 32, 98, 97, 115, 115, 32, 32, 32, 32, 111, 102, 32, 32, 32, 32, 32, 32, 97, 116, 32, 32, 32, 32, 32, 32, 111, 114, 32, 32, 32, 32, 32, 32, 97, 110, 100, 32, 32, 32, 32, 32, 110, 111, 116, 32, 32, 32, 32, 32, 114, 111, 108, 101, 32, 32, 32, 32, 107, 101, 121, 32, 32, 32, 32, 32, 108, 111, 110, 103, 32, 32, 32, 32, 108, 111, 117, 100, 32, 32, 32, 32, 100, 111, 117, 98, 108, 101, 100, 32, 98, 101, 97, 116, 32, 32, 32, 32], [59, 40, 41, 60, 62, 61, 43, 45, 42, 47, 37]]
def lenS : List Nat := [168, 11]
def nestL : List Cond := [.methodLinkNest "NinetyPlayers" 9 ⟨"NinetyPlayers$Reader", "<init>", "()V"⟩ "NinetyPlayers", .methodLinkNest "NinetyPlayers$Reader" 17 ⟨"NinetyPlayers$Tape", "<init>", "()V"⟩ "NinetyPlayers", .methodLinkNest "NinetyPlayers$Score" 39 ⟨"NinetyPlayers$Formula", "<init>", "()V"⟩ "NinetyPlayers", .methodLinkNest "NinetyPlayers" 30 ⟨"NinetyPlayers$Laying", "<init>", "()V"⟩ "NinetyPlayers", .methodLinkNest "NinetyPlayers" 41 ⟨"NinetyPlayers$Acts", "<init>", "()V"⟩ "NinetyPlayers", .methodLinkNest "NinetyPlayers" 48 ⟨"NinetyPlayers$Arranger", "<init>", "()V"⟩ "NinetyPlayers", .methodLinkNest "NinetyPlayers$Arranger" 11 ⟨"NinetyPlayers$Keyboard", "<init>", "()V"⟩ "NinetyPlayers", .methodLinkNest "NinetyPlayers" 65 ⟨"NinetyPlayers$Pedaller", "<init>", "()V"⟩ "NinetyPlayers", .methodLinkNest "NinetyPlayers" 72 ⟨"NinetyPlayers$Witness", "<init>", "()V"⟩ "NinetyPlayers", .methodLinkNest "NinetyPlayers$Keyboard" 108 ⟨"NinetyPlayers", "isKey", "(I)Z"⟩ "NinetyPlayers"]
def isNest (w : Cond) : Prop := ∃ a i x h, w = .methodLinkNest a i x h
def Ext (X : Nat × (Nat → Int32)) (σ : Sg) (A : Nat → Prop) (s : State) : Prop :=
  vk_S 2 lenS bytS (fun i => σ.1 (1000 + 2 * i)) (fun i => σ.1 (1001 + 2 * i)) A s s.heap
  ∧ (vk_R "NinetyPlayers$Word" 11 txW (σ.1 1000) s ∧ vk_R "NinetyPlayers$Tape" 51 txT (σ.1 1002) s)
  ∧ va_Z "java/lang/String" "COMPACT_STRINGS" "Z" (.int 1) A s s.heap
  ∧ (va_Z "jdk/internal/util/Preconditions" "SIOOBE_FORMATTER" "Ljava/util/function/BiFunction;" σ.2 A s s.heap ∧ (σ.2 = .null ∨ ∃ t, σ.2 = .ref t))
  ∧ (∀ w ∈ nestL, va_Nw w s)
  ∧ va_AO "NinetyPlayers$Laying" s
  ∧ (va_X (σ.1 1010) X.1 X.2 s s.heap ∧ σ.1 1010 < s.heap.size ∧ ¬ A (σ.1 1010))
theorem nest_all : ∀ w ∈ nestL, isNest w := by
  intro w hw
  simp only [nestL, List.mem_cons, List.not_mem_nil, or_false] at hw
  rcases hw with h | h | h | h | h | h | h | h | h | h <;> exact ⟨_, _, _, _, h⟩
theorem nest_warm {w : Cond} (h : isNest w) {s U : State} (hW : s.WarmedH U.vm) (hZ : va_Nw w s) : va_Nw w U := by
  obtain ⟨a, i, x, n, rfl⟩ := h
  exact va_Nw.warmM hW hZ
/-- what lies outside stays, for a callee too -/
theorem Ext.call {X : Nat × (Nat → Int32)} {σ : Sg} {A A1 : Nat → Prop} {s U : State} {H : Heap} {locs : List Loc} (h : Ext X σ A s) (hS : va_S A s.heap H locs) (hU : U.heap = H) (hW : s.WarmedH U.vm) (hA : ∀ q, A1 q → A q) : Ext X σ A1 U := by
  obtain ⟨h1, ⟨h2, h3⟩, h4, ⟨h5, h5'⟩, h6, h7, h8, h9, h10⟩ := h
  have hal := hW.alike
  refine ⟨?_, ⟨vk_R.warm hW h2, vk_R.warm hW h3⟩, ?_, ⟨?_, h5'⟩, fun w hw => nest_warm (nest_all w hw) hW (h6 w hw), h7.moved hal, ?_, ?_, fun q => h10 (hA _ q)⟩
  · rw [hU]; exact ((h1.moved hal).kept hS.2.1).narrow hA
  · rw [hU]; exact ((h4.moved hal).kept hS.2.1).narrow hA
  · rw [hU]; exact ((h5.moved hal).kept hS.2.1).narrow hA
  · rw [hU]; exact (h8.moved hal).kept (hS.2.1 _ h9 h10)
  · rw [hU]; exact Nat.lt_of_lt_of_le h9 hS.1
theorem Ext.sig {X : Nat × (Nat → Int32)} {σ σ' : Sg} {A : Nat → Prop} {s : State} (h : Ext X σ A s) (h1 : ∀ j, 1000 ≤ j → σ'.1 j = σ.1 j) (h2 : σ'.2 = σ.2) : Ext X σ' A s := by
  obtain ⟨a1, a2, a3, a4, a5, a6, a7⟩ := h
  refine ⟨?_, ?_, a3, by rw [h2]; exact a4, a5, a6, ?_⟩
  · have e1 : (fun i => σ'.1 (1000 + 2 * i)) = fun i => σ.1 (1000 + 2 * i) := funext fun i => h1 _ (by omega)
    have e2 : (fun i => σ'.1 (1001 + 2 * i)) = fun i => σ.1 (1001 + 2 * i) := funext fun i => h1 _ (by omega)
    rw [e1, e2]; exact a1
  · rw [h1 1000 (by omega), h1 1002 (by omega)]; exact a2
  · rw [h1 1010 (by omega)]; exact a7
/-! THE JUDGEMENT: the machine, in method μ at pc with these locals and this stack over this memory, comes to μ's return with r, the memory being M' -/
def Cx (X : Nat × (Nat → Int32)) (d : Nat) (μ : Mt) (p : Program) (R : Room) (s : State) (m : MethodId) (args : Array Value) (meth : Method) (c : Code) (D : va_G) (dA : Nat → ClassId) (σ : Sg) (A : Nat → Prop) : Prop :=
  p.tables.exec = Jvm.exec ∧ c.code = μ.2.1 ∧ c.maxLocals = μ.2.2.1 ∧ s.vm.findClass μ.1.cls = some m.cls ∧ (∀ w ∈ GW, w.before args s = true) ∧ meth.sig.returnType = μ.2.2.2 ∧ meth.locks = false ∧ (μ.1.name = "<init>" → meth.name = "<init>") ∧ va_K D classes (tyL dA) s ∧ (∀ q, s.heap.size ≤ q → A q) ∧ Ext X σ A s ∧ d ≤ R.frames ∧ 64 * d ≤ R.locals
def rIns (t : Option FieldType) : Instr := match t with
  | none => .return_
  | some .long => .lreturn
  | some (.object _) => .areturn
  | some (.array _) => .areturn
  | _ => .ireturn
def rOK (t : Option FieldType) (r : Option Value) : Prop := match t with
  | none => r = none
  | some .long => ∃ v, r = some (.long v)
  | some (.object _) => ∃ a, r = some (.ref a)
  | some (.array _) => ∃ a, r = some (.ref a)
  | some .float => False
  | some .double => False
  | some ty => ∃ v, r = some (.int v) ∧ narrow ty (.int v) = .int v
def kz (ks : Kds) : Nat := (ks.map fun kd => if kd.1 = 0 then nF kd.2 else kd.2).sum
def lvr (σ : Sg) (L : List (Nat × Value)) : List (Nat × Value) := L.map fun q => (q.1, rv σ q.2)
def Same (σ σ' : Sg) (n n' : Nat) : Prop := (∀ j, j < n ∨ n' ≤ j → σ'.1 j = σ.1 j) ∧ σ'.2 = σ.2
theorem Same.rf {σ : Sg} {n n' : Nat} : Same σ σ n n' := ⟨fun _ _ => rfl, rfl⟩
theorem Same.eq {σ σ' : Sg} {n : Nat} (h : Same σ σ' n n) : σ' = σ := Prod.ext (funext fun j => h.1 j (Nat.lt_or_ge j n)) h.2
def Ev (X : Nat × (Nat → Int32)) (d : Nat) (μ : Mt) (pc : Nat) (L : List (Nat × Value)) (st : List Value) (ks : Kds) (M : Mem) (r : Option Value) (ks' : Kds) (M' : Mem) : Prop :=
  ∀ (l : Launch) (p : Program) (e : Env) (R : Room) (s : State) (m : MethodId) (args : Array Value) (below : List Frame) (meth : Method) (c : Code) (D : va_G) (dA : Nat → ClassId) (σ : Sg) (A : Nat → Prop) (H : Heap) (locs : List Loc) (cells slots mc ms : Nat) (ls : Array Slot) (Q : State → Prop),
    Cx X d μ p R s m args meth c D dA σ A → va_P D classes (wld dA σ ks M) H → va_D A (wld dA σ ks M) → va_S A s.heap H locs → lv_has ls μ.2.2.1 (lvr σ L) →
    cells + ks'.length = mc + ks.length → slots + kz ks' = ms + kz ks → mc ≤ R.cells → ms ≤ R.slots →
    (∀ (pc' : Nat) (ls' : Array Slot) (σ' : Sg) (H' : Heap) (locs' : List Loc), decode μ.2.1 pc' = .ok (rIns μ.2.2.2, 1) → rOK μ.2.2.2 r → Same σ σ' ks.length ks'.length → va_P D classes (wld dA σ' ks' M') H' → va_D A (wld dA σ' ks' M') → va_S A s.heap H' locs' →
      W p l e R s m args below meth c H' locs' mc ms Q (F0 m pc' ls' (r.toList.map (rv σ')))) →
    W p l e R s m args below meth c H locs cells slots Q (F0 m pc ls (st.map (rv σ)))
