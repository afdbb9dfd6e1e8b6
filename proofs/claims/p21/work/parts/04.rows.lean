/-! ROWS: an instruction, a row, over the judgement -/
theorem rv_cat {σ : Sg} (h : σ.2 = .null ∨ ∃ t, σ.2 = .ref t) (v : Value) : (rv σ v).category = v.category := by
  cases v with
  | retAddr n => rcases h with h | ⟨t, h⟩ <;> simp [rv, h, Value.category]
  | _ => simp [rv, Value.category]
def ins1 (q : Nat × Value) : List (Nat × Value) → List (Nat × Value)
  | [] => [q]
  | a :: t => if q.1 < a.1 then q :: a :: t else a :: ins1 q t
theorem mem_ins1 {x q : Nat × Value} : ∀ {l : List (Nat × Value)}, x ∈ ins1 q l → x = q ∨ x ∈ l
  | [], h => by simpa [ins1] using h
  | a :: t, h => by
    unfold ins1 at h
    split at h
    · simpa using h
    · rcases List.mem_cons.mp h with h | h
      · exact Or.inr (by simp [h])
      · rcases mem_ins1 h with h | h
        · exact Or.inl h
        · exact Or.inr (List.mem_cons_of_mem _ h)
/-- the locals behind a store -/
def lput (i : Nat) (v : Value) (L : List (Nat × Value)) : List (Nat × Value) := ins1 (i, v) (L.filter fun q => !(q.1 == i))
def lok (i : Nat) (L : List (Nat × Value)) : Bool := L.all fun q => !(q.1 + 1 == i && q.2.category == 2)
theorem lput_has {σ : Sg} {ls : Array Slot} {n i : Nat} {v : Value} {L : List (Nat × Value)} (hc : σ.2 = .null ∨ ∃ t, σ.2 = .ref t) (hok : lok i L = true)
    (h : lv_has ls n ((i, rv σ v) :: (lvr σ L).filter (fun q => !(q.1 == i) && !(q.1 + 1 == i && q.2.category == 2)))) : lv_has ls n (lvr σ (lput i v L)) := by
  refine ⟨h.1, h.2.1, fun q hq => ?_⟩
  obtain ⟨q0, hq0, rfl⟩ := List.mem_map.mp hq
  rcases mem_ins1 hq0 with h0 | h0
  · subst h0
    exact h.2.2 _ List.mem_cons_self
  · obtain ⟨g1, g2⟩ := List.mem_filter.mp h0
    refine h.2.2 _ (List.mem_cons_of_mem _ (List.mem_filter.mpr ⟨List.mem_map.mpr ⟨q0, g1, rfl⟩, ?_⟩))
    have g3 := List.all_eq_true.mp hok q0 g1
    rw [rv_cat hc]
    rw [Bool.and_eq_true]
    exact ⟨g2, g3⟩
def lok2 (i : Nat) (L : List (Nat × Value)) : Bool := L.all fun q => !(q.1 == i + 1) && !(q.1 + 1 == i && q.2.category == 2)
theorem lput_has2 {σ : Sg} {ls : Array Slot} {n i : Nat} {v : Value} {L : List (Nat × Value)} (hc : σ.2 = .null ∨ ∃ t, σ.2 = .ref t) (hok : lok2 i L = true)
    (h : lv_has ls n ((i, rv σ v) :: (lvr σ L).filter (fun q => !(q.1 == i) && (!(q.1 == i + 1) && !(q.1 + 1 == i && q.2.category == 2))))) : lv_has ls n (lvr σ (lput i v L)) := by
  refine ⟨h.1, h.2.1, fun q hq => ?_⟩
  obtain ⟨q0, hq0, rfl⟩ := List.mem_map.mp hq
  rcases mem_ins1 hq0 with h0 | h0
  · subst h0
    exact h.2.2 _ List.mem_cons_self
  · obtain ⟨g1, g2⟩ := List.mem_filter.mp h0
    refine h.2.2 _ (List.mem_cons_of_mem _ (List.mem_filter.mpr ⟨List.mem_map.mpr ⟨q0, g1, rfl⟩, ?_⟩))
    have g3 := List.all_eq_true.mp hok q0 g1
    rw [rv_cat hc]
    rw [Bool.and_eq_true]
    exact ⟨g2, g3⟩
theorem lvr_at {σ : Sg} {L : List (Nat × Value)} {j i : Nat} {v : Value} (h : L[j]? = some (i, v)) : (lvr σ L)[j]? = some (i, rv σ v) := by
  simp [lvr, h]
section XR
variable {X : Nat × (Nat → Int32)} {d : Nat} {μ : Mt} {pc : Nat} {L : List (Nat × Value)} {st : List Value} {ks : Kds} {M : Mem} {r : Option Value} {ks' : Kds} {M' : Mem}
theorem x_iconst {n : Int} {v : Int32} (hd : decode μ.2.1 pc = .ok (.iconst n, 1)) (hv : Int32.ofInt n = v) (k : Ev X d μ (pc + 1) L (.int v :: st) ks M r ks' M') : Ev X d μ pc L st ks M r ks' M' := by
  intro l p e R s m args below meth c D dA σ A H locs cells slots mc ms ls Q C hP hD hS hl h1 h2 h3 h4 hret
  obtain ⟨hx, hb, hml, hown, hts, hr, hlk, hnm, hK, hA, hX, hfr, hlo⟩ := id C
  exact lv_iconst hx hb hd hv (k l p e R s m args below meth c D dA σ A H locs cells slots mc ms ls Q C hP hD hS hl h1 h2 h3 h4 hret)
theorem x_bipush {n : Int} {v : Int32} (hd : decode μ.2.1 pc = .ok (.bipush n, 2)) (hv : (Int8.ofInt n).toInt32 = v) (k : Ev X d μ (pc + 2) L (.int v :: st) ks M r ks' M') : Ev X d μ pc L st ks M r ks' M' := by
  intro l p e R s m args below meth c D dA σ A H locs cells slots mc ms ls Q C hP hD hS hl h1 h2 h3 h4 hret
  obtain ⟨hx, hb, hml, hown, hts, hr, hlk, hnm, hK, hA, hX, hfr, hlo⟩ := id C
  exact lv_bipush hx hb hd hv (k l p e R s m args below meth c D dA σ A H locs cells slots mc ms ls Q C hP hD hS hl h1 h2 h3 h4 hret)
theorem x_sipush {n : Int} {v : Int32} (hd : decode μ.2.1 pc = .ok (.sipush n, 3)) (hv : (Int16.ofInt n).toInt32 = v) (k : Ev X d μ (pc + 3) L (.int v :: st) ks M r ks' M') : Ev X d μ pc L st ks M r ks' M' := by
  intro l p e R s m args below meth c D dA σ A H locs cells slots mc ms ls Q C hP hD hS hl h1 h2 h3 h4 hret
  obtain ⟨hx, hb, hml, hown, hts, hr, hlk, hnm, hK, hA, hX, hfr, hlo⟩ := id C
  exact lv_sipush hx hb hd hv (k l p e R s m args below meth c D dA σ A H locs cells slots mc ms ls Q C hP hD hS hl h1 h2 h3 h4 hret)
theorem x_lconst {n : Fin 2} {v : Int64} (hd : decode μ.2.1 pc = .ok (.lconst n, 1)) (hv : Int64.ofNat (n : Nat) = v) (k : Ev X d μ (pc + 1) L (.long v :: st) ks M r ks' M') : Ev X d μ pc L st ks M r ks' M' := by
  intro l p e R s m args below meth c D dA σ A H locs cells slots mc ms ls Q C hP hD hS hl h1 h2 h3 h4 hret
  obtain ⟨hx, hb, hml, hown, hts, hr, hlk, hnm, hK, hA, hX, hfr, hlo⟩ := id C
  exact lv_lconst hx hb hd hv (k l p e R s m args below meth c D dA σ A H locs cells slots mc ms ls Q C hP hD hS hl h1 h2 h3 h4 hret)
theorem x_ldc {i : Nat} {v : Int32} (hd : decode μ.2.1 pc = .ok (.ldc i, 2)) (hw : Cond.constant μ.1.cls i v ∈ GW) (k : Ev X d μ (pc + 2) L (.int v :: st) ks M r ks' M') : Ev X d μ pc L st ks M r ks' M' := by
  intro l p e R s m args below meth c D dA σ A H locs cells slots mc ms ls Q C hP hD hS hl h1 h2 h3 h4 hret
  obtain ⟨hx, hb, hml, hown, hts, hr, hlk, hnm, hK, hA, hX, hfr, hlo⟩ := id C
  exact lv_ldc hx hb hown (hts _ hw) hd (k l p e R s m args below meth c D dA σ A H locs cells slots mc ms ls Q C hP hD hS hl h1 h2 h3 h4 hret)
theorem x_ldcw {i : Nat} {v : Int32} (hd : decode μ.2.1 pc = .ok (.ldc_w i, 3)) (hw : Cond.constant μ.1.cls i v ∈ GW) (k : Ev X d μ (pc + 3) L (.int v :: st) ks M r ks' M') : Ev X d μ pc L st ks M r ks' M' := by
  intro l p e R s m args below meth c D dA σ A H locs cells slots mc ms ls Q C hP hD hS hl h1 h2 h3 h4 hret
  obtain ⟨hx, hb, hml, hown, hts, hr, hlk, hnm, hK, hA, hX, hfr, hlo⟩ := id C
  exact lv_ldcw hx hb hown (hts _ hw) hd (k l p e R s m args below meth c D dA σ A H locs cells slots mc ms ls Q C hP hD hS hl h1 h2 h3 h4 hret)
theorem x_ldc2 {i : Nat} {v : Int64} (hd : decode μ.2.1 pc = .ok (.ldc2_w i, 3)) (hw : Cond.constantLong μ.1.cls i v ∈ GW) (k : Ev X d μ (pc + 3) L (.long v :: st) ks M r ks' M') : Ev X d μ pc L st ks M r ks' M' := by
  intro l p e R s m args below meth c D dA σ A H locs cells slots mc ms ls Q C hP hD hS hl h1 h2 h3 h4 hret
  obtain ⟨hx, hb, hml, hown, hts, hr, hlk, hnm, hK, hA, hX, hfr, hlo⟩ := id C
  exact lv_ldc2 hx hb hown (hts _ hw) hd (k l p e R s m args below meth c D dA σ A H locs cells slots mc ms ls Q C hP hD hS hl h1 h2 h3 h4 hret)
theorem x_iload_n {k4 : Fin 4} {i : Nat} {x : Int32} (hd : decode μ.2.1 pc = .ok (.iload_n k4, 1)) (hi : (k4 : Nat) = i) (j : Nat) (hj : L[j]? = some (i, .int x)) (k : Ev X d μ (pc + 1) L (.int x :: st) ks M r ks' M') : Ev X d μ pc L st ks M r ks' M' := by
  intro l p e R s m args below meth c D dA σ A H locs cells slots mc ms ls Q C hP hD hS hl h1 h2 h3 h4 hret
  obtain ⟨hx, hb, hml, hown, hts, hr, hlk, hnm, hK, hA, hX, hfr, hlo⟩ := id C
  exact lv_iload_n hx hb hd hi (lv_at hl j (lvr_at hj)) (k l p e R s m args below meth c D dA σ A H locs cells slots mc ms ls Q C hP hD hS hl h1 h2 h3 h4 hret)
theorem x_iload {i : Nat} {x : Int32} (hd : decode μ.2.1 pc = .ok (.iload i, 2)) (j : Nat) (hj : L[j]? = some (i, .int x)) (k : Ev X d μ (pc + 2) L (.int x :: st) ks M r ks' M') : Ev X d μ pc L st ks M r ks' M' := by
  intro l p e R s m args below meth c D dA σ A H locs cells slots mc ms ls Q C hP hD hS hl h1 h2 h3 h4 hret
  obtain ⟨hx, hb, hml, hown, hts, hr, hlk, hnm, hK, hA, hX, hfr, hlo⟩ := id C
  exact lv_iload hx hb hd (lv_at hl j (lvr_at hj)) (k l p e R s m args below meth c D dA σ A H locs cells slots mc ms ls Q C hP hD hS hl h1 h2 h3 h4 hret)
theorem x_lload_n {k4 : Fin 4} {i : Nat} {x : Int64} (hd : decode μ.2.1 pc = .ok (.lload_n k4, 1)) (hi : (k4 : Nat) = i) (j : Nat) (hj : L[j]? = some (i, .long x)) (k : Ev X d μ (pc + 1) L (.long x :: st) ks M r ks' M') : Ev X d μ pc L st ks M r ks' M' := by
  intro l p e R s m args below meth c D dA σ A H locs cells slots mc ms ls Q C hP hD hS hl h1 h2 h3 h4 hret
  obtain ⟨hx, hb, hml, hown, hts, hr, hlk, hnm, hK, hA, hX, hfr, hlo⟩ := id C
  exact lv_lload_n hx hb hd hi (lv_at hl j (lvr_at hj)) (k l p e R s m args below meth c D dA σ A H locs cells slots mc ms ls Q C hP hD hS hl h1 h2 h3 h4 hret)
theorem x_lload {i : Nat} {x : Int64} (hd : decode μ.2.1 pc = .ok (.lload i, 2)) (j : Nat) (hj : L[j]? = some (i, .long x)) (k : Ev X d μ (pc + 2) L (.long x :: st) ks M r ks' M') : Ev X d μ pc L st ks M r ks' M' := by
  intro l p e R s m args below meth c D dA σ A H locs cells slots mc ms ls Q C hP hD hS hl h1 h2 h3 h4 hret
  obtain ⟨hx, hb, hml, hown, hts, hr, hlk, hnm, hK, hA, hX, hfr, hlo⟩ := id C
  exact lv_lload hx hb hd (lv_at hl j (lvr_at hj)) (k l p e R s m args below meth c D dA σ A H locs cells slots mc ms ls Q C hP hD hS hl h1 h2 h3 h4 hret)
theorem x_aload_n {k4 : Fin 4} {i : Nat} {x : Nat} (hd : decode μ.2.1 pc = .ok (.aload_n k4, 1)) (hi : (k4 : Nat) = i) (j : Nat) (hj : L[j]? = some (i, .ref x)) (k : Ev X d μ (pc + 1) L (.ref x :: st) ks M r ks' M') : Ev X d μ pc L st ks M r ks' M' := by
  intro l p e R s m args below meth c D dA σ A H locs cells slots mc ms ls Q C hP hD hS hl h1 h2 h3 h4 hret
  obtain ⟨hx, hb, hml, hown, hts, hr, hlk, hnm, hK, hA, hX, hfr, hlo⟩ := id C
  exact lv_aload_n hx hb hd hi (lv_at hl j (lvr_at hj)) (k l p e R s m args below meth c D dA σ A H locs cells slots mc ms ls Q C hP hD hS hl h1 h2 h3 h4 hret)
theorem x_aload {i : Nat} {x : Nat} (hd : decode μ.2.1 pc = .ok (.aload i, 2)) (j : Nat) (hj : L[j]? = some (i, .ref x)) (k : Ev X d μ (pc + 2) L (.ref x :: st) ks M r ks' M') : Ev X d μ pc L st ks M r ks' M' := by
  intro l p e R s m args below meth c D dA σ A H locs cells slots mc ms ls Q C hP hD hS hl h1 h2 h3 h4 hret
  obtain ⟨hx, hb, hml, hown, hts, hr, hlk, hnm, hK, hA, hX, hfr, hlo⟩ := id C
  exact lv_aload hx hb hd (lv_at hl j (lvr_at hj)) (k l p e R s m args below meth c D dA σ A H locs cells slots mc ms ls Q C hP hD hS hl h1 h2 h3 h4 hret)
theorem x_istore_n {k4 : Fin 4} {i : Nat} {x : Int32} {L1 : List (Nat × Value)} (hd : decode μ.2.1 pc = .ok (.istore_n k4, 1)) (hi : (k4 : Nat) = i) (hn : i < μ.2.2.1) (hok : lok i L = true) (hL : lput i (.int x) L = L1) (k : Ev X d μ (pc + 1) L1 st ks M r ks' M') : Ev X d μ pc L (.int x :: st) ks M r ks' M' := by
  intro l p e R s m args below meth c D dA σ A H locs cells slots mc ms ls Q C hP hD hS hl h1 h2 h3 h4 hret
  obtain ⟨hx, hb, hml, hown, hts, hr, hlk, hnm, hK, hA, hX, hfr, hlo⟩ := id C
  subst hL
  exact lv_istore_n hx hb hd hi hl hn rfl (fun ls1 hl1 => (k l p e R s m args below meth c D dA σ A H locs cells slots mc ms ls1 Q C hP hD hS (lput_has (v := .int x) hX.2.2.2.1.2 hok hl1) h1 h2 h3 h4 hret))
theorem x_istore {i : Nat} {x : Int32} {L1 : List (Nat × Value)} (hd : decode μ.2.1 pc = .ok (.istore i, 2)) (hn : i < μ.2.2.1) (hok : lok i L = true) (hL : lput i (.int x) L = L1) (k : Ev X d μ (pc + 2) L1 st ks M r ks' M') : Ev X d μ pc L (.int x :: st) ks M r ks' M' := by
  intro l p e R s m args below meth c D dA σ A H locs cells slots mc ms ls Q C hP hD hS hl h1 h2 h3 h4 hret
  obtain ⟨hx, hb, hml, hown, hts, hr, hlk, hnm, hK, hA, hX, hfr, hlo⟩ := id C
  subst hL
  exact lv_istore hx hb hd hl hn rfl (fun ls1 hl1 => (k l p e R s m args below meth c D dA σ A H locs cells slots mc ms ls1 Q C hP hD hS (lput_has (v := .int x) hX.2.2.2.1.2 hok hl1) h1 h2 h3 h4 hret))
theorem x_astore_n {k4 : Fin 4} {i : Nat} {x : Nat} {L1 : List (Nat × Value)} (hd : decode μ.2.1 pc = .ok (.astore_n k4, 1)) (hi : (k4 : Nat) = i) (hn : i < μ.2.2.1) (hok : lok i L = true) (hL : lput i (.ref x) L = L1) (k : Ev X d μ (pc + 1) L1 st ks M r ks' M') : Ev X d μ pc L (.ref x :: st) ks M r ks' M' := by
  intro l p e R s m args below meth c D dA σ A H locs cells slots mc ms ls Q C hP hD hS hl h1 h2 h3 h4 hret
  obtain ⟨hx, hb, hml, hown, hts, hr, hlk, hnm, hK, hA, hX, hfr, hlo⟩ := id C
  subst hL
  exact lv_astore_n hx hb hd hi hl hn rfl (fun ls1 hl1 => (k l p e R s m args below meth c D dA σ A H locs cells slots mc ms ls1 Q C hP hD hS (lput_has (v := .ref x) hX.2.2.2.1.2 hok hl1) h1 h2 h3 h4 hret))
theorem x_astore {i : Nat} {x : Nat} {L1 : List (Nat × Value)} (hd : decode μ.2.1 pc = .ok (.astore i, 2)) (hn : i < μ.2.2.1) (hok : lok i L = true) (hL : lput i (.ref x) L = L1) (k : Ev X d μ (pc + 2) L1 st ks M r ks' M') : Ev X d μ pc L (.ref x :: st) ks M r ks' M' := by
  intro l p e R s m args below meth c D dA σ A H locs cells slots mc ms ls Q C hP hD hS hl h1 h2 h3 h4 hret
  obtain ⟨hx, hb, hml, hown, hts, hr, hlk, hnm, hK, hA, hX, hfr, hlo⟩ := id C
  subst hL
  exact lv_astore hx hb hd hl hn rfl (fun ls1 hl1 => (k l p e R s m args below meth c D dA σ A H locs cells slots mc ms ls1 Q C hP hD hS (lput_has (v := .ref x) hX.2.2.2.1.2 hok hl1) h1 h2 h3 h4 hret))
theorem x_lstore_n {k4 : Fin 4} {i : Nat} {x : Int64} {L1 : List (Nat × Value)} (hd : decode μ.2.1 pc = .ok (.lstore_n k4, 1)) (hi : (k4 : Nat) = i) (hn : i + 1 < μ.2.2.1) (hok : lok2 i L = true) (hL : lput i (.long x) L = L1) (k : Ev X d μ (pc + 1) L1 st ks M r ks' M') : Ev X d μ pc L (.long x :: st) ks M r ks' M' := by
  intro l p e R s m args below meth c D dA σ A H locs cells slots mc ms ls Q C hP hD hS hl h1 h2 h3 h4 hret
  obtain ⟨hx, hb, hml, hown, hts, hr, hlk, hnm, hK, hA, hX, hfr, hlo⟩ := id C
  subst hL
  exact lv_lstore_n hx hb hd hi hl hn rfl (fun ls1 hl1 => (k l p e R s m args below meth c D dA σ A H locs cells slots mc ms ls1 Q C hP hD hS (lput_has2 (v := .long x) hX.2.2.2.1.2 hok hl1) h1 h2 h3 h4 hret))
theorem x_iinc {i : Nat} {n : Int} {x v : Int32} {L1 : List (Nat × Value)} (hd : decode μ.2.1 pc = .ok (.iinc i n, 3)) (j : Nat) (hj : L[j]? = some (i, .int x)) (hv : x + Int32.ofInt n = v) (hn : i < μ.2.2.1) (hok : lok i L = true) (hL : lput i (.int v) L = L1) (k : Ev X d μ (pc + 3) L1 st ks M r ks' M') : Ev X d μ pc L st ks M r ks' M' := by
  intro l p e R s m args below meth c D dA σ A H locs cells slots mc ms ls Q C hP hD hS hl h1 h2 h3 h4 hret
  obtain ⟨hx, hb, hml, hown, hts, hr, hlk, hnm, hK, hA, hX, hfr, hlo⟩ := id C
  subst hL
  exact lv_iinc hx hb hd hl (lvr_at hj) hv hn rfl (fun ls1 hl1 => (k l p e R s m args below meth c D dA σ A H locs cells slots mc ms ls1 Q C hP hD hS (lput_has (v := .int v) hX.2.2.2.1.2 hok hl1) h1 h2 h3 h4 hret))
theorem x_iadd {x y : Int32} (hd : decode μ.2.1 pc = .ok (.iadd, 1)) (k : Ev X d μ (pc + 1) L (.int (x + y) :: st) ks M r ks' M') : Ev X d μ pc L (.int y :: .int x :: st) ks M r ks' M' := by
  intro l p e R s m args below meth c D dA σ A H locs cells slots mc ms ls Q C hP hD hS hl h1 h2 h3 h4 hret
  obtain ⟨hx, hb, hml, hown, hts, hr, hlk, hnm, hK, hA, hX, hfr, hlo⟩ := id C
  exact lv_iadd hx hb hd (k l p e R s m args below meth c D dA σ A H locs cells slots mc ms ls Q C hP hD hS hl h1 h2 h3 h4 hret)
theorem x_isub {x y : Int32} (hd : decode μ.2.1 pc = .ok (.isub, 1)) (k : Ev X d μ (pc + 1) L (.int (x - y) :: st) ks M r ks' M') : Ev X d μ pc L (.int y :: .int x :: st) ks M r ks' M' := by
  intro l p e R s m args below meth c D dA σ A H locs cells slots mc ms ls Q C hP hD hS hl h1 h2 h3 h4 hret
  obtain ⟨hx, hb, hml, hown, hts, hr, hlk, hnm, hK, hA, hX, hfr, hlo⟩ := id C
  exact lv_isub hx hb hd (k l p e R s m args below meth c D dA σ A H locs cells slots mc ms ls Q C hP hD hS hl h1 h2 h3 h4 hret)
theorem x_imul {x y : Int32} (hd : decode μ.2.1 pc = .ok (.imul, 1)) (k : Ev X d μ (pc + 1) L (.int (x * y) :: st) ks M r ks' M') : Ev X d μ pc L (.int y :: .int x :: st) ks M r ks' M' := by
  intro l p e R s m args below meth c D dA σ A H locs cells slots mc ms ls Q C hP hD hS hl h1 h2 h3 h4 hret
  obtain ⟨hx, hb, hml, hown, hts, hr, hlk, hnm, hK, hA, hX, hfr, hlo⟩ := id C
  exact lv_imul hx hb hd (k l p e R s m args below meth c D dA σ A H locs cells slots mc ms ls Q C hP hD hS hl h1 h2 h3 h4 hret)
theorem x_iand {x y : Int32} (hd : decode μ.2.1 pc = .ok (.iand, 1)) (k : Ev X d μ (pc + 1) L (.int (x &&& y) :: st) ks M r ks' M') : Ev X d μ pc L (.int y :: .int x :: st) ks M r ks' M' := by
  intro l p e R s m args below meth c D dA σ A H locs cells slots mc ms ls Q C hP hD hS hl h1 h2 h3 h4 hret
  obtain ⟨hx, hb, hml, hown, hts, hr, hlk, hnm, hK, hA, hX, hfr, hlo⟩ := id C
  exact lv_iand hx hb hd (k l p e R s m args below meth c D dA σ A H locs cells slots mc ms ls Q C hP hD hS hl h1 h2 h3 h4 hret)
theorem x_ior {x y : Int32} (hd : decode μ.2.1 pc = .ok (.ior, 1)) (k : Ev X d μ (pc + 1) L (.int (x ||| y) :: st) ks M r ks' M') : Ev X d μ pc L (.int y :: .int x :: st) ks M r ks' M' := by
  intro l p e R s m args below meth c D dA σ A H locs cells slots mc ms ls Q C hP hD hS hl h1 h2 h3 h4 hret
  obtain ⟨hx, hb, hml, hown, hts, hr, hlk, hnm, hK, hA, hX, hfr, hlo⟩ := id C
  exact lv_ior hx hb hd (k l p e R s m args below meth c D dA σ A H locs cells slots mc ms ls Q C hP hD hS hl h1 h2 h3 h4 hret)
theorem x_ixor {x y : Int32} (hd : decode μ.2.1 pc = .ok (.ixor, 1)) (k : Ev X d μ (pc + 1) L (.int (x ^^^ y) :: st) ks M r ks' M') : Ev X d μ pc L (.int y :: .int x :: st) ks M r ks' M' := by
  intro l p e R s m args below meth c D dA σ A H locs cells slots mc ms ls Q C hP hD hS hl h1 h2 h3 h4 hret
  obtain ⟨hx, hb, hml, hown, hts, hr, hlk, hnm, hK, hA, hX, hfr, hlo⟩ := id C
  exact lv_ixor hx hb hd (k l p e R s m args below meth c D dA σ A H locs cells slots mc ms ls Q C hP hD hS hl h1 h2 h3 h4 hret)
theorem x_ishl {x y : Int32} (hd : decode μ.2.1 pc = .ok (.ishl, 1)) (k : Ev X d μ (pc + 1) L (.int (x <<< (y &&& 31)) :: st) ks M r ks' M') : Ev X d μ pc L (.int y :: .int x :: st) ks M r ks' M' := by
  intro l p e R s m args below meth c D dA σ A H locs cells slots mc ms ls Q C hP hD hS hl h1 h2 h3 h4 hret
  obtain ⟨hx, hb, hml, hown, hts, hr, hlk, hnm, hK, hA, hX, hfr, hlo⟩ := id C
  exact lv_ishl hx hb hd (k l p e R s m args below meth c D dA σ A H locs cells slots mc ms ls Q C hP hD hS hl h1 h2 h3 h4 hret)
theorem x_ishr {x y : Int32} (hd : decode μ.2.1 pc = .ok (.ishr, 1)) (k : Ev X d μ (pc + 1) L (.int (x >>> (y &&& 31)) :: st) ks M r ks' M') : Ev X d μ pc L (.int y :: .int x :: st) ks M r ks' M' := by
  intro l p e R s m args below meth c D dA σ A H locs cells slots mc ms ls Q C hP hD hS hl h1 h2 h3 h4 hret
  obtain ⟨hx, hb, hml, hown, hts, hr, hlk, hnm, hK, hA, hX, hfr, hlo⟩ := id C
  exact lv_ishr hx hb hd (k l p e R s m args below meth c D dA σ A H locs cells slots mc ms ls Q C hP hD hS hl h1 h2 h3 h4 hret)
theorem x_idiv {x y : Int32} (hd : decode μ.2.1 pc = .ok (.idiv, 1)) (hne : ¬ y = 0) (k : Ev X d μ (pc + 1) L (.int (x / y) :: st) ks M r ks' M') : Ev X d μ pc L (.int y :: .int x :: st) ks M r ks' M' := by
  intro l p e R s m args below meth c D dA σ A H locs cells slots mc ms ls Q C hP hD hS hl h1 h2 h3 h4 hret
  obtain ⟨hx, hb, hml, hown, hts, hr, hlk, hnm, hK, hA, hX, hfr, hlo⟩ := id C
  exact lv_idiv hx hb hd hne (k l p e R s m args below meth c D dA σ A H locs cells slots mc ms ls Q C hP hD hS hl h1 h2 h3 h4 hret)
theorem x_irem {x y : Int32} (hd : decode μ.2.1 pc = .ok (.irem, 1)) (hne : ¬ y = 0) (k : Ev X d μ (pc + 1) L (.int (x - x / y * y) :: st) ks M r ks' M') : Ev X d μ pc L (.int y :: .int x :: st) ks M r ks' M' := by
  intro l p e R s m args below meth c D dA σ A H locs cells slots mc ms ls Q C hP hD hS hl h1 h2 h3 h4 hret
  obtain ⟨hx, hb, hml, hown, hts, hr, hlk, hnm, hK, hA, hX, hfr, hlo⟩ := id C
  exact lv_irem hx hb hd hne (k l p e R s m args below meth c D dA σ A H locs cells slots mc ms ls Q C hP hD hS hl h1 h2 h3 h4 hret)
theorem x_iushr {x y : Int32} (hd : decode μ.2.1 pc = .ok (.iushr, 1)) (k : Ev X d μ (pc + 1) L (.int (x.toUInt32 >>> (y.toUInt32 &&& Int32.toUInt32 31)).toInt32 :: st) ks M r ks' M') : Ev X d μ pc L (.int y :: .int x :: st) ks M r ks' M' := by
  intro l p e R s m args below meth c D dA σ A H locs cells slots mc ms ls Q C hP hD hS hl h1 h2 h3 h4 hret
  obtain ⟨hx, hb, hml, hown, hts, hr, hlk, hnm, hK, hA, hX, hfr, hlo⟩ := id C
  exact lv_iushr hx hb hd rfl (k l p e R s m args below meth c D dA σ A H locs cells slots mc ms ls Q C hP hD hS hl h1 h2 h3 h4 hret)
theorem x_ineg {x : Int32} (hd : decode μ.2.1 pc = .ok (.ineg, 1)) (k : Ev X d μ (pc + 1) L (.int (-x) :: st) ks M r ks' M') : Ev X d μ pc L (.int x :: st) ks M r ks' M' := by
  intro l p e R s m args below meth c D dA σ A H locs cells slots mc ms ls Q C hP hD hS hl h1 h2 h3 h4 hret
  obtain ⟨hx, hb, hml, hown, hts, hr, hlk, hnm, hK, hA, hX, hfr, hlo⟩ := id C
  exact lv_ineg hx hb hd (k l p e R s m args below meth c D dA σ A H locs cells slots mc ms ls Q C hP hD hS hl h1 h2 h3 h4 hret)
theorem x_i2l {x : Int32} (hd : decode μ.2.1 pc = .ok (.i2l, 1)) (k : Ev X d μ (pc + 1) L (.long x.toInt64 :: st) ks M r ks' M') : Ev X d μ pc L (.int x :: st) ks M r ks' M' := by
  intro l p e R s m args below meth c D dA σ A H locs cells slots mc ms ls Q C hP hD hS hl h1 h2 h3 h4 hret
  obtain ⟨hx, hb, hml, hown, hts, hr, hlk, hnm, hK, hA, hX, hfr, hlo⟩ := id C
  exact lv_i2l hx hb hd rfl (k l p e R s m args below meth c D dA σ A H locs cells slots mc ms ls Q C hP hD hS hl h1 h2 h3 h4 hret)
theorem x_i2b {x : Int32} (hd : decode μ.2.1 pc = .ok (.i2b, 1)) (k : Ev X d μ (pc + 1) L (.int x.toInt8.toInt32 :: st) ks M r ks' M') : Ev X d μ pc L (.int x :: st) ks M r ks' M' := by
  intro l p e R s m args below meth c D dA σ A H locs cells slots mc ms ls Q C hP hD hS hl h1 h2 h3 h4 hret
  obtain ⟨hx, hb, hml, hown, hts, hr, hlk, hnm, hK, hA, hX, hfr, hlo⟩ := id C
  exact lv_i2b hx hb hd rfl (k l p e R s m args below meth c D dA σ A H locs cells slots mc ms ls Q C hP hD hS hl h1 h2 h3 h4 hret)
theorem x_i2c {x : Int32} (hd : decode μ.2.1 pc = .ok (.i2c, 1)) (k : Ev X d μ (pc + 1) L (.int (x.toUInt32 % 65536).toInt32 :: st) ks M r ks' M') : Ev X d μ pc L (.int x :: st) ks M r ks' M' := by
  intro l p e R s m args below meth c D dA σ A H locs cells slots mc ms ls Q C hP hD hS hl h1 h2 h3 h4 hret
  obtain ⟨hx, hb, hml, hown, hts, hr, hlk, hnm, hK, hA, hX, hfr, hlo⟩ := id C
  exact lv_i2c hx hb hd rfl (k l p e R s m args below meth c D dA σ A H locs cells slots mc ms ls Q C hP hD hS hl h1 h2 h3 h4 hret)
theorem x_lor {x y : Int64} (hd : decode μ.2.1 pc = .ok (.lor, 1)) (k : Ev X d μ (pc + 1) L (.long (x ||| y) :: st) ks M r ks' M') : Ev X d μ pc L (.long y :: .long x :: st) ks M r ks' M' := by
  intro l p e R s m args below meth c D dA σ A H locs cells slots mc ms ls Q C hP hD hS hl h1 h2 h3 h4 hret
  obtain ⟨hx, hb, hml, hown, hts, hr, hlk, hnm, hK, hA, hX, hfr, hlo⟩ := id C
  exact lv_lor hx hb hd (k l p e R s m args below meth c D dA σ A H locs cells slots mc ms ls Q C hP hD hS hl h1 h2 h3 h4 hret)
theorem x_lshl {x : Int64} {y : Int32} (hd : decode μ.2.1 pc = .ok (.lshl, 1)) (k : Ev X d μ (pc + 1) L (.long (x <<< (y.toInt64 &&& 63)) :: st) ks M r ks' M') : Ev X d μ pc L (.int y :: .long x :: st) ks M r ks' M' := by
  intro l p e R s m args below meth c D dA σ A H locs cells slots mc ms ls Q C hP hD hS hl h1 h2 h3 h4 hret
  obtain ⟨hx, hb, hml, hown, hts, hr, hlk, hnm, hK, hA, hX, hfr, hlo⟩ := id C
  exact lv_lshl hx hb hd rfl (k l p e R s m args below meth c D dA σ A H locs cells slots mc ms ls Q C hP hD hS hl h1 h2 h3 h4 hret)
theorem x_lcmp {x y : Int64} (hd : decode μ.2.1 pc = .ok (.lcmp, 1)) (k : Ev X d μ (pc + 1) L (.int (lg_cmp x y) :: st) ks M r ks' M') : Ev X d μ pc L (.long y :: .long x :: st) ks M r ks' M' := by
  intro l p e R s m args below meth c D dA σ A H locs cells slots mc ms ls Q C hP hD hS hl h1 h2 h3 h4 hret
  obtain ⟨hx, hb, hml, hown, hts, hr, hlk, hnm, hK, hA, hX, hfr, hlo⟩ := id C
  exact W.lcmp hx hb hd (k l p e R s m args below meth c D dA σ A H locs cells slots mc ms ls Q C hP hD hS hl h1 h2 h3 h4 hret)
theorem x_dup {v : Value} (hd : decode μ.2.1 pc = .ok (.dup, 1)) (hv : v.category = 1) (k : Ev X d μ (pc + 1) L (v :: v :: st) ks M r ks' M') : Ev X d μ pc L (v :: st) ks M r ks' M' := by
  intro l p e R s m args below meth c D dA σ A H locs cells slots mc ms ls Q C hP hD hS hl h1 h2 h3 h4 hret
  obtain ⟨hx, hb, hml, hown, hts, hr, hlk, hnm, hK, hA, hX, hfr, hlo⟩ := id C
  exact lv_dup hx hb hd (by rw [rv_cat hX.2.2.2.1.2]; exact hv) (k l p e R s m args below meth c D dA σ A H locs cells slots mc ms ls Q C hP hD hS hl h1 h2 h3 h4 hret)
theorem x_pop {v : Value} (hd : decode μ.2.1 pc = .ok (.pop, 1)) (hv : v.category = 1) (k : Ev X d μ (pc + 1) L st ks M r ks' M') : Ev X d μ pc L (v :: st) ks M r ks' M' := by
  intro l p e R s m args below meth c D dA σ A H locs cells slots mc ms ls Q C hP hD hS hl h1 h2 h3 h4 hret
  obtain ⟨hx, hb, hml, hown, hts, hr, hlk, hnm, hK, hA, hX, hfr, hlo⟩ := id C
  exact lv_pop hx hb hd (by rw [rv_cat hX.2.2.2.1.2]; exact hv) (k l p e R s m args below meth c D dA σ A H locs cells slots mc ms ls Q C hP hD hS hl h1 h2 h3 h4 hret)
theorem x_dup2 {v w : Value} (hd : decode μ.2.1 pc = .ok (.dup2, 1)) (hv : v.category = 1) (hw : w.category = 1) (k : Ev X d μ (pc + 1) L (v :: w :: v :: w :: st) ks M r ks' M') : Ev X d μ pc L (v :: w :: st) ks M r ks' M' := by
  intro l p e R s m args below meth c D dA σ A H locs cells slots mc ms ls Q C hP hD hS hl h1 h2 h3 h4 hret
  obtain ⟨hx, hb, hml, hown, hts, hr, hlk, hnm, hK, hA, hX, hfr, hlo⟩ := id C
  exact lv_dup2_11 hx hb hd (by rw [rv_cat hX.2.2.2.1.2]; exact hv) (by rw [rv_cat hX.2.2.2.1.2]; exact hw) (k l p e R s m args below meth c D dA σ A H locs cells slots mc ms ls Q C hP hD hS hl h1 h2 h3 h4 hret)
theorem x_dup_x1 {v w : Value} (hd : decode μ.2.1 pc = .ok (.dup_x1, 1)) (hv : v.category = 1) (hw : w.category = 1) (k : Ev X d μ (pc + 1) L (v :: w :: v :: st) ks M r ks' M') : Ev X d μ pc L (v :: w :: st) ks M r ks' M' := by
  intro l p e R s m args below meth c D dA σ A H locs cells slots mc ms ls Q C hP hD hS hl h1 h2 h3 h4 hret
  obtain ⟨hx, hb, hml, hown, hts, hr, hlk, hnm, hK, hA, hX, hfr, hlo⟩ := id C
  exact lv_dup_x1 hx hb hd (by rw [rv_cat hX.2.2.2.1.2]; exact hv) (by rw [rv_cat hX.2.2.2.1.2]; exact hw) (k l p e R s m args below meth c D dA σ A H locs cells slots mc ms ls Q C hP hD hS hl h1 h2 h3 h4 hret)
theorem x_icmp_eq {x y : Int32} {off : Int} {tgt : Nat} (hd : decode μ.2.1 pc = .ok (.if_icmp .eq off, 3)) (ht : (pc : Int) + off = (tgt : Int)) (kt : x = y → Ev X d μ tgt L st ks M r ks' M') (kf : ¬ x = y → Ev X d μ (pc + 3) L st ks M r ks' M') : Ev X d μ pc L (.int y :: .int x :: st) ks M r ks' M' := by
  intro l p e R s m args below meth c D dA σ A H locs cells slots mc ms ls Q C hP hD hS hl h1 h2 h3 h4 hret
  obtain ⟨hx, hb, hml, hown, hts, hr, hlk, hnm, hK, hA, hX, hfr, hlo⟩ := id C
  exact lv_icmp_eq hx hb hd ht (fun q => (kt q l p e R s m args below meth c D dA σ A H locs cells slots mc ms ls Q C hP hD hS hl h1 h2 h3 h4 hret)) (fun q => (kf q l p e R s m args below meth c D dA σ A H locs cells slots mc ms ls Q C hP hD hS hl h1 h2 h3 h4 hret))
theorem x_icmp_ne {x y : Int32} {off : Int} {tgt : Nat} (hd : decode μ.2.1 pc = .ok (.if_icmp .ne off, 3)) (ht : (pc : Int) + off = (tgt : Int)) (kt : ¬ x = y → Ev X d μ tgt L st ks M r ks' M') (kf : x = y → Ev X d μ (pc + 3) L st ks M r ks' M') : Ev X d μ pc L (.int y :: .int x :: st) ks M r ks' M' := by
  intro l p e R s m args below meth c D dA σ A H locs cells slots mc ms ls Q C hP hD hS hl h1 h2 h3 h4 hret
  obtain ⟨hx, hb, hml, hown, hts, hr, hlk, hnm, hK, hA, hX, hfr, hlo⟩ := id C
  exact lv_icmp_ne hx hb hd ht (fun q => (kt q l p e R s m args below meth c D dA σ A H locs cells slots mc ms ls Q C hP hD hS hl h1 h2 h3 h4 hret)) (fun q => (kf q l p e R s m args below meth c D dA σ A H locs cells slots mc ms ls Q C hP hD hS hl h1 h2 h3 h4 hret))
theorem x_icmp_lt {x y : Int32} {off : Int} {tgt : Nat} (hd : decode μ.2.1 pc = .ok (.if_icmp .lt off, 3)) (ht : (pc : Int) + off = (tgt : Int)) (kt : x < y → Ev X d μ tgt L st ks M r ks' M') (kf : ¬ x < y → Ev X d μ (pc + 3) L st ks M r ks' M') : Ev X d μ pc L (.int y :: .int x :: st) ks M r ks' M' := by
  intro l p e R s m args below meth c D dA σ A H locs cells slots mc ms ls Q C hP hD hS hl h1 h2 h3 h4 hret
  obtain ⟨hx, hb, hml, hown, hts, hr, hlk, hnm, hK, hA, hX, hfr, hlo⟩ := id C
  exact lv_icmp_lt hx hb hd ht (fun q => (kt q l p e R s m args below meth c D dA σ A H locs cells slots mc ms ls Q C hP hD hS hl h1 h2 h3 h4 hret)) (fun q => (kf q l p e R s m args below meth c D dA σ A H locs cells slots mc ms ls Q C hP hD hS hl h1 h2 h3 h4 hret))
theorem x_icmp_ge {x y : Int32} {off : Int} {tgt : Nat} (hd : decode μ.2.1 pc = .ok (.if_icmp .ge off, 3)) (ht : (pc : Int) + off = (tgt : Int)) (kt : y ≤ x → Ev X d μ tgt L st ks M r ks' M') (kf : ¬ y ≤ x → Ev X d μ (pc + 3) L st ks M r ks' M') : Ev X d μ pc L (.int y :: .int x :: st) ks M r ks' M' := by
  intro l p e R s m args below meth c D dA σ A H locs cells slots mc ms ls Q C hP hD hS hl h1 h2 h3 h4 hret
  obtain ⟨hx, hb, hml, hown, hts, hr, hlk, hnm, hK, hA, hX, hfr, hlo⟩ := id C
  exact lv_icmp_ge hx hb hd ht (fun q => (kt q l p e R s m args below meth c D dA σ A H locs cells slots mc ms ls Q C hP hD hS hl h1 h2 h3 h4 hret)) (fun q => (kf q l p e R s m args below meth c D dA σ A H locs cells slots mc ms ls Q C hP hD hS hl h1 h2 h3 h4 hret))
theorem x_icmp_gt {x y : Int32} {off : Int} {tgt : Nat} (hd : decode μ.2.1 pc = .ok (.if_icmp .gt off, 3)) (ht : (pc : Int) + off = (tgt : Int)) (kt : y < x → Ev X d μ tgt L st ks M r ks' M') (kf : ¬ y < x → Ev X d μ (pc + 3) L st ks M r ks' M') : Ev X d μ pc L (.int y :: .int x :: st) ks M r ks' M' := by
  intro l p e R s m args below meth c D dA σ A H locs cells slots mc ms ls Q C hP hD hS hl h1 h2 h3 h4 hret
  obtain ⟨hx, hb, hml, hown, hts, hr, hlk, hnm, hK, hA, hX, hfr, hlo⟩ := id C
  exact lv_icmp_gt hx hb hd ht (fun q => (kt q l p e R s m args below meth c D dA σ A H locs cells slots mc ms ls Q C hP hD hS hl h1 h2 h3 h4 hret)) (fun q => (kf q l p e R s m args below meth c D dA σ A H locs cells slots mc ms ls Q C hP hD hS hl h1 h2 h3 h4 hret))
theorem x_icmp_le {x y : Int32} {off : Int} {tgt : Nat} (hd : decode μ.2.1 pc = .ok (.if_icmp .le off, 3)) (ht : (pc : Int) + off = (tgt : Int)) (kt : x ≤ y → Ev X d μ tgt L st ks M r ks' M') (kf : ¬ x ≤ y → Ev X d μ (pc + 3) L st ks M r ks' M') : Ev X d μ pc L (.int y :: .int x :: st) ks M r ks' M' := by
  intro l p e R s m args below meth c D dA σ A H locs cells slots mc ms ls Q C hP hD hS hl h1 h2 h3 h4 hret
  obtain ⟨hx, hb, hml, hown, hts, hr, hlk, hnm, hK, hA, hX, hfr, hlo⟩ := id C
  exact lv_icmp_le hx hb hd ht (fun q => (kt q l p e R s m args below meth c D dA σ A H locs cells slots mc ms ls Q C hP hD hS hl h1 h2 h3 h4 hret)) (fun q => (kf q l p e R s m args below meth c D dA σ A H locs cells slots mc ms ls Q C hP hD hS hl h1 h2 h3 h4 hret))
theorem x_if_eq {x : Int32} {off : Int} {tgt : Nat} (hd : decode μ.2.1 pc = .ok (.ifCond .eq off, 3)) (ht : (pc : Int) + off = (tgt : Int)) (kt : x = 0 → Ev X d μ tgt L st ks M r ks' M') (kf : ¬ x = 0 → Ev X d μ (pc + 3) L st ks M r ks' M') : Ev X d μ pc L (.int x :: st) ks M r ks' M' := by
  intro l p e R s m args below meth c D dA σ A H locs cells slots mc ms ls Q C hP hD hS hl h1 h2 h3 h4 hret
  obtain ⟨hx, hb, hml, hown, hts, hr, hlk, hnm, hK, hA, hX, hfr, hlo⟩ := id C
  exact lv_if_eq hx hb hd ht (fun q => (kt q l p e R s m args below meth c D dA σ A H locs cells slots mc ms ls Q C hP hD hS hl h1 h2 h3 h4 hret)) (fun q => (kf q l p e R s m args below meth c D dA σ A H locs cells slots mc ms ls Q C hP hD hS hl h1 h2 h3 h4 hret))
theorem x_if_ne {x : Int32} {off : Int} {tgt : Nat} (hd : decode μ.2.1 pc = .ok (.ifCond .ne off, 3)) (ht : (pc : Int) + off = (tgt : Int)) (kt : ¬ x = 0 → Ev X d μ tgt L st ks M r ks' M') (kf : x = 0 → Ev X d μ (pc + 3) L st ks M r ks' M') : Ev X d μ pc L (.int x :: st) ks M r ks' M' := by
  intro l p e R s m args below meth c D dA σ A H locs cells slots mc ms ls Q C hP hD hS hl h1 h2 h3 h4 hret
  obtain ⟨hx, hb, hml, hown, hts, hr, hlk, hnm, hK, hA, hX, hfr, hlo⟩ := id C
  exact lv_if_ne hx hb hd ht (fun q => (kt q l p e R s m args below meth c D dA σ A H locs cells slots mc ms ls Q C hP hD hS hl h1 h2 h3 h4 hret)) (fun q => (kf q l p e R s m args below meth c D dA σ A H locs cells slots mc ms ls Q C hP hD hS hl h1 h2 h3 h4 hret))
theorem x_if_lt {x : Int32} {off : Int} {tgt : Nat} (hd : decode μ.2.1 pc = .ok (.ifCond .lt off, 3)) (ht : (pc : Int) + off = (tgt : Int)) (kt : x < 0 → Ev X d μ tgt L st ks M r ks' M') (kf : ¬ x < 0 → Ev X d μ (pc + 3) L st ks M r ks' M') : Ev X d μ pc L (.int x :: st) ks M r ks' M' := by
  intro l p e R s m args below meth c D dA σ A H locs cells slots mc ms ls Q C hP hD hS hl h1 h2 h3 h4 hret
  obtain ⟨hx, hb, hml, hown, hts, hr, hlk, hnm, hK, hA, hX, hfr, hlo⟩ := id C
  exact lv_if_lt hx hb hd ht (fun q => (kt q l p e R s m args below meth c D dA σ A H locs cells slots mc ms ls Q C hP hD hS hl h1 h2 h3 h4 hret)) (fun q => (kf q l p e R s m args below meth c D dA σ A H locs cells slots mc ms ls Q C hP hD hS hl h1 h2 h3 h4 hret))
theorem x_if_ge {x : Int32} {off : Int} {tgt : Nat} (hd : decode μ.2.1 pc = .ok (.ifCond .ge off, 3)) (ht : (pc : Int) + off = (tgt : Int)) (kt : 0 ≤ x → Ev X d μ tgt L st ks M r ks' M') (kf : ¬ 0 ≤ x → Ev X d μ (pc + 3) L st ks M r ks' M') : Ev X d μ pc L (.int x :: st) ks M r ks' M' := by
  intro l p e R s m args below meth c D dA σ A H locs cells slots mc ms ls Q C hP hD hS hl h1 h2 h3 h4 hret
  obtain ⟨hx, hb, hml, hown, hts, hr, hlk, hnm, hK, hA, hX, hfr, hlo⟩ := id C
  exact lv_if_ge hx hb hd ht (fun q => (kt q l p e R s m args below meth c D dA σ A H locs cells slots mc ms ls Q C hP hD hS hl h1 h2 h3 h4 hret)) (fun q => (kf q l p e R s m args below meth c D dA σ A H locs cells slots mc ms ls Q C hP hD hS hl h1 h2 h3 h4 hret))
theorem x_if_gt {x : Int32} {off : Int} {tgt : Nat} (hd : decode μ.2.1 pc = .ok (.ifCond .gt off, 3)) (ht : (pc : Int) + off = (tgt : Int)) (kt : 0 < x → Ev X d μ tgt L st ks M r ks' M') (kf : ¬ 0 < x → Ev X d μ (pc + 3) L st ks M r ks' M') : Ev X d μ pc L (.int x :: st) ks M r ks' M' := by
  intro l p e R s m args below meth c D dA σ A H locs cells slots mc ms ls Q C hP hD hS hl h1 h2 h3 h4 hret
  obtain ⟨hx, hb, hml, hown, hts, hr, hlk, hnm, hK, hA, hX, hfr, hlo⟩ := id C
  exact lv_if_gt hx hb hd ht (fun q => (kt q l p e R s m args below meth c D dA σ A H locs cells slots mc ms ls Q C hP hD hS hl h1 h2 h3 h4 hret)) (fun q => (kf q l p e R s m args below meth c D dA σ A H locs cells slots mc ms ls Q C hP hD hS hl h1 h2 h3 h4 hret))
theorem x_if_le {x : Int32} {off : Int} {tgt : Nat} (hd : decode μ.2.1 pc = .ok (.ifCond .le off, 3)) (ht : (pc : Int) + off = (tgt : Int)) (kt : x ≤ 0 → Ev X d μ tgt L st ks M r ks' M') (kf : ¬ x ≤ 0 → Ev X d μ (pc + 3) L st ks M r ks' M') : Ev X d μ pc L (.int x :: st) ks M r ks' M' := by
  intro l p e R s m args below meth c D dA σ A H locs cells slots mc ms ls Q C hP hD hS hl h1 h2 h3 h4 hret
  obtain ⟨hx, hb, hml, hown, hts, hr, hlk, hnm, hK, hA, hX, hfr, hlo⟩ := id C
  exact lv_if_le hx hb hd ht (fun q => (kt q l p e R s m args below meth c D dA σ A H locs cells slots mc ms ls Q C hP hD hS hl h1 h2 h3 h4 hret)) (fun q => (kf q l p e R s m args below meth c D dA σ A H locs cells slots mc ms ls Q C hP hD hS hl h1 h2 h3 h4 hret))
theorem x_goto {off : Int} {tgt : Nat} (hd : decode μ.2.1 pc = .ok (.goto off, 3)) (ht : (pc : Int) + off = (tgt : Int)) (k : Ev X d μ tgt L st ks M r ks' M') : Ev X d μ pc L st ks M r ks' M' := by
  intro l p e R s m args below meth c D dA σ A H locs cells slots mc ms ls Q C hP hD hS hl h1 h2 h3 h4 hret
  obtain ⟨hx, hb, hml, hown, hts, hr, hlk, hnm, hK, hA, hX, hfr, hlo⟩ := id C
  exact lv_goto hx hb hd ht (k l p e R s m args below meth c D dA σ A H locs cells slots mc ms ls Q C hP hD hS hl h1 h2 h3 h4 hret)
theorem x_tabC {dflt lo hi : Int} {offs : Array Int} {len : Nat} {x : Int32} {off : Int} {tgt : Nat} (c0 : Int) (hd : decode μ.2.1 pc = .ok (.tableswitch dflt lo hi offs, len)) (hx0 : x.toInt = c0) (h5 : ¬ c0 < lo ∧ ¬ hi < c0) (ho : offs[(c0 - lo).toNat]? = some off) (ht : (pc : Int) + off = (tgt : Int)) (k : Ev X d μ tgt L st ks M r ks' M') : Ev X d μ pc L (.int x :: st) ks M r ks' M' := by
  intro l p e R s m args below meth c D dA σ A H locs cells slots mc ms ls Q C hP hD hS hl h1 h2 h3 h4 hret
  obtain ⟨hx, hb, hml, hown, hts, hr, hlk, hnm, hK, hA, hX, hfr, hlo⟩ := id C
  exact lv_tableIn hx hb hd (by rw [hx0]; exact h5.1) (by rw [hx0]; exact h5.2) (by rw [hx0]; exact ho) ht (k l p e R s m args below meth c D dA σ A H locs cells slots mc ms ls Q C hP hD hS hl h1 h2 h3 h4 hret)
theorem x_tabD {dflt lo hi : Int} {offs : Array Int} {len : Nat} {x : Int32} {tgt : Nat} (hd : decode μ.2.1 pc = .ok (.tableswitch dflt lo hi offs, len)) (h5 : x.toInt < lo ∨ hi < x.toInt) (ht : (pc : Int) + dflt = (tgt : Int)) (k : Ev X d μ tgt L st ks M r ks' M') : Ev X d μ pc L (.int x :: st) ks M r ks' M' := by
  intro l p e R s m args below meth c D dA σ A H locs cells slots mc ms ls Q C hP hD hS hl h1 h2 h3 h4 hret
  obtain ⟨hx, hb, hml, hown, hts, hr, hlk, hnm, hK, hA, hX, hfr, hlo⟩ := id C
  exact lv_tableOut hx hb hd h5 ht (k l p e R s m args below meth c D dA σ A H locs cells slots mc ms ls Q C hP hD hS hl h1 h2 h3 h4 hret)
theorem x_look {dflt : Int} {ps : Array (Int × Int)} {len : Nat} {x : Int32} {off : Int} {tgt : Nat} (hd : decode μ.2.1 pc = .ok (.lookupswitch dflt ps, len)) (hp : (ps.toList.zip (ps.toList.drop 1)).all (fun (a, next) => a.1 < next.1) = true) (ho : Op.lookupswitch.offset ps.toList dflt x.toInt = off) (ht : (pc : Int) + off = (tgt : Int)) (k : Ev X d μ tgt L st ks M r ks' M') : Ev X d μ pc L (.int x :: st) ks M r ks' M' := by
  intro l p e R s m args below meth c D dA σ A H locs cells slots mc ms ls Q C hP hD hS hl h1 h2 h3 h4 hret
  obtain ⟨hx, hb, hml, hown, hts, hr, hlk, hnm, hK, hA, hX, hfr, hlo⟩ := id C
  exact lv_lookup hx hb hd hp ho ht (k l p e R s m args below meth c D dA σ A H locs cells slots mc ms ls Q C hP hD hS hl h1 h2 h3 h4 hret)
theorem x_drop {L1 : List (Nat × Value)} (hs : ∀ q ∈ L1, q ∈ L) (k : Ev X d μ pc L1 st ks M r ks' M') : Ev X d μ pc L st ks M r ks' M' := by
  intro l p e R s m args below meth c D dA σ A H locs cells slots mc ms ls Q C hP hD hS hl h1 h2 h3 h4 hret
  obtain ⟨hx, hb, hml, hown, hts, hr, hlk, hnm, hK, hA, hX, hfr, hlo⟩ := id C
  have hl1 : lv_has ls μ.2.2.1 (lvr σ L1) := ⟨hl.1, hl.2.1, fun q hq => by
    obtain ⟨q0, hq0, rfl⟩ := List.mem_map.mp hq
    exact hl.2.2 _ (List.mem_map.mpr ⟨q0, hs q0 hq0, rfl⟩)⟩
  exact (k l p e R s m args below meth c D dA σ A H locs cells slots mc ms ls Q C hP hD hS hl1 h1 h2 h3 h4 hret)
theorem x_ret (hd : decode μ.2.1 pc = .ok (rIns μ.2.2.2, 1)) (hr0 : rOK μ.2.2.2 r) : Ev X d μ pc L r.toList ks M r ks M := by
  intro l p e R s m args below meth c D dA σ A H locs cells slots mc ms ls Q C hP hD hS hl h1 h2 h3 h4 hret
  obtain ⟨hx, hb, hml, hown, hts, hr, hlk, hnm, hK, hA, hX, hfr, hlo⟩ := id C
  have e1 : cells = mc := by omega
  have e2 : slots = ms := by omega
  subst e1; subst e2
  exact hret pc ls σ H locs hd hr0 Same.rf hP hD hS
end XR
