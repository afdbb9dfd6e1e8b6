/-! NEW CELLS: constructors -/
def okR (n n' : Nat) (v : Value) : Bool := match v with
  | .ref h => decide (h < n) || decide (n' ≤ h)
  | _ => true
def okS (n n' : Nat) (L : List (Nat × Value)) (st : List Value) : Bool := (L.all fun q => okR n n' q.2) && st.all (okR n n')
theorem rv_ok {σ σ' : Sg} {n n' : Nat} (h : Same σ σ' n n') {v : Value} (hv : okR n n' v = true) : rv σ' v = rv σ v := by
  cases v with
  | ref a =>
    simp only [okR, Bool.or_eq_true, decide_eq_true_eq] at hv
    simp only [rv, h.1 a hv]
  | retAddr a => simp only [rv, h.2]
  | _ => rfl
theorem rv_okL {σ σ' : Sg} {n n' : Nat} (h : Same σ σ' n n') {st : List Value} (hv : st.all (okR n n') = true) : st.map (rv σ') = st.map (rv σ) :=
  List.map_congr_left fun v hm => rv_ok h (List.all_eq_true.mp hv v hm)
theorem rv_okN {σ σ' : Sg} {n n' : Nat} (h : Same σ σ' n n') {L : List (Nat × Value)} (hv : (L.all fun q => okR n n' q.2) = true) : lvr σ' L = lvr σ L :=
  List.map_congr_left fun q hm => by rw [rv_ok h (List.all_eq_true.mp hv q hm)]
theorem okS_L {n n' : Nat} {L : List (Nat × Value)} {st : List Value} (h : okS n n' L st = true) : (L.all fun q => okR n n' q.2) = true := (Bool.and_eq_true _ _ ▸ h).1
theorem okS_st {n n' : Nat} {L : List (Nat × Value)} {st : List Value} (h : okS n n' L st = true) : st.all (okR n n') = true := (Bool.and_eq_true _ _ ▸ h).2
/-- references of the memory are handles below n -/
def RB (n : Nat) (M : Mem) : Prop := ∀ h k v, M.2.2 h k = some v → v < n
def sgX (σ : Sg) (n q : Nat) : Sg := (fun j => if j = n then q else σ.1 j, σ.2)
theorem sgX_same {σ : Sg} {n q : Nat} : Same σ (sgX σ n q) n (n + 1) := ⟨fun j hj => by simp only [sgX]; rw [if_neg (by omega)], rfl⟩
theorem cE_fresh {dA : Nat → ClassId} {σ : Sg} {M : Mem} {n q h : Nat} {kd : Nat × Nat} (hb : RB n M) (hh : h ≠ n) : cE dA (sgX σ n q) (clr M n) h kd = cE dA σ M h kd := by
  have e1 : (clr M n).1 h = M.1 h := by simp [clr, hh]
  have e2 : (clr M n).2.1 h = M.2.1 h := by simp [clr, hh]
  have e3 : (clr M n).2.2 h = M.2.2 h := by simp [clr, hh]
  have e4 : ∀ k, (M.2.2 h k).map (sgX σ n q).1 = (M.2.2 h k).map σ.1 := by
    intro k
    cases hk : M.2.2 h k with
    | none => rfl
    | some v =>
      have := hb h k v hk
      simp only [Option.map_some, sgX]
      rw [if_neg (by omega)]
  simp only [cE, fvT, e1, e2, e3, e4]
theorem wld_push {dA : Nat → ClassId} {σ : Sg} {ks : Kds} {M : Mem} {q : Nat} {kd : Nat × Nat} {E : va_E} (hb : RB ks.length M) (hE : cE dA (sgX σ ks.length q) (clr M ks.length) ks.length kd = E) : wld dA σ ks M ++ [(q, E)] = wld dA (sgX σ ks.length q) (ks ++ [kd]) (clr M ks.length) := by
  apply List.ext_getElem?
  intro j
  rcases Nat.lt_trichotomy j ks.length with hj | hj | hj
  · obtain ⟨kj, hkj⟩ : ∃ kj, ks[j]? = some kj := ⟨_, List.getElem?_eq_getElem hj⟩
    rw [List.getElem?_append_left (by rw [wld_len]; exact hj), wld_at hkj, wld_at (ks := ks ++ [kd]) (kd := kj) (by rw [List.getElem?_append_left hj]; exact hkj), cE_fresh hb (by omega)]
    simp only [sgX]
    rw [if_neg (by omega)]
  · subst hj
    rw [List.getElem?_append_right (by rw [wld_len]; exact Nat.le_refl _), wld_len, Nat.sub_self, wld_at (ks := ks ++ [kd]) (kd := kd) (by simp), hE]
    simp [sgX]
  · rw [List.getElem?_eq_none (by simp [wld_len]; omega), List.getElem?_eq_none (by rw [wld_len]; simp; omega)]
theorem kz_push (ks : Kds) (kd : Nat × Nat) : kz (ks ++ [kd]) = kz ks + (if kd.1 = 0 then nF kd.2 else kd.2) := by simp [kz]
section XA
variable {X : Nat × (Nat → Int32)} {d : Nat} {μ : Mt} {pc : Nat} {L : List (Nat × Value)} {st : List Value} {ks : Kds} {M : Mem} {r : Option Value} {ks' : Kds} {M' : Mem}
theorem dv_eq (t : FieldType) (σ : Sg) (M : Mem) (n k : Nat) (ht : t ≠ .float ∧ t ≠ .double) : defaultValue t = fvT t σ (clr M n) n k := by
  cases t <;> first | exact absurd rfl ht.1 | exact absurd rfl ht.2 | simp [defaultValue, fvT, clr, va_rf]
theorem same_step {σ σ'' : Sg} {n q n' : Nat} (hn : n + 1 ≤ n') (h : Same (sgX σ n q) σ'' (n + 1) n') : Same σ σ'' n n' := ⟨fun j hj => by
  rw [h.1 j (by omega)]
  simp only [sgX]
  rw [if_neg (by omega)], h.2⟩
theorem x_new {idx ci N : Nat} {C0 : String} {T : u_T} (hd : decode μ.2.1 pc = .ok (.new idx, 3)) (hc : cOK ci C0 T N) (hw : Cond.classLink μ.1.cls idx C0 ∈ GW ∧ Cond.instantiable C0 N ∈ GW ∧ Cond.initialized C0 ∈ GW) (hk : ks.length + 1 ≤ ks'.length ∧ kz ks + N ≤ kz ks' ∧ ks'.length ≤ 1000) (hft : ∀ k, k < N → tyT ci k ≠ .float ∧ tyT ci k ≠ .double) (hb0 : RB ks.length M) (hok : okS ks.length (ks.length + 1) L st = true)
    (k : Ev X d μ (pc + 3) L (.ref ks.length :: st) (ks ++ [(0, ci)]) (clr M ks.length) r ks' M') : Ev X d μ pc L st ks M r ks' M' := by
  intro l p e R s m args below meth c D dA σ A H locs cells slots mc ms ls Q C hP hD hS hl h1 h2 h3 h4 hret
  obtain ⟨hx, hb, hml, hown, hts, hr, hlk, hnm, hK, hA, hX, hfr, hlo⟩ := id C
  obtain ⟨q1, q2, q3, q4, q5, q6⟩ := hc
  subst q2
  refine va_new (C := C0) (T := T) (N := nF ci) (ci := ci) (fs := (List.range (nF ci)).map fun k => fvT (tyT ci k) (sgX σ ks.length 0) (clr M ks.length) ks.length k) hx hb hts q3 (tyT ci) q4 hown (hts _ hw.1) (hts _ hw.2.1) (hts _ hw.2.2) hK hP hD hS hA q1 (fun j hj => ?_) (by omega) (by omega) hd (fun q H1 hP1 hD1 hS1 => ?_)
  · rw [dv_eq (tyT ci j) (sgX σ ks.length 0) M ks.length j (hft j hj)]
    simp [vp_V, hj]
  · have hE : cE dA (sgX σ ks.length q) (clr M ks.length) ks.length (0, ci) = .inr (ci, (List.range (nF ci)).map fun k => fvT (tyT ci k) (sgX σ ks.length 0) (clr M ks.length) ks.length k) := by
      rw [fld_at]
      congr 2
      apply List.map_congr_left
      intro k hk0
      have hk1 := hft k (List.mem_range.mp hk0)
      rw [← dv_eq _ _ _ _ _ hk1, ← dv_eq _ _ _ _ _ hk1]
    rw [wld_push hb0 hE] at hP1 hD1
    have hsm : Same σ (sgX σ ks.length q) ks.length (ks.length + 1) := sgX_same
    have es : F0 m (pc + 3) ls (.ref q :: st.map (rv σ)) = F0 m (pc + 3) ls ((.ref ks.length :: st).map (rv (sgX σ ks.length q))) := by
      rw [List.map_cons, rv_okL hsm (okS_st hok)]
      simp [rv, sgX]
    rw [es]
    refine k l p e R s m args below meth c D dA (sgX σ ks.length q) A H1 locs (cells + 1) (slots + nF ci) mc ms ls Q ⟨hx, hb, hml, hown, hts, hr, hlk, hnm, hK, hA, hX.sig (fun j hj => hsm.1 j (by omega)) rfl, hfr, hlo⟩ hP1 hD1 hS1 (by rw [rv_okN hsm (okS_L hok)]; exact hl) (by rw [List.length_append]; simp; omega) (by rw [kz_push]; simp; omega) h3 h4 ?_
    intro pc' ls' σ' H' locs' g1 g2 g3 g4 g5 g6
    rw [List.length_append] at g3
    exact hret pc' ls' σ' H' locs' g1 g2 (same_step hk.1 g3) g4 g5 g6
def atag (a : ArrayType) : Nat := match a with
  | .int => 1
  | .long => 2
  | .byte => 3
  | .boolean => 4
  | _ => 0
theorem x_newa {a : ArrayType} {n : Int32} {N : Nat} (hd : decode μ.2.1 pc = .ok (.newarray a, 2)) (ha : a = .int ∨ a = .long ∨ a = .byte ∨ a = .boolean) (hw : Cond.arrayClass (newarray.typeOf a) ∈ GW) (hn : ¬ n < 0) (hN : n.toNatClampNeg = N) (hN2 : N ≤ 10000) (hk : ks.length + 1 ≤ ks'.length ∧ kz ks + N ≤ kz ks' ∧ ks'.length ≤ 1000) (hb0 : RB ks.length M) (hok : okS ks.length (ks.length + 1) L st = true)
    (k : Ev X d μ (pc + 2) L (.ref ks.length :: st) (ks ++ [(atag a, N)]) (clr M ks.length) r ks' M') : Ev X d μ pc L (.int n :: st) ks M r ks' M' := by
  intro l p e R s m args below meth c D dA σ A H locs cells slots mc ms ls Q C hP hD hS hl h1 h2 h3 h4 hret
  obtain ⟨hx, hb, hml, hown, hts, hr, hlk, hnm, hK, hA, hX, hfr, hlo⟩ := id C
  have ht0 : ¬ atag a = 0 := by rcases ha with rfl | rfl | rfl | rfl <;> decide
  have hcb : componentBytes (newarray.typeOf a) ≤ 8 := by rcases ha with rfl | rfl | rfl | rfl <;> decide
  have hbytes : N * componentBytes (newarray.typeOf a) ≤ 536870912 := Nat.le_trans (Nat.mul_le_mul hN2 hcb) (by decide)
  obtain ⟨a0, ha0, hq⟩ : ∃ a0 : vp_A, (∀ cA : ClassId, vp_cell cA a0 = arrV cA N (fun _ => defaultValue (newarray.typeOf a))) ∧ ∀ (q : Nat), cE dA (sgX σ ks.length q) (clr M ks.length) ks.length (atag a, N) = .inl (dA (atag a), a0) := by
    rcases ha with rfl | rfl | rfl | rfl
    · exact ⟨(N, .inl fun _ => 0), fun _ => rfl, fun q => by simp [cE, atag, clr]⟩
    · exact ⟨(N, .inr (.inl fun _ => 0)), fun _ => rfl, fun q => by simp [cE, atag, clr]⟩
    · exact ⟨(N, .inl fun _ => 0), fun _ => rfl, fun q => by simp [cE, atag, clr]⟩
    · exact ⟨(N, .inl fun _ => 0), fun _ => rfl, fun q => by simp [cE, atag, clr]⟩
  refine va_newa (a0 := a0) hx hb (hts _ hw) rfl hK hP hD hS hA ha0 hn hN hbytes (by omega) (by omega) hd (fun q cA H1 hK1 hP1 hD1 hS1 => ?_)
  have hcA : cA = dA (atag a) := by
    have z1 := (hK1.2 6 (cA, newarray.typeOf a) (by rw [List.getElem?_append_right (by simp [tyL])]; simp [tyL])).2
    have z2 := (hK.2 (atag a) (dA (atag a), newarray.typeOf a) (by rcases ha with rfl | rfl | rfl | rfl <;> rfl)).2
    rcases ha with rfl | rfl | rfl | rfl <;> exact Option.some.inj (Eq.trans (Eq.symm z1) z2)
  subst hcA
  rw [wld_push hb0 (hq q)] at hP1 hD1
  have hsm : Same σ (sgX σ ks.length q) ks.length (ks.length + 1) := sgX_same
  have es : F0 m (pc + 2) ls (.ref q :: st.map (rv σ)) = F0 m (pc + 2) ls ((.ref ks.length :: st).map (rv (sgX σ ks.length q))) := by
    rw [List.map_cons, rv_okL hsm (okS_st hok)]
    simp [rv, sgX]
  rw [es]
  refine k l p e R s m args below meth c D dA (sgX σ ks.length q) A H1 locs (cells + 1) (slots + N) mc ms ls Q ⟨hx, hb, hml, hown, hts, hr, hlk, hnm, hK, hA, hX.sig (fun j hj => hsm.1 j (by omega)) rfl, hfr, hlo⟩ hP1 hD1 hS1 (by rw [rv_okN hsm (okS_L hok)]; exact hl) (by rw [List.length_append]; simp; omega) (by rw [kz_push, if_neg ht0]; show slots + N + kz ks' = ms + (kz ks + N); omega) h3 h4 ?_
  intro pc' ls' σ' H' locs' g1 g2 g3 g4 g5 g6
  rw [List.length_append] at g3
  exact hret pc' ls' σ' H' locs' g1 g2 (same_step hk.1 g3) g4 g5 g6
theorem x_newq {idx : Nat} {n : Int32} {N : Nat} (hd : decode μ.2.1 pc = .ok (.anewarray idx, 3)) (hw : Cond.classLink μ.1.cls idx "NinetyPlayers$Laying" ∈ GW) (hn : ¬ n < 0) (hN : n.toNatClampNeg = N) (hN2 : N ≤ 10000) (hk : ks.length + 1 ≤ ks'.length ∧ kz ks + N ≤ kz ks' ∧ ks'.length ≤ 1000) (hb0 : RB ks.length M) (hok : okS ks.length (ks.length + 1) L st = true)
    (k : Ev X d μ (pc + 3) L (.ref ks.length :: st) (ks ++ [(5, N)]) (clr M ks.length) r ks' M') : Ev X d μ pc L (.int n :: st) ks M r ks' M' := by
  intro l p e R s m args below meth c D dA σ A H locs cells slots mc ms ls Q C hP hD hS hl h1 h2 h3 h4 hret
  obtain ⟨hx, hb, hml, hown, hts, hr, hlk, hnm, hK, hA, hX, hfr, hlo⟩ := id C
  have hq : ∀ q : Nat, cE dA (sgX σ ks.length q) (clr M ks.length) ks.length (5, N) = .inl (dA 5, N, .inr (.inr (.inr (.inr fun _ => none)))) := fun q => by simp [cE, clr]
  refine va_newq hx hb hown (hts _ hw) hX.2.2.2.2.2.1 hK hP hD hS hA hn hN (by omega) (by omega) (by omega) hd (fun q cA H1 hK1 hP1 hD1 hS1 => ?_)
  have hcA : cA = dA 5 := by
    obtain ⟨_, _, -, -, -, z1⟩ := (hK1.2 6 (cA, .object "NinetyPlayers$Laying") (by rw [List.getElem?_append_right (by simp [tyL])]; simp [tyL])).2
    obtain ⟨_, _, -, -, -, z2⟩ := (hK.2 5 (dA 5, .object "NinetyPlayers$Laying") rfl).2
    exact Option.some.inj (Eq.trans (Eq.symm z1) z2)
  subst hcA
  rw [wld_push hb0 (hq q)] at hP1 hD1
  have hsm : Same σ (sgX σ ks.length q) ks.length (ks.length + 1) := sgX_same
  have es : F0 m (pc + 3) ls (.ref q :: st.map (rv σ)) = F0 m (pc + 3) ls ((.ref ks.length :: st).map (rv (sgX σ ks.length q))) := by
    rw [List.map_cons, rv_okL hsm (okS_st hok)]
    simp [rv, sgX]
  rw [es]
  refine k l p e R s m args below meth c D dA (sgX σ ks.length q) A H1 locs (cells + 1) (slots + N) mc ms ls Q ⟨hx, hb, hml, hown, hts, hr, hlk, hnm, hK, hA, hX.sig (fun j hj => hsm.1 j (by omega)) rfl, hfr, hlo⟩ hP1 hD1 hS1 (by rw [rv_okN hsm (okS_L hok)]; exact hl) (by rw [List.length_append]; simp; omega) (by rw [kz_push]; simp; omega) h3 h4 ?_
  intro pc' ls' σ' H' locs' g1 g2 g3 g4 g5 g6
  rw [List.length_append] at g3
  exact hret pc' ls' σ' H' locs' g1 g2 (same_step hk.1 g3) g4 g5 g6
theorem x_aast {h n x : Nat} {i : Int32} (hd : decode μ.2.1 pc = .ok (.aastore, 1)) (ho : ks[h]? = some (5, n)) (hv : ks[x]? = some (0, 5)) (hin : vp_in i n) (k : Ev X d μ (pc + 1) L st ks (setR M h i.toNatClampNeg (some x)) r ks' M') : Ev X d μ pc L (.ref x :: .int i :: .ref h :: st) ks M r ks' M' := by
  intro l p e R s m args below meth c D dA σ A H locs cells slots mc ms ls Q C hP hD hS hl h1 h2 h3 h4 hret
  obtain ⟨hx, hb, hml, hown, hts, hr, hlk, hnm, hK, hA, hX, hfr, hlo⟩ := id C
  refine va_astq (r := ("NinetyPlayers$Laying", cT5, 6)) hx hb hK hP hD hS h 5 x 5 (wld_at ho) rfl (wld_at hv) rfl hin hd (fun H1 locs1 hP1 hD1 hS1 => ?_)
  have hwe : (wld dA σ ks M).set h (σ.1 h, Sum.inl (dA 5, n, .inr (.inr (.inr (.inr (va_up (fun j => (M.2.2 h j).map σ.1) i.toNatClampNeg (some (σ.1 x)))))))) = wld dA σ ks (setR M h i.toNatClampNeg (some x)) := by
    rw [← wld_set (M' := setR M h i.toNatClampNeg (some x)) ho (fun j hj => setR_ne hj)]
    congr 2
    show _ = cE dA σ (setR M h _ _) h (5, n)
    simp only [cE, setR_R]
    simp
    funext j
    by_cases hj : j = i.toNatClampNeg <;> simp [va_up, hj]
  rw [hwe] at hP1 hD1
  exact k l p e R s m args below meth c D dA σ A H1 locs1 cells slots mc ms ls Q C hP1 hD1 hS1 hl h1 h2 h3 h4 hret
theorem x_oinit {idx h : Nat} (hd : decode μ.2.1 pc = .ok (.invokespecial idx, 3)) (hw : Cond.methodLink μ.1.cls idx objectInit ∈ GW ∧ Cond.instanceMethod objectInit ∈ GW ∧ Cond.code objectInit ⟨#[0xb1]⟩ 1 none ∈ GW) (hst : (st.map fun v => v.category).sum ≤ 8) (k : Ev X (d + 1) μ (pc + 3) L st ks M r ks' M') : Ev X (d + 1) μ pc L (.ref h :: st) ks M r ks' M' := by
  intro l p e R s m args below meth c D dA σ A H locs cells slots mc ms ls Q C hP hD hS hl h1 h2 h3 h4 hret
  obtain ⟨hx, hb, hml, hown, hts, hr, hlk, hnm, hK, hA, hX, hfr, hlo⟩ := id C
  have hF : 2 * (F0 m pc ls (.ref (σ.1 h) :: st.map (rv σ))).monitorRoom + ((st.map (rv σ)).map fun v => v.category).sum + 12 ≤ R.locals := by
    rw [cat_sum hX.2.2.2.1.2]
    show 2 * 0 + _ + 12 ≤ _
    omega
  exact W.objInit hx hb hown (hts _ hw.1) (hts _ hw.2.1) (hts _ hw.2.2) rfl (hl.1.trans hml.symm) rfl hd (by omega) hF (k l p e R s m args below meth c D dA σ A H locs cells slots mc ms ls Q C hP hD hS hl h1 h2 h3 h4 hret)
/-- behind a call that makes cells -/
theorem x_afterA {r1 : Option Value} {ks1 : Kds} {M1 : Mem} (k : Ev X d μ (pc + 3) L (r1.toList ++ st) ks1 M1 r ks' M') (hok : okS ks.length ks1.length L st = true) (hk : ks.length ≤ ks1.length ∧ kz ks ≤ kz ks1 ∧ ks1.length ≤ ks'.length ∧ ks'.length ≤ 1000)
    {l : Launch} {p : Program} {e : Env} {R : Room} {s : State} {m : MethodId} {args : Array Value} {below : List Frame} {meth : Method} {c : Code} {D : va_G} {dA : Nat → ClassId} {σ : Sg} {A : Nat → Prop} {H : Heap} {locs : List Loc} {cells slots mc ms : Nat} {ls : Array Slot} {Q : State → Prop} {st0 : List Value} {a : Array Value}
    (C : Cx X d μ p R s m args meth c D dA σ A) (hD : va_D A (wld dA σ ks M)) (hS : va_S A s.heap H locs) (hl : lv_has ls μ.2.2.1 (lvr σ L)) (h1 : cells + ks'.length = mc + ks.length) (h2 : slots + kz ks' = ms + kz ks) (h3 : mc ≤ R.cells) (h4 : ms ≤ R.slots)
    (hret : ∀ (pc' : Nat) (ls' : Array Slot) (σ' : Sg) (H' : Heap) (locs' : List Loc), decode μ.2.1 pc' = .ok (rIns μ.2.2.2, 1) → rOK μ.2.2.2 r → Same σ σ' ks.length ks'.length → va_P D classes (wld dA σ' ks' M') H' → va_D A (wld dA σ' ks' M') → va_S A s.heap H' locs' →
      W p l e R s m args below meth c H' locs' mc ms Q (F0 m pc' ls' (r.toList.map (rv σ'))))
    (hrun : va_Run p l e R s m args below meth c H locs cells slots (ks1.length - ks.length) (kz ks1 - kz ks) (F0 m pc ls st0) (st.map (rv σ)) (QcM D dA σ ks M H.size r1 ks1 M1 a) (va_A (wld dA σ ks M) H.size)) :
    W p l e R s m args below meth c H locs cells slots Q (F0 m pc ls st0) := by
  obtain ⟨hx, hb, hml, hown, hts, hr, hlk, hnm, hK, hA, hX, hfr, hlo⟩ := id C
  have hFc : ∀ q, va_A (wld dA σ ks M) H.size q → A q := by
    intro q h
    rcases h with ⟨j, x, h⟩ | h
    · exact hD.2 j _ h
    · exact hA q (Nat.le_trans hS.1 h)
  intro T hT Xs
  obtain ⟨v, st₀, t, T', Lc, h0, X', hL, e1, e2, ⟨⟨σ', hsm, hv, hP1, hD1⟩, hz, hkp⟩, go⟩ := hrun T hT Xs
  have hv' : v = r1.map (rv σ') := Outcome.returned.inj hv
  subst hv'
  rw [h0] at hz hkp
  have hS1 : va_S A s.heap T'.heap (locs ++ Lc) := ⟨Nat.le_trans hS.1 (by rw [e1]; exact hz), fun q g1 g2 => by
      rw [e1, hkp q (Nat.lt_of_lt_of_le g1 hS.1) (fun z => g2 (hFc q z))]
      exact hS.2.1 q g1 g2, fun q hq => by
      rcases List.mem_append.mp hq with h | h
      · exact hS.2.2 q h
      · exact hFc _ (hL q h)⟩
  have es : ((r1.map (rv σ')).toList ++ st.map (rv σ)) = (r1.toList ++ st).map (rv σ') := by
    rw [List.map_append, rv_okL hsm (okS_st hok)]
    cases r1 <;> simp
  obtain ⟨t2, a1, b1⟩ := k l p e R s m args below meth c D dA σ' A T'.heap (locs ++ Lc) (cells + (ks1.length - ks.length)) (slots + (kz ks1 - kz ks)) mc ms ls Q ⟨hx, hb, hml, hown, hts, hr, hlk, hnm, hK, hA, hX.sig (fun j hj => hsm.1 j (by omega)) hsm.2, hfr, hlo⟩ (by rw [e1]; exact hP1) (hD1.weaken (fun _ q _ h => hFc q.1 h)) hS1 (by rw [rv_okN hsm (okS_L hok)]; exact hl) (by omega) (by omega) h3 h4 (fun pc' ls' σ'' H' locs' g1 g2 g3 g4 g5 g6 => hret pc' ls' σ'' H' locs' g1 g2 ⟨fun j hj => by
      rw [g3.1 j (by omega), hsm.1 j (by omega)], g3.2.trans hsm.2⟩ g4 g5 g6) T' rfl X'
  refine ⟨t2, go t2 ?_, b1⟩
  show Steps p.tables e below (T'.setTop (F0 m (pc + 3) ls ((r1.map (rv σ')).toList ++ st.map (rv σ)))) t2
  rw [es]
  exact a1
theorem x_invI {μ' : Mt} {n idx h : Nat} {av : List Value} {ks1 : Kds} {M1 : Mem} (hd : decode μ.2.1 pc = .ok (.invokespecial idx, 3)) (hm : mLI μ.1.cls idx μ' n) (hn : av.length = n) (hrt : μ'.2.2.2 = none) (hst : (st.map fun v => v.category).sum ≤ 8) (hsl : (lg_sl (.ref h :: av)).length ≤ μ'.2.2.1) (hok : okS ks.length ks1.length L st = true) (hk : ks.length ≤ ks1.length ∧ kz ks ≤ kz ks1 ∧ ks1.length ≤ ks'.length ∧ ks'.length ≤ 1000) (hk2 : kz ks1 ≤ kz ks')
    (hE : Ev X d μ' 0 (lv_args 0 (.ref h :: av)) [] ks M none ks1 M1) (k : Ev X (d + 1) μ (pc + 3) L st ks1 M1 r ks' M') : Ev X (d + 1) μ pc L (av.reverse ++ .ref h :: st) ks M r ks' M' := by
  intro l p e R s m args below meth c D dA σ A H locs cells slots mc ms ls Q C hP hD hS hl h1 h2 h3 h4 hret
  obtain ⟨hx, hb, hml, hown, hts, hr, hlk, hnm, hK, hA, hX, hfr, hlo⟩ := id C
  have hc0 := hX.2.2.2.1.2
  have hFc : ∀ q, va_A (wld dA σ ks M) H.size q → A q := by
    intro q h
    rcases h with ⟨j, x, h⟩ | h
    · exact hD.2 j _ h
    · exact hA q (Nat.le_trans hS.1 h)
  have hcs : cells + (ks1.length - ks.length) ≤ R.cells ∧ slots + (kz ks1 - kz ks) ≤ R.slots := by omega
  have hM := met_of hE hm.1.2.1 hsl hk.1 hk.2.1 l D dA σ H.size
  obtain ⟨⟨hy, hpn, hmx, hcd, hini⟩, hlk1, hins, hnm1⟩ := hm
  obtain ⟨y, by_, ml, rt⟩ := μ'
  obtain rfl : rt = none := hrt
  have cw := cwI (R := R) (Ts := GW) (own := μ.1.cls) (index := idx) (y := y) (bytes := by_) (maxL := ml) (ws := wsM (y, by_, ml, none)) (rm := { frames := d, cells := ks1.length - ks.length, slots := kz ks1 - kz ks, locals := 64 * d }) n hts (gw_good (gw_wsM hcd)) rfl rfl rfl (hts _ hini) (hts _ hlk1) (hts _ hins) hnm1 hy (room_ok (μ' := (y, by_, ml, none)) hfr hlo hmx)
  have hrun := va_runI (e := e) (below := below) (meth := meth) (locs := locs) (As := av.map (rv σ)) (rest := st.map (rv σ)) (b := σ.1 h) (g := F0 m pc ls ((av.reverse ++ .ref h :: st).map (rv σ))) ⟨hx, hb, hml, hown, hts⟩ hM cw ⟨pcM_blind, fun U hU hW => ⟨rfl, by rw [hU], by rw [hU]; exact hP, va_K.moved hW.alike hK, hD.weaken (fun _ _ _ _ => trivial), hX.call hS hU hW hFc⟩⟩ rfl (by rw [List.length_map]; exact hn) hl.1 (by simp [rv]) (lv_room (by rw [cat_sum hc0]; exact hst)) hd hcs
  exact x_afterA (r1 := none) k hok hk C hD hS hl h1 h2 h3 h4 hret hrun
theorem x_invIN {μ' : Mt} {n idx h : Nat} {av : List Value} {host : String} {ks1 : Kds} {M1 : Mem} (hd : decode μ.2.1 pc = .ok (.invokespecial idx, 3)) (hm : yOK μ' n ∧ Cond.instanceMethod μ'.1 ∈ GW ∧ μ'.1.name = "<init>") (hnl : Cond.methodLinkNest μ.1.cls idx μ'.1 host ∈ nestL) (hn : av.length = n) (hrt : μ'.2.2.2 = none) (hst : (st.map fun v => v.category).sum ≤ 8) (hsl : (lg_sl (.ref h :: av)).length ≤ μ'.2.2.1) (hok : okS ks.length ks1.length L st = true) (hk : ks.length ≤ ks1.length ∧ kz ks ≤ kz ks1 ∧ ks1.length ≤ ks'.length ∧ ks'.length ≤ 1000) (hk2 : kz ks1 ≤ kz ks')
    (hE : Ev X d μ' 0 (lv_args 0 (.ref h :: av)) [] ks M none ks1 M1) (k : Ev X (d + 1) μ (pc + 3) L st ks1 M1 r ks' M') : Ev X (d + 1) μ pc L (av.reverse ++ .ref h :: st) ks M r ks' M' := by
  intro l p e R s m args below meth c D dA σ A H locs cells slots mc ms ls Q C hP hD hS hl h1 h2 h3 h4 hret
  obtain ⟨hx, hb, hml, hown, hts, hr, hlk, hnm, hK, hA, hX, hfr, hlo⟩ := id C
  have hc0 := hX.2.2.2.1.2
  have hFc : ∀ q, va_A (wld dA σ ks M) H.size q → A q := by
    intro q h
    rcases h with ⟨j, x, h⟩ | h
    · exact hD.2 j _ h
    · exact hA q (Nat.le_trans hS.1 h)
  have hcs : cells + (ks1.length - ks.length) ≤ R.cells ∧ slots + (kz ks1 - kz ks) ≤ R.slots := by omega
  have hM := met_of hE hm.1.2.1 hsl hk.1 hk.2.1 l D dA σ H.size
  obtain ⟨⟨hy, hpn, hmx, hcd, hini⟩, hins, hnm1⟩ := hm
  obtain ⟨y, by_, ml, rt⟩ := μ'
  obtain rfl : rt = none := hrt
  have cw := va_cnB (R := R) (args := args) (s := s) (Ts := GW) (own := μ.1.cls) (index := idx) (host := host) (y := y) (bytes := by_) (maxL := ml) (ret := none) (ws := wsM (y, by_, ml, none)) (rm := { frames := d, cells := ks1.length - ks.length, slots := kz ks1 - kz ks, locals := 64 * d }) (mc := ks1.length - ks.length) (ms := kz ks1 - kz ks) n hts (gw_good (gw_wsM hcd)) rfl rfl rfl (hX.2.2.2.2.1 _ hnl) (hts _ hini) hy (room_ok (μ' := (y, by_, ml, none)) hfr hlo hmx)
  have hrun := va_runIN (e := e) (below := below) (meth := meth) (locs := locs) (As := av.map (rv σ)) (rest := st.map (rv σ)) (b := σ.1 h) (g := F0 m pc ls ((av.reverse ++ .ref h :: st).map (rv σ))) ⟨hx, hb, hml, hown, hts⟩ hM ⟨cw, hnm1, hts _ hins⟩ ⟨pcM_blind, fun U hU hW => ⟨rfl, by rw [hU], by rw [hU]; exact hP, va_K.moved hW.alike hK, hD.weaken (fun _ _ _ _ => trivial), hX.call hS hU hW hFc⟩⟩ rfl (by rw [List.length_map]; exact hn) hl.1 (by simp [rv]) (lv_room (by rw [cat_sum hc0]; exact hst)) hd hcs
  exact x_afterA (r1 := none) k hok hk C hD hS hl h1 h2 h3 h4 hret hrun
end XA
