/-! CALLS: a callee by its own judgement -/
def wsM (μ : Mt) : List Cond := Cond.code μ.1 μ.2.1 μ.2.2.1 μ.2.2.2 :: GW
theorem gw_good {ws : List Cond} (h : ∀ w ∈ ws, w ∈ GW) : GoodIn GW ws := fun w hw => ⟨h w hw, good_of_word (List.mem_filter.mp (h w hw)).2⟩
theorem gw_wsM {μ : Mt} (h : Cond.code μ.1 μ.2.1 μ.2.2.1 μ.2.2.2 ∈ GW) : ∀ w ∈ wsM μ, w ∈ GW := fun w hw => (List.mem_cons.mp hw).elim (fun e => e ▸ h) id
def PcM (X : Nat × (Nat → Int32)) (D : va_G) (dA : Nat → ClassId) (σ : Sg) (ks : Kds) (M : Mem) (av : List Value) (sz : Nat) : Array Value → State → Prop :=
  va_Pc (av.map (rv σ)) (fun U => U.heap.size = sz ∧ va_P D classes (wld dA σ ks M) U.heap ∧ va_K D classes (tyL dA) U ∧ va_D (fun _ => True) (wld dA σ ks M) ∧ Ext X σ (va_A (wld dA σ ks M) sz) U)
def QcM (D : va_G) (dA : Nat → ClassId) (σ : Sg) (ks : Kds) (M : Mem) (sz : Nat) (r : Option Value) (ks1 : Kds) (M1 : Mem) : Array Value → State → Outcome → State → Prop := fun _ st oc t =>
  (∃ σ' : Sg, Same σ σ' ks.length ks1.length ∧ oc = .returned (r.map (rv σ')) ∧ va_P D classes (wld dA σ' ks1 M1) t.heap ∧ va_D (va_A (wld dA σ ks M) sz) (wld dA σ' ks1 M1)) ∧ va_F (va_A (wld dA σ ks M) sz) st t
theorem Ext.same {X : Nat × (Nat → Int32)} {σ : Sg} {A : Nat → Prop} {s U : State} (h : Ext X σ A s) (hv : U.vm = s.vm) (hh : U.heap = s.heap) : Ext X σ A U := by
  obtain ⟨h1, ⟨h2, h3⟩, h4, ⟨h5, h5'⟩, h6, h7, h8, h9, h10⟩ := h
  have hal : s.vm.Alike U.vm := by rw [hv]; exact Vm.Alike.refl s.vm
  refine ⟨?_, ⟨vk_R.same hv h2, vk_R.same hv h3⟩, ?_, ⟨?_, h5'⟩, fun w hw => ?_, h7.moved hal, ?_, ?_, h10⟩
  · rw [hh]; exact h1.moved hal
  · rw [hh]; exact h4.moved hal
  · rw [hh]; exact h5.moved hal
  · obtain ⟨a, i, x, n, rfl⟩ := nest_all w hw
    exact va_Nw.same rfl hv.symm (h6 _ hw)
  · rw [hh]; exact h8.moved hal
  · rw [hh]; exact h9
theorem lvargs_map {σ : Sg} (hc : σ.2 = .null ∨ ∃ t, σ.2 = .ref t) : ∀ (av : List Value) (i : Nat), lv_args i (av.map (rv σ)) = lvr σ (lv_args i av)
  | [], _ => rfl
  | v :: vs, i => by
    show (i, rv σ v) :: lv_args (if (rv σ v).category = 2 then i + 2 else i + 1) (vs.map (rv σ)) = _
    rw [rv_cat hc, lvargs_map hc vs]
    rfl
theorem lgsl_len {σ : Sg} (hc : σ.2 = .null ∨ ∃ t, σ.2 = .ref t) : ∀ av : List Value, (lg_sl (av.map (rv σ))).length = (lg_sl av).length
  | [] => rfl
  | v :: vs => by
    have e1 : lg_sl ((v :: vs).map (rv σ)) = (if (rv σ v).category = 2 then [.val (rv σ v), .second] else [.val (rv σ v)]) ++ lg_sl (vs.map (rv σ)) := rfl
    have e2 : lg_sl (v :: vs) = (if v.category = 2 then [.val v, .second] else [.val v]) ++ lg_sl vs := rfl
    rw [e1, e2, List.length_append, List.length_append, lgsl_len hc vs, rv_cat hc]
    split <;> rfl
theorem cat_sum {σ : Sg} (hc : σ.2 = .null ∨ ∃ t, σ.2 = .ref t) (st : List Value) : ((st.map (rv σ)).map fun v => v.category).sum = (st.map fun v => v.category).sum := by
  rw [List.map_map]
  congr 1
  exact List.map_congr_left fun v _ => rv_cat hc v
theorem w_ret {p : Program} {l : Launch} {e : Env} {R : Room} {s : State} {m : MethodId} {args : Array Value} {below : List Frame} {meth : Method} {c : Code} {H : Heap} {locs : List Loc} {cells slots : Nat} {cc : ByteArray} {Qc : Array Value → State → Outcome → State → Prop} {free : Addr → Prop} {pc : Nat} {ls : Array Slot} {σ : Sg}
    {t : Option FieldType} {r : Option Value} (hx : p.tables.exec = Jvm.exec) (hb : c.code = cc) (hr : meth.sig.returnType = t) (hlk : meth.locks = false) (hd : decode cc pc = .ok (rIns t, 1)) (h0 : rOK t r)
    (hq : ∀ u : State, u.heap = H → s.WarmedH u.vm → Qc args s (.returned (r.map (rv σ))) u) (hf : ∀ q ∈ locs, free q.base) :
    W p l e R s m args below meth c H locs cells slots (MQ below Qc args s cells slots free) (F0 m pc ls (r.toList.map (rv σ))) := by
  cases t with
  | none =>
    have e0 : r = none := h0
    subst e0
    exact W.vret hx hb hr hq hf hd hlk
  | some ty =>
    cases ty with
    | long =>
      obtain ⟨v, rfl⟩ := h0
      exact W.lret hx hb hr hq hf hd hlk
    | object n =>
      obtain ⟨a, rfl⟩ := h0
      exact W.aret hx hb hr (Or.inl ⟨n, rfl⟩) (Or.inr ⟨_, rfl⟩) hq hf hd hlk
    | array n =>
      obtain ⟨a, rfl⟩ := h0
      exact W.aret hx hb hr (Or.inr ⟨n, rfl⟩) (Or.inr ⟨_, rfl⟩) hq hf hd hlk
    | float => exact h0.elim
    | double => exact h0.elim
    | _ =>
      obtain ⟨v, rfl, hn⟩ := h0
      exact W.zret hx hb hr hn hq hf hd hlk
theorem met_of {X : Nat × (Nat → Int32)} {d : Nat} {μ : Mt} {av : List Value} {ks : Kds} {M : Mem} {r : Option Value} {ks1 : Kds} {M1 : Mem} (hE : Ev X d μ 0 (lv_args 0 av) [] ks M r ks1 M1) (hpn : plainName μ.1.cls = true) (hav : (lg_sl av).length ≤ μ.2.2.1) (h1 : ks.length ≤ ks1.length) (h2 : kz ks ≤ kz ks1) (l : Launch) (D : va_G) (dA : Nat → ClassId) (σ : Sg) (sz : Nat) :
    Met l μ.1 (wsM μ) { frames := d, cells := ks1.length - ks.length, slots := kz ks1 - kz ks, locals := 64 * d } (PcM X D dA σ ks M av sz) (QcM D dA σ ks M sz r ks1 M1) (ks1.length - ks.length) (kz ks1 - kz ks) (va_A (wld dA σ ks M) sz) := by
  refine Met.ofW (cc := μ.2.1) (maxL := μ.2.2.1) (ret := μ.2.2.2) hpn rfl ?_
  intro p e s m args below meth c s₁ B hml hv
  obtain ⟨rfl, hsz, hP, hK, hD0, hX⟩ := hv
  have hx := B.exec
  have hb := B.bytes
  have hr := B.returns
  have hts := atoms_spec (ws := wsM μ) B.pre
  have hown : s.vm.findClass μ.1.cls = some m.cls := findClass_of_methodNamed B.named
  have hlocks := B.notSynchronized
  have hin : meth.name = μ.1.name := (name_of_methodNamed B.named B.method).1
  have hc := hX.2.2.2.1.2
  subst hsz
  have hD := hD0.self (sz := s.heap.size)
  have hl := lv_entry (av.map (rv σ)) (n := μ.2.2.1) (by rw [lgsl_len hc]; exact hav)
  rw [lvargs_map hc] at hl
  rw [lg_entry_eq]
  generalize (lg_sl (av.map (rv σ)) ++ List.replicate (μ.2.2.1 - (lg_sl (av.map (rv σ))).length) Slot.unset).toArray = ls at hl ⊢
  refine hE l p e _ s m _ below meth c D dA σ (va_A (wld dA σ ks M) s.heap.size) s.heap [] 0 0 (ks1.length - ks.length) (kz ks1 - kz ks) ls _ ⟨hx, hb, hml, hown, fun w hw => hts w (List.mem_cons_of_mem _ hw), hr, hlocks, fun z => hin.trans z, hK, fun q h => Or.inr h, hX, Nat.le_refl _, Nat.le_refl _⟩ hP hD va_S.rf hl (by omega) (by omega) (Nat.le_refl _) (Nat.le_refl _) ?_
  intro pc' ls' σ' H' locs' hd hr0 hsm hP' hD' hS'
  exact w_ret (free := va_A (wld dA σ ks M) s.heap.size) hx hb hr hlocks hd hr0 (fun t ht hw => ⟨⟨σ', hsm, rfl, by rw [ht]; exact hP', hD'⟩, hS'.F ht⟩) hS'.2.2
theorem pcM_blind {X : Nat × (Nat → Int32)} {D : va_G} {dA : Nat → ClassId} {σ : Sg} {ks : Kds} {M : Mem} {av : List Value} {sz : Nat} : FrameBlind (PcM X D dA σ ks M av sz) := by
  intro a U g mk h
  obtain ⟨h1, h2, h3, h4, h5, h6⟩ := h
  exact ⟨h1, h2, h3, va_K.moved (u := U) (U := U.calling g mk a) (Vm.Alike.refl U.vm) h4, h5, h6.same rfl rfl⟩
/-- behind a call -/
theorem x_after {X : Nat × (Nat → Int32)} {d : Nat} {μ : Mt} {pc : Nat} {L : List (Nat × Value)} {st : List Value} {ks : Kds} {M : Mem} {r : Option Value} {ks' : Kds} {M' : Mem} {r1 : Option Value} {M1 : Mem} (k : Ev X d μ (pc + 3) L (r1.toList ++ st) ks M1 r ks' M')
    {l : Launch} {p : Program} {e : Env} {R : Room} {s : State} {m : MethodId} {args : Array Value} {below : List Frame} {meth : Method} {c : Code} {D : va_G} {dA : Nat → ClassId} {σ : Sg} {A : Nat → Prop} {H : Heap} {locs : List Loc} {cells slots mc ms : Nat} {ls : Array Slot} {Q : State → Prop} {st0 : List Value} {a : Array Value}
    (C : Cx X d μ p R s m args meth c D dA σ A) (hP : va_P D classes (wld dA σ ks M) H) (hD : va_D A (wld dA σ ks M)) (hS : va_S A s.heap H locs) (hl : lv_has ls μ.2.2.1 (lvr σ L)) (h1 : cells + ks'.length = mc + ks.length) (h2 : slots + kz ks' = ms + kz ks) (h3 : mc ≤ R.cells) (h4 : ms ≤ R.slots)
    (hret : ∀ (pc' : Nat) (ls' : Array Slot) (σ' : Sg) (H' : Heap) (locs' : List Loc), decode μ.2.1 pc' = .ok (rIns μ.2.2.2, 1) → rOK μ.2.2.2 r → Same σ σ' ks.length ks'.length → va_P D classes (wld dA σ' ks' M') H' → va_D A (wld dA σ' ks' M') → va_S A s.heap H' locs' →
      W p l e R s m args below meth c H' locs' mc ms Q (F0 m pc' ls' (r.toList.map (rv σ'))))
    (hrun : va_Run p l e R s m args below meth c H locs cells slots 0 0 (F0 m pc ls st0) (st.map (rv σ)) (QcM D dA σ ks M H.size r1 ks M1 a) (va_A (wld dA σ ks M) H.size)) :
    W p l e R s m args below meth c H locs cells slots Q (F0 m pc ls st0) := by
  have hA := C.2.2.2.2.2.2.2.2.2.1
  have hFc : ∀ q, va_A (wld dA σ ks M) H.size q → A q := by
    intro q h
    rcases h with ⟨j, x, h⟩ | h
    · exact hD.2 j _ h
    · exact hA q (Nat.le_trans hS.1 h)
  intro T hT Xs
  obtain ⟨v, st₀, t, T', Lc, h0, X', hL, e1, e2, ⟨⟨σ', hsm, hv, hP1, hD1⟩, hz, hkp⟩, go⟩ := hrun T hT Xs
  have hσ : σ' = σ := hsm.eq
  subst hσ
  have hv' : v = r1.map (rv σ') := Outcome.returned.inj hv
  subst hv'
  rw [h0] at hz hkp
  have hS1 : va_S A s.heap T'.heap (locs ++ Lc) := ⟨Nat.le_trans hS.1 (by rw [e1]; exact hz), fun q g1 g2 => by
      rw [e1, hkp q (Nat.lt_of_lt_of_le g1 hS.1) (fun z => g2 (hFc q z))]
      exact hS.2.1 q g1 g2, fun q hq => by
      rcases List.mem_append.mp hq with h | h
      · exact hS.2.2 q h
      · exact hFc _ (hL q h)⟩
  have es : ((r1.map (rv σ')).toList ++ st.map (rv σ')) = (r1.toList ++ st).map (rv σ') := by cases r1 <;> simp
  obtain ⟨t2, a1, b1⟩ := k l p e R s m args below meth c D dA σ' A T'.heap (locs ++ Lc) cells slots mc ms ls Q C (by rw [e1]; exact hP1) (hD1.weaken (fun _ q _ h => hFc q.1 h)) hS1 hl h1 h2 h3 h4 hret T' rfl X'
  refine ⟨t2, go t2 ?_, b1⟩
  show Steps p.tables e below (T'.setTop (F0 m (pc + 3) ls ((r1.map (rv σ')).toList ++ st.map (rv σ')))) t2
  rw [es]
  exact a1
def yOK (μ : Mt) (n : Nat) : Prop := (μ.1.cls ≠ "java/lang/invoke/MethodHandle" ∧ μ.1.cls ≠ "java/lang/invoke/VarHandle" ∧ (parseMethodDescriptor μ.1.desc).map (fun d => d.parameters.length) = some n) ∧ plainName μ.1.cls = true ∧ μ.2.2.1 ≤ 40 ∧ Cond.code μ.1 μ.2.1 μ.2.2.1 μ.2.2.2 ∈ GW ∧ Cond.initialized μ.1.cls ∈ GW
def mLV (own : String) (idx : Nat) (μ : Mt) (n : Nat) : Prop := yOK μ n ∧ Cond.methodLink own idx μ.1 ∈ GW ∧ Cond.instanceMethod μ.1 ∈ GW ∧ Cond.selects μ.1.cls μ.1 μ.1 ∈ GW
def mLS (own : String) (idx : Nat) (μ : Mt) (n : Nat) : Prop := yOK μ n ∧ Cond.methodLink own idx μ.1 ∈ GW ∧ Cond.static μ.1 ∈ GW
def mLI (own : String) (idx : Nat) (μ : Mt) (n : Nat) : Prop := yOK μ n ∧ Cond.methodLink own idx μ.1 ∈ GW ∧ Cond.instanceMethod μ.1 ∈ GW ∧ μ.1.name = "<init>"
section XC
variable {X : Nat × (Nat → Int32)} {d : Nat} {μ : Mt} {pc : Nat} {L : List (Nat × Value)} {st : List Value} {ks : Kds} {M : Mem} {r : Option Value} {ks' : Kds} {M' : Mem}
theorem wsV_in {μ' : Mt} {n : Nat} {own : String} {idx : Nat} (h : mLV own idx μ' n) : ∀ w ∈ wsV own idx μ'.1.cls μ'.1 (wsM μ'), w ∈ GW := by
  obtain ⟨⟨-, -, -, h4, h5⟩, h6, h7, h8⟩ := h
  intro w hw
  simp only [wsV, List.mem_append, List.mem_cons, List.not_mem_nil, or_false] at hw
  rcases hw with (rfl | rfl | rfl | rfl) | hw
  · exact h6
  · exact h7
  · exact h8
  · exact h5
  · exact gw_wsM h4 w hw
theorem wsS_in {μ' : Mt} {n : Nat} {own : String} {idx : Nat} (h : mLS own idx μ' n) : ∀ w ∈ va_wsS own idx μ'.1 (wsM μ'), w ∈ GW := by
  obtain ⟨⟨-, -, -, h4, h5⟩, h6, h7⟩ := h
  intro w hw
  simp only [va_wsS, List.mem_append, List.mem_cons, List.not_mem_nil, or_false] at hw
  rcases hw with (rfl | rfl | rfl) | hw
  · exact h6
  · exact h7
  · exact h5
  · exact gw_wsM h4 w hw
/-- the room of a callee, one frame below -/
theorem room_ok {R : Room} {μ' : Mt} (hfr : d + 1 ≤ R.frames) (hlo : 64 * (d + 1) ≤ R.locals) (hm : μ'.2.2.1 ≤ 40) : d + 1 ≤ R.frames ∧ 8 + (μ'.2.2.1 + 11) + 64 * d ≤ R.locals := ⟨hfr, by omega⟩
theorem x_invV {μ' : Mt} {n idx h ci : Nat} {av : List Value} {r1 : Option Value} {M1 : Mem} (hd : decode μ.2.1 pc = .ok (.invokevirtual idx, 3)) (hm : mLV μ.1.cls idx μ' n) (hn : av.length = n) (ho : ks[h]? = some (0, ci)) (hc : (classes[ci]?).map (fun q => q.1) = some μ'.1.cls) (hst : (st.map fun v => v.category).sum ≤ 8) (hsl : (lg_sl (.ref h :: av)).length ≤ μ'.2.2.1) (hk : ks.length ≤ ks'.length ∧ kz ks ≤ kz ks')
    (hE : Ev X d μ' 0 (lv_args 0 (.ref h :: av)) [] ks M r1 ks M1) (k : Ev X (d + 1) μ (pc + 3) L (r1.toList ++ st) ks M1 r ks' M') : Ev X (d + 1) μ pc L (av.reverse ++ .ref h :: st) ks M r ks' M' := by
  intro l p e R s m args below meth c D dA σ A H locs cells slots mc ms ls Q C hP hD hS hl h1 h2 h3 h4 hret
  obtain ⟨hx, hb, hml, hown, hts, hr, hlk, hnm, hK, hA, hX, hfr, hlo⟩ := id C
  have hc0 := hX.2.2.2.1.2
  have hFc : ∀ q, va_A (wld dA σ ks M) H.size q → A q := by
    intro q h
    rcases h with ⟨j, x, h⟩ | h
    · exact hD.2 j _ h
    · exact hA q (Nat.le_trans hS.1 h)
  have hcs : cells + (ks.length - ks.length) ≤ R.cells ∧ slots + (kz ks - kz ks) ≤ R.slots := by omega
  have hM := met_of hE hm.1.2.1 hsl (Nat.le_refl _) (Nat.le_refl _) l D dA σ H.size
  obtain ⟨q, hq, hqc⟩ : ∃ q : vw_C, classes[ci]? = some q ∧ q.1 = μ'.1.cls := by
    cases hz : classes[ci]? with
    | none => rw [hz] at hc; cases hc
    | some q => rw [hz] at hc; exact ⟨q, rfl, Option.some.inj hc⟩
  have hrec := va_recv hK hP hq (wld_at ho)
  rw [hqc] at hrec
  have cw := cwV (R := R) (Ts := GW) (own := μ.1.cls) (index := idx) (C := μ'.1.cls) (y := μ'.1) (bytes := μ'.2.1) (maxL := μ'.2.2.1) (ret := μ'.2.2.2) (ws := wsM μ') (rm := { frames := d, cells := ks.length - ks.length, slots := kz ks - kz ks, locals := 64 * d }) n hts (gw_good (wsV_in hm)) rfl rfl rfl ⟨rfl, hm.1.1⟩ (room_ok hfr hlo hm.1.2.2.1)
  have hrun := va_runV (e := e) (below := below) (meth := meth) (locs := locs) (As := av.map (rv σ)) (rest := st.map (rv σ)) (b := σ.1 h) (g := F0 m pc ls ((av.reverse ++ .ref h :: st).map (rv σ))) ⟨hx, hb, hml, hown, hts⟩ hM cw ⟨pcM_blind, hrec, fun U hU hW => ⟨rfl, by rw [hU], by rw [hU]; exact hP, va_K.moved hW.alike hK, hD.weaken (fun _ _ _ _ => trivial), hX.call hS hU hW hFc⟩⟩ rfl (by rw [List.length_map]; exact hn) hl.1 (by simp [rv]) (lv_room (by rw [cat_sum hc0]; exact hst)) hd hcs
  rw [Nat.sub_self, Nat.sub_self] at hrun
  exact x_after k C hP hD hS hl h1 h2 h3 h4 hret hrun
theorem x_invVS {μ' : Mt} {n idx h i : Nat} {av : List Value} {r1 : Option Value} {M1 : Mem} (hd : decode μ.2.1 pc = .ok (.invokevirtual idx, 3)) (hm : mLV μ.1.cls idx μ' n) (hn : av.length = n) (hi : i < 2) (hh : h = 1000 + 2 * i) (hcl : μ'.1.cls = "java/lang/String") (hst : (st.map fun v => v.category).sum ≤ 8) (hsl : (lg_sl (.ref h :: av)).length ≤ μ'.2.2.1) (hk : ks.length ≤ ks'.length ∧ kz ks ≤ kz ks')
    (hE : Ev X d μ' 0 (lv_args 0 (.ref h :: av)) [] ks M r1 ks M1) (k : Ev X (d + 1) μ (pc + 3) L (r1.toList ++ st) ks M1 r ks' M') : Ev X (d + 1) μ pc L (av.reverse ++ .ref h :: st) ks M r ks' M' := by
  intro l p e R s m args below meth c D dA σ A H locs cells slots mc ms ls Q C hP hD hS hl h1 h2 h3 h4 hret
  obtain ⟨hx, hb, hml, hown, hts, hr, hlk, hnm, hK, hA, hX, hfr, hlo⟩ := id C
  have hc0 := hX.2.2.2.1.2
  have hFc : ∀ q, va_A (wld dA σ ks M) H.size q → A q := by
    intro q h
    rcases h with ⟨j, x, h⟩ | h
    · exact hD.2 j _ h
    · exact hA q (Nat.le_trans hS.1 h)
  have hcs : cells + (ks.length - ks.length) ≤ R.cells ∧ slots + (kz ks - kz ks) ≤ R.slots := by omega
  have hM := met_of hE hm.1.2.1 hsl (Nat.le_refl _) (Nat.le_refl _) l D dA σ H.size
  have hrec := vk_recv hX.1 hi hS
  rw [← hcl] at hrec
  have hrec : ∃ cell : Cell, H[σ.1 h]? = some cell ∧ cell.vm.isStatics = false ∧ s.vm.findClass μ'.1.cls = some cell.cls := by rw [hh]; exact hrec
  have cw := cwV (R := R) (Ts := GW) (own := μ.1.cls) (index := idx) (C := μ'.1.cls) (y := μ'.1) (bytes := μ'.2.1) (maxL := μ'.2.2.1) (ret := μ'.2.2.2) (ws := wsM μ') (rm := { frames := d, cells := ks.length - ks.length, slots := kz ks - kz ks, locals := 64 * d }) n hts (gw_good (wsV_in hm)) rfl rfl rfl ⟨rfl, hm.1.1⟩ (room_ok hfr hlo hm.1.2.2.1)
  have hrun := va_runV (e := e) (below := below) (meth := meth) (locs := locs) (As := av.map (rv σ)) (rest := st.map (rv σ)) (b := σ.1 h) (g := F0 m pc ls ((av.reverse ++ .ref h :: st).map (rv σ))) ⟨hx, hb, hml, hown, hts⟩ hM cw ⟨pcM_blind, hrec, fun U hU hW => ⟨rfl, by rw [hU], by rw [hU]; exact hP, va_K.moved hW.alike hK, hD.weaken (fun _ _ _ _ => trivial), hX.call hS hU hW hFc⟩⟩ rfl (by rw [List.length_map]; exact hn) hl.1 (by simp [rv]) (lv_room (by rw [cat_sum hc0]; exact hst)) hd hcs
  rw [Nat.sub_self, Nat.sub_self] at hrun
  exact x_after k C hP hD hS hl h1 h2 h3 h4 hret hrun
theorem x_invS {μ' : Mt} {n idx : Nat} {av : List Value} {r1 : Option Value} {M1 : Mem} (hd : decode μ.2.1 pc = .ok (.invokestatic idx, 3)) (hm : mLS μ.1.cls idx μ' n) (hn : av.length = n) (hst : (st.map fun v => v.category).sum ≤ 8) (hsl : (lg_sl av).length ≤ μ'.2.2.1) (hk : ks.length ≤ ks'.length ∧ kz ks ≤ kz ks')
    (hE : Ev X d μ' 0 (lv_args 0 av) [] ks M r1 ks M1) (k : Ev X (d + 1) μ (pc + 3) L (r1.toList ++ st) ks M1 r ks' M') : Ev X (d + 1) μ pc L (av.reverse ++ st) ks M r ks' M' := by
  intro l p e R s m args below meth c D dA σ A H locs cells slots mc ms ls Q C hP hD hS hl h1 h2 h3 h4 hret
  obtain ⟨hx, hb, hml, hown, hts, hr, hlk, hnm, hK, hA, hX, hfr, hlo⟩ := id C
  have hc0 := hX.2.2.2.1.2
  have hFc : ∀ q, va_A (wld dA σ ks M) H.size q → A q := by
    intro q h
    rcases h with ⟨j, x, h⟩ | h
    · exact hD.2 j _ h
    · exact hA q (Nat.le_trans hS.1 h)
  have hcs : cells + (ks.length - ks.length) ≤ R.cells ∧ slots + (kz ks - kz ks) ≤ R.slots := by omega
  have hM := met_of hE hm.1.2.1 hsl (Nat.le_refl _) (Nat.le_refl _) l D dA σ H.size
  have cw := va_cwS (R := R) (Ts := GW) (own := μ.1.cls) (index := idx) (y := μ'.1) (bytes := μ'.2.1) (maxL := μ'.2.2.1) (ret := μ'.2.2.2) (ws := wsM μ') (rm := { frames := d, cells := ks.length - ks.length, slots := kz ks - kz ks, locals := 64 * d }) n hts (gw_good (wsS_in hm)) rfl rfl rfl hm.1.1 (room_ok hfr hlo hm.1.2.2.1)
  have hrun := va_runS (e := e) (below := below) (meth := meth) (locs := locs) (As := av.map (rv σ)) (rest := st.map (rv σ)) (g := F0 m pc ls ((av.reverse ++ st).map (rv σ))) ⟨hx, hb, hml, hown, hts⟩ hM cw ⟨pcM_blind, fun U hU hW => ⟨rfl, by rw [hU], by rw [hU]; exact hP, va_K.moved hW.alike hK, hD.weaken (fun _ _ _ _ => trivial), hX.call hS hU hW hFc⟩⟩ rfl (by rw [List.length_map]; exact hn) hl.1 (by simp) (lv_room (by rw [cat_sum hc0]; exact hst)) hd hcs
  rw [Nat.sub_self, Nat.sub_self] at hrun
  exact x_after k C hP hD hS hl h1 h2 h3 h4 hret hrun
theorem x_invSN {μ' : Mt} {n idx : Nat} {av : List Value} {r1 : Option Value} {M1 : Mem} (hd : decode μ.2.1 pc = .ok (.invokestatic idx, 3)) {host : String} (hm : yOK μ' n ∧ Cond.static μ'.1 ∈ GW) (hnl : Cond.methodLinkNest μ.1.cls idx μ'.1 host ∈ nestL) (hn : av.length = n) (hst : (st.map fun v => v.category).sum ≤ 8) (hsl : (lg_sl av).length ≤ μ'.2.2.1) (hk : ks.length ≤ ks'.length ∧ kz ks ≤ kz ks')
    (hE : Ev X d μ' 0 (lv_args 0 av) [] ks M r1 ks M1) (k : Ev X (d + 1) μ (pc + 3) L (r1.toList ++ st) ks M1 r ks' M') : Ev X (d + 1) μ pc L (av.reverse ++ st) ks M r ks' M' := by
  intro l p e R s m args below meth c D dA σ A H locs cells slots mc ms ls Q C hP hD hS hl h1 h2 h3 h4 hret
  obtain ⟨hx, hb, hml, hown, hts, hr, hlk, hnm, hK, hA, hX, hfr, hlo⟩ := id C
  have hc0 := hX.2.2.2.1.2
  have hFc : ∀ q, va_A (wld dA σ ks M) H.size q → A q := by
    intro q h
    rcases h with ⟨j, x, h⟩ | h
    · exact hD.2 j _ h
    · exact hA q (Nat.le_trans hS.1 h)
  have hcs : cells + (ks.length - ks.length) ≤ R.cells ∧ slots + (kz ks - kz ks) ≤ R.slots := by omega
  have hM := met_of hE hm.1.2.1 hsl (Nat.le_refl _) (Nat.le_refl _) l D dA σ H.size
  have cw := va_cnB (R := R) (args := args) (s := s) (Ts := GW) (own := μ.1.cls) (index := idx) (host := host) (y := μ'.1) (bytes := μ'.2.1) (maxL := μ'.2.2.1) (ret := μ'.2.2.2) (ws := wsM μ') (rm := { frames := d, cells := ks.length - ks.length, slots := kz ks - kz ks, locals := 64 * d }) (mc := ks.length - ks.length) (ms := kz ks - kz ks) n hts (gw_good (gw_wsM hm.1.2.2.2.1)) rfl rfl rfl (hX.2.2.2.2.1 _ hnl) (hts _ hm.1.2.2.2.2) hm.1.1 (room_ok hfr hlo hm.1.2.2.1)
  have hrun := va_runSN (e := e) (below := below) (meth := meth) (locs := locs) (As := av.map (rv σ)) (rest := st.map (rv σ)) (g := F0 m pc ls ((av.reverse ++ st).map (rv σ))) ⟨hx, hb, hml, hown, hts⟩ hM ⟨cw, hts _ hm.2, trivial⟩ ⟨pcM_blind, fun U hU hW => ⟨rfl, by rw [hU], by rw [hU]; exact hP, va_K.moved hW.alike hK, hD.weaken (fun _ _ _ _ => trivial), hX.call hS hU hW hFc⟩⟩ rfl (by rw [List.length_map]; exact hn) hl.1 (by simp) (lv_room (by rw [cat_sum hc0]; exact hst)) hd hcs
  rw [Nat.sub_self, Nat.sub_self] at hrun
  exact x_after k C hP hD hS hl h1 h2 h3 h4 hret hrun
theorem x_copy {idx h h' n n' : Nat} {sp dp z : Int32} (hd : decode μ.2.1 pc = .ok (.invokestatic idx, 3)) (hw : Cond.methodLink μ.1.cls idx arraycopyName ∈ GW ∧ Cond.native arraycopyName ∈ GW ∧ Cond.static arraycopyName ∈ GW ∧ Cond.initialized "java/lang/System" ∈ GW) (ho : ks[h]? = some (1, n)) (ho' : ks[h']? = some (1, n')) (g1 : ¬ sp < 0) (g2 : ¬ dp < 0) (g3 : ¬ z < 0) (g4 : sp.toNatClampNeg + z.toNatClampNeg ≤ n) (g5 : dp.toNatClampNeg + z.toNatClampNeg ≤ n') (hst : (st.map fun v => v.category).sum ≤ 8)
    (k : Ev X (d + 1) μ (pc + 3) L st ks (setA M h' (va_cpy (M.1 h) (M.1 h') sp.toNatClampNeg dp.toNatClampNeg z.toNatClampNeg)) r ks' M') : Ev X (d + 1) μ pc L (.int z :: .int dp :: .ref h' :: .int sp :: .ref h :: st) ks M r ks' M' := by
  intro l p e R s m args below meth c D dA σ A H locs cells slots mc ms ls Q C hP hD hS hl h1 h2 h3 h4 hret
  obtain ⟨hx, hb, hml, hown, hts, hr, hlk, hnm, hK, hA, hX, hfr, hlo⟩ := id C
  have hc0 := hX.2.2.2.1.2
  have hF1 : 1 ≤ R.frames := by omega
  have hnw : nativeFrameWords "java/lang/System" "arraycopy" 5 ≤ 40 := by decide +kernel
  have hF2 : ((st.map (rv σ)).map fun v => v.category).sum + (nativeFrameWords "java/lang/System" "arraycopy" 5 + 11) ≤ R.locals := by
    rw [cat_sum hc0]
    omega
  refine va_copyi hx hb (hml.trans hl.1.symm) hown (hts _ hw.1) (hts _ hw.2.1) (hts _ hw.2.2.1) (hts _ hw.2.2.2) hK hP hD hS h h' 1 1 (wld_at ho) (wld_at ho') rfl rfl rfl g1 g2 g3 g4 g5 (fun i _ => rfl) hF1 hF2 hd (fun H1 locs1 hP1 hD1 hS1 => ?_)
  have hwe : (wld dA σ ks M).set h' (σ.1 h', Sum.inl (dA 1, n', .inl (va_cpy (M.1 h) (M.1 h') sp.toNatClampNeg dp.toNatClampNeg z.toNatClampNeg))) = wld dA σ ks (setA M h' (va_cpy (M.1 h) (M.1 h') sp.toNatClampNeg dp.toNatClampNeg z.toNatClampNeg)) := by
    rw [← wld_set (M' := setA M h' (va_cpy (M.1 h) (M.1 h') sp.toNatClampNeg dp.toNatClampNeg z.toNatClampNeg)) ho' (fun j hj => setA_ne hj)]
    congr 2
    show _ = cE dA σ (setA M h' _) h' (1, n')
    simp [cE, setA]
  rw [hwe] at hP1 hD1
  exact k l p e R s m args below meth c D dA σ A H1 locs1 cells slots mc ms ls Q C hP1 hD1 hS1 hl h1 h2 h3 h4 hret
/-- the outside: texts, a static -/
theorem x_ldcW (hd : decode μ.2.1 pc = .ok (.ldc 11, 2)) (ho : μ.1.cls = "NinetyPlayers$Word") (k : Ev X d μ (pc + 2) L (.ref 1000 :: st) ks M r ks' M') : Ev X d μ pc L st ks M r ks' M' := by
  intro l p e R s m args below meth c D dA σ A H locs cells slots mc ms ls Q C hP hD hS hl h1 h2 h3 h4 hret
  obtain ⟨hx, hb, hml, hown, hts, hr, hlk, hnm, hK, hA, hX, hfr, hlo⟩ := id C
  exact va_ldcS hx hb hown (by rw [ho]; exact hX.2.1.1) hd (k l p e R s m args below meth c D dA σ A H locs cells slots mc ms ls Q C hP hD hS hl h1 h2 h3 h4 hret)
theorem x_ldcT (hd : decode μ.2.1 pc = .ok (.ldc 51, 2)) (ho : μ.1.cls = "NinetyPlayers$Tape") (k : Ev X d μ (pc + 2) L (.ref 1002 :: st) ks M r ks' M') : Ev X d μ pc L st ks M r ks' M' := by
  intro l p e R s m args below meth c D dA σ A H locs cells slots mc ms ls Q C hP hD hS hl h1 h2 h3 h4 hret
  obtain ⟨hx, hb, hml, hown, hts, hr, hlk, hnm, hK, hA, hX, hfr, hlo⟩ := id C
  exact va_ldcS hx hb hown (by rw [ho]; exact hX.2.1.2) hd (k l p e R s m args below meth c D dA σ A H locs cells slots mc ms ls Q C hP hD hS hl h1 h2 h3 h4 hret)
theorem x_gsCS {idx : Nat} (hd : decode μ.2.1 pc = .ok (.getstatic idx, 3)) (hw : Cond.fieldLink μ.1.cls idx "java/lang/String" "COMPACT_STRINGS" "Z" ∈ GW) (k : Ev X d μ (pc + 3) L (.int 1 :: st) ks M r ks' M') : Ev X d μ pc L st ks M r ks' M' := by
  intro l p e R s m args below meth c D dA σ A H locs cells slots mc ms ls Q C hP hD hS hl h1 h2 h3 h4 hret
  obtain ⟨hx, hb, hml, hown, hts, hr, hlk, hnm, hK, hA, hX, hfr, hlo⟩ := id C
  exact va_gets hx hb hX.2.2.1 hS hown (hts _ hw) (fun _ h => h) hd (k l p e R s m args below meth c D dA σ A H locs cells slots mc ms ls Q C hP hD hS hl h1 h2 h3 h4 hret)
theorem x_gsFM {idx : Nat} (hd : decode μ.2.1 pc = .ok (.getstatic idx, 3)) (hw : Cond.fieldLink μ.1.cls idx "jdk/internal/util/Preconditions" "SIOOBE_FORMATTER" "Ljava/util/function/BiFunction;" ∈ GW) (k : Ev X d μ (pc + 3) L (.retAddr 0 :: st) ks M r ks' M') : Ev X d μ pc L st ks M r ks' M' := by
  intro l p e R s m args below meth c D dA σ A H locs cells slots mc ms ls Q C hP hD hS hl h1 h2 h3 h4 hret
  obtain ⟨hx, hb, hml, hown, hts, hr, hlk, hnm, hK, hA, hX, hfr, hlo⟩ := id C
  exact va_gets hx hb hX.2.2.2.1.1 hS hown (hts _ hw) (fun _ h => h) hd (k l p e R s m args below meth c D dA σ A H locs cells slots mc ms ls Q C hP hD hS hl h1 h2 h3 h4 hret)
theorem x_getSV {idx i : Nat} (hd : decode μ.2.1 pc = .ok (.getfield idx, 3)) (hi : i < 2) (hw : Cond.fieldLink μ.1.cls idx "java/lang/String" "value" "[B" ∈ GW) (k : Ev X d μ (pc + 3) L (.ref (1001 + 2 * i) :: st) ks M r ks' M') : Ev X d μ pc L (.ref (1000 + 2 * i) :: st) ks M r ks' M' := by
  intro l p e R s m args below meth c D dA σ A H locs cells slots mc ms ls Q C hP hD hS hl h1 h2 h3 h4 hret
  obtain ⟨hx, hb, hml, hown, hts, hr, hlk, hnm, hK, hA, hX, hfr, hlo⟩ := id C
  exact vk_getf hx hb (hX.1.1 i hi).2.2.1 hS hown (hts _ hw) (fun _ h => h) hd (k l p e R s m args below meth c D dA σ A H locs cells slots mc ms ls Q C hP hD hS hl h1 h2 h3 h4 hret)
theorem x_getSC {idx i : Nat} (hd : decode μ.2.1 pc = .ok (.getfield idx, 3)) (hi : i < 2) (hw : Cond.fieldLink μ.1.cls idx "java/lang/String" "coder" "B" ∈ GW) (k : Ev X d μ (pc + 3) L (.int 0 :: st) ks M r ks' M') : Ev X d μ pc L (.ref (1000 + 2 * i) :: st) ks M r ks' M' := by
  intro l p e R s m args below meth c D dA σ A H locs cells slots mc ms ls Q C hP hD hS hl h1 h2 h3 h4 hret
  obtain ⟨hx, hb, hml, hown, hts, hr, hlk, hnm, hK, hA, hX, hfr, hlo⟩ := id C
  exact vk_getf hx hb (hX.1.1 i hi).2.1 hS hown (hts _ hw) (fun _ h => h) hd (k l p e R s m args below meth c D dA σ A H locs cells slots mc ms ls Q C hP hD hS hl h1 h2 h3 h4 hret)
theorem x_baldS {i : Nat} {j : Int32} (hd : decode μ.2.1 pc = .ok (.baload, 1)) (hi : i < 2) (hin : vp_in j (lenS.getD i 0)) (k : Ev X d μ (pc + 1) L (.int ((bytS.getD i []).getD j.toNatClampNeg 0) :: st) ks M r ks' M') : Ev X d μ pc L (.int j :: .ref (1001 + 2 * i) :: st) ks M r ks' M' := by
  intro l p e R s m args below meth c D dA σ A H locs cells slots mc ms ls Q C hP hD hS hl h1 h2 h3 h4 hret
  obtain ⟨hx, hb, hml, hown, hts, hr, hlk, hnm, hK, hA, hX, hfr, hlo⟩ := id C
  exact va_tb hx hb (hX.1.1 i hi).2.2.2 hS hin rfl hd (k l p e R s m args below meth c D dA σ A H locs cells slots mc ms ls Q C hP hD hS hl h1 h2 h3 h4 hret)
theorem x_alenS {i : Nat} (hd : decode μ.2.1 pc = .ok (.arraylength, 1)) (hi : i < 2) (k : Ev X d μ (pc + 1) L (.int (Int32.ofNat (lenS.getD i 0)) :: st) ks M r ks' M') : Ev X d μ pc L (.ref (1001 + 2 * i) :: st) ks M r ks' M' := by
  intro l p e R s m args below meth c D dA σ A H locs cells slots mc ms ls Q C hP hD hS hl h1 h2 h3 h4 hret
  obtain ⟨hx, hb, hml, hown, hts, hr, hlk, hnm, hK, hA, hX, hfr, hlo⟩ := id C
  exact va_tlen hx hb (hX.1.1 i hi).2.2.2 hS rfl hd (k l p e R s m args below meth c D dA σ A H locs cells slots mc ms ls Q C hP hD hS hl h1 h2 h3 h4 hret)
end XC
