/-! ROWS of fields and arrays -/
def isI (t : FieldType) : Bool := match t with
  | .int => true
  | .boolean => true
  | .byte => true
  | .char => true
  | .short => true
  | _ => false
def isRf (t : FieldType) : Bool := match t with
  | .object _ => true
  | .array _ => true
  | _ => false
theorem fvT_I {t : FieldType} (h : isI t = true) (σ : Sg) (M : Mem) (a k : Nat) : fvT t σ M a k = .int (M.1 a k) := by cases t <;> first | rfl | simp [isI] at h
theorem fvT_R {t : FieldType} (h : isRf t = true) (σ : Sg) (M : Mem) (a k : Nat) : fvT t σ M a k = va_rf ((M.2.2 a k).map σ.1) := by cases t <;> first | rfl | simp [isRf] at h
def cOK (ci : Nat) (C : String) (T : u_T) (N : Nat) : Prop := classes[ci]? = some (C, T, N) ∧ N = nF ci ∧ (∀ w ∈ u_ws C T N, w ∈ GW) ∧ (∀ k, k < N → parseFieldDescriptor (T k).2.2.1 = some (tyT ci k)) ∧ (∀ a, a < N → ∀ b, b < N → a ≠ b → (T a).2.1 ≠ (T b).2.1) ∧ ∀ k, k < N → (T k).1 = C
def fL (own : String) (idx ci k : Nat) : Prop := ∃ (C : String) (T : u_T) (N : Nat), cOK ci C T N ∧ k < N ∧ Cond.fieldLink own idx C (T k).2.1 (T k).2.2.1 ∈ GW
def fin (ci k : Nat) : Bool := match classes[ci]? with
  | some q => (q.2.1 k).2.2.2
  | none => false
theorem setI_I (M : Mem) (h k : Nat) (x : Int32) : (setI M h k x).1 h = upd (M.1 h) k x := by simp [setI]
theorem setI_ne {M : Mem} {h k j : Nat} {x : Int32} (hj : j ≠ h) : (setI M h k x).1 j = M.1 j ∧ (setI M h k x).2.1 j = M.2.1 j ∧ (setI M h k x).2.2 j = M.2.2 j := by simp [setI, hj]
theorem setL_L (M : Mem) (h k : Nat) (x : Int64) : (setL M h k x).2.1 h = vp_updL (M.2.1 h) k x := by simp [setL]
theorem setL_ne {M : Mem} {h k j : Nat} {x : Int64} (hj : j ≠ h) : (setL M h k x).1 j = M.1 j ∧ (setL M h k x).2.1 j = M.2.1 j ∧ (setL M h k x).2.2 j = M.2.2 j := by simp [setL, hj]
theorem setR_R (M : Mem) (h k : Nat) (x : Option Nat) : (setR M h k x).2.2 h = va_up (M.2.2 h) k x := by simp [setR]
theorem setR_ne {M : Mem} {h k j : Nat} {x : Option Nat} (hj : j ≠ h) : (setR M h k x).1 j = M.1 j ∧ (setR M h k x).2.1 j = M.2.1 j ∧ (setR M h k x).2.2 j = M.2.2 j := by simp [setR, hj]
theorem setA_ne {M : Mem} {h j : Nat} {f : Nat → Int32} (hj : j ≠ h) : (setA M h f).1 j = M.1 j ∧ (setA M h f).2.1 j = M.2.1 j ∧ (setA M h f).2.2 j = M.2.2 j := by simp [setA, hj]
section XF
variable {X : Nat × (Nat → Int32)} {d : Nat} {μ : Mt} {pc : Nat} {L : List (Nat × Value)} {st : List Value} {ks : Kds} {M : Mem} {r : Option Value} {ks' : Kds} {M' : Mem} {h idx ci f : Nat}
theorem x_getI (hd : decode μ.2.1 pc = .ok (.getfield idx, 3)) (hf : fL μ.1.cls idx ci f) (ht : isI (tyT ci f) = true) (ho : ks[h]? = some (0, ci)) (k : Ev X d μ (pc + 3) L (.int (M.1 h f) :: st) ks M r ks' M') : Ev X d μ pc L (.ref h :: st) ks M r ks' M' := by
  intro l p e R s m args below meth c D dA σ A H locs cells slots mc ms ls Q C hP hD hS hl h1 h2 h3 h4 hret
  obtain ⟨hx, hb, hml, hown, hts, hr, hlk, hnm, hK, hA, hX, hfr, hlo⟩ := id C
  obtain ⟨CC, TT, NN, ⟨q1, q2, q3, q4, q5, q6⟩, hk, hlw⟩ := hf
  subst q2
  refine va_get (C := CC) (T := TT) (N := nF ci) (ref := CC) (ci := ci) hx hb hts q3 hown hK hP h (wld_at ho) q1 f hk (hts _ hlw) (fun x hx => by rw [q6 f hk] at hx; exact hx) (fld_get hk) hd ?_
  rw [fvT_I ht]
  exact (k l p e R s m args below meth c D dA σ A H locs cells slots mc ms ls Q C hP hD hS hl h1 h2 h3 h4 hret)
theorem x_getL (hd : decode μ.2.1 pc = .ok (.getfield idx, 3)) (hf : fL μ.1.cls idx ci f) (ht : tyT ci f = .long) (ho : ks[h]? = some (0, ci)) (k : Ev X d μ (pc + 3) L (.long (M.2.1 h f) :: st) ks M r ks' M') : Ev X d μ pc L (.ref h :: st) ks M r ks' M' := by
  intro l p e R s m args below meth c D dA σ A H locs cells slots mc ms ls Q C hP hD hS hl h1 h2 h3 h4 hret
  obtain ⟨hx, hb, hml, hown, hts, hr, hlk, hnm, hK, hA, hX, hfr, hlo⟩ := id C
  obtain ⟨CC, TT, NN, ⟨q1, q2, q3, q4, q5, q6⟩, hk, hlw⟩ := hf
  subst q2
  refine va_get (C := CC) (T := TT) (N := nF ci) (ref := CC) (ci := ci) hx hb hts q3 hown hK hP h (wld_at ho) q1 f hk (hts _ hlw) (fun x hx => by rw [q6 f hk] at hx; exact hx) (fld_get hk) hd ?_
  rw [ht]
  exact (k l p e R s m args below meth c D dA σ A H locs cells slots mc ms ls Q C hP hD hS hl h1 h2 h3 h4 hret)
theorem x_getR {a : Nat} (hd : decode μ.2.1 pc = .ok (.getfield idx, 3)) (hf : fL μ.1.cls idx ci f) (ht : isRf (tyT ci f) = true) (ho : ks[h]? = some (0, ci)) (hm : M.2.2 h f = some a) (k : Ev X d μ (pc + 3) L (.ref a :: st) ks M r ks' M') : Ev X d μ pc L (.ref h :: st) ks M r ks' M' := by
  intro l p e R s m args below meth c D dA σ A H locs cells slots mc ms ls Q C hP hD hS hl h1 h2 h3 h4 hret
  obtain ⟨hx, hb, hml, hown, hts, hr, hlk, hnm, hK, hA, hX, hfr, hlo⟩ := id C
  obtain ⟨CC, TT, NN, ⟨q1, q2, q3, q4, q5, q6⟩, hk, hlw⟩ := hf
  subst q2
  refine va_get (C := CC) (T := TT) (N := nF ci) (ref := CC) (ci := ci) hx hb hts q3 hown hK hP h (wld_at ho) q1 f hk (hts _ hlw) (fun x hx => by rw [q6 f hk] at hx; exact hx) (fld_get hk) hd ?_
  rw [fvT_R ht, hm]
  exact (k l p e R s m args below meth c D dA σ A H locs cells slots mc ms ls Q C hP hD hS hl h1 h2 h3 h4 hret)
theorem x_putI {x : Int32} (hd : decode μ.2.1 pc = .ok (.putfield idx, 3)) (hf : fL μ.1.cls idx ci f) (ht : isI (tyT ci f) = true) (hnf : fin ci f = false) (ho : ks[h]? = some (0, ci)) (hn : narrow (tyT ci f) (.int x) = .int x) (hft : fits (tyT ci f) (.int x) = true) (k : Ev X d μ (pc + 3) L st ks (setI M h f x) r ks' M') : Ev X d μ pc L (.int x :: .ref h :: st) ks M r ks' M' := by
  intro l p e R s m args below meth c D dA σ A H locs cells slots mc ms ls Q C hP hD hS hl h1 h2 h3 h4 hret
  obtain ⟨hx, hb, hml, hown, hts, hr, hlk, hnm, hK, hA, hX, hfr, hlo⟩ := id C
  obtain ⟨CC, TT, NN, ⟨q1, q2, q3, q4, q5, q6⟩, hk, hlw⟩ := hf
  subst q2
  have hfin : (TT f).2.2.2 = false := by
    have z := hnf
    unfold fin at z
    rw [q1] at z
    exact z
  refine va_put (C := CC) (T := TT) (N := nF ci) (ref := CC) (ci := ci) (v := rv σ (.int x)) hx hb hts q3 (tyT ci) q4 q5 hown hK hP hD hS h (wld_at ho) q1 f hk (hts _ hlw) (fun x hx => by rw [q6 f hk] at hx; exact hx) hfin (q4 f hk) hn hft (by simpa using hk) hd (fun H1 locs1 hP1 hD1 hS1 => ?_)
  have hwe : (wld dA σ ks M).set h (σ.1 h, Sum.inr (ci, ((List.range (nF ci)).map fun k => fvT (tyT ci k) σ M h k).set f (rv σ (.int x)))) = wld dA σ ks (setI M h f x) := by
    rw [fld_set (M' := setI M h f x) hk (by rw [fvT_I ht, setI_I]; simp [upd, rv]) (fun j hj => by
      cases htj : tyT ci j <;> simp [fvT, setI, upd, hj])]
    exact wld_set (M' := setI M h f x) ho (fun j hj => setI_ne hj)
  rw [hwe] at hP1 hD1
  exact (k l p e R s m args below meth c D dA σ A H1 locs1 cells slots mc ms ls Q C hP1 hD1 hS1 hl h1 h2 h3 h4 hret)
theorem x_putL {x : Int64} (hd : decode μ.2.1 pc = .ok (.putfield idx, 3)) (hf : fL μ.1.cls idx ci f) (ht : tyT ci f = .long) (hnf : fin ci f = false) (ho : ks[h]? = some (0, ci)) (k : Ev X d μ (pc + 3) L st ks (setL M h f x) r ks' M') : Ev X d μ pc L (.long x :: .ref h :: st) ks M r ks' M' := by
  intro l p e R s m args below meth c D dA σ A H locs cells slots mc ms ls Q C hP hD hS hl h1 h2 h3 h4 hret
  obtain ⟨hx, hb, hml, hown, hts, hr, hlk, hnm, hK, hA, hX, hfr, hlo⟩ := id C
  obtain ⟨CC, TT, NN, ⟨q1, q2, q3, q4, q5, q6⟩, hk, hlw⟩ := hf
  subst q2
  have hfin : (TT f).2.2.2 = false := by
    have z := hnf
    unfold fin at z
    rw [q1] at z
    exact z
  refine va_put (C := CC) (T := TT) (N := nF ci) (ref := CC) (ci := ci) (v := rv σ (.long x)) hx hb hts q3 (tyT ci) q4 q5 hown hK hP hD hS h (wld_at ho) q1 f hk (hts _ hlw) (fun x hx => by rw [q6 f hk] at hx; exact hx) hfin (q4 f hk) (by rw [ht]; rfl) (by rw [ht]; rfl) (by simpa using hk) hd (fun H1 locs1 hP1 hD1 hS1 => ?_)
  have hwe : (wld dA σ ks M).set h (σ.1 h, Sum.inr (ci, ((List.range (nF ci)).map fun k => fvT (tyT ci k) σ M h k).set f (rv σ (.long x)))) = wld dA σ ks (setL M h f x) := by
    rw [fld_set (M' := setL M h f x) hk (by rw [ht]; show Value.long ((setL M h f x).2.1 h f) = _; rw [setL_L]; simp [vp_updL, rv]) (fun j hj => by
      cases htj : tyT ci j <;> simp [fvT, setL, vp_updL, hj])]
    exact wld_set (M' := setL M h f x) ho (fun j hj => setL_ne hj)
  rw [hwe] at hP1 hD1
  exact (k l p e R s m args below meth c D dA σ A H1 locs1 cells slots mc ms ls Q C hP1 hD1 hS1 hl h1 h2 h3 h4 hret)
theorem x_putR {x : Nat} (hd : decode μ.2.1 pc = .ok (.putfield idx, 3)) (hf : fL μ.1.cls idx ci f) (ht : isRf (tyT ci f) = true) (hnf : fin ci f = false) (ho : ks[h]? = some (0, ci)) (k : Ev X d μ (pc + 3) L st ks (setR M h f (some x)) r ks' M') : Ev X d μ pc L (.ref x :: .ref h :: st) ks M r ks' M' := by
  intro l p e R s m args below meth c D dA σ A H locs cells slots mc ms ls Q C hP hD hS hl h1 h2 h3 h4 hret
  obtain ⟨hx, hb, hml, hown, hts, hr, hlk, hnm, hK, hA, hX, hfr, hlo⟩ := id C
  obtain ⟨CC, TT, NN, ⟨q1, q2, q3, q4, q5, q6⟩, hk, hlw⟩ := hf
  subst q2
  have hfin : (TT f).2.2.2 = false := by
    have z := hnf
    unfold fin at z
    rw [q1] at z
    exact z
  refine va_put (C := CC) (T := TT) (N := nF ci) (ref := CC) (ci := ci) (v := rv σ (.ref x)) hx hb hts q3 (tyT ci) q4 q5 hown hK hP hD hS h (wld_at ho) q1 f hk (hts _ hlw) (fun x hx => by rw [q6 f hk] at hx; exact hx) hfin (q4 f hk) (by cases hz : tyT ci f <;> first | rfl | simp [hz, isRf] at ht) (by cases hz : tyT ci f <;> first | rfl | simp [hz, isRf] at ht) (by simpa using hk) hd (fun H1 locs1 hP1 hD1 hS1 => ?_)
  have hwe : (wld dA σ ks M).set h (σ.1 h, Sum.inr (ci, ((List.range (nF ci)).map fun k => fvT (tyT ci k) σ M h k).set f (rv σ (.ref x)))) = wld dA σ ks (setR M h f (some x)) := by
    rw [fld_set (M' := setR M h f (some x)) hk (by rw [fvT_R ht, setR_R]; simp [va_up, rv, va_rf]) (fun j hj => by
      cases htj : tyT ci j <;> simp [fvT, setR, va_up, hj])]
    exact wld_set (M' := setR M h f (some x)) ho (fun j hj => setR_ne hj)
  rw [hwe] at hP1 hD1
  exact (k l p e R s m args below meth c D dA σ A H1 locs1 cells slots mc ms ls Q C hP1 hD1 hS1 hl h1 h2 h3 h4 hret)
theorem x_putFR {x : Nat} (hd : decode μ.2.1 pc = .ok (.putfield idx, 3)) (hf : fL μ.1.cls idx ci f) (ht : isRf (tyT ci f) = true) (hnf : fin ci f = true) (hini : μ.1.name = "<init>") (howc : (classes[ci]?).map (fun q => q.1) = some μ.1.cls) (ho : ks[h]? = some (0, ci)) (k : Ev X d μ (pc + 3) L st ks (setR M h f (some x)) r ks' M') : Ev X d μ pc L (.ref x :: .ref h :: st) ks M r ks' M' := by
  intro l p e R s m args below meth c D dA σ A H locs cells slots mc ms ls Q C hP hD hS hl h1 h2 h3 h4 hret
  obtain ⟨hx, hb, hml, hown, hts, hr, hlk, hnm, hK, hA, hX, hfr, hlo⟩ := id C
  obtain ⟨CC, TT, NN, ⟨q1, q2, q3, q4, q5, q6⟩, hk, hlw⟩ := hf
  have hoc : μ.1.cls = CC := by have z := howc; rw [q1] at z; exact (Option.some.inj z).symm
  subst q2
  have hfin : (TT f).2.2.2 = true := by
    have z := hnf
    unfold fin at z
    rw [q1] at z
    exact z
  refine va_putF (C := CC) (T := TT) (N := nF ci) (ref := CC) (ci := ci) (v := rv σ (.ref x)) hx hb hts q3 (tyT ci) q4 q5 hown hK hP hD hS h (wld_at ho) q1 f hk (hts _ hlw) (fun x hx => by rw [q6 f hk] at hx; exact hx) hfin (hnm hini) (q6 f hk |>.trans hoc.symm) (q4 f hk) (by cases hz : tyT ci f <;> first | rfl | simp [hz, isRf] at ht) (by cases hz : tyT ci f <;> first | rfl | simp [hz, isRf] at ht) (by simpa using hk) hd (fun H1 locs1 hP1 hD1 hS1 => ?_)
  have hwe : (wld dA σ ks M).set h (σ.1 h, Sum.inr (ci, ((List.range (nF ci)).map fun k => fvT (tyT ci k) σ M h k).set f (rv σ (.ref x)))) = wld dA σ ks (setR M h f (some x)) := by
    rw [fld_set (M' := setR M h f (some x)) hk (by rw [fvT_R ht, setR_R]; simp [va_up, rv, va_rf]) (fun j hj => by
      cases htj : tyT ci j <;> simp [fvT, setR, va_up, hj])]
    exact wld_set (M' := setR M h f (some x)) ho (fun j hj => setR_ne hj)
  rw [hwe] at hP1 hD1
  exact (k l p e R s m args below meth c D dA σ A H1 locs1 cells slots mc ms ls Q C hP1 hD1 hS1 hl h1 h2 h3 h4 hret)
theorem x_iald {i : Int32} {n : Nat} (hd : decode μ.2.1 pc = .ok (.iaload, 1)) (ho : ks[h]? = some (1, n)) (hin : vp_in i n) (k : Ev X d μ (pc + 1) L (.int (M.1 h i.toNatClampNeg) :: st) ks M r ks' M') : Ev X d μ pc L (.int i :: .ref h :: st) ks M r ks' M' := by
  intro l p e R s m args below meth c D dA σ A H locs cells slots mc ms ls Q C hP hD hS hl h1 h2 h3 h4 hret
  obtain ⟨hx, hb, hml, hown, hts, hr, hlk, hnm, hK, hA, hX, hfr, hlo⟩ := id C
  exact va_iald hx hb hK hP h 1 (wld_at ho) rfl hin hd (k l p e R s m args below meth c D dA σ A H locs cells slots mc ms ls Q C hP hD hS hl h1 h2 h3 h4 hret)
theorem x_bald {i : Int32} {n : Nat} (hd : decode μ.2.1 pc = .ok (.baload, 1)) (ho : ks[h]? = some (3, n)) (hin : vp_in i n) (k : Ev X d μ (pc + 1) L (.int (M.1 h i.toNatClampNeg) :: st) ks M r ks' M') : Ev X d μ pc L (.int i :: .ref h :: st) ks M r ks' M' := by
  intro l p e R s m args below meth c D dA σ A H locs cells slots mc ms ls Q C hP hD hS hl h1 h2 h3 h4 hret
  obtain ⟨hx, hb, hml, hown, hts, hr, hlk, hnm, hK, hA, hX, hfr, hlo⟩ := id C
  exact va_bald hx hb hK hP h 3 (wld_at ho) rfl hin hd (k l p e R s m args below meth c D dA σ A H locs cells slots mc ms ls Q C hP hD hS hl h1 h2 h3 h4 hret)
theorem x_zald {i : Int32} {n : Nat} (hd : decode μ.2.1 pc = .ok (.baload, 1)) (ho : ks[h]? = some (4, n)) (hin : vp_in i n) (k : Ev X d μ (pc + 1) L (.int (M.1 h i.toNatClampNeg) :: st) ks M r ks' M') : Ev X d μ pc L (.int i :: .ref h :: st) ks M r ks' M' := by
  intro l p e R s m args below meth c D dA σ A H locs cells slots mc ms ls Q C hP hD hS hl h1 h2 h3 h4 hret
  obtain ⟨hx, hb, hml, hown, hts, hr, hlk, hnm, hK, hA, hX, hfr, hlo⟩ := id C
  exact va_zald hx hb hK hP h 4 (wld_at ho) rfl hin hd (k l p e R s m args below meth c D dA σ A H locs cells slots mc ms ls Q C hP hD hS hl h1 h2 h3 h4 hret)
theorem x_lald {i : Int32} {n : Nat} (hd : decode μ.2.1 pc = .ok (.laload, 1)) (ho : ks[h]? = some (2, n)) (hin : vp_in i n) (k : Ev X d μ (pc + 1) L (.long (M.2.1 h i.toNatClampNeg) :: st) ks M r ks' M') : Ev X d μ pc L (.int i :: .ref h :: st) ks M r ks' M' := by
  intro l p e R s m args below meth c D dA σ A H locs cells slots mc ms ls Q C hP hD hS hl h1 h2 h3 h4 hret
  obtain ⟨hx, hb, hml, hown, hts, hr, hlk, hnm, hK, hA, hX, hfr, hlo⟩ := id C
  exact va_lald hx hb hK hP h 2 (wld_at ho) rfl hin hd (k l p e R s m args below meth c D dA σ A H locs cells slots mc ms ls Q C hP hD hS hl h1 h2 h3 h4 hret)
theorem x_aald {i : Int32} {n a : Nat} (hd : decode μ.2.1 pc = .ok (.aaload, 1)) (ho : ks[h]? = some (5, n)) (hin : vp_in i n) (hm : M.2.2 h i.toNatClampNeg = some a) (k : Ev X d μ (pc + 1) L (.ref a :: st) ks M r ks' M') : Ev X d μ pc L (.int i :: .ref h :: st) ks M r ks' M' := by
  intro l p e R s m args below meth c D dA σ A H locs cells slots mc ms ls Q C hP hD hS hl h1 h2 h3 h4 hret
  obtain ⟨hx, hb, hml, hown, hts, hr, hlk, hnm, hK, hA, hX, hfr, hlo⟩ := id C
  refine va_aldq hx hb hK hP h 5 (wld_at ho) rfl hin hd ?_
  rw [hm]
  exact (k l p e R s m args below meth c D dA σ A H locs cells slots mc ms ls Q C hP hD hS hl h1 h2 h3 h4 hret)
theorem x_iast {i x : Int32} {n : Nat} (hd : decode μ.2.1 pc = .ok (.iastore, 1)) (ho : ks[h]? = some (1, n)) (hin : vp_in i n) (k : Ev X d μ (pc + 1) L st ks (setI M h i.toNatClampNeg (x)) r ks' M') : Ev X d μ pc L (.int x :: .int i :: .ref h :: st) ks M r ks' M' := by
  intro l p e R s m args below meth c D dA σ A H locs cells slots mc ms ls Q C hP hD hS hl h1 h2 h3 h4 hret
  obtain ⟨hx, hb, hml, hown, hts, hr, hlk, hnm, hK, hA, hX, hfr, hlo⟩ := id C
  refine va_iast hx hb hK hP hD hS h 1 (wld_at ho) rfl hin hd (fun H1 locs1 hP1 hD1 hS1 => ?_)
  have hwe : (wld dA σ ks M).set h (σ.1 h, Sum.inl (dA 1, n, .inl (upd (M.1 h) i.toNatClampNeg (x)))) = wld dA σ ks (setI M h i.toNatClampNeg (x)) := by
    rw [← wld_set (M' := setI M h i.toNatClampNeg (x)) ho (fun j hj => setI_ne hj)]
    congr 2
    show _ = cE dA σ (setI M h i.toNatClampNeg (x)) h (1, n)
    simp [cE, setI]
  rw [hwe] at hP1 hD1
  exact (k l p e R s m args below meth c D dA σ A H1 locs1 cells slots mc ms ls Q C hP1 hD1 hS1 hl h1 h2 h3 h4 hret)
theorem x_bast {i x : Int32} {n : Nat} (hd : decode μ.2.1 pc = .ok (.bastore, 1)) (ho : ks[h]? = some (3, n)) (hin : vp_in i n) (k : Ev X d μ (pc + 1) L st ks (setI M h i.toNatClampNeg (vp_nar .byte x)) r ks' M') : Ev X d μ pc L (.int x :: .int i :: .ref h :: st) ks M r ks' M' := by
  intro l p e R s m args below meth c D dA σ A H locs cells slots mc ms ls Q C hP hD hS hl h1 h2 h3 h4 hret
  obtain ⟨hx, hb, hml, hown, hts, hr, hlk, hnm, hK, hA, hX, hfr, hlo⟩ := id C
  refine va_bast hx hb hK hP hD hS h 3 (wld_at ho) rfl hin hd (fun H1 locs1 hP1 hD1 hS1 => ?_)
  have hwe : (wld dA σ ks M).set h (σ.1 h, Sum.inl (dA 3, n, .inl (upd (M.1 h) i.toNatClampNeg (vp_nar .byte x)))) = wld dA σ ks (setI M h i.toNatClampNeg (vp_nar .byte x)) := by
    rw [← wld_set (M' := setI M h i.toNatClampNeg (vp_nar .byte x)) ho (fun j hj => setI_ne hj)]
    congr 2
    show _ = cE dA σ (setI M h i.toNatClampNeg (vp_nar .byte x)) h (3, n)
    simp [cE, setI]
  rw [hwe] at hP1 hD1
  exact (k l p e R s m args below meth c D dA σ A H1 locs1 cells slots mc ms ls Q C hP1 hD1 hS1 hl h1 h2 h3 h4 hret)
theorem x_zast {i x : Int32} {n : Nat} (hd : decode μ.2.1 pc = .ok (.bastore, 1)) (ho : ks[h]? = some (4, n)) (hin : vp_in i n) (k : Ev X d μ (pc + 1) L st ks (setI M h i.toNatClampNeg (vp_nar .boolean x)) r ks' M') : Ev X d μ pc L (.int x :: .int i :: .ref h :: st) ks M r ks' M' := by
  intro l p e R s m args below meth c D dA σ A H locs cells slots mc ms ls Q C hP hD hS hl h1 h2 h3 h4 hret
  obtain ⟨hx, hb, hml, hown, hts, hr, hlk, hnm, hK, hA, hX, hfr, hlo⟩ := id C
  refine va_zast hx hb hK hP hD hS h 4 (wld_at ho) rfl hin hd (fun H1 locs1 hP1 hD1 hS1 => ?_)
  have hwe : (wld dA σ ks M).set h (σ.1 h, Sum.inl (dA 4, n, .inl (upd (M.1 h) i.toNatClampNeg (vp_nar .boolean x)))) = wld dA σ ks (setI M h i.toNatClampNeg (vp_nar .boolean x)) := by
    rw [← wld_set (M' := setI M h i.toNatClampNeg (vp_nar .boolean x)) ho (fun j hj => setI_ne hj)]
    congr 2
    show _ = cE dA σ (setI M h i.toNatClampNeg (vp_nar .boolean x)) h (4, n)
    simp [cE, setI]
  rw [hwe] at hP1 hD1
  exact (k l p e R s m args below meth c D dA σ A H1 locs1 cells slots mc ms ls Q C hP1 hD1 hS1 hl h1 h2 h3 h4 hret)
theorem x_last {i : Int32} {x : Int64} {n : Nat} (hd : decode μ.2.1 pc = .ok (.lastore, 1)) (ho : ks[h]? = some (2, n)) (hin : vp_in i n) (k : Ev X d μ (pc + 1) L st ks (setL M h i.toNatClampNeg x) r ks' M') : Ev X d μ pc L (.long x :: .int i :: .ref h :: st) ks M r ks' M' := by
  intro l p e R s m args below meth c D dA σ A H locs cells slots mc ms ls Q C hP hD hS hl h1 h2 h3 h4 hret
  obtain ⟨hx, hb, hml, hown, hts, hr, hlk, hnm, hK, hA, hX, hfr, hlo⟩ := id C
  refine va_last hx hb hK hP hD hS h 2 (wld_at ho) rfl hin hd (fun H1 locs1 hP1 hD1 hS1 => ?_)
  have hwe : (wld dA σ ks M).set h (σ.1 h, Sum.inl (dA 2, n, .inr (.inl (vp_updL (M.2.1 h) i.toNatClampNeg x)))) = wld dA σ ks (setL M h i.toNatClampNeg x) := by
    rw [← wld_set (M' := setL M h i.toNatClampNeg x) ho (fun j hj => setL_ne hj)]
    congr 2
    show _ = cE dA σ (setL M h i.toNatClampNeg x) h (2, n)
    simp [cE, setL]
  rw [hwe] at hP1 hD1
  exact (k l p e R s m args below meth c D dA σ A H1 locs1 cells slots mc ms ls Q C hP1 hD1 hS1 hl h1 h2 h3 h4 hret)
theorem x_alen1 {n : Nat} (hd : decode μ.2.1 pc = .ok (.arraylength, 1)) (ho : ks[h]? = some (1, n)) (k : Ev X d μ (pc + 1) L (.int (Int32.ofNat n) :: st) ks M r ks' M') : Ev X d μ pc L (.ref h :: st) ks M r ks' M' := by
  intro l p e R s m args below meth c D dA σ A H locs cells slots mc ms ls Q C hP hD hS hl h1 h2 h3 h4 hret
  obtain ⟨hx, hb, hml, hown, hts, hr, hlk, hnm, hK, hA, hX, hfr, hlo⟩ := id C
  exact va_alen hx hb hK hP h 1 (wld_at ho) rfl rfl hd (k l p e R s m args below meth c D dA σ A H locs cells slots mc ms ls Q C hP hD hS hl h1 h2 h3 h4 hret)
theorem x_alen2 {n : Nat} (hd : decode μ.2.1 pc = .ok (.arraylength, 1)) (ho : ks[h]? = some (2, n)) (k : Ev X d μ (pc + 1) L (.int (Int32.ofNat n) :: st) ks M r ks' M') : Ev X d μ pc L (.ref h :: st) ks M r ks' M' := by
  intro l p e R s m args below meth c D dA σ A H locs cells slots mc ms ls Q C hP hD hS hl h1 h2 h3 h4 hret
  obtain ⟨hx, hb, hml, hown, hts, hr, hlk, hnm, hK, hA, hX, hfr, hlo⟩ := id C
  exact va_alen hx hb hK hP h 2 (wld_at ho) rfl rfl hd (k l p e R s m args below meth c D dA σ A H locs cells slots mc ms ls Q C hP hD hS hl h1 h2 h3 h4 hret)
theorem x_alen3 {n : Nat} (hd : decode μ.2.1 pc = .ok (.arraylength, 1)) (ho : ks[h]? = some (3, n)) (k : Ev X d μ (pc + 1) L (.int (Int32.ofNat n) :: st) ks M r ks' M') : Ev X d μ pc L (.ref h :: st) ks M r ks' M' := by
  intro l p e R s m args below meth c D dA σ A H locs cells slots mc ms ls Q C hP hD hS hl h1 h2 h3 h4 hret
  obtain ⟨hx, hb, hml, hown, hts, hr, hlk, hnm, hK, hA, hX, hfr, hlo⟩ := id C
  exact va_alen hx hb hK hP h 3 (wld_at ho) rfl rfl hd (k l p e R s m args below meth c D dA σ A H locs cells slots mc ms ls Q C hP hD hS hl h1 h2 h3 h4 hret)
theorem x_alen4 {n : Nat} (hd : decode μ.2.1 pc = .ok (.arraylength, 1)) (ho : ks[h]? = some (4, n)) (k : Ev X d μ (pc + 1) L (.int (Int32.ofNat n) :: st) ks M r ks' M') : Ev X d μ pc L (.ref h :: st) ks M r ks' M' := by
  intro l p e R s m args below meth c D dA σ A H locs cells slots mc ms ls Q C hP hD hS hl h1 h2 h3 h4 hret
  obtain ⟨hx, hb, hml, hown, hts, hr, hlk, hnm, hK, hA, hX, hfr, hlo⟩ := id C
  exact va_alen hx hb hK hP h 4 (wld_at ho) rfl rfl hd (k l p e R s m args below meth c D dA σ A H locs cells slots mc ms ls Q C hP hD hS hl h1 h2 h3 h4 hret)
theorem x_alen5 {n : Nat} (hd : decode μ.2.1 pc = .ok (.arraylength, 1)) (ho : ks[h]? = some (5, n)) (k : Ev X d μ (pc + 1) L (.int (Int32.ofNat n) :: st) ks M r ks' M') : Ev X d μ pc L (.ref h :: st) ks M r ks' M' := by
  intro l p e R s m args below meth c D dA σ A H locs cells slots mc ms ls Q C hP hD hS hl h1 h2 h3 h4 hret
  obtain ⟨hx, hb, hml, hown, hts, hr, hlk, hnm, hK, hA, hX, hfr, hlo⟩ := id C
  exact va_alen hx hb hK hP h 5 (wld_at ho) rfl rfl hd (k l p e R s m args below meth c D dA σ A H locs cells slots mc ms ls Q C hP hD hS hl h1 h2 h3 h4 hret)
theorem x_sald {i : Int32} (hd : decode μ.2.1 pc = .ok (.iaload, 1)) (hin : vp_in i X.1) (k : Ev X d μ (pc + 1) L (.int (X.2 i.toNatClampNeg) :: st) ks M r ks' M') : Ev X d μ pc L (.int i :: .ref 1010 :: st) ks M r ks' M' := by
  intro l p e R s m args below meth c D dA σ A H locs cells slots mc ms ls Q C hP hD hS hl h1 h2 h3 h4 hret
  obtain ⟨hx, hb, hml, hown, hts, hr, hlk, hnm, hK, hA, hX, hfr, hlo⟩ := id C
  exact va_sld hx hb hX.2.2.2.2.2.2.1 hX.2.2.2.2.2.2.2.1 hX.2.2.2.2.2.2.2.2 hS hin hd (k l p e R s m args below meth c D dA σ A H locs cells slots mc ms ls Q C hP hD hS hl h1 h2 h3 h4 hret)
theorem x_salen (hd : decode μ.2.1 pc = .ok (.arraylength, 1)) (k : Ev X d μ (pc + 1) L (.int (Int32.ofNat X.1) :: st) ks M r ks' M') : Ev X d μ pc L (.ref 1010 :: st) ks M r ks' M' := by
  intro l p e R s m args below meth c D dA σ A H locs cells slots mc ms ls Q C hP hD hS hl h1 h2 h3 h4 hret
  obtain ⟨hx, hb, hml, hown, hts, hr, hlk, hnm, hK, hA, hX, hfr, hlo⟩ := id C
  exact va_slen hx hb hX.2.2.2.2.2.2.1 hX.2.2.2.2.2.2.2.1 hX.2.2.2.2.2.2.2.2 hS hd (k l p e R s m args below meth c D dA σ A H locs cells slots mc ms ls Q C hP hD hS hl h1 h2 h3 h4 hret)
end XF
