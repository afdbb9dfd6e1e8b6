def R_law : String := "NinetyPlayersLaw"
def lw_P (b : Addr) (xs : List Int32) (args : Array Value) (s : State) : Prop := args = #[.ref b] ∧ s.IntsAt b xs ∧ xs.length ≤ 384 ∧ (Jvm.Cond.and given_1 narrow_1).before args s = true
def lw_Q (_ : Array Value) (s : State) (o : Outcome) (t : State) : Prop := o = .returned (some (.int 1)) ∧ Framed s o t [] 600000 7302250
def lw_Z (below : List Frame) (a : Array Value) (s : State) : State → Prop := fun t => ∃ o, t.status = .running ∧ Ended t below o ∧ lw_Q a s o t
/-- the law's own end, with 1 on the stack, nothing written that was there before, its room as the claim has it -/
theorem lw_ret {p : Program} {l : Launch} {e : Env} {s : State} {m : MethodId} {below : List Frame} {meth : Method} {c : Code} {b : Nat} (hx : p.tables.exec = Jvm.exec) (hb : c.code = code) (hr : meth.sig.returnType = ret) (hlocks : meth.locks = false) {pc : Nat} {H : Heap} {ls : Array Slot} (hdg : decode code pc = .ok (.ireturn, 1)) : W p l e room_1 s m #[Value.ref b] below meth c H [] 600000 7302250 (lw_Z below #[Value.ref b] s) (F0 m pc ls [.int 1]) := by
  intro T hT X
  obtain ⟨fs, hret, hrun, hended, hW, hframe⟩ := X.leave (v := some (.int 1)) (hlocks := hlocks) (fun h => by rw [hr] at h; cases h)
  have hmeth' : T.vm.method? m = some meth := X.method'
  refine ⟨T.setFrames fs, ?_, .returned (some (.int 1)), hrun, hended, rfl, ⟨_, rfl⟩, hW, hframe⟩
  jvm_step X.here [X.here.top, hx, hb, hdg, hmeth', hr, ret, narrow_b1]
  (try refine ⟨rfl, ?_⟩); (try refine ⟨rfl, ?_⟩)
  first | (intro acts; rw [hret _ acts rfl rfl rfl]) | rw [hret _ _ rfl rfl rfl]
  exact Steps.refl _
/-- what holds at the law's entry: the machine, the code, the tables' words (any of lw_tbl by 'hts w (by decide +kernel)'), the script of L ints xs at the cell b, what the Statement gives of the start (any of its parts by flat_of_before) -/
def lw_At (p : Program) (s : State) (m : MethodId) (meth : Method) (c : Code) (b L : Nat) (xs : Nat → Int32) : Prop :=
  p.tables.exec = Jvm.exec ∧ c.code = code ∧ meth.sig.returnType = ret ∧ c.maxLocals = 4 ∧ s.vm.findClass R_law = some m.cls ∧ (∀ w ∈ lw_tbl, w.before #[Value.ref b] s = true) ∧ va_X b L xs s s.heap ∧ b < s.heap.size ∧ meth.locks = false ∧ (Jvm.Cond.and given_1 narrow_1).before #[Value.ref b] s = true

/-- what the Statement gives of the start, as the judgement wants it -/
def tmS (i : Nat) : Term := if i = 0 then .string "NinetyPlayers$Word" 11 else .string "NinetyPlayers$Tape" 51
def cdE (i j : Nat) : Cond := .eq (.elem (.field (tmS i) "java/lang/String" "value" "[B") (.int (Int32.ofNat j))) (.int ((bytS.getD i []).getD j 0))
def startC : Cond := Jvm.Cond.and given_1 narrow_1
theorem st_ex0 : Cond.exactly (tmS 0) "java/lang/String" ∈ flatC startC := List.mem_of_getElem? (i := 9) rfl
theorem st_co0 : Cond.eq (.field (tmS 0) "java/lang/String" "coder" "B") (.int 0) ∈ flatC startC := List.mem_of_getElem? (i := 10) rfl
theorem st_ar0 : Cond.arrayOf (.field (tmS 0) "java/lang/String" "value" "[B") .byte ∈ flatC startC := List.mem_of_getElem? (i := 11) rfl
theorem st_le0 : Cond.eq (.length (.field (tmS 0) "java/lang/String" "value" "[B")) (.int (Int32.ofNat (lenS.getD 0 0))) ∈ flatC startC := List.mem_of_getElem? (i := 12) rfl
theorem st_el0 : ∀ j, j < lenS.getD 0 0 → (flatC startC)[13 + j]? = some (cdE 0 j) := by decide +kernel
theorem st_ex1 : Cond.exactly (tmS 1) "java/lang/String" ∈ flatC startC := List.mem_of_getElem? (i := 181) rfl
theorem st_co1 : Cond.eq (.field (tmS 1) "java/lang/String" "coder" "B") (.int 0) ∈ flatC startC := List.mem_of_getElem? (i := 182) rfl
theorem st_ar1 : Cond.arrayOf (.field (tmS 1) "java/lang/String" "value" "[B") .byte ∈ flatC startC := List.mem_of_getElem? (i := 183) rfl
theorem st_le1 : Cond.eq (.length (.field (tmS 1) "java/lang/String" "value" "[B")) (.int (Int32.ofNat (lenS.getD 1 0))) ∈ flatC startC := List.mem_of_getElem? (i := 184) rfl
theorem st_el1 : ∀ j, j < lenS.getD 1 0 → (flatC startC)[185 + j]? = some (cdE 1 j) := by decide +kernel
theorem st_ne : Cond.not (Cond.eq (tmS 0) (tmS 1)) ∈ flatC startC := List.mem_of_getElem? (i := 196) rfl
theorem st_cs : Cond.eq (.static "java/lang/String" "COMPACT_STRINGS" "Z") (.int 1) ∈ flatC startC := List.mem_of_getElem? (i := 4) rfl
theorem st_fm : Cond.isRef (.static "jdk/internal/util/Preconditions" "SIOOBE_FORMATTER" "Ljava/util/function/BiFunction;") ∈ flatC startC := List.mem_of_getElem? (i := 5) rfl
theorem st_ex : ∀ i, i < 2 → Cond.exactly (tmS i) "java/lang/String" ∈ flatC startC := by
  intro i hi
  rcases (by omega : i = 0 ∨ i = 1) with rfl | rfl
  · exact st_ex0
  · exact st_ex1
theorem st_co : ∀ i, i < 2 → Cond.eq (.field (tmS i) "java/lang/String" "coder" "B") (.int 0) ∈ flatC startC := by
  intro i hi
  rcases (by omega : i = 0 ∨ i = 1) with rfl | rfl
  · exact st_co0
  · exact st_co1
theorem st_ar : ∀ i, i < 2 → Cond.arrayOf (.field (tmS i) "java/lang/String" "value" "[B") .byte ∈ flatC startC := by
  intro i hi
  rcases (by omega : i = 0 ∨ i = 1) with rfl | rfl
  · exact st_ar0
  · exact st_ar1
theorem st_le : ∀ i, i < 2 → Cond.eq (.length (.field (tmS i) "java/lang/String" "value" "[B")) (.int (Int32.ofNat (lenS.getD i 0))) ∈ flatC startC := by
  intro i hi
  rcases (by omega : i = 0 ∨ i = 1) with rfl | rfl
  · exact st_le0
  · exact st_le1
theorem st_el : ∀ i, i < 2 → ∀ j, j < lenS.getD i 0 → cdE i j ∈ flatC startC := by
  intro i hi j hj
  rcases (by omega : i = 0 ∨ i = 1) with rfl | rfl
  · exact List.mem_of_getElem? (st_el0 j hj)
  · exact List.mem_of_getElem? (st_el1 j hj)
theorem gw_lw {w : Cond} (h : w ∈ GW) : w ∈ lw_tbl := (List.mem_filter.mp h).1
theorem arr_of {s : State} {args : Array Value} {ty : FieldType} (h : (Cond.arrayClass ty).before args s = true) (hp : ∀ C, ty ≠ .object C) : ∃ c, ArrOfT s c ty ∧ va_RA s c ty := by
  obtain ⟨cA, kA, comp, h1, h2, h3⟩ := Cond.arrayClass_spec h
  refine ⟨cA, fun n z => ⟨fun k h => (by cases h), kA, h2, comp, h3⟩, ?_⟩
  cases ty with
  | object C => exact absurd rfl (hp C)
  | _ => exact h1
theorem arr_ofO {s : State} {args : Array Value} {C : String} (h : (Cond.arrayOver (.object C)).before args s = true) : ∃ c, ArrOfT s c (.object C) ∧ va_RA s c (.object C) := by
  obtain ⟨comp, c, k, h1, h2, h3, h4, h5⟩ := Cond.arrayOver_spec h
  exact ⟨c, fun n z => ⟨fun k h => (by cases h), k, h3, comp, h4⟩, k, comp, h3, h4, h1, h5⟩
/-- the classes and arrays as the tables have them -/
theorem k_start {s : State} {args : Array Value} (hts : ∀ w ∈ lw_tbl, w.before args s = true) : ∃ (D : va_G) (dA : Nat → ClassId), va_K D classes (tyL dA) s := by
  obtain ⟨c0, i0, g0⟩ := u_known (C := "NinetyPlayers") (T := cT0) (N := 13) (n := 13) hts (fun w hw => gw_lw (ck_0.2.2.1 w hw)) (hts (.instantiable "NinetyPlayers" 13) (gw_lw il_0.1))
  obtain ⟨c1, i1, g1⟩ := u_known (C := "NinetyPlayers$Reader") (T := cT1) (N := 5) (n := 5) hts (fun w hw => gw_lw (ck_1.2.2.1 w hw)) (hts (.instantiable "NinetyPlayers$Reader" 5) (gw_lw il_1.1))
  obtain ⟨c2, i2, g2⟩ := u_known (C := "NinetyPlayers$Score") (T := cT2) (N := 16) (n := 16) hts (fun w hw => gw_lw (ck_2.2.2.1 w hw)) (hts (.instantiable "NinetyPlayers$Score" 16) (gw_lw il_2.1))
  obtain ⟨c3, i3, g3⟩ := u_known (C := "NinetyPlayers$Formula") (T := cT3) (N := 6) (n := 6) hts (fun w hw => gw_lw (ck_3.2.2.1 w hw)) (hts (.instantiable "NinetyPlayers$Formula" 6) (gw_lw il_3.1))
  obtain ⟨c4, i4, g4⟩ := u_known (C := "NinetyPlayers$Tape") (T := cT4) (N := 7) (n := 7) hts (fun w hw => gw_lw (ck_4.2.2.1 w hw)) (hts (.instantiable "NinetyPlayers$Tape" 7) (gw_lw il_4.1))
  obtain ⟨c5, i5, g5⟩ := u_known (C := "NinetyPlayers$Laying") (T := cT5) (N := 6) (n := 6) hts (fun w hw => gw_lw (ck_5.2.2.1 w hw)) (hts (.instantiable "NinetyPlayers$Laying" 6) (gw_lw il_5.1))
  obtain ⟨c6, i6, g6⟩ := u_known (C := "NinetyPlayers$Acts") (T := cT6) (N := 6) (n := 6) hts (fun w hw => gw_lw (ck_6.2.2.1 w hw)) (hts (.instantiable "NinetyPlayers$Acts" 6) (gw_lw il_6.1))
  obtain ⟨c7, i7, g7⟩ := u_known (C := "NinetyPlayers$Keyboard") (T := cT7) (N := 12) (n := 12) hts (fun w hw => gw_lw (ck_7.2.2.1 w hw)) (hts (.instantiable "NinetyPlayers$Keyboard" 12) (gw_lw il_7.1))
  obtain ⟨c8, i8, g8⟩ := u_known (C := "NinetyPlayers$Arranger") (T := cT8) (N := 9) (n := 9) hts (fun w hw => gw_lw (ck_8.2.2.1 w hw)) (hts (.instantiable "NinetyPlayers$Arranger" 9) (gw_lw il_8.1))
  obtain ⟨c9, i9, g9⟩ := u_known (C := "NinetyPlayers$Pedaller") (T := cT9) (N := 1) (n := 1) hts (fun w hw => gw_lw (ck_9.2.2.1 w hw)) (hts (.instantiable "NinetyPlayers$Pedaller" 1) (gw_lw il_9.1))
  obtain ⟨c10, i10, g10⟩ := u_known (C := "NinetyPlayers$Witness") (T := cT10) (N := 12) (n := 12) hts (fun w hw => gw_lw (ck_10.2.2.1 w hw)) (hts (.instantiable "NinetyPlayers$Witness" 12) (gw_lw il_10.1))
  obtain ⟨c11, i11, g11⟩ := u_known (C := "NinetyPlayersModel") (T := cT11) (N := 80) (n := 80) hts (fun w hw => gw_lw (ck_11.2.2.1 w hw)) (hts (.instantiable "NinetyPlayersModel" 80) (gw_lw il_11.1))
  obtain ⟨a1, h1⟩ := arr_of (ty := .int) (hts _ (List.mem_append_right _ (tb_1 (List.mem_of_getElem? (i := 104) rfl)))) (fun C => by simp)
  obtain ⟨a2, h2⟩ := arr_of (ty := .long) (hts _ (List.mem_append_right _ (tb_1 (List.mem_of_getElem? (i := 103) rfl)))) (fun C => by simp)
  obtain ⟨a3, h3⟩ := arr_of (ty := .byte) (hts _ (List.mem_append_right _ (tb_1 (List.mem_of_getElem? (i := 69) rfl)))) (fun C => by simp)
  obtain ⟨a4, h4⟩ := arr_of (ty := .boolean) (hts _ (List.mem_append_right _ (tb_2 (List.mem_of_getElem? (i := 190) rfl)))) (fun C => by simp)
  obtain ⟨a5, h5⟩ := arr_ofO (C := "NinetyPlayers$Laying") (hts _ (List.mem_append_right _ (tb_2 (List.mem_of_getElem? (i := 8) rfl))))
  refine ⟨(fun k => match k with | 0 => c0 | 1 => c1 | 2 => c2 | 3 => c3 | 4 => c4 | 5 => c5 | 6 => c6 | 7 => c7 | 8 => c8 | 9 => c9 | 10 => c10 | _ => c11, fun k => match k with | 0 => i0 | 1 => i1 | 2 => i2 | 3 => i3 | 4 => i4 | 5 => i5 | 6 => i6 | 7 => i7 | 8 => i8 | 9 => i9 | 10 => i10 | _ => i11), fun k => match k with | 2 => a2 | 3 => a3 | 4 => a4 | 5 => a5 | _ => a1, ?_, ?_⟩
  · intro k q hq
    match k, hq with
    | 0, hq => cases hq; exact g0
    | 1, hq => cases hq; exact g1
    | 2, hq => cases hq; exact g2
    | 3, hq => cases hq; exact g3
    | 4, hq => cases hq; exact g4
    | 5, hq => cases hq; exact g5
    | 6, hq => cases hq; exact g6
    | 7, hq => cases hq; exact g7
    | 8, hq => cases hq; exact g8
    | 9, hq => cases hq; exact g9
    | 10, hq => cases hq; exact g10
    | 11, hq => cases hq; exact g11
    | k + 12, hq => simp [classes] at hq
  · intro k q hq
    match k, hq with
    | 0, hq => cases hq; exact h1
    | 1, hq => cases hq; exact h1
    | 2, hq => cases hq; exact h2
    | 3, hq => cases hq; exact h3
    | 4, hq => cases hq; exact h4
    | 5, hq => cases hq; exact h5
    | k + 6, hq => simp [tyL] at hq
theorem x_start {X : Nat × (Nat → Int32)} {s : State} {b : Nat} (hts : ∀ w ∈ lw_tbl, w.before #[Value.ref b] s = true) (hX : va_X b X.1 X.2 s s.heap) (hbl : b < s.heap.size) (hgv : startC.before #[Value.ref b] s = true) : ∃ σ : Sg, σ.1 1010 = b ∧ Ext X σ (fun q => s.heap.size ≤ q) s := by
  have hs := flat_of_before startC hgv
  have hA : ∀ a : Nat, a < s.heap.size → ¬ (fun q => s.heap.size ≤ q) a := fun a h => Nat.not_le.mpr h
  obtain ⟨adK, adV, hS, hev⟩ := vk_Sof (N := 2) (tm := tmS) (len := lenS) (byt := bytS) (A := fun q => s.heap.size ≤ q) (by decide) (fun i hi => hs _ (st_ex i hi)) (fun i hi => hs _ (st_co i hi)) (fun i hi => hs _ (st_ar i hi)) (fun i hi => hs _ (st_le i hi)) (fun i hi j hj => hs _ (st_el i hi j hj)) (fun i j hi hj hij => by
    rcases (by omega : (i = 0 ∧ j = 1) ∨ (i = 1 ∧ j = 0)) with ⟨rfl, rfl⟩ | ⟨rfl, rfl⟩
    · exact Or.inl (hs _ st_ne)
    · exact Or.inr (hs _ st_ne)) hA
  have hcs := va_Zof (C := "java/lang/String") (n := "COMPACT_STRINGS") (d := "Z") (hts _ (List.mem_append_right _ (tb_3 (List.mem_of_getElem? (i := 51) rfl)))) (hts _ (List.mem_append_right _ (tb_1 (List.mem_of_getElem? (i := 14) rfl)))) (va_eqi (hs _ st_cs)) hA
  have hfm := va_Zqof (C := "jdk/internal/util/Preconditions") (n := "SIOOBE_FORMATTER") (d := "Ljava/util/function/BiFunction;") (hts _ (List.mem_append_right _ (tb_3 (List.mem_of_getElem? (i := 67) rfl)))) (hts _ (List.mem_append_right _ (tb_1 (List.mem_of_getElem? (i := 16) rfl)))) (hs _ st_fm) hA
  obtain ⟨fm, hfz, hfv⟩ : ∃ fm : Value, va_Z "jdk/internal/util/Preconditions" "SIOOBE_FORMATTER" "Ljava/util/function/BiFunction;" fm (fun q => s.heap.size ≤ q) s s.heap ∧ (fm = .null ∨ ∃ t, fm = .ref t) := by
    rcases hfm with h | ⟨t, h⟩
    · exact ⟨_, h, Or.inl rfl⟩
    · exact ⟨_, h, Or.inr ⟨t, rfl⟩⟩
  refine ⟨(fun j => if j = 1010 then b else if j = 1000 then adK 0 else if j = 1001 then adV 0 else if j = 1002 then adK 1 else if j = 1003 then adV 1 else 0, fm), rfl, ?_, ⟨?_, ?_⟩, hcs, ⟨hfz, hfv⟩, ?_, ?_, hX, hbl, Nat.not_le.mpr hbl⟩
  · refine ⟨fun i hi => ?_, fun i j hi hj hij => ?_⟩
    · rcases (by omega : i = 0 ∨ i = 1) with rfl | rfl
      · exact hS.1 0 (by omega)
      · exact hS.1 1 (by omega)
    · apply hS.2 i j hi hj
      rcases (by omega : i = 0 ∨ i = 1) with rfl | rfl <;> rcases (by omega : j = 0 ∨ j = 1) with rfl | rfl <;> first | rfl | exact hij
  · exact vk_R.of (hts _ (List.mem_append_right _ (tb_3 (List.mem_of_getElem? (i := 41) rfl)))) (hev 0 (by omega))
  · exact vk_R.of (hts _ (List.mem_append_right _ (tb_3 (List.mem_of_getElem? (i := 97) rfl)))) (hev 1 (by omega))
  · intro w hw
    obtain ⟨a, i, x, n, rfl⟩ := nest_all w hw
    refine va_Nw.of rfl (hts _ ?_)
    exact (by decide +kernel : ∀ w ∈ nestL, w ∈ lw_tbl) _ hw
  · exact va_AO.of (hts _ (List.mem_append_right _ (tb_2 (List.mem_of_getElem? (i := 8) rfl))))
/-- THE BRIDGE: the law's walk out of the judgement -/
theorem whole_of {p : Program} {e : Env} {s : State} {m : MethodId} {below : List Frame} {meth : Method} {c : Code} (l : Launch) {b L : Nat} {xs : Nat → Int32} (C0 : lw_At p s m meth c b L xs) {D0 : Nat} (hD0 : D0 ≤ 1000) {S' : St} (hE : Ev (L, xs) D0 mZ_law 0 [(0, .ref 1010)] [] [] M0 (some (.int 1)) KS (mk S')) : W p l e room_1 s m #[Value.ref b] below meth c s.heap [] 0 0 (lw_Z below #[Value.ref b] s) (entryFrame m ([Value.ref b] : List Value).toArray 4) := by
  obtain ⟨hx, hb, hr, hml, hown, hts, hX, hbl, hlocks, hgv⟩ := id C0
  obtain ⟨D, dA, hK⟩ := k_start hts
  obtain ⟨σ, hσ, hE0⟩ := x_start (X := (L, xs)) hts hX hbl hgv
  have hl := lv_entry ([.ref b]) (n := 4) (Nat.le_of_ble_eq_true rfl)
  rw [lg_entry_eq]
  generalize (lg_sl ([.ref b]) ++ List.replicate (4 - (lg_sl ([.ref b])).length) Slot.unset).toArray = ls at hl ⊢
  have hl : lv_has ls 4 (lvr σ [(0, .ref 1010)]) := by
    show lv_has ls 4 [(0, .ref (σ.1 1010))]
    rw [hσ]; exact hl
  have hkz : kz KS ≤ 7302250 := by decide +kernel
  refine hE l p e room_1 s m #[Value.ref b] below meth c D dA σ (fun q => s.heap.size ≤ q) s.heap [] 0 0 KS.length (kz KS) ls _ ⟨hx, hb, hml, hown, fun w hw => hts w (gw_lw hw), hr, hlocks, fun z => absurd z (by decide), hK, fun _ h => h, hE0, (by show D0 ≤ 2048; omega), (by show 64 * D0 ≤ 84000; omega)⟩ (fun k q h => by simp [wld] at h) ⟨fun i j p q h => by simp [wld] at h, fun k q h => by simp [wld] at h⟩ va_S.rf hl (by simp) (by simp [kz]) (by show KS.length ≤ 600000; decide) (by show kz KS ≤ 7302250; omega) ?_
  intro pc' ls' σ' H' locs' hd _ _ _ _ hS'
  refine va_forget hS'.2.2 ?_
  refine W.widen (k := 600000) (n := 7302250) (by decide) hkz ?_
  exact lw_ret hx hb hr hlocks hd
/-- what is left: the law's own loop, as a function, answers 1 -/
def LawOK : Prop := ∀ X : Nat × (Nat → Int32), X.1 ≤ 384 → ∃ (F : Nat) (S' : St), fx2 (b_Z_law_18 F 100 X) F 0 S0 = some (1, S')
theorem whole_out (h : LawOK) {p : Program} {e : Env} {s : State} {m : MethodId} {below : List Frame} {meth : Method} {c : Code} (l : Launch) {b L : Nat} {xs : Nat → Int32} (hL : L ≤ 384) (C0 : lw_At p s m meth c b L xs) : W p l e room_1 s m #[Value.ref b] below meth c s.heap [] 0 0 (lw_Z below #[Value.ref b] s) (entryFrame m ([Value.ref b] : List Value).toArray 4) := by
  obtain ⟨F, S', h⟩ := h (L, xs) hL
  have k := T_Z_law_18 (X := (L, xs)) (D := 299 + 200) (F := F) (G := 100) (by omega) F 0 S0 (1, S') h
  exact whole_of l C0 (D0 := 500) (by omega) (law_start (D := 495) k)
