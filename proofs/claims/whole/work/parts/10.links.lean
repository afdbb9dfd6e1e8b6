/-! the library's Math by its own laws -/
def mMmax (own : String) (idx : Nat) : Prop := Cond.methodLink own idx Lib.Math.max.name ∈ GW ∧ Cond.static Lib.Math.max.name ∈ GW ∧ Cond.initialized "java/lang/Math" ∈ GW ∧ Cond.code Lib.Math.max.name Lib.Math.max.code 2 (some .int) ∈ GW
theorem y_mmax {X : Nat × (Nat → Int32)} {d : Nat} {μ : Mt} {pc : Nat} {L : List (Nat × Value)} {st : List Value} {S : St} {r : Option Value} {S' : St} {idx : Nat} {x y : Int32} (hd : decode μ.2.1 pc = .ok (.invokestatic idx, 3)) (hw : mMmax μ.1.cls idx) (hst : (st.map fun v => v.category).sum ≤ 8) (k : Ek X (d + 1) μ (pc + 3) L (.int (if x < y then y else x) :: st) S r S') : Ek X (d + 1) μ pc L (.int y :: .int x :: st) S r S' := by
  intro l p e R s m args below meth c D dA σ A H locs cells slots mc ms ls Q C hP hD hS hl h1 h2 h3 h4 hret
  obtain ⟨hx, hb, hml, hown, hts, hr, hlk, hnm, hK, hA, hX, hfr, hlo⟩ := id C
  have hF : ((st.map (rv σ)).map fun v => v.category).sum + 13 ≤ R.locals := by
    rw [cat_sum hX.2.2.2.1.2]
    omega
  exact va_mmax hx hb (hml.trans hl.1.symm) hown (hts _ hw.1) (hts _ hw.2.1) (hts _ hw.2.2.1) (hts _ hw.2.2.2) (by omega) hF (by omega) (by omega) hd (k l p e R s m args below meth c D dA σ A H locs cells slots mc ms ls Q C hP hD hS hl h1 h2 h3 h4 hret)
def mMmin (own : String) (idx : Nat) : Prop := Cond.methodLink own idx Lib.Math.min.name ∈ GW ∧ Cond.static Lib.Math.min.name ∈ GW ∧ Cond.initialized "java/lang/Math" ∈ GW ∧ Cond.code Lib.Math.min.name Lib.Math.min.code 2 (some .int) ∈ GW
theorem y_mmin {X : Nat × (Nat → Int32)} {d : Nat} {μ : Mt} {pc : Nat} {L : List (Nat × Value)} {st : List Value} {S : St} {r : Option Value} {S' : St} {idx : Nat} {x y : Int32} (hd : decode μ.2.1 pc = .ok (.invokestatic idx, 3)) (hw : mMmin μ.1.cls idx) (hst : (st.map fun v => v.category).sum ≤ 8) (k : Ek X (d + 1) μ (pc + 3) L (.int (if y < x then y else x) :: st) S r S') : Ek X (d + 1) μ pc L (.int y :: .int x :: st) S r S' := by
  intro l p e R s m args below meth c D dA σ A H locs cells slots mc ms ls Q C hP hD hS hl h1 h2 h3 h4 hret
  obtain ⟨hx, hb, hml, hown, hts, hr, hlk, hnm, hK, hA, hX, hfr, hlo⟩ := id C
  have hF : ((st.map (rv σ)).map fun v => v.category).sum + 13 ≤ R.locals := by
    rw [cat_sum hX.2.2.2.1.2]
    omega
  exact va_mmin hx hb (hml.trans hl.1.symm) hown (hts _ hw.1) (hts _ hw.2.1) (hts _ hw.2.2.1) (hts _ hw.2.2.2) (by omega) hF (by omega) (by omega) hd (k l p e R s m args below meth c D dA σ A H locs cells slots mc ms ls Q C hP hD hS hl h1 h2 h3 h4 hret)
def mMabs (own : String) (idx : Nat) : Prop := Cond.methodLink own idx Lib.Math.abs.name ∈ GW ∧ Cond.static Lib.Math.abs.name ∈ GW ∧ Cond.initialized "java/lang/Math" ∈ GW ∧ Cond.code Lib.Math.abs.name Lib.Math.abs.code 1 (some .int) ∈ GW
theorem y_mabs {X : Nat × (Nat → Int32)} {d : Nat} {μ : Mt} {pc : Nat} {L : List (Nat × Value)} {st : List Value} {S : St} {r : Option Value} {S' : St} {idx : Nat} {x : Int32} (hd : decode μ.2.1 pc = .ok (.invokestatic idx, 3)) (hw : mMabs μ.1.cls idx) (hst : (st.map fun v => v.category).sum ≤ 8) (k : Ek X (d + 1) μ (pc + 3) L (.int (if 0 ≤ x then x else 0 - x) :: st) S r S') : Ek X (d + 1) μ pc L (.int x :: st) S r S' := by
  intro l p e R s m args below meth c D dA σ A H locs cells slots mc ms ls Q C hP hD hS hl h1 h2 h3 h4 hret
  obtain ⟨hx, hb, hml, hown, hts, hr, hlk, hnm, hK, hA, hX, hfr, hlo⟩ := id C
  have hF : ((st.map (rv σ)).map fun v => v.category).sum + 13 ≤ R.locals := by
    rw [cat_sum hX.2.2.2.1.2]
    omega
  exact va_mabs hx hb (hml.trans hl.1.symm) hown (hts _ hw.1) (hts _ hw.2.1) (hts _ hw.2.2.1) (hts _ hw.2.2.2) (by omega) hF (by omega) (by omega) hd (k l p e R s m args below meth c D dA σ A H locs cells slots mc ms ls Q C hP hD hS hl h1 h2 h3 h4 hret)
/-! methods, and what the tables say of them -/
theorem yk_1 : yOK m1 0 := ⟨⟨by decide, by decide, by decide +kernel⟩, by decide +kernel, by decide, gw_of (tb_1 (List.mem_of_getElem? (i := 26) rfl)) rfl, gw_of (tb_1 (List.mem_of_getElem? (i := 1) rfl)) rfl⟩
theorem yk_3 : yOK m3 1 := ⟨⟨by decide, by decide, by decide +kernel⟩, by decide +kernel, by decide, gw_of (tb_1 (List.mem_of_getElem? (i := 34) rfl)) rfl, gw_of (tb_1 (List.mem_of_getElem? (i := 2) rfl)) rfl⟩
theorem yk_4 : yOK m4 0 := ⟨⟨by decide, by decide, by decide +kernel⟩, by decide +kernel, by decide, gw_of (tb_1 (List.mem_of_getElem? (i := 40) rfl)) rfl, gw_of (tb_1 (List.mem_of_getElem? (i := 3) rfl)) rfl⟩
theorem yk_5 : yOK m5 0 := ⟨⟨by decide, by decide, by decide +kernel⟩, by decide +kernel, by decide, gw_of (tb_1 (List.mem_of_getElem? (i := 46) rfl)) rfl, gw_of (tb_1 (List.mem_of_getElem? (i := 4) rfl)) rfl⟩
theorem yk_6 : yOK m6 0 := ⟨⟨by decide, by decide, by decide +kernel⟩, by decide +kernel, by decide, gw_of (tb_1 (List.mem_of_getElem? (i := 75) rfl)) rfl, gw_of (tb_1 (List.mem_of_getElem? (i := 3) rfl)) rfl⟩
theorem yk_7 : yOK m7 0 := ⟨⟨by decide, by decide, by decide +kernel⟩, by decide +kernel, by decide, gw_of (tb_1 (List.mem_of_getElem? (i := 79) rfl)) rfl, gw_of (tb_1 (List.mem_of_getElem? (i := 4) rfl)) rfl⟩
theorem yk_8 : yOK m8 1 := ⟨⟨by decide, by decide, by decide +kernel⟩, by decide +kernel, by decide, gw_of (tb_1 (List.mem_of_getElem? (i := 165) rfl)) rfl, gw_of (tb_1 (List.mem_of_getElem? (i := 5) rfl)) rfl⟩
theorem yk_9 : yOK m9 0 := ⟨⟨by decide, by decide, by decide +kernel⟩, by decide +kernel, by decide, gw_of (tb_1 (List.mem_of_getElem? (i := 217) rfl)) rfl, gw_of (tb_1 (List.mem_of_getElem? (i := 6) rfl)) rfl⟩
theorem yk_10 : yOK m10 0 := ⟨⟨by decide, by decide, by decide +kernel⟩, by decide +kernel, by decide, gw_of (tb_2 (List.mem_of_getElem? (i := 11) rfl)) rfl, gw_of (tb_1 (List.mem_of_getElem? (i := 7) rfl)) rfl⟩
theorem yk_11 : yOK m11 0 := ⟨⟨by decide, by decide, by decide +kernel⟩, by decide +kernel, by decide, gw_of (tb_2 (List.mem_of_getElem? (i := 38) rfl)) rfl, gw_of (tb_1 (List.mem_of_getElem? (i := 8) rfl)) rfl⟩
theorem yk_12 : yOK m12 2 := ⟨⟨by decide, by decide, by decide +kernel⟩, by decide +kernel, by decide, gw_of (tb_2 (List.mem_of_getElem? (i := 96) rfl)) rfl, gw_of (tb_1 (List.mem_of_getElem? (i := 9) rfl)) rfl⟩
theorem yk_13 : yOK m13 1 := ⟨⟨by decide, by decide, by decide +kernel⟩, by decide +kernel, by decide, gw_of (tb_2 (List.mem_of_getElem? (i := 133) rfl)) rfl, gw_of (tb_1 (List.mem_of_getElem? (i := 10) rfl)) rfl⟩
theorem yk_14 : yOK m14 0 := ⟨⟨by decide, by decide, by decide +kernel⟩, by decide +kernel, by decide, gw_of (tb_2 (List.mem_of_getElem? (i := 146) rfl)) rfl, gw_of (tb_1 (List.mem_of_getElem? (i := 11) rfl)) rfl⟩
theorem yk_15 : yOK m15 1 := ⟨⟨by decide, by decide, by decide +kernel⟩, by decide +kernel, by decide, gw_of (tb_2 (List.mem_of_getElem? (i := 193) rfl)) rfl, gw_of (tb_1 (List.mem_of_getElem? (i := 6) rfl)) rfl⟩
theorem yk_16 : yOK m16 5 := ⟨⟨by decide, by decide, by decide +kernel⟩, by decide +kernel, by decide, gw_of (tb_3 (List.mem_of_getElem? (i := 0) rfl)) rfl, gw_of (tb_1 (List.mem_of_getElem? (i := 1) rfl)) rfl⟩
theorem yk_17 : yOK m17 1 := ⟨⟨by decide, by decide, by decide +kernel⟩, by decide +kernel, by decide, gw_of (tb_3 (List.mem_of_getElem? (i := 4) rfl)) rfl, gw_of (tb_1 (List.mem_of_getElem? (i := 1) rfl)) rfl⟩
theorem yk_18 : yOK m18 1 := ⟨⟨by decide, by decide, by decide +kernel⟩, by decide +kernel, by decide, gw_of (tb_3 (List.mem_of_getElem? (i := 8) rfl)) rfl, gw_of (tb_1 (List.mem_of_getElem? (i := 1) rfl)) rfl⟩
theorem yk_19 : yOK m19 0 := ⟨⟨by decide, by decide, by decide +kernel⟩, by decide +kernel, by decide, gw_of (tb_3 (List.mem_of_getElem? (i := 12) rfl)) rfl, gw_of (tb_1 (List.mem_of_getElem? (i := 1) rfl)) rfl⟩
theorem yk_20 : yOK m20 1 := ⟨⟨by decide, by decide, by decide +kernel⟩, by decide +kernel, by decide, gw_of (tb_3 (List.mem_of_getElem? (i := 16) rfl)) rfl, gw_of (tb_1 (List.mem_of_getElem? (i := 2) rfl)) rfl⟩
theorem yk_21 : yOK m21 1 := ⟨⟨by decide, by decide, by decide +kernel⟩, by decide +kernel, by decide, gw_of (tb_3 (List.mem_of_getElem? (i := 21) rfl)) rfl, gw_of (tb_1 (List.mem_of_getElem? (i := 5) rfl)) rfl⟩
theorem yk_24 : yOK m24 0 := ⟨⟨by decide, by decide, by decide +kernel⟩, by decide +kernel, by decide, gw_of (tb_3 (List.mem_of_getElem? (i := 31) rfl)) rfl, gw_of (tb_1 (List.mem_of_getElem? (i := 5) rfl)) rfl⟩
theorem yk_25 : yOK m25 1 := ⟨⟨by decide, by decide, by decide +kernel⟩, by decide +kernel, by decide, gw_of (tb_3 (List.mem_of_getElem? (i := 35) rfl)) rfl, gw_of (tb_1 (List.mem_of_getElem? (i := 5) rfl)) rfl⟩
theorem yk_26 : yOK m26 1 := ⟨⟨by decide, by decide, by decide +kernel⟩, by decide +kernel, by decide, gw_of (tb_3 (List.mem_of_getElem? (i := 38) rfl)) rfl, gw_of (tb_1 (List.mem_of_getElem? (i := 5) rfl)) rfl⟩
theorem yk_27 : yOK m27 1 := ⟨⟨by decide, by decide, by decide +kernel⟩, by decide +kernel, by decide, gw_of (tb_3 (List.mem_of_getElem? (i := 41) rfl)) rfl, gw_of (tb_1 (List.mem_of_getElem? (i := 5) rfl)) rfl⟩
theorem yk_28 : yOK m28 0 := ⟨⟨by decide, by decide, by decide +kernel⟩, by decide +kernel, by decide, gw_of (tb_3 (List.mem_of_getElem? (i := 45) rfl)) rfl, gw_of (tb_1 (List.mem_of_getElem? (i := 5) rfl)) rfl⟩
theorem yk_29 : yOK m29 3 := ⟨⟨by decide, by decide, by decide +kernel⟩, by decide +kernel, by decide, gw_of (tb_3 (List.mem_of_getElem? (i := 48) rfl)) rfl, gw_of (tb_1 (List.mem_of_getElem? (i := 14) rfl)) rfl⟩
theorem yk_30 : yOK m30 4 := ⟨⟨by decide, by decide, by decide +kernel⟩, by decide +kernel, by decide, gw_of (tb_3 (List.mem_of_getElem? (i := 51) rfl)) rfl, gw_of (tb_1 (List.mem_of_getElem? (i := 14) rfl)) rfl⟩
theorem yk_31 : yOK m31 0 := ⟨⟨by decide, by decide, by decide +kernel⟩, by decide +kernel, by decide, gw_of (tb_3 (List.mem_of_getElem? (i := 56) rfl)) rfl, gw_of (tb_1 (List.mem_of_getElem? (i := 15) rfl)) rfl⟩
theorem yk_32 : yOK m32 0 := ⟨⟨by decide, by decide, by decide +kernel⟩, by decide +kernel, by decide, gw_of (tb_3 (List.mem_of_getElem? (i := 60) rfl)) rfl, gw_of (tb_1 (List.mem_of_getElem? (i := 15) rfl)) rfl⟩
theorem yk_33 : yOK m33 1 := ⟨⟨by decide, by decide, by decide +kernel⟩, by decide +kernel, by decide, gw_of (tb_3 (List.mem_of_getElem? (i := 66) rfl)) rfl, gw_of (tb_1 (List.mem_of_getElem? (i := 15) rfl)) rfl⟩
theorem yk_34 : yOK m34 0 := ⟨⟨by decide, by decide, by decide +kernel⟩, by decide +kernel, by decide, gw_of (tb_3 (List.mem_of_getElem? (i := 70) rfl)) rfl, gw_of (tb_1 (List.mem_of_getElem? (i := 15) rfl)) rfl⟩
theorem yk_35 : yOK m35 2 := ⟨⟨by decide, by decide, by decide +kernel⟩, by decide +kernel, by decide, gw_of (tb_3 (List.mem_of_getElem? (i := 73) rfl)) rfl, gw_of (tb_1 (List.mem_of_getElem? (i := 16) rfl)) rfl⟩
theorem yk_36 : yOK m36 2 := ⟨⟨by decide, by decide, by decide +kernel⟩, by decide +kernel, by decide, gw_of (tb_3 (List.mem_of_getElem? (i := 76) rfl)) rfl, gw_of (tb_1 (List.mem_of_getElem? (i := 15) rfl)) rfl⟩
theorem yk_37 : yOK m37 3 := ⟨⟨by decide, by decide, by decide +kernel⟩, by decide +kernel, by decide, gw_of (tb_3 (List.mem_of_getElem? (i := 81) rfl)) rfl, gw_of (tb_1 (List.mem_of_getElem? (i := 17) rfl)) rfl⟩
theorem yk_42 : yOK m42 1 := ⟨⟨by decide, by decide, by decide +kernel⟩, by decide +kernel, by decide, gw_of (tb_3 (List.mem_of_getElem? (i := 103) rfl)) rfl, gw_of (tb_1 (List.mem_of_getElem? (i := 5) rfl)) rfl⟩
theorem yk_43 : yOK m43 0 := ⟨⟨by decide, by decide, by decide +kernel⟩, by decide +kernel, by decide, gw_of (tb_3 (List.mem_of_getElem? (i := 107) rfl)) rfl, gw_of (tb_1 (List.mem_of_getElem? (i := 5) rfl)) rfl⟩
theorem yk_44 : yOK m44 1 := ⟨⟨by decide, by decide, by decide +kernel⟩, by decide +kernel, by decide, gw_of (tb_3 (List.mem_of_getElem? (i := 112) rfl)) rfl, gw_of (tb_1 (List.mem_of_getElem? (i := 15) rfl)) rfl⟩
theorem yk_45 : yOK m45 2 := ⟨⟨by decide, by decide, by decide +kernel⟩, by decide +kernel, by decide, gw_of (tb_3 (List.mem_of_getElem? (i := 116) rfl)) rfl, gw_of (tb_1 (List.mem_of_getElem? (i := 15) rfl)) rfl⟩
theorem yk_46 : yOK m46 4 := ⟨⟨by decide, by decide, by decide +kernel⟩, by decide +kernel, by decide, gw_of (tb_3 (List.mem_of_getElem? (i := 120) rfl)) rfl, gw_of (tb_1 (List.mem_of_getElem? (i := 16) rfl)) rfl⟩
theorem yk_47 : yOK m47 1 := ⟨⟨by decide, by decide, by decide +kernel⟩, by decide +kernel, by decide, gw_of (tb_3 (List.mem_of_getElem? (i := 123) rfl)) rfl, gw_of (tb_1 (List.mem_of_getElem? (i := 16) rfl)) rfl⟩
theorem yk_48 : yOK m48 4 := ⟨⟨by decide, by decide, by decide +kernel⟩, by decide +kernel, by decide, gw_of (tb_3 (List.mem_of_getElem? (i := 128) rfl)) rfl, gw_of (tb_1 (List.mem_of_getElem? (i := 16) rfl)) rfl⟩
theorem yk_59 : yOK m59 0 := ⟨⟨by decide, by decide, by decide +kernel⟩, by decide +kernel, by decide, gw_of (tb_3 (List.mem_of_getElem? (i := 167) rfl)) rfl, gw_of (tb_1 (List.mem_of_getElem? (i := 2) rfl)) rfl⟩
theorem yk_60 : yOK m60 1 := ⟨⟨by decide, by decide, by decide +kernel⟩, by decide +kernel, by decide, gw_of (tb_3 (List.mem_of_getElem? (i := 171) rfl)) rfl, gw_of (tb_1 (List.mem_of_getElem? (i := 2) rfl)) rfl⟩
theorem yk_61 : yOK m61 1 := ⟨⟨by decide, by decide, by decide +kernel⟩, by decide +kernel, by decide, gw_of (tb_3 (List.mem_of_getElem? (i := 175) rfl)) rfl, gw_of (tb_1 (List.mem_of_getElem? (i := 2) rfl)) rfl⟩
theorem yk_62 : yOK m62 2 := ⟨⟨by decide, by decide, by decide +kernel⟩, by decide +kernel, by decide, gw_of (tb_3 (List.mem_of_getElem? (i := 180) rfl)) rfl, gw_of (tb_1 (List.mem_of_getElem? (i := 2) rfl)) rfl⟩
theorem yk_63 : yOK m63 0 := ⟨⟨by decide, by decide, by decide +kernel⟩, by decide +kernel, by decide, gw_of (tb_3 (List.mem_of_getElem? (i := 184) rfl)) rfl, gw_of (tb_1 (List.mem_of_getElem? (i := 2) rfl)) rfl⟩
theorem yk_64 : yOK m64 1 := ⟨⟨by decide, by decide, by decide +kernel⟩, by decide +kernel, by decide, gw_of (tb_3 (List.mem_of_getElem? (i := 188) rfl)) rfl, gw_of (tb_1 (List.mem_of_getElem? (i := 3) rfl)) rfl⟩
theorem yk_65 : yOK m65 1 := ⟨⟨by decide, by decide, by decide +kernel⟩, by decide +kernel, by decide, gw_of (tb_3 (List.mem_of_getElem? (i := 192) rfl)) rfl, gw_of (tb_1 (List.mem_of_getElem? (i := 2) rfl)) rfl⟩
theorem yk_66 : yOK m66 1 := ⟨⟨by decide, by decide, by decide +kernel⟩, by decide +kernel, by decide, gw_of (tb_3 (List.mem_of_getElem? (i := 196) rfl)) rfl, gw_of (tb_1 (List.mem_of_getElem? (i := 2) rfl)) rfl⟩
theorem yk_67 : yOK m67 2 := ⟨⟨by decide, by decide, by decide +kernel⟩, by decide +kernel, by decide, gw_of (tb_3 (List.mem_of_getElem? (i := 200) rfl)) rfl, gw_of (tb_1 (List.mem_of_getElem? (i := 3) rfl)) rfl⟩
theorem yk_68 : yOK m68 0 := ⟨⟨by decide, by decide, by decide +kernel⟩, by decide +kernel, by decide, gw_of (tb_3 (List.mem_of_getElem? (i := 204) rfl)) rfl, gw_of (tb_1 (List.mem_of_getElem? (i := 2) rfl)) rfl⟩
theorem yk_69 : yOK m69 1 := ⟨⟨by decide, by decide, by decide +kernel⟩, by decide +kernel, by decide, gw_of (tb_3 (List.mem_of_getElem? (i := 208) rfl)) rfl, gw_of (tb_1 (List.mem_of_getElem? (i := 3) rfl)) rfl⟩
theorem yk_70 : yOK m70 1 := ⟨⟨by decide, by decide, by decide +kernel⟩, by decide +kernel, by decide, gw_of (tb_3 (List.mem_of_getElem? (i := 212) rfl)) rfl, gw_of (tb_1 (List.mem_of_getElem? (i := 2) rfl)) rfl⟩
theorem yk_71 : yOK m71 0 := ⟨⟨by decide, by decide, by decide +kernel⟩, by decide +kernel, by decide, gw_of (tb_3 (List.mem_of_getElem? (i := 216) rfl)) rfl, gw_of (tb_1 (List.mem_of_getElem? (i := 2) rfl)) rfl⟩
theorem yk_72 : yOK m72 6 := ⟨⟨by decide, by decide, by decide +kernel⟩, by decide +kernel, by decide, gw_of (tb_3 (List.mem_of_getElem? (i := 220) rfl)) rfl, gw_of (tb_1 (List.mem_of_getElem? (i := 3) rfl)) rfl⟩
theorem yk_73 : yOK m73 1 := ⟨⟨by decide, by decide, by decide +kernel⟩, by decide +kernel, by decide, gw_of (tb_3 (List.mem_of_getElem? (i := 224) rfl)) rfl, gw_of (tb_1 (List.mem_of_getElem? (i := 2) rfl)) rfl⟩
theorem yk_74 : yOK m74 1 := ⟨⟨by decide, by decide, by decide +kernel⟩, by decide +kernel, by decide, gw_of (tb_3 (List.mem_of_getElem? (i := 228) rfl)) rfl, gw_of (tb_1 (List.mem_of_getElem? (i := 2) rfl)) rfl⟩
theorem yk_75 : yOK m75 1 := ⟨⟨by decide, by decide, by decide +kernel⟩, by decide +kernel, by decide, gw_of (tb_3 (List.mem_of_getElem? (i := 232) rfl)) rfl, gw_of (tb_1 (List.mem_of_getElem? (i := 2) rfl)) rfl⟩
theorem yk_76 : yOK m76 1 := ⟨⟨by decide, by decide, by decide +kernel⟩, by decide +kernel, by decide, gw_of (tb_3 (List.mem_of_getElem? (i := 236) rfl)) rfl, gw_of (tb_1 (List.mem_of_getElem? (i := 4) rfl)) rfl⟩
theorem yk_77 : yOK m77 1 := ⟨⟨by decide, by decide, by decide +kernel⟩, by decide +kernel, by decide, gw_of (tb_4 (List.mem_of_getElem? (i := 0) rfl)) rfl, gw_of (tb_1 (List.mem_of_getElem? (i := 2) rfl)) rfl⟩
theorem yk_78 : yOK m78 1 := ⟨⟨by decide, by decide, by decide +kernel⟩, by decide +kernel, by decide, gw_of (tb_4 (List.mem_of_getElem? (i := 4) rfl)) rfl, gw_of (tb_1 (List.mem_of_getElem? (i := 2) rfl)) rfl⟩
theorem yk_79 : yOK m79 1 := ⟨⟨by decide, by decide, by decide +kernel⟩, by decide +kernel, by decide, gw_of (tb_4 (List.mem_of_getElem? (i := 8) rfl)) rfl, gw_of (tb_1 (List.mem_of_getElem? (i := 2) rfl)) rfl⟩
theorem yk_80 : yOK m80 1 := ⟨⟨by decide, by decide, by decide +kernel⟩, by decide +kernel, by decide, gw_of (tb_4 (List.mem_of_getElem? (i := 12) rfl)) rfl, gw_of (tb_1 (List.mem_of_getElem? (i := 2) rfl)) rfl⟩
theorem yk_81 : yOK m81 1 := ⟨⟨by decide, by decide, by decide +kernel⟩, by decide +kernel, by decide, gw_of (tb_4 (List.mem_of_getElem? (i := 16) rfl)) rfl, gw_of (tb_1 (List.mem_of_getElem? (i := 2) rfl)) rfl⟩
theorem yk_82 : yOK m82 1 := ⟨⟨by decide, by decide, by decide +kernel⟩, by decide +kernel, by decide, gw_of (tb_4 (List.mem_of_getElem? (i := 20) rfl)) rfl, gw_of (tb_1 (List.mem_of_getElem? (i := 2) rfl)) rfl⟩
theorem yk_83 : yOK m83 0 := ⟨⟨by decide, by decide, by decide +kernel⟩, by decide +kernel, by decide, gw_of (tb_4 (List.mem_of_getElem? (i := 24) rfl)) rfl, gw_of (tb_1 (List.mem_of_getElem? (i := 7) rfl)) rfl⟩
theorem yk_84 : yOK m84 0 := ⟨⟨by decide, by decide, by decide +kernel⟩, by decide +kernel, by decide, gw_of (tb_4 (List.mem_of_getElem? (i := 28) rfl)) rfl, gw_of (tb_1 (List.mem_of_getElem? (i := 11) rfl)) rfl⟩
theorem yk_85 : yOK m85 1 := ⟨⟨by decide, by decide, by decide +kernel⟩, by decide +kernel, by decide, gw_of (tb_4 (List.mem_of_getElem? (i := 32) rfl)) rfl, gw_of (tb_1 (List.mem_of_getElem? (i := 1) rfl)) rfl⟩
theorem yk_86 : yOK m86 2 := ⟨⟨by decide, by decide, by decide +kernel⟩, by decide +kernel, by decide, gw_of (tb_4 (List.mem_of_getElem? (i := 36) rfl)) rfl, gw_of (tb_1 (List.mem_of_getElem? (i := 1) rfl)) rfl⟩
theorem yk_87 : yOK m87 1 := ⟨⟨by decide, by decide, by decide +kernel⟩, by decide +kernel, by decide, gw_of (tb_4 (List.mem_of_getElem? (i := 40) rfl)) rfl, gw_of (tb_1 (List.mem_of_getElem? (i := 1) rfl)) rfl⟩
theorem yk_88 : yOK m88 1 := ⟨⟨by decide, by decide, by decide +kernel⟩, by decide +kernel, by decide, gw_of (tb_4 (List.mem_of_getElem? (i := 44) rfl)) rfl, gw_of (tb_1 (List.mem_of_getElem? (i := 1) rfl)) rfl⟩
theorem yk_89 : yOK m89 1 := ⟨⟨by decide, by decide, by decide +kernel⟩, by decide +kernel, by decide, gw_of (tb_4 (List.mem_of_getElem? (i := 48) rfl)) rfl, gw_of (tb_1 (List.mem_of_getElem? (i := 3) rfl)) rfl⟩
theorem yk_90 : yOK m90 1 := ⟨⟨by decide, by decide, by decide +kernel⟩, by decide +kernel, by decide, gw_of (tb_4 (List.mem_of_getElem? (i := 52) rfl)) rfl, gw_of (tb_1 (List.mem_of_getElem? (i := 1) rfl)) rfl⟩
theorem yk_91 : yOK m91 1 := ⟨⟨by decide, by decide, by decide +kernel⟩, by decide +kernel, by decide, gw_of (tb_4 (List.mem_of_getElem? (i := 55) rfl)) rfl, gw_of (tb_1 (List.mem_of_getElem? (i := 20) rfl)) rfl⟩
theorem yk_92 : yOK m92 0 := ⟨⟨by decide, by decide, by decide +kernel⟩, by decide +kernel, by decide, gw_of (tb_4 (List.mem_of_getElem? (i := 62) rfl)) rfl, gw_of (tb_1 (List.mem_of_getElem? (i := 4) rfl)) rfl⟩
theorem yk_93 : yOK m93 6 := ⟨⟨by decide, by decide, by decide +kernel⟩, by decide +kernel, by decide, gw_of (tb_4 (List.mem_of_getElem? (i := 66) rfl)) rfl, gw_of (tb_1 (List.mem_of_getElem? (i := 4) rfl)) rfl⟩
theorem yk_94 : yOK m94 1 := ⟨⟨by decide, by decide, by decide +kernel⟩, by decide +kernel, by decide, gw_of (tb_4 (List.mem_of_getElem? (i := 70) rfl)) rfl, gw_of (tb_1 (List.mem_of_getElem? (i := 4) rfl)) rfl⟩
theorem yk_95 : yOK m95 1 := ⟨⟨by decide, by decide, by decide +kernel⟩, by decide +kernel, by decide, gw_of (tb_4 (List.mem_of_getElem? (i := 74) rfl)) rfl, gw_of (tb_1 (List.mem_of_getElem? (i := 4) rfl)) rfl⟩
theorem yk_96 : yOK m96 3 := ⟨⟨by decide, by decide, by decide +kernel⟩, by decide +kernel, by decide, gw_of (tb_4 (List.mem_of_getElem? (i := 77) rfl)) rfl, gw_of (tb_1 (List.mem_of_getElem? (i := 4) rfl)) rfl⟩
theorem yk_97 : yOK m97 2 := ⟨⟨by decide, by decide, by decide +kernel⟩, by decide +kernel, by decide, gw_of (tb_4 (List.mem_of_getElem? (i := 83) rfl)) rfl, gw_of (tb_1 (List.mem_of_getElem? (i := 1) rfl)) rfl⟩
theorem yk_98 : yOK m98 1 := ⟨⟨by decide, by decide, by decide +kernel⟩, by decide +kernel, by decide, gw_of (tb_4 (List.mem_of_getElem? (i := 87) rfl)) rfl, gw_of (tb_1 (List.mem_of_getElem? (i := 3) rfl)) rfl⟩
theorem yk_99 : yOK m99 0 := ⟨⟨by decide, by decide, by decide +kernel⟩, by decide +kernel, by decide, gw_of (tb_4 (List.mem_of_getElem? (i := 91) rfl)) rfl, gw_of (tb_1 (List.mem_of_getElem? (i := 1) rfl)) rfl⟩
theorem yk_100 : yOK m100 1 := ⟨⟨by decide, by decide, by decide +kernel⟩, by decide +kernel, by decide, gw_of (tb_4 (List.mem_of_getElem? (i := 95) rfl)) rfl, gw_of (tb_1 (List.mem_of_getElem? (i := 6) rfl)) rfl⟩
theorem yk_101 : yOK m101 2 := ⟨⟨by decide, by decide, by decide +kernel⟩, by decide +kernel, by decide, gw_of (tb_4 (List.mem_of_getElem? (i := 99) rfl)) rfl, gw_of (tb_1 (List.mem_of_getElem? (i := 1) rfl)) rfl⟩
theorem yk_102 : yOK m102 1 := ⟨⟨by decide, by decide, by decide +kernel⟩, by decide +kernel, by decide, gw_of (tb_4 (List.mem_of_getElem? (i := 103) rfl)) rfl, gw_of (tb_1 (List.mem_of_getElem? (i := 1) rfl)) rfl⟩
theorem yk_103 : yOK m103 1 := ⟨⟨by decide, by decide, by decide +kernel⟩, by decide +kernel, by decide, gw_of (tb_4 (List.mem_of_getElem? (i := 106) rfl)) rfl, gw_of (tb_1 (List.mem_of_getElem? (i := 1) rfl)) rfl⟩
theorem yk_104 : yOK m104 0 := ⟨⟨by decide, by decide, by decide +kernel⟩, by decide +kernel, by decide, gw_of (tb_4 (List.mem_of_getElem? (i := 110) rfl)) rfl, gw_of (tb_1 (List.mem_of_getElem? (i := 1) rfl)) rfl⟩
theorem yk_105 : yOK m105 2 := ⟨⟨by decide, by decide, by decide +kernel⟩, by decide +kernel, by decide, gw_of (tb_4 (List.mem_of_getElem? (i := 114) rfl)) rfl, gw_of (tb_1 (List.mem_of_getElem? (i := 8) rfl)) rfl⟩
theorem yk_106 : yOK m106 1 := ⟨⟨by decide, by decide, by decide +kernel⟩, by decide +kernel, by decide, gw_of (tb_4 (List.mem_of_getElem? (i := 119) rfl)) rfl, gw_of (tb_1 (List.mem_of_getElem? (i := 8) rfl)) rfl⟩
theorem yk_107 : yOK m107 2 := ⟨⟨by decide, by decide, by decide +kernel⟩, by decide +kernel, by decide, gw_of (tb_4 (List.mem_of_getElem? (i := 123) rfl)) rfl, gw_of (tb_1 (List.mem_of_getElem? (i := 8) rfl)) rfl⟩
theorem yk_108 : yOK m108 2 := ⟨⟨by decide, by decide, by decide +kernel⟩, by decide +kernel, by decide, gw_of (tb_4 (List.mem_of_getElem? (i := 127) rfl)) rfl, gw_of (tb_1 (List.mem_of_getElem? (i := 8) rfl)) rfl⟩
theorem yk_109 : yOK m109 1 := ⟨⟨by decide, by decide, by decide +kernel⟩, by decide +kernel, by decide, gw_of (tb_4 (List.mem_of_getElem? (i := 131) rfl)) rfl, gw_of (tb_1 (List.mem_of_getElem? (i := 8) rfl)) rfl⟩
theorem yk_110 : yOK m110 1 := ⟨⟨by decide, by decide, by decide +kernel⟩, by decide +kernel, by decide, gw_of (tb_4 (List.mem_of_getElem? (i := 135) rfl)) rfl, gw_of (tb_1 (List.mem_of_getElem? (i := 8) rfl)) rfl⟩
theorem yk_111 : yOK m111 1 := ⟨⟨by decide, by decide, by decide +kernel⟩, by decide +kernel, by decide, gw_of (tb_4 (List.mem_of_getElem? (i := 139) rfl)) rfl, gw_of (tb_1 (List.mem_of_getElem? (i := 1) rfl)) rfl⟩
theorem yk_112 : yOK m112 1 := ⟨⟨by decide, by decide, by decide +kernel⟩, by decide +kernel, by decide, gw_of (tb_4 (List.mem_of_getElem? (i := 143) rfl)) rfl, gw_of (tb_1 (List.mem_of_getElem? (i := 8) rfl)) rfl⟩
theorem yk_113 : yOK m113 1 := ⟨⟨by decide, by decide, by decide +kernel⟩, by decide +kernel, by decide, gw_of (tb_4 (List.mem_of_getElem? (i := 147) rfl)) rfl, gw_of (tb_1 (List.mem_of_getElem? (i := 1) rfl)) rfl⟩
theorem yk_114 : yOK m114 3 := ⟨⟨by decide, by decide, by decide +kernel⟩, by decide +kernel, by decide, gw_of (tb_4 (List.mem_of_getElem? (i := 151) rfl)) rfl, gw_of (tb_1 (List.mem_of_getElem? (i := 8) rfl)) rfl⟩
theorem yk_115 : yOK m115 4 := ⟨⟨by decide, by decide, by decide +kernel⟩, by decide +kernel, by decide, gw_of (tb_4 (List.mem_of_getElem? (i := 155) rfl)) rfl, gw_of (tb_1 (List.mem_of_getElem? (i := 8) rfl)) rfl⟩
theorem yk_116 : yOK m116 2 := ⟨⟨by decide, by decide, by decide +kernel⟩, by decide +kernel, by decide, gw_of (tb_4 (List.mem_of_getElem? (i := 159) rfl)) rfl, gw_of (tb_1 (List.mem_of_getElem? (i := 8) rfl)) rfl⟩
theorem yk_117 : yOK m117 1 := ⟨⟨by decide, by decide, by decide +kernel⟩, by decide +kernel, by decide, gw_of (tb_4 (List.mem_of_getElem? (i := 163) rfl)) rfl, gw_of (tb_1 (List.mem_of_getElem? (i := 8) rfl)) rfl⟩
theorem yk_118 : yOK m118 1 := ⟨⟨by decide, by decide, by decide +kernel⟩, by decide +kernel, by decide, gw_of (tb_4 (List.mem_of_getElem? (i := 168) rfl)) rfl, gw_of (tb_1 (List.mem_of_getElem? (i := 8) rfl)) rfl⟩
theorem yk_120 : yOK m120 1 := ⟨⟨by decide, by decide, by decide +kernel⟩, by decide +kernel, by decide, gw_of (tb_4 (List.mem_of_getElem? (i := 175) rfl)) rfl, gw_of (tb_1 (List.mem_of_getElem? (i := 8) rfl)) rfl⟩
theorem yk_121 : yOK m121 2 := ⟨⟨by decide, by decide, by decide +kernel⟩, by decide +kernel, by decide, gw_of (tb_4 (List.mem_of_getElem? (i := 179) rfl)) rfl, gw_of (tb_1 (List.mem_of_getElem? (i := 1) rfl)) rfl⟩
theorem yk_122 : yOK m122 4 := ⟨⟨by decide, by decide, by decide +kernel⟩, by decide +kernel, by decide, gw_of (tb_4 (List.mem_of_getElem? (i := 183) rfl)) rfl, gw_of (tb_1 (List.mem_of_getElem? (i := 7) rfl)) rfl⟩
theorem yk_123 : yOK m123 0 := ⟨⟨by decide, by decide, by decide +kernel⟩, by decide +kernel, by decide, gw_of (tb_4 (List.mem_of_getElem? (i := 187) rfl)) rfl, gw_of (tb_1 (List.mem_of_getElem? (i := 7) rfl)) rfl⟩
theorem yk_124 : yOK m124 2 := ⟨⟨by decide, by decide, by decide +kernel⟩, by decide +kernel, by decide, gw_of (tb_4 (List.mem_of_getElem? (i := 194) rfl)) rfl, gw_of (tb_1 (List.mem_of_getElem? (i := 6) rfl)) rfl⟩
theorem yk_125 : yOK m125 1 := ⟨⟨by decide, by decide, by decide +kernel⟩, by decide +kernel, by decide, gw_of (tb_4 (List.mem_of_getElem? (i := 198) rfl)) rfl, gw_of (tb_1 (List.mem_of_getElem? (i := 6) rfl)) rfl⟩
theorem yk_126 : yOK m126 3 := ⟨⟨by decide, by decide, by decide +kernel⟩, by decide +kernel, by decide, gw_of (tb_4 (List.mem_of_getElem? (i := 202) rfl)) rfl, gw_of (tb_1 (List.mem_of_getElem? (i := 6) rfl)) rfl⟩
theorem yk_127 : yOK m127 0 := ⟨⟨by decide, by decide, by decide +kernel⟩, by decide +kernel, by decide, gw_of (tb_4 (List.mem_of_getElem? (i := 206) rfl)) rfl, gw_of (tb_1 (List.mem_of_getElem? (i := 1) rfl)) rfl⟩
theorem yk_128 : yOK m128 2 := ⟨⟨by decide, by decide, by decide +kernel⟩, by decide +kernel, by decide, gw_of (tb_4 (List.mem_of_getElem? (i := 210) rfl)) rfl, gw_of (tb_1 (List.mem_of_getElem? (i := 8) rfl)) rfl⟩
theorem yk_129 : yOK m129 2 := ⟨⟨by decide, by decide, by decide +kernel⟩, by decide +kernel, by decide, gw_of (tb_4 (List.mem_of_getElem? (i := 215) rfl)) rfl, gw_of (tb_1 (List.mem_of_getElem? (i := 1) rfl)) rfl⟩
theorem yk_130 : yOK m130 1 := ⟨⟨by decide, by decide, by decide +kernel⟩, by decide +kernel, by decide, gw_of (tb_4 (List.mem_of_getElem? (i := 218) rfl)) rfl, gw_of (tb_1 (List.mem_of_getElem? (i := 1) rfl)) rfl⟩
theorem yk_131 : yOK m131 2 := ⟨⟨by decide, by decide, by decide +kernel⟩, by decide +kernel, by decide, gw_of (tb_4 (List.mem_of_getElem? (i := 222) rfl)) rfl, gw_of (tb_1 (List.mem_of_getElem? (i := 1) rfl)) rfl⟩
theorem yk_132 : yOK m132 2 := ⟨⟨by decide, by decide, by decide +kernel⟩, by decide +kernel, by decide, gw_of (tb_4 (List.mem_of_getElem? (i := 226) rfl)) rfl, gw_of (tb_1 (List.mem_of_getElem? (i := 1) rfl)) rfl⟩
theorem yk_133 : yOK m133 1 := ⟨⟨by decide, by decide, by decide +kernel⟩, by decide +kernel, by decide, gw_of (tb_4 (List.mem_of_getElem? (i := 230) rfl)) rfl, gw_of (tb_1 (List.mem_of_getElem? (i := 1) rfl)) rfl⟩
theorem yk_134 : yOK m134 0 := ⟨⟨by decide, by decide, by decide +kernel⟩, by decide +kernel, by decide, gw_of (tb_4 (List.mem_of_getElem? (i := 234) rfl)) rfl, gw_of (tb_1 (List.mem_of_getElem? (i := 1) rfl)) rfl⟩
theorem yk_135 : yOK m135 1 := ⟨⟨by decide, by decide, by decide +kernel⟩, by decide +kernel, by decide, gw_of (tb_4 (List.mem_of_getElem? (i := 238) rfl)) rfl, gw_of (tb_1 (List.mem_of_getElem? (i := 7) rfl)) rfl⟩
theorem yk_136 : yOK m136 0 := ⟨⟨by decide, by decide, by decide +kernel⟩, by decide +kernel, by decide, gw_of (tb_5 (List.mem_of_getElem? (i := 2) rfl)) rfl, gw_of (tb_1 (List.mem_of_getElem? (i := 1) rfl)) rfl⟩
theorem yk_137 : yOK m137 1 := ⟨⟨by decide, by decide, by decide +kernel⟩, by decide +kernel, by decide, gw_of (tb_5 (List.mem_of_getElem? (i := 6) rfl)) rfl, gw_of (tb_1 (List.mem_of_getElem? (i := 7) rfl)) rfl⟩
theorem yk_138 : yOK m138 0 := ⟨⟨by decide, by decide, by decide +kernel⟩, by decide +kernel, by decide, gw_of (tb_5 (List.mem_of_getElem? (i := 11) rfl)) rfl, gw_of (tb_1 (List.mem_of_getElem? (i := 1) rfl)) rfl⟩
theorem yk_139 : yOK m139 1 := ⟨⟨by decide, by decide, by decide +kernel⟩, by decide +kernel, by decide, gw_of (tb_5 (List.mem_of_getElem? (i := 15) rfl)) rfl, gw_of (tb_1 (List.mem_of_getElem? (i := 1) rfl)) rfl⟩
theorem yk_140 : yOK m140 2 := ⟨⟨by decide, by decide, by decide +kernel⟩, by decide +kernel, by decide, gw_of (tb_5 (List.mem_of_getElem? (i := 19) rfl)) rfl, gw_of (tb_1 (List.mem_of_getElem? (i := 1) rfl)) rfl⟩
theorem yk_141 : yOK m141 0 := ⟨⟨by decide, by decide, by decide +kernel⟩, by decide +kernel, by decide, gw_of (tb_5 (List.mem_of_getElem? (i := 23) rfl)) rfl, gw_of (tb_1 (List.mem_of_getElem? (i := 1) rfl)) rfl⟩
theorem yk_142 : yOK m142 0 := ⟨⟨by decide, by decide, by decide +kernel⟩, by decide +kernel, by decide, gw_of (tb_5 (List.mem_of_getElem? (i := 27) rfl)) rfl, gw_of (tb_1 (List.mem_of_getElem? (i := 9) rfl)) rfl⟩
theorem yk_143 : yOK m143 1 := ⟨⟨by decide, by decide, by decide +kernel⟩, by decide +kernel, by decide, gw_of (tb_5 (List.mem_of_getElem? (i := 31) rfl)) rfl, gw_of (tb_1 (List.mem_of_getElem? (i := 9) rfl)) rfl⟩
theorem yk_144 : yOK m144 1 := ⟨⟨by decide, by decide, by decide +kernel⟩, by decide +kernel, by decide, gw_of (tb_5 (List.mem_of_getElem? (i := 37) rfl)) rfl, gw_of (tb_1 (List.mem_of_getElem? (i := 9) rfl)) rfl⟩
theorem yk_145 : yOK m145 4 := ⟨⟨by decide, by decide, by decide +kernel⟩, by decide +kernel, by decide, gw_of (tb_5 (List.mem_of_getElem? (i := 41) rfl)) rfl, gw_of (tb_1 (List.mem_of_getElem? (i := 9) rfl)) rfl⟩
theorem yk_146 : yOK m146 3 := ⟨⟨by decide, by decide, by decide +kernel⟩, by decide +kernel, by decide, gw_of (tb_5 (List.mem_of_getElem? (i := 45) rfl)) rfl, gw_of (tb_1 (List.mem_of_getElem? (i := 9) rfl)) rfl⟩
theorem yk_147 : yOK m147 2 := ⟨⟨by decide, by decide, by decide +kernel⟩, by decide +kernel, by decide, gw_of (tb_5 (List.mem_of_getElem? (i := 49) rfl)) rfl, gw_of (tb_1 (List.mem_of_getElem? (i := 9) rfl)) rfl⟩
theorem yk_148 : yOK m148 3 := ⟨⟨by decide, by decide, by decide +kernel⟩, by decide +kernel, by decide, gw_of (tb_5 (List.mem_of_getElem? (i := 54) rfl)) rfl, gw_of (tb_1 (List.mem_of_getElem? (i := 9) rfl)) rfl⟩
theorem yk_149 : yOK m149 2 := ⟨⟨by decide, by decide, by decide +kernel⟩, by decide +kernel, by decide, gw_of (tb_5 (List.mem_of_getElem? (i := 58) rfl)) rfl, gw_of (tb_1 (List.mem_of_getElem? (i := 8) rfl)) rfl⟩
theorem yk_150 : yOK m150 3 := ⟨⟨by decide, by decide, by decide +kernel⟩, by decide +kernel, by decide, gw_of (tb_5 (List.mem_of_getElem? (i := 62) rfl)) rfl, gw_of (tb_1 (List.mem_of_getElem? (i := 9) rfl)) rfl⟩
theorem yk_151 : yOK m151 1 := ⟨⟨by decide, by decide, by decide +kernel⟩, by decide +kernel, by decide, gw_of (tb_5 (List.mem_of_getElem? (i := 66) rfl)) rfl, gw_of (tb_1 (List.mem_of_getElem? (i := 9) rfl)) rfl⟩
theorem yk_152 : yOK m152 2 := ⟨⟨by decide, by decide, by decide +kernel⟩, by decide +kernel, by decide, gw_of (tb_5 (List.mem_of_getElem? (i := 70) rfl)) rfl, gw_of (tb_1 (List.mem_of_getElem? (i := 1) rfl)) rfl⟩
theorem yk_153 : yOK m153 2 := ⟨⟨by decide, by decide, by decide +kernel⟩, by decide +kernel, by decide, gw_of (tb_5 (List.mem_of_getElem? (i := 74) rfl)) rfl, gw_of (tb_1 (List.mem_of_getElem? (i := 1) rfl)) rfl⟩
theorem yk_154 : yOK m154 1 := ⟨⟨by decide, by decide, by decide +kernel⟩, by decide +kernel, by decide, gw_of (tb_5 (List.mem_of_getElem? (i := 78) rfl)) rfl, gw_of (tb_1 (List.mem_of_getElem? (i := 1) rfl)) rfl⟩
theorem yk_155 : yOK m155 2 := ⟨⟨by decide, by decide, by decide +kernel⟩, by decide +kernel, by decide, gw_of (tb_5 (List.mem_of_getElem? (i := 82) rfl)) rfl, gw_of (tb_1 (List.mem_of_getElem? (i := 8) rfl)) rfl⟩
theorem yk_156 : yOK m156 3 := ⟨⟨by decide, by decide, by decide +kernel⟩, by decide +kernel, by decide, gw_of (tb_5 (List.mem_of_getElem? (i := 86) rfl)) rfl, gw_of (tb_1 (List.mem_of_getElem? (i := 1) rfl)) rfl⟩
theorem yk_157 : yOK m157 2 := ⟨⟨by decide, by decide, by decide +kernel⟩, by decide +kernel, by decide, gw_of (tb_5 (List.mem_of_getElem? (i := 90) rfl)) rfl, gw_of (tb_1 (List.mem_of_getElem? (i := 9) rfl)) rfl⟩
theorem yk_158 : yOK m158 2 := ⟨⟨by decide, by decide, by decide +kernel⟩, by decide +kernel, by decide, gw_of (tb_5 (List.mem_of_getElem? (i := 94) rfl)) rfl, gw_of (tb_1 (List.mem_of_getElem? (i := 9) rfl)) rfl⟩
theorem yk_159 : yOK m159 1 := ⟨⟨by decide, by decide, by decide +kernel⟩, by decide +kernel, by decide, gw_of (tb_5 (List.mem_of_getElem? (i := 98) rfl)) rfl, gw_of (tb_1 (List.mem_of_getElem? (i := 9) rfl)) rfl⟩
theorem yk_160 : yOK m160 2 := ⟨⟨by decide, by decide, by decide +kernel⟩, by decide +kernel, by decide, gw_of (tb_5 (List.mem_of_getElem? (i := 102) rfl)) rfl, gw_of (tb_1 (List.mem_of_getElem? (i := 8) rfl)) rfl⟩
theorem yk_161 : yOK m161 2 := ⟨⟨by decide, by decide, by decide +kernel⟩, by decide +kernel, by decide, gw_of (tb_5 (List.mem_of_getElem? (i := 106) rfl)) rfl, gw_of (tb_1 (List.mem_of_getElem? (i := 1) rfl)) rfl⟩
theorem yk_162 : yOK m162 2 := ⟨⟨by decide, by decide, by decide +kernel⟩, by decide +kernel, by decide, gw_of (tb_5 (List.mem_of_getElem? (i := 110) rfl)) rfl, gw_of (tb_1 (List.mem_of_getElem? (i := 8) rfl)) rfl⟩
theorem yk_163 : yOK m163 1 := ⟨⟨by decide, by decide, by decide +kernel⟩, by decide +kernel, by decide, gw_of (tb_5 (List.mem_of_getElem? (i := 116) rfl)) rfl, gw_of (tb_1 (List.mem_of_getElem? (i := 1) rfl)) rfl⟩
theorem yk_164 : yOK m164 0 := ⟨⟨by decide, by decide, by decide +kernel⟩, by decide +kernel, by decide, gw_of (tb_5 (List.mem_of_getElem? (i := 120) rfl)) rfl, gw_of (tb_1 (List.mem_of_getElem? (i := 10) rfl)) rfl⟩
theorem yk_165 : yOK m165 3 := ⟨⟨by decide, by decide, by decide +kernel⟩, by decide +kernel, by decide, gw_of (tb_5 (List.mem_of_getElem? (i := 124) rfl)) rfl, gw_of (tb_1 (List.mem_of_getElem? (i := 10) rfl)) rfl⟩
theorem yk_166 : yOK m166 1 := ⟨⟨by decide, by decide, by decide +kernel⟩, by decide +kernel, by decide, gw_of (tb_5 (List.mem_of_getElem? (i := 130) rfl)) rfl, gw_of (tb_1 (List.mem_of_getElem? (i := 10) rfl)) rfl⟩
theorem yk_167 : yOK m167 2 := ⟨⟨by decide, by decide, by decide +kernel⟩, by decide +kernel, by decide, gw_of (tb_5 (List.mem_of_getElem? (i := 133) rfl)) rfl, gw_of (tb_1 (List.mem_of_getElem? (i := 10) rfl)) rfl⟩
theorem yk_168 : yOK m168 1 := ⟨⟨by decide, by decide, by decide +kernel⟩, by decide +kernel, by decide, gw_of (tb_5 (List.mem_of_getElem? (i := 138) rfl)) rfl, gw_of (tb_1 (List.mem_of_getElem? (i := 1) rfl)) rfl⟩
theorem yk_169 : yOK m169 1 := ⟨⟨by decide, by decide, by decide +kernel⟩, by decide +kernel, by decide, gw_of (tb_5 (List.mem_of_getElem? (i := 142) rfl)) rfl, gw_of (tb_1 (List.mem_of_getElem? (i := 8) rfl)) rfl⟩
theorem yk_170 : yOK m170 1 := ⟨⟨by decide, by decide, by decide +kernel⟩, by decide +kernel, by decide, gw_of (tb_5 (List.mem_of_getElem? (i := 146) rfl)) rfl, gw_of (tb_1 (List.mem_of_getElem? (i := 1) rfl)) rfl⟩
theorem yk_171 : yOK m171 0 := ⟨⟨by decide, by decide, by decide +kernel⟩, by decide +kernel, by decide, gw_of (tb_5 (List.mem_of_getElem? (i := 151) rfl)) rfl, gw_of (tb_1 (List.mem_of_getElem? (i := 1) rfl)) rfl⟩
theorem yk_172 : yOK m172 1 := ⟨⟨by decide, by decide, by decide +kernel⟩, by decide +kernel, by decide, gw_of (tb_5 (List.mem_of_getElem? (i := 155) rfl)) rfl, gw_of (tb_1 (List.mem_of_getElem? (i := 8) rfl)) rfl⟩
theorem yk_173 : yOK m173 1 := ⟨⟨by decide, by decide, by decide +kernel⟩, by decide +kernel, by decide, gw_of (tb_5 (List.mem_of_getElem? (i := 160) rfl)) rfl, gw_of (tb_1 (List.mem_of_getElem? (i := 1) rfl)) rfl⟩
theorem yk_174 : yOK m174 1 := ⟨⟨by decide, by decide, by decide +kernel⟩, by decide +kernel, by decide, gw_of (tb_5 (List.mem_of_getElem? (i := 164) rfl)) rfl, gw_of (tb_1 (List.mem_of_getElem? (i := 1) rfl)) rfl⟩
theorem yk_175 : yOK m175 0 := ⟨⟨by decide, by decide, by decide +kernel⟩, by decide +kernel, by decide, gw_of (tb_5 (List.mem_of_getElem? (i := 168) rfl)) rfl, gw_of (tb_1 (List.mem_of_getElem? (i := 1) rfl)) rfl⟩
theorem yk_176 : yOK m176 0 := ⟨⟨by decide, by decide, by decide +kernel⟩, by decide +kernel, by decide, gw_of (tb_5 (List.mem_of_getElem? (i := 172) rfl)) rfl, gw_of (tb_1 (List.mem_of_getElem? (i := 1) rfl)) rfl⟩
theorem yk_177 : yOK m177 1 := ⟨⟨by decide, by decide, by decide +kernel⟩, by decide +kernel, by decide, gw_of (tb_5 (List.mem_of_getElem? (i := 176) rfl)) rfl, gw_of (tb_1 (List.mem_of_getElem? (i := 1) rfl)) rfl⟩
theorem yk_178 : yOK m178 0 := ⟨⟨by decide, by decide, by decide +kernel⟩, by decide +kernel, by decide, gw_of (tb_5 (List.mem_of_getElem? (i := 180) rfl)) rfl, gw_of (tb_1 (List.mem_of_getElem? (i := 1) rfl)) rfl⟩
theorem yk_179 : yOK m179 1 := ⟨⟨by decide, by decide, by decide +kernel⟩, by decide +kernel, by decide, gw_of (tb_5 (List.mem_of_getElem? (i := 184) rfl)) rfl, gw_of (tb_1 (List.mem_of_getElem? (i := 8) rfl)) rfl⟩
theorem yk_180 : yOK m180 1 := ⟨⟨by decide, by decide, by decide +kernel⟩, by decide +kernel, by decide, gw_of (tb_5 (List.mem_of_getElem? (i := 188) rfl)) rfl, gw_of (tb_1 (List.mem_of_getElem? (i := 1) rfl)) rfl⟩
theorem yk_181 : yOK m181 1 := ⟨⟨by decide, by decide, by decide +kernel⟩, by decide +kernel, by decide, gw_of (tb_5 (List.mem_of_getElem? (i := 193) rfl)) rfl, gw_of (tb_1 (List.mem_of_getElem? (i := 1) rfl)) rfl⟩
theorem yk_182 : yOK m182 0 := ⟨⟨by decide, by decide, by decide +kernel⟩, by decide +kernel, by decide, gw_of (tb_5 (List.mem_of_getElem? (i := 197) rfl)) rfl, gw_of (tb_1 (List.mem_of_getElem? (i := 1) rfl)) rfl⟩
theorem yk_183 : yOK m183 1 := ⟨⟨by decide, by decide, by decide +kernel⟩, by decide +kernel, by decide, gw_of (tb_5 (List.mem_of_getElem? (i := 201) rfl)) rfl, gw_of (tb_1 (List.mem_of_getElem? (i := 1) rfl)) rfl⟩
theorem yk_184 : yOK m184 1 := ⟨⟨by decide, by decide, by decide +kernel⟩, by decide +kernel, by decide, gw_of (tb_5 (List.mem_of_getElem? (i := 205) rfl)) rfl, gw_of (tb_1 (List.mem_of_getElem? (i := 1) rfl)) rfl⟩
theorem yk_185 : yOK m185 3 := ⟨⟨by decide, by decide, by decide +kernel⟩, by decide +kernel, by decide, gw_of (tb_5 (List.mem_of_getElem? (i := 209) rfl)) rfl, gw_of (tb_1 (List.mem_of_getElem? (i := 1) rfl)) rfl⟩
theorem yk_186 : yOK m186 3 := ⟨⟨by decide, by decide, by decide +kernel⟩, by decide +kernel, by decide, gw_of (tb_5 (List.mem_of_getElem? (i := 213) rfl)) rfl, gw_of (tb_1 (List.mem_of_getElem? (i := 11) rfl)) rfl⟩
theorem yk_187 : yOK m187 1 := ⟨⟨by decide, by decide, by decide +kernel⟩, by decide +kernel, by decide, gw_of (tb_5 (List.mem_of_getElem? (i := 217) rfl)) rfl, gw_of (tb_1 (List.mem_of_getElem? (i := 1) rfl)) rfl⟩
theorem yk_188 : yOK m188 1 := ⟨⟨by decide, by decide, by decide +kernel⟩, by decide +kernel, by decide, gw_of (tb_5 (List.mem_of_getElem? (i := 221) rfl)) rfl, gw_of (tb_1 (List.mem_of_getElem? (i := 11) rfl)) rfl⟩
theorem yk_189 : yOK m189 1 := ⟨⟨by decide, by decide, by decide +kernel⟩, by decide +kernel, by decide, gw_of (tb_5 (List.mem_of_getElem? (i := 225) rfl)) rfl, gw_of (tb_1 (List.mem_of_getElem? (i := 1) rfl)) rfl⟩
theorem yk_190 : yOK m190 1 := ⟨⟨by decide, by decide, by decide +kernel⟩, by decide +kernel, by decide, gw_of (tb_5 (List.mem_of_getElem? (i := 229) rfl)) rfl, gw_of (tb_1 (List.mem_of_getElem? (i := 11) rfl)) rfl⟩
theorem yk_191 : yOK m191 1 := ⟨⟨by decide, by decide, by decide +kernel⟩, by decide +kernel, by decide, gw_of (tb_5 (List.mem_of_getElem? (i := 234) rfl)) rfl, gw_of (tb_1 (List.mem_of_getElem? (i := 1) rfl)) rfl⟩
theorem yk_192 : yOK m192 2 := ⟨⟨by decide, by decide, by decide +kernel⟩, by decide +kernel, by decide, gw_of (tb_5 (List.mem_of_getElem? (i := 238) rfl)) rfl, gw_of (tb_1 (List.mem_of_getElem? (i := 11) rfl)) rfl⟩
theorem yk_193 : yOK m193 2 := ⟨⟨by decide, by decide, by decide +kernel⟩, by decide +kernel, by decide, gw_of (tb_6 (List.mem_of_getElem? (i := 2) rfl)) rfl, gw_of (tb_1 (List.mem_of_getElem? (i := 11) rfl)) rfl⟩
theorem yk_194 : yOK m194 3 := ⟨⟨by decide, by decide, by decide +kernel⟩, by decide +kernel, by decide, gw_of (tb_6 (List.mem_of_getElem? (i := 5) rfl)) rfl, gw_of (tb_1 (List.mem_of_getElem? (i := 11) rfl)) rfl⟩
theorem yk_195 : yOK m195 1 := ⟨⟨by decide, by decide, by decide +kernel⟩, by decide +kernel, by decide, gw_of (tb_6 (List.mem_of_getElem? (i := 9) rfl)) rfl, gw_of (tb_1 (List.mem_of_getElem? (i := 11) rfl)) rfl⟩
theorem yk_196 : yOK m196 1 := ⟨⟨by decide, by decide, by decide +kernel⟩, by decide +kernel, by decide, gw_of (tb_6 (List.mem_of_getElem? (i := 13) rfl)) rfl, gw_of (tb_1 (List.mem_of_getElem? (i := 11) rfl)) rfl⟩
theorem yk_197 : yOK m197 2 := ⟨⟨by decide, by decide, by decide +kernel⟩, by decide +kernel, by decide, gw_of (tb_6 (List.mem_of_getElem? (i := 17) rfl)) rfl, gw_of (tb_1 (List.mem_of_getElem? (i := 1) rfl)) rfl⟩
theorem yk_198 : yOK m198 2 := ⟨⟨by decide, by decide, by decide +kernel⟩, by decide +kernel, by decide, gw_of (tb_6 (List.mem_of_getElem? (i := 21) rfl)) rfl, gw_of (tb_1 (List.mem_of_getElem? (i := 1) rfl)) rfl⟩
theorem yk_199 : yOK m199 1 := ⟨⟨by decide, by decide, by decide +kernel⟩, by decide +kernel, by decide, gw_of (tb_6 (List.mem_of_getElem? (i := 25) rfl)) rfl, gw_of (tb_1 (List.mem_of_getElem? (i := 1) rfl)) rfl⟩
theorem yk_200 : yOK m200 1 := ⟨⟨by decide, by decide, by decide +kernel⟩, by decide +kernel, by decide, gw_of (tb_6 (List.mem_of_getElem? (i := 29) rfl)) rfl, gw_of (tb_1 (List.mem_of_getElem? (i := 6) rfl)) rfl⟩
theorem yk_201 : yOK m201 1 := ⟨⟨by decide, by decide, by decide +kernel⟩, by decide +kernel, by decide, gw_of (tb_6 (List.mem_of_getElem? (i := 33) rfl)) rfl, gw_of (tb_1 (List.mem_of_getElem? (i := 1) rfl)) rfl⟩
theorem yk_202 : yOK m202 1 := ⟨⟨by decide, by decide, by decide +kernel⟩, by decide +kernel, by decide, gw_of (tb_6 (List.mem_of_getElem? (i := 37) rfl)) rfl, gw_of (tb_1 (List.mem_of_getElem? (i := 1) rfl)) rfl⟩
theorem yk_203 : yOK m203 1 := ⟨⟨by decide, by decide, by decide +kernel⟩, by decide +kernel, by decide, gw_of (tb_6 (List.mem_of_getElem? (i := 41) rfl)) rfl, gw_of (tb_1 (List.mem_of_getElem? (i := 1) rfl)) rfl⟩
theorem yk_204 : yOK m204 2 := ⟨⟨by decide, by decide, by decide +kernel⟩, by decide +kernel, by decide, gw_of (tb_6 (List.mem_of_getElem? (i := 45) rfl)) rfl, gw_of (tb_1 (List.mem_of_getElem? (i := 6) rfl)) rfl⟩
theorem yk_205 : yOK m205 1 := ⟨⟨by decide, by decide, by decide +kernel⟩, by decide +kernel, by decide, gw_of (tb_6 (List.mem_of_getElem? (i := 49) rfl)) rfl, gw_of (tb_1 (List.mem_of_getElem? (i := 1) rfl)) rfl⟩
theorem yk_206 : yOK m206 1 := ⟨⟨by decide, by decide, by decide +kernel⟩, by decide +kernel, by decide, gw_of (tb_6 (List.mem_of_getElem? (i := 53) rfl)) rfl, gw_of (tb_1 (List.mem_of_getElem? (i := 1) rfl)) rfl⟩
theorem yk_207 : yOK m207 0 := ⟨⟨by decide, by decide, by decide +kernel⟩, by decide +kernel, by decide, gw_of (tb_6 (List.mem_of_getElem? (i := 58) rfl)) rfl, gw_of (tb_1 (List.mem_of_getElem? (i := 12) rfl)) rfl⟩
theorem yk_208 : yOK m208 5 := ⟨⟨by decide, by decide, by decide +kernel⟩, by decide +kernel, by decide, gw_of (tb_7 (List.mem_of_getElem? (i := 64) rfl)) rfl, gw_of (tb_1 (List.mem_of_getElem? (i := 12) rfl)) rfl⟩
theorem yk_209 : yOK m209 1 := ⟨⟨by decide, by decide, by decide +kernel⟩, by decide +kernel, by decide, gw_of (tb_7 (List.mem_of_getElem? (i := 68) rfl)) rfl, gw_of (tb_1 (List.mem_of_getElem? (i := 12) rfl)) rfl⟩
theorem yk_210 : yOK m210 1 := ⟨⟨by decide, by decide, by decide +kernel⟩, by decide +kernel, by decide, gw_of (tb_7 (List.mem_of_getElem? (i := 72) rfl)) rfl, gw_of (tb_1 (List.mem_of_getElem? (i := 12) rfl)) rfl⟩
theorem yk_211 : yOK m211 0 := ⟨⟨by decide, by decide, by decide +kernel⟩, by decide +kernel, by decide, gw_of (tb_7 (List.mem_of_getElem? (i := 76) rfl)) rfl, gw_of (tb_1 (List.mem_of_getElem? (i := 12) rfl)) rfl⟩
theorem yk_212 : yOK m212 0 := ⟨⟨by decide, by decide, by decide +kernel⟩, by decide +kernel, by decide, gw_of (tb_7 (List.mem_of_getElem? (i := 80) rfl)) rfl, gw_of (tb_1 (List.mem_of_getElem? (i := 12) rfl)) rfl⟩
theorem yk_213 : yOK m213 0 := ⟨⟨by decide, by decide, by decide +kernel⟩, by decide +kernel, by decide, gw_of (tb_7 (List.mem_of_getElem? (i := 84) rfl)) rfl, gw_of (tb_1 (List.mem_of_getElem? (i := 12) rfl)) rfl⟩
theorem yk_214 : yOK m214 1 := ⟨⟨by decide, by decide, by decide +kernel⟩, by decide +kernel, by decide, gw_of (tb_7 (List.mem_of_getElem? (i := 88) rfl)) rfl, gw_of (tb_1 (List.mem_of_getElem? (i := 12) rfl)) rfl⟩
theorem yk_215 : yOK m215 1 := ⟨⟨by decide, by decide, by decide +kernel⟩, by decide +kernel, by decide, gw_of (tb_7 (List.mem_of_getElem? (i := 91) rfl)) rfl, gw_of (tb_1 (List.mem_of_getElem? (i := 12) rfl)) rfl⟩
theorem yk_216 : yOK m216 1 := ⟨⟨by decide, by decide, by decide +kernel⟩, by decide +kernel, by decide, gw_of (tb_7 (List.mem_of_getElem? (i := 94) rfl)) rfl, gw_of (tb_1 (List.mem_of_getElem? (i := 12) rfl)) rfl⟩
theorem yk_217 : yOK m217 1 := ⟨⟨by decide, by decide, by decide +kernel⟩, by decide +kernel, by decide, gw_of (tb_7 (List.mem_of_getElem? (i := 97) rfl)) rfl, gw_of (tb_1 (List.mem_of_getElem? (i := 12) rfl)) rfl⟩
theorem yk_218 : yOK m218 0 := ⟨⟨by decide, by decide, by decide +kernel⟩, by decide +kernel, by decide, gw_of (tb_7 (List.mem_of_getElem? (i := 101) rfl)) rfl, gw_of (tb_1 (List.mem_of_getElem? (i := 12) rfl)) rfl⟩
theorem yk_219 : yOK m219 1 := ⟨⟨by decide, by decide, by decide +kernel⟩, by decide +kernel, by decide, gw_of (tb_7 (List.mem_of_getElem? (i := 106) rfl)) rfl, gw_of (tb_1 (List.mem_of_getElem? (i := 12) rfl)) rfl⟩
theorem yk_220 : yOK m220 3 := ⟨⟨by decide, by decide, by decide +kernel⟩, by decide +kernel, by decide, gw_of (tb_7 (List.mem_of_getElem? (i := 110) rfl)) rfl, gw_of (tb_1 (List.mem_of_getElem? (i := 12) rfl)) rfl⟩
theorem yk_221 : yOK m221 1 := ⟨⟨by decide, by decide, by decide +kernel⟩, by decide +kernel, by decide, gw_of (tb_7 (List.mem_of_getElem? (i := 114) rfl)) rfl, gw_of (tb_1 (List.mem_of_getElem? (i := 12) rfl)) rfl⟩
theorem yk_222 : yOK m222 1 := ⟨⟨by decide, by decide, by decide +kernel⟩, by decide +kernel, by decide, gw_of (tb_7 (List.mem_of_getElem? (i := 118) rfl)) rfl, gw_of (tb_1 (List.mem_of_getElem? (i := 12) rfl)) rfl⟩
theorem yk_223 : yOK m223 2 := ⟨⟨by decide, by decide, by decide +kernel⟩, by decide +kernel, by decide, gw_of (tb_7 (List.mem_of_getElem? (i := 122) rfl)) rfl, gw_of (tb_1 (List.mem_of_getElem? (i := 12) rfl)) rfl⟩
theorem yk_224 : yOK m224 0 := ⟨⟨by decide, by decide, by decide +kernel⟩, by decide +kernel, by decide, gw_of (tb_7 (List.mem_of_getElem? (i := 127) rfl)) rfl, gw_of (tb_1 (List.mem_of_getElem? (i := 12) rfl)) rfl⟩
theorem yk_225 : yOK m225 2 := ⟨⟨by decide, by decide, by decide +kernel⟩, by decide +kernel, by decide, gw_of (tb_7 (List.mem_of_getElem? (i := 131) rfl)) rfl, gw_of (tb_1 (List.mem_of_getElem? (i := 12) rfl)) rfl⟩
theorem yk_226 : yOK m226 0 := ⟨⟨by decide, by decide, by decide +kernel⟩, by decide +kernel, by decide, gw_of (tb_7 (List.mem_of_getElem? (i := 135) rfl)) rfl, gw_of (tb_1 (List.mem_of_getElem? (i := 12) rfl)) rfl⟩
theorem yk_227 : yOK m227 0 := ⟨⟨by decide, by decide, by decide +kernel⟩, by decide +kernel, by decide, gw_of (tb_7 (List.mem_of_getElem? (i := 139) rfl)) rfl, gw_of (tb_1 (List.mem_of_getElem? (i := 12) rfl)) rfl⟩
theorem yk_228 : yOK m228 2 := ⟨⟨by decide, by decide, by decide +kernel⟩, by decide +kernel, by decide, gw_of (tb_7 (List.mem_of_getElem? (i := 162) rfl)) rfl, gw_of (tb_1 (List.mem_of_getElem? (i := 12) rfl)) rfl⟩
theorem yk_229 : yOK m229 1 := ⟨⟨by decide, by decide, by decide +kernel⟩, by decide +kernel, by decide, gw_of (tb_7 (List.mem_of_getElem? (i := 165) rfl)) rfl, gw_of (tb_1 (List.mem_of_getElem? (i := 12) rfl)) rfl⟩
theorem yk_230 : yOK m230 0 := ⟨⟨by decide, by decide, by decide +kernel⟩, by decide +kernel, by decide, gw_of (tb_7 (List.mem_of_getElem? (i := 169) rfl)) rfl, gw_of (tb_1 (List.mem_of_getElem? (i := 12) rfl)) rfl⟩
theorem yk_231 : yOK m231 0 := ⟨⟨by decide, by decide, by decide +kernel⟩, by decide +kernel, by decide, gw_of (tb_7 (List.mem_of_getElem? (i := 173) rfl)) rfl, gw_of (tb_1 (List.mem_of_getElem? (i := 12) rfl)) rfl⟩
theorem yk_232 : yOK m232 0 := ⟨⟨by decide, by decide, by decide +kernel⟩, by decide +kernel, by decide, gw_of (tb_7 (List.mem_of_getElem? (i := 177) rfl)) rfl, gw_of (tb_1 (List.mem_of_getElem? (i := 12) rfl)) rfl⟩
theorem yk_233 : yOK m233 0 := ⟨⟨by decide, by decide, by decide +kernel⟩, by decide +kernel, by decide, gw_of (tb_7 (List.mem_of_getElem? (i := 181) rfl)) rfl, gw_of (tb_1 (List.mem_of_getElem? (i := 12) rfl)) rfl⟩
theorem yk_234 : yOK m234 0 := ⟨⟨by decide, by decide, by decide +kernel⟩, by decide +kernel, by decide, gw_of (tb_7 (List.mem_of_getElem? (i := 185) rfl)) rfl, gw_of (tb_1 (List.mem_of_getElem? (i := 12) rfl)) rfl⟩
theorem yk_235 : yOK m235 1 := ⟨⟨by decide, by decide, by decide +kernel⟩, by decide +kernel, by decide, gw_of (tb_7 (List.mem_of_getElem? (i := 188) rfl)) rfl, gw_of (tb_1 (List.mem_of_getElem? (i := 12) rfl)) rfl⟩
theorem yk_236 : yOK m236 1 := ⟨⟨by decide, by decide, by decide +kernel⟩, by decide +kernel, by decide, gw_of (tb_7 (List.mem_of_getElem? (i := 192) rfl)) rfl, gw_of (tb_1 (List.mem_of_getElem? (i := 12) rfl)) rfl⟩
theorem yk_237 : yOK m237 0 := ⟨⟨by decide, by decide, by decide +kernel⟩, by decide +kernel, by decide, gw_of (tb_7 (List.mem_of_getElem? (i := 196) rfl)) rfl, gw_of (tb_1 (List.mem_of_getElem? (i := 12) rfl)) rfl⟩
theorem yk_238 : yOK m238 0 := ⟨⟨by decide, by decide, by decide +kernel⟩, by decide +kernel, by decide, gw_of (tb_7 (List.mem_of_getElem? (i := 200) rfl)) rfl, gw_of (tb_1 (List.mem_of_getElem? (i := 12) rfl)) rfl⟩
theorem yk_239 : yOK m239 0 := ⟨⟨by decide, by decide, by decide +kernel⟩, by decide +kernel, by decide, gw_of (tb_7 (List.mem_of_getElem? (i := 204) rfl)) rfl, gw_of (tb_1 (List.mem_of_getElem? (i := 12) rfl)) rfl⟩
theorem yk_240 : yOK m240 2 := ⟨⟨by decide, by decide, by decide +kernel⟩, by decide +kernel, by decide, gw_of (tb_7 (List.mem_of_getElem? (i := 208) rfl)) rfl, gw_of (tb_1 (List.mem_of_getElem? (i := 12) rfl)) rfl⟩
theorem yk_241 : yOK m241 0 := ⟨⟨by decide, by decide, by decide +kernel⟩, by decide +kernel, by decide, gw_of (tb_7 (List.mem_of_getElem? (i := 212) rfl)) rfl, gw_of (tb_1 (List.mem_of_getElem? (i := 12) rfl)) rfl⟩
theorem yk_242 : yOK m242 0 := ⟨⟨by decide, by decide, by decide +kernel⟩, by decide +kernel, by decide, gw_of (tb_7 (List.mem_of_getElem? (i := 216) rfl)) rfl, gw_of (tb_1 (List.mem_of_getElem? (i := 12) rfl)) rfl⟩
theorem yk_243 : yOK m243 1 := ⟨⟨by decide, by decide, by decide +kernel⟩, by decide +kernel, by decide, gw_of (tb_7 (List.mem_of_getElem? (i := 220) rfl)) rfl, gw_of (tb_1 (List.mem_of_getElem? (i := 12) rfl)) rfl⟩
theorem yk_244 : yOK m244 0 := ⟨⟨by decide, by decide, by decide +kernel⟩, by decide +kernel, by decide, gw_of (tb_7 (List.mem_of_getElem? (i := 224) rfl)) rfl, gw_of (tb_1 (List.mem_of_getElem? (i := 12) rfl)) rfl⟩
theorem yk_245 : yOK m245 0 := ⟨⟨by decide, by decide, by decide +kernel⟩, by decide +kernel, by decide, gw_of (tb_7 (List.mem_of_getElem? (i := 228) rfl)) rfl, gw_of (tb_1 (List.mem_of_getElem? (i := 12) rfl)) rfl⟩
theorem yk_246 : yOK m246 0 := ⟨⟨by decide, by decide, by decide +kernel⟩, by decide +kernel, by decide, gw_of (tb_7 (List.mem_of_getElem? (i := 232) rfl)) rfl, gw_of (tb_1 (List.mem_of_getElem? (i := 12) rfl)) rfl⟩
theorem yk_247 : yOK m247 1 := ⟨⟨by decide, by decide, by decide +kernel⟩, by decide +kernel, by decide, gw_of (tb_7 (List.mem_of_getElem? (i := 236) rfl)) rfl, gw_of (tb_1 (List.mem_of_getElem? (i := 12) rfl)) rfl⟩
theorem yk_248 : yOK m248 2 := ⟨⟨by decide, by decide, by decide +kernel⟩, by decide +kernel, by decide, gw_of (tb_8 (List.mem_of_getElem? (i := 0) rfl)) rfl, gw_of (tb_1 (List.mem_of_getElem? (i := 12) rfl)) rfl⟩
theorem yk_249 : yOK m249 1 := ⟨⟨by decide, by decide, by decide +kernel⟩, by decide +kernel, by decide, gw_of (tb_8 (List.mem_of_getElem? (i := 4) rfl)) rfl, gw_of (tb_1 (List.mem_of_getElem? (i := 12) rfl)) rfl⟩
theorem yk_250 : yOK m250 3 := ⟨⟨by decide, by decide, by decide +kernel⟩, by decide +kernel, by decide, gw_of (tb_8 (List.mem_of_getElem? (i := 7) rfl)) rfl, gw_of (tb_1 (List.mem_of_getElem? (i := 12) rfl)) rfl⟩
theorem yk_251 : yOK m251 0 := ⟨⟨by decide, by decide, by decide +kernel⟩, by decide +kernel, by decide, gw_of (tb_8 (List.mem_of_getElem? (i := 11) rfl)) rfl, gw_of (tb_1 (List.mem_of_getElem? (i := 12) rfl)) rfl⟩
theorem yk_252 : yOK m252 0 := ⟨⟨by decide, by decide, by decide +kernel⟩, by decide +kernel, by decide, gw_of (tb_8 (List.mem_of_getElem? (i := 15) rfl)) rfl, gw_of (tb_1 (List.mem_of_getElem? (i := 12) rfl)) rfl⟩
theorem yk_253 : yOK m253 1 := ⟨⟨by decide, by decide, by decide +kernel⟩, by decide +kernel, by decide, gw_of (tb_8 (List.mem_of_getElem? (i := 19) rfl)) rfl, gw_of (tb_1 (List.mem_of_getElem? (i := 12) rfl)) rfl⟩
theorem yk_254 : yOK m254 1 := ⟨⟨by decide, by decide, by decide +kernel⟩, by decide +kernel, by decide, gw_of (tb_8 (List.mem_of_getElem? (i := 23) rfl)) rfl, gw_of (tb_1 (List.mem_of_getElem? (i := 12) rfl)) rfl⟩
theorem yk_255 : yOK m255 1 := ⟨⟨by decide, by decide, by decide +kernel⟩, by decide +kernel, by decide, gw_of (tb_8 (List.mem_of_getElem? (i := 26) rfl)) rfl, gw_of (tb_1 (List.mem_of_getElem? (i := 12) rfl)) rfl⟩
theorem yk_256 : yOK m256 1 := ⟨⟨by decide, by decide, by decide +kernel⟩, by decide +kernel, by decide, gw_of (tb_8 (List.mem_of_getElem? (i := 29) rfl)) rfl, gw_of (tb_1 (List.mem_of_getElem? (i := 12) rfl)) rfl⟩
theorem yk_257 : yOK m257 2 := ⟨⟨by decide, by decide, by decide +kernel⟩, by decide +kernel, by decide, gw_of (tb_8 (List.mem_of_getElem? (i := 32) rfl)) rfl, gw_of (tb_1 (List.mem_of_getElem? (i := 12) rfl)) rfl⟩
theorem yk_258 : yOK m258 3 := ⟨⟨by decide, by decide, by decide +kernel⟩, by decide +kernel, by decide, gw_of (tb_8 (List.mem_of_getElem? (i := 35) rfl)) rfl, gw_of (tb_1 (List.mem_of_getElem? (i := 12) rfl)) rfl⟩
theorem yk_259 : yOK m259 2 := ⟨⟨by decide, by decide, by decide +kernel⟩, by decide +kernel, by decide, gw_of (tb_8 (List.mem_of_getElem? (i := 39) rfl)) rfl, gw_of (tb_1 (List.mem_of_getElem? (i := 12) rfl)) rfl⟩
theorem yk_260 : yOK m260 1 := ⟨⟨by decide, by decide, by decide +kernel⟩, by decide +kernel, by decide, gw_of (tb_8 (List.mem_of_getElem? (i := 43) rfl)) rfl, gw_of (tb_1 (List.mem_of_getElem? (i := 12) rfl)) rfl⟩
theorem yk_261 : yOK m261 1 := ⟨⟨by decide, by decide, by decide +kernel⟩, by decide +kernel, by decide, gw_of (tb_8 (List.mem_of_getElem? (i := 47) rfl)) rfl, gw_of (tb_1 (List.mem_of_getElem? (i := 12) rfl)) rfl⟩
theorem yk_262 : yOK m262 2 := ⟨⟨by decide, by decide, by decide +kernel⟩, by decide +kernel, by decide, gw_of (tb_8 (List.mem_of_getElem? (i := 51) rfl)) rfl, gw_of (tb_1 (List.mem_of_getElem? (i := 12) rfl)) rfl⟩
theorem yk_263 : yOK m263 1 := ⟨⟨by decide, by decide, by decide +kernel⟩, by decide +kernel, by decide, gw_of (tb_8 (List.mem_of_getElem? (i := 55) rfl)) rfl, gw_of (tb_1 (List.mem_of_getElem? (i := 12) rfl)) rfl⟩
theorem yk_264 : yOK m264 1 := ⟨⟨by decide, by decide, by decide +kernel⟩, by decide +kernel, by decide, gw_of (tb_8 (List.mem_of_getElem? (i := 58) rfl)) rfl, gw_of (tb_1 (List.mem_of_getElem? (i := 12) rfl)) rfl⟩
theorem yk_265 : yOK m265 1 := ⟨⟨by decide, by decide, by decide +kernel⟩, by decide +kernel, by decide, gw_of (tb_8 (List.mem_of_getElem? (i := 62) rfl)) rfl, gw_of (tb_1 (List.mem_of_getElem? (i := 12) rfl)) rfl⟩
theorem yk_266 : yOK m266 0 := ⟨⟨by decide, by decide, by decide +kernel⟩, by decide +kernel, by decide, gw_of (tb_8 (List.mem_of_getElem? (i := 66) rfl)) rfl, gw_of (tb_1 (List.mem_of_getElem? (i := 12) rfl)) rfl⟩
theorem yk_267 : yOK m267 1 := ⟨⟨by decide, by decide, by decide +kernel⟩, by decide +kernel, by decide, gw_of (tb_8 (List.mem_of_getElem? (i := 70) rfl)) rfl, gw_of (tb_1 (List.mem_of_getElem? (i := 12) rfl)) rfl⟩
theorem yk_268 : yOK m268 5 := ⟨⟨by decide, by decide, by decide +kernel⟩, by decide +kernel, by decide, gw_of (tb_8 (List.mem_of_getElem? (i := 74) rfl)) rfl, gw_of (tb_1 (List.mem_of_getElem? (i := 12) rfl)) rfl⟩
theorem yk_269 : yOK m269 4 := ⟨⟨by decide, by decide, by decide +kernel⟩, by decide +kernel, by decide, gw_of (tb_8 (List.mem_of_getElem? (i := 78) rfl)) rfl, gw_of (tb_1 (List.mem_of_getElem? (i := 12) rfl)) rfl⟩
theorem yk_270 : yOK m270 1 := ⟨⟨by decide, by decide, by decide +kernel⟩, by decide +kernel, by decide, gw_of (tb_8 (List.mem_of_getElem? (i := 82) rfl)) rfl, gw_of (tb_1 (List.mem_of_getElem? (i := 12) rfl)) rfl⟩
theorem yk_271 : yOK m271 1 := ⟨⟨by decide, by decide, by decide +kernel⟩, by decide +kernel, by decide, gw_of (tb_8 (List.mem_of_getElem? (i := 87) rfl)) rfl, gw_of (tb_1 (List.mem_of_getElem? (i := 12) rfl)) rfl⟩
theorem yk_272 : yOK m272 1 := ⟨⟨by decide, by decide, by decide +kernel⟩, by decide +kernel, by decide, gw_of (tb_8 (List.mem_of_getElem? (i := 91) rfl)) rfl, gw_of (tb_1 (List.mem_of_getElem? (i := 12) rfl)) rfl⟩
theorem yk_273 : yOK m273 0 := ⟨⟨by decide, by decide, by decide +kernel⟩, by decide +kernel, by decide, gw_of (tb_8 (List.mem_of_getElem? (i := 95) rfl)) rfl, gw_of (tb_1 (List.mem_of_getElem? (i := 12) rfl)) rfl⟩
theorem yk_274 : yOK m274 1 := ⟨⟨by decide, by decide, by decide +kernel⟩, by decide +kernel, by decide, gw_of (tb_8 (List.mem_of_getElem? (i := 99) rfl)) rfl, gw_of (tb_1 (List.mem_of_getElem? (i := 12) rfl)) rfl⟩
theorem yk_275 : yOK m275 2 := ⟨⟨by decide, by decide, by decide +kernel⟩, by decide +kernel, by decide, gw_of (tb_8 (List.mem_of_getElem? (i := 103) rfl)) rfl, gw_of (tb_1 (List.mem_of_getElem? (i := 12) rfl)) rfl⟩
theorem yk_276 : yOK m276 0 := ⟨⟨by decide, by decide, by decide +kernel⟩, by decide +kernel, by decide, gw_of (tb_8 (List.mem_of_getElem? (i := 107) rfl)) rfl, gw_of (tb_1 (List.mem_of_getElem? (i := 12) rfl)) rfl⟩
theorem yk_277 : yOK m277 2 := ⟨⟨by decide, by decide, by decide +kernel⟩, by decide +kernel, by decide, gw_of (tb_8 (List.mem_of_getElem? (i := 112) rfl)) rfl, gw_of (tb_1 (List.mem_of_getElem? (i := 12) rfl)) rfl⟩
theorem yk_278 : yOK m278 2 := ⟨⟨by decide, by decide, by decide +kernel⟩, by decide +kernel, by decide, gw_of (tb_8 (List.mem_of_getElem? (i := 116) rfl)) rfl, gw_of (tb_1 (List.mem_of_getElem? (i := 12) rfl)) rfl⟩
theorem yk_279 : yOK m279 2 := ⟨⟨by decide, by decide, by decide +kernel⟩, by decide +kernel, by decide, gw_of (tb_8 (List.mem_of_getElem? (i := 120) rfl)) rfl, gw_of (tb_1 (List.mem_of_getElem? (i := 12) rfl)) rfl⟩
theorem yk_280 : yOK m280 2 := ⟨⟨by decide, by decide, by decide +kernel⟩, by decide +kernel, by decide, gw_of (tb_8 (List.mem_of_getElem? (i := 124) rfl)) rfl, gw_of (tb_1 (List.mem_of_getElem? (i := 12) rfl)) rfl⟩
theorem yk_281 : yOK m281 1 := ⟨⟨by decide, by decide, by decide +kernel⟩, by decide +kernel, by decide, gw_of (tb_8 (List.mem_of_getElem? (i := 128) rfl)) rfl, gw_of (tb_1 (List.mem_of_getElem? (i := 12) rfl)) rfl⟩
theorem yk_282 : yOK m282 0 := ⟨⟨by decide, by decide, by decide +kernel⟩, by decide +kernel, by decide, gw_of (tb_8 (List.mem_of_getElem? (i := 132) rfl)) rfl, gw_of (tb_1 (List.mem_of_getElem? (i := 12) rfl)) rfl⟩
theorem yk_283 : yOK m283 1 := ⟨⟨by decide, by decide, by decide +kernel⟩, by decide +kernel, by decide, gw_of (tb_8 (List.mem_of_getElem? (i := 136) rfl)) rfl, gw_of (tb_1 (List.mem_of_getElem? (i := 12) rfl)) rfl⟩
theorem yk_284 : yOK m284 0 := ⟨⟨by decide, by decide, by decide +kernel⟩, by decide +kernel, by decide, gw_of (tb_8 (List.mem_of_getElem? (i := 140) rfl)) rfl, gw_of (tb_1 (List.mem_of_getElem? (i := 12) rfl)) rfl⟩
theorem yk_285 : yOK m285 0 := ⟨⟨by decide, by decide, by decide +kernel⟩, by decide +kernel, by decide, gw_of (tb_8 (List.mem_of_getElem? (i := 144) rfl)) rfl, gw_of (tb_1 (List.mem_of_getElem? (i := 12) rfl)) rfl⟩
theorem yk_286 : yOK m286 0 := ⟨⟨by decide, by decide, by decide +kernel⟩, by decide +kernel, by decide, gw_of (tb_8 (List.mem_of_getElem? (i := 148) rfl)) rfl, gw_of (tb_1 (List.mem_of_getElem? (i := 12) rfl)) rfl⟩
theorem yk_287 : yOK m287 1 := ⟨⟨by decide, by decide, by decide +kernel⟩, by decide +kernel, by decide, gw_of (tb_8 (List.mem_of_getElem? (i := 152) rfl)) rfl, gw_of (tb_1 (List.mem_of_getElem? (i := 12) rfl)) rfl⟩
theorem yk_288 : yOK m288 1 := ⟨⟨by decide, by decide, by decide +kernel⟩, by decide +kernel, by decide, gw_of (tb_8 (List.mem_of_getElem? (i := 156) rfl)) rfl, gw_of (tb_1 (List.mem_of_getElem? (i := 12) rfl)) rfl⟩
theorem yk_289 : yOK m289 2 := ⟨⟨by decide, by decide, by decide +kernel⟩, by decide +kernel, by decide, gw_of (tb_8 (List.mem_of_getElem? (i := 160) rfl)) rfl, gw_of (tb_1 (List.mem_of_getElem? (i := 12) rfl)) rfl⟩
theorem yk_290 : yOK m290 2 := ⟨⟨by decide, by decide, by decide +kernel⟩, by decide +kernel, by decide, gw_of (tb_8 (List.mem_of_getElem? (i := 163) rfl)) rfl, gw_of (tb_1 (List.mem_of_getElem? (i := 12) rfl)) rfl⟩
theorem yk_291 : yOK m291 1 := ⟨⟨by decide, by decide, by decide +kernel⟩, by decide +kernel, by decide, gw_of (tb_8 (List.mem_of_getElem? (i := 167) rfl)) rfl, gw_of (tb_1 (List.mem_of_getElem? (i := 12) rfl)) rfl⟩
theorem yk_292 : yOK m292 1 := ⟨⟨by decide, by decide, by decide +kernel⟩, by decide +kernel, by decide, gw_of (tb_8 (List.mem_of_getElem? (i := 171) rfl)) rfl, gw_of (tb_1 (List.mem_of_getElem? (i := 12) rfl)) rfl⟩
theorem yk_293 : yOK m293 4 := ⟨⟨by decide, by decide, by decide +kernel⟩, by decide +kernel, by decide, gw_of (tb_8 (List.mem_of_getElem? (i := 175) rfl)) rfl, gw_of (tb_1 (List.mem_of_getElem? (i := 12) rfl)) rfl⟩
theorem yk_294 : yOK m294 2 := ⟨⟨by decide, by decide, by decide +kernel⟩, by decide +kernel, by decide, gw_of (tb_8 (List.mem_of_getElem? (i := 179) rfl)) rfl, gw_of (tb_1 (List.mem_of_getElem? (i := 12) rfl)) rfl⟩
theorem yk_295 : yOK m295 2 := ⟨⟨by decide, by decide, by decide +kernel⟩, by decide +kernel, by decide, gw_of (tb_8 (List.mem_of_getElem? (i := 183) rfl)) rfl, gw_of (tb_1 (List.mem_of_getElem? (i := 12) rfl)) rfl⟩
theorem yk_296 : yOK m296 1 := ⟨⟨by decide, by decide, by decide +kernel⟩, by decide +kernel, by decide, gw_of (tb_8 (List.mem_of_getElem? (i := 187) rfl)) rfl, gw_of (tb_1 (List.mem_of_getElem? (i := 12) rfl)) rfl⟩
theorem yk_297 : yOK m297 2 := ⟨⟨by decide, by decide, by decide +kernel⟩, by decide +kernel, by decide, gw_of (tb_8 (List.mem_of_getElem? (i := 191) rfl)) rfl, gw_of (tb_1 (List.mem_of_getElem? (i := 12) rfl)) rfl⟩
theorem yk_298 : yOK m298 1 := ⟨⟨by decide, by decide, by decide +kernel⟩, by decide +kernel, by decide, gw_of (tb_8 (List.mem_of_getElem? (i := 195) rfl)) rfl, gw_of (tb_1 (List.mem_of_getElem? (i := 12) rfl)) rfl⟩
theorem yk_299 : yOK m299 3 := ⟨⟨by decide, by decide, by decide +kernel⟩, by decide +kernel, by decide, gw_of (tb_8 (List.mem_of_getElem? (i := 199) rfl)) rfl, gw_of (tb_1 (List.mem_of_getElem? (i := 12) rfl)) rfl⟩
theorem yk_300 : yOK m300 2 := ⟨⟨by decide, by decide, by decide +kernel⟩, by decide +kernel, by decide, gw_of (tb_8 (List.mem_of_getElem? (i := 203) rfl)) rfl, gw_of (tb_1 (List.mem_of_getElem? (i := 12) rfl)) rfl⟩
theorem yk_301 : yOK m301 3 := ⟨⟨by decide, by decide, by decide +kernel⟩, by decide +kernel, by decide, gw_of (tb_8 (List.mem_of_getElem? (i := 207) rfl)) rfl, gw_of (tb_1 (List.mem_of_getElem? (i := 12) rfl)) rfl⟩
theorem yk_302 : yOK m302 0 := ⟨⟨by decide, by decide, by decide +kernel⟩, by decide +kernel, by decide, gw_of (tb_8 (List.mem_of_getElem? (i := 211) rfl)) rfl, gw_of (tb_1 (List.mem_of_getElem? (i := 12) rfl)) rfl⟩
theorem yk_303 : yOK m303 1 := ⟨⟨by decide, by decide, by decide +kernel⟩, by decide +kernel, by decide, gw_of (tb_8 (List.mem_of_getElem? (i := 215) rfl)) rfl, gw_of (tb_1 (List.mem_of_getElem? (i := 12) rfl)) rfl⟩
theorem yk_304 : yOK m304 1 := ⟨⟨by decide, by decide, by decide +kernel⟩, by decide +kernel, by decide, gw_of (tb_8 (List.mem_of_getElem? (i := 219) rfl)) rfl, gw_of (tb_1 (List.mem_of_getElem? (i := 12) rfl)) rfl⟩
theorem yk_305 : yOK m305 2 := ⟨⟨by decide, by decide, by decide +kernel⟩, by decide +kernel, by decide, gw_of (tb_8 (List.mem_of_getElem? (i := 222) rfl)) rfl, gw_of (tb_1 (List.mem_of_getElem? (i := 12) rfl)) rfl⟩
theorem yk_306 : yOK m306 1 := ⟨⟨by decide, by decide, by decide +kernel⟩, by decide +kernel, by decide, gw_of (tb_8 (List.mem_of_getElem? (i := 226) rfl)) rfl, gw_of (tb_1 (List.mem_of_getElem? (i := 12) rfl)) rfl⟩
theorem yk_307 : yOK m307 1 := ⟨⟨by decide, by decide, by decide +kernel⟩, by decide +kernel, by decide, gw_of (tb_8 (List.mem_of_getElem? (i := 230) rfl)) rfl, gw_of (tb_1 (List.mem_of_getElem? (i := 12) rfl)) rfl⟩
theorem yk_308 : yOK m308 0 := ⟨⟨by decide, by decide, by decide +kernel⟩, by decide +kernel, by decide, gw_of (tb_8 (List.mem_of_getElem? (i := 234) rfl)) rfl, gw_of (tb_1 (List.mem_of_getElem? (i := 12) rfl)) rfl⟩
theorem yk_309 : yOK m309 3 := ⟨⟨by decide, by decide, by decide +kernel⟩, by decide +kernel, by decide, gw_of (tb_8 (List.mem_of_getElem? (i := 238) rfl)) rfl, gw_of (tb_1 (List.mem_of_getElem? (i := 12) rfl)) rfl⟩
theorem yk_310 : yOK m310 1 := ⟨⟨by decide, by decide, by decide +kernel⟩, by decide +kernel, by decide, gw_of (tb_9 (List.mem_of_getElem? (i := 2) rfl)) rfl, gw_of (tb_1 (List.mem_of_getElem? (i := 12) rfl)) rfl⟩
theorem yk_311 : yOK m311 1 := ⟨⟨by decide, by decide, by decide +kernel⟩, by decide +kernel, by decide, gw_of (tb_9 (List.mem_of_getElem? (i := 6) rfl)) rfl, gw_of (tb_1 (List.mem_of_getElem? (i := 12) rfl)) rfl⟩
theorem yk_312 : yOK m312 0 := ⟨⟨by decide, by decide, by decide +kernel⟩, by decide +kernel, by decide, gw_of (tb_9 (List.mem_of_getElem? (i := 10) rfl)) rfl, gw_of (tb_1 (List.mem_of_getElem? (i := 12) rfl)) rfl⟩
theorem yk_313 : yOK m313 0 := ⟨⟨by decide, by decide, by decide +kernel⟩, by decide +kernel, by decide, gw_of (tb_9 (List.mem_of_getElem? (i := 14) rfl)) rfl, gw_of (tb_1 (List.mem_of_getElem? (i := 12) rfl)) rfl⟩
theorem yk_314 : yOK m314 0 := ⟨⟨by decide, by decide, by decide +kernel⟩, by decide +kernel, by decide, gw_of (tb_9 (List.mem_of_getElem? (i := 18) rfl)) rfl, gw_of (tb_1 (List.mem_of_getElem? (i := 12) rfl)) rfl⟩
theorem yk_315 : yOK m315 1 := ⟨⟨by decide, by decide, by decide +kernel⟩, by decide +kernel, by decide, gw_of (tb_9 (List.mem_of_getElem? (i := 22) rfl)) rfl, gw_of (tb_1 (List.mem_of_getElem? (i := 12) rfl)) rfl⟩
theorem yk_316 : yOK m316 0 := ⟨⟨by decide, by decide, by decide +kernel⟩, by decide +kernel, by decide, gw_of (tb_9 (List.mem_of_getElem? (i := 26) rfl)) rfl, gw_of (tb_1 (List.mem_of_getElem? (i := 12) rfl)) rfl⟩
theorem yk_317 : yOK m317 1 := ⟨⟨by decide, by decide, by decide +kernel⟩, by decide +kernel, by decide, gw_of (tb_9 (List.mem_of_getElem? (i := 30) rfl)) rfl, gw_of (tb_1 (List.mem_of_getElem? (i := 12) rfl)) rfl⟩
theorem yk_318 : yOK m318 0 := ⟨⟨by decide, by decide, by decide +kernel⟩, by decide +kernel, by decide, gw_of (tb_9 (List.mem_of_getElem? (i := 34) rfl)) rfl, gw_of (tb_1 (List.mem_of_getElem? (i := 12) rfl)) rfl⟩
theorem yk_319 : yOK m319 1 := ⟨⟨by decide, by decide, by decide +kernel⟩, by decide +kernel, by decide, gw_of (tb_9 (List.mem_of_getElem? (i := 38) rfl)) rfl, gw_of (tb_1 (List.mem_of_getElem? (i := 12) rfl)) rfl⟩
theorem yk_320 : yOK m320 3 := ⟨⟨by decide, by decide, by decide +kernel⟩, by decide +kernel, by decide, gw_of (tb_9 (List.mem_of_getElem? (i := 42) rfl)) rfl, gw_of (tb_1 (List.mem_of_getElem? (i := 12) rfl)) rfl⟩
theorem yk_321 : yOK m321 1 := ⟨⟨by decide, by decide, by decide +kernel⟩, by decide +kernel, by decide, gw_of (tb_9 (List.mem_of_getElem? (i := 46) rfl)) rfl, gw_of (tb_1 (List.mem_of_getElem? (i := 12) rfl)) rfl⟩
theorem yk_322 : yOK m322 1 := ⟨⟨by decide, by decide, by decide +kernel⟩, by decide +kernel, by decide, gw_of (tb_9 (List.mem_of_getElem? (i := 50) rfl)) rfl, gw_of (tb_1 (List.mem_of_getElem? (i := 12) rfl)) rfl⟩
theorem yk_323 : yOK m323 1 := ⟨⟨by decide, by decide, by decide +kernel⟩, by decide +kernel, by decide, gw_of (tb_9 (List.mem_of_getElem? (i := 55) rfl)) rfl, gw_of (tb_1 (List.mem_of_getElem? (i := 12) rfl)) rfl⟩
theorem yk_324 : yOK m324 1 := ⟨⟨by decide, by decide, by decide +kernel⟩, by decide +kernel, by decide, gw_of (tb_9 (List.mem_of_getElem? (i := 59) rfl)) rfl, gw_of (tb_1 (List.mem_of_getElem? (i := 12) rfl)) rfl⟩
theorem yk_325 : yOK m325 1 := ⟨⟨by decide, by decide, by decide +kernel⟩, by decide +kernel, by decide, gw_of (tb_9 (List.mem_of_getElem? (i := 63) rfl)) rfl, gw_of (tb_1 (List.mem_of_getElem? (i := 12) rfl)) rfl⟩
theorem yk_326 : yOK m326 2 := ⟨⟨by decide, by decide, by decide +kernel⟩, by decide +kernel, by decide, gw_of (tb_9 (List.mem_of_getElem? (i := 67) rfl)) rfl, gw_of (tb_1 (List.mem_of_getElem? (i := 12) rfl)) rfl⟩
theorem yk_327 : yOK m327 2 := ⟨⟨by decide, by decide, by decide +kernel⟩, by decide +kernel, by decide, gw_of (tb_9 (List.mem_of_getElem? (i := 71) rfl)) rfl, gw_of (tb_1 (List.mem_of_getElem? (i := 12) rfl)) rfl⟩
theorem yk_328 : yOK m328 2 := ⟨⟨by decide, by decide, by decide +kernel⟩, by decide +kernel, by decide, gw_of (tb_9 (List.mem_of_getElem? (i := 75) rfl)) rfl, gw_of (tb_1 (List.mem_of_getElem? (i := 12) rfl)) rfl⟩
theorem yk_329 : yOK m329 1 := ⟨⟨by decide, by decide, by decide +kernel⟩, by decide +kernel, by decide, gw_of (tb_9 (List.mem_of_getElem? (i := 79) rfl)) rfl, gw_of (tb_1 (List.mem_of_getElem? (i := 12) rfl)) rfl⟩
theorem yk_330 : yOK m330 1 := ⟨⟨by decide, by decide, by decide +kernel⟩, by decide +kernel, by decide, gw_of (tb_9 (List.mem_of_getElem? (i := 82) rfl)) rfl, gw_of (tb_1 (List.mem_of_getElem? (i := 12) rfl)) rfl⟩
theorem yk_331 : yOK m331 0 := ⟨⟨by decide, by decide, by decide +kernel⟩, by decide +kernel, by decide, gw_of (tb_9 (List.mem_of_getElem? (i := 86) rfl)) rfl, gw_of (tb_1 (List.mem_of_getElem? (i := 12) rfl)) rfl⟩
theorem yk_332 : yOK m332 1 := ⟨⟨by decide, by decide, by decide +kernel⟩, by decide +kernel, by decide, gw_of (tb_9 (List.mem_of_getElem? (i := 90) rfl)) rfl, gw_of (tb_1 (List.mem_of_getElem? (i := 12) rfl)) rfl⟩
theorem yk_333 : yOK m333 1 := ⟨⟨by decide, by decide, by decide +kernel⟩, by decide +kernel, by decide, gw_of (tb_9 (List.mem_of_getElem? (i := 94) rfl)) rfl, gw_of (tb_1 (List.mem_of_getElem? (i := 12) rfl)) rfl⟩
theorem yk_334 : yOK m334 1 := ⟨⟨by decide, by decide, by decide +kernel⟩, by decide +kernel, by decide, gw_of (tb_9 (List.mem_of_getElem? (i := 98) rfl)) rfl, gw_of (tb_1 (List.mem_of_getElem? (i := 12) rfl)) rfl⟩
theorem ml_13_13 : mLV "NinetyPlayersLaw" 13 m16 5 := ⟨yk_16, gw_of (tb_2 (List.mem_of_getElem? (i := 237) rfl)) rfl, gw_of (tb_2 (List.mem_of_getElem? (i := 238) rfl)) rfl, gw_of (tb_2 (List.mem_of_getElem? (i := 239) rfl)) rfl⟩
theorem ml_13_17 : mLV "NinetyPlayersLaw" 17 m208 5 := ⟨yk_208, gw_of (tb_7 (List.mem_of_getElem? (i := 61) rfl)) rfl, gw_of (tb_7 (List.mem_of_getElem? (i := 62) rfl)) rfl, gw_of (tb_7 (List.mem_of_getElem? (i := 63) rfl)) rfl⟩
theorem ml_13_18 : mLV "NinetyPlayersLaw" 18 m18 1 := ⟨yk_18, gw_of (tb_3 (List.mem_of_getElem? (i := 5) rfl)) rfl, gw_of (tb_3 (List.mem_of_getElem? (i := 6) rfl)) rfl, gw_of (tb_3 (List.mem_of_getElem? (i := 7) rfl)) rfl⟩
theorem ml_13_22 : mLV "NinetyPlayersLaw" 22 m210 1 := ⟨yk_210, gw_of (tb_7 (List.mem_of_getElem? (i := 69) rfl)) rfl, gw_of (tb_7 (List.mem_of_getElem? (i := 70) rfl)) rfl, gw_of (tb_7 (List.mem_of_getElem? (i := 71) rfl)) rfl⟩
theorem ml_13_23 : mLV "NinetyPlayersLaw" 23 m19 0 := ⟨yk_19, gw_of (tb_3 (List.mem_of_getElem? (i := 9) rfl)) rfl, gw_of (tb_3 (List.mem_of_getElem? (i := 10) rfl)) rfl, gw_of (tb_3 (List.mem_of_getElem? (i := 11) rfl)) rfl⟩
theorem ml_13_27 : mLV "NinetyPlayersLaw" 27 m211 0 := ⟨yk_211, gw_of (tb_7 (List.mem_of_getElem? (i := 73) rfl)) rfl, gw_of (tb_7 (List.mem_of_getElem? (i := 74) rfl)) rfl, gw_of (tb_7 (List.mem_of_getElem? (i := 75) rfl)) rfl⟩
theorem ml_13_28 : mLV "NinetyPlayersLaw" 28 m85 1 := ⟨yk_85, gw_of (tb_4 (List.mem_of_getElem? (i := 29) rfl)) rfl, gw_of (tb_4 (List.mem_of_getElem? (i := 30) rfl)) rfl, gw_of (tb_4 (List.mem_of_getElem? (i := 31) rfl)) rfl⟩
theorem ml_13_31 : mLV "NinetyPlayersLaw" 31 m247 1 := ⟨yk_247, gw_of (tb_7 (List.mem_of_getElem? (i := 233) rfl)) rfl, gw_of (tb_7 (List.mem_of_getElem? (i := 234) rfl)) rfl, gw_of (tb_7 (List.mem_of_getElem? (i := 235) rfl)) rfl⟩
theorem ml_13_32 : mLV "NinetyPlayersLaw" 32 m86 2 := ⟨yk_86, gw_of (tb_4 (List.mem_of_getElem? (i := 33) rfl)) rfl, gw_of (tb_4 (List.mem_of_getElem? (i := 34) rfl)) rfl, gw_of (tb_4 (List.mem_of_getElem? (i := 35) rfl)) rfl⟩
theorem ml_13_36 : mLV "NinetyPlayersLaw" 36 m248 2 := ⟨yk_248, gw_of (tb_7 (List.mem_of_getElem? (i := 237) rfl)) rfl, gw_of (tb_7 (List.mem_of_getElem? (i := 238) rfl)) rfl, gw_of (tb_7 (List.mem_of_getElem? (i := 239) rfl)) rfl⟩
theorem ml_13_37 : mLV "NinetyPlayersLaw" 37 m97 2 := ⟨yk_97, gw_of (tb_4 (List.mem_of_getElem? (i := 80) rfl)) rfl, gw_of (tb_4 (List.mem_of_getElem? (i := 81) rfl)) rfl, gw_of (tb_4 (List.mem_of_getElem? (i := 82) rfl)) rfl⟩
theorem ml_13_40 : mLV "NinetyPlayersLaw" 40 m259 2 := ⟨yk_259, gw_of (tb_8 (List.mem_of_getElem? (i := 36) rfl)) rfl, gw_of (tb_8 (List.mem_of_getElem? (i := 37) rfl)) rfl, gw_of (tb_8 (List.mem_of_getElem? (i := 38) rfl)) rfl⟩
theorem ml_13_41 : mLV "NinetyPlayersLaw" 41 m101 2 := ⟨yk_101, gw_of (tb_4 (List.mem_of_getElem? (i := 96) rfl)) rfl, gw_of (tb_4 (List.mem_of_getElem? (i := 97) rfl)) rfl, gw_of (tb_4 (List.mem_of_getElem? (i := 98) rfl)) rfl⟩
theorem ml_13_44 : mLV "NinetyPlayersLaw" 44 m262 2 := ⟨yk_262, gw_of (tb_8 (List.mem_of_getElem? (i := 48) rfl)) rfl, gw_of (tb_8 (List.mem_of_getElem? (i := 49) rfl)) rfl, gw_of (tb_8 (List.mem_of_getElem? (i := 50) rfl)) rfl⟩
theorem ml_13_45 : mLV "NinetyPlayersLaw" 45 m111 1 := ⟨yk_111, gw_of (tb_4 (List.mem_of_getElem? (i := 136) rfl)) rfl, gw_of (tb_4 (List.mem_of_getElem? (i := 137) rfl)) rfl, gw_of (tb_4 (List.mem_of_getElem? (i := 138) rfl)) rfl⟩
theorem ml_13_48 : mLV "NinetyPlayersLaw" 48 m265 1 := ⟨yk_265, gw_of (tb_8 (List.mem_of_getElem? (i := 59) rfl)) rfl, gw_of (tb_8 (List.mem_of_getElem? (i := 60) rfl)) rfl, gw_of (tb_8 (List.mem_of_getElem? (i := 61) rfl)) rfl⟩
theorem ml_13_49 : mLV "NinetyPlayersLaw" 49 m113 1 := ⟨yk_113, gw_of (tb_4 (List.mem_of_getElem? (i := 144) rfl)) rfl, gw_of (tb_4 (List.mem_of_getElem? (i := 145) rfl)) rfl, gw_of (tb_4 (List.mem_of_getElem? (i := 146) rfl)) rfl⟩
theorem ml_13_52 : mLV "NinetyPlayersLaw" 52 m267 1 := ⟨yk_267, gw_of (tb_8 (List.mem_of_getElem? (i := 67) rfl)) rfl, gw_of (tb_8 (List.mem_of_getElem? (i := 68) rfl)) rfl, gw_of (tb_8 (List.mem_of_getElem? (i := 69) rfl)) rfl⟩
theorem ml_13_53 : mLV "NinetyPlayersLaw" 53 m121 2 := ⟨yk_121, gw_of (tb_4 (List.mem_of_getElem? (i := 176) rfl)) rfl, gw_of (tb_4 (List.mem_of_getElem? (i := 177) rfl)) rfl, gw_of (tb_4 (List.mem_of_getElem? (i := 178) rfl)) rfl⟩
theorem ml_13_56 : mLV "NinetyPlayersLaw" 56 m275 2 := ⟨yk_275, gw_of (tb_8 (List.mem_of_getElem? (i := 100) rfl)) rfl, gw_of (tb_8 (List.mem_of_getElem? (i := 101) rfl)) rfl, gw_of (tb_8 (List.mem_of_getElem? (i := 102) rfl)) rfl⟩
theorem ml_13_57 : mLV "NinetyPlayersLaw" 57 m129 2 := ⟨yk_129, gw_of (tb_4 (List.mem_of_getElem? (i := 212) rfl)) rfl, gw_of (tb_4 (List.mem_of_getElem? (i := 213) rfl)) rfl, gw_of (tb_4 (List.mem_of_getElem? (i := 214) rfl)) rfl⟩
theorem ml_13_60 : mLV "NinetyPlayersLaw" 60 m277 2 := ⟨yk_277, gw_of (tb_8 (List.mem_of_getElem? (i := 109) rfl)) rfl, gw_of (tb_8 (List.mem_of_getElem? (i := 110) rfl)) rfl, gw_of (tb_8 (List.mem_of_getElem? (i := 111) rfl)) rfl⟩
theorem ml_13_61 : mLV "NinetyPlayersLaw" 61 m131 2 := ⟨yk_131, gw_of (tb_4 (List.mem_of_getElem? (i := 219) rfl)) rfl, gw_of (tb_4 (List.mem_of_getElem? (i := 220) rfl)) rfl, gw_of (tb_4 (List.mem_of_getElem? (i := 221) rfl)) rfl⟩
theorem ml_13_64 : mLV "NinetyPlayersLaw" 64 m278 2 := ⟨yk_278, gw_of (tb_8 (List.mem_of_getElem? (i := 113) rfl)) rfl, gw_of (tb_8 (List.mem_of_getElem? (i := 114) rfl)) rfl, gw_of (tb_8 (List.mem_of_getElem? (i := 115) rfl)) rfl⟩
theorem ml_13_65 : mLV "NinetyPlayersLaw" 65 m132 2 := ⟨yk_132, gw_of (tb_4 (List.mem_of_getElem? (i := 223) rfl)) rfl, gw_of (tb_4 (List.mem_of_getElem? (i := 224) rfl)) rfl, gw_of (tb_4 (List.mem_of_getElem? (i := 225) rfl)) rfl⟩
theorem ml_13_68 : mLV "NinetyPlayersLaw" 68 m280 2 := ⟨yk_280, gw_of (tb_8 (List.mem_of_getElem? (i := 121) rfl)) rfl, gw_of (tb_8 (List.mem_of_getElem? (i := 122) rfl)) rfl, gw_of (tb_8 (List.mem_of_getElem? (i := 123) rfl)) rfl⟩
theorem ml_13_69 : mLV "NinetyPlayersLaw" 69 m133 1 := ⟨yk_133, gw_of (tb_4 (List.mem_of_getElem? (i := 227) rfl)) rfl, gw_of (tb_4 (List.mem_of_getElem? (i := 228) rfl)) rfl, gw_of (tb_4 (List.mem_of_getElem? (i := 229) rfl)) rfl⟩
theorem ml_13_72 : mLV "NinetyPlayersLaw" 72 m281 1 := ⟨yk_281, gw_of (tb_8 (List.mem_of_getElem? (i := 125) rfl)) rfl, gw_of (tb_8 (List.mem_of_getElem? (i := 126) rfl)) rfl, gw_of (tb_8 (List.mem_of_getElem? (i := 127) rfl)) rfl⟩
theorem ml_13_73 : mLV "NinetyPlayersLaw" 73 m134 0 := ⟨yk_134, gw_of (tb_4 (List.mem_of_getElem? (i := 231) rfl)) rfl, gw_of (tb_4 (List.mem_of_getElem? (i := 232) rfl)) rfl, gw_of (tb_4 (List.mem_of_getElem? (i := 233) rfl)) rfl⟩
theorem ml_13_77 : mLV "NinetyPlayersLaw" 77 m282 0 := ⟨yk_282, gw_of (tb_8 (List.mem_of_getElem? (i := 129) rfl)) rfl, gw_of (tb_8 (List.mem_of_getElem? (i := 130) rfl)) rfl, gw_of (tb_8 (List.mem_of_getElem? (i := 131) rfl)) rfl⟩
theorem ml_13_78 : mLV "NinetyPlayersLaw" 78 m136 0 := ⟨yk_136, gw_of (tb_4 (List.mem_of_getElem? (i := 239) rfl)) rfl, gw_of (tb_5 (List.mem_of_getElem? (i := 0) rfl)) rfl, gw_of (tb_5 (List.mem_of_getElem? (i := 1) rfl)) rfl⟩
theorem ml_13_81 : mLV "NinetyPlayersLaw" 81 m284 0 := ⟨yk_284, gw_of (tb_8 (List.mem_of_getElem? (i := 137) rfl)) rfl, gw_of (tb_8 (List.mem_of_getElem? (i := 138) rfl)) rfl, gw_of (tb_8 (List.mem_of_getElem? (i := 139) rfl)) rfl⟩
theorem ml_13_82 : mLV "NinetyPlayersLaw" 82 m127 0 := ⟨yk_127, gw_of (tb_5 (List.mem_of_getElem? (i := 7) rfl)) rfl, gw_of (tb_4 (List.mem_of_getElem? (i := 204) rfl)) rfl, gw_of (tb_4 (List.mem_of_getElem? (i := 205) rfl)) rfl⟩
theorem ml_13_85 : mLV "NinetyPlayersLaw" 85 m273 0 := ⟨yk_273, gw_of (tb_8 (List.mem_of_getElem? (i := 92) rfl)) rfl, gw_of (tb_8 (List.mem_of_getElem? (i := 93) rfl)) rfl, gw_of (tb_8 (List.mem_of_getElem? (i := 94) rfl)) rfl⟩
theorem ml_13_86 : mLV "NinetyPlayersLaw" 86 m138 0 := ⟨yk_138, gw_of (tb_5 (List.mem_of_getElem? (i := 8) rfl)) rfl, gw_of (tb_5 (List.mem_of_getElem? (i := 9) rfl)) rfl, gw_of (tb_5 (List.mem_of_getElem? (i := 10) rfl)) rfl⟩
theorem ml_13_89 : mLV "NinetyPlayersLaw" 89 m285 0 := ⟨yk_285, gw_of (tb_8 (List.mem_of_getElem? (i := 141) rfl)) rfl, gw_of (tb_8 (List.mem_of_getElem? (i := 142) rfl)) rfl, gw_of (tb_8 (List.mem_of_getElem? (i := 143) rfl)) rfl⟩
theorem ml_13_90 : mLV "NinetyPlayersLaw" 90 m139 1 := ⟨yk_139, gw_of (tb_5 (List.mem_of_getElem? (i := 12) rfl)) rfl, gw_of (tb_5 (List.mem_of_getElem? (i := 13) rfl)) rfl, gw_of (tb_5 (List.mem_of_getElem? (i := 14) rfl)) rfl⟩
theorem ml_13_93 : mLV "NinetyPlayersLaw" 93 m288 1 := ⟨yk_288, gw_of (tb_8 (List.mem_of_getElem? (i := 153) rfl)) rfl, gw_of (tb_8 (List.mem_of_getElem? (i := 154) rfl)) rfl, gw_of (tb_8 (List.mem_of_getElem? (i := 155) rfl)) rfl⟩
theorem ml_13_94 : mLV "NinetyPlayersLaw" 94 m152 2 := ⟨yk_152, gw_of (tb_5 (List.mem_of_getElem? (i := 67) rfl)) rfl, gw_of (tb_5 (List.mem_of_getElem? (i := 68) rfl)) rfl, gw_of (tb_5 (List.mem_of_getElem? (i := 69) rfl)) rfl⟩
theorem ml_13_97 : mLV "NinetyPlayersLaw" 97 m294 2 := ⟨yk_294, gw_of (tb_8 (List.mem_of_getElem? (i := 176) rfl)) rfl, gw_of (tb_8 (List.mem_of_getElem? (i := 177) rfl)) rfl, gw_of (tb_8 (List.mem_of_getElem? (i := 178) rfl)) rfl⟩
theorem ml_13_98 : mLV "NinetyPlayersLaw" 98 m153 2 := ⟨yk_153, gw_of (tb_5 (List.mem_of_getElem? (i := 71) rfl)) rfl, gw_of (tb_5 (List.mem_of_getElem? (i := 72) rfl)) rfl, gw_of (tb_5 (List.mem_of_getElem? (i := 73) rfl)) rfl⟩
theorem ml_13_101 : mLV "NinetyPlayersLaw" 101 m295 2 := ⟨yk_295, gw_of (tb_8 (List.mem_of_getElem? (i := 180) rfl)) rfl, gw_of (tb_8 (List.mem_of_getElem? (i := 181) rfl)) rfl, gw_of (tb_8 (List.mem_of_getElem? (i := 182) rfl)) rfl⟩
theorem ml_13_102 : mLV "NinetyPlayersLaw" 102 m156 3 := ⟨yk_156, gw_of (tb_5 (List.mem_of_getElem? (i := 83) rfl)) rfl, gw_of (tb_5 (List.mem_of_getElem? (i := 84) rfl)) rfl, gw_of (tb_5 (List.mem_of_getElem? (i := 85) rfl)) rfl⟩
theorem ml_13_106 : mLV "NinetyPlayersLaw" 106 m299 3 := ⟨yk_299, gw_of (tb_8 (List.mem_of_getElem? (i := 196) rfl)) rfl, gw_of (tb_8 (List.mem_of_getElem? (i := 197) rfl)) rfl, gw_of (tb_8 (List.mem_of_getElem? (i := 198) rfl)) rfl⟩
theorem ml_13_107 : mLV "NinetyPlayersLaw" 107 m161 2 := ⟨yk_161, gw_of (tb_5 (List.mem_of_getElem? (i := 103) rfl)) rfl, gw_of (tb_5 (List.mem_of_getElem? (i := 104) rfl)) rfl, gw_of (tb_5 (List.mem_of_getElem? (i := 105) rfl)) rfl⟩
theorem ml_13_110 : mLV "NinetyPlayersLaw" 110 m300 2 := ⟨yk_300, gw_of (tb_8 (List.mem_of_getElem? (i := 200) rfl)) rfl, gw_of (tb_8 (List.mem_of_getElem? (i := 201) rfl)) rfl, gw_of (tb_8 (List.mem_of_getElem? (i := 202) rfl)) rfl⟩
theorem ml_13_111 : mLV "NinetyPlayersLaw" 111 m163 1 := ⟨yk_163, gw_of (tb_5 (List.mem_of_getElem? (i := 113) rfl)) rfl, gw_of (tb_5 (List.mem_of_getElem? (i := 114) rfl)) rfl, gw_of (tb_5 (List.mem_of_getElem? (i := 115) rfl)) rfl⟩
theorem ml_13_114 : mLV "NinetyPlayersLaw" 114 m303 1 := ⟨yk_303, gw_of (tb_8 (List.mem_of_getElem? (i := 212) rfl)) rfl, gw_of (tb_8 (List.mem_of_getElem? (i := 213) rfl)) rfl, gw_of (tb_8 (List.mem_of_getElem? (i := 214) rfl)) rfl⟩
theorem ml_13_115 : mLV "NinetyPlayersLaw" 115 m168 1 := ⟨yk_168, gw_of (tb_5 (List.mem_of_getElem? (i := 135) rfl)) rfl, gw_of (tb_5 (List.mem_of_getElem? (i := 136) rfl)) rfl, gw_of (tb_5 (List.mem_of_getElem? (i := 137) rfl)) rfl⟩
theorem ml_13_118 : mLV "NinetyPlayersLaw" 118 m304 1 := ⟨yk_304, gw_of (tb_8 (List.mem_of_getElem? (i := 216) rfl)) rfl, gw_of (tb_8 (List.mem_of_getElem? (i := 217) rfl)) rfl, gw_of (tb_8 (List.mem_of_getElem? (i := 218) rfl)) rfl⟩
theorem ml_13_119 : mLV "NinetyPlayersLaw" 119 m170 1 := ⟨yk_170, gw_of (tb_5 (List.mem_of_getElem? (i := 143) rfl)) rfl, gw_of (tb_5 (List.mem_of_getElem? (i := 144) rfl)) rfl, gw_of (tb_5 (List.mem_of_getElem? (i := 145) rfl)) rfl⟩
theorem ml_13_122 : mLV "NinetyPlayersLaw" 122 m306 1 := ⟨yk_306, gw_of (tb_8 (List.mem_of_getElem? (i := 223) rfl)) rfl, gw_of (tb_8 (List.mem_of_getElem? (i := 224) rfl)) rfl, gw_of (tb_8 (List.mem_of_getElem? (i := 225) rfl)) rfl⟩
theorem ml_13_123 : mLV "NinetyPlayersLaw" 123 m171 0 := ⟨yk_171, gw_of (tb_5 (List.mem_of_getElem? (i := 148) rfl)) rfl, gw_of (tb_5 (List.mem_of_getElem? (i := 149) rfl)) rfl, gw_of (tb_5 (List.mem_of_getElem? (i := 150) rfl)) rfl⟩
theorem ml_13_126 : mLV "NinetyPlayersLaw" 126 m308 0 := ⟨yk_308, gw_of (tb_8 (List.mem_of_getElem? (i := 231) rfl)) rfl, gw_of (tb_8 (List.mem_of_getElem? (i := 232) rfl)) rfl, gw_of (tb_8 (List.mem_of_getElem? (i := 233) rfl)) rfl⟩
theorem ml_13_127 : mLV "NinetyPlayersLaw" 127 m173 1 := ⟨yk_173, gw_of (tb_5 (List.mem_of_getElem? (i := 157) rfl)) rfl, gw_of (tb_5 (List.mem_of_getElem? (i := 158) rfl)) rfl, gw_of (tb_5 (List.mem_of_getElem? (i := 159) rfl)) rfl⟩
theorem ml_13_130 : mLV "NinetyPlayersLaw" 130 m310 1 := ⟨yk_310, gw_of (tb_8 (List.mem_of_getElem? (i := 239) rfl)) rfl, gw_of (tb_9 (List.mem_of_getElem? (i := 0) rfl)) rfl, gw_of (tb_9 (List.mem_of_getElem? (i := 1) rfl)) rfl⟩
theorem ml_13_131 : mLV "NinetyPlayersLaw" 131 m175 0 := ⟨yk_175, gw_of (tb_5 (List.mem_of_getElem? (i := 165) rfl)) rfl, gw_of (tb_5 (List.mem_of_getElem? (i := 166) rfl)) rfl, gw_of (tb_5 (List.mem_of_getElem? (i := 167) rfl)) rfl⟩
theorem ml_13_134 : mLV "NinetyPlayersLaw" 134 m312 0 := ⟨yk_312, gw_of (tb_9 (List.mem_of_getElem? (i := 7) rfl)) rfl, gw_of (tb_9 (List.mem_of_getElem? (i := 8) rfl)) rfl, gw_of (tb_9 (List.mem_of_getElem? (i := 9) rfl)) rfl⟩
theorem ml_13_135 : mLV "NinetyPlayersLaw" 135 m176 0 := ⟨yk_176, gw_of (tb_5 (List.mem_of_getElem? (i := 169) rfl)) rfl, gw_of (tb_5 (List.mem_of_getElem? (i := 170) rfl)) rfl, gw_of (tb_5 (List.mem_of_getElem? (i := 171) rfl)) rfl⟩
theorem ml_13_138 : mLV "NinetyPlayersLaw" 138 m314 0 := ⟨yk_314, gw_of (tb_9 (List.mem_of_getElem? (i := 15) rfl)) rfl, gw_of (tb_9 (List.mem_of_getElem? (i := 16) rfl)) rfl, gw_of (tb_9 (List.mem_of_getElem? (i := 17) rfl)) rfl⟩
theorem ml_13_139 : mLV "NinetyPlayersLaw" 139 m177 1 := ⟨yk_177, gw_of (tb_5 (List.mem_of_getElem? (i := 173) rfl)) rfl, gw_of (tb_5 (List.mem_of_getElem? (i := 174) rfl)) rfl, gw_of (tb_5 (List.mem_of_getElem? (i := 175) rfl)) rfl⟩
theorem ml_13_142 : mLV "NinetyPlayersLaw" 142 m315 1 := ⟨yk_315, gw_of (tb_9 (List.mem_of_getElem? (i := 19) rfl)) rfl, gw_of (tb_9 (List.mem_of_getElem? (i := 20) rfl)) rfl, gw_of (tb_9 (List.mem_of_getElem? (i := 21) rfl)) rfl⟩
theorem ml_13_143 : mLV "NinetyPlayersLaw" 143 m178 0 := ⟨yk_178, gw_of (tb_5 (List.mem_of_getElem? (i := 177) rfl)) rfl, gw_of (tb_5 (List.mem_of_getElem? (i := 178) rfl)) rfl, gw_of (tb_5 (List.mem_of_getElem? (i := 179) rfl)) rfl⟩
theorem ml_13_146 : mLV "NinetyPlayersLaw" 146 m316 0 := ⟨yk_316, gw_of (tb_9 (List.mem_of_getElem? (i := 23) rfl)) rfl, gw_of (tb_9 (List.mem_of_getElem? (i := 24) rfl)) rfl, gw_of (tb_9 (List.mem_of_getElem? (i := 25) rfl)) rfl⟩
theorem ml_13_147 : mLV "NinetyPlayersLaw" 147 m180 1 := ⟨yk_180, gw_of (tb_5 (List.mem_of_getElem? (i := 185) rfl)) rfl, gw_of (tb_5 (List.mem_of_getElem? (i := 186) rfl)) rfl, gw_of (tb_5 (List.mem_of_getElem? (i := 187) rfl)) rfl⟩
theorem ml_13_150 : mLV "NinetyPlayersLaw" 150 m307 1 := ⟨yk_307, gw_of (tb_8 (List.mem_of_getElem? (i := 227) rfl)) rfl, gw_of (tb_8 (List.mem_of_getElem? (i := 228) rfl)) rfl, gw_of (tb_8 (List.mem_of_getElem? (i := 229) rfl)) rfl⟩
theorem ml_13_151 : mLV "NinetyPlayersLaw" 151 m181 1 := ⟨yk_181, gw_of (tb_5 (List.mem_of_getElem? (i := 190) rfl)) rfl, gw_of (tb_5 (List.mem_of_getElem? (i := 191) rfl)) rfl, gw_of (tb_5 (List.mem_of_getElem? (i := 192) rfl)) rfl⟩
theorem ml_13_154 : mLV "NinetyPlayersLaw" 154 m317 1 := ⟨yk_317, gw_of (tb_9 (List.mem_of_getElem? (i := 27) rfl)) rfl, gw_of (tb_9 (List.mem_of_getElem? (i := 28) rfl)) rfl, gw_of (tb_9 (List.mem_of_getElem? (i := 29) rfl)) rfl⟩
theorem ml_13_155 : mLV "NinetyPlayersLaw" 155 m182 0 := ⟨yk_182, gw_of (tb_5 (List.mem_of_getElem? (i := 194) rfl)) rfl, gw_of (tb_5 (List.mem_of_getElem? (i := 195) rfl)) rfl, gw_of (tb_5 (List.mem_of_getElem? (i := 196) rfl)) rfl⟩
theorem ml_13_158 : mLV "NinetyPlayersLaw" 158 m318 0 := ⟨yk_318, gw_of (tb_9 (List.mem_of_getElem? (i := 31) rfl)) rfl, gw_of (tb_9 (List.mem_of_getElem? (i := 32) rfl)) rfl, gw_of (tb_9 (List.mem_of_getElem? (i := 33) rfl)) rfl⟩
theorem ml_13_159 : mLV "NinetyPlayersLaw" 159 m183 1 := ⟨yk_183, gw_of (tb_5 (List.mem_of_getElem? (i := 198) rfl)) rfl, gw_of (tb_5 (List.mem_of_getElem? (i := 199) rfl)) rfl, gw_of (tb_5 (List.mem_of_getElem? (i := 200) rfl)) rfl⟩
theorem ml_13_162 : mLV "NinetyPlayersLaw" 162 m298 1 := ⟨yk_298, gw_of (tb_8 (List.mem_of_getElem? (i := 192) rfl)) rfl, gw_of (tb_8 (List.mem_of_getElem? (i := 193) rfl)) rfl, gw_of (tb_8 (List.mem_of_getElem? (i := 194) rfl)) rfl⟩
theorem ml_13_163 : mLV "NinetyPlayersLaw" 163 m184 1 := ⟨yk_184, gw_of (tb_5 (List.mem_of_getElem? (i := 202) rfl)) rfl, gw_of (tb_5 (List.mem_of_getElem? (i := 203) rfl)) rfl, gw_of (tb_5 (List.mem_of_getElem? (i := 204) rfl)) rfl⟩
theorem ml_13_166 : mLV "NinetyPlayersLaw" 166 m319 1 := ⟨yk_319, gw_of (tb_9 (List.mem_of_getElem? (i := 35) rfl)) rfl, gw_of (tb_9 (List.mem_of_getElem? (i := 36) rfl)) rfl, gw_of (tb_9 (List.mem_of_getElem? (i := 37) rfl)) rfl⟩
theorem ml_13_167 : mLV "NinetyPlayersLaw" 167 m185 3 := ⟨yk_185, gw_of (tb_5 (List.mem_of_getElem? (i := 206) rfl)) rfl, gw_of (tb_5 (List.mem_of_getElem? (i := 207) rfl)) rfl, gw_of (tb_5 (List.mem_of_getElem? (i := 208) rfl)) rfl⟩
theorem ml_13_171 : mLV "NinetyPlayersLaw" 171 m320 3 := ⟨yk_320, gw_of (tb_9 (List.mem_of_getElem? (i := 39) rfl)) rfl, gw_of (tb_9 (List.mem_of_getElem? (i := 40) rfl)) rfl, gw_of (tb_9 (List.mem_of_getElem? (i := 41) rfl)) rfl⟩
theorem ml_13_172 : mLV "NinetyPlayersLaw" 172 m187 1 := ⟨yk_187, gw_of (tb_5 (List.mem_of_getElem? (i := 214) rfl)) rfl, gw_of (tb_5 (List.mem_of_getElem? (i := 215) rfl)) rfl, gw_of (tb_5 (List.mem_of_getElem? (i := 216) rfl)) rfl⟩
theorem ml_13_176 : mLV "NinetyPlayersLaw" 176 m321 1 := ⟨yk_321, gw_of (tb_9 (List.mem_of_getElem? (i := 43) rfl)) rfl, gw_of (tb_9 (List.mem_of_getElem? (i := 44) rfl)) rfl, gw_of (tb_9 (List.mem_of_getElem? (i := 45) rfl)) rfl⟩
theorem ml_13_177 : mLV "NinetyPlayersLaw" 177 m189 1 := ⟨yk_189, gw_of (tb_5 (List.mem_of_getElem? (i := 222) rfl)) rfl, gw_of (tb_5 (List.mem_of_getElem? (i := 223) rfl)) rfl, gw_of (tb_5 (List.mem_of_getElem? (i := 224) rfl)) rfl⟩
theorem ml_13_180 : mLV "NinetyPlayersLaw" 180 m322 1 := ⟨yk_322, gw_of (tb_9 (List.mem_of_getElem? (i := 47) rfl)) rfl, gw_of (tb_9 (List.mem_of_getElem? (i := 48) rfl)) rfl, gw_of (tb_9 (List.mem_of_getElem? (i := 49) rfl)) rfl⟩
theorem ml_13_181 : mLV "NinetyPlayersLaw" 181 m191 1 := ⟨yk_191, gw_of (tb_5 (List.mem_of_getElem? (i := 231) rfl)) rfl, gw_of (tb_5 (List.mem_of_getElem? (i := 232) rfl)) rfl, gw_of (tb_5 (List.mem_of_getElem? (i := 233) rfl)) rfl⟩
theorem ml_13_184 : mLV "NinetyPlayersLaw" 184 m323 1 := ⟨yk_323, gw_of (tb_9 (List.mem_of_getElem? (i := 52) rfl)) rfl, gw_of (tb_9 (List.mem_of_getElem? (i := 53) rfl)) rfl, gw_of (tb_9 (List.mem_of_getElem? (i := 54) rfl)) rfl⟩
theorem ml_13_185 : mLV "NinetyPlayersLaw" 185 m197 2 := ⟨yk_197, gw_of (tb_6 (List.mem_of_getElem? (i := 14) rfl)) rfl, gw_of (tb_6 (List.mem_of_getElem? (i := 15) rfl)) rfl, gw_of (tb_6 (List.mem_of_getElem? (i := 16) rfl)) rfl⟩
theorem ml_13_188 : mLV "NinetyPlayersLaw" 188 m327 2 := ⟨yk_327, gw_of (tb_9 (List.mem_of_getElem? (i := 68) rfl)) rfl, gw_of (tb_9 (List.mem_of_getElem? (i := 69) rfl)) rfl, gw_of (tb_9 (List.mem_of_getElem? (i := 70) rfl)) rfl⟩
theorem ml_13_189 : mLV "NinetyPlayersLaw" 189 m198 2 := ⟨yk_198, gw_of (tb_6 (List.mem_of_getElem? (i := 18) rfl)) rfl, gw_of (tb_6 (List.mem_of_getElem? (i := 19) rfl)) rfl, gw_of (tb_6 (List.mem_of_getElem? (i := 20) rfl)) rfl⟩
theorem ml_13_192 : mLV "NinetyPlayersLaw" 192 m328 2 := ⟨yk_328, gw_of (tb_9 (List.mem_of_getElem? (i := 72) rfl)) rfl, gw_of (tb_9 (List.mem_of_getElem? (i := 73) rfl)) rfl, gw_of (tb_9 (List.mem_of_getElem? (i := 74) rfl)) rfl⟩
theorem ml_13_193 : mLV "NinetyPlayersLaw" 193 m199 1 := ⟨yk_199, gw_of (tb_6 (List.mem_of_getElem? (i := 22) rfl)) rfl, gw_of (tb_6 (List.mem_of_getElem? (i := 23) rfl)) rfl, gw_of (tb_6 (List.mem_of_getElem? (i := 24) rfl)) rfl⟩
theorem ml_13_196 : mLV "NinetyPlayersLaw" 196 m329 1 := ⟨yk_329, gw_of (tb_9 (List.mem_of_getElem? (i := 76) rfl)) rfl, gw_of (tb_9 (List.mem_of_getElem? (i := 77) rfl)) rfl, gw_of (tb_9 (List.mem_of_getElem? (i := 78) rfl)) rfl⟩
theorem ml_13_197 : mLV "NinetyPlayersLaw" 197 m201 1 := ⟨yk_201, gw_of (tb_6 (List.mem_of_getElem? (i := 30) rfl)) rfl, gw_of (tb_6 (List.mem_of_getElem? (i := 31) rfl)) rfl, gw_of (tb_6 (List.mem_of_getElem? (i := 32) rfl)) rfl⟩
theorem ml_13_200 : mLV "NinetyPlayersLaw" 200 m332 1 := ⟨yk_332, gw_of (tb_9 (List.mem_of_getElem? (i := 87) rfl)) rfl, gw_of (tb_9 (List.mem_of_getElem? (i := 88) rfl)) rfl, gw_of (tb_9 (List.mem_of_getElem? (i := 89) rfl)) rfl⟩
theorem ml_13_201 : mLV "NinetyPlayersLaw" 201 m203 1 := ⟨yk_203, gw_of (tb_6 (List.mem_of_getElem? (i := 38) rfl)) rfl, gw_of (tb_6 (List.mem_of_getElem? (i := 39) rfl)) rfl, gw_of (tb_6 (List.mem_of_getElem? (i := 40) rfl)) rfl⟩
theorem ml_13_204 : mLV "NinetyPlayersLaw" 204 m333 1 := ⟨yk_333, gw_of (tb_9 (List.mem_of_getElem? (i := 91) rfl)) rfl, gw_of (tb_9 (List.mem_of_getElem? (i := 92) rfl)) rfl, gw_of (tb_9 (List.mem_of_getElem? (i := 93) rfl)) rfl⟩
theorem ml_13_205 : mLV "NinetyPlayersLaw" 205 m205 1 := ⟨yk_205, gw_of (tb_6 (List.mem_of_getElem? (i := 46) rfl)) rfl, gw_of (tb_6 (List.mem_of_getElem? (i := 47) rfl)) rfl, gw_of (tb_6 (List.mem_of_getElem? (i := 48) rfl)) rfl⟩
theorem ml_13_208 : mLV "NinetyPlayersLaw" 208 m334 1 := ⟨yk_334, gw_of (tb_9 (List.mem_of_getElem? (i := 95) rfl)) rfl, gw_of (tb_9 (List.mem_of_getElem? (i := 96) rfl)) rfl, gw_of (tb_9 (List.mem_of_getElem? (i := 97) rfl)) rfl⟩
theorem fl_0_9 : fL "NinetyPlayers" 9 0 0 := ⟨_, _, _, ck_0, by decide, gw_of (tb_2 (List.mem_of_getElem? (i := 194) rfl)) rfl⟩
theorem fl_0_18 : fL "NinetyPlayers" 18 0 2 := ⟨_, _, _, ck_0, by decide, gw_of (tb_2 (List.mem_of_getElem? (i := 196) rfl)) rfl⟩
theorem fl_0_25 : fL "NinetyPlayers" 25 0 3 := ⟨_, _, _, ck_0, by decide, gw_of (tb_2 (List.mem_of_getElem? (i := 197) rfl)) rfl⟩
theorem fl_0_32 : fL "NinetyPlayers" 32 0 4 := ⟨_, _, _, ck_0, by decide, gw_of (tb_2 (List.mem_of_getElem? (i := 198) rfl)) rfl⟩
theorem fl_0_36 : fL "NinetyPlayers" 36 0 5 := ⟨_, _, _, ck_0, by decide, gw_of (tb_2 (List.mem_of_getElem? (i := 199) rfl)) rfl⟩
theorem fl_0_43 : fL "NinetyPlayers" 43 0 6 := ⟨_, _, _, ck_0, by decide, gw_of (tb_2 (List.mem_of_getElem? (i := 200) rfl)) rfl⟩
theorem fl_0_50 : fL "NinetyPlayers" 50 0 7 := ⟨_, _, _, ck_0, by decide, gw_of (tb_2 (List.mem_of_getElem? (i := 201) rfl)) rfl⟩
theorem fl_0_54 : fL "NinetyPlayers" 54 0 8 := ⟨_, _, _, ck_0, by decide, gw_of (tb_2 (List.mem_of_getElem? (i := 202) rfl)) rfl⟩
theorem fl_0_63 : fL "NinetyPlayers" 63 0 9 := ⟨_, _, _, ck_0, by decide, gw_of (tb_2 (List.mem_of_getElem? (i := 203) rfl)) rfl⟩
theorem fl_0_72 : fL "NinetyPlayers" 72 0 10 := ⟨_, _, _, ck_0, by decide, gw_of (tb_2 (List.mem_of_getElem? (i := 204) rfl)) rfl⟩
theorem fl_0_79 : fL "NinetyPlayers" 79 0 11 := ⟨_, _, _, ck_0, by decide, gw_of (tb_2 (List.mem_of_getElem? (i := 205) rfl)) rfl⟩
theorem fl_0_83 : fL "NinetyPlayers" 83 0 12 := ⟨_, _, _, ck_0, by decide, gw_of (tb_2 (List.mem_of_getElem? (i := 206) rfl)) rfl⟩
theorem ml_0_86 : mLV "NinetyPlayers" 86 m15 1 := ⟨yk_15, gw_of (tb_2 (List.mem_of_getElem? (i := 190) rfl)) rfl, gw_of (tb_2 (List.mem_of_getElem? (i := 191) rfl)) rfl, gw_of (tb_2 (List.mem_of_getElem? (i := 192) rfl)) rfl⟩
theorem fl_1_9 : fL "NinetyPlayers$Reader" 9 1 1 := ⟨_, _, _, ck_1, by decide, gw_of (tb_1 (List.mem_of_getElem? (i := 195) rfl)) rfl⟩
theorem fl_1_18 : fL "NinetyPlayers$Reader" 18 1 3 := ⟨_, _, _, ck_1, by decide, gw_of (tb_1 (List.mem_of_getElem? (i := 198) rfl)) rfl⟩
theorem fl_1_27 : fL "NinetyPlayers$Reader" 27 1 2 := ⟨_, _, _, ck_1, by decide, gw_of (tb_1 (List.mem_of_getElem? (i := 197) rfl)) rfl⟩
theorem fl_2_9 : fL "NinetyPlayers$Score" 9 2 7 := ⟨_, _, _, ck_2, by decide, gw_of (tb_1 (List.mem_of_getElem? (i := 107) rfl)) rfl⟩
theorem fl_2_15 : fL "NinetyPlayers$Score" 15 2 8 := ⟨_, _, _, ck_2, by decide, gw_of (tb_1 (List.mem_of_getElem? (i := 108) rfl)) rfl⟩
theorem fl_2_19 : fL "NinetyPlayers$Score" 19 2 9 := ⟨_, _, _, ck_2, by decide, gw_of (tb_1 (List.mem_of_getElem? (i := 110) rfl)) rfl⟩
theorem fl_2_22 : fL "NinetyPlayers$Score" 22 2 10 := ⟨_, _, _, ck_2, by decide, gw_of (tb_1 (List.mem_of_getElem? (i := 111) rfl)) rfl⟩
theorem fl_2_25 : fL "NinetyPlayers$Score" 25 2 11 := ⟨_, _, _, ck_2, by decide, gw_of (tb_1 (List.mem_of_getElem? (i := 113) rfl)) rfl⟩
theorem fl_2_28 : fL "NinetyPlayers$Score" 28 2 12 := ⟨_, _, _, ck_2, by decide, gw_of (tb_1 (List.mem_of_getElem? (i := 117) rfl)) rfl⟩
theorem fl_2_31 : fL "NinetyPlayers$Score" 31 2 13 := ⟨_, _, _, ck_2, by decide, gw_of (tb_1 (List.mem_of_getElem? (i := 120) rfl)) rfl⟩
theorem fl_2_34 : fL "NinetyPlayers$Score" 34 2 14 := ⟨_, _, _, ck_2, by decide, gw_of (tb_1 (List.mem_of_getElem? (i := 123) rfl)) rfl⟩
theorem fl_2_40 : fL "NinetyPlayers$Score" 40 2 15 := ⟨_, _, _, ck_2, by decide, gw_of (tb_1 (List.mem_of_getElem? (i := 125) rfl)) rfl⟩
theorem ml_2_44 : mLV "NinetyPlayers$Score" 44 m6 0 := ⟨yk_6, gw_of (tb_1 (List.mem_of_getElem? (i := 72) rfl)) rfl, gw_of (tb_1 (List.mem_of_getElem? (i := 73) rfl)) rfl, gw_of (tb_1 (List.mem_of_getElem? (i := 74) rfl)) rfl⟩
theorem fl_3_9 : fL "NinetyPlayers$Formula" 9 3 2 := ⟨_, _, _, ck_3, by decide, gw_of (tb_1 (List.mem_of_getElem? (i := 52) rfl)) rfl⟩
theorem fl_3_13 : fL "NinetyPlayers$Formula" 13 3 3 := ⟨_, _, _, ck_3, by decide, gw_of (tb_1 (List.mem_of_getElem? (i := 53) rfl)) rfl⟩
theorem fl_3_18 : fL "NinetyPlayers$Formula" 18 3 4 := ⟨_, _, _, ck_3, by decide, gw_of (tb_1 (List.mem_of_getElem? (i := 54) rfl)) rfl⟩
theorem fl_2_47 : fL "NinetyPlayers$Score" 47 2 0 := ⟨_, _, _, ck_2, by decide, gw_of (tb_1 (List.mem_of_getElem? (i := 81) rfl)) rfl⟩
theorem fl_2_51 : fL "NinetyPlayers$Score" 51 2 1 := ⟨_, _, _, ck_2, by decide, gw_of (tb_1 (List.mem_of_getElem? (i := 84) rfl)) rfl⟩
theorem fl_2_54 : fL "NinetyPlayers$Score" 54 2 2 := ⟨_, _, _, ck_2, by decide, gw_of (tb_1 (List.mem_of_getElem? (i := 88) rfl)) rfl⟩
theorem fl_2_57 : fL "NinetyPlayers$Score" 57 2 3 := ⟨_, _, _, ck_2, by decide, gw_of (tb_1 (List.mem_of_getElem? (i := 92) rfl)) rfl⟩
theorem fl_2_60 : fL "NinetyPlayers$Score" 60 2 4 := ⟨_, _, _, ck_2, by decide, gw_of (tb_1 (List.mem_of_getElem? (i := 96) rfl)) rfl⟩
theorem fl_2_63 : fL "NinetyPlayers$Score" 63 2 5 := ⟨_, _, _, ck_2, by decide, gw_of (tb_1 (List.mem_of_getElem? (i := 99) rfl)) rfl⟩
theorem fl_2_66 : fL "NinetyPlayers$Score" 66 2 6 := ⟨_, _, _, ck_2, by decide, gw_of (tb_1 (List.mem_of_getElem? (i := 103) rfl)) rfl⟩
theorem ml_2_69 : mLV "NinetyPlayers$Score" 69 m7 0 := ⟨yk_7, gw_of (tb_1 (List.mem_of_getElem? (i := 76) rfl)) rfl, gw_of (tb_1 (List.mem_of_getElem? (i := 77) rfl)) rfl, gw_of (tb_1 (List.mem_of_getElem? (i := 78) rfl)) rfl⟩
theorem fl_3_21 : fL "NinetyPlayers$Formula" 21 3 0 := ⟨_, _, _, ck_3, by decide, gw_of (tb_1 (List.mem_of_getElem? (i := 48) rfl)) rfl⟩
theorem fl_3_25 : fL "NinetyPlayers$Formula" 25 3 1 := ⟨_, _, _, ck_3, by decide, gw_of (tb_1 (List.mem_of_getElem? (i := 51) rfl)) rfl⟩
theorem fl_4_9 : fL "NinetyPlayers$Tokens" 9 4 0 := ⟨_, _, _, ck_4, by decide, gw_of (tb_1 (List.mem_of_getElem? (i := 167) rfl)) rfl⟩
theorem fl_5_9 : fL "NinetyPlayers$Laying" 9 5 2 := ⟨_, _, _, ck_5, by decide, gw_of (tb_1 (List.mem_of_getElem? (i := 223) rfl)) rfl⟩
theorem fl_5_15 : fL "NinetyPlayers$Laying" 15 5 3 := ⟨_, _, _, ck_5, by decide, gw_of (tb_1 (List.mem_of_getElem? (i := 225) rfl)) rfl⟩
theorem fl_5_18 : fL "NinetyPlayers$Laying" 18 5 4 := ⟨_, _, _, ck_5, by decide, gw_of (tb_1 (List.mem_of_getElem? (i := 228) rfl)) rfl⟩
theorem fl_5_21 : fL "NinetyPlayers$Laying" 21 5 5 := ⟨_, _, _, ck_5, by decide, gw_of (tb_1 (List.mem_of_getElem? (i := 231) rfl)) rfl⟩
theorem fl_6_9 : fL "NinetyPlayers$Acts" 9 6 2 := ⟨_, _, _, ck_6, by decide, gw_of (tb_2 (List.mem_of_getElem? (i := 17) rfl)) rfl⟩
theorem fl_6_15 : fL "NinetyPlayers$Acts" 15 6 3 := ⟨_, _, _, ck_6, by decide, gw_of (tb_2 (List.mem_of_getElem? (i := 18) rfl)) rfl⟩
theorem fl_6_18 : fL "NinetyPlayers$Acts" 18 6 4 := ⟨_, _, _, ck_6, by decide, gw_of (tb_2 (List.mem_of_getElem? (i := 19) rfl)) rfl⟩
theorem fl_6_21 : fL "NinetyPlayers$Acts" 21 6 5 := ⟨_, _, _, ck_6, by decide, gw_of (tb_2 (List.mem_of_getElem? (i := 20) rfl)) rfl⟩
theorem fl_7_9 : fL "NinetyPlayers$Keyboard" 9 7 8 := ⟨_, _, _, ck_7, by decide, gw_of (tb_2 (List.mem_of_getElem? (i := 62) rfl)) rfl⟩
theorem fl_7_15 : fL "NinetyPlayers$Keyboard" 15 7 9 := ⟨_, _, _, ck_7, by decide, gw_of (tb_2 (List.mem_of_getElem? (i := 64) rfl)) rfl⟩
theorem fl_7_18 : fL "NinetyPlayers$Keyboard" 18 7 10 := ⟨_, _, _, ck_7, by decide, gw_of (tb_2 (List.mem_of_getElem? (i := 65) rfl)) rfl⟩
theorem fl_7_21 : fL "NinetyPlayers$Keyboard" 21 7 11 := ⟨_, _, _, ck_7, by decide, gw_of (tb_2 (List.mem_of_getElem? (i := 66) rfl)) rfl⟩
theorem fl_8_9 : fL "NinetyPlayers$Arranger" 9 8 5 := ⟨_, _, _, ck_8, by decide, gw_of (tb_2 (List.mem_of_getElem? (i := 106) rfl)) rfl⟩
theorem fl_8_15 : fL "NinetyPlayers$Arranger" 15 8 6 := ⟨_, _, _, ck_8, by decide, gw_of (tb_2 (List.mem_of_getElem? (i := 107) rfl)) rfl⟩
theorem fl_8_18 : fL "NinetyPlayers$Arranger" 18 8 7 := ⟨_, _, _, ck_8, by decide, gw_of (tb_2 (List.mem_of_getElem? (i := 108) rfl)) rfl⟩
theorem fl_8_21 : fL "NinetyPlayers$Arranger" 21 8 8 := ⟨_, _, _, ck_8, by decide, gw_of (tb_2 (List.mem_of_getElem? (i := 109) rfl)) rfl⟩
theorem fl_8_24 : fL "NinetyPlayers$Arranger" 24 8 0 := ⟨_, _, _, ck_8, by decide, gw_of (tb_2 (List.mem_of_getElem? (i := 98) rfl)) rfl⟩
theorem fl_8_28 : fL "NinetyPlayers$Arranger" 28 8 1 := ⟨_, _, _, ck_8, by decide, gw_of (tb_2 (List.mem_of_getElem? (i := 99) rfl)) rfl⟩
theorem fl_9_9 : fL "NinetyPlayers$Pedaller" 9 9 1 := ⟨_, _, _, ck_9, by decide, gw_of (tb_2 (List.mem_of_getElem? (i := 136) rfl)) rfl⟩
theorem fl_9_15 : fL "NinetyPlayers$Pedaller" 15 9 0 := ⟨_, _, _, ck_9, by decide, gw_of (tb_2 (List.mem_of_getElem? (i := 135) rfl)) rfl⟩
theorem fl_10_9 : fL "NinetyPlayers$Witness" 9 10 3 := ⟨_, _, _, ck_10, by decide, gw_of (tb_2 (List.mem_of_getElem? (i := 154) rfl)) rfl⟩
theorem fl_10_15 : fL "NinetyPlayers$Witness" 15 10 4 := ⟨_, _, _, ck_10, by decide, gw_of (tb_2 (List.mem_of_getElem? (i := 156) rfl)) rfl⟩
theorem fl_10_18 : fL "NinetyPlayers$Witness" 18 10 5 := ⟨_, _, _, ck_10, by decide, gw_of (tb_2 (List.mem_of_getElem? (i := 157) rfl)) rfl⟩
theorem fl_10_21 : fL "NinetyPlayers$Witness" 21 10 6 := ⟨_, _, _, ck_10, by decide, gw_of (tb_2 (List.mem_of_getElem? (i := 158) rfl)) rfl⟩
theorem fl_10_25 : fL "NinetyPlayers$Witness" 25 10 7 := ⟨_, _, _, ck_10, by decide, gw_of (tb_2 (List.mem_of_getElem? (i := 159) rfl)) rfl⟩
theorem fl_10_28 : fL "NinetyPlayers$Witness" 28 10 8 := ⟨_, _, _, ck_10, by decide, gw_of (tb_2 (List.mem_of_getElem? (i := 160) rfl)) rfl⟩
theorem fl_10_31 : fL "NinetyPlayers$Witness" 31 10 9 := ⟨_, _, _, ck_10, by decide, gw_of (tb_2 (List.mem_of_getElem? (i := 161) rfl)) rfl⟩
theorem fl_5_24 : fL "NinetyPlayers$Laying" 24 5 1 := ⟨_, _, _, ck_5, by decide, gw_of (tb_1 (List.mem_of_getElem? (i := 220) rfl)) rfl⟩
theorem fl_5_28 : fL "NinetyPlayers$Laying" 28 2 12 := ⟨_, _, _, ck_2, by decide, gw_of (tb_1 (List.mem_of_getElem? (i := 118) rfl)) rfl⟩
theorem fl_5_31 : fL "NinetyPlayers$Laying" 31 2 13 := ⟨_, _, _, ck_2, by decide, gw_of (tb_1 (List.mem_of_getElem? (i := 121) rfl)) rfl⟩
theorem fl_5_32 : fL "NinetyPlayers$Laying" 32 2 14 := ⟨_, _, _, ck_2, by decide, gw_of (tb_1 (List.mem_of_getElem? (i := 124) rfl)) rfl⟩
theorem fl_0_90 : fL "NinetyPlayers" 90 0 1 := ⟨_, _, _, ck_0, by decide, gw_of (tb_2 (List.mem_of_getElem? (i := 195) rfl)) rfl⟩
theorem ml_0_94 : mLV "NinetyPlayers" 94 m17 1 := ⟨yk_17, gw_of (tb_3 (List.mem_of_getElem? (i := 1) rfl)) rfl, gw_of (tb_3 (List.mem_of_getElem? (i := 3) rfl)) rfl, gw_sel (List.mem_of_getElem? (i := 0) rfl) rfl⟩
theorem ml_0_98 : mLV "NinetyPlayers" 98 m20 1 := ⟨yk_20, gw_of (tb_3 (List.mem_of_getElem? (i := 13) rfl)) rfl, gw_of (tb_3 (List.mem_of_getElem? (i := 14) rfl)) rfl, gw_of (tb_3 (List.mem_of_getElem? (i := 15) rfl)) rfl⟩
theorem ml_0_102 : mLV "NinetyPlayers" 102 m82 1 := ⟨yk_82, gw_of (tb_4 (List.mem_of_getElem? (i := 17) rfl)) rfl, gw_of (tb_4 (List.mem_of_getElem? (i := 18) rfl)) rfl, gw_of (tb_4 (List.mem_of_getElem? (i := 19) rfl)) rfl⟩
theorem ml_0_106 : mLV "NinetyPlayers" 106 m83 0 := ⟨yk_83, gw_of (tb_4 (List.mem_of_getElem? (i := 21) rfl)) rfl, gw_of (tb_4 (List.mem_of_getElem? (i := 22) rfl)) rfl, gw_of (tb_4 (List.mem_of_getElem? (i := 23) rfl)) rfl⟩
theorem ml_0_109 : mLV "NinetyPlayers" 109 m84 0 := ⟨yk_84, gw_of (tb_4 (List.mem_of_getElem? (i := 25) rfl)) rfl, gw_of (tb_4 (List.mem_of_getElem? (i := 26) rfl)) rfl, gw_of (tb_4 (List.mem_of_getElem? (i := 27) rfl)) rfl⟩
theorem fl_0_110 : fL "NinetyPlayers" 110 0 13 := ⟨_, _, _, ck_0, by decide, gw_of (tb_2 (List.mem_of_getElem? (i := 207) rfl)) rfl⟩
theorem fl_0_113 : fL "NinetyPlayers" 113 5 0 := ⟨_, _, _, ck_5, by decide, gw_of (tb_1 (List.mem_of_getElem? (i := 219) rfl)) rfl⟩
theorem fl_0_117 : fL "NinetyPlayers" 117 2 6 := ⟨_, _, _, ck_2, by decide, gw_of (tb_1 (List.mem_of_getElem? (i := 105) rfl)) rfl⟩
theorem fl_1_31 : fL "NinetyPlayers$Reader" 31 1 0 := ⟨_, _, _, ck_1, by decide, gw_of (tb_1 (List.mem_of_getElem? (i := 193) rfl)) rfl⟩
theorem fl_1_34 : fL "NinetyPlayers$Reader" 34 1 4 := ⟨_, _, _, ck_1, by decide, gw_of (tb_1 (List.mem_of_getElem? (i := 199) rfl)) rfl⟩
theorem ml_1_37 : mLV "NinetyPlayers$Reader" 37 m6 0 := ⟨yk_6, gw_of (tb_3 (List.mem_of_getElem? (i := 17) rfl)) rfl, gw_of (tb_1 (List.mem_of_getElem? (i := 73) rfl)) rfl, gw_of (tb_1 (List.mem_of_getElem? (i := 74) rfl)) rfl⟩
theorem ml_1_40 : mLV "NinetyPlayers$Reader" 40 m21 1 := ⟨yk_21, gw_of (tb_3 (List.mem_of_getElem? (i := 18) rfl)) rfl, gw_of (tb_3 (List.mem_of_getElem? (i := 19) rfl)) rfl, gw_of (tb_3 (List.mem_of_getElem? (i := 20) rfl)) rfl⟩
theorem fl_1_44 : fL "NinetyPlayers$Reader" 44 4 4 := ⟨_, _, _, ck_4, by decide, gw_of (tb_1 (List.mem_of_getElem? (i := 172) rfl)) rfl⟩
theorem ml_1_47 : mLV "NinetyPlayers$Reader" 47 m59 0 := ⟨yk_59, gw_of (tb_3 (List.mem_of_getElem? (i := 164) rfl)) rfl, gw_of (tb_3 (List.mem_of_getElem? (i := 166) rfl)) rfl, gw_sel (List.mem_of_getElem? (i := 4) rfl) rfl⟩
theorem ml_4_15 : mMmin "NinetyPlayers$Tokens" 15 := ⟨gw_of (tb_3 (List.mem_of_getElem? (i := 22) rfl)) rfl, gw_of (tb_3 (List.mem_of_getElem? (i := 23) rfl)) rfl, gw_of (tb_1 (List.mem_of_getElem? (i := 13) rfl)) rfl, gw_of (tb_3 (List.mem_of_getElem? (i := 24) rfl)) rfl⟩
theorem ml_4_21 : mMmax "NinetyPlayers$Tokens" 21 := ⟨gw_of (tb_3 (List.mem_of_getElem? (i := 25) rfl)) rfl, gw_of (tb_3 (List.mem_of_getElem? (i := 26) rfl)) rfl, gw_of (tb_1 (List.mem_of_getElem? (i := 13) rfl)) rfl, gw_of (tb_3 (List.mem_of_getElem? (i := 27) rfl)) rfl⟩
theorem fl_4_24 : fL "NinetyPlayers$Tokens" 24 4 1 := ⟨_, _, _, ck_4, by decide, gw_of (tb_1 (List.mem_of_getElem? (i := 168) rfl)) rfl⟩
theorem fl_4_28 : fL "NinetyPlayers$Tokens" 28 4 2 := ⟨_, _, _, ck_4, by decide, gw_of (tb_1 (List.mem_of_getElem? (i := 169) rfl)) rfl⟩
theorem ml_4_31 : mLV "NinetyPlayers$Tokens" 31 m24 0 := ⟨yk_24, gw_of (tb_3 (List.mem_of_getElem? (i := 28) rfl)) rfl, gw_of (tb_3 (List.mem_of_getElem? (i := 29) rfl)) rfl, gw_of (tb_3 (List.mem_of_getElem? (i := 30) rfl)) rfl⟩
theorem ml_4_34 : mLV "NinetyPlayers$Tokens" 34 m25 1 := ⟨yk_25, gw_of (tb_3 (List.mem_of_getElem? (i := 32) rfl)) rfl, gw_of (tb_3 (List.mem_of_getElem? (i := 34) rfl)) rfl, gw_sel (List.mem_of_getElem? (i := 1) rfl) rfl⟩
theorem ml_4_38 : mLS "NinetyPlayers$Tokens" 38 m26 1 := ⟨yk_26, gw_of (tb_3 (List.mem_of_getElem? (i := 36) rfl)) rfl, gw_of (tb_3 (List.mem_of_getElem? (i := 37) rfl)) rfl⟩
theorem fl_4_42 : fL "NinetyPlayers$Tokens" 42 4 3 := ⟨_, _, _, ck_4, by decide, gw_of (tb_1 (List.mem_of_getElem? (i := 170) rfl)) rfl⟩
theorem fl_4_45 : fL "NinetyPlayers$Tokens" 45 4 4 := ⟨_, _, _, ck_4, by decide, gw_of (tb_1 (List.mem_of_getElem? (i := 173) rfl)) rfl⟩
theorem ml_4_48 : mLS "NinetyPlayers$Tokens" 48 m27 1 := ⟨yk_27, gw_of (tb_3 (List.mem_of_getElem? (i := 39) rfl)) rfl, gw_of (tb_3 (List.mem_of_getElem? (i := 40) rfl)) rfl⟩
theorem ml_4_51 : mLV "NinetyPlayers$Tokens" 51 m28 0 := ⟨yk_28, gw_of (tb_3 (List.mem_of_getElem? (i := 42) rfl)) rfl, gw_of (tb_3 (List.mem_of_getElem? (i := 44) rfl)) rfl, gw_sel (List.mem_of_getElem? (i := 2) rfl) rfl⟩
theorem ml_4_54 : mLS "NinetyPlayers$Tokens" 54 m42 1 := ⟨yk_42, gw_of (tb_3 (List.mem_of_getElem? (i := 101) rfl)) rfl, gw_of (tb_3 (List.mem_of_getElem? (i := 102) rfl)) rfl⟩
theorem ml_4_57 : mLV "NinetyPlayers$Tokens" 57 m43 0 := ⟨yk_43, gw_of (tb_3 (List.mem_of_getElem? (i := 104) rfl)) rfl, gw_of (tb_3 (List.mem_of_getElem? (i := 106) rfl)) rfl, gw_sel (List.mem_of_getElem? (i := 3) rfl) rfl⟩
theorem ml_4_62 : mLV "NinetyPlayers$Tokens" 62 m44 1 := ⟨yk_44, gw_of (tb_3 (List.mem_of_getElem? (i := 109) rfl)) rfl, gw_of (tb_3 (List.mem_of_getElem? (i := 110) rfl)) rfl, gw_of (tb_3 (List.mem_of_getElem? (i := 111) rfl)) rfl⟩
theorem fl_4_67 : fL "NinetyPlayers$Tokens" 67 4 5 := ⟨_, _, _, ck_4, by decide, gw_of (tb_1 (List.mem_of_getElem? (i := 174) rfl)) rfl⟩
theorem fl_4_70 : fL "NinetyPlayers$Tokens" 70 4 6 := ⟨_, _, _, ck_4, by decide, gw_of (tb_1 (List.mem_of_getElem? (i := 176) rfl)) rfl⟩
theorem ml_4_74 : mLS "NinetyPlayers$Tokens" 74 m29 3 := ⟨yk_29, gw_of (tb_3 (List.mem_of_getElem? (i := 46) rfl)) rfl, gw_of (tb_3 (List.mem_of_getElem? (i := 47) rfl)) rfl⟩
theorem ml_12_11 : mLS "NinetyPlayers$Word" 11 m30 4 := ⟨yk_30, gw_of (tb_3 (List.mem_of_getElem? (i := 49) rfl)) rfl, gw_of (tb_3 (List.mem_of_getElem? (i := 50) rfl)) rfl⟩
theorem ml_12_17 : mLV "NinetyPlayers$Word" 17 m31 0 := ⟨yk_31, gw_of (tb_3 (List.mem_of_getElem? (i := 53) rfl)) rfl, gw_of (tb_3 (List.mem_of_getElem? (i := 54) rfl)) rfl, gw_of (tb_3 (List.mem_of_getElem? (i := 55) rfl)) rfl⟩
theorem ml_12_23 : mLV "NinetyPlayers$Word" 23 m33 1 := ⟨yk_33, gw_of (tb_3 (List.mem_of_getElem? (i := 63) rfl)) rfl, gw_of (tb_3 (List.mem_of_getElem? (i := 64) rfl)) rfl, gw_of (tb_3 (List.mem_of_getElem? (i := 65) rfl)) rfl⟩
theorem ml_16_335 : mLV "java/lang/String" 335 m32 0 := ⟨yk_32, gw_of (tb_3 (List.mem_of_getElem? (i := 57) rfl)) rfl, gw_of (tb_3 (List.mem_of_getElem? (i := 58) rfl)) rfl, gw_of (tb_3 (List.mem_of_getElem? (i := 59) rfl)) rfl⟩
theorem ml_16_492 : mLV "java/lang/String" 492 m34 0 := ⟨yk_34, gw_of (tb_3 (List.mem_of_getElem? (i := 67) rfl)) rfl, gw_of (tb_3 (List.mem_of_getElem? (i := 68) rfl)) rfl, gw_of (tb_3 (List.mem_of_getElem? (i := 69) rfl)) rfl⟩
theorem ml_16_495 : mLS "java/lang/String" 495 m35 2 := ⟨yk_35, gw_of (tb_3 (List.mem_of_getElem? (i := 71) rfl)) rfl, gw_of (tb_3 (List.mem_of_getElem? (i := 72) rfl)) rfl⟩
theorem ml_17_9 : mLS "java/lang/StringLatin1" 9 m36 2 := ⟨yk_36, gw_of (tb_3 (List.mem_of_getElem? (i := 74) rfl)) rfl, gw_of (tb_3 (List.mem_of_getElem? (i := 75) rfl)) rfl⟩
theorem ml_16_1059 : mLS "java/lang/String" 1059 m37 3 := ⟨yk_37, gw_of (tb_3 (List.mem_of_getElem? (i := 79) rfl)) rfl, gw_of (tb_3 (List.mem_of_getElem? (i := 80) rfl)) rfl⟩
theorem ml_16_633 : mLV "java/lang/String" 633 m45 2 := ⟨yk_45, gw_of (tb_3 (List.mem_of_getElem? (i := 113) rfl)) rfl, gw_of (tb_3 (List.mem_of_getElem? (i := 114) rfl)) rfl, gw_of (tb_3 (List.mem_of_getElem? (i := 115) rfl)) rfl⟩
theorem ml_16_505 : mLV "java/lang/String" 505 m31 0 := ⟨yk_31, gw_of (tb_3 (List.mem_of_getElem? (i := 117) rfl)) rfl, gw_of (tb_3 (List.mem_of_getElem? (i := 54) rfl)) rfl, gw_of (tb_3 (List.mem_of_getElem? (i := 55) rfl)) rfl⟩
theorem ml_16_637 : mLS "java/lang/String" 637 m46 4 := ⟨yk_46, gw_of (tb_3 (List.mem_of_getElem? (i := 118) rfl)) rfl, gw_of (tb_3 (List.mem_of_getElem? (i := 119) rfl)) rfl⟩
theorem ml_17_88 : mLS "java/lang/StringLatin1" 88 m47 1 := ⟨yk_47, gw_of (tb_3 (List.mem_of_getElem? (i := 121) rfl)) rfl, gw_of (tb_3 (List.mem_of_getElem? (i := 122) rfl)) rfl⟩
theorem ml_17_92 : mMmax "java/lang/StringLatin1" 92 := ⟨gw_of (tb_3 (List.mem_of_getElem? (i := 124) rfl)) rfl, gw_of (tb_3 (List.mem_of_getElem? (i := 26) rfl)) rfl, gw_of (tb_1 (List.mem_of_getElem? (i := 13) rfl)) rfl, gw_of (tb_3 (List.mem_of_getElem? (i := 27) rfl)) rfl⟩
theorem ml_17_38 : mMmin "java/lang/StringLatin1" 38 := ⟨gw_of (tb_3 (List.mem_of_getElem? (i := 125) rfl)) rfl, gw_of (tb_3 (List.mem_of_getElem? (i := 23) rfl)) rfl, gw_of (tb_1 (List.mem_of_getElem? (i := 13) rfl)) rfl, gw_of (tb_3 (List.mem_of_getElem? (i := 24) rfl)) rfl⟩
theorem ml_17_95 : mLS "java/lang/StringLatin1" 95 m48 4 := ⟨yk_48, gw_of (tb_3 (List.mem_of_getElem? (i := 126) rfl)) rfl, gw_of (tb_3 (List.mem_of_getElem? (i := 127) rfl)) rfl⟩
theorem fl_1_50 : fL "NinetyPlayers$Reader" 50 4 5 := ⟨_, _, _, ck_4, by decide, gw_of (tb_1 (List.mem_of_getElem? (i := 175) rfl)) rfl⟩
theorem ml_1_53 : mLV "NinetyPlayers$Reader" 53 m60 1 := ⟨yk_60, gw_of (tb_3 (List.mem_of_getElem? (i := 168) rfl)) rfl, gw_of (tb_3 (List.mem_of_getElem? (i := 170) rfl)) rfl, gw_sel (List.mem_of_getElem? (i := 5) rfl) rfl⟩
theorem ml_1_57 : mLV "NinetyPlayers$Reader" 57 m61 1 := ⟨yk_61, gw_of (tb_3 (List.mem_of_getElem? (i := 172) rfl)) rfl, gw_of (tb_3 (List.mem_of_getElem? (i := 174) rfl)) rfl, gw_sel (List.mem_of_getElem? (i := 6) rfl) rfl⟩
theorem ml_1_60 : mLV "NinetyPlayers$Reader" 60 m24 0 := ⟨yk_24, gw_of (tb_3 (List.mem_of_getElem? (i := 176) rfl)) rfl, gw_of (tb_3 (List.mem_of_getElem? (i := 29) rfl)) rfl, gw_of (tb_3 (List.mem_of_getElem? (i := 30) rfl)) rfl⟩
theorem ml_1_63 : mLV "NinetyPlayers$Reader" 63 m62 2 := ⟨yk_62, gw_of (tb_3 (List.mem_of_getElem? (i := 177) rfl)) rfl, gw_of (tb_3 (List.mem_of_getElem? (i := 179) rfl)) rfl, gw_sel (List.mem_of_getElem? (i := 7) rfl) rfl⟩
theorem fl_1_67 : fL "NinetyPlayers$Reader" 67 2 0 := ⟨_, _, _, ck_2, by decide, gw_of (tb_1 (List.mem_of_getElem? (i := 82) rfl)) rfl⟩
theorem ml_1_70 : mLV "NinetyPlayers$Reader" 70 m63 0 := ⟨yk_63, gw_of (tb_3 (List.mem_of_getElem? (i := 181) rfl)) rfl, gw_of (tb_3 (List.mem_of_getElem? (i := 183) rfl)) rfl, gw_sel (List.mem_of_getElem? (i := 8) rfl) rfl⟩
theorem ml_1_73 : mLV "NinetyPlayers$Reader" 73 m68 0 := ⟨yk_68, gw_of (tb_3 (List.mem_of_getElem? (i := 201) rfl)) rfl, gw_of (tb_3 (List.mem_of_getElem? (i := 203) rfl)) rfl, gw_sel (List.mem_of_getElem? (i := 11) rfl) rfl⟩
theorem ml_1_76 : mLV "NinetyPlayers$Reader" 76 m73 1 := ⟨yk_73, gw_of (tb_3 (List.mem_of_getElem? (i := 221) rfl)) rfl, gw_of (tb_3 (List.mem_of_getElem? (i := 223) rfl)) rfl, gw_sel (List.mem_of_getElem? (i := 14) rfl) rfl⟩
theorem fl_1_79 : fL "NinetyPlayers$Reader" 79 2 1 := ⟨_, _, _, ck_2, by decide, gw_of (tb_1 (List.mem_of_getElem? (i := 86) rfl)) rfl⟩
theorem fl_1_82 : fL "NinetyPlayers$Reader" 82 2 2 := ⟨_, _, _, ck_2, by decide, gw_of (tb_1 (List.mem_of_getElem? (i := 90) rfl)) rfl⟩
theorem fl_1_85 : fL "NinetyPlayers$Reader" 85 2 3 := ⟨_, _, _, ck_2, by decide, gw_of (tb_1 (List.mem_of_getElem? (i := 94) rfl)) rfl⟩
theorem fl_1_88 : fL "NinetyPlayers$Reader" 88 2 4 := ⟨_, _, _, ck_2, by decide, gw_of (tb_1 (List.mem_of_getElem? (i := 97) rfl)) rfl⟩
theorem ml_1_91 : mLV "NinetyPlayers$Reader" 91 m81 1 := ⟨yk_81, gw_of (tb_4 (List.mem_of_getElem? (i := 13) rfl)) rfl, gw_of (tb_4 (List.mem_of_getElem? (i := 15) rfl)) rfl, gw_sel (List.mem_of_getElem? (i := 21) rfl) rfl⟩
theorem fl_1_95 : fL "NinetyPlayers$Reader" 95 2 5 := ⟨_, _, _, ck_2, by decide, gw_of (tb_1 (List.mem_of_getElem? (i := 100) rfl)) rfl⟩
theorem fl_1_98 : fL "NinetyPlayers$Reader" 98 2 6 := ⟨_, _, _, ck_2, by decide, gw_of (tb_1 (List.mem_of_getElem? (i := 104) rfl)) rfl⟩
theorem fl_1_141 : fL "NinetyPlayers$Reader" 141 4 3 := ⟨_, _, _, ck_4, by decide, gw_of (tb_1 (List.mem_of_getElem? (i := 171) rfl)) rfl⟩
theorem fl_1_103 : fL "NinetyPlayers$Reader" 103 4 6 := ⟨_, _, _, ck_4, by decide, gw_of (tb_1 (List.mem_of_getElem? (i := 177) rfl)) rfl⟩
theorem ml_1_107 : mLV "NinetyPlayers$Reader" 107 m64 1 := ⟨yk_64, gw_of (tb_3 (List.mem_of_getElem? (i := 185) rfl)) rfl, gw_of (tb_3 (List.mem_of_getElem? (i := 186) rfl)) rfl, gw_of (tb_3 (List.mem_of_getElem? (i := 187) rfl)) rfl⟩
theorem ml_1_111 : mLV "NinetyPlayers$Reader" 111 m65 1 := ⟨yk_65, gw_of (tb_3 (List.mem_of_getElem? (i := 189) rfl)) rfl, gw_of (tb_3 (List.mem_of_getElem? (i := 191) rfl)) rfl, gw_sel (List.mem_of_getElem? (i := 9) rfl) rfl⟩
theorem ml_1_115 : mLV "NinetyPlayers$Reader" 115 m66 1 := ⟨yk_66, gw_of (tb_3 (List.mem_of_getElem? (i := 193) rfl)) rfl, gw_of (tb_3 (List.mem_of_getElem? (i := 195) rfl)) rfl, gw_sel (List.mem_of_getElem? (i := 10) rfl) rfl⟩
theorem ml_1_118 : mLV "NinetyPlayers$Reader" 118 m67 2 := ⟨yk_67, gw_of (tb_3 (List.mem_of_getElem? (i := 197) rfl)) rfl, gw_of (tb_3 (List.mem_of_getElem? (i := 198) rfl)) rfl, gw_of (tb_3 (List.mem_of_getElem? (i := 199) rfl)) rfl⟩
theorem ml_1_122 : mLV "NinetyPlayers$Reader" 122 m69 1 := ⟨yk_69, gw_of (tb_3 (List.mem_of_getElem? (i := 205) rfl)) rfl, gw_of (tb_3 (List.mem_of_getElem? (i := 206) rfl)) rfl, gw_of (tb_3 (List.mem_of_getElem? (i := 207) rfl)) rfl⟩
theorem ml_1_126 : mLV "NinetyPlayers$Reader" 126 m70 1 := ⟨yk_70, gw_of (tb_3 (List.mem_of_getElem? (i := 209) rfl)) rfl, gw_of (tb_3 (List.mem_of_getElem? (i := 211) rfl)) rfl, gw_sel (List.mem_of_getElem? (i := 12) rfl) rfl⟩
theorem ml_1_129 : mLV "NinetyPlayers$Reader" 129 m71 0 := ⟨yk_71, gw_of (tb_3 (List.mem_of_getElem? (i := 213) rfl)) rfl, gw_of (tb_3 (List.mem_of_getElem? (i := 215) rfl)) rfl, gw_sel (List.mem_of_getElem? (i := 13) rfl) rfl⟩
theorem ml_1_133 : mLV "NinetyPlayers$Reader" 133 m72 6 := ⟨yk_72, gw_of (tb_3 (List.mem_of_getElem? (i := 217) rfl)) rfl, gw_of (tb_3 (List.mem_of_getElem? (i := 218) rfl)) rfl, gw_of (tb_3 (List.mem_of_getElem? (i := 219) rfl)) rfl⟩
theorem ml_1_142 : mLV "NinetyPlayers$Reader" 142 m74 1 := ⟨yk_74, gw_of (tb_3 (List.mem_of_getElem? (i := 225) rfl)) rfl, gw_of (tb_3 (List.mem_of_getElem? (i := 227) rfl)) rfl, gw_sel (List.mem_of_getElem? (i := 15) rfl) rfl⟩
theorem fl_1_145 : fL "NinetyPlayers$Reader" 145 2 15 := ⟨_, _, _, ck_2, by decide, gw_of (tb_1 (List.mem_of_getElem? (i := 126) rfl)) rfl⟩
theorem ml_1_149 : mLV "NinetyPlayers$Reader" 149 m76 1 := ⟨yk_76, gw_of (tb_3 (List.mem_of_getElem? (i := 233) rfl)) rfl, gw_of (tb_3 (List.mem_of_getElem? (i := 234) rfl)) rfl, gw_of (tb_3 (List.mem_of_getElem? (i := 235) rfl)) rfl⟩
theorem ml_1_154 : mLV "NinetyPlayers$Reader" 154 m75 1 := ⟨yk_75, gw_of (tb_3 (List.mem_of_getElem? (i := 229) rfl)) rfl, gw_of (tb_3 (List.mem_of_getElem? (i := 231) rfl)) rfl, gw_sel (List.mem_of_getElem? (i := 16) rfl) rfl⟩
theorem ml_1_157 : mLV "NinetyPlayers$Reader" 157 m77 1 := ⟨yk_77, gw_of (tb_3 (List.mem_of_getElem? (i := 237) rfl)) rfl, gw_of (tb_3 (List.mem_of_getElem? (i := 239) rfl)) rfl, gw_sel (List.mem_of_getElem? (i := 17) rfl) rfl⟩
theorem ml_1_137 : mLV "NinetyPlayers$Reader" 137 m80 1 := ⟨yk_80, gw_of (tb_4 (List.mem_of_getElem? (i := 9) rfl)) rfl, gw_of (tb_4 (List.mem_of_getElem? (i := 11) rfl)) rfl, gw_sel (List.mem_of_getElem? (i := 20) rfl) rfl⟩
theorem ml_1_160 : mLV "NinetyPlayers$Reader" 160 m78 1 := ⟨yk_78, gw_of (tb_4 (List.mem_of_getElem? (i := 1) rfl)) rfl, gw_of (tb_4 (List.mem_of_getElem? (i := 3) rfl)) rfl, gw_sel (List.mem_of_getElem? (i := 18) rfl) rfl⟩
theorem ml_1_163 : mLV "NinetyPlayers$Reader" 163 m79 1 := ⟨yk_79, gw_of (tb_4 (List.mem_of_getElem? (i := 5) rfl)) rfl, gw_of (tb_4 (List.mem_of_getElem? (i := 7) rfl)) rfl, gw_sel (List.mem_of_getElem? (i := 19) rfl) rfl⟩
theorem fl_1_166 : fL "NinetyPlayers$Reader" 166 3 0 := ⟨_, _, _, ck_3, by decide, gw_of (tb_1 (List.mem_of_getElem? (i := 49) rfl)) rfl⟩
theorem fl_6_24 : fL "NinetyPlayers$Acts" 24 6 0 := ⟨_, _, _, ck_6, by decide, gw_of (tb_2 (List.mem_of_getElem? (i := 13) rfl)) rfl⟩
theorem fl_6_28 : fL "NinetyPlayers$Acts" 28 6 1 := ⟨_, _, _, ck_6, by decide, gw_of (tb_2 (List.mem_of_getElem? (i := 15) rfl)) rfl⟩
theorem fl_10_34 : fL "NinetyPlayers$Witness" 34 10 0 := ⟨_, _, _, ck_10, by decide, gw_of (tb_2 (List.mem_of_getElem? (i := 148) rfl)) rfl⟩
theorem fl_0_120 : fL "NinetyPlayers" 120 1 0 := ⟨_, _, _, ck_1, by decide, gw_of (tb_1 (List.mem_of_getElem? (i := 194) rfl)) rfl⟩
theorem fl_0_123 : fL "NinetyPlayers" 123 1 1 := ⟨_, _, _, ck_1, by decide, gw_of (tb_1 (List.mem_of_getElem? (i := 196) rfl)) rfl⟩
theorem ml_0_126 : mLV "NinetyPlayers" 126 m87 1 := ⟨yk_87, gw_of (tb_4 (List.mem_of_getElem? (i := 37) rfl)) rfl, gw_of (tb_4 (List.mem_of_getElem? (i := 39) rfl)) rfl, gw_sel (List.mem_of_getElem? (i := 22) rfl) rfl⟩
theorem fl_0_129 : fL "NinetyPlayers" 129 2 10 := ⟨_, _, _, ck_2, by decide, gw_of (tb_1 (List.mem_of_getElem? (i := 112) rfl)) rfl⟩
theorem fl_0_132 : fL "NinetyPlayers" 132 2 11 := ⟨_, _, _, ck_2, by decide, gw_of (tb_1 (List.mem_of_getElem? (i := 115) rfl)) rfl⟩
theorem fl_0_135 : fL "NinetyPlayers" 135 5 3 := ⟨_, _, _, ck_5, by decide, gw_of (tb_1 (List.mem_of_getElem? (i := 227) rfl)) rfl⟩
theorem fl_0_138 : fL "NinetyPlayers" 138 5 4 := ⟨_, _, _, ck_5, by decide, gw_of (tb_1 (List.mem_of_getElem? (i := 230) rfl)) rfl⟩
theorem fl_0_141 : fL "NinetyPlayers" 141 5 5 := ⟨_, _, _, ck_5, by decide, gw_of (tb_1 (List.mem_of_getElem? (i := 232) rfl)) rfl⟩
theorem fl_0_144 : fL "NinetyPlayers" 144 5 2 := ⟨_, _, _, ck_5, by decide, gw_of (tb_1 (List.mem_of_getElem? (i := 224) rfl)) rfl⟩
theorem ml_0_147 : mLV "NinetyPlayers" 147 m88 1 := ⟨yk_88, gw_of (tb_4 (List.mem_of_getElem? (i := 41) rfl)) rfl, gw_of (tb_4 (List.mem_of_getElem? (i := 43) rfl)) rfl, gw_sel (List.mem_of_getElem? (i := 23) rfl) rfl⟩
theorem ml_0_151 : mLV "NinetyPlayers" 151 m90 1 := ⟨yk_90, gw_of (tb_4 (List.mem_of_getElem? (i := 49) rfl)) rfl, gw_of (tb_4 (List.mem_of_getElem? (i := 51) rfl)) rfl, gw_sel (List.mem_of_getElem? (i := 24) rfl) rfl⟩
theorem ml_0_203 : mLV "NinetyPlayers" 203 m89 1 := ⟨yk_89, gw_of (tb_4 (List.mem_of_getElem? (i := 45) rfl)) rfl, gw_of (tb_4 (List.mem_of_getElem? (i := 46) rfl)) rfl, gw_of (tb_4 (List.mem_of_getElem? (i := 47) rfl)) rfl⟩
theorem ml_0_206 : mLS "NinetyPlayers" 206 m91 1 := ⟨yk_91, gw_of (tb_4 (List.mem_of_getElem? (i := 53) rfl)) rfl, gw_of (tb_4 (List.mem_of_getElem? (i := 54) rfl)) rfl⟩
theorem fl_0_211 : fL "NinetyPlayers" 211 2 15 := ⟨_, _, _, ck_2, by decide, gw_of (tb_1 (List.mem_of_getElem? (i := 127) rfl)) rfl⟩
theorem ml_0_215 : mLV "NinetyPlayers" 215 m92 0 := ⟨yk_92, gw_of (tb_4 (List.mem_of_getElem? (i := 59) rfl)) rfl, gw_of (tb_4 (List.mem_of_getElem? (i := 60) rfl)) rfl, gw_of (tb_4 (List.mem_of_getElem? (i := 61) rfl)) rfl⟩
theorem ml_0_221 : mLV "NinetyPlayers" 221 m93 6 := ⟨yk_93, gw_of (tb_4 (List.mem_of_getElem? (i := 63) rfl)) rfl, gw_of (tb_4 (List.mem_of_getElem? (i := 64) rfl)) rfl, gw_of (tb_4 (List.mem_of_getElem? (i := 65) rfl)) rfl⟩
theorem ml_0_225 : mMmin "NinetyPlayers" 225 := ⟨gw_of (tb_4 (List.mem_of_getElem? (i := 78) rfl)) rfl, gw_of (tb_3 (List.mem_of_getElem? (i := 23) rfl)) rfl, gw_of (tb_1 (List.mem_of_getElem? (i := 13) rfl)) rfl, gw_of (tb_3 (List.mem_of_getElem? (i := 24) rfl)) rfl⟩
theorem ml_0_230 : mMmax "NinetyPlayers" 230 := ⟨gw_of (tb_4 (List.mem_of_getElem? (i := 79) rfl)) rfl, gw_of (tb_3 (List.mem_of_getElem? (i := 26) rfl)) rfl, gw_of (tb_1 (List.mem_of_getElem? (i := 13) rfl)) rfl, gw_of (tb_3 (List.mem_of_getElem? (i := 27) rfl)) rfl⟩
theorem kc_15_265 : Cond.constant "java/lang/Integer" 265 1431655765 ∈ GW := gw_of (tb_4 (List.mem_of_getElem? (i := 56) rfl)) rfl
theorem kc_15_266 : Cond.constant "java/lang/Integer" 266 858993459 ∈ GW := gw_of (tb_4 (List.mem_of_getElem? (i := 57) rfl)) rfl
theorem kc_15_267 : Cond.constant "java/lang/Integer" 267 252645135 ∈ GW := gw_of (tb_4 (List.mem_of_getElem? (i := 58) rfl)) rfl
theorem fl_3_28 : fL "NinetyPlayers$Formula" 28 3 5 := ⟨_, _, _, ck_3, by decide, gw_of (tb_1 (List.mem_of_getElem? (i := 55) rfl)) rfl⟩
theorem ml_3_31 : mLV "NinetyPlayers$Formula" 31 m94 1 := ⟨yk_94, gw_of (tb_4 (List.mem_of_getElem? (i := 67) rfl)) rfl, gw_of (tb_4 (List.mem_of_getElem? (i := 69) rfl)) rfl, gw_sel (List.mem_of_getElem? (i := 25) rfl) rfl⟩
theorem ml_3_35 : mLV "NinetyPlayers$Formula" 35 m95 1 := ⟨yk_95, gw_of (tb_4 (List.mem_of_getElem? (i := 71) rfl)) rfl, gw_of (tb_4 (List.mem_of_getElem? (i := 73) rfl)) rfl, gw_sel (List.mem_of_getElem? (i := 26) rfl) rfl⟩
theorem ml_3_38 : mLS "NinetyPlayers$Formula" 38 m96 3 := ⟨yk_96, gw_of (tb_4 (List.mem_of_getElem? (i := 75) rfl)) rfl, gw_of (tb_4 (List.mem_of_getElem? (i := 76) rfl)) rfl⟩
theorem fl_0_154 : fL "NinetyPlayers" 154 2 5 := ⟨_, _, _, ck_2, by decide, gw_of (tb_1 (List.mem_of_getElem? (i := 101) rfl)) rfl⟩
theorem fl_0_157 : fL "NinetyPlayers" 157 2 8 := ⟨_, _, _, ck_2, by decide, gw_of (tb_1 (List.mem_of_getElem? (i := 109) rfl)) rfl⟩
theorem ml_0_160 : mLV "NinetyPlayers" 160 m98 1 := ⟨yk_98, gw_of (tb_4 (List.mem_of_getElem? (i := 84) rfl)) rfl, gw_of (tb_4 (List.mem_of_getElem? (i := 85) rfl)) rfl, gw_of (tb_4 (List.mem_of_getElem? (i := 86) rfl)) rfl⟩
theorem ml_0_163 : mLV "NinetyPlayers" 163 m99 0 := ⟨yk_99, gw_of (tb_4 (List.mem_of_getElem? (i := 88) rfl)) rfl, gw_of (tb_4 (List.mem_of_getElem? (i := 90) rfl)) rfl, gw_sel (List.mem_of_getElem? (i := 27) rfl) rfl⟩
theorem ml_0_200 : mLV "NinetyPlayers" 200 m100 1 := ⟨yk_100, gw_of (tb_4 (List.mem_of_getElem? (i := 92) rfl)) rfl, gw_of (tb_4 (List.mem_of_getElem? (i := 93) rfl)) rfl, gw_of (tb_4 (List.mem_of_getElem? (i := 94) rfl)) rfl⟩
theorem ml_0_167 : mLV "NinetyPlayers" 167 m102 1 := ⟨yk_102, gw_of (tb_4 (List.mem_of_getElem? (i := 100) rfl)) rfl, gw_of (tb_4 (List.mem_of_getElem? (i := 102) rfl)) rfl, gw_sel (List.mem_of_getElem? (i := 28) rfl) rfl⟩
theorem ml_0_170 : mLS "NinetyPlayers" 170 m103 1 := ⟨yk_103, gw_of (tb_4 (List.mem_of_getElem? (i := 104) rfl)) rfl, gw_of (tb_4 (List.mem_of_getElem? (i := 105) rfl)) rfl⟩
theorem ml_0_173 : mLV "NinetyPlayers" 173 m104 0 := ⟨yk_104, gw_of (tb_4 (List.mem_of_getElem? (i := 107) rfl)) rfl, gw_of (tb_4 (List.mem_of_getElem? (i := 109) rfl)) rfl, gw_sel (List.mem_of_getElem? (i := 29) rfl) rfl⟩
theorem ml_0_176 : mLV "NinetyPlayers" 176 m108 2 := ⟨yk_108, gw_of (tb_4 (List.mem_of_getElem? (i := 124) rfl)) rfl, gw_of (tb_4 (List.mem_of_getElem? (i := 125) rfl)) rfl, gw_of (tb_4 (List.mem_of_getElem? (i := 126) rfl)) rfl⟩
theorem fl_0_193 : fL "NinetyPlayers" 193 2 0 := ⟨_, _, _, ck_2, by decide, gw_of (tb_1 (List.mem_of_getElem? (i := 83) rfl)) rfl⟩
theorem ml_0_196 : mLV "NinetyPlayers" 196 m105 2 := ⟨yk_105, gw_of (tb_4 (List.mem_of_getElem? (i := 111) rfl)) rfl, gw_of (tb_4 (List.mem_of_getElem? (i := 112) rfl)) rfl, gw_of (tb_4 (List.mem_of_getElem? (i := 113) rfl)) rfl⟩
theorem fl_7_24 : fL "NinetyPlayers$Keyboard" 24 2 0 := ⟨_, _, _, ck_2, by decide, gw_of (tb_1 (List.mem_of_getElem? (i := 80) rfl)) rfl⟩
theorem fl_7_30 : fL "NinetyPlayers$Keyboard" 30 7 0 := ⟨_, _, _, ck_7, by decide, gw_of (tb_2 (List.mem_of_getElem? (i := 40) rfl)) rfl⟩
theorem fl_7_31 : fL "NinetyPlayers$Keyboard" 31 2 6 := ⟨_, _, _, ck_2, by decide, gw_of (tb_1 (List.mem_of_getElem? (i := 102) rfl)) rfl⟩
theorem fl_7_34 : fL "NinetyPlayers$Keyboard" 34 7 1 := ⟨_, _, _, ck_7, by decide, gw_of (tb_2 (List.mem_of_getElem? (i := 43) rfl)) rfl⟩
theorem fl_7_35 : fL "NinetyPlayers$Keyboard" 35 2 1 := ⟨_, _, _, ck_2, by decide, gw_of (tb_1 (List.mem_of_getElem? (i := 85) rfl)) rfl⟩
theorem fl_7_38 : fL "NinetyPlayers$Keyboard" 38 7 2 := ⟨_, _, _, ck_7, by decide, gw_of (tb_2 (List.mem_of_getElem? (i := 45) rfl)) rfl⟩
theorem fl_7_39 : fL "NinetyPlayers$Keyboard" 39 2 2 := ⟨_, _, _, ck_2, by decide, gw_of (tb_1 (List.mem_of_getElem? (i := 89) rfl)) rfl⟩
theorem fl_7_42 : fL "NinetyPlayers$Keyboard" 42 7 3 := ⟨_, _, _, ck_7, by decide, gw_of (tb_2 (List.mem_of_getElem? (i := 48) rfl)) rfl⟩
theorem fl_7_43 : fL "NinetyPlayers$Keyboard" 43 2 3 := ⟨_, _, _, ck_2, by decide, gw_of (tb_1 (List.mem_of_getElem? (i := 93) rfl)) rfl⟩
theorem fl_7_46 : fL "NinetyPlayers$Keyboard" 46 7 4 := ⟨_, _, _, ck_7, by decide, gw_of (tb_2 (List.mem_of_getElem? (i := 51) rfl)) rfl⟩
theorem ml_7_47 : mLV "NinetyPlayers$Keyboard" 47 m100 1 := ⟨yk_100, gw_of (tb_4 (List.mem_of_getElem? (i := 115) rfl)) rfl, gw_of (tb_4 (List.mem_of_getElem? (i := 93) rfl)) rfl, gw_of (tb_4 (List.mem_of_getElem? (i := 94) rfl)) rfl⟩
theorem fl_7_53 : fL "NinetyPlayers$Keyboard" 53 7 5 := ⟨_, _, _, ck_7, by decide, gw_of (tb_2 (List.mem_of_getElem? (i := 53) rfl)) rfl⟩
theorem fl_7_56 : fL "NinetyPlayers$Keyboard" 56 7 6 := ⟨_, _, _, ck_7, by decide, gw_of (tb_2 (List.mem_of_getElem? (i := 57) rfl)) rfl⟩
theorem fl_7_59 : fL "NinetyPlayers$Keyboard" 59 5 1 := ⟨_, _, _, ck_5, by decide, gw_of (tb_1 (List.mem_of_getElem? (i := 221) rfl)) rfl⟩
theorem fl_7_62 : fL "NinetyPlayers$Keyboard" 62 7 7 := ⟨_, _, _, ck_7, by decide, gw_of (tb_2 (List.mem_of_getElem? (i := 61) rfl)) rfl⟩
theorem fl_7_63 : fL "NinetyPlayers$Keyboard" 63 5 3 := ⟨_, _, _, ck_5, by decide, gw_of (tb_1 (List.mem_of_getElem? (i := 226) rfl)) rfl⟩
theorem fl_7_64 : fL "NinetyPlayers$Keyboard" 64 2 11 := ⟨_, _, _, ck_2, by decide, gw_of (tb_1 (List.mem_of_getElem? (i := 114) rfl)) rfl⟩
theorem fl_7_65 : fL "NinetyPlayers$Keyboard" 65 5 4 := ⟨_, _, _, ck_5, by decide, gw_of (tb_1 (List.mem_of_getElem? (i := 229) rfl)) rfl⟩
theorem ml_7_66 : mLV "NinetyPlayers$Keyboard" 66 m106 1 := ⟨yk_106, gw_of (tb_4 (List.mem_of_getElem? (i := 116) rfl)) rfl, gw_of (tb_4 (List.mem_of_getElem? (i := 118) rfl)) rfl, gw_sel (List.mem_of_getElem? (i := 30) rfl) rfl⟩
theorem ml_7_70 : mLV "NinetyPlayers$Keyboard" 70 m107 2 := ⟨yk_107, gw_of (tb_4 (List.mem_of_getElem? (i := 120) rfl)) rfl, gw_of (tb_4 (List.mem_of_getElem? (i := 121) rfl)) rfl, gw_of (tb_4 (List.mem_of_getElem? (i := 122) rfl)) rfl⟩
theorem ml_7_74 : mLV "NinetyPlayers$Keyboard" 74 m109 1 := ⟨yk_109, gw_of (tb_4 (List.mem_of_getElem? (i := 128) rfl)) rfl, gw_of (tb_4 (List.mem_of_getElem? (i := 129) rfl)) rfl, gw_of (tb_4 (List.mem_of_getElem? (i := 130) rfl)) rfl⟩
theorem ml_7_75 : mLV "NinetyPlayers$Keyboard" 75 m110 1 := ⟨yk_110, gw_of (tb_4 (List.mem_of_getElem? (i := 132) rfl)) rfl, gw_of (tb_4 (List.mem_of_getElem? (i := 133) rfl)) rfl, gw_of (tb_4 (List.mem_of_getElem? (i := 134) rfl)) rfl⟩
theorem ml_0_180 : mLV "NinetyPlayers" 180 m112 1 := ⟨yk_112, gw_of (tb_4 (List.mem_of_getElem? (i := 140) rfl)) rfl, gw_of (tb_4 (List.mem_of_getElem? (i := 141) rfl)) rfl, gw_of (tb_4 (List.mem_of_getElem? (i := 142) rfl)) rfl⟩
theorem fl_0_183 : fL "NinetyPlayers" 183 7 5 := ⟨_, _, _, ck_7, by decide, gw_of (tb_2 (List.mem_of_getElem? (i := 56) rfl)) rfl⟩
theorem fl_0_186 : fL "NinetyPlayers" 186 7 6 := ⟨_, _, _, ck_7, by decide, gw_of (tb_2 (List.mem_of_getElem? (i := 60) rfl)) rfl⟩
theorem ml_0_189 : mLV "NinetyPlayers" 189 m114 3 := ⟨yk_114, gw_of (tb_4 (List.mem_of_getElem? (i := 148) rfl)) rfl, gw_of (tb_4 (List.mem_of_getElem? (i := 149) rfl)) rfl, gw_of (tb_4 (List.mem_of_getElem? (i := 150) rfl)) rfl⟩
theorem ml_7_100 : mLV "NinetyPlayers$Keyboard" 100 m115 4 := ⟨yk_115, gw_of (tb_4 (List.mem_of_getElem? (i := 152) rfl)) rfl, gw_of (tb_4 (List.mem_of_getElem? (i := 153) rfl)) rfl, gw_of (tb_4 (List.mem_of_getElem? (i := 154) rfl)) rfl⟩
theorem ml_7_94 : mLV "NinetyPlayers$Keyboard" 94 m116 2 := ⟨yk_116, gw_of (tb_4 (List.mem_of_getElem? (i := 156) rfl)) rfl, gw_of (tb_4 (List.mem_of_getElem? (i := 158) rfl)) rfl, gw_sel (List.mem_of_getElem? (i := 31) rfl) rfl⟩
theorem ml_7_78 : mLV "NinetyPlayers$Keyboard" 78 m118 1 := ⟨yk_118, gw_of (tb_4 (List.mem_of_getElem? (i := 165) rfl)) rfl, gw_of (tb_4 (List.mem_of_getElem? (i := 167) rfl)) rfl, gw_sel (List.mem_of_getElem? (i := 33) rfl) rfl⟩
theorem ml_7_81 : mLV "NinetyPlayers$Keyboard" 81 m117 1 := ⟨yk_117, gw_of (tb_4 (List.mem_of_getElem? (i := 160) rfl)) rfl, gw_of (tb_4 (List.mem_of_getElem? (i := 162) rfl)) rfl, gw_sel (List.mem_of_getElem? (i := 32) rfl) rfl⟩
theorem ml_7_97 : mLV "NinetyPlayers$Keyboard" 97 m120 1 := ⟨yk_120, gw_of (tb_4 (List.mem_of_getElem? (i := 172) rfl)) rfl, gw_of (tb_4 (List.mem_of_getElem? (i := 174) rfl)) rfl, gw_sel (List.mem_of_getElem? (i := 34) rfl) rfl⟩
theorem ml_7_89 : mLS "NinetyPlayers$Keyboard" 89 m91 1 := ⟨yk_91, gw_of (tb_4 (List.mem_of_getElem? (i := 164) rfl)) rfl, gw_of (tb_4 (List.mem_of_getElem? (i := 54) rfl)) rfl⟩
theorem ml_7_84 : mMabs "NinetyPlayers$Keyboard" 84 := ⟨gw_of (tb_4 (List.mem_of_getElem? (i := 169) rfl)) rfl, gw_of (tb_4 (List.mem_of_getElem? (i := 170) rfl)) rfl, gw_of (tb_1 (List.mem_of_getElem? (i := 13) rfl)) rfl, gw_of (tb_4 (List.mem_of_getElem? (i := 171) rfl)) rfl⟩
theorem ml_0_233 : mLV "NinetyPlayers" 233 m122 4 := ⟨yk_122, gw_of (tb_4 (List.mem_of_getElem? (i := 180) rfl)) rfl, gw_of (tb_4 (List.mem_of_getElem? (i := 181) rfl)) rfl, gw_of (tb_4 (List.mem_of_getElem? (i := 182) rfl)) rfl⟩
theorem ml_0_237 : mLV "NinetyPlayers" 237 m127 0 := ⟨yk_127, gw_of (tb_4 (List.mem_of_getElem? (i := 203) rfl)) rfl, gw_of (tb_4 (List.mem_of_getElem? (i := 204) rfl)) rfl, gw_of (tb_4 (List.mem_of_getElem? (i := 205) rfl)) rfl⟩
theorem ml_6_31 : mLV "NinetyPlayers$Acts" 31 m123 0 := ⟨yk_123, gw_of (tb_4 (List.mem_of_getElem? (i := 184) rfl)) rfl, gw_of (tb_4 (List.mem_of_getElem? (i := 186) rfl)) rfl, gw_sel (List.mem_of_getElem? (i := 35) rfl) rfl⟩
theorem ml_6_34 : mLV "NinetyPlayers$Acts" 34 m124 2 := ⟨yk_124, gw_of (tb_4 (List.mem_of_getElem? (i := 191) rfl)) rfl, gw_of (tb_4 (List.mem_of_getElem? (i := 192) rfl)) rfl, gw_of (tb_4 (List.mem_of_getElem? (i := 193) rfl)) rfl⟩
theorem ml_6_40 : mLV "NinetyPlayers$Acts" 40 m126 3 := ⟨yk_126, gw_of (tb_4 (List.mem_of_getElem? (i := 199) rfl)) rfl, gw_of (tb_4 (List.mem_of_getElem? (i := 200) rfl)) rfl, gw_of (tb_4 (List.mem_of_getElem? (i := 201) rfl)) rfl⟩
theorem ml_6_44 : Cond.methodLink "NinetyPlayers$Acts" 44 arraycopyName ∈ GW ∧ Cond.native arraycopyName ∈ GW ∧ Cond.static arraycopyName ∈ GW ∧ Cond.initialized "java/lang/System" ∈ GW := ⟨gw_of (tb_4 (List.mem_of_getElem? (i := 188) rfl)) rfl, gw_of (tb_4 (List.mem_of_getElem? (i := 190) rfl)) rfl, gw_of (tb_4 (List.mem_of_getElem? (i := 189) rfl)) rfl, gw_of (tb_1 (List.mem_of_getElem? (i := 21) rfl)) rfl⟩
theorem ml_5_33 : mLV "NinetyPlayers$Laying" 33 m125 1 := ⟨yk_125, gw_of (tb_4 (List.mem_of_getElem? (i := 195) rfl)) rfl, gw_of (tb_4 (List.mem_of_getElem? (i := 197) rfl)) rfl, gw_sel (List.mem_of_getElem? (i := 36) rfl) rfl⟩
theorem ml_0_253 : mLV "NinetyPlayers" 253 m128 2 := ⟨yk_128, gw_of (tb_4 (List.mem_of_getElem? (i := 207) rfl)) rfl, gw_of (tb_4 (List.mem_of_getElem? (i := 208) rfl)) rfl, gw_of (tb_4 (List.mem_of_getElem? (i := 209) rfl)) rfl⟩
theorem ml_7_104 : mLV "NinetyPlayers$Keyboard" 104 m114 3 := ⟨yk_114, gw_of (tb_4 (List.mem_of_getElem? (i := 211) rfl)) rfl, gw_of (tb_4 (List.mem_of_getElem? (i := 149) rfl)) rfl, gw_of (tb_4 (List.mem_of_getElem? (i := 150) rfl)) rfl⟩
theorem ml_0_240 : mLS "NinetyPlayers" 240 m130 1 := ⟨yk_130, gw_of (tb_4 (List.mem_of_getElem? (i := 216) rfl)) rfl, gw_of (tb_4 (List.mem_of_getElem? (i := 217) rfl)) rfl⟩
theorem fl_0_243 : fL "NinetyPlayers" 243 5 1 := ⟨_, _, _, ck_5, by decide, gw_of (tb_1 (List.mem_of_getElem? (i := 222) rfl)) rfl⟩
theorem ml_0_246 : mLV "NinetyPlayers" 246 m135 1 := ⟨yk_135, gw_of (tb_4 (List.mem_of_getElem? (i := 235) rfl)) rfl, gw_of (tb_4 (List.mem_of_getElem? (i := 236) rfl)) rfl, gw_of (tb_4 (List.mem_of_getElem? (i := 237) rfl)) rfl⟩
theorem ml_0_250 : mLV "NinetyPlayers" 250 m137 1 := ⟨yk_137, gw_of (tb_5 (List.mem_of_getElem? (i := 3) rfl)) rfl, gw_of (tb_5 (List.mem_of_getElem? (i := 4) rfl)) rfl, gw_of (tb_5 (List.mem_of_getElem? (i := 5) rfl)) rfl⟩
theorem fl_0_256 : fL "NinetyPlayers" 256 2 2 := ⟨_, _, _, ck_2, by decide, gw_of (tb_1 (List.mem_of_getElem? (i := 91) rfl)) rfl⟩
theorem fl_0_259 : fL "NinetyPlayers" 259 2 1 := ⟨_, _, _, ck_2, by decide, gw_of (tb_1 (List.mem_of_getElem? (i := 87) rfl)) rfl⟩
theorem ml_0_262 : mLV "NinetyPlayers" 262 m140 2 := ⟨yk_140, gw_of (tb_5 (List.mem_of_getElem? (i := 16) rfl)) rfl, gw_of (tb_5 (List.mem_of_getElem? (i := 18) rfl)) rfl, gw_sel (List.mem_of_getElem? (i := 37) rfl) rfl⟩
theorem fl_0_266 : fL "NinetyPlayers" 266 8 2 := ⟨_, _, _, ck_8, by decide, gw_of (tb_2 (List.mem_of_getElem? (i := 101) rfl)) rfl⟩
theorem fl_0_269 : fL "NinetyPlayers" 269 8 3 := ⟨_, _, _, ck_8, by decide, gw_of (tb_2 (List.mem_of_getElem? (i := 103) rfl)) rfl⟩
theorem fl_0_270 : fL "NinetyPlayers" 270 8 4 := ⟨_, _, _, ck_8, by decide, gw_of (tb_2 (List.mem_of_getElem? (i := 105) rfl)) rfl⟩
theorem ml_0_271 : mLV "NinetyPlayers" 271 m141 0 := ⟨yk_141, gw_of (tb_5 (List.mem_of_getElem? (i := 20) rfl)) rfl, gw_of (tb_5 (List.mem_of_getElem? (i := 22) rfl)) rfl, gw_sel (List.mem_of_getElem? (i := 38) rfl) rfl⟩
theorem fl_0_274 : fL "NinetyPlayers" 274 7 3 := ⟨_, _, _, ck_7, by decide, gw_of (tb_2 (List.mem_of_getElem? (i := 50) rfl)) rfl⟩
theorem fl_0_275 : fL "NinetyPlayers" 275 7 2 := ⟨_, _, _, ck_7, by decide, gw_of (tb_2 (List.mem_of_getElem? (i := 47) rfl)) rfl⟩
theorem ml_0_276 : mLV "NinetyPlayers" 276 m142 0 := ⟨yk_142, gw_of (tb_5 (List.mem_of_getElem? (i := 24) rfl)) rfl, gw_of (tb_5 (List.mem_of_getElem? (i := 25) rfl)) rfl, gw_of (tb_5 (List.mem_of_getElem? (i := 26) rfl)) rfl⟩
theorem ml_0_279 : mLV "NinetyPlayers" 279 m151 1 := ⟨yk_151, gw_of (tb_5 (List.mem_of_getElem? (i := 63) rfl)) rfl, gw_of (tb_5 (List.mem_of_getElem? (i := 64) rfl)) rfl, gw_of (tb_5 (List.mem_of_getElem? (i := 65) rfl)) rfl⟩
theorem fl_8_38 : fL "NinetyPlayers$Arranger" 38 7 1 := ⟨_, _, _, ck_7, by decide, gw_of (tb_2 (List.mem_of_getElem? (i := 44) rfl)) rfl⟩
theorem ml_8_43 : mLV "NinetyPlayers$Arranger" 43 m143 1 := ⟨yk_143, gw_of (tb_5 (List.mem_of_getElem? (i := 28) rfl)) rfl, gw_of (tb_5 (List.mem_of_getElem? (i := 30) rfl)) rfl, gw_sel (List.mem_of_getElem? (i := 39) rfl) rfl⟩
theorem ml_8_47 : mLV "NinetyPlayers$Arranger" 47 m144 1 := ⟨yk_144, gw_of (tb_5 (List.mem_of_getElem? (i := 34) rfl)) rfl, gw_of (tb_5 (List.mem_of_getElem? (i := 36) rfl)) rfl, gw_sel (List.mem_of_getElem? (i := 40) rfl) rfl⟩
theorem fl_8_50 : fL "NinetyPlayers$Arranger" 50 8 2 := ⟨_, _, _, ck_8, by decide, gw_of (tb_2 (List.mem_of_getElem? (i := 100) rfl)) rfl⟩
theorem fl_8_31 : fL "NinetyPlayers$Arranger" 31 8 3 := ⟨_, _, _, ck_8, by decide, gw_of (tb_2 (List.mem_of_getElem? (i := 102) rfl)) rfl⟩
theorem fl_8_35 : fL "NinetyPlayers$Arranger" 35 8 4 := ⟨_, _, _, ck_8, by decide, gw_of (tb_2 (List.mem_of_getElem? (i := 104) rfl)) rfl⟩
theorem ml_8_53 : mLV "NinetyPlayers$Arranger" 53 m145 4 := ⟨yk_145, gw_of (tb_5 (List.mem_of_getElem? (i := 38) rfl)) rfl, gw_of (tb_5 (List.mem_of_getElem? (i := 40) rfl)) rfl, gw_sel (List.mem_of_getElem? (i := 41) rfl) rfl⟩
theorem fl_8_57 : fL "NinetyPlayers$Arranger" 57 7 0 := ⟨_, _, _, ck_7, by decide, gw_of (tb_2 (List.mem_of_getElem? (i := 42) rfl)) rfl⟩
theorem ml_8_60 : mLV "NinetyPlayers$Arranger" 60 m110 1 := ⟨yk_110, gw_of (tb_5 (List.mem_of_getElem? (i := 32) rfl)) rfl, gw_of (tb_4 (List.mem_of_getElem? (i := 133) rfl)) rfl, gw_of (tb_4 (List.mem_of_getElem? (i := 134) rfl)) rfl⟩
theorem fl_8_64 : fL "NinetyPlayers$Arranger" 64 7 8 := ⟨_, _, _, ck_7, by decide, gw_of (tb_2 (List.mem_of_getElem? (i := 63) rfl)) rfl⟩
theorem ml_8_67 : mMabs "NinetyPlayers$Arranger" 67 := ⟨gw_of (tb_5 (List.mem_of_getElem? (i := 33) rfl)) rfl, gw_of (tb_4 (List.mem_of_getElem? (i := 170) rfl)) rfl, gw_of (tb_1 (List.mem_of_getElem? (i := 13) rfl)) rfl, gw_of (tb_4 (List.mem_of_getElem? (i := 171) rfl)) rfl⟩
theorem fl_8_72 : fL "NinetyPlayers$Arranger" 72 7 2 := ⟨_, _, _, ck_7, by decide, gw_of (tb_2 (List.mem_of_getElem? (i := 46) rfl)) rfl⟩
theorem ml_8_75 : mLV "NinetyPlayers$Arranger" 75 m146 3 := ⟨yk_146, gw_of (tb_5 (List.mem_of_getElem? (i := 42) rfl)) rfl, gw_of (tb_5 (List.mem_of_getElem? (i := 44) rfl)) rfl, gw_sel (List.mem_of_getElem? (i := 42) rfl) rfl⟩
theorem ml_8_79 : mLV "NinetyPlayers$Arranger" 79 m147 2 := ⟨yk_147, gw_of (tb_5 (List.mem_of_getElem? (i := 46) rfl)) rfl, gw_of (tb_5 (List.mem_of_getElem? (i := 48) rfl)) rfl, gw_sel (List.mem_of_getElem? (i := 43) rfl) rfl⟩
theorem ml_8_83 : mLV "NinetyPlayers$Arranger" 83 m148 3 := ⟨yk_148, gw_of (tb_5 (List.mem_of_getElem? (i := 51) rfl)) rfl, gw_of (tb_5 (List.mem_of_getElem? (i := 53) rfl)) rfl, gw_sel (List.mem_of_getElem? (i := 44) rfl) rfl⟩
theorem ml_8_86 : mLV "NinetyPlayers$Arranger" 86 m150 3 := ⟨yk_150, gw_of (tb_5 (List.mem_of_getElem? (i := 59) rfl)) rfl, gw_of (tb_5 (List.mem_of_getElem? (i := 61) rfl)) rfl, gw_sel (List.mem_of_getElem? (i := 45) rfl) rfl⟩
theorem ml_8_89 : mLS "NinetyPlayers$Arranger" 89 m91 1 := ⟨yk_91, gw_of (tb_5 (List.mem_of_getElem? (i := 50) rfl)) rfl, gw_of (tb_4 (List.mem_of_getElem? (i := 54) rfl)) rfl⟩
theorem fl_8_94 : fL "NinetyPlayers$Arranger" 94 7 3 := ⟨_, _, _, ck_7, by decide, gw_of (tb_2 (List.mem_of_getElem? (i := 49) rfl)) rfl⟩
theorem ml_8_97 : mLV "NinetyPlayers$Arranger" 97 m149 2 := ⟨yk_149, gw_of (tb_5 (List.mem_of_getElem? (i := 55) rfl)) rfl, gw_of (tb_5 (List.mem_of_getElem? (i := 56) rfl)) rfl, gw_of (tb_5 (List.mem_of_getElem? (i := 57) rfl)) rfl⟩
theorem fl_8_101 : fL "NinetyPlayers$Arranger" 101 7 4 := ⟨_, _, _, ck_7, by decide, gw_of (tb_2 (List.mem_of_getElem? (i := 52) rfl)) rfl⟩
theorem ml_0_282 : mLV "NinetyPlayers" 282 m154 1 := ⟨yk_154, gw_of (tb_5 (List.mem_of_getElem? (i := 75) rfl)) rfl, gw_of (tb_5 (List.mem_of_getElem? (i := 77) rfl)) rfl, gw_sel (List.mem_of_getElem? (i := 46) rfl) rfl⟩
theorem ml_0_285 : mLV "NinetyPlayers" 285 m155 2 := ⟨yk_155, gw_of (tb_5 (List.mem_of_getElem? (i := 79) rfl)) rfl, gw_of (tb_5 (List.mem_of_getElem? (i := 80) rfl)) rfl, gw_of (tb_5 (List.mem_of_getElem? (i := 81) rfl)) rfl⟩
theorem ml_0_288 : mLV "NinetyPlayers" 288 m157 2 := ⟨yk_157, gw_of (tb_5 (List.mem_of_getElem? (i := 87) rfl)) rfl, gw_of (tb_5 (List.mem_of_getElem? (i := 88) rfl)) rfl, gw_of (tb_5 (List.mem_of_getElem? (i := 89) rfl)) rfl⟩
theorem fl_8_104 : fL "NinetyPlayers$Arranger" 104 7 5 := ⟨_, _, _, ck_7, by decide, gw_of (tb_2 (List.mem_of_getElem? (i := 55) rfl)) rfl⟩
theorem fl_8_105 : fL "NinetyPlayers$Arranger" 105 7 6 := ⟨_, _, _, ck_7, by decide, gw_of (tb_2 (List.mem_of_getElem? (i := 59) rfl)) rfl⟩
theorem ml_8_106 : mLV "NinetyPlayers$Arranger" 106 m158 2 := ⟨yk_158, gw_of (tb_5 (List.mem_of_getElem? (i := 91) rfl)) rfl, gw_of (tb_5 (List.mem_of_getElem? (i := 93) rfl)) rfl, gw_sel (List.mem_of_getElem? (i := 47) rfl) rfl⟩
theorem ml_8_109 : mLV "NinetyPlayers$Arranger" 109 m160 2 := ⟨yk_160, gw_of (tb_5 (List.mem_of_getElem? (i := 99) rfl)) rfl, gw_of (tb_5 (List.mem_of_getElem? (i := 100) rfl)) rfl, gw_of (tb_5 (List.mem_of_getElem? (i := 101) rfl)) rfl⟩
theorem ml_8_112 : mLV "NinetyPlayers$Arranger" 112 m159 1 := ⟨yk_159, gw_of (tb_5 (List.mem_of_getElem? (i := 95) rfl)) rfl, gw_of (tb_5 (List.mem_of_getElem? (i := 97) rfl)) rfl, gw_sel (List.mem_of_getElem? (i := 48) rfl) rfl⟩
theorem ml_0_291 : mLV "NinetyPlayers" 291 m162 2 := ⟨yk_162, gw_of (tb_5 (List.mem_of_getElem? (i := 107) rfl)) rfl, gw_of (tb_5 (List.mem_of_getElem? (i := 108) rfl)) rfl, gw_of (tb_5 (List.mem_of_getElem? (i := 109) rfl)) rfl⟩
theorem ml_7_108 : yOK m130 1 ∧ Cond.static m130.1 ∈ GW := ⟨yk_130, gw_of (tb_4 (List.mem_of_getElem? (i := 217) rfl)) rfl⟩
theorem ml_7_111 : mLV "NinetyPlayers$Keyboard" 111 m160 2 := ⟨yk_160, gw_of (tb_5 (List.mem_of_getElem? (i := 112) rfl)) rfl, gw_of (tb_5 (List.mem_of_getElem? (i := 100) rfl)) rfl, gw_of (tb_5 (List.mem_of_getElem? (i := 101) rfl)) rfl⟩
theorem ml_0_294 : mLV "NinetyPlayers" 294 m164 0 := ⟨yk_164, gw_of (tb_5 (List.mem_of_getElem? (i := 117) rfl)) rfl, gw_of (tb_5 (List.mem_of_getElem? (i := 118) rfl)) rfl, gw_of (tb_5 (List.mem_of_getElem? (i := 119) rfl)) rfl⟩
theorem ml_9_19 : mLV "NinetyPlayers$Pedaller" 19 m165 3 := ⟨yk_165, gw_of (tb_5 (List.mem_of_getElem? (i := 121) rfl)) rfl, gw_of (tb_5 (List.mem_of_getElem? (i := 123) rfl)) rfl, gw_sel (List.mem_of_getElem? (i := 49) rfl) rfl⟩
theorem fl_9_23 : fL "NinetyPlayers$Pedaller" 23 7 0 := ⟨_, _, _, ck_7, by decide, gw_of (tb_2 (List.mem_of_getElem? (i := 41) rfl)) rfl⟩
theorem ml_9_29 : mLV "NinetyPlayers$Pedaller" 29 m166 1 := ⟨yk_166, gw_of (tb_5 (List.mem_of_getElem? (i := 127) rfl)) rfl, gw_of (tb_5 (List.mem_of_getElem? (i := 129) rfl)) rfl, gw_sel (List.mem_of_getElem? (i := 50) rfl) rfl⟩
theorem ml_9_33 : mLS "NinetyPlayers$Pedaller" 33 m167 2 := ⟨yk_167, gw_of (tb_5 (List.mem_of_getElem? (i := 131) rfl)) rfl, gw_of (tb_5 (List.mem_of_getElem? (i := 132) rfl)) rfl⟩
theorem ml_9_37 : mLV "NinetyPlayers$Pedaller" 37 m107 2 := ⟨yk_107, gw_of (tb_5 (List.mem_of_getElem? (i := 125) rfl)) rfl, gw_of (tb_4 (List.mem_of_getElem? (i := 121) rfl)) rfl, gw_of (tb_4 (List.mem_of_getElem? (i := 122) rfl)) rfl⟩
theorem fl_9_40 : fL "NinetyPlayers$Pedaller" 40 7 5 := ⟨_, _, _, ck_7, by decide, gw_of (tb_2 (List.mem_of_getElem? (i := 54) rfl)) rfl⟩
theorem fl_9_43 : fL "NinetyPlayers$Pedaller" 43 7 6 := ⟨_, _, _, ck_7, by decide, gw_of (tb_2 (List.mem_of_getElem? (i := 58) rfl)) rfl⟩
theorem ml_9_46 : mLV "NinetyPlayers$Pedaller" 46 m115 4 := ⟨yk_115, gw_of (tb_5 (List.mem_of_getElem? (i := 126) rfl)) rfl, gw_of (tb_4 (List.mem_of_getElem? (i := 153) rfl)) rfl, gw_of (tb_4 (List.mem_of_getElem? (i := 154) rfl)) rfl⟩
theorem ml_9_50 : mLS "NinetyPlayers$Pedaller" 50 m91 1 := ⟨yk_91, gw_of (tb_5 (List.mem_of_getElem? (i := 134) rfl)) rfl, gw_of (tb_4 (List.mem_of_getElem? (i := 54) rfl)) rfl⟩
theorem ml_0_297 : mLV "NinetyPlayers" 297 m169 1 := ⟨yk_169, gw_of (tb_5 (List.mem_of_getElem? (i := 139) rfl)) rfl, gw_of (tb_5 (List.mem_of_getElem? (i := 140) rfl)) rfl, gw_of (tb_5 (List.mem_of_getElem? (i := 141) rfl)) rfl⟩
theorem ml_0_300 : mLV "NinetyPlayers" 300 m149 2 := ⟨yk_149, gw_of (tb_5 (List.mem_of_getElem? (i := 147) rfl)) rfl, gw_of (tb_5 (List.mem_of_getElem? (i := 56) rfl)) rfl, gw_of (tb_5 (List.mem_of_getElem? (i := 57) rfl)) rfl⟩
theorem ml_0_303 : mLV "NinetyPlayers" 303 m172 1 := ⟨yk_172, gw_of (tb_5 (List.mem_of_getElem? (i := 152) rfl)) rfl, gw_of (tb_5 (List.mem_of_getElem? (i := 153) rfl)) rfl, gw_of (tb_5 (List.mem_of_getElem? (i := 154) rfl)) rfl⟩
theorem ml_7_115 : mLV "NinetyPlayers$Keyboard" 115 m112 1 := ⟨yk_112, gw_of (tb_5 (List.mem_of_getElem? (i := 156) rfl)) rfl, gw_of (tb_4 (List.mem_of_getElem? (i := 141) rfl)) rfl, gw_of (tb_4 (List.mem_of_getElem? (i := 142) rfl)) rfl⟩
theorem ml_0_306 : mLV "NinetyPlayers" 306 m174 1 := ⟨yk_174, gw_of (tb_5 (List.mem_of_getElem? (i := 161) rfl)) rfl, gw_of (tb_5 (List.mem_of_getElem? (i := 163) rfl)) rfl, gw_sel (List.mem_of_getElem? (i := 51) rfl) rfl⟩
theorem fl_0_309 : fL "NinetyPlayers" 309 2 4 := ⟨_, _, _, ck_2, by decide, gw_of (tb_1 (List.mem_of_getElem? (i := 98) rfl)) rfl⟩
theorem ml_0_312 : mLV "NinetyPlayers" 312 m179 1 := ⟨yk_179, gw_of (tb_5 (List.mem_of_getElem? (i := 181) rfl)) rfl, gw_of (tb_5 (List.mem_of_getElem? (i := 182) rfl)) rfl, gw_of (tb_5 (List.mem_of_getElem? (i := 183) rfl)) rfl⟩
theorem ml_0_315 : mLV "NinetyPlayers" 315 m109 1 := ⟨yk_109, gw_of (tb_5 (List.mem_of_getElem? (i := 189) rfl)) rfl, gw_of (tb_4 (List.mem_of_getElem? (i := 129) rfl)) rfl, gw_of (tb_4 (List.mem_of_getElem? (i := 130) rfl)) rfl⟩
theorem ml_0_316 : mLV "NinetyPlayers" 316 m186 3 := ⟨yk_186, gw_of (tb_5 (List.mem_of_getElem? (i := 210) rfl)) rfl, gw_of (tb_5 (List.mem_of_getElem? (i := 211) rfl)) rfl, gw_of (tb_5 (List.mem_of_getElem? (i := 212) rfl)) rfl⟩
theorem fl_10_38 : fL "NinetyPlayers$Witness" 38 10 1 := ⟨_, _, _, ck_10, by decide, gw_of (tb_2 (List.mem_of_getElem? (i := 150) rfl)) rfl⟩
theorem ml_0_320 : mLV "NinetyPlayers" 320 m188 1 := ⟨yk_188, gw_of (tb_5 (List.mem_of_getElem? (i := 218) rfl)) rfl, gw_of (tb_5 (List.mem_of_getElem? (i := 219) rfl)) rfl, gw_of (tb_5 (List.mem_of_getElem? (i := 220) rfl)) rfl⟩
theorem ml_0_323 : mLV "NinetyPlayers" 323 m190 1 := ⟨yk_190, gw_of (tb_5 (List.mem_of_getElem? (i := 226) rfl)) rfl, gw_of (tb_5 (List.mem_of_getElem? (i := 227) rfl)) rfl, gw_of (tb_5 (List.mem_of_getElem? (i := 228) rfl)) rfl⟩
theorem kc_10_41 : Cond.constant "NinetyPlayers$Witness" 41 100000 ∈ GW := gw_of (tb_5 (List.mem_of_getElem? (i := 230) rfl)) rfl
theorem ml_0_326 : mLV "NinetyPlayers" 326 m192 2 := ⟨yk_192, gw_of (tb_5 (List.mem_of_getElem? (i := 235) rfl)) rfl, gw_of (tb_5 (List.mem_of_getElem? (i := 236) rfl)) rfl, gw_of (tb_5 (List.mem_of_getElem? (i := 237) rfl)) rfl⟩
theorem fl_0_330 : fL "NinetyPlayers" 330 10 2 := ⟨_, _, _, ck_10, by decide, gw_of (tb_2 (List.mem_of_getElem? (i := 153) rfl)) rfl⟩
theorem ml_10_42 : mLV "NinetyPlayers$Witness" 42 m193 2 := ⟨yk_193, gw_of (tb_5 (List.mem_of_getElem? (i := 239) rfl)) rfl, gw_of (tb_6 (List.mem_of_getElem? (i := 1) rfl)) rfl, gw_sel (List.mem_of_getElem? (i := 52) rfl) rfl⟩
theorem fl_10_46 : fL "NinetyPlayers$Witness" 46 10 2 := ⟨_, _, _, ck_10, by decide, gw_of (tb_2 (List.mem_of_getElem? (i := 152) rfl)) rfl⟩
theorem fl_10_49 : fL "NinetyPlayers$Witness" 49 2 6 := ⟨_, _, _, ck_2, by decide, gw_of (tb_1 (List.mem_of_getElem? (i := 106) rfl)) rfl⟩
theorem ml_10_54 : mLV "NinetyPlayers$Witness" 54 m195 1 := ⟨yk_195, gw_of (tb_6 (List.mem_of_getElem? (i := 6) rfl)) rfl, gw_of (tb_6 (List.mem_of_getElem? (i := 8) rfl)) rfl, gw_sel (List.mem_of_getElem? (i := 53) rfl) rfl⟩
theorem ml_10_58 : mLV "NinetyPlayers$Witness" 58 m196 1 := ⟨yk_196, gw_of (tb_6 (List.mem_of_getElem? (i := 10) rfl)) rfl, gw_of (tb_6 (List.mem_of_getElem? (i := 12) rfl)) rfl, gw_sel (List.mem_of_getElem? (i := 54) rfl) rfl⟩
theorem fl_10_62 : fL "NinetyPlayers$Witness" 62 10 10 := ⟨_, _, _, ck_10, by decide, gw_of (tb_2 (List.mem_of_getElem? (i := 162) rfl)) rfl⟩
theorem fl_10_65 : fL "NinetyPlayers$Witness" 65 10 11 := ⟨_, _, _, ck_10, by decide, gw_of (tb_2 (List.mem_of_getElem? (i := 163) rfl)) rfl⟩
theorem ml_10_68 : mLS "NinetyPlayers$Witness" 68 m194 3 := ⟨yk_194, gw_of (tb_6 (List.mem_of_getElem? (i := 3) rfl)) rfl, gw_of (tb_6 (List.mem_of_getElem? (i := 4) rfl)) rfl⟩
theorem fl_10_72 : fL "NinetyPlayers$Witness" 72 2 11 := ⟨_, _, _, ck_2, by decide, gw_of (tb_1 (List.mem_of_getElem? (i := 116) rfl)) rfl⟩
theorem fl_10_75 : fL "NinetyPlayers$Witness" 75 2 12 := ⟨_, _, _, ck_2, by decide, gw_of (tb_1 (List.mem_of_getElem? (i := 119) rfl)) rfl⟩
theorem fl_10_76 : fL "NinetyPlayers$Witness" 76 2 13 := ⟨_, _, _, ck_2, by decide, gw_of (tb_1 (List.mem_of_getElem? (i := 122) rfl)) rfl⟩
theorem fl_0_333 : fL "NinetyPlayers" 333 10 3 := ⟨_, _, _, ck_10, by decide, gw_of (tb_2 (List.mem_of_getElem? (i := 155) rfl)) rfl⟩
theorem ml_0_336 : mLV "NinetyPlayers" 336 m200 1 := ⟨yk_200, gw_of (tb_6 (List.mem_of_getElem? (i := 26) rfl)) rfl, gw_of (tb_6 (List.mem_of_getElem? (i := 27) rfl)) rfl, gw_of (tb_6 (List.mem_of_getElem? (i := 28) rfl)) rfl⟩
theorem ml_0_340 : mLV "NinetyPlayers" 340 m202 1 := ⟨yk_202, gw_of (tb_6 (List.mem_of_getElem? (i := 34) rfl)) rfl, gw_of (tb_6 (List.mem_of_getElem? (i := 36) rfl)) rfl, gw_sel (List.mem_of_getElem? (i := 55) rfl) rfl⟩
theorem ml_0_343 : mLV "NinetyPlayers" 343 m204 2 := ⟨yk_204, gw_of (tb_6 (List.mem_of_getElem? (i := 42) rfl)) rfl, gw_of (tb_6 (List.mem_of_getElem? (i := 43) rfl)) rfl, gw_of (tb_6 (List.mem_of_getElem? (i := 44) rfl)) rfl⟩
theorem fl_0_347 : fL "NinetyPlayers" 347 2 3 := ⟨_, _, _, ck_2, by decide, gw_of (tb_1 (List.mem_of_getElem? (i := 95) rfl)) rfl⟩
theorem ml_0_350 : mLV "NinetyPlayers" 350 m206 1 := ⟨yk_206, gw_of (tb_6 (List.mem_of_getElem? (i := 50) rfl)) rfl, gw_of (tb_6 (List.mem_of_getElem? (i := 52) rfl)) rfl, gw_sel (List.mem_of_getElem? (i := 56) rfl) rfl⟩
theorem fl_0_353 : fL "NinetyPlayers" 353 6 0 := ⟨_, _, _, ck_6, by decide, gw_of (tb_2 (List.mem_of_getElem? (i := 14) rfl)) rfl⟩
theorem fl_0_356 : fL "NinetyPlayers" 356 6 1 := ⟨_, _, _, ck_6, by decide, gw_of (tb_2 (List.mem_of_getElem? (i := 16) rfl)) rfl⟩
theorem fl_0_358 : fL "NinetyPlayers" 358 10 0 := ⟨_, _, _, ck_10, by decide, gw_of (tb_2 (List.mem_of_getElem? (i := 149) rfl)) rfl⟩
theorem fl_0_361 : fL "NinetyPlayers" 361 10 1 := ⟨_, _, _, ck_10, by decide, gw_of (tb_2 (List.mem_of_getElem? (i := 151) rfl)) rfl⟩
theorem fl_0_364 : fL "NinetyPlayers" 364 3 0 := ⟨_, _, _, ck_3, by decide, gw_of (tb_1 (List.mem_of_getElem? (i := 50) rfl)) rfl⟩
theorem fl_11_7 : fL "NinetyPlayersModel" 7 11 0 := ⟨_, _, _, ck_11, by decide, gw_of (tb_6 (List.mem_of_getElem? (i := 60) rfl)) rfl⟩
theorem fl_11_13 : fL "NinetyPlayersModel" 13 11 3 := ⟨_, _, _, ck_11, by decide, gw_of (tb_6 (List.mem_of_getElem? (i := 63) rfl)) rfl⟩
theorem fl_11_17 : fL "NinetyPlayersModel" 17 11 10 := ⟨_, _, _, ck_11, by decide, gw_of (tb_6 (List.mem_of_getElem? (i := 70) rfl)) rfl⟩
theorem fl_11_21 : fL "NinetyPlayersModel" 21 11 11 := ⟨_, _, _, ck_11, by decide, gw_of (tb_6 (List.mem_of_getElem? (i := 71) rfl)) rfl⟩
theorem fl_11_24 : fL "NinetyPlayersModel" 24 11 12 := ⟨_, _, _, ck_11, by decide, gw_of (tb_6 (List.mem_of_getElem? (i := 72) rfl)) rfl⟩
theorem fl_11_27 : fL "NinetyPlayersModel" 27 11 13 := ⟨_, _, _, ck_11, by decide, gw_of (tb_6 (List.mem_of_getElem? (i := 73) rfl)) rfl⟩
theorem fl_11_30 : fL "NinetyPlayersModel" 30 11 14 := ⟨_, _, _, ck_11, by decide, gw_of (tb_6 (List.mem_of_getElem? (i := 74) rfl)) rfl⟩
theorem fl_11_33 : fL "NinetyPlayersModel" 33 11 15 := ⟨_, _, _, ck_11, by decide, gw_of (tb_6 (List.mem_of_getElem? (i := 75) rfl)) rfl⟩
theorem fl_11_36 : fL "NinetyPlayersModel" 36 11 16 := ⟨_, _, _, ck_11, by decide, gw_of (tb_6 (List.mem_of_getElem? (i := 76) rfl)) rfl⟩
theorem fl_11_39 : fL "NinetyPlayersModel" 39 11 26 := ⟨_, _, _, ck_11, by decide, gw_of (tb_6 (List.mem_of_getElem? (i := 86) rfl)) rfl⟩
theorem fl_11_42 : fL "NinetyPlayersModel" 42 11 27 := ⟨_, _, _, ck_11, by decide, gw_of (tb_6 (List.mem_of_getElem? (i := 87) rfl)) rfl⟩
theorem fl_11_45 : fL "NinetyPlayersModel" 45 11 28 := ⟨_, _, _, ck_11, by decide, gw_of (tb_6 (List.mem_of_getElem? (i := 88) rfl)) rfl⟩
theorem fl_11_48 : fL "NinetyPlayersModel" 48 11 29 := ⟨_, _, _, ck_11, by decide, gw_of (tb_6 (List.mem_of_getElem? (i := 89) rfl)) rfl⟩
theorem fl_11_51 : fL "NinetyPlayersModel" 51 11 30 := ⟨_, _, _, ck_11, by decide, gw_of (tb_6 (List.mem_of_getElem? (i := 90) rfl)) rfl⟩
theorem fl_11_54 : fL "NinetyPlayersModel" 54 11 31 := ⟨_, _, _, ck_11, by decide, gw_of (tb_6 (List.mem_of_getElem? (i := 91) rfl)) rfl⟩
theorem fl_11_57 : fL "NinetyPlayersModel" 57 11 32 := ⟨_, _, _, ck_11, by decide, gw_of (tb_6 (List.mem_of_getElem? (i := 92) rfl)) rfl⟩
theorem fl_11_60 : fL "NinetyPlayersModel" 60 11 33 := ⟨_, _, _, ck_11, by decide, gw_of (tb_6 (List.mem_of_getElem? (i := 93) rfl)) rfl⟩
theorem fl_11_63 : fL "NinetyPlayersModel" 63 11 34 := ⟨_, _, _, ck_11, by decide, gw_of (tb_6 (List.mem_of_getElem? (i := 94) rfl)) rfl⟩
theorem fl_11_66 : fL "NinetyPlayersModel" 66 11 35 := ⟨_, _, _, ck_11, by decide, gw_of (tb_6 (List.mem_of_getElem? (i := 95) rfl)) rfl⟩
theorem fl_11_69 : fL "NinetyPlayersModel" 69 11 36 := ⟨_, _, _, ck_11, by decide, gw_of (tb_6 (List.mem_of_getElem? (i := 96) rfl)) rfl⟩
theorem fl_11_72 : fL "NinetyPlayersModel" 72 11 37 := ⟨_, _, _, ck_11, by decide, gw_of (tb_6 (List.mem_of_getElem? (i := 97) rfl)) rfl⟩
theorem fl_11_75 : fL "NinetyPlayersModel" 75 11 38 := ⟨_, _, _, ck_11, by decide, gw_of (tb_6 (List.mem_of_getElem? (i := 98) rfl)) rfl⟩
theorem fl_11_78 : fL "NinetyPlayersModel" 78 11 46 := ⟨_, _, _, ck_11, by decide, gw_of (tb_6 (List.mem_of_getElem? (i := 106) rfl)) rfl⟩
theorem fl_11_81 : fL "NinetyPlayersModel" 81 11 49 := ⟨_, _, _, ck_11, by decide, gw_of (tb_6 (List.mem_of_getElem? (i := 109) rfl)) rfl⟩
theorem fl_11_84 : fL "NinetyPlayersModel" 84 11 50 := ⟨_, _, _, ck_11, by decide, gw_of (tb_6 (List.mem_of_getElem? (i := 110) rfl)) rfl⟩
theorem fl_11_87 : fL "NinetyPlayersModel" 87 11 51 := ⟨_, _, _, ck_11, by decide, gw_of (tb_6 (List.mem_of_getElem? (i := 111) rfl)) rfl⟩
theorem fl_11_90 : fL "NinetyPlayersModel" 90 11 52 := ⟨_, _, _, ck_11, by decide, gw_of (tb_6 (List.mem_of_getElem? (i := 112) rfl)) rfl⟩
theorem fl_11_93 : fL "NinetyPlayersModel" 93 11 58 := ⟨_, _, _, ck_11, by decide, gw_of (tb_6 (List.mem_of_getElem? (i := 118) rfl)) rfl⟩
theorem fl_11_96 : fL "NinetyPlayersModel" 96 11 59 := ⟨_, _, _, ck_11, by decide, gw_of (tb_6 (List.mem_of_getElem? (i := 119) rfl)) rfl⟩
theorem fl_11_99 : fL "NinetyPlayersModel" 99 11 60 := ⟨_, _, _, ck_11, by decide, gw_of (tb_6 (List.mem_of_getElem? (i := 120) rfl)) rfl⟩
theorem fl_11_102 : fL "NinetyPlayersModel" 102 11 61 := ⟨_, _, _, ck_11, by decide, gw_of (tb_6 (List.mem_of_getElem? (i := 121) rfl)) rfl⟩
theorem fl_11_105 : fL "NinetyPlayersModel" 105 11 62 := ⟨_, _, _, ck_11, by decide, gw_of (tb_6 (List.mem_of_getElem? (i := 122) rfl)) rfl⟩
theorem fl_11_108 : fL "NinetyPlayersModel" 108 11 65 := ⟨_, _, _, ck_11, by decide, gw_of (tb_6 (List.mem_of_getElem? (i := 125) rfl)) rfl⟩
theorem fl_11_111 : fL "NinetyPlayersModel" 111 11 66 := ⟨_, _, _, ck_11, by decide, gw_of (tb_6 (List.mem_of_getElem? (i := 126) rfl)) rfl⟩
theorem fl_11_114 : fL "NinetyPlayersModel" 114 11 67 := ⟨_, _, _, ck_11, by decide, gw_of (tb_6 (List.mem_of_getElem? (i := 127) rfl)) rfl⟩
theorem fl_11_117 : fL "NinetyPlayersModel" 117 11 69 := ⟨_, _, _, ck_11, by decide, gw_of (tb_6 (List.mem_of_getElem? (i := 129) rfl)) rfl⟩
theorem fl_11_120 : fL "NinetyPlayersModel" 120 11 70 := ⟨_, _, _, ck_11, by decide, gw_of (tb_6 (List.mem_of_getElem? (i := 130) rfl)) rfl⟩
theorem fl_11_123 : fL "NinetyPlayersModel" 123 11 71 := ⟨_, _, _, ck_11, by decide, gw_of (tb_6 (List.mem_of_getElem? (i := 131) rfl)) rfl⟩
theorem fl_11_126 : fL "NinetyPlayersModel" 126 11 72 := ⟨_, _, _, ck_11, by decide, gw_of (tb_6 (List.mem_of_getElem? (i := 132) rfl)) rfl⟩
theorem fl_11_129 : fL "NinetyPlayersModel" 129 11 73 := ⟨_, _, _, ck_11, by decide, gw_of (tb_6 (List.mem_of_getElem? (i := 133) rfl)) rfl⟩
theorem fl_11_133 : fL "NinetyPlayersModel" 133 11 76 := ⟨_, _, _, ck_11, by decide, gw_of (tb_6 (List.mem_of_getElem? (i := 136) rfl)) rfl⟩
theorem fl_11_136 : fL "NinetyPlayersModel" 136 11 77 := ⟨_, _, _, ck_11, by decide, gw_of (tb_6 (List.mem_of_getElem? (i := 137) rfl)) rfl⟩
theorem fl_11_139 : fL "NinetyPlayersModel" 139 11 78 := ⟨_, _, _, ck_11, by decide, gw_of (tb_6 (List.mem_of_getElem? (i := 138) rfl)) rfl⟩
theorem fl_11_142 : fL "NinetyPlayersModel" 142 11 79 := ⟨_, _, _, ck_11, by decide, gw_of (tb_6 (List.mem_of_getElem? (i := 139) rfl)) rfl⟩
theorem fl_11_145 : fL "NinetyPlayersModel" 145 11 1 := ⟨_, _, _, ck_11, by decide, gw_of (tb_6 (List.mem_of_getElem? (i := 61) rfl)) rfl⟩
theorem ml_11_148 : mLV "NinetyPlayersModel" 148 m209 1 := ⟨yk_209, gw_of (tb_7 (List.mem_of_getElem? (i := 65) rfl)) rfl, gw_of (tb_7 (List.mem_of_getElem? (i := 67) rfl)) rfl, gw_sel (List.mem_of_getElem? (i := 57) rfl) rfl⟩
theorem ml_11_402 : mLV "NinetyPlayersModel" 402 m212 0 := ⟨yk_212, gw_of (tb_7 (List.mem_of_getElem? (i := 77) rfl)) rfl, gw_of (tb_7 (List.mem_of_getElem? (i := 79) rfl)) rfl, gw_sel (List.mem_of_getElem? (i := 58) rfl) rfl⟩
theorem fl_11_185 : fL "NinetyPlayersModel" 185 11 2 := ⟨_, _, _, ck_11, by decide, gw_of (tb_6 (List.mem_of_getElem? (i := 62) rfl)) rfl⟩
theorem fl_11_356 : fL "NinetyPlayersModel" 356 11 39 := ⟨_, _, _, ck_11, by decide, gw_of (tb_6 (List.mem_of_getElem? (i := 99) rfl)) rfl⟩
theorem fl_11_258 : fL "NinetyPlayersModel" 258 11 40 := ⟨_, _, _, ck_11, by decide, gw_of (tb_6 (List.mem_of_getElem? (i := 100) rfl)) rfl⟩
theorem fl_11_405 : fL "NinetyPlayersModel" 405 11 47 := ⟨_, _, _, ck_11, by decide, gw_of (tb_6 (List.mem_of_getElem? (i := 107) rfl)) rfl⟩
theorem fl_11_350 : fL "NinetyPlayersModel" 350 11 41 := ⟨_, _, _, ck_11, by decide, gw_of (tb_6 (List.mem_of_getElem? (i := 101) rfl)) rfl⟩
theorem fl_11_322 : fL "NinetyPlayersModel" 322 11 48 := ⟨_, _, _, ck_11, by decide, gw_of (tb_6 (List.mem_of_getElem? (i := 108) rfl)) rfl⟩
theorem fl_11_378 : fL "NinetyPlayersModel" 378 11 42 := ⟨_, _, _, ck_11, by decide, gw_of (tb_6 (List.mem_of_getElem? (i := 102) rfl)) rfl⟩
theorem fl_11_384 : fL "NinetyPlayersModel" 384 11 43 := ⟨_, _, _, ck_11, by decide, gw_of (tb_6 (List.mem_of_getElem? (i := 103) rfl)) rfl⟩
theorem fl_11_390 : fL "NinetyPlayersModel" 390 11 44 := ⟨_, _, _, ck_11, by decide, gw_of (tb_6 (List.mem_of_getElem? (i := 104) rfl)) rfl⟩
theorem fl_11_396 : fL "NinetyPlayersModel" 396 11 45 := ⟨_, _, _, ck_11, by decide, gw_of (tb_6 (List.mem_of_getElem? (i := 105) rfl)) rfl⟩
theorem fl_11_277 : fL "NinetyPlayersModel" 277 11 20 := ⟨_, _, _, ck_11, by decide, gw_of (tb_6 (List.mem_of_getElem? (i := 80) rfl)) rfl⟩
theorem fl_11_408 : fL "NinetyPlayersModel" 408 11 21 := ⟨_, _, _, ck_11, by decide, gw_of (tb_6 (List.mem_of_getElem? (i := 81) rfl)) rfl⟩
theorem fl_11_299 : fL "NinetyPlayersModel" 299 11 24 := ⟨_, _, _, ck_11, by decide, gw_of (tb_6 (List.mem_of_getElem? (i := 84) rfl)) rfl⟩
theorem fl_11_334 : fL "NinetyPlayersModel" 334 11 25 := ⟨_, _, _, ck_11, by decide, gw_of (tb_6 (List.mem_of_getElem? (i := 85) rfl)) rfl⟩
theorem fl_11_261 : fL "NinetyPlayersModel" 261 11 17 := ⟨_, _, _, ck_11, by decide, gw_of (tb_6 (List.mem_of_getElem? (i := 77) rfl)) rfl⟩
theorem fl_11_340 : fL "NinetyPlayersModel" 340 11 18 := ⟨_, _, _, ck_11, by decide, gw_of (tb_6 (List.mem_of_getElem? (i := 78) rfl)) rfl⟩
theorem ml_11_411 : mLV "NinetyPlayersModel" 411 m245 0 := ⟨yk_245, gw_of (tb_7 (List.mem_of_getElem? (i := 225) rfl)) rfl, gw_of (tb_7 (List.mem_of_getElem? (i := 227) rfl)) rfl, gw_sel (List.mem_of_getElem? (i := 86) rfl) rfl⟩
theorem ml_11_414 : mLV "NinetyPlayersModel" 414 m246 0 := ⟨yk_246, gw_of (tb_7 (List.mem_of_getElem? (i := 229) rfl)) rfl, gw_of (tb_7 (List.mem_of_getElem? (i := 231) rfl)) rfl, gw_sel (List.mem_of_getElem? (i := 87) rfl) rfl⟩
theorem fl_11_417 : fL "NinetyPlayersModel" 417 11 63 := ⟨_, _, _, ck_11, by decide, gw_of (tb_6 (List.mem_of_getElem? (i := 123) rfl)) rfl⟩
theorem fl_11_420 : fL "NinetyPlayersModel" 420 11 64 := ⟨_, _, _, ck_11, by decide, gw_of (tb_6 (List.mem_of_getElem? (i := 124) rfl)) rfl⟩
theorem fl_11_423 : fL "NinetyPlayersModel" 423 11 74 := ⟨_, _, _, ck_11, by decide, gw_of (tb_6 (List.mem_of_getElem? (i := 134) rfl)) rfl⟩
theorem fl_11_426 : fL "NinetyPlayersModel" 426 11 68 := ⟨_, _, _, ck_11, by decide, gw_of (tb_6 (List.mem_of_getElem? (i := 128) rfl)) rfl⟩
theorem fl_11_155 : fL "NinetyPlayersModel" 155 11 5 := ⟨_, _, _, ck_11, by decide, gw_of (tb_6 (List.mem_of_getElem? (i := 65) rfl)) rfl⟩
theorem fl_11_152 : fL "NinetyPlayersModel" 152 11 4 := ⟨_, _, _, ck_11, by decide, gw_of (tb_6 (List.mem_of_getElem? (i := 64) rfl)) rfl⟩
theorem fl_11_363 : fL "NinetyPlayersModel" 363 11 53 := ⟨_, _, _, ck_11, by decide, gw_of (tb_6 (List.mem_of_getElem? (i := 113) rfl)) rfl⟩
theorem fl_11_375 : fL "NinetyPlayersModel" 375 11 54 := ⟨_, _, _, ck_11, by decide, gw_of (tb_6 (List.mem_of_getElem? (i := 114) rfl)) rfl⟩
theorem fl_11_381 : fL "NinetyPlayersModel" 381 11 55 := ⟨_, _, _, ck_11, by decide, gw_of (tb_6 (List.mem_of_getElem? (i := 115) rfl)) rfl⟩
theorem fl_11_387 : fL "NinetyPlayersModel" 387 11 56 := ⟨_, _, _, ck_11, by decide, gw_of (tb_6 (List.mem_of_getElem? (i := 116) rfl)) rfl⟩
theorem fl_11_393 : fL "NinetyPlayersModel" 393 11 57 := ⟨_, _, _, ck_11, by decide, gw_of (tb_6 (List.mem_of_getElem? (i := 117) rfl)) rfl⟩
theorem ml_11_241 : mLV "NinetyPlayersModel" 241 m213 0 := ⟨yk_213, gw_of (tb_7 (List.mem_of_getElem? (i := 81) rfl)) rfl, gw_of (tb_7 (List.mem_of_getElem? (i := 83) rfl)) rfl, gw_sel (List.mem_of_getElem? (i := 59) rfl) rfl⟩
theorem fl_11_172 : fL "NinetyPlayersModel" 172 11 6 := ⟨_, _, _, ck_11, by decide, gw_of (tb_6 (List.mem_of_getElem? (i := 66) rfl)) rfl⟩
theorem ml_11_399 : mLV "NinetyPlayersModel" 399 m218 0 := ⟨yk_218, gw_of (tb_7 (List.mem_of_getElem? (i := 98) rfl)) rfl, gw_of (tb_7 (List.mem_of_getElem? (i := 100) rfl)) rfl, gw_sel (List.mem_of_getElem? (i := 61) rfl) rfl⟩
theorem ml_11_158 : mLV "NinetyPlayersModel" 158 m214 1 := ⟨yk_214, gw_of (tb_7 (List.mem_of_getElem? (i := 85) rfl)) rfl, gw_of (tb_7 (List.mem_of_getElem? (i := 87) rfl)) rfl, gw_sel (List.mem_of_getElem? (i := 60) rfl) rfl⟩
theorem fl_11_162 : fL "NinetyPlayersModel" 162 11 7 := ⟨_, _, _, ck_11, by decide, gw_of (tb_6 (List.mem_of_getElem? (i := 67) rfl)) rfl⟩
theorem fl_11_165 : fL "NinetyPlayersModel" 165 11 9 := ⟨_, _, _, ck_11, by decide, gw_of (tb_6 (List.mem_of_getElem? (i := 69) rfl)) rfl⟩
theorem fl_11_169 : fL "NinetyPlayersModel" 169 11 8 := ⟨_, _, _, ck_11, by decide, gw_of (tb_6 (List.mem_of_getElem? (i := 68) rfl)) rfl⟩
theorem ml_11_175 : mLS "NinetyPlayersModel" 175 m215 1 := ⟨yk_215, gw_of (tb_7 (List.mem_of_getElem? (i := 89) rfl)) rfl, gw_of (tb_7 (List.mem_of_getElem? (i := 90) rfl)) rfl⟩
theorem ml_11_179 : mLS "NinetyPlayersModel" 179 m216 1 := ⟨yk_216, gw_of (tb_7 (List.mem_of_getElem? (i := 92) rfl)) rfl, gw_of (tb_7 (List.mem_of_getElem? (i := 93) rfl)) rfl⟩
theorem ml_11_182 : mLS "NinetyPlayersModel" 182 m217 1 := ⟨yk_217, gw_of (tb_7 (List.mem_of_getElem? (i := 95) rfl)) rfl, gw_of (tb_7 (List.mem_of_getElem? (i := 96) rfl)) rfl⟩
theorem kc_11_188 : Cond.constantLong "NinetyPlayersModel" 188 422607680627 ∈ GW := gw_of (tb_7 (List.mem_of_getElem? (i := 102) rfl)) rfl
theorem ml_11_234 : mLV "NinetyPlayersModel" 234 m219 1 := ⟨yk_219, gw_of (tb_7 (List.mem_of_getElem? (i := 103) rfl)) rfl, gw_of (tb_7 (List.mem_of_getElem? (i := 105) rfl)) rfl, gw_sel (List.mem_of_getElem? (i := 62) rfl) rfl⟩
theorem ml_11_359 : mLV "NinetyPlayersModel" 359 m220 3 := ⟨yk_220, gw_of (tb_7 (List.mem_of_getElem? (i := 107) rfl)) rfl, gw_of (tb_7 (List.mem_of_getElem? (i := 109) rfl)) rfl, gw_sel (List.mem_of_getElem? (i := 63) rfl) rfl⟩
theorem kc_11_190 : Cond.constantLong "NinetyPlayersModel" 190 1885434484 ∈ GW := gw_of (tb_7 (List.mem_of_getElem? (i := 123) rfl)) rfl
theorem ml_11_366 : mLV "NinetyPlayersModel" 366 m224 0 := ⟨yk_224, gw_of (tb_7 (List.mem_of_getElem? (i := 124) rfl)) rfl, gw_of (tb_7 (List.mem_of_getElem? (i := 126) rfl)) rfl, gw_sel (List.mem_of_getElem? (i := 67) rfl) rfl⟩
theorem kc_11_196 : Cond.constantLong "NinetyPlayersModel" 196 1852798053 ∈ GW := gw_of (tb_7 (List.mem_of_getElem? (i := 142) rfl)) rfl
theorem ml_11_369 : mLV "NinetyPlayersModel" 369 m230 0 := ⟨yk_230, gw_of (tb_7 (List.mem_of_getElem? (i := 166) rfl)) rfl, gw_of (tb_7 (List.mem_of_getElem? (i := 168) rfl)) rfl, gw_sel (List.mem_of_getElem? (i := 72) rfl) rfl⟩
theorem kc_11_208 : Cond.constantLong "NinetyPlayersModel" 208 120299675936100 ∈ GW := gw_of (tb_7 (List.mem_of_getElem? (i := 148) rfl)) rfl
theorem ml_11_372 : mLV "NinetyPlayersModel" 372 m232 0 := ⟨yk_232, gw_of (tb_7 (List.mem_of_getElem? (i := 174) rfl)) rfl, gw_of (tb_7 (List.mem_of_getElem? (i := 176) rfl)) rfl, gw_sel (List.mem_of_getElem? (i := 74) rfl) rfl⟩
theorem kc_11_210 : Cond.constantLong "NinetyPlayersModel" 210 1936744814 ∈ GW := gw_of (tb_7 (List.mem_of_getElem? (i := 149) rfl)) rfl
theorem kc_11_212 : Cond.constantLong "NinetyPlayersModel" 212 28826370526507635 ∈ GW := gw_of (tb_7 (List.mem_of_getElem? (i := 150) rfl)) rfl
theorem kc_11_214 : Cond.constantLong "NinetyPlayersModel" 214 1818583408 ∈ GW := gw_of (tb_7 (List.mem_of_getElem? (i := 151) rfl)) rfl
theorem kc_11_216 : Cond.constantLong "NinetyPlayersModel" 216 6644082 ∈ GW := gw_of (tb_7 (List.mem_of_getElem? (i := 152) rfl)) rfl
theorem ml_11_238 : mLV "NinetyPlayersModel" 238 m222 1 := ⟨yk_222, gw_of (tb_7 (List.mem_of_getElem? (i := 115) rfl)) rfl, gw_of (tb_7 (List.mem_of_getElem? (i := 117) rfl)) rfl, gw_sel (List.mem_of_getElem? (i := 65) rfl) rfl⟩
theorem ml_11_244 : mLV "NinetyPlayersModel" 244 m221 1 := ⟨yk_221, gw_of (tb_7 (List.mem_of_getElem? (i := 111) rfl)) rfl, gw_of (tb_7 (List.mem_of_getElem? (i := 113) rfl)) rfl, gw_sel (List.mem_of_getElem? (i := 64) rfl) rfl⟩
theorem ml_11_248 : mLV "NinetyPlayersModel" 248 m223 2 := ⟨yk_223, gw_of (tb_7 (List.mem_of_getElem? (i := 119) rfl)) rfl, gw_of (tb_7 (List.mem_of_getElem? (i := 121) rfl)) rfl, gw_sel (List.mem_of_getElem? (i := 66) rfl) rfl⟩
theorem ml_11_347 : mLV "NinetyPlayersModel" 347 m225 2 := ⟨yk_225, gw_of (tb_7 (List.mem_of_getElem? (i := 128) rfl)) rfl, gw_of (tb_7 (List.mem_of_getElem? (i := 130) rfl)) rfl, gw_sel (List.mem_of_getElem? (i := 68) rfl) rfl⟩
theorem kc_11_192 : Cond.constantLong "NinetyPlayersModel" 192 1953853029 ∈ GW := gw_of (tb_7 (List.mem_of_getElem? (i := 140) rfl)) rfl
theorem kc_11_194 : Cond.constantLong "NinetyPlayersModel" 194 1650553715 ∈ GW := gw_of (tb_7 (List.mem_of_getElem? (i := 141) rfl)) rfl
theorem ml_11_318 : mLS "NinetyPlayersModel" 318 m229 1 := ⟨yk_229, gw_of (tb_7 (List.mem_of_getElem? (i := 163) rfl)) rfl, gw_of (tb_7 (List.mem_of_getElem? (i := 164) rfl)) rfl⟩
theorem ml_11_252 : mLV "NinetyPlayersModel" 252 m226 0 := ⟨yk_226, gw_of (tb_7 (List.mem_of_getElem? (i := 132) rfl)) rfl, gw_of (tb_7 (List.mem_of_getElem? (i := 134) rfl)) rfl, gw_sel (List.mem_of_getElem? (i := 69) rfl) rfl⟩
theorem ml_11_255 : mLV "NinetyPlayersModel" 255 m228 2 := ⟨yk_228, gw_of (tb_7 (List.mem_of_getElem? (i := 159) rfl)) rfl, gw_of (tb_7 (List.mem_of_getElem? (i := 161) rfl)) rfl, gw_sel (List.mem_of_getElem? (i := 71) rfl) rfl⟩
theorem ml_11_230 : mLV "NinetyPlayersModel" 230 m227 0 := ⟨yk_227, gw_of (tb_7 (List.mem_of_getElem? (i := 136) rfl)) rfl, gw_of (tb_7 (List.mem_of_getElem? (i := 138) rfl)) rfl, gw_sel (List.mem_of_getElem? (i := 70) rfl) rfl⟩
theorem kc_11_198 : Cond.constantLong "NinetyPlayersModel" 198 28518 ∈ GW := gw_of (tb_7 (List.mem_of_getElem? (i := 143) rfl)) rfl
theorem kc_11_200 : Cond.constantLong "NinetyPlayersModel" 200 24948 ∈ GW := gw_of (tb_7 (List.mem_of_getElem? (i := 144) rfl)) rfl
theorem kc_11_202 : Cond.constantLong "NinetyPlayersModel" 202 7038329 ∈ GW := gw_of (tb_7 (List.mem_of_getElem? (i := 145) rfl)) rfl
theorem kc_11_204 : Cond.constantLong "NinetyPlayersModel" 204 1819242087 ∈ GW := gw_of (tb_7 (List.mem_of_getElem? (i := 146) rfl)) rfl
theorem kc_11_206 : Cond.constantLong "NinetyPlayersModel" 206 1819243876 ∈ GW := gw_of (tb_7 (List.mem_of_getElem? (i := 147) rfl)) rfl
theorem kc_11_218 : Cond.constantLong "NinetyPlayersModel" 218 1919904869 ∈ GW := gw_of (tb_7 (List.mem_of_getElem? (i := 153) rfl)) rfl
theorem kc_11_220 : Cond.constantLong "NinetyPlayersModel" 220 28270047624193380 ∈ GW := gw_of (tb_7 (List.mem_of_getElem? (i := 154) rfl)) rfl
theorem kc_11_222 : Cond.constantLong "NinetyPlayersModel" 222 1650811252 ∈ GW := gw_of (tb_7 (List.mem_of_getElem? (i := 155) rfl)) rfl
theorem kc_11_224 : Cond.constantLong "NinetyPlayersModel" 224 6385252 ∈ GW := gw_of (tb_7 (List.mem_of_getElem? (i := 156) rfl)) rfl
theorem kc_11_226 : Cond.constantLong "NinetyPlayersModel" 226 28530 ∈ GW := gw_of (tb_7 (List.mem_of_getElem? (i := 157) rfl)) rfl
theorem kc_11_228 : Cond.constantLong "NinetyPlayersModel" 228 7237492 ∈ GW := gw_of (tb_7 (List.mem_of_getElem? (i := 158) rfl)) rfl
theorem ml_11_353 : mLV "NinetyPlayersModel" 353 m231 0 := ⟨yk_231, gw_of (tb_7 (List.mem_of_getElem? (i := 170) rfl)) rfl, gw_of (tb_7 (List.mem_of_getElem? (i := 172) rfl)) rfl, gw_sel (List.mem_of_getElem? (i := 73) rfl) rfl⟩
theorem fl_11_264 : fL "NinetyPlayersModel" 264 11 19 := ⟨_, _, _, ck_11, by decide, gw_of (tb_6 (List.mem_of_getElem? (i := 79) rfl)) rfl⟩
theorem fl_11_274 : fL "NinetyPlayersModel" 274 11 23 := ⟨_, _, _, ck_11, by decide, gw_of (tb_6 (List.mem_of_getElem? (i := 83) rfl)) rfl⟩
theorem fl_11_280 : fL "NinetyPlayersModel" 280 11 22 := ⟨_, _, _, ck_11, by decide, gw_of (tb_6 (List.mem_of_getElem? (i := 82) rfl)) rfl⟩
theorem ml_11_303 : mLV "NinetyPlayersModel" 303 m233 0 := ⟨yk_233, gw_of (tb_7 (List.mem_of_getElem? (i := 178) rfl)) rfl, gw_of (tb_7 (List.mem_of_getElem? (i := 180) rfl)) rfl, gw_sel (List.mem_of_getElem? (i := 75) rfl) rfl⟩
theorem ml_11_306 : mLV "NinetyPlayersModel" 306 m241 0 := ⟨yk_241, gw_of (tb_7 (List.mem_of_getElem? (i := 209) rfl)) rfl, gw_of (tb_7 (List.mem_of_getElem? (i := 211) rfl)) rfl, gw_sel (List.mem_of_getElem? (i := 82) rfl) rfl⟩
theorem ml_11_309 : mLV "NinetyPlayersModel" 309 m242 0 := ⟨yk_242, gw_of (tb_7 (List.mem_of_getElem? (i := 213) rfl)) rfl, gw_of (tb_7 (List.mem_of_getElem? (i := 215) rfl)) rfl, gw_sel (List.mem_of_getElem? (i := 83) rfl) rfl⟩
theorem ml_11_312 : mLV "NinetyPlayersModel" 312 m243 1 := ⟨yk_243, gw_of (tb_7 (List.mem_of_getElem? (i := 217) rfl)) rfl, gw_of (tb_7 (List.mem_of_getElem? (i := 219) rfl)) rfl, gw_sel (List.mem_of_getElem? (i := 84) rfl) rfl⟩
theorem ml_11_267 : mLS "NinetyPlayersModel" 267 m235 1 := ⟨yk_235, gw_of (tb_7 (List.mem_of_getElem? (i := 186) rfl)) rfl, gw_of (tb_7 (List.mem_of_getElem? (i := 187) rfl)) rfl⟩
theorem ml_11_315 : mLV "NinetyPlayersModel" 315 m244 0 := ⟨yk_244, gw_of (tb_7 (List.mem_of_getElem? (i := 221) rfl)) rfl, gw_of (tb_7 (List.mem_of_getElem? (i := 223) rfl)) rfl, gw_sel (List.mem_of_getElem? (i := 85) rfl) rfl⟩
theorem ml_11_283 : mLV "NinetyPlayersModel" 283 m234 0 := ⟨yk_234, gw_of (tb_7 (List.mem_of_getElem? (i := 182) rfl)) rfl, gw_of (tb_7 (List.mem_of_getElem? (i := 184) rfl)) rfl, gw_sel (List.mem_of_getElem? (i := 76) rfl) rfl⟩
theorem ml_11_286 : mLV "NinetyPlayersModel" 286 m236 1 := ⟨yk_236, gw_of (tb_7 (List.mem_of_getElem? (i := 189) rfl)) rfl, gw_of (tb_7 (List.mem_of_getElem? (i := 191) rfl)) rfl, gw_sel (List.mem_of_getElem? (i := 77) rfl) rfl⟩
theorem ml_11_289 : mLV "NinetyPlayersModel" 289 m237 0 := ⟨yk_237, gw_of (tb_7 (List.mem_of_getElem? (i := 193) rfl)) rfl, gw_of (tb_7 (List.mem_of_getElem? (i := 195) rfl)) rfl, gw_sel (List.mem_of_getElem? (i := 78) rfl) rfl⟩
theorem ml_11_292 : mLV "NinetyPlayersModel" 292 m238 0 := ⟨yk_238, gw_of (tb_7 (List.mem_of_getElem? (i := 197) rfl)) rfl, gw_of (tb_7 (List.mem_of_getElem? (i := 199) rfl)) rfl, gw_sel (List.mem_of_getElem? (i := 79) rfl) rfl⟩
theorem ml_11_295 : mLV "NinetyPlayersModel" 295 m239 0 := ⟨yk_239, gw_of (tb_7 (List.mem_of_getElem? (i := 201) rfl)) rfl, gw_of (tb_7 (List.mem_of_getElem? (i := 203) rfl)) rfl, gw_sel (List.mem_of_getElem? (i := 80) rfl) rfl⟩
theorem ml_11_270 : mLV "NinetyPlayersModel" 270 m240 2 := ⟨yk_240, gw_of (tb_7 (List.mem_of_getElem? (i := 205) rfl)) rfl, gw_of (tb_7 (List.mem_of_getElem? (i := 207) rfl)) rfl, gw_sel (List.mem_of_getElem? (i := 81) rfl) rfl⟩
theorem ml_11_461 : mLV "NinetyPlayersModel" 461 m249 1 := ⟨yk_249, gw_of (tb_8 (List.mem_of_getElem? (i := 1) rfl)) rfl, gw_of (tb_8 (List.mem_of_getElem? (i := 3) rfl)) rfl, gw_sel (List.mem_of_getElem? (i := 88) rfl) rfl⟩
theorem ml_11_464 : mLV "NinetyPlayersModel" 464 m251 0 := ⟨yk_251, gw_of (tb_8 (List.mem_of_getElem? (i := 8) rfl)) rfl, gw_of (tb_8 (List.mem_of_getElem? (i := 10) rfl)) rfl, gw_sel (List.mem_of_getElem? (i := 89) rfl) rfl⟩
theorem ml_11_467 : mLV "NinetyPlayersModel" 467 m253 1 := ⟨yk_253, gw_of (tb_8 (List.mem_of_getElem? (i := 16) rfl)) rfl, gw_of (tb_8 (List.mem_of_getElem? (i := 18) rfl)) rfl, gw_sel (List.mem_of_getElem? (i := 91) rfl) rfl⟩
theorem ml_11_328 : mLV "NinetyPlayersModel" 328 m254 1 := ⟨yk_254, gw_of (tb_8 (List.mem_of_getElem? (i := 20) rfl)) rfl, gw_of (tb_8 (List.mem_of_getElem? (i := 22) rfl)) rfl, gw_sel (List.mem_of_getElem? (i := 92) rfl) rfl⟩
theorem ml_11_429 : mLS "NinetyPlayersModel" 429 m250 3 := ⟨yk_250, gw_of (tb_8 (List.mem_of_getElem? (i := 5) rfl)) rfl, gw_of (tb_8 (List.mem_of_getElem? (i := 6) rfl)) rfl⟩
theorem ml_11_433 : mLV "NinetyPlayersModel" 433 m252 0 := ⟨yk_252, gw_of (tb_8 (List.mem_of_getElem? (i := 12) rfl)) rfl, gw_of (tb_8 (List.mem_of_getElem? (i := 14) rfl)) rfl, gw_sel (List.mem_of_getElem? (i := 90) rfl) rfl⟩
theorem ml_11_331 : mLS "NinetyPlayersModel" 331 m256 1 := ⟨yk_256, gw_of (tb_8 (List.mem_of_getElem? (i := 27) rfl)) rfl, gw_of (tb_8 (List.mem_of_getElem? (i := 28) rfl)) rfl⟩
theorem ml_11_337 : mLS "NinetyPlayersModel" 337 m257 2 := ⟨yk_257, gw_of (tb_8 (List.mem_of_getElem? (i := 30) rfl)) rfl, gw_of (tb_8 (List.mem_of_getElem? (i := 31) rfl)) rfl⟩
theorem ml_11_343 : mLS "NinetyPlayersModel" 343 m258 3 := ⟨yk_258, gw_of (tb_8 (List.mem_of_getElem? (i := 33) rfl)) rfl, gw_of (tb_8 (List.mem_of_getElem? (i := 34) rfl)) rfl⟩
theorem ml_11_325 : mLS "NinetyPlayersModel" 325 m255 1 := ⟨yk_255, gw_of (tb_8 (List.mem_of_getElem? (i := 24) rfl)) rfl, gw_of (tb_8 (List.mem_of_getElem? (i := 25) rfl)) rfl⟩
theorem ml_11_470 : mLV "NinetyPlayersModel" 470 m260 1 := ⟨yk_260, gw_of (tb_8 (List.mem_of_getElem? (i := 40) rfl)) rfl, gw_of (tb_8 (List.mem_of_getElem? (i := 42) rfl)) rfl, gw_sel (List.mem_of_getElem? (i := 93) rfl) rfl⟩
theorem ml_11_454 : mLV "NinetyPlayersModel" 454 m261 1 := ⟨yk_261, gw_of (tb_8 (List.mem_of_getElem? (i := 44) rfl)) rfl, gw_of (tb_8 (List.mem_of_getElem? (i := 46) rfl)) rfl, gw_sel (List.mem_of_getElem? (i := 94) rfl) rfl⟩
theorem ml_11_473 : mLV "NinetyPlayersModel" 473 m263 1 := ⟨yk_263, gw_of (tb_8 (List.mem_of_getElem? (i := 52) rfl)) rfl, gw_of (tb_8 (List.mem_of_getElem? (i := 54) rfl)) rfl, gw_sel (List.mem_of_getElem? (i := 95) rfl) rfl⟩
theorem ml_11_476 : mLS "NinetyPlayersModel" 476 m264 1 := ⟨yk_264, gw_of (tb_8 (List.mem_of_getElem? (i := 56) rfl)) rfl, gw_of (tb_8 (List.mem_of_getElem? (i := 57) rfl)) rfl⟩
theorem ml_11_479 : mLV "NinetyPlayersModel" 479 m266 0 := ⟨yk_266, gw_of (tb_8 (List.mem_of_getElem? (i := 63) rfl)) rfl, gw_of (tb_8 (List.mem_of_getElem? (i := 65) rfl)) rfl, gw_sel (List.mem_of_getElem? (i := 96) rfl) rfl⟩
theorem ml_11_450 : mLV "NinetyPlayersModel" 450 m268 5 := ⟨yk_268, gw_of (tb_8 (List.mem_of_getElem? (i := 71) rfl)) rfl, gw_of (tb_8 (List.mem_of_getElem? (i := 73) rfl)) rfl, gw_sel (List.mem_of_getElem? (i := 97) rfl) rfl⟩
theorem ml_11_443 : mLV "NinetyPlayersModel" 443 m269 4 := ⟨yk_269, gw_of (tb_8 (List.mem_of_getElem? (i := 75) rfl)) rfl, gw_of (tb_8 (List.mem_of_getElem? (i := 77) rfl)) rfl, gw_sel (List.mem_of_getElem? (i := 98) rfl) rfl⟩
theorem ml_11_440 : mLV "NinetyPlayersModel" 440 m271 1 := ⟨yk_271, gw_of (tb_8 (List.mem_of_getElem? (i := 84) rfl)) rfl, gw_of (tb_8 (List.mem_of_getElem? (i := 86) rfl)) rfl, gw_sel (List.mem_of_getElem? (i := 100) rfl) rfl⟩
theorem ml_11_437 : mLV "NinetyPlayersModel" 437 m270 1 := ⟨yk_270, gw_of (tb_8 (List.mem_of_getElem? (i := 79) rfl)) rfl, gw_of (tb_8 (List.mem_of_getElem? (i := 81) rfl)) rfl, gw_sel (List.mem_of_getElem? (i := 99) rfl) rfl⟩
theorem ml_11_447 : mLV "NinetyPlayersModel" 447 m272 1 := ⟨yk_272, gw_of (tb_8 (List.mem_of_getElem? (i := 88) rfl)) rfl, gw_of (tb_8 (List.mem_of_getElem? (i := 90) rfl)) rfl, gw_sel (List.mem_of_getElem? (i := 101) rfl) rfl⟩
theorem kc_11_436 : Cond.constant "NinetyPlayersModel" 436 1000000 ∈ GW := gw_of (tb_8 (List.mem_of_getElem? (i := 83) rfl)) rfl
theorem ml_11_482 : mLV "NinetyPlayersModel" 482 m274 1 := ⟨yk_274, gw_of (tb_8 (List.mem_of_getElem? (i := 96) rfl)) rfl, gw_of (tb_8 (List.mem_of_getElem? (i := 98) rfl)) rfl, gw_sel (List.mem_of_getElem? (i := 102) rfl) rfl⟩
theorem ml_11_485 : mLV "NinetyPlayersModel" 485 m276 0 := ⟨yk_276, gw_of (tb_8 (List.mem_of_getElem? (i := 104) rfl)) rfl, gw_of (tb_8 (List.mem_of_getElem? (i := 106) rfl)) rfl, gw_sel (List.mem_of_getElem? (i := 103) rfl) rfl⟩
theorem ml_11_488 : mLV "NinetyPlayersModel" 488 m273 0 := ⟨yk_273, gw_of (tb_8 (List.mem_of_getElem? (i := 108) rfl)) rfl, gw_of (tb_8 (List.mem_of_getElem? (i := 93) rfl)) rfl, gw_of (tb_8 (List.mem_of_getElem? (i := 94) rfl)) rfl⟩
theorem ml_11_491 : mLV "NinetyPlayersModel" 491 m279 2 := ⟨yk_279, gw_of (tb_8 (List.mem_of_getElem? (i := 117) rfl)) rfl, gw_of (tb_8 (List.mem_of_getElem? (i := 119) rfl)) rfl, gw_sel (List.mem_of_getElem? (i := 104) rfl) rfl⟩
theorem ml_11_494 : mLV "NinetyPlayersModel" 494 m283 1 := ⟨yk_283, gw_of (tb_8 (List.mem_of_getElem? (i := 133) rfl)) rfl, gw_of (tb_8 (List.mem_of_getElem? (i := 135) rfl)) rfl, gw_sel (List.mem_of_getElem? (i := 105) rfl) rfl⟩
theorem ml_11_497 : mLV "NinetyPlayersModel" 497 m286 0 := ⟨yk_286, gw_of (tb_8 (List.mem_of_getElem? (i := 145) rfl)) rfl, gw_of (tb_8 (List.mem_of_getElem? (i := 147) rfl)) rfl, gw_sel (List.mem_of_getElem? (i := 106) rfl) rfl⟩
theorem ml_11_500 : mLV "NinetyPlayersModel" 500 m287 1 := ⟨yk_287, gw_of (tb_8 (List.mem_of_getElem? (i := 149) rfl)) rfl, gw_of (tb_8 (List.mem_of_getElem? (i := 151) rfl)) rfl, gw_sel (List.mem_of_getElem? (i := 107) rfl) rfl⟩
theorem ml_11_512 : mLV "NinetyPlayersModel" 512 m289 2 := ⟨yk_289, gw_of (tb_8 (List.mem_of_getElem? (i := 157) rfl)) rfl, gw_of (tb_8 (List.mem_of_getElem? (i := 159) rfl)) rfl, gw_sel (List.mem_of_getElem? (i := 108) rfl) rfl⟩
theorem ml_11_503 : mLS "NinetyPlayersModel" 503 m290 2 := ⟨yk_290, gw_of (tb_8 (List.mem_of_getElem? (i := 161) rfl)) rfl, gw_of (tb_8 (List.mem_of_getElem? (i := 162) rfl)) rfl⟩
theorem ml_11_506 : mLV "NinetyPlayersModel" 506 m291 1 := ⟨yk_291, gw_of (tb_8 (List.mem_of_getElem? (i := 164) rfl)) rfl, gw_of (tb_8 (List.mem_of_getElem? (i := 166) rfl)) rfl, gw_sel (List.mem_of_getElem? (i := 109) rfl) rfl⟩
theorem ml_11_509 : mLV "NinetyPlayersModel" 509 m292 1 := ⟨yk_292, gw_of (tb_8 (List.mem_of_getElem? (i := 168) rfl)) rfl, gw_of (tb_8 (List.mem_of_getElem? (i := 170) rfl)) rfl, gw_sel (List.mem_of_getElem? (i := 110) rfl) rfl⟩
theorem ml_11_457 : mLV "NinetyPlayersModel" 457 m293 4 := ⟨yk_293, gw_of (tb_8 (List.mem_of_getElem? (i := 172) rfl)) rfl, gw_of (tb_8 (List.mem_of_getElem? (i := 174) rfl)) rfl, gw_sel (List.mem_of_getElem? (i := 111) rfl) rfl⟩
theorem ml_11_515 : mLV "NinetyPlayersModel" 515 m296 1 := ⟨yk_296, gw_of (tb_8 (List.mem_of_getElem? (i := 184) rfl)) rfl, gw_of (tb_8 (List.mem_of_getElem? (i := 186) rfl)) rfl, gw_sel (List.mem_of_getElem? (i := 112) rfl) rfl⟩
theorem ml_11_518 : mLV "NinetyPlayersModel" 518 m297 2 := ⟨yk_297, gw_of (tb_8 (List.mem_of_getElem? (i := 188) rfl)) rfl, gw_of (tb_8 (List.mem_of_getElem? (i := 190) rfl)) rfl, gw_sel (List.mem_of_getElem? (i := 113) rfl) rfl⟩
theorem ml_11_524 : mLV "NinetyPlayersModel" 524 m301 3 := ⟨yk_301, gw_of (tb_8 (List.mem_of_getElem? (i := 204) rfl)) rfl, gw_of (tb_8 (List.mem_of_getElem? (i := 206) rfl)) rfl, gw_sel (List.mem_of_getElem? (i := 114) rfl) rfl⟩
theorem ml_11_521 : mLV "NinetyPlayersModel" 521 m302 0 := ⟨yk_302, gw_of (tb_8 (List.mem_of_getElem? (i := 208) rfl)) rfl, gw_of (tb_8 (List.mem_of_getElem? (i := 210) rfl)) rfl, gw_sel (List.mem_of_getElem? (i := 115) rfl) rfl⟩
theorem ml_11_527 : mLS "NinetyPlayersModel" 527 m305 2 := ⟨yk_305, gw_of (tb_8 (List.mem_of_getElem? (i := 220) rfl)) rfl, gw_of (tb_8 (List.mem_of_getElem? (i := 221) rfl)) rfl⟩
theorem ml_11_530 : mLV "NinetyPlayersModel" 530 m309 3 := ⟨yk_309, gw_of (tb_8 (List.mem_of_getElem? (i := 235) rfl)) rfl, gw_of (tb_8 (List.mem_of_getElem? (i := 237) rfl)) rfl, gw_sel (List.mem_of_getElem? (i := 116) rfl) rfl⟩
theorem ml_11_533 : mLV "NinetyPlayersModel" 533 m311 1 := ⟨yk_311, gw_of (tb_9 (List.mem_of_getElem? (i := 3) rfl)) rfl, gw_of (tb_9 (List.mem_of_getElem? (i := 5) rfl)) rfl, gw_sel (List.mem_of_getElem? (i := 117) rfl) rfl⟩
theorem ml_11_536 : mLV "NinetyPlayersModel" 536 m313 0 := ⟨yk_313, gw_of (tb_9 (List.mem_of_getElem? (i := 11) rfl)) rfl, gw_of (tb_9 (List.mem_of_getElem? (i := 13) rfl)) rfl, gw_sel (List.mem_of_getElem? (i := 118) rfl) rfl⟩
theorem fl_11_539 : fL "NinetyPlayersModel" 539 11 75 := ⟨_, _, _, ck_11, by decide, gw_of (tb_6 (List.mem_of_getElem? (i := 135) rfl)) rfl⟩
theorem kc_11_542 : Cond.constant "NinetyPlayersModel" 542 100000 ∈ GW := gw_of (tb_9 (List.mem_of_getElem? (i := 51) rfl)) rfl
theorem ml_11_550 : mLV "NinetyPlayersModel" 550 m324 1 := ⟨yk_324, gw_of (tb_9 (List.mem_of_getElem? (i := 56) rfl)) rfl, gw_of (tb_9 (List.mem_of_getElem? (i := 58) rfl)) rfl, gw_sel (List.mem_of_getElem? (i := 119) rfl) rfl⟩
theorem ml_11_543 : mLV "NinetyPlayersModel" 543 m325 1 := ⟨yk_325, gw_of (tb_9 (List.mem_of_getElem? (i := 60) rfl)) rfl, gw_of (tb_9 (List.mem_of_getElem? (i := 62) rfl)) rfl, gw_sel (List.mem_of_getElem? (i := 120) rfl) rfl⟩
theorem ml_11_546 : mLV "NinetyPlayersModel" 546 m326 2 := ⟨yk_326, gw_of (tb_9 (List.mem_of_getElem? (i := 64) rfl)) rfl, gw_of (tb_9 (List.mem_of_getElem? (i := 66) rfl)) rfl, gw_sel (List.mem_of_getElem? (i := 121) rfl) rfl⟩
theorem ml_11_553 : mLS "NinetyPlayersModel" 553 m330 1 := ⟨yk_330, gw_of (tb_9 (List.mem_of_getElem? (i := 80) rfl)) rfl, gw_of (tb_9 (List.mem_of_getElem? (i := 81) rfl)) rfl⟩
theorem ml_11_556 : mLV "NinetyPlayersModel" 556 m331 0 := ⟨yk_331, gw_of (tb_9 (List.mem_of_getElem? (i := 83) rfl)) rfl, gw_of (tb_9 (List.mem_of_getElem? (i := 85) rfl)) rfl, gw_sel (List.mem_of_getElem? (i := 122) rfl) rfl⟩
theorem fl_16_9 : Cond.fieldLink "java/lang/String" 9 "java/lang/String" "value" "[B" ∈ GW := gw_of (tb_9 (List.mem_of_getElem? (i := 99) rfl)) rfl
theorem fl_16_15 : Cond.fieldLink "java/lang/String" 15 "java/lang/String" "coder" "B" ∈ GW := gw_of (tb_9 (List.mem_of_getElem? (i := 100) rfl)) rfl
theorem fl_16_38 : Cond.fieldLink "java/lang/String" 38 "java/lang/String" "COMPACT_STRINGS" "Z" ∈ GW := gw_of (tb_3 (List.mem_of_getElem? (i := 61) rfl)) rfl
theorem fl_16_1053 : Cond.fieldLink "java/lang/String" 1053 "jdk/internal/util/Preconditions" "SIOOBE_FORMATTER" "Ljava/util/function/BiFunction;" ∈ GW := gw_of (tb_3 (List.mem_of_getElem? (i := 77) rfl)) rfl
theorem ic_m8 : Int32.ofInt (-8) = (-8 : Int32) := by decide +kernel
theorem ic_m1 : Int32.ofInt (-1) = (-1 : Int32) := by decide +kernel
theorem ic_0 : Int32.ofInt (0) = (0 : Int32) := by decide +kernel
theorem ic_1 : Int32.ofInt (1) = (1 : Int32) := by decide +kernel
theorem ic_2 : Int32.ofInt (2) = (2 : Int32) := by decide +kernel
theorem ic_3 : Int32.ofInt (3) = (3 : Int32) := by decide +kernel
theorem ic_4 : Int32.ofInt (4) = (4 : Int32) := by decide +kernel
theorem ic_5 : Int32.ofInt (5) = (5 : Int32) := by decide +kernel
theorem ic_6 : Int32.ofInt (6) = (6 : Int32) := by decide +kernel
theorem bp_m100 : (Int8.ofInt (-100)).toInt32 = (-100 : Int32) := by decide +kernel
theorem bp_m14 : (Int8.ofInt (-14)).toInt32 = (-14 : Int32) := by decide +kernel
theorem bp_m13 : (Int8.ofInt (-13)).toInt32 = (-13 : Int32) := by decide +kernel
theorem bp_m12 : (Int8.ofInt (-12)).toInt32 = (-12 : Int32) := by decide +kernel
theorem bp_m7 : (Int8.ofInt (-7)).toInt32 = (-7 : Int32) := by decide +kernel
theorem bp_m2 : (Int8.ofInt (-2)).toInt32 = (-2 : Int32) := by decide +kernel
theorem bp_6 : (Int8.ofInt (6)).toInt32 = (6 : Int32) := by decide +kernel
theorem bp_7 : (Int8.ofInt (7)).toInt32 = (7 : Int32) := by decide +kernel
theorem bp_8 : (Int8.ofInt (8)).toInt32 = (8 : Int32) := by decide +kernel
theorem bp_9 : (Int8.ofInt (9)).toInt32 = (9 : Int32) := by decide +kernel
theorem bp_10 : (Int8.ofInt (10)).toInt32 = (10 : Int32) := by decide +kernel
theorem bp_11 : (Int8.ofInt (11)).toInt32 = (11 : Int32) := by decide +kernel
theorem bp_12 : (Int8.ofInt (12)).toInt32 = (12 : Int32) := by decide +kernel
theorem bp_13 : (Int8.ofInt (13)).toInt32 = (13 : Int32) := by decide +kernel
theorem bp_14 : (Int8.ofInt (14)).toInt32 = (14 : Int32) := by decide +kernel
theorem bp_15 : (Int8.ofInt (15)).toInt32 = (15 : Int32) := by decide +kernel
theorem bp_16 : (Int8.ofInt (16)).toInt32 = (16 : Int32) := by decide +kernel
theorem bp_17 : (Int8.ofInt (17)).toInt32 = (17 : Int32) := by decide +kernel
theorem bp_18 : (Int8.ofInt (18)).toInt32 = (18 : Int32) := by decide +kernel
theorem bp_20 : (Int8.ofInt (20)).toInt32 = (20 : Int32) := by decide +kernel
theorem bp_21 : (Int8.ofInt (21)).toInt32 = (21 : Int32) := by decide +kernel
theorem bp_24 : (Int8.ofInt (24)).toInt32 = (24 : Int32) := by decide +kernel
theorem bp_30 : (Int8.ofInt (30)).toInt32 = (30 : Int32) := by decide +kernel
theorem bp_31 : (Int8.ofInt (31)).toInt32 = (31 : Int32) := by decide +kernel
theorem bp_32 : (Int8.ofInt (32)).toInt32 = (32 : Int32) := by decide +kernel
theorem bp_37 : (Int8.ofInt (37)).toInt32 = (37 : Int32) := by decide +kernel
theorem bp_38 : (Int8.ofInt (38)).toInt32 = (38 : Int32) := by decide +kernel
theorem bp_39 : (Int8.ofInt (39)).toInt32 = (39 : Int32) := by decide +kernel
theorem bp_40 : (Int8.ofInt (40)).toInt32 = (40 : Int32) := by decide +kernel
theorem bp_41 : (Int8.ofInt (41)).toInt32 = (41 : Int32) := by decide +kernel
theorem bp_42 : (Int8.ofInt (42)).toInt32 = (42 : Int32) := by decide +kernel
theorem bp_43 : (Int8.ofInt (43)).toInt32 = (43 : Int32) := by decide +kernel
theorem bp_45 : (Int8.ofInt (45)).toInt32 = (45 : Int32) := by decide +kernel
theorem bp_47 : (Int8.ofInt (47)).toInt32 = (47 : Int32) := by decide +kernel
theorem bp_48 : (Int8.ofInt (48)).toInt32 = (48 : Int32) := by decide +kernel
theorem bp_57 : (Int8.ofInt (57)).toInt32 = (57 : Int32) := by decide +kernel
theorem bp_59 : (Int8.ofInt (59)).toInt32 = (59 : Int32) := by decide +kernel
theorem bp_60 : (Int8.ofInt (60)).toInt32 = (60 : Int32) := by decide +kernel
theorem bp_61 : (Int8.ofInt (61)).toInt32 = (61 : Int32) := by decide +kernel
theorem bp_62 : (Int8.ofInt (62)).toInt32 = (62 : Int32) := by decide +kernel
theorem bp_63 : (Int8.ofInt (63)).toInt32 = (63 : Int32) := by decide +kernel
theorem bp_64 : (Int8.ofInt (64)).toInt32 = (64 : Int32) := by decide +kernel
theorem bp_87 : (Int8.ofInt (87)).toInt32 = (87 : Int32) := by decide +kernel
theorem bp_97 : (Int8.ofInt (97)).toInt32 = (97 : Int32) := by decide +kernel
theorem bp_122 : (Int8.ofInt (122)).toInt32 = (122 : Int32) := by decide +kernel
theorem bp_123 : (Int8.ofInt (123)).toInt32 = (123 : Int32) := by decide +kernel
theorem bp_124 : (Int8.ofInt (124)).toInt32 = (124 : Int32) := by decide +kernel
theorem sp_160 : (Int16.ofInt (160)).toInt32 = (160 : Int32) := by decide +kernel
theorem sp_255 : (Int16.ofInt (255)).toInt32 = (255 : Int32) := by decide +kernel
theorem sp_270 : (Int16.ofInt (270)).toInt32 = (270 : Int32) := by decide +kernel
theorem sp_320 : (Int16.ofInt (320)).toInt32 = (320 : Int32) := by decide +kernel
theorem sp_999 : (Int16.ofInt (999)).toInt32 = (999 : Int32) := by decide +kernel
theorem sp_1000 : (Int16.ofInt (1000)).toInt32 = (1000 : Int32) := by decide +kernel
theorem sp_1599 : (Int16.ofInt (1599)).toInt32 = (1599 : Int32) := by decide +kernel
theorem sp_1600 : (Int16.ofInt (1600)).toInt32 = (1600 : Int32) := by decide +kernel
theorem sp_1640 : (Int16.ofInt (1640)).toInt32 = (1640 : Int32) := by decide +kernel
theorem sp_9991 : (Int16.ofInt (9991)).toInt32 = (9991 : Int32) := by decide +kernel
