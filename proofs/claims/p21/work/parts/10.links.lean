/-! the library's Math by its own laws -/
def mMmax (own : String) (idx : Nat) : Prop := Cond.methodLink own idx Lib.Math.max.name ∈ GW ∧ Cond.static Lib.Math.max.name ∈ GW ∧ Cond.initialized "java/lang/Math" ∈ GW ∧ Cond.code Lib.Math.max.name Lib.Math.max.code 2 (some .int) ∈ GW
theorem y_mmax {X : Nat × (Nat → Int32)} {d : Nat} {μ : Mt} {pc : Nat} {L : List (Nat × Value)} {st : List Value} {S : St} {r : Option Value} {S' : St} {idx : Nat} {x y : Int32} (hd : decode μ.2.1 pc = .ok (.invokestatic idx, 3)) (hw : mMmax μ.1.cls idx) (hst : (st.map fun v => v.category).sum ≤ 8) (k : Ek X (d + 1) μ (pc + 3) L (.int (if x < y then y else x) :: st) S r S') : Ek X (d + 1) μ pc L (.int y :: .int x :: st) S r S' := by
  intro l p e R s m args below meth c D dA σ A H locs cells slots mc ms ls Q C hP hD hS hl h1 h2 h3 h4 hret
  obtain ⟨hx, hb, hml, hown, hts, hr, hlk, hnm, hK, hA, hX, hfr, hlo⟩ := id C
  have hF : ((st.map (rv σ)).map fun v => v.category).sum + 13 ≤ R.locals := by
    rw [cat_sum hX.2.2.2.1.2]
    omega
  exact va_mmax hx hb (hml.trans hl.1.symm) hown (hts _ hw.1) (hts _ hw.2.1) (hts _ hw.2.2.1) (hts _ hw.2.2.2) (by omega) hF (by omega) (by omega) hd (k l p e R s m args below meth c D dA σ A H locs cells slots mc ms ls Q C hP hD hS hl h1 h2 h3 h4 hret)
def mMmin (own : String) (idx : Nat) : Prop := Cond.methodLink own idx Lib.Math.min.name ∈ GW ∧ Cond.static Lib.Math.min.name ∈ GW ∧ Cond.initialized "java/lang/Math" ∈ GW ∧ Cond.code Lib.Math.min.name Lib.Math.min.code 2 (some .int) ∈ GW
theorem y_mmin {X : Nat × (Nat → Int32)} {d : Nat} {μ : Mt} {pc : Nat} {L : List (Nat × Value)} {st : List Value} {S : St} {r : Option Value} {S' : St} {idx : Nat} {x y : Int32} (hd : decode μ.2.1 pc = .ok (.invokestatic idx, 3)) (hw : mMmin μ.1.cls idx) (hst : (st.map fun v => v.category).sum ≤ 8) (k : Ek X (d + 1) μ (pc + 3) L (.int (if y < x then y else x) :: st) S r S') : Ek X (d + 1) μ pc L (.int y :: .int x :: st) S r S' := by
  intro l p e R s m args below meth c D dA σ A H locs cells slots mc ms ls Q C hP hD hS hl h1 h2 h3 h4 hret
  obtain ⟨hx, hb, hml, hown, hts, hr, hlk, hnm, hK, hA, hX, hfr, hlo⟩ := id C
  have hF : ((st.map (rv σ)).map fun v => v.category).sum + 13 ≤ R.locals := by
    rw [cat_sum hX.2.2.2.1.2]
    omega
  exact va_mmin hx hb (hml.trans hl.1.symm) hown (hts _ hw.1) (hts _ hw.2.1) (hts _ hw.2.2.1) (hts _ hw.2.2.2) (by omega) hF (by omega) (by omega) hd (k l p e R s m args below meth c D dA σ A H locs cells slots mc ms ls Q C hP hD hS hl h1 h2 h3 h4 hret)
def mMabs (own : String) (idx : Nat) : Prop := Cond.methodLink own idx Lib.Math.abs.name ∈ GW ∧ Cond.static Lib.Math.abs.name ∈ GW ∧ Cond.initialized "java/lang/Math" ∈ GW ∧ Cond.code Lib.Math.abs.name Lib.Math.abs.code 1 (some .int) ∈ GW
theorem y_mabs {X : Nat × (Nat → Int32)} {d : Nat} {μ : Mt} {pc : Nat} {L : List (Nat × Value)} {st : List Value} {S : St} {r : Option Value} {S' : St} {idx : Nat} {x : Int32} (hd : decode μ.2.1 pc = .ok (.invokestatic idx, 3)) (hw : mMabs μ.1.cls idx) (hst : (st.map fun v => v.category).sum ≤ 8) (k : Ek X (d + 1) μ (pc + 3) L (.int (if 0 ≤ x then x else 0 - x) :: st) S r S') : Ek X (d + 1) μ pc L (.int x :: st) S r S' := by
  intro l p e R s m args below meth c D dA σ A H locs cells slots mc ms ls Q C hP hD hS hl h1 h2 h3 h4 hret
  obtain ⟨hx, hb, hml, hown, hts, hr, hlk, hnm, hK, hA, hX, hfr, hlo⟩ := id C
  have hF : ((st.map (rv σ)).map fun v => v.category).sum + 13 ≤ R.locals := by
    rw [cat_sum hX.2.2.2.1.2]
    omega
  exact va_mabs hx hb (hml.trans hl.1.symm) hown (hts _ hw.1) (hts _ hw.2.1) (hts _ hw.2.2.1) (hts _ hw.2.2.2) (by omega) hF (by omega) (by omega) hd (k l p e R s m args below meth c D dA σ A H locs cells slots mc ms ls Q C hP hD hS hl h1 h2 h3 h4 hret)
/-! methods, and what the tables say of them -/
theorem yk_N_init : yOK mN_init 0 := ⟨⟨by decide, by decide, by decide +kernel⟩, by decide +kernel, by decide, gw_of (tb_1 (List.mem_of_getElem? (i := 26) rfl)) rfl, gw_of (tb_1 (List.mem_of_getElem? (i := 1) rfl)) rfl⟩
theorem yk_R_init : yOK mR_init 0 := ⟨⟨by decide, by decide, by decide +kernel⟩, by decide +kernel, by decide, gw_of (tb_1 (List.mem_of_getElem? (i := 34) rfl)) rfl, gw_of (tb_1 (List.mem_of_getElem? (i := 2) rfl)) rfl⟩
theorem yk_T_init : yOK mT_init 0 := ⟨⟨by decide, by decide, by decide +kernel⟩, by decide +kernel, by decide, gw_of (tb_1 (List.mem_of_getElem? (i := 40) rfl)) rfl, gw_of (tb_1 (List.mem_of_getElem? (i := 3) rfl)) rfl⟩
theorem yk_S_init : yOK mS_init 0 := ⟨⟨by decide, by decide, by decide +kernel⟩, by decide +kernel, by decide, gw_of (tb_1 (List.mem_of_getElem? (i := 74) rfl)) rfl, gw_of (tb_1 (List.mem_of_getElem? (i := 4) rfl)) rfl⟩
theorem yk_F_init : yOK mF_init 0 := ⟨⟨by decide, by decide, by decide +kernel⟩, by decide +kernel, by decide, gw_of (tb_1 (List.mem_of_getElem? (i := 80) rfl)) rfl, gw_of (tb_1 (List.mem_of_getElem? (i := 5) rfl)) rfl⟩
theorem yk_S_forget : yOK mS_forget 0 := ⟨⟨by decide, by decide, by decide +kernel⟩, by decide +kernel, by decide, gw_of (tb_1 (List.mem_of_getElem? (i := 108) rfl)) rfl, gw_of (tb_1 (List.mem_of_getElem? (i := 4) rfl)) rfl⟩
theorem yk_F_forget : yOK mF_forget 0 := ⟨⟨by decide, by decide, by decide +kernel⟩, by decide +kernel, by decide, gw_of (tb_1 (List.mem_of_getElem? (i := 112) rfl)) rfl, gw_of (tb_1 (List.mem_of_getElem? (i := 5) rfl)) rfl⟩
theorem yk_L_init : yOK mL_init 0 := ⟨⟨by decide, by decide, by decide +kernel⟩, by decide +kernel, by decide, gw_of (tb_1 (List.mem_of_getElem? (i := 219) rfl)) rfl, gw_of (tb_1 (List.mem_of_getElem? (i := 6) rfl)) rfl⟩
theorem yk_C_init : yOK mC_init 0 := ⟨⟨by decide, by decide, by decide +kernel⟩, by decide +kernel, by decide, gw_of (tb_2 (List.mem_of_getElem? (i := 13) rfl)) rfl, gw_of (tb_1 (List.mem_of_getElem? (i := 7) rfl)) rfl⟩
theorem yk_A_init : yOK mA_init 0 := ⟨⟨by decide, by decide, by decide +kernel⟩, by decide +kernel, by decide, gw_of (tb_2 (List.mem_of_getElem? (i := 40) rfl)) rfl, gw_of (tb_1 (List.mem_of_getElem? (i := 8) rfl)) rfl⟩
theorem yk_K_init : yOK mK_init 0 := ⟨⟨by decide, by decide, by decide +kernel⟩, by decide +kernel, by decide, gw_of (tb_2 (List.mem_of_getElem? (i := 46) rfl)) rfl, gw_of (tb_1 (List.mem_of_getElem? (i := 9) rfl)) rfl⟩
theorem yk_P_init : yOK mP_init 0 := ⟨⟨by decide, by decide, by decide +kernel⟩, by decide +kernel, by decide, gw_of (tb_2 (List.mem_of_getElem? (i := 137) rfl)) rfl, gw_of (tb_1 (List.mem_of_getElem? (i := 10) rfl)) rfl⟩
theorem yk_I_init : yOK mI_init 0 := ⟨⟨by decide, by decide, by decide +kernel⟩, by decide +kernel, by decide, gw_of (tb_2 (List.mem_of_getElem? (i := 147) rfl)) rfl, gw_of (tb_1 (List.mem_of_getElem? (i := 11) rfl)) rfl⟩
theorem yk_L_follow : yOK mL_follow 1 := ⟨⟨by decide, by decide, by decide +kernel⟩, by decide +kernel, by decide, gw_of (tb_2 (List.mem_of_getElem? (i := 194) rfl)) rfl, gw_of (tb_1 (List.mem_of_getElem? (i := 6) rfl)) rfl⟩
theorem yk_N_feed : yOK mN_feed 5 := ⟨⟨by decide, by decide, by decide +kernel⟩, by decide +kernel, by decide, gw_of (tb_2 (List.mem_of_getElem? (i := 238) rfl)) rfl, gw_of (tb_1 (List.mem_of_getElem? (i := 1) rfl)) rfl⟩
theorem yk_T_putFourBytes : yOK mT_putFourBytes 1 := ⟨⟨by decide, by decide, by decide +kernel⟩, by decide +kernel, by decide, gw_of (tb_3 (List.mem_of_getElem? (i := 2) rfl)) rfl, gw_of (tb_1 (List.mem_of_getElem? (i := 3) rfl)) rfl⟩
theorem yk_N_end : yOK mN_end 1 := ⟨⟨by decide, by decide, by decide +kernel⟩, by decide +kernel, by decide, gw_of (tb_3 (List.mem_of_getElem? (i := 6) rfl)) rfl, gw_of (tb_1 (List.mem_of_getElem? (i := 1) rfl)) rfl⟩
theorem yk_N_score : yOK mN_score 0 := ⟨⟨by decide, by decide, by decide +kernel⟩, by decide +kernel, by decide, gw_of (tb_3 (List.mem_of_getElem? (i := 10) rfl)) rfl, gw_of (tb_1 (List.mem_of_getElem? (i := 1) rfl)) rfl⟩
theorem yk_R_begin : yOK mR_begin 0 := ⟨⟨by decide, by decide, by decide +kernel⟩, by decide +kernel, by decide, gw_of (tb_3 (List.mem_of_getElem? (i := 14) rfl)) rfl, gw_of (tb_1 (List.mem_of_getElem? (i := 2) rfl)) rfl⟩
theorem yk_T_begin : yOK mT_begin 0 := ⟨⟨by decide, by decide, by decide +kernel⟩, by decide +kernel, by decide, gw_of (tb_3 (List.mem_of_getElem? (i := 19) rfl)) rfl, gw_of (tb_1 (List.mem_of_getElem? (i := 3) rfl)) rfl⟩
theorem yk_T_step : yOK mT_step 0 := ⟨⟨by decide, by decide, by decide +kernel⟩, by decide +kernel, by decide, gw_of (tb_3 (List.mem_of_getElem? (i := 23) rfl)) rfl, gw_of (tb_1 (List.mem_of_getElem? (i := 3) rfl)) rfl⟩
theorem yk_T_at : yOK mT_at 1 := ⟨⟨by decide, by decide, by decide +kernel⟩, by decide +kernel, by decide, gw_of (tb_3 (List.mem_of_getElem? (i := 27) rfl)) rfl, gw_of (tb_1 (List.mem_of_getElem? (i := 3) rfl)) rfl⟩
theorem yk_T_isBlank : yOK mT_isBlank 1 := ⟨⟨by decide, by decide, by decide +kernel⟩, by decide +kernel, by decide, gw_of (tb_3 (List.mem_of_getElem? (i := 30) rfl)) rfl, gw_of (tb_1 (List.mem_of_getElem? (i := 3) rfl)) rfl⟩
theorem yk_T_isLetter : yOK mT_isLetter 1 := ⟨⟨by decide, by decide, by decide +kernel⟩, by decide +kernel, by decide, gw_of (tb_3 (List.mem_of_getElem? (i := 33) rfl)) rfl, gw_of (tb_1 (List.mem_of_getElem? (i := 3) rfl)) rfl⟩
theorem yk_T_takeWord : yOK mT_takeWord 0 := ⟨⟨by decide, by decide, by decide +kernel⟩, by decide +kernel, by decide, gw_of (tb_3 (List.mem_of_getElem? (i := 37) rfl)) rfl, gw_of (tb_1 (List.mem_of_getElem? (i := 3) rfl)) rfl⟩
theorem yk_W_numberOf : yOK mW_numberOf 3 := ⟨⟨by decide, by decide, by decide +kernel⟩, by decide +kernel, by decide, gw_of (tb_3 (List.mem_of_getElem? (i := 40) rfl)) rfl, gw_of (tb_1 (List.mem_of_getElem? (i := 13) rfl)) rfl⟩
theorem yk_J_length : yOK mJ_length 0 := ⟨⟨by decide, by decide, by decide +kernel⟩, by decide +kernel, by decide, gw_of (tb_3 (List.mem_of_getElem? (i := 45) rfl)) rfl, gw_of (tb_1 (List.mem_of_getElem? (i := 14) rfl)) rfl⟩
theorem yk_J_coder : yOK mJ_coder 0 := ⟨⟨by decide, by decide, by decide +kernel⟩, by decide +kernel, by decide, gw_of (tb_3 (List.mem_of_getElem? (i := 49) rfl)) rfl, gw_of (tb_1 (List.mem_of_getElem? (i := 14) rfl)) rfl⟩
theorem yk_J_charAt : yOK mJ_charAt 1 := ⟨⟨by decide, by decide, by decide +kernel⟩, by decide +kernel, by decide, gw_of (tb_3 (List.mem_of_getElem? (i := 55) rfl)) rfl, gw_of (tb_1 (List.mem_of_getElem? (i := 14) rfl)) rfl⟩
theorem yk_J_isLatin1 : yOK mJ_isLatin1 0 := ⟨⟨by decide, by decide, by decide +kernel⟩, by decide +kernel, by decide, gw_of (tb_3 (List.mem_of_getElem? (i := 59) rfl)) rfl, gw_of (tb_1 (List.mem_of_getElem? (i := 14) rfl)) rfl⟩
theorem yk_J_charAt2 : yOK mJ_charAt2 2 := ⟨⟨by decide, by decide, by decide +kernel⟩, by decide +kernel, by decide, gw_of (tb_3 (List.mem_of_getElem? (i := 62) rfl)) rfl, gw_of (tb_1 (List.mem_of_getElem? (i := 15) rfl)) rfl⟩
theorem yk_J_checkIndex : yOK mJ_checkIndex 2 := ⟨⟨by decide, by decide, by decide +kernel⟩, by decide +kernel, by decide, gw_of (tb_3 (List.mem_of_getElem? (i := 65) rfl)) rfl, gw_of (tb_1 (List.mem_of_getElem? (i := 14) rfl)) rfl⟩
theorem yk_J_checkIndex3 : yOK mJ_checkIndex3 3 := ⟨⟨by decide, by decide, by decide +kernel⟩, by decide +kernel, by decide, gw_of (tb_3 (List.mem_of_getElem? (i := 70) rfl)) rfl, gw_of (tb_1 (List.mem_of_getElem? (i := 16) rfl)) rfl⟩
theorem yk_T_isDigit : yOK mT_isDigit 1 := ⟨⟨by decide, by decide, by decide +kernel⟩, by decide +kernel, by decide, gw_of (tb_3 (List.mem_of_getElem? (i := 92) rfl)) rfl, gw_of (tb_1 (List.mem_of_getElem? (i := 3) rfl)) rfl⟩
theorem yk_T_takeNumber : yOK mT_takeNumber 0 := ⟨⟨by decide, by decide, by decide +kernel⟩, by decide +kernel, by decide, gw_of (tb_3 (List.mem_of_getElem? (i := 96) rfl)) rfl, gw_of (tb_1 (List.mem_of_getElem? (i := 3) rfl)) rfl⟩
theorem yk_J_indexOf : yOK mJ_indexOf 1 := ⟨⟨by decide, by decide, by decide +kernel⟩, by decide +kernel, by decide, gw_of (tb_3 (List.mem_of_getElem? (i := 101) rfl)) rfl, gw_of (tb_1 (List.mem_of_getElem? (i := 14) rfl)) rfl⟩
theorem yk_J_indexOf2 : yOK mJ_indexOf2 2 := ⟨⟨by decide, by decide, by decide +kernel⟩, by decide +kernel, by decide, gw_of (tb_3 (List.mem_of_getElem? (i := 105) rfl)) rfl, gw_of (tb_1 (List.mem_of_getElem? (i := 14) rfl)) rfl⟩
theorem yk_J_indexOf3 : yOK mJ_indexOf3 4 := ⟨⟨by decide, by decide, by decide +kernel⟩, by decide +kernel, by decide, gw_of (tb_3 (List.mem_of_getElem? (i := 109) rfl)) rfl, gw_of (tb_1 (List.mem_of_getElem? (i := 15) rfl)) rfl⟩
theorem yk_J_canEncode : yOK mJ_canEncode 1 := ⟨⟨by decide, by decide, by decide +kernel⟩, by decide +kernel, by decide, gw_of (tb_3 (List.mem_of_getElem? (i := 112) rfl)) rfl, gw_of (tb_1 (List.mem_of_getElem? (i := 15) rfl)) rfl⟩
theorem yk_J_indexOfChar : yOK mJ_indexOfChar 4 := ⟨⟨by decide, by decide, by decide +kernel⟩, by decide +kernel, by decide, gw_of (tb_3 (List.mem_of_getElem? (i := 121) rfl)) rfl, gw_of (tb_1 (List.mem_of_getElem? (i := 15) rfl)) rfl⟩
theorem yk_R_goesOn : yOK mR_goesOn 0 := ⟨⟨by decide, by decide, by decide +kernel⟩, by decide +kernel, by decide, gw_of (tb_3 (List.mem_of_getElem? (i := 160) rfl)) rfl, gw_of (tb_1 (List.mem_of_getElem? (i := 2) rfl)) rfl⟩
theorem yk_R_readLine : yOK mR_readLine 0 := ⟨⟨by decide, by decide, by decide +kernel⟩, by decide +kernel, by decide, gw_of (tb_3 (List.mem_of_getElem? (i := 164) rfl)) rfl, gw_of (tb_1 (List.mem_of_getElem? (i := 2) rfl)) rfl⟩
theorem yk_R_mayBegin : yOK mR_mayBegin 1 := ⟨⟨by decide, by decide, by decide +kernel⟩, by decide +kernel, by decide, gw_of (tb_3 (List.mem_of_getElem? (i := 168) rfl)) rfl, gw_of (tb_1 (List.mem_of_getElem? (i := 2) rfl)) rfl⟩
theorem yk_R_refuse : yOK mR_refuse 1 := ⟨⟨by decide, by decide, by decide +kernel⟩, by decide +kernel, by decide, gw_of (tb_3 (List.mem_of_getElem? (i := 172) rfl)) rfl, gw_of (tb_1 (List.mem_of_getElem? (i := 2) rfl)) rfl⟩
theorem yk_R_number : yOK mR_number 2 := ⟨⟨by decide, by decide, by decide +kernel⟩, by decide +kernel, by decide, gw_of (tb_3 (List.mem_of_getElem? (i := 177) rfl)) rfl, gw_of (tb_1 (List.mem_of_getElem? (i := 2) rfl)) rfl⟩
theorem yk_R_partLine : yOK mR_partLine 0 := ⟨⟨by decide, by decide, by decide +kernel⟩, by decide +kernel, by decide, gw_of (tb_3 (List.mem_of_getElem? (i := 181) rfl)) rfl, gw_of (tb_1 (List.mem_of_getElem? (i := 2) rfl)) rfl⟩
theorem yk_S_partNamed : yOK mS_partNamed 1 := ⟨⟨by decide, by decide, by decide +kernel⟩, by decide +kernel, by decide, gw_of (tb_3 (List.mem_of_getElem? (i := 185) rfl)) rfl, gw_of (tb_1 (List.mem_of_getElem? (i := 4) rfl)) rfl⟩
theorem yk_R_newName : yOK mR_newName 1 := ⟨⟨by decide, by decide, by decide +kernel⟩, by decide +kernel, by decide, gw_of (tb_3 (List.mem_of_getElem? (i := 189) rfl)) rfl, gw_of (tb_1 (List.mem_of_getElem? (i := 2) rfl)) rfl⟩
theorem yk_R_isWord : yOK mR_isWord 1 := ⟨⟨by decide, by decide, by decide +kernel⟩, by decide +kernel, by decide, gw_of (tb_3 (List.mem_of_getElem? (i := 193) rfl)) rfl, gw_of (tb_1 (List.mem_of_getElem? (i := 2) rfl)) rfl⟩
theorem yk_S_addPart : yOK mS_addPart 2 := ⟨⟨by decide, by decide, by decide +kernel⟩, by decide +kernel, by decide, gw_of (tb_3 (List.mem_of_getElem? (i := 197) rfl)) rfl, gw_of (tb_1 (List.mem_of_getElem? (i := 4) rfl)) rfl⟩
theorem yk_R_noteLine : yOK mR_noteLine 0 := ⟨⟨by decide, by decide, by decide +kernel⟩, by decide +kernel, by decide, gw_of (tb_3 (List.mem_of_getElem? (i := 201) rfl)) rfl, gw_of (tb_1 (List.mem_of_getElem? (i := 2) rfl)) rfl⟩
theorem yk_S_hasNoteNamed : yOK mS_hasNoteNamed 1 := ⟨⟨by decide, by decide, by decide +kernel⟩, by decide +kernel, by decide, gw_of (tb_3 (List.mem_of_getElem? (i := 205) rfl)) rfl, gw_of (tb_1 (List.mem_of_getElem? (i := 4) rfl)) rfl⟩
theorem yk_R_takeWord : yOK mR_takeWord 1 := ⟨⟨by decide, by decide, by decide +kernel⟩, by decide +kernel, by decide, gw_of (tb_3 (List.mem_of_getElem? (i := 209) rfl)) rfl, gw_of (tb_1 (List.mem_of_getElem? (i := 2) rfl)) rfl⟩
theorem yk_R_knownPart : yOK mR_knownPart 0 := ⟨⟨by decide, by decide, by decide +kernel⟩, by decide +kernel, by decide, gw_of (tb_3 (List.mem_of_getElem? (i := 213) rfl)) rfl, gw_of (tb_1 (List.mem_of_getElem? (i := 2) rfl)) rfl⟩
theorem yk_S_addNote : yOK mS_addNote 6 := ⟨⟨by decide, by decide, by decide +kernel⟩, by decide +kernel, by decide, gw_of (tb_3 (List.mem_of_getElem? (i := 217) rfl)) rfl, gw_of (tb_1 (List.mem_of_getElem? (i := 4) rfl)) rfl⟩
theorem yk_R_either : yOK mR_either 1 := ⟨⟨by decide, by decide, by decide +kernel⟩, by decide +kernel, by decide, gw_of (tb_3 (List.mem_of_getElem? (i := 221) rfl)) rfl, gw_of (tb_1 (List.mem_of_getElem? (i := 2) rfl)) rfl⟩
theorem yk_R_both : yOK mR_both 1 := ⟨⟨by decide, by decide, by decide +kernel⟩, by decide +kernel, by decide, gw_of (tb_3 (List.mem_of_getElem? (i := 225) rfl)) rfl, gw_of (tb_1 (List.mem_of_getElem? (i := 2) rfl)) rfl⟩
theorem yk_R_one : yOK mR_one 1 := ⟨⟨by decide, by decide, by decide +kernel⟩, by decide +kernel, by decide, gw_of (tb_3 (List.mem_of_getElem? (i := 229) rfl)) rfl, gw_of (tb_1 (List.mem_of_getElem? (i := 2) rfl)) rfl⟩
theorem yk_F_put : yOK mF_put 1 := ⟨⟨by decide, by decide, by decide +kernel⟩, by decide +kernel, by decide, gw_of (tb_3 (List.mem_of_getElem? (i := 233) rfl)) rfl, gw_of (tb_1 (List.mem_of_getElem? (i := 5) rfl)) rfl⟩
theorem yk_R_sum : yOK mR_sum 1 := ⟨⟨by decide, by decide, by decide +kernel⟩, by decide +kernel, by decide, gw_of (tb_3 (List.mem_of_getElem? (i := 237) rfl)) rfl, gw_of (tb_1 (List.mem_of_getElem? (i := 2) rfl)) rfl⟩
theorem yk_R_term : yOK mR_term 1 := ⟨⟨by decide, by decide, by decide +kernel⟩, by decide +kernel, by decide, gw_of (tb_4 (List.mem_of_getElem? (i := 1) rfl)) rfl, gw_of (tb_1 (List.mem_of_getElem? (i := 2) rfl)) rfl⟩
theorem yk_R_unit : yOK mR_unit 1 := ⟨⟨by decide, by decide, by decide +kernel⟩, by decide +kernel, by decide, gw_of (tb_4 (List.mem_of_getElem? (i := 5) rfl)) rfl, gw_of (tb_1 (List.mem_of_getElem? (i := 2) rfl)) rfl⟩
theorem yk_R_isSign : yOK mR_isSign 1 := ⟨⟨by decide, by decide, by decide +kernel⟩, by decide +kernel, by decide, gw_of (tb_4 (List.mem_of_getElem? (i := 9) rfl)) rfl, gw_of (tb_1 (List.mem_of_getElem? (i := 2) rfl)) rfl⟩
theorem yk_R_takeSign : yOK mR_takeSign 1 := ⟨⟨by decide, by decide, by decide +kernel⟩, by decide +kernel, by decide, gw_of (tb_4 (List.mem_of_getElem? (i := 13) rfl)) rfl, gw_of (tb_1 (List.mem_of_getElem? (i := 2) rfl)) rfl⟩
theorem yk_R_exchange : yOK mR_exchange 1 := ⟨⟨by decide, by decide, by decide +kernel⟩, by decide +kernel, by decide, gw_of (tb_4 (List.mem_of_getElem? (i := 17) rfl)) rfl, gw_of (tb_1 (List.mem_of_getElem? (i := 2) rfl)) rfl⟩
theorem yk_C_forget : yOK mC_forget 0 := ⟨⟨by decide, by decide, by decide +kernel⟩, by decide +kernel, by decide, gw_of (tb_4 (List.mem_of_getElem? (i := 21) rfl)) rfl, gw_of (tb_1 (List.mem_of_getElem? (i := 7) rfl)) rfl⟩
theorem yk_I_forget : yOK mI_forget 0 := ⟨⟨by decide, by decide, by decide +kernel⟩, by decide +kernel, by decide, gw_of (tb_4 (List.mem_of_getElem? (i := 25) rfl)) rfl, gw_of (tb_1 (List.mem_of_getElem? (i := 11) rfl)) rfl⟩
theorem yk_N_fault : yOK mN_fault 1 := ⟨⟨by decide, by decide, by decide +kernel⟩, by decide +kernel, by decide, gw_of (tb_4 (List.mem_of_getElem? (i := 29) rfl)) rfl, gw_of (tb_1 (List.mem_of_getElem? (i := 1) rfl)) rfl⟩
theorem yk_N_note : yOK mN_note 2 := ⟨⟨by decide, by decide, by decide +kernel⟩, by decide +kernel, by decide, gw_of (tb_4 (List.mem_of_getElem? (i := 33) rfl)) rfl, gw_of (tb_1 (List.mem_of_getElem? (i := 1) rfl)) rfl⟩
theorem yk_N_isNote : yOK mN_isNote 1 := ⟨⟨by decide, by decide, by decide +kernel⟩, by decide +kernel, by decide, gw_of (tb_4 (List.mem_of_getElem? (i := 37) rfl)) rfl, gw_of (tb_1 (List.mem_of_getElem? (i := 1) rfl)) rfl⟩
theorem yk_N_missedOf : yOK mN_missedOf 1 := ⟨⟨by decide, by decide, by decide +kernel⟩, by decide +kernel, by decide, gw_of (tb_4 (List.mem_of_getElem? (i := 41) rfl)) rfl, gw_of (tb_1 (List.mem_of_getElem? (i := 1) rfl)) rfl⟩
theorem yk_S_roleOf : yOK mS_roleOf 1 := ⟨⟨by decide, by decide, by decide +kernel⟩, by decide +kernel, by decide, gw_of (tb_4 (List.mem_of_getElem? (i := 45) rfl)) rfl, gw_of (tb_1 (List.mem_of_getElem? (i := 4) rfl)) rfl⟩
theorem yk_N_doublesOf : yOK mN_doublesOf 1 := ⟨⟨by decide, by decide, by decide +kernel⟩, by decide +kernel, by decide, gw_of (tb_4 (List.mem_of_getElem? (i := 49) rfl)) rfl, gw_of (tb_1 (List.mem_of_getElem? (i := 1) rfl)) rfl⟩
theorem yk_J_bitCount : yOK mJ_bitCount 1 := ⟨⟨by decide, by decide, by decide +kernel⟩, by decide +kernel, by decide, gw_of (tb_4 (List.mem_of_getElem? (i := 52) rfl)) rfl, gw_of (tb_1 (List.mem_of_getElem? (i := 20) rfl)) rfl⟩
theorem yk_F_isTold : yOK mF_isTold 0 := ⟨⟨by decide, by decide, by decide +kernel⟩, by decide +kernel, by decide, gw_of (tb_4 (List.mem_of_getElem? (i := 59) rfl)) rfl, gw_of (tb_1 (List.mem_of_getElem? (i := 5) rfl)) rfl⟩
theorem yk_F_valueOf : yOK mF_valueOf 6 := ⟨⟨by decide, by decide, by decide +kernel⟩, by decide +kernel, by decide, gw_of (tb_4 (List.mem_of_getElem? (i := 63) rfl)) rfl, gw_of (tb_1 (List.mem_of_getElem? (i := 5) rfl)) rfl⟩
theorem yk_F_step : yOK mF_step 1 := ⟨⟨by decide, by decide, by decide +kernel⟩, by decide +kernel, by decide, gw_of (tb_4 (List.mem_of_getElem? (i := 67) rfl)) rfl, gw_of (tb_1 (List.mem_of_getElem? (i := 5) rfl)) rfl⟩
theorem yk_F_push : yOK mF_push 1 := ⟨⟨by decide, by decide, by decide +kernel⟩, by decide +kernel, by decide, gw_of (tb_4 (List.mem_of_getElem? (i := 71) rfl)) rfl, gw_of (tb_1 (List.mem_of_getElem? (i := 5) rfl)) rfl⟩
theorem yk_F_joined : yOK mF_joined 3 := ⟨⟨by decide, by decide, by decide +kernel⟩, by decide +kernel, by decide, gw_of (tb_4 (List.mem_of_getElem? (i := 74) rfl)) rfl, gw_of (tb_1 (List.mem_of_getElem? (i := 5) rfl)) rfl⟩
theorem yk_N_part : yOK mN_part 2 := ⟨⟨by decide, by decide, by decide +kernel⟩, by decide +kernel, by decide, gw_of (tb_4 (List.mem_of_getElem? (i := 80) rfl)) rfl, gw_of (tb_1 (List.mem_of_getElem? (i := 1) rfl)) rfl⟩
theorem yk_S_notesOf : yOK mS_notesOf 1 := ⟨⟨by decide, by decide, by decide +kernel⟩, by decide +kernel, by decide, gw_of (tb_4 (List.mem_of_getElem? (i := 84) rfl)) rfl, gw_of (tb_1 (List.mem_of_getElem? (i := 4) rfl)) rfl⟩
theorem yk_N_givenSet : yOK mN_givenSet 0 := ⟨⟨by decide, by decide, by decide +kernel⟩, by decide +kernel, by decide, gw_of (tb_4 (List.mem_of_getElem? (i := 88) rfl)) rfl, gw_of (tb_1 (List.mem_of_getElem? (i := 1) rfl)) rfl⟩
theorem yk_L_setOf : yOK mL_setOf 1 := ⟨⟨by decide, by decide, by decide +kernel⟩, by decide +kernel, by decide, gw_of (tb_4 (List.mem_of_getElem? (i := 92) rfl)) rfl, gw_of (tb_1 (List.mem_of_getElem? (i := 6) rfl)) rfl⟩
theorem yk_N_held : yOK mN_held 2 := ⟨⟨by decide, by decide, by decide +kernel⟩, by decide +kernel, by decide, gw_of (tb_4 (List.mem_of_getElem? (i := 96) rfl)) rfl, gw_of (tb_1 (List.mem_of_getElem? (i := 1) rfl)) rfl⟩
theorem yk_N_isBeat : yOK mN_isBeat 1 := ⟨⟨by decide, by decide, by decide +kernel⟩, by decide +kernel, by decide, gw_of (tb_4 (List.mem_of_getElem? (i := 100) rfl)) rfl, gw_of (tb_1 (List.mem_of_getElem? (i := 1) rfl)) rfl⟩
theorem yk_N_isHand : yOK mN_isHand 1 := ⟨⟨by decide, by decide, by decide +kernel⟩, by decide +kernel, by decide, gw_of (tb_4 (List.mem_of_getElem? (i := 103) rfl)) rfl, gw_of (tb_1 (List.mem_of_getElem? (i := 1) rfl)) rfl⟩
theorem yk_N_lookAtKeys : yOK mN_lookAtKeys 0 := ⟨⟨by decide, by decide, by decide +kernel⟩, by decide +kernel, by decide, gw_of (tb_4 (List.mem_of_getElem? (i := 107) rfl)) rfl, gw_of (tb_1 (List.mem_of_getElem? (i := 1) rfl)) rfl⟩
theorem yk_K_lay : yOK mK_lay 2 := ⟨⟨by decide, by decide, by decide +kernel⟩, by decide +kernel, by decide, gw_of (tb_4 (List.mem_of_getElem? (i := 111) rfl)) rfl, gw_of (tb_1 (List.mem_of_getElem? (i := 9) rfl)) rfl⟩
theorem yk_K_hasPedal : yOK mK_hasPedal 1 := ⟨⟨by decide, by decide, by decide +kernel⟩, by decide +kernel, by decide, gw_of (tb_4 (List.mem_of_getElem? (i := 116) rfl)) rfl, gw_of (tb_1 (List.mem_of_getElem? (i := 9) rfl)) rfl⟩
theorem yk_K_timelySince : yOK mK_timelySince 2 := ⟨⟨by decide, by decide, by decide +kernel⟩, by decide +kernel, by decide, gw_of (tb_4 (List.mem_of_getElem? (i := 120) rfl)) rfl, gw_of (tb_1 (List.mem_of_getElem? (i := 9) rfl)) rfl⟩
theorem yk_K_heldBy : yOK mK_heldBy 2 := ⟨⟨by decide, by decide, by decide +kernel⟩, by decide +kernel, by decide, gw_of (tb_4 (List.mem_of_getElem? (i := 124) rfl)) rfl, gw_of (tb_1 (List.mem_of_getElem? (i := 9) rfl)) rfl⟩
theorem yk_K_setOf : yOK mK_setOf 1 := ⟨⟨by decide, by decide, by decide +kernel⟩, by decide +kernel, by decide, gw_of (tb_4 (List.mem_of_getElem? (i := 128) rfl)) rfl, gw_of (tb_1 (List.mem_of_getElem? (i := 9) rfl)) rfl⟩
theorem yk_K_timelyAt : yOK mK_timelyAt 1 := ⟨⟨by decide, by decide, by decide +kernel⟩, by decide +kernel, by decide, gw_of (tb_4 (List.mem_of_getElem? (i := 132) rfl)) rfl, gw_of (tb_1 (List.mem_of_getElem? (i := 9) rfl)) rfl⟩
theorem yk_N_sounds : yOK mN_sounds 1 := ⟨⟨by decide, by decide, by decide +kernel⟩, by decide +kernel, by decide, gw_of (tb_4 (List.mem_of_getElem? (i := 136) rfl)) rfl, gw_of (tb_1 (List.mem_of_getElem? (i := 1) rfl)) rfl⟩
theorem yk_K_soundingAt : yOK mK_soundingAt 1 := ⟨⟨by decide, by decide, by decide +kernel⟩, by decide +kernel, by decide, gw_of (tb_4 (List.mem_of_getElem? (i := 140) rfl)) rfl, gw_of (tb_1 (List.mem_of_getElem? (i := 9) rfl)) rfl⟩
theorem yk_N_clash : yOK mN_clash 1 := ⟨⟨by decide, by decide, by decide +kernel⟩, by decide +kernel, by decide, gw_of (tb_4 (List.mem_of_getElem? (i := 144) rfl)) rfl, gw_of (tb_1 (List.mem_of_getElem? (i := 1) rfl)) rfl⟩
theorem yk_K_clashesAt : yOK mK_clashesAt 3 := ⟨⟨by decide, by decide, by decide +kernel⟩, by decide +kernel, by decide, gw_of (tb_4 (List.mem_of_getElem? (i := 148) rfl)) rfl, gw_of (tb_1 (List.mem_of_getElem? (i := 9) rfl)) rfl⟩
theorem yk_K_clashesBetween : yOK mK_clashesBetween 4 := ⟨⟨by decide, by decide, by decide +kernel⟩, by decide +kernel, by decide, gw_of (tb_4 (List.mem_of_getElem? (i := 152) rfl)) rfl, gw_of (tb_1 (List.mem_of_getElem? (i := 9) rfl)) rfl⟩
theorem yk_K_clashesOfHand : yOK mK_clashesOfHand 2 := ⟨⟨by decide, by decide, by decide +kernel⟩, by decide +kernel, by decide, gw_of (tb_4 (List.mem_of_getElem? (i := 156) rfl)) rfl, gw_of (tb_1 (List.mem_of_getElem? (i := 9) rfl)) rfl⟩
theorem yk_K_lowest : yOK mK_lowest 1 := ⟨⟨by decide, by decide, by decide +kernel⟩, by decide +kernel, by decide, gw_of (tb_4 (List.mem_of_getElem? (i := 160) rfl)) rfl, gw_of (tb_1 (List.mem_of_getElem? (i := 9) rfl)) rfl⟩
theorem yk_K_highest : yOK mK_highest 1 := ⟨⟨by decide, by decide, by decide +kernel⟩, by decide +kernel, by decide, gw_of (tb_4 (List.mem_of_getElem? (i := 165) rfl)) rfl, gw_of (tb_1 (List.mem_of_getElem? (i := 9) rfl)) rfl⟩
theorem yk_K_hasKeyTwice : yOK mK_hasKeyTwice 1 := ⟨⟨by decide, by decide, by decide +kernel⟩, by decide +kernel, by decide, gw_of (tb_4 (List.mem_of_getElem? (i := 172) rfl)) rfl, gw_of (tb_1 (List.mem_of_getElem? (i := 9) rfl)) rfl⟩
theorem yk_N_give : yOK mN_give 2 := ⟨⟨by decide, by decide, by decide +kernel⟩, by decide +kernel, by decide, gw_of (tb_4 (List.mem_of_getElem? (i := 176) rfl)) rfl, gw_of (tb_1 (List.mem_of_getElem? (i := 1) rfl)) rfl⟩
theorem yk_C_act : yOK mC_act 4 := ⟨⟨by decide, by decide, by decide +kernel⟩, by decide +kernel, by decide, gw_of (tb_4 (List.mem_of_getElem? (i := 180) rfl)) rfl, gw_of (tb_1 (List.mem_of_getElem? (i := 7) rfl)) rfl⟩
theorem yk_C_dropOldest : yOK mC_dropOldest 0 := ⟨⟨by decide, by decide, by decide +kernel⟩, by decide +kernel, by decide, gw_of (tb_4 (List.mem_of_getElem? (i := 184) rfl)) rfl, gw_of (tb_1 (List.mem_of_getElem? (i := 7) rfl)) rfl⟩
theorem yk_L_valueOf : yOK mL_valueOf 2 := ⟨⟨by decide, by decide, by decide +kernel⟩, by decide +kernel, by decide, gw_of (tb_4 (List.mem_of_getElem? (i := 191) rfl)) rfl, gw_of (tb_1 (List.mem_of_getElem? (i := 6) rfl)) rfl⟩
theorem yk_L_rowOf : yOK mL_rowOf 1 := ⟨⟨by decide, by decide, by decide +kernel⟩, by decide +kernel, by decide, gw_of (tb_4 (List.mem_of_getElem? (i := 195) rfl)) rfl, gw_of (tb_1 (List.mem_of_getElem? (i := 6) rfl)) rfl⟩
theorem yk_L_put : yOK mL_put 3 := ⟨⟨by decide, by decide, by decide +kernel⟩, by decide +kernel, by decide, gw_of (tb_4 (List.mem_of_getElem? (i := 199) rfl)) rfl, gw_of (tb_1 (List.mem_of_getElem? (i := 6) rfl)) rfl⟩
theorem yk_N_clashes : yOK mN_clashes 0 := ⟨⟨by decide, by decide, by decide +kernel⟩, by decide +kernel, by decide, gw_of (tb_4 (List.mem_of_getElem? (i := 203) rfl)) rfl, gw_of (tb_1 (List.mem_of_getElem? (i := 1) rfl)) rfl⟩
theorem yk_K_clashingBeats : yOK mK_clashingBeats 2 := ⟨⟨by decide, by decide, by decide +kernel⟩, by decide +kernel, by decide, gw_of (tb_4 (List.mem_of_getElem? (i := 207) rfl)) rfl, gw_of (tb_1 (List.mem_of_getElem? (i := 9) rfl)) rfl⟩
theorem yk_N_shift : yOK mN_shift 2 := ⟨⟨by decide, by decide, by decide +kernel⟩, by decide +kernel, by decide, gw_of (tb_4 (List.mem_of_getElem? (i := 212) rfl)) rfl, gw_of (tb_1 (List.mem_of_getElem? (i := 1) rfl)) rfl⟩
theorem yk_N_isKey : yOK mN_isKey 1 := ⟨⟨by decide, by decide, by decide +kernel⟩, by decide +kernel, by decide, gw_of (tb_4 (List.mem_of_getElem? (i := 215) rfl)) rfl, gw_of (tb_1 (List.mem_of_getElem? (i := 1) rfl)) rfl⟩
theorem yk_N_louder : yOK mN_louder 2 := ⟨⟨by decide, by decide, by decide +kernel⟩, by decide +kernel, by decide, gw_of (tb_4 (List.mem_of_getElem? (i := 219) rfl)) rfl, gw_of (tb_1 (List.mem_of_getElem? (i := 1) rfl)) rfl⟩
theorem yk_N_last : yOK mN_last 2 := ⟨⟨by decide, by decide, by decide +kernel⟩, by decide +kernel, by decide, gw_of (tb_4 (List.mem_of_getElem? (i := 223) rfl)) rfl, gw_of (tb_1 (List.mem_of_getElem? (i := 1) rfl)) rfl⟩
theorem yk_N_pedal : yOK mN_pedal 1 := ⟨⟨by decide, by decide, by decide +kernel⟩, by decide +kernel, by decide, gw_of (tb_4 (List.mem_of_getElem? (i := 227) rfl)) rfl, gw_of (tb_1 (List.mem_of_getElem? (i := 1) rfl)) rfl⟩
theorem yk_N_undo : yOK mN_undo 0 := ⟨⟨by decide, by decide, by decide +kernel⟩, by decide +kernel, by decide, gw_of (tb_4 (List.mem_of_getElem? (i := 231) rfl)) rfl, gw_of (tb_1 (List.mem_of_getElem? (i := 1) rfl)) rfl⟩
theorem yk_C_takeBack : yOK mC_takeBack 1 := ⟨⟨by decide, by decide, by decide +kernel⟩, by decide +kernel, by decide, gw_of (tb_4 (List.mem_of_getElem? (i := 235) rfl)) rfl, gw_of (tb_1 (List.mem_of_getElem? (i := 7) rfl)) rfl⟩
theorem yk_N_redo : yOK mN_redo 0 := ⟨⟨by decide, by decide, by decide +kernel⟩, by decide +kernel, by decide, gw_of (tb_4 (List.mem_of_getElem? (i := 239) rfl)) rfl, gw_of (tb_1 (List.mem_of_getElem? (i := 1) rfl)) rfl⟩
theorem yk_C_doAgain : yOK mC_doAgain 1 := ⟨⟨by decide, by decide, by decide +kernel⟩, by decide +kernel, by decide, gw_of (tb_5 (List.mem_of_getElem? (i := 3) rfl)) rfl, gw_of (tb_1 (List.mem_of_getElem? (i := 7) rfl)) rfl⟩
theorem yk_N_loss : yOK mN_loss 0 := ⟨⟨by decide, by decide, by decide +kernel⟩, by decide +kernel, by decide, gw_of (tb_5 (List.mem_of_getElem? (i := 8) rfl)) rfl, gw_of (tb_1 (List.mem_of_getElem? (i := 1) rfl)) rfl⟩
theorem yk_N_version : yOK mN_version 1 := ⟨⟨by decide, by decide, by decide +kernel⟩, by decide +kernel, by decide, gw_of (tb_5 (List.mem_of_getElem? (i := 12) rfl)) rfl, gw_of (tb_1 (List.mem_of_getElem? (i := 1) rfl)) rfl⟩
theorem yk_N_layLeastMissed : yOK mN_layLeastMissed 2 := ⟨⟨by decide, by decide, by decide +kernel⟩, by decide +kernel, by decide, gw_of (tb_5 (List.mem_of_getElem? (i := 16) rfl)) rfl, gw_of (tb_1 (List.mem_of_getElem? (i := 1) rfl)) rfl⟩
theorem yk_N_weighAll : yOK mN_weighAll 0 := ⟨⟨by decide, by decide, by decide +kernel⟩, by decide +kernel, by decide, gw_of (tb_5 (List.mem_of_getElem? (i := 20) rfl)) rfl, gw_of (tb_1 (List.mem_of_getElem? (i := 1) rfl)) rfl⟩
theorem yk_A_arrange : yOK mA_arrange 0 := ⟨⟨by decide, by decide, by decide +kernel⟩, by decide +kernel, by decide, gw_of (tb_5 (List.mem_of_getElem? (i := 24) rfl)) rfl, gw_of (tb_1 (List.mem_of_getElem? (i := 8) rfl)) rfl⟩
theorem yk_A_findBars : yOK mA_findBars 1 := ⟨⟨by decide, by decide, by decide +kernel⟩, by decide +kernel, by decide, gw_of (tb_5 (List.mem_of_getElem? (i := 28) rfl)) rfl, gw_of (tb_1 (List.mem_of_getElem? (i := 8) rfl)) rfl⟩
theorem yk_A_findSettledLeaps : yOK mA_findSettledLeaps 1 := ⟨⟨by decide, by decide, by decide +kernel⟩, by decide +kernel, by decide, gw_of (tb_5 (List.mem_of_getElem? (i := 34) rfl)) rfl, gw_of (tb_1 (List.mem_of_getElem? (i := 8) rfl)) rfl⟩
theorem yk_A_search : yOK mA_search 4 := ⟨⟨by decide, by decide, by decide +kernel⟩, by decide +kernel, by decide, gw_of (tb_5 (List.mem_of_getElem? (i := 38) rfl)) rfl, gw_of (tb_1 (List.mem_of_getElem? (i := 8) rfl)) rfl⟩
theorem yk_A_isFreeLeft : yOK mA_isFreeLeft 3 := ⟨⟨by decide, by decide, by decide +kernel⟩, by decide +kernel, by decide, gw_of (tb_5 (List.mem_of_getElem? (i := 42) rfl)) rfl, gw_of (tb_1 (List.mem_of_getElem? (i := 8) rfl)) rfl⟩
theorem yk_A_fingersReach : yOK mA_fingersReach 2 := ⟨⟨by decide, by decide, by decide +kernel⟩, by decide +kernel, by decide, gw_of (tb_5 (List.mem_of_getElem? (i := 46) rfl)) rfl, gw_of (tb_1 (List.mem_of_getElem? (i := 8) rfl)) rfl⟩
theorem yk_A_leapsFit : yOK mA_leapsFit 3 := ⟨⟨by decide, by decide, by decide +kernel⟩, by decide +kernel, by decide, gw_of (tb_5 (List.mem_of_getElem? (i := 51) rfl)) rfl, gw_of (tb_1 (List.mem_of_getElem? (i := 8) rfl)) rfl⟩
theorem yk_K_leapBetween : yOK mK_leapBetween 2 := ⟨⟨by decide, by decide, by decide +kernel⟩, by decide +kernel, by decide, gw_of (tb_5 (List.mem_of_getElem? (i := 55) rfl)) rfl, gw_of (tb_1 (List.mem_of_getElem? (i := 9) rfl)) rfl⟩
theorem yk_A_isFreeRight : yOK mA_isFreeRight 3 := ⟨⟨by decide, by decide, by decide +kernel⟩, by decide +kernel, by decide, gw_of (tb_5 (List.mem_of_getElem? (i := 59) rfl)) rfl, gw_of (tb_1 (List.mem_of_getElem? (i := 8) rfl)) rfl⟩
theorem yk_A_handOf : yOK mA_handOf 1 := ⟨⟨by decide, by decide, by decide +kernel⟩, by decide +kernel, by decide, gw_of (tb_5 (List.mem_of_getElem? (i := 63) rfl)) rfl, gw_of (tb_1 (List.mem_of_getElem? (i := 8) rfl)) rfl⟩
theorem yk_N_child : yOK mN_child 2 := ⟨⟨by decide, by decide, by decide +kernel⟩, by decide +kernel, by decide, gw_of (tb_5 (List.mem_of_getElem? (i := 67) rfl)) rfl, gw_of (tb_1 (List.mem_of_getElem? (i := 1) rfl)) rfl⟩
theorem yk_N_forbids : yOK mN_forbids 2 := ⟨⟨by decide, by decide, by decide +kernel⟩, by decide +kernel, by decide, gw_of (tb_5 (List.mem_of_getElem? (i := 71) rfl)) rfl, gw_of (tb_1 (List.mem_of_getElem? (i := 1) rfl)) rfl⟩
theorem yk_N_isLeftOut : yOK mN_isLeftOut 1 := ⟨⟨by decide, by decide, by decide +kernel⟩, by decide +kernel, by decide, gw_of (tb_5 (List.mem_of_getElem? (i := 75) rfl)) rfl, gw_of (tb_1 (List.mem_of_getElem? (i := 1) rfl)) rfl⟩
theorem yk_K_newClashesWith : yOK mK_newClashesWith 2 := ⟨⟨by decide, by decide, by decide +kernel⟩, by decide +kernel, by decide, gw_of (tb_5 (List.mem_of_getElem? (i := 79) rfl)) rfl, gw_of (tb_1 (List.mem_of_getElem? (i := 9) rfl)) rfl⟩
theorem yk_N_giveway : yOK mN_giveway 3 := ⟨⟨by decide, by decide, by decide +kernel⟩, by decide +kernel, by decide, gw_of (tb_5 (List.mem_of_getElem? (i := 83) rfl)) rfl, gw_of (tb_1 (List.mem_of_getElem? (i := 1) rfl)) rfl⟩
theorem yk_A_fewestInTheWay : yOK mA_fewestInTheWay 2 := ⟨⟨by decide, by decide, by decide +kernel⟩, by decide +kernel, by decide, gw_of (tb_5 (List.mem_of_getElem? (i := 87) rfl)) rfl, gw_of (tb_1 (List.mem_of_getElem? (i := 8) rfl)) rfl⟩
theorem yk_A_isLessMissed : yOK mA_isLessMissed 2 := ⟨⟨by decide, by decide, by decide +kernel⟩, by decide +kernel, by decide, gw_of (tb_5 (List.mem_of_getElem? (i := 91) rfl)) rfl, gw_of (tb_1 (List.mem_of_getElem? (i := 8) rfl)) rfl⟩
theorem yk_A_missedTogether : yOK mA_missedTogether 1 := ⟨⟨by decide, by decide, by decide +kernel⟩, by decide +kernel, by decide, gw_of (tb_5 (List.mem_of_getElem? (i := 95) rfl)) rfl, gw_of (tb_1 (List.mem_of_getElem? (i := 8) rfl)) rfl⟩
theorem yk_K_canBePlayed : yOK mK_canBePlayed 2 := ⟨⟨by decide, by decide, by decide +kernel⟩, by decide +kernel, by decide, gw_of (tb_5 (List.mem_of_getElem? (i := 99) rfl)) rfl, gw_of (tb_1 (List.mem_of_getElem? (i := 9) rfl)) rfl⟩
theorem yk_N_letin : yOK mN_letin 2 := ⟨⟨by decide, by decide, by decide +kernel⟩, by decide +kernel, by decide, gw_of (tb_5 (List.mem_of_getElem? (i := 103) rfl)) rfl, gw_of (tb_1 (List.mem_of_getElem? (i := 1) rfl)) rfl⟩
theorem yk_K_handForShifted : yOK mK_handForShifted 2 := ⟨⟨by decide, by decide, by decide +kernel⟩, by decide +kernel, by decide, gw_of (tb_5 (List.mem_of_getElem? (i := 107) rfl)) rfl, gw_of (tb_1 (List.mem_of_getElem? (i := 9) rfl)) rfl⟩
theorem yk_N_pedals : yOK mN_pedals 1 := ⟨⟨by decide, by decide, by decide +kernel⟩, by decide +kernel, by decide, gw_of (tb_5 (List.mem_of_getElem? (i := 113) rfl)) rfl, gw_of (tb_1 (List.mem_of_getElem? (i := 1) rfl)) rfl⟩
theorem yk_P_fewest : yOK mP_fewest 1 := ⟨⟨by decide, by decide, by decide +kernel⟩, by decide +kernel, by decide, gw_of (tb_5 (List.mem_of_getElem? (i := 117) rfl)) rfl, gw_of (tb_1 (List.mem_of_getElem? (i := 10) rfl)) rfl⟩
theorem yk_P_isFree : yOK mP_isFree 4 := ⟨⟨by decide, by decide, by decide +kernel⟩, by decide +kernel, by decide, gw_of (tb_5 (List.mem_of_getElem? (i := 120) rfl)) rfl, gw_of (tb_1 (List.mem_of_getElem? (i := 10) rfl)) rfl⟩
theorem yk_P_bestWithPedalAt : yOK mP_bestWithPedalAt 2 := ⟨⟨by decide, by decide, by decide +kernel⟩, by decide +kernel, by decide, gw_of (tb_5 (List.mem_of_getElem? (i := 126) rfl)) rfl, gw_of (tb_1 (List.mem_of_getElem? (i := 10) rfl)) rfl⟩
theorem yk_P_better : yOK mP_better 2 := ⟨⟨by decide, by decide, by decide +kernel⟩, by decide +kernel, by decide, gw_of (tb_5 (List.mem_of_getElem? (i := 129) rfl)) rfl, gw_of (tb_1 (List.mem_of_getElem? (i := 10) rfl)) rfl⟩
theorem yk_N_spread : yOK mN_spread 1 := ⟨⟨by decide, by decide, by decide +kernel⟩, by decide +kernel, by decide, gw_of (tb_5 (List.mem_of_getElem? (i := 134) rfl)) rfl, gw_of (tb_1 (List.mem_of_getElem? (i := 1) rfl)) rfl⟩
theorem yk_K_width : yOK mK_width 1 := ⟨⟨by decide, by decide, by decide +kernel⟩, by decide +kernel, by decide, gw_of (tb_5 (List.mem_of_getElem? (i := 138) rfl)) rfl, gw_of (tb_1 (List.mem_of_getElem? (i := 9) rfl)) rfl⟩
theorem yk_N_leaps : yOK mN_leaps 1 := ⟨⟨by decide, by decide, by decide +kernel⟩, by decide +kernel, by decide, gw_of (tb_5 (List.mem_of_getElem? (i := 142) rfl)) rfl, gw_of (tb_1 (List.mem_of_getElem? (i := 1) rfl)) rfl⟩
theorem yk_N_blur : yOK mN_blur 0 := ⟨⟨by decide, by decide, by decide +kernel⟩, by decide +kernel, by decide, gw_of (tb_5 (List.mem_of_getElem? (i := 147) rfl)) rfl, gw_of (tb_1 (List.mem_of_getElem? (i := 1) rfl)) rfl⟩
theorem yk_K_blurredAt : yOK mK_blurredAt 1 := ⟨⟨by decide, by decide, by decide +kernel⟩, by decide +kernel, by decide, gw_of (tb_5 (List.mem_of_getElem? (i := 151) rfl)) rfl, gw_of (tb_1 (List.mem_of_getElem? (i := 9) rfl)) rfl⟩
theorem yk_N_open : yOK mN_open 1 := ⟨⟨by decide, by decide, by decide +kernel⟩, by decide +kernel, by decide, gw_of (tb_5 (List.mem_of_getElem? (i := 156) rfl)) rfl, gw_of (tb_1 (List.mem_of_getElem? (i := 1) rfl)) rfl⟩
theorem yk_N_openAt : yOK mN_openAt 1 := ⟨⟨by decide, by decide, by decide +kernel⟩, by decide +kernel, by decide, gw_of (tb_5 (List.mem_of_getElem? (i := 160) rfl)) rfl, gw_of (tb_1 (List.mem_of_getElem? (i := 1) rfl)) rfl⟩
theorem yk_N_lost : yOK mN_lost 0 := ⟨⟨by decide, by decide, by decide +kernel⟩, by decide +kernel, by decide, gw_of (tb_5 (List.mem_of_getElem? (i := 164) rfl)) rfl, gw_of (tb_1 (List.mem_of_getElem? (i := 1) rfl)) rfl⟩
theorem yk_N_gaps : yOK mN_gaps 0 := ⟨⟨by decide, by decide, by decide +kernel⟩, by decide +kernel, by decide, gw_of (tb_5 (List.mem_of_getElem? (i := 168) rfl)) rfl, gw_of (tb_1 (List.mem_of_getElem? (i := 1) rfl)) rfl⟩
theorem yk_N_easier : yOK mN_easier 1 := ⟨⟨by decide, by decide, by decide +kernel⟩, by decide +kernel, by decide, gw_of (tb_5 (List.mem_of_getElem? (i := 172) rfl)) rfl, gw_of (tb_1 (List.mem_of_getElem? (i := 1) rfl)) rfl⟩
theorem yk_N_thickest : yOK mN_thickest 0 := ⟨⟨by decide, by decide, by decide +kernel⟩, by decide +kernel, by decide, gw_of (tb_5 (List.mem_of_getElem? (i := 176) rfl)) rfl, gw_of (tb_1 (List.mem_of_getElem? (i := 1) rfl)) rfl⟩
theorem yk_K_fullestBeat : yOK mK_fullestBeat 1 := ⟨⟨by decide, by decide, by decide +kernel⟩, by decide +kernel, by decide, gw_of (tb_5 (List.mem_of_getElem? (i := 180) rfl)) rfl, gw_of (tb_1 (List.mem_of_getElem? (i := 9) rfl)) rfl⟩
theorem yk_N_busiest : yOK mN_busiest 1 := ⟨⟨by decide, by decide, by decide +kernel⟩, by decide +kernel, by decide, gw_of (tb_5 (List.mem_of_getElem? (i := 184) rfl)) rfl, gw_of (tb_1 (List.mem_of_getElem? (i := 1) rfl)) rfl⟩
theorem yk_N_law : yOK mN_law 1 := ⟨⟨by decide, by decide, by decide +kernel⟩, by decide +kernel, by decide, gw_of (tb_5 (List.mem_of_getElem? (i := 189) rfl)) rfl, gw_of (tb_1 (List.mem_of_getElem? (i := 1) rfl)) rfl⟩
theorem yk_N_dearest : yOK mN_dearest 0 := ⟨⟨by decide, by decide, by decide +kernel⟩, by decide +kernel, by decide, gw_of (tb_5 (List.mem_of_getElem? (i := 193) rfl)) rfl, gw_of (tb_1 (List.mem_of_getElem? (i := 1) rfl)) rfl⟩
theorem yk_N_could : yOK mN_could 1 := ⟨⟨by decide, by decide, by decide +kernel⟩, by decide +kernel, by decide, gw_of (tb_5 (List.mem_of_getElem? (i := 197) rfl)) rfl, gw_of (tb_1 (List.mem_of_getElem? (i := 1) rfl)) rfl⟩
theorem yk_N_lies : yOK mN_lies 1 := ⟨⟨by decide, by decide, by decide +kernel⟩, by decide +kernel, by decide, gw_of (tb_5 (List.mem_of_getElem? (i := 201) rfl)) rfl, gw_of (tb_1 (List.mem_of_getElem? (i := 1) rfl)) rfl⟩
theorem yk_N_heard : yOK mN_heard 3 := ⟨⟨by decide, by decide, by decide +kernel⟩, by decide +kernel, by decide, gw_of (tb_5 (List.mem_of_getElem? (i := 205) rfl)) rfl, gw_of (tb_1 (List.mem_of_getElem? (i := 1) rfl)) rfl⟩
theorem yk_I_tell : yOK mI_tell 3 := ⟨⟨by decide, by decide, by decide +kernel⟩, by decide +kernel, by decide, gw_of (tb_5 (List.mem_of_getElem? (i := 209) rfl)) rfl, gw_of (tb_1 (List.mem_of_getElem? (i := 11) rfl)) rfl⟩
theorem yk_N_untell : yOK mN_untell 1 := ⟨⟨by decide, by decide, by decide +kernel⟩, by decide +kernel, by decide, gw_of (tb_5 (List.mem_of_getElem? (i := 213) rfl)) rfl, gw_of (tb_1 (List.mem_of_getElem? (i := 1) rfl)) rfl⟩
theorem yk_I_takeFromNowOn : yOK mI_takeFromNowOn 1 := ⟨⟨by decide, by decide, by decide +kernel⟩, by decide +kernel, by decide, gw_of (tb_5 (List.mem_of_getElem? (i := 217) rfl)) rfl, gw_of (tb_1 (List.mem_of_getElem? (i := 11) rfl)) rfl⟩
theorem yk_N_later : yOK mN_later 1 := ⟨⟨by decide, by decide, by decide +kernel⟩, by decide +kernel, by decide, gw_of (tb_5 (List.mem_of_getElem? (i := 221) rfl)) rfl, gw_of (tb_1 (List.mem_of_getElem? (i := 1) rfl)) rfl⟩
theorem yk_I_goOn : yOK mI_goOn 1 := ⟨⟨by decide, by decide, by decide +kernel⟩, by decide +kernel, by decide, gw_of (tb_5 (List.mem_of_getElem? (i := 225) rfl)) rfl, gw_of (tb_1 (List.mem_of_getElem? (i := 11) rfl)) rfl⟩
theorem yk_N_sets : yOK mN_sets 1 := ⟨⟨by decide, by decide, by decide +kernel⟩, by decide +kernel, by decide, gw_of (tb_5 (List.mem_of_getElem? (i := 230) rfl)) rfl, gw_of (tb_1 (List.mem_of_getElem? (i := 1) rfl)) rfl⟩
theorem yk_I_count : yOK mI_count 2 := ⟨⟨by decide, by decide, by decide +kernel⟩, by decide +kernel, by decide, gw_of (tb_5 (List.mem_of_getElem? (i := 234) rfl)) rfl, gw_of (tb_1 (List.mem_of_getElem? (i := 11) rfl)) rfl⟩
theorem yk_I_gather : yOK mI_gather 2 := ⟨⟨by decide, by decide, by decide +kernel⟩, by decide +kernel, by decide, gw_of (tb_5 (List.mem_of_getElem? (i := 238) rfl)) rfl, gw_of (tb_1 (List.mem_of_getElem? (i := 11) rfl)) rfl⟩
theorem yk_I_soundersOf : yOK mI_soundersOf 3 := ⟨⟨by decide, by decide, by decide +kernel⟩, by decide +kernel, by decide, gw_of (tb_6 (List.mem_of_getElem? (i := 1) rfl)) rfl, gw_of (tb_1 (List.mem_of_getElem? (i := 11) rfl)) rfl⟩
theorem yk_I_isSo : yOK mI_isSo 1 := ⟨⟨by decide, by decide, by decide +kernel⟩, by decide +kernel, by decide, gw_of (tb_6 (List.mem_of_getElem? (i := 5) rfl)) rfl, gw_of (tb_1 (List.mem_of_getElem? (i := 11) rfl)) rfl⟩
theorem yk_I_countIn : yOK mI_countIn 1 := ⟨⟨by decide, by decide, by decide +kernel⟩, by decide +kernel, by decide, gw_of (tb_6 (List.mem_of_getElem? (i := 9) rfl)) rfl, gw_of (tb_1 (List.mem_of_getElem? (i := 11) rfl)) rfl⟩
theorem yk_N_sure : yOK mN_sure 2 := ⟨⟨by decide, by decide, by decide +kernel⟩, by decide +kernel, by decide, gw_of (tb_6 (List.mem_of_getElem? (i := 13) rfl)) rfl, gw_of (tb_1 (List.mem_of_getElem? (i := 1) rfl)) rfl⟩
theorem yk_N_ask : yOK mN_ask 2 := ⟨⟨by decide, by decide, by decide +kernel⟩, by decide +kernel, by decide, gw_of (tb_6 (List.mem_of_getElem? (i := 17) rfl)) rfl, gw_of (tb_1 (List.mem_of_getElem? (i := 1) rfl)) rfl⟩
theorem yk_N_image : yOK mN_image 1 := ⟨⟨by decide, by decide, by decide +kernel⟩, by decide +kernel, by decide, gw_of (tb_6 (List.mem_of_getElem? (i := 21) rfl)) rfl, gw_of (tb_1 (List.mem_of_getElem? (i := 1) rfl)) rfl⟩
theorem yk_L_copy : yOK mL_copy 1 := ⟨⟨by decide, by decide, by decide +kernel⟩, by decide +kernel, by decide, gw_of (tb_6 (List.mem_of_getElem? (i := 25) rfl)) rfl, gw_of (tb_1 (List.mem_of_getElem? (i := 6) rfl)) rfl⟩
theorem yk_N_back : yOK mN_back 1 := ⟨⟨by decide, by decide, by decide +kernel⟩, by decide +kernel, by decide, gw_of (tb_6 (List.mem_of_getElem? (i := 29) rfl)) rfl, gw_of (tb_1 (List.mem_of_getElem? (i := 1) rfl)) rfl⟩
theorem yk_N_isKept : yOK mN_isKept 1 := ⟨⟨by decide, by decide, by decide +kernel⟩, by decide +kernel, by decide, gw_of (tb_6 (List.mem_of_getElem? (i := 33) rfl)) rfl, gw_of (tb_1 (List.mem_of_getElem? (i := 1) rfl)) rfl⟩
theorem yk_N_differ : yOK mN_differ 1 := ⟨⟨by decide, by decide, by decide +kernel⟩, by decide +kernel, by decide, gw_of (tb_6 (List.mem_of_getElem? (i := 37) rfl)) rfl, gw_of (tb_1 (List.mem_of_getElem? (i := 1) rfl)) rfl⟩
theorem yk_L_differsAt : yOK mL_differsAt 2 := ⟨⟨by decide, by decide, by decide +kernel⟩, by decide +kernel, by decide, gw_of (tb_6 (List.mem_of_getElem? (i := 41) rfl)) rfl, gw_of (tb_1 (List.mem_of_getElem? (i := 6) rfl)) rfl⟩
theorem yk_N_about : yOK mN_about 1 := ⟨⟨by decide, by decide, by decide +kernel⟩, by decide +kernel, by decide, gw_of (tb_6 (List.mem_of_getElem? (i := 45) rfl)) rfl, gw_of (tb_1 (List.mem_of_getElem? (i := 1) rfl)) rfl⟩
theorem yk_N_aboutTheRest : yOK mN_aboutTheRest 1 := ⟨⟨by decide, by decide, by decide +kernel⟩, by decide +kernel, by decide, gw_of (tb_6 (List.mem_of_getElem? (i := 49) rfl)) rfl, gw_of (tb_1 (List.mem_of_getElem? (i := 1) rfl)) rfl⟩
theorem yk_M_init : yOK mM_init 0 := ⟨⟨by decide, by decide, by decide +kernel⟩, by decide +kernel, by decide, gw_of (tb_6 (List.mem_of_getElem? (i := 54) rfl)) rfl, gw_of (tb_1 (List.mem_of_getElem? (i := 12) rfl)) rfl⟩
theorem yk_M_feed : yOK mM_feed 5 := ⟨⟨by decide, by decide, by decide +kernel⟩, by decide +kernel, by decide, gw_of (tb_7 (List.mem_of_getElem? (i := 60) rfl)) rfl, gw_of (tb_1 (List.mem_of_getElem? (i := 12) rfl)) rfl⟩
theorem yk_M_four : yOK mM_four 1 := ⟨⟨by decide, by decide, by decide +kernel⟩, by decide +kernel, by decide, gw_of (tb_7 (List.mem_of_getElem? (i := 64) rfl)) rfl, gw_of (tb_1 (List.mem_of_getElem? (i := 12) rfl)) rfl⟩
theorem yk_M_end : yOK mM_end 1 := ⟨⟨by decide, by decide, by decide +kernel⟩, by decide +kernel, by decide, gw_of (tb_7 (List.mem_of_getElem? (i := 68) rfl)) rfl, gw_of (tb_1 (List.mem_of_getElem? (i := 12) rfl)) rfl⟩
theorem yk_M_score : yOK mM_score 0 := ⟨⟨by decide, by decide, by decide +kernel⟩, by decide +kernel, by decide, gw_of (tb_7 (List.mem_of_getElem? (i := 72) rfl)) rfl, gw_of (tb_1 (List.mem_of_getElem? (i := 12) rfl)) rfl⟩
theorem yk_M_readAll : yOK mM_readAll 0 := ⟨⟨by decide, by decide, by decide +kernel⟩, by decide +kernel, by decide, gw_of (tb_7 (List.mem_of_getElem? (i := 76) rfl)) rfl, gw_of (tb_1 (List.mem_of_getElem? (i := 12) rfl)) rfl⟩
theorem yk_M_token : yOK mM_token 0 := ⟨⟨by decide, by decide, by decide +kernel⟩, by decide +kernel, by decide, gw_of (tb_7 (List.mem_of_getElem? (i := 80) rfl)) rfl, gw_of (tb_1 (List.mem_of_getElem? (i := 12) rfl)) rfl⟩
theorem yk_M_here : yOK mM_here 1 := ⟨⟨by decide, by decide, by decide +kernel⟩, by decide +kernel, by decide, gw_of (tb_7 (List.mem_of_getElem? (i := 84) rfl)) rfl, gw_of (tb_1 (List.mem_of_getElem? (i := 12) rfl)) rfl⟩
theorem yk_M_isLetter : yOK mM_isLetter 1 := ⟨⟨by decide, by decide, by decide +kernel⟩, by decide +kernel, by decide, gw_of (tb_7 (List.mem_of_getElem? (i := 87) rfl)) rfl, gw_of (tb_1 (List.mem_of_getElem? (i := 12) rfl)) rfl⟩
theorem yk_M_isDigit : yOK mM_isDigit 1 := ⟨⟨by decide, by decide, by decide +kernel⟩, by decide +kernel, by decide, gw_of (tb_7 (List.mem_of_getElem? (i := 90) rfl)) rfl, gw_of (tb_1 (List.mem_of_getElem? (i := 12) rfl)) rfl⟩
theorem yk_M_isSign : yOK mM_isSign 1 := ⟨⟨by decide, by decide, by decide +kernel⟩, by decide +kernel, by decide, gw_of (tb_7 (List.mem_of_getElem? (i := 93) rfl)) rfl, gw_of (tb_1 (List.mem_of_getElem? (i := 12) rfl)) rfl⟩
theorem yk_M_readLine : yOK mM_readLine 0 := ⟨⟨by decide, by decide, by decide +kernel⟩, by decide +kernel, by decide, gw_of (tb_7 (List.mem_of_getElem? (i := 97) rfl)) rfl, gw_of (tb_1 (List.mem_of_getElem? (i := 12) rfl)) rfl⟩
theorem yk_M_isWord : yOK mM_isWord 1 := ⟨⟨by decide, by decide, by decide +kernel⟩, by decide +kernel, by decide, gw_of (tb_7 (List.mem_of_getElem? (i := 102) rfl)) rfl, gw_of (tb_1 (List.mem_of_getElem? (i := 12) rfl)) rfl⟩
theorem yk_M_told : yOK mM_told 3 := ⟨⟨by decide, by decide, by decide +kernel⟩, by decide +kernel, by decide, gw_of (tb_7 (List.mem_of_getElem? (i := 106) rfl)) rfl, gw_of (tb_1 (List.mem_of_getElem? (i := 12) rfl)) rfl⟩
theorem yk_M_want : yOK mM_want 1 := ⟨⟨by decide, by decide, by decide +kernel⟩, by decide +kernel, by decide, gw_of (tb_7 (List.mem_of_getElem? (i := 110) rfl)) rfl, gw_of (tb_1 (List.mem_of_getElem? (i := 12) rfl)) rfl⟩
theorem yk_M_wrong : yOK mM_wrong 1 := ⟨⟨by decide, by decide, by decide +kernel⟩, by decide +kernel, by decide, gw_of (tb_7 (List.mem_of_getElem? (i := 114) rfl)) rfl, gw_of (tb_1 (List.mem_of_getElem? (i := 12) rfl)) rfl⟩
theorem yk_M_toldNumber : yOK mM_toldNumber 2 := ⟨⟨by decide, by decide, by decide +kernel⟩, by decide +kernel, by decide, gw_of (tb_7 (List.mem_of_getElem? (i := 118) rfl)) rfl, gw_of (tb_1 (List.mem_of_getElem? (i := 12) rfl)) rfl⟩
theorem yk_M_readPart : yOK mM_readPart 0 := ⟨⟨by decide, by decide, by decide +kernel⟩, by decide +kernel, by decide, gw_of (tb_7 (List.mem_of_getElem? (i := 123) rfl)) rfl, gw_of (tb_1 (List.mem_of_getElem? (i := 12) rfl)) rfl⟩
theorem yk_M_newName : yOK mM_newName 2 := ⟨⟨by decide, by decide, by decide +kernel⟩, by decide +kernel, by decide, gw_of (tb_7 (List.mem_of_getElem? (i := 127) rfl)) rfl, gw_of (tb_1 (List.mem_of_getElem? (i := 12) rfl)) rfl⟩
theorem yk_M_isName : yOK mM_isName 0 := ⟨⟨by decide, by decide, by decide +kernel⟩, by decide +kernel, by decide, gw_of (tb_7 (List.mem_of_getElem? (i := 131) rfl)) rfl, gw_of (tb_1 (List.mem_of_getElem? (i := 12) rfl)) rfl⟩
theorem yk_M_isOwn : yOK mM_isOwn 0 := ⟨⟨by decide, by decide, by decide +kernel⟩, by decide +kernel, by decide, gw_of (tb_7 (List.mem_of_getElem? (i := 135) rfl)) rfl, gw_of (tb_1 (List.mem_of_getElem? (i := 12) rfl)) rfl⟩
theorem yk_M_find : yOK mM_find 2 := ⟨⟨by decide, by decide, by decide +kernel⟩, by decide +kernel, by decide, gw_of (tb_7 (List.mem_of_getElem? (i := 158) rfl)) rfl, gw_of (tb_1 (List.mem_of_getElem? (i := 12) rfl)) rfl⟩
theorem yk_M_truth : yOK mM_truth 1 := ⟨⟨by decide, by decide, by decide +kernel⟩, by decide +kernel, by decide, gw_of (tb_7 (List.mem_of_getElem? (i := 161) rfl)) rfl, gw_of (tb_1 (List.mem_of_getElem? (i := 12) rfl)) rfl⟩
theorem yk_M_readNote : yOK mM_readNote 0 := ⟨⟨by decide, by decide, by decide +kernel⟩, by decide +kernel, by decide, gw_of (tb_7 (List.mem_of_getElem? (i := 165) rfl)) rfl, gw_of (tb_1 (List.mem_of_getElem? (i := 12) rfl)) rfl⟩
theorem yk_M_oldPart : yOK mM_oldPart 0 := ⟨⟨by decide, by decide, by decide +kernel⟩, by decide +kernel, by decide, gw_of (tb_7 (List.mem_of_getElem? (i := 169) rfl)) rfl, gw_of (tb_1 (List.mem_of_getElem? (i := 12) rfl)) rfl⟩
theorem yk_M_formula : yOK mM_formula 0 := ⟨⟨by decide, by decide, by decide +kernel⟩, by decide +kernel, by decide, gw_of (tb_7 (List.mem_of_getElem? (i := 173) rfl)) rfl, gw_of (tb_1 (List.mem_of_getElem? (i := 12) rfl)) rfl⟩
theorem yk_M_unit : yOK mM_unit 0 := ⟨⟨by decide, by decide, by decide +kernel⟩, by decide +kernel, by decide, gw_of (tb_7 (List.mem_of_getElem? (i := 177) rfl)) rfl, gw_of (tb_1 (List.mem_of_getElem? (i := 12) rfl)) rfl⟩
theorem yk_M_mayNot : yOK mM_mayNot 0 := ⟨⟨by decide, by decide, by decide +kernel⟩, by decide +kernel, by decide, gw_of (tb_7 (List.mem_of_getElem? (i := 181) rfl)) rfl, gw_of (tb_1 (List.mem_of_getElem? (i := 12) rfl)) rfl⟩
theorem yk_M_tight : yOK mM_tight 1 := ⟨⟨by decide, by decide, by decide +kernel⟩, by decide +kernel, by decide, gw_of (tb_7 (List.mem_of_getElem? (i := 184) rfl)) rfl, gw_of (tb_1 (List.mem_of_getElem? (i := 12) rfl)) rfl⟩
theorem yk_M_openUp : yOK mM_openUp 1 := ⟨⟨by decide, by decide, by decide +kernel⟩, by decide +kernel, by decide, gw_of (tb_7 (List.mem_of_getElem? (i := 188) rfl)) rfl, gw_of (tb_1 (List.mem_of_getElem? (i := 12) rfl)) rfl⟩
theorem yk_M_isFull : yOK mM_isFull 0 := ⟨⟨by decide, by decide, by decide +kernel⟩, by decide +kernel, by decide, gw_of (tb_7 (List.mem_of_getElem? (i := 192) rfl)) rfl, gw_of (tb_1 (List.mem_of_getElem? (i := 12) rfl)) rfl⟩
theorem yk_M_countUnit : yOK mM_countUnit 0 := ⟨⟨by decide, by decide, by decide +kernel⟩, by decide +kernel, by decide, gw_of (tb_7 (List.mem_of_getElem? (i := 196) rfl)) rfl, gw_of (tb_1 (List.mem_of_getElem? (i := 12) rfl)) rfl⟩
theorem yk_M_asked : yOK mM_asked 0 := ⟨⟨by decide, by decide, by decide +kernel⟩, by decide +kernel, by decide, gw_of (tb_7 (List.mem_of_getElem? (i := 200) rfl)) rfl, gw_of (tb_1 (List.mem_of_getElem? (i := 12) rfl)) rfl⟩
theorem yk_M_add : yOK mM_add 2 := ⟨⟨by decide, by decide, by decide +kernel⟩, by decide +kernel, by decide, gw_of (tb_7 (List.mem_of_getElem? (i := 204) rfl)) rfl, gw_of (tb_1 (List.mem_of_getElem? (i := 12) rfl)) rfl⟩
theorem yk_M_sign : yOK mM_sign 0 := ⟨⟨by decide, by decide, by decide +kernel⟩, by decide +kernel, by decide, gw_of (tb_7 (List.mem_of_getElem? (i := 208) rfl)) rfl, gw_of (tb_1 (List.mem_of_getElem? (i := 12) rfl)) rfl⟩
theorem yk_M_hasBracket : yOK mM_hasBracket 0 := ⟨⟨by decide, by decide, by decide +kernel⟩, by decide +kernel, by decide, gw_of (tb_7 (List.mem_of_getElem? (i := 212) rfl)) rfl, gw_of (tb_1 (List.mem_of_getElem? (i := 12) rfl)) rfl⟩
theorem yk_M_close : yOK mM_close 1 := ⟨⟨by decide, by decide, by decide +kernel⟩, by decide +kernel, by decide, gw_of (tb_7 (List.mem_of_getElem? (i := 216) rfl)) rfl, gw_of (tb_1 (List.mem_of_getElem? (i := 12) rfl)) rfl⟩
theorem yk_M_hasRelation : yOK mM_hasRelation 0 := ⟨⟨by decide, by decide, by decide +kernel⟩, by decide +kernel, by decide, gw_of (tb_7 (List.mem_of_getElem? (i := 220) rfl)) rfl, gw_of (tb_1 (List.mem_of_getElem? (i := 12) rfl)) rfl⟩
theorem yk_M_begin : yOK mM_begin 0 := ⟨⟨by decide, by decide, by decide +kernel⟩, by decide +kernel, by decide, gw_of (tb_7 (List.mem_of_getElem? (i := 224) rfl)) rfl, gw_of (tb_1 (List.mem_of_getElem? (i := 12) rfl)) rfl⟩
theorem yk_M_keepAir : yOK mM_keepAir 0 := ⟨⟨by decide, by decide, by decide +kernel⟩, by decide +kernel, by decide, gw_of (tb_7 (List.mem_of_getElem? (i := 228) rfl)) rfl, gw_of (tb_1 (List.mem_of_getElem? (i := 12) rfl)) rfl⟩
theorem yk_M_fault : yOK mM_fault 1 := ⟨⟨by decide, by decide, by decide +kernel⟩, by decide +kernel, by decide, gw_of (tb_7 (List.mem_of_getElem? (i := 232) rfl)) rfl, gw_of (tb_1 (List.mem_of_getElem? (i := 12) rfl)) rfl⟩
theorem yk_M_note : yOK mM_note 2 := ⟨⟨by decide, by decide, by decide +kernel⟩, by decide +kernel, by decide, gw_of (tb_7 (List.mem_of_getElem? (i := 236) rfl)) rfl, gw_of (tb_1 (List.mem_of_getElem? (i := 12) rfl)) rfl⟩
theorem yk_M_isNote : yOK mM_isNote 1 := ⟨⟨by decide, by decide, by decide +kernel⟩, by decide +kernel, by decide, gw_of (tb_8 (List.mem_of_getElem? (i := 0) rfl)) rfl, gw_of (tb_1 (List.mem_of_getElem? (i := 12) rfl)) rfl⟩
theorem yk_M_isIn : yOK mM_isIn 3 := ⟨⟨by decide, by decide, by decide +kernel⟩, by decide +kernel, by decide, gw_of (tb_8 (List.mem_of_getElem? (i := 3) rfl)) rfl, gw_of (tb_1 (List.mem_of_getElem? (i := 12) rfl)) rfl⟩
theorem yk_M_fill : yOK mM_fill 0 := ⟨⟨by decide, by decide, by decide +kernel⟩, by decide +kernel, by decide, gw_of (tb_8 (List.mem_of_getElem? (i := 7) rfl)) rfl, gw_of (tb_1 (List.mem_of_getElem? (i := 12) rfl)) rfl⟩
theorem yk_M_layHold : yOK mM_layHold 0 := ⟨⟨by decide, by decide, by decide +kernel⟩, by decide +kernel, by decide, gw_of (tb_8 (List.mem_of_getElem? (i := 11) rfl)) rfl, gw_of (tb_1 (List.mem_of_getElem? (i := 12) rfl)) rfl⟩
theorem yk_M_missedOf : yOK mM_missedOf 1 := ⟨⟨by decide, by decide, by decide +kernel⟩, by decide +kernel, by decide, gw_of (tb_8 (List.mem_of_getElem? (i := 15) rfl)) rfl, gw_of (tb_1 (List.mem_of_getElem? (i := 12) rfl)) rfl⟩
theorem yk_M_doubles : yOK mM_doubles 1 := ⟨⟨by decide, by decide, by decide +kernel⟩, by decide +kernel, by decide, gw_of (tb_8 (List.mem_of_getElem? (i := 19) rfl)) rfl, gw_of (tb_1 (List.mem_of_getElem? (i := 12) rfl)) rfl⟩
theorem yk_M_plain : yOK mM_plain 1 := ⟨⟨by decide, by decide, by decide +kernel⟩, by decide +kernel, by decide, gw_of (tb_8 (List.mem_of_getElem? (i := 22) rfl)) rfl, gw_of (tb_1 (List.mem_of_getElem? (i := 12) rfl)) rfl⟩
theorem yk_M_members : yOK mM_members 1 := ⟨⟨by decide, by decide, by decide +kernel⟩, by decide +kernel, by decide, gw_of (tb_8 (List.mem_of_getElem? (i := 25) rfl)) rfl, gw_of (tb_1 (List.mem_of_getElem? (i := 12) rfl)) rfl⟩
theorem yk_M_within : yOK mM_within 2 := ⟨⟨by decide, by decide, by decide +kernel⟩, by decide +kernel, by decide, gw_of (tb_8 (List.mem_of_getElem? (i := 28) rfl)) rfl, gw_of (tb_1 (List.mem_of_getElem? (i := 12) rfl)) rfl⟩
theorem yk_M_done : yOK mM_done 3 := ⟨⟨by decide, by decide, by decide +kernel⟩, by decide +kernel, by decide, gw_of (tb_8 (List.mem_of_getElem? (i := 31) rfl)) rfl, gw_of (tb_1 (List.mem_of_getElem? (i := 12) rfl)) rfl⟩
theorem yk_M_part : yOK mM_part 2 := ⟨⟨by decide, by decide, by decide +kernel⟩, by decide +kernel, by decide, gw_of (tb_8 (List.mem_of_getElem? (i := 35) rfl)) rfl, gw_of (tb_1 (List.mem_of_getElem? (i := 12) rfl)) rfl⟩
theorem yk_M_notesOf : yOK mM_notesOf 1 := ⟨⟨by decide, by decide, by decide +kernel⟩, by decide +kernel, by decide, gw_of (tb_8 (List.mem_of_getElem? (i := 39) rfl)) rfl, gw_of (tb_1 (List.mem_of_getElem? (i := 12) rfl)) rfl⟩
theorem yk_M_given : yOK mM_given 1 := ⟨⟨by decide, by decide, by decide +kernel⟩, by decide +kernel, by decide, gw_of (tb_8 (List.mem_of_getElem? (i := 43) rfl)) rfl, gw_of (tb_1 (List.mem_of_getElem? (i := 12) rfl)) rfl⟩
theorem yk_M_held : yOK mM_held 2 := ⟨⟨by decide, by decide, by decide +kernel⟩, by decide +kernel, by decide, gw_of (tb_8 (List.mem_of_getElem? (i := 47) rfl)) rfl, gw_of (tb_1 (List.mem_of_getElem? (i := 12) rfl)) rfl⟩
theorem yk_M_isBeat : yOK mM_isBeat 1 := ⟨⟨by decide, by decide, by decide +kernel⟩, by decide +kernel, by decide, gw_of (tb_8 (List.mem_of_getElem? (i := 51) rfl)) rfl, gw_of (tb_1 (List.mem_of_getElem? (i := 12) rfl)) rfl⟩
theorem yk_M_isHand : yOK mM_isHand 1 := ⟨⟨by decide, by decide, by decide +kernel⟩, by decide +kernel, by decide, gw_of (tb_8 (List.mem_of_getElem? (i := 54) rfl)) rfl, gw_of (tb_1 (List.mem_of_getElem? (i := 12) rfl)) rfl⟩
theorem yk_M_sounds : yOK mM_sounds 1 := ⟨⟨by decide, by decide, by decide +kernel⟩, by decide +kernel, by decide, gw_of (tb_8 (List.mem_of_getElem? (i := 58) rfl)) rfl, gw_of (tb_1 (List.mem_of_getElem? (i := 12) rfl)) rfl⟩
theorem yk_M_laySound : yOK mM_laySound 0 := ⟨⟨by decide, by decide, by decide +kernel⟩, by decide +kernel, by decide, gw_of (tb_8 (List.mem_of_getElem? (i := 62) rfl)) rfl, gw_of (tb_1 (List.mem_of_getElem? (i := 12) rfl)) rfl⟩
theorem yk_M_clash : yOK mM_clash 1 := ⟨⟨by decide, by decide, by decide +kernel⟩, by decide +kernel, by decide, gw_of (tb_8 (List.mem_of_getElem? (i := 66) rfl)) rfl, gw_of (tb_1 (List.mem_of_getElem? (i := 12) rfl)) rfl⟩
theorem yk_M_clashBy : yOK mM_clashBy 5 := ⟨⟨by decide, by decide, by decide +kernel⟩, by decide +kernel, by decide, gw_of (tb_8 (List.mem_of_getElem? (i := 70) rfl)) rfl, gw_of (tb_1 (List.mem_of_getElem? (i := 12) rfl)) rfl⟩
theorem yk_M_ownClash : yOK mM_ownClash 4 := ⟨⟨by decide, by decide, by decide +kernel⟩, by decide +kernel, by decide, gw_of (tb_8 (List.mem_of_getElem? (i := 74) rfl)) rfl, gw_of (tb_1 (List.mem_of_getElem? (i := 12) rfl)) rfl⟩
theorem yk_M_lowest : yOK mM_lowest 1 := ⟨⟨by decide, by decide, by decide +kernel⟩, by decide +kernel, by decide, gw_of (tb_8 (List.mem_of_getElem? (i := 78) rfl)) rfl, gw_of (tb_1 (List.mem_of_getElem? (i := 12) rfl)) rfl⟩
theorem yk_M_highest : yOK mM_highest 1 := ⟨⟨by decide, by decide, by decide +kernel⟩, by decide +kernel, by decide, gw_of (tb_8 (List.mem_of_getElem? (i := 83) rfl)) rfl, gw_of (tb_1 (List.mem_of_getElem? (i := 12) rfl)) rfl⟩
theorem yk_M_hasTwins : yOK mM_hasTwins 1 := ⟨⟨by decide, by decide, by decide +kernel⟩, by decide +kernel, by decide, gw_of (tb_8 (List.mem_of_getElem? (i := 87) rfl)) rfl, gw_of (tb_1 (List.mem_of_getElem? (i := 12) rfl)) rfl⟩
theorem yk_M_clashes : yOK mM_clashes 0 := ⟨⟨by decide, by decide, by decide +kernel⟩, by decide +kernel, by decide, gw_of (tb_8 (List.mem_of_getElem? (i := 91) rfl)) rfl, gw_of (tb_1 (List.mem_of_getElem? (i := 12) rfl)) rfl⟩
theorem yk_M_clashBeats : yOK mM_clashBeats 1 := ⟨⟨by decide, by decide, by decide +kernel⟩, by decide +kernel, by decide, gw_of (tb_8 (List.mem_of_getElem? (i := 95) rfl)) rfl, gw_of (tb_1 (List.mem_of_getElem? (i := 12) rfl)) rfl⟩
theorem yk_M_give : yOK mM_give 2 := ⟨⟨by decide, by decide, by decide +kernel⟩, by decide +kernel, by decide, gw_of (tb_8 (List.mem_of_getElem? (i := 99) rfl)) rfl, gw_of (tb_1 (List.mem_of_getElem? (i := 12) rfl)) rfl⟩
theorem yk_M_act : yOK mM_act 0 := ⟨⟨by decide, by decide, by decide +kernel⟩, by decide +kernel, by decide, gw_of (tb_8 (List.mem_of_getElem? (i := 103) rfl)) rfl, gw_of (tb_1 (List.mem_of_getElem? (i := 12) rfl)) rfl⟩
theorem yk_M_shift : yOK mM_shift 2 := ⟨⟨by decide, by decide, by decide +kernel⟩, by decide +kernel, by decide, gw_of (tb_8 (List.mem_of_getElem? (i := 108) rfl)) rfl, gw_of (tb_1 (List.mem_of_getElem? (i := 12) rfl)) rfl⟩
theorem yk_M_louder : yOK mM_louder 2 := ⟨⟨by decide, by decide, by decide +kernel⟩, by decide +kernel, by decide, gw_of (tb_8 (List.mem_of_getElem? (i := 112) rfl)) rfl, gw_of (tb_1 (List.mem_of_getElem? (i := 12) rfl)) rfl⟩
theorem yk_M_change : yOK mM_change 2 := ⟨⟨by decide, by decide, by decide +kernel⟩, by decide +kernel, by decide, gw_of (tb_8 (List.mem_of_getElem? (i := 116) rfl)) rfl, gw_of (tb_1 (List.mem_of_getElem? (i := 12) rfl)) rfl⟩
theorem yk_M_last : yOK mM_last 2 := ⟨⟨by decide, by decide, by decide +kernel⟩, by decide +kernel, by decide, gw_of (tb_8 (List.mem_of_getElem? (i := 120) rfl)) rfl, gw_of (tb_1 (List.mem_of_getElem? (i := 12) rfl)) rfl⟩
theorem yk_M_pedal : yOK mM_pedal 1 := ⟨⟨by decide, by decide, by decide +kernel⟩, by decide +kernel, by decide, gw_of (tb_8 (List.mem_of_getElem? (i := 124) rfl)) rfl, gw_of (tb_1 (List.mem_of_getElem? (i := 12) rfl)) rfl⟩
theorem yk_M_undo : yOK mM_undo 0 := ⟨⟨by decide, by decide, by decide +kernel⟩, by decide +kernel, by decide, gw_of (tb_8 (List.mem_of_getElem? (i := 128) rfl)) rfl, gw_of (tb_1 (List.mem_of_getElem? (i := 12) rfl)) rfl⟩
theorem yk_M_exchange : yOK mM_exchange 1 := ⟨⟨by decide, by decide, by decide +kernel⟩, by decide +kernel, by decide, gw_of (tb_8 (List.mem_of_getElem? (i := 132) rfl)) rfl, gw_of (tb_1 (List.mem_of_getElem? (i := 12) rfl)) rfl⟩
theorem yk_M_redo : yOK mM_redo 0 := ⟨⟨by decide, by decide, by decide +kernel⟩, by decide +kernel, by decide, gw_of (tb_8 (List.mem_of_getElem? (i := 136) rfl)) rfl, gw_of (tb_1 (List.mem_of_getElem? (i := 12) rfl)) rfl⟩
theorem yk_M_loss : yOK mM_loss 0 := ⟨⟨by decide, by decide, by decide +kernel⟩, by decide +kernel, by decide, gw_of (tb_8 (List.mem_of_getElem? (i := 140) rfl)) rfl, gw_of (tb_1 (List.mem_of_getElem? (i := 12) rfl)) rfl⟩
theorem yk_M_layMissed : yOK mM_layMissed 0 := ⟨⟨by decide, by decide, by decide +kernel⟩, by decide +kernel, by decide, gw_of (tb_8 (List.mem_of_getElem? (i := 144) rfl)) rfl, gw_of (tb_1 (List.mem_of_getElem? (i := 12) rfl)) rfl⟩
theorem yk_M_missedBy : yOK mM_missedBy 1 := ⟨⟨by decide, by decide, by decide +kernel⟩, by decide +kernel, by decide, gw_of (tb_8 (List.mem_of_getElem? (i := 148) rfl)) rfl, gw_of (tb_1 (List.mem_of_getElem? (i := 12) rfl)) rfl⟩
theorem yk_M_version : yOK mM_version 1 := ⟨⟨by decide, by decide, by decide +kernel⟩, by decide +kernel, by decide, gw_of (tb_8 (List.mem_of_getElem? (i := 152) rfl)) rfl, gw_of (tb_1 (List.mem_of_getElem? (i := 12) rfl)) rfl⟩
theorem yk_M_best : yOK mM_best 2 := ⟨⟨by decide, by decide, by decide +kernel⟩, by decide +kernel, by decide, gw_of (tb_8 (List.mem_of_getElem? (i := 156) rfl)) rfl, gw_of (tb_1 (List.mem_of_getElem? (i := 12) rfl)) rfl⟩
theorem yk_M_power : yOK mM_power 2 := ⟨⟨by decide, by decide, by decide +kernel⟩, by decide +kernel, by decide, gw_of (tb_8 (List.mem_of_getElem? (i := 159) rfl)) rfl, gw_of (tb_1 (List.mem_of_getElem? (i := 12) rfl)) rfl⟩
theorem yk_M_layVersion : yOK mM_layVersion 1 := ⟨⟨by decide, by decide, by decide +kernel⟩, by decide +kernel, by decide, gw_of (tb_8 (List.mem_of_getElem? (i := 163) rfl)) rfl, gw_of (tb_1 (List.mem_of_getElem? (i := 12) rfl)) rfl⟩
theorem yk_M_rowOf : yOK mM_rowOf 1 := ⟨⟨by decide, by decide, by decide +kernel⟩, by decide +kernel, by decide, gw_of (tb_8 (List.mem_of_getElem? (i := 167) rfl)) rfl, gw_of (tb_1 (List.mem_of_getElem? (i := 12) rfl)) rfl⟩
theorem yk_M_canBePlayed : yOK mM_canBePlayed 4 := ⟨⟨by decide, by decide, by decide +kernel⟩, by decide +kernel, by decide, gw_of (tb_8 (List.mem_of_getElem? (i := 171) rfl)) rfl, gw_of (tb_1 (List.mem_of_getElem? (i := 12) rfl)) rfl⟩
theorem yk_M_child : yOK mM_child 2 := ⟨⟨by decide, by decide, by decide +kernel⟩, by decide +kernel, by decide, gw_of (tb_8 (List.mem_of_getElem? (i := 175) rfl)) rfl, gw_of (tb_1 (List.mem_of_getElem? (i := 12) rfl)) rfl⟩
theorem yk_M_forbids : yOK mM_forbids 2 := ⟨⟨by decide, by decide, by decide +kernel⟩, by decide +kernel, by decide, gw_of (tb_8 (List.mem_of_getElem? (i := 179) rfl)) rfl, gw_of (tb_1 (List.mem_of_getElem? (i := 12) rfl)) rfl⟩
theorem yk_M_isOut : yOK mM_isOut 1 := ⟨⟨by decide, by decide, by decide +kernel⟩, by decide +kernel, by decide, gw_of (tb_8 (List.mem_of_getElem? (i := 183) rfl)) rfl, gw_of (tb_1 (List.mem_of_getElem? (i := 12) rfl)) rfl⟩
theorem yk_M_forbidden : yOK mM_forbidden 2 := ⟨⟨by decide, by decide, by decide +kernel⟩, by decide +kernel, by decide, gw_of (tb_8 (List.mem_of_getElem? (i := 187) rfl)) rfl, gw_of (tb_1 (List.mem_of_getElem? (i := 12) rfl)) rfl⟩
theorem yk_M_could : yOK mM_could 1 := ⟨⟨by decide, by decide, by decide +kernel⟩, by decide +kernel, by decide, gw_of (tb_8 (List.mem_of_getElem? (i := 191) rfl)) rfl, gw_of (tb_1 (List.mem_of_getElem? (i := 12) rfl)) rfl⟩
theorem yk_M_giveway : yOK mM_giveway 3 := ⟨⟨by decide, by decide, by decide +kernel⟩, by decide +kernel, by decide, gw_of (tb_8 (List.mem_of_getElem? (i := 195) rfl)) rfl, gw_of (tb_1 (List.mem_of_getElem? (i := 12) rfl)) rfl⟩
theorem yk_M_letin : yOK mM_letin 2 := ⟨⟨by decide, by decide, by decide +kernel⟩, by decide +kernel, by decide, gw_of (tb_8 (List.mem_of_getElem? (i := 199) rfl)) rfl, gw_of (tb_1 (List.mem_of_getElem? (i := 12) rfl)) rfl⟩
theorem yk_M_letsIn : yOK mM_letsIn 3 := ⟨⟨by decide, by decide, by decide +kernel⟩, by decide +kernel, by decide, gw_of (tb_8 (List.mem_of_getElem? (i := 203) rfl)) rfl, gw_of (tb_1 (List.mem_of_getElem? (i := 12) rfl)) rfl⟩
theorem yk_M_canBePlayedSo : yOK mM_canBePlayedSo 0 := ⟨⟨by decide, by decide, by decide +kernel⟩, by decide +kernel, by decide, gw_of (tb_8 (List.mem_of_getElem? (i := 207) rfl)) rfl, gw_of (tb_1 (List.mem_of_getElem? (i := 12) rfl)) rfl⟩
theorem yk_M_pedals : yOK mM_pedals 1 := ⟨⟨by decide, by decide, by decide +kernel⟩, by decide +kernel, by decide, gw_of (tb_8 (List.mem_of_getElem? (i := 211) rfl)) rfl, gw_of (tb_1 (List.mem_of_getElem? (i := 12) rfl)) rfl⟩
theorem yk_M_spread : yOK mM_spread 1 := ⟨⟨by decide, by decide, by decide +kernel⟩, by decide +kernel, by decide, gw_of (tb_8 (List.mem_of_getElem? (i := 215) rfl)) rfl, gw_of (tb_1 (List.mem_of_getElem? (i := 12) rfl)) rfl⟩
theorem yk_M_greater : yOK mM_greater 2 := ⟨⟨by decide, by decide, by decide +kernel⟩, by decide +kernel, by decide, gw_of (tb_8 (List.mem_of_getElem? (i := 218) rfl)) rfl, gw_of (tb_1 (List.mem_of_getElem? (i := 12) rfl)) rfl⟩
theorem yk_M_leaps : yOK mM_leaps 1 := ⟨⟨by decide, by decide, by decide +kernel⟩, by decide +kernel, by decide, gw_of (tb_8 (List.mem_of_getElem? (i := 222) rfl)) rfl, gw_of (tb_1 (List.mem_of_getElem? (i := 12) rfl)) rfl⟩
theorem yk_M_busiest : yOK mM_busiest 1 := ⟨⟨by decide, by decide, by decide +kernel⟩, by decide +kernel, by decide, gw_of (tb_8 (List.mem_of_getElem? (i := 226) rfl)) rfl, gw_of (tb_1 (List.mem_of_getElem? (i := 12) rfl)) rfl⟩
theorem yk_M_blur : yOK mM_blur 0 := ⟨⟨by decide, by decide, by decide +kernel⟩, by decide +kernel, by decide, gw_of (tb_8 (List.mem_of_getElem? (i := 230) rfl)) rfl, gw_of (tb_1 (List.mem_of_getElem? (i := 12) rfl)) rfl⟩
theorem yk_M_blurs : yOK mM_blurs 3 := ⟨⟨by decide, by decide, by decide +kernel⟩, by decide +kernel, by decide, gw_of (tb_8 (List.mem_of_getElem? (i := 234) rfl)) rfl, gw_of (tb_1 (List.mem_of_getElem? (i := 12) rfl)) rfl⟩
theorem yk_M_open : yOK mM_open 1 := ⟨⟨by decide, by decide, by decide +kernel⟩, by decide +kernel, by decide, gw_of (tb_8 (List.mem_of_getElem? (i := 238) rfl)) rfl, gw_of (tb_1 (List.mem_of_getElem? (i := 12) rfl)) rfl⟩
theorem yk_M_openAt : yOK mM_openAt 1 := ⟨⟨by decide, by decide, by decide +kernel⟩, by decide +kernel, by decide, gw_of (tb_9 (List.mem_of_getElem? (i := 2) rfl)) rfl, gw_of (tb_1 (List.mem_of_getElem? (i := 12) rfl)) rfl⟩
theorem yk_M_lost : yOK mM_lost 0 := ⟨⟨by decide, by decide, by decide +kernel⟩, by decide +kernel, by decide, gw_of (tb_9 (List.mem_of_getElem? (i := 6) rfl)) rfl, gw_of (tb_1 (List.mem_of_getElem? (i := 12) rfl)) rfl⟩
theorem yk_M_tunes : yOK mM_tunes 0 := ⟨⟨by decide, by decide, by decide +kernel⟩, by decide +kernel, by decide, gw_of (tb_9 (List.mem_of_getElem? (i := 10) rfl)) rfl, gw_of (tb_1 (List.mem_of_getElem? (i := 12) rfl)) rfl⟩
theorem yk_M_gaps : yOK mM_gaps 0 := ⟨⟨by decide, by decide, by decide +kernel⟩, by decide +kernel, by decide, gw_of (tb_9 (List.mem_of_getElem? (i := 14) rfl)) rfl, gw_of (tb_1 (List.mem_of_getElem? (i := 12) rfl)) rfl⟩
theorem yk_M_easier : yOK mM_easier 1 := ⟨⟨by decide, by decide, by decide +kernel⟩, by decide +kernel, by decide, gw_of (tb_9 (List.mem_of_getElem? (i := 18) rfl)) rfl, gw_of (tb_1 (List.mem_of_getElem? (i := 12) rfl)) rfl⟩
theorem yk_M_thickest : yOK mM_thickest 0 := ⟨⟨by decide, by decide, by decide +kernel⟩, by decide +kernel, by decide, gw_of (tb_9 (List.mem_of_getElem? (i := 22) rfl)) rfl, gw_of (tb_1 (List.mem_of_getElem? (i := 12) rfl)) rfl⟩
theorem yk_M_law : yOK mM_law 1 := ⟨⟨by decide, by decide, by decide +kernel⟩, by decide +kernel, by decide, gw_of (tb_9 (List.mem_of_getElem? (i := 26) rfl)) rfl, gw_of (tb_1 (List.mem_of_getElem? (i := 12) rfl)) rfl⟩
theorem yk_M_dearest : yOK mM_dearest 0 := ⟨⟨by decide, by decide, by decide +kernel⟩, by decide +kernel, by decide, gw_of (tb_9 (List.mem_of_getElem? (i := 30) rfl)) rfl, gw_of (tb_1 (List.mem_of_getElem? (i := 12) rfl)) rfl⟩
theorem yk_M_lies : yOK mM_lies 1 := ⟨⟨by decide, by decide, by decide +kernel⟩, by decide +kernel, by decide, gw_of (tb_9 (List.mem_of_getElem? (i := 34) rfl)) rfl, gw_of (tb_1 (List.mem_of_getElem? (i := 12) rfl)) rfl⟩
theorem yk_M_heard : yOK mM_heard 3 := ⟨⟨by decide, by decide, by decide +kernel⟩, by decide +kernel, by decide, gw_of (tb_9 (List.mem_of_getElem? (i := 38) rfl)) rfl, gw_of (tb_1 (List.mem_of_getElem? (i := 12) rfl)) rfl⟩
theorem yk_M_untell : yOK mM_untell 1 := ⟨⟨by decide, by decide, by decide +kernel⟩, by decide +kernel, by decide, gw_of (tb_9 (List.mem_of_getElem? (i := 42) rfl)) rfl, gw_of (tb_1 (List.mem_of_getElem? (i := 12) rfl)) rfl⟩
theorem yk_M_later : yOK mM_later 1 := ⟨⟨by decide, by decide, by decide +kernel⟩, by decide +kernel, by decide, gw_of (tb_9 (List.mem_of_getElem? (i := 46) rfl)) rfl, gw_of (tb_1 (List.mem_of_getElem? (i := 12) rfl)) rfl⟩
theorem yk_M_sets : yOK mM_sets 1 := ⟨⟨by decide, by decide, by decide +kernel⟩, by decide +kernel, by decide, gw_of (tb_9 (List.mem_of_getElem? (i := 51) rfl)) rfl, gw_of (tb_1 (List.mem_of_getElem? (i := 12) rfl)) rfl⟩
theorem yk_M_laySets : yOK mM_laySets 1 := ⟨⟨by decide, by decide, by decide +kernel⟩, by decide +kernel, by decide, gw_of (tb_9 (List.mem_of_getElem? (i := 55) rfl)) rfl, gw_of (tb_1 (List.mem_of_getElem? (i := 12) rfl)) rfl⟩
theorem yk_M_sayersOf : yOK mM_sayersOf 1 := ⟨⟨by decide, by decide, by decide +kernel⟩, by decide +kernel, by decide, gw_of (tb_9 (List.mem_of_getElem? (i := 59) rfl)) rfl, gw_of (tb_1 (List.mem_of_getElem? (i := 12) rfl)) rfl⟩
theorem yk_M_counts : yOK mM_counts 2 := ⟨⟨by decide, by decide, by decide +kernel⟩, by decide +kernel, by decide, gw_of (tb_9 (List.mem_of_getElem? (i := 63) rfl)) rfl, gw_of (tb_1 (List.mem_of_getElem? (i := 12) rfl)) rfl⟩
theorem yk_M_sure : yOK mM_sure 2 := ⟨⟨by decide, by decide, by decide +kernel⟩, by decide +kernel, by decide, gw_of (tb_9 (List.mem_of_getElem? (i := 67) rfl)) rfl, gw_of (tb_1 (List.mem_of_getElem? (i := 12) rfl)) rfl⟩
theorem yk_M_ask : yOK mM_ask 2 := ⟨⟨by decide, by decide, by decide +kernel⟩, by decide +kernel, by decide, gw_of (tb_9 (List.mem_of_getElem? (i := 71) rfl)) rfl, gw_of (tb_1 (List.mem_of_getElem? (i := 12) rfl)) rfl⟩
theorem yk_M_image : yOK mM_image 1 := ⟨⟨by decide, by decide, by decide +kernel⟩, by decide +kernel, by decide, gw_of (tb_9 (List.mem_of_getElem? (i := 75) rfl)) rfl, gw_of (tb_1 (List.mem_of_getElem? (i := 12) rfl)) rfl⟩
theorem yk_M_isBox : yOK mM_isBox 1 := ⟨⟨by decide, by decide, by decide +kernel⟩, by decide +kernel, by decide, gw_of (tb_9 (List.mem_of_getElem? (i := 78) rfl)) rfl, gw_of (tb_1 (List.mem_of_getElem? (i := 12) rfl)) rfl⟩
theorem yk_M_played : yOK mM_played 0 := ⟨⟨by decide, by decide, by decide +kernel⟩, by decide +kernel, by decide, gw_of (tb_9 (List.mem_of_getElem? (i := 82) rfl)) rfl, gw_of (tb_1 (List.mem_of_getElem? (i := 12) rfl)) rfl⟩
theorem yk_M_back : yOK mM_back 1 := ⟨⟨by decide, by decide, by decide +kernel⟩, by decide +kernel, by decide, gw_of (tb_9 (List.mem_of_getElem? (i := 86) rfl)) rfl, gw_of (tb_1 (List.mem_of_getElem? (i := 12) rfl)) rfl⟩
theorem yk_M_differ : yOK mM_differ 1 := ⟨⟨by decide, by decide, by decide +kernel⟩, by decide +kernel, by decide, gw_of (tb_9 (List.mem_of_getElem? (i := 90) rfl)) rfl, gw_of (tb_1 (List.mem_of_getElem? (i := 12) rfl)) rfl⟩
theorem yk_M_about : yOK mM_about 1 := ⟨⟨by decide, by decide, by decide +kernel⟩, by decide +kernel, by decide, gw_of (tb_9 (List.mem_of_getElem? (i := 94) rfl)) rfl, gw_of (tb_1 (List.mem_of_getElem? (i := 12) rfl)) rfl⟩
theorem ml_13_13 : mLV "NinetyPlayersLaw" 13 mN_feed 5 := ⟨yk_N_feed, gw_of (tb_2 (List.mem_of_getElem? (i := 235) rfl)) rfl, gw_of (tb_2 (List.mem_of_getElem? (i := 236) rfl)) rfl, gw_of (tb_2 (List.mem_of_getElem? (i := 237) rfl)) rfl⟩
theorem ml_13_17 : mLV "NinetyPlayersLaw" 17 mM_feed 5 := ⟨yk_M_feed, gw_of (tb_7 (List.mem_of_getElem? (i := 57) rfl)) rfl, gw_of (tb_7 (List.mem_of_getElem? (i := 58) rfl)) rfl, gw_of (tb_7 (List.mem_of_getElem? (i := 59) rfl)) rfl⟩
theorem ml_13_18 : mLV "NinetyPlayersLaw" 18 mN_end 1 := ⟨yk_N_end, gw_of (tb_3 (List.mem_of_getElem? (i := 3) rfl)) rfl, gw_of (tb_3 (List.mem_of_getElem? (i := 4) rfl)) rfl, gw_of (tb_3 (List.mem_of_getElem? (i := 5) rfl)) rfl⟩
theorem ml_13_22 : mLV "NinetyPlayersLaw" 22 mM_end 1 := ⟨yk_M_end, gw_of (tb_7 (List.mem_of_getElem? (i := 65) rfl)) rfl, gw_of (tb_7 (List.mem_of_getElem? (i := 66) rfl)) rfl, gw_of (tb_7 (List.mem_of_getElem? (i := 67) rfl)) rfl⟩
theorem ml_13_23 : mLV "NinetyPlayersLaw" 23 mN_score 0 := ⟨yk_N_score, gw_of (tb_3 (List.mem_of_getElem? (i := 7) rfl)) rfl, gw_of (tb_3 (List.mem_of_getElem? (i := 8) rfl)) rfl, gw_of (tb_3 (List.mem_of_getElem? (i := 9) rfl)) rfl⟩
theorem ml_13_27 : mLV "NinetyPlayersLaw" 27 mM_score 0 := ⟨yk_M_score, gw_of (tb_7 (List.mem_of_getElem? (i := 69) rfl)) rfl, gw_of (tb_7 (List.mem_of_getElem? (i := 70) rfl)) rfl, gw_of (tb_7 (List.mem_of_getElem? (i := 71) rfl)) rfl⟩
theorem ml_13_28 : mLV "NinetyPlayersLaw" 28 mN_fault 1 := ⟨yk_N_fault, gw_of (tb_4 (List.mem_of_getElem? (i := 26) rfl)) rfl, gw_of (tb_4 (List.mem_of_getElem? (i := 27) rfl)) rfl, gw_of (tb_4 (List.mem_of_getElem? (i := 28) rfl)) rfl⟩
theorem ml_13_31 : mLV "NinetyPlayersLaw" 31 mM_fault 1 := ⟨yk_M_fault, gw_of (tb_7 (List.mem_of_getElem? (i := 229) rfl)) rfl, gw_of (tb_7 (List.mem_of_getElem? (i := 230) rfl)) rfl, gw_of (tb_7 (List.mem_of_getElem? (i := 231) rfl)) rfl⟩
theorem ml_13_32 : mLV "NinetyPlayersLaw" 32 mN_note 2 := ⟨yk_N_note, gw_of (tb_4 (List.mem_of_getElem? (i := 30) rfl)) rfl, gw_of (tb_4 (List.mem_of_getElem? (i := 31) rfl)) rfl, gw_of (tb_4 (List.mem_of_getElem? (i := 32) rfl)) rfl⟩
theorem ml_13_36 : mLV "NinetyPlayersLaw" 36 mM_note 2 := ⟨yk_M_note, gw_of (tb_7 (List.mem_of_getElem? (i := 233) rfl)) rfl, gw_of (tb_7 (List.mem_of_getElem? (i := 234) rfl)) rfl, gw_of (tb_7 (List.mem_of_getElem? (i := 235) rfl)) rfl⟩
theorem ml_13_37 : mLV "NinetyPlayersLaw" 37 mN_part 2 := ⟨yk_N_part, gw_of (tb_4 (List.mem_of_getElem? (i := 77) rfl)) rfl, gw_of (tb_4 (List.mem_of_getElem? (i := 78) rfl)) rfl, gw_of (tb_4 (List.mem_of_getElem? (i := 79) rfl)) rfl⟩
theorem ml_13_40 : mLV "NinetyPlayersLaw" 40 mM_part 2 := ⟨yk_M_part, gw_of (tb_8 (List.mem_of_getElem? (i := 32) rfl)) rfl, gw_of (tb_8 (List.mem_of_getElem? (i := 33) rfl)) rfl, gw_of (tb_8 (List.mem_of_getElem? (i := 34) rfl)) rfl⟩
theorem ml_13_41 : mLV "NinetyPlayersLaw" 41 mN_held 2 := ⟨yk_N_held, gw_of (tb_4 (List.mem_of_getElem? (i := 93) rfl)) rfl, gw_of (tb_4 (List.mem_of_getElem? (i := 94) rfl)) rfl, gw_of (tb_4 (List.mem_of_getElem? (i := 95) rfl)) rfl⟩
theorem ml_13_44 : mLV "NinetyPlayersLaw" 44 mM_held 2 := ⟨yk_M_held, gw_of (tb_8 (List.mem_of_getElem? (i := 44) rfl)) rfl, gw_of (tb_8 (List.mem_of_getElem? (i := 45) rfl)) rfl, gw_of (tb_8 (List.mem_of_getElem? (i := 46) rfl)) rfl⟩
theorem ml_13_45 : mLV "NinetyPlayersLaw" 45 mN_sounds 1 := ⟨yk_N_sounds, gw_of (tb_4 (List.mem_of_getElem? (i := 133) rfl)) rfl, gw_of (tb_4 (List.mem_of_getElem? (i := 134) rfl)) rfl, gw_of (tb_4 (List.mem_of_getElem? (i := 135) rfl)) rfl⟩
theorem ml_13_48 : mLV "NinetyPlayersLaw" 48 mM_sounds 1 := ⟨yk_M_sounds, gw_of (tb_8 (List.mem_of_getElem? (i := 55) rfl)) rfl, gw_of (tb_8 (List.mem_of_getElem? (i := 56) rfl)) rfl, gw_of (tb_8 (List.mem_of_getElem? (i := 57) rfl)) rfl⟩
theorem ml_13_49 : mLV "NinetyPlayersLaw" 49 mN_clash 1 := ⟨yk_N_clash, gw_of (tb_4 (List.mem_of_getElem? (i := 141) rfl)) rfl, gw_of (tb_4 (List.mem_of_getElem? (i := 142) rfl)) rfl, gw_of (tb_4 (List.mem_of_getElem? (i := 143) rfl)) rfl⟩
theorem ml_13_52 : mLV "NinetyPlayersLaw" 52 mM_clash 1 := ⟨yk_M_clash, gw_of (tb_8 (List.mem_of_getElem? (i := 63) rfl)) rfl, gw_of (tb_8 (List.mem_of_getElem? (i := 64) rfl)) rfl, gw_of (tb_8 (List.mem_of_getElem? (i := 65) rfl)) rfl⟩
theorem ml_13_53 : mLV "NinetyPlayersLaw" 53 mN_give 2 := ⟨yk_N_give, gw_of (tb_4 (List.mem_of_getElem? (i := 173) rfl)) rfl, gw_of (tb_4 (List.mem_of_getElem? (i := 174) rfl)) rfl, gw_of (tb_4 (List.mem_of_getElem? (i := 175) rfl)) rfl⟩
theorem ml_13_56 : mLV "NinetyPlayersLaw" 56 mM_give 2 := ⟨yk_M_give, gw_of (tb_8 (List.mem_of_getElem? (i := 96) rfl)) rfl, gw_of (tb_8 (List.mem_of_getElem? (i := 97) rfl)) rfl, gw_of (tb_8 (List.mem_of_getElem? (i := 98) rfl)) rfl⟩
theorem ml_13_57 : mLV "NinetyPlayersLaw" 57 mN_shift 2 := ⟨yk_N_shift, gw_of (tb_4 (List.mem_of_getElem? (i := 209) rfl)) rfl, gw_of (tb_4 (List.mem_of_getElem? (i := 210) rfl)) rfl, gw_of (tb_4 (List.mem_of_getElem? (i := 211) rfl)) rfl⟩
theorem ml_13_60 : mLV "NinetyPlayersLaw" 60 mM_shift 2 := ⟨yk_M_shift, gw_of (tb_8 (List.mem_of_getElem? (i := 105) rfl)) rfl, gw_of (tb_8 (List.mem_of_getElem? (i := 106) rfl)) rfl, gw_of (tb_8 (List.mem_of_getElem? (i := 107) rfl)) rfl⟩
theorem ml_13_61 : mLV "NinetyPlayersLaw" 61 mN_louder 2 := ⟨yk_N_louder, gw_of (tb_4 (List.mem_of_getElem? (i := 216) rfl)) rfl, gw_of (tb_4 (List.mem_of_getElem? (i := 217) rfl)) rfl, gw_of (tb_4 (List.mem_of_getElem? (i := 218) rfl)) rfl⟩
theorem ml_13_64 : mLV "NinetyPlayersLaw" 64 mM_louder 2 := ⟨yk_M_louder, gw_of (tb_8 (List.mem_of_getElem? (i := 109) rfl)) rfl, gw_of (tb_8 (List.mem_of_getElem? (i := 110) rfl)) rfl, gw_of (tb_8 (List.mem_of_getElem? (i := 111) rfl)) rfl⟩
theorem ml_13_65 : mLV "NinetyPlayersLaw" 65 mN_last 2 := ⟨yk_N_last, gw_of (tb_4 (List.mem_of_getElem? (i := 220) rfl)) rfl, gw_of (tb_4 (List.mem_of_getElem? (i := 221) rfl)) rfl, gw_of (tb_4 (List.mem_of_getElem? (i := 222) rfl)) rfl⟩
theorem ml_13_68 : mLV "NinetyPlayersLaw" 68 mM_last 2 := ⟨yk_M_last, gw_of (tb_8 (List.mem_of_getElem? (i := 117) rfl)) rfl, gw_of (tb_8 (List.mem_of_getElem? (i := 118) rfl)) rfl, gw_of (tb_8 (List.mem_of_getElem? (i := 119) rfl)) rfl⟩
theorem ml_13_69 : mLV "NinetyPlayersLaw" 69 mN_pedal 1 := ⟨yk_N_pedal, gw_of (tb_4 (List.mem_of_getElem? (i := 224) rfl)) rfl, gw_of (tb_4 (List.mem_of_getElem? (i := 225) rfl)) rfl, gw_of (tb_4 (List.mem_of_getElem? (i := 226) rfl)) rfl⟩
theorem ml_13_72 : mLV "NinetyPlayersLaw" 72 mM_pedal 1 := ⟨yk_M_pedal, gw_of (tb_8 (List.mem_of_getElem? (i := 121) rfl)) rfl, gw_of (tb_8 (List.mem_of_getElem? (i := 122) rfl)) rfl, gw_of (tb_8 (List.mem_of_getElem? (i := 123) rfl)) rfl⟩
theorem ml_13_73 : mLV "NinetyPlayersLaw" 73 mN_undo 0 := ⟨yk_N_undo, gw_of (tb_4 (List.mem_of_getElem? (i := 228) rfl)) rfl, gw_of (tb_4 (List.mem_of_getElem? (i := 229) rfl)) rfl, gw_of (tb_4 (List.mem_of_getElem? (i := 230) rfl)) rfl⟩
theorem ml_13_77 : mLV "NinetyPlayersLaw" 77 mM_undo 0 := ⟨yk_M_undo, gw_of (tb_8 (List.mem_of_getElem? (i := 125) rfl)) rfl, gw_of (tb_8 (List.mem_of_getElem? (i := 126) rfl)) rfl, gw_of (tb_8 (List.mem_of_getElem? (i := 127) rfl)) rfl⟩
theorem ml_13_78 : mLV "NinetyPlayersLaw" 78 mN_redo 0 := ⟨yk_N_redo, gw_of (tb_4 (List.mem_of_getElem? (i := 236) rfl)) rfl, gw_of (tb_4 (List.mem_of_getElem? (i := 237) rfl)) rfl, gw_of (tb_4 (List.mem_of_getElem? (i := 238) rfl)) rfl⟩
theorem ml_13_81 : mLV "NinetyPlayersLaw" 81 mM_redo 0 := ⟨yk_M_redo, gw_of (tb_8 (List.mem_of_getElem? (i := 133) rfl)) rfl, gw_of (tb_8 (List.mem_of_getElem? (i := 134) rfl)) rfl, gw_of (tb_8 (List.mem_of_getElem? (i := 135) rfl)) rfl⟩
theorem ml_13_82 : mLV "NinetyPlayersLaw" 82 mN_clashes 0 := ⟨yk_N_clashes, gw_of (tb_5 (List.mem_of_getElem? (i := 4) rfl)) rfl, gw_of (tb_4 (List.mem_of_getElem? (i := 201) rfl)) rfl, gw_of (tb_4 (List.mem_of_getElem? (i := 202) rfl)) rfl⟩
theorem ml_13_85 : mLV "NinetyPlayersLaw" 85 mM_clashes 0 := ⟨yk_M_clashes, gw_of (tb_8 (List.mem_of_getElem? (i := 88) rfl)) rfl, gw_of (tb_8 (List.mem_of_getElem? (i := 89) rfl)) rfl, gw_of (tb_8 (List.mem_of_getElem? (i := 90) rfl)) rfl⟩
theorem ml_13_86 : mLV "NinetyPlayersLaw" 86 mN_loss 0 := ⟨yk_N_loss, gw_of (tb_5 (List.mem_of_getElem? (i := 5) rfl)) rfl, gw_of (tb_5 (List.mem_of_getElem? (i := 6) rfl)) rfl, gw_of (tb_5 (List.mem_of_getElem? (i := 7) rfl)) rfl⟩
theorem ml_13_89 : mLV "NinetyPlayersLaw" 89 mM_loss 0 := ⟨yk_M_loss, gw_of (tb_8 (List.mem_of_getElem? (i := 137) rfl)) rfl, gw_of (tb_8 (List.mem_of_getElem? (i := 138) rfl)) rfl, gw_of (tb_8 (List.mem_of_getElem? (i := 139) rfl)) rfl⟩
theorem ml_13_90 : mLV "NinetyPlayersLaw" 90 mN_version 1 := ⟨yk_N_version, gw_of (tb_5 (List.mem_of_getElem? (i := 9) rfl)) rfl, gw_of (tb_5 (List.mem_of_getElem? (i := 10) rfl)) rfl, gw_of (tb_5 (List.mem_of_getElem? (i := 11) rfl)) rfl⟩
theorem ml_13_93 : mLV "NinetyPlayersLaw" 93 mM_version 1 := ⟨yk_M_version, gw_of (tb_8 (List.mem_of_getElem? (i := 149) rfl)) rfl, gw_of (tb_8 (List.mem_of_getElem? (i := 150) rfl)) rfl, gw_of (tb_8 (List.mem_of_getElem? (i := 151) rfl)) rfl⟩
theorem ml_13_94 : mLV "NinetyPlayersLaw" 94 mN_child 2 := ⟨yk_N_child, gw_of (tb_5 (List.mem_of_getElem? (i := 64) rfl)) rfl, gw_of (tb_5 (List.mem_of_getElem? (i := 65) rfl)) rfl, gw_of (tb_5 (List.mem_of_getElem? (i := 66) rfl)) rfl⟩
theorem ml_13_97 : mLV "NinetyPlayersLaw" 97 mM_child 2 := ⟨yk_M_child, gw_of (tb_8 (List.mem_of_getElem? (i := 172) rfl)) rfl, gw_of (tb_8 (List.mem_of_getElem? (i := 173) rfl)) rfl, gw_of (tb_8 (List.mem_of_getElem? (i := 174) rfl)) rfl⟩
theorem ml_13_98 : mLV "NinetyPlayersLaw" 98 mN_forbids 2 := ⟨yk_N_forbids, gw_of (tb_5 (List.mem_of_getElem? (i := 68) rfl)) rfl, gw_of (tb_5 (List.mem_of_getElem? (i := 69) rfl)) rfl, gw_of (tb_5 (List.mem_of_getElem? (i := 70) rfl)) rfl⟩
theorem ml_13_101 : mLV "NinetyPlayersLaw" 101 mM_forbids 2 := ⟨yk_M_forbids, gw_of (tb_8 (List.mem_of_getElem? (i := 176) rfl)) rfl, gw_of (tb_8 (List.mem_of_getElem? (i := 177) rfl)) rfl, gw_of (tb_8 (List.mem_of_getElem? (i := 178) rfl)) rfl⟩
theorem ml_13_102 : mLV "NinetyPlayersLaw" 102 mN_giveway 3 := ⟨yk_N_giveway, gw_of (tb_5 (List.mem_of_getElem? (i := 80) rfl)) rfl, gw_of (tb_5 (List.mem_of_getElem? (i := 81) rfl)) rfl, gw_of (tb_5 (List.mem_of_getElem? (i := 82) rfl)) rfl⟩
theorem ml_13_106 : mLV "NinetyPlayersLaw" 106 mM_giveway 3 := ⟨yk_M_giveway, gw_of (tb_8 (List.mem_of_getElem? (i := 192) rfl)) rfl, gw_of (tb_8 (List.mem_of_getElem? (i := 193) rfl)) rfl, gw_of (tb_8 (List.mem_of_getElem? (i := 194) rfl)) rfl⟩
theorem ml_13_107 : mLV "NinetyPlayersLaw" 107 mN_letin 2 := ⟨yk_N_letin, gw_of (tb_5 (List.mem_of_getElem? (i := 100) rfl)) rfl, gw_of (tb_5 (List.mem_of_getElem? (i := 101) rfl)) rfl, gw_of (tb_5 (List.mem_of_getElem? (i := 102) rfl)) rfl⟩
theorem ml_13_110 : mLV "NinetyPlayersLaw" 110 mM_letin 2 := ⟨yk_M_letin, gw_of (tb_8 (List.mem_of_getElem? (i := 196) rfl)) rfl, gw_of (tb_8 (List.mem_of_getElem? (i := 197) rfl)) rfl, gw_of (tb_8 (List.mem_of_getElem? (i := 198) rfl)) rfl⟩
theorem ml_13_111 : mLV "NinetyPlayersLaw" 111 mN_pedals 1 := ⟨yk_N_pedals, gw_of (tb_5 (List.mem_of_getElem? (i := 110) rfl)) rfl, gw_of (tb_5 (List.mem_of_getElem? (i := 111) rfl)) rfl, gw_of (tb_5 (List.mem_of_getElem? (i := 112) rfl)) rfl⟩
theorem ml_13_114 : mLV "NinetyPlayersLaw" 114 mM_pedals 1 := ⟨yk_M_pedals, gw_of (tb_8 (List.mem_of_getElem? (i := 208) rfl)) rfl, gw_of (tb_8 (List.mem_of_getElem? (i := 209) rfl)) rfl, gw_of (tb_8 (List.mem_of_getElem? (i := 210) rfl)) rfl⟩
theorem ml_13_115 : mLV "NinetyPlayersLaw" 115 mN_spread 1 := ⟨yk_N_spread, gw_of (tb_5 (List.mem_of_getElem? (i := 131) rfl)) rfl, gw_of (tb_5 (List.mem_of_getElem? (i := 132) rfl)) rfl, gw_of (tb_5 (List.mem_of_getElem? (i := 133) rfl)) rfl⟩
theorem ml_13_118 : mLV "NinetyPlayersLaw" 118 mM_spread 1 := ⟨yk_M_spread, gw_of (tb_8 (List.mem_of_getElem? (i := 212) rfl)) rfl, gw_of (tb_8 (List.mem_of_getElem? (i := 213) rfl)) rfl, gw_of (tb_8 (List.mem_of_getElem? (i := 214) rfl)) rfl⟩
theorem ml_13_119 : mLV "NinetyPlayersLaw" 119 mN_leaps 1 := ⟨yk_N_leaps, gw_of (tb_5 (List.mem_of_getElem? (i := 139) rfl)) rfl, gw_of (tb_5 (List.mem_of_getElem? (i := 140) rfl)) rfl, gw_of (tb_5 (List.mem_of_getElem? (i := 141) rfl)) rfl⟩
theorem ml_13_122 : mLV "NinetyPlayersLaw" 122 mM_leaps 1 := ⟨yk_M_leaps, gw_of (tb_8 (List.mem_of_getElem? (i := 219) rfl)) rfl, gw_of (tb_8 (List.mem_of_getElem? (i := 220) rfl)) rfl, gw_of (tb_8 (List.mem_of_getElem? (i := 221) rfl)) rfl⟩
theorem ml_13_123 : mLV "NinetyPlayersLaw" 123 mN_blur 0 := ⟨yk_N_blur, gw_of (tb_5 (List.mem_of_getElem? (i := 144) rfl)) rfl, gw_of (tb_5 (List.mem_of_getElem? (i := 145) rfl)) rfl, gw_of (tb_5 (List.mem_of_getElem? (i := 146) rfl)) rfl⟩
theorem ml_13_126 : mLV "NinetyPlayersLaw" 126 mM_blur 0 := ⟨yk_M_blur, gw_of (tb_8 (List.mem_of_getElem? (i := 227) rfl)) rfl, gw_of (tb_8 (List.mem_of_getElem? (i := 228) rfl)) rfl, gw_of (tb_8 (List.mem_of_getElem? (i := 229) rfl)) rfl⟩
theorem ml_13_127 : mLV "NinetyPlayersLaw" 127 mN_open 1 := ⟨yk_N_open, gw_of (tb_5 (List.mem_of_getElem? (i := 153) rfl)) rfl, gw_of (tb_5 (List.mem_of_getElem? (i := 154) rfl)) rfl, gw_of (tb_5 (List.mem_of_getElem? (i := 155) rfl)) rfl⟩
theorem ml_13_130 : mLV "NinetyPlayersLaw" 130 mM_open 1 := ⟨yk_M_open, gw_of (tb_8 (List.mem_of_getElem? (i := 235) rfl)) rfl, gw_of (tb_8 (List.mem_of_getElem? (i := 236) rfl)) rfl, gw_of (tb_8 (List.mem_of_getElem? (i := 237) rfl)) rfl⟩
theorem ml_13_131 : mLV "NinetyPlayersLaw" 131 mN_lost 0 := ⟨yk_N_lost, gw_of (tb_5 (List.mem_of_getElem? (i := 161) rfl)) rfl, gw_of (tb_5 (List.mem_of_getElem? (i := 162) rfl)) rfl, gw_of (tb_5 (List.mem_of_getElem? (i := 163) rfl)) rfl⟩
theorem ml_13_134 : mLV "NinetyPlayersLaw" 134 mM_lost 0 := ⟨yk_M_lost, gw_of (tb_9 (List.mem_of_getElem? (i := 3) rfl)) rfl, gw_of (tb_9 (List.mem_of_getElem? (i := 4) rfl)) rfl, gw_of (tb_9 (List.mem_of_getElem? (i := 5) rfl)) rfl⟩
theorem ml_13_135 : mLV "NinetyPlayersLaw" 135 mN_gaps 0 := ⟨yk_N_gaps, gw_of (tb_5 (List.mem_of_getElem? (i := 165) rfl)) rfl, gw_of (tb_5 (List.mem_of_getElem? (i := 166) rfl)) rfl, gw_of (tb_5 (List.mem_of_getElem? (i := 167) rfl)) rfl⟩
theorem ml_13_138 : mLV "NinetyPlayersLaw" 138 mM_gaps 0 := ⟨yk_M_gaps, gw_of (tb_9 (List.mem_of_getElem? (i := 11) rfl)) rfl, gw_of (tb_9 (List.mem_of_getElem? (i := 12) rfl)) rfl, gw_of (tb_9 (List.mem_of_getElem? (i := 13) rfl)) rfl⟩
theorem ml_13_139 : mLV "NinetyPlayersLaw" 139 mN_easier 1 := ⟨yk_N_easier, gw_of (tb_5 (List.mem_of_getElem? (i := 169) rfl)) rfl, gw_of (tb_5 (List.mem_of_getElem? (i := 170) rfl)) rfl, gw_of (tb_5 (List.mem_of_getElem? (i := 171) rfl)) rfl⟩
theorem ml_13_142 : mLV "NinetyPlayersLaw" 142 mM_easier 1 := ⟨yk_M_easier, gw_of (tb_9 (List.mem_of_getElem? (i := 15) rfl)) rfl, gw_of (tb_9 (List.mem_of_getElem? (i := 16) rfl)) rfl, gw_of (tb_9 (List.mem_of_getElem? (i := 17) rfl)) rfl⟩
theorem ml_13_143 : mLV "NinetyPlayersLaw" 143 mN_thickest 0 := ⟨yk_N_thickest, gw_of (tb_5 (List.mem_of_getElem? (i := 173) rfl)) rfl, gw_of (tb_5 (List.mem_of_getElem? (i := 174) rfl)) rfl, gw_of (tb_5 (List.mem_of_getElem? (i := 175) rfl)) rfl⟩
theorem ml_13_146 : mLV "NinetyPlayersLaw" 146 mM_thickest 0 := ⟨yk_M_thickest, gw_of (tb_9 (List.mem_of_getElem? (i := 19) rfl)) rfl, gw_of (tb_9 (List.mem_of_getElem? (i := 20) rfl)) rfl, gw_of (tb_9 (List.mem_of_getElem? (i := 21) rfl)) rfl⟩
theorem ml_13_147 : mLV "NinetyPlayersLaw" 147 mN_busiest 1 := ⟨yk_N_busiest, gw_of (tb_5 (List.mem_of_getElem? (i := 181) rfl)) rfl, gw_of (tb_5 (List.mem_of_getElem? (i := 182) rfl)) rfl, gw_of (tb_5 (List.mem_of_getElem? (i := 183) rfl)) rfl⟩
theorem ml_13_150 : mLV "NinetyPlayersLaw" 150 mM_busiest 1 := ⟨yk_M_busiest, gw_of (tb_8 (List.mem_of_getElem? (i := 223) rfl)) rfl, gw_of (tb_8 (List.mem_of_getElem? (i := 224) rfl)) rfl, gw_of (tb_8 (List.mem_of_getElem? (i := 225) rfl)) rfl⟩
theorem ml_13_151 : mLV "NinetyPlayersLaw" 151 mN_law 1 := ⟨yk_N_law, gw_of (tb_5 (List.mem_of_getElem? (i := 186) rfl)) rfl, gw_of (tb_5 (List.mem_of_getElem? (i := 187) rfl)) rfl, gw_of (tb_5 (List.mem_of_getElem? (i := 188) rfl)) rfl⟩
theorem ml_13_154 : mLV "NinetyPlayersLaw" 154 mM_law 1 := ⟨yk_M_law, gw_of (tb_9 (List.mem_of_getElem? (i := 23) rfl)) rfl, gw_of (tb_9 (List.mem_of_getElem? (i := 24) rfl)) rfl, gw_of (tb_9 (List.mem_of_getElem? (i := 25) rfl)) rfl⟩
theorem ml_13_155 : mLV "NinetyPlayersLaw" 155 mN_dearest 0 := ⟨yk_N_dearest, gw_of (tb_5 (List.mem_of_getElem? (i := 190) rfl)) rfl, gw_of (tb_5 (List.mem_of_getElem? (i := 191) rfl)) rfl, gw_of (tb_5 (List.mem_of_getElem? (i := 192) rfl)) rfl⟩
theorem ml_13_158 : mLV "NinetyPlayersLaw" 158 mM_dearest 0 := ⟨yk_M_dearest, gw_of (tb_9 (List.mem_of_getElem? (i := 27) rfl)) rfl, gw_of (tb_9 (List.mem_of_getElem? (i := 28) rfl)) rfl, gw_of (tb_9 (List.mem_of_getElem? (i := 29) rfl)) rfl⟩
theorem ml_13_159 : mLV "NinetyPlayersLaw" 159 mN_could 1 := ⟨yk_N_could, gw_of (tb_5 (List.mem_of_getElem? (i := 194) rfl)) rfl, gw_of (tb_5 (List.mem_of_getElem? (i := 195) rfl)) rfl, gw_of (tb_5 (List.mem_of_getElem? (i := 196) rfl)) rfl⟩
theorem ml_13_162 : mLV "NinetyPlayersLaw" 162 mM_could 1 := ⟨yk_M_could, gw_of (tb_8 (List.mem_of_getElem? (i := 188) rfl)) rfl, gw_of (tb_8 (List.mem_of_getElem? (i := 189) rfl)) rfl, gw_of (tb_8 (List.mem_of_getElem? (i := 190) rfl)) rfl⟩
theorem ml_13_163 : mLV "NinetyPlayersLaw" 163 mN_lies 1 := ⟨yk_N_lies, gw_of (tb_5 (List.mem_of_getElem? (i := 198) rfl)) rfl, gw_of (tb_5 (List.mem_of_getElem? (i := 199) rfl)) rfl, gw_of (tb_5 (List.mem_of_getElem? (i := 200) rfl)) rfl⟩
theorem ml_13_166 : mLV "NinetyPlayersLaw" 166 mM_lies 1 := ⟨yk_M_lies, gw_of (tb_9 (List.mem_of_getElem? (i := 31) rfl)) rfl, gw_of (tb_9 (List.mem_of_getElem? (i := 32) rfl)) rfl, gw_of (tb_9 (List.mem_of_getElem? (i := 33) rfl)) rfl⟩
theorem ml_13_167 : mLV "NinetyPlayersLaw" 167 mN_heard 3 := ⟨yk_N_heard, gw_of (tb_5 (List.mem_of_getElem? (i := 202) rfl)) rfl, gw_of (tb_5 (List.mem_of_getElem? (i := 203) rfl)) rfl, gw_of (tb_5 (List.mem_of_getElem? (i := 204) rfl)) rfl⟩
theorem ml_13_171 : mLV "NinetyPlayersLaw" 171 mM_heard 3 := ⟨yk_M_heard, gw_of (tb_9 (List.mem_of_getElem? (i := 35) rfl)) rfl, gw_of (tb_9 (List.mem_of_getElem? (i := 36) rfl)) rfl, gw_of (tb_9 (List.mem_of_getElem? (i := 37) rfl)) rfl⟩
theorem ml_13_172 : mLV "NinetyPlayersLaw" 172 mN_untell 1 := ⟨yk_N_untell, gw_of (tb_5 (List.mem_of_getElem? (i := 210) rfl)) rfl, gw_of (tb_5 (List.mem_of_getElem? (i := 211) rfl)) rfl, gw_of (tb_5 (List.mem_of_getElem? (i := 212) rfl)) rfl⟩
theorem ml_13_176 : mLV "NinetyPlayersLaw" 176 mM_untell 1 := ⟨yk_M_untell, gw_of (tb_9 (List.mem_of_getElem? (i := 39) rfl)) rfl, gw_of (tb_9 (List.mem_of_getElem? (i := 40) rfl)) rfl, gw_of (tb_9 (List.mem_of_getElem? (i := 41) rfl)) rfl⟩
theorem ml_13_177 : mLV "NinetyPlayersLaw" 177 mN_later 1 := ⟨yk_N_later, gw_of (tb_5 (List.mem_of_getElem? (i := 218) rfl)) rfl, gw_of (tb_5 (List.mem_of_getElem? (i := 219) rfl)) rfl, gw_of (tb_5 (List.mem_of_getElem? (i := 220) rfl)) rfl⟩
theorem ml_13_180 : mLV "NinetyPlayersLaw" 180 mM_later 1 := ⟨yk_M_later, gw_of (tb_9 (List.mem_of_getElem? (i := 43) rfl)) rfl, gw_of (tb_9 (List.mem_of_getElem? (i := 44) rfl)) rfl, gw_of (tb_9 (List.mem_of_getElem? (i := 45) rfl)) rfl⟩
theorem ml_13_181 : mLV "NinetyPlayersLaw" 181 mN_sets 1 := ⟨yk_N_sets, gw_of (tb_5 (List.mem_of_getElem? (i := 227) rfl)) rfl, gw_of (tb_5 (List.mem_of_getElem? (i := 228) rfl)) rfl, gw_of (tb_5 (List.mem_of_getElem? (i := 229) rfl)) rfl⟩
theorem ml_13_184 : mLV "NinetyPlayersLaw" 184 mM_sets 1 := ⟨yk_M_sets, gw_of (tb_9 (List.mem_of_getElem? (i := 48) rfl)) rfl, gw_of (tb_9 (List.mem_of_getElem? (i := 49) rfl)) rfl, gw_of (tb_9 (List.mem_of_getElem? (i := 50) rfl)) rfl⟩
theorem ml_13_185 : mLV "NinetyPlayersLaw" 185 mN_sure 2 := ⟨yk_N_sure, gw_of (tb_6 (List.mem_of_getElem? (i := 10) rfl)) rfl, gw_of (tb_6 (List.mem_of_getElem? (i := 11) rfl)) rfl, gw_of (tb_6 (List.mem_of_getElem? (i := 12) rfl)) rfl⟩
theorem ml_13_188 : mLV "NinetyPlayersLaw" 188 mM_sure 2 := ⟨yk_M_sure, gw_of (tb_9 (List.mem_of_getElem? (i := 64) rfl)) rfl, gw_of (tb_9 (List.mem_of_getElem? (i := 65) rfl)) rfl, gw_of (tb_9 (List.mem_of_getElem? (i := 66) rfl)) rfl⟩
theorem ml_13_189 : mLV "NinetyPlayersLaw" 189 mN_ask 2 := ⟨yk_N_ask, gw_of (tb_6 (List.mem_of_getElem? (i := 14) rfl)) rfl, gw_of (tb_6 (List.mem_of_getElem? (i := 15) rfl)) rfl, gw_of (tb_6 (List.mem_of_getElem? (i := 16) rfl)) rfl⟩
theorem ml_13_192 : mLV "NinetyPlayersLaw" 192 mM_ask 2 := ⟨yk_M_ask, gw_of (tb_9 (List.mem_of_getElem? (i := 68) rfl)) rfl, gw_of (tb_9 (List.mem_of_getElem? (i := 69) rfl)) rfl, gw_of (tb_9 (List.mem_of_getElem? (i := 70) rfl)) rfl⟩
theorem ml_13_193 : mLV "NinetyPlayersLaw" 193 mN_image 1 := ⟨yk_N_image, gw_of (tb_6 (List.mem_of_getElem? (i := 18) rfl)) rfl, gw_of (tb_6 (List.mem_of_getElem? (i := 19) rfl)) rfl, gw_of (tb_6 (List.mem_of_getElem? (i := 20) rfl)) rfl⟩
theorem ml_13_196 : mLV "NinetyPlayersLaw" 196 mM_image 1 := ⟨yk_M_image, gw_of (tb_9 (List.mem_of_getElem? (i := 72) rfl)) rfl, gw_of (tb_9 (List.mem_of_getElem? (i := 73) rfl)) rfl, gw_of (tb_9 (List.mem_of_getElem? (i := 74) rfl)) rfl⟩
theorem ml_13_197 : mLV "NinetyPlayersLaw" 197 mN_back 1 := ⟨yk_N_back, gw_of (tb_6 (List.mem_of_getElem? (i := 26) rfl)) rfl, gw_of (tb_6 (List.mem_of_getElem? (i := 27) rfl)) rfl, gw_of (tb_6 (List.mem_of_getElem? (i := 28) rfl)) rfl⟩
theorem ml_13_200 : mLV "NinetyPlayersLaw" 200 mM_back 1 := ⟨yk_M_back, gw_of (tb_9 (List.mem_of_getElem? (i := 83) rfl)) rfl, gw_of (tb_9 (List.mem_of_getElem? (i := 84) rfl)) rfl, gw_of (tb_9 (List.mem_of_getElem? (i := 85) rfl)) rfl⟩
theorem ml_13_201 : mLV "NinetyPlayersLaw" 201 mN_differ 1 := ⟨yk_N_differ, gw_of (tb_6 (List.mem_of_getElem? (i := 34) rfl)) rfl, gw_of (tb_6 (List.mem_of_getElem? (i := 35) rfl)) rfl, gw_of (tb_6 (List.mem_of_getElem? (i := 36) rfl)) rfl⟩
theorem ml_13_204 : mLV "NinetyPlayersLaw" 204 mM_differ 1 := ⟨yk_M_differ, gw_of (tb_9 (List.mem_of_getElem? (i := 87) rfl)) rfl, gw_of (tb_9 (List.mem_of_getElem? (i := 88) rfl)) rfl, gw_of (tb_9 (List.mem_of_getElem? (i := 89) rfl)) rfl⟩
theorem ml_13_205 : mLV "NinetyPlayersLaw" 205 mN_about 1 := ⟨yk_N_about, gw_of (tb_6 (List.mem_of_getElem? (i := 42) rfl)) rfl, gw_of (tb_6 (List.mem_of_getElem? (i := 43) rfl)) rfl, gw_of (tb_6 (List.mem_of_getElem? (i := 44) rfl)) rfl⟩
theorem ml_13_208 : mLV "NinetyPlayersLaw" 208 mM_about 1 := ⟨yk_M_about, gw_of (tb_9 (List.mem_of_getElem? (i := 91) rfl)) rfl, gw_of (tb_9 (List.mem_of_getElem? (i := 92) rfl)) rfl, gw_of (tb_9 (List.mem_of_getElem? (i := 93) rfl)) rfl⟩
theorem fl_0_10 : fL "NinetyPlayers" 10 0 0 := ⟨_, _, _, ck_0, by decide, gw_of (tb_2 (List.mem_of_getElem? (i := 195) rfl)) rfl⟩
theorem fl_0_16 : fL "NinetyPlayers" 16 1 2 := ⟨_, _, _, ck_1, by decide, gw_of (tb_1 (List.mem_of_getElem? (i := 199) rfl)) rfl⟩
theorem fl_0_20 : fL "NinetyPlayers" 20 0 1 := ⟨_, _, _, ck_0, by decide, gw_of (tb_2 (List.mem_of_getElem? (i := 196) rfl)) rfl⟩
theorem fl_0_24 : fL "NinetyPlayers" 24 0 2 := ⟨_, _, _, ck_0, by decide, gw_of (tb_2 (List.mem_of_getElem? (i := 197) rfl)) rfl⟩
theorem fl_0_31 : fL "NinetyPlayers" 31 0 3 := ⟨_, _, _, ck_0, by decide, gw_of (tb_2 (List.mem_of_getElem? (i := 198) rfl)) rfl⟩
theorem fl_0_35 : fL "NinetyPlayers" 35 0 4 := ⟨_, _, _, ck_0, by decide, gw_of (tb_2 (List.mem_of_getElem? (i := 199) rfl)) rfl⟩
theorem fl_0_42 : fL "NinetyPlayers" 42 0 5 := ⟨_, _, _, ck_0, by decide, gw_of (tb_2 (List.mem_of_getElem? (i := 200) rfl)) rfl⟩
theorem fl_0_49 : fL "NinetyPlayers" 49 0 6 := ⟨_, _, _, ck_0, by decide, gw_of (tb_2 (List.mem_of_getElem? (i := 201) rfl)) rfl⟩
theorem fl_0_53 : fL "NinetyPlayers" 53 8 0 := ⟨_, _, _, ck_8, by decide, gw_of (tb_2 (List.mem_of_getElem? (i := 101) rfl)) rfl⟩
theorem fl_0_57 : fL "NinetyPlayers" 57 0 7 := ⟨_, _, _, ck_0, by decide, gw_of (tb_2 (List.mem_of_getElem? (i := 202) rfl)) rfl⟩
theorem fl_0_58 : fL "NinetyPlayers" 58 8 1 := ⟨_, _, _, ck_8, by decide, gw_of (tb_2 (List.mem_of_getElem? (i := 103) rfl)) rfl⟩
theorem fl_0_62 : fL "NinetyPlayers" 62 0 8 := ⟨_, _, _, ck_0, by decide, gw_of (tb_2 (List.mem_of_getElem? (i := 203) rfl)) rfl⟩
theorem fl_0_66 : fL "NinetyPlayers" 66 0 9 := ⟨_, _, _, ck_0, by decide, gw_of (tb_2 (List.mem_of_getElem? (i := 204) rfl)) rfl⟩
theorem fl_0_73 : fL "NinetyPlayers" 73 0 10 := ⟨_, _, _, ck_0, by decide, gw_of (tb_2 (List.mem_of_getElem? (i := 205) rfl)) rfl⟩
theorem fl_0_77 : fL "NinetyPlayers" 77 0 11 := ⟨_, _, _, ck_0, by decide, gw_of (tb_2 (List.mem_of_getElem? (i := 206) rfl)) rfl⟩
theorem ml_0_80 : mLV "NinetyPlayers" 80 mL_follow 1 := ⟨yk_L_follow, gw_of (tb_2 (List.mem_of_getElem? (i := 191) rfl)) rfl, gw_of (tb_2 (List.mem_of_getElem? (i := 192) rfl)) rfl, gw_of (tb_2 (List.mem_of_getElem? (i := 193) rfl)) rfl⟩
theorem fl_1_9 : fL "NinetyPlayers$Reader" 9 1 1 := ⟨_, _, _, ck_1, by decide, gw_of (tb_1 (List.mem_of_getElem? (i := 196) rfl)) rfl⟩
theorem fl_1_18 : fL "NinetyPlayers$Reader" 18 1 2 := ⟨_, _, _, ck_1, by decide, gw_of (tb_1 (List.mem_of_getElem? (i := 198) rfl)) rfl⟩
theorem fl_1_25 : fL "NinetyPlayers$Reader" 25 1 3 := ⟨_, _, _, ck_1, by decide, gw_of (tb_1 (List.mem_of_getElem? (i := 200) rfl)) rfl⟩
theorem fl_4_9 : fL "NinetyPlayers$Tape" 9 4 1 := ⟨_, _, _, ck_4, by decide, gw_of (tb_1 (List.mem_of_getElem? (i := 44) rfl)) rfl⟩
theorem fl_2_9 : fL "NinetyPlayers$Score" 9 2 7 := ⟨_, _, _, ck_2, by decide, gw_of (tb_1 (List.mem_of_getElem? (i := 140) rfl)) rfl⟩
theorem fl_2_15 : fL "NinetyPlayers$Score" 15 2 8 := ⟨_, _, _, ck_2, by decide, gw_of (tb_1 (List.mem_of_getElem? (i := 141) rfl)) rfl⟩
theorem fl_2_19 : fL "NinetyPlayers$Score" 19 2 9 := ⟨_, _, _, ck_2, by decide, gw_of (tb_1 (List.mem_of_getElem? (i := 143) rfl)) rfl⟩
theorem fl_2_22 : fL "NinetyPlayers$Score" 22 2 10 := ⟨_, _, _, ck_2, by decide, gw_of (tb_1 (List.mem_of_getElem? (i := 144) rfl)) rfl⟩
theorem fl_2_25 : fL "NinetyPlayers$Score" 25 2 11 := ⟨_, _, _, ck_2, by decide, gw_of (tb_1 (List.mem_of_getElem? (i := 146) rfl)) rfl⟩
theorem fl_2_28 : fL "NinetyPlayers$Score" 28 2 12 := ⟨_, _, _, ck_2, by decide, gw_of (tb_1 (List.mem_of_getElem? (i := 150) rfl)) rfl⟩
theorem fl_2_31 : fL "NinetyPlayers$Score" 31 2 13 := ⟨_, _, _, ck_2, by decide, gw_of (tb_1 (List.mem_of_getElem? (i := 153) rfl)) rfl⟩
theorem fl_2_34 : fL "NinetyPlayers$Score" 34 2 14 := ⟨_, _, _, ck_2, by decide, gw_of (tb_1 (List.mem_of_getElem? (i := 156) rfl)) rfl⟩
theorem fl_2_40 : fL "NinetyPlayers$Score" 40 2 15 := ⟨_, _, _, ck_2, by decide, gw_of (tb_1 (List.mem_of_getElem? (i := 158) rfl)) rfl⟩
theorem ml_2_44 : mLV "NinetyPlayers$Score" 44 mS_forget 0 := ⟨yk_S_forget, gw_of (tb_1 (List.mem_of_getElem? (i := 105) rfl)) rfl, gw_of (tb_1 (List.mem_of_getElem? (i := 106) rfl)) rfl, gw_of (tb_1 (List.mem_of_getElem? (i := 107) rfl)) rfl⟩
theorem fl_3_9 : fL "NinetyPlayers$Formula" 9 3 2 := ⟨_, _, _, ck_3, by decide, gw_of (tb_1 (List.mem_of_getElem? (i := 86) rfl)) rfl⟩
theorem fl_3_13 : fL "NinetyPlayers$Formula" 13 3 3 := ⟨_, _, _, ck_3, by decide, gw_of (tb_1 (List.mem_of_getElem? (i := 87) rfl)) rfl⟩
theorem fl_3_18 : fL "NinetyPlayers$Formula" 18 3 4 := ⟨_, _, _, ck_3, by decide, gw_of (tb_1 (List.mem_of_getElem? (i := 88) rfl)) rfl⟩
theorem fl_2_47 : fL "NinetyPlayers$Score" 47 2 0 := ⟨_, _, _, ck_2, by decide, gw_of (tb_1 (List.mem_of_getElem? (i := 114) rfl)) rfl⟩
theorem fl_2_51 : fL "NinetyPlayers$Score" 51 2 1 := ⟨_, _, _, ck_2, by decide, gw_of (tb_1 (List.mem_of_getElem? (i := 117) rfl)) rfl⟩
theorem fl_2_54 : fL "NinetyPlayers$Score" 54 2 2 := ⟨_, _, _, ck_2, by decide, gw_of (tb_1 (List.mem_of_getElem? (i := 121) rfl)) rfl⟩
theorem fl_2_57 : fL "NinetyPlayers$Score" 57 2 3 := ⟨_, _, _, ck_2, by decide, gw_of (tb_1 (List.mem_of_getElem? (i := 125) rfl)) rfl⟩
theorem fl_2_60 : fL "NinetyPlayers$Score" 60 2 4 := ⟨_, _, _, ck_2, by decide, gw_of (tb_1 (List.mem_of_getElem? (i := 129) rfl)) rfl⟩
theorem fl_2_63 : fL "NinetyPlayers$Score" 63 2 5 := ⟨_, _, _, ck_2, by decide, gw_of (tb_1 (List.mem_of_getElem? (i := 132) rfl)) rfl⟩
theorem fl_2_66 : fL "NinetyPlayers$Score" 66 2 6 := ⟨_, _, _, ck_2, by decide, gw_of (tb_1 (List.mem_of_getElem? (i := 136) rfl)) rfl⟩
theorem ml_2_69 : mLV "NinetyPlayers$Score" 69 mF_forget 0 := ⟨yk_F_forget, gw_of (tb_1 (List.mem_of_getElem? (i := 109) rfl)) rfl, gw_of (tb_1 (List.mem_of_getElem? (i := 110) rfl)) rfl, gw_of (tb_1 (List.mem_of_getElem? (i := 111) rfl)) rfl⟩
theorem fl_3_21 : fL "NinetyPlayers$Formula" 21 3 0 := ⟨_, _, _, ck_3, by decide, gw_of (tb_1 (List.mem_of_getElem? (i := 82) rfl)) rfl⟩
theorem fl_3_25 : fL "NinetyPlayers$Formula" 25 3 1 := ⟨_, _, _, ck_3, by decide, gw_of (tb_1 (List.mem_of_getElem? (i := 85) rfl)) rfl⟩
theorem fl_5_9 : fL "NinetyPlayers$Laying" 9 5 2 := ⟨_, _, _, ck_5, by decide, gw_of (tb_1 (List.mem_of_getElem? (i := 225) rfl)) rfl⟩
theorem fl_5_15 : fL "NinetyPlayers$Laying" 15 5 3 := ⟨_, _, _, ck_5, by decide, gw_of (tb_1 (List.mem_of_getElem? (i := 227) rfl)) rfl⟩
theorem fl_5_18 : fL "NinetyPlayers$Laying" 18 5 4 := ⟨_, _, _, ck_5, by decide, gw_of (tb_1 (List.mem_of_getElem? (i := 230) rfl)) rfl⟩
theorem fl_5_21 : fL "NinetyPlayers$Laying" 21 5 5 := ⟨_, _, _, ck_5, by decide, gw_of (tb_1 (List.mem_of_getElem? (i := 233) rfl)) rfl⟩
theorem fl_6_9 : fL "NinetyPlayers$Acts" 9 6 2 := ⟨_, _, _, ck_6, by decide, gw_of (tb_2 (List.mem_of_getElem? (i := 19) rfl)) rfl⟩
theorem fl_6_15 : fL "NinetyPlayers$Acts" 15 6 3 := ⟨_, _, _, ck_6, by decide, gw_of (tb_2 (List.mem_of_getElem? (i := 20) rfl)) rfl⟩
theorem fl_6_18 : fL "NinetyPlayers$Acts" 18 6 4 := ⟨_, _, _, ck_6, by decide, gw_of (tb_2 (List.mem_of_getElem? (i := 21) rfl)) rfl⟩
theorem fl_6_21 : fL "NinetyPlayers$Acts" 21 6 5 := ⟨_, _, _, ck_6, by decide, gw_of (tb_2 (List.mem_of_getElem? (i := 22) rfl)) rfl⟩
theorem fl_8_12 : fL "NinetyPlayers$Arranger" 12 8 0 := ⟨_, _, _, ck_8, by decide, gw_of (tb_2 (List.mem_of_getElem? (i := 100) rfl)) rfl⟩
theorem fl_8_18 : fL "NinetyPlayers$Arranger" 18 8 1 := ⟨_, _, _, ck_8, by decide, gw_of (tb_2 (List.mem_of_getElem? (i := 102) rfl)) rfl⟩
theorem fl_8_22 : fL "NinetyPlayers$Arranger" 22 8 5 := ⟨_, _, _, ck_8, by decide, gw_of (tb_2 (List.mem_of_getElem? (i := 110) rfl)) rfl⟩
theorem fl_8_25 : fL "NinetyPlayers$Arranger" 25 8 6 := ⟨_, _, _, ck_8, by decide, gw_of (tb_2 (List.mem_of_getElem? (i := 111) rfl)) rfl⟩
theorem fl_8_28 : fL "NinetyPlayers$Arranger" 28 8 7 := ⟨_, _, _, ck_8, by decide, gw_of (tb_2 (List.mem_of_getElem? (i := 112) rfl)) rfl⟩
theorem fl_8_31 : fL "NinetyPlayers$Arranger" 31 8 8 := ⟨_, _, _, ck_8, by decide, gw_of (tb_2 (List.mem_of_getElem? (i := 113) rfl)) rfl⟩
theorem fl_7_9 : fL "NinetyPlayers$Keyboard" 9 7 8 := ⟨_, _, _, ck_7, by decide, gw_of (tb_2 (List.mem_of_getElem? (i := 70) rfl)) rfl⟩
theorem fl_7_15 : fL "NinetyPlayers$Keyboard" 15 7 9 := ⟨_, _, _, ck_7, by decide, gw_of (tb_2 (List.mem_of_getElem? (i := 72) rfl)) rfl⟩
theorem fl_7_18 : fL "NinetyPlayers$Keyboard" 18 7 10 := ⟨_, _, _, ck_7, by decide, gw_of (tb_2 (List.mem_of_getElem? (i := 73) rfl)) rfl⟩
theorem fl_7_21 : fL "NinetyPlayers$Keyboard" 21 7 11 := ⟨_, _, _, ck_7, by decide, gw_of (tb_2 (List.mem_of_getElem? (i := 74) rfl)) rfl⟩
theorem fl_9_9 : fL "NinetyPlayers$Pedaller" 9 9 0 := ⟨_, _, _, ck_9, by decide, gw_of (tb_2 (List.mem_of_getElem? (i := 139) rfl)) rfl⟩
theorem fl_10_9 : fL "NinetyPlayers$Witness" 9 10 3 := ⟨_, _, _, ck_10, by decide, gw_of (tb_2 (List.mem_of_getElem? (i := 155) rfl)) rfl⟩
theorem fl_10_15 : fL "NinetyPlayers$Witness" 15 10 4 := ⟨_, _, _, ck_10, by decide, gw_of (tb_2 (List.mem_of_getElem? (i := 157) rfl)) rfl⟩
theorem fl_10_18 : fL "NinetyPlayers$Witness" 18 10 5 := ⟨_, _, _, ck_10, by decide, gw_of (tb_2 (List.mem_of_getElem? (i := 158) rfl)) rfl⟩
theorem fl_10_21 : fL "NinetyPlayers$Witness" 21 10 6 := ⟨_, _, _, ck_10, by decide, gw_of (tb_2 (List.mem_of_getElem? (i := 159) rfl)) rfl⟩
theorem fl_10_25 : fL "NinetyPlayers$Witness" 25 10 7 := ⟨_, _, _, ck_10, by decide, gw_of (tb_2 (List.mem_of_getElem? (i := 160) rfl)) rfl⟩
theorem fl_10_28 : fL "NinetyPlayers$Witness" 28 10 8 := ⟨_, _, _, ck_10, by decide, gw_of (tb_2 (List.mem_of_getElem? (i := 161) rfl)) rfl⟩
theorem fl_10_31 : fL "NinetyPlayers$Witness" 31 10 9 := ⟨_, _, _, ck_10, by decide, gw_of (tb_2 (List.mem_of_getElem? (i := 162) rfl)) rfl⟩
theorem fl_5_24 : fL "NinetyPlayers$Laying" 24 5 1 := ⟨_, _, _, ck_5, by decide, gw_of (tb_1 (List.mem_of_getElem? (i := 222) rfl)) rfl⟩
theorem fl_5_28 : fL "NinetyPlayers$Laying" 28 2 12 := ⟨_, _, _, ck_2, by decide, gw_of (tb_1 (List.mem_of_getElem? (i := 151) rfl)) rfl⟩
theorem fl_5_31 : fL "NinetyPlayers$Laying" 31 2 13 := ⟨_, _, _, ck_2, by decide, gw_of (tb_1 (List.mem_of_getElem? (i := 154) rfl)) rfl⟩
theorem fl_5_32 : fL "NinetyPlayers$Laying" 32 2 14 := ⟨_, _, _, ck_2, by decide, gw_of (tb_1 (List.mem_of_getElem? (i := 157) rfl)) rfl⟩
theorem fl_0_84 : fL "NinetyPlayers" 84 4 0 := ⟨_, _, _, ck_4, by decide, gw_of (tb_1 (List.mem_of_getElem? (i := 42) rfl)) rfl⟩
theorem ml_0_90 : mLV "NinetyPlayers" 90 mT_putFourBytes 1 := ⟨yk_T_putFourBytes, gw_of (tb_2 (List.mem_of_getElem? (i := 239) rfl)) rfl, gw_of (tb_3 (List.mem_of_getElem? (i := 0) rfl)) rfl, gw_of (tb_3 (List.mem_of_getElem? (i := 1) rfl)) rfl⟩
theorem fl_4_15 : fL "NinetyPlayers$Tape" 15 4 0 := ⟨_, _, _, ck_4, by decide, gw_of (tb_1 (List.mem_of_getElem? (i := 43) rfl)) rfl⟩
theorem ml_0_94 : mLV "NinetyPlayers" 94 mR_begin 0 := ⟨yk_R_begin, gw_of (tb_3 (List.mem_of_getElem? (i := 11) rfl)) rfl, gw_of (tb_3 (List.mem_of_getElem? (i := 12) rfl)) rfl, gw_of (tb_3 (List.mem_of_getElem? (i := 13) rfl)) rfl⟩
theorem ml_0_97 : mLV "NinetyPlayers" 97 mR_goesOn 0 := ⟨yk_R_goesOn, gw_of (tb_3 (List.mem_of_getElem? (i := 157) rfl)) rfl, gw_of (tb_3 (List.mem_of_getElem? (i := 158) rfl)) rfl, gw_of (tb_3 (List.mem_of_getElem? (i := 159) rfl)) rfl⟩
theorem ml_0_101 : mLV "NinetyPlayers" 101 mR_readLine 0 := ⟨yk_R_readLine, gw_of (tb_3 (List.mem_of_getElem? (i := 161) rfl)) rfl, gw_of (tb_3 (List.mem_of_getElem? (i := 162) rfl)) rfl, gw_of (tb_3 (List.mem_of_getElem? (i := 163) rfl)) rfl⟩
theorem fl_0_104 : fL "NinetyPlayers" 104 1 0 := ⟨_, _, _, ck_1, by decide, gw_of (tb_1 (List.mem_of_getElem? (i := 195) rfl)) rfl⟩
theorem ml_0_107 : mLV "NinetyPlayers" 107 mR_exchange 1 := ⟨yk_R_exchange, gw_of (tb_4 (List.mem_of_getElem? (i := 14) rfl)) rfl, gw_of (tb_4 (List.mem_of_getElem? (i := 15) rfl)) rfl, gw_of (tb_4 (List.mem_of_getElem? (i := 16) rfl)) rfl⟩
theorem ml_0_111 : mLV "NinetyPlayers" 111 mC_forget 0 := ⟨yk_C_forget, gw_of (tb_4 (List.mem_of_getElem? (i := 18) rfl)) rfl, gw_of (tb_4 (List.mem_of_getElem? (i := 19) rfl)) rfl, gw_of (tb_4 (List.mem_of_getElem? (i := 20) rfl)) rfl⟩
theorem ml_0_114 : mLV "NinetyPlayers" 114 mI_forget 0 := ⟨yk_I_forget, gw_of (tb_4 (List.mem_of_getElem? (i := 22) rfl)) rfl, gw_of (tb_4 (List.mem_of_getElem? (i := 23) rfl)) rfl, gw_of (tb_4 (List.mem_of_getElem? (i := 24) rfl)) rfl⟩
theorem fl_0_115 : fL "NinetyPlayers" 115 0 12 := ⟨_, _, _, ck_0, by decide, gw_of (tb_2 (List.mem_of_getElem? (i := 207) rfl)) rfl⟩
theorem fl_0_118 : fL "NinetyPlayers" 118 5 0 := ⟨_, _, _, ck_5, by decide, gw_of (tb_1 (List.mem_of_getElem? (i := 221) rfl)) rfl⟩
theorem fl_0_122 : fL "NinetyPlayers" 122 2 6 := ⟨_, _, _, ck_2, by decide, gw_of (tb_1 (List.mem_of_getElem? (i := 137) rfl)) rfl⟩
theorem fl_1_29 : fL "NinetyPlayers$Reader" 29 1 0 := ⟨_, _, _, ck_1, by decide, gw_of (tb_1 (List.mem_of_getElem? (i := 194) rfl)) rfl⟩
theorem fl_1_32 : fL "NinetyPlayers$Reader" 32 1 4 := ⟨_, _, _, ck_1, by decide, gw_of (tb_1 (List.mem_of_getElem? (i := 201) rfl)) rfl⟩
theorem ml_1_35 : mLV "NinetyPlayers$Reader" 35 mS_forget 0 := ⟨yk_S_forget, gw_of (tb_3 (List.mem_of_getElem? (i := 15) rfl)) rfl, gw_of (tb_1 (List.mem_of_getElem? (i := 106) rfl)) rfl, gw_of (tb_1 (List.mem_of_getElem? (i := 107) rfl)) rfl⟩
theorem ml_1_38 : mLV "NinetyPlayers$Reader" 38 mT_begin 0 := ⟨yk_T_begin, gw_of (tb_3 (List.mem_of_getElem? (i := 16) rfl)) rfl, gw_of (tb_3 (List.mem_of_getElem? (i := 17) rfl)) rfl, gw_of (tb_3 (List.mem_of_getElem? (i := 18) rfl)) rfl⟩
theorem fl_4_19 : fL "NinetyPlayers$Tape" 19 4 2 := ⟨_, _, _, ck_4, by decide, gw_of (tb_1 (List.mem_of_getElem? (i := 45) rfl)) rfl⟩
theorem ml_4_22 : mLV "NinetyPlayers$Tape" 22 mT_step 0 := ⟨yk_T_step, gw_of (tb_3 (List.mem_of_getElem? (i := 20) rfl)) rfl, gw_of (tb_3 (List.mem_of_getElem? (i := 21) rfl)) rfl, gw_of (tb_3 (List.mem_of_getElem? (i := 22) rfl)) rfl⟩
theorem ml_4_25 : mLV "NinetyPlayers$Tape" 25 mT_at 1 := ⟨yk_T_at, gw_of (tb_3 (List.mem_of_getElem? (i := 24) rfl)) rfl, gw_of (tb_3 (List.mem_of_getElem? (i := 26) rfl)) rfl, gw_sel (List.mem_of_getElem? (i := 0) rfl) rfl⟩
theorem ml_4_29 : mLS "NinetyPlayers$Tape" 29 mT_isBlank 1 := ⟨yk_T_isBlank, gw_of (tb_3 (List.mem_of_getElem? (i := 28) rfl)) rfl, gw_of (tb_3 (List.mem_of_getElem? (i := 29) rfl)) rfl⟩
theorem fl_4_33 : fL "NinetyPlayers$Tape" 33 4 3 := ⟨_, _, _, ck_4, by decide, gw_of (tb_1 (List.mem_of_getElem? (i := 46) rfl)) rfl⟩
theorem fl_4_36 : fL "NinetyPlayers$Tape" 36 4 4 := ⟨_, _, _, ck_4, by decide, gw_of (tb_1 (List.mem_of_getElem? (i := 49) rfl)) rfl⟩
theorem ml_4_39 : mLS "NinetyPlayers$Tape" 39 mT_isLetter 1 := ⟨yk_T_isLetter, gw_of (tb_3 (List.mem_of_getElem? (i := 31) rfl)) rfl, gw_of (tb_3 (List.mem_of_getElem? (i := 32) rfl)) rfl⟩
theorem ml_4_42 : mLV "NinetyPlayers$Tape" 42 mT_takeWord 0 := ⟨yk_T_takeWord, gw_of (tb_3 (List.mem_of_getElem? (i := 34) rfl)) rfl, gw_of (tb_3 (List.mem_of_getElem? (i := 36) rfl)) rfl, gw_sel (List.mem_of_getElem? (i := 1) rfl) rfl⟩
theorem ml_4_45 : mLS "NinetyPlayers$Tape" 45 mT_isDigit 1 := ⟨yk_T_isDigit, gw_of (tb_3 (List.mem_of_getElem? (i := 90) rfl)) rfl, gw_of (tb_3 (List.mem_of_getElem? (i := 91) rfl)) rfl⟩
theorem ml_4_48 : mLV "NinetyPlayers$Tape" 48 mT_takeNumber 0 := ⟨yk_T_takeNumber, gw_of (tb_3 (List.mem_of_getElem? (i := 93) rfl)) rfl, gw_of (tb_3 (List.mem_of_getElem? (i := 95) rfl)) rfl, gw_sel (List.mem_of_getElem? (i := 2) rfl) rfl⟩
theorem ml_4_53 : mLV "NinetyPlayers$Tape" 53 mJ_indexOf 1 := ⟨yk_J_indexOf, gw_of (tb_3 (List.mem_of_getElem? (i := 98) rfl)) rfl, gw_of (tb_3 (List.mem_of_getElem? (i := 99) rfl)) rfl, gw_of (tb_3 (List.mem_of_getElem? (i := 100) rfl)) rfl⟩
theorem fl_4_58 : fL "NinetyPlayers$Tape" 58 4 5 := ⟨_, _, _, ck_4, by decide, gw_of (tb_1 (List.mem_of_getElem? (i := 50) rfl)) rfl⟩
theorem fl_4_61 : fL "NinetyPlayers$Tape" 61 4 6 := ⟨_, _, _, ck_4, by decide, gw_of (tb_1 (List.mem_of_getElem? (i := 52) rfl)) rfl⟩
theorem ml_4_65 : mLS "NinetyPlayers$Tape" 65 mW_numberOf 3 := ⟨yk_W_numberOf, gw_of (tb_3 (List.mem_of_getElem? (i := 38) rfl)) rfl, gw_of (tb_3 (List.mem_of_getElem? (i := 39) rfl)) rfl⟩
theorem ml_12_13 : mLV "NinetyPlayers$Word" 13 mJ_length 0 := ⟨yk_J_length, gw_of (tb_3 (List.mem_of_getElem? (i := 42) rfl)) rfl, gw_of (tb_3 (List.mem_of_getElem? (i := 43) rfl)) rfl, gw_of (tb_3 (List.mem_of_getElem? (i := 44) rfl)) rfl⟩
theorem ml_12_19 : mLV "NinetyPlayers$Word" 19 mJ_charAt 1 := ⟨yk_J_charAt, gw_of (tb_3 (List.mem_of_getElem? (i := 52) rfl)) rfl, gw_of (tb_3 (List.mem_of_getElem? (i := 53) rfl)) rfl, gw_of (tb_3 (List.mem_of_getElem? (i := 54) rfl)) rfl⟩
theorem ml_16_335 : mLV "java/lang/String" 335 mJ_coder 0 := ⟨yk_J_coder, gw_of (tb_3 (List.mem_of_getElem? (i := 46) rfl)) rfl, gw_of (tb_3 (List.mem_of_getElem? (i := 47) rfl)) rfl, gw_of (tb_3 (List.mem_of_getElem? (i := 48) rfl)) rfl⟩
theorem ml_16_492 : mLV "java/lang/String" 492 mJ_isLatin1 0 := ⟨yk_J_isLatin1, gw_of (tb_3 (List.mem_of_getElem? (i := 56) rfl)) rfl, gw_of (tb_3 (List.mem_of_getElem? (i := 57) rfl)) rfl, gw_of (tb_3 (List.mem_of_getElem? (i := 58) rfl)) rfl⟩
theorem ml_16_495 : mLS "java/lang/String" 495 mJ_charAt2 2 := ⟨yk_J_charAt2, gw_of (tb_3 (List.mem_of_getElem? (i := 60) rfl)) rfl, gw_of (tb_3 (List.mem_of_getElem? (i := 61) rfl)) rfl⟩
theorem ml_17_9 : mLS "java/lang/StringLatin1" 9 mJ_checkIndex 2 := ⟨yk_J_checkIndex, gw_of (tb_3 (List.mem_of_getElem? (i := 63) rfl)) rfl, gw_of (tb_3 (List.mem_of_getElem? (i := 64) rfl)) rfl⟩
theorem ml_16_1059 : mLS "java/lang/String" 1059 mJ_checkIndex3 3 := ⟨yk_J_checkIndex3, gw_of (tb_3 (List.mem_of_getElem? (i := 68) rfl)) rfl, gw_of (tb_3 (List.mem_of_getElem? (i := 69) rfl)) rfl⟩
theorem ml_16_633 : mLV "java/lang/String" 633 mJ_indexOf2 2 := ⟨yk_J_indexOf2, gw_of (tb_3 (List.mem_of_getElem? (i := 102) rfl)) rfl, gw_of (tb_3 (List.mem_of_getElem? (i := 103) rfl)) rfl, gw_of (tb_3 (List.mem_of_getElem? (i := 104) rfl)) rfl⟩
theorem ml_16_505 : mLV "java/lang/String" 505 mJ_length 0 := ⟨yk_J_length, gw_of (tb_3 (List.mem_of_getElem? (i := 106) rfl)) rfl, gw_of (tb_3 (List.mem_of_getElem? (i := 43) rfl)) rfl, gw_of (tb_3 (List.mem_of_getElem? (i := 44) rfl)) rfl⟩
theorem ml_16_637 : mLS "java/lang/String" 637 mJ_indexOf3 4 := ⟨yk_J_indexOf3, gw_of (tb_3 (List.mem_of_getElem? (i := 107) rfl)) rfl, gw_of (tb_3 (List.mem_of_getElem? (i := 108) rfl)) rfl⟩
theorem ml_17_88 : mLS "java/lang/StringLatin1" 88 mJ_canEncode 1 := ⟨yk_J_canEncode, gw_of (tb_3 (List.mem_of_getElem? (i := 110) rfl)) rfl, gw_of (tb_3 (List.mem_of_getElem? (i := 111) rfl)) rfl⟩
theorem ml_17_92 : mMmax "java/lang/StringLatin1" 92 := ⟨gw_of (tb_3 (List.mem_of_getElem? (i := 113) rfl)) rfl, gw_of (tb_3 (List.mem_of_getElem? (i := 114) rfl)) rfl, gw_of (tb_1 (List.mem_of_getElem? (i := 18) rfl)) rfl, gw_of (tb_3 (List.mem_of_getElem? (i := 115) rfl)) rfl⟩
theorem ml_17_38 : mMmin "java/lang/StringLatin1" 38 := ⟨gw_of (tb_3 (List.mem_of_getElem? (i := 116) rfl)) rfl, gw_of (tb_3 (List.mem_of_getElem? (i := 117) rfl)) rfl, gw_of (tb_1 (List.mem_of_getElem? (i := 18) rfl)) rfl, gw_of (tb_3 (List.mem_of_getElem? (i := 118) rfl)) rfl⟩
theorem ml_17_95 : mLS "java/lang/StringLatin1" 95 mJ_indexOfChar 4 := ⟨yk_J_indexOfChar, gw_of (tb_3 (List.mem_of_getElem? (i := 119) rfl)) rfl, gw_of (tb_3 (List.mem_of_getElem? (i := 120) rfl)) rfl⟩
theorem fl_1_41 : fL "NinetyPlayers$Reader" 41 4 4 := ⟨_, _, _, ck_4, by decide, gw_of (tb_1 (List.mem_of_getElem? (i := 48) rfl)) rfl⟩
theorem fl_1_44 : fL "NinetyPlayers$Reader" 44 4 5 := ⟨_, _, _, ck_4, by decide, gw_of (tb_1 (List.mem_of_getElem? (i := 51) rfl)) rfl⟩
theorem ml_1_47 : mLV "NinetyPlayers$Reader" 47 mR_mayBegin 1 := ⟨yk_R_mayBegin, gw_of (tb_3 (List.mem_of_getElem? (i := 165) rfl)) rfl, gw_of (tb_3 (List.mem_of_getElem? (i := 167) rfl)) rfl, gw_sel (List.mem_of_getElem? (i := 3) rfl) rfl⟩
theorem ml_1_51 : mLV "NinetyPlayers$Reader" 51 mR_refuse 1 := ⟨yk_R_refuse, gw_of (tb_3 (List.mem_of_getElem? (i := 169) rfl)) rfl, gw_of (tb_3 (List.mem_of_getElem? (i := 171) rfl)) rfl, gw_sel (List.mem_of_getElem? (i := 4) rfl) rfl⟩
theorem ml_1_55 : mLV "NinetyPlayers$Reader" 55 mT_step 0 := ⟨yk_T_step, gw_of (tb_3 (List.mem_of_getElem? (i := 173) rfl)) rfl, gw_of (tb_3 (List.mem_of_getElem? (i := 21) rfl)) rfl, gw_of (tb_3 (List.mem_of_getElem? (i := 22) rfl)) rfl⟩
theorem ml_1_58 : mLV "NinetyPlayers$Reader" 58 mR_number 2 := ⟨yk_R_number, gw_of (tb_3 (List.mem_of_getElem? (i := 174) rfl)) rfl, gw_of (tb_3 (List.mem_of_getElem? (i := 176) rfl)) rfl, gw_sel (List.mem_of_getElem? (i := 5) rfl) rfl⟩
theorem fl_1_62 : fL "NinetyPlayers$Reader" 62 2 0 := ⟨_, _, _, ck_2, by decide, gw_of (tb_1 (List.mem_of_getElem? (i := 115) rfl)) rfl⟩
theorem ml_1_65 : mLV "NinetyPlayers$Reader" 65 mR_partLine 0 := ⟨yk_R_partLine, gw_of (tb_3 (List.mem_of_getElem? (i := 178) rfl)) rfl, gw_of (tb_3 (List.mem_of_getElem? (i := 180) rfl)) rfl, gw_sel (List.mem_of_getElem? (i := 6) rfl) rfl⟩
theorem ml_1_68 : mLV "NinetyPlayers$Reader" 68 mR_noteLine 0 := ⟨yk_R_noteLine, gw_of (tb_3 (List.mem_of_getElem? (i := 198) rfl)) rfl, gw_of (tb_3 (List.mem_of_getElem? (i := 200) rfl)) rfl, gw_sel (List.mem_of_getElem? (i := 9) rfl) rfl⟩
theorem ml_1_71 : mLV "NinetyPlayers$Reader" 71 mR_either 1 := ⟨yk_R_either, gw_of (tb_3 (List.mem_of_getElem? (i := 218) rfl)) rfl, gw_of (tb_3 (List.mem_of_getElem? (i := 220) rfl)) rfl, gw_sel (List.mem_of_getElem? (i := 12) rfl) rfl⟩
theorem fl_1_74 : fL "NinetyPlayers$Reader" 74 2 1 := ⟨_, _, _, ck_2, by decide, gw_of (tb_1 (List.mem_of_getElem? (i := 119) rfl)) rfl⟩
theorem fl_1_77 : fL "NinetyPlayers$Reader" 77 2 2 := ⟨_, _, _, ck_2, by decide, gw_of (tb_1 (List.mem_of_getElem? (i := 123) rfl)) rfl⟩
theorem fl_1_80 : fL "NinetyPlayers$Reader" 80 2 3 := ⟨_, _, _, ck_2, by decide, gw_of (tb_1 (List.mem_of_getElem? (i := 127) rfl)) rfl⟩
theorem fl_1_83 : fL "NinetyPlayers$Reader" 83 2 4 := ⟨_, _, _, ck_2, by decide, gw_of (tb_1 (List.mem_of_getElem? (i := 130) rfl)) rfl⟩
theorem ml_1_86 : mLV "NinetyPlayers$Reader" 86 mR_takeSign 1 := ⟨yk_R_takeSign, gw_of (tb_4 (List.mem_of_getElem? (i := 10) rfl)) rfl, gw_of (tb_4 (List.mem_of_getElem? (i := 12) rfl)) rfl, gw_sel (List.mem_of_getElem? (i := 19) rfl) rfl⟩
theorem fl_1_90 : fL "NinetyPlayers$Reader" 90 2 5 := ⟨_, _, _, ck_2, by decide, gw_of (tb_1 (List.mem_of_getElem? (i := 133) rfl)) rfl⟩
theorem fl_1_93 : fL "NinetyPlayers$Reader" 93 2 6 := ⟨_, _, _, ck_2, by decide, gw_of (tb_1 (List.mem_of_getElem? (i := 139) rfl)) rfl⟩
theorem fl_1_136 : fL "NinetyPlayers$Reader" 136 4 3 := ⟨_, _, _, ck_4, by decide, gw_of (tb_1 (List.mem_of_getElem? (i := 47) rfl)) rfl⟩
theorem fl_1_98 : fL "NinetyPlayers$Reader" 98 4 6 := ⟨_, _, _, ck_4, by decide, gw_of (tb_1 (List.mem_of_getElem? (i := 53) rfl)) rfl⟩
theorem ml_1_102 : mLV "NinetyPlayers$Reader" 102 mS_partNamed 1 := ⟨yk_S_partNamed, gw_of (tb_3 (List.mem_of_getElem? (i := 182) rfl)) rfl, gw_of (tb_3 (List.mem_of_getElem? (i := 183) rfl)) rfl, gw_of (tb_3 (List.mem_of_getElem? (i := 184) rfl)) rfl⟩
theorem ml_1_106 : mLV "NinetyPlayers$Reader" 106 mR_newName 1 := ⟨yk_R_newName, gw_of (tb_3 (List.mem_of_getElem? (i := 186) rfl)) rfl, gw_of (tb_3 (List.mem_of_getElem? (i := 188) rfl)) rfl, gw_sel (List.mem_of_getElem? (i := 7) rfl) rfl⟩
theorem ml_1_110 : mLV "NinetyPlayers$Reader" 110 mR_isWord 1 := ⟨yk_R_isWord, gw_of (tb_3 (List.mem_of_getElem? (i := 190) rfl)) rfl, gw_of (tb_3 (List.mem_of_getElem? (i := 192) rfl)) rfl, gw_sel (List.mem_of_getElem? (i := 8) rfl) rfl⟩
theorem ml_1_113 : mLV "NinetyPlayers$Reader" 113 mS_addPart 2 := ⟨yk_S_addPart, gw_of (tb_3 (List.mem_of_getElem? (i := 194) rfl)) rfl, gw_of (tb_3 (List.mem_of_getElem? (i := 195) rfl)) rfl, gw_of (tb_3 (List.mem_of_getElem? (i := 196) rfl)) rfl⟩
theorem ml_1_117 : mLV "NinetyPlayers$Reader" 117 mS_hasNoteNamed 1 := ⟨yk_S_hasNoteNamed, gw_of (tb_3 (List.mem_of_getElem? (i := 202) rfl)) rfl, gw_of (tb_3 (List.mem_of_getElem? (i := 203) rfl)) rfl, gw_of (tb_3 (List.mem_of_getElem? (i := 204) rfl)) rfl⟩
theorem ml_1_121 : mLV "NinetyPlayers$Reader" 121 mR_takeWord 1 := ⟨yk_R_takeWord, gw_of (tb_3 (List.mem_of_getElem? (i := 206) rfl)) rfl, gw_of (tb_3 (List.mem_of_getElem? (i := 208) rfl)) rfl, gw_sel (List.mem_of_getElem? (i := 10) rfl) rfl⟩
theorem ml_1_124 : mLV "NinetyPlayers$Reader" 124 mR_knownPart 0 := ⟨yk_R_knownPart, gw_of (tb_3 (List.mem_of_getElem? (i := 210) rfl)) rfl, gw_of (tb_3 (List.mem_of_getElem? (i := 212) rfl)) rfl, gw_sel (List.mem_of_getElem? (i := 11) rfl) rfl⟩
theorem ml_1_128 : mLV "NinetyPlayers$Reader" 128 mS_addNote 6 := ⟨yk_S_addNote, gw_of (tb_3 (List.mem_of_getElem? (i := 214) rfl)) rfl, gw_of (tb_3 (List.mem_of_getElem? (i := 215) rfl)) rfl, gw_of (tb_3 (List.mem_of_getElem? (i := 216) rfl)) rfl⟩
theorem ml_1_137 : mLV "NinetyPlayers$Reader" 137 mR_both 1 := ⟨yk_R_both, gw_of (tb_3 (List.mem_of_getElem? (i := 222) rfl)) rfl, gw_of (tb_3 (List.mem_of_getElem? (i := 224) rfl)) rfl, gw_sel (List.mem_of_getElem? (i := 13) rfl) rfl⟩
theorem fl_1_140 : fL "NinetyPlayers$Reader" 140 2 15 := ⟨_, _, _, ck_2, by decide, gw_of (tb_1 (List.mem_of_getElem? (i := 159) rfl)) rfl⟩
theorem ml_1_144 : mLV "NinetyPlayers$Reader" 144 mF_put 1 := ⟨yk_F_put, gw_of (tb_3 (List.mem_of_getElem? (i := 230) rfl)) rfl, gw_of (tb_3 (List.mem_of_getElem? (i := 231) rfl)) rfl, gw_of (tb_3 (List.mem_of_getElem? (i := 232) rfl)) rfl⟩
theorem ml_1_149 : mLV "NinetyPlayers$Reader" 149 mR_one 1 := ⟨yk_R_one, gw_of (tb_3 (List.mem_of_getElem? (i := 226) rfl)) rfl, gw_of (tb_3 (List.mem_of_getElem? (i := 228) rfl)) rfl, gw_sel (List.mem_of_getElem? (i := 14) rfl) rfl⟩
theorem ml_1_152 : mLV "NinetyPlayers$Reader" 152 mR_sum 1 := ⟨yk_R_sum, gw_of (tb_3 (List.mem_of_getElem? (i := 234) rfl)) rfl, gw_of (tb_3 (List.mem_of_getElem? (i := 236) rfl)) rfl, gw_sel (List.mem_of_getElem? (i := 15) rfl) rfl⟩
theorem ml_1_132 : mLV "NinetyPlayers$Reader" 132 mR_isSign 1 := ⟨yk_R_isSign, gw_of (tb_4 (List.mem_of_getElem? (i := 6) rfl)) rfl, gw_of (tb_4 (List.mem_of_getElem? (i := 8) rfl)) rfl, gw_sel (List.mem_of_getElem? (i := 18) rfl) rfl⟩
theorem ml_1_155 : mLV "NinetyPlayers$Reader" 155 mR_term 1 := ⟨yk_R_term, gw_of (tb_3 (List.mem_of_getElem? (i := 238) rfl)) rfl, gw_of (tb_4 (List.mem_of_getElem? (i := 0) rfl)) rfl, gw_sel (List.mem_of_getElem? (i := 16) rfl) rfl⟩
theorem ml_1_158 : mLV "NinetyPlayers$Reader" 158 mR_unit 1 := ⟨yk_R_unit, gw_of (tb_4 (List.mem_of_getElem? (i := 2) rfl)) rfl, gw_of (tb_4 (List.mem_of_getElem? (i := 4) rfl)) rfl, gw_sel (List.mem_of_getElem? (i := 17) rfl) rfl⟩
theorem fl_1_161 : fL "NinetyPlayers$Reader" 161 3 0 := ⟨_, _, _, ck_3, by decide, gw_of (tb_1 (List.mem_of_getElem? (i := 83) rfl)) rfl⟩
theorem fl_6_24 : fL "NinetyPlayers$Acts" 24 6 0 := ⟨_, _, _, ck_6, by decide, gw_of (tb_2 (List.mem_of_getElem? (i := 15) rfl)) rfl⟩
theorem fl_6_28 : fL "NinetyPlayers$Acts" 28 6 1 := ⟨_, _, _, ck_6, by decide, gw_of (tb_2 (List.mem_of_getElem? (i := 17) rfl)) rfl⟩
theorem fl_10_34 : fL "NinetyPlayers$Witness" 34 10 0 := ⟨_, _, _, ck_10, by decide, gw_of (tb_2 (List.mem_of_getElem? (i := 149) rfl)) rfl⟩
theorem fl_0_125 : fL "NinetyPlayers" 125 1 1 := ⟨_, _, _, ck_1, by decide, gw_of (tb_1 (List.mem_of_getElem? (i := 197) rfl)) rfl⟩
theorem ml_0_128 : mLV "NinetyPlayers" 128 mN_isNote 1 := ⟨yk_N_isNote, gw_of (tb_4 (List.mem_of_getElem? (i := 34) rfl)) rfl, gw_of (tb_4 (List.mem_of_getElem? (i := 36) rfl)) rfl, gw_sel (List.mem_of_getElem? (i := 20) rfl) rfl⟩
theorem fl_0_132 : fL "NinetyPlayers" 132 2 10 := ⟨_, _, _, ck_2, by decide, gw_of (tb_1 (List.mem_of_getElem? (i := 145) rfl)) rfl⟩
theorem fl_0_135 : fL "NinetyPlayers" 135 2 11 := ⟨_, _, _, ck_2, by decide, gw_of (tb_1 (List.mem_of_getElem? (i := 148) rfl)) rfl⟩
theorem fl_0_138 : fL "NinetyPlayers" 138 5 3 := ⟨_, _, _, ck_5, by decide, gw_of (tb_1 (List.mem_of_getElem? (i := 229) rfl)) rfl⟩
theorem fl_0_141 : fL "NinetyPlayers" 141 5 4 := ⟨_, _, _, ck_5, by decide, gw_of (tb_1 (List.mem_of_getElem? (i := 232) rfl)) rfl⟩
theorem fl_0_144 : fL "NinetyPlayers" 144 5 5 := ⟨_, _, _, ck_5, by decide, gw_of (tb_1 (List.mem_of_getElem? (i := 234) rfl)) rfl⟩
theorem fl_0_147 : fL "NinetyPlayers" 147 5 2 := ⟨_, _, _, ck_5, by decide, gw_of (tb_1 (List.mem_of_getElem? (i := 226) rfl)) rfl⟩
theorem ml_0_150 : mLV "NinetyPlayers" 150 mN_missedOf 1 := ⟨yk_N_missedOf, gw_of (tb_4 (List.mem_of_getElem? (i := 38) rfl)) rfl, gw_of (tb_4 (List.mem_of_getElem? (i := 40) rfl)) rfl, gw_sel (List.mem_of_getElem? (i := 21) rfl) rfl⟩
theorem ml_0_154 : mLV "NinetyPlayers" 154 mN_doublesOf 1 := ⟨yk_N_doublesOf, gw_of (tb_4 (List.mem_of_getElem? (i := 46) rfl)) rfl, gw_of (tb_4 (List.mem_of_getElem? (i := 48) rfl)) rfl, gw_sel (List.mem_of_getElem? (i := 22) rfl) rfl⟩
theorem ml_0_208 : mLV "NinetyPlayers" 208 mS_roleOf 1 := ⟨yk_S_roleOf, gw_of (tb_4 (List.mem_of_getElem? (i := 42) rfl)) rfl, gw_of (tb_4 (List.mem_of_getElem? (i := 43) rfl)) rfl, gw_of (tb_4 (List.mem_of_getElem? (i := 44) rfl)) rfl⟩
theorem ml_0_211 : mLS "NinetyPlayers" 211 mJ_bitCount 1 := ⟨yk_J_bitCount, gw_of (tb_4 (List.mem_of_getElem? (i := 50) rfl)) rfl, gw_of (tb_4 (List.mem_of_getElem? (i := 51) rfl)) rfl⟩
theorem fl_0_216 : fL "NinetyPlayers" 216 2 15 := ⟨_, _, _, ck_2, by decide, gw_of (tb_1 (List.mem_of_getElem? (i := 160) rfl)) rfl⟩
theorem ml_0_220 : mLV "NinetyPlayers" 220 mF_isTold 0 := ⟨yk_F_isTold, gw_of (tb_4 (List.mem_of_getElem? (i := 56) rfl)) rfl, gw_of (tb_4 (List.mem_of_getElem? (i := 57) rfl)) rfl, gw_of (tb_4 (List.mem_of_getElem? (i := 58) rfl)) rfl⟩
theorem ml_0_225 : mLV "NinetyPlayers" 225 mF_valueOf 6 := ⟨yk_F_valueOf, gw_of (tb_4 (List.mem_of_getElem? (i := 60) rfl)) rfl, gw_of (tb_4 (List.mem_of_getElem? (i := 61) rfl)) rfl, gw_of (tb_4 (List.mem_of_getElem? (i := 62) rfl)) rfl⟩
theorem ml_0_229 : mMmin "NinetyPlayers" 229 := ⟨gw_of (tb_4 (List.mem_of_getElem? (i := 75) rfl)) rfl, gw_of (tb_3 (List.mem_of_getElem? (i := 117) rfl)) rfl, gw_of (tb_1 (List.mem_of_getElem? (i := 18) rfl)) rfl, gw_of (tb_3 (List.mem_of_getElem? (i := 118) rfl)) rfl⟩
theorem ml_0_234 : mMmax "NinetyPlayers" 234 := ⟨gw_of (tb_4 (List.mem_of_getElem? (i := 76) rfl)) rfl, gw_of (tb_3 (List.mem_of_getElem? (i := 114) rfl)) rfl, gw_of (tb_1 (List.mem_of_getElem? (i := 18) rfl)) rfl, gw_of (tb_3 (List.mem_of_getElem? (i := 115) rfl)) rfl⟩
theorem kc_15_265 : Cond.constant "java/lang/Integer" 265 1431655765 ∈ GW := gw_of (tb_4 (List.mem_of_getElem? (i := 53) rfl)) rfl
theorem kc_15_266 : Cond.constant "java/lang/Integer" 266 858993459 ∈ GW := gw_of (tb_4 (List.mem_of_getElem? (i := 54) rfl)) rfl
theorem kc_15_267 : Cond.constant "java/lang/Integer" 267 252645135 ∈ GW := gw_of (tb_4 (List.mem_of_getElem? (i := 55) rfl)) rfl
theorem fl_3_28 : fL "NinetyPlayers$Formula" 28 3 5 := ⟨_, _, _, ck_3, by decide, gw_of (tb_1 (List.mem_of_getElem? (i := 89) rfl)) rfl⟩
theorem ml_3_31 : mLV "NinetyPlayers$Formula" 31 mF_step 1 := ⟨yk_F_step, gw_of (tb_4 (List.mem_of_getElem? (i := 64) rfl)) rfl, gw_of (tb_4 (List.mem_of_getElem? (i := 66) rfl)) rfl, gw_sel (List.mem_of_getElem? (i := 23) rfl) rfl⟩
theorem ml_3_35 : mLV "NinetyPlayers$Formula" 35 mF_push 1 := ⟨yk_F_push, gw_of (tb_4 (List.mem_of_getElem? (i := 68) rfl)) rfl, gw_of (tb_4 (List.mem_of_getElem? (i := 70) rfl)) rfl, gw_sel (List.mem_of_getElem? (i := 24) rfl) rfl⟩
theorem ml_3_38 : mLS "NinetyPlayers$Formula" 38 mF_joined 3 := ⟨yk_F_joined, gw_of (tb_4 (List.mem_of_getElem? (i := 72) rfl)) rfl, gw_of (tb_4 (List.mem_of_getElem? (i := 73) rfl)) rfl⟩
theorem fl_0_157 : fL "NinetyPlayers" 157 2 5 := ⟨_, _, _, ck_2, by decide, gw_of (tb_1 (List.mem_of_getElem? (i := 134) rfl)) rfl⟩
theorem fl_0_160 : fL "NinetyPlayers" 160 2 8 := ⟨_, _, _, ck_2, by decide, gw_of (tb_1 (List.mem_of_getElem? (i := 142) rfl)) rfl⟩
theorem ml_0_163 : mLV "NinetyPlayers" 163 mS_notesOf 1 := ⟨yk_S_notesOf, gw_of (tb_4 (List.mem_of_getElem? (i := 81) rfl)) rfl, gw_of (tb_4 (List.mem_of_getElem? (i := 82) rfl)) rfl, gw_of (tb_4 (List.mem_of_getElem? (i := 83) rfl)) rfl⟩
theorem ml_0_166 : mLV "NinetyPlayers" 166 mN_givenSet 0 := ⟨yk_N_givenSet, gw_of (tb_4 (List.mem_of_getElem? (i := 85) rfl)) rfl, gw_of (tb_4 (List.mem_of_getElem? (i := 87) rfl)) rfl, gw_sel (List.mem_of_getElem? (i := 25) rfl) rfl⟩
theorem ml_0_205 : mLV "NinetyPlayers" 205 mL_setOf 1 := ⟨yk_L_setOf, gw_of (tb_4 (List.mem_of_getElem? (i := 89) rfl)) rfl, gw_of (tb_4 (List.mem_of_getElem? (i := 90) rfl)) rfl, gw_of (tb_4 (List.mem_of_getElem? (i := 91) rfl)) rfl⟩
theorem ml_0_170 : mLV "NinetyPlayers" 170 mN_isBeat 1 := ⟨yk_N_isBeat, gw_of (tb_4 (List.mem_of_getElem? (i := 97) rfl)) rfl, gw_of (tb_4 (List.mem_of_getElem? (i := 99) rfl)) rfl, gw_sel (List.mem_of_getElem? (i := 26) rfl) rfl⟩
theorem ml_0_173 : mLS "NinetyPlayers" 173 mN_isHand 1 := ⟨yk_N_isHand, gw_of (tb_4 (List.mem_of_getElem? (i := 101) rfl)) rfl, gw_of (tb_4 (List.mem_of_getElem? (i := 102) rfl)) rfl⟩
theorem ml_0_176 : mLV "NinetyPlayers" 176 mN_lookAtKeys 0 := ⟨yk_N_lookAtKeys, gw_of (tb_4 (List.mem_of_getElem? (i := 104) rfl)) rfl, gw_of (tb_4 (List.mem_of_getElem? (i := 106) rfl)) rfl, gw_sel (List.mem_of_getElem? (i := 27) rfl) rfl⟩
theorem ml_0_179 : mLV "NinetyPlayers" 179 mK_heldBy 2 := ⟨yk_K_heldBy, gw_of (tb_4 (List.mem_of_getElem? (i := 121) rfl)) rfl, gw_of (tb_4 (List.mem_of_getElem? (i := 122) rfl)) rfl, gw_of (tb_4 (List.mem_of_getElem? (i := 123) rfl)) rfl⟩
theorem fl_0_198 : fL "NinetyPlayers" 198 2 0 := ⟨_, _, _, ck_2, by decide, gw_of (tb_1 (List.mem_of_getElem? (i := 116) rfl)) rfl⟩
theorem ml_0_201 : mLV "NinetyPlayers" 201 mK_lay 2 := ⟨yk_K_lay, gw_of (tb_4 (List.mem_of_getElem? (i := 108) rfl)) rfl, gw_of (tb_4 (List.mem_of_getElem? (i := 109) rfl)) rfl, gw_of (tb_4 (List.mem_of_getElem? (i := 110) rfl)) rfl⟩
theorem fl_7_24 : fL "NinetyPlayers$Keyboard" 24 2 0 := ⟨_, _, _, ck_2, by decide, gw_of (tb_1 (List.mem_of_getElem? (i := 113) rfl)) rfl⟩
theorem fl_7_30 : fL "NinetyPlayers$Keyboard" 30 7 0 := ⟨_, _, _, ck_7, by decide, gw_of (tb_2 (List.mem_of_getElem? (i := 48) rfl)) rfl⟩
theorem fl_7_31 : fL "NinetyPlayers$Keyboard" 31 2 6 := ⟨_, _, _, ck_2, by decide, gw_of (tb_1 (List.mem_of_getElem? (i := 135) rfl)) rfl⟩
theorem fl_7_34 : fL "NinetyPlayers$Keyboard" 34 7 1 := ⟨_, _, _, ck_7, by decide, gw_of (tb_2 (List.mem_of_getElem? (i := 51) rfl)) rfl⟩
theorem fl_7_35 : fL "NinetyPlayers$Keyboard" 35 2 1 := ⟨_, _, _, ck_2, by decide, gw_of (tb_1 (List.mem_of_getElem? (i := 118) rfl)) rfl⟩
theorem fl_7_38 : fL "NinetyPlayers$Keyboard" 38 7 2 := ⟨_, _, _, ck_7, by decide, gw_of (tb_2 (List.mem_of_getElem? (i := 53) rfl)) rfl⟩
theorem fl_7_39 : fL "NinetyPlayers$Keyboard" 39 2 2 := ⟨_, _, _, ck_2, by decide, gw_of (tb_1 (List.mem_of_getElem? (i := 122) rfl)) rfl⟩
theorem fl_7_42 : fL "NinetyPlayers$Keyboard" 42 7 3 := ⟨_, _, _, ck_7, by decide, gw_of (tb_2 (List.mem_of_getElem? (i := 56) rfl)) rfl⟩
theorem fl_7_43 : fL "NinetyPlayers$Keyboard" 43 2 3 := ⟨_, _, _, ck_2, by decide, gw_of (tb_1 (List.mem_of_getElem? (i := 126) rfl)) rfl⟩
theorem fl_7_46 : fL "NinetyPlayers$Keyboard" 46 7 4 := ⟨_, _, _, ck_7, by decide, gw_of (tb_2 (List.mem_of_getElem? (i := 59) rfl)) rfl⟩
theorem ml_7_47 : mLV "NinetyPlayers$Keyboard" 47 mL_setOf 1 := ⟨yk_L_setOf, gw_of (tb_4 (List.mem_of_getElem? (i := 112) rfl)) rfl, gw_of (tb_4 (List.mem_of_getElem? (i := 90) rfl)) rfl, gw_of (tb_4 (List.mem_of_getElem? (i := 91) rfl)) rfl⟩
theorem fl_7_53 : fL "NinetyPlayers$Keyboard" 53 7 5 := ⟨_, _, _, ck_7, by decide, gw_of (tb_2 (List.mem_of_getElem? (i := 61) rfl)) rfl⟩
theorem fl_7_56 : fL "NinetyPlayers$Keyboard" 56 7 6 := ⟨_, _, _, ck_7, by decide, gw_of (tb_2 (List.mem_of_getElem? (i := 65) rfl)) rfl⟩
theorem fl_7_59 : fL "NinetyPlayers$Keyboard" 59 5 1 := ⟨_, _, _, ck_5, by decide, gw_of (tb_1 (List.mem_of_getElem? (i := 223) rfl)) rfl⟩
theorem fl_7_62 : fL "NinetyPlayers$Keyboard" 62 7 7 := ⟨_, _, _, ck_7, by decide, gw_of (tb_2 (List.mem_of_getElem? (i := 69) rfl)) rfl⟩
theorem fl_7_63 : fL "NinetyPlayers$Keyboard" 63 5 3 := ⟨_, _, _, ck_5, by decide, gw_of (tb_1 (List.mem_of_getElem? (i := 228) rfl)) rfl⟩
theorem fl_7_64 : fL "NinetyPlayers$Keyboard" 64 2 11 := ⟨_, _, _, ck_2, by decide, gw_of (tb_1 (List.mem_of_getElem? (i := 147) rfl)) rfl⟩
theorem fl_7_65 : fL "NinetyPlayers$Keyboard" 65 5 4 := ⟨_, _, _, ck_5, by decide, gw_of (tb_1 (List.mem_of_getElem? (i := 231) rfl)) rfl⟩
theorem ml_7_66 : mLV "NinetyPlayers$Keyboard" 66 mK_hasPedal 1 := ⟨yk_K_hasPedal, gw_of (tb_4 (List.mem_of_getElem? (i := 113) rfl)) rfl, gw_of (tb_4 (List.mem_of_getElem? (i := 115) rfl)) rfl, gw_sel (List.mem_of_getElem? (i := 28) rfl) rfl⟩
theorem ml_7_70 : mLV "NinetyPlayers$Keyboard" 70 mK_timelySince 2 := ⟨yk_K_timelySince, gw_of (tb_4 (List.mem_of_getElem? (i := 117) rfl)) rfl, gw_of (tb_4 (List.mem_of_getElem? (i := 118) rfl)) rfl, gw_of (tb_4 (List.mem_of_getElem? (i := 119) rfl)) rfl⟩
theorem ml_7_74 : mLV "NinetyPlayers$Keyboard" 74 mK_setOf 1 := ⟨yk_K_setOf, gw_of (tb_4 (List.mem_of_getElem? (i := 125) rfl)) rfl, gw_of (tb_4 (List.mem_of_getElem? (i := 126) rfl)) rfl, gw_of (tb_4 (List.mem_of_getElem? (i := 127) rfl)) rfl⟩
theorem ml_7_75 : mLV "NinetyPlayers$Keyboard" 75 mK_timelyAt 1 := ⟨yk_K_timelyAt, gw_of (tb_4 (List.mem_of_getElem? (i := 129) rfl)) rfl, gw_of (tb_4 (List.mem_of_getElem? (i := 130) rfl)) rfl, gw_of (tb_4 (List.mem_of_getElem? (i := 131) rfl)) rfl⟩
theorem ml_0_185 : mLV "NinetyPlayers" 185 mK_soundingAt 1 := ⟨yk_K_soundingAt, gw_of (tb_4 (List.mem_of_getElem? (i := 137) rfl)) rfl, gw_of (tb_4 (List.mem_of_getElem? (i := 138) rfl)) rfl, gw_of (tb_4 (List.mem_of_getElem? (i := 139) rfl)) rfl⟩
theorem fl_0_188 : fL "NinetyPlayers" 188 7 5 := ⟨_, _, _, ck_7, by decide, gw_of (tb_2 (List.mem_of_getElem? (i := 63) rfl)) rfl⟩
theorem fl_0_191 : fL "NinetyPlayers" 191 7 6 := ⟨_, _, _, ck_7, by decide, gw_of (tb_2 (List.mem_of_getElem? (i := 67) rfl)) rfl⟩
theorem ml_0_194 : mLV "NinetyPlayers" 194 mK_clashesAt 3 := ⟨yk_K_clashesAt, gw_of (tb_4 (List.mem_of_getElem? (i := 145) rfl)) rfl, gw_of (tb_4 (List.mem_of_getElem? (i := 146) rfl)) rfl, gw_of (tb_4 (List.mem_of_getElem? (i := 147) rfl)) rfl⟩
theorem ml_7_100 : mLV "NinetyPlayers$Keyboard" 100 mK_clashesBetween 4 := ⟨yk_K_clashesBetween, gw_of (tb_4 (List.mem_of_getElem? (i := 149) rfl)) rfl, gw_of (tb_4 (List.mem_of_getElem? (i := 150) rfl)) rfl, gw_of (tb_4 (List.mem_of_getElem? (i := 151) rfl)) rfl⟩
theorem ml_7_94 : mLV "NinetyPlayers$Keyboard" 94 mK_clashesOfHand 2 := ⟨yk_K_clashesOfHand, gw_of (tb_4 (List.mem_of_getElem? (i := 153) rfl)) rfl, gw_of (tb_4 (List.mem_of_getElem? (i := 155) rfl)) rfl, gw_sel (List.mem_of_getElem? (i := 29) rfl) rfl⟩
theorem ml_7_78 : mLV "NinetyPlayers$Keyboard" 78 mK_highest 1 := ⟨yk_K_highest, gw_of (tb_4 (List.mem_of_getElem? (i := 162) rfl)) rfl, gw_of (tb_4 (List.mem_of_getElem? (i := 164) rfl)) rfl, gw_sel (List.mem_of_getElem? (i := 31) rfl) rfl⟩
theorem ml_7_81 : mLV "NinetyPlayers$Keyboard" 81 mK_lowest 1 := ⟨yk_K_lowest, gw_of (tb_4 (List.mem_of_getElem? (i := 157) rfl)) rfl, gw_of (tb_4 (List.mem_of_getElem? (i := 159) rfl)) rfl, gw_sel (List.mem_of_getElem? (i := 30) rfl) rfl⟩
theorem ml_7_97 : mLV "NinetyPlayers$Keyboard" 97 mK_hasKeyTwice 1 := ⟨yk_K_hasKeyTwice, gw_of (tb_4 (List.mem_of_getElem? (i := 169) rfl)) rfl, gw_of (tb_4 (List.mem_of_getElem? (i := 171) rfl)) rfl, gw_sel (List.mem_of_getElem? (i := 32) rfl) rfl⟩
theorem ml_7_89 : mLS "NinetyPlayers$Keyboard" 89 mJ_bitCount 1 := ⟨yk_J_bitCount, gw_of (tb_4 (List.mem_of_getElem? (i := 161) rfl)) rfl, gw_of (tb_4 (List.mem_of_getElem? (i := 51) rfl)) rfl⟩
theorem ml_7_84 : mMabs "NinetyPlayers$Keyboard" 84 := ⟨gw_of (tb_4 (List.mem_of_getElem? (i := 166) rfl)) rfl, gw_of (tb_4 (List.mem_of_getElem? (i := 167) rfl)) rfl, gw_of (tb_1 (List.mem_of_getElem? (i := 18) rfl)) rfl, gw_of (tb_4 (List.mem_of_getElem? (i := 168) rfl)) rfl⟩
theorem ml_0_237 : mLV "NinetyPlayers" 237 mC_act 4 := ⟨yk_C_act, gw_of (tb_4 (List.mem_of_getElem? (i := 177) rfl)) rfl, gw_of (tb_4 (List.mem_of_getElem? (i := 178) rfl)) rfl, gw_of (tb_4 (List.mem_of_getElem? (i := 179) rfl)) rfl⟩
theorem ml_0_241 : mLV "NinetyPlayers" 241 mN_clashes 0 := ⟨yk_N_clashes, gw_of (tb_4 (List.mem_of_getElem? (i := 200) rfl)) rfl, gw_of (tb_4 (List.mem_of_getElem? (i := 201) rfl)) rfl, gw_of (tb_4 (List.mem_of_getElem? (i := 202) rfl)) rfl⟩
theorem ml_6_31 : mLV "NinetyPlayers$Acts" 31 mC_dropOldest 0 := ⟨yk_C_dropOldest, gw_of (tb_4 (List.mem_of_getElem? (i := 181) rfl)) rfl, gw_of (tb_4 (List.mem_of_getElem? (i := 183) rfl)) rfl, gw_sel (List.mem_of_getElem? (i := 33) rfl) rfl⟩
theorem ml_6_34 : mLV "NinetyPlayers$Acts" 34 mL_valueOf 2 := ⟨yk_L_valueOf, gw_of (tb_4 (List.mem_of_getElem? (i := 188) rfl)) rfl, gw_of (tb_4 (List.mem_of_getElem? (i := 189) rfl)) rfl, gw_of (tb_4 (List.mem_of_getElem? (i := 190) rfl)) rfl⟩
theorem ml_6_40 : mLV "NinetyPlayers$Acts" 40 mL_put 3 := ⟨yk_L_put, gw_of (tb_4 (List.mem_of_getElem? (i := 196) rfl)) rfl, gw_of (tb_4 (List.mem_of_getElem? (i := 197) rfl)) rfl, gw_of (tb_4 (List.mem_of_getElem? (i := 198) rfl)) rfl⟩
theorem ml_6_44 : Cond.methodLink "NinetyPlayers$Acts" 44 arraycopyName ∈ GW ∧ Cond.native arraycopyName ∈ GW ∧ Cond.static arraycopyName ∈ GW ∧ Cond.initialized "java/lang/System" ∈ GW := ⟨gw_of (tb_4 (List.mem_of_getElem? (i := 185) rfl)) rfl, gw_of (tb_4 (List.mem_of_getElem? (i := 187) rfl)) rfl, gw_of (tb_4 (List.mem_of_getElem? (i := 186) rfl)) rfl, gw_of (tb_1 (List.mem_of_getElem? (i := 21) rfl)) rfl⟩
theorem ml_5_33 : mLV "NinetyPlayers$Laying" 33 mL_rowOf 1 := ⟨yk_L_rowOf, gw_of (tb_4 (List.mem_of_getElem? (i := 192) rfl)) rfl, gw_of (tb_4 (List.mem_of_getElem? (i := 194) rfl)) rfl, gw_sel (List.mem_of_getElem? (i := 34) rfl) rfl⟩
theorem ml_0_257 : mLV "NinetyPlayers" 257 mK_clashingBeats 2 := ⟨yk_K_clashingBeats, gw_of (tb_4 (List.mem_of_getElem? (i := 204) rfl)) rfl, gw_of (tb_4 (List.mem_of_getElem? (i := 205) rfl)) rfl, gw_of (tb_4 (List.mem_of_getElem? (i := 206) rfl)) rfl⟩
theorem ml_7_104 : mLV "NinetyPlayers$Keyboard" 104 mK_clashesAt 3 := ⟨yk_K_clashesAt, gw_of (tb_4 (List.mem_of_getElem? (i := 208) rfl)) rfl, gw_of (tb_4 (List.mem_of_getElem? (i := 146) rfl)) rfl, gw_of (tb_4 (List.mem_of_getElem? (i := 147) rfl)) rfl⟩
theorem ml_0_244 : mLS "NinetyPlayers" 244 mN_isKey 1 := ⟨yk_N_isKey, gw_of (tb_4 (List.mem_of_getElem? (i := 213) rfl)) rfl, gw_of (tb_4 (List.mem_of_getElem? (i := 214) rfl)) rfl⟩
theorem fl_0_247 : fL "NinetyPlayers" 247 5 1 := ⟨_, _, _, ck_5, by decide, gw_of (tb_1 (List.mem_of_getElem? (i := 224) rfl)) rfl⟩
theorem ml_0_250 : mLV "NinetyPlayers" 250 mC_takeBack 1 := ⟨yk_C_takeBack, gw_of (tb_4 (List.mem_of_getElem? (i := 232) rfl)) rfl, gw_of (tb_4 (List.mem_of_getElem? (i := 233) rfl)) rfl, gw_of (tb_4 (List.mem_of_getElem? (i := 234) rfl)) rfl⟩
theorem ml_0_254 : mLV "NinetyPlayers" 254 mC_doAgain 1 := ⟨yk_C_doAgain, gw_of (tb_5 (List.mem_of_getElem? (i := 0) rfl)) rfl, gw_of (tb_5 (List.mem_of_getElem? (i := 1) rfl)) rfl, gw_of (tb_5 (List.mem_of_getElem? (i := 2) rfl)) rfl⟩
theorem fl_0_260 : fL "NinetyPlayers" 260 2 2 := ⟨_, _, _, ck_2, by decide, gw_of (tb_1 (List.mem_of_getElem? (i := 124) rfl)) rfl⟩
theorem fl_0_263 : fL "NinetyPlayers" 263 2 1 := ⟨_, _, _, ck_2, by decide, gw_of (tb_1 (List.mem_of_getElem? (i := 120) rfl)) rfl⟩
theorem ml_0_266 : mLV "NinetyPlayers" 266 mN_layLeastMissed 2 := ⟨yk_N_layLeastMissed, gw_of (tb_5 (List.mem_of_getElem? (i := 13) rfl)) rfl, gw_of (tb_5 (List.mem_of_getElem? (i := 15) rfl)) rfl, gw_sel (List.mem_of_getElem? (i := 35) rfl) rfl⟩
theorem fl_0_270 : fL "NinetyPlayers" 270 8 2 := ⟨_, _, _, ck_8, by decide, gw_of (tb_2 (List.mem_of_getElem? (i := 105) rfl)) rfl⟩
theorem fl_0_273 : fL "NinetyPlayers" 273 8 3 := ⟨_, _, _, ck_8, by decide, gw_of (tb_2 (List.mem_of_getElem? (i := 107) rfl)) rfl⟩
theorem fl_0_274 : fL "NinetyPlayers" 274 8 4 := ⟨_, _, _, ck_8, by decide, gw_of (tb_2 (List.mem_of_getElem? (i := 109) rfl)) rfl⟩
theorem ml_0_275 : mLV "NinetyPlayers" 275 mN_weighAll 0 := ⟨yk_N_weighAll, gw_of (tb_5 (List.mem_of_getElem? (i := 17) rfl)) rfl, gw_of (tb_5 (List.mem_of_getElem? (i := 19) rfl)) rfl, gw_sel (List.mem_of_getElem? (i := 36) rfl) rfl⟩
theorem fl_0_278 : fL "NinetyPlayers" 278 7 3 := ⟨_, _, _, ck_7, by decide, gw_of (tb_2 (List.mem_of_getElem? (i := 58) rfl)) rfl⟩
theorem fl_0_279 : fL "NinetyPlayers" 279 7 2 := ⟨_, _, _, ck_7, by decide, gw_of (tb_2 (List.mem_of_getElem? (i := 55) rfl)) rfl⟩
theorem ml_0_280 : mLV "NinetyPlayers" 280 mA_arrange 0 := ⟨yk_A_arrange, gw_of (tb_5 (List.mem_of_getElem? (i := 21) rfl)) rfl, gw_of (tb_5 (List.mem_of_getElem? (i := 22) rfl)) rfl, gw_of (tb_5 (List.mem_of_getElem? (i := 23) rfl)) rfl⟩
theorem ml_0_283 : mLV "NinetyPlayers" 283 mA_handOf 1 := ⟨yk_A_handOf, gw_of (tb_5 (List.mem_of_getElem? (i := 60) rfl)) rfl, gw_of (tb_5 (List.mem_of_getElem? (i := 61) rfl)) rfl, gw_of (tb_5 (List.mem_of_getElem? (i := 62) rfl)) rfl⟩
theorem fl_8_41 : fL "NinetyPlayers$Arranger" 41 7 1 := ⟨_, _, _, ck_7, by decide, gw_of (tb_2 (List.mem_of_getElem? (i := 52) rfl)) rfl⟩
theorem ml_8_44 : mLV "NinetyPlayers$Arranger" 44 mA_findBars 1 := ⟨yk_A_findBars, gw_of (tb_5 (List.mem_of_getElem? (i := 25) rfl)) rfl, gw_of (tb_5 (List.mem_of_getElem? (i := 27) rfl)) rfl, gw_sel (List.mem_of_getElem? (i := 37) rfl) rfl⟩
theorem ml_8_48 : mLV "NinetyPlayers$Arranger" 48 mA_findSettledLeaps 1 := ⟨yk_A_findSettledLeaps, gw_of (tb_5 (List.mem_of_getElem? (i := 31) rfl)) rfl, gw_of (tb_5 (List.mem_of_getElem? (i := 33) rfl)) rfl, gw_sel (List.mem_of_getElem? (i := 38) rfl) rfl⟩
theorem fl_8_51 : fL "NinetyPlayers$Arranger" 51 8 2 := ⟨_, _, _, ck_8, by decide, gw_of (tb_2 (List.mem_of_getElem? (i := 104) rfl)) rfl⟩
theorem fl_8_34 : fL "NinetyPlayers$Arranger" 34 8 3 := ⟨_, _, _, ck_8, by decide, gw_of (tb_2 (List.mem_of_getElem? (i := 106) rfl)) rfl⟩
theorem fl_8_38 : fL "NinetyPlayers$Arranger" 38 8 4 := ⟨_, _, _, ck_8, by decide, gw_of (tb_2 (List.mem_of_getElem? (i := 108) rfl)) rfl⟩
theorem ml_8_54 : mLV "NinetyPlayers$Arranger" 54 mA_search 4 := ⟨yk_A_search, gw_of (tb_5 (List.mem_of_getElem? (i := 35) rfl)) rfl, gw_of (tb_5 (List.mem_of_getElem? (i := 37) rfl)) rfl, gw_sel (List.mem_of_getElem? (i := 39) rfl) rfl⟩
theorem fl_8_58 : fL "NinetyPlayers$Arranger" 58 7 0 := ⟨_, _, _, ck_7, by decide, gw_of (tb_2 (List.mem_of_getElem? (i := 50) rfl)) rfl⟩
theorem ml_8_61 : mLV "NinetyPlayers$Arranger" 61 mK_timelyAt 1 := ⟨yk_K_timelyAt, gw_of (tb_5 (List.mem_of_getElem? (i := 29) rfl)) rfl, gw_of (tb_4 (List.mem_of_getElem? (i := 130) rfl)) rfl, gw_of (tb_4 (List.mem_of_getElem? (i := 131) rfl)) rfl⟩
theorem fl_8_65 : fL "NinetyPlayers$Arranger" 65 7 8 := ⟨_, _, _, ck_7, by decide, gw_of (tb_2 (List.mem_of_getElem? (i := 71) rfl)) rfl⟩
theorem ml_8_68 : mMabs "NinetyPlayers$Arranger" 68 := ⟨gw_of (tb_5 (List.mem_of_getElem? (i := 30) rfl)) rfl, gw_of (tb_4 (List.mem_of_getElem? (i := 167) rfl)) rfl, gw_of (tb_1 (List.mem_of_getElem? (i := 18) rfl)) rfl, gw_of (tb_4 (List.mem_of_getElem? (i := 168) rfl)) rfl⟩
theorem fl_8_73 : fL "NinetyPlayers$Arranger" 73 7 2 := ⟨_, _, _, ck_7, by decide, gw_of (tb_2 (List.mem_of_getElem? (i := 54) rfl)) rfl⟩
theorem ml_8_76 : mLV "NinetyPlayers$Arranger" 76 mA_isFreeLeft 3 := ⟨yk_A_isFreeLeft, gw_of (tb_5 (List.mem_of_getElem? (i := 39) rfl)) rfl, gw_of (tb_5 (List.mem_of_getElem? (i := 41) rfl)) rfl, gw_sel (List.mem_of_getElem? (i := 40) rfl) rfl⟩
theorem ml_8_80 : mLV "NinetyPlayers$Arranger" 80 mA_fingersReach 2 := ⟨yk_A_fingersReach, gw_of (tb_5 (List.mem_of_getElem? (i := 43) rfl)) rfl, gw_of (tb_5 (List.mem_of_getElem? (i := 45) rfl)) rfl, gw_sel (List.mem_of_getElem? (i := 41) rfl) rfl⟩
theorem ml_8_84 : mLV "NinetyPlayers$Arranger" 84 mA_leapsFit 3 := ⟨yk_A_leapsFit, gw_of (tb_5 (List.mem_of_getElem? (i := 48) rfl)) rfl, gw_of (tb_5 (List.mem_of_getElem? (i := 50) rfl)) rfl, gw_sel (List.mem_of_getElem? (i := 42) rfl) rfl⟩
theorem ml_8_87 : mLV "NinetyPlayers$Arranger" 87 mA_isFreeRight 3 := ⟨yk_A_isFreeRight, gw_of (tb_5 (List.mem_of_getElem? (i := 56) rfl)) rfl, gw_of (tb_5 (List.mem_of_getElem? (i := 58) rfl)) rfl, gw_sel (List.mem_of_getElem? (i := 43) rfl) rfl⟩
theorem ml_8_90 : mLS "NinetyPlayers$Arranger" 90 mJ_bitCount 1 := ⟨yk_J_bitCount, gw_of (tb_5 (List.mem_of_getElem? (i := 47) rfl)) rfl, gw_of (tb_4 (List.mem_of_getElem? (i := 51) rfl)) rfl⟩
theorem fl_8_95 : fL "NinetyPlayers$Arranger" 95 7 3 := ⟨_, _, _, ck_7, by decide, gw_of (tb_2 (List.mem_of_getElem? (i := 57) rfl)) rfl⟩
theorem ml_8_98 : mLV "NinetyPlayers$Arranger" 98 mK_leapBetween 2 := ⟨yk_K_leapBetween, gw_of (tb_5 (List.mem_of_getElem? (i := 52) rfl)) rfl, gw_of (tb_5 (List.mem_of_getElem? (i := 53) rfl)) rfl, gw_of (tb_5 (List.mem_of_getElem? (i := 54) rfl)) rfl⟩
theorem fl_8_102 : fL "NinetyPlayers$Arranger" 102 7 4 := ⟨_, _, _, ck_7, by decide, gw_of (tb_2 (List.mem_of_getElem? (i := 60) rfl)) rfl⟩
theorem ml_0_286 : mLV "NinetyPlayers" 286 mN_isLeftOut 1 := ⟨yk_N_isLeftOut, gw_of (tb_5 (List.mem_of_getElem? (i := 72) rfl)) rfl, gw_of (tb_5 (List.mem_of_getElem? (i := 74) rfl)) rfl, gw_sel (List.mem_of_getElem? (i := 44) rfl) rfl⟩
theorem ml_0_289 : mLV "NinetyPlayers" 289 mK_newClashesWith 2 := ⟨yk_K_newClashesWith, gw_of (tb_5 (List.mem_of_getElem? (i := 76) rfl)) rfl, gw_of (tb_5 (List.mem_of_getElem? (i := 77) rfl)) rfl, gw_of (tb_5 (List.mem_of_getElem? (i := 78) rfl)) rfl⟩
theorem ml_0_292 : mLV "NinetyPlayers" 292 mA_fewestInTheWay 2 := ⟨yk_A_fewestInTheWay, gw_of (tb_5 (List.mem_of_getElem? (i := 84) rfl)) rfl, gw_of (tb_5 (List.mem_of_getElem? (i := 85) rfl)) rfl, gw_of (tb_5 (List.mem_of_getElem? (i := 86) rfl)) rfl⟩
theorem fl_8_105 : fL "NinetyPlayers$Arranger" 105 7 5 := ⟨_, _, _, ck_7, by decide, gw_of (tb_2 (List.mem_of_getElem? (i := 64) rfl)) rfl⟩
theorem fl_8_106 : fL "NinetyPlayers$Arranger" 106 7 6 := ⟨_, _, _, ck_7, by decide, gw_of (tb_2 (List.mem_of_getElem? (i := 68) rfl)) rfl⟩
theorem ml_8_107 : mLV "NinetyPlayers$Arranger" 107 mA_isLessMissed 2 := ⟨yk_A_isLessMissed, gw_of (tb_5 (List.mem_of_getElem? (i := 88) rfl)) rfl, gw_of (tb_5 (List.mem_of_getElem? (i := 90) rfl)) rfl, gw_sel (List.mem_of_getElem? (i := 45) rfl) rfl⟩
theorem ml_8_110 : mLV "NinetyPlayers$Arranger" 110 mK_canBePlayed 2 := ⟨yk_K_canBePlayed, gw_of (tb_5 (List.mem_of_getElem? (i := 96) rfl)) rfl, gw_of (tb_5 (List.mem_of_getElem? (i := 97) rfl)) rfl, gw_of (tb_5 (List.mem_of_getElem? (i := 98) rfl)) rfl⟩
theorem ml_8_113 : mLV "NinetyPlayers$Arranger" 113 mA_missedTogether 1 := ⟨yk_A_missedTogether, gw_of (tb_5 (List.mem_of_getElem? (i := 92) rfl)) rfl, gw_of (tb_5 (List.mem_of_getElem? (i := 94) rfl)) rfl, gw_sel (List.mem_of_getElem? (i := 46) rfl) rfl⟩
theorem ml_0_295 : mLV "NinetyPlayers" 295 mK_handForShifted 2 := ⟨yk_K_handForShifted, gw_of (tb_5 (List.mem_of_getElem? (i := 104) rfl)) rfl, gw_of (tb_5 (List.mem_of_getElem? (i := 105) rfl)) rfl, gw_of (tb_5 (List.mem_of_getElem? (i := 106) rfl)) rfl⟩
theorem ml_7_108 : yOK mN_isKey 1 ∧ Cond.static mN_isKey.1 ∈ GW := ⟨yk_N_isKey, gw_of (tb_4 (List.mem_of_getElem? (i := 214) rfl)) rfl⟩
theorem ml_7_111 : mLV "NinetyPlayers$Keyboard" 111 mK_canBePlayed 2 := ⟨yk_K_canBePlayed, gw_of (tb_5 (List.mem_of_getElem? (i := 109) rfl)) rfl, gw_of (tb_5 (List.mem_of_getElem? (i := 97) rfl)) rfl, gw_of (tb_5 (List.mem_of_getElem? (i := 98) rfl)) rfl⟩
theorem ml_0_298 : mLV "NinetyPlayers" 298 mP_fewest 1 := ⟨yk_P_fewest, gw_of (tb_5 (List.mem_of_getElem? (i := 114) rfl)) rfl, gw_of (tb_5 (List.mem_of_getElem? (i := 115) rfl)) rfl, gw_of (tb_5 (List.mem_of_getElem? (i := 116) rfl)) rfl⟩
theorem ml_9_15 : mLS "NinetyPlayers$Pedaller" 15 mP_isFree 4 := ⟨yk_P_isFree, gw_of (tb_5 (List.mem_of_getElem? (i := 118) rfl)) rfl, gw_of (tb_5 (List.mem_of_getElem? (i := 119) rfl)) rfl⟩
theorem fl_9_19 : fL "NinetyPlayers$Pedaller" 19 7 0 := ⟨_, _, _, ck_7, by decide, gw_of (tb_2 (List.mem_of_getElem? (i := 49) rfl)) rfl⟩
theorem ml_9_25 : mLV "NinetyPlayers$Pedaller" 25 mP_bestWithPedalAt 2 := ⟨yk_P_bestWithPedalAt, gw_of (tb_5 (List.mem_of_getElem? (i := 123) rfl)) rfl, gw_of (tb_5 (List.mem_of_getElem? (i := 125) rfl)) rfl, gw_sel (List.mem_of_getElem? (i := 47) rfl) rfl⟩
theorem ml_9_29 : mLS "NinetyPlayers$Pedaller" 29 mP_better 2 := ⟨yk_P_better, gw_of (tb_5 (List.mem_of_getElem? (i := 127) rfl)) rfl, gw_of (tb_5 (List.mem_of_getElem? (i := 128) rfl)) rfl⟩
theorem ml_9_33 : mLV "NinetyPlayers$Pedaller" 33 mK_timelySince 2 := ⟨yk_K_timelySince, gw_of (tb_5 (List.mem_of_getElem? (i := 121) rfl)) rfl, gw_of (tb_4 (List.mem_of_getElem? (i := 118) rfl)) rfl, gw_of (tb_4 (List.mem_of_getElem? (i := 119) rfl)) rfl⟩
theorem fl_9_36 : fL "NinetyPlayers$Pedaller" 36 7 5 := ⟨_, _, _, ck_7, by decide, gw_of (tb_2 (List.mem_of_getElem? (i := 62) rfl)) rfl⟩
theorem fl_9_39 : fL "NinetyPlayers$Pedaller" 39 7 6 := ⟨_, _, _, ck_7, by decide, gw_of (tb_2 (List.mem_of_getElem? (i := 66) rfl)) rfl⟩
theorem ml_9_42 : mLV "NinetyPlayers$Pedaller" 42 mK_clashesBetween 4 := ⟨yk_K_clashesBetween, gw_of (tb_5 (List.mem_of_getElem? (i := 122) rfl)) rfl, gw_of (tb_4 (List.mem_of_getElem? (i := 150) rfl)) rfl, gw_of (tb_4 (List.mem_of_getElem? (i := 151) rfl)) rfl⟩
theorem ml_9_46 : mLS "NinetyPlayers$Pedaller" 46 mJ_bitCount 1 := ⟨yk_J_bitCount, gw_of (tb_5 (List.mem_of_getElem? (i := 130) rfl)) rfl, gw_of (tb_4 (List.mem_of_getElem? (i := 51) rfl)) rfl⟩
theorem ml_0_302 : mLV "NinetyPlayers" 302 mK_width 1 := ⟨yk_K_width, gw_of (tb_5 (List.mem_of_getElem? (i := 135) rfl)) rfl, gw_of (tb_5 (List.mem_of_getElem? (i := 136) rfl)) rfl, gw_of (tb_5 (List.mem_of_getElem? (i := 137) rfl)) rfl⟩
theorem ml_0_305 : mLV "NinetyPlayers" 305 mK_leapBetween 2 := ⟨yk_K_leapBetween, gw_of (tb_5 (List.mem_of_getElem? (i := 143) rfl)) rfl, gw_of (tb_5 (List.mem_of_getElem? (i := 53) rfl)) rfl, gw_of (tb_5 (List.mem_of_getElem? (i := 54) rfl)) rfl⟩
theorem ml_0_308 : mLV "NinetyPlayers" 308 mK_blurredAt 1 := ⟨yk_K_blurredAt, gw_of (tb_5 (List.mem_of_getElem? (i := 148) rfl)) rfl, gw_of (tb_5 (List.mem_of_getElem? (i := 149) rfl)) rfl, gw_of (tb_5 (List.mem_of_getElem? (i := 150) rfl)) rfl⟩
theorem ml_7_115 : mLV "NinetyPlayers$Keyboard" 115 mK_soundingAt 1 := ⟨yk_K_soundingAt, gw_of (tb_5 (List.mem_of_getElem? (i := 152) rfl)) rfl, gw_of (tb_4 (List.mem_of_getElem? (i := 138) rfl)) rfl, gw_of (tb_4 (List.mem_of_getElem? (i := 139) rfl)) rfl⟩
theorem ml_0_311 : mLV "NinetyPlayers" 311 mN_openAt 1 := ⟨yk_N_openAt, gw_of (tb_5 (List.mem_of_getElem? (i := 157) rfl)) rfl, gw_of (tb_5 (List.mem_of_getElem? (i := 159) rfl)) rfl, gw_sel (List.mem_of_getElem? (i := 48) rfl) rfl⟩
theorem fl_0_314 : fL "NinetyPlayers" 314 2 4 := ⟨_, _, _, ck_2, by decide, gw_of (tb_1 (List.mem_of_getElem? (i := 131) rfl)) rfl⟩
theorem ml_0_317 : mLV "NinetyPlayers" 317 mK_fullestBeat 1 := ⟨yk_K_fullestBeat, gw_of (tb_5 (List.mem_of_getElem? (i := 177) rfl)) rfl, gw_of (tb_5 (List.mem_of_getElem? (i := 178) rfl)) rfl, gw_of (tb_5 (List.mem_of_getElem? (i := 179) rfl)) rfl⟩
theorem ml_0_320 : mLV "NinetyPlayers" 320 mK_setOf 1 := ⟨yk_K_setOf, gw_of (tb_5 (List.mem_of_getElem? (i := 185) rfl)) rfl, gw_of (tb_4 (List.mem_of_getElem? (i := 126) rfl)) rfl, gw_of (tb_4 (List.mem_of_getElem? (i := 127) rfl)) rfl⟩
theorem ml_0_321 : mLV "NinetyPlayers" 321 mI_tell 3 := ⟨yk_I_tell, gw_of (tb_5 (List.mem_of_getElem? (i := 206) rfl)) rfl, gw_of (tb_5 (List.mem_of_getElem? (i := 207) rfl)) rfl, gw_of (tb_5 (List.mem_of_getElem? (i := 208) rfl)) rfl⟩
theorem fl_10_38 : fL "NinetyPlayers$Witness" 38 10 1 := ⟨_, _, _, ck_10, by decide, gw_of (tb_2 (List.mem_of_getElem? (i := 151) rfl)) rfl⟩
theorem ml_0_325 : mLV "NinetyPlayers" 325 mI_takeFromNowOn 1 := ⟨yk_I_takeFromNowOn, gw_of (tb_5 (List.mem_of_getElem? (i := 214) rfl)) rfl, gw_of (tb_5 (List.mem_of_getElem? (i := 215) rfl)) rfl, gw_of (tb_5 (List.mem_of_getElem? (i := 216) rfl)) rfl⟩
theorem ml_0_328 : mLV "NinetyPlayers" 328 mI_goOn 1 := ⟨yk_I_goOn, gw_of (tb_5 (List.mem_of_getElem? (i := 222) rfl)) rfl, gw_of (tb_5 (List.mem_of_getElem? (i := 223) rfl)) rfl, gw_of (tb_5 (List.mem_of_getElem? (i := 224) rfl)) rfl⟩
theorem kc_10_41 : Cond.constant "NinetyPlayers$Witness" 41 100000 ∈ GW := gw_of (tb_5 (List.mem_of_getElem? (i := 226) rfl)) rfl
theorem ml_0_331 : mLV "NinetyPlayers" 331 mI_count 2 := ⟨yk_I_count, gw_of (tb_5 (List.mem_of_getElem? (i := 231) rfl)) rfl, gw_of (tb_5 (List.mem_of_getElem? (i := 232) rfl)) rfl, gw_of (tb_5 (List.mem_of_getElem? (i := 233) rfl)) rfl⟩
theorem fl_0_335 : fL "NinetyPlayers" 335 10 2 := ⟨_, _, _, ck_10, by decide, gw_of (tb_2 (List.mem_of_getElem? (i := 154) rfl)) rfl⟩
theorem ml_10_42 : mLV "NinetyPlayers$Witness" 42 mI_gather 2 := ⟨yk_I_gather, gw_of (tb_5 (List.mem_of_getElem? (i := 235) rfl)) rfl, gw_of (tb_5 (List.mem_of_getElem? (i := 237) rfl)) rfl, gw_sel (List.mem_of_getElem? (i := 49) rfl) rfl⟩
theorem fl_10_46 : fL "NinetyPlayers$Witness" 46 10 2 := ⟨_, _, _, ck_10, by decide, gw_of (tb_2 (List.mem_of_getElem? (i := 153) rfl)) rfl⟩
theorem fl_10_49 : fL "NinetyPlayers$Witness" 49 2 6 := ⟨_, _, _, ck_2, by decide, gw_of (tb_1 (List.mem_of_getElem? (i := 138) rfl)) rfl⟩
theorem ml_10_54 : mLV "NinetyPlayers$Witness" 54 mI_isSo 1 := ⟨yk_I_isSo, gw_of (tb_6 (List.mem_of_getElem? (i := 2) rfl)) rfl, gw_of (tb_6 (List.mem_of_getElem? (i := 4) rfl)) rfl, gw_sel (List.mem_of_getElem? (i := 50) rfl) rfl⟩
theorem ml_10_58 : mLV "NinetyPlayers$Witness" 58 mI_countIn 1 := ⟨yk_I_countIn, gw_of (tb_6 (List.mem_of_getElem? (i := 6) rfl)) rfl, gw_of (tb_6 (List.mem_of_getElem? (i := 8) rfl)) rfl, gw_sel (List.mem_of_getElem? (i := 51) rfl) rfl⟩
theorem fl_10_62 : fL "NinetyPlayers$Witness" 62 10 10 := ⟨_, _, _, ck_10, by decide, gw_of (tb_2 (List.mem_of_getElem? (i := 163) rfl)) rfl⟩
theorem fl_10_65 : fL "NinetyPlayers$Witness" 65 10 11 := ⟨_, _, _, ck_10, by decide, gw_of (tb_2 (List.mem_of_getElem? (i := 164) rfl)) rfl⟩
theorem ml_10_68 : mLS "NinetyPlayers$Witness" 68 mI_soundersOf 3 := ⟨yk_I_soundersOf, gw_of (tb_5 (List.mem_of_getElem? (i := 239) rfl)) rfl, gw_of (tb_6 (List.mem_of_getElem? (i := 0) rfl)) rfl⟩
theorem fl_10_72 : fL "NinetyPlayers$Witness" 72 2 11 := ⟨_, _, _, ck_2, by decide, gw_of (tb_1 (List.mem_of_getElem? (i := 149) rfl)) rfl⟩
theorem fl_10_75 : fL "NinetyPlayers$Witness" 75 2 12 := ⟨_, _, _, ck_2, by decide, gw_of (tb_1 (List.mem_of_getElem? (i := 152) rfl)) rfl⟩
theorem fl_10_76 : fL "NinetyPlayers$Witness" 76 2 13 := ⟨_, _, _, ck_2, by decide, gw_of (tb_1 (List.mem_of_getElem? (i := 155) rfl)) rfl⟩
theorem fl_0_338 : fL "NinetyPlayers" 338 10 3 := ⟨_, _, _, ck_10, by decide, gw_of (tb_2 (List.mem_of_getElem? (i := 156) rfl)) rfl⟩
theorem ml_0_341 : mLV "NinetyPlayers" 341 mL_copy 1 := ⟨yk_L_copy, gw_of (tb_6 (List.mem_of_getElem? (i := 22) rfl)) rfl, gw_of (tb_6 (List.mem_of_getElem? (i := 23) rfl)) rfl, gw_of (tb_6 (List.mem_of_getElem? (i := 24) rfl)) rfl⟩
theorem ml_0_345 : mLV "NinetyPlayers" 345 mN_isKept 1 := ⟨yk_N_isKept, gw_of (tb_6 (List.mem_of_getElem? (i := 30) rfl)) rfl, gw_of (tb_6 (List.mem_of_getElem? (i := 32) rfl)) rfl, gw_sel (List.mem_of_getElem? (i := 52) rfl) rfl⟩
theorem ml_0_348 : mLV "NinetyPlayers" 348 mL_differsAt 2 := ⟨yk_L_differsAt, gw_of (tb_6 (List.mem_of_getElem? (i := 38) rfl)) rfl, gw_of (tb_6 (List.mem_of_getElem? (i := 39) rfl)) rfl, gw_of (tb_6 (List.mem_of_getElem? (i := 40) rfl)) rfl⟩
theorem fl_0_352 : fL "NinetyPlayers" 352 2 3 := ⟨_, _, _, ck_2, by decide, gw_of (tb_1 (List.mem_of_getElem? (i := 128) rfl)) rfl⟩
theorem ml_0_355 : mLV "NinetyPlayers" 355 mN_aboutTheRest 1 := ⟨yk_N_aboutTheRest, gw_of (tb_6 (List.mem_of_getElem? (i := 46) rfl)) rfl, gw_of (tb_6 (List.mem_of_getElem? (i := 48) rfl)) rfl, gw_sel (List.mem_of_getElem? (i := 53) rfl) rfl⟩
theorem fl_0_358 : fL "NinetyPlayers" 358 6 0 := ⟨_, _, _, ck_6, by decide, gw_of (tb_2 (List.mem_of_getElem? (i := 16) rfl)) rfl⟩
theorem fl_0_361 : fL "NinetyPlayers" 361 6 1 := ⟨_, _, _, ck_6, by decide, gw_of (tb_2 (List.mem_of_getElem? (i := 18) rfl)) rfl⟩
theorem fl_0_363 : fL "NinetyPlayers" 363 10 0 := ⟨_, _, _, ck_10, by decide, gw_of (tb_2 (List.mem_of_getElem? (i := 150) rfl)) rfl⟩
theorem fl_0_364 : fL "NinetyPlayers" 364 10 1 := ⟨_, _, _, ck_10, by decide, gw_of (tb_2 (List.mem_of_getElem? (i := 152) rfl)) rfl⟩
theorem fl_0_367 : fL "NinetyPlayers" 367 3 0 := ⟨_, _, _, ck_3, by decide, gw_of (tb_1 (List.mem_of_getElem? (i := 84) rfl)) rfl⟩
theorem fl_11_7 : fL "NinetyPlayersModel" 7 11 0 := ⟨_, _, _, ck_11, by decide, gw_of (tb_6 (List.mem_of_getElem? (i := 56) rfl)) rfl⟩
theorem fl_11_13 : fL "NinetyPlayersModel" 13 11 3 := ⟨_, _, _, ck_11, by decide, gw_of (tb_6 (List.mem_of_getElem? (i := 59) rfl)) rfl⟩
theorem fl_11_17 : fL "NinetyPlayersModel" 17 11 10 := ⟨_, _, _, ck_11, by decide, gw_of (tb_6 (List.mem_of_getElem? (i := 66) rfl)) rfl⟩
theorem fl_11_21 : fL "NinetyPlayersModel" 21 11 11 := ⟨_, _, _, ck_11, by decide, gw_of (tb_6 (List.mem_of_getElem? (i := 67) rfl)) rfl⟩
theorem fl_11_24 : fL "NinetyPlayersModel" 24 11 12 := ⟨_, _, _, ck_11, by decide, gw_of (tb_6 (List.mem_of_getElem? (i := 68) rfl)) rfl⟩
theorem fl_11_27 : fL "NinetyPlayersModel" 27 11 13 := ⟨_, _, _, ck_11, by decide, gw_of (tb_6 (List.mem_of_getElem? (i := 69) rfl)) rfl⟩
theorem fl_11_30 : fL "NinetyPlayersModel" 30 11 14 := ⟨_, _, _, ck_11, by decide, gw_of (tb_6 (List.mem_of_getElem? (i := 70) rfl)) rfl⟩
theorem fl_11_33 : fL "NinetyPlayersModel" 33 11 15 := ⟨_, _, _, ck_11, by decide, gw_of (tb_6 (List.mem_of_getElem? (i := 71) rfl)) rfl⟩
theorem fl_11_36 : fL "NinetyPlayersModel" 36 11 16 := ⟨_, _, _, ck_11, by decide, gw_of (tb_6 (List.mem_of_getElem? (i := 72) rfl)) rfl⟩
theorem fl_11_39 : fL "NinetyPlayersModel" 39 11 26 := ⟨_, _, _, ck_11, by decide, gw_of (tb_6 (List.mem_of_getElem? (i := 82) rfl)) rfl⟩
theorem fl_11_42 : fL "NinetyPlayersModel" 42 11 27 := ⟨_, _, _, ck_11, by decide, gw_of (tb_6 (List.mem_of_getElem? (i := 83) rfl)) rfl⟩
theorem fl_11_45 : fL "NinetyPlayersModel" 45 11 28 := ⟨_, _, _, ck_11, by decide, gw_of (tb_6 (List.mem_of_getElem? (i := 84) rfl)) rfl⟩
theorem fl_11_48 : fL "NinetyPlayersModel" 48 11 29 := ⟨_, _, _, ck_11, by decide, gw_of (tb_6 (List.mem_of_getElem? (i := 85) rfl)) rfl⟩
theorem fl_11_51 : fL "NinetyPlayersModel" 51 11 30 := ⟨_, _, _, ck_11, by decide, gw_of (tb_6 (List.mem_of_getElem? (i := 86) rfl)) rfl⟩
theorem fl_11_54 : fL "NinetyPlayersModel" 54 11 31 := ⟨_, _, _, ck_11, by decide, gw_of (tb_6 (List.mem_of_getElem? (i := 87) rfl)) rfl⟩
theorem fl_11_57 : fL "NinetyPlayersModel" 57 11 32 := ⟨_, _, _, ck_11, by decide, gw_of (tb_6 (List.mem_of_getElem? (i := 88) rfl)) rfl⟩
theorem fl_11_60 : fL "NinetyPlayersModel" 60 11 33 := ⟨_, _, _, ck_11, by decide, gw_of (tb_6 (List.mem_of_getElem? (i := 89) rfl)) rfl⟩
theorem fl_11_63 : fL "NinetyPlayersModel" 63 11 34 := ⟨_, _, _, ck_11, by decide, gw_of (tb_6 (List.mem_of_getElem? (i := 90) rfl)) rfl⟩
theorem fl_11_66 : fL "NinetyPlayersModel" 66 11 35 := ⟨_, _, _, ck_11, by decide, gw_of (tb_6 (List.mem_of_getElem? (i := 91) rfl)) rfl⟩
theorem fl_11_69 : fL "NinetyPlayersModel" 69 11 36 := ⟨_, _, _, ck_11, by decide, gw_of (tb_6 (List.mem_of_getElem? (i := 92) rfl)) rfl⟩
theorem fl_11_72 : fL "NinetyPlayersModel" 72 11 37 := ⟨_, _, _, ck_11, by decide, gw_of (tb_6 (List.mem_of_getElem? (i := 93) rfl)) rfl⟩
theorem fl_11_75 : fL "NinetyPlayersModel" 75 11 38 := ⟨_, _, _, ck_11, by decide, gw_of (tb_6 (List.mem_of_getElem? (i := 94) rfl)) rfl⟩
theorem fl_11_78 : fL "NinetyPlayersModel" 78 11 46 := ⟨_, _, _, ck_11, by decide, gw_of (tb_6 (List.mem_of_getElem? (i := 102) rfl)) rfl⟩
theorem fl_11_81 : fL "NinetyPlayersModel" 81 11 49 := ⟨_, _, _, ck_11, by decide, gw_of (tb_6 (List.mem_of_getElem? (i := 105) rfl)) rfl⟩
theorem fl_11_84 : fL "NinetyPlayersModel" 84 11 50 := ⟨_, _, _, ck_11, by decide, gw_of (tb_6 (List.mem_of_getElem? (i := 106) rfl)) rfl⟩
theorem fl_11_87 : fL "NinetyPlayersModel" 87 11 51 := ⟨_, _, _, ck_11, by decide, gw_of (tb_6 (List.mem_of_getElem? (i := 107) rfl)) rfl⟩
theorem fl_11_90 : fL "NinetyPlayersModel" 90 11 52 := ⟨_, _, _, ck_11, by decide, gw_of (tb_6 (List.mem_of_getElem? (i := 108) rfl)) rfl⟩
theorem fl_11_93 : fL "NinetyPlayersModel" 93 11 58 := ⟨_, _, _, ck_11, by decide, gw_of (tb_6 (List.mem_of_getElem? (i := 114) rfl)) rfl⟩
theorem fl_11_96 : fL "NinetyPlayersModel" 96 11 59 := ⟨_, _, _, ck_11, by decide, gw_of (tb_6 (List.mem_of_getElem? (i := 115) rfl)) rfl⟩
theorem fl_11_99 : fL "NinetyPlayersModel" 99 11 60 := ⟨_, _, _, ck_11, by decide, gw_of (tb_6 (List.mem_of_getElem? (i := 116) rfl)) rfl⟩
theorem fl_11_102 : fL "NinetyPlayersModel" 102 11 61 := ⟨_, _, _, ck_11, by decide, gw_of (tb_6 (List.mem_of_getElem? (i := 117) rfl)) rfl⟩
theorem fl_11_105 : fL "NinetyPlayersModel" 105 11 62 := ⟨_, _, _, ck_11, by decide, gw_of (tb_6 (List.mem_of_getElem? (i := 118) rfl)) rfl⟩
theorem fl_11_108 : fL "NinetyPlayersModel" 108 11 65 := ⟨_, _, _, ck_11, by decide, gw_of (tb_6 (List.mem_of_getElem? (i := 121) rfl)) rfl⟩
theorem fl_11_111 : fL "NinetyPlayersModel" 111 11 66 := ⟨_, _, _, ck_11, by decide, gw_of (tb_6 (List.mem_of_getElem? (i := 122) rfl)) rfl⟩
theorem fl_11_114 : fL "NinetyPlayersModel" 114 11 67 := ⟨_, _, _, ck_11, by decide, gw_of (tb_6 (List.mem_of_getElem? (i := 123) rfl)) rfl⟩
theorem fl_11_117 : fL "NinetyPlayersModel" 117 11 69 := ⟨_, _, _, ck_11, by decide, gw_of (tb_6 (List.mem_of_getElem? (i := 125) rfl)) rfl⟩
theorem fl_11_120 : fL "NinetyPlayersModel" 120 11 70 := ⟨_, _, _, ck_11, by decide, gw_of (tb_6 (List.mem_of_getElem? (i := 126) rfl)) rfl⟩
theorem fl_11_123 : fL "NinetyPlayersModel" 123 11 71 := ⟨_, _, _, ck_11, by decide, gw_of (tb_6 (List.mem_of_getElem? (i := 127) rfl)) rfl⟩
theorem fl_11_126 : fL "NinetyPlayersModel" 126 11 72 := ⟨_, _, _, ck_11, by decide, gw_of (tb_6 (List.mem_of_getElem? (i := 128) rfl)) rfl⟩
theorem fl_11_129 : fL "NinetyPlayersModel" 129 11 73 := ⟨_, _, _, ck_11, by decide, gw_of (tb_6 (List.mem_of_getElem? (i := 129) rfl)) rfl⟩
theorem fl_11_133 : fL "NinetyPlayersModel" 133 11 76 := ⟨_, _, _, ck_11, by decide, gw_of (tb_6 (List.mem_of_getElem? (i := 132) rfl)) rfl⟩
theorem fl_11_136 : fL "NinetyPlayersModel" 136 11 77 := ⟨_, _, _, ck_11, by decide, gw_of (tb_6 (List.mem_of_getElem? (i := 133) rfl)) rfl⟩
theorem fl_11_139 : fL "NinetyPlayersModel" 139 11 78 := ⟨_, _, _, ck_11, by decide, gw_of (tb_6 (List.mem_of_getElem? (i := 134) rfl)) rfl⟩
theorem fl_11_142 : fL "NinetyPlayersModel" 142 11 79 := ⟨_, _, _, ck_11, by decide, gw_of (tb_6 (List.mem_of_getElem? (i := 135) rfl)) rfl⟩
theorem fl_11_145 : fL "NinetyPlayersModel" 145 11 1 := ⟨_, _, _, ck_11, by decide, gw_of (tb_6 (List.mem_of_getElem? (i := 57) rfl)) rfl⟩
theorem ml_11_148 : mLV "NinetyPlayersModel" 148 mM_four 1 := ⟨yk_M_four, gw_of (tb_7 (List.mem_of_getElem? (i := 61) rfl)) rfl, gw_of (tb_7 (List.mem_of_getElem? (i := 63) rfl)) rfl, gw_sel (List.mem_of_getElem? (i := 54) rfl) rfl⟩
theorem ml_11_402 : mLV "NinetyPlayersModel" 402 mM_readAll 0 := ⟨yk_M_readAll, gw_of (tb_7 (List.mem_of_getElem? (i := 73) rfl)) rfl, gw_of (tb_7 (List.mem_of_getElem? (i := 75) rfl)) rfl, gw_sel (List.mem_of_getElem? (i := 55) rfl) rfl⟩
theorem fl_11_185 : fL "NinetyPlayersModel" 185 11 2 := ⟨_, _, _, ck_11, by decide, gw_of (tb_6 (List.mem_of_getElem? (i := 58) rfl)) rfl⟩
theorem fl_11_356 : fL "NinetyPlayersModel" 356 11 39 := ⟨_, _, _, ck_11, by decide, gw_of (tb_6 (List.mem_of_getElem? (i := 95) rfl)) rfl⟩
theorem fl_11_258 : fL "NinetyPlayersModel" 258 11 40 := ⟨_, _, _, ck_11, by decide, gw_of (tb_6 (List.mem_of_getElem? (i := 96) rfl)) rfl⟩
theorem fl_11_405 : fL "NinetyPlayersModel" 405 11 47 := ⟨_, _, _, ck_11, by decide, gw_of (tb_6 (List.mem_of_getElem? (i := 103) rfl)) rfl⟩
theorem fl_11_350 : fL "NinetyPlayersModel" 350 11 41 := ⟨_, _, _, ck_11, by decide, gw_of (tb_6 (List.mem_of_getElem? (i := 97) rfl)) rfl⟩
theorem fl_11_322 : fL "NinetyPlayersModel" 322 11 48 := ⟨_, _, _, ck_11, by decide, gw_of (tb_6 (List.mem_of_getElem? (i := 104) rfl)) rfl⟩
theorem fl_11_378 : fL "NinetyPlayersModel" 378 11 42 := ⟨_, _, _, ck_11, by decide, gw_of (tb_6 (List.mem_of_getElem? (i := 98) rfl)) rfl⟩
theorem fl_11_384 : fL "NinetyPlayersModel" 384 11 43 := ⟨_, _, _, ck_11, by decide, gw_of (tb_6 (List.mem_of_getElem? (i := 99) rfl)) rfl⟩
theorem fl_11_390 : fL "NinetyPlayersModel" 390 11 44 := ⟨_, _, _, ck_11, by decide, gw_of (tb_6 (List.mem_of_getElem? (i := 100) rfl)) rfl⟩
theorem fl_11_396 : fL "NinetyPlayersModel" 396 11 45 := ⟨_, _, _, ck_11, by decide, gw_of (tb_6 (List.mem_of_getElem? (i := 101) rfl)) rfl⟩
theorem fl_11_277 : fL "NinetyPlayersModel" 277 11 20 := ⟨_, _, _, ck_11, by decide, gw_of (tb_6 (List.mem_of_getElem? (i := 76) rfl)) rfl⟩
theorem fl_11_408 : fL "NinetyPlayersModel" 408 11 21 := ⟨_, _, _, ck_11, by decide, gw_of (tb_6 (List.mem_of_getElem? (i := 77) rfl)) rfl⟩
theorem fl_11_299 : fL "NinetyPlayersModel" 299 11 24 := ⟨_, _, _, ck_11, by decide, gw_of (tb_6 (List.mem_of_getElem? (i := 80) rfl)) rfl⟩
theorem fl_11_334 : fL "NinetyPlayersModel" 334 11 25 := ⟨_, _, _, ck_11, by decide, gw_of (tb_6 (List.mem_of_getElem? (i := 81) rfl)) rfl⟩
theorem fl_11_261 : fL "NinetyPlayersModel" 261 11 17 := ⟨_, _, _, ck_11, by decide, gw_of (tb_6 (List.mem_of_getElem? (i := 73) rfl)) rfl⟩
theorem fl_11_340 : fL "NinetyPlayersModel" 340 11 18 := ⟨_, _, _, ck_11, by decide, gw_of (tb_6 (List.mem_of_getElem? (i := 74) rfl)) rfl⟩
theorem ml_11_411 : mLV "NinetyPlayersModel" 411 mM_begin 0 := ⟨yk_M_begin, gw_of (tb_7 (List.mem_of_getElem? (i := 221) rfl)) rfl, gw_of (tb_7 (List.mem_of_getElem? (i := 223) rfl)) rfl, gw_sel (List.mem_of_getElem? (i := 83) rfl) rfl⟩
theorem ml_11_414 : mLV "NinetyPlayersModel" 414 mM_keepAir 0 := ⟨yk_M_keepAir, gw_of (tb_7 (List.mem_of_getElem? (i := 225) rfl)) rfl, gw_of (tb_7 (List.mem_of_getElem? (i := 227) rfl)) rfl, gw_sel (List.mem_of_getElem? (i := 84) rfl) rfl⟩
theorem fl_11_417 : fL "NinetyPlayersModel" 417 11 63 := ⟨_, _, _, ck_11, by decide, gw_of (tb_6 (List.mem_of_getElem? (i := 119) rfl)) rfl⟩
theorem fl_11_420 : fL "NinetyPlayersModel" 420 11 64 := ⟨_, _, _, ck_11, by decide, gw_of (tb_6 (List.mem_of_getElem? (i := 120) rfl)) rfl⟩
theorem fl_11_423 : fL "NinetyPlayersModel" 423 11 74 := ⟨_, _, _, ck_11, by decide, gw_of (tb_6 (List.mem_of_getElem? (i := 130) rfl)) rfl⟩
theorem fl_11_426 : fL "NinetyPlayersModel" 426 11 68 := ⟨_, _, _, ck_11, by decide, gw_of (tb_6 (List.mem_of_getElem? (i := 124) rfl)) rfl⟩
theorem fl_11_155 : fL "NinetyPlayersModel" 155 11 5 := ⟨_, _, _, ck_11, by decide, gw_of (tb_6 (List.mem_of_getElem? (i := 61) rfl)) rfl⟩
theorem fl_11_152 : fL "NinetyPlayersModel" 152 11 4 := ⟨_, _, _, ck_11, by decide, gw_of (tb_6 (List.mem_of_getElem? (i := 60) rfl)) rfl⟩
theorem fl_11_363 : fL "NinetyPlayersModel" 363 11 53 := ⟨_, _, _, ck_11, by decide, gw_of (tb_6 (List.mem_of_getElem? (i := 109) rfl)) rfl⟩
theorem fl_11_375 : fL "NinetyPlayersModel" 375 11 54 := ⟨_, _, _, ck_11, by decide, gw_of (tb_6 (List.mem_of_getElem? (i := 110) rfl)) rfl⟩
theorem fl_11_381 : fL "NinetyPlayersModel" 381 11 55 := ⟨_, _, _, ck_11, by decide, gw_of (tb_6 (List.mem_of_getElem? (i := 111) rfl)) rfl⟩
theorem fl_11_387 : fL "NinetyPlayersModel" 387 11 56 := ⟨_, _, _, ck_11, by decide, gw_of (tb_6 (List.mem_of_getElem? (i := 112) rfl)) rfl⟩
theorem fl_11_393 : fL "NinetyPlayersModel" 393 11 57 := ⟨_, _, _, ck_11, by decide, gw_of (tb_6 (List.mem_of_getElem? (i := 113) rfl)) rfl⟩
theorem ml_11_241 : mLV "NinetyPlayersModel" 241 mM_token 0 := ⟨yk_M_token, gw_of (tb_7 (List.mem_of_getElem? (i := 77) rfl)) rfl, gw_of (tb_7 (List.mem_of_getElem? (i := 79) rfl)) rfl, gw_sel (List.mem_of_getElem? (i := 56) rfl) rfl⟩
theorem fl_11_172 : fL "NinetyPlayersModel" 172 11 6 := ⟨_, _, _, ck_11, by decide, gw_of (tb_6 (List.mem_of_getElem? (i := 62) rfl)) rfl⟩
theorem ml_11_399 : mLV "NinetyPlayersModel" 399 mM_readLine 0 := ⟨yk_M_readLine, gw_of (tb_7 (List.mem_of_getElem? (i := 94) rfl)) rfl, gw_of (tb_7 (List.mem_of_getElem? (i := 96) rfl)) rfl, gw_sel (List.mem_of_getElem? (i := 58) rfl) rfl⟩
theorem ml_11_158 : mLV "NinetyPlayersModel" 158 mM_here 1 := ⟨yk_M_here, gw_of (tb_7 (List.mem_of_getElem? (i := 81) rfl)) rfl, gw_of (tb_7 (List.mem_of_getElem? (i := 83) rfl)) rfl, gw_sel (List.mem_of_getElem? (i := 57) rfl) rfl⟩
theorem fl_11_162 : fL "NinetyPlayersModel" 162 11 7 := ⟨_, _, _, ck_11, by decide, gw_of (tb_6 (List.mem_of_getElem? (i := 63) rfl)) rfl⟩
theorem fl_11_165 : fL "NinetyPlayersModel" 165 11 9 := ⟨_, _, _, ck_11, by decide, gw_of (tb_6 (List.mem_of_getElem? (i := 65) rfl)) rfl⟩
theorem fl_11_169 : fL "NinetyPlayersModel" 169 11 8 := ⟨_, _, _, ck_11, by decide, gw_of (tb_6 (List.mem_of_getElem? (i := 64) rfl)) rfl⟩
theorem ml_11_175 : mLS "NinetyPlayersModel" 175 mM_isLetter 1 := ⟨yk_M_isLetter, gw_of (tb_7 (List.mem_of_getElem? (i := 85) rfl)) rfl, gw_of (tb_7 (List.mem_of_getElem? (i := 86) rfl)) rfl⟩
theorem ml_11_179 : mLS "NinetyPlayersModel" 179 mM_isDigit 1 := ⟨yk_M_isDigit, gw_of (tb_7 (List.mem_of_getElem? (i := 88) rfl)) rfl, gw_of (tb_7 (List.mem_of_getElem? (i := 89) rfl)) rfl⟩
theorem ml_11_182 : mLS "NinetyPlayersModel" 182 mM_isSign 1 := ⟨yk_M_isSign, gw_of (tb_7 (List.mem_of_getElem? (i := 91) rfl)) rfl, gw_of (tb_7 (List.mem_of_getElem? (i := 92) rfl)) rfl⟩
theorem kc_11_188 : Cond.constantLong "NinetyPlayersModel" 188 422607680627 ∈ GW := gw_of (tb_7 (List.mem_of_getElem? (i := 98) rfl)) rfl
theorem ml_11_234 : mLV "NinetyPlayersModel" 234 mM_isWord 1 := ⟨yk_M_isWord, gw_of (tb_7 (List.mem_of_getElem? (i := 99) rfl)) rfl, gw_of (tb_7 (List.mem_of_getElem? (i := 101) rfl)) rfl, gw_sel (List.mem_of_getElem? (i := 59) rfl) rfl⟩
theorem ml_11_359 : mLV "NinetyPlayersModel" 359 mM_told 3 := ⟨yk_M_told, gw_of (tb_7 (List.mem_of_getElem? (i := 103) rfl)) rfl, gw_of (tb_7 (List.mem_of_getElem? (i := 105) rfl)) rfl, gw_sel (List.mem_of_getElem? (i := 60) rfl) rfl⟩
theorem kc_11_190 : Cond.constantLong "NinetyPlayersModel" 190 1885434484 ∈ GW := gw_of (tb_7 (List.mem_of_getElem? (i := 119) rfl)) rfl
theorem ml_11_366 : mLV "NinetyPlayersModel" 366 mM_readPart 0 := ⟨yk_M_readPart, gw_of (tb_7 (List.mem_of_getElem? (i := 120) rfl)) rfl, gw_of (tb_7 (List.mem_of_getElem? (i := 122) rfl)) rfl, gw_sel (List.mem_of_getElem? (i := 64) rfl) rfl⟩
theorem kc_11_196 : Cond.constantLong "NinetyPlayersModel" 196 1852798053 ∈ GW := gw_of (tb_7 (List.mem_of_getElem? (i := 138) rfl)) rfl
theorem ml_11_369 : mLV "NinetyPlayersModel" 369 mM_readNote 0 := ⟨yk_M_readNote, gw_of (tb_7 (List.mem_of_getElem? (i := 162) rfl)) rfl, gw_of (tb_7 (List.mem_of_getElem? (i := 164) rfl)) rfl, gw_sel (List.mem_of_getElem? (i := 69) rfl) rfl⟩
theorem kc_11_208 : Cond.constantLong "NinetyPlayersModel" 208 120299675936100 ∈ GW := gw_of (tb_7 (List.mem_of_getElem? (i := 144) rfl)) rfl
theorem ml_11_372 : mLV "NinetyPlayersModel" 372 mM_formula 0 := ⟨yk_M_formula, gw_of (tb_7 (List.mem_of_getElem? (i := 170) rfl)) rfl, gw_of (tb_7 (List.mem_of_getElem? (i := 172) rfl)) rfl, gw_sel (List.mem_of_getElem? (i := 71) rfl) rfl⟩
theorem kc_11_210 : Cond.constantLong "NinetyPlayersModel" 210 1936744814 ∈ GW := gw_of (tb_7 (List.mem_of_getElem? (i := 145) rfl)) rfl
theorem kc_11_212 : Cond.constantLong "NinetyPlayersModel" 212 28826370526507635 ∈ GW := gw_of (tb_7 (List.mem_of_getElem? (i := 146) rfl)) rfl
theorem kc_11_214 : Cond.constantLong "NinetyPlayersModel" 214 1818583408 ∈ GW := gw_of (tb_7 (List.mem_of_getElem? (i := 147) rfl)) rfl
theorem kc_11_216 : Cond.constantLong "NinetyPlayersModel" 216 6644082 ∈ GW := gw_of (tb_7 (List.mem_of_getElem? (i := 148) rfl)) rfl
theorem ml_11_238 : mLV "NinetyPlayersModel" 238 mM_wrong 1 := ⟨yk_M_wrong, gw_of (tb_7 (List.mem_of_getElem? (i := 111) rfl)) rfl, gw_of (tb_7 (List.mem_of_getElem? (i := 113) rfl)) rfl, gw_sel (List.mem_of_getElem? (i := 62) rfl) rfl⟩
theorem ml_11_244 : mLV "NinetyPlayersModel" 244 mM_want 1 := ⟨yk_M_want, gw_of (tb_7 (List.mem_of_getElem? (i := 107) rfl)) rfl, gw_of (tb_7 (List.mem_of_getElem? (i := 109) rfl)) rfl, gw_sel (List.mem_of_getElem? (i := 61) rfl) rfl⟩
theorem ml_11_248 : mLV "NinetyPlayersModel" 248 mM_toldNumber 2 := ⟨yk_M_toldNumber, gw_of (tb_7 (List.mem_of_getElem? (i := 115) rfl)) rfl, gw_of (tb_7 (List.mem_of_getElem? (i := 117) rfl)) rfl, gw_sel (List.mem_of_getElem? (i := 63) rfl) rfl⟩
theorem ml_11_347 : mLV "NinetyPlayersModel" 347 mM_newName 2 := ⟨yk_M_newName, gw_of (tb_7 (List.mem_of_getElem? (i := 124) rfl)) rfl, gw_of (tb_7 (List.mem_of_getElem? (i := 126) rfl)) rfl, gw_sel (List.mem_of_getElem? (i := 65) rfl) rfl⟩
theorem kc_11_192 : Cond.constantLong "NinetyPlayersModel" 192 1953853029 ∈ GW := gw_of (tb_7 (List.mem_of_getElem? (i := 136) rfl)) rfl
theorem kc_11_194 : Cond.constantLong "NinetyPlayersModel" 194 1650553715 ∈ GW := gw_of (tb_7 (List.mem_of_getElem? (i := 137) rfl)) rfl
theorem ml_11_318 : mLS "NinetyPlayersModel" 318 mM_truth 1 := ⟨yk_M_truth, gw_of (tb_7 (List.mem_of_getElem? (i := 159) rfl)) rfl, gw_of (tb_7 (List.mem_of_getElem? (i := 160) rfl)) rfl⟩
theorem ml_11_252 : mLV "NinetyPlayersModel" 252 mM_isName 0 := ⟨yk_M_isName, gw_of (tb_7 (List.mem_of_getElem? (i := 128) rfl)) rfl, gw_of (tb_7 (List.mem_of_getElem? (i := 130) rfl)) rfl, gw_sel (List.mem_of_getElem? (i := 66) rfl) rfl⟩
theorem ml_11_255 : mLV "NinetyPlayersModel" 255 mM_find 2 := ⟨yk_M_find, gw_of (tb_7 (List.mem_of_getElem? (i := 155) rfl)) rfl, gw_of (tb_7 (List.mem_of_getElem? (i := 157) rfl)) rfl, gw_sel (List.mem_of_getElem? (i := 68) rfl) rfl⟩
theorem ml_11_230 : mLV "NinetyPlayersModel" 230 mM_isOwn 0 := ⟨yk_M_isOwn, gw_of (tb_7 (List.mem_of_getElem? (i := 132) rfl)) rfl, gw_of (tb_7 (List.mem_of_getElem? (i := 134) rfl)) rfl, gw_sel (List.mem_of_getElem? (i := 67) rfl) rfl⟩
theorem kc_11_198 : Cond.constantLong "NinetyPlayersModel" 198 28518 ∈ GW := gw_of (tb_7 (List.mem_of_getElem? (i := 139) rfl)) rfl
theorem kc_11_200 : Cond.constantLong "NinetyPlayersModel" 200 24948 ∈ GW := gw_of (tb_7 (List.mem_of_getElem? (i := 140) rfl)) rfl
theorem kc_11_202 : Cond.constantLong "NinetyPlayersModel" 202 7038329 ∈ GW := gw_of (tb_7 (List.mem_of_getElem? (i := 141) rfl)) rfl
theorem kc_11_204 : Cond.constantLong "NinetyPlayersModel" 204 1819242087 ∈ GW := gw_of (tb_7 (List.mem_of_getElem? (i := 142) rfl)) rfl
theorem kc_11_206 : Cond.constantLong "NinetyPlayersModel" 206 1819243876 ∈ GW := gw_of (tb_7 (List.mem_of_getElem? (i := 143) rfl)) rfl
theorem kc_11_218 : Cond.constantLong "NinetyPlayersModel" 218 1919904869 ∈ GW := gw_of (tb_7 (List.mem_of_getElem? (i := 149) rfl)) rfl
theorem kc_11_220 : Cond.constantLong "NinetyPlayersModel" 220 28270047624193380 ∈ GW := gw_of (tb_7 (List.mem_of_getElem? (i := 150) rfl)) rfl
theorem kc_11_222 : Cond.constantLong "NinetyPlayersModel" 222 1650811252 ∈ GW := gw_of (tb_7 (List.mem_of_getElem? (i := 151) rfl)) rfl
theorem kc_11_224 : Cond.constantLong "NinetyPlayersModel" 224 6385252 ∈ GW := gw_of (tb_7 (List.mem_of_getElem? (i := 152) rfl)) rfl
theorem kc_11_226 : Cond.constantLong "NinetyPlayersModel" 226 28530 ∈ GW := gw_of (tb_7 (List.mem_of_getElem? (i := 153) rfl)) rfl
theorem kc_11_228 : Cond.constantLong "NinetyPlayersModel" 228 7237492 ∈ GW := gw_of (tb_7 (List.mem_of_getElem? (i := 154) rfl)) rfl
theorem ml_11_353 : mLV "NinetyPlayersModel" 353 mM_oldPart 0 := ⟨yk_M_oldPart, gw_of (tb_7 (List.mem_of_getElem? (i := 166) rfl)) rfl, gw_of (tb_7 (List.mem_of_getElem? (i := 168) rfl)) rfl, gw_sel (List.mem_of_getElem? (i := 70) rfl) rfl⟩
theorem fl_11_264 : fL "NinetyPlayersModel" 264 11 19 := ⟨_, _, _, ck_11, by decide, gw_of (tb_6 (List.mem_of_getElem? (i := 75) rfl)) rfl⟩
theorem fl_11_274 : fL "NinetyPlayersModel" 274 11 23 := ⟨_, _, _, ck_11, by decide, gw_of (tb_6 (List.mem_of_getElem? (i := 79) rfl)) rfl⟩
theorem fl_11_280 : fL "NinetyPlayersModel" 280 11 22 := ⟨_, _, _, ck_11, by decide, gw_of (tb_6 (List.mem_of_getElem? (i := 78) rfl)) rfl⟩
theorem ml_11_303 : mLV "NinetyPlayersModel" 303 mM_unit 0 := ⟨yk_M_unit, gw_of (tb_7 (List.mem_of_getElem? (i := 174) rfl)) rfl, gw_of (tb_7 (List.mem_of_getElem? (i := 176) rfl)) rfl, gw_sel (List.mem_of_getElem? (i := 72) rfl) rfl⟩
theorem ml_11_306 : mLV "NinetyPlayersModel" 306 mM_sign 0 := ⟨yk_M_sign, gw_of (tb_7 (List.mem_of_getElem? (i := 205) rfl)) rfl, gw_of (tb_7 (List.mem_of_getElem? (i := 207) rfl)) rfl, gw_sel (List.mem_of_getElem? (i := 79) rfl) rfl⟩
theorem ml_11_309 : mLV "NinetyPlayersModel" 309 mM_hasBracket 0 := ⟨yk_M_hasBracket, gw_of (tb_7 (List.mem_of_getElem? (i := 209) rfl)) rfl, gw_of (tb_7 (List.mem_of_getElem? (i := 211) rfl)) rfl, gw_sel (List.mem_of_getElem? (i := 80) rfl) rfl⟩
theorem ml_11_312 : mLV "NinetyPlayersModel" 312 mM_close 1 := ⟨yk_M_close, gw_of (tb_7 (List.mem_of_getElem? (i := 213) rfl)) rfl, gw_of (tb_7 (List.mem_of_getElem? (i := 215) rfl)) rfl, gw_sel (List.mem_of_getElem? (i := 81) rfl) rfl⟩
theorem ml_11_267 : mLS "NinetyPlayersModel" 267 mM_tight 1 := ⟨yk_M_tight, gw_of (tb_7 (List.mem_of_getElem? (i := 182) rfl)) rfl, gw_of (tb_7 (List.mem_of_getElem? (i := 183) rfl)) rfl⟩
theorem ml_11_315 : mLV "NinetyPlayersModel" 315 mM_hasRelation 0 := ⟨yk_M_hasRelation, gw_of (tb_7 (List.mem_of_getElem? (i := 217) rfl)) rfl, gw_of (tb_7 (List.mem_of_getElem? (i := 219) rfl)) rfl, gw_sel (List.mem_of_getElem? (i := 82) rfl) rfl⟩
theorem ml_11_283 : mLV "NinetyPlayersModel" 283 mM_mayNot 0 := ⟨yk_M_mayNot, gw_of (tb_7 (List.mem_of_getElem? (i := 178) rfl)) rfl, gw_of (tb_7 (List.mem_of_getElem? (i := 180) rfl)) rfl, gw_sel (List.mem_of_getElem? (i := 73) rfl) rfl⟩
theorem ml_11_286 : mLV "NinetyPlayersModel" 286 mM_openUp 1 := ⟨yk_M_openUp, gw_of (tb_7 (List.mem_of_getElem? (i := 185) rfl)) rfl, gw_of (tb_7 (List.mem_of_getElem? (i := 187) rfl)) rfl, gw_sel (List.mem_of_getElem? (i := 74) rfl) rfl⟩
theorem ml_11_289 : mLV "NinetyPlayersModel" 289 mM_isFull 0 := ⟨yk_M_isFull, gw_of (tb_7 (List.mem_of_getElem? (i := 189) rfl)) rfl, gw_of (tb_7 (List.mem_of_getElem? (i := 191) rfl)) rfl, gw_sel (List.mem_of_getElem? (i := 75) rfl) rfl⟩
theorem ml_11_292 : mLV "NinetyPlayersModel" 292 mM_countUnit 0 := ⟨yk_M_countUnit, gw_of (tb_7 (List.mem_of_getElem? (i := 193) rfl)) rfl, gw_of (tb_7 (List.mem_of_getElem? (i := 195) rfl)) rfl, gw_sel (List.mem_of_getElem? (i := 76) rfl) rfl⟩
theorem ml_11_295 : mLV "NinetyPlayersModel" 295 mM_asked 0 := ⟨yk_M_asked, gw_of (tb_7 (List.mem_of_getElem? (i := 197) rfl)) rfl, gw_of (tb_7 (List.mem_of_getElem? (i := 199) rfl)) rfl, gw_sel (List.mem_of_getElem? (i := 77) rfl) rfl⟩
theorem ml_11_270 : mLV "NinetyPlayersModel" 270 mM_add 2 := ⟨yk_M_add, gw_of (tb_7 (List.mem_of_getElem? (i := 201) rfl)) rfl, gw_of (tb_7 (List.mem_of_getElem? (i := 203) rfl)) rfl, gw_sel (List.mem_of_getElem? (i := 78) rfl) rfl⟩
theorem ml_11_461 : mLV "NinetyPlayersModel" 461 mM_isNote 1 := ⟨yk_M_isNote, gw_of (tb_7 (List.mem_of_getElem? (i := 237) rfl)) rfl, gw_of (tb_7 (List.mem_of_getElem? (i := 239) rfl)) rfl, gw_sel (List.mem_of_getElem? (i := 85) rfl) rfl⟩
theorem ml_11_464 : mLV "NinetyPlayersModel" 464 mM_fill 0 := ⟨yk_M_fill, gw_of (tb_8 (List.mem_of_getElem? (i := 4) rfl)) rfl, gw_of (tb_8 (List.mem_of_getElem? (i := 6) rfl)) rfl, gw_sel (List.mem_of_getElem? (i := 86) rfl) rfl⟩
theorem ml_11_467 : mLV "NinetyPlayersModel" 467 mM_missedOf 1 := ⟨yk_M_missedOf, gw_of (tb_8 (List.mem_of_getElem? (i := 12) rfl)) rfl, gw_of (tb_8 (List.mem_of_getElem? (i := 14) rfl)) rfl, gw_sel (List.mem_of_getElem? (i := 88) rfl) rfl⟩
theorem ml_11_328 : mLV "NinetyPlayersModel" 328 mM_doubles 1 := ⟨yk_M_doubles, gw_of (tb_8 (List.mem_of_getElem? (i := 16) rfl)) rfl, gw_of (tb_8 (List.mem_of_getElem? (i := 18) rfl)) rfl, gw_sel (List.mem_of_getElem? (i := 89) rfl) rfl⟩
theorem ml_11_429 : mLS "NinetyPlayersModel" 429 mM_isIn 3 := ⟨yk_M_isIn, gw_of (tb_8 (List.mem_of_getElem? (i := 1) rfl)) rfl, gw_of (tb_8 (List.mem_of_getElem? (i := 2) rfl)) rfl⟩
theorem ml_11_433 : mLV "NinetyPlayersModel" 433 mM_layHold 0 := ⟨yk_M_layHold, gw_of (tb_8 (List.mem_of_getElem? (i := 8) rfl)) rfl, gw_of (tb_8 (List.mem_of_getElem? (i := 10) rfl)) rfl, gw_sel (List.mem_of_getElem? (i := 87) rfl) rfl⟩
theorem ml_11_331 : mLS "NinetyPlayersModel" 331 mM_members 1 := ⟨yk_M_members, gw_of (tb_8 (List.mem_of_getElem? (i := 23) rfl)) rfl, gw_of (tb_8 (List.mem_of_getElem? (i := 24) rfl)) rfl⟩
theorem ml_11_337 : mLS "NinetyPlayersModel" 337 mM_within 2 := ⟨yk_M_within, gw_of (tb_8 (List.mem_of_getElem? (i := 26) rfl)) rfl, gw_of (tb_8 (List.mem_of_getElem? (i := 27) rfl)) rfl⟩
theorem ml_11_343 : mLS "NinetyPlayersModel" 343 mM_done 3 := ⟨yk_M_done, gw_of (tb_8 (List.mem_of_getElem? (i := 29) rfl)) rfl, gw_of (tb_8 (List.mem_of_getElem? (i := 30) rfl)) rfl⟩
theorem ml_11_325 : mLS "NinetyPlayersModel" 325 mM_plain 1 := ⟨yk_M_plain, gw_of (tb_8 (List.mem_of_getElem? (i := 20) rfl)) rfl, gw_of (tb_8 (List.mem_of_getElem? (i := 21) rfl)) rfl⟩
theorem ml_11_470 : mLV "NinetyPlayersModel" 470 mM_notesOf 1 := ⟨yk_M_notesOf, gw_of (tb_8 (List.mem_of_getElem? (i := 36) rfl)) rfl, gw_of (tb_8 (List.mem_of_getElem? (i := 38) rfl)) rfl, gw_sel (List.mem_of_getElem? (i := 90) rfl) rfl⟩
theorem ml_11_454 : mLV "NinetyPlayersModel" 454 mM_given 1 := ⟨yk_M_given, gw_of (tb_8 (List.mem_of_getElem? (i := 40) rfl)) rfl, gw_of (tb_8 (List.mem_of_getElem? (i := 42) rfl)) rfl, gw_sel (List.mem_of_getElem? (i := 91) rfl) rfl⟩
theorem ml_11_473 : mLV "NinetyPlayersModel" 473 mM_isBeat 1 := ⟨yk_M_isBeat, gw_of (tb_8 (List.mem_of_getElem? (i := 48) rfl)) rfl, gw_of (tb_8 (List.mem_of_getElem? (i := 50) rfl)) rfl, gw_sel (List.mem_of_getElem? (i := 92) rfl) rfl⟩
theorem ml_11_476 : mLS "NinetyPlayersModel" 476 mM_isHand 1 := ⟨yk_M_isHand, gw_of (tb_8 (List.mem_of_getElem? (i := 52) rfl)) rfl, gw_of (tb_8 (List.mem_of_getElem? (i := 53) rfl)) rfl⟩
theorem ml_11_479 : mLV "NinetyPlayersModel" 479 mM_laySound 0 := ⟨yk_M_laySound, gw_of (tb_8 (List.mem_of_getElem? (i := 59) rfl)) rfl, gw_of (tb_8 (List.mem_of_getElem? (i := 61) rfl)) rfl, gw_sel (List.mem_of_getElem? (i := 93) rfl) rfl⟩
theorem ml_11_450 : mLV "NinetyPlayersModel" 450 mM_clashBy 5 := ⟨yk_M_clashBy, gw_of (tb_8 (List.mem_of_getElem? (i := 67) rfl)) rfl, gw_of (tb_8 (List.mem_of_getElem? (i := 69) rfl)) rfl, gw_sel (List.mem_of_getElem? (i := 94) rfl) rfl⟩
theorem ml_11_443 : mLV "NinetyPlayersModel" 443 mM_ownClash 4 := ⟨yk_M_ownClash, gw_of (tb_8 (List.mem_of_getElem? (i := 71) rfl)) rfl, gw_of (tb_8 (List.mem_of_getElem? (i := 73) rfl)) rfl, gw_sel (List.mem_of_getElem? (i := 95) rfl) rfl⟩
theorem ml_11_440 : mLV "NinetyPlayersModel" 440 mM_highest 1 := ⟨yk_M_highest, gw_of (tb_8 (List.mem_of_getElem? (i := 80) rfl)) rfl, gw_of (tb_8 (List.mem_of_getElem? (i := 82) rfl)) rfl, gw_sel (List.mem_of_getElem? (i := 97) rfl) rfl⟩
theorem ml_11_437 : mLV "NinetyPlayersModel" 437 mM_lowest 1 := ⟨yk_M_lowest, gw_of (tb_8 (List.mem_of_getElem? (i := 75) rfl)) rfl, gw_of (tb_8 (List.mem_of_getElem? (i := 77) rfl)) rfl, gw_sel (List.mem_of_getElem? (i := 96) rfl) rfl⟩
theorem ml_11_447 : mLV "NinetyPlayersModel" 447 mM_hasTwins 1 := ⟨yk_M_hasTwins, gw_of (tb_8 (List.mem_of_getElem? (i := 84) rfl)) rfl, gw_of (tb_8 (List.mem_of_getElem? (i := 86) rfl)) rfl, gw_sel (List.mem_of_getElem? (i := 98) rfl) rfl⟩
theorem kc_11_436 : Cond.constant "NinetyPlayersModel" 436 1000000 ∈ GW := gw_of (tb_8 (List.mem_of_getElem? (i := 79) rfl)) rfl
theorem ml_11_482 : mLV "NinetyPlayersModel" 482 mM_clashBeats 1 := ⟨yk_M_clashBeats, gw_of (tb_8 (List.mem_of_getElem? (i := 92) rfl)) rfl, gw_of (tb_8 (List.mem_of_getElem? (i := 94) rfl)) rfl, gw_sel (List.mem_of_getElem? (i := 99) rfl) rfl⟩
theorem ml_11_485 : mLV "NinetyPlayersModel" 485 mM_act 0 := ⟨yk_M_act, gw_of (tb_8 (List.mem_of_getElem? (i := 100) rfl)) rfl, gw_of (tb_8 (List.mem_of_getElem? (i := 102) rfl)) rfl, gw_sel (List.mem_of_getElem? (i := 100) rfl) rfl⟩
theorem ml_11_488 : mLV "NinetyPlayersModel" 488 mM_clashes 0 := ⟨yk_M_clashes, gw_of (tb_8 (List.mem_of_getElem? (i := 104) rfl)) rfl, gw_of (tb_8 (List.mem_of_getElem? (i := 89) rfl)) rfl, gw_of (tb_8 (List.mem_of_getElem? (i := 90) rfl)) rfl⟩
theorem ml_11_491 : mLV "NinetyPlayersModel" 491 mM_change 2 := ⟨yk_M_change, gw_of (tb_8 (List.mem_of_getElem? (i := 113) rfl)) rfl, gw_of (tb_8 (List.mem_of_getElem? (i := 115) rfl)) rfl, gw_sel (List.mem_of_getElem? (i := 101) rfl) rfl⟩
theorem ml_11_494 : mLV "NinetyPlayersModel" 494 mM_exchange 1 := ⟨yk_M_exchange, gw_of (tb_8 (List.mem_of_getElem? (i := 129) rfl)) rfl, gw_of (tb_8 (List.mem_of_getElem? (i := 131) rfl)) rfl, gw_sel (List.mem_of_getElem? (i := 102) rfl) rfl⟩
theorem ml_11_497 : mLV "NinetyPlayersModel" 497 mM_layMissed 0 := ⟨yk_M_layMissed, gw_of (tb_8 (List.mem_of_getElem? (i := 141) rfl)) rfl, gw_of (tb_8 (List.mem_of_getElem? (i := 143) rfl)) rfl, gw_sel (List.mem_of_getElem? (i := 103) rfl) rfl⟩
theorem ml_11_500 : mLV "NinetyPlayersModel" 500 mM_missedBy 1 := ⟨yk_M_missedBy, gw_of (tb_8 (List.mem_of_getElem? (i := 145) rfl)) rfl, gw_of (tb_8 (List.mem_of_getElem? (i := 147) rfl)) rfl, gw_sel (List.mem_of_getElem? (i := 104) rfl) rfl⟩
theorem ml_11_512 : mLV "NinetyPlayersModel" 512 mM_best 2 := ⟨yk_M_best, gw_of (tb_8 (List.mem_of_getElem? (i := 153) rfl)) rfl, gw_of (tb_8 (List.mem_of_getElem? (i := 155) rfl)) rfl, gw_sel (List.mem_of_getElem? (i := 105) rfl) rfl⟩
theorem ml_11_503 : mLS "NinetyPlayersModel" 503 mM_power 2 := ⟨yk_M_power, gw_of (tb_8 (List.mem_of_getElem? (i := 157) rfl)) rfl, gw_of (tb_8 (List.mem_of_getElem? (i := 158) rfl)) rfl⟩
theorem ml_11_506 : mLV "NinetyPlayersModel" 506 mM_layVersion 1 := ⟨yk_M_layVersion, gw_of (tb_8 (List.mem_of_getElem? (i := 160) rfl)) rfl, gw_of (tb_8 (List.mem_of_getElem? (i := 162) rfl)) rfl, gw_sel (List.mem_of_getElem? (i := 106) rfl) rfl⟩
theorem ml_11_509 : mLV "NinetyPlayersModel" 509 mM_rowOf 1 := ⟨yk_M_rowOf, gw_of (tb_8 (List.mem_of_getElem? (i := 164) rfl)) rfl, gw_of (tb_8 (List.mem_of_getElem? (i := 166) rfl)) rfl, gw_sel (List.mem_of_getElem? (i := 107) rfl) rfl⟩
theorem ml_11_457 : mLV "NinetyPlayersModel" 457 mM_canBePlayed 4 := ⟨yk_M_canBePlayed, gw_of (tb_8 (List.mem_of_getElem? (i := 168) rfl)) rfl, gw_of (tb_8 (List.mem_of_getElem? (i := 170) rfl)) rfl, gw_sel (List.mem_of_getElem? (i := 108) rfl) rfl⟩
theorem ml_11_515 : mLV "NinetyPlayersModel" 515 mM_isOut 1 := ⟨yk_M_isOut, gw_of (tb_8 (List.mem_of_getElem? (i := 180) rfl)) rfl, gw_of (tb_8 (List.mem_of_getElem? (i := 182) rfl)) rfl, gw_sel (List.mem_of_getElem? (i := 109) rfl) rfl⟩
theorem ml_11_518 : mLV "NinetyPlayersModel" 518 mM_forbidden 2 := ⟨yk_M_forbidden, gw_of (tb_8 (List.mem_of_getElem? (i := 184) rfl)) rfl, gw_of (tb_8 (List.mem_of_getElem? (i := 186) rfl)) rfl, gw_sel (List.mem_of_getElem? (i := 110) rfl) rfl⟩
theorem ml_11_524 : mLV "NinetyPlayersModel" 524 mM_letsIn 3 := ⟨yk_M_letsIn, gw_of (tb_8 (List.mem_of_getElem? (i := 200) rfl)) rfl, gw_of (tb_8 (List.mem_of_getElem? (i := 202) rfl)) rfl, gw_sel (List.mem_of_getElem? (i := 111) rfl) rfl⟩
theorem ml_11_521 : mLV "NinetyPlayersModel" 521 mM_canBePlayedSo 0 := ⟨yk_M_canBePlayedSo, gw_of (tb_8 (List.mem_of_getElem? (i := 204) rfl)) rfl, gw_of (tb_8 (List.mem_of_getElem? (i := 206) rfl)) rfl, gw_sel (List.mem_of_getElem? (i := 112) rfl) rfl⟩
theorem ml_11_527 : mLS "NinetyPlayersModel" 527 mM_greater 2 := ⟨yk_M_greater, gw_of (tb_8 (List.mem_of_getElem? (i := 216) rfl)) rfl, gw_of (tb_8 (List.mem_of_getElem? (i := 217) rfl)) rfl⟩
theorem ml_11_530 : mLV "NinetyPlayersModel" 530 mM_blurs 3 := ⟨yk_M_blurs, gw_of (tb_8 (List.mem_of_getElem? (i := 231) rfl)) rfl, gw_of (tb_8 (List.mem_of_getElem? (i := 233) rfl)) rfl, gw_sel (List.mem_of_getElem? (i := 113) rfl) rfl⟩
theorem ml_11_533 : mLV "NinetyPlayersModel" 533 mM_openAt 1 := ⟨yk_M_openAt, gw_of (tb_8 (List.mem_of_getElem? (i := 239) rfl)) rfl, gw_of (tb_9 (List.mem_of_getElem? (i := 1) rfl)) rfl, gw_sel (List.mem_of_getElem? (i := 114) rfl) rfl⟩
theorem ml_11_536 : mLV "NinetyPlayersModel" 536 mM_tunes 0 := ⟨yk_M_tunes, gw_of (tb_9 (List.mem_of_getElem? (i := 7) rfl)) rfl, gw_of (tb_9 (List.mem_of_getElem? (i := 9) rfl)) rfl, gw_sel (List.mem_of_getElem? (i := 115) rfl) rfl⟩
theorem fl_11_539 : fL "NinetyPlayersModel" 539 11 75 := ⟨_, _, _, ck_11, by decide, gw_of (tb_6 (List.mem_of_getElem? (i := 131) rfl)) rfl⟩
theorem kc_11_542 : Cond.constant "NinetyPlayersModel" 542 100000 ∈ GW := gw_of (tb_9 (List.mem_of_getElem? (i := 47) rfl)) rfl
theorem ml_11_550 : mLV "NinetyPlayersModel" 550 mM_laySets 1 := ⟨yk_M_laySets, gw_of (tb_9 (List.mem_of_getElem? (i := 52) rfl)) rfl, gw_of (tb_9 (List.mem_of_getElem? (i := 54) rfl)) rfl, gw_sel (List.mem_of_getElem? (i := 116) rfl) rfl⟩
theorem ml_11_543 : mLV "NinetyPlayersModel" 543 mM_sayersOf 1 := ⟨yk_M_sayersOf, gw_of (tb_9 (List.mem_of_getElem? (i := 56) rfl)) rfl, gw_of (tb_9 (List.mem_of_getElem? (i := 58) rfl)) rfl, gw_sel (List.mem_of_getElem? (i := 117) rfl) rfl⟩
theorem ml_11_546 : mLV "NinetyPlayersModel" 546 mM_counts 2 := ⟨yk_M_counts, gw_of (tb_9 (List.mem_of_getElem? (i := 60) rfl)) rfl, gw_of (tb_9 (List.mem_of_getElem? (i := 62) rfl)) rfl, gw_sel (List.mem_of_getElem? (i := 118) rfl) rfl⟩
theorem ml_11_553 : mLS "NinetyPlayersModel" 553 mM_isBox 1 := ⟨yk_M_isBox, gw_of (tb_9 (List.mem_of_getElem? (i := 76) rfl)) rfl, gw_of (tb_9 (List.mem_of_getElem? (i := 77) rfl)) rfl⟩
theorem ml_11_556 : mLV "NinetyPlayersModel" 556 mM_played 0 := ⟨yk_M_played, gw_of (tb_9 (List.mem_of_getElem? (i := 79) rfl)) rfl, gw_of (tb_9 (List.mem_of_getElem? (i := 81) rfl)) rfl, gw_sel (List.mem_of_getElem? (i := 119) rfl) rfl⟩
theorem fl_16_9 : Cond.fieldLink "java/lang/String" 9 "java/lang/String" "value" "[B" ∈ GW := gw_of (tb_9 (List.mem_of_getElem? (i := 95) rfl)) rfl
theorem fl_16_15 : Cond.fieldLink "java/lang/String" 15 "java/lang/String" "coder" "B" ∈ GW := gw_of (tb_9 (List.mem_of_getElem? (i := 96) rfl)) rfl
theorem fl_16_38 : Cond.fieldLink "java/lang/String" 38 "java/lang/String" "COMPACT_STRINGS" "Z" ∈ GW := gw_of (tb_3 (List.mem_of_getElem? (i := 50) rfl)) rfl
theorem fl_16_1053 : Cond.fieldLink "java/lang/String" 1053 "jdk/internal/util/Preconditions" "SIOOBE_FORMATTER" "Ljava/util/function/BiFunction;" ∈ GW := gw_of (tb_3 (List.mem_of_getElem? (i := 66) rfl)) rfl
theorem ic_m8 : Int32.ofInt (-8) = (-8 : Int32) := by decide +kernel
theorem ic_m1 : Int32.ofInt (-1) = (-1 : Int32) := by decide +kernel
theorem ic_0 : Int32.ofInt (0) = (0 : Int32) := by decide +kernel
theorem ic_1 : Int32.ofInt (1) = (1 : Int32) := by decide +kernel
theorem ic_2 : Int32.ofInt (2) = (2 : Int32) := by decide +kernel
theorem ic_3 : Int32.ofInt (3) = (3 : Int32) := by decide +kernel
theorem ic_4 : Int32.ofInt (4) = (4 : Int32) := by decide +kernel
theorem ic_5 : Int32.ofInt (5) = (5 : Int32) := by decide +kernel
theorem ic_6 : Int32.ofInt (6) = (6 : Int32) := by decide +kernel
theorem bp_m100 : (Int8.ofInt (-100)).toInt32 = (-100 : Int32) := by decide +kernel
theorem bp_m14 : (Int8.ofInt (-14)).toInt32 = (-14 : Int32) := by decide +kernel
theorem bp_m13 : (Int8.ofInt (-13)).toInt32 = (-13 : Int32) := by decide +kernel
theorem bp_m12 : (Int8.ofInt (-12)).toInt32 = (-12 : Int32) := by decide +kernel
theorem bp_m7 : (Int8.ofInt (-7)).toInt32 = (-7 : Int32) := by decide +kernel
theorem bp_m2 : (Int8.ofInt (-2)).toInt32 = (-2 : Int32) := by decide +kernel
theorem bp_6 : (Int8.ofInt (6)).toInt32 = (6 : Int32) := by decide +kernel
theorem bp_7 : (Int8.ofInt (7)).toInt32 = (7 : Int32) := by decide +kernel
theorem bp_8 : (Int8.ofInt (8)).toInt32 = (8 : Int32) := by decide +kernel
theorem bp_9 : (Int8.ofInt (9)).toInt32 = (9 : Int32) := by decide +kernel
theorem bp_10 : (Int8.ofInt (10)).toInt32 = (10 : Int32) := by decide +kernel
theorem bp_11 : (Int8.ofInt (11)).toInt32 = (11 : Int32) := by decide +kernel
theorem bp_12 : (Int8.ofInt (12)).toInt32 = (12 : Int32) := by decide +kernel
theorem bp_13 : (Int8.ofInt (13)).toInt32 = (13 : Int32) := by decide +kernel
theorem bp_14 : (Int8.ofInt (14)).toInt32 = (14 : Int32) := by decide +kernel
theorem bp_15 : (Int8.ofInt (15)).toInt32 = (15 : Int32) := by decide +kernel
theorem bp_16 : (Int8.ofInt (16)).toInt32 = (16 : Int32) := by decide +kernel
theorem bp_17 : (Int8.ofInt (17)).toInt32 = (17 : Int32) := by decide +kernel
theorem bp_18 : (Int8.ofInt (18)).toInt32 = (18 : Int32) := by decide +kernel
theorem bp_20 : (Int8.ofInt (20)).toInt32 = (20 : Int32) := by decide +kernel
theorem bp_21 : (Int8.ofInt (21)).toInt32 = (21 : Int32) := by decide +kernel
theorem bp_24 : (Int8.ofInt (24)).toInt32 = (24 : Int32) := by decide +kernel
theorem bp_30 : (Int8.ofInt (30)).toInt32 = (30 : Int32) := by decide +kernel
theorem bp_31 : (Int8.ofInt (31)).toInt32 = (31 : Int32) := by decide +kernel
theorem bp_32 : (Int8.ofInt (32)).toInt32 = (32 : Int32) := by decide +kernel
theorem bp_37 : (Int8.ofInt (37)).toInt32 = (37 : Int32) := by decide +kernel
theorem bp_38 : (Int8.ofInt (38)).toInt32 = (38 : Int32) := by decide +kernel
theorem bp_39 : (Int8.ofInt (39)).toInt32 = (39 : Int32) := by decide +kernel
theorem bp_40 : (Int8.ofInt (40)).toInt32 = (40 : Int32) := by decide +kernel
theorem bp_41 : (Int8.ofInt (41)).toInt32 = (41 : Int32) := by decide +kernel
theorem bp_42 : (Int8.ofInt (42)).toInt32 = (42 : Int32) := by decide +kernel
theorem bp_43 : (Int8.ofInt (43)).toInt32 = (43 : Int32) := by decide +kernel
theorem bp_45 : (Int8.ofInt (45)).toInt32 = (45 : Int32) := by decide +kernel
theorem bp_47 : (Int8.ofInt (47)).toInt32 = (47 : Int32) := by decide +kernel
theorem bp_48 : (Int8.ofInt (48)).toInt32 = (48 : Int32) := by decide +kernel
theorem bp_57 : (Int8.ofInt (57)).toInt32 = (57 : Int32) := by decide +kernel
theorem bp_59 : (Int8.ofInt (59)).toInt32 = (59 : Int32) := by decide +kernel
theorem bp_60 : (Int8.ofInt (60)).toInt32 = (60 : Int32) := by decide +kernel
theorem bp_61 : (Int8.ofInt (61)).toInt32 = (61 : Int32) := by decide +kernel
theorem bp_62 : (Int8.ofInt (62)).toInt32 = (62 : Int32) := by decide +kernel
theorem bp_63 : (Int8.ofInt (63)).toInt32 = (63 : Int32) := by decide +kernel
theorem bp_64 : (Int8.ofInt (64)).toInt32 = (64 : Int32) := by decide +kernel
theorem bp_87 : (Int8.ofInt (87)).toInt32 = (87 : Int32) := by decide +kernel
theorem bp_97 : (Int8.ofInt (97)).toInt32 = (97 : Int32) := by decide +kernel
theorem bp_122 : (Int8.ofInt (122)).toInt32 = (122 : Int32) := by decide +kernel
theorem bp_123 : (Int8.ofInt (123)).toInt32 = (123 : Int32) := by decide +kernel
theorem bp_124 : (Int8.ofInt (124)).toInt32 = (124 : Int32) := by decide +kernel
theorem sp_160 : (Int16.ofInt (160)).toInt32 = (160 : Int32) := by decide +kernel
theorem sp_255 : (Int16.ofInt (255)).toInt32 = (255 : Int32) := by decide +kernel
theorem sp_270 : (Int16.ofInt (270)).toInt32 = (270 : Int32) := by decide +kernel
theorem sp_320 : (Int16.ofInt (320)).toInt32 = (320 : Int32) := by decide +kernel
theorem sp_999 : (Int16.ofInt (999)).toInt32 = (999 : Int32) := by decide +kernel
theorem sp_1000 : (Int16.ofInt (1000)).toInt32 = (1000 : Int32) := by decide +kernel
theorem sp_1599 : (Int16.ofInt (1599)).toInt32 = (1599 : Int32) := by decide +kernel
theorem sp_1600 : (Int16.ofInt (1600)).toInt32 = (1600 : Int32) := by decide +kernel
theorem sp_1640 : (Int16.ofInt (1640)).toInt32 = (1640 : Int32) := by decide +kernel
theorem sp_9991 : (Int16.ofInt (9991)).toInt32 = (9991 : Int32) := by decide +kernel
