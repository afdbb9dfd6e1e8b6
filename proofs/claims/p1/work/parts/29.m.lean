/-! NinetyPlayersModel.ask -/
def b_M_ask_36 (F G : Nat) (S : St) (z1 : Int32) (z3 : Int32) (k101 : Int32 → Option (Int32 × St)) (rec : Int32 → Int32 → Option (Int32 × St)) (w4 : Int32) (w5 : Int32) : Option (Int32 × St) :=
  if (S.1 78 48) ≤ w5 then k101 w4 else gd (inB w5 10) (gd (inB w5 10) (bd (fM_greater F G S (S.1 114 w5.toNatClampNeg) (z3 - (S.1 114 w5.toNatClampNeg))) fun v13 => gd (inB w4 10) (gd (inB w4 10) (bd (fM_greater F G S (S.1 114 w4.toNatClampNeg) (z3 - (S.1 114 w4.toNatClampNeg))) fun v17 => if v17 ≤ v13 then lt (w5 + 1) fun v19 => rec w4 v19 else lt (w5 + 1) fun v21 => rec w5 v21))))
def fM_ask (F G : Nat) (S : St) (p1 : Int32) (p2 : Int32) : Option (Int32 × St) :=
  bd (fM_isIn F G S p1 (0 : Int32) (1 : Int32)) fun v2 => if v2 = 0 then some ((-1 : Int32), S) else if (S.1 78 48) = 0 then some ((-1 : Int32), S) else bd2 (fM_laySets F G S p2) fun v6 S7 => if v6 = 0 then some ((-1 : Int32), S7) else fx2 (b_M_ask_36 F G S7 p1 v6 (fun v23 => if p1 = 0 then some (v23, S7) else gd (inB v23 10) (gd (inB v23 10) (bd (fM_greater F G S7 (S7.1 114 v23.toNatClampNeg) (v6 - (S7.1 114 v23.toNatClampNeg))) fun v28 => some (v28, S7))))) F (0 : Int32) (1 : Int32)
set_option maxRecDepth 100000 in
set_option maxHeartbeats 4000000 in
theorem T_M_ask_36 {X : Nat × (Nat → Int32)} {D F G : Nat} (hD : 3 ≤ D + 1) {S : St} {z1 : Int32} {z3 : Int32} {k101 : Int32 → Option (Int32 × St)} (hk101 : ∀ (u4 : Int32) (res : Int32 × St), k101 u4 = some res → Ek X (D + 1) mM_ask 101 [(0, .ref 78), (1, .int z1), (3, .int z3), (4, .int u4)] [] S (some (.int res.1)) res.2) : ∀ (f : Nat) (w4 : Int32) (w5 : Int32) (res : Int32 × St), fx2 (b_M_ask_36 F G S z1 z3 k101 ) f w4 w5 = some res → Ek X (D + 1) mM_ask 36 [(0, .ref 78), (1, .int z1), (3, .int z3), (4, .int w4), (5, .int w5)] [] S (some (.int res.1)) res.2 := by
  refine fx2_ind ?_
  intro rec ih w4 w5 res h
  unfold b_M_ask_36 at h
  refine x_iload d_M_ask_36 4 rfl ?_
  refine x_aload_n d_M_ask_38 rfl 0 rfl ?_
  refine y_getI d_M_ask_39 fl_11_322 rfl kd_78 ?_
  refine x_icmp_ge (tgt := 101) d_M_ask_42 rfl (fun c9 => ?_) (fun c9 => ?_)
  · replace h := ite_t c9 h
    refine y_pick (L1 := [(0, .ref 78), (1, .int z1), (3, .int z3), (4, .int w4)]) [0, 1, 2, 3] rfl ?_
    exact hk101 w4 _ h
  · replace h := ite_f c9 h
    refine x_aload_n d_M_ask_45 rfl 0 rfl ?_
    refine y_getR d_M_ask_46 fl_11_136 rfl kd_78 rr_78_77 ?_
    refine x_iload d_M_ask_49 4 rfl ?_
    obtain ⟨g10, h⟩ := gd_inv h
    refine y_iald d_M_ask_51 kd_114 g10 ?_
    refine x_iload_n d_M_ask_52 rfl 2 rfl ?_
    refine x_aload_n d_M_ask_53 rfl 0 rfl ?_
    refine y_getR d_M_ask_54 fl_11_136 rfl kd_78 rr_78_77 ?_
    refine x_iload d_M_ask_57 4 rfl ?_
    obtain ⟨g11, h⟩ := gd_inv h
    refine y_iald d_M_ask_59 kd_114 g11 ?_
    refine x_isub d_M_ask_60 ?_
    obtain ⟨v13, q12, h⟩ := bd_inv h
    refine y_S2i (v := v13) (S1 := S) d_M_ask_61 ml_11_527 (Nat.le_of_ble_eq_true rfl) (Nat.le_of_ble_eq_true rfl) (c_M_greater (by omega) q12) ?_
    refine x_aload_n d_M_ask_64 rfl 0 rfl ?_
    refine y_getR d_M_ask_65 fl_11_136 rfl kd_78 rr_78_77 ?_
    refine x_iload d_M_ask_68 3 rfl ?_
    obtain ⟨g14, h⟩ := gd_inv h
    refine y_iald d_M_ask_70 kd_114 g14 ?_
    refine x_iload_n d_M_ask_71 rfl 2 rfl ?_
    refine x_aload_n d_M_ask_72 rfl 0 rfl ?_
    refine y_getR d_M_ask_73 fl_11_136 rfl kd_78 rr_78_77 ?_
    refine x_iload d_M_ask_76 3 rfl ?_
    obtain ⟨g15, h⟩ := gd_inv h
    refine y_iald d_M_ask_78 kd_114 g15 ?_
    refine x_isub d_M_ask_79 ?_
    obtain ⟨v17, q16, h⟩ := bd_inv h
    refine y_S2i (v := v17) (S1 := S) d_M_ask_80 ml_11_527 (Nat.le_of_ble_eq_true rfl) (Nat.le_of_ble_eq_true rfl) (c_M_greater (by omega) q16) ?_
    refine x_icmp_ge (tgt := 91) d_M_ask_83 rfl (fun c18 => ?_) (fun c18 => ?_)
    · replace h := ite_t c18 h
      refine x_iload d_M_ask_91 3 rfl ?_
      refine x_istore (L1 := [(0, .ref 78), (1, .int z1), (3, .int z3), (4, .int w4), (5, .int w5)]) d_M_ask_93 (Nat.le_of_ble_eq_true rfl) rfl rfl ?_
      obtain ⟨v19, e20, h⟩ := lt_inv h
      refine y_iinc (L1 := [(0, .ref 78), (1, .int z1), (3, .int z3), (4, .int w4), (5, .int v19)]) e20 ic_1 d_M_ask_95 4 rfl (Nat.le_of_ble_eq_true rfl) rfl rfl ?_
      refine x_goto (tgt := 36) d_M_ask_98 rfl ?_
      exact ih w4 v19 _ h
    · replace h := ite_f c18 h
      refine x_iload d_M_ask_86 4 rfl ?_
      refine x_goto (tgt := 93) d_M_ask_88 rfl ?_
      refine x_istore (L1 := [(0, .ref 78), (1, .int z1), (3, .int z3), (4, .int w5), (5, .int w5)]) d_M_ask_93 (Nat.le_of_ble_eq_true rfl) rfl rfl ?_
      obtain ⟨v21, e22, h⟩ := lt_inv h
      refine y_iinc (L1 := [(0, .ref 78), (1, .int z1), (3, .int z3), (4, .int w5), (5, .int v21)]) e22 ic_1 d_M_ask_95 4 rfl (Nat.le_of_ble_eq_true rfl) rfl rfl ?_
      refine x_goto (tgt := 36) d_M_ask_98 rfl ?_
      exact ih w5 v21 _ h
set_option maxRecDepth 100000 in
set_option maxHeartbeats 4000000 in
theorem c_M_ask {X : Nat × (Nat → Int32)} {D F G : Nat} (hD : 3 ≤ D) {S : St} {p1 : Int32} {p2 : Int32} {res : Int32 × St} (h : fM_ask F G S p1 p2 = some res) : Ek X (D) mM_ask 0 [(0, .ref 78), (1, .int p1), (2, .int p2)] [] S (some (.int res.1)) res.2 := by
  obtain ⟨D, rfl⟩ : ∃ E, D = E + 1 := ⟨D - 1, by omega⟩
  unfold fM_ask at h
  refine x_iload_n d_M_ask_0 rfl 1 rfl ?_
  refine x_iconst d_M_ask_1 ic_0 ?_
  refine x_iconst d_M_ask_2 ic_1 ?_
  obtain ⟨v2, q1, h⟩ := bd_inv h
  refine y_S3i (v := v2) (S1 := S) d_M_ask_3 ml_11_429 (Nat.le_of_ble_eq_true rfl) (Nat.le_of_ble_eq_true rfl) (c_M_isIn (by omega) q1) ?_
  refine x_if_eq (tgt := 16) d_M_ask_6 rfl (fun c3 => ?_) (fun c3 => ?_)
  · replace h := ite_t c3 h
    refine x_iconst d_M_ask_16 ic_m1 ?_
    obtain rfl := Option.some.inj h
    exact x_ret (r := some (.int (-1 : Int32))) d_M_ask_17 ⟨_, rfl, rfl⟩
  · replace h := ite_f c3 h
    refine x_aload_n d_M_ask_9 rfl 0 rfl ?_
    refine y_getI d_M_ask_10 fl_11_322 rfl kd_78 ?_
    refine x_if_ne (tgt := 18) d_M_ask_13 rfl (fun c4 => ?_) (fun c4 => ?_)
    · replace h := ite_f c4 h
      refine x_aload_n d_M_ask_18 rfl 0 rfl ?_
      refine x_iload_n d_M_ask_19 rfl 2 rfl ?_
      obtain ⟨v6, S7, q5, h⟩ := bd2_inv h
      refine y_V1i (v := v6) (S1 := S7) d_M_ask_20 ml_11_550 kd_78 rfl (Nat.le_of_ble_eq_true rfl) (Nat.le_of_ble_eq_true rfl) (c_M_laySets (by omega) q5) ?_
      refine x_istore_n (L1 := [(0, .ref 78), (1, .int p1), (2, .int p2), (3, .int v6)]) d_M_ask_23 rfl (Nat.le_of_ble_eq_true rfl) rfl rfl ?_
      refine x_iload_n d_M_ask_24 rfl 3 rfl ?_
      refine x_if_ne (tgt := 30) d_M_ask_25 rfl (fun c8 => ?_) (fun c8 => ?_)
      · replace h := ite_f c8 h
        refine x_iconst d_M_ask_30 ic_0 ?_
        refine x_istore (L1 := [(0, .ref 78), (1, .int p1), (2, .int p2), (3, .int v6), (4, .int (0 : Int32))]) d_M_ask_31 (Nat.le_of_ble_eq_true rfl) rfl rfl ?_
        refine x_iconst d_M_ask_33 ic_1 ?_
        refine x_istore (L1 := [(0, .ref 78), (1, .int p1), (2, .int p2), (3, .int v6), (4, .int (0 : Int32)), (5, .int (1 : Int32))]) d_M_ask_34 (Nat.le_of_ble_eq_true rfl) rfl rfl ?_
        refine y_pick (L1 := [(0, .ref 78), (1, .int p1), (3, .int v6), (4, .int (0 : Int32)), (5, .int (1 : Int32))]) [0, 1, 3, 4, 5] rfl ?_
        refine T_M_ask_36 (by omega)  ?_ F (0 : Int32) (1 : Int32) _ h
        · intro v23 res h
          refine x_iload_n d_M_ask_101 rfl 1 rfl ?_
          refine x_if_ne (tgt := 110) d_M_ask_102 rfl (fun c24 => ?_) (fun c24 => ?_)
          · replace h := ite_f c24 h
            refine x_aload_n d_M_ask_110 rfl 0 rfl ?_
            refine y_getR d_M_ask_111 fl_11_136 rfl kd_78 rr_78_77 ?_
            refine x_iload d_M_ask_114 3 rfl ?_
            obtain ⟨g25, h⟩ := gd_inv h
            refine y_iald d_M_ask_116 kd_114 g25 ?_
            refine x_iload_n d_M_ask_117 rfl 2 rfl ?_
            refine x_aload_n d_M_ask_118 rfl 0 rfl ?_
            refine y_getR d_M_ask_119 fl_11_136 rfl kd_78 rr_78_77 ?_
            refine x_iload d_M_ask_122 3 rfl ?_
            obtain ⟨g26, h⟩ := gd_inv h
            refine y_iald d_M_ask_124 kd_114 g26 ?_
            refine x_isub d_M_ask_125 ?_
            obtain ⟨v28, q27, h⟩ := bd_inv h
            refine y_S2i (v := v28) (S1 := S7) d_M_ask_126 ml_11_527 (Nat.le_of_ble_eq_true rfl) (Nat.le_of_ble_eq_true rfl) (c_M_greater (by omega) q27) ?_
            obtain rfl := Option.some.inj h
            exact x_ret (r := some (.int v28)) d_M_ask_129 ⟨_, rfl, rfl⟩
          · replace h := ite_t c24 h
            refine x_iload d_M_ask_105 3 rfl ?_
            refine x_goto (tgt := 129) d_M_ask_107 rfl ?_
            obtain rfl := Option.some.inj h
            exact x_ret (r := some (.int v23)) d_M_ask_129 ⟨_, rfl, rfl⟩
      · replace h := ite_t c8 h
        refine x_iconst d_M_ask_28 ic_m1 ?_
        obtain rfl := Option.some.inj h
        exact x_ret (r := some (.int (-1 : Int32))) d_M_ask_29 ⟨_, rfl, rfl⟩
    · replace h := ite_t c4 h
      refine x_iconst d_M_ask_16 ic_m1 ?_
      obtain rfl := Option.some.inj h
      exact x_ret (r := some (.int (-1 : Int32))) d_M_ask_17 ⟨_, rfl, rfl⟩
/-! NinetyPlayers$Laying.copy -/
def b_L_copy_10 (F G : Nat) (z0 : Nat) (z1 : Nat) (rec : Int32 → St → Option (St)) (w2 : Int32) (S : St) : Option (St) :=
  if (10 : Int32) ≤ w2 then some S else gd (inB w2 10) (gd (inB w2 10) (lt (sI S (z0 + 1) w2.toNatClampNeg (S.1 (z1 + 1) w2.toNatClampNeg)) fun S6 => gd (inB w2 10) (gd (inB w2 10) (lt (sI S6 (z0 + 2) w2.toNatClampNeg (S6.1 (z1 + 2) w2.toNatClampNeg)) fun S10 => gd (inB w2 10) (gd (inB w2 10) (lt (sI S10 (z0 + 3) w2.toNatClampNeg (S10.1 (z1 + 3) w2.toNatClampNeg)) fun S14 => gd (inB w2 10) (gd (inB w2 10) (lt (sI S14 (z0 + 4) w2.toNatClampNeg (S14.1 (z1 + 4) w2.toNatClampNeg)) fun S18 => lt (w2 + 1) fun v20 => rec v20 S18))))))))
def fL_copy (F G : Nat) (S : St) (o : Nat) (o2 : Nat) : Option (St) :=
  gd (isLa o) (gd (isLa o2) (lt (sI S o 1 (S.1 o2 1)) fun S1 => fx2 (b_L_copy_10 F G o o2) F (0 : Int32) S1))
set_option maxRecDepth 100000 in
set_option maxHeartbeats 4000000 in
theorem T_L_copy_10 {X : Nat × (Nat → Int32)} {D F G : Nat} (hD : 0 ≤ D) {z0 : Nat} {z1 : Nat} (hz0 : isLa z0 = true) (hz1 : isLa z1 = true) : ∀ (f : Nat) (w2 : Int32) (S : St) (res : St), fx2 (b_L_copy_10 F G z0 z1 ) f w2 S = some res → Ek X (D) mL_copy 10 [(0, .ref z0), (1, .ref z1), (2, .int w2)] [] S none res := by
  refine fx2_ind ?_
  intro rec ih w2 S res h
  unfold b_L_copy_10 at h
  refine x_iload_n d_L_copy_10 rfl 2 rfl ?_
  refine x_bipush d_L_copy_11 bp_10 ?_
  refine x_icmp_ge (tgt := 70) d_L_copy_13 rfl (fun c3 => ?_) (fun c3 => ?_)
  · replace h := ite_t c3 h
    obtain rfl := Option.some.inj h
    exact x_ret (r := none) d_L_copy_70 rfl
  · replace h := ite_f c3 h
    refine x_aload_n d_L_copy_16 rfl 0 rfl ?_
    refine y_getR d_L_copy_17 fl_5_9 rfl (ksLa hz0) (rrLa_2 hz0) ?_
    refine x_iload_n d_L_copy_20 rfl 2 rfl ?_
    refine x_aload_n d_L_copy_21 rfl 1 rfl ?_
    refine y_getR d_L_copy_22 fl_5_9 rfl (ksLa hz1) (rrLa_2 hz1) ?_
    refine x_iload_n d_L_copy_25 rfl 2 rfl ?_
    obtain ⟨g4, h⟩ := gd_inv h
    refine y_iald d_L_copy_26 (ksLa_1 hz1) g4 ?_
    obtain ⟨g5, h⟩ := gd_inv h
    obtain ⟨S6, e7, h⟩ := lt_inv h
    refine y_iast e7 d_L_copy_27 (ksLa_1 hz0) g5 ?_
    refine x_aload_n d_L_copy_28 rfl 0 rfl ?_
    refine y_getR d_L_copy_29 fl_5_15 rfl (ksLa hz0) (rrLa_3 hz0) ?_
    refine x_iload_n d_L_copy_32 rfl 2 rfl ?_
    refine x_aload_n d_L_copy_33 rfl 1 rfl ?_
    refine y_getR d_L_copy_34 fl_5_15 rfl (ksLa hz1) (rrLa_3 hz1) ?_
    refine x_iload_n d_L_copy_37 rfl 2 rfl ?_
    obtain ⟨g8, h⟩ := gd_inv h
    refine y_iald d_L_copy_38 (ksLa_2 hz1) g8 ?_
    obtain ⟨g9, h⟩ := gd_inv h
    obtain ⟨S10, e11, h⟩ := lt_inv h
    refine y_iast e11 d_L_copy_39 (ksLa_2 hz0) g9 ?_
    refine x_aload_n d_L_copy_40 rfl 0 rfl ?_
    refine y_getR d_L_copy_41 fl_5_18 rfl (ksLa hz0) (rrLa_4 hz0) ?_
    refine x_iload_n d_L_copy_44 rfl 2 rfl ?_
    refine x_aload_n d_L_copy_45 rfl 1 rfl ?_
    refine y_getR d_L_copy_46 fl_5_18 rfl (ksLa hz1) (rrLa_4 hz1) ?_
    refine x_iload_n d_L_copy_49 rfl 2 rfl ?_
    obtain ⟨g12, h⟩ := gd_inv h
    refine y_iald d_L_copy_50 (ksLa_3 hz1) g12 ?_
    obtain ⟨g13, h⟩ := gd_inv h
    obtain ⟨S14, e15, h⟩ := lt_inv h
    refine y_iast e15 d_L_copy_51 (ksLa_3 hz0) g13 ?_
    refine x_aload_n d_L_copy_52 rfl 0 rfl ?_
    refine y_getR d_L_copy_53 fl_5_21 rfl (ksLa hz0) (rrLa_5 hz0) ?_
    refine x_iload_n d_L_copy_56 rfl 2 rfl ?_
    refine x_aload_n d_L_copy_57 rfl 1 rfl ?_
    refine y_getR d_L_copy_58 fl_5_21 rfl (ksLa hz1) (rrLa_5 hz1) ?_
    refine x_iload_n d_L_copy_61 rfl 2 rfl ?_
    obtain ⟨g16, h⟩ := gd_inv h
    refine y_iald d_L_copy_62 (ksLa_4 hz1) g16 ?_
    obtain ⟨g17, h⟩ := gd_inv h
    obtain ⟨S18, e19, h⟩ := lt_inv h
    refine y_iast e19 d_L_copy_63 (ksLa_4 hz0) g17 ?_
    obtain ⟨v20, e21, h⟩ := lt_inv h
    refine y_iinc (L1 := [(0, .ref z0), (1, .ref z1), (2, .int v20)]) e21 ic_1 d_L_copy_64 2 rfl (Nat.le_of_ble_eq_true rfl) rfl rfl ?_
    refine x_goto (tgt := 10) d_L_copy_67 rfl ?_
    exact ih v20 S18 _ h
set_option maxRecDepth 100000 in
set_option maxHeartbeats 4000000 in
theorem c_L_copy {X : Nat × (Nat → Int32)} {D F G : Nat} (hD : 0 ≤ D) {S : St} {o : Nat} {o2 : Nat} {res : St} (h : fL_copy F G S o o2 = some res) : Ek X (D) mL_copy 0 [(0, .ref o), (1, .ref o2)] [] S none res := by
  unfold fL_copy at h
  obtain ⟨gg0, h⟩ := gd_inv h
  obtain ⟨gg1, h⟩ := gd_inv h
  refine x_aload_n d_L_copy_0 rfl 0 rfl ?_
  refine x_aload_n d_L_copy_1 rfl 1 rfl ?_
  refine y_getI d_L_copy_2 fl_5_24 rfl (ksLa gg1) ?_
  obtain ⟨S1, e2, h⟩ := lt_inv h
  refine y_putI e2 d_L_copy_5 fl_5_24 rfl rfl (ksLa gg0) rfl rfl ?_
  refine x_iconst d_L_copy_8 ic_0 ?_
  refine x_istore_n (L1 := [(0, .ref o), (1, .ref o2), (2, .int (0 : Int32))]) d_L_copy_9 rfl (Nat.le_of_ble_eq_true rfl) rfl rfl ?_
  refine T_L_copy_10 (by omega) gg0 gg1  F (0 : Int32) S1 _ h
/-! NinetyPlayers.image -/
def fN_image (F G : Nat) (S : St) (p1 : Int32) : Option (Int32 × St) :=
  if p1 < 0 then some ((-1 : Int32), S) else if p1 < (Int32.ofNat 3) then gd (inB p1 3) (bd (fL_copy F G S (36 + 5 * p1.toNatClampNeg) 30) fun S5 => gd (inB p1 3) (lt (sI S5 (36 + 5 * p1.toNatClampNeg) 0 (1 : Int32)) fun S7 => bd (fN_givenSet F G S7) fun v10 => bd (fJ_bitCount F G S7 v10) fun v12 => some (v12, S7))) else some ((-1 : Int32), S)
set_option maxRecDepth 100000 in
set_option maxHeartbeats 4000000 in
theorem c_N_image {X : Nat × (Nat → Int32)} {D F G : Nat} (hD : 2 ≤ D) {S : St} {p1 : Int32} {res : Int32 × St} (h : fN_image F G S p1 = some res) : Ek X (D) mN_image 0 [(0, .ref 0), (1, .int p1)] [] S (some (.int res.1)) res.2 := by
  obtain ⟨D, rfl⟩ : ∃ E, D = E + 1 := ⟨D - 1, by omega⟩
  unfold fN_image at h
  refine x_iload_n d_N_image_0 rfl 1 rfl ?_
  refine x_if_lt (tgt := 13) d_N_image_1 rfl (fun c1 => ?_) (fun c1 => ?_)
  · replace h := ite_t c1 h
    refine x_iconst d_N_image_13 ic_m1 ?_
    obtain rfl := Option.some.inj h
    exact x_ret (r := some (.int (-1 : Int32))) d_N_image_14 ⟨_, rfl, rfl⟩
  · replace h := ite_f c1 h
    refine x_iload_n d_N_image_4 rfl 1 rfl ?_
    refine x_aload_n d_N_image_5 rfl 0 rfl ?_
    refine y_getR d_N_image_6 fl_0_35 rfl kd_0 rr_0_4 ?_
    refine x_alen5 d_N_image_9 kd_35 ?_
    refine x_icmp_lt (tgt := 15) d_N_image_10 rfl (fun c2 => ?_) (fun c2 => ?_)
    · replace h := ite_t c2 h
      refine x_aload_n d_N_image_15 rfl 0 rfl ?_
      refine y_getR d_N_image_16 fl_0_35 rfl kd_0 rr_0_4 ?_
      refine x_iload_n d_N_image_19 rfl 1 rfl ?_
      obtain ⟨g3, h⟩ := gd_inv h
      refine y_aald d_N_image_20 g3 ?_
      refine x_aload_n d_N_image_21 rfl 0 rfl ?_
      refine y_getR d_N_image_22 fl_0_31 rfl kd_0 rr_0_3 ?_
      obtain ⟨S5, q4, h⟩ := bd_inv h
      refine y_V1v (S1 := S5) d_N_image_25 ml_0_341 (ksLa (isLa_box (inB_lt g3))) rfl (Nat.le_of_ble_eq_true rfl) (Nat.le_of_ble_eq_true rfl) (c_L_copy (by omega) q4) ?_
      refine x_aload_n d_N_image_28 rfl 0 rfl ?_
      refine y_getR d_N_image_29 fl_0_35 rfl kd_0 rr_0_4 ?_
      refine x_iload_n d_N_image_32 rfl 1 rfl ?_
      obtain ⟨g6, h⟩ := gd_inv h
      refine y_aald d_N_image_33 g6 ?_
      refine x_iconst d_N_image_34 ic_1 ?_
      obtain ⟨S7, e8, h⟩ := lt_inv h
      refine y_putI e8 d_N_image_35 fl_0_118 rfl rfl (ksLa (isLa_box (inB_lt g6))) rfl rfl ?_
      refine x_aload_n d_N_image_38 rfl 0 rfl ?_
      obtain ⟨v10, q9, h⟩ := bd_inv h
      refine y_V0i (v := v10) (S1 := S7) d_N_image_39 ml_0_166 kd_0 rfl (Nat.le_of_ble_eq_true rfl) (Nat.le_of_ble_eq_true rfl) (c_N_givenSet (by omega) q9) ?_
      obtain ⟨v12, q11, h⟩ := bd_inv h
      refine y_S1i (v := v12) (S1 := S7) d_N_image_42 ml_0_211 (Nat.le_of_ble_eq_true rfl) (Nat.le_of_ble_eq_true rfl) (c_J_bitCount (by omega) q11) ?_
      obtain rfl := Option.some.inj h
      exact x_ret (r := some (.int v12)) d_N_image_45 ⟨_, rfl, rfl⟩
    · replace h := ite_f c2 h
      refine x_iconst d_N_image_13 ic_m1 ?_
      obtain rfl := Option.some.inj h
      exact x_ret (r := some (.int (-1 : Int32))) d_N_image_14 ⟨_, rfl, rfl⟩
/-! NinetyPlayersModel.isBox -/
def fM_isBox (F G : Nat) (S : St) (p1 : Int32) : Option (Int32) :=
  if p1 < 0 then some (0 : Int32) else if (3 : Int32) ≤ p1 then some (0 : Int32) else some (1 : Int32)
set_option maxRecDepth 100000 in
set_option maxHeartbeats 4000000 in
theorem c_M_isBox {X : Nat × (Nat → Int32)} {D F G : Nat} (hD : 0 ≤ D) {S : St} {p1 : Int32} {res : Int32} (h : fM_isBox F G S p1 = some res) : Ek X (D) mM_isBox 0 [(0, .int p1)] [] S (some (.int res)) S := by
  unfold fM_isBox at h
  refine x_iload_n d_M_isBox_0 rfl 0 rfl ?_
  refine x_if_lt (tgt := 13) d_M_isBox_1 rfl (fun c1 => ?_) (fun c1 => ?_)
  · replace h := ite_t c1 h
    refine x_iconst d_M_isBox_13 ic_0 ?_
    obtain rfl := Option.some.inj h
    exact x_ret (r := some (.int (0 : Int32))) d_M_isBox_14 ⟨_, rfl, rfl⟩
  · replace h := ite_f c1 h
    refine x_iload_n d_M_isBox_4 rfl 0 rfl ?_
    refine x_iconst d_M_isBox_5 ic_3 ?_
    refine x_icmp_ge (tgt := 13) d_M_isBox_6 rfl (fun c2 => ?_) (fun c2 => ?_)
    · replace h := ite_t c2 h
      refine x_iconst d_M_isBox_13 ic_0 ?_
      obtain rfl := Option.some.inj h
      exact x_ret (r := some (.int (0 : Int32))) d_M_isBox_14 ⟨_, rfl, rfl⟩
    · replace h := ite_f c2 h
      refine x_iconst d_M_isBox_9 ic_1 ?_
      refine x_goto (tgt := 14) d_M_isBox_10 rfl ?_
      obtain rfl := Option.some.inj h
      exact x_ret (r := some (.int (1 : Int32))) d_M_isBox_14 ⟨_, rfl, rfl⟩
/-! NinetyPlayersModel.played -/
def b_M_played_4 (F G : Nat) (S : St) (rec : Int32 → Int32 → Option (Int32)) (w1 : Int32) (w2 : Int32) : Option (Int32) :=
  if (S.1 78 48) ≤ w2 then some w1 else gd (inB w2 41) (if (S.1 100 w2.toNatClampNeg) ≤ 0 then bd (fM_truth F G S (0 : Int32)) fun v5 => lt (w1 + v5) fun v6 => lt (w2 + 1) fun v8 => rec v6 v8 else bd (fM_truth F G S (1 : Int32)) fun v11 => lt (w1 + v11) fun v12 => lt (w2 + 1) fun v14 => rec v12 v14)
def fM_played (F G : Nat) (S : St) : Option (Int32) :=
  fx2 (b_M_played_4 F G S) F (0 : Int32) (0 : Int32)
set_option maxRecDepth 100000 in
set_option maxHeartbeats 4000000 in
theorem T_M_played_4 {X : Nat × (Nat → Int32)} {D F G : Nat} (hD : 1 ≤ D + 1) {S : St} : ∀ (f : Nat) (w1 : Int32) (w2 : Int32) (res : Int32), fx2 (b_M_played_4 F G S ) f w1 w2 = some res → Ek X (D + 1) mM_played 4 [(0, .ref 78), (1, .int w1), (2, .int w2)] [] S (some (.int res)) S := by
  refine fx2_ind ?_
  intro rec ih w1 w2 res h
  unfold b_M_played_4 at h
  refine x_iload_n d_M_played_4 rfl 2 rfl ?_
  refine x_aload_n d_M_played_5 rfl 0 rfl ?_
  refine y_getI d_M_played_6 fl_11_322 rfl kd_78 ?_
  refine x_icmp_ge (tgt := 38) d_M_played_9 rfl (fun c1 => ?_) (fun c1 => ?_)
  · replace h := ite_t c1 h
    refine x_iload_n d_M_played_38 rfl 1 rfl ?_
    obtain rfl := Option.some.inj h
    exact x_ret (r := some (.int w1)) d_M_played_39 ⟨_, rfl, rfl⟩
  · replace h := ite_f c1 h
    refine x_iload_n d_M_played_12 rfl 1 rfl ?_
    refine x_aload_n d_M_played_13 rfl 0 rfl ?_
    refine y_getR d_M_played_14 fl_11_93 rfl kd_78 rr_78_58 ?_
    refine x_iload_n d_M_played_17 rfl 2 rfl ?_
    obtain ⟨g2, h⟩ := gd_inv h
    refine y_iald d_M_played_18 kd_100 g2 ?_
    refine x_if_le (tgt := 26) d_M_played_19 rfl (fun c3 => ?_) (fun c3 => ?_)
    · replace h := ite_t c3 h
      refine x_iconst d_M_played_26 ic_0 ?_
      obtain ⟨v5, q4, h⟩ := bd_inv h
      refine y_S1i (v := v5) (S1 := S) d_M_played_27 ml_11_318 (Nat.le_of_ble_eq_true rfl) (Nat.le_of_ble_eq_true rfl) (c_M_truth (by omega) q4) ?_
      refine x_iadd d_M_played_30 ?_
      obtain ⟨v6, e7, h⟩ := lt_inv h
      refine y_istore_n (L1 := [(0, .ref 78), (1, .int v6), (2, .int w2)]) e7 d_M_played_31 rfl (Nat.le_of_ble_eq_true rfl) rfl rfl ?_
      obtain ⟨v8, e9, h⟩ := lt_inv h
      refine y_iinc (L1 := [(0, .ref 78), (1, .int v6), (2, .int v8)]) e9 ic_1 d_M_played_32 2 rfl (Nat.le_of_ble_eq_true rfl) rfl rfl ?_
      refine x_goto (tgt := 4) d_M_played_35 rfl ?_
      exact ih v6 v8 _ h
    · replace h := ite_f c3 h
      refine x_iconst d_M_played_22 ic_1 ?_
      refine x_goto (tgt := 27) d_M_played_23 rfl ?_
      obtain ⟨v11, q10, h⟩ := bd_inv h
      refine y_S1i (v := v11) (S1 := S) d_M_played_27 ml_11_318 (Nat.le_of_ble_eq_true rfl) (Nat.le_of_ble_eq_true rfl) (c_M_truth (by omega) q10) ?_
      refine x_iadd d_M_played_30 ?_
      obtain ⟨v12, e13, h⟩ := lt_inv h
      refine y_istore_n (L1 := [(0, .ref 78), (1, .int v12), (2, .int w2)]) e13 d_M_played_31 rfl (Nat.le_of_ble_eq_true rfl) rfl rfl ?_
      obtain ⟨v14, e15, h⟩ := lt_inv h
      refine y_iinc (L1 := [(0, .ref 78), (1, .int v12), (2, .int v14)]) e15 ic_1 d_M_played_32 2 rfl (Nat.le_of_ble_eq_true rfl) rfl rfl ?_
      refine x_goto (tgt := 4) d_M_played_35 rfl ?_
      exact ih v12 v14 _ h
set_option maxRecDepth 100000 in
set_option maxHeartbeats 4000000 in
theorem c_M_played {X : Nat × (Nat → Int32)} {D F G : Nat} (hD : 1 ≤ D) {S : St} {res : Int32} (h : fM_played F G S  = some res) : Ek X (D) mM_played 0 [(0, .ref 78)] [] S (some (.int res)) S := by
  obtain ⟨D, rfl⟩ : ∃ E, D = E + 1 := ⟨D - 1, by omega⟩
  unfold fM_played at h
  refine x_iconst d_M_played_0 ic_0 ?_
  refine x_istore_n (L1 := [(0, .ref 78), (1, .int (0 : Int32))]) d_M_played_1 rfl (Nat.le_of_ble_eq_true rfl) rfl rfl ?_
  refine x_iconst d_M_played_2 ic_0 ?_
  refine x_istore_n (L1 := [(0, .ref 78), (1, .int (0 : Int32)), (2, .int (0 : Int32))]) d_M_played_3 rfl (Nat.le_of_ble_eq_true rfl) rfl rfl ?_
  refine T_M_played_4 (by omega)   F (0 : Int32) (0 : Int32) _ h
/-! NinetyPlayersModel.image -/
def b_M_image_18 (F G : Nat) (z1 : Int32) (k47 : St → Option (Int32 × St)) (rec : Int32 → St → Option (Int32 × St)) (w2 : Int32) (S : St) : Option (Int32 × St) :=
  if (41 : Int32) ≤ w2 then k47 S else gd (inB w2 41) (gd (inB (((41 : Int32) * z1) + w2) 123) (lt (sI S 116 (((41 : Int32) * z1) + w2).toNatClampNeg (S.1 100 w2.toNatClampNeg)) fun S10 => lt (w2 + 1) fun v12 => rec v12 S10))
def fM_image (F G : Nat) (S : St) (p1 : Int32) : Option (Int32 × St) :=
  bd (fM_isBox F G S p1) fun v2 => if v2 = 0 then some ((-1 : Int32), S) else gd (inB p1 3) (lt (sI S 115 p1.toNatClampNeg (vp_nar .boolean (1 : Int32))) fun S5 => fx2 (b_M_image_18 F G p1 (fun S14 => bd (fM_played F G S14) fun v16 => some (v16, S14))) F (0 : Int32) S5)
set_option maxRecDepth 100000 in
set_option maxHeartbeats 4000000 in
theorem T_M_image_18 {X : Nat × (Nat → Int32)} {D F G : Nat} (hD : 2 ≤ D + 1) {z1 : Int32} {k47 : St → Option (Int32 × St)} (hk47 : ∀ (S1 : St) (res : Int32 × St), k47 S1 = some res → Ek X (D + 1) mM_image 47 [(0, .ref 78)] [] S1 (some (.int res.1)) res.2) : ∀ (f : Nat) (w2 : Int32) (S : St) (res : Int32 × St), fx2 (b_M_image_18 F G z1 k47 ) f w2 S = some res → Ek X (D + 1) mM_image 18 [(0, .ref 78), (1, .int z1), (2, .int w2)] [] S (some (.int res.1)) res.2 := by
  refine fx2_ind ?_
  intro rec ih w2 S res h
  unfold b_M_image_18 at h
  refine x_iload_n d_M_image_18 rfl 2 rfl ?_
  refine x_bipush d_M_image_19 bp_41 ?_
  refine x_icmp_ge (tgt := 47) d_M_image_21 rfl (fun c7 => ?_) (fun c7 => ?_)
  · replace h := ite_t c7 h
    refine y_pick (L1 := [(0, .ref 78)]) [0] rfl ?_
    exact hk47 S _ h
  · replace h := ite_f c7 h
    refine x_aload_n d_M_image_24 rfl 0 rfl ?_
    refine y_getR d_M_image_25 fl_11_142 rfl kd_78 rr_78_79 ?_
    refine x_bipush d_M_image_28 bp_41 ?_
    refine x_iload_n d_M_image_30 rfl 1 rfl ?_
    refine x_imul d_M_image_31 ?_
    refine x_iload_n d_M_image_32 rfl 2 rfl ?_
    refine x_iadd d_M_image_33 ?_
    refine x_aload_n d_M_image_34 rfl 0 rfl ?_
    refine y_getR d_M_image_35 fl_11_93 rfl kd_78 rr_78_58 ?_
    refine x_iload_n d_M_image_38 rfl 2 rfl ?_
    obtain ⟨g8, h⟩ := gd_inv h
    refine y_iald d_M_image_39 kd_100 g8 ?_
    obtain ⟨g9, h⟩ := gd_inv h
    obtain ⟨S10, e11, h⟩ := lt_inv h
    refine y_iast e11 d_M_image_40 kd_116 g9 ?_
    obtain ⟨v12, e13, h⟩ := lt_inv h
    refine y_iinc (L1 := [(0, .ref 78), (1, .int z1), (2, .int v12)]) e13 ic_1 d_M_image_41 2 rfl (Nat.le_of_ble_eq_true rfl) rfl rfl ?_
    refine x_goto (tgt := 18) d_M_image_44 rfl ?_
    exact ih v12 S10 _ h
set_option maxRecDepth 100000 in
set_option maxHeartbeats 4000000 in
theorem c_M_image {X : Nat × (Nat → Int32)} {D F G : Nat} (hD : 2 ≤ D) {S : St} {p1 : Int32} {res : Int32 × St} (h : fM_image F G S p1 = some res) : Ek X (D) mM_image 0 [(0, .ref 78), (1, .int p1)] [] S (some (.int res.1)) res.2 := by
  obtain ⟨D, rfl⟩ : ∃ E, D = E + 1 := ⟨D - 1, by omega⟩
  unfold fM_image at h
  refine x_iload_n d_M_image_0 rfl 1 rfl ?_
  obtain ⟨v2, q1, h⟩ := bd_inv h
  refine y_S1i (v := v2) (S1 := S) d_M_image_1 ml_11_553 (Nat.le_of_ble_eq_true rfl) (Nat.le_of_ble_eq_true rfl) (c_M_isBox (by omega) q1) ?_
  refine x_if_ne (tgt := 9) d_M_image_4 rfl (fun c3 => ?_) (fun c3 => ?_)
  · replace h := ite_f c3 h
    refine x_aload_n d_M_image_9 rfl 0 rfl ?_
    refine y_getR d_M_image_10 fl_11_139 rfl kd_78 rr_78_78 ?_
    refine x_iload_n d_M_image_13 rfl 1 rfl ?_
    refine x_iconst d_M_image_14 ic_1 ?_
    obtain ⟨g4, h⟩ := gd_inv h
    obtain ⟨S5, e6, h⟩ := lt_inv h
    refine y_zast e6 d_M_image_15 kd_115 g4 ?_
    refine x_iconst d_M_image_16 ic_0 ?_
    refine x_istore_n (L1 := [(0, .ref 78), (1, .int p1), (2, .int (0 : Int32))]) d_M_image_17 rfl (Nat.le_of_ble_eq_true rfl) rfl rfl ?_
    refine T_M_image_18 (by omega)  ?_ F (0 : Int32) S5 _ h
    · intro S14 res h
      refine x_aload_n d_M_image_47 rfl 0 rfl ?_
      obtain ⟨v16, q15, h⟩ := bd_inv h
      refine y_V0i (v := v16) (S1 := S14) d_M_image_48 ml_11_556 kd_78 rfl (Nat.le_of_ble_eq_true rfl) (Nat.le_of_ble_eq_true rfl) (c_M_played (by omega) q15) ?_
      obtain rfl := Option.some.inj h
      exact x_ret (r := some (.int v16)) d_M_image_51 ⟨_, rfl, rfl⟩
  · replace h := ite_t c3 h
    refine x_iconst d_M_image_7 ic_m1 ?_
    obtain rfl := Option.some.inj h
    exact x_ret (r := some (.int (-1 : Int32))) d_M_image_8 ⟨_, rfl, rfl⟩
/-! NinetyPlayers.isKept -/
def fN_isKept (F G : Nat) (S : St) (p1 : Int32) : Option (Int32) :=
  if p1 < 0 then some (0 : Int32) else if (Int32.ofNat 3) ≤ p1 then some (0 : Int32) else gd (inB p1 3) (if (S.1 (36 + 5 * p1.toNatClampNeg) 0) = 0 then some (0 : Int32) else some (1 : Int32))
set_option maxRecDepth 100000 in
set_option maxHeartbeats 4000000 in
theorem c_N_isKept {X : Nat × (Nat → Int32)} {D F G : Nat} (hD : 0 ≤ D) {S : St} {p1 : Int32} {res : Int32} (h : fN_isKept F G S p1 = some res) : Ek X (D) mN_isKept 0 [(0, .ref 0), (1, .int p1)] [] S (some (.int res)) S := by
  unfold fN_isKept at h
  refine x_iload_n d_N_isKept_0 rfl 1 rfl ?_
  refine x_if_lt (tgt := 29) d_N_isKept_1 rfl (fun c1 => ?_) (fun c1 => ?_)
  · replace h := ite_t c1 h
    refine x_iconst d_N_isKept_29 ic_0 ?_
    obtain rfl := Option.some.inj h
    exact x_ret (r := some (.int (0 : Int32))) d_N_isKept_30 ⟨_, rfl, rfl⟩
  · replace h := ite_f c1 h
    refine x_iload_n d_N_isKept_4 rfl 1 rfl ?_
    refine x_aload_n d_N_isKept_5 rfl 0 rfl ?_
    refine y_getR d_N_isKept_6 fl_0_35 rfl kd_0 rr_0_4 ?_
    refine x_alen5 d_N_isKept_9 kd_35 ?_
    refine x_icmp_ge (tgt := 29) d_N_isKept_10 rfl (fun c2 => ?_) (fun c2 => ?_)
    · replace h := ite_t c2 h
      refine x_iconst d_N_isKept_29 ic_0 ?_
      obtain rfl := Option.some.inj h
      exact x_ret (r := some (.int (0 : Int32))) d_N_isKept_30 ⟨_, rfl, rfl⟩
    · replace h := ite_f c2 h
      refine x_aload_n d_N_isKept_13 rfl 0 rfl ?_
      refine y_getR d_N_isKept_14 fl_0_35 rfl kd_0 rr_0_4 ?_
      refine x_iload_n d_N_isKept_17 rfl 1 rfl ?_
      obtain ⟨g3, h⟩ := gd_inv h
      refine y_aald d_N_isKept_18 g3 ?_
      refine y_getI d_N_isKept_19 fl_0_118 rfl (ksLa (isLa_box (inB_lt g3))) ?_
      refine x_if_eq (tgt := 29) d_N_isKept_22 rfl (fun c4 => ?_) (fun c4 => ?_)
      · replace h := ite_t c4 h
        refine x_iconst d_N_isKept_29 ic_0 ?_
        obtain rfl := Option.some.inj h
        exact x_ret (r := some (.int (0 : Int32))) d_N_isKept_30 ⟨_, rfl, rfl⟩
      · replace h := ite_f c4 h
        refine x_iconst d_N_isKept_25 ic_1 ?_
        refine x_goto (tgt := 30) d_N_isKept_26 rfl ?_
        obtain rfl := Option.some.inj h
        exact x_ret (r := some (.int (1 : Int32))) d_N_isKept_30 ⟨_, rfl, rfl⟩
/-! NinetyPlayers.back -/
def fN_back (F G : Nat) (S : St) (p1 : Int32) : Option (Int32 × St) :=
  bd (fN_isKept F G S p1) fun v2 => if v2 = 0 then some ((-1 : Int32), S) else gd (inB p1 3) (bd (fL_copy F G S 30 (36 + 5 * p1.toNatClampNeg)) fun S6 => bd (fC_forget F G S6 ) fun S8 => bd (fN_givenSet F G S8) fun v10 => bd (fJ_bitCount F G S8 v10) fun v12 => some (v12, S8))
set_option maxRecDepth 100000 in
set_option maxHeartbeats 4000000 in
theorem c_N_back {X : Nat × (Nat → Int32)} {D F G : Nat} (hD : 2 ≤ D) {S : St} {p1 : Int32} {res : Int32 × St} (h : fN_back F G S p1 = some res) : Ek X (D) mN_back 0 [(0, .ref 0), (1, .int p1)] [] S (some (.int res.1)) res.2 := by
  obtain ⟨D, rfl⟩ : ∃ E, D = E + 1 := ⟨D - 1, by omega⟩
  unfold fN_back at h
  refine x_aload_n d_N_back_0 rfl 0 rfl ?_
  refine x_iload_n d_N_back_1 rfl 1 rfl ?_
  obtain ⟨v2, q1, h⟩ := bd_inv h
  refine y_V1i (v := v2) (S1 := S) d_N_back_2 ml_0_345 kd_0 rfl (Nat.le_of_ble_eq_true rfl) (Nat.le_of_ble_eq_true rfl) (c_N_isKept (by omega) q1) ?_
  refine x_if_ne (tgt := 10) d_N_back_5 rfl (fun c3 => ?_) (fun c3 => ?_)
  · replace h := ite_f c3 h
    refine x_aload_n d_N_back_10 rfl 0 rfl ?_
    refine y_getR d_N_back_11 fl_0_31 rfl kd_0 rr_0_3 ?_
    refine x_aload_n d_N_back_14 rfl 0 rfl ?_
    refine y_getR d_N_back_15 fl_0_35 rfl kd_0 rr_0_4 ?_
    refine x_iload_n d_N_back_18 rfl 1 rfl ?_
    obtain ⟨g4, h⟩ := gd_inv h
    refine y_aald d_N_back_19 g4 ?_
    obtain ⟨S6, q5, h⟩ := bd_inv h
    refine y_V1v (S1 := S6) d_N_back_20 ml_0_341 kd_30 rfl (Nat.le_of_ble_eq_true rfl) (Nat.le_of_ble_eq_true rfl) (c_L_copy (by omega) q5) ?_
    refine x_aload_n d_N_back_23 rfl 0 rfl ?_
    refine y_getR d_N_back_24 fl_0_42 rfl kd_0 rr_0_5 ?_
    obtain ⟨S8, q7, h⟩ := bd_inv h
    refine y_V0v (S1 := S8) d_N_back_27 ml_0_111 kd_51 rfl (Nat.le_of_ble_eq_true rfl) (Nat.le_of_ble_eq_true rfl) (c_C_forget (by omega) q7) ?_
    refine x_aload_n d_N_back_30 rfl 0 rfl ?_
    obtain ⟨v10, q9, h⟩ := bd_inv h
    refine y_V0i (v := v10) (S1 := S8) d_N_back_31 ml_0_166 kd_0 rfl (Nat.le_of_ble_eq_true rfl) (Nat.le_of_ble_eq_true rfl) (c_N_givenSet (by omega) q9) ?_
    obtain ⟨v12, q11, h⟩ := bd_inv h
    refine y_S1i (v := v12) (S1 := S8) d_N_back_34 ml_0_211 (Nat.le_of_ble_eq_true rfl) (Nat.le_of_ble_eq_true rfl) (c_J_bitCount (by omega) q11) ?_
    obtain rfl := Option.some.inj h
    exact x_ret (r := some (.int v12)) d_N_back_37 ⟨_, rfl, rfl⟩
  · replace h := ite_t c3 h
    refine x_iconst d_N_back_8 ic_m1 ?_
    obtain rfl := Option.some.inj h
    exact x_ret (r := some (.int (-1 : Int32))) d_N_back_9 ⟨_, rfl, rfl⟩
/-! NinetyPlayersModel.back -/
def b_M_back_20 (F G : Nat) (z1 : Int32) (k49 : St → Option (Int32 × St)) (rec : Int32 → St → Option (Int32 × St)) (w2 : Int32) (S : St) : Option (Int32 × St) :=
  if (41 : Int32) ≤ w2 then k49 S else gd (inB (((41 : Int32) * z1) + w2) 123) (gd (inB w2 41) (lt (sI S 100 w2.toNatClampNeg (S.1 116 (((41 : Int32) * z1) + w2).toNatClampNeg)) fun S9 => lt (w2 + 1) fun v11 => rec v11 S9))
def fM_back (F G : Nat) (S : St) (p1 : Int32) : Option (Int32 × St) :=
  bd (fM_isBox F G S p1) fun v2 => if v2 = 0 then some ((-1 : Int32), S) else gd (inB p1 3) (if (S.1 115 p1.toNatClampNeg) = 0 then some ((-1 : Int32), S) else fx2 (b_M_back_20 F G p1 (fun S13 => lt (sI S13 78 63 (0 : Int32)) fun S14 => lt (sI S14 78 64 (0 : Int32)) fun S16 => bd (fM_played F G S16) fun v19 => some (v19, S16))) F (0 : Int32) S)
set_option maxRecDepth 100000 in
set_option maxHeartbeats 4000000 in
theorem T_M_back_20 {X : Nat × (Nat → Int32)} {D F G : Nat} (hD : 2 ≤ D + 1) {z1 : Int32} {k49 : St → Option (Int32 × St)} (hk49 : ∀ (S1 : St) (res : Int32 × St), k49 S1 = some res → Ek X (D + 1) mM_back 49 [(0, .ref 78)] [] S1 (some (.int res.1)) res.2) : ∀ (f : Nat) (w2 : Int32) (S : St) (res : Int32 × St), fx2 (b_M_back_20 F G z1 k49 ) f w2 S = some res → Ek X (D + 1) mM_back 20 [(0, .ref 78), (1, .int z1), (2, .int w2)] [] S (some (.int res.1)) res.2 := by
  refine fx2_ind ?_
  intro rec ih w2 S res h
  unfold b_M_back_20 at h
  refine x_iload_n d_M_back_20 rfl 2 rfl ?_
  refine x_bipush d_M_back_21 bp_41 ?_
  refine x_icmp_ge (tgt := 49) d_M_back_23 rfl (fun c6 => ?_) (fun c6 => ?_)
  · replace h := ite_t c6 h
    refine y_pick (L1 := [(0, .ref 78)]) [0] rfl ?_
    exact hk49 S _ h
  · replace h := ite_f c6 h
    refine x_aload_n d_M_back_26 rfl 0 rfl ?_
    refine y_getR d_M_back_27 fl_11_93 rfl kd_78 rr_78_58 ?_
    refine x_iload_n d_M_back_30 rfl 2 rfl ?_
    refine x_aload_n d_M_back_31 rfl 0 rfl ?_
    refine y_getR d_M_back_32 fl_11_142 rfl kd_78 rr_78_79 ?_
    refine x_bipush d_M_back_35 bp_41 ?_
    refine x_iload_n d_M_back_37 rfl 1 rfl ?_
    refine x_imul d_M_back_38 ?_
    refine x_iload_n d_M_back_39 rfl 2 rfl ?_
    refine x_iadd d_M_back_40 ?_
    obtain ⟨g7, h⟩ := gd_inv h
    refine y_iald d_M_back_41 kd_116 g7 ?_
    obtain ⟨g8, h⟩ := gd_inv h
    obtain ⟨S9, e10, h⟩ := lt_inv h
    refine y_iast e10 d_M_back_42 kd_100 g8 ?_
    obtain ⟨v11, e12, h⟩ := lt_inv h
    refine y_iinc (L1 := [(0, .ref 78), (1, .int z1), (2, .int v11)]) e12 ic_1 d_M_back_43 2 rfl (Nat.le_of_ble_eq_true rfl) rfl rfl ?_
    refine x_goto (tgt := 20) d_M_back_46 rfl ?_
    exact ih v11 S9 _ h
set_option maxRecDepth 100000 in
set_option maxHeartbeats 4000000 in
theorem c_M_back {X : Nat × (Nat → Int32)} {D F G : Nat} (hD : 2 ≤ D) {S : St} {p1 : Int32} {res : Int32 × St} (h : fM_back F G S p1 = some res) : Ek X (D) mM_back 0 [(0, .ref 78), (1, .int p1)] [] S (some (.int res.1)) res.2 := by
  obtain ⟨D, rfl⟩ : ∃ E, D = E + 1 := ⟨D - 1, by omega⟩
  unfold fM_back at h
  refine x_iload_n d_M_back_0 rfl 1 rfl ?_
  obtain ⟨v2, q1, h⟩ := bd_inv h
  refine y_S1i (v := v2) (S1 := S) d_M_back_1 ml_11_553 (Nat.le_of_ble_eq_true rfl) (Nat.le_of_ble_eq_true rfl) (c_M_isBox (by omega) q1) ?_
  refine x_if_eq (tgt := 16) d_M_back_4 rfl (fun c3 => ?_) (fun c3 => ?_)
  · replace h := ite_t c3 h
    refine x_iconst d_M_back_16 ic_m1 ?_
    obtain rfl := Option.some.inj h
    exact x_ret (r := some (.int (-1 : Int32))) d_M_back_17 ⟨_, rfl, rfl⟩
  · replace h := ite_f c3 h
    refine x_aload_n d_M_back_7 rfl 0 rfl ?_
    refine y_getR d_M_back_8 fl_11_139 rfl kd_78 rr_78_78 ?_
    refine x_iload_n d_M_back_11 rfl 1 rfl ?_
    obtain ⟨g4, h⟩ := gd_inv h
    refine y_zald d_M_back_12 kd_115 g4 ?_
    refine x_if_ne (tgt := 18) d_M_back_13 rfl (fun c5 => ?_) (fun c5 => ?_)
    · replace h := ite_f c5 h
      refine x_iconst d_M_back_18 ic_0 ?_
      refine x_istore_n (L1 := [(0, .ref 78), (1, .int p1), (2, .int (0 : Int32))]) d_M_back_19 rfl (Nat.le_of_ble_eq_true rfl) rfl rfl ?_
      refine T_M_back_20 (by omega)  ?_ F (0 : Int32) S _ h
      · intro S13 res h
        refine x_aload_n d_M_back_49 rfl 0 rfl ?_
        refine x_iconst d_M_back_50 ic_0 ?_
        obtain ⟨S14, e15, h⟩ := lt_inv h
        refine y_putI e15 d_M_back_51 fl_11_417 rfl rfl kd_78 rfl rfl ?_
        refine x_aload_n d_M_back_54 rfl 0 rfl ?_
        refine x_iconst d_M_back_55 ic_0 ?_
        obtain ⟨S16, e17, h⟩ := lt_inv h
        refine y_putI e17 d_M_back_56 fl_11_420 rfl rfl kd_78 rfl rfl ?_
        refine x_aload_n d_M_back_59 rfl 0 rfl ?_
        obtain ⟨v19, q18, h⟩ := bd_inv h
        refine y_V0i (v := v19) (S1 := S16) d_M_back_60 ml_11_556 kd_78 rfl (Nat.le_of_ble_eq_true rfl) (Nat.le_of_ble_eq_true rfl) (c_M_played (by omega) q18) ?_
        obtain rfl := Option.some.inj h
        exact x_ret (r := some (.int v19)) d_M_back_63 ⟨_, rfl, rfl⟩
    · replace h := ite_t c5 h
      refine x_iconst d_M_back_16 ic_m1 ?_
      obtain rfl := Option.some.inj h
      exact x_ret (r := some (.int (-1 : Int32))) d_M_back_17 ⟨_, rfl, rfl⟩
/-! NinetyPlayers$Laying.differsAt -/
def fL_differsAt (F G : Nat) (S : St) (o : Nat) (p1 : Int32) (o3 : Nat) : Option (Int32) :=
  gd (isLa o) (gd (isLa o3) (gd (inB p1 10) (gd (inB p1 10) (if (S.1 (o + 1) p1.toNatClampNeg) = (S.1 (o3 + 1) p1.toNatClampNeg) then gd (inB p1 10) (gd (inB p1 10) (if (S.1 (o + 2) p1.toNatClampNeg) = (S.1 (o3 + 2) p1.toNatClampNeg) then gd (inB p1 10) (gd (inB p1 10) (if (S.1 (o + 3) p1.toNatClampNeg) = (S.1 (o3 + 3) p1.toNatClampNeg) then gd (inB p1 10) (gd (inB p1 10) (if (S.1 (o + 4) p1.toNatClampNeg) = (S.1 (o3 + 4) p1.toNatClampNeg) then some (0 : Int32) else some (1 : Int32))) else some (1 : Int32))) else some (1 : Int32))) else some (1 : Int32)))))
set_option maxRecDepth 100000 in
set_option maxHeartbeats 4000000 in
theorem c_L_differsAt {X : Nat × (Nat → Int32)} {D F G : Nat} (hD : 0 ≤ D) {S : St} {o : Nat} {p1 : Int32} {o3 : Nat} {res : Int32} (h : fL_differsAt F G S o p1 o3 = some res) : Ek X (D) mL_differsAt 0 [(0, .ref o), (1, .int p1), (2, .ref o3)] [] S (some (.int res)) S := by
  unfold fL_differsAt at h
  obtain ⟨gg0, h⟩ := gd_inv h
  obtain ⟨gg1, h⟩ := gd_inv h
  refine x_aload_n d_L_differsAt_0 rfl 0 rfl ?_
  refine y_getR d_L_differsAt_1 fl_5_9 rfl (ksLa gg0) (rrLa_2 gg0) ?_
  refine x_iload_n d_L_differsAt_4 rfl 1 rfl ?_
  obtain ⟨g1, h⟩ := gd_inv h
  refine y_iald d_L_differsAt_5 (ksLa_1 gg0) g1 ?_
  refine x_aload_n d_L_differsAt_6 rfl 2 rfl ?_
  refine y_getR d_L_differsAt_7 fl_5_9 rfl (ksLa gg1) (rrLa_2 gg1) ?_
  refine x_iload_n d_L_differsAt_10 rfl 1 rfl ?_
  obtain ⟨g2, h⟩ := gd_inv h
  refine y_iald d_L_differsAt_11 (ksLa_1 gg1) g2 ?_
  refine x_icmp_ne (tgt := 60) d_L_differsAt_12 rfl (fun c3 => ?_) (fun c3 => ?_)
  · replace h := ite_f c3 h
    refine x_iconst d_L_differsAt_60 ic_1 ?_
    refine x_goto (tgt := 65) d_L_differsAt_61 rfl ?_
    obtain rfl := Option.some.inj h
    exact x_ret (r := some (.int (1 : Int32))) d_L_differsAt_65 ⟨_, rfl, rfl⟩
  · replace h := ite_t c3 h
    refine x_aload_n d_L_differsAt_15 rfl 0 rfl ?_
    refine y_getR d_L_differsAt_16 fl_5_15 rfl (ksLa gg0) (rrLa_3 gg0) ?_
    refine x_iload_n d_L_differsAt_19 rfl 1 rfl ?_
    obtain ⟨g4, h⟩ := gd_inv h
    refine y_iald d_L_differsAt_20 (ksLa_2 gg0) g4 ?_
    refine x_aload_n d_L_differsAt_21 rfl 2 rfl ?_
    refine y_getR d_L_differsAt_22 fl_5_15 rfl (ksLa gg1) (rrLa_3 gg1) ?_
    refine x_iload_n d_L_differsAt_25 rfl 1 rfl ?_
    obtain ⟨g5, h⟩ := gd_inv h
    refine y_iald d_L_differsAt_26 (ksLa_2 gg1) g5 ?_
    refine x_icmp_ne (tgt := 60) d_L_differsAt_27 rfl (fun c6 => ?_) (fun c6 => ?_)
    · replace h := ite_f c6 h
      refine x_iconst d_L_differsAt_60 ic_1 ?_
      refine x_goto (tgt := 65) d_L_differsAt_61 rfl ?_
      obtain rfl := Option.some.inj h
      exact x_ret (r := some (.int (1 : Int32))) d_L_differsAt_65 ⟨_, rfl, rfl⟩
    · replace h := ite_t c6 h
      refine x_aload_n d_L_differsAt_30 rfl 0 rfl ?_
      refine y_getR d_L_differsAt_31 fl_5_18 rfl (ksLa gg0) (rrLa_4 gg0) ?_
      refine x_iload_n d_L_differsAt_34 rfl 1 rfl ?_
      obtain ⟨g7, h⟩ := gd_inv h
      refine y_iald d_L_differsAt_35 (ksLa_3 gg0) g7 ?_
      refine x_aload_n d_L_differsAt_36 rfl 2 rfl ?_
      refine y_getR d_L_differsAt_37 fl_5_18 rfl (ksLa gg1) (rrLa_4 gg1) ?_
      refine x_iload_n d_L_differsAt_40 rfl 1 rfl ?_
      obtain ⟨g8, h⟩ := gd_inv h
      refine y_iald d_L_differsAt_41 (ksLa_3 gg1) g8 ?_
      refine x_icmp_ne (tgt := 60) d_L_differsAt_42 rfl (fun c9 => ?_) (fun c9 => ?_)
      · replace h := ite_f c9 h
        refine x_iconst d_L_differsAt_60 ic_1 ?_
        refine x_goto (tgt := 65) d_L_differsAt_61 rfl ?_
        obtain rfl := Option.some.inj h
        exact x_ret (r := some (.int (1 : Int32))) d_L_differsAt_65 ⟨_, rfl, rfl⟩
      · replace h := ite_t c9 h
        refine x_aload_n d_L_differsAt_45 rfl 0 rfl ?_
        refine y_getR d_L_differsAt_46 fl_5_21 rfl (ksLa gg0) (rrLa_5 gg0) ?_
        refine x_iload_n d_L_differsAt_49 rfl 1 rfl ?_
        obtain ⟨g10, h⟩ := gd_inv h
        refine y_iald d_L_differsAt_50 (ksLa_4 gg0) g10 ?_
        refine x_aload_n d_L_differsAt_51 rfl 2 rfl ?_
        refine y_getR d_L_differsAt_52 fl_5_21 rfl (ksLa gg1) (rrLa_5 gg1) ?_
        refine x_iload_n d_L_differsAt_55 rfl 1 rfl ?_
        obtain ⟨g11, h⟩ := gd_inv h
        refine y_iald d_L_differsAt_56 (ksLa_4 gg1) g11 ?_
        refine x_icmp_eq (tgt := 64) d_L_differsAt_57 rfl (fun c12 => ?_) (fun c12 => ?_)
        · replace h := ite_t c12 h
          refine x_iconst d_L_differsAt_64 ic_0 ?_
          obtain rfl := Option.some.inj h
          exact x_ret (r := some (.int (0 : Int32))) d_L_differsAt_65 ⟨_, rfl, rfl⟩
        · replace h := ite_f c12 h
          refine x_iconst d_L_differsAt_60 ic_1 ?_
          refine x_goto (tgt := 65) d_L_differsAt_61 rfl ?_
          obtain rfl := Option.some.inj h
          exact x_ret (r := some (.int (1 : Int32))) d_L_differsAt_65 ⟨_, rfl, rfl⟩
/-! NinetyPlayers.differ -/
def b_N_differ_14 (F G : Nat) (S : St) (z1 : Int32) (rec : Int32 → Int32 → Option (Int32)) (w2 : Int32) (w3 : Int32) : Option (Int32) :=
  gd (isSc S.2.2.1) (if (S.1 S.2.2.1 6) ≤ w3 then some w2 else gd (inB z1 3) (bd (fL_differsAt F G S 30 w3 (36 + 5 * z1.toNatClampNeg)) fun v8 => if v8 = 0 then lt (w3 + 1) fun v10 => rec w2 v10 else lt (w2 ||| ((1 : Int32) <<< (w3 &&& 31))) fun v12 => lt (w3 + 1) fun v14 => rec v12 v14))
def fN_differ (F G : Nat) (S : St) (p1 : Int32) : Option (Int32) :=
  bd (fN_isKept F G S p1) fun v2 => if v2 = 0 then some (-1 : Int32) else fx2 (b_N_differ_14 F G S p1) F (0 : Int32) (0 : Int32)
set_option maxRecDepth 100000 in
set_option maxHeartbeats 4000000 in
theorem T_N_differ_14 {X : Nat × (Nat → Int32)} {D F G : Nat} (hD : 1 ≤ D + 1) {S : St} {z1 : Int32} : ∀ (f : Nat) (w2 : Int32) (w3 : Int32) (res : Int32), fx2 (b_N_differ_14 F G S z1 ) f w2 w3 = some res → Ek X (D + 1) mN_differ 14 [(0, .ref 0), (1, .int z1), (2, .int w2), (3, .int w3)] [] S (some (.int res)) S := by
  refine fx2_ind ?_
  intro rec ih w2 w3 res h
  unfold b_N_differ_14 at h
  refine x_iload_n d_N_differ_14 rfl 3 rfl ?_
  refine x_aload_n d_N_differ_15 rfl 0 rfl ?_
  refine y_getR d_N_differ_16 fl_0_24 rfl kd_0 rr_told ?_
  obtain ⟨g4, h⟩ := gd_inv h
  refine y_getI d_N_differ_19 fl_0_122 rfl (ksSc g4) ?_
  refine x_icmp_ge (tgt := 54) d_N_differ_22 rfl (fun c5 => ?_) (fun c5 => ?_)
  · replace h := ite_t c5 h
    refine x_iload_n d_N_differ_54 rfl 2 rfl ?_
    obtain rfl := Option.some.inj h
    exact x_ret (r := some (.int w2)) d_N_differ_55 ⟨_, rfl, rfl⟩
  · replace h := ite_f c5 h
    refine x_aload_n d_N_differ_25 rfl 0 rfl ?_
    refine y_getR d_N_differ_26 fl_0_31 rfl kd_0 rr_0_3 ?_
    refine x_iload_n d_N_differ_29 rfl 3 rfl ?_
    refine x_aload_n d_N_differ_30 rfl 0 rfl ?_
    refine y_getR d_N_differ_31 fl_0_35 rfl kd_0 rr_0_4 ?_
    refine x_iload_n d_N_differ_34 rfl 1 rfl ?_
    obtain ⟨g6, h⟩ := gd_inv h
    refine y_aald d_N_differ_35 g6 ?_
    obtain ⟨v8, q7, h⟩ := bd_inv h
    refine y_V2i (v := v8) (S1 := S) d_N_differ_36 ml_0_348 kd_30 rfl (Nat.le_of_ble_eq_true rfl) (Nat.le_of_ble_eq_true rfl) (c_L_differsAt (by omega) q7) ?_
    refine x_if_eq (tgt := 48) d_N_differ_39 rfl (fun c9 => ?_) (fun c9 => ?_)
    · replace h := ite_t c9 h
      obtain ⟨v10, e11, h⟩ := lt_inv h
      refine y_iinc (L1 := [(0, .ref 0), (1, .int z1), (2, .int w2), (3, .int v10)]) e11 ic_1 d_N_differ_48 3 rfl (Nat.le_of_ble_eq_true rfl) rfl rfl ?_
      refine x_goto (tgt := 14) d_N_differ_51 rfl ?_
      exact ih w2 v10 _ h
    · replace h := ite_f c9 h
      refine x_iload_n d_N_differ_42 rfl 2 rfl ?_
      refine x_iconst d_N_differ_43 ic_1 ?_
      refine x_iload_n d_N_differ_44 rfl 3 rfl ?_
      refine x_ishl d_N_differ_45 ?_
      refine x_ior d_N_differ_46 ?_
      obtain ⟨v12, e13, h⟩ := lt_inv h
      refine y_istore_n (L1 := [(0, .ref 0), (1, .int z1), (2, .int v12), (3, .int w3)]) e13 d_N_differ_47 rfl (Nat.le_of_ble_eq_true rfl) rfl rfl ?_
      obtain ⟨v14, e15, h⟩ := lt_inv h
      refine y_iinc (L1 := [(0, .ref 0), (1, .int z1), (2, .int v12), (3, .int v14)]) e15 ic_1 d_N_differ_48 3 rfl (Nat.le_of_ble_eq_true rfl) rfl rfl ?_
      refine x_goto (tgt := 14) d_N_differ_51 rfl ?_
      exact ih v12 v14 _ h
set_option maxRecDepth 100000 in
set_option maxHeartbeats 4000000 in
theorem c_N_differ {X : Nat × (Nat → Int32)} {D F G : Nat} (hD : 1 ≤ D) {S : St} {p1 : Int32} {res : Int32} (h : fN_differ F G S p1 = some res) : Ek X (D) mN_differ 0 [(0, .ref 0), (1, .int p1)] [] S (some (.int res)) S := by
  obtain ⟨D, rfl⟩ : ∃ E, D = E + 1 := ⟨D - 1, by omega⟩
  unfold fN_differ at h
  refine x_aload_n d_N_differ_0 rfl 0 rfl ?_
  refine x_iload_n d_N_differ_1 rfl 1 rfl ?_
  obtain ⟨v2, q1, h⟩ := bd_inv h
  refine y_V1i (v := v2) (S1 := S) d_N_differ_2 ml_0_345 kd_0 rfl (Nat.le_of_ble_eq_true rfl) (Nat.le_of_ble_eq_true rfl) (c_N_isKept (by omega) q1) ?_
  refine x_if_ne (tgt := 10) d_N_differ_5 rfl (fun c3 => ?_) (fun c3 => ?_)
  · replace h := ite_f c3 h
    refine x_iconst d_N_differ_10 ic_0 ?_
    refine x_istore_n (L1 := [(0, .ref 0), (1, .int p1), (2, .int (0 : Int32))]) d_N_differ_11 rfl (Nat.le_of_ble_eq_true rfl) rfl rfl ?_
    refine x_iconst d_N_differ_12 ic_0 ?_
    refine x_istore_n (L1 := [(0, .ref 0), (1, .int p1), (2, .int (0 : Int32)), (3, .int (0 : Int32))]) d_N_differ_13 rfl (Nat.le_of_ble_eq_true rfl) rfl rfl ?_
    refine T_N_differ_14 (by omega)   F (0 : Int32) (0 : Int32) _ h
  · replace h := ite_t c3 h
    refine x_iconst d_N_differ_8 ic_m1 ?_
    obtain rfl := Option.some.inj h
    exact x_ret (r := some (.int (-1 : Int32))) d_N_differ_9 ⟨_, rfl, rfl⟩
/-! NinetyPlayersModel.differ -/
def b_M_differ_22 (F G : Nat) (S : St) (z1 : Int32) (rec : Int32 → Int32 → Option (Int32)) (w2 : Int32) (w3 : Int32) : Option (Int32) :=
  if (40 : Int32) ≤ w3 then some w2 else gd (inB (((41 : Int32) * z1) + w3) 123) (gd (inB w3 41) (if (S.1 116 (((41 : Int32) * z1) + w3).toNatClampNeg) = (S.1 100 w3.toNatClampNeg) then lt (w3 + 1) fun v10 => rec w2 v10 else lt (w2 ||| ((1 : Int32) <<< ((w3 - w3 / (10 : Int32) * (10 : Int32)) &&& 31))) fun v12 => lt (w3 + 1) fun v14 => rec v12 v14))
def fM_differ (F G : Nat) (S : St) (p1 : Int32) : Option (Int32) :=
  bd (fM_isBox F G S p1) fun v2 => if v2 = 0 then some (-1 : Int32) else gd (inB p1 3) (if (S.1 115 p1.toNatClampNeg) = 0 then some (-1 : Int32) else fx2 (b_M_differ_22 F G S p1) F (0 : Int32) (0 : Int32))
set_option maxRecDepth 100000 in
set_option maxHeartbeats 4000000 in
theorem T_M_differ_22 {X : Nat × (Nat → Int32)} {D F G : Nat} (hD : 1 ≤ D + 1) {S : St} {z1 : Int32} : ∀ (f : Nat) (w2 : Int32) (w3 : Int32) (res : Int32), fx2 (b_M_differ_22 F G S z1 ) f w2 w3 = some res → Ek X (D + 1) mM_differ 22 [(0, .ref 78), (1, .int z1), (2, .int w2), (3, .int w3)] [] S (some (.int res)) S := by
  refine fx2_ind ?_
  intro rec ih w2 w3 res h
  unfold b_M_differ_22 at h
  refine x_iload_n d_M_differ_22 rfl 3 rfl ?_
  refine x_bipush d_M_differ_23 bp_40 ?_
  refine x_icmp_ge (tgt := 63) d_M_differ_25 rfl (fun c6 => ?_) (fun c6 => ?_)
  · replace h := ite_t c6 h
    refine x_iload_n d_M_differ_63 rfl 2 rfl ?_
    obtain rfl := Option.some.inj h
    exact x_ret (r := some (.int w2)) d_M_differ_64 ⟨_, rfl, rfl⟩
  · replace h := ite_f c6 h
    refine x_aload_n d_M_differ_28 rfl 0 rfl ?_
    refine y_getR d_M_differ_29 fl_11_142 rfl kd_78 rr_78_79 ?_
    refine x_bipush d_M_differ_32 bp_41 ?_
    refine x_iload_n d_M_differ_34 rfl 1 rfl ?_
    refine x_imul d_M_differ_35 ?_
    refine x_iload_n d_M_differ_36 rfl 3 rfl ?_
    refine x_iadd d_M_differ_37 ?_
    obtain ⟨g7, h⟩ := gd_inv h
    refine y_iald d_M_differ_38 kd_116 g7 ?_
    refine x_aload_n d_M_differ_39 rfl 0 rfl ?_
    refine y_getR d_M_differ_40 fl_11_93 rfl kd_78 rr_78_58 ?_
    refine x_iload_n d_M_differ_43 rfl 3 rfl ?_
    obtain ⟨g8, h⟩ := gd_inv h
    refine y_iald d_M_differ_44 kd_100 g8 ?_
    refine x_icmp_eq (tgt := 57) d_M_differ_45 rfl (fun c9 => ?_) (fun c9 => ?_)
    · replace h := ite_t c9 h
      obtain ⟨v10, e11, h⟩ := lt_inv h
      refine y_iinc (L1 := [(0, .ref 78), (1, .int z1), (2, .int w2), (3, .int v10)]) e11 ic_1 d_M_differ_57 3 rfl (Nat.le_of_ble_eq_true rfl) rfl rfl ?_
      refine x_goto (tgt := 22) d_M_differ_60 rfl ?_
      exact ih w2 v10 _ h
    · replace h := ite_f c9 h
      refine x_iload_n d_M_differ_48 rfl 2 rfl ?_
      refine x_iconst d_M_differ_49 ic_1 ?_
      refine x_iload_n d_M_differ_50 rfl 3 rfl ?_
      refine x_bipush d_M_differ_51 bp_10 ?_
      refine x_irem d_M_differ_53 (by decide) ?_
      refine x_ishl d_M_differ_54 ?_
      refine x_ior d_M_differ_55 ?_
      obtain ⟨v12, e13, h⟩ := lt_inv h
      refine y_istore_n (L1 := [(0, .ref 78), (1, .int z1), (2, .int v12), (3, .int w3)]) e13 d_M_differ_56 rfl (Nat.le_of_ble_eq_true rfl) rfl rfl ?_
      obtain ⟨v14, e15, h⟩ := lt_inv h
      refine y_iinc (L1 := [(0, .ref 78), (1, .int z1), (2, .int v12), (3, .int v14)]) e15 ic_1 d_M_differ_57 3 rfl (Nat.le_of_ble_eq_true rfl) rfl rfl ?_
      refine x_goto (tgt := 22) d_M_differ_60 rfl ?_
      exact ih v12 v14 _ h
set_option maxRecDepth 100000 in
set_option maxHeartbeats 4000000 in
theorem c_M_differ {X : Nat × (Nat → Int32)} {D F G : Nat} (hD : 1 ≤ D) {S : St} {p1 : Int32} {res : Int32} (h : fM_differ F G S p1 = some res) : Ek X (D) mM_differ 0 [(0, .ref 78), (1, .int p1)] [] S (some (.int res)) S := by
  obtain ⟨D, rfl⟩ : ∃ E, D = E + 1 := ⟨D - 1, by omega⟩
  unfold fM_differ at h
  refine x_iload_n d_M_differ_0 rfl 1 rfl ?_
  obtain ⟨v2, q1, h⟩ := bd_inv h
  refine y_S1i (v := v2) (S1 := S) d_M_differ_1 ml_11_553 (Nat.le_of_ble_eq_true rfl) (Nat.le_of_ble_eq_true rfl) (c_M_isBox (by omega) q1) ?_
  refine x_if_eq (tgt := 16) d_M_differ_4 rfl (fun c3 => ?_) (fun c3 => ?_)
  · replace h := ite_t c3 h
    refine x_iconst d_M_differ_16 ic_m1 ?_
    obtain rfl := Option.some.inj h
    exact x_ret (r := some (.int (-1 : Int32))) d_M_differ_17 ⟨_, rfl, rfl⟩
  · replace h := ite_f c3 h
    refine x_aload_n d_M_differ_7 rfl 0 rfl ?_
    refine y_getR d_M_differ_8 fl_11_139 rfl kd_78 rr_78_78 ?_
    refine x_iload_n d_M_differ_11 rfl 1 rfl ?_
    obtain ⟨g4, h⟩ := gd_inv h
    refine y_zald d_M_differ_12 kd_115 g4 ?_
    refine x_if_ne (tgt := 18) d_M_differ_13 rfl (fun c5 => ?_) (fun c5 => ?_)
    · replace h := ite_f c5 h
      refine x_iconst d_M_differ_18 ic_0 ?_
      refine x_istore_n (L1 := [(0, .ref 78), (1, .int p1), (2, .int (0 : Int32))]) d_M_differ_19 rfl (Nat.le_of_ble_eq_true rfl) rfl rfl ?_
      refine x_iconst d_M_differ_20 ic_0 ?_
      refine x_istore_n (L1 := [(0, .ref 78), (1, .int p1), (2, .int (0 : Int32)), (3, .int (0 : Int32))]) d_M_differ_21 rfl (Nat.le_of_ble_eq_true rfl) rfl rfl ?_
      refine T_M_differ_22 (by omega)   F (0 : Int32) (0 : Int32) _ h
    · replace h := ite_t c5 h
      refine x_iconst d_M_differ_16 ic_m1 ?_
      obtain rfl := Option.some.inj h
      exact x_ret (r := some (.int (-1 : Int32))) d_M_differ_17 ⟨_, rfl, rfl⟩
/-! NinetyPlayers.aboutTheRest -/
def fN_aboutTheRest (F G : Nat) (S : St) (p1 : Int32) : Option (Int32) :=
  if p1 = 8 then some (S.1 51 0) else if p1 = 9 then some ((S.1 51 1) - (S.1 51 0)) else if p1 = 10 then some (S.1 69 0) else if p1 = 11 then some (S.1 69 1) else if p1 = 12 then some (S.1 2 0) else if p1 = 13 then gd (isSc S.2.2.1) (some (S.1 (S.2.2.1 + 9) 0)) else if p1 = 14 then some (S.1 0 12) else if p1 = 15 then bd (fN_givenSet F G S) fun v11 => bd (fJ_bitCount F G S v11) fun v13 => some v13 else some (-1 : Int32)
set_option maxRecDepth 100000 in
set_option maxHeartbeats 4000000 in
theorem c_N_aboutTheRest {X : Nat × (Nat → Int32)} {D F G : Nat} (hD : 2 ≤ D) {S : St} {p1 : Int32} {res : Int32} (h : fN_aboutTheRest F G S p1 = some res) : Ek X (D) mN_aboutTheRest 0 [(0, .ref 0), (1, .int p1)] [] S (some (.int res)) S := by
  obtain ⟨D, rfl⟩ : ∃ E, D = E + 1 := ⟨D - 1, by omega⟩
  unfold fN_aboutTheRest at h
  refine x_iload_n d_N_aboutTheRest_0 rfl 1 rfl ?_
  by_cases c1 : p1 = 8
  · replace h := ite_t c1 h
    refine x_tabC (tgt := 48) 8 d_N_aboutTheRest_1 (by rw [c1]; rfl) (by decide) rfl rfl ?_
    refine x_aload_n d_N_aboutTheRest_48 rfl 0 rfl ?_
    refine y_getR d_N_aboutTheRest_49 fl_0_42 rfl kd_0 rr_0_5 ?_
    refine y_getI d_N_aboutTheRest_52 fl_0_358 rfl kd_51 ?_
    obtain rfl := Option.some.inj h
    exact x_ret (r := some (.int (S.1 51 0))) d_N_aboutTheRest_55 ⟨_, rfl, rfl⟩
  replace h := ite_f c1 h
  by_cases c2 : p1 = 9
  · replace h := ite_t c2 h
    refine x_tabC (tgt := 56) 9 d_N_aboutTheRest_1 (by rw [c2]; rfl) (by decide) rfl rfl ?_
    refine x_aload_n d_N_aboutTheRest_56 rfl 0 rfl ?_
    refine y_getR d_N_aboutTheRest_57 fl_0_42 rfl kd_0 rr_0_5 ?_
    refine y_getI d_N_aboutTheRest_60 fl_0_361 rfl kd_51 ?_
    refine x_aload_n d_N_aboutTheRest_63 rfl 0 rfl ?_
    refine y_getR d_N_aboutTheRest_64 fl_0_42 rfl kd_0 rr_0_5 ?_
    refine y_getI d_N_aboutTheRest_67 fl_0_358 rfl kd_51 ?_
    refine x_isub d_N_aboutTheRest_70 ?_
    obtain rfl := Option.some.inj h
    exact x_ret (r := some (.int ((S.1 51 1) - (S.1 51 0)))) d_N_aboutTheRest_71 ⟨_, rfl, rfl⟩
  replace h := ite_f c2 h
  by_cases c3 : p1 = 10
  · replace h := ite_t c3 h
    refine x_tabC (tgt := 72) 10 d_N_aboutTheRest_1 (by rw [c3]; rfl) (by decide) rfl rfl ?_
    refine x_aload_n d_N_aboutTheRest_72 rfl 0 rfl ?_
    refine y_getR d_N_aboutTheRest_73 fl_0_73 rfl kd_0 rr_0_10 ?_
    refine y_getI d_N_aboutTheRest_76 fl_0_363 rfl kd_69 ?_
    obtain rfl := Option.some.inj h
    exact x_ret (r := some (.int (S.1 69 0))) d_N_aboutTheRest_79 ⟨_, rfl, rfl⟩
  replace h := ite_f c3 h
  by_cases c4 : p1 = 11
  · replace h := ite_t c4 h
    refine x_tabC (tgt := 80) 11 d_N_aboutTheRest_1 (by rw [c4]; rfl) (by decide) rfl rfl ?_
    refine x_aload_n d_N_aboutTheRest_80 rfl 0 rfl ?_
    refine y_getR d_N_aboutTheRest_81 fl_0_73 rfl kd_0 rr_0_10 ?_
    refine y_getI d_N_aboutTheRest_84 fl_0_364 rfl kd_69 ?_
    obtain rfl := Option.some.inj h
    exact x_ret (r := some (.int (S.1 69 1))) d_N_aboutTheRest_87 ⟨_, rfl, rfl⟩
  replace h := ite_f c4 h
  by_cases c5 : p1 = 12
  · replace h := ite_t c5 h
    refine x_tabC (tgt := 88) 12 d_N_aboutTheRest_1 (by rw [c5]; rfl) (by decide) rfl rfl ?_
    refine x_aload_n d_N_aboutTheRest_88 rfl 0 rfl ?_
    refine y_getR d_N_aboutTheRest_89 fl_0_20 rfl kd_0 rr_0_1 ?_
    refine y_getI d_N_aboutTheRest_92 fl_0_84 rfl kd_2 ?_
    obtain rfl := Option.some.inj h
    exact x_ret (r := some (.int (S.1 2 0))) d_N_aboutTheRest_95 ⟨_, rfl, rfl⟩
  replace h := ite_f c5 h
  by_cases c6 : p1 = 13
  · replace h := ite_t c6 h
    refine x_tabC (tgt := 96) 13 d_N_aboutTheRest_1 (by rw [c6]; rfl) (by decide) rfl rfl ?_
    refine x_aload_n d_N_aboutTheRest_96 rfl 0 rfl ?_
    refine y_getR d_N_aboutTheRest_97 fl_0_24 rfl kd_0 rr_told ?_
    obtain ⟨g7, h⟩ := gd_inv h
    refine y_getR d_N_aboutTheRest_100 fl_0_216 rfl (ksSc g7) (rrSc_15 g7) ?_
    refine y_getI d_N_aboutTheRest_103 fl_0_367 rfl (ksFo (isFo_of g7)) ?_
    obtain rfl := Option.some.inj h
    exact x_ret (r := some (.int (S.1 (S.2.2.1 + 9) 0))) d_N_aboutTheRest_106 ⟨_, rfl, rfl⟩
  replace h := ite_f c6 h
  by_cases c8 : p1 = 14
  · replace h := ite_t c8 h
    refine x_tabC (tgt := 107) 14 d_N_aboutTheRest_1 (by rw [c8]; rfl) (by decide) rfl rfl ?_
    refine x_aload_n d_N_aboutTheRest_107 rfl 0 rfl ?_
    refine y_getI d_N_aboutTheRest_108 fl_0_115 rfl kd_0 ?_
    obtain rfl := Option.some.inj h
    exact x_ret (r := some (.int (S.1 0 12))) d_N_aboutTheRest_111 ⟨_, rfl, rfl⟩
  replace h := ite_f c8 h
  by_cases c9 : p1 = 15
  · replace h := ite_t c9 h
    refine x_tabC (tgt := 112) 15 d_N_aboutTheRest_1 (by rw [c9]; rfl) (by decide) rfl rfl ?_
    refine x_aload_n d_N_aboutTheRest_112 rfl 0 rfl ?_
    obtain ⟨v11, q10, h⟩ := bd_inv h
    refine y_V0i (v := v11) (S1 := S) d_N_aboutTheRest_113 ml_0_166 kd_0 rfl (Nat.le_of_ble_eq_true rfl) (Nat.le_of_ble_eq_true rfl) (c_N_givenSet (by omega) q10) ?_
    obtain ⟨v13, q12, h⟩ := bd_inv h
    refine y_S1i (v := v13) (S1 := S) d_N_aboutTheRest_116 ml_0_211 (Nat.le_of_ble_eq_true rfl) (Nat.le_of_ble_eq_true rfl) (c_J_bitCount (by omega) q12) ?_
    obtain rfl := Option.some.inj h
    exact x_ret (r := some (.int v13)) d_N_aboutTheRest_119 ⟨_, rfl, rfl⟩
  replace h := ite_f c9 h
  refine x_tabD (tgt := 120) d_N_aboutTheRest_1 (by have := lv_neT c1 (show (8 : Int32).toInt = 8 from rfl); have := lv_neT c2 (show (9 : Int32).toInt = 9 from rfl); have := lv_neT c3 (show (10 : Int32).toInt = 10 from rfl); have := lv_neT c4 (show (11 : Int32).toInt = 11 from rfl); have := lv_neT c5 (show (12 : Int32).toInt = 12 from rfl); have := lv_neT c6 (show (13 : Int32).toInt = 13 from rfl); have := lv_neT c8 (show (14 : Int32).toInt = 14 from rfl); have := lv_neT c9 (show (15 : Int32).toInt = 15 from rfl); omega) rfl ?_
  refine x_iconst d_N_aboutTheRest_120 ic_m1 ?_
  obtain rfl := Option.some.inj h
  exact x_ret (r := some (.int (-1 : Int32))) d_N_aboutTheRest_121 ⟨_, rfl, rfl⟩
/-! NinetyPlayers.about -/
def fN_about (F G : Nat) (S : St) (p1 : Int32) : Option (Int32) :=
  if p1 = 0 then gd (isSc S.2.2.1) (some (S.1 S.2.2.1 6)) else if p1 = 1 then gd (isSc S.2.2.1) (some (S.1 S.2.2.1 5)) else if p1 = 2 then gd (isSc S.2.2.1) (some (S.1 S.2.2.1 0)) else if p1 = 3 then gd (isSc S.2.2.1) (some (S.1 S.2.2.1 1)) else if p1 = 4 then gd (isSc S.2.2.1) (some (S.1 S.2.2.1 2)) else if p1 = 5 then gd (isSc S.2.2.1) (some (S.1 S.2.2.1 3)) else if p1 = 6 then gd (isSc S.2.2.1) (some (S.1 S.2.2.1 4)) else if p1 = 7 then some (S.1 30 1) else bd (fN_aboutTheRest F G S p1) fun v17 => some v17
set_option maxRecDepth 100000 in
set_option maxHeartbeats 4000000 in
theorem c_N_about {X : Nat × (Nat → Int32)} {D F G : Nat} (hD : 3 ≤ D) {S : St} {p1 : Int32} {res : Int32} (h : fN_about F G S p1 = some res) : Ek X (D) mN_about 0 [(0, .ref 0), (1, .int p1)] [] S (some (.int res)) S := by
  obtain ⟨D, rfl⟩ : ∃ E, D = E + 1 := ⟨D - 1, by omega⟩
  unfold fN_about at h
  refine x_iload_n d_N_about_0 rfl 1 rfl ?_
  by_cases c1 : p1 = 0
  · replace h := ite_t c1 h
    refine x_tabC (tgt := 48) 0 d_N_about_1 (by rw [c1]; rfl) (by decide) rfl rfl ?_
    refine x_aload_n d_N_about_48 rfl 0 rfl ?_
    refine y_getR d_N_about_49 fl_0_24 rfl kd_0 rr_told ?_
    obtain ⟨g2, h⟩ := gd_inv h
    refine y_getI d_N_about_52 fl_0_122 rfl (ksSc g2) ?_
    obtain rfl := Option.some.inj h
    exact x_ret (r := some (.int (S.1 S.2.2.1 6))) d_N_about_55 ⟨_, rfl, rfl⟩
  replace h := ite_f c1 h
  by_cases c3 : p1 = 1
  · replace h := ite_t c3 h
    refine x_tabC (tgt := 56) 1 d_N_about_1 (by rw [c3]; rfl) (by decide) rfl rfl ?_
    refine x_aload_n d_N_about_56 rfl 0 rfl ?_
    refine y_getR d_N_about_57 fl_0_24 rfl kd_0 rr_told ?_
    obtain ⟨g4, h⟩ := gd_inv h
    refine y_getI d_N_about_60 fl_0_157 rfl (ksSc g4) ?_
    obtain rfl := Option.some.inj h
    exact x_ret (r := some (.int (S.1 S.2.2.1 5))) d_N_about_63 ⟨_, rfl, rfl⟩
  replace h := ite_f c3 h
  by_cases c5 : p1 = 2
  · replace h := ite_t c5 h
    refine x_tabC (tgt := 64) 2 d_N_about_1 (by rw [c5]; rfl) (by decide) rfl rfl ?_
    refine x_aload_n d_N_about_64 rfl 0 rfl ?_
    refine y_getR d_N_about_65 fl_0_24 rfl kd_0 rr_told ?_
    obtain ⟨g6, h⟩ := gd_inv h
    refine y_getI d_N_about_68 fl_0_198 rfl (ksSc g6) ?_
    obtain rfl := Option.some.inj h
    exact x_ret (r := some (.int (S.1 S.2.2.1 0))) d_N_about_71 ⟨_, rfl, rfl⟩
  replace h := ite_f c5 h
  by_cases c7 : p1 = 3
  · replace h := ite_t c7 h
    refine x_tabC (tgt := 72) 3 d_N_about_1 (by rw [c7]; rfl) (by decide) rfl rfl ?_
    refine x_aload_n d_N_about_72 rfl 0 rfl ?_
    refine y_getR d_N_about_73 fl_0_24 rfl kd_0 rr_told ?_
    obtain ⟨g8, h⟩ := gd_inv h
    refine y_getI d_N_about_76 fl_0_263 rfl (ksSc g8) ?_
    obtain rfl := Option.some.inj h
    exact x_ret (r := some (.int (S.1 S.2.2.1 1))) d_N_about_79 ⟨_, rfl, rfl⟩
  replace h := ite_f c7 h
  by_cases c9 : p1 = 4
  · replace h := ite_t c9 h
    refine x_tabC (tgt := 80) 4 d_N_about_1 (by rw [c9]; rfl) (by decide) rfl rfl ?_
    refine x_aload_n d_N_about_80 rfl 0 rfl ?_
    refine y_getR d_N_about_81 fl_0_24 rfl kd_0 rr_told ?_
    obtain ⟨g10, h⟩ := gd_inv h
    refine y_getI d_N_about_84 fl_0_260 rfl (ksSc g10) ?_
    obtain rfl := Option.some.inj h
    exact x_ret (r := some (.int (S.1 S.2.2.1 2))) d_N_about_87 ⟨_, rfl, rfl⟩
  replace h := ite_f c9 h
  by_cases c11 : p1 = 5
  · replace h := ite_t c11 h
    refine x_tabC (tgt := 88) 5 d_N_about_1 (by rw [c11]; rfl) (by decide) rfl rfl ?_
    refine x_aload_n d_N_about_88 rfl 0 rfl ?_
    refine y_getR d_N_about_89 fl_0_24 rfl kd_0 rr_told ?_
    obtain ⟨g12, h⟩ := gd_inv h
    refine y_getI d_N_about_92 fl_0_352 rfl (ksSc g12) ?_
    obtain rfl := Option.some.inj h
    exact x_ret (r := some (.int (S.1 S.2.2.1 3))) d_N_about_95 ⟨_, rfl, rfl⟩
  replace h := ite_f c11 h
  by_cases c13 : p1 = 6
  · replace h := ite_t c13 h
    refine x_tabC (tgt := 96) 6 d_N_about_1 (by rw [c13]; rfl) (by decide) rfl rfl ?_
    refine x_aload_n d_N_about_96 rfl 0 rfl ?_
    refine y_getR d_N_about_97 fl_0_24 rfl kd_0 rr_told ?_
    obtain ⟨g14, h⟩ := gd_inv h
    refine y_getI d_N_about_100 fl_0_314 rfl (ksSc g14) ?_
    obtain rfl := Option.some.inj h
    exact x_ret (r := some (.int (S.1 S.2.2.1 4))) d_N_about_103 ⟨_, rfl, rfl⟩
  replace h := ite_f c13 h
  by_cases c15 : p1 = 7
  · replace h := ite_t c15 h
    refine x_tabC (tgt := 104) 7 d_N_about_1 (by rw [c15]; rfl) (by decide) rfl rfl ?_
    refine x_aload_n d_N_about_104 rfl 0 rfl ?_
    refine y_getR d_N_about_105 fl_0_31 rfl kd_0 rr_0_3 ?_
    refine y_getI d_N_about_108 fl_0_247 rfl kd_30 ?_
    obtain rfl := Option.some.inj h
    exact x_ret (r := some (.int (S.1 30 1))) d_N_about_111 ⟨_, rfl, rfl⟩
  replace h := ite_f c15 h
  refine x_tabD (tgt := 112) d_N_about_1 (by have := lv_neT c1 (show (0 : Int32).toInt = 0 from rfl); have := lv_neT c3 (show (1 : Int32).toInt = 1 from rfl); have := lv_neT c5 (show (2 : Int32).toInt = 2 from rfl); have := lv_neT c7 (show (3 : Int32).toInt = 3 from rfl); have := lv_neT c9 (show (4 : Int32).toInt = 4 from rfl); have := lv_neT c11 (show (5 : Int32).toInt = 5 from rfl); have := lv_neT c13 (show (6 : Int32).toInt = 6 from rfl); have := lv_neT c15 (show (7 : Int32).toInt = 7 from rfl); omega) rfl ?_
  refine x_aload_n d_N_about_112 rfl 0 rfl ?_
  refine x_iload_n d_N_about_113 rfl 1 rfl ?_
  obtain ⟨v17, q16, h⟩ := bd_inv h
  refine y_V1i (v := v17) (S1 := S) d_N_about_114 ml_0_355 kd_0 rfl (Nat.le_of_ble_eq_true rfl) (Nat.le_of_ble_eq_true rfl) (c_N_aboutTheRest (by omega) q16) ?_
  obtain rfl := Option.some.inj h
  exact x_ret (r := some (.int v17)) d_N_about_117 ⟨_, rfl, rfl⟩
/-! NinetyPlayersModel.about -/
def fM_about (F G : Nat) (S : St) (p1 : Int32) : Option (Int32) :=
  if p1 = 0 then some (S.1 78 48) else if p1 = 1 then some (S.1 78 47) else if p1 = 2 then some (S.1 78 46) else if p1 = 3 then some (S.1 78 49) else if p1 = 4 then some (S.1 78 50) else if p1 = 5 then some (S.1 78 51) else if p1 = 6 then some (S.1 78 52) else if p1 = 7 then gd (inB (40 : Int32) 41) (some (S.1 100 (40 : Int32).toNatClampNeg)) else if p1 = 8 then some (S.1 78 63) else if p1 = 9 then some (S.1 78 64) else if p1 = 10 then some (S.1 78 74) else if p1 = 11 then some (S.1 78 75) else if p1 = 12 then some (S.1 78 1) else if p1 = 13 then some (S.1 78 21) else if p1 = 14 then some (S.1 78 68) else if p1 = 15 then bd (fM_played F G S) fun v19 => some v19 else some (-1 : Int32)
set_option maxRecDepth 100000 in
set_option maxHeartbeats 4000000 in
theorem c_M_about {X : Nat × (Nat → Int32)} {D F G : Nat} (hD : 2 ≤ D) {S : St} {p1 : Int32} {res : Int32} (h : fM_about F G S p1 = some res) : Ek X (D) mM_about 0 [(0, .ref 78), (1, .int p1)] [] S (some (.int res)) S := by
  obtain ⟨D, rfl⟩ : ∃ E, D = E + 1 := ⟨D - 1, by omega⟩
  unfold fM_about at h
  refine x_iload_n d_M_about_0 rfl 1 rfl ?_
  by_cases c1 : p1 = 0
  · replace h := ite_t c1 h
    refine x_tabC (tgt := 80) 0 d_M_about_1 (by rw [c1]; rfl) (by decide) rfl rfl ?_
    refine x_aload_n d_M_about_80 rfl 0 rfl ?_
    refine y_getI d_M_about_81 fl_11_322 rfl kd_78 ?_
    obtain rfl := Option.some.inj h
    exact x_ret (r := some (.int (S.1 78 48))) d_M_about_84 ⟨_, rfl, rfl⟩
  replace h := ite_f c1 h
  by_cases c2 : p1 = 1
  · replace h := ite_t c2 h
    refine x_tabC (tgt := 85) 1 d_M_about_1 (by rw [c2]; rfl) (by decide) rfl rfl ?_
    refine x_aload_n d_M_about_85 rfl 0 rfl ?_
    refine y_getI d_M_about_86 fl_11_405 rfl kd_78 ?_
    obtain rfl := Option.some.inj h
    exact x_ret (r := some (.int (S.1 78 47))) d_M_about_89 ⟨_, rfl, rfl⟩
  replace h := ite_f c2 h
  by_cases c3 : p1 = 2
  · replace h := ite_t c3 h
    refine x_tabC (tgt := 90) 2 d_M_about_1 (by rw [c3]; rfl) (by decide) rfl rfl ?_
    refine x_aload_n d_M_about_90 rfl 0 rfl ?_
    refine y_getI d_M_about_91 fl_11_78 rfl kd_78 ?_
    obtain rfl := Option.some.inj h
    exact x_ret (r := some (.int (S.1 78 46))) d_M_about_94 ⟨_, rfl, rfl⟩
  replace h := ite_f c3 h
  by_cases c4 : p1 = 3
  · replace h := ite_t c4 h
    refine x_tabC (tgt := 95) 3 d_M_about_1 (by rw [c4]; rfl) (by decide) rfl rfl ?_
    refine x_aload_n d_M_about_95 rfl 0 rfl ?_
    refine y_getI d_M_about_96 fl_11_81 rfl kd_78 ?_
    obtain rfl := Option.some.inj h
    exact x_ret (r := some (.int (S.1 78 49))) d_M_about_99 ⟨_, rfl, rfl⟩
  replace h := ite_f c4 h
  by_cases c5 : p1 = 4
  · replace h := ite_t c5 h
    refine x_tabC (tgt := 100) 4 d_M_about_1 (by rw [c5]; rfl) (by decide) rfl rfl ?_
    refine x_aload_n d_M_about_100 rfl 0 rfl ?_
    refine y_getI d_M_about_101 fl_11_84 rfl kd_78 ?_
    obtain rfl := Option.some.inj h
    exact x_ret (r := some (.int (S.1 78 50))) d_M_about_104 ⟨_, rfl, rfl⟩
  replace h := ite_f c5 h
  by_cases c6 : p1 = 5
  · replace h := ite_t c6 h
    refine x_tabC (tgt := 105) 5 d_M_about_1 (by rw [c6]; rfl) (by decide) rfl rfl ?_
    refine x_aload_n d_M_about_105 rfl 0 rfl ?_
    refine y_getI d_M_about_106 fl_11_87 rfl kd_78 ?_
    obtain rfl := Option.some.inj h
    exact x_ret (r := some (.int (S.1 78 51))) d_M_about_109 ⟨_, rfl, rfl⟩
  replace h := ite_f c6 h
  by_cases c7 : p1 = 6
  · replace h := ite_t c7 h
    refine x_tabC (tgt := 110) 6 d_M_about_1 (by rw [c7]; rfl) (by decide) rfl rfl ?_
    refine x_aload_n d_M_about_110 rfl 0 rfl ?_
    refine y_getI d_M_about_111 fl_11_90 rfl kd_78 ?_
    obtain rfl := Option.some.inj h
    exact x_ret (r := some (.int (S.1 78 52))) d_M_about_114 ⟨_, rfl, rfl⟩
  replace h := ite_f c7 h
  by_cases c8 : p1 = 7
  · replace h := ite_t c8 h
    refine x_tabC (tgt := 115) 7 d_M_about_1 (by rw [c8]; rfl) (by decide) rfl rfl ?_
    refine x_aload_n d_M_about_115 rfl 0 rfl ?_
    refine y_getR d_M_about_116 fl_11_93 rfl kd_78 rr_78_58 ?_
    refine x_bipush d_M_about_119 bp_40 ?_
    obtain ⟨g9, h⟩ := gd_inv h
    refine y_iald d_M_about_121 kd_100 g9 ?_
    obtain rfl := Option.some.inj h
    exact x_ret (r := some (.int (S.1 100 (40 : Int32).toNatClampNeg))) d_M_about_122 ⟨_, rfl, rfl⟩
  replace h := ite_f c8 h
  by_cases c10 : p1 = 8
  · replace h := ite_t c10 h
    refine x_tabC (tgt := 123) 8 d_M_about_1 (by rw [c10]; rfl) (by decide) rfl rfl ?_
    refine x_aload_n d_M_about_123 rfl 0 rfl ?_
    refine y_getI d_M_about_124 fl_11_417 rfl kd_78 ?_
    obtain rfl := Option.some.inj h
    exact x_ret (r := some (.int (S.1 78 63))) d_M_about_127 ⟨_, rfl, rfl⟩
  replace h := ite_f c10 h
  by_cases c11 : p1 = 9
  · replace h := ite_t c11 h
    refine x_tabC (tgt := 128) 9 d_M_about_1 (by rw [c11]; rfl) (by decide) rfl rfl ?_
    refine x_aload_n d_M_about_128 rfl 0 rfl ?_
    refine y_getI d_M_about_129 fl_11_420 rfl kd_78 ?_
    obtain rfl := Option.some.inj h
    exact x_ret (r := some (.int (S.1 78 64))) d_M_about_132 ⟨_, rfl, rfl⟩
  replace h := ite_f c11 h
  by_cases c12 : p1 = 10
  · replace h := ite_t c12 h
    refine x_tabC (tgt := 133) 10 d_M_about_1 (by rw [c12]; rfl) (by decide) rfl rfl ?_
    refine x_aload_n d_M_about_133 rfl 0 rfl ?_
    refine y_getI d_M_about_134 fl_11_423 rfl kd_78 ?_
    obtain rfl := Option.some.inj h
    exact x_ret (r := some (.int (S.1 78 74))) d_M_about_137 ⟨_, rfl, rfl⟩
  replace h := ite_f c12 h
  by_cases c13 : p1 = 11
  · replace h := ite_t c13 h
    refine x_tabC (tgt := 138) 11 d_M_about_1 (by rw [c13]; rfl) (by decide) rfl rfl ?_
    refine x_aload_n d_M_about_138 rfl 0 rfl ?_
    refine y_getI d_M_about_139 fl_11_539 rfl kd_78 ?_
    obtain rfl := Option.some.inj h
    exact x_ret (r := some (.int (S.1 78 75))) d_M_about_142 ⟨_, rfl, rfl⟩
  replace h := ite_f c13 h
  by_cases c14 : p1 = 12
  · replace h := ite_t c14 h
    refine x_tabC (tgt := 143) 12 d_M_about_1 (by rw [c14]; rfl) (by decide) rfl rfl ?_
    refine x_aload_n d_M_about_143 rfl 0 rfl ?_
    refine y_getI d_M_about_144 fl_11_145 rfl kd_78 ?_
    obtain rfl := Option.some.inj h
    exact x_ret (r := some (.int (S.1 78 1))) d_M_about_147 ⟨_, rfl, rfl⟩
  replace h := ite_f c14 h
  by_cases c15 : p1 = 13
  · replace h := ite_t c15 h
    refine x_tabC (tgt := 148) 13 d_M_about_1 (by rw [c15]; rfl) (by decide) rfl rfl ?_
    refine x_aload_n d_M_about_148 rfl 0 rfl ?_
    refine y_getI d_M_about_149 fl_11_408 rfl kd_78 ?_
    obtain rfl := Option.some.inj h
    exact x_ret (r := some (.int (S.1 78 21))) d_M_about_152 ⟨_, rfl, rfl⟩
  replace h := ite_f c15 h
  by_cases c16 : p1 = 14
  · replace h := ite_t c16 h
    refine x_tabC (tgt := 153) 14 d_M_about_1 (by rw [c16]; rfl) (by decide) rfl rfl ?_
    refine x_aload_n d_M_about_153 rfl 0 rfl ?_
    refine y_getI d_M_about_154 fl_11_426 rfl kd_78 ?_
    obtain rfl := Option.some.inj h
    exact x_ret (r := some (.int (S.1 78 68))) d_M_about_157 ⟨_, rfl, rfl⟩
  replace h := ite_f c16 h
  by_cases c17 : p1 = 15
  · replace h := ite_t c17 h
    refine x_tabC (tgt := 158) 15 d_M_about_1 (by rw [c17]; rfl) (by decide) rfl rfl ?_
    refine x_aload_n d_M_about_158 rfl 0 rfl ?_
    obtain ⟨v19, q18, h⟩ := bd_inv h
    refine y_V0i (v := v19) (S1 := S) d_M_about_159 ml_11_556 kd_78 rfl (Nat.le_of_ble_eq_true rfl) (Nat.le_of_ble_eq_true rfl) (c_M_played (by omega) q18) ?_
    obtain rfl := Option.some.inj h
    exact x_ret (r := some (.int v19)) d_M_about_162 ⟨_, rfl, rfl⟩
  replace h := ite_f c17 h
  refine x_tabD (tgt := 163) d_M_about_1 (by have := lv_neT c1 (show (0 : Int32).toInt = 0 from rfl); have := lv_neT c2 (show (1 : Int32).toInt = 1 from rfl); have := lv_neT c3 (show (2 : Int32).toInt = 2 from rfl); have := lv_neT c4 (show (3 : Int32).toInt = 3 from rfl); have := lv_neT c5 (show (4 : Int32).toInt = 4 from rfl); have := lv_neT c6 (show (5 : Int32).toInt = 5 from rfl); have := lv_neT c7 (show (6 : Int32).toInt = 6 from rfl); have := lv_neT c8 (show (7 : Int32).toInt = 7 from rfl); have := lv_neT c10 (show (8 : Int32).toInt = 8 from rfl); have := lv_neT c11 (show (9 : Int32).toInt = 9 from rfl); have := lv_neT c12 (show (10 : Int32).toInt = 10 from rfl); have := lv_neT c13 (show (11 : Int32).toInt = 11 from rfl); have := lv_neT c14 (show (12 : Int32).toInt = 12 from rfl); have := lv_neT c15 (show (13 : Int32).toInt = 13 from rfl); have := lv_neT c16 (show (14 : Int32).toInt = 14 from rfl); have := lv_neT c17 (show (15 : Int32).toInt = 15 from rfl); omega) rfl ?_
  refine x_iconst d_M_about_163 ic_m1 ?_
  obtain rfl := Option.some.inj h
  exact x_ret (r := some (.int (-1 : Int32))) d_M_about_164 ⟨_, rfl, rfl⟩
/-! NinetyPlayersLaw.law -/
def j_Z_law_1198 (F G : Nat) (X : Nat × (Nat → Int32)) (rec : Int32 → St → Option (Int32 × St)) (S : St) (y3 : Int32) (s0 : Int32) (s2 : Int32) (s3 : Int32) (s4 : Int32) : Option (Int32 × St) :=
  bd2 (fM_heard F G S s2 s3 s4) fun v577 S578 => if s0 = v577 then lt (y3 + 6) fun v580 => rec v580 S578 else some ((0 : Int32), S578)
def j_Z_law_1171 (F G : Nat) (X : Nat × (Nat → Int32)) (rec : Int32 → St → Option (Int32 × St)) (S : St) (y3 : Int32) (s1 : Int32) (s2 : Int32) (s3 : Int32) : Option (Int32 × St) :=
  bd2 (fN_heard F G S s1 s2 s3) fun v570 S571 => gd (inB (y3 + (1 : Int32)) X.1) (gd (inB (y3 + (2 : Int32)) X.1) (gd (inB (y3 + (3 : Int32)) X.1) (if (X.2 (y3 + (3 : Int32)).toNatClampNeg) = 0 then j_Z_law_1198 F G X rec  S571 y3 v570 (X.2 (y3 + (1 : Int32)).toNatClampNeg) (X.2 (y3 + (2 : Int32)).toNatClampNeg) (0 : Int32) else j_Z_law_1198 F G X rec  S571 y3 v570 (X.2 (y3 + (1 : Int32)).toNatClampNeg) (X.2 (y3 + (2 : Int32)).toNatClampNeg) (1 : Int32))))
def b_Z_law_18 (F G : Nat) (X : Nat × (Nat → Int32)) (rec : Int32 → St → Option (Int32 × St)) (w3 : Int32) (S : St) : Option (Int32 × St) :=
  if ((Int32.ofNat X.1) - (6 : Int32)) < w3 then some ((1 : Int32), S) else gd (inB w3 X.1) (if ((X.2 w3.toNatClampNeg) &&& (63 : Int32)) = 0 then gd (inB (w3 + (1 : Int32)) X.1) (gd (inB (w3 + (2 : Int32)) X.1) (gd (inB (w3 + (3 : Int32)) X.1) (gd (inB (w3 + (4 : Int32)) X.1) (gd (inB (w3 + (5 : Int32)) X.1) (bd2 (fN_feed F G S (X.2 (w3 + (1 : Int32)).toNatClampNeg) (X.2 (w3 + (2 : Int32)).toNatClampNeg) (X.2 (w3 + (3 : Int32)).toNatClampNeg) (X.2 (w3 + (4 : Int32)).toNatClampNeg) (X.2 (w3 + (5 : Int32)).toNatClampNeg)) fun v10 S11 => gd (inB (w3 + (1 : Int32)) X.1) (gd (inB (w3 + (2 : Int32)) X.1) (gd (inB (w3 + (3 : Int32)) X.1) (gd (inB (w3 + (4 : Int32)) X.1) (gd (inB (w3 + (5 : Int32)) X.1) (bd2 (fM_feed F G S11 (X.2 (w3 + (1 : Int32)).toNatClampNeg) (X.2 (w3 + (2 : Int32)).toNatClampNeg) (X.2 (w3 + (3 : Int32)).toNatClampNeg) (X.2 (w3 + (4 : Int32)).toNatClampNeg) (X.2 (w3 + (5 : Int32)).toNatClampNeg)) fun v18 S19 => if v10 = v18 then lt (w3 + 6) fun v21 => rec v21 S19 else some ((0 : Int32), S19))))))))))) else if ((X.2 w3.toNatClampNeg) &&& (63 : Int32)) = 1 then gd (inB (w3 + (1 : Int32)) X.1) (bd2 (fN_end F G S (X.2 (w3 + (1 : Int32)).toNatClampNeg)) fun v26 S27 => gd (inB (w3 + (1 : Int32)) X.1) (bd2 (fM_end F G S27 (X.2 (w3 + (1 : Int32)).toNatClampNeg)) fun v30 S31 => if v26 = v30 then lt (w3 + 6) fun v33 => rec v33 S31 else some ((0 : Int32), S31))) else if ((X.2 w3.toNatClampNeg) &&& (63 : Int32)) = 2 then bd2 (fN_score F G S) fun v37 S38 => bd2 (fM_score F G S38) fun v40 S41 => if v37 = v40 then lt (w3 + 6) fun v43 => rec v43 S41 else some ((0 : Int32), S41) else if ((X.2 w3.toNatClampNeg) &&& (63 : Int32)) = 3 then gd (inB (w3 + (1 : Int32)) X.1) (bd (fN_fault F G S (X.2 (w3 + (1 : Int32)).toNatClampNeg)) fun v48 => gd (inB (w3 + (1 : Int32)) X.1) (bd (fM_fault F G S (X.2 (w3 + (1 : Int32)).toNatClampNeg)) fun v51 => if v48 = v51 then lt (w3 + 6) fun v53 => rec v53 S else some ((0 : Int32), S))) else if ((X.2 w3.toNatClampNeg) &&& (63 : Int32)) = 4 then gd (inB (w3 + (1 : Int32)) X.1) (gd (inB (w3 + (2 : Int32)) X.1) (bd2 (fN_note F G S (X.2 (w3 + (1 : Int32)).toNatClampNeg) (X.2 (w3 + (2 : Int32)).toNatClampNeg)) fun v59 S60 => gd (inB (w3 + (1 : Int32)) X.1) (gd (inB (w3 + (2 : Int32)) X.1) (bd2 (fM_note F G S60 (X.2 (w3 + (1 : Int32)).toNatClampNeg) (X.2 (w3 + (2 : Int32)).toNatClampNeg)) fun v64 S65 => if v59 = v64 then lt (w3 + 6) fun v67 => rec v67 S65 else some ((0 : Int32), S65))))) else if ((X.2 w3.toNatClampNeg) &&& (63 : Int32)) = 5 then gd (inB (w3 + (1 : Int32)) X.1) (gd (inB (w3 + (2 : Int32)) X.1) (bd (fN_part F G S (X.2 (w3 + (1 : Int32)).toNatClampNeg) (X.2 (w3 + (2 : Int32)).toNatClampNeg)) fun v73 => gd (inB (w3 + (1 : Int32)) X.1) (gd (inB (w3 + (2 : Int32)) X.1) (bd2 (fM_part F G S (X.2 (w3 + (1 : Int32)).toNatClampNeg) (X.2 (w3 + (2 : Int32)).toNatClampNeg)) fun v77 S78 => if v73 = v77 then lt (w3 + 6) fun v80 => rec v80 S78 else some ((0 : Int32), S78))))) else if ((X.2 w3.toNatClampNeg) &&& (63 : Int32)) = 6 then gd (inB (w3 + (1 : Int32)) X.1) (gd (inB (w3 + (2 : Int32)) X.1) (bd2 (fN_held F G S (X.2 (w3 + (1 : Int32)).toNatClampNeg) (X.2 (w3 + (2 : Int32)).toNatClampNeg)) fun v86 S87 => gd (inB (w3 + (1 : Int32)) X.1) (gd (inB (w3 + (2 : Int32)) X.1) (bd2 (fM_held F G S87 (X.2 (w3 + (1 : Int32)).toNatClampNeg) (X.2 (w3 + (2 : Int32)).toNatClampNeg)) fun v91 S92 => if v86 = v91 then lt (w3 + 6) fun v94 => rec v94 S92 else some ((0 : Int32), S92))))) else if ((X.2 w3.toNatClampNeg) &&& (63 : Int32)) = 7 then gd (inB (w3 + (1 : Int32)) X.1) (bd2 (fN_sounds F G S (X.2 (w3 + (1 : Int32)).toNatClampNeg)) fun v99 S100 => gd (inB (w3 + (1 : Int32)) X.1) (bd2 (fM_sounds F G S100 (X.2 (w3 + (1 : Int32)).toNatClampNeg)) fun v103 S104 => if v99 = v103 then lt (w3 + 6) fun v106 => rec v106 S104 else some ((0 : Int32), S104))) else if ((X.2 w3.toNatClampNeg) &&& (63 : Int32)) = 8 then gd (inB (w3 + (1 : Int32)) X.1) (bd2 (fN_clash F G S (X.2 (w3 + (1 : Int32)).toNatClampNeg)) fun v111 S112 => gd (inB (w3 + (1 : Int32)) X.1) (bd2 (fM_clash F G S112 (X.2 (w3 + (1 : Int32)).toNatClampNeg)) fun v115 S116 => if v111 = v115 then lt (w3 + 6) fun v118 => rec v118 S116 else some ((0 : Int32), S116))) else if ((X.2 w3.toNatClampNeg) &&& (63 : Int32)) = 9 then gd (inB (w3 + (1 : Int32)) X.1) (gd (inB (w3 + (2 : Int32)) X.1) (bd2 (fN_give F G S (X.2 (w3 + (1 : Int32)).toNatClampNeg) (X.2 (w3 + (2 : Int32)).toNatClampNeg)) fun v124 S125 => gd (inB (w3 + (1 : Int32)) X.1) (gd (inB (w3 + (2 : Int32)) X.1) (bd2 (fM_give F G S125 (X.2 (w3 + (1 : Int32)).toNatClampNeg) (X.2 (w3 + (2 : Int32)).toNatClampNeg)) fun v129 S130 => if v124 = v129 then lt (w3 + 6) fun v132 => rec v132 S130 else some ((0 : Int32), S130))))) else if ((X.2 w3.toNatClampNeg) &&& (63 : Int32)) = 10 then gd (inB (w3 + (1 : Int32)) X.1) (gd (inB (w3 + (2 : Int32)) X.1) (bd2 (fN_shift F G S (X.2 (w3 + (1 : Int32)).toNatClampNeg) (X.2 (w3 + (2 : Int32)).toNatClampNeg)) fun v138 S139 => gd (inB (w3 + (1 : Int32)) X.1) (gd (inB (w3 + (2 : Int32)) X.1) (bd2 (fM_shift F G S139 (X.2 (w3 + (1 : Int32)).toNatClampNeg) (X.2 (w3 + (2 : Int32)).toNatClampNeg)) fun v143 S144 => if v138 = v143 then lt (w3 + 6) fun v146 => rec v146 S144 else some ((0 : Int32), S144))))) else if ((X.2 w3.toNatClampNeg) &&& (63 : Int32)) = 11 then gd (inB (w3 + (1 : Int32)) X.1) (gd (inB (w3 + (2 : Int32)) X.1) (bd2 (fN_louder F G S (X.2 (w3 + (1 : Int32)).toNatClampNeg) (X.2 (w3 + (2 : Int32)).toNatClampNeg)) fun v152 S153 => gd (inB (w3 + (1 : Int32)) X.1) (gd (inB (w3 + (2 : Int32)) X.1) (bd2 (fM_louder F G S153 (X.2 (w3 + (1 : Int32)).toNatClampNeg) (X.2 (w3 + (2 : Int32)).toNatClampNeg)) fun v157 S158 => if v152 = v157 then lt (w3 + 6) fun v160 => rec v160 S158 else some ((0 : Int32), S158))))) else if ((X.2 w3.toNatClampNeg) &&& (63 : Int32)) = 12 then gd (inB (w3 + (1 : Int32)) X.1) (gd (inB (w3 + (2 : Int32)) X.1) (bd2 (fN_last F G S (X.2 (w3 + (1 : Int32)).toNatClampNeg) (X.2 (w3 + (2 : Int32)).toNatClampNeg)) fun v166 S167 => gd (inB (w3 + (1 : Int32)) X.1) (gd (inB (w3 + (2 : Int32)) X.1) (bd2 (fM_last F G S167 (X.2 (w3 + (1 : Int32)).toNatClampNeg) (X.2 (w3 + (2 : Int32)).toNatClampNeg)) fun v171 S172 => if v166 = v171 then lt (w3 + 6) fun v174 => rec v174 S172 else some ((0 : Int32), S172))))) else if ((X.2 w3.toNatClampNeg) &&& (63 : Int32)) = 13 then gd (inB (w3 + (1 : Int32)) X.1) (bd2 (fN_pedal F G S (X.2 (w3 + (1 : Int32)).toNatClampNeg)) fun v179 S180 => gd (inB (w3 + (1 : Int32)) X.1) (bd2 (fM_pedal F G S180 (X.2 (w3 + (1 : Int32)).toNatClampNeg)) fun v183 S184 => if v179 = v183 then lt (w3 + 6) fun v186 => rec v186 S184 else some ((0 : Int32), S184))) else if ((X.2 w3.toNatClampNeg) &&& (63 : Int32)) = 14 then bd2 (fN_undo F G S) fun v190 S191 => bd2 (fM_undo F G S191) fun v193 S194 => if v190 = v193 then lt (w3 + 6) fun v196 => rec v196 S194 else some ((0 : Int32), S194) else if ((X.2 w3.toNatClampNeg) &&& (63 : Int32)) = 15 then bd2 (fN_redo F G S) fun v200 S201 => bd2 (fM_redo F G S201) fun v203 S204 => if v200 = v203 then lt (w3 + 6) fun v206 => rec v206 S204 else some ((0 : Int32), S204) else if ((X.2 w3.toNatClampNeg) &&& (63 : Int32)) = 16 then bd2 (fN_clashes F G S) fun v210 S211 => bd2 (fM_clashes F G S211) fun v213 S214 => if v210 = v213 then lt (w3 + 6) fun v216 => rec v216 S214 else some ((0 : Int32), S214) else if ((X.2 w3.toNatClampNeg) &&& (63 : Int32)) = 17 then bd2 (fN_loss F G S) fun v220 S221 => bd2 (fM_loss F G S221) fun v223 S224 => if v220 = v223 then lt (w3 + 6) fun v226 => rec v226 S224 else some ((0 : Int32), S224) else if ((X.2 w3.toNatClampNeg) &&& (63 : Int32)) = 18 then gd (inB (w3 + (1 : Int32)) X.1) (bd2 (fN_version F G S (X.2 (w3 + (1 : Int32)).toNatClampNeg)) fun v231 S232 => gd (inB (w3 + (1 : Int32)) X.1) (bd2 (fM_version F G S232 (X.2 (w3 + (1 : Int32)).toNatClampNeg)) fun v235 S236 => if v231 = v235 then lt (w3 + 6) fun v238 => rec v238 S236 else some ((0 : Int32), S236))) else if ((X.2 w3.toNatClampNeg) &&& (63 : Int32)) = 19 then gd (inB (w3 + (1 : Int32)) X.1) (gd (inB (w3 + (2 : Int32)) X.1) (bd2 (fN_child F G S (X.2 (w3 + (1 : Int32)).toNatClampNeg) (X.2 (w3 + (2 : Int32)).toNatClampNeg)) fun v244 S245 => gd (inB (w3 + (1 : Int32)) X.1) (gd (inB (w3 + (2 : Int32)) X.1) (bd2 (fM_child F G S245 (X.2 (w3 + (1 : Int32)).toNatClampNeg) (X.2 (w3 + (2 : Int32)).toNatClampNeg)) fun v249 S250 => if v244 = v249 then lt (w3 + 6) fun v252 => rec v252 S250 else some ((0 : Int32), S250))))) else if ((X.2 w3.toNatClampNeg) &&& (63 : Int32)) = 20 then gd (inB (w3 + (1 : Int32)) X.1) (gd (inB (w3 + (2 : Int32)) X.1) (bd2 (fN_forbids F G S (X.2 (w3 + (1 : Int32)).toNatClampNeg) (X.2 (w3 + (2 : Int32)).toNatClampNeg)) fun v258 S259 => gd (inB (w3 + (1 : Int32)) X.1) (gd (inB (w3 + (2 : Int32)) X.1) (bd2 (fM_forbids F G S259 (X.2 (w3 + (1 : Int32)).toNatClampNeg) (X.2 (w3 + (2 : Int32)).toNatClampNeg)) fun v263 S264 => if v258 = v263 then lt (w3 + 6) fun v266 => rec v266 S264 else some ((0 : Int32), S264))))) else if ((X.2 w3.toNatClampNeg) &&& (63 : Int32)) = 21 then gd (inB (w3 + (1 : Int32)) X.1) (gd (inB (w3 + (2 : Int32)) X.1) (gd (inB (w3 + (3 : Int32)) X.1) (bd2 (fN_giveway F G S (X.2 (w3 + (1 : Int32)).toNatClampNeg) (X.2 (w3 + (2 : Int32)).toNatClampNeg) (X.2 (w3 + (3 : Int32)).toNatClampNeg)) fun v273 S274 => gd (inB (w3 + (1 : Int32)) X.1) (gd (inB (w3 + (2 : Int32)) X.1) (gd (inB (w3 + (3 : Int32)) X.1) (bd2 (fM_giveway F G S274 (X.2 (w3 + (1 : Int32)).toNatClampNeg) (X.2 (w3 + (2 : Int32)).toNatClampNeg) (X.2 (w3 + (3 : Int32)).toNatClampNeg)) fun v279 S280 => if v273 = v279 then lt (w3 + 6) fun v282 => rec v282 S280 else some ((0 : Int32), S280))))))) else if ((X.2 w3.toNatClampNeg) &&& (63 : Int32)) = 22 then gd (inB (w3 + (1 : Int32)) X.1) (gd (inB (w3 + (2 : Int32)) X.1) (bd2 (fN_letin F G S (X.2 (w3 + (1 : Int32)).toNatClampNeg) (X.2 (w3 + (2 : Int32)).toNatClampNeg)) fun v288 S289 => gd (inB (w3 + (1 : Int32)) X.1) (gd (inB (w3 + (2 : Int32)) X.1) (bd2 (fM_letin F G S289 (X.2 (w3 + (1 : Int32)).toNatClampNeg) (X.2 (w3 + (2 : Int32)).toNatClampNeg)) fun v293 S294 => if v288 = v293 then lt (w3 + 6) fun v296 => rec v296 S294 else some ((0 : Int32), S294))))) else if ((X.2 w3.toNatClampNeg) &&& (63 : Int32)) = 23 then gd (inB (w3 + (1 : Int32)) X.1) (bd2 (fN_pedals F G S (X.2 (w3 + (1 : Int32)).toNatClampNeg)) fun v301 S302 => gd (inB (w3 + (1 : Int32)) X.1) (bd2 (fM_pedals F G S302 (X.2 (w3 + (1 : Int32)).toNatClampNeg)) fun v305 S306 => if v301 = v305 then lt (w3 + 6) fun v308 => rec v308 S306 else some ((0 : Int32), S306))) else if ((X.2 w3.toNatClampNeg) &&& (63 : Int32)) = 24 then gd (inB (w3 + (1 : Int32)) X.1) (bd2 (fN_spread F G S (X.2 (w3 + (1 : Int32)).toNatClampNeg)) fun v313 S314 => gd (inB (w3 + (1 : Int32)) X.1) (bd2 (fM_spread F G S314 (X.2 (w3 + (1 : Int32)).toNatClampNeg)) fun v317 S318 => if v313 = v317 then lt (w3 + 6) fun v320 => rec v320 S318 else some ((0 : Int32), S318))) else if ((X.2 w3.toNatClampNeg) &&& (63 : Int32)) = 25 then gd (inB (w3 + (1 : Int32)) X.1) (bd2 (fN_leaps F G S (X.2 (w3 + (1 : Int32)).toNatClampNeg)) fun v325 S326 => gd (inB (w3 + (1 : Int32)) X.1) (bd2 (fM_leaps F G S326 (X.2 (w3 + (1 : Int32)).toNatClampNeg)) fun v329 S330 => if v325 = v329 then lt (w3 + 6) fun v332 => rec v332 S330 else some ((0 : Int32), S330))) else if ((X.2 w3.toNatClampNeg) &&& (63 : Int32)) = 26 then bd2 (fN_blur F G S) fun v336 S337 => bd2 (fM_blur F G S337) fun v339 S340 => if v336 = v339 then lt (w3 + 6) fun v342 => rec v342 S340 else some ((0 : Int32), S340) else if ((X.2 w3.toNatClampNeg) &&& (63 : Int32)) = 27 then gd (inB (w3 + (1 : Int32)) X.1) (bd2 (fN_open F G S (X.2 (w3 + (1 : Int32)).toNatClampNeg)) fun v347 S348 => gd (inB (w3 + (1 : Int32)) X.1) (bd2 (fM_open F G S348 (X.2 (w3 + (1 : Int32)).toNatClampNeg)) fun v351 S352 => if v347 = v351 then lt (w3 + 6) fun v354 => rec v354 S352 else some ((0 : Int32), S352))) else if ((X.2 w3.toNatClampNeg) &&& (63 : Int32)) = 28 then bd2 (fN_lost F G S) fun v358 S359 => bd2 (fM_lost F G S359) fun v361 S362 => if v358 = v361 then lt (w3 + 6) fun v364 => rec v364 S362 else some ((0 : Int32), S362) else if ((X.2 w3.toNatClampNeg) &&& (63 : Int32)) = 29 then bd2 (fN_gaps F G S) fun v368 S369 => bd2 (fM_gaps F G S369) fun v371 S372 => if v368 = v371 then lt (w3 + 6) fun v374 => rec v374 S372 else some ((0 : Int32), S372) else if ((X.2 w3.toNatClampNeg) &&& (63 : Int32)) = 30 then gd (inB (w3 + (1 : Int32)) X.1) (bd2 (fN_easier F G S (X.2 (w3 + (1 : Int32)).toNatClampNeg)) fun v379 S380 => gd (inB (w3 + (1 : Int32)) X.1) (bd2 (fM_easier F G S380 (X.2 (w3 + (1 : Int32)).toNatClampNeg)) fun v383 S384 => if v379 = v383 then lt (w3 + 6) fun v386 => rec v386 S384 else some ((0 : Int32), S384))) else if ((X.2 w3.toNatClampNeg) &&& (63 : Int32)) = 31 then bd2 (fN_thickest F G S) fun v390 S391 => bd2 (fM_thickest F G S391) fun v393 S394 => if v390 = v393 then lt (w3 + 6) fun v396 => rec v396 S394 else some ((0 : Int32), S394) else if ((X.2 w3.toNatClampNeg) &&& (63 : Int32)) = 32 then gd (inB (w3 + (1 : Int32)) X.1) (bd2 (fN_busiest F G S (X.2 (w3 + (1 : Int32)).toNatClampNeg)) fun v401 S402 => gd (inB (w3 + (1 : Int32)) X.1) (bd2 (fM_busiest F G S402 (X.2 (w3 + (1 : Int32)).toNatClampNeg)) fun v405 S406 => if v401 = v405 then lt (w3 + 6) fun v408 => rec v408 S406 else some ((0 : Int32), S406))) else if ((X.2 w3.toNatClampNeg) &&& (63 : Int32)) = 33 then gd (inB (w3 + (1 : Int32)) X.1) (bd2 (fN_law F G S (X.2 (w3 + (1 : Int32)).toNatClampNeg)) fun v413 S414 => gd (inB (w3 + (1 : Int32)) X.1) (bd2 (fM_law F G S414 (X.2 (w3 + (1 : Int32)).toNatClampNeg)) fun v417 S418 => if v413 = v417 then lt (w3 + 6) fun v420 => rec v420 S418 else some ((0 : Int32), S418))) else if ((X.2 w3.toNatClampNeg) &&& (63 : Int32)) = 34 then bd2 (fN_dearest F G S) fun v424 S425 => bd2 (fM_dearest F G S425) fun v427 S428 => if v424 = v427 then lt (w3 + 6) fun v430 => rec v430 S428 else some ((0 : Int32), S428) else if ((X.2 w3.toNatClampNeg) &&& (63 : Int32)) = 35 then gd (inB (w3 + (1 : Int32)) X.1) (bd2 (fN_could F G S (X.2 (w3 + (1 : Int32)).toNatClampNeg)) fun v435 S436 => gd (inB (w3 + (1 : Int32)) X.1) (bd2 (fM_could F G S436 (X.2 (w3 + (1 : Int32)).toNatClampNeg)) fun v439 S440 => if v435 = v439 then lt (w3 + 6) fun v442 => rec v442 S440 else some ((0 : Int32), S440))) else if ((X.2 w3.toNatClampNeg) &&& (63 : Int32)) = 36 then gd (inB (w3 + (1 : Int32)) X.1) (bd (fN_lies F G S (X.2 (w3 + (1 : Int32)).toNatClampNeg)) fun v447 => gd (inB (w3 + (1 : Int32)) X.1) (bd (fM_lies F G S (X.2 (w3 + (1 : Int32)).toNatClampNeg)) fun v450 => if v447 = v450 then lt (w3 + 6) fun v452 => rec v452 S else some ((0 : Int32), S))) else if ((X.2 w3.toNatClampNeg) &&& (63 : Int32)) = 37 then gd (inB (w3 + (1 : Int32)) X.1) (gd (inB (w3 + (2 : Int32)) X.1) (gd (inB (w3 + (3 : Int32)) X.1) (if (X.2 (w3 + (3 : Int32)).toNatClampNeg) = 0 then j_Z_law_1171 F G X rec  S w3 (X.2 (w3 + (1 : Int32)).toNatClampNeg) (X.2 (w3 + (2 : Int32)).toNatClampNeg) (0 : Int32) else j_Z_law_1171 F G X rec  S w3 (X.2 (w3 + (1 : Int32)).toNatClampNeg) (X.2 (w3 + (2 : Int32)).toNatClampNeg) (1 : Int32)))) else if ((X.2 w3.toNatClampNeg) &&& (63 : Int32)) = 38 then gd (inB (w3 + (1 : Int32)) X.1) (bd2 (fN_untell F G S (X.2 (w3 + (1 : Int32)).toNatClampNeg)) fun v462 S463 => gd (inB (w3 + (1 : Int32)) X.1) (bd2 (fM_untell F G S463 (X.2 (w3 + (1 : Int32)).toNatClampNeg)) fun v466 S467 => if v462 = v466 then lt (w3 + 6) fun v469 => rec v469 S467 else some ((0 : Int32), S467))) else if ((X.2 w3.toNatClampNeg) &&& (63 : Int32)) = 39 then gd (inB (w3 + (1 : Int32)) X.1) (bd2 (fN_later F G S (X.2 (w3 + (1 : Int32)).toNatClampNeg)) fun v474 S475 => gd (inB (w3 + (1 : Int32)) X.1) (bd2 (fM_later F G S475 (X.2 (w3 + (1 : Int32)).toNatClampNeg)) fun v478 S479 => if v474 = v478 then lt (w3 + 6) fun v481 => rec v481 S479 else some ((0 : Int32), S479))) else if ((X.2 w3.toNatClampNeg) &&& (63 : Int32)) = 40 then gd (inB (w3 + (1 : Int32)) X.1) (bd2 (fN_sets F G S (X.2 (w3 + (1 : Int32)).toNatClampNeg)) fun v486 S487 => gd (inB (w3 + (1 : Int32)) X.1) (bd2 (fM_sets F G S487 (X.2 (w3 + (1 : Int32)).toNatClampNeg)) fun v490 S491 => if v486 = v490 then lt (w3 + 6) fun v493 => rec v493 S491 else some ((0 : Int32), S491))) else if ((X.2 w3.toNatClampNeg) &&& (63 : Int32)) = 41 then gd (inB (w3 + (1 : Int32)) X.1) (gd (inB (w3 + (2 : Int32)) X.1) (bd2 (fN_sure F G S (X.2 (w3 + (1 : Int32)).toNatClampNeg) (X.2 (w3 + (2 : Int32)).toNatClampNeg)) fun v499 S500 => gd (inB (w3 + (1 : Int32)) X.1) (gd (inB (w3 + (2 : Int32)) X.1) (bd2 (fM_sure F G S500 (X.2 (w3 + (1 : Int32)).toNatClampNeg) (X.2 (w3 + (2 : Int32)).toNatClampNeg)) fun v504 S505 => if v499 = v504 then lt (w3 + 6) fun v507 => rec v507 S505 else some ((0 : Int32), S505))))) else if ((X.2 w3.toNatClampNeg) &&& (63 : Int32)) = 42 then gd (inB (w3 + (1 : Int32)) X.1) (gd (inB (w3 + (2 : Int32)) X.1) (bd2 (fN_ask F G S (X.2 (w3 + (1 : Int32)).toNatClampNeg) (X.2 (w3 + (2 : Int32)).toNatClampNeg)) fun v513 S514 => gd (inB (w3 + (1 : Int32)) X.1) (gd (inB (w3 + (2 : Int32)) X.1) (bd2 (fM_ask F G S514 (X.2 (w3 + (1 : Int32)).toNatClampNeg) (X.2 (w3 + (2 : Int32)).toNatClampNeg)) fun v518 S519 => if v513 = v518 then lt (w3 + 6) fun v521 => rec v521 S519 else some ((0 : Int32), S519))))) else if ((X.2 w3.toNatClampNeg) &&& (63 : Int32)) = 43 then gd (inB (w3 + (1 : Int32)) X.1) (bd2 (fN_image F G S (X.2 (w3 + (1 : Int32)).toNatClampNeg)) fun v526 S527 => gd (inB (w3 + (1 : Int32)) X.1) (bd2 (fM_image F G S527 (X.2 (w3 + (1 : Int32)).toNatClampNeg)) fun v530 S531 => if v526 = v530 then lt (w3 + 6) fun v533 => rec v533 S531 else some ((0 : Int32), S531))) else if ((X.2 w3.toNatClampNeg) &&& (63 : Int32)) = 44 then gd (inB (w3 + (1 : Int32)) X.1) (bd2 (fN_back F G S (X.2 (w3 + (1 : Int32)).toNatClampNeg)) fun v538 S539 => gd (inB (w3 + (1 : Int32)) X.1) (bd2 (fM_back F G S539 (X.2 (w3 + (1 : Int32)).toNatClampNeg)) fun v542 S543 => if v538 = v542 then lt (w3 + 6) fun v545 => rec v545 S543 else some ((0 : Int32), S543))) else if ((X.2 w3.toNatClampNeg) &&& (63 : Int32)) = 45 then gd (inB (w3 + (1 : Int32)) X.1) (bd (fN_differ F G S (X.2 (w3 + (1 : Int32)).toNatClampNeg)) fun v550 => gd (inB (w3 + (1 : Int32)) X.1) (bd (fM_differ F G S (X.2 (w3 + (1 : Int32)).toNatClampNeg)) fun v553 => if v550 = v553 then lt (w3 + 6) fun v555 => rec v555 S else some ((0 : Int32), S))) else if ((X.2 w3.toNatClampNeg) &&& (63 : Int32)) = 46 then gd (inB (w3 + (1 : Int32)) X.1) (bd (fN_about F G S (X.2 (w3 + (1 : Int32)).toNatClampNeg)) fun v560 => gd (inB (w3 + (1 : Int32)) X.1) (bd (fM_about F G S (X.2 (w3 + (1 : Int32)).toNatClampNeg)) fun v563 => if v560 = v563 then lt (w3 + 6) fun v565 => rec v565 S else some ((0 : Int32), S))) else lt (w3 + 6) fun v567 => rec v567 S)
set_option maxRecDepth 100000 in
set_option maxHeartbeats 4000000 in
theorem T_Z_law_18 {X : Nat × (Nat → Int32)} {D F G : Nat} (hD : 11 + G ≤ D + 1) : ∀ (f : Nat) (w3 : Int32) (S : St) (res : Int32 × St), fx2 (b_Z_law_18 F G X ) f w3 S = some res → Ek X (D + 1) mZ_law 18 [(0, .ref 1010), (1, .ref 0), (2, .ref 78), (3, .int w3)] [] S (some (.int res.1)) res.2 := by
  refine fx2_ind ?_
  intro rec ih w3 S res h
  unfold b_Z_law_18 at h
  have J1198 : ∀ (S : St) (y3 : Int32) (s0 : Int32) (s2 : Int32) (s3 : Int32) (s4 : Int32) (res : Int32 × St), j_Z_law_1198 F G X rec S y3 s0 s2 s3 s4 = some res → Ek X (D + 1) mZ_law 1198 [(0, .ref 1010), (1, .ref 0), (2, .ref 78), (3, .int y3)] [.int s4, .int s3, .int s2, .ref 78, .int s0] S (some (.int res.1)) res.2 := by
    intro S y3 s0 s2 s3 s4 res h
    unfold j_Z_law_1198 at h
    obtain ⟨v577, S578, q576, h⟩ := bd2_inv h
    refine y_V3i (v := v577) (S1 := S578) d_Z_law_1198 ml_13_171 kd_78 rfl (Nat.le_of_ble_eq_true rfl) (Nat.le_of_ble_eq_true rfl) (c_M_heard (by omega) q576) ?_
    refine x_icmp_eq (tgt := 1433) d_Z_law_1201 rfl (fun c579 => ?_) (fun c579 => ?_)
    · replace h := ite_t c579 h
      obtain ⟨v580, e581, h⟩ := lt_inv h
      refine y_iinc (L1 := [(0, .ref 1010), (1, .ref 0), (2, .ref 78), (3, .int v580)]) e581 ic_6 d_Z_law_1433 3 rfl (Nat.le_of_ble_eq_true rfl) rfl rfl ?_
      refine x_goto (tgt := 18) d_Z_law_1436 rfl ?_
      exact ih v580 S578 _ h
    · replace h := ite_f c579 h
      refine x_iconst d_Z_law_1204 ic_0 ?_
      obtain rfl := Option.some.inj h
      exact x_ret (r := some (.int (0 : Int32))) d_Z_law_1205 ⟨_, rfl, rfl⟩
  have J1171 : ∀ (S : St) (y3 : Int32) (s1 : Int32) (s2 : Int32) (s3 : Int32) (res : Int32 × St), j_Z_law_1171 F G X rec S y3 s1 s2 s3 = some res → Ek X (D + 1) mZ_law 1171 [(0, .ref 1010), (1, .ref 0), (2, .ref 78), (3, .int y3)] [.int s3, .int s2, .int s1, .ref 0] S (some (.int res.1)) res.2 := by
    intro S y3 s1 s2 s3 res h
    unfold j_Z_law_1171 at h
    obtain ⟨v570, S571, q569, h⟩ := bd2_inv h
    refine y_V3i (v := v570) (S1 := S571) d_Z_law_1171 ml_13_167 kd_0 rfl (Nat.le_of_ble_eq_true rfl) (Nat.le_of_ble_eq_true rfl) (c_N_heard (by omega) q569) ?_
    refine x_aload_n d_Z_law_1174 rfl 2 rfl ?_
    refine x_aload_n d_Z_law_1175 rfl 0 rfl ?_
    refine x_iload_n d_Z_law_1176 rfl 3 rfl ?_
    refine x_iconst d_Z_law_1177 ic_1 ?_
    refine x_iadd d_Z_law_1178 ?_
    obtain ⟨g572, h⟩ := gd_inv h
    refine x_sald d_Z_law_1179 (inB_in g572) ?_
    refine x_aload_n d_Z_law_1180 rfl 0 rfl ?_
    refine x_iload_n d_Z_law_1181 rfl 3 rfl ?_
    refine x_iconst d_Z_law_1182 ic_2 ?_
    refine x_iadd d_Z_law_1183 ?_
    obtain ⟨g573, h⟩ := gd_inv h
    refine x_sald d_Z_law_1184 (inB_in g573) ?_
    refine x_aload_n d_Z_law_1185 rfl 0 rfl ?_
    refine x_iload_n d_Z_law_1186 rfl 3 rfl ?_
    refine x_iconst d_Z_law_1187 ic_3 ?_
    refine x_iadd d_Z_law_1188 ?_
    obtain ⟨g574, h⟩ := gd_inv h
    refine x_sald d_Z_law_1189 (inB_in g574) ?_
    refine x_if_eq (tgt := 1197) d_Z_law_1190 rfl (fun c575 => ?_) (fun c575 => ?_)
    · replace h := ite_t c575 h
      refine x_iconst d_Z_law_1197 ic_0 ?_
      exact J1198 S571 y3 v570 (X.2 (y3 + (1 : Int32)).toNatClampNeg) (X.2 (y3 + (2 : Int32)).toNatClampNeg) (0 : Int32) _ h
    · replace h := ite_f c575 h
      refine x_iconst d_Z_law_1193 ic_1 ?_
      refine x_goto (tgt := 1198) d_Z_law_1194 rfl ?_
      exact J1198 S571 y3 v570 (X.2 (y3 + (1 : Int32)).toNatClampNeg) (X.2 (y3 + (2 : Int32)).toNatClampNeg) (1 : Int32) _ h
  refine x_iload_n d_Z_law_18 rfl 3 rfl ?_
  refine x_aload_n d_Z_law_19 rfl 0 rfl ?_
  refine x_salen d_Z_law_20 ?_
  refine x_bipush d_Z_law_21 bp_6 ?_
  refine x_isub d_Z_law_23 ?_
  refine x_icmp_gt (tgt := 1439) d_Z_law_24 rfl (fun c1 => ?_) (fun c1 => ?_)
  · replace h := ite_t c1 h
    refine x_iconst d_Z_law_1439 ic_1 ?_
    obtain rfl := Option.some.inj h
    exact x_ret (r := some (.int (1 : Int32))) d_Z_law_1440 ⟨_, rfl, rfl⟩
  · replace h := ite_f c1 h
    refine x_aload_n d_Z_law_27 rfl 0 rfl ?_
    refine x_iload_n d_Z_law_28 rfl 3 rfl ?_
    obtain ⟨g2, h⟩ := gd_inv h
    refine x_sald d_Z_law_29 (inB_in g2) ?_
    refine x_bipush d_Z_law_30 bp_63 ?_
    refine x_iand d_Z_law_32 ?_
    by_cases c3 : ((X.2 w3.toNatClampNeg) &&& (63 : Int32)) = 0
    · replace h := ite_t c3 h
      refine x_tabC (tgt := 236) 0 d_Z_law_33 (by rw [c3]; rfl) (by decide) rfl rfl ?_
      refine x_aload_n d_Z_law_236 rfl 1 rfl ?_
      refine x_aload_n d_Z_law_237 rfl 0 rfl ?_
      refine x_iload_n d_Z_law_238 rfl 3 rfl ?_
      refine x_iconst d_Z_law_239 ic_1 ?_
      refine x_iadd d_Z_law_240 ?_
      obtain ⟨g4, h⟩ := gd_inv h
      refine x_sald d_Z_law_241 (inB_in g4) ?_
      refine x_aload_n d_Z_law_242 rfl 0 rfl ?_
      refine x_iload_n d_Z_law_243 rfl 3 rfl ?_
      refine x_iconst d_Z_law_244 ic_2 ?_
      refine x_iadd d_Z_law_245 ?_
      obtain ⟨g5, h⟩ := gd_inv h
      refine x_sald d_Z_law_246 (inB_in g5) ?_
      refine x_aload_n d_Z_law_247 rfl 0 rfl ?_
      refine x_iload_n d_Z_law_248 rfl 3 rfl ?_
      refine x_iconst d_Z_law_249 ic_3 ?_
      refine x_iadd d_Z_law_250 ?_
      obtain ⟨g6, h⟩ := gd_inv h
      refine x_sald d_Z_law_251 (inB_in g6) ?_
      refine x_aload_n d_Z_law_252 rfl 0 rfl ?_
      refine x_iload_n d_Z_law_253 rfl 3 rfl ?_
      refine x_iconst d_Z_law_254 ic_4 ?_
      refine x_iadd d_Z_law_255 ?_
      obtain ⟨g7, h⟩ := gd_inv h
      refine x_sald d_Z_law_256 (inB_in g7) ?_
      refine x_aload_n d_Z_law_257 rfl 0 rfl ?_
      refine x_iload_n d_Z_law_258 rfl 3 rfl ?_
      refine x_iconst d_Z_law_259 ic_5 ?_
      refine x_iadd d_Z_law_260 ?_
      obtain ⟨g8, h⟩ := gd_inv h
      refine x_sald d_Z_law_261 (inB_in g8) ?_
      obtain ⟨v10, S11, q9, h⟩ := bd2_inv h
      refine y_V5i (v := v10) (S1 := S11) d_Z_law_262 ml_13_13 kd_0 rfl (Nat.le_of_ble_eq_true rfl) (Nat.le_of_ble_eq_true rfl) (c_N_feed (by omega) q9) ?_
      refine x_aload_n d_Z_law_265 rfl 2 rfl ?_
      refine x_aload_n d_Z_law_266 rfl 0 rfl ?_
      refine x_iload_n d_Z_law_267 rfl 3 rfl ?_
      refine x_iconst d_Z_law_268 ic_1 ?_
      refine x_iadd d_Z_law_269 ?_
      obtain ⟨g12, h⟩ := gd_inv h
      refine x_sald d_Z_law_270 (inB_in g12) ?_
      refine x_aload_n d_Z_law_271 rfl 0 rfl ?_
      refine x_iload_n d_Z_law_272 rfl 3 rfl ?_
      refine x_iconst d_Z_law_273 ic_2 ?_
      refine x_iadd d_Z_law_274 ?_
      obtain ⟨g13, h⟩ := gd_inv h
      refine x_sald d_Z_law_275 (inB_in g13) ?_
      refine x_aload_n d_Z_law_276 rfl 0 rfl ?_
      refine x_iload_n d_Z_law_277 rfl 3 rfl ?_
      refine x_iconst d_Z_law_278 ic_3 ?_
      refine x_iadd d_Z_law_279 ?_
      obtain ⟨g14, h⟩ := gd_inv h
      refine x_sald d_Z_law_280 (inB_in g14) ?_
      refine x_aload_n d_Z_law_281 rfl 0 rfl ?_
      refine x_iload_n d_Z_law_282 rfl 3 rfl ?_
      refine x_iconst d_Z_law_283 ic_4 ?_
      refine x_iadd d_Z_law_284 ?_
      obtain ⟨g15, h⟩ := gd_inv h
      refine x_sald d_Z_law_285 (inB_in g15) ?_
      refine x_aload_n d_Z_law_286 rfl 0 rfl ?_
      refine x_iload_n d_Z_law_287 rfl 3 rfl ?_
      refine x_iconst d_Z_law_288 ic_5 ?_
      refine x_iadd d_Z_law_289 ?_
      obtain ⟨g16, h⟩ := gd_inv h
      refine x_sald d_Z_law_290 (inB_in g16) ?_
      obtain ⟨v18, S19, q17, h⟩ := bd2_inv h
      refine y_V5i (v := v18) (S1 := S19) d_Z_law_291 ml_13_17 kd_78 rfl (Nat.le_of_ble_eq_true rfl) (Nat.le_of_ble_eq_true rfl) (c_M_feed (by omega) q17) ?_
      refine x_icmp_eq (tgt := 1433) d_Z_law_294 rfl (fun c20 => ?_) (fun c20 => ?_)
      · replace h := ite_t c20 h
        obtain ⟨v21, e22, h⟩ := lt_inv h
        refine y_iinc (L1 := [(0, .ref 1010), (1, .ref 0), (2, .ref 78), (3, .int v21)]) e22 ic_6 d_Z_law_1433 3 rfl (Nat.le_of_ble_eq_true rfl) rfl rfl ?_
        refine x_goto (tgt := 18) d_Z_law_1436 rfl ?_
        exact ih v21 S19 _ h
      · replace h := ite_f c20 h
        refine x_iconst d_Z_law_297 ic_0 ?_
        obtain rfl := Option.some.inj h
        exact x_ret (r := some (.int (0 : Int32))) d_Z_law_298 ⟨_, rfl, rfl⟩
    replace h := ite_f c3 h
    by_cases c23 : ((X.2 w3.toNatClampNeg) &&& (63 : Int32)) = 1
    · replace h := ite_t c23 h
      refine x_tabC (tgt := 299) 1 d_Z_law_33 (by rw [c23]; rfl) (by decide) rfl rfl ?_
      refine x_aload_n d_Z_law_299 rfl 1 rfl ?_
      refine x_aload_n d_Z_law_300 rfl 0 rfl ?_
      refine x_iload_n d_Z_law_301 rfl 3 rfl ?_
      refine x_iconst d_Z_law_302 ic_1 ?_
      refine x_iadd d_Z_law_303 ?_
      obtain ⟨g24, h⟩ := gd_inv h
      refine x_sald d_Z_law_304 (inB_in g24) ?_
      obtain ⟨v26, S27, q25, h⟩ := bd2_inv h
      refine y_V1i (v := v26) (S1 := S27) d_Z_law_305 ml_13_18 kd_0 rfl (Nat.le_of_ble_eq_true rfl) (Nat.le_of_ble_eq_true rfl) (c_N_end (by omega) q25) ?_
      refine x_aload_n d_Z_law_308 rfl 2 rfl ?_
      refine x_aload_n d_Z_law_309 rfl 0 rfl ?_
      refine x_iload_n d_Z_law_310 rfl 3 rfl ?_
      refine x_iconst d_Z_law_311 ic_1 ?_
      refine x_iadd d_Z_law_312 ?_
      obtain ⟨g28, h⟩ := gd_inv h
      refine x_sald d_Z_law_313 (inB_in g28) ?_
      obtain ⟨v30, S31, q29, h⟩ := bd2_inv h
      refine y_V1i (v := v30) (S1 := S31) d_Z_law_314 ml_13_22 kd_78 rfl (Nat.le_of_ble_eq_true rfl) (Nat.le_of_ble_eq_true rfl) (c_M_end (by omega) q29) ?_
      refine x_icmp_eq (tgt := 1433) d_Z_law_317 rfl (fun c32 => ?_) (fun c32 => ?_)
      · replace h := ite_t c32 h
        obtain ⟨v33, e34, h⟩ := lt_inv h
        refine y_iinc (L1 := [(0, .ref 1010), (1, .ref 0), (2, .ref 78), (3, .int v33)]) e34 ic_6 d_Z_law_1433 3 rfl (Nat.le_of_ble_eq_true rfl) rfl rfl ?_
        refine x_goto (tgt := 18) d_Z_law_1436 rfl ?_
        exact ih v33 S31 _ h
      · replace h := ite_f c32 h
        refine x_iconst d_Z_law_320 ic_0 ?_
        obtain rfl := Option.some.inj h
        exact x_ret (r := some (.int (0 : Int32))) d_Z_law_321 ⟨_, rfl, rfl⟩
    replace h := ite_f c23 h
    by_cases c35 : ((X.2 w3.toNatClampNeg) &&& (63 : Int32)) = 2
    · replace h := ite_t c35 h
      refine x_tabC (tgt := 322) 2 d_Z_law_33 (by rw [c35]; rfl) (by decide) rfl rfl ?_
      refine x_aload_n d_Z_law_322 rfl 1 rfl ?_
      obtain ⟨v37, S38, q36, h⟩ := bd2_inv h
      refine y_V0i (v := v37) (S1 := S38) d_Z_law_323 ml_13_23 kd_0 rfl (Nat.le_of_ble_eq_true rfl) (Nat.le_of_ble_eq_true rfl) (c_N_score (by omega) q36) ?_
      refine x_aload_n d_Z_law_326 rfl 2 rfl ?_
      obtain ⟨v40, S41, q39, h⟩ := bd2_inv h
      refine y_V0i (v := v40) (S1 := S41) d_Z_law_327 ml_13_27 kd_78 rfl (Nat.le_of_ble_eq_true rfl) (Nat.le_of_ble_eq_true rfl) (c_M_score (by omega) q39) ?_
      refine x_icmp_eq (tgt := 1433) d_Z_law_330 rfl (fun c42 => ?_) (fun c42 => ?_)
      · replace h := ite_t c42 h
        obtain ⟨v43, e44, h⟩ := lt_inv h
        refine y_iinc (L1 := [(0, .ref 1010), (1, .ref 0), (2, .ref 78), (3, .int v43)]) e44 ic_6 d_Z_law_1433 3 rfl (Nat.le_of_ble_eq_true rfl) rfl rfl ?_
        refine x_goto (tgt := 18) d_Z_law_1436 rfl ?_
        exact ih v43 S41 _ h
      · replace h := ite_f c42 h
        refine x_iconst d_Z_law_333 ic_0 ?_
        obtain rfl := Option.some.inj h
        exact x_ret (r := some (.int (0 : Int32))) d_Z_law_334 ⟨_, rfl, rfl⟩
    replace h := ite_f c35 h
    by_cases c45 : ((X.2 w3.toNatClampNeg) &&& (63 : Int32)) = 3
    · replace h := ite_t c45 h
      refine x_tabC (tgt := 335) 3 d_Z_law_33 (by rw [c45]; rfl) (by decide) rfl rfl ?_
      refine x_aload_n d_Z_law_335 rfl 1 rfl ?_
      refine x_aload_n d_Z_law_336 rfl 0 rfl ?_
      refine x_iload_n d_Z_law_337 rfl 3 rfl ?_
      refine x_iconst d_Z_law_338 ic_1 ?_
      refine x_iadd d_Z_law_339 ?_
      obtain ⟨g46, h⟩ := gd_inv h
      refine x_sald d_Z_law_340 (inB_in g46) ?_
      obtain ⟨v48, q47, h⟩ := bd_inv h
      refine y_V1i (v := v48) (S1 := S) d_Z_law_341 ml_13_28 kd_0 rfl (Nat.le_of_ble_eq_true rfl) (Nat.le_of_ble_eq_true rfl) (c_N_fault (by omega) q47) ?_
      refine x_aload_n d_Z_law_344 rfl 2 rfl ?_
      refine x_aload_n d_Z_law_345 rfl 0 rfl ?_
      refine x_iload_n d_Z_law_346 rfl 3 rfl ?_
      refine x_iconst d_Z_law_347 ic_1 ?_
      refine x_iadd d_Z_law_348 ?_
      obtain ⟨g49, h⟩ := gd_inv h
      refine x_sald d_Z_law_349 (inB_in g49) ?_
      obtain ⟨v51, q50, h⟩ := bd_inv h
      refine y_V1i (v := v51) (S1 := S) d_Z_law_350 ml_13_31 kd_78 rfl (Nat.le_of_ble_eq_true rfl) (Nat.le_of_ble_eq_true rfl) (c_M_fault (by omega) q50) ?_
      refine x_icmp_eq (tgt := 1433) d_Z_law_353 rfl (fun c52 => ?_) (fun c52 => ?_)
      · replace h := ite_t c52 h
        obtain ⟨v53, e54, h⟩ := lt_inv h
        refine y_iinc (L1 := [(0, .ref 1010), (1, .ref 0), (2, .ref 78), (3, .int v53)]) e54 ic_6 d_Z_law_1433 3 rfl (Nat.le_of_ble_eq_true rfl) rfl rfl ?_
        refine x_goto (tgt := 18) d_Z_law_1436 rfl ?_
        exact ih v53 S _ h
      · replace h := ite_f c52 h
        refine x_iconst d_Z_law_356 ic_0 ?_
        obtain rfl := Option.some.inj h
        exact x_ret (r := some (.int (0 : Int32))) d_Z_law_357 ⟨_, rfl, rfl⟩
    replace h := ite_f c45 h
    by_cases c55 : ((X.2 w3.toNatClampNeg) &&& (63 : Int32)) = 4
    · replace h := ite_t c55 h
      refine x_tabC (tgt := 358) 4 d_Z_law_33 (by rw [c55]; rfl) (by decide) rfl rfl ?_
      refine x_aload_n d_Z_law_358 rfl 1 rfl ?_
      refine x_aload_n d_Z_law_359 rfl 0 rfl ?_
      refine x_iload_n d_Z_law_360 rfl 3 rfl ?_
      refine x_iconst d_Z_law_361 ic_1 ?_
      refine x_iadd d_Z_law_362 ?_
      obtain ⟨g56, h⟩ := gd_inv h
      refine x_sald d_Z_law_363 (inB_in g56) ?_
      refine x_aload_n d_Z_law_364 rfl 0 rfl ?_
      refine x_iload_n d_Z_law_365 rfl 3 rfl ?_
      refine x_iconst d_Z_law_366 ic_2 ?_
      refine x_iadd d_Z_law_367 ?_
      obtain ⟨g57, h⟩ := gd_inv h
      refine x_sald d_Z_law_368 (inB_in g57) ?_
      obtain ⟨v59, S60, q58, h⟩ := bd2_inv h
      refine y_V2i (v := v59) (S1 := S60) d_Z_law_369 ml_13_32 kd_0 rfl (Nat.le_of_ble_eq_true rfl) (Nat.le_of_ble_eq_true rfl) (c_N_note (by omega) q58) ?_
      refine x_aload_n d_Z_law_372 rfl 2 rfl ?_
      refine x_aload_n d_Z_law_373 rfl 0 rfl ?_
      refine x_iload_n d_Z_law_374 rfl 3 rfl ?_
      refine x_iconst d_Z_law_375 ic_1 ?_
      refine x_iadd d_Z_law_376 ?_
      obtain ⟨g61, h⟩ := gd_inv h
      refine x_sald d_Z_law_377 (inB_in g61) ?_
      refine x_aload_n d_Z_law_378 rfl 0 rfl ?_
      refine x_iload_n d_Z_law_379 rfl 3 rfl ?_
      refine x_iconst d_Z_law_380 ic_2 ?_
      refine x_iadd d_Z_law_381 ?_
      obtain ⟨g62, h⟩ := gd_inv h
      refine x_sald d_Z_law_382 (inB_in g62) ?_
      obtain ⟨v64, S65, q63, h⟩ := bd2_inv h
      refine y_V2i (v := v64) (S1 := S65) d_Z_law_383 ml_13_36 kd_78 rfl (Nat.le_of_ble_eq_true rfl) (Nat.le_of_ble_eq_true rfl) (c_M_note (by omega) q63) ?_
      refine x_icmp_eq (tgt := 1433) d_Z_law_386 rfl (fun c66 => ?_) (fun c66 => ?_)
      · replace h := ite_t c66 h
        obtain ⟨v67, e68, h⟩ := lt_inv h
        refine y_iinc (L1 := [(0, .ref 1010), (1, .ref 0), (2, .ref 78), (3, .int v67)]) e68 ic_6 d_Z_law_1433 3 rfl (Nat.le_of_ble_eq_true rfl) rfl rfl ?_
        refine x_goto (tgt := 18) d_Z_law_1436 rfl ?_
        exact ih v67 S65 _ h
      · replace h := ite_f c66 h
        refine x_iconst d_Z_law_389 ic_0 ?_
        obtain rfl := Option.some.inj h
        exact x_ret (r := some (.int (0 : Int32))) d_Z_law_390 ⟨_, rfl, rfl⟩
    replace h := ite_f c55 h
    by_cases c69 : ((X.2 w3.toNatClampNeg) &&& (63 : Int32)) = 5
    · replace h := ite_t c69 h
      refine x_tabC (tgt := 391) 5 d_Z_law_33 (by rw [c69]; rfl) (by decide) rfl rfl ?_
      refine x_aload_n d_Z_law_391 rfl 1 rfl ?_
      refine x_aload_n d_Z_law_392 rfl 0 rfl ?_
      refine x_iload_n d_Z_law_393 rfl 3 rfl ?_
      refine x_iconst d_Z_law_394 ic_1 ?_
      refine x_iadd d_Z_law_395 ?_
      obtain ⟨g70, h⟩ := gd_inv h
      refine x_sald d_Z_law_396 (inB_in g70) ?_
      refine x_aload_n d_Z_law_397 rfl 0 rfl ?_
      refine x_iload_n d_Z_law_398 rfl 3 rfl ?_
      refine x_iconst d_Z_law_399 ic_2 ?_
      refine x_iadd d_Z_law_400 ?_
      obtain ⟨g71, h⟩ := gd_inv h
      refine x_sald d_Z_law_401 (inB_in g71) ?_
      obtain ⟨v73, q72, h⟩ := bd_inv h
      refine y_V2i (v := v73) (S1 := S) d_Z_law_402 ml_13_37 kd_0 rfl (Nat.le_of_ble_eq_true rfl) (Nat.le_of_ble_eq_true rfl) (c_N_part (by omega) q72) ?_
      refine x_aload_n d_Z_law_405 rfl 2 rfl ?_
      refine x_aload_n d_Z_law_406 rfl 0 rfl ?_
      refine x_iload_n d_Z_law_407 rfl 3 rfl ?_
      refine x_iconst d_Z_law_408 ic_1 ?_
      refine x_iadd d_Z_law_409 ?_
      obtain ⟨g74, h⟩ := gd_inv h
      refine x_sald d_Z_law_410 (inB_in g74) ?_
      refine x_aload_n d_Z_law_411 rfl 0 rfl ?_
      refine x_iload_n d_Z_law_412 rfl 3 rfl ?_
      refine x_iconst d_Z_law_413 ic_2 ?_
      refine x_iadd d_Z_law_414 ?_
      obtain ⟨g75, h⟩ := gd_inv h
      refine x_sald d_Z_law_415 (inB_in g75) ?_
      obtain ⟨v77, S78, q76, h⟩ := bd2_inv h
      refine y_V2i (v := v77) (S1 := S78) d_Z_law_416 ml_13_40 kd_78 rfl (Nat.le_of_ble_eq_true rfl) (Nat.le_of_ble_eq_true rfl) (c_M_part (by omega) q76) ?_
      refine x_icmp_eq (tgt := 1433) d_Z_law_419 rfl (fun c79 => ?_) (fun c79 => ?_)
      · replace h := ite_t c79 h
        obtain ⟨v80, e81, h⟩ := lt_inv h
        refine y_iinc (L1 := [(0, .ref 1010), (1, .ref 0), (2, .ref 78), (3, .int v80)]) e81 ic_6 d_Z_law_1433 3 rfl (Nat.le_of_ble_eq_true rfl) rfl rfl ?_
        refine x_goto (tgt := 18) d_Z_law_1436 rfl ?_
        exact ih v80 S78 _ h
      · replace h := ite_f c79 h
        refine x_iconst d_Z_law_422 ic_0 ?_
        obtain rfl := Option.some.inj h
        exact x_ret (r := some (.int (0 : Int32))) d_Z_law_423 ⟨_, rfl, rfl⟩
    replace h := ite_f c69 h
    by_cases c82 : ((X.2 w3.toNatClampNeg) &&& (63 : Int32)) = 6
    · replace h := ite_t c82 h
      refine x_tabC (tgt := 424) 6 d_Z_law_33 (by rw [c82]; rfl) (by decide) rfl rfl ?_
      refine x_aload_n d_Z_law_424 rfl 1 rfl ?_
      refine x_aload_n d_Z_law_425 rfl 0 rfl ?_
      refine x_iload_n d_Z_law_426 rfl 3 rfl ?_
      refine x_iconst d_Z_law_427 ic_1 ?_
      refine x_iadd d_Z_law_428 ?_
      obtain ⟨g83, h⟩ := gd_inv h
      refine x_sald d_Z_law_429 (inB_in g83) ?_
      refine x_aload_n d_Z_law_430 rfl 0 rfl ?_
      refine x_iload_n d_Z_law_431 rfl 3 rfl ?_
      refine x_iconst d_Z_law_432 ic_2 ?_
      refine x_iadd d_Z_law_433 ?_
      obtain ⟨g84, h⟩ := gd_inv h
      refine x_sald d_Z_law_434 (inB_in g84) ?_
      obtain ⟨v86, S87, q85, h⟩ := bd2_inv h
      refine y_V2i (v := v86) (S1 := S87) d_Z_law_435 ml_13_41 kd_0 rfl (Nat.le_of_ble_eq_true rfl) (Nat.le_of_ble_eq_true rfl) (c_N_held (by omega) q85) ?_
      refine x_aload_n d_Z_law_438 rfl 2 rfl ?_
      refine x_aload_n d_Z_law_439 rfl 0 rfl ?_
      refine x_iload_n d_Z_law_440 rfl 3 rfl ?_
      refine x_iconst d_Z_law_441 ic_1 ?_
      refine x_iadd d_Z_law_442 ?_
      obtain ⟨g88, h⟩ := gd_inv h
      refine x_sald d_Z_law_443 (inB_in g88) ?_
      refine x_aload_n d_Z_law_444 rfl 0 rfl ?_
      refine x_iload_n d_Z_law_445 rfl 3 rfl ?_
      refine x_iconst d_Z_law_446 ic_2 ?_
      refine x_iadd d_Z_law_447 ?_
      obtain ⟨g89, h⟩ := gd_inv h
      refine x_sald d_Z_law_448 (inB_in g89) ?_
      obtain ⟨v91, S92, q90, h⟩ := bd2_inv h
      refine y_V2i (v := v91) (S1 := S92) d_Z_law_449 ml_13_44 kd_78 rfl (Nat.le_of_ble_eq_true rfl) (Nat.le_of_ble_eq_true rfl) (c_M_held (by omega) q90) ?_
      refine x_icmp_eq (tgt := 1433) d_Z_law_452 rfl (fun c93 => ?_) (fun c93 => ?_)
      · replace h := ite_t c93 h
        obtain ⟨v94, e95, h⟩ := lt_inv h
        refine y_iinc (L1 := [(0, .ref 1010), (1, .ref 0), (2, .ref 78), (3, .int v94)]) e95 ic_6 d_Z_law_1433 3 rfl (Nat.le_of_ble_eq_true rfl) rfl rfl ?_
        refine x_goto (tgt := 18) d_Z_law_1436 rfl ?_
        exact ih v94 S92 _ h
      · replace h := ite_f c93 h
        refine x_iconst d_Z_law_455 ic_0 ?_
        obtain rfl := Option.some.inj h
        exact x_ret (r := some (.int (0 : Int32))) d_Z_law_456 ⟨_, rfl, rfl⟩
    replace h := ite_f c82 h
    by_cases c96 : ((X.2 w3.toNatClampNeg) &&& (63 : Int32)) = 7
    · replace h := ite_t c96 h
      refine x_tabC (tgt := 457) 7 d_Z_law_33 (by rw [c96]; rfl) (by decide) rfl rfl ?_
      refine x_aload_n d_Z_law_457 rfl 1 rfl ?_
      refine x_aload_n d_Z_law_458 rfl 0 rfl ?_
      refine x_iload_n d_Z_law_459 rfl 3 rfl ?_
      refine x_iconst d_Z_law_460 ic_1 ?_
      refine x_iadd d_Z_law_461 ?_
      obtain ⟨g97, h⟩ := gd_inv h
      refine x_sald d_Z_law_462 (inB_in g97) ?_
      obtain ⟨v99, S100, q98, h⟩ := bd2_inv h
      refine y_V1i (v := v99) (S1 := S100) d_Z_law_463 ml_13_45 kd_0 rfl (Nat.le_of_ble_eq_true rfl) (Nat.le_of_ble_eq_true rfl) (c_N_sounds (by omega) q98) ?_
      refine x_aload_n d_Z_law_466 rfl 2 rfl ?_
      refine x_aload_n d_Z_law_467 rfl 0 rfl ?_
      refine x_iload_n d_Z_law_468 rfl 3 rfl ?_
      refine x_iconst d_Z_law_469 ic_1 ?_
      refine x_iadd d_Z_law_470 ?_
      obtain ⟨g101, h⟩ := gd_inv h
      refine x_sald d_Z_law_471 (inB_in g101) ?_
      obtain ⟨v103, S104, q102, h⟩ := bd2_inv h
      refine y_V1i (v := v103) (S1 := S104) d_Z_law_472 ml_13_48 kd_78 rfl (Nat.le_of_ble_eq_true rfl) (Nat.le_of_ble_eq_true rfl) (c_M_sounds (by omega) q102) ?_
      refine x_icmp_eq (tgt := 1433) d_Z_law_475 rfl (fun c105 => ?_) (fun c105 => ?_)
      · replace h := ite_t c105 h
        obtain ⟨v106, e107, h⟩ := lt_inv h
        refine y_iinc (L1 := [(0, .ref 1010), (1, .ref 0), (2, .ref 78), (3, .int v106)]) e107 ic_6 d_Z_law_1433 3 rfl (Nat.le_of_ble_eq_true rfl) rfl rfl ?_
        refine x_goto (tgt := 18) d_Z_law_1436 rfl ?_
        exact ih v106 S104 _ h
      · replace h := ite_f c105 h
        refine x_iconst d_Z_law_478 ic_0 ?_
        obtain rfl := Option.some.inj h
        exact x_ret (r := some (.int (0 : Int32))) d_Z_law_479 ⟨_, rfl, rfl⟩
    replace h := ite_f c96 h
    by_cases c108 : ((X.2 w3.toNatClampNeg) &&& (63 : Int32)) = 8
    · replace h := ite_t c108 h
      refine x_tabC (tgt := 480) 8 d_Z_law_33 (by rw [c108]; rfl) (by decide) rfl rfl ?_
      refine x_aload_n d_Z_law_480 rfl 1 rfl ?_
      refine x_aload_n d_Z_law_481 rfl 0 rfl ?_
      refine x_iload_n d_Z_law_482 rfl 3 rfl ?_
      refine x_iconst d_Z_law_483 ic_1 ?_
      refine x_iadd d_Z_law_484 ?_
      obtain ⟨g109, h⟩ := gd_inv h
      refine x_sald d_Z_law_485 (inB_in g109) ?_
      obtain ⟨v111, S112, q110, h⟩ := bd2_inv h
      refine y_V1i (v := v111) (S1 := S112) d_Z_law_486 ml_13_49 kd_0 rfl (Nat.le_of_ble_eq_true rfl) (Nat.le_of_ble_eq_true rfl) (c_N_clash (by omega) q110) ?_
      refine x_aload_n d_Z_law_489 rfl 2 rfl ?_
      refine x_aload_n d_Z_law_490 rfl 0 rfl ?_
      refine x_iload_n d_Z_law_491 rfl 3 rfl ?_
      refine x_iconst d_Z_law_492 ic_1 ?_
      refine x_iadd d_Z_law_493 ?_
      obtain ⟨g113, h⟩ := gd_inv h
      refine x_sald d_Z_law_494 (inB_in g113) ?_
      obtain ⟨v115, S116, q114, h⟩ := bd2_inv h
      refine y_V1i (v := v115) (S1 := S116) d_Z_law_495 ml_13_52 kd_78 rfl (Nat.le_of_ble_eq_true rfl) (Nat.le_of_ble_eq_true rfl) (c_M_clash (by omega) q114) ?_
      refine x_icmp_eq (tgt := 1433) d_Z_law_498 rfl (fun c117 => ?_) (fun c117 => ?_)
      · replace h := ite_t c117 h
        obtain ⟨v118, e119, h⟩ := lt_inv h
        refine y_iinc (L1 := [(0, .ref 1010), (1, .ref 0), (2, .ref 78), (3, .int v118)]) e119 ic_6 d_Z_law_1433 3 rfl (Nat.le_of_ble_eq_true rfl) rfl rfl ?_
        refine x_goto (tgt := 18) d_Z_law_1436 rfl ?_
        exact ih v118 S116 _ h
      · replace h := ite_f c117 h
        refine x_iconst d_Z_law_501 ic_0 ?_
        obtain rfl := Option.some.inj h
        exact x_ret (r := some (.int (0 : Int32))) d_Z_law_502 ⟨_, rfl, rfl⟩
    replace h := ite_f c108 h
    by_cases c120 : ((X.2 w3.toNatClampNeg) &&& (63 : Int32)) = 9
    · replace h := ite_t c120 h
      refine x_tabC (tgt := 503) 9 d_Z_law_33 (by rw [c120]; rfl) (by decide) rfl rfl ?_
      refine x_aload_n d_Z_law_503 rfl 1 rfl ?_
      refine x_aload_n d_Z_law_504 rfl 0 rfl ?_
      refine x_iload_n d_Z_law_505 rfl 3 rfl ?_
      refine x_iconst d_Z_law_506 ic_1 ?_
      refine x_iadd d_Z_law_507 ?_
      obtain ⟨g121, h⟩ := gd_inv h
      refine x_sald d_Z_law_508 (inB_in g121) ?_
      refine x_aload_n d_Z_law_509 rfl 0 rfl ?_
      refine x_iload_n d_Z_law_510 rfl 3 rfl ?_
      refine x_iconst d_Z_law_511 ic_2 ?_
      refine x_iadd d_Z_law_512 ?_
      obtain ⟨g122, h⟩ := gd_inv h
      refine x_sald d_Z_law_513 (inB_in g122) ?_
      obtain ⟨v124, S125, q123, h⟩ := bd2_inv h
      refine y_V2i (v := v124) (S1 := S125) d_Z_law_514 ml_13_53 kd_0 rfl (Nat.le_of_ble_eq_true rfl) (Nat.le_of_ble_eq_true rfl) (c_N_give (by omega) q123) ?_
      refine x_aload_n d_Z_law_517 rfl 2 rfl ?_
      refine x_aload_n d_Z_law_518 rfl 0 rfl ?_
      refine x_iload_n d_Z_law_519 rfl 3 rfl ?_
      refine x_iconst d_Z_law_520 ic_1 ?_
      refine x_iadd d_Z_law_521 ?_
      obtain ⟨g126, h⟩ := gd_inv h
      refine x_sald d_Z_law_522 (inB_in g126) ?_
      refine x_aload_n d_Z_law_523 rfl 0 rfl ?_
      refine x_iload_n d_Z_law_524 rfl 3 rfl ?_
      refine x_iconst d_Z_law_525 ic_2 ?_
      refine x_iadd d_Z_law_526 ?_
      obtain ⟨g127, h⟩ := gd_inv h
      refine x_sald d_Z_law_527 (inB_in g127) ?_
      obtain ⟨v129, S130, q128, h⟩ := bd2_inv h
      refine y_V2i (v := v129) (S1 := S130) d_Z_law_528 ml_13_56 kd_78 rfl (Nat.le_of_ble_eq_true rfl) (Nat.le_of_ble_eq_true rfl) (c_M_give (by omega) q128) ?_
      refine x_icmp_eq (tgt := 1433) d_Z_law_531 rfl (fun c131 => ?_) (fun c131 => ?_)
      · replace h := ite_t c131 h
        obtain ⟨v132, e133, h⟩ := lt_inv h
        refine y_iinc (L1 := [(0, .ref 1010), (1, .ref 0), (2, .ref 78), (3, .int v132)]) e133 ic_6 d_Z_law_1433 3 rfl (Nat.le_of_ble_eq_true rfl) rfl rfl ?_
        refine x_goto (tgt := 18) d_Z_law_1436 rfl ?_
        exact ih v132 S130 _ h
      · replace h := ite_f c131 h
        refine x_iconst d_Z_law_534 ic_0 ?_
        obtain rfl := Option.some.inj h
        exact x_ret (r := some (.int (0 : Int32))) d_Z_law_535 ⟨_, rfl, rfl⟩
    replace h := ite_f c120 h
    by_cases c134 : ((X.2 w3.toNatClampNeg) &&& (63 : Int32)) = 10
    · replace h := ite_t c134 h
      refine x_tabC (tgt := 536) 10 d_Z_law_33 (by rw [c134]; rfl) (by decide) rfl rfl ?_
      refine x_aload_n d_Z_law_536 rfl 1 rfl ?_
      refine x_aload_n d_Z_law_537 rfl 0 rfl ?_
      refine x_iload_n d_Z_law_538 rfl 3 rfl ?_
      refine x_iconst d_Z_law_539 ic_1 ?_
      refine x_iadd d_Z_law_540 ?_
      obtain ⟨g135, h⟩ := gd_inv h
      refine x_sald d_Z_law_541 (inB_in g135) ?_
      refine x_aload_n d_Z_law_542 rfl 0 rfl ?_
      refine x_iload_n d_Z_law_543 rfl 3 rfl ?_
      refine x_iconst d_Z_law_544 ic_2 ?_
      refine x_iadd d_Z_law_545 ?_
      obtain ⟨g136, h⟩ := gd_inv h
      refine x_sald d_Z_law_546 (inB_in g136) ?_
      obtain ⟨v138, S139, q137, h⟩ := bd2_inv h
      refine y_V2i (v := v138) (S1 := S139) d_Z_law_547 ml_13_57 kd_0 rfl (Nat.le_of_ble_eq_true rfl) (Nat.le_of_ble_eq_true rfl) (c_N_shift (by omega) q137) ?_
      refine x_aload_n d_Z_law_550 rfl 2 rfl ?_
      refine x_aload_n d_Z_law_551 rfl 0 rfl ?_
      refine x_iload_n d_Z_law_552 rfl 3 rfl ?_
      refine x_iconst d_Z_law_553 ic_1 ?_
      refine x_iadd d_Z_law_554 ?_
      obtain ⟨g140, h⟩ := gd_inv h
      refine x_sald d_Z_law_555 (inB_in g140) ?_
      refine x_aload_n d_Z_law_556 rfl 0 rfl ?_
      refine x_iload_n d_Z_law_557 rfl 3 rfl ?_
      refine x_iconst d_Z_law_558 ic_2 ?_
      refine x_iadd d_Z_law_559 ?_
      obtain ⟨g141, h⟩ := gd_inv h
      refine x_sald d_Z_law_560 (inB_in g141) ?_
      obtain ⟨v143, S144, q142, h⟩ := bd2_inv h
      refine y_V2i (v := v143) (S1 := S144) d_Z_law_561 ml_13_60 kd_78 rfl (Nat.le_of_ble_eq_true rfl) (Nat.le_of_ble_eq_true rfl) (c_M_shift (by omega) q142) ?_
      refine x_icmp_eq (tgt := 1433) d_Z_law_564 rfl (fun c145 => ?_) (fun c145 => ?_)
      · replace h := ite_t c145 h
        obtain ⟨v146, e147, h⟩ := lt_inv h
        refine y_iinc (L1 := [(0, .ref 1010), (1, .ref 0), (2, .ref 78), (3, .int v146)]) e147 ic_6 d_Z_law_1433 3 rfl (Nat.le_of_ble_eq_true rfl) rfl rfl ?_
        refine x_goto (tgt := 18) d_Z_law_1436 rfl ?_
        exact ih v146 S144 _ h
      · replace h := ite_f c145 h
        refine x_iconst d_Z_law_567 ic_0 ?_
        obtain rfl := Option.some.inj h
        exact x_ret (r := some (.int (0 : Int32))) d_Z_law_568 ⟨_, rfl, rfl⟩
    replace h := ite_f c134 h
    by_cases c148 : ((X.2 w3.toNatClampNeg) &&& (63 : Int32)) = 11
    · replace h := ite_t c148 h
      refine x_tabC (tgt := 569) 11 d_Z_law_33 (by rw [c148]; rfl) (by decide) rfl rfl ?_
      refine x_aload_n d_Z_law_569 rfl 1 rfl ?_
      refine x_aload_n d_Z_law_570 rfl 0 rfl ?_
      refine x_iload_n d_Z_law_571 rfl 3 rfl ?_
      refine x_iconst d_Z_law_572 ic_1 ?_
      refine x_iadd d_Z_law_573 ?_
      obtain ⟨g149, h⟩ := gd_inv h
      refine x_sald d_Z_law_574 (inB_in g149) ?_
      refine x_aload_n d_Z_law_575 rfl 0 rfl ?_
      refine x_iload_n d_Z_law_576 rfl 3 rfl ?_
      refine x_iconst d_Z_law_577 ic_2 ?_
      refine x_iadd d_Z_law_578 ?_
      obtain ⟨g150, h⟩ := gd_inv h
      refine x_sald d_Z_law_579 (inB_in g150) ?_
      obtain ⟨v152, S153, q151, h⟩ := bd2_inv h
      refine y_V2i (v := v152) (S1 := S153) d_Z_law_580 ml_13_61 kd_0 rfl (Nat.le_of_ble_eq_true rfl) (Nat.le_of_ble_eq_true rfl) (c_N_louder (by omega) q151) ?_
      refine x_aload_n d_Z_law_583 rfl 2 rfl ?_
      refine x_aload_n d_Z_law_584 rfl 0 rfl ?_
      refine x_iload_n d_Z_law_585 rfl 3 rfl ?_
      refine x_iconst d_Z_law_586 ic_1 ?_
      refine x_iadd d_Z_law_587 ?_
      obtain ⟨g154, h⟩ := gd_inv h
      refine x_sald d_Z_law_588 (inB_in g154) ?_
      refine x_aload_n d_Z_law_589 rfl 0 rfl ?_
      refine x_iload_n d_Z_law_590 rfl 3 rfl ?_
      refine x_iconst d_Z_law_591 ic_2 ?_
      refine x_iadd d_Z_law_592 ?_
      obtain ⟨g155, h⟩ := gd_inv h
      refine x_sald d_Z_law_593 (inB_in g155) ?_
      obtain ⟨v157, S158, q156, h⟩ := bd2_inv h
      refine y_V2i (v := v157) (S1 := S158) d_Z_law_594 ml_13_64 kd_78 rfl (Nat.le_of_ble_eq_true rfl) (Nat.le_of_ble_eq_true rfl) (c_M_louder (by omega) q156) ?_
      refine x_icmp_eq (tgt := 1433) d_Z_law_597 rfl (fun c159 => ?_) (fun c159 => ?_)
      · replace h := ite_t c159 h
        obtain ⟨v160, e161, h⟩ := lt_inv h
        refine y_iinc (L1 := [(0, .ref 1010), (1, .ref 0), (2, .ref 78), (3, .int v160)]) e161 ic_6 d_Z_law_1433 3 rfl (Nat.le_of_ble_eq_true rfl) rfl rfl ?_
        refine x_goto (tgt := 18) d_Z_law_1436 rfl ?_
        exact ih v160 S158 _ h
      · replace h := ite_f c159 h
        refine x_iconst d_Z_law_600 ic_0 ?_
        obtain rfl := Option.some.inj h
        exact x_ret (r := some (.int (0 : Int32))) d_Z_law_601 ⟨_, rfl, rfl⟩
    replace h := ite_f c148 h
    by_cases c162 : ((X.2 w3.toNatClampNeg) &&& (63 : Int32)) = 12
    · replace h := ite_t c162 h
      refine x_tabC (tgt := 602) 12 d_Z_law_33 (by rw [c162]; rfl) (by decide) rfl rfl ?_
      refine x_aload_n d_Z_law_602 rfl 1 rfl ?_
      refine x_aload_n d_Z_law_603 rfl 0 rfl ?_
      refine x_iload_n d_Z_law_604 rfl 3 rfl ?_
      refine x_iconst d_Z_law_605 ic_1 ?_
      refine x_iadd d_Z_law_606 ?_
      obtain ⟨g163, h⟩ := gd_inv h
      refine x_sald d_Z_law_607 (inB_in g163) ?_
      refine x_aload_n d_Z_law_608 rfl 0 rfl ?_
      refine x_iload_n d_Z_law_609 rfl 3 rfl ?_
      refine x_iconst d_Z_law_610 ic_2 ?_
      refine x_iadd d_Z_law_611 ?_
      obtain ⟨g164, h⟩ := gd_inv h
      refine x_sald d_Z_law_612 (inB_in g164) ?_
      obtain ⟨v166, S167, q165, h⟩ := bd2_inv h
      refine y_V2i (v := v166) (S1 := S167) d_Z_law_613 ml_13_65 kd_0 rfl (Nat.le_of_ble_eq_true rfl) (Nat.le_of_ble_eq_true rfl) (c_N_last (by omega) q165) ?_
      refine x_aload_n d_Z_law_616 rfl 2 rfl ?_
      refine x_aload_n d_Z_law_617 rfl 0 rfl ?_
      refine x_iload_n d_Z_law_618 rfl 3 rfl ?_
      refine x_iconst d_Z_law_619 ic_1 ?_
      refine x_iadd d_Z_law_620 ?_
      obtain ⟨g168, h⟩ := gd_inv h
      refine x_sald d_Z_law_621 (inB_in g168) ?_
      refine x_aload_n d_Z_law_622 rfl 0 rfl ?_
      refine x_iload_n d_Z_law_623 rfl 3 rfl ?_
      refine x_iconst d_Z_law_624 ic_2 ?_
      refine x_iadd d_Z_law_625 ?_
      obtain ⟨g169, h⟩ := gd_inv h
      refine x_sald d_Z_law_626 (inB_in g169) ?_
      obtain ⟨v171, S172, q170, h⟩ := bd2_inv h
      refine y_V2i (v := v171) (S1 := S172) d_Z_law_627 ml_13_68 kd_78 rfl (Nat.le_of_ble_eq_true rfl) (Nat.le_of_ble_eq_true rfl) (c_M_last (by omega) q170) ?_
      refine x_icmp_eq (tgt := 1433) d_Z_law_630 rfl (fun c173 => ?_) (fun c173 => ?_)
      · replace h := ite_t c173 h
        obtain ⟨v174, e175, h⟩ := lt_inv h
        refine y_iinc (L1 := [(0, .ref 1010), (1, .ref 0), (2, .ref 78), (3, .int v174)]) e175 ic_6 d_Z_law_1433 3 rfl (Nat.le_of_ble_eq_true rfl) rfl rfl ?_
        refine x_goto (tgt := 18) d_Z_law_1436 rfl ?_
        exact ih v174 S172 _ h
      · replace h := ite_f c173 h
        refine x_iconst d_Z_law_633 ic_0 ?_
        obtain rfl := Option.some.inj h
        exact x_ret (r := some (.int (0 : Int32))) d_Z_law_634 ⟨_, rfl, rfl⟩
    replace h := ite_f c162 h
    by_cases c176 : ((X.2 w3.toNatClampNeg) &&& (63 : Int32)) = 13
    · replace h := ite_t c176 h
      refine x_tabC (tgt := 635) 13 d_Z_law_33 (by rw [c176]; rfl) (by decide) rfl rfl ?_
      refine x_aload_n d_Z_law_635 rfl 1 rfl ?_
      refine x_aload_n d_Z_law_636 rfl 0 rfl ?_
      refine x_iload_n d_Z_law_637 rfl 3 rfl ?_
      refine x_iconst d_Z_law_638 ic_1 ?_
      refine x_iadd d_Z_law_639 ?_
      obtain ⟨g177, h⟩ := gd_inv h
      refine x_sald d_Z_law_640 (inB_in g177) ?_
      obtain ⟨v179, S180, q178, h⟩ := bd2_inv h
      refine y_V1i (v := v179) (S1 := S180) d_Z_law_641 ml_13_69 kd_0 rfl (Nat.le_of_ble_eq_true rfl) (Nat.le_of_ble_eq_true rfl) (c_N_pedal (by omega) q178) ?_
      refine x_aload_n d_Z_law_644 rfl 2 rfl ?_
      refine x_aload_n d_Z_law_645 rfl 0 rfl ?_
      refine x_iload_n d_Z_law_646 rfl 3 rfl ?_
      refine x_iconst d_Z_law_647 ic_1 ?_
      refine x_iadd d_Z_law_648 ?_
      obtain ⟨g181, h⟩ := gd_inv h
      refine x_sald d_Z_law_649 (inB_in g181) ?_
      obtain ⟨v183, S184, q182, h⟩ := bd2_inv h
      refine y_V1i (v := v183) (S1 := S184) d_Z_law_650 ml_13_72 kd_78 rfl (Nat.le_of_ble_eq_true rfl) (Nat.le_of_ble_eq_true rfl) (c_M_pedal (by omega) q182) ?_
      refine x_icmp_eq (tgt := 1433) d_Z_law_653 rfl (fun c185 => ?_) (fun c185 => ?_)
      · replace h := ite_t c185 h
        obtain ⟨v186, e187, h⟩ := lt_inv h
        refine y_iinc (L1 := [(0, .ref 1010), (1, .ref 0), (2, .ref 78), (3, .int v186)]) e187 ic_6 d_Z_law_1433 3 rfl (Nat.le_of_ble_eq_true rfl) rfl rfl ?_
        refine x_goto (tgt := 18) d_Z_law_1436 rfl ?_
        exact ih v186 S184 _ h
      · replace h := ite_f c185 h
        refine x_iconst d_Z_law_656 ic_0 ?_
        obtain rfl := Option.some.inj h
        exact x_ret (r := some (.int (0 : Int32))) d_Z_law_657 ⟨_, rfl, rfl⟩
    replace h := ite_f c176 h
    by_cases c188 : ((X.2 w3.toNatClampNeg) &&& (63 : Int32)) = 14
    · replace h := ite_t c188 h
      refine x_tabC (tgt := 658) 14 d_Z_law_33 (by rw [c188]; rfl) (by decide) rfl rfl ?_
      refine x_aload_n d_Z_law_658 rfl 1 rfl ?_
      obtain ⟨v190, S191, q189, h⟩ := bd2_inv h
      refine y_V0i (v := v190) (S1 := S191) d_Z_law_659 ml_13_73 kd_0 rfl (Nat.le_of_ble_eq_true rfl) (Nat.le_of_ble_eq_true rfl) (c_N_undo (by omega) q189) ?_
      refine x_aload_n d_Z_law_662 rfl 2 rfl ?_
      obtain ⟨v193, S194, q192, h⟩ := bd2_inv h
      refine y_V0i (v := v193) (S1 := S194) d_Z_law_663 ml_13_77 kd_78 rfl (Nat.le_of_ble_eq_true rfl) (Nat.le_of_ble_eq_true rfl) (c_M_undo (by omega) q192) ?_
      refine x_icmp_eq (tgt := 1433) d_Z_law_666 rfl (fun c195 => ?_) (fun c195 => ?_)
      · replace h := ite_t c195 h
        obtain ⟨v196, e197, h⟩ := lt_inv h
        refine y_iinc (L1 := [(0, .ref 1010), (1, .ref 0), (2, .ref 78), (3, .int v196)]) e197 ic_6 d_Z_law_1433 3 rfl (Nat.le_of_ble_eq_true rfl) rfl rfl ?_
        refine x_goto (tgt := 18) d_Z_law_1436 rfl ?_
        exact ih v196 S194 _ h
      · replace h := ite_f c195 h
        refine x_iconst d_Z_law_669 ic_0 ?_
        obtain rfl := Option.some.inj h
        exact x_ret (r := some (.int (0 : Int32))) d_Z_law_670 ⟨_, rfl, rfl⟩
    replace h := ite_f c188 h
    by_cases c198 : ((X.2 w3.toNatClampNeg) &&& (63 : Int32)) = 15
    · replace h := ite_t c198 h
      refine x_tabC (tgt := 671) 15 d_Z_law_33 (by rw [c198]; rfl) (by decide) rfl rfl ?_
      refine x_aload_n d_Z_law_671 rfl 1 rfl ?_
      obtain ⟨v200, S201, q199, h⟩ := bd2_inv h
      refine y_V0i (v := v200) (S1 := S201) d_Z_law_672 ml_13_78 kd_0 rfl (Nat.le_of_ble_eq_true rfl) (Nat.le_of_ble_eq_true rfl) (c_N_redo (by omega) q199) ?_
      refine x_aload_n d_Z_law_675 rfl 2 rfl ?_
      obtain ⟨v203, S204, q202, h⟩ := bd2_inv h
      refine y_V0i (v := v203) (S1 := S204) d_Z_law_676 ml_13_81 kd_78 rfl (Nat.le_of_ble_eq_true rfl) (Nat.le_of_ble_eq_true rfl) (c_M_redo (by omega) q202) ?_
      refine x_icmp_eq (tgt := 1433) d_Z_law_679 rfl (fun c205 => ?_) (fun c205 => ?_)
      · replace h := ite_t c205 h
        obtain ⟨v206, e207, h⟩ := lt_inv h
        refine y_iinc (L1 := [(0, .ref 1010), (1, .ref 0), (2, .ref 78), (3, .int v206)]) e207 ic_6 d_Z_law_1433 3 rfl (Nat.le_of_ble_eq_true rfl) rfl rfl ?_
        refine x_goto (tgt := 18) d_Z_law_1436 rfl ?_
        exact ih v206 S204 _ h
      · replace h := ite_f c205 h
        refine x_iconst d_Z_law_682 ic_0 ?_
        obtain rfl := Option.some.inj h
        exact x_ret (r := some (.int (0 : Int32))) d_Z_law_683 ⟨_, rfl, rfl⟩
    replace h := ite_f c198 h
    by_cases c208 : ((X.2 w3.toNatClampNeg) &&& (63 : Int32)) = 16
    · replace h := ite_t c208 h
      refine x_tabC (tgt := 684) 16 d_Z_law_33 (by rw [c208]; rfl) (by decide) rfl rfl ?_
      refine x_aload_n d_Z_law_684 rfl 1 rfl ?_
      obtain ⟨v210, S211, q209, h⟩ := bd2_inv h
      refine y_V0i (v := v210) (S1 := S211) d_Z_law_685 ml_13_82 kd_0 rfl (Nat.le_of_ble_eq_true rfl) (Nat.le_of_ble_eq_true rfl) (c_N_clashes (by omega) q209) ?_
      refine x_aload_n d_Z_law_688 rfl 2 rfl ?_
      obtain ⟨v213, S214, q212, h⟩ := bd2_inv h
      refine y_V0i (v := v213) (S1 := S214) d_Z_law_689 ml_13_85 kd_78 rfl (Nat.le_of_ble_eq_true rfl) (Nat.le_of_ble_eq_true rfl) (c_M_clashes (by omega) q212) ?_
      refine x_icmp_eq (tgt := 1433) d_Z_law_692 rfl (fun c215 => ?_) (fun c215 => ?_)
      · replace h := ite_t c215 h
        obtain ⟨v216, e217, h⟩ := lt_inv h
        refine y_iinc (L1 := [(0, .ref 1010), (1, .ref 0), (2, .ref 78), (3, .int v216)]) e217 ic_6 d_Z_law_1433 3 rfl (Nat.le_of_ble_eq_true rfl) rfl rfl ?_
        refine x_goto (tgt := 18) d_Z_law_1436 rfl ?_
        exact ih v216 S214 _ h
      · replace h := ite_f c215 h
        refine x_iconst d_Z_law_695 ic_0 ?_
        obtain rfl := Option.some.inj h
        exact x_ret (r := some (.int (0 : Int32))) d_Z_law_696 ⟨_, rfl, rfl⟩
    replace h := ite_f c208 h
    by_cases c218 : ((X.2 w3.toNatClampNeg) &&& (63 : Int32)) = 17
    · replace h := ite_t c218 h
      refine x_tabC (tgt := 697) 17 d_Z_law_33 (by rw [c218]; rfl) (by decide) rfl rfl ?_
      refine x_aload_n d_Z_law_697 rfl 1 rfl ?_
      obtain ⟨v220, S221, q219, h⟩ := bd2_inv h
      refine y_V0i (v := v220) (S1 := S221) d_Z_law_698 ml_13_86 kd_0 rfl (Nat.le_of_ble_eq_true rfl) (Nat.le_of_ble_eq_true rfl) (c_N_loss (by omega) q219) ?_
      refine x_aload_n d_Z_law_701 rfl 2 rfl ?_
      obtain ⟨v223, S224, q222, h⟩ := bd2_inv h
      refine y_V0i (v := v223) (S1 := S224) d_Z_law_702 ml_13_89 kd_78 rfl (Nat.le_of_ble_eq_true rfl) (Nat.le_of_ble_eq_true rfl) (c_M_loss (by omega) q222) ?_
      refine x_icmp_eq (tgt := 1433) d_Z_law_705 rfl (fun c225 => ?_) (fun c225 => ?_)
      · replace h := ite_t c225 h
        obtain ⟨v226, e227, h⟩ := lt_inv h
        refine y_iinc (L1 := [(0, .ref 1010), (1, .ref 0), (2, .ref 78), (3, .int v226)]) e227 ic_6 d_Z_law_1433 3 rfl (Nat.le_of_ble_eq_true rfl) rfl rfl ?_
        refine x_goto (tgt := 18) d_Z_law_1436 rfl ?_
        exact ih v226 S224 _ h
      · replace h := ite_f c225 h
        refine x_iconst d_Z_law_708 ic_0 ?_
        obtain rfl := Option.some.inj h
        exact x_ret (r := some (.int (0 : Int32))) d_Z_law_709 ⟨_, rfl, rfl⟩
    replace h := ite_f c218 h
    by_cases c228 : ((X.2 w3.toNatClampNeg) &&& (63 : Int32)) = 18
    · replace h := ite_t c228 h
      refine x_tabC (tgt := 710) 18 d_Z_law_33 (by rw [c228]; rfl) (by decide) rfl rfl ?_
      refine x_aload_n d_Z_law_710 rfl 1 rfl ?_
      refine x_aload_n d_Z_law_711 rfl 0 rfl ?_
      refine x_iload_n d_Z_law_712 rfl 3 rfl ?_
      refine x_iconst d_Z_law_713 ic_1 ?_
      refine x_iadd d_Z_law_714 ?_
      obtain ⟨g229, h⟩ := gd_inv h
      refine x_sald d_Z_law_715 (inB_in g229) ?_
      obtain ⟨v231, S232, q230, h⟩ := bd2_inv h
      refine y_V1i (v := v231) (S1 := S232) d_Z_law_716 ml_13_90 kd_0 rfl (Nat.le_of_ble_eq_true rfl) (Nat.le_of_ble_eq_true rfl) (c_N_version (by omega) q230) ?_
      refine x_aload_n d_Z_law_719 rfl 2 rfl ?_
      refine x_aload_n d_Z_law_720 rfl 0 rfl ?_
      refine x_iload_n d_Z_law_721 rfl 3 rfl ?_
      refine x_iconst d_Z_law_722 ic_1 ?_
      refine x_iadd d_Z_law_723 ?_
      obtain ⟨g233, h⟩ := gd_inv h
      refine x_sald d_Z_law_724 (inB_in g233) ?_
      obtain ⟨v235, S236, q234, h⟩ := bd2_inv h
      refine y_V1i (v := v235) (S1 := S236) d_Z_law_725 ml_13_93 kd_78 rfl (Nat.le_of_ble_eq_true rfl) (Nat.le_of_ble_eq_true rfl) (c_M_version (by omega) q234) ?_
      refine x_icmp_eq (tgt := 1433) d_Z_law_728 rfl (fun c237 => ?_) (fun c237 => ?_)
      · replace h := ite_t c237 h
        obtain ⟨v238, e239, h⟩ := lt_inv h
        refine y_iinc (L1 := [(0, .ref 1010), (1, .ref 0), (2, .ref 78), (3, .int v238)]) e239 ic_6 d_Z_law_1433 3 rfl (Nat.le_of_ble_eq_true rfl) rfl rfl ?_
        refine x_goto (tgt := 18) d_Z_law_1436 rfl ?_
        exact ih v238 S236 _ h
      · replace h := ite_f c237 h
        refine x_iconst d_Z_law_731 ic_0 ?_
        obtain rfl := Option.some.inj h
        exact x_ret (r := some (.int (0 : Int32))) d_Z_law_732 ⟨_, rfl, rfl⟩
    replace h := ite_f c228 h
    by_cases c240 : ((X.2 w3.toNatClampNeg) &&& (63 : Int32)) = 19
    · replace h := ite_t c240 h
      refine x_tabC (tgt := 733) 19 d_Z_law_33 (by rw [c240]; rfl) (by decide) rfl rfl ?_
      refine x_aload_n d_Z_law_733 rfl 1 rfl ?_
      refine x_aload_n d_Z_law_734 rfl 0 rfl ?_
      refine x_iload_n d_Z_law_735 rfl 3 rfl ?_
      refine x_iconst d_Z_law_736 ic_1 ?_
      refine x_iadd d_Z_law_737 ?_
      obtain ⟨g241, h⟩ := gd_inv h
      refine x_sald d_Z_law_738 (inB_in g241) ?_
      refine x_aload_n d_Z_law_739 rfl 0 rfl ?_
      refine x_iload_n d_Z_law_740 rfl 3 rfl ?_
      refine x_iconst d_Z_law_741 ic_2 ?_
      refine x_iadd d_Z_law_742 ?_
      obtain ⟨g242, h⟩ := gd_inv h
      refine x_sald d_Z_law_743 (inB_in g242) ?_
      obtain ⟨v244, S245, q243, h⟩ := bd2_inv h
      refine y_V2i (v := v244) (S1 := S245) d_Z_law_744 ml_13_94 kd_0 rfl (Nat.le_of_ble_eq_true rfl) (Nat.le_of_ble_eq_true rfl) (c_N_child (by omega) q243) ?_
      refine x_aload_n d_Z_law_747 rfl 2 rfl ?_
      refine x_aload_n d_Z_law_748 rfl 0 rfl ?_
      refine x_iload_n d_Z_law_749 rfl 3 rfl ?_
      refine x_iconst d_Z_law_750 ic_1 ?_
      refine x_iadd d_Z_law_751 ?_
      obtain ⟨g246, h⟩ := gd_inv h
      refine x_sald d_Z_law_752 (inB_in g246) ?_
      refine x_aload_n d_Z_law_753 rfl 0 rfl ?_
      refine x_iload_n d_Z_law_754 rfl 3 rfl ?_
      refine x_iconst d_Z_law_755 ic_2 ?_
      refine x_iadd d_Z_law_756 ?_
      obtain ⟨g247, h⟩ := gd_inv h
      refine x_sald d_Z_law_757 (inB_in g247) ?_
      obtain ⟨v249, S250, q248, h⟩ := bd2_inv h
      refine y_V2i (v := v249) (S1 := S250) d_Z_law_758 ml_13_97 kd_78 rfl (Nat.le_of_ble_eq_true rfl) (Nat.le_of_ble_eq_true rfl) (c_M_child (by omega) q248) ?_
      refine x_icmp_eq (tgt := 1433) d_Z_law_761 rfl (fun c251 => ?_) (fun c251 => ?_)
      · replace h := ite_t c251 h
        obtain ⟨v252, e253, h⟩ := lt_inv h
        refine y_iinc (L1 := [(0, .ref 1010), (1, .ref 0), (2, .ref 78), (3, .int v252)]) e253 ic_6 d_Z_law_1433 3 rfl (Nat.le_of_ble_eq_true rfl) rfl rfl ?_
        refine x_goto (tgt := 18) d_Z_law_1436 rfl ?_
        exact ih v252 S250 _ h
      · replace h := ite_f c251 h
        refine x_iconst d_Z_law_764 ic_0 ?_
        obtain rfl := Option.some.inj h
        exact x_ret (r := some (.int (0 : Int32))) d_Z_law_765 ⟨_, rfl, rfl⟩
    replace h := ite_f c240 h
    by_cases c254 : ((X.2 w3.toNatClampNeg) &&& (63 : Int32)) = 20
    · replace h := ite_t c254 h
      refine x_tabC (tgt := 766) 20 d_Z_law_33 (by rw [c254]; rfl) (by decide) rfl rfl ?_
      refine x_aload_n d_Z_law_766 rfl 1 rfl ?_
      refine x_aload_n d_Z_law_767 rfl 0 rfl ?_
      refine x_iload_n d_Z_law_768 rfl 3 rfl ?_
      refine x_iconst d_Z_law_769 ic_1 ?_
      refine x_iadd d_Z_law_770 ?_
      obtain ⟨g255, h⟩ := gd_inv h
      refine x_sald d_Z_law_771 (inB_in g255) ?_
      refine x_aload_n d_Z_law_772 rfl 0 rfl ?_
      refine x_iload_n d_Z_law_773 rfl 3 rfl ?_
      refine x_iconst d_Z_law_774 ic_2 ?_
      refine x_iadd d_Z_law_775 ?_
      obtain ⟨g256, h⟩ := gd_inv h
      refine x_sald d_Z_law_776 (inB_in g256) ?_
      obtain ⟨v258, S259, q257, h⟩ := bd2_inv h
      refine y_V2i (v := v258) (S1 := S259) d_Z_law_777 ml_13_98 kd_0 rfl (Nat.le_of_ble_eq_true rfl) (Nat.le_of_ble_eq_true rfl) (c_N_forbids (by omega) q257) ?_
      refine x_aload_n d_Z_law_780 rfl 2 rfl ?_
      refine x_aload_n d_Z_law_781 rfl 0 rfl ?_
      refine x_iload_n d_Z_law_782 rfl 3 rfl ?_
      refine x_iconst d_Z_law_783 ic_1 ?_
      refine x_iadd d_Z_law_784 ?_
      obtain ⟨g260, h⟩ := gd_inv h
      refine x_sald d_Z_law_785 (inB_in g260) ?_
      refine x_aload_n d_Z_law_786 rfl 0 rfl ?_
      refine x_iload_n d_Z_law_787 rfl 3 rfl ?_
      refine x_iconst d_Z_law_788 ic_2 ?_
      refine x_iadd d_Z_law_789 ?_
      obtain ⟨g261, h⟩ := gd_inv h
      refine x_sald d_Z_law_790 (inB_in g261) ?_
      obtain ⟨v263, S264, q262, h⟩ := bd2_inv h
      refine y_V2i (v := v263) (S1 := S264) d_Z_law_791 ml_13_101 kd_78 rfl (Nat.le_of_ble_eq_true rfl) (Nat.le_of_ble_eq_true rfl) (c_M_forbids (by omega) q262) ?_
      refine x_icmp_eq (tgt := 1433) d_Z_law_794 rfl (fun c265 => ?_) (fun c265 => ?_)
      · replace h := ite_t c265 h
        obtain ⟨v266, e267, h⟩ := lt_inv h
        refine y_iinc (L1 := [(0, .ref 1010), (1, .ref 0), (2, .ref 78), (3, .int v266)]) e267 ic_6 d_Z_law_1433 3 rfl (Nat.le_of_ble_eq_true rfl) rfl rfl ?_
        refine x_goto (tgt := 18) d_Z_law_1436 rfl ?_
        exact ih v266 S264 _ h
      · replace h := ite_f c265 h
        refine x_iconst d_Z_law_797 ic_0 ?_
        obtain rfl := Option.some.inj h
        exact x_ret (r := some (.int (0 : Int32))) d_Z_law_798 ⟨_, rfl, rfl⟩
    replace h := ite_f c254 h
    by_cases c268 : ((X.2 w3.toNatClampNeg) &&& (63 : Int32)) = 21
    · replace h := ite_t c268 h
      refine x_tabC (tgt := 799) 21 d_Z_law_33 (by rw [c268]; rfl) (by decide) rfl rfl ?_
      refine x_aload_n d_Z_law_799 rfl 1 rfl ?_
      refine x_aload_n d_Z_law_800 rfl 0 rfl ?_
      refine x_iload_n d_Z_law_801 rfl 3 rfl ?_
      refine x_iconst d_Z_law_802 ic_1 ?_
      refine x_iadd d_Z_law_803 ?_
      obtain ⟨g269, h⟩ := gd_inv h
      refine x_sald d_Z_law_804 (inB_in g269) ?_
      refine x_aload_n d_Z_law_805 rfl 0 rfl ?_
      refine x_iload_n d_Z_law_806 rfl 3 rfl ?_
      refine x_iconst d_Z_law_807 ic_2 ?_
      refine x_iadd d_Z_law_808 ?_
      obtain ⟨g270, h⟩ := gd_inv h
      refine x_sald d_Z_law_809 (inB_in g270) ?_
      refine x_aload_n d_Z_law_810 rfl 0 rfl ?_
      refine x_iload_n d_Z_law_811 rfl 3 rfl ?_
      refine x_iconst d_Z_law_812 ic_3 ?_
      refine x_iadd d_Z_law_813 ?_
      obtain ⟨g271, h⟩ := gd_inv h
      refine x_sald d_Z_law_814 (inB_in g271) ?_
      obtain ⟨v273, S274, q272, h⟩ := bd2_inv h
      refine y_V3i (v := v273) (S1 := S274) d_Z_law_815 ml_13_102 kd_0 rfl (Nat.le_of_ble_eq_true rfl) (Nat.le_of_ble_eq_true rfl) (c_N_giveway (by omega) q272) ?_
      refine x_aload_n d_Z_law_818 rfl 2 rfl ?_
      refine x_aload_n d_Z_law_819 rfl 0 rfl ?_
      refine x_iload_n d_Z_law_820 rfl 3 rfl ?_
      refine x_iconst d_Z_law_821 ic_1 ?_
      refine x_iadd d_Z_law_822 ?_
      obtain ⟨g275, h⟩ := gd_inv h
      refine x_sald d_Z_law_823 (inB_in g275) ?_
      refine x_aload_n d_Z_law_824 rfl 0 rfl ?_
      refine x_iload_n d_Z_law_825 rfl 3 rfl ?_
      refine x_iconst d_Z_law_826 ic_2 ?_
      refine x_iadd d_Z_law_827 ?_
      obtain ⟨g276, h⟩ := gd_inv h
      refine x_sald d_Z_law_828 (inB_in g276) ?_
      refine x_aload_n d_Z_law_829 rfl 0 rfl ?_
      refine x_iload_n d_Z_law_830 rfl 3 rfl ?_
      refine x_iconst d_Z_law_831 ic_3 ?_
      refine x_iadd d_Z_law_832 ?_
      obtain ⟨g277, h⟩ := gd_inv h
      refine x_sald d_Z_law_833 (inB_in g277) ?_
      obtain ⟨v279, S280, q278, h⟩ := bd2_inv h
      refine y_V3i (v := v279) (S1 := S280) d_Z_law_834 ml_13_106 kd_78 rfl (Nat.le_of_ble_eq_true rfl) (Nat.le_of_ble_eq_true rfl) (c_M_giveway (by omega) q278) ?_
      refine x_icmp_eq (tgt := 1433) d_Z_law_837 rfl (fun c281 => ?_) (fun c281 => ?_)
      · replace h := ite_t c281 h
        obtain ⟨v282, e283, h⟩ := lt_inv h
        refine y_iinc (L1 := [(0, .ref 1010), (1, .ref 0), (2, .ref 78), (3, .int v282)]) e283 ic_6 d_Z_law_1433 3 rfl (Nat.le_of_ble_eq_true rfl) rfl rfl ?_
        refine x_goto (tgt := 18) d_Z_law_1436 rfl ?_
        exact ih v282 S280 _ h
      · replace h := ite_f c281 h
        refine x_iconst d_Z_law_840 ic_0 ?_
        obtain rfl := Option.some.inj h
        exact x_ret (r := some (.int (0 : Int32))) d_Z_law_841 ⟨_, rfl, rfl⟩
    replace h := ite_f c268 h
    by_cases c284 : ((X.2 w3.toNatClampNeg) &&& (63 : Int32)) = 22
    · replace h := ite_t c284 h
      refine x_tabC (tgt := 842) 22 d_Z_law_33 (by rw [c284]; rfl) (by decide) rfl rfl ?_
      refine x_aload_n d_Z_law_842 rfl 1 rfl ?_
      refine x_aload_n d_Z_law_843 rfl 0 rfl ?_
      refine x_iload_n d_Z_law_844 rfl 3 rfl ?_
      refine x_iconst d_Z_law_845 ic_1 ?_
      refine x_iadd d_Z_law_846 ?_
      obtain ⟨g285, h⟩ := gd_inv h
      refine x_sald d_Z_law_847 (inB_in g285) ?_
      refine x_aload_n d_Z_law_848 rfl 0 rfl ?_
      refine x_iload_n d_Z_law_849 rfl 3 rfl ?_
      refine x_iconst d_Z_law_850 ic_2 ?_
      refine x_iadd d_Z_law_851 ?_
      obtain ⟨g286, h⟩ := gd_inv h
      refine x_sald d_Z_law_852 (inB_in g286) ?_
      obtain ⟨v288, S289, q287, h⟩ := bd2_inv h
      refine y_V2i (v := v288) (S1 := S289) d_Z_law_853 ml_13_107 kd_0 rfl (Nat.le_of_ble_eq_true rfl) (Nat.le_of_ble_eq_true rfl) (c_N_letin (by omega) q287) ?_
      refine x_aload_n d_Z_law_856 rfl 2 rfl ?_
      refine x_aload_n d_Z_law_857 rfl 0 rfl ?_
      refine x_iload_n d_Z_law_858 rfl 3 rfl ?_
      refine x_iconst d_Z_law_859 ic_1 ?_
      refine x_iadd d_Z_law_860 ?_
      obtain ⟨g290, h⟩ := gd_inv h
      refine x_sald d_Z_law_861 (inB_in g290) ?_
      refine x_aload_n d_Z_law_862 rfl 0 rfl ?_
      refine x_iload_n d_Z_law_863 rfl 3 rfl ?_
      refine x_iconst d_Z_law_864 ic_2 ?_
      refine x_iadd d_Z_law_865 ?_
      obtain ⟨g291, h⟩ := gd_inv h
      refine x_sald d_Z_law_866 (inB_in g291) ?_
      obtain ⟨v293, S294, q292, h⟩ := bd2_inv h
      refine y_V2i (v := v293) (S1 := S294) d_Z_law_867 ml_13_110 kd_78 rfl (Nat.le_of_ble_eq_true rfl) (Nat.le_of_ble_eq_true rfl) (c_M_letin (by omega) q292) ?_
      refine x_icmp_eq (tgt := 1433) d_Z_law_870 rfl (fun c295 => ?_) (fun c295 => ?_)
      · replace h := ite_t c295 h
        obtain ⟨v296, e297, h⟩ := lt_inv h
        refine y_iinc (L1 := [(0, .ref 1010), (1, .ref 0), (2, .ref 78), (3, .int v296)]) e297 ic_6 d_Z_law_1433 3 rfl (Nat.le_of_ble_eq_true rfl) rfl rfl ?_
        refine x_goto (tgt := 18) d_Z_law_1436 rfl ?_
        exact ih v296 S294 _ h
      · replace h := ite_f c295 h
        refine x_iconst d_Z_law_873 ic_0 ?_
        obtain rfl := Option.some.inj h
        exact x_ret (r := some (.int (0 : Int32))) d_Z_law_874 ⟨_, rfl, rfl⟩
    replace h := ite_f c284 h
    by_cases c298 : ((X.2 w3.toNatClampNeg) &&& (63 : Int32)) = 23
    · replace h := ite_t c298 h
      refine x_tabC (tgt := 875) 23 d_Z_law_33 (by rw [c298]; rfl) (by decide) rfl rfl ?_
      refine x_aload_n d_Z_law_875 rfl 1 rfl ?_
      refine x_aload_n d_Z_law_876 rfl 0 rfl ?_
      refine x_iload_n d_Z_law_877 rfl 3 rfl ?_
      refine x_iconst d_Z_law_878 ic_1 ?_
      refine x_iadd d_Z_law_879 ?_
      obtain ⟨g299, h⟩ := gd_inv h
      refine x_sald d_Z_law_880 (inB_in g299) ?_
      obtain ⟨v301, S302, q300, h⟩ := bd2_inv h
      refine y_V1i (v := v301) (S1 := S302) d_Z_law_881 ml_13_111 kd_0 rfl (Nat.le_of_ble_eq_true rfl) (Nat.le_of_ble_eq_true rfl) (c_N_pedals (by omega) q300) ?_
      refine x_aload_n d_Z_law_884 rfl 2 rfl ?_
      refine x_aload_n d_Z_law_885 rfl 0 rfl ?_
      refine x_iload_n d_Z_law_886 rfl 3 rfl ?_
      refine x_iconst d_Z_law_887 ic_1 ?_
      refine x_iadd d_Z_law_888 ?_
      obtain ⟨g303, h⟩ := gd_inv h
      refine x_sald d_Z_law_889 (inB_in g303) ?_
      obtain ⟨v305, S306, q304, h⟩ := bd2_inv h
      refine y_V1i (v := v305) (S1 := S306) d_Z_law_890 ml_13_114 kd_78 rfl (Nat.le_of_ble_eq_true rfl) (Nat.le_of_ble_eq_true rfl) (c_M_pedals (by omega) q304) ?_
      refine x_icmp_eq (tgt := 1433) d_Z_law_893 rfl (fun c307 => ?_) (fun c307 => ?_)
      · replace h := ite_t c307 h
        obtain ⟨v308, e309, h⟩ := lt_inv h
        refine y_iinc (L1 := [(0, .ref 1010), (1, .ref 0), (2, .ref 78), (3, .int v308)]) e309 ic_6 d_Z_law_1433 3 rfl (Nat.le_of_ble_eq_true rfl) rfl rfl ?_
        refine x_goto (tgt := 18) d_Z_law_1436 rfl ?_
        exact ih v308 S306 _ h
      · replace h := ite_f c307 h
        refine x_iconst d_Z_law_896 ic_0 ?_
        obtain rfl := Option.some.inj h
        exact x_ret (r := some (.int (0 : Int32))) d_Z_law_897 ⟨_, rfl, rfl⟩
    replace h := ite_f c298 h
    by_cases c310 : ((X.2 w3.toNatClampNeg) &&& (63 : Int32)) = 24
    · replace h := ite_t c310 h
      refine x_tabC (tgt := 898) 24 d_Z_law_33 (by rw [c310]; rfl) (by decide) rfl rfl ?_
      refine x_aload_n d_Z_law_898 rfl 1 rfl ?_
      refine x_aload_n d_Z_law_899 rfl 0 rfl ?_
      refine x_iload_n d_Z_law_900 rfl 3 rfl ?_
      refine x_iconst d_Z_law_901 ic_1 ?_
      refine x_iadd d_Z_law_902 ?_
      obtain ⟨g311, h⟩ := gd_inv h
      refine x_sald d_Z_law_903 (inB_in g311) ?_
      obtain ⟨v313, S314, q312, h⟩ := bd2_inv h
      refine y_V1i (v := v313) (S1 := S314) d_Z_law_904 ml_13_115 kd_0 rfl (Nat.le_of_ble_eq_true rfl) (Nat.le_of_ble_eq_true rfl) (c_N_spread (by omega) q312) ?_
      refine x_aload_n d_Z_law_907 rfl 2 rfl ?_
      refine x_aload_n d_Z_law_908 rfl 0 rfl ?_
      refine x_iload_n d_Z_law_909 rfl 3 rfl ?_
      refine x_iconst d_Z_law_910 ic_1 ?_
      refine x_iadd d_Z_law_911 ?_
      obtain ⟨g315, h⟩ := gd_inv h
      refine x_sald d_Z_law_912 (inB_in g315) ?_
      obtain ⟨v317, S318, q316, h⟩ := bd2_inv h
      refine y_V1i (v := v317) (S1 := S318) d_Z_law_913 ml_13_118 kd_78 rfl (Nat.le_of_ble_eq_true rfl) (Nat.le_of_ble_eq_true rfl) (c_M_spread (by omega) q316) ?_
      refine x_icmp_eq (tgt := 1433) d_Z_law_916 rfl (fun c319 => ?_) (fun c319 => ?_)
      · replace h := ite_t c319 h
        obtain ⟨v320, e321, h⟩ := lt_inv h
        refine y_iinc (L1 := [(0, .ref 1010), (1, .ref 0), (2, .ref 78), (3, .int v320)]) e321 ic_6 d_Z_law_1433 3 rfl (Nat.le_of_ble_eq_true rfl) rfl rfl ?_
        refine x_goto (tgt := 18) d_Z_law_1436 rfl ?_
        exact ih v320 S318 _ h
      · replace h := ite_f c319 h
        refine x_iconst d_Z_law_919 ic_0 ?_
        obtain rfl := Option.some.inj h
        exact x_ret (r := some (.int (0 : Int32))) d_Z_law_920 ⟨_, rfl, rfl⟩
    replace h := ite_f c310 h
    by_cases c322 : ((X.2 w3.toNatClampNeg) &&& (63 : Int32)) = 25
    · replace h := ite_t c322 h
      refine x_tabC (tgt := 921) 25 d_Z_law_33 (by rw [c322]; rfl) (by decide) rfl rfl ?_
      refine x_aload_n d_Z_law_921 rfl 1 rfl ?_
      refine x_aload_n d_Z_law_922 rfl 0 rfl ?_
      refine x_iload_n d_Z_law_923 rfl 3 rfl ?_
      refine x_iconst d_Z_law_924 ic_1 ?_
      refine x_iadd d_Z_law_925 ?_
      obtain ⟨g323, h⟩ := gd_inv h
      refine x_sald d_Z_law_926 (inB_in g323) ?_
      obtain ⟨v325, S326, q324, h⟩ := bd2_inv h
      refine y_V1i (v := v325) (S1 := S326) d_Z_law_927 ml_13_119 kd_0 rfl (Nat.le_of_ble_eq_true rfl) (Nat.le_of_ble_eq_true rfl) (c_N_leaps (by omega) q324) ?_
      refine x_aload_n d_Z_law_930 rfl 2 rfl ?_
      refine x_aload_n d_Z_law_931 rfl 0 rfl ?_
      refine x_iload_n d_Z_law_932 rfl 3 rfl ?_
      refine x_iconst d_Z_law_933 ic_1 ?_
      refine x_iadd d_Z_law_934 ?_
      obtain ⟨g327, h⟩ := gd_inv h
      refine x_sald d_Z_law_935 (inB_in g327) ?_
      obtain ⟨v329, S330, q328, h⟩ := bd2_inv h
      refine y_V1i (v := v329) (S1 := S330) d_Z_law_936 ml_13_122 kd_78 rfl (Nat.le_of_ble_eq_true rfl) (Nat.le_of_ble_eq_true rfl) (c_M_leaps (by omega) q328) ?_
      refine x_icmp_eq (tgt := 1433) d_Z_law_939 rfl (fun c331 => ?_) (fun c331 => ?_)
      · replace h := ite_t c331 h
        obtain ⟨v332, e333, h⟩ := lt_inv h
        refine y_iinc (L1 := [(0, .ref 1010), (1, .ref 0), (2, .ref 78), (3, .int v332)]) e333 ic_6 d_Z_law_1433 3 rfl (Nat.le_of_ble_eq_true rfl) rfl rfl ?_
        refine x_goto (tgt := 18) d_Z_law_1436 rfl ?_
        exact ih v332 S330 _ h
      · replace h := ite_f c331 h
        refine x_iconst d_Z_law_942 ic_0 ?_
        obtain rfl := Option.some.inj h
        exact x_ret (r := some (.int (0 : Int32))) d_Z_law_943 ⟨_, rfl, rfl⟩
    replace h := ite_f c322 h
    by_cases c334 : ((X.2 w3.toNatClampNeg) &&& (63 : Int32)) = 26
    · replace h := ite_t c334 h
      refine x_tabC (tgt := 944) 26 d_Z_law_33 (by rw [c334]; rfl) (by decide) rfl rfl ?_
      refine x_aload_n d_Z_law_944 rfl 1 rfl ?_
      obtain ⟨v336, S337, q335, h⟩ := bd2_inv h
      refine y_V0i (v := v336) (S1 := S337) d_Z_law_945 ml_13_123 kd_0 rfl (Nat.le_of_ble_eq_true rfl) (Nat.le_of_ble_eq_true rfl) (c_N_blur (by omega) q335) ?_
      refine x_aload_n d_Z_law_948 rfl 2 rfl ?_
      obtain ⟨v339, S340, q338, h⟩ := bd2_inv h
      refine y_V0i (v := v339) (S1 := S340) d_Z_law_949 ml_13_126 kd_78 rfl (Nat.le_of_ble_eq_true rfl) (Nat.le_of_ble_eq_true rfl) (c_M_blur (by omega) q338) ?_
      refine x_icmp_eq (tgt := 1433) d_Z_law_952 rfl (fun c341 => ?_) (fun c341 => ?_)
      · replace h := ite_t c341 h
        obtain ⟨v342, e343, h⟩ := lt_inv h
        refine y_iinc (L1 := [(0, .ref 1010), (1, .ref 0), (2, .ref 78), (3, .int v342)]) e343 ic_6 d_Z_law_1433 3 rfl (Nat.le_of_ble_eq_true rfl) rfl rfl ?_
        refine x_goto (tgt := 18) d_Z_law_1436 rfl ?_
        exact ih v342 S340 _ h
      · replace h := ite_f c341 h
        refine x_iconst d_Z_law_955 ic_0 ?_
        obtain rfl := Option.some.inj h
        exact x_ret (r := some (.int (0 : Int32))) d_Z_law_956 ⟨_, rfl, rfl⟩
    replace h := ite_f c334 h
    by_cases c344 : ((X.2 w3.toNatClampNeg) &&& (63 : Int32)) = 27
    · replace h := ite_t c344 h
      refine x_tabC (tgt := 957) 27 d_Z_law_33 (by rw [c344]; rfl) (by decide) rfl rfl ?_
      refine x_aload_n d_Z_law_957 rfl 1 rfl ?_
      refine x_aload_n d_Z_law_958 rfl 0 rfl ?_
      refine x_iload_n d_Z_law_959 rfl 3 rfl ?_
      refine x_iconst d_Z_law_960 ic_1 ?_
      refine x_iadd d_Z_law_961 ?_
      obtain ⟨g345, h⟩ := gd_inv h
      refine x_sald d_Z_law_962 (inB_in g345) ?_
      obtain ⟨v347, S348, q346, h⟩ := bd2_inv h
      refine y_V1i (v := v347) (S1 := S348) d_Z_law_963 ml_13_127 kd_0 rfl (Nat.le_of_ble_eq_true rfl) (Nat.le_of_ble_eq_true rfl) (c_N_open (by omega) q346) ?_
      refine x_aload_n d_Z_law_966 rfl 2 rfl ?_
      refine x_aload_n d_Z_law_967 rfl 0 rfl ?_
      refine x_iload_n d_Z_law_968 rfl 3 rfl ?_
      refine x_iconst d_Z_law_969 ic_1 ?_
      refine x_iadd d_Z_law_970 ?_
      obtain ⟨g349, h⟩ := gd_inv h
      refine x_sald d_Z_law_971 (inB_in g349) ?_
      obtain ⟨v351, S352, q350, h⟩ := bd2_inv h
      refine y_V1i (v := v351) (S1 := S352) d_Z_law_972 ml_13_130 kd_78 rfl (Nat.le_of_ble_eq_true rfl) (Nat.le_of_ble_eq_true rfl) (c_M_open (by omega) q350) ?_
      refine x_icmp_eq (tgt := 1433) d_Z_law_975 rfl (fun c353 => ?_) (fun c353 => ?_)
      · replace h := ite_t c353 h
        obtain ⟨v354, e355, h⟩ := lt_inv h
        refine y_iinc (L1 := [(0, .ref 1010), (1, .ref 0), (2, .ref 78), (3, .int v354)]) e355 ic_6 d_Z_law_1433 3 rfl (Nat.le_of_ble_eq_true rfl) rfl rfl ?_
        refine x_goto (tgt := 18) d_Z_law_1436 rfl ?_
        exact ih v354 S352 _ h
      · replace h := ite_f c353 h
        refine x_iconst d_Z_law_978 ic_0 ?_
        obtain rfl := Option.some.inj h
        exact x_ret (r := some (.int (0 : Int32))) d_Z_law_979 ⟨_, rfl, rfl⟩
    replace h := ite_f c344 h
    by_cases c356 : ((X.2 w3.toNatClampNeg) &&& (63 : Int32)) = 28
    · replace h := ite_t c356 h
      refine x_tabC (tgt := 980) 28 d_Z_law_33 (by rw [c356]; rfl) (by decide) rfl rfl ?_
      refine x_aload_n d_Z_law_980 rfl 1 rfl ?_
      obtain ⟨v358, S359, q357, h⟩ := bd2_inv h
      refine y_V0i (v := v358) (S1 := S359) d_Z_law_981 ml_13_131 kd_0 rfl (Nat.le_of_ble_eq_true rfl) (Nat.le_of_ble_eq_true rfl) (c_N_lost (by omega) q357) ?_
      refine x_aload_n d_Z_law_984 rfl 2 rfl ?_
      obtain ⟨v361, S362, q360, h⟩ := bd2_inv h
      refine y_V0i (v := v361) (S1 := S362) d_Z_law_985 ml_13_134 kd_78 rfl (Nat.le_of_ble_eq_true rfl) (Nat.le_of_ble_eq_true rfl) (c_M_lost (by omega) q360) ?_
      refine x_icmp_eq (tgt := 1433) d_Z_law_988 rfl (fun c363 => ?_) (fun c363 => ?_)
      · replace h := ite_t c363 h
        obtain ⟨v364, e365, h⟩ := lt_inv h
        refine y_iinc (L1 := [(0, .ref 1010), (1, .ref 0), (2, .ref 78), (3, .int v364)]) e365 ic_6 d_Z_law_1433 3 rfl (Nat.le_of_ble_eq_true rfl) rfl rfl ?_
        refine x_goto (tgt := 18) d_Z_law_1436 rfl ?_
        exact ih v364 S362 _ h
      · replace h := ite_f c363 h
        refine x_iconst d_Z_law_991 ic_0 ?_
        obtain rfl := Option.some.inj h
        exact x_ret (r := some (.int (0 : Int32))) d_Z_law_992 ⟨_, rfl, rfl⟩
    replace h := ite_f c356 h
    by_cases c366 : ((X.2 w3.toNatClampNeg) &&& (63 : Int32)) = 29
    · replace h := ite_t c366 h
      refine x_tabC (tgt := 993) 29 d_Z_law_33 (by rw [c366]; rfl) (by decide) rfl rfl ?_
      refine x_aload_n d_Z_law_993 rfl 1 rfl ?_
      obtain ⟨v368, S369, q367, h⟩ := bd2_inv h
      refine y_V0i (v := v368) (S1 := S369) d_Z_law_994 ml_13_135 kd_0 rfl (Nat.le_of_ble_eq_true rfl) (Nat.le_of_ble_eq_true rfl) (c_N_gaps (by omega) q367) ?_
      refine x_aload_n d_Z_law_997 rfl 2 rfl ?_
      obtain ⟨v371, S372, q370, h⟩ := bd2_inv h
      refine y_V0i (v := v371) (S1 := S372) d_Z_law_998 ml_13_138 kd_78 rfl (Nat.le_of_ble_eq_true rfl) (Nat.le_of_ble_eq_true rfl) (c_M_gaps (by omega) q370) ?_
      refine x_icmp_eq (tgt := 1433) d_Z_law_1001 rfl (fun c373 => ?_) (fun c373 => ?_)
      · replace h := ite_t c373 h
        obtain ⟨v374, e375, h⟩ := lt_inv h
        refine y_iinc (L1 := [(0, .ref 1010), (1, .ref 0), (2, .ref 78), (3, .int v374)]) e375 ic_6 d_Z_law_1433 3 rfl (Nat.le_of_ble_eq_true rfl) rfl rfl ?_
        refine x_goto (tgt := 18) d_Z_law_1436 rfl ?_
        exact ih v374 S372 _ h
      · replace h := ite_f c373 h
        refine x_iconst d_Z_law_1004 ic_0 ?_
        obtain rfl := Option.some.inj h
        exact x_ret (r := some (.int (0 : Int32))) d_Z_law_1005 ⟨_, rfl, rfl⟩
    replace h := ite_f c366 h
    by_cases c376 : ((X.2 w3.toNatClampNeg) &&& (63 : Int32)) = 30
    · replace h := ite_t c376 h
      refine x_tabC (tgt := 1006) 30 d_Z_law_33 (by rw [c376]; rfl) (by decide) rfl rfl ?_
      refine x_aload_n d_Z_law_1006 rfl 1 rfl ?_
      refine x_aload_n d_Z_law_1007 rfl 0 rfl ?_
      refine x_iload_n d_Z_law_1008 rfl 3 rfl ?_
      refine x_iconst d_Z_law_1009 ic_1 ?_
      refine x_iadd d_Z_law_1010 ?_
      obtain ⟨g377, h⟩ := gd_inv h
      refine x_sald d_Z_law_1011 (inB_in g377) ?_
      obtain ⟨v379, S380, q378, h⟩ := bd2_inv h
      refine y_V1i (v := v379) (S1 := S380) d_Z_law_1012 ml_13_139 kd_0 rfl (Nat.le_of_ble_eq_true rfl) (Nat.le_of_ble_eq_true rfl) (c_N_easier (by omega) q378) ?_
      refine x_aload_n d_Z_law_1015 rfl 2 rfl ?_
      refine x_aload_n d_Z_law_1016 rfl 0 rfl ?_
      refine x_iload_n d_Z_law_1017 rfl 3 rfl ?_
      refine x_iconst d_Z_law_1018 ic_1 ?_
      refine x_iadd d_Z_law_1019 ?_
      obtain ⟨g381, h⟩ := gd_inv h
      refine x_sald d_Z_law_1020 (inB_in g381) ?_
      obtain ⟨v383, S384, q382, h⟩ := bd2_inv h
      refine y_V1i (v := v383) (S1 := S384) d_Z_law_1021 ml_13_142 kd_78 rfl (Nat.le_of_ble_eq_true rfl) (Nat.le_of_ble_eq_true rfl) (c_M_easier (by omega) q382) ?_
      refine x_icmp_eq (tgt := 1433) d_Z_law_1024 rfl (fun c385 => ?_) (fun c385 => ?_)
      · replace h := ite_t c385 h
        obtain ⟨v386, e387, h⟩ := lt_inv h
        refine y_iinc (L1 := [(0, .ref 1010), (1, .ref 0), (2, .ref 78), (3, .int v386)]) e387 ic_6 d_Z_law_1433 3 rfl (Nat.le_of_ble_eq_true rfl) rfl rfl ?_
        refine x_goto (tgt := 18) d_Z_law_1436 rfl ?_
        exact ih v386 S384 _ h
      · replace h := ite_f c385 h
        refine x_iconst d_Z_law_1027 ic_0 ?_
        obtain rfl := Option.some.inj h
        exact x_ret (r := some (.int (0 : Int32))) d_Z_law_1028 ⟨_, rfl, rfl⟩
    replace h := ite_f c376 h
    by_cases c388 : ((X.2 w3.toNatClampNeg) &&& (63 : Int32)) = 31
    · replace h := ite_t c388 h
      refine x_tabC (tgt := 1029) 31 d_Z_law_33 (by rw [c388]; rfl) (by decide) rfl rfl ?_
      refine x_aload_n d_Z_law_1029 rfl 1 rfl ?_
      obtain ⟨v390, S391, q389, h⟩ := bd2_inv h
      refine y_V0i (v := v390) (S1 := S391) d_Z_law_1030 ml_13_143 kd_0 rfl (Nat.le_of_ble_eq_true rfl) (Nat.le_of_ble_eq_true rfl) (c_N_thickest (by omega) q389) ?_
      refine x_aload_n d_Z_law_1033 rfl 2 rfl ?_
      obtain ⟨v393, S394, q392, h⟩ := bd2_inv h
      refine y_V0i (v := v393) (S1 := S394) d_Z_law_1034 ml_13_146 kd_78 rfl (Nat.le_of_ble_eq_true rfl) (Nat.le_of_ble_eq_true rfl) (c_M_thickest (by omega) q392) ?_
      refine x_icmp_eq (tgt := 1433) d_Z_law_1037 rfl (fun c395 => ?_) (fun c395 => ?_)
      · replace h := ite_t c395 h
        obtain ⟨v396, e397, h⟩ := lt_inv h
        refine y_iinc (L1 := [(0, .ref 1010), (1, .ref 0), (2, .ref 78), (3, .int v396)]) e397 ic_6 d_Z_law_1433 3 rfl (Nat.le_of_ble_eq_true rfl) rfl rfl ?_
        refine x_goto (tgt := 18) d_Z_law_1436 rfl ?_
        exact ih v396 S394 _ h
      · replace h := ite_f c395 h
        refine x_iconst d_Z_law_1040 ic_0 ?_
        obtain rfl := Option.some.inj h
        exact x_ret (r := some (.int (0 : Int32))) d_Z_law_1041 ⟨_, rfl, rfl⟩
    replace h := ite_f c388 h
    by_cases c398 : ((X.2 w3.toNatClampNeg) &&& (63 : Int32)) = 32
    · replace h := ite_t c398 h
      refine x_tabC (tgt := 1042) 32 d_Z_law_33 (by rw [c398]; rfl) (by decide) rfl rfl ?_
      refine x_aload_n d_Z_law_1042 rfl 1 rfl ?_
      refine x_aload_n d_Z_law_1043 rfl 0 rfl ?_
      refine x_iload_n d_Z_law_1044 rfl 3 rfl ?_
      refine x_iconst d_Z_law_1045 ic_1 ?_
      refine x_iadd d_Z_law_1046 ?_
      obtain ⟨g399, h⟩ := gd_inv h
      refine x_sald d_Z_law_1047 (inB_in g399) ?_
      obtain ⟨v401, S402, q400, h⟩ := bd2_inv h
      refine y_V1i (v := v401) (S1 := S402) d_Z_law_1048 ml_13_147 kd_0 rfl (Nat.le_of_ble_eq_true rfl) (Nat.le_of_ble_eq_true rfl) (c_N_busiest (by omega) q400) ?_
      refine x_aload_n d_Z_law_1051 rfl 2 rfl ?_
      refine x_aload_n d_Z_law_1052 rfl 0 rfl ?_
      refine x_iload_n d_Z_law_1053 rfl 3 rfl ?_
      refine x_iconst d_Z_law_1054 ic_1 ?_
      refine x_iadd d_Z_law_1055 ?_
      obtain ⟨g403, h⟩ := gd_inv h
      refine x_sald d_Z_law_1056 (inB_in g403) ?_
      obtain ⟨v405, S406, q404, h⟩ := bd2_inv h
      refine y_V1i (v := v405) (S1 := S406) d_Z_law_1057 ml_13_150 kd_78 rfl (Nat.le_of_ble_eq_true rfl) (Nat.le_of_ble_eq_true rfl) (c_M_busiest (by omega) q404) ?_
      refine x_icmp_eq (tgt := 1433) d_Z_law_1060 rfl (fun c407 => ?_) (fun c407 => ?_)
      · replace h := ite_t c407 h
        obtain ⟨v408, e409, h⟩ := lt_inv h
        refine y_iinc (L1 := [(0, .ref 1010), (1, .ref 0), (2, .ref 78), (3, .int v408)]) e409 ic_6 d_Z_law_1433 3 rfl (Nat.le_of_ble_eq_true rfl) rfl rfl ?_
        refine x_goto (tgt := 18) d_Z_law_1436 rfl ?_
        exact ih v408 S406 _ h
      · replace h := ite_f c407 h
        refine x_iconst d_Z_law_1063 ic_0 ?_
        obtain rfl := Option.some.inj h
        exact x_ret (r := some (.int (0 : Int32))) d_Z_law_1064 ⟨_, rfl, rfl⟩
    replace h := ite_f c398 h
    by_cases c410 : ((X.2 w3.toNatClampNeg) &&& (63 : Int32)) = 33
    · replace h := ite_t c410 h
      refine x_tabC (tgt := 1065) 33 d_Z_law_33 (by rw [c410]; rfl) (by decide) rfl rfl ?_
      refine x_aload_n d_Z_law_1065 rfl 1 rfl ?_
      refine x_aload_n d_Z_law_1066 rfl 0 rfl ?_
      refine x_iload_n d_Z_law_1067 rfl 3 rfl ?_
      refine x_iconst d_Z_law_1068 ic_1 ?_
      refine x_iadd d_Z_law_1069 ?_
      obtain ⟨g411, h⟩ := gd_inv h
      refine x_sald d_Z_law_1070 (inB_in g411) ?_
      obtain ⟨v413, S414, q412, h⟩ := bd2_inv h
      refine y_V1i (v := v413) (S1 := S414) d_Z_law_1071 ml_13_151 kd_0 rfl (Nat.le_of_ble_eq_true rfl) (Nat.le_of_ble_eq_true rfl) (c_N_law (by omega) q412) ?_
      refine x_aload_n d_Z_law_1074 rfl 2 rfl ?_
      refine x_aload_n d_Z_law_1075 rfl 0 rfl ?_
      refine x_iload_n d_Z_law_1076 rfl 3 rfl ?_
      refine x_iconst d_Z_law_1077 ic_1 ?_
      refine x_iadd d_Z_law_1078 ?_
      obtain ⟨g415, h⟩ := gd_inv h
      refine x_sald d_Z_law_1079 (inB_in g415) ?_
      obtain ⟨v417, S418, q416, h⟩ := bd2_inv h
      refine y_V1i (v := v417) (S1 := S418) d_Z_law_1080 ml_13_154 kd_78 rfl (Nat.le_of_ble_eq_true rfl) (Nat.le_of_ble_eq_true rfl) (c_M_law (by omega) q416) ?_
      refine x_icmp_eq (tgt := 1433) d_Z_law_1083 rfl (fun c419 => ?_) (fun c419 => ?_)
      · replace h := ite_t c419 h
        obtain ⟨v420, e421, h⟩ := lt_inv h
        refine y_iinc (L1 := [(0, .ref 1010), (1, .ref 0), (2, .ref 78), (3, .int v420)]) e421 ic_6 d_Z_law_1433 3 rfl (Nat.le_of_ble_eq_true rfl) rfl rfl ?_
        refine x_goto (tgt := 18) d_Z_law_1436 rfl ?_
        exact ih v420 S418 _ h
      · replace h := ite_f c419 h
        refine x_iconst d_Z_law_1086 ic_0 ?_
        obtain rfl := Option.some.inj h
        exact x_ret (r := some (.int (0 : Int32))) d_Z_law_1087 ⟨_, rfl, rfl⟩
    replace h := ite_f c410 h
    by_cases c422 : ((X.2 w3.toNatClampNeg) &&& (63 : Int32)) = 34
    · replace h := ite_t c422 h
      refine x_tabC (tgt := 1088) 34 d_Z_law_33 (by rw [c422]; rfl) (by decide) rfl rfl ?_
      refine x_aload_n d_Z_law_1088 rfl 1 rfl ?_
      obtain ⟨v424, S425, q423, h⟩ := bd2_inv h
      refine y_V0i (v := v424) (S1 := S425) d_Z_law_1089 ml_13_155 kd_0 rfl (Nat.le_of_ble_eq_true rfl) (Nat.le_of_ble_eq_true rfl) (c_N_dearest (by omega) q423) ?_
      refine x_aload_n d_Z_law_1092 rfl 2 rfl ?_
      obtain ⟨v427, S428, q426, h⟩ := bd2_inv h
      refine y_V0i (v := v427) (S1 := S428) d_Z_law_1093 ml_13_158 kd_78 rfl (Nat.le_of_ble_eq_true rfl) (Nat.le_of_ble_eq_true rfl) (c_M_dearest (by omega) q426) ?_
      refine x_icmp_eq (tgt := 1433) d_Z_law_1096 rfl (fun c429 => ?_) (fun c429 => ?_)
      · replace h := ite_t c429 h
        obtain ⟨v430, e431, h⟩ := lt_inv h
        refine y_iinc (L1 := [(0, .ref 1010), (1, .ref 0), (2, .ref 78), (3, .int v430)]) e431 ic_6 d_Z_law_1433 3 rfl (Nat.le_of_ble_eq_true rfl) rfl rfl ?_
        refine x_goto (tgt := 18) d_Z_law_1436 rfl ?_
        exact ih v430 S428 _ h
      · replace h := ite_f c429 h
        refine x_iconst d_Z_law_1099 ic_0 ?_
        obtain rfl := Option.some.inj h
        exact x_ret (r := some (.int (0 : Int32))) d_Z_law_1100 ⟨_, rfl, rfl⟩
    replace h := ite_f c422 h
    by_cases c432 : ((X.2 w3.toNatClampNeg) &&& (63 : Int32)) = 35
    · replace h := ite_t c432 h
      refine x_tabC (tgt := 1101) 35 d_Z_law_33 (by rw [c432]; rfl) (by decide) rfl rfl ?_
      refine x_aload_n d_Z_law_1101 rfl 1 rfl ?_
      refine x_aload_n d_Z_law_1102 rfl 0 rfl ?_
      refine x_iload_n d_Z_law_1103 rfl 3 rfl ?_
      refine x_iconst d_Z_law_1104 ic_1 ?_
      refine x_iadd d_Z_law_1105 ?_
      obtain ⟨g433, h⟩ := gd_inv h
      refine x_sald d_Z_law_1106 (inB_in g433) ?_
      obtain ⟨v435, S436, q434, h⟩ := bd2_inv h
      refine y_V1i (v := v435) (S1 := S436) d_Z_law_1107 ml_13_159 kd_0 rfl (Nat.le_of_ble_eq_true rfl) (Nat.le_of_ble_eq_true rfl) (c_N_could (by omega) q434) ?_
      refine x_aload_n d_Z_law_1110 rfl 2 rfl ?_
      refine x_aload_n d_Z_law_1111 rfl 0 rfl ?_
      refine x_iload_n d_Z_law_1112 rfl 3 rfl ?_
      refine x_iconst d_Z_law_1113 ic_1 ?_
      refine x_iadd d_Z_law_1114 ?_
      obtain ⟨g437, h⟩ := gd_inv h
      refine x_sald d_Z_law_1115 (inB_in g437) ?_
      obtain ⟨v439, S440, q438, h⟩ := bd2_inv h
      refine y_V1i (v := v439) (S1 := S440) d_Z_law_1116 ml_13_162 kd_78 rfl (Nat.le_of_ble_eq_true rfl) (Nat.le_of_ble_eq_true rfl) (c_M_could (by omega) q438) ?_
      refine x_icmp_eq (tgt := 1433) d_Z_law_1119 rfl (fun c441 => ?_) (fun c441 => ?_)
      · replace h := ite_t c441 h
        obtain ⟨v442, e443, h⟩ := lt_inv h
        refine y_iinc (L1 := [(0, .ref 1010), (1, .ref 0), (2, .ref 78), (3, .int v442)]) e443 ic_6 d_Z_law_1433 3 rfl (Nat.le_of_ble_eq_true rfl) rfl rfl ?_
        refine x_goto (tgt := 18) d_Z_law_1436 rfl ?_
        exact ih v442 S440 _ h
      · replace h := ite_f c441 h
        refine x_iconst d_Z_law_1122 ic_0 ?_
        obtain rfl := Option.some.inj h
        exact x_ret (r := some (.int (0 : Int32))) d_Z_law_1123 ⟨_, rfl, rfl⟩
    replace h := ite_f c432 h
    by_cases c444 : ((X.2 w3.toNatClampNeg) &&& (63 : Int32)) = 36
    · replace h := ite_t c444 h
      refine x_tabC (tgt := 1124) 36 d_Z_law_33 (by rw [c444]; rfl) (by decide) rfl rfl ?_
      refine x_aload_n d_Z_law_1124 rfl 1 rfl ?_
      refine x_aload_n d_Z_law_1125 rfl 0 rfl ?_
      refine x_iload_n d_Z_law_1126 rfl 3 rfl ?_
      refine x_iconst d_Z_law_1127 ic_1 ?_
      refine x_iadd d_Z_law_1128 ?_
      obtain ⟨g445, h⟩ := gd_inv h
      refine x_sald d_Z_law_1129 (inB_in g445) ?_
      obtain ⟨v447, q446, h⟩ := bd_inv h
      refine y_V1i (v := v447) (S1 := S) d_Z_law_1130 ml_13_163 kd_0 rfl (Nat.le_of_ble_eq_true rfl) (Nat.le_of_ble_eq_true rfl) (c_N_lies (by omega) q446) ?_
      refine x_aload_n d_Z_law_1133 rfl 2 rfl ?_
      refine x_aload_n d_Z_law_1134 rfl 0 rfl ?_
      refine x_iload_n d_Z_law_1135 rfl 3 rfl ?_
      refine x_iconst d_Z_law_1136 ic_1 ?_
      refine x_iadd d_Z_law_1137 ?_
      obtain ⟨g448, h⟩ := gd_inv h
      refine x_sald d_Z_law_1138 (inB_in g448) ?_
      obtain ⟨v450, q449, h⟩ := bd_inv h
      refine y_V1i (v := v450) (S1 := S) d_Z_law_1139 ml_13_166 kd_78 rfl (Nat.le_of_ble_eq_true rfl) (Nat.le_of_ble_eq_true rfl) (c_M_lies (by omega) q449) ?_
      refine x_icmp_eq (tgt := 1433) d_Z_law_1142 rfl (fun c451 => ?_) (fun c451 => ?_)
      · replace h := ite_t c451 h
        obtain ⟨v452, e453, h⟩ := lt_inv h
        refine y_iinc (L1 := [(0, .ref 1010), (1, .ref 0), (2, .ref 78), (3, .int v452)]) e453 ic_6 d_Z_law_1433 3 rfl (Nat.le_of_ble_eq_true rfl) rfl rfl ?_
        refine x_goto (tgt := 18) d_Z_law_1436 rfl ?_
        exact ih v452 S _ h
      · replace h := ite_f c451 h
        refine x_iconst d_Z_law_1145 ic_0 ?_
        obtain rfl := Option.some.inj h
        exact x_ret (r := some (.int (0 : Int32))) d_Z_law_1146 ⟨_, rfl, rfl⟩
    replace h := ite_f c444 h
    by_cases c454 : ((X.2 w3.toNatClampNeg) &&& (63 : Int32)) = 37
    · replace h := ite_t c454 h
      refine x_tabC (tgt := 1147) 37 d_Z_law_33 (by rw [c454]; rfl) (by decide) rfl rfl ?_
      refine x_aload_n d_Z_law_1147 rfl 1 rfl ?_
      refine x_aload_n d_Z_law_1148 rfl 0 rfl ?_
      refine x_iload_n d_Z_law_1149 rfl 3 rfl ?_
      refine x_iconst d_Z_law_1150 ic_1 ?_
      refine x_iadd d_Z_law_1151 ?_
      obtain ⟨g455, h⟩ := gd_inv h
      refine x_sald d_Z_law_1152 (inB_in g455) ?_
      refine x_aload_n d_Z_law_1153 rfl 0 rfl ?_
      refine x_iload_n d_Z_law_1154 rfl 3 rfl ?_
      refine x_iconst d_Z_law_1155 ic_2 ?_
      refine x_iadd d_Z_law_1156 ?_
      obtain ⟨g456, h⟩ := gd_inv h
      refine x_sald d_Z_law_1157 (inB_in g456) ?_
      refine x_aload_n d_Z_law_1158 rfl 0 rfl ?_
      refine x_iload_n d_Z_law_1159 rfl 3 rfl ?_
      refine x_iconst d_Z_law_1160 ic_3 ?_
      refine x_iadd d_Z_law_1161 ?_
      obtain ⟨g457, h⟩ := gd_inv h
      refine x_sald d_Z_law_1162 (inB_in g457) ?_
      refine x_if_eq (tgt := 1170) d_Z_law_1163 rfl (fun c458 => ?_) (fun c458 => ?_)
      · replace h := ite_t c458 h
        refine x_iconst d_Z_law_1170 ic_0 ?_
        exact J1171 S w3 (X.2 (w3 + (1 : Int32)).toNatClampNeg) (X.2 (w3 + (2 : Int32)).toNatClampNeg) (0 : Int32) _ h
      · replace h := ite_f c458 h
        refine x_iconst d_Z_law_1166 ic_1 ?_
        refine x_goto (tgt := 1171) d_Z_law_1167 rfl ?_
        exact J1171 S w3 (X.2 (w3 + (1 : Int32)).toNatClampNeg) (X.2 (w3 + (2 : Int32)).toNatClampNeg) (1 : Int32) _ h
    replace h := ite_f c454 h
    by_cases c459 : ((X.2 w3.toNatClampNeg) &&& (63 : Int32)) = 38
    · replace h := ite_t c459 h
      refine x_tabC (tgt := 1206) 38 d_Z_law_33 (by rw [c459]; rfl) (by decide) rfl rfl ?_
      refine x_aload_n d_Z_law_1206 rfl 1 rfl ?_
      refine x_aload_n d_Z_law_1207 rfl 0 rfl ?_
      refine x_iload_n d_Z_law_1208 rfl 3 rfl ?_
      refine x_iconst d_Z_law_1209 ic_1 ?_
      refine x_iadd d_Z_law_1210 ?_
      obtain ⟨g460, h⟩ := gd_inv h
      refine x_sald d_Z_law_1211 (inB_in g460) ?_
      obtain ⟨v462, S463, q461, h⟩ := bd2_inv h
      refine y_V1i (v := v462) (S1 := S463) d_Z_law_1212 ml_13_172 kd_0 rfl (Nat.le_of_ble_eq_true rfl) (Nat.le_of_ble_eq_true rfl) (c_N_untell (by omega) q461) ?_
      refine x_aload_n d_Z_law_1215 rfl 2 rfl ?_
      refine x_aload_n d_Z_law_1216 rfl 0 rfl ?_
      refine x_iload_n d_Z_law_1217 rfl 3 rfl ?_
      refine x_iconst d_Z_law_1218 ic_1 ?_
      refine x_iadd d_Z_law_1219 ?_
      obtain ⟨g464, h⟩ := gd_inv h
      refine x_sald d_Z_law_1220 (inB_in g464) ?_
      obtain ⟨v466, S467, q465, h⟩ := bd2_inv h
      refine y_V1i (v := v466) (S1 := S467) d_Z_law_1221 ml_13_176 kd_78 rfl (Nat.le_of_ble_eq_true rfl) (Nat.le_of_ble_eq_true rfl) (c_M_untell (by omega) q465) ?_
      refine x_icmp_eq (tgt := 1433) d_Z_law_1224 rfl (fun c468 => ?_) (fun c468 => ?_)
      · replace h := ite_t c468 h
        obtain ⟨v469, e470, h⟩ := lt_inv h
        refine y_iinc (L1 := [(0, .ref 1010), (1, .ref 0), (2, .ref 78), (3, .int v469)]) e470 ic_6 d_Z_law_1433 3 rfl (Nat.le_of_ble_eq_true rfl) rfl rfl ?_
        refine x_goto (tgt := 18) d_Z_law_1436 rfl ?_
        exact ih v469 S467 _ h
      · replace h := ite_f c468 h
        refine x_iconst d_Z_law_1227 ic_0 ?_
        obtain rfl := Option.some.inj h
        exact x_ret (r := some (.int (0 : Int32))) d_Z_law_1228 ⟨_, rfl, rfl⟩
    replace h := ite_f c459 h
    by_cases c471 : ((X.2 w3.toNatClampNeg) &&& (63 : Int32)) = 39
    · replace h := ite_t c471 h
      refine x_tabC (tgt := 1229) 39 d_Z_law_33 (by rw [c471]; rfl) (by decide) rfl rfl ?_
      refine x_aload_n d_Z_law_1229 rfl 1 rfl ?_
      refine x_aload_n d_Z_law_1230 rfl 0 rfl ?_
      refine x_iload_n d_Z_law_1231 rfl 3 rfl ?_
      refine x_iconst d_Z_law_1232 ic_1 ?_
      refine x_iadd d_Z_law_1233 ?_
      obtain ⟨g472, h⟩ := gd_inv h
      refine x_sald d_Z_law_1234 (inB_in g472) ?_
      obtain ⟨v474, S475, q473, h⟩ := bd2_inv h
      refine y_V1i (v := v474) (S1 := S475) d_Z_law_1235 ml_13_177 kd_0 rfl (Nat.le_of_ble_eq_true rfl) (Nat.le_of_ble_eq_true rfl) (c_N_later (by omega) q473) ?_
      refine x_aload_n d_Z_law_1238 rfl 2 rfl ?_
      refine x_aload_n d_Z_law_1239 rfl 0 rfl ?_
      refine x_iload_n d_Z_law_1240 rfl 3 rfl ?_
      refine x_iconst d_Z_law_1241 ic_1 ?_
      refine x_iadd d_Z_law_1242 ?_
      obtain ⟨g476, h⟩ := gd_inv h
      refine x_sald d_Z_law_1243 (inB_in g476) ?_
      obtain ⟨v478, S479, q477, h⟩ := bd2_inv h
      refine y_V1i (v := v478) (S1 := S479) d_Z_law_1244 ml_13_180 kd_78 rfl (Nat.le_of_ble_eq_true rfl) (Nat.le_of_ble_eq_true rfl) (c_M_later (by omega) q477) ?_
      refine x_icmp_eq (tgt := 1433) d_Z_law_1247 rfl (fun c480 => ?_) (fun c480 => ?_)
      · replace h := ite_t c480 h
        obtain ⟨v481, e482, h⟩ := lt_inv h
        refine y_iinc (L1 := [(0, .ref 1010), (1, .ref 0), (2, .ref 78), (3, .int v481)]) e482 ic_6 d_Z_law_1433 3 rfl (Nat.le_of_ble_eq_true rfl) rfl rfl ?_
        refine x_goto (tgt := 18) d_Z_law_1436 rfl ?_
        exact ih v481 S479 _ h
      · replace h := ite_f c480 h
        refine x_iconst d_Z_law_1250 ic_0 ?_
        obtain rfl := Option.some.inj h
        exact x_ret (r := some (.int (0 : Int32))) d_Z_law_1251 ⟨_, rfl, rfl⟩
    replace h := ite_f c471 h
    by_cases c483 : ((X.2 w3.toNatClampNeg) &&& (63 : Int32)) = 40
    · replace h := ite_t c483 h
      refine x_tabC (tgt := 1252) 40 d_Z_law_33 (by rw [c483]; rfl) (by decide) rfl rfl ?_
      refine x_aload_n d_Z_law_1252 rfl 1 rfl ?_
      refine x_aload_n d_Z_law_1253 rfl 0 rfl ?_
      refine x_iload_n d_Z_law_1254 rfl 3 rfl ?_
      refine x_iconst d_Z_law_1255 ic_1 ?_
      refine x_iadd d_Z_law_1256 ?_
      obtain ⟨g484, h⟩ := gd_inv h
      refine x_sald d_Z_law_1257 (inB_in g484) ?_
      obtain ⟨v486, S487, q485, h⟩ := bd2_inv h
      refine y_V1i (v := v486) (S1 := S487) d_Z_law_1258 ml_13_181 kd_0 rfl (Nat.le_of_ble_eq_true rfl) (Nat.le_of_ble_eq_true rfl) (c_N_sets (by omega) q485) ?_
      refine x_aload_n d_Z_law_1261 rfl 2 rfl ?_
      refine x_aload_n d_Z_law_1262 rfl 0 rfl ?_
      refine x_iload_n d_Z_law_1263 rfl 3 rfl ?_
      refine x_iconst d_Z_law_1264 ic_1 ?_
      refine x_iadd d_Z_law_1265 ?_
      obtain ⟨g488, h⟩ := gd_inv h
      refine x_sald d_Z_law_1266 (inB_in g488) ?_
      obtain ⟨v490, S491, q489, h⟩ := bd2_inv h
      refine y_V1i (v := v490) (S1 := S491) d_Z_law_1267 ml_13_184 kd_78 rfl (Nat.le_of_ble_eq_true rfl) (Nat.le_of_ble_eq_true rfl) (c_M_sets (by omega) q489) ?_
      refine x_icmp_eq (tgt := 1433) d_Z_law_1270 rfl (fun c492 => ?_) (fun c492 => ?_)
      · replace h := ite_t c492 h
        obtain ⟨v493, e494, h⟩ := lt_inv h
        refine y_iinc (L1 := [(0, .ref 1010), (1, .ref 0), (2, .ref 78), (3, .int v493)]) e494 ic_6 d_Z_law_1433 3 rfl (Nat.le_of_ble_eq_true rfl) rfl rfl ?_
        refine x_goto (tgt := 18) d_Z_law_1436 rfl ?_
        exact ih v493 S491 _ h
      · replace h := ite_f c492 h
        refine x_iconst d_Z_law_1273 ic_0 ?_
        obtain rfl := Option.some.inj h
        exact x_ret (r := some (.int (0 : Int32))) d_Z_law_1274 ⟨_, rfl, rfl⟩
    replace h := ite_f c483 h
    by_cases c495 : ((X.2 w3.toNatClampNeg) &&& (63 : Int32)) = 41
    · replace h := ite_t c495 h
      refine x_tabC (tgt := 1275) 41 d_Z_law_33 (by rw [c495]; rfl) (by decide) rfl rfl ?_
      refine x_aload_n d_Z_law_1275 rfl 1 rfl ?_
      refine x_aload_n d_Z_law_1276 rfl 0 rfl ?_
      refine x_iload_n d_Z_law_1277 rfl 3 rfl ?_
      refine x_iconst d_Z_law_1278 ic_1 ?_
      refine x_iadd d_Z_law_1279 ?_
      obtain ⟨g496, h⟩ := gd_inv h
      refine x_sald d_Z_law_1280 (inB_in g496) ?_
      refine x_aload_n d_Z_law_1281 rfl 0 rfl ?_
      refine x_iload_n d_Z_law_1282 rfl 3 rfl ?_
      refine x_iconst d_Z_law_1283 ic_2 ?_
      refine x_iadd d_Z_law_1284 ?_
      obtain ⟨g497, h⟩ := gd_inv h
      refine x_sald d_Z_law_1285 (inB_in g497) ?_
      obtain ⟨v499, S500, q498, h⟩ := bd2_inv h
      refine y_V2i (v := v499) (S1 := S500) d_Z_law_1286 ml_13_185 kd_0 rfl (Nat.le_of_ble_eq_true rfl) (Nat.le_of_ble_eq_true rfl) (c_N_sure (by omega) q498) ?_
      refine x_aload_n d_Z_law_1289 rfl 2 rfl ?_
      refine x_aload_n d_Z_law_1290 rfl 0 rfl ?_
      refine x_iload_n d_Z_law_1291 rfl 3 rfl ?_
      refine x_iconst d_Z_law_1292 ic_1 ?_
      refine x_iadd d_Z_law_1293 ?_
      obtain ⟨g501, h⟩ := gd_inv h
      refine x_sald d_Z_law_1294 (inB_in g501) ?_
      refine x_aload_n d_Z_law_1295 rfl 0 rfl ?_
      refine x_iload_n d_Z_law_1296 rfl 3 rfl ?_
      refine x_iconst d_Z_law_1297 ic_2 ?_
      refine x_iadd d_Z_law_1298 ?_
      obtain ⟨g502, h⟩ := gd_inv h
      refine x_sald d_Z_law_1299 (inB_in g502) ?_
      obtain ⟨v504, S505, q503, h⟩ := bd2_inv h
      refine y_V2i (v := v504) (S1 := S505) d_Z_law_1300 ml_13_188 kd_78 rfl (Nat.le_of_ble_eq_true rfl) (Nat.le_of_ble_eq_true rfl) (c_M_sure (by omega) q503) ?_
      refine x_icmp_eq (tgt := 1433) d_Z_law_1303 rfl (fun c506 => ?_) (fun c506 => ?_)
      · replace h := ite_t c506 h
        obtain ⟨v507, e508, h⟩ := lt_inv h
        refine y_iinc (L1 := [(0, .ref 1010), (1, .ref 0), (2, .ref 78), (3, .int v507)]) e508 ic_6 d_Z_law_1433 3 rfl (Nat.le_of_ble_eq_true rfl) rfl rfl ?_
        refine x_goto (tgt := 18) d_Z_law_1436 rfl ?_
        exact ih v507 S505 _ h
      · replace h := ite_f c506 h
        refine x_iconst d_Z_law_1306 ic_0 ?_
        obtain rfl := Option.some.inj h
        exact x_ret (r := some (.int (0 : Int32))) d_Z_law_1307 ⟨_, rfl, rfl⟩
    replace h := ite_f c495 h
    by_cases c509 : ((X.2 w3.toNatClampNeg) &&& (63 : Int32)) = 42
    · replace h := ite_t c509 h
      refine x_tabC (tgt := 1308) 42 d_Z_law_33 (by rw [c509]; rfl) (by decide) rfl rfl ?_
      refine x_aload_n d_Z_law_1308 rfl 1 rfl ?_
      refine x_aload_n d_Z_law_1309 rfl 0 rfl ?_
      refine x_iload_n d_Z_law_1310 rfl 3 rfl ?_
      refine x_iconst d_Z_law_1311 ic_1 ?_
      refine x_iadd d_Z_law_1312 ?_
      obtain ⟨g510, h⟩ := gd_inv h
      refine x_sald d_Z_law_1313 (inB_in g510) ?_
      refine x_aload_n d_Z_law_1314 rfl 0 rfl ?_
      refine x_iload_n d_Z_law_1315 rfl 3 rfl ?_
      refine x_iconst d_Z_law_1316 ic_2 ?_
      refine x_iadd d_Z_law_1317 ?_
      obtain ⟨g511, h⟩ := gd_inv h
      refine x_sald d_Z_law_1318 (inB_in g511) ?_
      obtain ⟨v513, S514, q512, h⟩ := bd2_inv h
      refine y_V2i (v := v513) (S1 := S514) d_Z_law_1319 ml_13_189 kd_0 rfl (Nat.le_of_ble_eq_true rfl) (Nat.le_of_ble_eq_true rfl) (c_N_ask (by omega) q512) ?_
      refine x_aload_n d_Z_law_1322 rfl 2 rfl ?_
      refine x_aload_n d_Z_law_1323 rfl 0 rfl ?_
      refine x_iload_n d_Z_law_1324 rfl 3 rfl ?_
      refine x_iconst d_Z_law_1325 ic_1 ?_
      refine x_iadd d_Z_law_1326 ?_
      obtain ⟨g515, h⟩ := gd_inv h
      refine x_sald d_Z_law_1327 (inB_in g515) ?_
      refine x_aload_n d_Z_law_1328 rfl 0 rfl ?_
      refine x_iload_n d_Z_law_1329 rfl 3 rfl ?_
      refine x_iconst d_Z_law_1330 ic_2 ?_
      refine x_iadd d_Z_law_1331 ?_
      obtain ⟨g516, h⟩ := gd_inv h
      refine x_sald d_Z_law_1332 (inB_in g516) ?_
      obtain ⟨v518, S519, q517, h⟩ := bd2_inv h
      refine y_V2i (v := v518) (S1 := S519) d_Z_law_1333 ml_13_192 kd_78 rfl (Nat.le_of_ble_eq_true rfl) (Nat.le_of_ble_eq_true rfl) (c_M_ask (by omega) q517) ?_
      refine x_icmp_eq (tgt := 1433) d_Z_law_1336 rfl (fun c520 => ?_) (fun c520 => ?_)
      · replace h := ite_t c520 h
        obtain ⟨v521, e522, h⟩ := lt_inv h
        refine y_iinc (L1 := [(0, .ref 1010), (1, .ref 0), (2, .ref 78), (3, .int v521)]) e522 ic_6 d_Z_law_1433 3 rfl (Nat.le_of_ble_eq_true rfl) rfl rfl ?_
        refine x_goto (tgt := 18) d_Z_law_1436 rfl ?_
        exact ih v521 S519 _ h
      · replace h := ite_f c520 h
        refine x_iconst d_Z_law_1339 ic_0 ?_
        obtain rfl := Option.some.inj h
        exact x_ret (r := some (.int (0 : Int32))) d_Z_law_1340 ⟨_, rfl, rfl⟩
    replace h := ite_f c509 h
    by_cases c523 : ((X.2 w3.toNatClampNeg) &&& (63 : Int32)) = 43
    · replace h := ite_t c523 h
      refine x_tabC (tgt := 1341) 43 d_Z_law_33 (by rw [c523]; rfl) (by decide) rfl rfl ?_
      refine x_aload_n d_Z_law_1341 rfl 1 rfl ?_
      refine x_aload_n d_Z_law_1342 rfl 0 rfl ?_
      refine x_iload_n d_Z_law_1343 rfl 3 rfl ?_
      refine x_iconst d_Z_law_1344 ic_1 ?_
      refine x_iadd d_Z_law_1345 ?_
      obtain ⟨g524, h⟩ := gd_inv h
      refine x_sald d_Z_law_1346 (inB_in g524) ?_
      obtain ⟨v526, S527, q525, h⟩ := bd2_inv h
      refine y_V1i (v := v526) (S1 := S527) d_Z_law_1347 ml_13_193 kd_0 rfl (Nat.le_of_ble_eq_true rfl) (Nat.le_of_ble_eq_true rfl) (c_N_image (by omega) q525) ?_
      refine x_aload_n d_Z_law_1350 rfl 2 rfl ?_
      refine x_aload_n d_Z_law_1351 rfl 0 rfl ?_
      refine x_iload_n d_Z_law_1352 rfl 3 rfl ?_
      refine x_iconst d_Z_law_1353 ic_1 ?_
      refine x_iadd d_Z_law_1354 ?_
      obtain ⟨g528, h⟩ := gd_inv h
      refine x_sald d_Z_law_1355 (inB_in g528) ?_
      obtain ⟨v530, S531, q529, h⟩ := bd2_inv h
      refine y_V1i (v := v530) (S1 := S531) d_Z_law_1356 ml_13_196 kd_78 rfl (Nat.le_of_ble_eq_true rfl) (Nat.le_of_ble_eq_true rfl) (c_M_image (by omega) q529) ?_
      refine x_icmp_eq (tgt := 1433) d_Z_law_1359 rfl (fun c532 => ?_) (fun c532 => ?_)
      · replace h := ite_t c532 h
        obtain ⟨v533, e534, h⟩ := lt_inv h
        refine y_iinc (L1 := [(0, .ref 1010), (1, .ref 0), (2, .ref 78), (3, .int v533)]) e534 ic_6 d_Z_law_1433 3 rfl (Nat.le_of_ble_eq_true rfl) rfl rfl ?_
        refine x_goto (tgt := 18) d_Z_law_1436 rfl ?_
        exact ih v533 S531 _ h
      · replace h := ite_f c532 h
        refine x_iconst d_Z_law_1362 ic_0 ?_
        obtain rfl := Option.some.inj h
        exact x_ret (r := some (.int (0 : Int32))) d_Z_law_1363 ⟨_, rfl, rfl⟩
    replace h := ite_f c523 h
    by_cases c535 : ((X.2 w3.toNatClampNeg) &&& (63 : Int32)) = 44
    · replace h := ite_t c535 h
      refine x_tabC (tgt := 1364) 44 d_Z_law_33 (by rw [c535]; rfl) (by decide) rfl rfl ?_
      refine x_aload_n d_Z_law_1364 rfl 1 rfl ?_
      refine x_aload_n d_Z_law_1365 rfl 0 rfl ?_
      refine x_iload_n d_Z_law_1366 rfl 3 rfl ?_
      refine x_iconst d_Z_law_1367 ic_1 ?_
      refine x_iadd d_Z_law_1368 ?_
      obtain ⟨g536, h⟩ := gd_inv h
      refine x_sald d_Z_law_1369 (inB_in g536) ?_
      obtain ⟨v538, S539, q537, h⟩ := bd2_inv h
      refine y_V1i (v := v538) (S1 := S539) d_Z_law_1370 ml_13_197 kd_0 rfl (Nat.le_of_ble_eq_true rfl) (Nat.le_of_ble_eq_true rfl) (c_N_back (by omega) q537) ?_
      refine x_aload_n d_Z_law_1373 rfl 2 rfl ?_
      refine x_aload_n d_Z_law_1374 rfl 0 rfl ?_
      refine x_iload_n d_Z_law_1375 rfl 3 rfl ?_
      refine x_iconst d_Z_law_1376 ic_1 ?_
      refine x_iadd d_Z_law_1377 ?_
      obtain ⟨g540, h⟩ := gd_inv h
      refine x_sald d_Z_law_1378 (inB_in g540) ?_
      obtain ⟨v542, S543, q541, h⟩ := bd2_inv h
      refine y_V1i (v := v542) (S1 := S543) d_Z_law_1379 ml_13_200 kd_78 rfl (Nat.le_of_ble_eq_true rfl) (Nat.le_of_ble_eq_true rfl) (c_M_back (by omega) q541) ?_
      refine x_icmp_eq (tgt := 1433) d_Z_law_1382 rfl (fun c544 => ?_) (fun c544 => ?_)
      · replace h := ite_t c544 h
        obtain ⟨v545, e546, h⟩ := lt_inv h
        refine y_iinc (L1 := [(0, .ref 1010), (1, .ref 0), (2, .ref 78), (3, .int v545)]) e546 ic_6 d_Z_law_1433 3 rfl (Nat.le_of_ble_eq_true rfl) rfl rfl ?_
        refine x_goto (tgt := 18) d_Z_law_1436 rfl ?_
        exact ih v545 S543 _ h
      · replace h := ite_f c544 h
        refine x_iconst d_Z_law_1385 ic_0 ?_
        obtain rfl := Option.some.inj h
        exact x_ret (r := some (.int (0 : Int32))) d_Z_law_1386 ⟨_, rfl, rfl⟩
    replace h := ite_f c535 h
    by_cases c547 : ((X.2 w3.toNatClampNeg) &&& (63 : Int32)) = 45
    · replace h := ite_t c547 h
      refine x_tabC (tgt := 1387) 45 d_Z_law_33 (by rw [c547]; rfl) (by decide) rfl rfl ?_
      refine x_aload_n d_Z_law_1387 rfl 1 rfl ?_
      refine x_aload_n d_Z_law_1388 rfl 0 rfl ?_
      refine x_iload_n d_Z_law_1389 rfl 3 rfl ?_
      refine x_iconst d_Z_law_1390 ic_1 ?_
      refine x_iadd d_Z_law_1391 ?_
      obtain ⟨g548, h⟩ := gd_inv h
      refine x_sald d_Z_law_1392 (inB_in g548) ?_
      obtain ⟨v550, q549, h⟩ := bd_inv h
      refine y_V1i (v := v550) (S1 := S) d_Z_law_1393 ml_13_201 kd_0 rfl (Nat.le_of_ble_eq_true rfl) (Nat.le_of_ble_eq_true rfl) (c_N_differ (by omega) q549) ?_
      refine x_aload_n d_Z_law_1396 rfl 2 rfl ?_
      refine x_aload_n d_Z_law_1397 rfl 0 rfl ?_
      refine x_iload_n d_Z_law_1398 rfl 3 rfl ?_
      refine x_iconst d_Z_law_1399 ic_1 ?_
      refine x_iadd d_Z_law_1400 ?_
      obtain ⟨g551, h⟩ := gd_inv h
      refine x_sald d_Z_law_1401 (inB_in g551) ?_
      obtain ⟨v553, q552, h⟩ := bd_inv h
      refine y_V1i (v := v553) (S1 := S) d_Z_law_1402 ml_13_204 kd_78 rfl (Nat.le_of_ble_eq_true rfl) (Nat.le_of_ble_eq_true rfl) (c_M_differ (by omega) q552) ?_
      refine x_icmp_eq (tgt := 1433) d_Z_law_1405 rfl (fun c554 => ?_) (fun c554 => ?_)
      · replace h := ite_t c554 h
        obtain ⟨v555, e556, h⟩ := lt_inv h
        refine y_iinc (L1 := [(0, .ref 1010), (1, .ref 0), (2, .ref 78), (3, .int v555)]) e556 ic_6 d_Z_law_1433 3 rfl (Nat.le_of_ble_eq_true rfl) rfl rfl ?_
        refine x_goto (tgt := 18) d_Z_law_1436 rfl ?_
        exact ih v555 S _ h
      · replace h := ite_f c554 h
        refine x_iconst d_Z_law_1408 ic_0 ?_
        obtain rfl := Option.some.inj h
        exact x_ret (r := some (.int (0 : Int32))) d_Z_law_1409 ⟨_, rfl, rfl⟩
    replace h := ite_f c547 h
    by_cases c557 : ((X.2 w3.toNatClampNeg) &&& (63 : Int32)) = 46
    · replace h := ite_t c557 h
      refine x_tabC (tgt := 1410) 46 d_Z_law_33 (by rw [c557]; rfl) (by decide) rfl rfl ?_
      refine x_aload_n d_Z_law_1410 rfl 1 rfl ?_
      refine x_aload_n d_Z_law_1411 rfl 0 rfl ?_
      refine x_iload_n d_Z_law_1412 rfl 3 rfl ?_
      refine x_iconst d_Z_law_1413 ic_1 ?_
      refine x_iadd d_Z_law_1414 ?_
      obtain ⟨g558, h⟩ := gd_inv h
      refine x_sald d_Z_law_1415 (inB_in g558) ?_
      obtain ⟨v560, q559, h⟩ := bd_inv h
      refine y_V1i (v := v560) (S1 := S) d_Z_law_1416 ml_13_205 kd_0 rfl (Nat.le_of_ble_eq_true rfl) (Nat.le_of_ble_eq_true rfl) (c_N_about (by omega) q559) ?_
      refine x_aload_n d_Z_law_1419 rfl 2 rfl ?_
      refine x_aload_n d_Z_law_1420 rfl 0 rfl ?_
      refine x_iload_n d_Z_law_1421 rfl 3 rfl ?_
      refine x_iconst d_Z_law_1422 ic_1 ?_
      refine x_iadd d_Z_law_1423 ?_
      obtain ⟨g561, h⟩ := gd_inv h
      refine x_sald d_Z_law_1424 (inB_in g561) ?_
      obtain ⟨v563, q562, h⟩ := bd_inv h
      refine y_V1i (v := v563) (S1 := S) d_Z_law_1425 ml_13_208 kd_78 rfl (Nat.le_of_ble_eq_true rfl) (Nat.le_of_ble_eq_true rfl) (c_M_about (by omega) q562) ?_
      refine x_icmp_eq (tgt := 1433) d_Z_law_1428 rfl (fun c564 => ?_) (fun c564 => ?_)
      · replace h := ite_t c564 h
        obtain ⟨v565, e566, h⟩ := lt_inv h
        refine y_iinc (L1 := [(0, .ref 1010), (1, .ref 0), (2, .ref 78), (3, .int v565)]) e566 ic_6 d_Z_law_1433 3 rfl (Nat.le_of_ble_eq_true rfl) rfl rfl ?_
        refine x_goto (tgt := 18) d_Z_law_1436 rfl ?_
        exact ih v565 S _ h
      · replace h := ite_f c564 h
        refine x_iconst d_Z_law_1431 ic_0 ?_
        obtain rfl := Option.some.inj h
        exact x_ret (r := some (.int (0 : Int32))) d_Z_law_1432 ⟨_, rfl, rfl⟩
    replace h := ite_f c557 h
    refine x_tabD (tgt := 1433) d_Z_law_33 (by have := lv_neT c3 (show (0 : Int32).toInt = 0 from rfl); have := lv_neT c23 (show (1 : Int32).toInt = 1 from rfl); have := lv_neT c35 (show (2 : Int32).toInt = 2 from rfl); have := lv_neT c45 (show (3 : Int32).toInt = 3 from rfl); have := lv_neT c55 (show (4 : Int32).toInt = 4 from rfl); have := lv_neT c69 (show (5 : Int32).toInt = 5 from rfl); have := lv_neT c82 (show (6 : Int32).toInt = 6 from rfl); have := lv_neT c96 (show (7 : Int32).toInt = 7 from rfl); have := lv_neT c108 (show (8 : Int32).toInt = 8 from rfl); have := lv_neT c120 (show (9 : Int32).toInt = 9 from rfl); have := lv_neT c134 (show (10 : Int32).toInt = 10 from rfl); have := lv_neT c148 (show (11 : Int32).toInt = 11 from rfl); have := lv_neT c162 (show (12 : Int32).toInt = 12 from rfl); have := lv_neT c176 (show (13 : Int32).toInt = 13 from rfl); have := lv_neT c188 (show (14 : Int32).toInt = 14 from rfl); have := lv_neT c198 (show (15 : Int32).toInt = 15 from rfl); have := lv_neT c208 (show (16 : Int32).toInt = 16 from rfl); have := lv_neT c218 (show (17 : Int32).toInt = 17 from rfl); have := lv_neT c228 (show (18 : Int32).toInt = 18 from rfl); have := lv_neT c240 (show (19 : Int32).toInt = 19 from rfl); have := lv_neT c254 (show (20 : Int32).toInt = 20 from rfl); have := lv_neT c268 (show (21 : Int32).toInt = 21 from rfl); have := lv_neT c284 (show (22 : Int32).toInt = 22 from rfl); have := lv_neT c298 (show (23 : Int32).toInt = 23 from rfl); have := lv_neT c310 (show (24 : Int32).toInt = 24 from rfl); have := lv_neT c322 (show (25 : Int32).toInt = 25 from rfl); have := lv_neT c334 (show (26 : Int32).toInt = 26 from rfl); have := lv_neT c344 (show (27 : Int32).toInt = 27 from rfl); have := lv_neT c356 (show (28 : Int32).toInt = 28 from rfl); have := lv_neT c366 (show (29 : Int32).toInt = 29 from rfl); have := lv_neT c376 (show (30 : Int32).toInt = 30 from rfl); have := lv_neT c388 (show (31 : Int32).toInt = 31 from rfl); have := lv_neT c398 (show (32 : Int32).toInt = 32 from rfl); have := lv_neT c410 (show (33 : Int32).toInt = 33 from rfl); have := lv_neT c422 (show (34 : Int32).toInt = 34 from rfl); have := lv_neT c432 (show (35 : Int32).toInt = 35 from rfl); have := lv_neT c444 (show (36 : Int32).toInt = 36 from rfl); have := lv_neT c454 (show (37 : Int32).toInt = 37 from rfl); have := lv_neT c459 (show (38 : Int32).toInt = 38 from rfl); have := lv_neT c471 (show (39 : Int32).toInt = 39 from rfl); have := lv_neT c483 (show (40 : Int32).toInt = 40 from rfl); have := lv_neT c495 (show (41 : Int32).toInt = 41 from rfl); have := lv_neT c509 (show (42 : Int32).toInt = 42 from rfl); have := lv_neT c523 (show (43 : Int32).toInt = 43 from rfl); have := lv_neT c535 (show (44 : Int32).toInt = 44 from rfl); have := lv_neT c547 (show (45 : Int32).toInt = 45 from rfl); have := lv_neT c557 (show (46 : Int32).toInt = 46 from rfl); omega) rfl ?_
    obtain ⟨v567, e568, h⟩ := lt_inv h
    refine y_iinc (L1 := [(0, .ref 1010), (1, .ref 0), (2, .ref 78), (3, .int v567)]) e568 ic_6 d_Z_law_1433 3 rfl (Nat.le_of_ble_eq_true rfl) rfl rfl ?_
    refine x_goto (tgt := 18) d_Z_law_1436 rfl ?_
    exact ih v567 S _ h
