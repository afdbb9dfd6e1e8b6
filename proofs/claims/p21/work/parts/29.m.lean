/-! NinetyPlayersModel.ask -/
def b_M_ask_36 (F G : Nat) (S : St) (z1 : Int32) (z3 : Int32) (k101 : Int32 → Option (Int32 × St)) (rec : Int32 → Int32 → Option (Int32 × St)) (w4 : Int32) (w5 : Int32) : Option (Int32 × St) :=
  if (S.1 78 48) ≤ w5 then k101 w4 else gd (inB w5 10) (gd (inB w5 10) (bd (fM_greater F G S (S.1 114 w5.toNatClampNeg) (z3 - (S.1 114 w5.toNatClampNeg))) fun v13 => gd (inB w4 10) (gd (inB w4 10) (bd (fM_greater F G S (S.1 114 w4.toNatClampNeg) (z3 - (S.1 114 w4.toNatClampNeg))) fun v17 => if v17 ≤ v13 then lt (w5 + 1) fun v19 => rec w4 v19 else lt (w5 + 1) fun v21 => rec w5 v21))))
def fM_ask (F G : Nat) (S : St) (p1 : Int32) (p2 : Int32) : Option (Int32 × St) :=
  bd (fM_isIn F G S p1 (0 : Int32) (1 : Int32)) fun v2 => if v2 = 0 then some ((-1 : Int32), S) else if (S.1 78 48) = 0 then some ((-1 : Int32), S) else bd2 (fM_laySets F G S p2) fun v6 S7 => if v6 = 0 then some ((-1 : Int32), S7) else fx2 (b_M_ask_36 F G S7 p1 v6 (fun v23 => if p1 = 0 then some (v23, S7) else gd (inB v23 10) (gd (inB v23 10) (bd (fM_greater F G S7 (S7.1 114 v23.toNatClampNeg) (v6 - (S7.1 114 v23.toNatClampNeg))) fun v28 => some (v28, S7))))) F (0 : Int32) (1 : Int32)
set_option maxRecDepth 100000 in
set_option maxHeartbeats 4000000 in
theorem T_M_ask_36 {X : Nat × (Nat → Int32)} {D F G : Nat} (hD : 3 ≤ D + 1) {S : St} {z1 : Int32} {z3 : Int32} {k101 : Int32 → Option (Int32 × St)} (hk101 : ∀ (u4 : Int32) (res : Int32 × St), k101 u4 = some res → Ek X (D + 1) mM_ask 101 [(0, .ref 78), (1, .int z1), (3, .int z3), (4, .int u4)] [] S (some (.int res.1)) res.2) : ∀ (f : Nat) (w4 : Int32) (w5 : Int32) (res : Int32 × St), fx2 (b_M_ask_36 F G S z1 z3 k101 ) f w4 w5 = some res → Ek X (D + 1) mM_ask 36 [(0, .ref 78), (1, .int z1), (3, .int z3), (4, .int w4), (5, .int w5)] [] S (some (.int res.1)) res.2 := by
  refine fx2_ind ?_
  intro rec ih w4 w5 res h
  unfold b_M_ask_36 at h
  refine x_iload d_M_ask_36 4 rfl ?_
  refine x_aload_n d_M_ask_38 rfl 0 rfl ?_
  refine y_getI d_M_ask_39 fl_11_322 rfl kd_78 ?_
  refine x_icmp_ge (tgt := 101) d_M_ask_42 rfl (fun c9 => ?_) (fun c9 => ?_)
  · replace h := ite_t c9 h
    refine y_pick (L1 := [(0, .ref 78), (1, .int z1), (3, .int z3), (4, .int w4)]) [0, 1, 2, 3] rfl ?_
    exact hk101 w4 _ h
  · replace h := ite_f c9 h
    refine x_aload_n d_M_ask_45 rfl 0 rfl ?_
    refine y_getR d_M_ask_46 fl_11_136 rfl kd_78 rr_78_77 ?_
    refine x_iload d_M_ask_49 4 rfl ?_
    obtain ⟨g10, h⟩ := gd_inv h
    refine y_iald d_M_ask_51 kd_114 g10 ?_
    refine x_iload_n d_M_ask_52 rfl 2 rfl ?_
    refine x_aload_n d_M_ask_53 rfl 0 rfl ?_
    refine y_getR d_M_ask_54 fl_11_136 rfl kd_78 rr_78_77 ?_
    refine x_iload d_M_ask_57 4 rfl ?_
    obtain ⟨g11, h⟩ := gd_inv h
    refine y_iald d_M_ask_59 kd_114 g11 ?_
    refine x_isub d_M_ask_60 ?_
    obtain ⟨v13, q12, h⟩ := bd_inv h
    refine y_S2i (v := v13) (S1 := S) d_M_ask_61 ml_11_527 (Nat.le_of_ble_eq_true rfl) (Nat.le_of_ble_eq_true rfl) (c_M_greater (by omega) q12) ?_
    refine x_aload_n d_M_ask_64 rfl 0 rfl ?_
    refine y_getR d_M_ask_65 fl_11_136 rfl kd_78 rr_78_77 ?_
    refine x_iload d_M_ask_68 3 rfl ?_
    obtain ⟨g14, h⟩ := gd_inv h
    refine y_iald d_M_ask_70 kd_114 g14 ?_
    refine x_iload_n d_M_ask_71 rfl 2 rfl ?_
    refine x_aload_n d_M_ask_72 rfl 0 rfl ?_
    refine y_getR d_M_ask_73 fl_11_136 rfl kd_78 rr_78_77 ?_
    refine x_iload d_M_ask_76 3 rfl ?_
    obtain ⟨g15, h⟩ := gd_inv h
    refine y_iald d_M_ask_78 kd_114 g15 ?_
    refine x_isub d_M_ask_79 ?_
    obtain ⟨v17, q16, h⟩ := bd_inv h
    refine y_S2i (v := v17) (S1 := S) d_M_ask_80 ml_11_527 (Nat.le_of_ble_eq_true rfl) (Nat.le_of_ble_eq_true rfl) (c_M_greater (by omega) q16) ?_
    refine x_icmp_ge (tgt := 91) d_M_ask_83 rfl (fun c18 => ?_) (fun c18 => ?_)
    · replace h := ite_t c18 h
      refine x_iload d_M_ask_91 3 rfl ?_
      refine x_istore (L1 := [(0, .ref 78), (1, .int z1), (3, .int z3), (4, .int w4), (5, .int w5)]) d_M_ask_93 (Nat.le_of_ble_eq_true rfl) rfl rfl ?_
      obtain ⟨v19, e20, h⟩ := lt_inv h
      refine y_iinc (L1 := [(0, .ref 78), (1, .int z1), (3, .int z3), (4, .int w4), (5, .int v19)]) e20 ic_1 d_M_ask_95 4 rfl (Nat.le_of_ble_eq_true rfl) rfl rfl ?_
      refine x_goto (tgt := 36) d_M_ask_98 rfl ?_
      exact ih w4 v19 _ h
    · replace h := ite_f c18 h
      refine x_iload d_M_ask_86 4 rfl ?_
      refine x_goto (tgt := 93) d_M_ask_88 rfl ?_
      refine x_istore (L1 := [(0, .ref 78), (1, .int z1), (3, .int z3), (4, .int w5), (5, .int w5)]) d_M_ask_93 (Nat.le_of_ble_eq_true rfl) rfl rfl ?_
      obtain ⟨v21, e22, h⟩ := lt_inv h
      refine y_iinc (L1 := [(0, .ref 78), (1, .int z1), (3, .int z3), (4, .int w5), (5, .int v21)]) e22 ic_1 d_M_ask_95 4 rfl (Nat.le_of_ble_eq_true rfl) rfl rfl ?_
      refine x_goto (tgt := 36) d_M_ask_98 rfl ?_
      exact ih w5 v21 _ h
set_option maxRecDepth 100000 in
set_option maxHeartbeats 4000000 in
theorem c_M_ask {X : Nat × (Nat → Int32)} {D F G : Nat} (hD : 3 ≤ D) {S : St} {p1 : Int32} {p2 : Int32} {res : Int32 × St} (h : fM_ask F G S p1 p2 = some res) : Ek X (D) mM_ask 0 [(0, .ref 78), (1, .int p1), (2, .int p2)] [] S (some (.int res.1)) res.2 := by
  obtain ⟨D, rfl⟩ : ∃ E, D = E + 1 := ⟨D - 1, by omega⟩
  unfold fM_ask at h
  refine x_iload_n d_M_ask_0 rfl 1 rfl ?_
  refine x_iconst d_M_ask_1 ic_0 ?_
  refine x_iconst d_M_ask_2 ic_1 ?_
  obtain ⟨v2, q1, h⟩ := bd_inv h
  refine y_S3i (v := v2) (S1 := S) d_M_ask_3 ml_11_429 (Nat.le_of_ble_eq_true rfl) (Nat.le_of_ble_eq_true rfl) (c_M_isIn (by omega) q1) ?_
  refine x_if_eq (tgt := 16) d_M_ask_6 rfl (fun c3 => ?_) (fun c3 => ?_)
  · replace h := ite_t c3 h
    refine x_iconst d_M_ask_16 ic_m1 ?_
    obtain rfl := Option.some.inj h
    exact x_ret (r := some (.int (-1 : Int32))) d_M_ask_17 ⟨_, rfl, rfl⟩
  · replace h := ite_f c3 h
    refine x_aload_n d_M_ask_9 rfl 0 rfl ?_
    refine y_getI d_M_ask_10 fl_11_322 rfl kd_78 ?_
    refine x_if_ne (tgt := 18) d_M_ask_13 rfl (fun c4 => ?_) (fun c4 => ?_)
    · replace h := ite_f c4 h
      refine x_aload_n d_M_ask_18 rfl 0 rfl ?_
      refine x_iload_n d_M_ask_19 rfl 2 rfl ?_
      obtain ⟨v6, S7, q5, h⟩ := bd2_inv h
      refine y_V1i (v := v6) (S1 := S7) d_M_ask_20 ml_11_550 kd_78 rfl (Nat.le_of_ble_eq_true rfl) (Nat.le_of_ble_eq_true rfl) (c_M_laySets (by omega) q5) ?_
      refine x_istore_n (L1 := [(0, .ref 78), (1, .int p1), (2, .int p2), (3, .int v6)]) d_M_ask_23 rfl (Nat.le_of_ble_eq_true rfl) rfl rfl ?_
      refine x_iload_n d_M_ask_24 rfl 3 rfl ?_
      refine x_if_ne (tgt := 30) d_M_ask_25 rfl (fun c8 => ?_) (fun c8 => ?_)
      · replace h := ite_f c8 h
        refine x_iconst d_M_ask_30 ic_0 ?_
        refine x_istore (L1 := [(0, .ref 78), (1, .int p1), (2, .int p2), (3, .int v6), (4, .int (0 : Int32))]) d_M_ask_31 (Nat.le_of_ble_eq_true rfl) rfl rfl ?_
        refine x_iconst d_M_ask_33 ic_1 ?_
        refine x_istore (L1 := [(0, .ref 78), (1, .int p1), (2, .int p2), (3, .int v6), (4, .int (0 : Int32)), (5, .int (1 : Int32))]) d_M_ask_34 (Nat.le_of_ble_eq_true rfl) rfl rfl ?_
        refine y_pick (L1 := [(0, .ref 78), (1, .int p1), (3, .int v6), (4, .int (0 : Int32)), (5, .int (1 : Int32))]) [0, 1, 3, 4, 5] rfl ?_
        refine T_M_ask_36 (by omega)  ?_ F (0 : Int32) (1 : Int32) _ h
        · intro v23 res h
          refine x_iload_n d_M_ask_101 rfl 1 rfl ?_
          refine x_if_ne (tgt := 110) d_M_ask_102 rfl (fun c24 => ?_) (fun c24 => ?_)
          · replace h := ite_f c24 h
            refine x_aload_n d_M_ask_110 rfl 0 rfl ?_
            refine y_getR d_M_ask_111 fl_11_136 rfl kd_78 rr_78_77 ?_
            refine x_iload d_M_ask_114 3 rfl ?_
            obtain ⟨g25, h⟩ := gd_inv h
            refine y_iald d_M_ask_116 kd_114 g25 ?_
            refine x_iload_n d_M_ask_117 rfl 2 rfl ?_
            refine x_aload_n d_M_ask_118 rfl 0 rfl ?_
            refine y_getR d_M_ask_119 fl_11_136 rfl kd_78 rr_78_77 ?_
            refine x_iload d_M_ask_122 3 rfl ?_
            obtain ⟨g26, h⟩ := gd_inv h
            refine y_iald d_M_ask_124 kd_114 g26 ?_
            refine x_isub d_M_ask_125 ?_
            obtain ⟨v28, q27, h⟩ := bd_inv h
            refine y_S2i (v := v28) (S1 := S7) d_M_ask_126 ml_11_527 (Nat.le_of_ble_eq_true rfl) (Nat.le_of_ble_eq_true rfl) (c_M_greater (by omega) q27) ?_
            obtain rfl := Option.some.inj h
            exact x_ret (r := some (.int v28)) d_M_ask_129 ⟨_, rfl, rfl⟩
          · replace h := ite_t c24 h
            refine x_iload d_M_ask_105 3 rfl ?_
            refine x_goto (tgt := 129) d_M_ask_107 rfl ?_
            obtain rfl := Option.some.inj h
            exact x_ret (r := some (.int v23)) d_M_ask_129 ⟨_, rfl, rfl⟩
      · replace h := ite_t c8 h
        refine x_iconst d_M_ask_28 ic_m1 ?_
        obtain rfl := Option.some.inj h
        exact x_ret (r := some (.int (-1 : Int32))) d_M_ask_29 ⟨_, rfl, rfl⟩
    · replace h := ite_t c4 h
      refine x_iconst d_M_ask_16 ic_m1 ?_
      obtain rfl := Option.some.inj h
      exact x_ret (r := some (.int (-1 : Int32))) d_M_ask_17 ⟨_, rfl, rfl⟩
/-! NinetyPlayers$Laying.copy -/
def b_L_copy_10 (F G : Nat) (z0 : Nat) (z1 : Nat) (rec : Int32 → St → Option (St)) (w2 : Int32) (S : St) : Option (St) :=
  if (10 : Int32) ≤ w2 then some S else gd (inB w2 10) (gd (inB w2 10) (lt (sI S (z0 + 1) w2.toNatClampNeg (S.1 (z1 + 1) w2.toNatClampNeg)) fun S6 => gd (inB w2 10) (gd (inB w2 10) (lt (sI S6 (z0 + 2) w2.toNatClampNeg (S6.1 (z1 + 2) w2.toNatClampNeg)) fun S10 => gd (inB w2 10) (gd (inB w2 10) (lt (sI S10 (z0 + 3) w2.toNatClampNeg (S10.1 (z1 + 3) w2.toNatClampNeg)) fun S14 => gd (inB w2 10) (gd (inB w2 10) (lt (sI S14 (z0 + 4) w2.toNatClampNeg (S14.1 (z1 + 4) w2.toNatClampNeg)) fun S18 => lt (w2 + 1) fun v20 => rec v20 S18))))))))
def fL_copy (F G : Nat) (S : St) (o : Nat) (o2 : Nat) : Option (St) :=
  gd (isLa o) (gd (isLa o2) (lt (sI S o 1 (S.1 o2 1)) fun S1 => fx2 (b_L_copy_10 F G o o2) F (0 : Int32) S1))
set_option maxRecDepth 100000 in
set_option maxHeartbeats 4000000 in
theorem T_L_copy_10 {X : Nat × (Nat → Int32)} {D F G : Nat} (hD : 0 ≤ D) {z0 : Nat} {z1 : Nat} (hz0 : isLa z0 = true) (hz1 : isLa z1 = true) : ∀ (f : Nat) (w2 : Int32) (S : St) (res : St), fx2 (b_L_copy_10 F G z0 z1 ) f w2 S = some res → Ek X (D) mL_copy 10 [(0, .ref z0), (1, .ref z1), (2, .int w2)] [] S none res := by
  refine fx2_ind ?_
  intro rec ih w2 S res h
  unfold b_L_copy_10 at h
  refine x_iload_n d_L_copy_10 rfl 2 rfl ?_
  refine x_bipush d_L_copy_11 bp_10 ?_
  refine x_icmp_ge (tgt := 70) d_L_copy_13 rfl (fun c3 => ?_) (fun c3 => ?_)
  · replace h := ite_t c3 h
    obtain rfl := Option.some.inj h
    exact x_ret (r := none) d_L_copy_70 rfl
  · replace h := ite_f c3 h
    refine x_aload_n d_L_copy_16 rfl 0 rfl ?_
    refine y_getR d_L_copy_17 fl_5_9 rfl (ksLa hz0) (rrLa_2 hz0) ?_
    refine x_iload_n d_L_copy_20 rfl 2 rfl ?_
    refine x_aload_n d_L_copy_21 rfl 1 rfl ?_
    refine y_getR d_L_copy_22 fl_5_9 rfl (ksLa hz1) (rrLa_2 hz1) ?_
    refine x_iload_n d_L_copy_25 rfl 2 rfl ?_
    obtain ⟨g4, h⟩ := gd_inv h
    refine y_iald d_L_copy_26 (ksLa_1 hz1) g4 ?_
    obtain ⟨g5, h⟩ := gd_inv h
    obtain ⟨S6, e7, h⟩ := lt_inv h
    refine y_iast e7 d_L_copy_27 (ksLa_1 hz0) g5 ?_
    refine x_aload_n d_L_copy_28 rfl 0 rfl ?_
    refine y_getR d_L_copy_29 fl_5_15 rfl (ksLa hz0) (rrLa_3 hz0) ?_
    refine x_iload_n d_L_copy_32 rfl 2 rfl ?_
    refine x_aload_n d_L_copy_33 rfl 1 rfl ?_
    refine y_getR d_L_copy_34 fl_5_15 rfl (ksLa hz1) (rrLa_3 hz1) ?_
    refine x_iload_n d_L_copy_37 rfl 2 rfl ?_
    obtain ⟨g8, h⟩ := gd_inv h
    refine y_iald d_L_copy_38 (ksLa_2 hz1) g8 ?_
    obtain ⟨g9, h⟩ := gd_inv h
    obtain ⟨S10, e11, h⟩ := lt_inv h
    refine y_iast e11 d_L_copy_39 (ksLa_2 hz0) g9 ?_
    refine x_aload_n d_L_copy_40 rfl 0 rfl ?_
    refine y_getR d_L_copy_41 fl_5_18 rfl (ksLa hz0) (rrLa_4 hz0) ?_
    refine x_iload_n d_L_copy_44 rfl 2 rfl ?_
    refine x_aload_n d_L_copy_45 rfl 1 rfl ?_
    refine y_getR d_L_copy_46 fl_5_18 rfl (ksLa hz1) (rrLa_4 hz1) ?_
    refine x_iload_n d_L_copy_49 rfl 2 rfl ?_
    obtain ⟨g12, h⟩ := gd_inv h
    refine y_iald d_L_copy_50 (ksLa_3 hz1) g12 ?_
    obtain ⟨g13, h⟩ := gd_inv h
    obtain ⟨S14, e15, h⟩ := lt_inv h
    refine y_iast e15 d_L_copy_51 (ksLa_3 hz0) g13 ?_
    refine x_aload_n d_L_copy_52 rfl 0 rfl ?_
    refine y_getR d_L_copy_53 fl_5_21 rfl (ksLa hz0) (rrLa_5 hz0) ?_
    refine x_iload_n d_L_copy_56 rfl 2 rfl ?_
    refine x_aload_n d_L_copy_57 rfl 1 rfl ?_
    refine y_getR d_L_copy_58 fl_5_21 rfl (ksLa hz1) (rrLa_5 hz1) ?_
    refine x_iload_n d_L_copy_61 rfl 2 rfl ?_
    obtain ⟨g16, h⟩ := gd_inv h
    refine y_iald d_L_copy_62 (ksLa_4 hz1) g16 ?_
    obtain ⟨g17, h⟩ := gd_inv h
    obtain ⟨S18, e19, h⟩ := lt_inv h
    refine y_iast e19 d_L_copy_63 (ksLa_4 hz0) g17 ?_
    obtain ⟨v20, e21, h⟩ := lt_inv h
    refine y_iinc (L1 := [(0, .ref z0), (1, .ref z1), (2, .int v20)]) e21 ic_1 d_L_copy_64 2 rfl (Nat.le_of_ble_eq_true rfl) rfl rfl ?_
    refine x_goto (tgt := 10) d_L_copy_67 rfl ?_
    exact ih v20 S18 _ h
set_option maxRecDepth 100000 in
set_option maxHeartbeats 4000000 in
theorem c_L_copy {X : Nat × (Nat → Int32)} {D F G : Nat} (hD : 0 ≤ D) {S : St} {o : Nat} {o2 : Nat} {res : St} (h : fL_copy F G S o o2 = some res) : Ek X (D) mL_copy 0 [(0, .ref o), (1, .ref o2)] [] S none res := by
  unfold fL_copy at h
  obtain ⟨gg0, h⟩ := gd_inv h
  obtain ⟨gg1, h⟩ := gd_inv h
  refine x_aload_n d_L_copy_0 rfl 0 rfl ?_
  refine x_aload_n d_L_copy_1 rfl 1 rfl ?_
  refine y_getI d_L_copy_2 fl_5_24 rfl (ksLa gg1) ?_
  obtain ⟨S1, e2, h⟩ := lt_inv h
  refine y_putI e2 d_L_copy_5 fl_5_24 rfl rfl (ksLa gg0) rfl rfl ?_
  refine x_iconst d_L_copy_8 ic_0 ?_
  refine x_istore_n (L1 := [(0, .ref o), (1, .ref o2), (2, .int (0 : Int32))]) d_L_copy_9 rfl (Nat.le_of_ble_eq_true rfl) rfl rfl ?_
  refine T_L_copy_10 (by omega) gg0 gg1  F (0 : Int32) S1 _ h
/-! NinetyPlayers.image -/
def fN_image (F G : Nat) (S : St) (p1 : Int32) : Option (Int32 × St) :=
  if p1 < 0 then some ((-1 : Int32), S) else if p1 < (Int32.ofNat 3) then gd (inB p1 3) (bd (fL_copy F G S (36 + 5 * p1.toNatClampNeg) 30) fun S5 => gd (inB p1 3) (lt (sI S5 (36 + 5 * p1.toNatClampNeg) 0 (1 : Int32)) fun S7 => bd (fN_givenSet F G S7) fun v10 => bd (fJ_bitCount F G S7 v10) fun v12 => some (v12, S7))) else some ((-1 : Int32), S)
set_option maxRecDepth 100000 in
set_option maxHeartbeats 4000000 in
theorem c_N_image {X : Nat × (Nat → Int32)} {D F G : Nat} (hD : 2 ≤ D) {S : St} {p1 : Int32} {res : Int32 × St} (h : fN_image F G S p1 = some res) : Ek X (D) mN_image 0 [(0, .ref 0), (1, .int p1)] [] S (some (.int res.1)) res.2 := by
  obtain ⟨D, rfl⟩ : ∃ E, D = E + 1 := ⟨D - 1, by omega⟩
  unfold fN_image at h
  refine x_iload_n d_N_image_0 rfl 1 rfl ?_
  refine x_if_lt (tgt := 13) d_N_image_1 rfl (fun c1 => ?_) (fun c1 => ?_)
  · replace h := ite_t c1 h
    refine x_iconst d_N_image_13 ic_m1 ?_
    obtain rfl := Option.some.inj h
    exact x_ret (r := some (.int (-1 : Int32))) d_N_image_14 ⟨_, rfl, rfl⟩
  · replace h := ite_f c1 h
    refine x_iload_n d_N_image_4 rfl 1 rfl ?_
    refine x_aload_n d_N_image_5 rfl 0 rfl ?_
    refine y_getR d_N_image_6 fl_0_35 rfl kd_0 rr_0_4 ?_
    refine x_alen5 d_N_image_9 kd_35 ?_
    refine x_icmp_lt (tgt := 15) d_N_image_10 rfl (fun c2 => ?_) (fun c2 => ?_)
    · replace h := ite_t c2 h
      refine x_aload_n d_N_image_15 rfl 0 rfl ?_
      refine y_getR d_N_image_16 fl_0_35 rfl kd_0 rr_0_4 ?_
      refine x_iload_n d_N_image_19 rfl 1 rfl ?_
      obtain ⟨g3, h⟩ := gd_inv h
      refine y_aald d_N_image_20 g3 ?_
      refine x_aload_n d_N_image_21 rfl 0 rfl ?_
      refine y_getR d_N_image_22 fl_0_31 rfl kd_0 rr_0_3 ?_
      obtain ⟨S5, q4, h⟩ := bd_inv h
      refine y_V1v (S1 := S5) d_N_image_25 ml_0_341 (ksLa (isLa_box (inB_lt g3))) rfl (Nat.le_of_ble_eq_true rfl) (Nat.le_of_ble_eq_true rfl) (c_L_copy (by omega) q4) ?_
      refine x_aload_n d_N_image_28 rfl 0 rfl ?_
      refine y_getR d_N_image_29 fl_0_35 rfl kd_0 rr_0_4 ?_
      refine x_iload_n d_N_image_32 rfl 1 rfl ?_
      obtain ⟨g6, h⟩ := gd_inv h
      refine y_aald d_N_image_33 g6 ?_
      refine x_iconst d_N_image_34 ic_1 ?_
      obtain ⟨S7, e8, h⟩ := lt_inv h
      refine y_putI e8 d_N_image_35 fl_0_118 rfl rfl (ksLa (isLa_box (inB_lt g6))) rfl rfl ?_
      refine x_aload_n d_N_image_38 rfl 0 rfl ?_
      obtain ⟨v10, q9, h⟩ := bd_inv h
      refine y_V0i (v := v10) (S1 := S7) d_N_image_39 ml_0_166 kd_0 rfl (Nat.le_of_ble_eq_true rfl) (Nat.le_of_ble_eq_true rfl) (c_N_givenSet (by omega) q9) ?_
      obtain ⟨v12, q11, h⟩ := bd_inv h
      refine y_S1i (v := v12) (S1 := S7) d_N_image_42 ml_0_211 (Nat.le_of_ble_eq_true rfl) (Nat.le_of_ble_eq_true rfl) (c_J_bitCount (by omega) q11) ?_
      obtain rfl := Option.some.inj h
      exact x_ret (r := some (.int v12)) d_N_image_45 ⟨_, rfl, rfl⟩
    · replace h := ite_f c2 h
      refine x_iconst d_N_image_13 ic_m1 ?_
      obtain rfl := Option.some.inj h
      exact x_ret (r := some (.int (-1 : Int32))) d_N_image_14 ⟨_, rfl, rfl⟩
/-! NinetyPlayersModel.isBox -/
def fM_isBox (F G : Nat) (S : St) (p1 : Int32) : Option (Int32) :=
  if p1 < 0 then some (0 : Int32) else if (3 : Int32) ≤ p1 then some (0 : Int32) else some (1 : Int32)
set_option maxRecDepth 100000 in
set_option maxHeartbeats 4000000 in
theorem c_M_isBox {X : Nat × (Nat → Int32)} {D F G : Nat} (hD : 0 ≤ D) {S : St} {p1 : Int32} {res : Int32} (h : fM_isBox F G S p1 = some res) : Ek X (D) mM_isBox 0 [(0, .int p1)] [] S (some (.int res)) S := by
  unfold fM_isBox at h
  refine x_iload_n d_M_isBox_0 rfl 0 rfl ?_
  refine x_if_lt (tgt := 13) d_M_isBox_1 rfl (fun c1 => ?_) (fun c1 => ?_)
  · replace h := ite_t c1 h
    refine x_iconst d_M_isBox_13 ic_0 ?_
    obtain rfl := Option.some.inj h
    exact x_ret (r := some (.int (0 : Int32))) d_M_isBox_14 ⟨_, rfl, rfl⟩
  · replace h := ite_f c1 h
    refine x_iload_n d_M_isBox_4 rfl 0 rfl ?_
    refine x_iconst d_M_isBox_5 ic_3 ?_
    refine x_icmp_ge (tgt := 13) d_M_isBox_6 rfl (fun c2 => ?_) (fun c2 => ?_)
    · replace h := ite_t c2 h
      refine x_iconst d_M_isBox_13 ic_0 ?_
      obtain rfl := Option.some.inj h
      exact x_ret (r := some (.int (0 : Int32))) d_M_isBox_14 ⟨_, rfl, rfl⟩
    · replace h := ite_f c2 h
      refine x_iconst d_M_isBox_9 ic_1 ?_
      refine x_goto (tgt := 14) d_M_isBox_10 rfl ?_
      obtain rfl := Option.some.inj h
      exact x_ret (r := some (.int (1 : Int32))) d_M_isBox_14 ⟨_, rfl, rfl⟩
/-! NinetyPlayersModel.played -/
def b_M_played_4 (F G : Nat) (S : St) (rec : Int32 → Int32 → Option (Int32)) (w1 : Int32) (w2 : Int32) : Option (Int32) :=
  if (S.1 78 48) ≤ w2 then some w1 else gd (inB w2 41) (if (S.1 100 w2.toNatClampNeg) ≤ 0 then bd (fM_truth F G S (0 : Int32)) fun v5 => lt (w1 + v5) fun v6 => lt (w2 + 1) fun v8 => rec v6 v8 else bd (fM_truth F G S (1 : Int32)) fun v11 => lt (w1 + v11) fun v12 => lt (w2 + 1) fun v14 => rec v12 v14)
def fM_played (F G : Nat) (S : St) : Option (Int32) :=
  fx2 (b_M_played_4 F G S) F (0 : Int32) (0 : Int32)
set_option maxRecDepth 100000 in
set_option maxHeartbeats 4000000 in
theorem T_M_played_4 {X : Nat × (Nat → Int32)} {D F G : Nat} (hD : 1 ≤ D + 1) {S : St} : ∀ (f : Nat) (w1 : Int32) (w2 : Int32) (res : Int32), fx2 (b_M_played_4 F G S ) f w1 w2 = some res → Ek X (D + 1) mM_played 4 [(0, .ref 78), (1, .int w1), (2, .int w2)] [] S (some (.int res)) S := by
  refine fx2_ind ?_
  intro rec ih w1 w2 res h
  unfold b_M_played_4 at h
  refine x_iload_n d_M_played_4 rfl 2 rfl ?_
  refine x_aload_n d_M_played_5 rfl 0 rfl ?_
  refine y_getI d_M_played_6 fl_11_322 rfl kd_78 ?_
  refine x_icmp_ge (tgt := 38) d_M_played_9 rfl (fun c1 => ?_) (fun c1 => ?_)
  · replace h := ite_t c1 h
    refine x_iload_n d_M_played_38 rfl 1 rfl ?_
    obtain rfl := Option.some.inj h
    exact x_ret (r := some (.int w1)) d_M_played_39 ⟨_, rfl, rfl⟩
  · replace h := ite_f c1 h
    refine x_iload_n d_M_played_12 rfl 1 rfl ?_
    refine x_aload_n d_M_played_13 rfl 0 rfl ?_
    refine y_getR d_M_played_14 fl_11_93 rfl kd_78 rr_78_58 ?_
    refine x_iload_n d_M_played_17 rfl 2 rfl ?_
    obtain ⟨g2, h⟩ := gd_inv h
    refine y_iald d_M_played_18 kd_100 g2 ?_
    refine x_if_le (tgt := 26) d_M_played_19 rfl (fun c3 => ?_) (fun c3 => ?_)
    · replace h := ite_t c3 h
      refine x_iconst d_M_played_26 ic_0 ?_
      obtain ⟨v5, q4, h⟩ := bd_inv h
      refine y_S1i (v := v5) (S1 := S) d_M_played_27 ml_11_318 (Nat.le_of_ble_eq_true rfl) (Nat.le_of_ble_eq_true rfl) (c_M_truth (by omega) q4) ?_
      refine x_iadd d_M_played_30 ?_
      obtain ⟨v6, e7, h⟩ := lt_inv h
      refine y_istore_n (L1 := [(0, .ref 78), (1, .int v6), (2, .int w2)]) e7 d_M_played_31 rfl (Nat.le_of_ble_eq_true rfl) rfl rfl ?_
      obtain ⟨v8, e9, h⟩ := lt_inv h
      refine y_iinc (L1 := [(0, .ref 78), (1, .int v6), (2, .int v8)]) e9 ic_1 d_M_played_32 2 rfl (Nat.le_of_ble_eq_true rfl) rfl rfl ?_
      refine x_goto (tgt := 4) d_M_played_35 rfl ?_
      exact ih v6 v8 _ h
    · replace h := ite_f c3 h
      refine x_iconst d_M_played_22 ic_1 ?_
      refine x_goto (tgt := 27) d_M_played_23 rfl ?_
      obtain ⟨v11, q10, h⟩ := bd_inv h
      refine y_S1i (v := v11) (S1 := S) d_M_played_27 ml_11_318 (Nat.le_of_ble_eq_true rfl) (Nat.le_of_ble_eq_true rfl) (c_M_truth (by omega) q10) ?_
      refine x_iadd d_M_played_30 ?_
      obtain ⟨v12, e13, h⟩ := lt_inv h
      refine y_istore_n (L1 := [(0, .ref 78), (1, .int v12), (2, .int w2)]) e13 d_M_played_31 rfl (Nat.le_of_ble_eq_true rfl) rfl rfl ?_
      obtain ⟨v14, e15, h⟩ := lt_inv h
      refine y_iinc (L1 := [(0, .ref 78), (1, .int v12), (2, .int v14)]) e15 ic_1 d_M_played_32 2 rfl (Nat.le_of_ble_eq_true rfl) rfl rfl ?_
      refine x_goto (tgt := 4) d_M_played_35 rfl ?_
      exact ih v12 v14 _ h
set_option maxRecDepth 100000 in
set_option maxHeartbeats 4000000 in
theorem c_M_played {X : Nat × (Nat → Int32)} {D F G : Nat} (hD : 1 ≤ D) {S : St} {res : Int32} (h : fM_played F G S  = some res) : Ek X (D) mM_played 0 [(0, .ref 78)] [] S (some (.int res)) S := by
  obtain ⟨D, rfl⟩ : ∃ E, D = E + 1 := ⟨D - 1, by omega⟩
  unfold fM_played at h
  refine x_iconst d_M_played_0 ic_0 ?_
  refine x_istore_n (L1 := [(0, .ref 78), (1, .int (0 : Int32))]) d_M_played_1 rfl (Nat.le_of_ble_eq_true rfl) rfl rfl ?_
  refine x_iconst d_M_played_2 ic_0 ?_
  refine x_istore_n (L1 := [(0, .ref 78), (1, .int (0 : Int32)), (2, .int (0 : Int32))]) d_M_played_3 rfl (Nat.le_of_ble_eq_true rfl) rfl rfl ?_
  refine T_M_played_4 (by omega)   F (0 : Int32) (0 : Int32) _ h
/-! NinetyPlayersModel.image -/
def b_M_image_18 (F G : Nat) (z1 : Int32) (k47 : St → Option (Int32 × St)) (rec : Int32 → St → Option (Int32 × St)) (w2 : Int32) (S : St) : Option (Int32 × St) :=
  if (41 : Int32) ≤ w2 then k47 S else gd (inB w2 41) (gd (inB (((41 : Int32) * z1) + w2) 123) (lt (sI S 116 (((41 : Int32) * z1) + w2).toNatClampNeg (S.1 100 w2.toNatClampNeg)) fun S10 => lt (w2 + 1) fun v12 => rec v12 S10))
def fM_image (F G : Nat) (S : St) (p1 : Int32) : Option (Int32 × St) :=
  bd (fM_isBox F G S p1) fun v2 => if v2 = 0 then some ((-1 : Int32), S) else gd (inB p1 3) (lt (sI S 115 p1.toNatClampNeg (vp_nar .boolean (1 : Int32))) fun S5 => fx2 (b_M_image_18 F G p1 (fun S14 => bd (fM_played F G S14) fun v16 => some (v16, S14))) F (0 : Int32) S5)
set_option maxRecDepth 100000 in
set_option maxHeartbeats 4000000 in
theorem T_M_image_18 {X : Nat × (Nat → Int32)} {D F G : Nat} (hD : 2 ≤ D + 1) {z1 : Int32} {k47 : St → Option (Int32 × St)} (hk47 : ∀ (S1 : St) (res : Int32 × St), k47 S1 = some res → Ek X (D + 1) mM_image 47 [(0, .ref 78)] [] S1 (some (.int res.1)) res.2) : ∀ (f : Nat) (w2 : Int32) (S : St) (res : Int32 × St), fx2 (b_M_image_18 F G z1 k47 ) f w2 S = some res → Ek X (D + 1) mM_image 18 [(0, .ref 78), (1, .int z1), (2, .int w2)] [] S (some (.int res.1)) res.2 := by
  refine fx2_ind ?_
  intro rec ih w2 S res h
  unfold b_M_image_18 at h
  refine x_iload_n d_M_image_18 rfl 2 rfl ?_
  refine x_bipush d_M_image_19 bp_41 ?_
  refine x_icmp_ge (tgt := 47) d_M_image_21 rfl (fun c7 => ?_) (fun c7 => ?_)
  · replace h := ite_t c7 h
    refine y_pick (L1 := [(0, .ref 78)]) [0] rfl ?_
    exact hk47 S _ h
  · replace h := ite_f c7 h
    refine x_aload_n d_M_image_24 rfl 0 rfl ?_
    refine y_getR d_M_image_25 fl_11_142 rfl kd_78 rr_78_79 ?_
    refine x_bipush d_M_image_28 bp_41 ?_
    refine x_iload_n d_M_image_30 rfl 1 rfl ?_
    refine x_imul d_M_image_31 ?_
    refine x_iload_n d_M_image_32 rfl 2 rfl ?_
    refine x_iadd d_M_image_33 ?_
    refine x_aload_n d_M_image_34 rfl 0 rfl ?_
    refine y_getR d_M_image_35 fl_11_93 rfl kd_78 rr_78_58 ?_
    refine x_iload_n d_M_image_38 rfl 2 rfl ?_
    obtain ⟨g8, h⟩ := gd_inv h
    refine y_iald d_M_image_39 kd_100 g8 ?_
    obtain ⟨g9, h⟩ := gd_inv h
    obtain ⟨S10, e11, h⟩ := lt_inv h
    refine y_iast e11 d_M_image_40 kd_116 g9 ?_
    obtain ⟨v12, e13, h⟩ := lt_inv h
    refine y_iinc (L1 := [(0, .ref 78), (1, .int z1), (2, .int v12)]) e13 ic_1 d_M_image_41 2 rfl (Nat.le_of_ble_eq_true rfl) rfl rfl ?_
    refine x_goto (tgt := 18) d_M_image_44 rfl ?_
    exact ih v12 S10 _ h
set_option maxRecDepth 100000 in
set_option maxHeartbeats 4000000 in
theorem c_M_image {X : Nat × (Nat → Int32)} {D F G : Nat} (hD : 2 ≤ D) {S : St} {p1 : Int32} {res : Int32 × St} (h : fM_image F G S p1 = some res) : Ek X (D) mM_image 0 [(0, .ref 78), (1, .int p1)] [] S (some (.int res.1)) res.2 := by
  obtain ⟨D, rfl⟩ : ∃ E, D = E + 1 := ⟨D - 1, by omega⟩
  unfold fM_image at h
  refine x_iload_n d_M_image_0 rfl 1 rfl ?_
  obtain ⟨v2, q1, h⟩ := bd_inv h
  refine y_S1i (v := v2) (S1 := S) d_M_image_1 ml_11_553 (Nat.le_of_ble_eq_true rfl) (Nat.le_of_ble_eq_true rfl) (c_M_isBox (by omega) q1) ?_
  refine x_if_ne (tgt := 9) d_M_image_4 rfl (fun c3 => ?_) (fun c3 => ?_)
  · replace h := ite_f c3 h
    refine x_aload_n d_M_image_9 rfl 0 rfl ?_
    refine y_getR d_M_image_10 fl_11_139 rfl kd_78 rr_78_78 ?_
    refine x_iload_n d_M_image_13 rfl 1 rfl ?_
    refine x_iconst d_M_image_14 ic_1 ?_
    obtain ⟨g4, h⟩ := gd_inv h
    obtain ⟨S5, e6, h⟩ := lt_inv h
    refine y_zast e6 d_M_image_15 kd_115 g4 ?_
    refine x_iconst d_M_image_16 ic_0 ?_
    refine x_istore_n (L1 := [(0, .ref 78), (1, .int p1), (2, .int (0 : Int32))]) d_M_image_17 rfl (Nat.le_of_ble_eq_true rfl) rfl rfl ?_
    refine T_M_image_18 (by omega)  ?_ F (0 : Int32) S5 _ h
    · intro S14 res h
      refine x_aload_n d_M_image_47 rfl 0 rfl ?_
      obtain ⟨v16, q15, h⟩ := bd_inv h
      refine y_V0i (v := v16) (S1 := S14) d_M_image_48 ml_11_556 kd_78 rfl (Nat.le_of_ble_eq_true rfl) (Nat.le_of_ble_eq_true rfl) (c_M_played (by omega) q15) ?_
      obtain rfl := Option.some.inj h
      exact x_ret (r := some (.int v16)) d_M_image_51 ⟨_, rfl, rfl⟩
  · replace h := ite_t c3 h
    refine x_iconst d_M_image_7 ic_m1 ?_
    obtain rfl := Option.some.inj h
    exact x_ret (r := some (.int (-1 : Int32))) d_M_image_8 ⟨_, rfl, rfl⟩
/-! NinetyPlayers.isKept -/
def fN_isKept (F G : Nat) (S : St) (p1 : Int32) : Option (Int32) :=
  if p1 < 0 then some (0 : Int32) else if (Int32.ofNat 3) ≤ p1 then some (0 : Int32) else gd (inB p1 3) (if (S.1 (36 + 5 * p1.toNatClampNeg) 0) = 0 then some (0 : Int32) else some (1 : Int32))
set_option maxRecDepth 100000 in
set_option maxHeartbeats 4000000 in
theorem c_N_isKept {X : Nat × (Nat → Int32)} {D F G : Nat} (hD : 0 ≤ D) {S : St} {p1 : Int32} {res : Int32} (h : fN_isKept F G S p1 = some res) : Ek X (D) mN_isKept 0 [(0, .ref 0), (1, .int p1)] [] S (some (.int res)) S := by
  unfold fN_isKept at h
  refine x_iload_n d_N_isKept_0 rfl 1 rfl ?_
  refine x_if_lt (tgt := 29) d_N_isKept_1 rfl (fun c1 => ?_) (fun c1 => ?_)
  · replace h := ite_t c1 h
    refine x_iconst d_N_isKept_29 ic_0 ?_
    obtain rfl := Option.some.inj h
    exact x_ret (r := some (.int (0 : Int32))) d_N_isKept_30 ⟨_, rfl, rfl⟩
  · replace h := ite_f c1 h
    refine x_iload_n d_N_isKept_4 rfl 1 rfl ?_
    refine x_aload_n d_N_isKept_5 rfl 0 rfl ?_
    refine y_getR d_N_isKept_6 fl_0_35 rfl kd_0 rr_0_4 ?_
    refine x_alen5 d_N_isKept_9 kd_35 ?_
    refine x_icmp_ge (tgt := 29) d_N_isKept_10 rfl (fun c2 => ?_) (fun c2 => ?_)
    · replace h := ite_t c2 h
      refine x_iconst d_N_isKept_29 ic_0 ?_
      obtain rfl := Option.some.inj h
      exact x_ret (r := some (.int (0 : Int32))) d_N_isKept_30 ⟨_, rfl, rfl⟩
    · replace h := ite_f c2 h
      refine x_aload_n d_N_isKept_13 rfl 0 rfl ?_
      refine y_getR d_N_isKept_14 fl_0_35 rfl kd_0 rr_0_4 ?_
      refine x_iload_n d_N_isKept_17 rfl 1 rfl ?_
      obtain ⟨g3, h⟩ := gd_inv h
      refine y_aald d_N_isKept_18 g3 ?_
      refine y_getI d_N_isKept_19 fl_0_118 rfl (ksLa (isLa_box (inB_lt g3))) ?_
      refine x_if_eq (tgt := 29) d_N_isKept_22 rfl (fun c4 => ?_) (fun c4 => ?_)
      · replace h := ite_t c4 h
        refine x_iconst d_N_isKept_29 ic_0 ?_
        obtain rfl := Option.some.inj h
        exact x_ret (r := some (.int (0 : Int32))) d_N_isKept_30 ⟨_, rfl, rfl⟩
      · replace h := ite_f c4 h
        refine x_iconst d_N_isKept_25 ic_1 ?_
        refine x_goto (tgt := 30) d_N_isKept_26 rfl ?_
        obtain rfl := Option.some.inj h
        exact x_ret (r := some (.int (1 : Int32))) d_N_isKept_30 ⟨_, rfl, rfl⟩
/-! NinetyPlayers.back -/
def fN_back (F G : Nat) (S : St) (p1 : Int32) : Option (Int32 × St) :=
  bd (fN_isKept F G S p1) fun v2 => if v2 = 0 then some ((-1 : Int32), S) else gd (inB p1 3) (bd (fL_copy F G S 30 (36 + 5 * p1.toNatClampNeg)) fun S6 => bd (fC_forget F G S6 ) fun S8 => bd (fN_givenSet F G S8) fun v10 => bd (fJ_bitCount F G S8 v10) fun v12 => some (v12, S8))
set_option maxRecDepth 100000 in
set_option maxHeartbeats 4000000 in
theorem c_N_back {X : Nat × (Nat → Int32)} {D F G : Nat} (hD : 2 ≤ D) {S : St} {p1 : Int32} {res : Int32 × St} (h : fN_back F G S p1 = some res) : Ek X (D) mN_back 0 [(0, .ref 0), (1, .int p1)] [] S (some (.int res.1)) res.2 := by
  obtain ⟨D, rfl⟩ : ∃ E, D = E + 1 := ⟨D - 1, by omega⟩
  unfold fN_back at h
  refine x_aload_n d_N_back_0 rfl 0 rfl ?_
  refine x_iload_n d_N_back_1 rfl 1 rfl ?_
  obtain ⟨v2, q1, h⟩ := bd_inv h
  refine y_V1i (v := v2) (S1 := S) d_N_back_2 ml_0_345 kd_0 rfl (Nat.le_of_ble_eq_true rfl) (Nat.le_of_ble_eq_true rfl) (c_N_isKept (by omega) q1) ?_
  refine x_if_ne (tgt := 10) d_N_back_5 rfl (fun c3 => ?_) (fun c3 => ?_)
  · replace h := ite_f c3 h
    refine x_aload_n d_N_back_10 rfl 0 rfl ?_
    refine y_getR d_N_back_11 fl_0_31 rfl kd_0 rr_0_3 ?_
    refine x_aload_n d_N_back_14 rfl 0 rfl ?_
    refine y_getR d_N_back_15 fl_0_35 rfl kd_0 rr_0_4 ?_
    refine x_iload_n d_N_back_18 rfl 1 rfl ?_
    obtain ⟨g4, h⟩ := gd_inv h
    refine y_aald d_N_back_19 g4 ?_
    obtain ⟨S6, q5, h⟩ := bd_inv h
    refine y_V1v (S1 := S6) d_N_back_20 ml_0_341 kd_30 rfl (Nat.le_of_ble_eq_true rfl) (Nat.le_of_ble_eq_true rfl) (c_L_copy (by omega) q5) ?_
    refine x_aload_n d_N_back_23 rfl 0 rfl ?_
    refine y_getR d_N_back_24 fl_0_42 rfl kd_0 rr_0_5 ?_
    obtain ⟨S8, q7, h⟩ := bd_inv h
    refine y_V0v (S1 := S8) d_N_back_27 ml_0_111 kd_51 rfl (Nat.le_of_ble_eq_true rfl) (Nat.le_of_ble_eq_true rfl) (c_C_forget (by omega) q7) ?_
    refine x_aload_n d_N_back_30 rfl 0 rfl ?_
    obtain ⟨v10, q9, h⟩ := bd_inv h
    refine y_V0i (v := v10) (S1 := S8) d_N_back_31 ml_0_166 kd_0 rfl (Nat.le_of_ble_eq_true rfl) (Nat.le_of_ble_eq_true rfl) (c_N_givenSet (by omega) q9) ?_
    obtain ⟨v12, q11, h⟩ := bd_inv h
    refine y_S1i (v := v12) (S1 := S8) d_N_back_34 ml_0_211 (Nat.le_of_ble_eq_true rfl) (Nat.le_of_ble_eq_true rfl) (c_J_bitCount (by omega) q11) ?_
    obtain rfl := Option.some.inj h
    exact x_ret (r := some (.int v12)) d_N_back_37 ⟨_, rfl, rfl⟩
  · replace h := ite_t c3 h
    refine x_iconst d_N_back_8 ic_m1 ?_
    obtain rfl := Option.some.inj h
    exact x_ret (r := some (.int (-1 : Int32))) d_N_back_9 ⟨_, rfl, rfl⟩
/-! NinetyPlayersModel.back -/
def b_M_back_20 (F G : Nat) (z1 : Int32) (k49 : St → Option (Int32 × St)) (rec : Int32 → St → Option (Int32 × St)) (w2 : Int32) (S : St) : Option (Int32 × St) :=
  if (41 : Int32) ≤ w2 then k49 S else gd (inB (((41 : Int32) * z1) + w2) 123) (gd (inB w2 41) (lt (sI S 100 w2.toNatClampNeg (S.1 116 (((41 : Int32) * z1) + w2).toNatClampNeg)) fun S9 => lt (w2 + 1) fun v11 => rec v11 S9))
def fM_back (F G : Nat) (S : St) (p1 : Int32) : Option (Int32 × St) :=
  bd (fM_isBox F G S p1) fun v2 => if v2 = 0 then some ((-1 : Int32), S) else gd (inB p1 3) (if (S.1 115 p1.toNatClampNeg) = 0 then some ((-1 : Int32), S) else fx2 (b_M_back_20 F G p1 (fun S13 => lt (sI S13 78 63 (0 : Int32)) fun S14 => lt (sI S14 78 64 (0 : Int32)) fun S16 => bd (fM_played F G S16) fun v19 => some (v19, S16))) F (0 : Int32) S)
set_option maxRecDepth 100000 in
set_option maxHeartbeats 4000000 in
theorem T_M_back_20 {X : Nat × (Nat → Int32)} {D F G : Nat} (hD : 2 ≤ D + 1) {z1 : Int32} {k49 : St → Option (Int32 × St)} (hk49 : ∀ (S1 : St) (res : Int32 × St), k49 S1 = some res → Ek X (D + 1) mM_back 49 [(0, .ref 78)] [] S1 (some (.int res.1)) res.2) : ∀ (f : Nat) (w2 : Int32) (S : St) (res : Int32 × St), fx2 (b_M_back_20 F G z1 k49 ) f w2 S = some res → Ek X (D + 1) mM_back 20 [(0, .ref 78), (1, .int z1), (2, .int w2)] [] S (some (.int res.1)) res.2 := by
  refine fx2_ind ?_
  intro rec ih w2 S res h
  unfold b_M_back_20 at h
  refine x_iload_n d_M_back_20 rfl 2 rfl ?_
  refine x_bipush d_M_back_21 bp_41 ?_
  refine x_icmp_ge (tgt := 49) d_M_back_23 rfl (fun c6 => ?_) (fun c6 => ?_)
  · replace h := ite_t c6 h
    refine y_pick (L1 := [(0, .ref 78)]) [0] rfl ?_
    exact hk49 S _ h
  · replace h := ite_f c6 h
    refine x_aload_n d_M_back_26 rfl 0 rfl ?_
    refine y_getR d_M_back_27 fl_11_93 rfl kd_78 rr_78_58 ?_
    refine x_iload_n d_M_back_30 rfl 2 rfl ?_
    refine x_aload_n d_M_back_31 rfl 0 rfl ?_
    refine y_getR d_M_back_32 fl_11_142 rfl kd_78 rr_78_79 ?_
    refine x_bipush d_M_back_35 bp_41 ?_
    refine x_iload_n d_M_back_37 rfl 1 rfl ?_
    refine x_imul d_M_back_38 ?_
    refine x_iload_n d_M_back_39 rfl 2 rfl ?_
    refine x_iadd d_M_back_40 ?_
    obtain ⟨g7, h⟩ := gd_inv h
    refine y_iald d_M_back_41 kd_116 g7 ?_
    obtain ⟨g8, h⟩ := gd_inv h
    obtain ⟨S9, e10, h⟩ := lt_inv h
    refine y_iast e10 d_M_back_42 kd_100 g8 ?_
    obtain ⟨v11, e12, h⟩ := lt_inv h
    refine y_iinc (L1 := [(0, .ref 78), (1, .int z1), (2, .int v11)]) e12 ic_1 d_M_back_43 2 rfl (Nat.le_of_ble_eq_true rfl) rfl rfl ?_
    refine x_goto (tgt := 20) d_M_back_46 rfl ?_
    exact ih v11 S9 _ h
set_option maxRecDepth 100000 in
set_option maxHeartbeats 4000000 in
theorem c_M_back {X : Nat × (Nat → Int32)} {D F G : Nat} (hD : 2 ≤ D) {S : St} {p1 : Int32} {res : Int32 × St} (h : fM_back F G S p1 = some res) : Ek X (D) mM_back 0 [(0, .ref 78), (1, .int p1)] [] S (some (.int res.1)) res.2 := by
  obtain ⟨D, rfl⟩ : ∃ E, D = E + 1 := ⟨D - 1, by omega⟩
  unfold fM_back at h
  refine x_iload_n d_M_back_0 rfl 1 rfl ?_
  obtain ⟨v2, q1, h⟩ := bd_inv h
  refine y_S1i (v := v2) (S1 := S) d_M_back_1 ml_11_553 (Nat.le_of_ble_eq_true rfl) (Nat.le_of_ble_eq_true rfl) (c_M_isBox (by omega) q1) ?_
  refine x_if_eq (tgt := 16) d_M_back_4 rfl (fun c3 => ?_) (fun c3 => ?_)
  · replace h := ite_t c3 h
    refine x_iconst d_M_back_16 ic_m1 ?_
    obtain rfl := Option.some.inj h
    exact x_ret (r := some (.int (-1 : Int32))) d_M_back_17 ⟨_, rfl, rfl⟩
  · replace h := ite_f c3 h
    refine x_aload_n d_M_back_7 rfl 0 rfl ?_
    refine y_getR d_M_back_8 fl_11_139 rfl kd_78 rr_78_78 ?_
    refine x_iload_n d_M_back_11 rfl 1 rfl ?_
    obtain ⟨g4, h⟩ := gd_inv h
    refine y_zald d_M_back_12 kd_115 g4 ?_
    refine x_if_ne (tgt := 18) d_M_back_13 rfl (fun c5 => ?_) (fun c5 => ?_)
    · replace h := ite_f c5 h
      refine x_iconst d_M_back_18 ic_0 ?_
      refine x_istore_n (L1 := [(0, .ref 78), (1, .int p1), (2, .int (0 : Int32))]) d_M_back_19 rfl (Nat.le_of_ble_eq_true rfl) rfl rfl ?_
      refine T_M_back_20 (by omega)  ?_ F (0 : Int32) S _ h
      · intro S13 res h
        refine x_aload_n d_M_back_49 rfl 0 rfl ?_
        refine x_iconst d_M_back_50 ic_0 ?_
        obtain ⟨S14, e15, h⟩ := lt_inv h
        refine y_putI e15 d_M_back_51 fl_11_417 rfl rfl kd_78 rfl rfl ?_
        refine x_aload_n d_M_back_54 rfl 0 rfl ?_
        refine x_iconst d_M_back_55 ic_0 ?_
        obtain ⟨S16, e17, h⟩ := lt_inv h
        refine y_putI e17 d_M_back_56 fl_11_420 rfl rfl kd_78 rfl rfl ?_
        refine x_aload_n d_M_back_59 rfl 0 rfl ?_
        obtain ⟨v19, q18, h⟩ := bd_inv h
        refine y_V0i (v := v19) (S1 := S16) d_M_back_60 ml_11_556 kd_78 rfl (Nat.le_of_ble_eq_true rfl) (Nat.le_of_ble_eq_true rfl) (c_M_played (by omega) q18) ?_
        obtain rfl := Option.some.inj h
        exact x_ret (r := some (.int v19)) d_M_back_63 ⟨_, rfl, rfl⟩
    · replace h := ite_t c5 h
      refine x_iconst d_M_back_16 ic_m1 ?_
      obtain rfl := Option.some.inj h
      exact x_ret (r := some (.int (-1 : Int32))) d_M_back_17 ⟨_, rfl, rfl⟩
/-! NinetyPlayers$Laying.differsAt -/
def fL_differsAt (F G : Nat) (S : St) (o : Nat) (p1 : Int32) (o3 : Nat) : Option (Int32) :=
  gd (isLa o) (gd (isLa o3) (gd (inB p1 10) (gd (inB p1 10) (if (S.1 (o + 1) p1.toNatClampNeg) = (S.1 (o3 + 1) p1.toNatClampNeg) then gd (inB p1 10) (gd (inB p1 10) (if (S.1 (o + 2) p1.toNatClampNeg) = (S.1 (o3 + 2) p1.toNatClampNeg) then gd (inB p1 10) (gd (inB p1 10) (if (S.1 (o + 3) p1.toNatClampNeg) = (S.1 (o3 + 3) p1.toNatClampNeg) then gd (inB p1 10) (gd (inB p1 10) (if (S.1 (o + 4) p1.toNatClampNeg) = (S.1 (o3 + 4) p1.toNatClampNeg) then some (0 : Int32) else some (1 : Int32))) else some (1 : Int32))) else some (1 : Int32))) else some (1 : Int32)))))
set_option maxRecDepth 100000 in
set_option maxHeartbeats 4000000 in
theorem c_L_differsAt {X : Nat × (Nat → Int32)} {D F G : Nat} (hD : 0 ≤ D) {S : St} {o : Nat} {p1 : Int32} {o3 : Nat} {res : Int32} (h : fL_differsAt F G S o p1 o3 = some res) : Ek X (D) mL_differsAt 0 [(0, .ref o), (1, .int p1), (2, .ref o3)] [] S (some (.int res)) S := by
  unfold fL_differsAt at h
  obtain ⟨gg0, h⟩ := gd_inv h
  obtain ⟨gg1, h⟩ := gd_inv h
  refine x_aload_n d_L_differsAt_0 rfl 0 rfl ?_
  refine y_getR d_L_differsAt_1 fl_5_9 rfl (ksLa gg0) (rrLa_2 gg0) ?_
  refine x_iload_n d_L_differsAt_4 rfl 1 rfl ?_
  obtain ⟨g1, h⟩ := gd_inv h
  refine y_iald d_L_differsAt_5 (ksLa_1 gg0) g1 ?_
  refine x_aload_n d_L_differsAt_6 rfl 2 rfl ?_
  refine y_getR d_L_differsAt_7 fl_5_9 rfl (ksLa gg1) (rrLa_2 gg1) ?_
  refine x_iload_n d_L_differsAt_10 rfl 1 rfl ?_
  obtain ⟨g2, h⟩ := gd_inv h
  refine y_iald d_L_differsAt_11 (ksLa_1 gg1) g2 ?_
  refine x_icmp_ne (tgt := 60) d_L_differsAt_12 rfl (fun c3 => ?_) (fun c3 => ?_)
  · replace h := ite_f c3 h
    refine x_iconst d_L_differsAt_60 ic_1 ?_
    refine x_goto (tgt := 65) d_L_differsAt_61 rfl ?_
    obtain rfl := Option.some.inj h
    exact x_ret (r := some (.int (1 : Int32))) d_L_differsAt_65 ⟨_, rfl, rfl⟩
  · replace h := ite_t c3 h
    refine x_aload_n d_L_differsAt_15 rfl 0 rfl ?_
    refine y_getR d_L_differsAt_16 fl_5_15 rfl (ksLa gg0) (rrLa_3 gg0) ?_
    refine x_iload_n d_L_differsAt_19 rfl 1 rfl ?_
    obtain ⟨g4, h⟩ := gd_inv h
    refine y_iald d_L_differsAt_20 (ksLa_2 gg0) g4 ?_
    refine x_aload_n d_L_differsAt_21 rfl 2 rfl ?_
    refine y_getR d_L_differsAt_22 fl_5_15 rfl (ksLa gg1) (rrLa_3 gg1) ?_
    refine x_iload_n d_L_differsAt_25 rfl 1 rfl ?_
    obtain ⟨g5, h⟩ := gd_inv h
    refine y_iald d_L_differsAt_26 (ksLa_2 gg1) g5 ?_
    refine x_icmp_ne (tgt := 60) d_L_differsAt_27 rfl (fun c6 => ?_) (fun c6 => ?_)
    · replace h := ite_f c6 h
      refine x_iconst d_L_differsAt_60 ic_1 ?_
      refine x_goto (tgt := 65) d_L_differsAt_61 rfl ?_
      obtain rfl := Option.some.inj h
      exact x_ret (r := some (.int (1 : Int32))) d_L_differsAt_65 ⟨_, rfl, rfl⟩
    · replace h := ite_t c6 h
      refine x_aload_n d_L_differsAt_30 rfl 0 rfl ?_
      refine y_getR d_L_differsAt_31 fl_5_18 rfl (ksLa gg0) (rrLa_4 gg0) ?_
      refine x_iload_n d_L_differsAt_34 rfl 1 rfl ?_
      obtain ⟨g7, h⟩ := gd_inv h
      refine y_iald d_L_differsAt_35 (ksLa_3 gg0) g7 ?_
      refine x_aload_n d_L_differsAt_36 rfl 2 rfl ?_
      refine y_getR d_L_differsAt_37 fl_5_18 rfl (ksLa gg1) (rrLa_4 gg1) ?_
      refine x_iload_n d_L_differsAt_40 rfl 1 rfl ?_
      obtain ⟨g8, h⟩ := gd_inv h
      refine y_iald d_L_differsAt_41 (ksLa_3 gg1) g8 ?_
      refine x_icmp_ne (tgt := 60) d_L_differsAt_42 rfl (fun c9 => ?_) (fun c9 => ?_)
      · replace h := ite_f c9 h
        refine x_iconst d_L_differsAt_60 ic_1 ?_
        refine x_goto (tgt := 65) d_L_differsAt_61 rfl ?_
        obtain rfl := Option.some.inj h
        exact x_ret (r := some (.int (1 : Int32))) d_L_differsAt_65 ⟨_, rfl, rfl⟩
      · replace h := ite_t c9 h
        refine x_aload_n d_L_differsAt_45 rfl 0 rfl ?_
        refine y_getR d_L_differsAt_46 fl_5_21 rfl (ksLa gg0) (rrLa_5 gg0) ?_
        refine x_iload_n d_L_differsAt_49 rfl 1 rfl ?_
        obtain ⟨g10, h⟩ := gd_inv h
        refine y_iald d_L_differsAt_50 (ksLa_4 gg0) g10 ?_
        refine x_aload_n d_L_differsAt_51 rfl 2 rfl ?_
        refine y_getR d_L_differsAt_52 fl_5_21 rfl (ksLa gg1) (rrLa_5 gg1) ?_
        refine x_iload_n d_L_differsAt_55 rfl 1 rfl ?_
        obtain ⟨g11, h⟩ := gd_inv h
        refine y_iald d_L_differsAt_56 (ksLa_4 gg1) g11 ?_
        refine x_icmp_eq (tgt := 64) d_L_differsAt_57 rfl (fun c12 => ?_) (fun c12 => ?_)
        · replace h := ite_t c12 h
          refine x_iconst d_L_differsAt_64 ic_0 ?_
          obtain rfl := Option.some.inj h
          exact x_ret (r := some (.int (0 : Int32))) d_L_differsAt_65 ⟨_, rfl, rfl⟩
        · replace h := ite_f c12 h
          refine x_iconst d_L_differsAt_60 ic_1 ?_
          refine x_goto (tgt := 65) d_L_differsAt_61 rfl ?_
          obtain rfl := Option.some.inj h
          exact x_ret (r := some (.int (1 : Int32))) d_L_differsAt_65 ⟨_, rfl, rfl⟩
/-! NinetyPlayers.differ -/
def b_N_differ_14 (F G : Nat) (S : St) (z1 : Int32) (rec : Int32 → Int32 → Option (Int32)) (w2 : Int32) (w3 : Int32) : Option (Int32) :=
  gd (isSc S.2.2.1) (if (S.1 S.2.2.1 6) ≤ w3 then some w2 else gd (inB z1 3) (bd (fL_differsAt F G S 30 w3 (36 + 5 * z1.toNatClampNeg)) fun v8 => if v8 = 0 then lt (w3 + 1) fun v10 => rec w2 v10 else lt (w2 ||| ((1 : Int32) <<< (w3 &&& 31))) fun v12 => lt (w3 + 1) fun v14 => rec v12 v14))
def fN_differ (F G : Nat) (S : St) (p1 : Int32) : Option (Int32) :=
  bd (fN_isKept F G S p1) fun v2 => if v2 = 0 then some (-1 : Int32) else fx2 (b_N_differ_14 F G S p1) F (0 : Int32) (0 : Int32)
set_option maxRecDepth 100000 in
set_option maxHeartbeats 4000000 in
theorem T_N_differ_14 {X : Nat × (Nat → Int32)} {D F G : Nat} (hD : 1 ≤ D + 1) {S : St} {z1 : Int32} : ∀ (f : Nat) (w2 : Int32) (w3 : Int32) (res : Int32), fx2 (b_N_differ_14 F G S z1 ) f w2 w3 = some res → Ek X (D + 1) mN_differ 14 [(0, .ref 0), (1, .int z1), (2, .int w2), (3, .int w3)] [] S (some (.int res)) S := by
  refine fx2_ind ?_
  intro rec ih w2 w3 res h
  unfold b_N_differ_14 at h
  refine x_iload_n d_N_differ_14 rfl 3 rfl ?_
  refine x_aload_n d_N_differ_15 rfl 0 rfl ?_
  refine y_getR d_N_differ_16 fl_0_24 rfl kd_0 rr_told ?_
  obtain ⟨g4, h⟩ := gd_inv h
  refine y_getI d_N_differ_19 fl_0_122 rfl (ksSc g4) ?_
  refine x_icmp_ge (tgt := 54) d_N_differ_22 rfl (fun c5 => ?_) (fun c5 => ?_)
  · replace h := ite_t c5 h
    refine x_iload_n d_N_differ_54 rfl 2 rfl ?_
    obtain rfl := Option.some.inj h
    exact x_ret (r := some (.int w2)) d_N_differ_55 ⟨_, rfl, rfl⟩
  · replace h := ite_f c5 h
    refine x_aload_n d_N_differ_25 rfl 0 rfl ?_
    refine y_getR d_N_differ_26 fl_0_31 rfl kd_0 rr_0_3 ?_
    refine x_iload_n d_N_differ_29 rfl 3 rfl ?_
    refine x_aload_n d_N_differ_30 rfl 0 rfl ?_
    refine y_getR d_N_differ_31 fl_0_35 rfl kd_0 rr_0_4 ?_
    refine x_iload_n d_N_differ_34 rfl 1 rfl ?_
    obtain ⟨g6, h⟩ := gd_inv h
    refine y_aald d_N_differ_35 g6 ?_
    obtain ⟨v8, q7, h⟩ := bd_inv h
    refine y_V2i (v := v8) (S1 := S) d_N_differ_36 ml_0_348 kd_30 rfl (Nat.le_of_ble_eq_true rfl) (Nat.le_of_ble_eq_true rfl) (c_L_differsAt (by omega) q7) ?_
    refine x_if_eq (tgt := 48) d_N_differ_39 rfl (fun c9 => ?_) (fun c9 => ?_)
    · replace h := ite_t c9 h
      obtain ⟨v10, e11, h⟩ := lt_inv h
      refine y_iinc (L1 := [(0, .ref 0), (1, .int z1), (2, .int w2), (3, .int v10)]) e11 ic_1 d_N_differ_48 3 rfl (Nat.le_of_ble_eq_true rfl) rfl rfl ?_
      refine x_goto (tgt := 14) d_N_differ_51 rfl ?_
      exact ih w2 v10 _ h
    · replace h := ite_f c9 h
      refine x_iload_n d_N_differ_42 rfl 2 rfl ?_
      refine x_iconst d_N_differ_43 ic_1 ?_
      refine x_iload_n d_N_differ_44 rfl 3 rfl ?_
      refine x_ishl d_N_differ_45 ?_
      refine x_ior d_N_differ_46 ?_
      obtain ⟨v12, e13, h⟩ := lt_inv h
      refine y_istore_n (L1 := [(0, .ref 0), (1, .int z1), (2, .int v12), (3, .int w3)]) e13 d_N_differ_47 rfl (Nat.le_of_ble_eq_true rfl) rfl rfl ?_
      obtain ⟨v14, e15, h⟩ := lt_inv h
      refine y_iinc (L1 := [(0, .ref 0), (1, .int z1), (2, .int v12), (3, .int v14)]) e15 ic_1 d_N_differ_48 3 rfl (Nat.le_of_ble_eq_true rfl) rfl rfl ?_
      refine x_goto (tgt := 14) d_N_differ_51 rfl ?_
      exact ih v12 v14 _ h
set_option maxRecDepth 100000 in
set_option maxHeartbeats 4000000 in
theorem c_N_differ {X : Nat × (Nat → Int32)} {D F G : Nat} (hD : 1 ≤ D) {S : St} {p1 : Int32} {res : Int32} (h : fN_differ F G S p1 = some res) : Ek X (D) mN_differ 0 [(0, .ref 0), (1, .int p1)] [] S (some (.int res)) S := by
  obtain ⟨D, rfl⟩ : ∃ E, D = E + 1 := ⟨D - 1, by omega⟩
  unfold fN_differ at h
  refine x_aload_n d_N_differ_0 rfl 0 rfl ?_
  refine x_iload_n d_N_differ_1 rfl 1 rfl ?_
  obtain ⟨v2, q1, h⟩ := bd_inv h
  refine y_V1i (v := v2) (S1 := S) d_N_differ_2 ml_0_345 kd_0 rfl (Nat.le_of_ble_eq_true rfl) (Nat.le_of_ble_eq_true rfl) (c_N_isKept (by omega) q1) ?_
  refine x_if_ne (tgt := 10) d_N_differ_5 rfl (fun c3 => ?_) (fun c3 => ?_)
  · replace h := ite_f c3 h
    refine x_iconst d_N_differ_10 ic_0 ?_
    refine x_istore_n (L1 := [(0, .ref 0), (1, .int p1), (2, .int (0 : Int32))]) d_N_differ_11 rfl (Nat.le_of_ble_eq_true rfl) rfl rfl ?_
    refine x_iconst d_N_differ_12 ic_0 ?_
    refine x_istore_n (L1 := [(0, .ref 0), (1, .int p1), (2, .int (0 : Int32)), (3, .int (0 : Int32))]) d_N_differ_13 rfl (Nat.le_of_ble_eq_true rfl) rfl rfl ?_
    refine T_N_differ_14 (by omega)   F (0 : Int32) (0 : Int32) _ h
  · replace h := ite_t c3 h
    refine x_iconst d_N_differ_8 ic_m1 ?_
    obtain rfl := Option.some.inj h
    exact x_ret (r := some (.int (-1 : Int32))) d_N_differ_9 ⟨_, rfl, rfl⟩
/-! NinetyPlayersModel.differ -/
def b_M_differ_22 (F G : Nat) (S : St) (z1 : Int32) (rec : Int32 → Int32 → Option (Int32)) (w2 : Int32) (w3 : Int32) : Option (Int32) :=
  if (40 : Int32) ≤ w3 then some w2 else gd (inB (((41 : Int32) * z1) + w3) 123) (gd (inB w3 41) (if (S.1 116 (((41 : Int32) * z1) + w3).toNatClampNeg) = (S.1 100 w3.toNatClampNeg) then lt (w3 + 1) fun v10 => rec w2 v10 else lt (w2 ||| ((1 : Int32) <<< ((w3 - w3 / (10 : Int32) * (10 : Int32)) &&& 31))) fun v12 => lt (w3 + 1) fun v14 => rec v12 v14))
def fM_differ (F G : Nat) (S : St) (p1 : Int32) : Option (Int32) :=
  bd (fM_isBox F G S p1) fun v2 => if v2 = 0 then some (-1 : Int32) else gd (inB p1 3) (if (S.1 115 p1.toNatClampNeg) = 0 then some (-1 : Int32) else fx2 (b_M_differ_22 F G S p1) F (0 : Int32) (0 : Int32))
set_option maxRecDepth 100000 in
set_option maxHeartbeats 4000000 in
theorem T_M_differ_22 {X : Nat × (Nat → Int32)} {D F G : Nat} (hD : 1 ≤ D + 1) {S : St} {z1 : Int32} : ∀ (f : Nat) (w2 : Int32) (w3 : Int32) (res : Int32), fx2 (b_M_differ_22 F G S z1 ) f w2 w3 = some res → Ek X (D + 1) mM_differ 22 [(0, .ref 78), (1, .int z1), (2, .int w2), (3, .int w3)] [] S (some (.int res)) S := by
  refine fx2_ind ?_
  intro rec ih w2 w3 res h
  unfold b_M_differ_22 at h
  refine x_iload_n d_M_differ_22 rfl 3 rfl ?_
  refine x_bipush d_M_differ_23 bp_40 ?_
  refine x_icmp_ge (tgt := 63) d_M_differ_25 rfl (fun c6 => ?_) (fun c6 => ?_)
  · replace h := ite_t c6 h
    refine x_iload_n d_M_differ_63 rfl 2 rfl ?_
    obtain rfl := Option.some.inj h
    exact x_ret (r := some (.int w2)) d_M_differ_64 ⟨_, rfl, rfl⟩
  · replace h := ite_f c6 h
    refine x_aload_n d_M_differ_28 rfl 0 rfl ?_
    refine y_getR d_M_differ_29 fl_11_142 rfl kd_78 rr_78_79 ?_
    refine x_bipush d_M_differ_32 bp_41 ?_
    refine x_iload_n d_M_differ_34 rfl 1 rfl ?_
    refine x_imul d_M_differ_35 ?_
    refine x_iload_n d_M_differ_36 rfl 3 rfl ?_
    refine x_iadd d_M_differ_37 ?_
    obtain ⟨g7, h⟩ := gd_inv h
    refine y_iald d_M_differ_38 kd_116 g7 ?_
    refine x_aload_n d_M_differ_39 rfl 0 rfl ?_
    refine y_getR d_M_differ_40 fl_11_93 rfl kd_78 rr_78_58 ?_
    refine x_iload_n d_M_differ_43 rfl 3 rfl ?_
    obtain ⟨g8, h⟩ := gd_inv h
    refine y_iald d_M_differ_44 kd_100 g8 ?_
    refine x_icmp_eq (tgt := 57) d_M_differ_45 rfl (fun c9 => ?_) (fun c9 => ?_)
    · replace h := ite_t c9 h
      obtain ⟨v10, e11, h⟩ := lt_inv h
      refine y_iinc (L1 := [(0, .ref 78), (1, .int z1), (2, .int w2), (3, .int v10)]) e11 ic_1 d_M_differ_57 3 rfl (Nat.le_of_ble_eq_true rfl) rfl rfl ?_
      refine x_goto (tgt := 22) d_M_differ_60 rfl ?_
      exact ih w2 v10 _ h
    · replace h := ite_f c9 h
      refine x_iload_n d_M_differ_48 rfl 2 rfl ?_
      refine x_iconst d_M_differ_49 ic_1 ?_
      refine x_iload_n d_M_differ_50 rfl 3 rfl ?_
      refine x_bipush d_M_differ_51 bp_10 ?_
      refine x_irem d_M_differ_53 (by decide) ?_
      refine x_ishl d_M_differ_54 ?_
      refine x_ior d_M_differ_55 ?_
      obtain ⟨v12, e13, h⟩ := lt_inv h
      refine y_istore_n (L1 := [(0, .ref 78), (1, .int z1), (2, .int v12), (3, .int w3)]) e13 d_M_differ_56 rfl (Nat.le_of_ble_eq_true rfl) rfl rfl ?_
      obtain ⟨v14, e15, h⟩ := lt_inv h
      refine y_iinc (L1 := [(0, .ref 78), (1, .int z1), (2, .int v12), (3, .int v14)]) e15 ic_1 d_M_differ_57 3 rfl (Nat.le_of_ble_eq_true rfl) rfl rfl ?_
      refine x_goto (tgt := 22) d_M_differ_60 rfl ?_
      exact ih v12 v14 _ h
set_option maxRecDepth 100000 in
set_option maxHeartbeats 4000000 in
theorem c_M_differ {X : Nat × (Nat → Int32)} {D F G : Nat} (hD : 1 ≤ D) {S : St} {p1 : Int32} {res : Int32} (h : fM_differ F G S p1 = some res) : Ek X (D) mM_differ 0 [(0, .ref 78), (1, .int p1)] [] S (some (.int res)) S := by
  obtain ⟨D, rfl⟩ : ∃ E, D = E + 1 := ⟨D - 1, by omega⟩
  unfold fM_differ at h
  refine x_iload_n d_M_differ_0 rfl 1 rfl ?_
  obtain ⟨v2, q1, h⟩ := bd_inv h
  refine y_S1i (v := v2) (S1 := S) d_M_differ_1 ml_11_553 (Nat.le_of_ble_eq_true rfl) (Nat.le_of_ble_eq_true rfl) (c_M_isBox (by omega) q1) ?_
  refine x_if_eq (tgt := 16) d_M_differ_4 rfl (fun c3 => ?_) (fun c3 => ?_)
  · replace h := ite_t c3 h
    refine x_iconst d_M_differ_16 ic_m1 ?_
    obtain rfl := Option.some.inj h
    exact x_ret (r := some (.int (-1 : Int32))) d_M_differ_17 ⟨_, rfl, rfl⟩
  · replace h := ite_f c3 h
    refine x_aload_n d_M_differ_7 rfl 0 rfl ?_
    refine y_getR d_M_differ_8 fl_11_139 rfl kd_78 rr_78_78 ?_
    refine x_iload_n d_M_differ_11 rfl 1 rfl ?_
    obtain ⟨g4, h⟩ := gd_inv h
    refine y_zald d_M_differ_12 kd_115 g4 ?_
    refine x_if_ne (tgt := 18) d_M_differ_13 rfl (fun c5 => ?_) (fun c5 => ?_)
    · replace h := ite_f c5 h
      refine x_iconst d_M_differ_18 ic_0 ?_
      refine x_istore_n (L1 := [(0, .ref 78), (1, .int p1), (2, .int (0 : Int32))]) d_M_differ_19 rfl (Nat.le_of_ble_eq_true rfl) rfl rfl ?_
      refine x_iconst d_M_differ_20 ic_0 ?_
      refine x_istore_n (L1 := [(0, .ref 78), (1, .int p1), (2, .int (0 : Int32)), (3, .int (0 : Int32))]) d_M_differ_21 rfl (Nat.le_of_ble_eq_true rfl) rfl rfl ?_
      refine T_M_differ_22 (by omega)   F (0 : Int32) (0 : Int32) _ h
    · replace h := ite_t c5 h
      refine x_iconst d_M_differ_16 ic_m1 ?_
      obtain rfl := Option.some.inj h
      exact x_ret (r := some (.int (-1 : Int32))) d_M_differ_17 ⟨_, rfl, rfl⟩
/-! NinetyPlayers.aboutTheRest -/
def fN_aboutTheRest (F G : Nat) (S : St) (p1 : Int32) : Option (Int32) :=
  if p1 = 8 then some (S.1 51 0) else if p1 = 9 then some ((S.1 51 1) - (S.1 51 0)) else if p1 = 10 then some (S.1 69 0) else if p1 = 11 then some (S.1 69 1) else if p1 = 12 then some (S.1 2 0) else if p1 = 13 then gd (isSc S.2.2.1) (some (S.1 (S.2.2.1 + 9) 0)) else if p1 = 14 then some (S.1 0 12) else if p1 = 15 then bd (fN_givenSet F G S) fun v11 => bd (fJ_bitCount F G S v11) fun v13 => some v13 else some (-1 : Int32)
set_option maxRecDepth 100000 in
set_option maxHeartbeats 4000000 in
theorem c_N_aboutTheRest {X : Nat × (Nat → Int32)} {D F G : Nat} (hD : 2 ≤ D) {S : St} {p1 : Int32} {res : Int32} (h : fN_aboutTheRest F G S p1 = some res) : Ek X (D) mN_aboutTheRest 0 [(0, .ref 0), (1, .int p1)] [] S (some (.int res)) S := by
  obtain ⟨D, rfl⟩ : ∃ E, D = E + 1 := ⟨D - 1, by omega⟩
  unfold fN_aboutTheRest at h
  refine x_iload_n d_N_aboutTheRest_0 rfl 1 rfl ?_
  by_cases c1 : p1 = 8
  · replace h := ite_t c1 h
    refine x_tabC (tgt := 48) 8 d_N_aboutTheRest_1 (by rw [c1]; rfl) (by decide) rfl rfl ?_
    refine x_aload_n d_N_aboutTheRest_48 rfl 0 rfl ?_
    refine y_getR d_N_aboutTheRest_49 fl_0_42 rfl kd_0 rr_0_5 ?_
    refine y_getI d_N_aboutTheRest_52 fl_0_358 rfl kd_51 ?_
    obtain rfl := Option.some.inj h
    exact x_ret (r := some (.int (S.1 51 0))) d_N_aboutTheRest_55 ⟨_, rfl, rfl⟩
  replace h := ite_f c1 h
  by_cases c2 : p1 = 9
  · replace h := ite_t c2 h
    refine x_tabC (tgt := 56) 9 d_N_aboutTheRest_1 (by rw [c2]; rfl) (by decide) rfl rfl ?_
    refine x_aload_n d_N_aboutTheRest_56 rfl 0 rfl ?_
    refine y_getR d_N_aboutTheRest_57 fl_0_42 rfl kd_0 rr_0_5 ?_
    refine y_getI d_N_aboutTheRest_60 fl_0_361 rfl kd_51 ?_
    refine x_aload_n d_N_aboutTheRest_63 rfl 0 rfl ?_
    refine y_getR d_N_aboutTheRest_64 fl_0_42 rfl kd_0 rr_0_5 ?_
    refine y_getI d_N_aboutTheRest_67 fl_0_358 rfl kd_51 ?_
    refine x_isub d_N_aboutTheRest_70 ?_
    obtain rfl := Option.some.inj h
    exact x_ret (r := some (.int ((S.1 51 1) - (S.1 51 0)))) d_N_aboutTheRest_71 ⟨_, rfl, rfl⟩
  replace h := ite_f c2 h
  by_cases c3 : p1 = 10
  · replace h := ite_t c3 h
    refine x_tabC (tgt := 72) 10 d_N_aboutTheRest_1 (by rw [c3]; rfl) (by decide) rfl rfl ?_
    refine x_aload_n d_N_aboutTheRest_72 rfl 0 rfl ?_
    refine y_getR d_N_aboutTheRest_73 fl_0_73 rfl kd_0 rr_0_10 ?_
    refine y_getI d_N_aboutTheRest_76 fl_0_363 rfl kd_69 ?_
    obtain rfl := Option.some.inj h
    exact x_ret (r := some (.int (S.1 69 0))) d_N_aboutTheRest_79 ⟨_, rfl, rfl⟩
  replace h := ite_f c3 h
  by_cases c4 : p1 = 11
  · replace h := ite_t c4 h
    refine x_tabC (tgt := 80) 11 d_N_aboutTheRest_1 (by rw [c4]; rfl) (by decide) rfl rfl ?_
    refine x_aload_n d_N_aboutTheRest_80 rfl 0 rfl ?_
    refine y_getR d_N_aboutTheRest_81 fl_0_73 rfl kd_0 rr_0_10 ?_
    refine y_getI d_N_aboutTheRest_84 fl_0_364 rfl kd_69 ?_
    obtain rfl := Option.some.inj h
    exact x_ret (r := some (.int (S.1 69 1))) d_N_aboutTheRest_87 ⟨_, rfl, rfl⟩
  replace h := ite_f c4 h
  by_cases c5 : p1 = 12
  · replace h := ite_t c5 h
    refine x_tabC (tgt := 88) 12 d_N_aboutTheRest_1 (by rw [c5]; rfl) (by decide) rfl rfl ?_
    refine x_aload_n d_N_aboutTheRest_88 rfl 0 rfl ?_
    refine y_getR d_N_aboutTheRest_89 fl_0_20 rfl kd_0 rr_0_1 ?_
    refine y_getI d_N_aboutTheRest_92 fl_0_84 rfl kd_2 ?_
    obtain rfl := Option.some.inj h
    exact x_ret (r := some (.int (S.1 2 0))) d_N_aboutTheRest_95 ⟨_, rfl, rfl⟩
  replace h := ite_f c5 h
  by_cases c6 : p1 = 13
  · replace h := ite_t c6 h
    refine x_tabC (tgt := 96) 13 d_N_aboutTheRest_1 (by rw [c6]; rfl) (by decide) rfl rfl ?_
    refine x_aload_n d_N_aboutTheRest_96 rfl 0 rfl ?_
    refine y_getR d_N_aboutTheRest_97 fl_0_24 rfl kd_0 rr_told ?_
    obtain ⟨g7, h⟩ := gd_inv h
    refine y_getR d_N_aboutTheRest_100 fl_0_216 rfl (ksSc g7) (rrSc_15 g7) ?_
    refine y_getI d_N_aboutTheRest_103 fl_0_367 rfl (ksFo (isFo_of g7)) ?_
    obtain rfl := Option.some.inj h
    exact x_ret (r := some (.int (S.1 (S.2.2.1 + 9) 0))) d_N_aboutTheRest_106 ⟨_, rfl, rfl⟩
  replace h := ite_f c6 h
  by_cases c8 : p1 = 14
  · replace h := ite_t c8 h
    refine x_tabC (tgt := 107) 14 d_N_aboutTheRest_1 (by rw [c8]; rfl) (by decide) rfl rfl ?_
    refine x_aload_n d_N_aboutTheRest_107 rfl 0 rfl ?_
    refine y_getI d_N_aboutTheRest_108 fl_0_115 rfl kd_0 ?_
    obtain rfl := Option.some.inj h
    exact x_ret (r := some (.int (S.1 0 12))) d_N_aboutTheRest_111 ⟨_, rfl, rfl⟩
  replace h := ite_f c8 h
  by_cases c9 : p1 = 15
  · replace h := ite_t c9 h
    refine x_tabC (tgt := 112) 15 d_N_aboutTheRest_1 (by rw [c9]; rfl) (by decide) rfl rfl ?_
    refine x_aload_n d_N_aboutTheRest_112 rfl 0 rfl ?_
    obtain ⟨v11, q10, h⟩ := bd_inv h
    refine y_V0i (v := v11) (S1 := S) d_N_aboutTheRest_113 ml_0_166 kd_0 rfl (Nat.le_of_ble_eq_true rfl) (Nat.le_of_ble_eq_true rfl) (c_N_givenSet (by omega) q10) ?_
    obtain ⟨v13, q12, h⟩ := bd_inv h
    refine y_S1i (v := v13) (S1 := S) d_N_aboutTheRest_116 ml_0_211 (Nat.le_of_ble_eq_true rfl) (Nat.le_of_ble_eq_true rfl) (c_J_bitCount (by omega) q12) ?_
    obtain rfl := Option.some.inj h
    exact x_ret (r := some (.int v13)) d_N_aboutTheRest_119 ⟨_, rfl, rfl⟩
  replace h := ite_f c9 h
  refine x_tabD (tgt := 120) d_N_aboutTheRest_1 (by have := lv_neT c1 (show (8 : Int32).toInt = 8 from rfl); have := lv_neT c2 (show (9 : Int32).toInt = 9 from rfl); have := lv_neT c3 (show (10 : Int32).toInt = 10 from rfl); have := lv_neT c4 (show (11 : Int32).toInt = 11 from rfl); have := lv_neT c5 (show (12 : Int32).toInt = 12 from rfl); have := lv_neT c6 (show (13 : Int32).toInt = 13 from rfl); have := lv_neT c8 (show (14 : Int32).toInt = 14 from rfl); have := lv_neT c9 (show (15 : Int32).toInt = 15 from rfl); omega) rfl ?_
  refine x_iconst d_N_aboutTheRest_120 ic_m1 ?_
  obtain rfl := Option.some.inj h
  exact x_ret (r := some (.int (-1 : Int32))) d_N_aboutTheRest_121 ⟨_, rfl, rfl⟩
/-! NinetyPlayers.about -/
def fN_about (F G : Nat) (S : St) (p1 : Int32) : Option (Int32) :=
  if p1 = 0 then gd (isSc S.2.2.1) (some (S.1 S.2.2.1 6)) else if p1 = 1 then gd (isSc S.2.2.1) (some (S.1 S.2.2.1 5)) else if p1 = 2 then gd (isSc S.2.2.1) (some (S.1 S.2.2.1 0)) else if p1 = 3 then gd (isSc S.2.2.1) (some (S.1 S.2.2.1 1)) else if p1 = 4 then gd (isSc S.2.2.1) (some (S.1 S.2.2.1 2)) else if p1 = 5 then gd (isSc S.2.2.1) (some (S.1 S.2.2.1 3)) else if p1 = 6 then gd (isSc S.2.2.1) (some (S.1 S.2.2.1 4)) else if p1 = 7 then some (S.1 30 1) else bd (fN_aboutTheRest F G S p1) fun v17 => some v17
set_option maxRecDepth 100000 in
set_option maxHeartbeats 4000000 in
theorem c_N_about {X : Nat × (Nat → Int32)} {D F G : Nat} (hD : 3 ≤ D) {S : St} {p1 : Int32} {res : Int32} (h : fN_about F G S p1 = some res) : Ek X (D) mN_about 0 [(0, .ref 0), (1, .int p1)] [] S (some (.int res)) S := by
  obtain ⟨D, rfl⟩ : ∃ E, D = E + 1 := ⟨D - 1, by omega⟩
  unfold fN_about at h
  refine x_iload_n d_N_about_0 rfl 1 rfl ?_
  by_cases c1 : p1 = 0
  · replace h := ite_t c1 h
    refine x_tabC (tgt := 48) 0 d_N_about_1 (by rw [c1]; rfl) (by decide) rfl rfl ?_
    refine x_aload_n d_N_about_48 rfl 0 rfl ?_
    refine y_getR d_N_about_49 fl_0_24 rfl kd_0 rr_told ?_
    obtain ⟨g2, h⟩ := gd_inv h
    refine y_getI d_N_about_52 fl_0_122 rfl (ksSc g2) ?_
    obtain rfl := Option.some.inj h
    exact x_ret (r := some (.int (S.1 S.2.2.1 6))) d_N_about_55 ⟨_, rfl, rfl⟩
  replace h := ite_f c1 h
  by_cases c3 : p1 = 1
  · replace h := ite_t c3 h
    refine x_tabC (tgt := 56) 1 d_N_about_1 (by rw [c3]; rfl) (by decide) rfl rfl ?_
    refine x_aload_n d_N_about_56 rfl 0 rfl ?_
    refine y_getR d_N_about_57 fl_0_24 rfl kd_0 rr_told ?_
    obtain ⟨g4, h⟩ := gd_inv h
    refine y_getI d_N_about_60 fl_0_157 rfl (ksSc g4) ?_
    obtain rfl := Option.some.inj h
    exact x_ret (r := some (.int (S.1 S.2.2.1 5))) d_N_about_63 ⟨_, rfl, rfl⟩
  replace h := ite_f c3 h
  by_cases c5 : p1 = 2
  · replace h := ite_t c5 h
    refine x_tabC (tgt := 64) 2 d_N_about_1 (by rw [c5]; rfl) (by decide) rfl rfl ?_
    refine x_aload_n d_N_about_64 rfl 0 rfl ?_
    refine y_getR d_N_about_65 fl_0_24 rfl kd_0 rr_told ?_
    obtain ⟨g6, h⟩ := gd_inv h
    refine y_getI d_N_about_68 fl_0_198 rfl (ksSc g6) ?_
    obtain rfl := Option.some.inj h
    exact x_ret (r := some (.int (S.1 S.2.2.1 0))) d_N_about_71 ⟨_, rfl, rfl⟩
  replace h := ite_f c5 h
  by_cases c7 : p1 = 3
  · replace h := ite_t c7 h
    refine x_tabC (tgt := 72) 3 d_N_about_1 (by rw [c7]; rfl) (by decide) rfl rfl ?_
    refine x_aload_n d_N_about_72 rfl 0 rfl ?_
    refine y_getR d_N_about_73 fl_0_24 rfl kd_0 rr_told ?_
    obtain ⟨g8, h⟩ := gd_inv h
    refine y_getI d_N_about_76 fl_0_263 rfl (ksSc g8) ?_
    obtain rfl := Option.some.inj h
    exact x_ret (r := some (.int (S.1 S.2.2.1 1))) d_N_about_79 ⟨_, rfl, rfl⟩
  replace h := ite_f c7 h
  by_cases c9 : p1 = 4
  · replace h := ite_t c9 h
    refine x_tabC (tgt := 80) 4 d_N_about_1 (by rw [c9]; rfl) (by decide) rfl rfl ?_
    refine x_aload_n d_N_about_80 rfl 0 rfl ?_
    refine y_getR d_N_about_81 fl_0_24 rfl kd_0 rr_told ?_
    obtain ⟨g10, h⟩ := gd_inv h
    refine y_getI d_N_about_84 fl_0_260 rfl (ksSc g10) ?_
    obtain rfl := Option.some.inj h
    exact x_ret (r := some (.int (S.1 S.2.2.1 2))) d_N_about_87 ⟨_, rfl, rfl⟩
  replace h := ite_f c9 h
  by_cases c11 : p1 = 5
  · replace h := ite_t c11 h
    refine x_tabC (tgt := 88) 5 d_N_about_1 (by rw [c11]; rfl) (by decide) rfl rfl ?_
    refine x_aload_n d_N_about_88 rfl 0 rfl ?_
    refine y_getR d_N_about_89 fl_0_24 rfl kd_0 rr_told ?_
    obtain ⟨g12, h⟩ := gd_inv h
    refine y_getI d_N_about_92 fl_0_352 rfl (ksSc g12) ?_
    obtain rfl := Option.some.inj h
    exact x_ret (r := some (.int (S.1 S.2.2.1 3))) d_N_about_95 ⟨_, rfl, rfl⟩
  replace h := ite_f c11 h
  by_cases c13 : p1 = 6
  · replace h := ite_t c13 h
    refine x_tabC (tgt := 96) 6 d_N_about_1 (by rw [c13]; rfl) (by decide) rfl rfl ?_
    refine x_aload_n d_N_about_96 rfl 0 rfl ?_
    refine y_getR d_N_about_97 fl_0_24 rfl kd_0 rr_told ?_
    obtain ⟨g14, h⟩ := gd_inv h
    refine y_getI d_N_about_100 fl_0_314 rfl (ksSc g14) ?_
    obtain rfl := Option.some.inj h
    exact x_ret (r := some (.int (S.1 S.2.2.1 4))) d_N_about_103 ⟨_, rfl, rfl⟩
  replace h := ite_f c13 h
  by_cases c15 : p1 = 7
  · replace h := ite_t c15 h
    refine x_tabC (tgt := 104) 7 d_N_about_1 (by rw [c15]; rfl) (by decide) rfl rfl ?_
    refine x_aload_n d_N_about_104 rfl 0 rfl ?_
    refine y_getR d_N_about_105 fl_0_31 rfl kd_0 rr_0_3 ?_
    refine y_getI d_N_about_108 fl_0_247 rfl kd_30 ?_
    obtain rfl := Option.some.inj h
    exact x_ret (r := some (.int (S.1 30 1))) d_N_about_111 ⟨_, rfl, rfl⟩
  replace h := ite_f c15 h
  refine x_tabD (tgt := 112) d_N_about_1 (by have := lv_neT c1 (show (0 : Int32).toInt = 0 from rfl); have := lv_neT c3 (show (1 : Int32).toInt = 1 from rfl); have := lv_neT c5 (show (2 : Int32).toInt = 2 from rfl); have := lv_neT c7 (show (3 : Int32).toInt = 3 from rfl); have := lv_neT c9 (show (4 : Int32).toInt = 4 from rfl); have := lv_neT c11 (show (5 : Int32).toInt = 5 from rfl); have := lv_neT c13 (show (6 : Int32).toInt = 6 from rfl); have := lv_neT c15 (show (7 : Int32).toInt = 7 from rfl); omega) rfl ?_
  refine x_aload_n d_N_about_112 rfl 0 rfl ?_
  refine x_iload_n d_N_about_113 rfl 1 rfl ?_
  obtain ⟨v17, q16, h⟩ := bd_inv h
  refine y_V1i (v := v17) (S1 := S) d_N_about_114 ml_0_355 kd_0 rfl (Nat.le_of_ble_eq_true rfl) (Nat.le_of_ble_eq_true rfl) (c_N_aboutTheRest (by omega) q16) ?_
  obtain rfl := Option.some.inj h
  exact x_ret (r := some (.int v17)) d_N_about_117 ⟨_, rfl, rfl⟩
/-! NinetyPlayersModel.about -/
def fM_about (F G : Nat) (S : St) (p1 : Int32) : Option (Int32) :=
  if p1 = 0 then some (S.1 78 48) else if p1 = 1 then some (S.1 78 47) else if p1 = 2 then some (S.1 78 46) else if p1 = 3 then some (S.1 78 49) else if p1 = 4 then some (S.1 78 50) else if p1 = 5 then some (S.1 78 51) else if p1 = 6 then some (S.1 78 52) else if p1 = 7 then gd (inB (40 : Int32) 41) (some (S.1 100 (40 : Int32).toNatClampNeg)) else if p1 = 8 then some (S.1 78 63) else if p1 = 9 then some (S.1 78 64) else if p1 = 10 then some (S.1 78 74) else if p1 = 11 then some (S.1 78 75) else if p1 = 12 then some (S.1 78 1) else if p1 = 13 then some (S.1 78 21) else if p1 = 14 then some (S.1 78 68) else if p1 = 15 then bd (fM_played F G S) fun v19 => some v19 else some (-1 : Int32)
set_option maxRecDepth 100000 in
set_option maxHeartbeats 4000000 in
theorem c_M_about {X : Nat × (Nat → Int32)} {D F G : Nat} (hD : 2 ≤ D) {S : St} {p1 : Int32} {res : Int32} (h : fM_about F G S p1 = some res) : Ek X (D) mM_about 0 [(0, .ref 78), (1, .int p1)] [] S (some (.int res)) S := by
  obtain ⟨D, rfl⟩ : ∃ E, D = E + 1 := ⟨D - 1, by omega⟩
  unfold fM_about at h
  refine x_iload_n d_M_about_0 rfl 1 rfl ?_
  by_cases c1 : p1 = 0
  · replace h := ite_t c1 h
    refine x_tabC (tgt := 80) 0 d_M_about_1 (by rw [c1]; rfl) (by decide) rfl rfl ?_
    refine x_aload_n d_M_about_80 rfl 0 rfl ?_
    refine y_getI d_M_about_81 fl_11_322 rfl kd_78 ?_
    obtain rfl := Option.some.inj h
    exact x_ret (r := some (.int (S.1 78 48))) d_M_about_84 ⟨_, rfl, rfl⟩
  replace h := ite_f c1 h
  by_cases c2 : p1 = 1
  · replace h := ite_t c2 h
    refine x_tabC (tgt := 85) 1 d_M_about_1 (by rw [c2]; rfl) (by decide) rfl rfl ?_
    refine x_aload_n d_M_about_85 rfl 0 rfl ?_
    refine y_getI d_M_about_86 fl_11_405 rfl kd_78 ?_
    obtain rfl := Option.some.inj h
    exact x_ret (r := some (.int (S.1 78 47))) d_M_about_89 ⟨_, rfl, rfl⟩
  replace h := ite_f c2 h
  by_cases c3 : p1 = 2
  · replace h := ite_t c3 h
    refine x_tabC (tgt := 90) 2 d_M_about_1 (by rw [c3]; rfl) (by decide) rfl rfl ?_
    refine x_aload_n d_M_about_90 rfl 0 rfl ?_
    refine y_getI d_M_about_91 fl_11_78 rfl kd_78 ?_
    obtain rfl := Option.some.inj h
    exact x_ret (r := some (.int (S.1 78 46))) d_M_about_94 ⟨_, rfl, rfl⟩
  replace h := ite_f c3 h
  by_cases c4 : p1 = 3
  · replace h := ite_t c4 h
    refine x_tabC (tgt := 95) 3 d_M_about_1 (by rw [c4]; rfl) (by decide) rfl rfl ?_
    refine x_aload_n d_M_about_95 rfl 0 rfl ?_
    refine y_getI d_M_about_96 fl_11_81 rfl kd_78 ?_
    obtain rfl := Option.some.inj h
    exact x_ret (r := some (.int (S.1 78 49))) d_M_about_99 ⟨_, rfl, rfl⟩
  replace h := ite_f c4 h
  by_cases c5 : p1 = 4
  · replace h := ite_t c5 h
    refine x_tabC (tgt := 100) 4 d_M_about_1 (by rw [c5]; rfl) (by decide) rfl rfl ?_
    refine x_aload_n d_M_about_100 rfl 0 rfl ?_
    refine y_getI d_M_about_101 fl_11_84 rfl kd_78 ?_
    obtain rfl := Option.some.inj h
    exact x_ret (r := some (.int (S.1 78 50))) d_M_about_104 ⟨_, rfl, rfl⟩
  replace h := ite_f c5 h
  by_cases c6 : p1 = 5
  · replace h := ite_t c6 h
    refine x_tabC (tgt := 105) 5 d_M_about_1 (by rw [c6]; rfl) (by decide) rfl rfl ?_
    refine x_aload_n d_M_about_105 rfl 0 rfl ?_
    refine y_getI d_M_about_106 fl_11_87 rfl kd_78 ?_
    obtain rfl := Option.some.inj h
    exact x_ret (r := some (.int (S.1 78 51))) d_M_about_109 ⟨_, rfl, rfl⟩
  replace h := ite_f c6 h
  by_cases c7 : p1 = 6
  · replace h := ite_t c7 h
    refine x_tabC (tgt := 110) 6 d_M_about_1 (by rw [c7]; rfl) (by decide) rfl rfl ?_
    refine x_aload_n d_M_about_110 rfl 0 rfl ?_
    refine y_getI d_M_about_111 fl_11_90 rfl kd_78 ?_
    obtain rfl := Option.some.inj h
    exact x_ret (r := some (.int (S.1 78 52))) d_M_about_114 ⟨_, rfl, rfl⟩
  replace h := ite_f c7 h
  by_cases c8 : p1 = 7
  · replace h := ite_t c8 h
    refine x_tabC (tgt := 115) 7 d_M_about_1 (by rw [c8]; rfl) (by decide) rfl rfl ?_
    refine x_aload_n d_M_about_115 rfl 0 rfl ?_
    refine y_getR d_M_about_116 fl_11_93 rfl kd_78 rr_78_58 ?_
    refine x_bipush d_M_about_119 bp_40 ?_
    obtain ⟨g9, h⟩ := gd_inv h
    refine y_iald d_M_about_121 kd_100 g9 ?_
    obtain rfl := Option.some.inj h
    exact x_ret (r := some (.int (S.1 100 (40 : Int32).toNatClampNeg))) d_M_about_122 ⟨_, rfl, rfl⟩
  replace h := ite_f c8 h
  by_cases c10 : p1 = 8
  · replace h := ite_t c10 h
    refine x_tabC (tgt := 123) 8 d_M_about_1 (by rw [c10]; rfl) (by decide) rfl rfl ?_
    refine x_aload_n d_M_about_123 rfl 0 rfl ?_
    refine y_getI d_M_about_124 fl_11_417 rfl kd_78 ?_
    obtain rfl := Option.some.inj h
    exact x_ret (r := some (.int (S.1 78 63))) d_M_about_127 ⟨_, rfl, rfl⟩
  replace h := ite_f c10 h
  by_cases c11 : p1 = 9
  · replace h := ite_t c11 h
    refine x_tabC (tgt := 128) 9 d_M_about_1 (by rw [c11]; rfl) (by decide) rfl rfl ?_
    refine x_aload_n d_M_about_128 rfl 0 rfl ?_
    refine y_getI d_M_about_129 fl_11_420 rfl kd_78 ?_
    obtain rfl := Option.some.inj h
    exact x_ret (r := some (.int (S.1 78 64))) d_M_about_132 ⟨_, rfl, rfl⟩
  replace h := ite_f c11 h
  by_cases c12 : p1 = 10
  · replace h := ite_t c12 h
    refine x_tabC (tgt := 133) 10 d_M_about_1 (by rw [c12]; rfl) (by decide) rfl rfl ?_
    refine x_aload_n d_M_about_133 rfl 0 rfl ?_
    refine y_getI d_M_about_134 fl_11_423 rfl kd_78 ?_
    obtain rfl := Option.some.inj h
    exact x_ret (r := some (.int (S.1 78 74))) d_M_about_137 ⟨_, rfl, rfl⟩
  replace h := ite_f c12 h
  by_cases c13 : p1 = 11
  · replace h := ite_t c13 h
    refine x_tabC (tgt := 138) 11 d_M_about_1 (by rw [c13]; rfl) (by decide) rfl rfl ?_
    refine x_aload_n d_M_about_138 rfl 0 rfl ?_
    refine y_getI d_M_about_139 fl_11_539 rfl kd_78 ?_
    obtain rfl := Option.some.inj h
    exact x_ret (r := some (.int (S.1 78 75))) d_M_about_142 ⟨_, rfl, rfl⟩
  replace h := ite_f c13 h
  by_cases c14 : p1 = 12
  · replace h := ite_t c14 h
    refine x_tabC (tgt := 143) 12 d_M_about_1 (by rw [c14]; rfl) (by decide) rfl rfl ?_
    refine x_aload_n d_M_about_143 rfl 0 rfl ?_
    refine y_getI d_M_about_144 fl_11_145 rfl kd_78 ?_
    obtain rfl := Option.some.inj h
    exact x_ret (r := some (.int (S.1 78 1))) d_M_about_147 ⟨_, rfl, rfl⟩
  replace h := ite_f c14 h
  by_cases c15 : p1 = 13
  · replace h := ite_t c15 h
    refine x_tabC (tgt := 148) 13 d_M_about_1 (by rw [c15]; rfl) (by decide) rfl rfl ?_
    refine x_aload_n d_M_about_148 rfl 0 rfl ?_
    refine y_getI d_M_about_149 fl_11_408 rfl kd_78 ?_
    obtain rfl := Option.some.inj h
    exact x_ret (r := some (.int (S.1 78 21))) d_M_about_152 ⟨_, rfl, rfl⟩
  replace h := ite_f c15 h
  by_cases c16 : p1 = 14
  · replace h := ite_t c16 h
    refine x_tabC (tgt := 153) 14 d_M_about_1 (by rw [c16]; rfl) (by decide) rfl rfl ?_
    refine x_aload_n d_M_about_153 rfl 0 rfl ?_
    refine y_getI d_M_about_154 fl_11_426 rfl kd_78 ?_
    obtain rfl := Option.some.inj h
    exact x_ret (r := some (.int (S.1 78 68))) d_M_about_157 ⟨_, rfl, rfl⟩
  replace h := ite_f c16 h
  by_cases c17 : p1 = 15
  · replace h := ite_t c17 h
    refine x_tabC (tgt := 158) 15 d_M_about_1 (by rw [c17]; rfl) (by decide) rfl rfl ?_
    refine x_aload_n d_M_about_158 rfl 0 rfl ?_
    obtain ⟨v19, q18, h⟩ := bd_inv h
    refine y_V0i (v := v19) (S1 := S) d_M_about_159 ml_11_556 kd_78 rfl (Nat.le_of_ble_eq_true rfl) (Nat.le_of_ble_eq_true rfl) (c_M_played (by omega) q18) ?_
    obtain rfl := Option.some.inj h
    exact x_ret (r := some (.int v19)) d_M_about_162 ⟨_, rfl, rfl⟩
  replace h := ite_f c17 h
  refine x_tabD (tgt := 163) d_M_about_1 (by have := lv_neT c1 (show (0 : Int32).toInt = 0 from rfl); have := lv_neT c2 (show (1 : Int32).toInt = 1 from rfl); have := lv_neT c3 (show (2 : Int32).toInt = 2 from rfl); have := lv_neT c4 (show (3 : Int32).toInt = 3 from rfl); have := lv_neT c5 (show (4 : Int32).toInt = 4 from rfl); have := lv_neT c6 (show (5 : Int32).toInt = 5 from rfl); have := lv_neT c7 (show (6 : Int32).toInt = 6 from rfl); have := lv_neT c8 (show (7 : Int32).toInt = 7 from rfl); have := lv_neT c10 (show (8 : Int32).toInt = 8 from rfl); have := lv_neT c11 (show (9 : Int32).toInt = 9 from rfl); have := lv_neT c12 (show (10 : Int32).toInt = 10 from rfl); have := lv_neT c13 (show (11 : Int32).toInt = 11 from rfl); have := lv_neT c14 (show (12 : Int32).toInt = 12 from rfl); have := lv_neT c15 (show (13 : Int32).toInt = 13 from rfl); have := lv_neT c16 (show (14 : Int32).toInt = 14 from rfl); have := lv_neT c17 (show (15 : Int32).toInt = 15 from rfl); omega) rfl ?_
  refine x_iconst d_M_about_163 ic_m1 ?_
  obtain rfl := Option.some.inj h
  exact x_ret (r := some (.int (-1 : Int32))) d_M_about_164 ⟨_, rfl, rfl⟩
/-! NinetyPlayersLaw.law -/
def j_Z_law_1171 (F G : Nat) (X : Nat × (Nat → Int32)) (rec : Int32 → St → Option (Int32 × St)) (S : St) (y3 : Int32) (s1 : Int32) (s2 : Int32) (s3 : Int32) : Option (Int32 × St) :=
  bd2 (fN_heard F G S s1 s2 s3) fun v525 S526 => gd (inB (y3 + (1 : Int32)) X.1) (gd (inB (y3 + (2 : Int32)) X.1) (gd (inB (y3 + (3 : Int32)) X.1) (if (X.2 (y3 + (3 : Int32)).toNatClampNeg) = 0 then bd2 (fM_heard F G S526 (X.2 (y3 + (1 : Int32)).toNatClampNeg) (X.2 (y3 + (2 : Int32)).toNatClampNeg) (0 : Int32)) fun v532 S533 => lt (y3 + 6) fun v534 => rec v534 S533 else bd2 (fM_heard F G S526 (X.2 (y3 + (1 : Int32)).toNatClampNeg) (X.2 (y3 + (2 : Int32)).toNatClampNeg) (1 : Int32)) fun v537 S538 => lt (y3 + 6) fun v539 => rec v539 S538)))
def b_Z_law_18 (F G : Nat) (X : Nat × (Nat → Int32)) (rec : Int32 → St → Option (Int32 × St)) (w3 : Int32) (S : St) : Option (Int32 × St) :=
  if ((Int32.ofNat X.1) - (6 : Int32)) < w3 then some ((1 : Int32), S) else gd (inB w3 X.1) (if ((X.2 w3.toNatClampNeg) &&& (63 : Int32)) = 0 then gd (inB (w3 + (1 : Int32)) X.1) (gd (inB (w3 + (2 : Int32)) X.1) (gd (inB (w3 + (3 : Int32)) X.1) (gd (inB (w3 + (4 : Int32)) X.1) (gd (inB (w3 + (5 : Int32)) X.1) (bd2 (fN_feed F G S (X.2 (w3 + (1 : Int32)).toNatClampNeg) (X.2 (w3 + (2 : Int32)).toNatClampNeg) (X.2 (w3 + (3 : Int32)).toNatClampNeg) (X.2 (w3 + (4 : Int32)).toNatClampNeg) (X.2 (w3 + (5 : Int32)).toNatClampNeg)) fun v10 S11 => gd (inB (w3 + (1 : Int32)) X.1) (gd (inB (w3 + (2 : Int32)) X.1) (gd (inB (w3 + (3 : Int32)) X.1) (gd (inB (w3 + (4 : Int32)) X.1) (gd (inB (w3 + (5 : Int32)) X.1) (bd2 (fM_feed F G S11 (X.2 (w3 + (1 : Int32)).toNatClampNeg) (X.2 (w3 + (2 : Int32)).toNatClampNeg) (X.2 (w3 + (3 : Int32)).toNatClampNeg) (X.2 (w3 + (4 : Int32)).toNatClampNeg) (X.2 (w3 + (5 : Int32)).toNatClampNeg)) fun v18 S19 => lt (w3 + 6) fun v20 => rec v20 S19)))))))))) else if ((X.2 w3.toNatClampNeg) &&& (63 : Int32)) = 1 then gd (inB (w3 + (1 : Int32)) X.1) (bd2 (fN_end F G S (X.2 (w3 + (1 : Int32)).toNatClampNeg)) fun v25 S26 => gd (inB (w3 + (1 : Int32)) X.1) (bd2 (fM_end F G S26 (X.2 (w3 + (1 : Int32)).toNatClampNeg)) fun v29 S30 => lt (w3 + 6) fun v31 => rec v31 S30)) else if ((X.2 w3.toNatClampNeg) &&& (63 : Int32)) = 2 then bd2 (fN_score F G S) fun v35 S36 => bd2 (fM_score F G S36) fun v38 S39 => lt (w3 + 6) fun v40 => rec v40 S39 else if ((X.2 w3.toNatClampNeg) &&& (63 : Int32)) = 3 then gd (inB (w3 + (1 : Int32)) X.1) (bd (fN_fault F G S (X.2 (w3 + (1 : Int32)).toNatClampNeg)) fun v45 => gd (inB (w3 + (1 : Int32)) X.1) (bd (fM_fault F G S (X.2 (w3 + (1 : Int32)).toNatClampNeg)) fun v48 => lt (w3 + 6) fun v49 => rec v49 S)) else if ((X.2 w3.toNatClampNeg) &&& (63 : Int32)) = 4 then gd (inB (w3 + (1 : Int32)) X.1) (gd (inB (w3 + (2 : Int32)) X.1) (bd2 (fN_note F G S (X.2 (w3 + (1 : Int32)).toNatClampNeg) (X.2 (w3 + (2 : Int32)).toNatClampNeg)) fun v55 S56 => gd (inB (w3 + (1 : Int32)) X.1) (gd (inB (w3 + (2 : Int32)) X.1) (bd2 (fM_note F G S56 (X.2 (w3 + (1 : Int32)).toNatClampNeg) (X.2 (w3 + (2 : Int32)).toNatClampNeg)) fun v60 S61 => lt (w3 + 6) fun v62 => rec v62 S61)))) else if ((X.2 w3.toNatClampNeg) &&& (63 : Int32)) = 5 then gd (inB (w3 + (1 : Int32)) X.1) (gd (inB (w3 + (2 : Int32)) X.1) (bd (fN_part F G S (X.2 (w3 + (1 : Int32)).toNatClampNeg) (X.2 (w3 + (2 : Int32)).toNatClampNeg)) fun v68 => gd (inB (w3 + (1 : Int32)) X.1) (gd (inB (w3 + (2 : Int32)) X.1) (bd2 (fM_part F G S (X.2 (w3 + (1 : Int32)).toNatClampNeg) (X.2 (w3 + (2 : Int32)).toNatClampNeg)) fun v72 S73 => lt (w3 + 6) fun v74 => rec v74 S73)))) else if ((X.2 w3.toNatClampNeg) &&& (63 : Int32)) = 6 then gd (inB (w3 + (1 : Int32)) X.1) (gd (inB (w3 + (2 : Int32)) X.1) (bd2 (fN_held F G S (X.2 (w3 + (1 : Int32)).toNatClampNeg) (X.2 (w3 + (2 : Int32)).toNatClampNeg)) fun v80 S81 => gd (inB (w3 + (1 : Int32)) X.1) (gd (inB (w3 + (2 : Int32)) X.1) (bd2 (fM_held F G S81 (X.2 (w3 + (1 : Int32)).toNatClampNeg) (X.2 (w3 + (2 : Int32)).toNatClampNeg)) fun v85 S86 => lt (w3 + 6) fun v87 => rec v87 S86)))) else if ((X.2 w3.toNatClampNeg) &&& (63 : Int32)) = 7 then gd (inB (w3 + (1 : Int32)) X.1) (bd2 (fN_sounds F G S (X.2 (w3 + (1 : Int32)).toNatClampNeg)) fun v92 S93 => gd (inB (w3 + (1 : Int32)) X.1) (bd2 (fM_sounds F G S93 (X.2 (w3 + (1 : Int32)).toNatClampNeg)) fun v96 S97 => lt (w3 + 6) fun v98 => rec v98 S97)) else if ((X.2 w3.toNatClampNeg) &&& (63 : Int32)) = 8 then gd (inB (w3 + (1 : Int32)) X.1) (bd2 (fN_clash F G S (X.2 (w3 + (1 : Int32)).toNatClampNeg)) fun v103 S104 => gd (inB (w3 + (1 : Int32)) X.1) (bd2 (fM_clash F G S104 (X.2 (w3 + (1 : Int32)).toNatClampNeg)) fun v107 S108 => lt (w3 + 6) fun v109 => rec v109 S108)) else if ((X.2 w3.toNatClampNeg) &&& (63 : Int32)) = 9 then gd (inB (w3 + (1 : Int32)) X.1) (gd (inB (w3 + (2 : Int32)) X.1) (bd2 (fN_give F G S (X.2 (w3 + (1 : Int32)).toNatClampNeg) (X.2 (w3 + (2 : Int32)).toNatClampNeg)) fun v115 S116 => gd (inB (w3 + (1 : Int32)) X.1) (gd (inB (w3 + (2 : Int32)) X.1) (bd2 (fM_give F G S116 (X.2 (w3 + (1 : Int32)).toNatClampNeg) (X.2 (w3 + (2 : Int32)).toNatClampNeg)) fun v120 S121 => lt (w3 + 6) fun v122 => rec v122 S121)))) else if ((X.2 w3.toNatClampNeg) &&& (63 : Int32)) = 10 then gd (inB (w3 + (1 : Int32)) X.1) (gd (inB (w3 + (2 : Int32)) X.1) (bd2 (fN_shift F G S (X.2 (w3 + (1 : Int32)).toNatClampNeg) (X.2 (w3 + (2 : Int32)).toNatClampNeg)) fun v128 S129 => gd (inB (w3 + (1 : Int32)) X.1) (gd (inB (w3 + (2 : Int32)) X.1) (bd2 (fM_shift F G S129 (X.2 (w3 + (1 : Int32)).toNatClampNeg) (X.2 (w3 + (2 : Int32)).toNatClampNeg)) fun v133 S134 => lt (w3 + 6) fun v135 => rec v135 S134)))) else if ((X.2 w3.toNatClampNeg) &&& (63 : Int32)) = 11 then gd (inB (w3 + (1 : Int32)) X.1) (gd (inB (w3 + (2 : Int32)) X.1) (bd2 (fN_louder F G S (X.2 (w3 + (1 : Int32)).toNatClampNeg) (X.2 (w3 + (2 : Int32)).toNatClampNeg)) fun v141 S142 => gd (inB (w3 + (1 : Int32)) X.1) (gd (inB (w3 + (2 : Int32)) X.1) (bd2 (fM_louder F G S142 (X.2 (w3 + (1 : Int32)).toNatClampNeg) (X.2 (w3 + (2 : Int32)).toNatClampNeg)) fun v146 S147 => lt (w3 + 6) fun v148 => rec v148 S147)))) else if ((X.2 w3.toNatClampNeg) &&& (63 : Int32)) = 12 then gd (inB (w3 + (1 : Int32)) X.1) (gd (inB (w3 + (2 : Int32)) X.1) (bd2 (fN_last F G S (X.2 (w3 + (1 : Int32)).toNatClampNeg) (X.2 (w3 + (2 : Int32)).toNatClampNeg)) fun v154 S155 => gd (inB (w3 + (1 : Int32)) X.1) (gd (inB (w3 + (2 : Int32)) X.1) (bd2 (fM_last F G S155 (X.2 (w3 + (1 : Int32)).toNatClampNeg) (X.2 (w3 + (2 : Int32)).toNatClampNeg)) fun v159 S160 => lt (w3 + 6) fun v161 => rec v161 S160)))) else if ((X.2 w3.toNatClampNeg) &&& (63 : Int32)) = 13 then gd (inB (w3 + (1 : Int32)) X.1) (bd2 (fN_pedal F G S (X.2 (w3 + (1 : Int32)).toNatClampNeg)) fun v166 S167 => gd (inB (w3 + (1 : Int32)) X.1) (bd2 (fM_pedal F G S167 (X.2 (w3 + (1 : Int32)).toNatClampNeg)) fun v170 S171 => lt (w3 + 6) fun v172 => rec v172 S171)) else if ((X.2 w3.toNatClampNeg) &&& (63 : Int32)) = 14 then bd2 (fN_undo F G S) fun v176 S177 => bd2 (fM_undo F G S177) fun v179 S180 => lt (w3 + 6) fun v181 => rec v181 S180 else if ((X.2 w3.toNatClampNeg) &&& (63 : Int32)) = 15 then bd2 (fN_redo F G S) fun v185 S186 => bd2 (fM_redo F G S186) fun v188 S189 => lt (w3 + 6) fun v190 => rec v190 S189 else if ((X.2 w3.toNatClampNeg) &&& (63 : Int32)) = 16 then bd2 (fN_clashes F G S) fun v194 S195 => bd2 (fM_clashes F G S195) fun v197 S198 => lt (w3 + 6) fun v199 => rec v199 S198 else if ((X.2 w3.toNatClampNeg) &&& (63 : Int32)) = 17 then bd2 (fN_loss F G S) fun v203 S204 => bd2 (fM_loss F G S204) fun v206 S207 => lt (w3 + 6) fun v208 => rec v208 S207 else if ((X.2 w3.toNatClampNeg) &&& (63 : Int32)) = 18 then gd (inB (w3 + (1 : Int32)) X.1) (bd2 (fN_version F G S (X.2 (w3 + (1 : Int32)).toNatClampNeg)) fun v213 S214 => gd (inB (w3 + (1 : Int32)) X.1) (bd2 (fM_version F G S214 (X.2 (w3 + (1 : Int32)).toNatClampNeg)) fun v217 S218 => lt (w3 + 6) fun v219 => rec v219 S218)) else if ((X.2 w3.toNatClampNeg) &&& (63 : Int32)) = 19 then gd (inB (w3 + (1 : Int32)) X.1) (gd (inB (w3 + (2 : Int32)) X.1) (bd2 (fN_child F G S (X.2 (w3 + (1 : Int32)).toNatClampNeg) (X.2 (w3 + (2 : Int32)).toNatClampNeg)) fun v225 S226 => gd (inB (w3 + (1 : Int32)) X.1) (gd (inB (w3 + (2 : Int32)) X.1) (bd2 (fM_child F G S226 (X.2 (w3 + (1 : Int32)).toNatClampNeg) (X.2 (w3 + (2 : Int32)).toNatClampNeg)) fun v230 S231 => if v225 = v230 then lt (w3 + 6) fun v233 => rec v233 S231 else some ((0 : Int32), S231))))) else if ((X.2 w3.toNatClampNeg) &&& (63 : Int32)) = 20 then gd (inB (w3 + (1 : Int32)) X.1) (gd (inB (w3 + (2 : Int32)) X.1) (bd2 (fN_forbids F G S (X.2 (w3 + (1 : Int32)).toNatClampNeg) (X.2 (w3 + (2 : Int32)).toNatClampNeg)) fun v239 S240 => gd (inB (w3 + (1 : Int32)) X.1) (gd (inB (w3 + (2 : Int32)) X.1) (bd2 (fM_forbids F G S240 (X.2 (w3 + (1 : Int32)).toNatClampNeg) (X.2 (w3 + (2 : Int32)).toNatClampNeg)) fun v244 S245 => lt (w3 + 6) fun v246 => rec v246 S245)))) else if ((X.2 w3.toNatClampNeg) &&& (63 : Int32)) = 21 then gd (inB (w3 + (1 : Int32)) X.1) (gd (inB (w3 + (2 : Int32)) X.1) (gd (inB (w3 + (3 : Int32)) X.1) (bd2 (fN_giveway F G S (X.2 (w3 + (1 : Int32)).toNatClampNeg) (X.2 (w3 + (2 : Int32)).toNatClampNeg) (X.2 (w3 + (3 : Int32)).toNatClampNeg)) fun v253 S254 => gd (inB (w3 + (1 : Int32)) X.1) (gd (inB (w3 + (2 : Int32)) X.1) (gd (inB (w3 + (3 : Int32)) X.1) (bd2 (fM_giveway F G S254 (X.2 (w3 + (1 : Int32)).toNatClampNeg) (X.2 (w3 + (2 : Int32)).toNatClampNeg) (X.2 (w3 + (3 : Int32)).toNatClampNeg)) fun v259 S260 => lt (w3 + 6) fun v261 => rec v261 S260)))))) else if ((X.2 w3.toNatClampNeg) &&& (63 : Int32)) = 22 then gd (inB (w3 + (1 : Int32)) X.1) (gd (inB (w3 + (2 : Int32)) X.1) (bd2 (fN_letin F G S (X.2 (w3 + (1 : Int32)).toNatClampNeg) (X.2 (w3 + (2 : Int32)).toNatClampNeg)) fun v267 S268 => gd (inB (w3 + (1 : Int32)) X.1) (gd (inB (w3 + (2 : Int32)) X.1) (bd2 (fM_letin F G S268 (X.2 (w3 + (1 : Int32)).toNatClampNeg) (X.2 (w3 + (2 : Int32)).toNatClampNeg)) fun v272 S273 => lt (w3 + 6) fun v274 => rec v274 S273)))) else if ((X.2 w3.toNatClampNeg) &&& (63 : Int32)) = 23 then gd (inB (w3 + (1 : Int32)) X.1) (bd2 (fN_pedals F G S (X.2 (w3 + (1 : Int32)).toNatClampNeg)) fun v279 S280 => gd (inB (w3 + (1 : Int32)) X.1) (bd2 (fM_pedals F G S280 (X.2 (w3 + (1 : Int32)).toNatClampNeg)) fun v283 S284 => lt (w3 + 6) fun v285 => rec v285 S284)) else if ((X.2 w3.toNatClampNeg) &&& (63 : Int32)) = 24 then gd (inB (w3 + (1 : Int32)) X.1) (bd2 (fN_spread F G S (X.2 (w3 + (1 : Int32)).toNatClampNeg)) fun v290 S291 => gd (inB (w3 + (1 : Int32)) X.1) (bd2 (fM_spread F G S291 (X.2 (w3 + (1 : Int32)).toNatClampNeg)) fun v294 S295 => lt (w3 + 6) fun v296 => rec v296 S295)) else if ((X.2 w3.toNatClampNeg) &&& (63 : Int32)) = 25 then gd (inB (w3 + (1 : Int32)) X.1) (bd2 (fN_leaps F G S (X.2 (w3 + (1 : Int32)).toNatClampNeg)) fun v301 S302 => gd (inB (w3 + (1 : Int32)) X.1) (bd2 (fM_leaps F G S302 (X.2 (w3 + (1 : Int32)).toNatClampNeg)) fun v305 S306 => lt (w3 + 6) fun v307 => rec v307 S306)) else if ((X.2 w3.toNatClampNeg) &&& (63 : Int32)) = 26 then bd2 (fN_blur F G S) fun v311 S312 => bd2 (fM_blur F G S312) fun v314 S315 => lt (w3 + 6) fun v316 => rec v316 S315 else if ((X.2 w3.toNatClampNeg) &&& (63 : Int32)) = 27 then gd (inB (w3 + (1 : Int32)) X.1) (bd2 (fN_open F G S (X.2 (w3 + (1 : Int32)).toNatClampNeg)) fun v321 S322 => gd (inB (w3 + (1 : Int32)) X.1) (bd2 (fM_open F G S322 (X.2 (w3 + (1 : Int32)).toNatClampNeg)) fun v325 S326 => lt (w3 + 6) fun v327 => rec v327 S326)) else if ((X.2 w3.toNatClampNeg) &&& (63 : Int32)) = 28 then bd2 (fN_lost F G S) fun v331 S332 => bd2 (fM_lost F G S332) fun v334 S335 => lt (w3 + 6) fun v336 => rec v336 S335 else if ((X.2 w3.toNatClampNeg) &&& (63 : Int32)) = 29 then bd2 (fN_gaps F G S) fun v340 S341 => bd2 (fM_gaps F G S341) fun v343 S344 => lt (w3 + 6) fun v345 => rec v345 S344 else if ((X.2 w3.toNatClampNeg) &&& (63 : Int32)) = 30 then gd (inB (w3 + (1 : Int32)) X.1) (bd2 (fN_easier F G S (X.2 (w3 + (1 : Int32)).toNatClampNeg)) fun v350 S351 => gd (inB (w3 + (1 : Int32)) X.1) (bd2 (fM_easier F G S351 (X.2 (w3 + (1 : Int32)).toNatClampNeg)) fun v354 S355 => lt (w3 + 6) fun v356 => rec v356 S355)) else if ((X.2 w3.toNatClampNeg) &&& (63 : Int32)) = 31 then bd2 (fN_thickest F G S) fun v360 S361 => bd2 (fM_thickest F G S361) fun v363 S364 => lt (w3 + 6) fun v365 => rec v365 S364 else if ((X.2 w3.toNatClampNeg) &&& (63 : Int32)) = 32 then gd (inB (w3 + (1 : Int32)) X.1) (bd2 (fN_busiest F G S (X.2 (w3 + (1 : Int32)).toNatClampNeg)) fun v370 S371 => gd (inB (w3 + (1 : Int32)) X.1) (bd2 (fM_busiest F G S371 (X.2 (w3 + (1 : Int32)).toNatClampNeg)) fun v374 S375 => lt (w3 + 6) fun v376 => rec v376 S375)) else if ((X.2 w3.toNatClampNeg) &&& (63 : Int32)) = 33 then gd (inB (w3 + (1 : Int32)) X.1) (bd2 (fN_law F G S (X.2 (w3 + (1 : Int32)).toNatClampNeg)) fun v381 S382 => gd (inB (w3 + (1 : Int32)) X.1) (bd2 (fM_law F G S382 (X.2 (w3 + (1 : Int32)).toNatClampNeg)) fun v385 S386 => lt (w3 + 6) fun v387 => rec v387 S386)) else if ((X.2 w3.toNatClampNeg) &&& (63 : Int32)) = 34 then bd2 (fN_dearest F G S) fun v391 S392 => bd2 (fM_dearest F G S392) fun v394 S395 => lt (w3 + 6) fun v396 => rec v396 S395 else if ((X.2 w3.toNatClampNeg) &&& (63 : Int32)) = 35 then gd (inB (w3 + (1 : Int32)) X.1) (bd2 (fN_could F G S (X.2 (w3 + (1 : Int32)).toNatClampNeg)) fun v401 S402 => gd (inB (w3 + (1 : Int32)) X.1) (bd2 (fM_could F G S402 (X.2 (w3 + (1 : Int32)).toNatClampNeg)) fun v405 S406 => lt (w3 + 6) fun v407 => rec v407 S406)) else if ((X.2 w3.toNatClampNeg) &&& (63 : Int32)) = 36 then gd (inB (w3 + (1 : Int32)) X.1) (bd (fN_lies F G S (X.2 (w3 + (1 : Int32)).toNatClampNeg)) fun v412 => gd (inB (w3 + (1 : Int32)) X.1) (bd (fM_lies F G S (X.2 (w3 + (1 : Int32)).toNatClampNeg)) fun v415 => lt (w3 + 6) fun v416 => rec v416 S)) else if ((X.2 w3.toNatClampNeg) &&& (63 : Int32)) = 37 then gd (inB (w3 + (1 : Int32)) X.1) (gd (inB (w3 + (2 : Int32)) X.1) (gd (inB (w3 + (3 : Int32)) X.1) (if (X.2 (w3 + (3 : Int32)).toNatClampNeg) = 0 then j_Z_law_1171 F G X rec  S w3 (X.2 (w3 + (1 : Int32)).toNatClampNeg) (X.2 (w3 + (2 : Int32)).toNatClampNeg) (0 : Int32) else j_Z_law_1171 F G X rec  S w3 (X.2 (w3 + (1 : Int32)).toNatClampNeg) (X.2 (w3 + (2 : Int32)).toNatClampNeg) (1 : Int32)))) else if ((X.2 w3.toNatClampNeg) &&& (63 : Int32)) = 38 then gd (inB (w3 + (1 : Int32)) X.1) (bd2 (fN_untell F G S (X.2 (w3 + (1 : Int32)).toNatClampNeg)) fun v426 S427 => gd (inB (w3 + (1 : Int32)) X.1) (bd2 (fM_untell F G S427 (X.2 (w3 + (1 : Int32)).toNatClampNeg)) fun v430 S431 => lt (w3 + 6) fun v432 => rec v432 S431)) else if ((X.2 w3.toNatClampNeg) &&& (63 : Int32)) = 39 then gd (inB (w3 + (1 : Int32)) X.1) (bd2 (fN_later F G S (X.2 (w3 + (1 : Int32)).toNatClampNeg)) fun v437 S438 => gd (inB (w3 + (1 : Int32)) X.1) (bd2 (fM_later F G S438 (X.2 (w3 + (1 : Int32)).toNatClampNeg)) fun v441 S442 => lt (w3 + 6) fun v443 => rec v443 S442)) else if ((X.2 w3.toNatClampNeg) &&& (63 : Int32)) = 40 then gd (inB (w3 + (1 : Int32)) X.1) (bd2 (fN_sets F G S (X.2 (w3 + (1 : Int32)).toNatClampNeg)) fun v448 S449 => gd (inB (w3 + (1 : Int32)) X.1) (bd2 (fM_sets F G S449 (X.2 (w3 + (1 : Int32)).toNatClampNeg)) fun v452 S453 => lt (w3 + 6) fun v454 => rec v454 S453)) else if ((X.2 w3.toNatClampNeg) &&& (63 : Int32)) = 41 then gd (inB (w3 + (1 : Int32)) X.1) (gd (inB (w3 + (2 : Int32)) X.1) (bd2 (fN_sure F G S (X.2 (w3 + (1 : Int32)).toNatClampNeg) (X.2 (w3 + (2 : Int32)).toNatClampNeg)) fun v460 S461 => gd (inB (w3 + (1 : Int32)) X.1) (gd (inB (w3 + (2 : Int32)) X.1) (bd2 (fM_sure F G S461 (X.2 (w3 + (1 : Int32)).toNatClampNeg) (X.2 (w3 + (2 : Int32)).toNatClampNeg)) fun v465 S466 => lt (w3 + 6) fun v467 => rec v467 S466)))) else if ((X.2 w3.toNatClampNeg) &&& (63 : Int32)) = 42 then gd (inB (w3 + (1 : Int32)) X.1) (gd (inB (w3 + (2 : Int32)) X.1) (bd2 (fN_ask F G S (X.2 (w3 + (1 : Int32)).toNatClampNeg) (X.2 (w3 + (2 : Int32)).toNatClampNeg)) fun v473 S474 => gd (inB (w3 + (1 : Int32)) X.1) (gd (inB (w3 + (2 : Int32)) X.1) (bd2 (fM_ask F G S474 (X.2 (w3 + (1 : Int32)).toNatClampNeg) (X.2 (w3 + (2 : Int32)).toNatClampNeg)) fun v478 S479 => lt (w3 + 6) fun v480 => rec v480 S479)))) else if ((X.2 w3.toNatClampNeg) &&& (63 : Int32)) = 43 then gd (inB (w3 + (1 : Int32)) X.1) (bd2 (fN_image F G S (X.2 (w3 + (1 : Int32)).toNatClampNeg)) fun v485 S486 => gd (inB (w3 + (1 : Int32)) X.1) (bd2 (fM_image F G S486 (X.2 (w3 + (1 : Int32)).toNatClampNeg)) fun v489 S490 => lt (w3 + 6) fun v491 => rec v491 S490)) else if ((X.2 w3.toNatClampNeg) &&& (63 : Int32)) = 44 then gd (inB (w3 + (1 : Int32)) X.1) (bd2 (fN_back F G S (X.2 (w3 + (1 : Int32)).toNatClampNeg)) fun v496 S497 => gd (inB (w3 + (1 : Int32)) X.1) (bd2 (fM_back F G S497 (X.2 (w3 + (1 : Int32)).toNatClampNeg)) fun v500 S501 => lt (w3 + 6) fun v502 => rec v502 S501)) else if ((X.2 w3.toNatClampNeg) &&& (63 : Int32)) = 45 then gd (inB (w3 + (1 : Int32)) X.1) (bd (fN_differ F G S (X.2 (w3 + (1 : Int32)).toNatClampNeg)) fun v507 => gd (inB (w3 + (1 : Int32)) X.1) (bd (fM_differ F G S (X.2 (w3 + (1 : Int32)).toNatClampNeg)) fun v510 => lt (w3 + 6) fun v511 => rec v511 S)) else if ((X.2 w3.toNatClampNeg) &&& (63 : Int32)) = 46 then gd (inB (w3 + (1 : Int32)) X.1) (bd (fN_about F G S (X.2 (w3 + (1 : Int32)).toNatClampNeg)) fun v516 => gd (inB (w3 + (1 : Int32)) X.1) (bd (fM_about F G S (X.2 (w3 + (1 : Int32)).toNatClampNeg)) fun v519 => lt (w3 + 6) fun v520 => rec v520 S)) else lt (w3 + 6) fun v522 => rec v522 S)
set_option maxRecDepth 100000 in
set_option maxHeartbeats 4000000 in
theorem T_Z_law_18 {X : Nat × (Nat → Int32)} {D F G : Nat} (hD : 11 + G ≤ D + 1) : ∀ (f : Nat) (w3 : Int32) (S : St) (res : Int32 × St), fx2 (b_Z_law_18 F G X ) f w3 S = some res → Ek X (D + 1) mZ_law 18 [(0, .ref 1010), (1, .ref 0), (2, .ref 78), (3, .int w3)] [] S (some (.int res.1)) res.2 := by
  refine fx2_ind ?_
  intro rec ih w3 S res h
  unfold b_Z_law_18 at h
  have J1171 : ∀ (S : St) (y3 : Int32) (s1 : Int32) (s2 : Int32) (s3 : Int32) (res : Int32 × St), j_Z_law_1171 F G X rec S y3 s1 s2 s3 = some res → Ek X (D + 1) mZ_law 1171 [(0, .ref 1010), (1, .ref 0), (2, .ref 78), (3, .int y3)] [.int s3, .int s2, .int s1, .ref 0] S (some (.int res.1)) res.2 := by
    intro S y3 s1 s2 s3 res h
    unfold j_Z_law_1171 at h
    obtain ⟨v525, S526, q524, h⟩ := bd2_inv h
    refine y_V3i (v := v525) (S1 := S526) d_Z_law_1171 ml_13_167 kd_0 rfl (Nat.le_of_ble_eq_true rfl) (Nat.le_of_ble_eq_true rfl) (c_N_heard (by omega) q524) ?_
    refine x_pop d_Z_law_1174 rfl ?_
    refine x_aload_n d_Z_law_1175 rfl 2 rfl ?_
    refine x_aload_n d_Z_law_1176 rfl 0 rfl ?_
    refine x_iload_n d_Z_law_1177 rfl 3 rfl ?_
    refine x_iconst d_Z_law_1178 ic_1 ?_
    refine x_iadd d_Z_law_1179 ?_
    obtain ⟨g527, h⟩ := gd_inv h
    refine x_sald d_Z_law_1180 (inB_in g527) ?_
    refine x_aload_n d_Z_law_1181 rfl 0 rfl ?_
    refine x_iload_n d_Z_law_1182 rfl 3 rfl ?_
    refine x_iconst d_Z_law_1183 ic_2 ?_
    refine x_iadd d_Z_law_1184 ?_
    obtain ⟨g528, h⟩ := gd_inv h
    refine x_sald d_Z_law_1185 (inB_in g528) ?_
    refine x_aload_n d_Z_law_1186 rfl 0 rfl ?_
    refine x_iload_n d_Z_law_1187 rfl 3 rfl ?_
    refine x_iconst d_Z_law_1188 ic_3 ?_
    refine x_iadd d_Z_law_1189 ?_
    obtain ⟨g529, h⟩ := gd_inv h
    refine x_sald d_Z_law_1190 (inB_in g529) ?_
    refine x_if_eq (tgt := 1198) d_Z_law_1191 rfl (fun c530 => ?_) (fun c530 => ?_)
    · replace h := ite_t c530 h
      refine x_iconst d_Z_law_1198 ic_0 ?_
      obtain ⟨v532, S533, q531, h⟩ := bd2_inv h
      refine y_V3i (v := v532) (S1 := S533) d_Z_law_1199 ml_13_171 kd_78 rfl (Nat.le_of_ble_eq_true rfl) (Nat.le_of_ble_eq_true rfl) (c_M_heard (by omega) q531) ?_
      refine x_pop d_Z_law_1202 rfl ?_
      refine x_goto (tgt := 1433) d_Z_law_1203 rfl ?_
      obtain ⟨v534, e535, h⟩ := lt_inv h
      refine y_iinc (L1 := [(0, .ref 1010), (1, .ref 0), (2, .ref 78), (3, .int v534)]) e535 ic_6 d_Z_law_1433 3 rfl (Nat.le_of_ble_eq_true rfl) rfl rfl ?_
      refine x_goto (tgt := 18) d_Z_law_1436 rfl ?_
      exact ih v534 S533 _ h
    · replace h := ite_f c530 h
      refine x_iconst d_Z_law_1194 ic_1 ?_
      refine x_goto (tgt := 1199) d_Z_law_1195 rfl ?_
      obtain ⟨v537, S538, q536, h⟩ := bd2_inv h
      refine y_V3i (v := v537) (S1 := S538) d_Z_law_1199 ml_13_171 kd_78 rfl (Nat.le_of_ble_eq_true rfl) (Nat.le_of_ble_eq_true rfl) (c_M_heard (by omega) q536) ?_
      refine x_pop d_Z_law_1202 rfl ?_
      refine x_goto (tgt := 1433) d_Z_law_1203 rfl ?_
      obtain ⟨v539, e540, h⟩ := lt_inv h
      refine y_iinc (L1 := [(0, .ref 1010), (1, .ref 0), (2, .ref 78), (3, .int v539)]) e540 ic_6 d_Z_law_1433 3 rfl (Nat.le_of_ble_eq_true rfl) rfl rfl ?_
      refine x_goto (tgt := 18) d_Z_law_1436 rfl ?_
      exact ih v539 S538 _ h
  refine x_iload_n d_Z_law_18 rfl 3 rfl ?_
  refine x_aload_n d_Z_law_19 rfl 0 rfl ?_
  refine x_salen d_Z_law_20 ?_
  refine x_bipush d_Z_law_21 bp_6 ?_
  refine x_isub d_Z_law_23 ?_
  refine x_icmp_gt (tgt := 1439) d_Z_law_24 rfl (fun c1 => ?_) (fun c1 => ?_)
  · replace h := ite_t c1 h
    refine x_iconst d_Z_law_1439 ic_1 ?_
    obtain rfl := Option.some.inj h
    exact x_ret (r := some (.int (1 : Int32))) d_Z_law_1440 ⟨_, rfl, rfl⟩
  · replace h := ite_f c1 h
    refine x_aload_n d_Z_law_27 rfl 0 rfl ?_
    refine x_iload_n d_Z_law_28 rfl 3 rfl ?_
    obtain ⟨g2, h⟩ := gd_inv h
    refine x_sald d_Z_law_29 (inB_in g2) ?_
    refine x_bipush d_Z_law_30 bp_63 ?_
    refine x_iand d_Z_law_32 ?_
    by_cases c3 : ((X.2 w3.toNatClampNeg) &&& (63 : Int32)) = 0
    · replace h := ite_t c3 h
      refine x_tabC (tgt := 236) 0 d_Z_law_33 (by rw [c3]; rfl) (by decide) rfl rfl ?_
      refine x_aload_n d_Z_law_236 rfl 1 rfl ?_
      refine x_aload_n d_Z_law_237 rfl 0 rfl ?_
      refine x_iload_n d_Z_law_238 rfl 3 rfl ?_
      refine x_iconst d_Z_law_239 ic_1 ?_
      refine x_iadd d_Z_law_240 ?_
      obtain ⟨g4, h⟩ := gd_inv h
      refine x_sald d_Z_law_241 (inB_in g4) ?_
      refine x_aload_n d_Z_law_242 rfl 0 rfl ?_
      refine x_iload_n d_Z_law_243 rfl 3 rfl ?_
      refine x_iconst d_Z_law_244 ic_2 ?_
      refine x_iadd d_Z_law_245 ?_
      obtain ⟨g5, h⟩ := gd_inv h
      refine x_sald d_Z_law_246 (inB_in g5) ?_
      refine x_aload_n d_Z_law_247 rfl 0 rfl ?_
      refine x_iload_n d_Z_law_248 rfl 3 rfl ?_
      refine x_iconst d_Z_law_249 ic_3 ?_
      refine x_iadd d_Z_law_250 ?_
      obtain ⟨g6, h⟩ := gd_inv h
      refine x_sald d_Z_law_251 (inB_in g6) ?_
      refine x_aload_n d_Z_law_252 rfl 0 rfl ?_
      refine x_iload_n d_Z_law_253 rfl 3 rfl ?_
      refine x_iconst d_Z_law_254 ic_4 ?_
      refine x_iadd d_Z_law_255 ?_
      obtain ⟨g7, h⟩ := gd_inv h
      refine x_sald d_Z_law_256 (inB_in g7) ?_
      refine x_aload_n d_Z_law_257 rfl 0 rfl ?_
      refine x_iload_n d_Z_law_258 rfl 3 rfl ?_
      refine x_iconst d_Z_law_259 ic_5 ?_
      refine x_iadd d_Z_law_260 ?_
      obtain ⟨g8, h⟩ := gd_inv h
      refine x_sald d_Z_law_261 (inB_in g8) ?_
      obtain ⟨v10, S11, q9, h⟩ := bd2_inv h
      refine y_V5i (v := v10) (S1 := S11) d_Z_law_262 ml_13_13 kd_0 rfl (Nat.le_of_ble_eq_true rfl) (Nat.le_of_ble_eq_true rfl) (c_N_feed (by omega) q9) ?_
      refine x_pop d_Z_law_265 rfl ?_
      refine x_aload_n d_Z_law_266 rfl 2 rfl ?_
      refine x_aload_n d_Z_law_267 rfl 0 rfl ?_
      refine x_iload_n d_Z_law_268 rfl 3 rfl ?_
      refine x_iconst d_Z_law_269 ic_1 ?_
      refine x_iadd d_Z_law_270 ?_
      obtain ⟨g12, h⟩ := gd_inv h
      refine x_sald d_Z_law_271 (inB_in g12) ?_
      refine x_aload_n d_Z_law_272 rfl 0 rfl ?_
      refine x_iload_n d_Z_law_273 rfl 3 rfl ?_
      refine x_iconst d_Z_law_274 ic_2 ?_
      refine x_iadd d_Z_law_275 ?_
      obtain ⟨g13, h⟩ := gd_inv h
      refine x_sald d_Z_law_276 (inB_in g13) ?_
      refine x_aload_n d_Z_law_277 rfl 0 rfl ?_
      refine x_iload_n d_Z_law_278 rfl 3 rfl ?_
      refine x_iconst d_Z_law_279 ic_3 ?_
      refine x_iadd d_Z_law_280 ?_
      obtain ⟨g14, h⟩ := gd_inv h
      refine x_sald d_Z_law_281 (inB_in g14) ?_
      refine x_aload_n d_Z_law_282 rfl 0 rfl ?_
      refine x_iload_n d_Z_law_283 rfl 3 rfl ?_
      refine x_iconst d_Z_law_284 ic_4 ?_
      refine x_iadd d_Z_law_285 ?_
      obtain ⟨g15, h⟩ := gd_inv h
      refine x_sald d_Z_law_286 (inB_in g15) ?_
      refine x_aload_n d_Z_law_287 rfl 0 rfl ?_
      refine x_iload_n d_Z_law_288 rfl 3 rfl ?_
      refine x_iconst d_Z_law_289 ic_5 ?_
      refine x_iadd d_Z_law_290 ?_
      obtain ⟨g16, h⟩ := gd_inv h
      refine x_sald d_Z_law_291 (inB_in g16) ?_
      obtain ⟨v18, S19, q17, h⟩ := bd2_inv h
      refine y_V5i (v := v18) (S1 := S19) d_Z_law_292 ml_13_17 kd_78 rfl (Nat.le_of_ble_eq_true rfl) (Nat.le_of_ble_eq_true rfl) (c_M_feed (by omega) q17) ?_
      refine x_pop d_Z_law_295 rfl ?_
      refine x_goto (tgt := 1433) d_Z_law_296 rfl ?_
      obtain ⟨v20, e21, h⟩ := lt_inv h
      refine y_iinc (L1 := [(0, .ref 1010), (1, .ref 0), (2, .ref 78), (3, .int v20)]) e21 ic_6 d_Z_law_1433 3 rfl (Nat.le_of_ble_eq_true rfl) rfl rfl ?_
      refine x_goto (tgt := 18) d_Z_law_1436 rfl ?_
      exact ih v20 S19 _ h
    replace h := ite_f c3 h
    by_cases c22 : ((X.2 w3.toNatClampNeg) &&& (63 : Int32)) = 1
    · replace h := ite_t c22 h
      refine x_tabC (tgt := 299) 1 d_Z_law_33 (by rw [c22]; rfl) (by decide) rfl rfl ?_
      refine x_aload_n d_Z_law_299 rfl 1 rfl ?_
      refine x_aload_n d_Z_law_300 rfl 0 rfl ?_
      refine x_iload_n d_Z_law_301 rfl 3 rfl ?_
      refine x_iconst d_Z_law_302 ic_1 ?_
      refine x_iadd d_Z_law_303 ?_
      obtain ⟨g23, h⟩ := gd_inv h
      refine x_sald d_Z_law_304 (inB_in g23) ?_
      obtain ⟨v25, S26, q24, h⟩ := bd2_inv h
      refine y_V1i (v := v25) (S1 := S26) d_Z_law_305 ml_13_18 kd_0 rfl (Nat.le_of_ble_eq_true rfl) (Nat.le_of_ble_eq_true rfl) (c_N_end (by omega) q24) ?_
      refine x_pop d_Z_law_308 rfl ?_
      refine x_aload_n d_Z_law_309 rfl 2 rfl ?_
      refine x_aload_n d_Z_law_310 rfl 0 rfl ?_
      refine x_iload_n d_Z_law_311 rfl 3 rfl ?_
      refine x_iconst d_Z_law_312 ic_1 ?_
      refine x_iadd d_Z_law_313 ?_
      obtain ⟨g27, h⟩ := gd_inv h
      refine x_sald d_Z_law_314 (inB_in g27) ?_
      obtain ⟨v29, S30, q28, h⟩ := bd2_inv h
      refine y_V1i (v := v29) (S1 := S30) d_Z_law_315 ml_13_22 kd_78 rfl (Nat.le_of_ble_eq_true rfl) (Nat.le_of_ble_eq_true rfl) (c_M_end (by omega) q28) ?_
      refine x_pop d_Z_law_318 rfl ?_
      refine x_goto (tgt := 1433) d_Z_law_319 rfl ?_
      obtain ⟨v31, e32, h⟩ := lt_inv h
      refine y_iinc (L1 := [(0, .ref 1010), (1, .ref 0), (2, .ref 78), (3, .int v31)]) e32 ic_6 d_Z_law_1433 3 rfl (Nat.le_of_ble_eq_true rfl) rfl rfl ?_
      refine x_goto (tgt := 18) d_Z_law_1436 rfl ?_
      exact ih v31 S30 _ h
    replace h := ite_f c22 h
    by_cases c33 : ((X.2 w3.toNatClampNeg) &&& (63 : Int32)) = 2
    · replace h := ite_t c33 h
      refine x_tabC (tgt := 322) 2 d_Z_law_33 (by rw [c33]; rfl) (by decide) rfl rfl ?_
      refine x_aload_n d_Z_law_322 rfl 1 rfl ?_
      obtain ⟨v35, S36, q34, h⟩ := bd2_inv h
      refine y_V0i (v := v35) (S1 := S36) d_Z_law_323 ml_13_23 kd_0 rfl (Nat.le_of_ble_eq_true rfl) (Nat.le_of_ble_eq_true rfl) (c_N_score (by omega) q34) ?_
      refine x_pop d_Z_law_326 rfl ?_
      refine x_aload_n d_Z_law_327 rfl 2 rfl ?_
      obtain ⟨v38, S39, q37, h⟩ := bd2_inv h
      refine y_V0i (v := v38) (S1 := S39) d_Z_law_328 ml_13_27 kd_78 rfl (Nat.le_of_ble_eq_true rfl) (Nat.le_of_ble_eq_true rfl) (c_M_score (by omega) q37) ?_
      refine x_pop d_Z_law_331 rfl ?_
      refine x_goto (tgt := 1433) d_Z_law_332 rfl ?_
      obtain ⟨v40, e41, h⟩ := lt_inv h
      refine y_iinc (L1 := [(0, .ref 1010), (1, .ref 0), (2, .ref 78), (3, .int v40)]) e41 ic_6 d_Z_law_1433 3 rfl (Nat.le_of_ble_eq_true rfl) rfl rfl ?_
      refine x_goto (tgt := 18) d_Z_law_1436 rfl ?_
      exact ih v40 S39 _ h
    replace h := ite_f c33 h
    by_cases c42 : ((X.2 w3.toNatClampNeg) &&& (63 : Int32)) = 3
    · replace h := ite_t c42 h
      refine x_tabC (tgt := 335) 3 d_Z_law_33 (by rw [c42]; rfl) (by decide) rfl rfl ?_
      refine x_aload_n d_Z_law_335 rfl 1 rfl ?_
      refine x_aload_n d_Z_law_336 rfl 0 rfl ?_
      refine x_iload_n d_Z_law_337 rfl 3 rfl ?_
      refine x_iconst d_Z_law_338 ic_1 ?_
      refine x_iadd d_Z_law_339 ?_
      obtain ⟨g43, h⟩ := gd_inv h
      refine x_sald d_Z_law_340 (inB_in g43) ?_
      obtain ⟨v45, q44, h⟩ := bd_inv h
      refine y_V1i (v := v45) (S1 := S) d_Z_law_341 ml_13_28 kd_0 rfl (Nat.le_of_ble_eq_true rfl) (Nat.le_of_ble_eq_true rfl) (c_N_fault (by omega) q44) ?_
      refine x_pop d_Z_law_344 rfl ?_
      refine x_aload_n d_Z_law_345 rfl 2 rfl ?_
      refine x_aload_n d_Z_law_346 rfl 0 rfl ?_
      refine x_iload_n d_Z_law_347 rfl 3 rfl ?_
      refine x_iconst d_Z_law_348 ic_1 ?_
      refine x_iadd d_Z_law_349 ?_
      obtain ⟨g46, h⟩ := gd_inv h
      refine x_sald d_Z_law_350 (inB_in g46) ?_
      obtain ⟨v48, q47, h⟩ := bd_inv h
      refine y_V1i (v := v48) (S1 := S) d_Z_law_351 ml_13_31 kd_78 rfl (Nat.le_of_ble_eq_true rfl) (Nat.le_of_ble_eq_true rfl) (c_M_fault (by omega) q47) ?_
      refine x_pop d_Z_law_354 rfl ?_
      refine x_goto (tgt := 1433) d_Z_law_355 rfl ?_
      obtain ⟨v49, e50, h⟩ := lt_inv h
      refine y_iinc (L1 := [(0, .ref 1010), (1, .ref 0), (2, .ref 78), (3, .int v49)]) e50 ic_6 d_Z_law_1433 3 rfl (Nat.le_of_ble_eq_true rfl) rfl rfl ?_
      refine x_goto (tgt := 18) d_Z_law_1436 rfl ?_
      exact ih v49 S _ h
    replace h := ite_f c42 h
    by_cases c51 : ((X.2 w3.toNatClampNeg) &&& (63 : Int32)) = 4
    · replace h := ite_t c51 h
      refine x_tabC (tgt := 358) 4 d_Z_law_33 (by rw [c51]; rfl) (by decide) rfl rfl ?_
      refine x_aload_n d_Z_law_358 rfl 1 rfl ?_
      refine x_aload_n d_Z_law_359 rfl 0 rfl ?_
      refine x_iload_n d_Z_law_360 rfl 3 rfl ?_
      refine x_iconst d_Z_law_361 ic_1 ?_
      refine x_iadd d_Z_law_362 ?_
      obtain ⟨g52, h⟩ := gd_inv h
      refine x_sald d_Z_law_363 (inB_in g52) ?_
      refine x_aload_n d_Z_law_364 rfl 0 rfl ?_
      refine x_iload_n d_Z_law_365 rfl 3 rfl ?_
      refine x_iconst d_Z_law_366 ic_2 ?_
      refine x_iadd d_Z_law_367 ?_
      obtain ⟨g53, h⟩ := gd_inv h
      refine x_sald d_Z_law_368 (inB_in g53) ?_
      obtain ⟨v55, S56, q54, h⟩ := bd2_inv h
      refine y_V2i (v := v55) (S1 := S56) d_Z_law_369 ml_13_32 kd_0 rfl (Nat.le_of_ble_eq_true rfl) (Nat.le_of_ble_eq_true rfl) (c_N_note (by omega) q54) ?_
      refine x_pop d_Z_law_372 rfl ?_
      refine x_aload_n d_Z_law_373 rfl 2 rfl ?_
      refine x_aload_n d_Z_law_374 rfl 0 rfl ?_
      refine x_iload_n d_Z_law_375 rfl 3 rfl ?_
      refine x_iconst d_Z_law_376 ic_1 ?_
      refine x_iadd d_Z_law_377 ?_
      obtain ⟨g57, h⟩ := gd_inv h
      refine x_sald d_Z_law_378 (inB_in g57) ?_
      refine x_aload_n d_Z_law_379 rfl 0 rfl ?_
      refine x_iload_n d_Z_law_380 rfl 3 rfl ?_
      refine x_iconst d_Z_law_381 ic_2 ?_
      refine x_iadd d_Z_law_382 ?_
      obtain ⟨g58, h⟩ := gd_inv h
      refine x_sald d_Z_law_383 (inB_in g58) ?_
      obtain ⟨v60, S61, q59, h⟩ := bd2_inv h
      refine y_V2i (v := v60) (S1 := S61) d_Z_law_384 ml_13_36 kd_78 rfl (Nat.le_of_ble_eq_true rfl) (Nat.le_of_ble_eq_true rfl) (c_M_note (by omega) q59) ?_
      refine x_pop d_Z_law_387 rfl ?_
      refine x_goto (tgt := 1433) d_Z_law_388 rfl ?_
      obtain ⟨v62, e63, h⟩ := lt_inv h
      refine y_iinc (L1 := [(0, .ref 1010), (1, .ref 0), (2, .ref 78), (3, .int v62)]) e63 ic_6 d_Z_law_1433 3 rfl (Nat.le_of_ble_eq_true rfl) rfl rfl ?_
      refine x_goto (tgt := 18) d_Z_law_1436 rfl ?_
      exact ih v62 S61 _ h
    replace h := ite_f c51 h
    by_cases c64 : ((X.2 w3.toNatClampNeg) &&& (63 : Int32)) = 5
    · replace h := ite_t c64 h
      refine x_tabC (tgt := 391) 5 d_Z_law_33 (by rw [c64]; rfl) (by decide) rfl rfl ?_
      refine x_aload_n d_Z_law_391 rfl 1 rfl ?_
      refine x_aload_n d_Z_law_392 rfl 0 rfl ?_
      refine x_iload_n d_Z_law_393 rfl 3 rfl ?_
      refine x_iconst d_Z_law_394 ic_1 ?_
      refine x_iadd d_Z_law_395 ?_
      obtain ⟨g65, h⟩ := gd_inv h
      refine x_sald d_Z_law_396 (inB_in g65) ?_
      refine x_aload_n d_Z_law_397 rfl 0 rfl ?_
      refine x_iload_n d_Z_law_398 rfl 3 rfl ?_
      refine x_iconst d_Z_law_399 ic_2 ?_
      refine x_iadd d_Z_law_400 ?_
      obtain ⟨g66, h⟩ := gd_inv h
      refine x_sald d_Z_law_401 (inB_in g66) ?_
      obtain ⟨v68, q67, h⟩ := bd_inv h
      refine y_V2i (v := v68) (S1 := S) d_Z_law_402 ml_13_37 kd_0 rfl (Nat.le_of_ble_eq_true rfl) (Nat.le_of_ble_eq_true rfl) (c_N_part (by omega) q67) ?_
      refine x_pop d_Z_law_405 rfl ?_
      refine x_aload_n d_Z_law_406 rfl 2 rfl ?_
      refine x_aload_n d_Z_law_407 rfl 0 rfl ?_
      refine x_iload_n d_Z_law_408 rfl 3 rfl ?_
      refine x_iconst d_Z_law_409 ic_1 ?_
      refine x_iadd d_Z_law_410 ?_
      obtain ⟨g69, h⟩ := gd_inv h
      refine x_sald d_Z_law_411 (inB_in g69) ?_
      refine x_aload_n d_Z_law_412 rfl 0 rfl ?_
      refine x_iload_n d_Z_law_413 rfl 3 rfl ?_
      refine x_iconst d_Z_law_414 ic_2 ?_
      refine x_iadd d_Z_law_415 ?_
      obtain ⟨g70, h⟩ := gd_inv h
      refine x_sald d_Z_law_416 (inB_in g70) ?_
      obtain ⟨v72, S73, q71, h⟩ := bd2_inv h
      refine y_V2i (v := v72) (S1 := S73) d_Z_law_417 ml_13_40 kd_78 rfl (Nat.le_of_ble_eq_true rfl) (Nat.le_of_ble_eq_true rfl) (c_M_part (by omega) q71) ?_
      refine x_pop d_Z_law_420 rfl ?_
      refine x_goto (tgt := 1433) d_Z_law_421 rfl ?_
      obtain ⟨v74, e75, h⟩ := lt_inv h
      refine y_iinc (L1 := [(0, .ref 1010), (1, .ref 0), (2, .ref 78), (3, .int v74)]) e75 ic_6 d_Z_law_1433 3 rfl (Nat.le_of_ble_eq_true rfl) rfl rfl ?_
      refine x_goto (tgt := 18) d_Z_law_1436 rfl ?_
      exact ih v74 S73 _ h
    replace h := ite_f c64 h
    by_cases c76 : ((X.2 w3.toNatClampNeg) &&& (63 : Int32)) = 6
    · replace h := ite_t c76 h
      refine x_tabC (tgt := 424) 6 d_Z_law_33 (by rw [c76]; rfl) (by decide) rfl rfl ?_
      refine x_aload_n d_Z_law_424 rfl 1 rfl ?_
      refine x_aload_n d_Z_law_425 rfl 0 rfl ?_
      refine x_iload_n d_Z_law_426 rfl 3 rfl ?_
      refine x_iconst d_Z_law_427 ic_1 ?_
      refine x_iadd d_Z_law_428 ?_
      obtain ⟨g77, h⟩ := gd_inv h
      refine x_sald d_Z_law_429 (inB_in g77) ?_
      refine x_aload_n d_Z_law_430 rfl 0 rfl ?_
      refine x_iload_n d_Z_law_431 rfl 3 rfl ?_
      refine x_iconst d_Z_law_432 ic_2 ?_
      refine x_iadd d_Z_law_433 ?_
      obtain ⟨g78, h⟩ := gd_inv h
      refine x_sald d_Z_law_434 (inB_in g78) ?_
      obtain ⟨v80, S81, q79, h⟩ := bd2_inv h
      refine y_V2i (v := v80) (S1 := S81) d_Z_law_435 ml_13_41 kd_0 rfl (Nat.le_of_ble_eq_true rfl) (Nat.le_of_ble_eq_true rfl) (c_N_held (by omega) q79) ?_
      refine x_pop d_Z_law_438 rfl ?_
      refine x_aload_n d_Z_law_439 rfl 2 rfl ?_
      refine x_aload_n d_Z_law_440 rfl 0 rfl ?_
      refine x_iload_n d_Z_law_441 rfl 3 rfl ?_
      refine x_iconst d_Z_law_442 ic_1 ?_
      refine x_iadd d_Z_law_443 ?_
      obtain ⟨g82, h⟩ := gd_inv h
      refine x_sald d_Z_law_444 (inB_in g82) ?_
      refine x_aload_n d_Z_law_445 rfl 0 rfl ?_
      refine x_iload_n d_Z_law_446 rfl 3 rfl ?_
      refine x_iconst d_Z_law_447 ic_2 ?_
      refine x_iadd d_Z_law_448 ?_
      obtain ⟨g83, h⟩ := gd_inv h
      refine x_sald d_Z_law_449 (inB_in g83) ?_
      obtain ⟨v85, S86, q84, h⟩ := bd2_inv h
      refine y_V2i (v := v85) (S1 := S86) d_Z_law_450 ml_13_44 kd_78 rfl (Nat.le_of_ble_eq_true rfl) (Nat.le_of_ble_eq_true rfl) (c_M_held (by omega) q84) ?_
      refine x_pop d_Z_law_453 rfl ?_
      refine x_goto (tgt := 1433) d_Z_law_454 rfl ?_
      obtain ⟨v87, e88, h⟩ := lt_inv h
      refine y_iinc (L1 := [(0, .ref 1010), (1, .ref 0), (2, .ref 78), (3, .int v87)]) e88 ic_6 d_Z_law_1433 3 rfl (Nat.le_of_ble_eq_true rfl) rfl rfl ?_
      refine x_goto (tgt := 18) d_Z_law_1436 rfl ?_
      exact ih v87 S86 _ h
    replace h := ite_f c76 h
    by_cases c89 : ((X.2 w3.toNatClampNeg) &&& (63 : Int32)) = 7
    · replace h := ite_t c89 h
      refine x_tabC (tgt := 457) 7 d_Z_law_33 (by rw [c89]; rfl) (by decide) rfl rfl ?_
      refine x_aload_n d_Z_law_457 rfl 1 rfl ?_
      refine x_aload_n d_Z_law_458 rfl 0 rfl ?_
      refine x_iload_n d_Z_law_459 rfl 3 rfl ?_
      refine x_iconst d_Z_law_460 ic_1 ?_
      refine x_iadd d_Z_law_461 ?_
      obtain ⟨g90, h⟩ := gd_inv h
      refine x_sald d_Z_law_462 (inB_in g90) ?_
      obtain ⟨v92, S93, q91, h⟩ := bd2_inv h
      refine y_V1i (v := v92) (S1 := S93) d_Z_law_463 ml_13_45 kd_0 rfl (Nat.le_of_ble_eq_true rfl) (Nat.le_of_ble_eq_true rfl) (c_N_sounds (by omega) q91) ?_
      refine x_pop d_Z_law_466 rfl ?_
      refine x_aload_n d_Z_law_467 rfl 2 rfl ?_
      refine x_aload_n d_Z_law_468 rfl 0 rfl ?_
      refine x_iload_n d_Z_law_469 rfl 3 rfl ?_
      refine x_iconst d_Z_law_470 ic_1 ?_
      refine x_iadd d_Z_law_471 ?_
      obtain ⟨g94, h⟩ := gd_inv h
      refine x_sald d_Z_law_472 (inB_in g94) ?_
      obtain ⟨v96, S97, q95, h⟩ := bd2_inv h
      refine y_V1i (v := v96) (S1 := S97) d_Z_law_473 ml_13_48 kd_78 rfl (Nat.le_of_ble_eq_true rfl) (Nat.le_of_ble_eq_true rfl) (c_M_sounds (by omega) q95) ?_
      refine x_pop d_Z_law_476 rfl ?_
      refine x_goto (tgt := 1433) d_Z_law_477 rfl ?_
      obtain ⟨v98, e99, h⟩ := lt_inv h
      refine y_iinc (L1 := [(0, .ref 1010), (1, .ref 0), (2, .ref 78), (3, .int v98)]) e99 ic_6 d_Z_law_1433 3 rfl (Nat.le_of_ble_eq_true rfl) rfl rfl ?_
      refine x_goto (tgt := 18) d_Z_law_1436 rfl ?_
      exact ih v98 S97 _ h
    replace h := ite_f c89 h
    by_cases c100 : ((X.2 w3.toNatClampNeg) &&& (63 : Int32)) = 8
    · replace h := ite_t c100 h
      refine x_tabC (tgt := 480) 8 d_Z_law_33 (by rw [c100]; rfl) (by decide) rfl rfl ?_
      refine x_aload_n d_Z_law_480 rfl 1 rfl ?_
      refine x_aload_n d_Z_law_481 rfl 0 rfl ?_
      refine x_iload_n d_Z_law_482 rfl 3 rfl ?_
      refine x_iconst d_Z_law_483 ic_1 ?_
      refine x_iadd d_Z_law_484 ?_
      obtain ⟨g101, h⟩ := gd_inv h
      refine x_sald d_Z_law_485 (inB_in g101) ?_
      obtain ⟨v103, S104, q102, h⟩ := bd2_inv h
      refine y_V1i (v := v103) (S1 := S104) d_Z_law_486 ml_13_49 kd_0 rfl (Nat.le_of_ble_eq_true rfl) (Nat.le_of_ble_eq_true rfl) (c_N_clash (by omega) q102) ?_
      refine x_pop d_Z_law_489 rfl ?_
      refine x_aload_n d_Z_law_490 rfl 2 rfl ?_
      refine x_aload_n d_Z_law_491 rfl 0 rfl ?_
      refine x_iload_n d_Z_law_492 rfl 3 rfl ?_
      refine x_iconst d_Z_law_493 ic_1 ?_
      refine x_iadd d_Z_law_494 ?_
      obtain ⟨g105, h⟩ := gd_inv h
      refine x_sald d_Z_law_495 (inB_in g105) ?_
      obtain ⟨v107, S108, q106, h⟩ := bd2_inv h
      refine y_V1i (v := v107) (S1 := S108) d_Z_law_496 ml_13_52 kd_78 rfl (Nat.le_of_ble_eq_true rfl) (Nat.le_of_ble_eq_true rfl) (c_M_clash (by omega) q106) ?_
      refine x_pop d_Z_law_499 rfl ?_
      refine x_goto (tgt := 1433) d_Z_law_500 rfl ?_
      obtain ⟨v109, e110, h⟩ := lt_inv h
      refine y_iinc (L1 := [(0, .ref 1010), (1, .ref 0), (2, .ref 78), (3, .int v109)]) e110 ic_6 d_Z_law_1433 3 rfl (Nat.le_of_ble_eq_true rfl) rfl rfl ?_
      refine x_goto (tgt := 18) d_Z_law_1436 rfl ?_
      exact ih v109 S108 _ h
    replace h := ite_f c100 h
    by_cases c111 : ((X.2 w3.toNatClampNeg) &&& (63 : Int32)) = 9
    · replace h := ite_t c111 h
      refine x_tabC (tgt := 503) 9 d_Z_law_33 (by rw [c111]; rfl) (by decide) rfl rfl ?_
      refine x_aload_n d_Z_law_503 rfl 1 rfl ?_
      refine x_aload_n d_Z_law_504 rfl 0 rfl ?_
      refine x_iload_n d_Z_law_505 rfl 3 rfl ?_
      refine x_iconst d_Z_law_506 ic_1 ?_
      refine x_iadd d_Z_law_507 ?_
      obtain ⟨g112, h⟩ := gd_inv h
      refine x_sald d_Z_law_508 (inB_in g112) ?_
      refine x_aload_n d_Z_law_509 rfl 0 rfl ?_
      refine x_iload_n d_Z_law_510 rfl 3 rfl ?_
      refine x_iconst d_Z_law_511 ic_2 ?_
      refine x_iadd d_Z_law_512 ?_
      obtain ⟨g113, h⟩ := gd_inv h
      refine x_sald d_Z_law_513 (inB_in g113) ?_
      obtain ⟨v115, S116, q114, h⟩ := bd2_inv h
      refine y_V2i (v := v115) (S1 := S116) d_Z_law_514 ml_13_53 kd_0 rfl (Nat.le_of_ble_eq_true rfl) (Nat.le_of_ble_eq_true rfl) (c_N_give (by omega) q114) ?_
      refine x_pop d_Z_law_517 rfl ?_
      refine x_aload_n d_Z_law_518 rfl 2 rfl ?_
      refine x_aload_n d_Z_law_519 rfl 0 rfl ?_
      refine x_iload_n d_Z_law_520 rfl 3 rfl ?_
      refine x_iconst d_Z_law_521 ic_1 ?_
      refine x_iadd d_Z_law_522 ?_
      obtain ⟨g117, h⟩ := gd_inv h
      refine x_sald d_Z_law_523 (inB_in g117) ?_
      refine x_aload_n d_Z_law_524 rfl 0 rfl ?_
      refine x_iload_n d_Z_law_525 rfl 3 rfl ?_
      refine x_iconst d_Z_law_526 ic_2 ?_
      refine x_iadd d_Z_law_527 ?_
      obtain ⟨g118, h⟩ := gd_inv h
      refine x_sald d_Z_law_528 (inB_in g118) ?_
      obtain ⟨v120, S121, q119, h⟩ := bd2_inv h
      refine y_V2i (v := v120) (S1 := S121) d_Z_law_529 ml_13_56 kd_78 rfl (Nat.le_of_ble_eq_true rfl) (Nat.le_of_ble_eq_true rfl) (c_M_give (by omega) q119) ?_
      refine x_pop d_Z_law_532 rfl ?_
      refine x_goto (tgt := 1433) d_Z_law_533 rfl ?_
      obtain ⟨v122, e123, h⟩ := lt_inv h
      refine y_iinc (L1 := [(0, .ref 1010), (1, .ref 0), (2, .ref 78), (3, .int v122)]) e123 ic_6 d_Z_law_1433 3 rfl (Nat.le_of_ble_eq_true rfl) rfl rfl ?_
      refine x_goto (tgt := 18) d_Z_law_1436 rfl ?_
      exact ih v122 S121 _ h
    replace h := ite_f c111 h
    by_cases c124 : ((X.2 w3.toNatClampNeg) &&& (63 : Int32)) = 10
    · replace h := ite_t c124 h
      refine x_tabC (tgt := 536) 10 d_Z_law_33 (by rw [c124]; rfl) (by decide) rfl rfl ?_
      refine x_aload_n d_Z_law_536 rfl 1 rfl ?_
      refine x_aload_n d_Z_law_537 rfl 0 rfl ?_
      refine x_iload_n d_Z_law_538 rfl 3 rfl ?_
      refine x_iconst d_Z_law_539 ic_1 ?_
      refine x_iadd d_Z_law_540 ?_
      obtain ⟨g125, h⟩ := gd_inv h
      refine x_sald d_Z_law_541 (inB_in g125) ?_
      refine x_aload_n d_Z_law_542 rfl 0 rfl ?_
      refine x_iload_n d_Z_law_543 rfl 3 rfl ?_
      refine x_iconst d_Z_law_544 ic_2 ?_
      refine x_iadd d_Z_law_545 ?_
      obtain ⟨g126, h⟩ := gd_inv h
      refine x_sald d_Z_law_546 (inB_in g126) ?_
      obtain ⟨v128, S129, q127, h⟩ := bd2_inv h
      refine y_V2i (v := v128) (S1 := S129) d_Z_law_547 ml_13_57 kd_0 rfl (Nat.le_of_ble_eq_true rfl) (Nat.le_of_ble_eq_true rfl) (c_N_shift (by omega) q127) ?_
      refine x_pop d_Z_law_550 rfl ?_
      refine x_aload_n d_Z_law_551 rfl 2 rfl ?_
      refine x_aload_n d_Z_law_552 rfl 0 rfl ?_
      refine x_iload_n d_Z_law_553 rfl 3 rfl ?_
      refine x_iconst d_Z_law_554 ic_1 ?_
      refine x_iadd d_Z_law_555 ?_
      obtain ⟨g130, h⟩ := gd_inv h
      refine x_sald d_Z_law_556 (inB_in g130) ?_
      refine x_aload_n d_Z_law_557 rfl 0 rfl ?_
      refine x_iload_n d_Z_law_558 rfl 3 rfl ?_
      refine x_iconst d_Z_law_559 ic_2 ?_
      refine x_iadd d_Z_law_560 ?_
      obtain ⟨g131, h⟩ := gd_inv h
      refine x_sald d_Z_law_561 (inB_in g131) ?_
      obtain ⟨v133, S134, q132, h⟩ := bd2_inv h
      refine y_V2i (v := v133) (S1 := S134) d_Z_law_562 ml_13_60 kd_78 rfl (Nat.le_of_ble_eq_true rfl) (Nat.le_of_ble_eq_true rfl) (c_M_shift (by omega) q132) ?_
      refine x_pop d_Z_law_565 rfl ?_
      refine x_goto (tgt := 1433) d_Z_law_566 rfl ?_
      obtain ⟨v135, e136, h⟩ := lt_inv h
      refine y_iinc (L1 := [(0, .ref 1010), (1, .ref 0), (2, .ref 78), (3, .int v135)]) e136 ic_6 d_Z_law_1433 3 rfl (Nat.le_of_ble_eq_true rfl) rfl rfl ?_
      refine x_goto (tgt := 18) d_Z_law_1436 rfl ?_
      exact ih v135 S134 _ h
    replace h := ite_f c124 h
    by_cases c137 : ((X.2 w3.toNatClampNeg) &&& (63 : Int32)) = 11
    · replace h := ite_t c137 h
      refine x_tabC (tgt := 569) 11 d_Z_law_33 (by rw [c137]; rfl) (by decide) rfl rfl ?_
      refine x_aload_n d_Z_law_569 rfl 1 rfl ?_
      refine x_aload_n d_Z_law_570 rfl 0 rfl ?_
      refine x_iload_n d_Z_law_571 rfl 3 rfl ?_
      refine x_iconst d_Z_law_572 ic_1 ?_
      refine x_iadd d_Z_law_573 ?_
      obtain ⟨g138, h⟩ := gd_inv h
      refine x_sald d_Z_law_574 (inB_in g138) ?_
      refine x_aload_n d_Z_law_575 rfl 0 rfl ?_
      refine x_iload_n d_Z_law_576 rfl 3 rfl ?_
      refine x_iconst d_Z_law_577 ic_2 ?_
      refine x_iadd d_Z_law_578 ?_
      obtain ⟨g139, h⟩ := gd_inv h
      refine x_sald d_Z_law_579 (inB_in g139) ?_
      obtain ⟨v141, S142, q140, h⟩ := bd2_inv h
      refine y_V2i (v := v141) (S1 := S142) d_Z_law_580 ml_13_61 kd_0 rfl (Nat.le_of_ble_eq_true rfl) (Nat.le_of_ble_eq_true rfl) (c_N_louder (by omega) q140) ?_
      refine x_pop d_Z_law_583 rfl ?_
      refine x_aload_n d_Z_law_584 rfl 2 rfl ?_
      refine x_aload_n d_Z_law_585 rfl 0 rfl ?_
      refine x_iload_n d_Z_law_586 rfl 3 rfl ?_
      refine x_iconst d_Z_law_587 ic_1 ?_
      refine x_iadd d_Z_law_588 ?_
      obtain ⟨g143, h⟩ := gd_inv h
      refine x_sald d_Z_law_589 (inB_in g143) ?_
      refine x_aload_n d_Z_law_590 rfl 0 rfl ?_
      refine x_iload_n d_Z_law_591 rfl 3 rfl ?_
      refine x_iconst d_Z_law_592 ic_2 ?_
      refine x_iadd d_Z_law_593 ?_
      obtain ⟨g144, h⟩ := gd_inv h
      refine x_sald d_Z_law_594 (inB_in g144) ?_
      obtain ⟨v146, S147, q145, h⟩ := bd2_inv h
      refine y_V2i (v := v146) (S1 := S147) d_Z_law_595 ml_13_64 kd_78 rfl (Nat.le_of_ble_eq_true rfl) (Nat.le_of_ble_eq_true rfl) (c_M_louder (by omega) q145) ?_
      refine x_pop d_Z_law_598 rfl ?_
      refine x_goto (tgt := 1433) d_Z_law_599 rfl ?_
      obtain ⟨v148, e149, h⟩ := lt_inv h
      refine y_iinc (L1 := [(0, .ref 1010), (1, .ref 0), (2, .ref 78), (3, .int v148)]) e149 ic_6 d_Z_law_1433 3 rfl (Nat.le_of_ble_eq_true rfl) rfl rfl ?_
      refine x_goto (tgt := 18) d_Z_law_1436 rfl ?_
      exact ih v148 S147 _ h
    replace h := ite_f c137 h
    by_cases c150 : ((X.2 w3.toNatClampNeg) &&& (63 : Int32)) = 12
    · replace h := ite_t c150 h
      refine x_tabC (tgt := 602) 12 d_Z_law_33 (by rw [c150]; rfl) (by decide) rfl rfl ?_
      refine x_aload_n d_Z_law_602 rfl 1 rfl ?_
      refine x_aload_n d_Z_law_603 rfl 0 rfl ?_
      refine x_iload_n d_Z_law_604 rfl 3 rfl ?_
      refine x_iconst d_Z_law_605 ic_1 ?_
      refine x_iadd d_Z_law_606 ?_
      obtain ⟨g151, h⟩ := gd_inv h
      refine x_sald d_Z_law_607 (inB_in g151) ?_
      refine x_aload_n d_Z_law_608 rfl 0 rfl ?_
      refine x_iload_n d_Z_law_609 rfl 3 rfl ?_
      refine x_iconst d_Z_law_610 ic_2 ?_
      refine x_iadd d_Z_law_611 ?_
      obtain ⟨g152, h⟩ := gd_inv h
      refine x_sald d_Z_law_612 (inB_in g152) ?_
      obtain ⟨v154, S155, q153, h⟩ := bd2_inv h
      refine y_V2i (v := v154) (S1 := S155) d_Z_law_613 ml_13_65 kd_0 rfl (Nat.le_of_ble_eq_true rfl) (Nat.le_of_ble_eq_true rfl) (c_N_last (by omega) q153) ?_
      refine x_pop d_Z_law_616 rfl ?_
      refine x_aload_n d_Z_law_617 rfl 2 rfl ?_
      refine x_aload_n d_Z_law_618 rfl 0 rfl ?_
      refine x_iload_n d_Z_law_619 rfl 3 rfl ?_
      refine x_iconst d_Z_law_620 ic_1 ?_
      refine x_iadd d_Z_law_621 ?_
      obtain ⟨g156, h⟩ := gd_inv h
      refine x_sald d_Z_law_622 (inB_in g156) ?_
      refine x_aload_n d_Z_law_623 rfl 0 rfl ?_
      refine x_iload_n d_Z_law_624 rfl 3 rfl ?_
      refine x_iconst d_Z_law_625 ic_2 ?_
      refine x_iadd d_Z_law_626 ?_
      obtain ⟨g157, h⟩ := gd_inv h
      refine x_sald d_Z_law_627 (inB_in g157) ?_
      obtain ⟨v159, S160, q158, h⟩ := bd2_inv h
      refine y_V2i (v := v159) (S1 := S160) d_Z_law_628 ml_13_68 kd_78 rfl (Nat.le_of_ble_eq_true rfl) (Nat.le_of_ble_eq_true rfl) (c_M_last (by omega) q158) ?_
      refine x_pop d_Z_law_631 rfl ?_
      refine x_goto (tgt := 1433) d_Z_law_632 rfl ?_
      obtain ⟨v161, e162, h⟩ := lt_inv h
      refine y_iinc (L1 := [(0, .ref 1010), (1, .ref 0), (2, .ref 78), (3, .int v161)]) e162 ic_6 d_Z_law_1433 3 rfl (Nat.le_of_ble_eq_true rfl) rfl rfl ?_
      refine x_goto (tgt := 18) d_Z_law_1436 rfl ?_
      exact ih v161 S160 _ h
    replace h := ite_f c150 h
    by_cases c163 : ((X.2 w3.toNatClampNeg) &&& (63 : Int32)) = 13
    · replace h := ite_t c163 h
      refine x_tabC (tgt := 635) 13 d_Z_law_33 (by rw [c163]; rfl) (by decide) rfl rfl ?_
      refine x_aload_n d_Z_law_635 rfl 1 rfl ?_
      refine x_aload_n d_Z_law_636 rfl 0 rfl ?_
      refine x_iload_n d_Z_law_637 rfl 3 rfl ?_
      refine x_iconst d_Z_law_638 ic_1 ?_
      refine x_iadd d_Z_law_639 ?_
      obtain ⟨g164, h⟩ := gd_inv h
      refine x_sald d_Z_law_640 (inB_in g164) ?_
      obtain ⟨v166, S167, q165, h⟩ := bd2_inv h
      refine y_V1i (v := v166) (S1 := S167) d_Z_law_641 ml_13_69 kd_0 rfl (Nat.le_of_ble_eq_true rfl) (Nat.le_of_ble_eq_true rfl) (c_N_pedal (by omega) q165) ?_
      refine x_pop d_Z_law_644 rfl ?_
      refine x_aload_n d_Z_law_645 rfl 2 rfl ?_
      refine x_aload_n d_Z_law_646 rfl 0 rfl ?_
      refine x_iload_n d_Z_law_647 rfl 3 rfl ?_
      refine x_iconst d_Z_law_648 ic_1 ?_
      refine x_iadd d_Z_law_649 ?_
      obtain ⟨g168, h⟩ := gd_inv h
      refine x_sald d_Z_law_650 (inB_in g168) ?_
      obtain ⟨v170, S171, q169, h⟩ := bd2_inv h
      refine y_V1i (v := v170) (S1 := S171) d_Z_law_651 ml_13_72 kd_78 rfl (Nat.le_of_ble_eq_true rfl) (Nat.le_of_ble_eq_true rfl) (c_M_pedal (by omega) q169) ?_
      refine x_pop d_Z_law_654 rfl ?_
      refine x_goto (tgt := 1433) d_Z_law_655 rfl ?_
      obtain ⟨v172, e173, h⟩ := lt_inv h
      refine y_iinc (L1 := [(0, .ref 1010), (1, .ref 0), (2, .ref 78), (3, .int v172)]) e173 ic_6 d_Z_law_1433 3 rfl (Nat.le_of_ble_eq_true rfl) rfl rfl ?_
      refine x_goto (tgt := 18) d_Z_law_1436 rfl ?_
      exact ih v172 S171 _ h
    replace h := ite_f c163 h
    by_cases c174 : ((X.2 w3.toNatClampNeg) &&& (63 : Int32)) = 14
    · replace h := ite_t c174 h
      refine x_tabC (tgt := 658) 14 d_Z_law_33 (by rw [c174]; rfl) (by decide) rfl rfl ?_
      refine x_aload_n d_Z_law_658 rfl 1 rfl ?_
      obtain ⟨v176, S177, q175, h⟩ := bd2_inv h
      refine y_V0i (v := v176) (S1 := S177) d_Z_law_659 ml_13_73 kd_0 rfl (Nat.le_of_ble_eq_true rfl) (Nat.le_of_ble_eq_true rfl) (c_N_undo (by omega) q175) ?_
      refine x_pop d_Z_law_662 rfl ?_
      refine x_aload_n d_Z_law_663 rfl 2 rfl ?_
      obtain ⟨v179, S180, q178, h⟩ := bd2_inv h
      refine y_V0i (v := v179) (S1 := S180) d_Z_law_664 ml_13_77 kd_78 rfl (Nat.le_of_ble_eq_true rfl) (Nat.le_of_ble_eq_true rfl) (c_M_undo (by omega) q178) ?_
      refine x_pop d_Z_law_667 rfl ?_
      refine x_goto (tgt := 1433) d_Z_law_668 rfl ?_
      obtain ⟨v181, e182, h⟩ := lt_inv h
      refine y_iinc (L1 := [(0, .ref 1010), (1, .ref 0), (2, .ref 78), (3, .int v181)]) e182 ic_6 d_Z_law_1433 3 rfl (Nat.le_of_ble_eq_true rfl) rfl rfl ?_
      refine x_goto (tgt := 18) d_Z_law_1436 rfl ?_
      exact ih v181 S180 _ h
    replace h := ite_f c174 h
    by_cases c183 : ((X.2 w3.toNatClampNeg) &&& (63 : Int32)) = 15
    · replace h := ite_t c183 h
      refine x_tabC (tgt := 671) 15 d_Z_law_33 (by rw [c183]; rfl) (by decide) rfl rfl ?_
      refine x_aload_n d_Z_law_671 rfl 1 rfl ?_
      obtain ⟨v185, S186, q184, h⟩ := bd2_inv h
      refine y_V0i (v := v185) (S1 := S186) d_Z_law_672 ml_13_78 kd_0 rfl (Nat.le_of_ble_eq_true rfl) (Nat.le_of_ble_eq_true rfl) (c_N_redo (by omega) q184) ?_
      refine x_pop d_Z_law_675 rfl ?_
      refine x_aload_n d_Z_law_676 rfl 2 rfl ?_
      obtain ⟨v188, S189, q187, h⟩ := bd2_inv h
      refine y_V0i (v := v188) (S1 := S189) d_Z_law_677 ml_13_81 kd_78 rfl (Nat.le_of_ble_eq_true rfl) (Nat.le_of_ble_eq_true rfl) (c_M_redo (by omega) q187) ?_
      refine x_pop d_Z_law_680 rfl ?_
      refine x_goto (tgt := 1433) d_Z_law_681 rfl ?_
      obtain ⟨v190, e191, h⟩ := lt_inv h
      refine y_iinc (L1 := [(0, .ref 1010), (1, .ref 0), (2, .ref 78), (3, .int v190)]) e191 ic_6 d_Z_law_1433 3 rfl (Nat.le_of_ble_eq_true rfl) rfl rfl ?_
      refine x_goto (tgt := 18) d_Z_law_1436 rfl ?_
      exact ih v190 S189 _ h
    replace h := ite_f c183 h
    by_cases c192 : ((X.2 w3.toNatClampNeg) &&& (63 : Int32)) = 16
    · replace h := ite_t c192 h
      refine x_tabC (tgt := 684) 16 d_Z_law_33 (by rw [c192]; rfl) (by decide) rfl rfl ?_
      refine x_aload_n d_Z_law_684 rfl 1 rfl ?_
      obtain ⟨v194, S195, q193, h⟩ := bd2_inv h
      refine y_V0i (v := v194) (S1 := S195) d_Z_law_685 ml_13_82 kd_0 rfl (Nat.le_of_ble_eq_true rfl) (Nat.le_of_ble_eq_true rfl) (c_N_clashes (by omega) q193) ?_
      refine x_pop d_Z_law_688 rfl ?_
      refine x_aload_n d_Z_law_689 rfl 2 rfl ?_
      obtain ⟨v197, S198, q196, h⟩ := bd2_inv h
      refine y_V0i (v := v197) (S1 := S198) d_Z_law_690 ml_13_85 kd_78 rfl (Nat.le_of_ble_eq_true rfl) (Nat.le_of_ble_eq_true rfl) (c_M_clashes (by omega) q196) ?_
      refine x_pop d_Z_law_693 rfl ?_
      refine x_goto (tgt := 1433) d_Z_law_694 rfl ?_
      obtain ⟨v199, e200, h⟩ := lt_inv h
      refine y_iinc (L1 := [(0, .ref 1010), (1, .ref 0), (2, .ref 78), (3, .int v199)]) e200 ic_6 d_Z_law_1433 3 rfl (Nat.le_of_ble_eq_true rfl) rfl rfl ?_
      refine x_goto (tgt := 18) d_Z_law_1436 rfl ?_
      exact ih v199 S198 _ h
    replace h := ite_f c192 h
    by_cases c201 : ((X.2 w3.toNatClampNeg) &&& (63 : Int32)) = 17
    · replace h := ite_t c201 h
      refine x_tabC (tgt := 697) 17 d_Z_law_33 (by rw [c201]; rfl) (by decide) rfl rfl ?_
      refine x_aload_n d_Z_law_697 rfl 1 rfl ?_
      obtain ⟨v203, S204, q202, h⟩ := bd2_inv h
      refine y_V0i (v := v203) (S1 := S204) d_Z_law_698 ml_13_86 kd_0 rfl (Nat.le_of_ble_eq_true rfl) (Nat.le_of_ble_eq_true rfl) (c_N_loss (by omega) q202) ?_
      refine x_pop d_Z_law_701 rfl ?_
      refine x_aload_n d_Z_law_702 rfl 2 rfl ?_
      obtain ⟨v206, S207, q205, h⟩ := bd2_inv h
      refine y_V0i (v := v206) (S1 := S207) d_Z_law_703 ml_13_89 kd_78 rfl (Nat.le_of_ble_eq_true rfl) (Nat.le_of_ble_eq_true rfl) (c_M_loss (by omega) q205) ?_
      refine x_pop d_Z_law_706 rfl ?_
      refine x_goto (tgt := 1433) d_Z_law_707 rfl ?_
      obtain ⟨v208, e209, h⟩ := lt_inv h
      refine y_iinc (L1 := [(0, .ref 1010), (1, .ref 0), (2, .ref 78), (3, .int v208)]) e209 ic_6 d_Z_law_1433 3 rfl (Nat.le_of_ble_eq_true rfl) rfl rfl ?_
      refine x_goto (tgt := 18) d_Z_law_1436 rfl ?_
      exact ih v208 S207 _ h
    replace h := ite_f c201 h
    by_cases c210 : ((X.2 w3.toNatClampNeg) &&& (63 : Int32)) = 18
    · replace h := ite_t c210 h
      refine x_tabC (tgt := 710) 18 d_Z_law_33 (by rw [c210]; rfl) (by decide) rfl rfl ?_
      refine x_aload_n d_Z_law_710 rfl 1 rfl ?_
      refine x_aload_n d_Z_law_711 rfl 0 rfl ?_
      refine x_iload_n d_Z_law_712 rfl 3 rfl ?_
      refine x_iconst d_Z_law_713 ic_1 ?_
      refine x_iadd d_Z_law_714 ?_
      obtain ⟨g211, h⟩ := gd_inv h
      refine x_sald d_Z_law_715 (inB_in g211) ?_
      obtain ⟨v213, S214, q212, h⟩ := bd2_inv h
      refine y_V1i (v := v213) (S1 := S214) d_Z_law_716 ml_13_90 kd_0 rfl (Nat.le_of_ble_eq_true rfl) (Nat.le_of_ble_eq_true rfl) (c_N_version (by omega) q212) ?_
      refine x_pop d_Z_law_719 rfl ?_
      refine x_aload_n d_Z_law_720 rfl 2 rfl ?_
      refine x_aload_n d_Z_law_721 rfl 0 rfl ?_
      refine x_iload_n d_Z_law_722 rfl 3 rfl ?_
      refine x_iconst d_Z_law_723 ic_1 ?_
      refine x_iadd d_Z_law_724 ?_
      obtain ⟨g215, h⟩ := gd_inv h
      refine x_sald d_Z_law_725 (inB_in g215) ?_
      obtain ⟨v217, S218, q216, h⟩ := bd2_inv h
      refine y_V1i (v := v217) (S1 := S218) d_Z_law_726 ml_13_93 kd_78 rfl (Nat.le_of_ble_eq_true rfl) (Nat.le_of_ble_eq_true rfl) (c_M_version (by omega) q216) ?_
      refine x_pop d_Z_law_729 rfl ?_
      refine x_goto (tgt := 1433) d_Z_law_730 rfl ?_
      obtain ⟨v219, e220, h⟩ := lt_inv h
      refine y_iinc (L1 := [(0, .ref 1010), (1, .ref 0), (2, .ref 78), (3, .int v219)]) e220 ic_6 d_Z_law_1433 3 rfl (Nat.le_of_ble_eq_true rfl) rfl rfl ?_
      refine x_goto (tgt := 18) d_Z_law_1436 rfl ?_
      exact ih v219 S218 _ h
    replace h := ite_f c210 h
    by_cases c221 : ((X.2 w3.toNatClampNeg) &&& (63 : Int32)) = 19
    · replace h := ite_t c221 h
      refine x_tabC (tgt := 733) 19 d_Z_law_33 (by rw [c221]; rfl) (by decide) rfl rfl ?_
      refine x_aload_n d_Z_law_733 rfl 1 rfl ?_
      refine x_aload_n d_Z_law_734 rfl 0 rfl ?_
      refine x_iload_n d_Z_law_735 rfl 3 rfl ?_
      refine x_iconst d_Z_law_736 ic_1 ?_
      refine x_iadd d_Z_law_737 ?_
      obtain ⟨g222, h⟩ := gd_inv h
      refine x_sald d_Z_law_738 (inB_in g222) ?_
      refine x_aload_n d_Z_law_739 rfl 0 rfl ?_
      refine x_iload_n d_Z_law_740 rfl 3 rfl ?_
      refine x_iconst d_Z_law_741 ic_2 ?_
      refine x_iadd d_Z_law_742 ?_
      obtain ⟨g223, h⟩ := gd_inv h
      refine x_sald d_Z_law_743 (inB_in g223) ?_
      obtain ⟨v225, S226, q224, h⟩ := bd2_inv h
      refine y_V2i (v := v225) (S1 := S226) d_Z_law_744 ml_13_94 kd_0 rfl (Nat.le_of_ble_eq_true rfl) (Nat.le_of_ble_eq_true rfl) (c_N_child (by omega) q224) ?_
      refine x_aload_n d_Z_law_747 rfl 2 rfl ?_
      refine x_aload_n d_Z_law_748 rfl 0 rfl ?_
      refine x_iload_n d_Z_law_749 rfl 3 rfl ?_
      refine x_iconst d_Z_law_750 ic_1 ?_
      refine x_iadd d_Z_law_751 ?_
      obtain ⟨g227, h⟩ := gd_inv h
      refine x_sald d_Z_law_752 (inB_in g227) ?_
      refine x_aload_n d_Z_law_753 rfl 0 rfl ?_
      refine x_iload_n d_Z_law_754 rfl 3 rfl ?_
      refine x_iconst d_Z_law_755 ic_2 ?_
      refine x_iadd d_Z_law_756 ?_
      obtain ⟨g228, h⟩ := gd_inv h
      refine x_sald d_Z_law_757 (inB_in g228) ?_
      obtain ⟨v230, S231, q229, h⟩ := bd2_inv h
      refine y_V2i (v := v230) (S1 := S231) d_Z_law_758 ml_13_97 kd_78 rfl (Nat.le_of_ble_eq_true rfl) (Nat.le_of_ble_eq_true rfl) (c_M_child (by omega) q229) ?_
      refine x_icmp_eq (tgt := 1433) d_Z_law_761 rfl (fun c232 => ?_) (fun c232 => ?_)
      · replace h := ite_t c232 h
        obtain ⟨v233, e234, h⟩ := lt_inv h
        refine y_iinc (L1 := [(0, .ref 1010), (1, .ref 0), (2, .ref 78), (3, .int v233)]) e234 ic_6 d_Z_law_1433 3 rfl (Nat.le_of_ble_eq_true rfl) rfl rfl ?_
        refine x_goto (tgt := 18) d_Z_law_1436 rfl ?_
        exact ih v233 S231 _ h
      · replace h := ite_f c232 h
        refine x_iconst d_Z_law_764 ic_0 ?_
        obtain rfl := Option.some.inj h
        exact x_ret (r := some (.int (0 : Int32))) d_Z_law_765 ⟨_, rfl, rfl⟩
    replace h := ite_f c221 h
    by_cases c235 : ((X.2 w3.toNatClampNeg) &&& (63 : Int32)) = 20
    · replace h := ite_t c235 h
      refine x_tabC (tgt := 766) 20 d_Z_law_33 (by rw [c235]; rfl) (by decide) rfl rfl ?_
      refine x_aload_n d_Z_law_766 rfl 1 rfl ?_
      refine x_aload_n d_Z_law_767 rfl 0 rfl ?_
      refine x_iload_n d_Z_law_768 rfl 3 rfl ?_
      refine x_iconst d_Z_law_769 ic_1 ?_
      refine x_iadd d_Z_law_770 ?_
      obtain ⟨g236, h⟩ := gd_inv h
      refine x_sald d_Z_law_771 (inB_in g236) ?_
      refine x_aload_n d_Z_law_772 rfl 0 rfl ?_
      refine x_iload_n d_Z_law_773 rfl 3 rfl ?_
      refine x_iconst d_Z_law_774 ic_2 ?_
      refine x_iadd d_Z_law_775 ?_
      obtain ⟨g237, h⟩ := gd_inv h
      refine x_sald d_Z_law_776 (inB_in g237) ?_
      obtain ⟨v239, S240, q238, h⟩ := bd2_inv h
      refine y_V2i (v := v239) (S1 := S240) d_Z_law_777 ml_13_98 kd_0 rfl (Nat.le_of_ble_eq_true rfl) (Nat.le_of_ble_eq_true rfl) (c_N_forbids (by omega) q238) ?_
      refine x_pop d_Z_law_780 rfl ?_
      refine x_aload_n d_Z_law_781 rfl 2 rfl ?_
      refine x_aload_n d_Z_law_782 rfl 0 rfl ?_
      refine x_iload_n d_Z_law_783 rfl 3 rfl ?_
      refine x_iconst d_Z_law_784 ic_1 ?_
      refine x_iadd d_Z_law_785 ?_
      obtain ⟨g241, h⟩ := gd_inv h
      refine x_sald d_Z_law_786 (inB_in g241) ?_
      refine x_aload_n d_Z_law_787 rfl 0 rfl ?_
      refine x_iload_n d_Z_law_788 rfl 3 rfl ?_
      refine x_iconst d_Z_law_789 ic_2 ?_
      refine x_iadd d_Z_law_790 ?_
      obtain ⟨g242, h⟩ := gd_inv h
      refine x_sald d_Z_law_791 (inB_in g242) ?_
      obtain ⟨v244, S245, q243, h⟩ := bd2_inv h
      refine y_V2i (v := v244) (S1 := S245) d_Z_law_792 ml_13_101 kd_78 rfl (Nat.le_of_ble_eq_true rfl) (Nat.le_of_ble_eq_true rfl) (c_M_forbids (by omega) q243) ?_
      refine x_pop d_Z_law_795 rfl ?_
      refine x_goto (tgt := 1433) d_Z_law_796 rfl ?_
      obtain ⟨v246, e247, h⟩ := lt_inv h
      refine y_iinc (L1 := [(0, .ref 1010), (1, .ref 0), (2, .ref 78), (3, .int v246)]) e247 ic_6 d_Z_law_1433 3 rfl (Nat.le_of_ble_eq_true rfl) rfl rfl ?_
      refine x_goto (tgt := 18) d_Z_law_1436 rfl ?_
      exact ih v246 S245 _ h
    replace h := ite_f c235 h
    by_cases c248 : ((X.2 w3.toNatClampNeg) &&& (63 : Int32)) = 21
    · replace h := ite_t c248 h
      refine x_tabC (tgt := 799) 21 d_Z_law_33 (by rw [c248]; rfl) (by decide) rfl rfl ?_
      refine x_aload_n d_Z_law_799 rfl 1 rfl ?_
      refine x_aload_n d_Z_law_800 rfl 0 rfl ?_
      refine x_iload_n d_Z_law_801 rfl 3 rfl ?_
      refine x_iconst d_Z_law_802 ic_1 ?_
      refine x_iadd d_Z_law_803 ?_
      obtain ⟨g249, h⟩ := gd_inv h
      refine x_sald d_Z_law_804 (inB_in g249) ?_
      refine x_aload_n d_Z_law_805 rfl 0 rfl ?_
      refine x_iload_n d_Z_law_806 rfl 3 rfl ?_
      refine x_iconst d_Z_law_807 ic_2 ?_
      refine x_iadd d_Z_law_808 ?_
      obtain ⟨g250, h⟩ := gd_inv h
      refine x_sald d_Z_law_809 (inB_in g250) ?_
      refine x_aload_n d_Z_law_810 rfl 0 rfl ?_
      refine x_iload_n d_Z_law_811 rfl 3 rfl ?_
      refine x_iconst d_Z_law_812 ic_3 ?_
      refine x_iadd d_Z_law_813 ?_
      obtain ⟨g251, h⟩ := gd_inv h
      refine x_sald d_Z_law_814 (inB_in g251) ?_
      obtain ⟨v253, S254, q252, h⟩ := bd2_inv h
      refine y_V3i (v := v253) (S1 := S254) d_Z_law_815 ml_13_102 kd_0 rfl (Nat.le_of_ble_eq_true rfl) (Nat.le_of_ble_eq_true rfl) (c_N_giveway (by omega) q252) ?_
      refine x_pop d_Z_law_818 rfl ?_
      refine x_aload_n d_Z_law_819 rfl 2 rfl ?_
      refine x_aload_n d_Z_law_820 rfl 0 rfl ?_
      refine x_iload_n d_Z_law_821 rfl 3 rfl ?_
      refine x_iconst d_Z_law_822 ic_1 ?_
      refine x_iadd d_Z_law_823 ?_
      obtain ⟨g255, h⟩ := gd_inv h
      refine x_sald d_Z_law_824 (inB_in g255) ?_
      refine x_aload_n d_Z_law_825 rfl 0 rfl ?_
      refine x_iload_n d_Z_law_826 rfl 3 rfl ?_
      refine x_iconst d_Z_law_827 ic_2 ?_
      refine x_iadd d_Z_law_828 ?_
      obtain ⟨g256, h⟩ := gd_inv h
      refine x_sald d_Z_law_829 (inB_in g256) ?_
      refine x_aload_n d_Z_law_830 rfl 0 rfl ?_
      refine x_iload_n d_Z_law_831 rfl 3 rfl ?_
      refine x_iconst d_Z_law_832 ic_3 ?_
      refine x_iadd d_Z_law_833 ?_
      obtain ⟨g257, h⟩ := gd_inv h
      refine x_sald d_Z_law_834 (inB_in g257) ?_
      obtain ⟨v259, S260, q258, h⟩ := bd2_inv h
      refine y_V3i (v := v259) (S1 := S260) d_Z_law_835 ml_13_106 kd_78 rfl (Nat.le_of_ble_eq_true rfl) (Nat.le_of_ble_eq_true rfl) (c_M_giveway (by omega) q258) ?_
      refine x_pop d_Z_law_838 rfl ?_
      refine x_goto (tgt := 1433) d_Z_law_839 rfl ?_
      obtain ⟨v261, e262, h⟩ := lt_inv h
      refine y_iinc (L1 := [(0, .ref 1010), (1, .ref 0), (2, .ref 78), (3, .int v261)]) e262 ic_6 d_Z_law_1433 3 rfl (Nat.le_of_ble_eq_true rfl) rfl rfl ?_
      refine x_goto (tgt := 18) d_Z_law_1436 rfl ?_
      exact ih v261 S260 _ h
    replace h := ite_f c248 h
    by_cases c263 : ((X.2 w3.toNatClampNeg) &&& (63 : Int32)) = 22
    · replace h := ite_t c263 h
      refine x_tabC (tgt := 842) 22 d_Z_law_33 (by rw [c263]; rfl) (by decide) rfl rfl ?_
      refine x_aload_n d_Z_law_842 rfl 1 rfl ?_
      refine x_aload_n d_Z_law_843 rfl 0 rfl ?_
      refine x_iload_n d_Z_law_844 rfl 3 rfl ?_
      refine x_iconst d_Z_law_845 ic_1 ?_
      refine x_iadd d_Z_law_846 ?_
      obtain ⟨g264, h⟩ := gd_inv h
      refine x_sald d_Z_law_847 (inB_in g264) ?_
      refine x_aload_n d_Z_law_848 rfl 0 rfl ?_
      refine x_iload_n d_Z_law_849 rfl 3 rfl ?_
      refine x_iconst d_Z_law_850 ic_2 ?_
      refine x_iadd d_Z_law_851 ?_
      obtain ⟨g265, h⟩ := gd_inv h
      refine x_sald d_Z_law_852 (inB_in g265) ?_
      obtain ⟨v267, S268, q266, h⟩ := bd2_inv h
      refine y_V2i (v := v267) (S1 := S268) d_Z_law_853 ml_13_107 kd_0 rfl (Nat.le_of_ble_eq_true rfl) (Nat.le_of_ble_eq_true rfl) (c_N_letin (by omega) q266) ?_
      refine x_pop d_Z_law_856 rfl ?_
      refine x_aload_n d_Z_law_857 rfl 2 rfl ?_
      refine x_aload_n d_Z_law_858 rfl 0 rfl ?_
      refine x_iload_n d_Z_law_859 rfl 3 rfl ?_
      refine x_iconst d_Z_law_860 ic_1 ?_
      refine x_iadd d_Z_law_861 ?_
      obtain ⟨g269, h⟩ := gd_inv h
      refine x_sald d_Z_law_862 (inB_in g269) ?_
      refine x_aload_n d_Z_law_863 rfl 0 rfl ?_
      refine x_iload_n d_Z_law_864 rfl 3 rfl ?_
      refine x_iconst d_Z_law_865 ic_2 ?_
      refine x_iadd d_Z_law_866 ?_
      obtain ⟨g270, h⟩ := gd_inv h
      refine x_sald d_Z_law_867 (inB_in g270) ?_
      obtain ⟨v272, S273, q271, h⟩ := bd2_inv h
      refine y_V2i (v := v272) (S1 := S273) d_Z_law_868 ml_13_110 kd_78 rfl (Nat.le_of_ble_eq_true rfl) (Nat.le_of_ble_eq_true rfl) (c_M_letin (by omega) q271) ?_
      refine x_pop d_Z_law_871 rfl ?_
      refine x_goto (tgt := 1433) d_Z_law_872 rfl ?_
      obtain ⟨v274, e275, h⟩ := lt_inv h
      refine y_iinc (L1 := [(0, .ref 1010), (1, .ref 0), (2, .ref 78), (3, .int v274)]) e275 ic_6 d_Z_law_1433 3 rfl (Nat.le_of_ble_eq_true rfl) rfl rfl ?_
      refine x_goto (tgt := 18) d_Z_law_1436 rfl ?_
      exact ih v274 S273 _ h
    replace h := ite_f c263 h
    by_cases c276 : ((X.2 w3.toNatClampNeg) &&& (63 : Int32)) = 23
    · replace h := ite_t c276 h
      refine x_tabC (tgt := 875) 23 d_Z_law_33 (by rw [c276]; rfl) (by decide) rfl rfl ?_
      refine x_aload_n d_Z_law_875 rfl 1 rfl ?_
      refine x_aload_n d_Z_law_876 rfl 0 rfl ?_
      refine x_iload_n d_Z_law_877 rfl 3 rfl ?_
      refine x_iconst d_Z_law_878 ic_1 ?_
      refine x_iadd d_Z_law_879 ?_
      obtain ⟨g277, h⟩ := gd_inv h
      refine x_sald d_Z_law_880 (inB_in g277) ?_
      obtain ⟨v279, S280, q278, h⟩ := bd2_inv h
      refine y_V1i (v := v279) (S1 := S280) d_Z_law_881 ml_13_111 kd_0 rfl (Nat.le_of_ble_eq_true rfl) (Nat.le_of_ble_eq_true rfl) (c_N_pedals (by omega) q278) ?_
      refine x_pop d_Z_law_884 rfl ?_
      refine x_aload_n d_Z_law_885 rfl 2 rfl ?_
      refine x_aload_n d_Z_law_886 rfl 0 rfl ?_
      refine x_iload_n d_Z_law_887 rfl 3 rfl ?_
      refine x_iconst d_Z_law_888 ic_1 ?_
      refine x_iadd d_Z_law_889 ?_
      obtain ⟨g281, h⟩ := gd_inv h
      refine x_sald d_Z_law_890 (inB_in g281) ?_
      obtain ⟨v283, S284, q282, h⟩ := bd2_inv h
      refine y_V1i (v := v283) (S1 := S284) d_Z_law_891 ml_13_114 kd_78 rfl (Nat.le_of_ble_eq_true rfl) (Nat.le_of_ble_eq_true rfl) (c_M_pedals (by omega) q282) ?_
      refine x_pop d_Z_law_894 rfl ?_
      refine x_goto (tgt := 1433) d_Z_law_895 rfl ?_
      obtain ⟨v285, e286, h⟩ := lt_inv h
      refine y_iinc (L1 := [(0, .ref 1010), (1, .ref 0), (2, .ref 78), (3, .int v285)]) e286 ic_6 d_Z_law_1433 3 rfl (Nat.le_of_ble_eq_true rfl) rfl rfl ?_
      refine x_goto (tgt := 18) d_Z_law_1436 rfl ?_
      exact ih v285 S284 _ h
    replace h := ite_f c276 h
    by_cases c287 : ((X.2 w3.toNatClampNeg) &&& (63 : Int32)) = 24
    · replace h := ite_t c287 h
      refine x_tabC (tgt := 898) 24 d_Z_law_33 (by rw [c287]; rfl) (by decide) rfl rfl ?_
      refine x_aload_n d_Z_law_898 rfl 1 rfl ?_
      refine x_aload_n d_Z_law_899 rfl 0 rfl ?_
      refine x_iload_n d_Z_law_900 rfl 3 rfl ?_
      refine x_iconst d_Z_law_901 ic_1 ?_
      refine x_iadd d_Z_law_902 ?_
      obtain ⟨g288, h⟩ := gd_inv h
      refine x_sald d_Z_law_903 (inB_in g288) ?_
      obtain ⟨v290, S291, q289, h⟩ := bd2_inv h
      refine y_V1i (v := v290) (S1 := S291) d_Z_law_904 ml_13_115 kd_0 rfl (Nat.le_of_ble_eq_true rfl) (Nat.le_of_ble_eq_true rfl) (c_N_spread (by omega) q289) ?_
      refine x_pop d_Z_law_907 rfl ?_
      refine x_aload_n d_Z_law_908 rfl 2 rfl ?_
      refine x_aload_n d_Z_law_909 rfl 0 rfl ?_
      refine x_iload_n d_Z_law_910 rfl 3 rfl ?_
      refine x_iconst d_Z_law_911 ic_1 ?_
      refine x_iadd d_Z_law_912 ?_
      obtain ⟨g292, h⟩ := gd_inv h
      refine x_sald d_Z_law_913 (inB_in g292) ?_
      obtain ⟨v294, S295, q293, h⟩ := bd2_inv h
      refine y_V1i (v := v294) (S1 := S295) d_Z_law_914 ml_13_118 kd_78 rfl (Nat.le_of_ble_eq_true rfl) (Nat.le_of_ble_eq_true rfl) (c_M_spread (by omega) q293) ?_
      refine x_pop d_Z_law_917 rfl ?_
      refine x_goto (tgt := 1433) d_Z_law_918 rfl ?_
      obtain ⟨v296, e297, h⟩ := lt_inv h
      refine y_iinc (L1 := [(0, .ref 1010), (1, .ref 0), (2, .ref 78), (3, .int v296)]) e297 ic_6 d_Z_law_1433 3 rfl (Nat.le_of_ble_eq_true rfl) rfl rfl ?_
      refine x_goto (tgt := 18) d_Z_law_1436 rfl ?_
      exact ih v296 S295 _ h
    replace h := ite_f c287 h
    by_cases c298 : ((X.2 w3.toNatClampNeg) &&& (63 : Int32)) = 25
    · replace h := ite_t c298 h
      refine x_tabC (tgt := 921) 25 d_Z_law_33 (by rw [c298]; rfl) (by decide) rfl rfl ?_
      refine x_aload_n d_Z_law_921 rfl 1 rfl ?_
      refine x_aload_n d_Z_law_922 rfl 0 rfl ?_
      refine x_iload_n d_Z_law_923 rfl 3 rfl ?_
      refine x_iconst d_Z_law_924 ic_1 ?_
      refine x_iadd d_Z_law_925 ?_
      obtain ⟨g299, h⟩ := gd_inv h
      refine x_sald d_Z_law_926 (inB_in g299) ?_
      obtain ⟨v301, S302, q300, h⟩ := bd2_inv h
      refine y_V1i (v := v301) (S1 := S302) d_Z_law_927 ml_13_119 kd_0 rfl (Nat.le_of_ble_eq_true rfl) (Nat.le_of_ble_eq_true rfl) (c_N_leaps (by omega) q300) ?_
      refine x_pop d_Z_law_930 rfl ?_
      refine x_aload_n d_Z_law_931 rfl 2 rfl ?_
      refine x_aload_n d_Z_law_932 rfl 0 rfl ?_
      refine x_iload_n d_Z_law_933 rfl 3 rfl ?_
      refine x_iconst d_Z_law_934 ic_1 ?_
      refine x_iadd d_Z_law_935 ?_
      obtain ⟨g303, h⟩ := gd_inv h
      refine x_sald d_Z_law_936 (inB_in g303) ?_
      obtain ⟨v305, S306, q304, h⟩ := bd2_inv h
      refine y_V1i (v := v305) (S1 := S306) d_Z_law_937 ml_13_122 kd_78 rfl (Nat.le_of_ble_eq_true rfl) (Nat.le_of_ble_eq_true rfl) (c_M_leaps (by omega) q304) ?_
      refine x_pop d_Z_law_940 rfl ?_
      refine x_goto (tgt := 1433) d_Z_law_941 rfl ?_
      obtain ⟨v307, e308, h⟩ := lt_inv h
      refine y_iinc (L1 := [(0, .ref 1010), (1, .ref 0), (2, .ref 78), (3, .int v307)]) e308 ic_6 d_Z_law_1433 3 rfl (Nat.le_of_ble_eq_true rfl) rfl rfl ?_
      refine x_goto (tgt := 18) d_Z_law_1436 rfl ?_
      exact ih v307 S306 _ h
    replace h := ite_f c298 h
    by_cases c309 : ((X.2 w3.toNatClampNeg) &&& (63 : Int32)) = 26
    · replace h := ite_t c309 h
      refine x_tabC (tgt := 944) 26 d_Z_law_33 (by rw [c309]; rfl) (by decide) rfl rfl ?_
      refine x_aload_n d_Z_law_944 rfl 1 rfl ?_
      obtain ⟨v311, S312, q310, h⟩ := bd2_inv h
      refine y_V0i (v := v311) (S1 := S312) d_Z_law_945 ml_13_123 kd_0 rfl (Nat.le_of_ble_eq_true rfl) (Nat.le_of_ble_eq_true rfl) (c_N_blur (by omega) q310) ?_
      refine x_pop d_Z_law_948 rfl ?_
      refine x_aload_n d_Z_law_949 rfl 2 rfl ?_
      obtain ⟨v314, S315, q313, h⟩ := bd2_inv h
      refine y_V0i (v := v314) (S1 := S315) d_Z_law_950 ml_13_126 kd_78 rfl (Nat.le_of_ble_eq_true rfl) (Nat.le_of_ble_eq_true rfl) (c_M_blur (by omega) q313) ?_
      refine x_pop d_Z_law_953 rfl ?_
      refine x_goto (tgt := 1433) d_Z_law_954 rfl ?_
      obtain ⟨v316, e317, h⟩ := lt_inv h
      refine y_iinc (L1 := [(0, .ref 1010), (1, .ref 0), (2, .ref 78), (3, .int v316)]) e317 ic_6 d_Z_law_1433 3 rfl (Nat.le_of_ble_eq_true rfl) rfl rfl ?_
      refine x_goto (tgt := 18) d_Z_law_1436 rfl ?_
      exact ih v316 S315 _ h
    replace h := ite_f c309 h
    by_cases c318 : ((X.2 w3.toNatClampNeg) &&& (63 : Int32)) = 27
    · replace h := ite_t c318 h
      refine x_tabC (tgt := 957) 27 d_Z_law_33 (by rw [c318]; rfl) (by decide) rfl rfl ?_
      refine x_aload_n d_Z_law_957 rfl 1 rfl ?_
      refine x_aload_n d_Z_law_958 rfl 0 rfl ?_
      refine x_iload_n d_Z_law_959 rfl 3 rfl ?_
      refine x_iconst d_Z_law_960 ic_1 ?_
      refine x_iadd d_Z_law_961 ?_
      obtain ⟨g319, h⟩ := gd_inv h
      refine x_sald d_Z_law_962 (inB_in g319) ?_
      obtain ⟨v321, S322, q320, h⟩ := bd2_inv h
      refine y_V1i (v := v321) (S1 := S322) d_Z_law_963 ml_13_127 kd_0 rfl (Nat.le_of_ble_eq_true rfl) (Nat.le_of_ble_eq_true rfl) (c_N_open (by omega) q320) ?_
      refine x_pop d_Z_law_966 rfl ?_
      refine x_aload_n d_Z_law_967 rfl 2 rfl ?_
      refine x_aload_n d_Z_law_968 rfl 0 rfl ?_
      refine x_iload_n d_Z_law_969 rfl 3 rfl ?_
      refine x_iconst d_Z_law_970 ic_1 ?_
      refine x_iadd d_Z_law_971 ?_
      obtain ⟨g323, h⟩ := gd_inv h
      refine x_sald d_Z_law_972 (inB_in g323) ?_
      obtain ⟨v325, S326, q324, h⟩ := bd2_inv h
      refine y_V1i (v := v325) (S1 := S326) d_Z_law_973 ml_13_130 kd_78 rfl (Nat.le_of_ble_eq_true rfl) (Nat.le_of_ble_eq_true rfl) (c_M_open (by omega) q324) ?_
      refine x_pop d_Z_law_976 rfl ?_
      refine x_goto (tgt := 1433) d_Z_law_977 rfl ?_
      obtain ⟨v327, e328, h⟩ := lt_inv h
      refine y_iinc (L1 := [(0, .ref 1010), (1, .ref 0), (2, .ref 78), (3, .int v327)]) e328 ic_6 d_Z_law_1433 3 rfl (Nat.le_of_ble_eq_true rfl) rfl rfl ?_
      refine x_goto (tgt := 18) d_Z_law_1436 rfl ?_
      exact ih v327 S326 _ h
    replace h := ite_f c318 h
    by_cases c329 : ((X.2 w3.toNatClampNeg) &&& (63 : Int32)) = 28
    · replace h := ite_t c329 h
      refine x_tabC (tgt := 980) 28 d_Z_law_33 (by rw [c329]; rfl) (by decide) rfl rfl ?_
      refine x_aload_n d_Z_law_980 rfl 1 rfl ?_
      obtain ⟨v331, S332, q330, h⟩ := bd2_inv h
      refine y_V0i (v := v331) (S1 := S332) d_Z_law_981 ml_13_131 kd_0 rfl (Nat.le_of_ble_eq_true rfl) (Nat.le_of_ble_eq_true rfl) (c_N_lost (by omega) q330) ?_
      refine x_pop d_Z_law_984 rfl ?_
      refine x_aload_n d_Z_law_985 rfl 2 rfl ?_
      obtain ⟨v334, S335, q333, h⟩ := bd2_inv h
      refine y_V0i (v := v334) (S1 := S335) d_Z_law_986 ml_13_134 kd_78 rfl (Nat.le_of_ble_eq_true rfl) (Nat.le_of_ble_eq_true rfl) (c_M_lost (by omega) q333) ?_
      refine x_pop d_Z_law_989 rfl ?_
      refine x_goto (tgt := 1433) d_Z_law_990 rfl ?_
      obtain ⟨v336, e337, h⟩ := lt_inv h
      refine y_iinc (L1 := [(0, .ref 1010), (1, .ref 0), (2, .ref 78), (3, .int v336)]) e337 ic_6 d_Z_law_1433 3 rfl (Nat.le_of_ble_eq_true rfl) rfl rfl ?_
      refine x_goto (tgt := 18) d_Z_law_1436 rfl ?_
      exact ih v336 S335 _ h
    replace h := ite_f c329 h
    by_cases c338 : ((X.2 w3.toNatClampNeg) &&& (63 : Int32)) = 29
    · replace h := ite_t c338 h
      refine x_tabC (tgt := 993) 29 d_Z_law_33 (by rw [c338]; rfl) (by decide) rfl rfl ?_
      refine x_aload_n d_Z_law_993 rfl 1 rfl ?_
      obtain ⟨v340, S341, q339, h⟩ := bd2_inv h
      refine y_V0i (v := v340) (S1 := S341) d_Z_law_994 ml_13_135 kd_0 rfl (Nat.le_of_ble_eq_true rfl) (Nat.le_of_ble_eq_true rfl) (c_N_gaps (by omega) q339) ?_
      refine x_pop d_Z_law_997 rfl ?_
      refine x_aload_n d_Z_law_998 rfl 2 rfl ?_
      obtain ⟨v343, S344, q342, h⟩ := bd2_inv h
      refine y_V0i (v := v343) (S1 := S344) d_Z_law_999 ml_13_138 kd_78 rfl (Nat.le_of_ble_eq_true rfl) (Nat.le_of_ble_eq_true rfl) (c_M_gaps (by omega) q342) ?_
      refine x_pop d_Z_law_1002 rfl ?_
      refine x_goto (tgt := 1433) d_Z_law_1003 rfl ?_
      obtain ⟨v345, e346, h⟩ := lt_inv h
      refine y_iinc (L1 := [(0, .ref 1010), (1, .ref 0), (2, .ref 78), (3, .int v345)]) e346 ic_6 d_Z_law_1433 3 rfl (Nat.le_of_ble_eq_true rfl) rfl rfl ?_
      refine x_goto (tgt := 18) d_Z_law_1436 rfl ?_
      exact ih v345 S344 _ h
    replace h := ite_f c338 h
    by_cases c347 : ((X.2 w3.toNatClampNeg) &&& (63 : Int32)) = 30
    · replace h := ite_t c347 h
      refine x_tabC (tgt := 1006) 30 d_Z_law_33 (by rw [c347]; rfl) (by decide) rfl rfl ?_
      refine x_aload_n d_Z_law_1006 rfl 1 rfl ?_
      refine x_aload_n d_Z_law_1007 rfl 0 rfl ?_
      refine x_iload_n d_Z_law_1008 rfl 3 rfl ?_
      refine x_iconst d_Z_law_1009 ic_1 ?_
      refine x_iadd d_Z_law_1010 ?_
      obtain ⟨g348, h⟩ := gd_inv h
      refine x_sald d_Z_law_1011 (inB_in g348) ?_
      obtain ⟨v350, S351, q349, h⟩ := bd2_inv h
      refine y_V1i (v := v350) (S1 := S351) d_Z_law_1012 ml_13_139 kd_0 rfl (Nat.le_of_ble_eq_true rfl) (Nat.le_of_ble_eq_true rfl) (c_N_easier (by omega) q349) ?_
      refine x_pop d_Z_law_1015 rfl ?_
      refine x_aload_n d_Z_law_1016 rfl 2 rfl ?_
      refine x_aload_n d_Z_law_1017 rfl 0 rfl ?_
      refine x_iload_n d_Z_law_1018 rfl 3 rfl ?_
      refine x_iconst d_Z_law_1019 ic_1 ?_
      refine x_iadd d_Z_law_1020 ?_
      obtain ⟨g352, h⟩ := gd_inv h
      refine x_sald d_Z_law_1021 (inB_in g352) ?_
      obtain ⟨v354, S355, q353, h⟩ := bd2_inv h
      refine y_V1i (v := v354) (S1 := S355) d_Z_law_1022 ml_13_142 kd_78 rfl (Nat.le_of_ble_eq_true rfl) (Nat.le_of_ble_eq_true rfl) (c_M_easier (by omega) q353) ?_
      refine x_pop d_Z_law_1025 rfl ?_
      refine x_goto (tgt := 1433) d_Z_law_1026 rfl ?_
      obtain ⟨v356, e357, h⟩ := lt_inv h
      refine y_iinc (L1 := [(0, .ref 1010), (1, .ref 0), (2, .ref 78), (3, .int v356)]) e357 ic_6 d_Z_law_1433 3 rfl (Nat.le_of_ble_eq_true rfl) rfl rfl ?_
      refine x_goto (tgt := 18) d_Z_law_1436 rfl ?_
      exact ih v356 S355 _ h
    replace h := ite_f c347 h
    by_cases c358 : ((X.2 w3.toNatClampNeg) &&& (63 : Int32)) = 31
    · replace h := ite_t c358 h
      refine x_tabC (tgt := 1029) 31 d_Z_law_33 (by rw [c358]; rfl) (by decide) rfl rfl ?_
      refine x_aload_n d_Z_law_1029 rfl 1 rfl ?_
      obtain ⟨v360, S361, q359, h⟩ := bd2_inv h
      refine y_V0i (v := v360) (S1 := S361) d_Z_law_1030 ml_13_143 kd_0 rfl (Nat.le_of_ble_eq_true rfl) (Nat.le_of_ble_eq_true rfl) (c_N_thickest (by omega) q359) ?_
      refine x_pop d_Z_law_1033 rfl ?_
      refine x_aload_n d_Z_law_1034 rfl 2 rfl ?_
      obtain ⟨v363, S364, q362, h⟩ := bd2_inv h
      refine y_V0i (v := v363) (S1 := S364) d_Z_law_1035 ml_13_146 kd_78 rfl (Nat.le_of_ble_eq_true rfl) (Nat.le_of_ble_eq_true rfl) (c_M_thickest (by omega) q362) ?_
      refine x_pop d_Z_law_1038 rfl ?_
      refine x_goto (tgt := 1433) d_Z_law_1039 rfl ?_
      obtain ⟨v365, e366, h⟩ := lt_inv h
      refine y_iinc (L1 := [(0, .ref 1010), (1, .ref 0), (2, .ref 78), (3, .int v365)]) e366 ic_6 d_Z_law_1433 3 rfl (Nat.le_of_ble_eq_true rfl) rfl rfl ?_
      refine x_goto (tgt := 18) d_Z_law_1436 rfl ?_
      exact ih v365 S364 _ h
    replace h := ite_f c358 h
    by_cases c367 : ((X.2 w3.toNatClampNeg) &&& (63 : Int32)) = 32
    · replace h := ite_t c367 h
      refine x_tabC (tgt := 1042) 32 d_Z_law_33 (by rw [c367]; rfl) (by decide) rfl rfl ?_
      refine x_aload_n d_Z_law_1042 rfl 1 rfl ?_
      refine x_aload_n d_Z_law_1043 rfl 0 rfl ?_
      refine x_iload_n d_Z_law_1044 rfl 3 rfl ?_
      refine x_iconst d_Z_law_1045 ic_1 ?_
      refine x_iadd d_Z_law_1046 ?_
      obtain ⟨g368, h⟩ := gd_inv h
      refine x_sald d_Z_law_1047 (inB_in g368) ?_
      obtain ⟨v370, S371, q369, h⟩ := bd2_inv h
      refine y_V1i (v := v370) (S1 := S371) d_Z_law_1048 ml_13_147 kd_0 rfl (Nat.le_of_ble_eq_true rfl) (Nat.le_of_ble_eq_true rfl) (c_N_busiest (by omega) q369) ?_
      refine x_pop d_Z_law_1051 rfl ?_
      refine x_aload_n d_Z_law_1052 rfl 2 rfl ?_
      refine x_aload_n d_Z_law_1053 rfl 0 rfl ?_
      refine x_iload_n d_Z_law_1054 rfl 3 rfl ?_
      refine x_iconst d_Z_law_1055 ic_1 ?_
      refine x_iadd d_Z_law_1056 ?_
      obtain ⟨g372, h⟩ := gd_inv h
      refine x_sald d_Z_law_1057 (inB_in g372) ?_
      obtain ⟨v374, S375, q373, h⟩ := bd2_inv h
      refine y_V1i (v := v374) (S1 := S375) d_Z_law_1058 ml_13_150 kd_78 rfl (Nat.le_of_ble_eq_true rfl) (Nat.le_of_ble_eq_true rfl) (c_M_busiest (by omega) q373) ?_
      refine x_pop d_Z_law_1061 rfl ?_
      refine x_goto (tgt := 1433) d_Z_law_1062 rfl ?_
      obtain ⟨v376, e377, h⟩ := lt_inv h
      refine y_iinc (L1 := [(0, .ref 1010), (1, .ref 0), (2, .ref 78), (3, .int v376)]) e377 ic_6 d_Z_law_1433 3 rfl (Nat.le_of_ble_eq_true rfl) rfl rfl ?_
      refine x_goto (tgt := 18) d_Z_law_1436 rfl ?_
      exact ih v376 S375 _ h
    replace h := ite_f c367 h
    by_cases c378 : ((X.2 w3.toNatClampNeg) &&& (63 : Int32)) = 33
    · replace h := ite_t c378 h
      refine x_tabC (tgt := 1065) 33 d_Z_law_33 (by rw [c378]; rfl) (by decide) rfl rfl ?_
      refine x_aload_n d_Z_law_1065 rfl 1 rfl ?_
      refine x_aload_n d_Z_law_1066 rfl 0 rfl ?_
      refine x_iload_n d_Z_law_1067 rfl 3 rfl ?_
      refine x_iconst d_Z_law_1068 ic_1 ?_
      refine x_iadd d_Z_law_1069 ?_
      obtain ⟨g379, h⟩ := gd_inv h
      refine x_sald d_Z_law_1070 (inB_in g379) ?_
      obtain ⟨v381, S382, q380, h⟩ := bd2_inv h
      refine y_V1i (v := v381) (S1 := S382) d_Z_law_1071 ml_13_151 kd_0 rfl (Nat.le_of_ble_eq_true rfl) (Nat.le_of_ble_eq_true rfl) (c_N_law (by omega) q380) ?_
      refine x_pop d_Z_law_1074 rfl ?_
      refine x_aload_n d_Z_law_1075 rfl 2 rfl ?_
      refine x_aload_n d_Z_law_1076 rfl 0 rfl ?_
      refine x_iload_n d_Z_law_1077 rfl 3 rfl ?_
      refine x_iconst d_Z_law_1078 ic_1 ?_
      refine x_iadd d_Z_law_1079 ?_
      obtain ⟨g383, h⟩ := gd_inv h
      refine x_sald d_Z_law_1080 (inB_in g383) ?_
      obtain ⟨v385, S386, q384, h⟩ := bd2_inv h
      refine y_V1i (v := v385) (S1 := S386) d_Z_law_1081 ml_13_154 kd_78 rfl (Nat.le_of_ble_eq_true rfl) (Nat.le_of_ble_eq_true rfl) (c_M_law (by omega) q384) ?_
      refine x_pop d_Z_law_1084 rfl ?_
      refine x_goto (tgt := 1433) d_Z_law_1085 rfl ?_
      obtain ⟨v387, e388, h⟩ := lt_inv h
      refine y_iinc (L1 := [(0, .ref 1010), (1, .ref 0), (2, .ref 78), (3, .int v387)]) e388 ic_6 d_Z_law_1433 3 rfl (Nat.le_of_ble_eq_true rfl) rfl rfl ?_
      refine x_goto (tgt := 18) d_Z_law_1436 rfl ?_
      exact ih v387 S386 _ h
    replace h := ite_f c378 h
    by_cases c389 : ((X.2 w3.toNatClampNeg) &&& (63 : Int32)) = 34
    · replace h := ite_t c389 h
      refine x_tabC (tgt := 1088) 34 d_Z_law_33 (by rw [c389]; rfl) (by decide) rfl rfl ?_
      refine x_aload_n d_Z_law_1088 rfl 1 rfl ?_
      obtain ⟨v391, S392, q390, h⟩ := bd2_inv h
      refine y_V0i (v := v391) (S1 := S392) d_Z_law_1089 ml_13_155 kd_0 rfl (Nat.le_of_ble_eq_true rfl) (Nat.le_of_ble_eq_true rfl) (c_N_dearest (by omega) q390) ?_
      refine x_pop d_Z_law_1092 rfl ?_
      refine x_aload_n d_Z_law_1093 rfl 2 rfl ?_
      obtain ⟨v394, S395, q393, h⟩ := bd2_inv h
      refine y_V0i (v := v394) (S1 := S395) d_Z_law_1094 ml_13_158 kd_78 rfl (Nat.le_of_ble_eq_true rfl) (Nat.le_of_ble_eq_true rfl) (c_M_dearest (by omega) q393) ?_
      refine x_pop d_Z_law_1097 rfl ?_
      refine x_goto (tgt := 1433) d_Z_law_1098 rfl ?_
      obtain ⟨v396, e397, h⟩ := lt_inv h
      refine y_iinc (L1 := [(0, .ref 1010), (1, .ref 0), (2, .ref 78), (3, .int v396)]) e397 ic_6 d_Z_law_1433 3 rfl (Nat.le_of_ble_eq_true rfl) rfl rfl ?_
      refine x_goto (tgt := 18) d_Z_law_1436 rfl ?_
      exact ih v396 S395 _ h
    replace h := ite_f c389 h
    by_cases c398 : ((X.2 w3.toNatClampNeg) &&& (63 : Int32)) = 35
    · replace h := ite_t c398 h
      refine x_tabC (tgt := 1101) 35 d_Z_law_33 (by rw [c398]; rfl) (by decide) rfl rfl ?_
      refine x_aload_n d_Z_law_1101 rfl 1 rfl ?_
      refine x_aload_n d_Z_law_1102 rfl 0 rfl ?_
      refine x_iload_n d_Z_law_1103 rfl 3 rfl ?_
      refine x_iconst d_Z_law_1104 ic_1 ?_
      refine x_iadd d_Z_law_1105 ?_
      obtain ⟨g399, h⟩ := gd_inv h
      refine x_sald d_Z_law_1106 (inB_in g399) ?_
      obtain ⟨v401, S402, q400, h⟩ := bd2_inv h
      refine y_V1i (v := v401) (S1 := S402) d_Z_law_1107 ml_13_159 kd_0 rfl (Nat.le_of_ble_eq_true rfl) (Nat.le_of_ble_eq_true rfl) (c_N_could (by omega) q400) ?_
      refine x_pop d_Z_law_1110 rfl ?_
      refine x_aload_n d_Z_law_1111 rfl 2 rfl ?_
      refine x_aload_n d_Z_law_1112 rfl 0 rfl ?_
      refine x_iload_n d_Z_law_1113 rfl 3 rfl ?_
      refine x_iconst d_Z_law_1114 ic_1 ?_
      refine x_iadd d_Z_law_1115 ?_
      obtain ⟨g403, h⟩ := gd_inv h
      refine x_sald d_Z_law_1116 (inB_in g403) ?_
      obtain ⟨v405, S406, q404, h⟩ := bd2_inv h
      refine y_V1i (v := v405) (S1 := S406) d_Z_law_1117 ml_13_162 kd_78 rfl (Nat.le_of_ble_eq_true rfl) (Nat.le_of_ble_eq_true rfl) (c_M_could (by omega) q404) ?_
      refine x_pop d_Z_law_1120 rfl ?_
      refine x_goto (tgt := 1433) d_Z_law_1121 rfl ?_
      obtain ⟨v407, e408, h⟩ := lt_inv h
      refine y_iinc (L1 := [(0, .ref 1010), (1, .ref 0), (2, .ref 78), (3, .int v407)]) e408 ic_6 d_Z_law_1433 3 rfl (Nat.le_of_ble_eq_true rfl) rfl rfl ?_
      refine x_goto (tgt := 18) d_Z_law_1436 rfl ?_
      exact ih v407 S406 _ h
    replace h := ite_f c398 h
    by_cases c409 : ((X.2 w3.toNatClampNeg) &&& (63 : Int32)) = 36
    · replace h := ite_t c409 h
      refine x_tabC (tgt := 1124) 36 d_Z_law_33 (by rw [c409]; rfl) (by decide) rfl rfl ?_
      refine x_aload_n d_Z_law_1124 rfl 1 rfl ?_
      refine x_aload_n d_Z_law_1125 rfl 0 rfl ?_
      refine x_iload_n d_Z_law_1126 rfl 3 rfl ?_
      refine x_iconst d_Z_law_1127 ic_1 ?_
      refine x_iadd d_Z_law_1128 ?_
      obtain ⟨g410, h⟩ := gd_inv h
      refine x_sald d_Z_law_1129 (inB_in g410) ?_
      obtain ⟨v412, q411, h⟩ := bd_inv h
      refine y_V1i (v := v412) (S1 := S) d_Z_law_1130 ml_13_163 kd_0 rfl (Nat.le_of_ble_eq_true rfl) (Nat.le_of_ble_eq_true rfl) (c_N_lies (by omega) q411) ?_
      refine x_pop d_Z_law_1133 rfl ?_
      refine x_aload_n d_Z_law_1134 rfl 2 rfl ?_
      refine x_aload_n d_Z_law_1135 rfl 0 rfl ?_
      refine x_iload_n d_Z_law_1136 rfl 3 rfl ?_
      refine x_iconst d_Z_law_1137 ic_1 ?_
      refine x_iadd d_Z_law_1138 ?_
      obtain ⟨g413, h⟩ := gd_inv h
      refine x_sald d_Z_law_1139 (inB_in g413) ?_
      obtain ⟨v415, q414, h⟩ := bd_inv h
      refine y_V1i (v := v415) (S1 := S) d_Z_law_1140 ml_13_166 kd_78 rfl (Nat.le_of_ble_eq_true rfl) (Nat.le_of_ble_eq_true rfl) (c_M_lies (by omega) q414) ?_
      refine x_pop d_Z_law_1143 rfl ?_
      refine x_goto (tgt := 1433) d_Z_law_1144 rfl ?_
      obtain ⟨v416, e417, h⟩ := lt_inv h
      refine y_iinc (L1 := [(0, .ref 1010), (1, .ref 0), (2, .ref 78), (3, .int v416)]) e417 ic_6 d_Z_law_1433 3 rfl (Nat.le_of_ble_eq_true rfl) rfl rfl ?_
      refine x_goto (tgt := 18) d_Z_law_1436 rfl ?_
      exact ih v416 S _ h
    replace h := ite_f c409 h
    by_cases c418 : ((X.2 w3.toNatClampNeg) &&& (63 : Int32)) = 37
    · replace h := ite_t c418 h
      refine x_tabC (tgt := 1147) 37 d_Z_law_33 (by rw [c418]; rfl) (by decide) rfl rfl ?_
      refine x_aload_n d_Z_law_1147 rfl 1 rfl ?_
      refine x_aload_n d_Z_law_1148 rfl 0 rfl ?_
      refine x_iload_n d_Z_law_1149 rfl 3 rfl ?_
      refine x_iconst d_Z_law_1150 ic_1 ?_
      refine x_iadd d_Z_law_1151 ?_
      obtain ⟨g419, h⟩ := gd_inv h
      refine x_sald d_Z_law_1152 (inB_in g419) ?_
      refine x_aload_n d_Z_law_1153 rfl 0 rfl ?_
      refine x_iload_n d_Z_law_1154 rfl 3 rfl ?_
      refine x_iconst d_Z_law_1155 ic_2 ?_
      refine x_iadd d_Z_law_1156 ?_
      obtain ⟨g420, h⟩ := gd_inv h
      refine x_sald d_Z_law_1157 (inB_in g420) ?_
      refine x_aload_n d_Z_law_1158 rfl 0 rfl ?_
      refine x_iload_n d_Z_law_1159 rfl 3 rfl ?_
      refine x_iconst d_Z_law_1160 ic_3 ?_
      refine x_iadd d_Z_law_1161 ?_
      obtain ⟨g421, h⟩ := gd_inv h
      refine x_sald d_Z_law_1162 (inB_in g421) ?_
      refine x_if_eq (tgt := 1170) d_Z_law_1163 rfl (fun c422 => ?_) (fun c422 => ?_)
      · replace h := ite_t c422 h
        refine x_iconst d_Z_law_1170 ic_0 ?_
        exact J1171 S w3 (X.2 (w3 + (1 : Int32)).toNatClampNeg) (X.2 (w3 + (2 : Int32)).toNatClampNeg) (0 : Int32) _ h
      · replace h := ite_f c422 h
        refine x_iconst d_Z_law_1166 ic_1 ?_
        refine x_goto (tgt := 1171) d_Z_law_1167 rfl ?_
        exact J1171 S w3 (X.2 (w3 + (1 : Int32)).toNatClampNeg) (X.2 (w3 + (2 : Int32)).toNatClampNeg) (1 : Int32) _ h
    replace h := ite_f c418 h
    by_cases c423 : ((X.2 w3.toNatClampNeg) &&& (63 : Int32)) = 38
    · replace h := ite_t c423 h
      refine x_tabC (tgt := 1206) 38 d_Z_law_33 (by rw [c423]; rfl) (by decide) rfl rfl ?_
      refine x_aload_n d_Z_law_1206 rfl 1 rfl ?_
      refine x_aload_n d_Z_law_1207 rfl 0 rfl ?_
      refine x_iload_n d_Z_law_1208 rfl 3 rfl ?_
      refine x_iconst d_Z_law_1209 ic_1 ?_
      refine x_iadd d_Z_law_1210 ?_
      obtain ⟨g424, h⟩ := gd_inv h
      refine x_sald d_Z_law_1211 (inB_in g424) ?_
      obtain ⟨v426, S427, q425, h⟩ := bd2_inv h
      refine y_V1i (v := v426) (S1 := S427) d_Z_law_1212 ml_13_172 kd_0 rfl (Nat.le_of_ble_eq_true rfl) (Nat.le_of_ble_eq_true rfl) (c_N_untell (by omega) q425) ?_
      refine x_pop d_Z_law_1215 rfl ?_
      refine x_aload_n d_Z_law_1216 rfl 2 rfl ?_
      refine x_aload_n d_Z_law_1217 rfl 0 rfl ?_
      refine x_iload_n d_Z_law_1218 rfl 3 rfl ?_
      refine x_iconst d_Z_law_1219 ic_1 ?_
      refine x_iadd d_Z_law_1220 ?_
      obtain ⟨g428, h⟩ := gd_inv h
      refine x_sald d_Z_law_1221 (inB_in g428) ?_
      obtain ⟨v430, S431, q429, h⟩ := bd2_inv h
      refine y_V1i (v := v430) (S1 := S431) d_Z_law_1222 ml_13_176 kd_78 rfl (Nat.le_of_ble_eq_true rfl) (Nat.le_of_ble_eq_true rfl) (c_M_untell (by omega) q429) ?_
      refine x_pop d_Z_law_1225 rfl ?_
      refine x_goto (tgt := 1433) d_Z_law_1226 rfl ?_
      obtain ⟨v432, e433, h⟩ := lt_inv h
      refine y_iinc (L1 := [(0, .ref 1010), (1, .ref 0), (2, .ref 78), (3, .int v432)]) e433 ic_6 d_Z_law_1433 3 rfl (Nat.le_of_ble_eq_true rfl) rfl rfl ?_
      refine x_goto (tgt := 18) d_Z_law_1436 rfl ?_
      exact ih v432 S431 _ h
    replace h := ite_f c423 h
    by_cases c434 : ((X.2 w3.toNatClampNeg) &&& (63 : Int32)) = 39
    · replace h := ite_t c434 h
      refine x_tabC (tgt := 1229) 39 d_Z_law_33 (by rw [c434]; rfl) (by decide) rfl rfl ?_
      refine x_aload_n d_Z_law_1229 rfl 1 rfl ?_
      refine x_aload_n d_Z_law_1230 rfl 0 rfl ?_
      refine x_iload_n d_Z_law_1231 rfl 3 rfl ?_
      refine x_iconst d_Z_law_1232 ic_1 ?_
      refine x_iadd d_Z_law_1233 ?_
      obtain ⟨g435, h⟩ := gd_inv h
      refine x_sald d_Z_law_1234 (inB_in g435) ?_
      obtain ⟨v437, S438, q436, h⟩ := bd2_inv h
      refine y_V1i (v := v437) (S1 := S438) d_Z_law_1235 ml_13_177 kd_0 rfl (Nat.le_of_ble_eq_true rfl) (Nat.le_of_ble_eq_true rfl) (c_N_later (by omega) q436) ?_
      refine x_pop d_Z_law_1238 rfl ?_
      refine x_aload_n d_Z_law_1239 rfl 2 rfl ?_
      refine x_aload_n d_Z_law_1240 rfl 0 rfl ?_
      refine x_iload_n d_Z_law_1241 rfl 3 rfl ?_
      refine x_iconst d_Z_law_1242 ic_1 ?_
      refine x_iadd d_Z_law_1243 ?_
      obtain ⟨g439, h⟩ := gd_inv h
      refine x_sald d_Z_law_1244 (inB_in g439) ?_
      obtain ⟨v441, S442, q440, h⟩ := bd2_inv h
      refine y_V1i (v := v441) (S1 := S442) d_Z_law_1245 ml_13_180 kd_78 rfl (Nat.le_of_ble_eq_true rfl) (Nat.le_of_ble_eq_true rfl) (c_M_later (by omega) q440) ?_
      refine x_pop d_Z_law_1248 rfl ?_
      refine x_goto (tgt := 1433) d_Z_law_1249 rfl ?_
      obtain ⟨v443, e444, h⟩ := lt_inv h
      refine y_iinc (L1 := [(0, .ref 1010), (1, .ref 0), (2, .ref 78), (3, .int v443)]) e444 ic_6 d_Z_law_1433 3 rfl (Nat.le_of_ble_eq_true rfl) rfl rfl ?_
      refine x_goto (tgt := 18) d_Z_law_1436 rfl ?_
      exact ih v443 S442 _ h
    replace h := ite_f c434 h
    by_cases c445 : ((X.2 w3.toNatClampNeg) &&& (63 : Int32)) = 40
    · replace h := ite_t c445 h
      refine x_tabC (tgt := 1252) 40 d_Z_law_33 (by rw [c445]; rfl) (by decide) rfl rfl ?_
      refine x_aload_n d_Z_law_1252 rfl 1 rfl ?_
      refine x_aload_n d_Z_law_1253 rfl 0 rfl ?_
      refine x_iload_n d_Z_law_1254 rfl 3 rfl ?_
      refine x_iconst d_Z_law_1255 ic_1 ?_
      refine x_iadd d_Z_law_1256 ?_
      obtain ⟨g446, h⟩ := gd_inv h
      refine x_sald d_Z_law_1257 (inB_in g446) ?_
      obtain ⟨v448, S449, q447, h⟩ := bd2_inv h
      refine y_V1i (v := v448) (S1 := S449) d_Z_law_1258 ml_13_181 kd_0 rfl (Nat.le_of_ble_eq_true rfl) (Nat.le_of_ble_eq_true rfl) (c_N_sets (by omega) q447) ?_
      refine x_pop d_Z_law_1261 rfl ?_
      refine x_aload_n d_Z_law_1262 rfl 2 rfl ?_
      refine x_aload_n d_Z_law_1263 rfl 0 rfl ?_
      refine x_iload_n d_Z_law_1264 rfl 3 rfl ?_
      refine x_iconst d_Z_law_1265 ic_1 ?_
      refine x_iadd d_Z_law_1266 ?_
      obtain ⟨g450, h⟩ := gd_inv h
      refine x_sald d_Z_law_1267 (inB_in g450) ?_
      obtain ⟨v452, S453, q451, h⟩ := bd2_inv h
      refine y_V1i (v := v452) (S1 := S453) d_Z_law_1268 ml_13_184 kd_78 rfl (Nat.le_of_ble_eq_true rfl) (Nat.le_of_ble_eq_true rfl) (c_M_sets (by omega) q451) ?_
      refine x_pop d_Z_law_1271 rfl ?_
      refine x_goto (tgt := 1433) d_Z_law_1272 rfl ?_
      obtain ⟨v454, e455, h⟩ := lt_inv h
      refine y_iinc (L1 := [(0, .ref 1010), (1, .ref 0), (2, .ref 78), (3, .int v454)]) e455 ic_6 d_Z_law_1433 3 rfl (Nat.le_of_ble_eq_true rfl) rfl rfl ?_
      refine x_goto (tgt := 18) d_Z_law_1436 rfl ?_
      exact ih v454 S453 _ h
    replace h := ite_f c445 h
    by_cases c456 : ((X.2 w3.toNatClampNeg) &&& (63 : Int32)) = 41
    · replace h := ite_t c456 h
      refine x_tabC (tgt := 1275) 41 d_Z_law_33 (by rw [c456]; rfl) (by decide) rfl rfl ?_
      refine x_aload_n d_Z_law_1275 rfl 1 rfl ?_
      refine x_aload_n d_Z_law_1276 rfl 0 rfl ?_
      refine x_iload_n d_Z_law_1277 rfl 3 rfl ?_
      refine x_iconst d_Z_law_1278 ic_1 ?_
      refine x_iadd d_Z_law_1279 ?_
      obtain ⟨g457, h⟩ := gd_inv h
      refine x_sald d_Z_law_1280 (inB_in g457) ?_
      refine x_aload_n d_Z_law_1281 rfl 0 rfl ?_
      refine x_iload_n d_Z_law_1282 rfl 3 rfl ?_
      refine x_iconst d_Z_law_1283 ic_2 ?_
      refine x_iadd d_Z_law_1284 ?_
      obtain ⟨g458, h⟩ := gd_inv h
      refine x_sald d_Z_law_1285 (inB_in g458) ?_
      obtain ⟨v460, S461, q459, h⟩ := bd2_inv h
      refine y_V2i (v := v460) (S1 := S461) d_Z_law_1286 ml_13_185 kd_0 rfl (Nat.le_of_ble_eq_true rfl) (Nat.le_of_ble_eq_true rfl) (c_N_sure (by omega) q459) ?_
      refine x_pop d_Z_law_1289 rfl ?_
      refine x_aload_n d_Z_law_1290 rfl 2 rfl ?_
      refine x_aload_n d_Z_law_1291 rfl 0 rfl ?_
      refine x_iload_n d_Z_law_1292 rfl 3 rfl ?_
      refine x_iconst d_Z_law_1293 ic_1 ?_
      refine x_iadd d_Z_law_1294 ?_
      obtain ⟨g462, h⟩ := gd_inv h
      refine x_sald d_Z_law_1295 (inB_in g462) ?_
      refine x_aload_n d_Z_law_1296 rfl 0 rfl ?_
      refine x_iload_n d_Z_law_1297 rfl 3 rfl ?_
      refine x_iconst d_Z_law_1298 ic_2 ?_
      refine x_iadd d_Z_law_1299 ?_
      obtain ⟨g463, h⟩ := gd_inv h
      refine x_sald d_Z_law_1300 (inB_in g463) ?_
      obtain ⟨v465, S466, q464, h⟩ := bd2_inv h
      refine y_V2i (v := v465) (S1 := S466) d_Z_law_1301 ml_13_188 kd_78 rfl (Nat.le_of_ble_eq_true rfl) (Nat.le_of_ble_eq_true rfl) (c_M_sure (by omega) q464) ?_
      refine x_pop d_Z_law_1304 rfl ?_
      refine x_goto (tgt := 1433) d_Z_law_1305 rfl ?_
      obtain ⟨v467, e468, h⟩ := lt_inv h
      refine y_iinc (L1 := [(0, .ref 1010), (1, .ref 0), (2, .ref 78), (3, .int v467)]) e468 ic_6 d_Z_law_1433 3 rfl (Nat.le_of_ble_eq_true rfl) rfl rfl ?_
      refine x_goto (tgt := 18) d_Z_law_1436 rfl ?_
      exact ih v467 S466 _ h
    replace h := ite_f c456 h
    by_cases c469 : ((X.2 w3.toNatClampNeg) &&& (63 : Int32)) = 42
    · replace h := ite_t c469 h
      refine x_tabC (tgt := 1308) 42 d_Z_law_33 (by rw [c469]; rfl) (by decide) rfl rfl ?_
      refine x_aload_n d_Z_law_1308 rfl 1 rfl ?_
      refine x_aload_n d_Z_law_1309 rfl 0 rfl ?_
      refine x_iload_n d_Z_law_1310 rfl 3 rfl ?_
      refine x_iconst d_Z_law_1311 ic_1 ?_
      refine x_iadd d_Z_law_1312 ?_
      obtain ⟨g470, h⟩ := gd_inv h
      refine x_sald d_Z_law_1313 (inB_in g470) ?_
      refine x_aload_n d_Z_law_1314 rfl 0 rfl ?_
      refine x_iload_n d_Z_law_1315 rfl 3 rfl ?_
      refine x_iconst d_Z_law_1316 ic_2 ?_
      refine x_iadd d_Z_law_1317 ?_
      obtain ⟨g471, h⟩ := gd_inv h
      refine x_sald d_Z_law_1318 (inB_in g471) ?_
      obtain ⟨v473, S474, q472, h⟩ := bd2_inv h
      refine y_V2i (v := v473) (S1 := S474) d_Z_law_1319 ml_13_189 kd_0 rfl (Nat.le_of_ble_eq_true rfl) (Nat.le_of_ble_eq_true rfl) (c_N_ask (by omega) q472) ?_
      refine x_pop d_Z_law_1322 rfl ?_
      refine x_aload_n d_Z_law_1323 rfl 2 rfl ?_
      refine x_aload_n d_Z_law_1324 rfl 0 rfl ?_
      refine x_iload_n d_Z_law_1325 rfl 3 rfl ?_
      refine x_iconst d_Z_law_1326 ic_1 ?_
      refine x_iadd d_Z_law_1327 ?_
      obtain ⟨g475, h⟩ := gd_inv h
      refine x_sald d_Z_law_1328 (inB_in g475) ?_
      refine x_aload_n d_Z_law_1329 rfl 0 rfl ?_
      refine x_iload_n d_Z_law_1330 rfl 3 rfl ?_
      refine x_iconst d_Z_law_1331 ic_2 ?_
      refine x_iadd d_Z_law_1332 ?_
      obtain ⟨g476, h⟩ := gd_inv h
      refine x_sald d_Z_law_1333 (inB_in g476) ?_
      obtain ⟨v478, S479, q477, h⟩ := bd2_inv h
      refine y_V2i (v := v478) (S1 := S479) d_Z_law_1334 ml_13_192 kd_78 rfl (Nat.le_of_ble_eq_true rfl) (Nat.le_of_ble_eq_true rfl) (c_M_ask (by omega) q477) ?_
      refine x_pop d_Z_law_1337 rfl ?_
      refine x_goto (tgt := 1433) d_Z_law_1338 rfl ?_
      obtain ⟨v480, e481, h⟩ := lt_inv h
      refine y_iinc (L1 := [(0, .ref 1010), (1, .ref 0), (2, .ref 78), (3, .int v480)]) e481 ic_6 d_Z_law_1433 3 rfl (Nat.le_of_ble_eq_true rfl) rfl rfl ?_
      refine x_goto (tgt := 18) d_Z_law_1436 rfl ?_
      exact ih v480 S479 _ h
    replace h := ite_f c469 h
    by_cases c482 : ((X.2 w3.toNatClampNeg) &&& (63 : Int32)) = 43
    · replace h := ite_t c482 h
      refine x_tabC (tgt := 1341) 43 d_Z_law_33 (by rw [c482]; rfl) (by decide) rfl rfl ?_
      refine x_aload_n d_Z_law_1341 rfl 1 rfl ?_
      refine x_aload_n d_Z_law_1342 rfl 0 rfl ?_
      refine x_iload_n d_Z_law_1343 rfl 3 rfl ?_
      refine x_iconst d_Z_law_1344 ic_1 ?_
      refine x_iadd d_Z_law_1345 ?_
      obtain ⟨g483, h⟩ := gd_inv h
      refine x_sald d_Z_law_1346 (inB_in g483) ?_
      obtain ⟨v485, S486, q484, h⟩ := bd2_inv h
      refine y_V1i (v := v485) (S1 := S486) d_Z_law_1347 ml_13_193 kd_0 rfl (Nat.le_of_ble_eq_true rfl) (Nat.le_of_ble_eq_true rfl) (c_N_image (by omega) q484) ?_
      refine x_pop d_Z_law_1350 rfl ?_
      refine x_aload_n d_Z_law_1351 rfl 2 rfl ?_
      refine x_aload_n d_Z_law_1352 rfl 0 rfl ?_
      refine x_iload_n d_Z_law_1353 rfl 3 rfl ?_
      refine x_iconst d_Z_law_1354 ic_1 ?_
      refine x_iadd d_Z_law_1355 ?_
      obtain ⟨g487, h⟩ := gd_inv h
      refine x_sald d_Z_law_1356 (inB_in g487) ?_
      obtain ⟨v489, S490, q488, h⟩ := bd2_inv h
      refine y_V1i (v := v489) (S1 := S490) d_Z_law_1357 ml_13_196 kd_78 rfl (Nat.le_of_ble_eq_true rfl) (Nat.le_of_ble_eq_true rfl) (c_M_image (by omega) q488) ?_
      refine x_pop d_Z_law_1360 rfl ?_
      refine x_goto (tgt := 1433) d_Z_law_1361 rfl ?_
      obtain ⟨v491, e492, h⟩ := lt_inv h
      refine y_iinc (L1 := [(0, .ref 1010), (1, .ref 0), (2, .ref 78), (3, .int v491)]) e492 ic_6 d_Z_law_1433 3 rfl (Nat.le_of_ble_eq_true rfl) rfl rfl ?_
      refine x_goto (tgt := 18) d_Z_law_1436 rfl ?_
      exact ih v491 S490 _ h
    replace h := ite_f c482 h
    by_cases c493 : ((X.2 w3.toNatClampNeg) &&& (63 : Int32)) = 44
    · replace h := ite_t c493 h
      refine x_tabC (tgt := 1364) 44 d_Z_law_33 (by rw [c493]; rfl) (by decide) rfl rfl ?_
      refine x_aload_n d_Z_law_1364 rfl 1 rfl ?_
      refine x_aload_n d_Z_law_1365 rfl 0 rfl ?_
      refine x_iload_n d_Z_law_1366 rfl 3 rfl ?_
      refine x_iconst d_Z_law_1367 ic_1 ?_
      refine x_iadd d_Z_law_1368 ?_
      obtain ⟨g494, h⟩ := gd_inv h
      refine x_sald d_Z_law_1369 (inB_in g494) ?_
      obtain ⟨v496, S497, q495, h⟩ := bd2_inv h
      refine y_V1i (v := v496) (S1 := S497) d_Z_law_1370 ml_13_197 kd_0 rfl (Nat.le_of_ble_eq_true rfl) (Nat.le_of_ble_eq_true rfl) (c_N_back (by omega) q495) ?_
      refine x_pop d_Z_law_1373 rfl ?_
      refine x_aload_n d_Z_law_1374 rfl 2 rfl ?_
      refine x_aload_n d_Z_law_1375 rfl 0 rfl ?_
      refine x_iload_n d_Z_law_1376 rfl 3 rfl ?_
      refine x_iconst d_Z_law_1377 ic_1 ?_
      refine x_iadd d_Z_law_1378 ?_
      obtain ⟨g498, h⟩ := gd_inv h
      refine x_sald d_Z_law_1379 (inB_in g498) ?_
      obtain ⟨v500, S501, q499, h⟩ := bd2_inv h
      refine y_V1i (v := v500) (S1 := S501) d_Z_law_1380 ml_13_200 kd_78 rfl (Nat.le_of_ble_eq_true rfl) (Nat.le_of_ble_eq_true rfl) (c_M_back (by omega) q499) ?_
      refine x_pop d_Z_law_1383 rfl ?_
      refine x_goto (tgt := 1433) d_Z_law_1384 rfl ?_
      obtain ⟨v502, e503, h⟩ := lt_inv h
      refine y_iinc (L1 := [(0, .ref 1010), (1, .ref 0), (2, .ref 78), (3, .int v502)]) e503 ic_6 d_Z_law_1433 3 rfl (Nat.le_of_ble_eq_true rfl) rfl rfl ?_
      refine x_goto (tgt := 18) d_Z_law_1436 rfl ?_
      exact ih v502 S501 _ h
    replace h := ite_f c493 h
    by_cases c504 : ((X.2 w3.toNatClampNeg) &&& (63 : Int32)) = 45
    · replace h := ite_t c504 h
      refine x_tabC (tgt := 1387) 45 d_Z_law_33 (by rw [c504]; rfl) (by decide) rfl rfl ?_
      refine x_aload_n d_Z_law_1387 rfl 1 rfl ?_
      refine x_aload_n d_Z_law_1388 rfl 0 rfl ?_
      refine x_iload_n d_Z_law_1389 rfl 3 rfl ?_
      refine x_iconst d_Z_law_1390 ic_1 ?_
      refine x_iadd d_Z_law_1391 ?_
      obtain ⟨g505, h⟩ := gd_inv h
      refine x_sald d_Z_law_1392 (inB_in g505) ?_
      obtain ⟨v507, q506, h⟩ := bd_inv h
      refine y_V1i (v := v507) (S1 := S) d_Z_law_1393 ml_13_201 kd_0 rfl (Nat.le_of_ble_eq_true rfl) (Nat.le_of_ble_eq_true rfl) (c_N_differ (by omega) q506) ?_
      refine x_pop d_Z_law_1396 rfl ?_
      refine x_aload_n d_Z_law_1397 rfl 2 rfl ?_
      refine x_aload_n d_Z_law_1398 rfl 0 rfl ?_
      refine x_iload_n d_Z_law_1399 rfl 3 rfl ?_
      refine x_iconst d_Z_law_1400 ic_1 ?_
      refine x_iadd d_Z_law_1401 ?_
      obtain ⟨g508, h⟩ := gd_inv h
      refine x_sald d_Z_law_1402 (inB_in g508) ?_
      obtain ⟨v510, q509, h⟩ := bd_inv h
      refine y_V1i (v := v510) (S1 := S) d_Z_law_1403 ml_13_204 kd_78 rfl (Nat.le_of_ble_eq_true rfl) (Nat.le_of_ble_eq_true rfl) (c_M_differ (by omega) q509) ?_
      refine x_pop d_Z_law_1406 rfl ?_
      refine x_goto (tgt := 1433) d_Z_law_1407 rfl ?_
      obtain ⟨v511, e512, h⟩ := lt_inv h
      refine y_iinc (L1 := [(0, .ref 1010), (1, .ref 0), (2, .ref 78), (3, .int v511)]) e512 ic_6 d_Z_law_1433 3 rfl (Nat.le_of_ble_eq_true rfl) rfl rfl ?_
      refine x_goto (tgt := 18) d_Z_law_1436 rfl ?_
      exact ih v511 S _ h
    replace h := ite_f c504 h
    by_cases c513 : ((X.2 w3.toNatClampNeg) &&& (63 : Int32)) = 46
    · replace h := ite_t c513 h
      refine x_tabC (tgt := 1410) 46 d_Z_law_33 (by rw [c513]; rfl) (by decide) rfl rfl ?_
      refine x_aload_n d_Z_law_1410 rfl 1 rfl ?_
      refine x_aload_n d_Z_law_1411 rfl 0 rfl ?_
      refine x_iload_n d_Z_law_1412 rfl 3 rfl ?_
      refine x_iconst d_Z_law_1413 ic_1 ?_
      refine x_iadd d_Z_law_1414 ?_
      obtain ⟨g514, h⟩ := gd_inv h
      refine x_sald d_Z_law_1415 (inB_in g514) ?_
      obtain ⟨v516, q515, h⟩ := bd_inv h
      refine y_V1i (v := v516) (S1 := S) d_Z_law_1416 ml_13_205 kd_0 rfl (Nat.le_of_ble_eq_true rfl) (Nat.le_of_ble_eq_true rfl) (c_N_about (by omega) q515) ?_
      refine x_pop d_Z_law_1419 rfl ?_
      refine x_aload_n d_Z_law_1420 rfl 2 rfl ?_
      refine x_aload_n d_Z_law_1421 rfl 0 rfl ?_
      refine x_iload_n d_Z_law_1422 rfl 3 rfl ?_
      refine x_iconst d_Z_law_1423 ic_1 ?_
      refine x_iadd d_Z_law_1424 ?_
      obtain ⟨g517, h⟩ := gd_inv h
      refine x_sald d_Z_law_1425 (inB_in g517) ?_
      obtain ⟨v519, q518, h⟩ := bd_inv h
      refine y_V1i (v := v519) (S1 := S) d_Z_law_1426 ml_13_208 kd_78 rfl (Nat.le_of_ble_eq_true rfl) (Nat.le_of_ble_eq_true rfl) (c_M_about (by omega) q518) ?_
      refine x_pop d_Z_law_1429 rfl ?_
      refine x_goto (tgt := 1433) d_Z_law_1430 rfl ?_
      obtain ⟨v520, e521, h⟩ := lt_inv h
      refine y_iinc (L1 := [(0, .ref 1010), (1, .ref 0), (2, .ref 78), (3, .int v520)]) e521 ic_6 d_Z_law_1433 3 rfl (Nat.le_of_ble_eq_true rfl) rfl rfl ?_
      refine x_goto (tgt := 18) d_Z_law_1436 rfl ?_
      exact ih v520 S _ h
    replace h := ite_f c513 h
    refine x_tabD (tgt := 1433) d_Z_law_33 (by have := lv_neT c3 (show (0 : Int32).toInt = 0 from rfl); have := lv_neT c22 (show (1 : Int32).toInt = 1 from rfl); have := lv_neT c33 (show (2 : Int32).toInt = 2 from rfl); have := lv_neT c42 (show (3 : Int32).toInt = 3 from rfl); have := lv_neT c51 (show (4 : Int32).toInt = 4 from rfl); have := lv_neT c64 (show (5 : Int32).toInt = 5 from rfl); have := lv_neT c76 (show (6 : Int32).toInt = 6 from rfl); have := lv_neT c89 (show (7 : Int32).toInt = 7 from rfl); have := lv_neT c100 (show (8 : Int32).toInt = 8 from rfl); have := lv_neT c111 (show (9 : Int32).toInt = 9 from rfl); have := lv_neT c124 (show (10 : Int32).toInt = 10 from rfl); have := lv_neT c137 (show (11 : Int32).toInt = 11 from rfl); have := lv_neT c150 (show (12 : Int32).toInt = 12 from rfl); have := lv_neT c163 (show (13 : Int32).toInt = 13 from rfl); have := lv_neT c174 (show (14 : Int32).toInt = 14 from rfl); have := lv_neT c183 (show (15 : Int32).toInt = 15 from rfl); have := lv_neT c192 (show (16 : Int32).toInt = 16 from rfl); have := lv_neT c201 (show (17 : Int32).toInt = 17 from rfl); have := lv_neT c210 (show (18 : Int32).toInt = 18 from rfl); have := lv_neT c221 (show (19 : Int32).toInt = 19 from rfl); have := lv_neT c235 (show (20 : Int32).toInt = 20 from rfl); have := lv_neT c248 (show (21 : Int32).toInt = 21 from rfl); have := lv_neT c263 (show (22 : Int32).toInt = 22 from rfl); have := lv_neT c276 (show (23 : Int32).toInt = 23 from rfl); have := lv_neT c287 (show (24 : Int32).toInt = 24 from rfl); have := lv_neT c298 (show (25 : Int32).toInt = 25 from rfl); have := lv_neT c309 (show (26 : Int32).toInt = 26 from rfl); have := lv_neT c318 (show (27 : Int32).toInt = 27 from rfl); have := lv_neT c329 (show (28 : Int32).toInt = 28 from rfl); have := lv_neT c338 (show (29 : Int32).toInt = 29 from rfl); have := lv_neT c347 (show (30 : Int32).toInt = 30 from rfl); have := lv_neT c358 (show (31 : Int32).toInt = 31 from rfl); have := lv_neT c367 (show (32 : Int32).toInt = 32 from rfl); have := lv_neT c378 (show (33 : Int32).toInt = 33 from rfl); have := lv_neT c389 (show (34 : Int32).toInt = 34 from rfl); have := lv_neT c398 (show (35 : Int32).toInt = 35 from rfl); have := lv_neT c409 (show (36 : Int32).toInt = 36 from rfl); have := lv_neT c418 (show (37 : Int32).toInt = 37 from rfl); have := lv_neT c423 (show (38 : Int32).toInt = 38 from rfl); have := lv_neT c434 (show (39 : Int32).toInt = 39 from rfl); have := lv_neT c445 (show (40 : Int32).toInt = 40 from rfl); have := lv_neT c456 (show (41 : Int32).toInt = 41 from rfl); have := lv_neT c469 (show (42 : Int32).toInt = 42 from rfl); have := lv_neT c482 (show (43 : Int32).toInt = 43 from rfl); have := lv_neT c493 (show (44 : Int32).toInt = 44 from rfl); have := lv_neT c504 (show (45 : Int32).toInt = 45 from rfl); have := lv_neT c513 (show (46 : Int32).toInt = 46 from rfl); omega) rfl ?_
    obtain ⟨v522, e523, h⟩ := lt_inv h
    refine y_iinc (L1 := [(0, .ref 1010), (1, .ref 0), (2, .ref 78), (3, .int v522)]) e523 ic_6 d_Z_law_1433 3 rfl (Nat.le_of_ble_eq_true rfl) rfl rfl ?_
    refine x_goto (tgt := 18) d_Z_law_1436 rfl ?_
    exact ih v522 S _ h
