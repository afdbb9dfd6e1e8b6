/-! NinetyPlayers$Formula.forget -/
def fF_forget (F G : Nat) (S : St) (o : Nat) : Option (St) :=
  gd (isFo o) (lt (sI S o 0 (0 : Int32)) fun S1 => lt (sI S1 o 1 (0 : Int32)) fun S3 => some S3)
set_option maxRecDepth 100000 in
set_option maxHeartbeats 4000000 in
theorem c_7 {X : Nat × (Nat → Int32)} {D F G : Nat} (hD : 0 ≤ D) {S : St} {o : Nat} {res : St} (h : fF_forget F G S o = some res) : Ek X (D) m7 0 [(0, .ref o)] [] S none res := by
  unfold fF_forget at h
  obtain ⟨gg0, h⟩ := gd_inv h
  refine x_aload_n d_7_0 rfl 0 rfl ?_
  refine x_iconst d_7_1 ic_0 ?_
  obtain ⟨S1, e2, h⟩ := lt_inv h
  refine y_putI e2 d_7_2 fl_3_21 rfl rfl (ksFo gg0) rfl rfl ?_
  refine x_aload_n d_7_5 rfl 0 rfl ?_
  refine x_iconst d_7_6 ic_0 ?_
  obtain ⟨S3, e4, h⟩ := lt_inv h
  refine y_putI e4 d_7_7 fl_3_25 rfl rfl (ksFo gg0) rfl rfl ?_
  obtain rfl := Option.some.inj h
  exact x_ret (r := none) d_7_10 rfl
/-! NinetyPlayers$Score.forget -/
def fS_forget (F G : Nat) (S : St) (o : Nat) : Option (St) :=
  gd (isSc o) (lt (sI S o 0 (12 : Int32)) fun S1 => lt (sI S1 o 1 (12 : Int32)) fun S3 => lt (sI S3 o 2 (5 : Int32)) fun S5 => lt (sI S5 o 3 (20 : Int32)) fun S7 => lt (sI S7 o 4 (2 : Int32)) fun S9 => lt (sI S9 o 5 (0 : Int32)) fun S11 => lt (sI S11 o 6 (0 : Int32)) fun S13 => bd (fF_forget F G S13 (o + 9)) fun S16 => some S16)
set_option maxRecDepth 100000 in
set_option maxHeartbeats 4000000 in
theorem c_6 {X : Nat × (Nat → Int32)} {D F G : Nat} (hD : 1 ≤ D) {S : St} {o : Nat} {res : St} (h : fS_forget F G S o = some res) : Ek X (D) m6 0 [(0, .ref o)] [] S none res := by
  obtain ⟨D, rfl⟩ : ∃ E, D = E + 1 := ⟨D - 1, by omega⟩
  unfold fS_forget at h
  obtain ⟨gg0, h⟩ := gd_inv h
  refine x_aload_n d_6_0 rfl 0 rfl ?_
  refine x_bipush d_6_1 bp_12 ?_
  obtain ⟨S1, e2, h⟩ := lt_inv h
  refine y_putI e2 d_6_3 fl_2_47 rfl rfl (ksSc gg0) rfl rfl ?_
  refine x_aload_n d_6_6 rfl 0 rfl ?_
  refine x_bipush d_6_7 bp_12 ?_
  obtain ⟨S3, e4, h⟩ := lt_inv h
  refine y_putI e4 d_6_9 fl_2_51 rfl rfl (ksSc gg0) rfl rfl ?_
  refine x_aload_n d_6_12 rfl 0 rfl ?_
  refine x_iconst d_6_13 ic_5 ?_
  obtain ⟨S5, e6, h⟩ := lt_inv h
  refine y_putI e6 d_6_14 fl_2_54 rfl rfl (ksSc gg0) rfl rfl ?_
  refine x_aload_n d_6_17 rfl 0 rfl ?_
  refine x_bipush d_6_18 bp_20 ?_
  obtain ⟨S7, e8, h⟩ := lt_inv h
  refine y_putI e8 d_6_20 fl_2_57 rfl rfl (ksSc gg0) rfl rfl ?_
  refine x_aload_n d_6_23 rfl 0 rfl ?_
  refine x_iconst d_6_24 ic_2 ?_
  obtain ⟨S9, e10, h⟩ := lt_inv h
  refine y_putI e10 d_6_25 fl_2_60 rfl rfl (ksSc gg0) rfl rfl ?_
  refine x_aload_n d_6_28 rfl 0 rfl ?_
  refine x_iconst d_6_29 ic_0 ?_
  obtain ⟨S11, e12, h⟩ := lt_inv h
  refine y_putI e12 d_6_30 fl_2_63 rfl rfl (ksSc gg0) rfl rfl ?_
  refine x_aload_n d_6_33 rfl 0 rfl ?_
  refine x_iconst d_6_34 ic_0 ?_
  obtain ⟨S13, e14, h⟩ := lt_inv h
  refine y_putI e14 d_6_35 fl_2_66 rfl rfl (ksSc gg0) rfl rfl ?_
  refine x_aload_n d_6_38 rfl 0 rfl ?_
  refine y_getR d_6_39 fl_2_40 rfl (ksSc gg0) (rrSc_15 gg0) ?_
  obtain ⟨S16, q15, h⟩ := bd_inv h
  refine y_V0v (S1 := S16) d_6_42 ml_2_69 (ksFo (isFo_of gg0)) rfl (Nat.le_of_ble_eq_true rfl) (Nat.le_of_ble_eq_true rfl) (c_7 (by omega) q15) ?_
  obtain rfl := Option.some.inj h
  exact x_ret (r := none) d_6_45 rfl
/-! NinetyPlayers$Laying.follow -/
def b_15_7 (F G : Nat) (z0 : Nat) (z1 : Nat) (rec : Int32 → St → Option (St)) (w2 : Int32) (S : St) : Option (St) :=
  if (10 : Int32) ≤ w2 then some S else gd (inB w2 10) (lt (sI S (z0 + 1) w2.toNatClampNeg (0 : Int32)) fun S5 => gd (inB w2 10) (gd (inB w2 10) (lt (sI S5 (z0 + 2) w2.toNatClampNeg (S5.1 (z1 + 6) w2.toNatClampNeg)) fun S9 => gd (inB w2 10) (gd (inB w2 10) (lt (sI S9 (z0 + 3) w2.toNatClampNeg (S9.1 (z1 + 7) w2.toNatClampNeg)) fun S13 => gd (inB w2 10) (gd (inB w2 10) (lt (sI S13 (z0 + 4) w2.toNatClampNeg (S13.1 (z1 + 8) w2.toNatClampNeg)) fun S17 => lt (w2 + 1) fun v19 => rec v19 S17)))))))
def fL_follow (F G : Nat) (S : St) (o : Nat) (o2 : Nat) : Option (St) :=
  gd (isLa o) (gd (isSc o2) (lt (sI S o 1 (0 : Int32)) fun S1 => fx2 (b_15_7 F G o o2) F (0 : Int32) S1))
set_option maxRecDepth 100000 in
set_option maxHeartbeats 4000000 in
theorem T_15_7 {X : Nat × (Nat → Int32)} {D F G : Nat} (hD : 0 ≤ D) {z0 : Nat} {z1 : Nat} (hz0 : isLa z0 = true) (hz1 : isSc z1 = true) : ∀ (f : Nat) (w2 : Int32) (S : St) (res : St), fx2 (b_15_7 F G z0 z1 ) f w2 S = some res → Ek X (D) m15 7 [(0, .ref z0), (1, .ref z1), (2, .int w2)] [] S none res := by
  refine fx2_ind ?_
  intro rec ih w2 S res h
  unfold b_15_7 at h
  refine x_iload_n d_15_7 rfl 2 rfl ?_
  refine x_bipush d_15_8 bp_10 ?_
  refine x_icmp_ge (tgt := 62) d_15_10 rfl (fun c3 => ?_) (fun c3 => ?_)
  · replace h := ite_t c3 h
    obtain rfl := Option.some.inj h
    exact x_ret (r := none) d_15_62 rfl
  · replace h := ite_f c3 h
    refine x_aload_n d_15_13 rfl 0 rfl ?_
    refine y_getR d_15_14 fl_5_9 rfl (ksLa hz0) (rrLa_2 hz0) ?_
    refine x_iload_n d_15_17 rfl 2 rfl ?_
    refine x_iconst d_15_18 ic_0 ?_
    obtain ⟨g4, h⟩ := gd_inv h
    obtain ⟨S5, e6, h⟩ := lt_inv h
    refine y_iast e6 d_15_19 (ksLa_1 hz0) g4 ?_
    refine x_aload_n d_15_20 rfl 0 rfl ?_
    refine y_getR d_15_21 fl_5_15 rfl (ksLa hz0) (rrLa_3 hz0) ?_
    refine x_iload_n d_15_24 rfl 2 rfl ?_
    refine x_aload_n d_15_25 rfl 1 rfl ?_
    refine y_getR d_15_26 fl_5_28 rfl (ksSc hz1) (rrSc_12 hz1) ?_
    refine x_iload_n d_15_29 rfl 2 rfl ?_
    obtain ⟨g7, h⟩ := gd_inv h
    refine y_iald d_15_30 (ksSc_6 hz1) g7 ?_
    obtain ⟨g8, h⟩ := gd_inv h
    obtain ⟨S9, e10, h⟩ := lt_inv h
    refine y_iast e10 d_15_31 (ksLa_2 hz0) g8 ?_
    refine x_aload_n d_15_32 rfl 0 rfl ?_
    refine y_getR d_15_33 fl_5_18 rfl (ksLa hz0) (rrLa_4 hz0) ?_
    refine x_iload_n d_15_36 rfl 2 rfl ?_
    refine x_aload_n d_15_37 rfl 1 rfl ?_
    refine y_getR d_15_38 fl_5_31 rfl (ksSc hz1) (rrSc_13 hz1) ?_
    refine x_iload_n d_15_41 rfl 2 rfl ?_
    obtain ⟨g11, h⟩ := gd_inv h
    refine y_iald d_15_42 (ksSc_7 hz1) g11 ?_
    obtain ⟨g12, h⟩ := gd_inv h
    obtain ⟨S13, e14, h⟩ := lt_inv h
    refine y_iast e14 d_15_43 (ksLa_3 hz0) g12 ?_
    refine x_aload_n d_15_44 rfl 0 rfl ?_
    refine y_getR d_15_45 fl_5_21 rfl (ksLa hz0) (rrLa_5 hz0) ?_
    refine x_iload_n d_15_48 rfl 2 rfl ?_
    refine x_aload_n d_15_49 rfl 1 rfl ?_
    refine y_getR d_15_50 fl_5_32 rfl (ksSc hz1) (rrSc_14 hz1) ?_
    refine x_iload_n d_15_53 rfl 2 rfl ?_
    obtain ⟨g15, h⟩ := gd_inv h
    refine y_iald d_15_54 (ksSc_8 hz1) g15 ?_
    obtain ⟨g16, h⟩ := gd_inv h
    obtain ⟨S17, e18, h⟩ := lt_inv h
    refine y_iast e18 d_15_55 (ksLa_4 hz0) g16 ?_
    obtain ⟨v19, e20, h⟩ := lt_inv h
    refine y_iinc (L1 := [(0, .ref z0), (1, .ref z1), (2, .int v19)]) e20 ic_1 d_15_56 2 rfl (Nat.le_of_ble_eq_true rfl) rfl rfl ?_
    refine x_goto (tgt := 7) d_15_59 rfl ?_
    exact ih v19 S17 _ h
set_option maxRecDepth 100000 in
set_option maxHeartbeats 4000000 in
theorem c_15 {X : Nat × (Nat → Int32)} {D F G : Nat} (hD : 0 ≤ D) {S : St} {o : Nat} {o2 : Nat} {res : St} (h : fL_follow F G S o o2 = some res) : Ek X (D) m15 0 [(0, .ref o), (1, .ref o2)] [] S none res := by
  unfold fL_follow at h
  obtain ⟨gg0, h⟩ := gd_inv h
  obtain ⟨gg1, h⟩ := gd_inv h
  refine x_aload_n d_15_0 rfl 0 rfl ?_
  refine x_iconst d_15_1 ic_0 ?_
  obtain ⟨S1, e2, h⟩ := lt_inv h
  refine y_putI e2 d_15_2 fl_5_24 rfl rfl (ksLa gg0) rfl rfl ?_
  refine x_iconst d_15_5 ic_0 ?_
  refine x_istore_n (L1 := [(0, .ref o), (1, .ref o2), (2, .int (0 : Int32))]) d_15_6 rfl (Nat.le_of_ble_eq_true rfl) rfl rfl ?_
  refine T_15_7 (by omega) gg0 gg1  F (0 : Int32) S1 _ h
/-! NinetyPlayers.putFourBytes -/
def b_17_3 (F G : Nat) (z1 : Int32) (rec : Int32 → St → Option (St)) (w2 : Int32) (S : St) : Option (St) :=
  if w2 < 0 then some S else if (1600 : Int32) ≤ (S.1 0 1) then some S else gd (inB (S.1 0 1) 1600) (lt (sI S 1 (S.1 0 1).toNatClampNeg (vp_nar .byte ((z1 >>> (w2 &&& 31)).toInt8.toInt32))) fun S4 => lt (sI S4 0 1 ((S4.1 0 1) + (1 : Int32))) fun S6 => lt (w2 + (-8)) fun v8 => rec v8 S6)
def fN_putFourBytes (F G : Nat) (S : St) (p1 : Int32) : Option (St) :=
  fx2 (b_17_3 F G p1) F (24 : Int32) S
set_option maxRecDepth 100000 in
set_option maxHeartbeats 4000000 in
theorem T_17_3 {X : Nat × (Nat → Int32)} {D F G : Nat} (hD : 0 ≤ D) {z1 : Int32} : ∀ (f : Nat) (w2 : Int32) (S : St) (res : St), fx2 (b_17_3 F G z1 ) f w2 S = some res → Ek X (D) m17 3 [(0, .ref 0), (1, .int z1), (2, .int w2)] [] S none res := by
  refine fx2_ind ?_
  intro rec ih w2 S res h
  unfold b_17_3 at h
  refine x_iload_n d_17_3 rfl 2 rfl ?_
  refine x_if_lt (tgt := 46) d_17_4 rfl (fun c1 => ?_) (fun c1 => ?_)
  · replace h := ite_t c1 h
    obtain rfl := Option.some.inj h
    exact x_ret (r := none) d_17_46 rfl
  · replace h := ite_f c1 h
    refine x_aload_n d_17_7 rfl 0 rfl ?_
    refine y_getI d_17_8 fl_0_90 rfl kd_0 ?_
    refine x_sipush d_17_11 sp_1600 ?_
    refine x_icmp_ge (tgt := 46) d_17_14 rfl (fun c2 => ?_) (fun c2 => ?_)
    · replace h := ite_t c2 h
      obtain rfl := Option.some.inj h
      exact x_ret (r := none) d_17_46 rfl
    · replace h := ite_f c2 h
      refine x_aload_n d_17_17 rfl 0 rfl ?_
      refine y_getR d_17_18 fl_0_9 rfl kd_0 rr_0_0 ?_
      refine x_aload_n d_17_21 rfl 0 rfl ?_
      refine y_getI d_17_22 fl_0_90 rfl kd_0 ?_
      refine x_iload_n d_17_25 rfl 1 rfl ?_
      refine x_iload_n d_17_26 rfl 2 rfl ?_
      refine x_ishr d_17_27 ?_
      refine x_i2b d_17_28 ?_
      obtain ⟨g3, h⟩ := gd_inv h
      obtain ⟨S4, e5, h⟩ := lt_inv h
      refine y_bast e5 d_17_29 kd_1 g3 ?_
      refine x_aload_n d_17_30 rfl 0 rfl ?_
      refine x_dup d_17_31 rfl ?_
      refine y_getI d_17_32 fl_0_90 rfl kd_0 ?_
      refine x_iconst d_17_35 ic_1 ?_
      refine x_iadd d_17_36 ?_
      obtain ⟨S6, e7, h⟩ := lt_inv h
      refine y_putI e7 d_17_37 fl_0_90 rfl rfl kd_0 rfl rfl ?_
      obtain ⟨v8, e9, h⟩ := lt_inv h
      refine y_iinc (L1 := [(0, .ref 0), (1, .int z1), (2, .int v8)]) e9 ic_m8 d_17_40 2 rfl (Nat.le_of_ble_eq_true rfl) rfl rfl ?_
      refine x_goto (tgt := 3) d_17_43 rfl ?_
      exact ih v8 S6 _ h
set_option maxRecDepth 100000 in
set_option maxHeartbeats 4000000 in
theorem c_17 {X : Nat × (Nat → Int32)} {D F G : Nat} (hD : 0 ≤ D) {S : St} {p1 : Int32} {res : St} (h : fN_putFourBytes F G S p1 = some res) : Ek X (D) m17 0 [(0, .ref 0), (1, .int p1)] [] S none res := by
  unfold fN_putFourBytes at h
  refine x_bipush d_17_0 bp_24 ?_
  refine x_istore_n (L1 := [(0, .ref 0), (1, .int p1), (2, .int (24 : Int32))]) d_17_2 rfl (Nat.le_of_ble_eq_true rfl) rfl rfl ?_
  refine T_17_3 (by omega)   F (24 : Int32) S _ h
/-! NinetyPlayers.feed -/
def fN_feed (F G : Nat) (S : St) (p1 : Int32) (p2 : Int32) (p3 : Int32) (p4 : Int32) (p5 : Int32) : Option (Int32 × St) :=
  if ((S.1 0 1) + (20 : Int32)) ≤ (1600 : Int32) then bd (fN_putFourBytes F G S p1) fun S3 => bd (fN_putFourBytes F G S3 p2) fun S5 => bd (fN_putFourBytes F G S5 p3) fun S7 => bd (fN_putFourBytes F G S7 p4) fun S9 => bd (fN_putFourBytes F G S9 p5) fun S11 => some (S11.1 0 1, S11) else some ((-1 : Int32), S)
set_option maxRecDepth 100000 in
set_option maxHeartbeats 4000000 in
theorem c_16 {X : Nat × (Nat → Int32)} {D F G : Nat} (hD : 1 ≤ D) {S : St} {p1 : Int32} {p2 : Int32} {p3 : Int32} {p4 : Int32} {p5 : Int32} {res : Int32 × St} (h : fN_feed F G S p1 p2 p3 p4 p5 = some res) : Ek X (D) m16 0 [(0, .ref 0), (1, .int p1), (2, .int p2), (3, .int p3), (4, .int p4), (5, .int p5)] [] S (some (.int res.1)) res.2 := by
  obtain ⟨D, rfl⟩ : ∃ E, D = E + 1 := ⟨D - 1, by omega⟩
  unfold fN_feed at h
  refine x_aload_n d_16_0 rfl 0 rfl ?_
  refine y_getI d_16_1 fl_0_90 rfl kd_0 ?_
  refine x_bipush d_16_4 bp_20 ?_
  refine x_iadd d_16_6 ?_
  refine x_sipush d_16_7 sp_1600 ?_
  refine x_icmp_le (tgt := 15) d_16_10 rfl (fun c1 => ?_) (fun c1 => ?_)
  · replace h := ite_t c1 h
    refine x_aload_n d_16_15 rfl 0 rfl ?_
    refine x_iload_n d_16_16 rfl 1 rfl ?_
    obtain ⟨S3, q2, h⟩ := bd_inv h
    refine y_V1v (S1 := S3) d_16_17 ml_0_94 kd_0 rfl (Nat.le_of_ble_eq_true rfl) (Nat.le_of_ble_eq_true rfl) (c_17 (by omega) q2) ?_
    refine x_aload_n d_16_20 rfl 0 rfl ?_
    refine x_iload_n d_16_21 rfl 2 rfl ?_
    obtain ⟨S5, q4, h⟩ := bd_inv h
    refine y_V1v (S1 := S5) d_16_22 ml_0_94 kd_0 rfl (Nat.le_of_ble_eq_true rfl) (Nat.le_of_ble_eq_true rfl) (c_17 (by omega) q4) ?_
    refine x_aload_n d_16_25 rfl 0 rfl ?_
    refine x_iload_n d_16_26 rfl 3 rfl ?_
    obtain ⟨S7, q6, h⟩ := bd_inv h
    refine y_V1v (S1 := S7) d_16_27 ml_0_94 kd_0 rfl (Nat.le_of_ble_eq_true rfl) (Nat.le_of_ble_eq_true rfl) (c_17 (by omega) q6) ?_
    refine x_aload_n d_16_30 rfl 0 rfl ?_
    refine x_iload d_16_31 4 rfl ?_
    obtain ⟨S9, q8, h⟩ := bd_inv h
    refine y_V1v (S1 := S9) d_16_33 ml_0_94 kd_0 rfl (Nat.le_of_ble_eq_true rfl) (Nat.le_of_ble_eq_true rfl) (c_17 (by omega) q8) ?_
    refine x_aload_n d_16_36 rfl 0 rfl ?_
    refine x_iload d_16_37 5 rfl ?_
    obtain ⟨S11, q10, h⟩ := bd_inv h
    refine y_V1v (S1 := S11) d_16_39 ml_0_94 kd_0 rfl (Nat.le_of_ble_eq_true rfl) (Nat.le_of_ble_eq_true rfl) (c_17 (by omega) q10) ?_
    refine x_aload_n d_16_42 rfl 0 rfl ?_
    refine y_getI d_16_43 fl_0_90 rfl kd_0 ?_
    obtain rfl := Option.some.inj h
    exact x_ret (r := some (.int (S11.1 0 1))) d_16_46 ⟨_, rfl, rfl⟩
  · replace h := ite_f c1 h
    refine x_iconst d_16_13 ic_m1 ?_
    obtain rfl := Option.some.inj h
    exact x_ret (r := some (.int (-1 : Int32))) d_16_14 ⟨_, rfl, rfl⟩
/-! NinetyPlayers.end -/
def fN_end (F G : Nat) (S : St) (p1 : Int32) : Option (Int32 × St) :=
  if p1 < 0 then some ((-1 : Int32), S) else if p1 ≤ (S.1 0 1) then lt (sI S 0 1 p1) fun S3 => some (p1, S3) else some ((-1 : Int32), S)
set_option maxRecDepth 100000 in
set_option maxHeartbeats 4000000 in
theorem c_18 {X : Nat × (Nat → Int32)} {D F G : Nat} (hD : 0 ≤ D) {S : St} {p1 : Int32} {res : Int32 × St} (h : fN_end F G S p1 = some res) : Ek X (D) m18 0 [(0, .ref 0), (1, .int p1)] [] S (some (.int res.1)) res.2 := by
  unfold fN_end at h
  refine x_iload_n d_18_0 rfl 1 rfl ?_
  refine x_if_lt (tgt := 12) d_18_1 rfl (fun c1 => ?_) (fun c1 => ?_)
  · replace h := ite_t c1 h
    refine x_iconst d_18_12 ic_m1 ?_
    obtain rfl := Option.some.inj h
    exact x_ret (r := some (.int (-1 : Int32))) d_18_13 ⟨_, rfl, rfl⟩
  · replace h := ite_f c1 h
    refine x_iload_n d_18_4 rfl 1 rfl ?_
    refine x_aload_n d_18_5 rfl 0 rfl ?_
    refine y_getI d_18_6 fl_0_90 rfl kd_0 ?_
    refine x_icmp_le (tgt := 14) d_18_9 rfl (fun c2 => ?_) (fun c2 => ?_)
    · replace h := ite_t c2 h
      refine x_aload_n d_18_14 rfl 0 rfl ?_
      refine x_iload_n d_18_15 rfl 1 rfl ?_
      obtain ⟨S3, e4, h⟩ := lt_inv h
      refine y_putI e4 d_18_16 fl_0_90 rfl rfl kd_0 rfl rfl ?_
      refine x_iload_n d_18_19 rfl 1 rfl ?_
      obtain rfl := Option.some.inj h
      exact x_ret (r := some (.int p1)) d_18_20 ⟨_, rfl, rfl⟩
    · replace h := ite_f c2 h
      refine x_iconst d_18_12 ic_m1 ?_
      obtain rfl := Option.some.inj h
      exact x_ret (r := some (.int (-1 : Int32))) d_18_13 ⟨_, rfl, rfl⟩
/-! NinetyPlayers$Tokens.at -/
def fT_at (F G : Nat) (S : St) (p1 : Int32) : Option (Int32) :=
  if p1 < 0 then some (-1 : Int32) else if (S.1 16 1) ≤ p1 then some (-1 : Int32) else if (Int32.ofNat 1600) ≤ p1 then some (-1 : Int32) else gd (inB p1 1600) (some ((S.1 1 p1.toNatClampNeg) &&& (255 : Int32)))
set_option maxRecDepth 100000 in
set_option maxHeartbeats 4000000 in
theorem c_25 {X : Nat × (Nat → Int32)} {D F G : Nat} (hD : 0 ≤ D) {S : St} {p1 : Int32} {res : Int32} (h : fT_at F G S p1 = some res) : Ek X (D) m25 0 [(0, .ref 16), (1, .int p1)] [] S (some (.int res)) S := by
  unfold fT_at at h
  refine x_iload_n d_25_0 rfl 1 rfl ?_
  refine x_if_lt (tgt := 34) d_25_1 rfl (fun c1 => ?_) (fun c1 => ?_)
  · replace h := ite_t c1 h
    refine x_iconst d_25_34 ic_m1 ?_
    obtain rfl := Option.some.inj h
    exact x_ret (r := some (.int (-1 : Int32))) d_25_35 ⟨_, rfl, rfl⟩
  · replace h := ite_f c1 h
    refine x_iload_n d_25_4 rfl 1 rfl ?_
    refine x_aload_n d_25_5 rfl 0 rfl ?_
    refine y_getI d_25_6 fl_4_24 rfl kd_16 ?_
    refine x_icmp_ge (tgt := 34) d_25_9 rfl (fun c2 => ?_) (fun c2 => ?_)
    · replace h := ite_t c2 h
      refine x_iconst d_25_34 ic_m1 ?_
      obtain rfl := Option.some.inj h
      exact x_ret (r := some (.int (-1 : Int32))) d_25_35 ⟨_, rfl, rfl⟩
    · replace h := ite_f c2 h
      refine x_iload_n d_25_12 rfl 1 rfl ?_
      refine x_aload_n d_25_13 rfl 0 rfl ?_
      refine y_getR d_25_14 fl_4_9 rfl kd_16 rr_16_0 ?_
      refine x_alen3 d_25_17 kd_1 ?_
      refine x_icmp_ge (tgt := 34) d_25_18 rfl (fun c3 => ?_) (fun c3 => ?_)
      · replace h := ite_t c3 h
        refine x_iconst d_25_34 ic_m1 ?_
        obtain rfl := Option.some.inj h
        exact x_ret (r := some (.int (-1 : Int32))) d_25_35 ⟨_, rfl, rfl⟩
      · replace h := ite_f c3 h
        refine x_aload_n d_25_21 rfl 0 rfl ?_
        refine y_getR d_25_22 fl_4_9 rfl kd_16 rr_16_0 ?_
        refine x_iload_n d_25_25 rfl 1 rfl ?_
        obtain ⟨g4, h⟩ := gd_inv h
        refine y_bald d_25_26 kd_1 g4 ?_
        refine x_sipush d_25_27 sp_255 ?_
        refine x_iand d_25_30 ?_
        refine x_goto (tgt := 35) d_25_31 rfl ?_
        obtain rfl := Option.some.inj h
        exact x_ret (r := some (.int ((S.1 1 p1.toNatClampNeg) &&& (255 : Int32)))) d_25_35 ⟨_, rfl, rfl⟩
/-! NinetyPlayers$Tokens.isBlank -/
def fT_isBlank (F G : Nat) (S : St) (p1 : Int32) : Option (Int32) :=
  if p1 = (32 : Int32) then some (1 : Int32) else if p1 = (10 : Int32) then some (1 : Int32) else some (0 : Int32)
set_option maxRecDepth 100000 in
set_option maxHeartbeats 4000000 in
theorem c_26 {X : Nat × (Nat → Int32)} {D F G : Nat} (hD : 0 ≤ D) {S : St} {p1 : Int32} {res : Int32} (h : fT_isBlank F G S p1 = some res) : Ek X (D) m26 0 [(0, .int p1)] [] S (some (.int res)) S := by
  unfold fT_isBlank at h
  refine x_iload_n d_26_0 rfl 0 rfl ?_
  refine x_bipush d_26_1 bp_32 ?_
  refine x_icmp_eq (tgt := 12) d_26_3 rfl (fun c1 => ?_) (fun c1 => ?_)
  · replace h := ite_t c1 h
    refine x_iconst d_26_12 ic_1 ?_
    refine x_goto (tgt := 17) d_26_13 rfl ?_
    obtain rfl := Option.some.inj h
    exact x_ret (r := some (.int (1 : Int32))) d_26_17 ⟨_, rfl, rfl⟩
  · replace h := ite_f c1 h
    refine x_iload_n d_26_6 rfl 0 rfl ?_
    refine x_bipush d_26_7 bp_10 ?_
    refine x_icmp_ne (tgt := 16) d_26_9 rfl (fun c2 => ?_) (fun c2 => ?_)
    · replace h := ite_f c2 h
      refine x_iconst d_26_16 ic_0 ?_
      obtain rfl := Option.some.inj h
      exact x_ret (r := some (.int (0 : Int32))) d_26_17 ⟨_, rfl, rfl⟩
    · replace h := ite_t c2 h
      refine x_iconst d_26_12 ic_1 ?_
      refine x_goto (tgt := 17) d_26_13 rfl ?_
      obtain rfl := Option.some.inj h
      exact x_ret (r := some (.int (1 : Int32))) d_26_17 ⟨_, rfl, rfl⟩
/-! NinetyPlayers$Tokens.isLetter -/
def fT_isLetter (F G : Nat) (S : St) (p1 : Int32) : Option (Int32) :=
  if p1 < (97 : Int32) then some (0 : Int32) else if (122 : Int32) < p1 then some (0 : Int32) else some (1 : Int32)
set_option maxRecDepth 100000 in
set_option maxHeartbeats 4000000 in
theorem c_27 {X : Nat × (Nat → Int32)} {D F G : Nat} (hD : 0 ≤ D) {S : St} {p1 : Int32} {res : Int32} (h : fT_isLetter F G S p1 = some res) : Ek X (D) m27 0 [(0, .int p1)] [] S (some (.int res)) S := by
  unfold fT_isLetter at h
  refine x_iload_n d_27_0 rfl 0 rfl ?_
  refine x_bipush d_27_1 bp_97 ?_
  refine x_icmp_lt (tgt := 16) d_27_3 rfl (fun c1 => ?_) (fun c1 => ?_)
  · replace h := ite_t c1 h
    refine x_iconst d_27_16 ic_0 ?_
    obtain rfl := Option.some.inj h
    exact x_ret (r := some (.int (0 : Int32))) d_27_17 ⟨_, rfl, rfl⟩
  · replace h := ite_f c1 h
    refine x_iload_n d_27_6 rfl 0 rfl ?_
    refine x_bipush d_27_7 bp_122 ?_
    refine x_icmp_gt (tgt := 16) d_27_9 rfl (fun c2 => ?_) (fun c2 => ?_)
    · replace h := ite_t c2 h
      refine x_iconst d_27_16 ic_0 ?_
      obtain rfl := Option.some.inj h
      exact x_ret (r := some (.int (0 : Int32))) d_27_17 ⟨_, rfl, rfl⟩
    · replace h := ite_f c2 h
      refine x_iconst d_27_12 ic_1 ?_
      refine x_goto (tgt := 17) d_27_13 rfl ?_
      obtain rfl := Option.some.inj h
      exact x_ret (r := some (.int (1 : Int32))) d_27_17 ⟨_, rfl, rfl⟩
/-! java/lang/String.coder -/
def fJ_coder (F G : Nat) (S : St) (o : Nat) : Option (Int32) :=
  gd (decide (o < 2)) (if (1 : Int32) = 0 then gd (decide (narrow .byte (.int (1 : Int32)) = .int (1 : Int32))) (some (1 : Int32)) else gd (decide (narrow .byte (.int (0 : Int32)) = .int (0 : Int32))) (some (0 : Int32)))
set_option maxRecDepth 100000 in
set_option maxHeartbeats 4000000 in
theorem c_32 {X : Nat × (Nat → Int32)} {D F G : Nat} (hD : 0 ≤ D) {S : St} {o : Nat} {res : Int32} (h : fJ_coder F G S o = some res) : Ek X (D) m32 0 [(0, .ref (1000 + 2 * o))] [] S (some (.int res)) S := by
  unfold fJ_coder at h
  obtain ⟨gg0, h⟩ := gd_inv h
  refine x_gsCS d_32_0 fl_16_38 ?_
  refine x_if_eq (tgt := 13) d_32_3 rfl (fun c1 => ?_) (fun c1 => ?_)
  · replace h := ite_t c1 h
    refine x_iconst d_32_13 ic_1 ?_
    obtain ⟨g2, h⟩ := gd_inv h
    obtain rfl := Option.some.inj h
    exact x_ret (r := some (.int (1 : Int32))) d_32_14 ⟨_, rfl, of_decide_eq_true g2⟩
  · replace h := ite_f c1 h
    refine x_aload_n d_32_6 rfl 0 rfl ?_
    refine x_getSC d_32_7 (of_decide_eq_true gg0) fl_16_15 ?_
    refine x_goto (tgt := 14) d_32_10 rfl ?_
    obtain ⟨g3, h⟩ := gd_inv h
    obtain rfl := Option.some.inj h
    exact x_ret (r := some (.int (0 : Int32))) d_32_14 ⟨_, rfl, of_decide_eq_true g3⟩
/-! java/lang/String.length -/
def fJ_length (F G : Nat) (S : St) (o : Nat) : Option (Int32) :=
  gd (decide (o < 2)) (bd (fJ_coder F G S o) fun v2 => some ((Int32.ofNat (lenS.getD o 0)) >>> (v2 &&& 31)))
set_option maxRecDepth 100000 in
set_option maxHeartbeats 4000000 in
theorem c_31 {X : Nat × (Nat → Int32)} {D F G : Nat} (hD : 1 ≤ D) {S : St} {o : Nat} {res : Int32} (h : fJ_length F G S o = some res) : Ek X (D) m31 0 [(0, .ref (1000 + 2 * o))] [] S (some (.int res)) S := by
  obtain ⟨D, rfl⟩ : ∃ E, D = E + 1 := ⟨D - 1, by omega⟩
  unfold fJ_length at h
  obtain ⟨gg0, h⟩ := gd_inv h
  refine x_aload_n d_31_0 rfl 0 rfl ?_
  refine x_getSV d_31_1 (of_decide_eq_true gg0) fl_16_9 ?_
  refine x_alenS d_31_4 (of_decide_eq_true gg0) ?_
  refine x_aload_n d_31_5 rfl 0 rfl ?_
  obtain ⟨v2, q1, h⟩ := bd_inv h
  refine y_T0i (i := o) (v := v2) (S1 := S) d_31_6 ml_16_335 gg0 rfl (Nat.le_of_ble_eq_true rfl) (Nat.le_of_ble_eq_true rfl) (c_32 (by omega) q1) ?_
  refine x_ishr d_31_9 ?_
  obtain rfl := Option.some.inj h
  exact x_ret (r := some (.int ((Int32.ofNat (lenS.getD o 0)) >>> (v2 &&& 31)))) d_31_10 ⟨_, rfl, rfl⟩
/-! java/lang/String.isLatin1 -/
def fJ_isLatin1 (F G : Nat) (S : St) (o : Nat) : Option (Int32) :=
  gd (decide (o < 2)) (if (1 : Int32) = 0 then some (0 : Int32) else if (0 : Int32) = 0 then some (1 : Int32) else some (0 : Int32))
set_option maxRecDepth 100000 in
set_option maxHeartbeats 4000000 in
theorem c_34 {X : Nat × (Nat → Int32)} {D F G : Nat} (hD : 0 ≤ D) {S : St} {o : Nat} {res : Int32} (h : fJ_isLatin1 F G S o = some res) : Ek X (D) m34 0 [(0, .ref (1000 + 2 * o))] [] S (some (.int res)) S := by
  unfold fJ_isLatin1 at h
  obtain ⟨gg0, h⟩ := gd_inv h
  refine x_gsCS d_34_0 fl_16_38 ?_
  refine x_if_eq (tgt := 17) d_34_3 rfl (fun c1 => ?_) (fun c1 => ?_)
  · replace h := ite_t c1 h
    refine x_iconst d_34_17 ic_0 ?_
    obtain rfl := Option.some.inj h
    exact x_ret (r := some (.int (0 : Int32))) d_34_18 ⟨_, rfl, rfl⟩
  · replace h := ite_f c1 h
    refine x_aload_n d_34_6 rfl 0 rfl ?_
    refine x_getSC d_34_7 (of_decide_eq_true gg0) fl_16_15 ?_
    refine x_if_ne (tgt := 17) d_34_10 rfl (fun c2 => ?_) (fun c2 => ?_)
    · replace h := ite_f c2 h
      refine x_iconst d_34_17 ic_0 ?_
      obtain rfl := Option.some.inj h
      exact x_ret (r := some (.int (0 : Int32))) d_34_18 ⟨_, rfl, rfl⟩
    · replace h := ite_t c2 h
      refine x_iconst d_34_13 ic_1 ?_
      refine x_goto (tgt := 18) d_34_14 rfl ?_
      obtain rfl := Option.some.inj h
      exact x_ret (r := some (.int (1 : Int32))) d_34_18 ⟨_, rfl, rfl⟩
/-! jdk/internal/util/Preconditions.checkIndex -/
def fJ_checkIndex_37 (F G : Nat) (S : St) (p1 : Int32) (p2 : Int32) : Option (Int32) :=
  if p1 < 0 then none else if p1 < p2 then some p1 else none
set_option maxRecDepth 100000 in
set_option maxHeartbeats 4000000 in
theorem c_37 {X : Nat × (Nat → Int32)} {D F G : Nat} (hD : 0 ≤ D) {S : St} {p1 : Int32} {p2 : Int32} {res : Int32} (h : fJ_checkIndex_37 F G S p1 p2 = some res) : Ek X (D) m37 0 [(0, .int p1), (1, .int p2), (2, .retAddr 0)] [] S (some (.int res)) S := by
  unfold fJ_checkIndex_37 at h
  refine x_iload_n d_37_0 rfl 0 rfl ?_
  refine x_if_lt (tgt := 9) d_37_1 rfl (fun c1 => ?_) (fun c1 => ?_)
  · replace h := ite_t c1 h
    cases h
  · replace h := ite_f c1 h
    refine x_iload_n d_37_4 rfl 0 rfl ?_
    refine x_iload_n d_37_5 rfl 1 rfl ?_
    refine x_icmp_lt (tgt := 16) d_37_6 rfl (fun c2 => ?_) (fun c2 => ?_)
    · replace h := ite_t c2 h
      refine x_iload_n d_37_16 rfl 0 rfl ?_
      obtain rfl := Option.some.inj h
      exact x_ret (r := some (.int p1)) d_37_17 ⟨_, rfl, rfl⟩
    · replace h := ite_f c2 h
      cases h
/-! java/lang/String.checkIndex -/
def fJ_checkIndex (F G : Nat) (S : St) (p1 : Int32) (p2 : Int32) : Option (Unit) :=
  bd (fJ_checkIndex_37 F G S p1 p2) fun v2 => some ()
set_option maxRecDepth 100000 in
set_option maxHeartbeats 4000000 in
theorem c_36 {X : Nat × (Nat → Int32)} {D F G : Nat} (hD : 1 ≤ D) {S : St} {p1 : Int32} {p2 : Int32} {res : Unit} (h : fJ_checkIndex F G S p1 p2 = some res) : Ek X (D) m36 0 [(0, .int p1), (1, .int p2)] [] S none S := by
  obtain ⟨D, rfl⟩ : ∃ E, D = E + 1 := ⟨D - 1, by omega⟩
  unfold fJ_checkIndex at h
  refine x_iload_n d_36_0 rfl 0 rfl ?_
  refine x_iload_n d_36_1 rfl 1 rfl ?_
  refine x_gsFM d_36_2 fl_16_1053 ?_
  obtain ⟨v2, q1, h⟩ := bd_inv h
  refine y_S3i (v := v2) (S1 := S) d_36_5 ml_16_1059 (Nat.le_of_ble_eq_true rfl) (Nat.le_of_ble_eq_true rfl) (c_37 (by omega) q1) ?_
  refine x_pop d_36_8 rfl ?_
  exact x_ret (r := none) d_36_9 rfl
/-! java/lang/StringLatin1.charAt -/
def fJ_charAt_35 (F G : Nat) (S : St) (p1 : Nat) (p2 : Int32) : Option (Int32) :=
  gd (decide (p1 < 2)) (bd (fJ_checkIndex F G S p2 (Int32.ofNat (lenS.getD p1 0))) fun v2 => gd (inB p2 (lenS.getD p1 0)) (gd (decide (narrow .char (.int (((((bytS.getD p1 []).getD (p2).toNatClampNeg 0) &&& (255 : Int32)).toUInt32 % 65536).toInt32)) = .int (((((bytS.getD p1 []).getD (p2).toNatClampNeg 0) &&& (255 : Int32)).toUInt32 % 65536).toInt32))) (some (((((bytS.getD p1 []).getD (p2).toNatClampNeg 0) &&& (255 : Int32)).toUInt32 % 65536).toInt32))))
set_option maxRecDepth 100000 in
set_option maxHeartbeats 4000000 in
theorem c_35 {X : Nat × (Nat → Int32)} {D F G : Nat} (hD : 2 ≤ D) {S : St} {p1 : Nat} {p2 : Int32} {res : Int32} (h : fJ_charAt_35 F G S p1 p2 = some res) : Ek X (D) m35 0 [(0, .ref (1001 + 2 * p1)), (1, .int p2)] [] S (some (.int res)) S := by
  obtain ⟨D, rfl⟩ : ∃ E, D = E + 1 := ⟨D - 1, by omega⟩
  unfold fJ_charAt_35 at h
  obtain ⟨gg0, h⟩ := gd_inv h
  refine x_iload_n d_35_0 rfl 1 rfl ?_
  refine x_aload_n d_35_1 rfl 0 rfl ?_
  refine x_alenS d_35_2 (of_decide_eq_true gg0) ?_
  obtain ⟨v2, q1, h⟩ := bd_inv h
  refine y_S2v (S1 := S) d_35_3 ml_17_9 (Nat.le_of_ble_eq_true rfl) (Nat.le_of_ble_eq_true rfl) (c_36 (by omega) q1) ?_
  refine x_aload_n d_35_6 rfl 0 rfl ?_
  refine x_iload_n d_35_7 rfl 1 rfl ?_
  obtain ⟨g3, h⟩ := gd_inv h
  refine x_baldS d_35_8 (of_decide_eq_true gg0) (inB_in g3) ?_
  refine x_sipush d_35_9 sp_255 ?_
  refine x_iand d_35_12 ?_
  refine x_i2c d_35_13 ?_
  obtain ⟨g4, h⟩ := gd_inv h
  obtain rfl := Option.some.inj h
  exact x_ret (r := some (.int (((((bytS.getD p1 []).getD (p2).toNatClampNeg 0) &&& (255 : Int32)).toUInt32 % 65536).toInt32))) d_35_14 ⟨_, rfl, of_decide_eq_true g4⟩
/-! java/lang/String.charAt -/
def fJ_charAt (F G : Nat) (S : St) (o : Nat) (p1 : Int32) : Option (Int32) :=
  gd (decide (o < 2)) (bd (fJ_isLatin1 F G S o) fun v2 => if v2 = 0 then none else bd (fJ_charAt_35 F G S o p1) fun v5 => gd (decide (narrow .char (.int v5) = .int v5)) (some v5))
set_option maxRecDepth 100000 in
set_option maxHeartbeats 4000000 in
theorem c_33 {X : Nat × (Nat → Int32)} {D F G : Nat} (hD : 3 ≤ D) {S : St} {o : Nat} {p1 : Int32} {res : Int32} (h : fJ_charAt F G S o p1 = some res) : Ek X (D) m33 0 [(0, .ref (1000 + 2 * o)), (1, .int p1)] [] S (some (.int res)) S := by
  obtain ⟨D, rfl⟩ : ∃ E, D = E + 1 := ⟨D - 1, by omega⟩
  unfold fJ_charAt at h
  obtain ⟨gg0, h⟩ := gd_inv h
  refine x_aload_n d_33_0 rfl 0 rfl ?_
  obtain ⟨v2, q1, h⟩ := bd_inv h
  refine y_T0i (i := o) (v := v2) (S1 := S) d_33_1 ml_16_492 gg0 rfl (Nat.le_of_ble_eq_true rfl) (Nat.le_of_ble_eq_true rfl) (c_34 (by omega) q1) ?_
  refine x_if_eq (tgt := 16) d_33_4 rfl (fun c3 => ?_) (fun c3 => ?_)
  · replace h := ite_t c3 h
    refine x_aload_n d_33_16 rfl 0 rfl ?_
    refine x_getSV d_33_17 (of_decide_eq_true gg0) fl_16_9 ?_
    refine x_iload_n d_33_20 rfl 1 rfl ?_
    cases h
  · replace h := ite_f c3 h
    refine x_aload_n d_33_7 rfl 0 rfl ?_
    refine x_getSV d_33_8 (of_decide_eq_true gg0) fl_16_9 ?_
    refine x_iload_n d_33_11 rfl 1 rfl ?_
    obtain ⟨v5, q4, h⟩ := bd_inv h
    refine y_S2i (v := v5) (S1 := S) d_33_12 ml_16_495 (Nat.le_of_ble_eq_true rfl) (Nat.le_of_ble_eq_true rfl) (c_35 (by omega) q4) ?_
    obtain ⟨g6, h⟩ := gd_inv h
    obtain rfl := Option.some.inj h
    exact x_ret (r := some (.int v5)) d_33_15 ⟨_, rfl, of_decide_eq_true g6⟩
/-! NinetyPlayers$Word.stands -/
def j_30_62 (F G : Nat) (S : St) (z2 : Int32) (z3 : Int32) (z4 : Int32) (rec : Int32 → Option (Int32)) (_ : St) (y5 : Int32) (s0 : Int32) : Option (Int32) :=
  bd (fJ_charAt F G S 0 (z4 + y5)) fun v16 => if v16 = s0 then lt (y5 + 1) fun v18 => rec v18 else some (0 : Int32)
def j_30_60 (F G : Nat) (S : St) (z2 : Int32) (z3 : Int32) (z4 : Int32) (rec : Int32 → Option (Int32)) (_ : St) (y5 : Int32) : Option (Int32) :=
  j_30_62 F G S z2 z3 z4 rec  S y5 (32 : Int32)
def b_30_9 (F G : Nat) (S : St) (z2 : Int32) (z3 : Int32) (z4 : Int32) (rec : Int32 → Option (Int32)) (w5 : Int32) : Option (Int32) :=
  if (8 : Int32) ≤ w5 then if (8 : Int32) < (z3 - z2) then some (0 : Int32) else some (1 : Int32) else bd (fJ_length F G S 0) fun v6 => if v6 ≤ (z4 + w5) then if (8 : Int32) < (z3 - z2) then some (0 : Int32) else some (1 : Int32) else lt (z2 + w5) fun v9 => if v9 < 0 then j_30_60 F G S z2 z3 z4 rec  S w5 else if z3 ≤ v9 then j_30_60 F G S z2 z3 z4 rec  S w5 else if (Int32.ofNat 1600) ≤ v9 then j_30_60 F G S z2 z3 z4 rec  S w5 else gd (inB v9 1600) (j_30_62 F G S z2 z3 z4 rec  S w5 (S.1 1 v9.toNatClampNeg))
def fW_stands (F G : Nat) (S : St) (p1 : Int32) (p2 : Int32) (p3 : Int32) : Option (Int32) :=
  lt (p1 * (8 : Int32)) fun v1 => fx1 (b_30_9 F G S p2 p3 v1) F (0 : Int32)
set_option maxRecDepth 100000 in
set_option maxHeartbeats 4000000 in
theorem T_30_9 {X : Nat × (Nat → Int32)} {D F G : Nat} (hD : 4 ≤ D + 1) {S : St} {z2 : Int32} {z3 : Int32} {z4 : Int32} : ∀ (f : Nat) (w5 : Int32) (res : Int32), fx1 (b_30_9 F G S z2 z3 z4 ) f w5 = some res → Ek X (D + 1) m30 9 [(1, .ref 1), (2, .int z2), (3, .int z3), (4, .int z4), (5, .int w5)] [] S (some (.int res)) S := by
  refine fx1_ind ?_
  intro rec ih w5 res h
  unfold b_30_9 at h
  have J62 : ∀ (y5 : Int32) (s0 : Int32) (res : Int32), j_30_62 F G S z2 z3 z4 rec S y5 s0 = some res → Ek X (D + 1) m30 62 [(1, .ref 1), (2, .int z2), (3, .int z3), (4, .int z4), (5, .int y5)] [.int s0] S (some (.int res)) S := by
    intro y5 s0 res h
    unfold j_30_62 at h
    refine x_istore (L1 := [(1, .ref 1), (2, .int z2), (3, .int z3), (4, .int z4), (5, .int y5), (7, .int s0)]) d_30_62 (Nat.le_of_ble_eq_true rfl) rfl rfl ?_
    refine x_ldcW d_30_64 rfl ?_
    refine x_iload d_30_66 3 rfl ?_
    refine x_iload d_30_68 4 rfl ?_
    refine x_iadd d_30_70 ?_
    obtain ⟨v16, q15, h⟩ := bd_inv h
    refine y_T1i (i := 0) (v := v16) (S1 := S) d_30_71 ml_12_23 (by decide) rfl (Nat.le_of_ble_eq_true rfl) (Nat.le_of_ble_eq_true rfl) (c_33 (by omega) q15) ?_
    refine x_iload d_30_74 5 rfl ?_
    refine x_icmp_eq (tgt := 81) d_30_76 rfl (fun c17 => ?_) (fun c17 => ?_)
    · replace h := ite_t c17 h
      obtain ⟨v18, e19, h⟩ := lt_inv h
      refine y_iinc (L1 := [(1, .ref 1), (2, .int z2), (3, .int z3), (4, .int z4), (5, .int v18), (7, .int s0)]) e19 ic_1 d_30_81 4 rfl (Nat.le_of_ble_eq_true rfl) rfl rfl ?_
      refine x_goto (tgt := 9) d_30_84 rfl ?_
      refine y_pick (L1 := [(1, .ref 1), (2, .int z2), (3, .int z3), (4, .int z4), (5, .int v18)]) [0, 1, 2, 3, 4] rfl ?_
      exact ih v18 _ h
    · replace h := ite_f c17 h
      refine x_iconst d_30_79 ic_0 ?_
      obtain rfl := Option.some.inj h
      exact x_ret (r := some (.int (0 : Int32))) d_30_80 ⟨_, rfl, rfl⟩
  have J60 : ∀ (y5 : Int32) (res : Int32), j_30_60 F G S z2 z3 z4 rec S y5 = some res → Ek X (D + 1) m30 60 [(1, .ref 1), (2, .int z2), (3, .int z3), (4, .int z4), (5, .int y5)] [] S (some (.int res)) S := by
    intro y5 res h
    unfold j_30_60 at h
    refine x_bipush d_30_60 bp_32 ?_
    exact J62 y5 (32 : Int32) _ h
  refine x_iload d_30_9 4 rfl ?_
  refine x_bipush d_30_11 bp_8 ?_
  refine x_icmp_ge (tgt := 87) d_30_13 rfl (fun c3 => ?_) (fun c3 => ?_)
  · replace h := ite_t c3 h
    refine x_iload_n d_30_87 rfl 2 rfl ?_
    refine x_iload_n d_30_88 rfl 1 rfl ?_
    refine x_isub d_30_89 ?_
    refine x_bipush d_30_90 bp_8 ?_
    refine x_icmp_gt (tgt := 99) d_30_92 rfl (fun c4 => ?_) (fun c4 => ?_)
    · replace h := ite_t c4 h
      refine x_iconst d_30_99 ic_0 ?_
      obtain rfl := Option.some.inj h
      exact x_ret (r := some (.int (0 : Int32))) d_30_100 ⟨_, rfl, rfl⟩
    · replace h := ite_f c4 h
      refine x_iconst d_30_95 ic_1 ?_
      refine x_goto (tgt := 100) d_30_96 rfl ?_
      obtain rfl := Option.some.inj h
      exact x_ret (r := some (.int (1 : Int32))) d_30_100 ⟨_, rfl, rfl⟩
  · replace h := ite_f c3 h
    refine x_iload d_30_16 3 rfl ?_
    refine x_iload d_30_18 4 rfl ?_
    refine x_iadd d_30_20 ?_
    refine x_ldcW d_30_21 rfl ?_
    obtain ⟨v6, q5, h⟩ := bd_inv h
    refine y_T0i (i := 0) (v := v6) (S1 := S) d_30_23 ml_12_17 (by decide) rfl (Nat.le_of_ble_eq_true rfl) (Nat.le_of_ble_eq_true rfl) (c_31 (by omega) q5) ?_
    refine x_icmp_ge (tgt := 87) d_30_26 rfl (fun c7 => ?_) (fun c7 => ?_)
    · replace h := ite_t c7 h
      refine x_iload_n d_30_87 rfl 2 rfl ?_
      refine x_iload_n d_30_88 rfl 1 rfl ?_
      refine x_isub d_30_89 ?_
      refine x_bipush d_30_90 bp_8 ?_
      refine x_icmp_gt (tgt := 99) d_30_92 rfl (fun c8 => ?_) (fun c8 => ?_)
      · replace h := ite_t c8 h
        refine x_iconst d_30_99 ic_0 ?_
        obtain rfl := Option.some.inj h
        exact x_ret (r := some (.int (0 : Int32))) d_30_100 ⟨_, rfl, rfl⟩
      · replace h := ite_f c8 h
        refine x_iconst d_30_95 ic_1 ?_
        refine x_goto (tgt := 100) d_30_96 rfl ?_
        obtain rfl := Option.some.inj h
        exact x_ret (r := some (.int (1 : Int32))) d_30_100 ⟨_, rfl, rfl⟩
    · replace h := ite_f c7 h
      refine x_iload_n d_30_29 rfl 1 rfl ?_
      refine x_iload d_30_30 4 rfl ?_
      refine x_iadd d_30_32 ?_
      obtain ⟨v9, e10, h⟩ := lt_inv h
      refine y_istore (L1 := [(1, .ref 1), (2, .int z2), (3, .int z3), (4, .int z4), (5, .int w5), (6, .int v9)]) e10 d_30_33 (Nat.le_of_ble_eq_true rfl) rfl rfl ?_
      refine x_iload d_30_35 5 rfl ?_
      refine x_if_lt (tgt := 60) d_30_37 rfl (fun c11 => ?_) (fun c11 => ?_)
      · replace h := ite_t c11 h
        refine y_pick (L1 := [(1, .ref 1), (2, .int z2), (3, .int z3), (4, .int z4), (5, .int w5)]) [0, 1, 2, 3, 4] rfl ?_
        exact J60 w5 _ h
      · replace h := ite_f c11 h
        refine x_iload d_30_40 5 rfl ?_
        refine x_iload_n d_30_42 rfl 2 rfl ?_
        refine x_icmp_ge (tgt := 60) d_30_43 rfl (fun c12 => ?_) (fun c12 => ?_)
        · replace h := ite_t c12 h
          refine y_pick (L1 := [(1, .ref 1), (2, .int z2), (3, .int z3), (4, .int z4), (5, .int w5)]) [0, 1, 2, 3, 4] rfl ?_
          exact J60 w5 _ h
        · replace h := ite_f c12 h
          refine x_iload d_30_46 5 rfl ?_
          refine x_aload_n d_30_48 rfl 0 rfl ?_
          refine x_alen3 d_30_49 kd_1 ?_
          refine x_icmp_ge (tgt := 60) d_30_50 rfl (fun c13 => ?_) (fun c13 => ?_)
          · replace h := ite_t c13 h
            refine y_pick (L1 := [(1, .ref 1), (2, .int z2), (3, .int z3), (4, .int z4), (5, .int w5)]) [0, 1, 2, 3, 4] rfl ?_
            exact J60 w5 _ h
          · replace h := ite_f c13 h
            refine x_aload_n d_30_53 rfl 0 rfl ?_
            refine x_iload d_30_54 5 rfl ?_
            obtain ⟨g14, h⟩ := gd_inv h
            refine y_bald d_30_56 kd_1 g14 ?_
            refine x_goto (tgt := 62) d_30_57 rfl ?_
            refine y_pick (L1 := [(1, .ref 1), (2, .int z2), (3, .int z3), (4, .int z4), (5, .int w5)]) [0, 1, 2, 3, 4] rfl ?_
            exact J62 w5 (S.1 1 v9.toNatClampNeg) _ h
set_option maxRecDepth 100000 in
set_option maxHeartbeats 4000000 in
theorem c_30 {X : Nat × (Nat → Int32)} {D F G : Nat} (hD : 4 ≤ D) {S : St} {p1 : Int32} {p2 : Int32} {p3 : Int32} {res : Int32} (h : fW_stands F G S p1 p2 p3 = some res) : Ek X (D) m30 0 [(0, .int p1), (1, .ref 1), (2, .int p2), (3, .int p3)] [] S (some (.int res)) S := by
  obtain ⟨D, rfl⟩ : ∃ E, D = E + 1 := ⟨D - 1, by omega⟩
  unfold fW_stands at h
  refine x_iload_n d_30_0 rfl 0 rfl ?_
  refine x_bipush d_30_1 bp_8 ?_
  refine x_imul d_30_3 ?_
  obtain ⟨v1, e2, h⟩ := lt_inv h
  refine y_istore (L1 := [(0, .int p1), (1, .ref 1), (2, .int p2), (3, .int p3), (4, .int v1)]) e2 d_30_4 (Nat.le_of_ble_eq_true rfl) rfl rfl ?_
  refine x_iconst d_30_6 ic_0 ?_
  refine x_istore (L1 := [(0, .int p1), (1, .ref 1), (2, .int p2), (3, .int p3), (4, .int v1), (5, .int (0 : Int32))]) d_30_7 (Nat.le_of_ble_eq_true rfl) rfl rfl ?_
  refine y_pick (L1 := [(1, .ref 1), (2, .int p2), (3, .int p3), (4, .int v1), (5, .int (0 : Int32))]) [1, 2, 3, 4, 5] rfl ?_
  refine T_30_9 (by omega)   F (0 : Int32) _ h
/-! NinetyPlayers$Word.numberOf -/
def b_29_2 (F G : Nat) (S : St) (z1 : Int32) (z2 : Int32) (rec : Int32 → Option (Int32)) (w3 : Int32) : Option (Int32) :=
  if (20 : Int32) < w3 then some (-1 : Int32) else bd (fW_stands F G S w3 z1 z2) fun v3 => if v3 = 0 then lt (w3 + 1) fun v5 => rec v5 else some w3
def fW_numberOf (F G : Nat) (S : St) (p1 : Int32) (p2 : Int32) : Option (Int32) :=
  fx1 (b_29_2 F G S p1 p2) F (0 : Int32)
set_option maxRecDepth 100000 in
set_option maxHeartbeats 4000000 in
theorem T_29_2 {X : Nat × (Nat → Int32)} {D F G : Nat} (hD : 5 ≤ D + 1) {S : St} {z1 : Int32} {z2 : Int32} : ∀ (f : Nat) (w3 : Int32) (res : Int32), fx1 (b_29_2 F G S z1 z2 ) f w3 = some res → Ek X (D + 1) m29 2 [(0, .ref 1), (1, .int z1), (2, .int z2), (3, .int w3)] [] S (some (.int res)) S := by
  refine fx1_ind ?_
  intro rec ih w3 res h
  unfold b_29_2 at h
  refine x_iload_n d_29_2 rfl 3 rfl ?_
  refine x_bipush d_29_3 bp_20 ?_
  refine x_icmp_gt (tgt := 26) d_29_5 rfl (fun c1 => ?_) (fun c1 => ?_)
  · replace h := ite_t c1 h
    refine x_iconst d_29_26 ic_m1 ?_
    obtain rfl := Option.some.inj h
    exact x_ret (r := some (.int (-1 : Int32))) d_29_27 ⟨_, rfl, rfl⟩
  · replace h := ite_f c1 h
    refine x_iload_n d_29_8 rfl 3 rfl ?_
    refine x_aload_n d_29_9 rfl 0 rfl ?_
    refine x_iload_n d_29_10 rfl 1 rfl ?_
    refine x_iload_n d_29_11 rfl 2 rfl ?_
    obtain ⟨v3, q2, h⟩ := bd_inv h
    refine y_S4i (v := v3) (S1 := S) d_29_12 ml_12_11 (Nat.le_of_ble_eq_true rfl) (Nat.le_of_ble_eq_true rfl) (c_30 (by omega) q2) ?_
    refine x_if_eq (tgt := 20) d_29_15 rfl (fun c4 => ?_) (fun c4 => ?_)
    · replace h := ite_t c4 h
      obtain ⟨v5, e6, h⟩ := lt_inv h
      refine y_iinc (L1 := [(0, .ref 1), (1, .int z1), (2, .int z2), (3, .int v5)]) e6 ic_1 d_29_20 3 rfl (Nat.le_of_ble_eq_true rfl) rfl rfl ?_
      refine x_goto (tgt := 2) d_29_23 rfl ?_
      exact ih v5 _ h
    · replace h := ite_f c4 h
      refine x_iload_n d_29_18 rfl 3 rfl ?_
      obtain rfl := Option.some.inj h
      exact x_ret (r := some (.int w3)) d_29_19 ⟨_, rfl, rfl⟩
set_option maxRecDepth 100000 in
set_option maxHeartbeats 4000000 in
theorem c_29 {X : Nat × (Nat → Int32)} {D F G : Nat} (hD : 5 ≤ D) {S : St} {p1 : Int32} {p2 : Int32} {res : Int32} (h : fW_numberOf F G S p1 p2 = some res) : Ek X (D) m29 0 [(0, .ref 1), (1, .int p1), (2, .int p2)] [] S (some (.int res)) S := by
  obtain ⟨D, rfl⟩ : ∃ E, D = E + 1 := ⟨D - 1, by omega⟩
  unfold fW_numberOf at h
  refine x_iconst d_29_0 ic_0 ?_
  refine x_istore_n (L1 := [(0, .ref 1), (1, .int p1), (2, .int p2), (3, .int (0 : Int32))]) d_29_1 rfl (Nat.le_of_ble_eq_true rfl) rfl rfl ?_
  refine T_29_2 (by omega)   F (0 : Int32) _ h
/-! NinetyPlayers$Tokens.takeWord -/
def b_28_5 (F G : Nat) (k68 : St → Option (St)) (rec : St → Option (St)) (S : St) : Option (St) :=
  if (S.1 16 1) ≤ (S.1 16 2) then k68 S else bd (fT_at F G S (S.1 16 2)) fun v5 => bd (fT_isLetter F G S v5) fun v7 => if v7 = 0 then k68 S else bd (fT_at F G S (S.1 16 2)) fun v10 => lt (sL S 16 6 (((S.2.1 16 6) <<< ((5 : Int32).toInt64 &&& 63)) ||| (((v10 - (97 : Int32)) + (1 : Int32)).toInt64))) fun S11 => lt (sI S11 16 2 ((S11.1 16 2) + (1 : Int32))) fun S13 => rec S13
def j_28_101 (F G : Nat) (S : St) (s1 : Int32) : Option (St) :=
  lt (sI S 16 4 s1) fun S21 => if ((S21.1 16 2) - (S21.1 16 3)) ≤ (8 : Int32) then some S21 else lt (sI S21 16 4 (5 : Int32)) fun S24 => some S24
def j_28_68 (F G : Nat) (S : St) : Option (St) :=
  bd (fW_numberOf F G S (S.1 16 3) (S.1 16 2)) fun v17 => lt (sI S 16 5 v17) fun S18 => if (S18.1 16 5) = (-1 : Int32) then j_28_101 F G  S18 (2 : Int32) else j_28_101 F G  S18 (1 : Int32)
def fT_takeWord (F G : Nat) (S : St) : Option (St) :=
  lt (sL S 16 6 (0 : Int64)) fun S1 => fx1 (b_28_5 F G  (fun S15 => j_28_68 F G  S15 )) F S1
set_option maxRecDepth 100000 in
set_option maxHeartbeats 4000000 in
theorem T_28_5 {X : Nat × (Nat → Int32)} {D F G : Nat} (hD : 6 ≤ D + 1) {k68 : St → Option (St)} (hk68 : ∀ (S1 : St) (res : St), k68 S1 = some res → Ek X (D + 1) m28 68 [(0, .ref 16)] [] S1 none res) : ∀ (f : Nat) (S : St) (res : St), fx1 (b_28_5 F G k68 ) f S = some res → Ek X (D + 1) m28 5 [(0, .ref 16)] [] S none res := by
  refine fx1_ind ?_
  intro rec ih S res h
  unfold b_28_5 at h
  refine x_aload_n d_28_5 rfl 0 rfl ?_
  refine y_getI d_28_6 fl_4_28 rfl kd_16 ?_
  refine x_aload_n d_28_9 rfl 0 rfl ?_
  refine y_getI d_28_10 fl_4_24 rfl kd_16 ?_
  refine x_icmp_ge (tgt := 68) d_28_13 rfl (fun c3 => ?_) (fun c3 => ?_)
  · replace h := ite_t c3 h
    exact hk68 S _ h
  · replace h := ite_f c3 h
    refine x_aload_n d_28_16 rfl 0 rfl ?_
    refine x_aload_n d_28_17 rfl 0 rfl ?_
    refine y_getI d_28_18 fl_4_28 rfl kd_16 ?_
    obtain ⟨v5, q4, h⟩ := bd_inv h
    refine y_V1i (v := v5) (S1 := S) d_28_21 ml_4_34 kd_16 rfl (Nat.le_of_ble_eq_true rfl) (Nat.le_of_ble_eq_true rfl) (c_25 (by omega) q4) ?_
    obtain ⟨v7, q6, h⟩ := bd_inv h
    refine y_S1i (v := v7) (S1 := S) d_28_24 ml_4_48 (Nat.le_of_ble_eq_true rfl) (Nat.le_of_ble_eq_true rfl) (c_27 (by omega) q6) ?_
    refine x_if_eq (tgt := 68) d_28_27 rfl (fun c8 => ?_) (fun c8 => ?_)
    · replace h := ite_t c8 h
      exact hk68 S _ h
    · replace h := ite_f c8 h
      refine x_aload_n d_28_30 rfl 0 rfl ?_
      refine x_aload_n d_28_31 rfl 0 rfl ?_
      refine y_getL d_28_32 fl_4_70 rfl kd_16 ?_
      refine x_iconst d_28_35 ic_5 ?_
      refine x_lshl d_28_36 ?_
      refine x_aload_n d_28_37 rfl 0 rfl ?_
      refine x_aload_n d_28_38 rfl 0 rfl ?_
      refine y_getI d_28_39 fl_4_28 rfl kd_16 ?_
      obtain ⟨v10, q9, h⟩ := bd_inv h
      refine y_V1i (v := v10) (S1 := S) d_28_42 ml_4_34 kd_16 rfl (Nat.le_of_ble_eq_true rfl) (Nat.le_of_ble_eq_true rfl) (c_25 (by omega) q9) ?_
      refine x_bipush d_28_45 bp_97 ?_
      refine x_isub d_28_47 ?_
      refine x_iconst d_28_48 ic_1 ?_
      refine x_iadd d_28_49 ?_
      refine x_i2l d_28_50 ?_
      refine x_lor d_28_51 ?_
      obtain ⟨S11, e12, h⟩ := lt_inv h
      refine y_putL e12 d_28_52 fl_4_70 rfl rfl kd_16 ?_
      refine x_aload_n d_28_55 rfl 0 rfl ?_
      refine x_dup d_28_56 rfl ?_
      refine y_getI d_28_57 fl_4_28 rfl kd_16 ?_
      refine x_iconst d_28_60 ic_1 ?_
      refine x_iadd d_28_61 ?_
      obtain ⟨S13, e14, h⟩ := lt_inv h
      refine y_putI e14 d_28_62 fl_4_28 rfl rfl kd_16 rfl rfl ?_
      refine x_goto (tgt := 5) d_28_65 rfl ?_
      exact ih S13 _ h
set_option maxRecDepth 100000 in
set_option maxHeartbeats 4000000 in
theorem c_28 {X : Nat × (Nat → Int32)} {D F G : Nat} (hD : 6 ≤ D) {S : St} {res : St} (h : fT_takeWord F G S  = some res) : Ek X (D) m28 0 [(0, .ref 16)] [] S none res := by
  obtain ⟨D, rfl⟩ : ∃ E, D = E + 1 := ⟨D - 1, by omega⟩
  unfold fT_takeWord at h
  have J101 : ∀ (S : St) (s1 : Int32) (res : St), j_28_101 F G S s1 = some res → Ek X (D + 1) m28 101 [(0, .ref 16)] [.int s1, .ref 16] S none res := by
    intro S s1 res h
    unfold j_28_101 at h
    obtain ⟨S21, e22, h⟩ := lt_inv h
    refine y_putI e22 d_28_101 fl_4_45 rfl rfl kd_16 rfl rfl ?_
    refine x_aload_n d_28_104 rfl 0 rfl ?_
    refine y_getI d_28_105 fl_4_28 rfl kd_16 ?_
    refine x_aload_n d_28_108 rfl 0 rfl ?_
    refine y_getI d_28_109 fl_4_42 rfl kd_16 ?_
    refine x_isub d_28_112 ?_
    refine x_bipush d_28_113 bp_8 ?_
    refine x_icmp_le (tgt := 123) d_28_115 rfl (fun c23 => ?_) (fun c23 => ?_)
    · replace h := ite_t c23 h
      obtain rfl := Option.some.inj h
      exact x_ret (r := none) d_28_123 rfl
    · replace h := ite_f c23 h
      refine x_aload_n d_28_118 rfl 0 rfl ?_
      refine x_iconst d_28_119 ic_5 ?_
      obtain ⟨S24, e25, h⟩ := lt_inv h
      refine y_putI e25 d_28_120 fl_4_45 rfl rfl kd_16 rfl rfl ?_
      obtain rfl := Option.some.inj h
      exact x_ret (r := none) d_28_123 rfl
  have J68 : ∀ (S : St) (res : St), j_28_68 F G S  = some res → Ek X (D + 1) m28 68 [(0, .ref 16)] [] S none res := by
    intro S  res h
    unfold j_28_68 at h
    refine x_aload_n d_28_68 rfl 0 rfl ?_
    refine x_aload_n d_28_69 rfl 0 rfl ?_
    refine y_getR d_28_70 fl_4_9 rfl kd_16 rr_16_0 ?_
    refine x_aload_n d_28_73 rfl 0 rfl ?_
    refine y_getI d_28_74 fl_4_42 rfl kd_16 ?_
    refine x_aload_n d_28_77 rfl 0 rfl ?_
    refine y_getI d_28_78 fl_4_28 rfl kd_16 ?_
    obtain ⟨v17, q16, h⟩ := bd_inv h
    refine y_S3i (v := v17) (S1 := S) d_28_81 ml_4_74 (Nat.le_of_ble_eq_true rfl) (Nat.le_of_ble_eq_true rfl) (c_29 (by omega) q16) ?_
    obtain ⟨S18, e19, h⟩ := lt_inv h
    refine y_putI e19 d_28_84 fl_4_67 rfl rfl kd_16 rfl rfl ?_
    refine x_aload_n d_28_87 rfl 0 rfl ?_
    refine x_aload_n d_28_88 rfl 0 rfl ?_
    refine y_getI d_28_89 fl_4_67 rfl kd_16 ?_
    refine x_iconst d_28_92 ic_m1 ?_
    refine x_icmp_ne (tgt := 100) d_28_93 rfl (fun c20 => ?_) (fun c20 => ?_)
    · replace h := ite_f c20 h
      refine x_iconst d_28_100 ic_1 ?_
      exact J101 S18 (1 : Int32) _ h
    · replace h := ite_t c20 h
      refine x_iconst d_28_96 ic_2 ?_
      refine x_goto (tgt := 101) d_28_97 rfl ?_
      exact J101 S18 (2 : Int32) _ h
  refine x_aload_n d_28_0 rfl 0 rfl ?_
  refine x_lconst (v := 0) d_28_1 rfl ?_
  obtain ⟨S1, e2, h⟩ := lt_inv h
  refine y_putL e2 d_28_2 fl_4_70 rfl rfl kd_16 ?_
  refine T_28_5 (by omega)  ?_ F S1 _ h
  · intro S15 res h
    exact J68 S15  _ h
/-! NinetyPlayers$Tokens.isDigit -/
def fT_isDigit (F G : Nat) (S : St) (p1 : Int32) : Option (Int32) :=
  if p1 < (48 : Int32) then some (0 : Int32) else if (57 : Int32) < p1 then some (0 : Int32) else some (1 : Int32)
set_option maxRecDepth 100000 in
set_option maxHeartbeats 4000000 in
theorem c_42 {X : Nat × (Nat → Int32)} {D F G : Nat} (hD : 0 ≤ D) {S : St} {p1 : Int32} {res : Int32} (h : fT_isDigit F G S p1 = some res) : Ek X (D) m42 0 [(0, .int p1)] [] S (some (.int res)) S := by
  unfold fT_isDigit at h
  refine x_iload_n d_42_0 rfl 0 rfl ?_
  refine x_bipush d_42_1 bp_48 ?_
  refine x_icmp_lt (tgt := 16) d_42_3 rfl (fun c1 => ?_) (fun c1 => ?_)
  · replace h := ite_t c1 h
    refine x_iconst d_42_16 ic_0 ?_
    obtain rfl := Option.some.inj h
    exact x_ret (r := some (.int (0 : Int32))) d_42_17 ⟨_, rfl, rfl⟩
  · replace h := ite_f c1 h
    refine x_iload_n d_42_6 rfl 0 rfl ?_
    refine x_bipush d_42_7 bp_57 ?_
    refine x_icmp_gt (tgt := 16) d_42_9 rfl (fun c2 => ?_) (fun c2 => ?_)
    · replace h := ite_t c2 h
      refine x_iconst d_42_16 ic_0 ?_
      obtain rfl := Option.some.inj h
      exact x_ret (r := some (.int (0 : Int32))) d_42_17 ⟨_, rfl, rfl⟩
    · replace h := ite_f c2 h
      refine x_iconst d_42_12 ic_1 ?_
      refine x_goto (tgt := 17) d_42_13 rfl ?_
      obtain rfl := Option.some.inj h
      exact x_ret (r := some (.int (1 : Int32))) d_42_17 ⟨_, rfl, rfl⟩
/-! NinetyPlayers$Tokens.takeNumber -/
def b_43_5 (F G : Nat) (k66 : St → Option (St)) (rec : St → Option (St)) (S : St) : Option (St) :=
  if (S.1 16 1) ≤ (S.1 16 2) then k66 S else bd (fT_at F G S (S.1 16 2)) fun v5 => bd (fT_isDigit F G S v5) fun v7 => if v7 = 0 then k66 S else bd (fT_at F G S (S.1 16 2)) fun v10 => lt (sI S 16 5 ((((S.1 16 5) * (10 : Int32)) + v10) - (48 : Int32))) fun S11 => lt (sI S11 16 2 ((S11.1 16 2) + (1 : Int32))) fun S13 => rec S13
def j_43_66 (F G : Nat) (S : St) : Option (St) :=
  if (4 : Int32) < ((S.1 16 2) - (S.1 16 3)) then lt (sI S 16 4 (5 : Int32)) fun S17 => some S17 else bd (fT_at F G S (S.1 16 2)) fun v20 => bd (fT_isLetter F G S v20) fun v22 => if v22 = 0 then lt (sI S 16 4 (3 : Int32)) fun S24 => some S24 else lt (sI S 16 4 (5 : Int32)) fun S26 => some S26
def fT_takeNumber (F G : Nat) (S : St) : Option (St) :=
  lt (sI S 16 5 (0 : Int32)) fun S1 => fx1 (b_43_5 F G  (fun S15 => j_43_66 F G  S15 )) F S1
set_option maxRecDepth 100000 in
set_option maxHeartbeats 4000000 in
theorem T_43_5 {X : Nat × (Nat → Int32)} {D F G : Nat} (hD : 1 ≤ D + 1) {k66 : St → Option (St)} (hk66 : ∀ (S1 : St) (res : St), k66 S1 = some res → Ek X (D + 1) m43 66 [(0, .ref 16)] [] S1 none res) : ∀ (f : Nat) (S : St) (res : St), fx1 (b_43_5 F G k66 ) f S = some res → Ek X (D + 1) m43 5 [(0, .ref 16)] [] S none res := by
  refine fx1_ind ?_
  intro rec ih S res h
  unfold b_43_5 at h
  refine x_aload_n d_43_5 rfl 0 rfl ?_
  refine y_getI d_43_6 fl_4_28 rfl kd_16 ?_
  refine x_aload_n d_43_9 rfl 0 rfl ?_
  refine y_getI d_43_10 fl_4_24 rfl kd_16 ?_
  refine x_icmp_ge (tgt := 66) d_43_13 rfl (fun c3 => ?_) (fun c3 => ?_)
  · replace h := ite_t c3 h
    exact hk66 S _ h
  · replace h := ite_f c3 h
    refine x_aload_n d_43_16 rfl 0 rfl ?_
    refine x_aload_n d_43_17 rfl 0 rfl ?_
    refine y_getI d_43_18 fl_4_28 rfl kd_16 ?_
    obtain ⟨v5, q4, h⟩ := bd_inv h
    refine y_V1i (v := v5) (S1 := S) d_43_21 ml_4_34 kd_16 rfl (Nat.le_of_ble_eq_true rfl) (Nat.le_of_ble_eq_true rfl) (c_25 (by omega) q4) ?_
    obtain ⟨v7, q6, h⟩ := bd_inv h
    refine y_S1i (v := v7) (S1 := S) d_43_24 ml_4_54 (Nat.le_of_ble_eq_true rfl) (Nat.le_of_ble_eq_true rfl) (c_42 (by omega) q6) ?_
    refine x_if_eq (tgt := 66) d_43_27 rfl (fun c8 => ?_) (fun c8 => ?_)
    · replace h := ite_t c8 h
      exact hk66 S _ h
    · replace h := ite_f c8 h
      refine x_aload_n d_43_30 rfl 0 rfl ?_
      refine x_aload_n d_43_31 rfl 0 rfl ?_
      refine y_getI d_43_32 fl_4_67 rfl kd_16 ?_
      refine x_bipush d_43_35 bp_10 ?_
      refine x_imul d_43_37 ?_
      refine x_aload_n d_43_38 rfl 0 rfl ?_
      refine x_aload_n d_43_39 rfl 0 rfl ?_
      refine y_getI d_43_40 fl_4_28 rfl kd_16 ?_
      obtain ⟨v10, q9, h⟩ := bd_inv h
      refine y_V1i (v := v10) (S1 := S) d_43_43 ml_4_34 kd_16 rfl (Nat.le_of_ble_eq_true rfl) (Nat.le_of_ble_eq_true rfl) (c_25 (by omega) q9) ?_
      refine x_iadd d_43_46 ?_
      refine x_bipush d_43_47 bp_48 ?_
      refine x_isub d_43_49 ?_
      obtain ⟨S11, e12, h⟩ := lt_inv h
      refine y_putI e12 d_43_50 fl_4_67 rfl rfl kd_16 rfl rfl ?_
      refine x_aload_n d_43_53 rfl 0 rfl ?_
      refine x_dup d_43_54 rfl ?_
      refine y_getI d_43_55 fl_4_28 rfl kd_16 ?_
      refine x_iconst d_43_58 ic_1 ?_
      refine x_iadd d_43_59 ?_
      obtain ⟨S13, e14, h⟩ := lt_inv h
      refine y_putI e14 d_43_60 fl_4_28 rfl rfl kd_16 rfl rfl ?_
      refine x_goto (tgt := 5) d_43_63 rfl ?_
      exact ih S13 _ h
set_option maxRecDepth 100000 in
set_option maxHeartbeats 4000000 in
theorem c_43 {X : Nat × (Nat → Int32)} {D F G : Nat} (hD : 1 ≤ D) {S : St} {res : St} (h : fT_takeNumber F G S  = some res) : Ek X (D) m43 0 [(0, .ref 16)] [] S none res := by
  obtain ⟨D, rfl⟩ : ∃ E, D = E + 1 := ⟨D - 1, by omega⟩
  unfold fT_takeNumber at h
  have J66 : ∀ (S : St) (res : St), j_43_66 F G S  = some res → Ek X (D + 1) m43 66 [(0, .ref 16)] [] S none res := by
    intro S  res h
    unfold j_43_66 at h
    refine x_aload_n d_43_66 rfl 0 rfl ?_
    refine x_aload_n d_43_67 rfl 0 rfl ?_
    refine y_getI d_43_68 fl_4_28 rfl kd_16 ?_
    refine x_aload_n d_43_71 rfl 0 rfl ?_
    refine y_getI d_43_72 fl_4_42 rfl kd_16 ?_
    refine x_isub d_43_75 ?_
    refine x_iconst d_43_76 ic_4 ?_
    refine x_icmp_gt (tgt := 94) d_43_77 rfl (fun c16 => ?_) (fun c16 => ?_)
    · replace h := ite_t c16 h
      refine x_iconst d_43_94 ic_5 ?_
      refine x_goto (tgt := 99) d_43_95 rfl ?_
      obtain ⟨S17, e18, h⟩ := lt_inv h
      refine y_putI e18 d_43_99 fl_4_45 rfl rfl kd_16 rfl rfl ?_
      obtain rfl := Option.some.inj h
      exact x_ret (r := none) d_43_102 rfl
    · replace h := ite_f c16 h
      refine x_aload_n d_43_80 rfl 0 rfl ?_
      refine x_aload_n d_43_81 rfl 0 rfl ?_
      refine y_getI d_43_82 fl_4_28 rfl kd_16 ?_
      obtain ⟨v20, q19, h⟩ := bd_inv h
      refine y_V1i (v := v20) (S1 := S) d_43_85 ml_4_34 kd_16 rfl (Nat.le_of_ble_eq_true rfl) (Nat.le_of_ble_eq_true rfl) (c_25 (by omega) q19) ?_
      obtain ⟨v22, q21, h⟩ := bd_inv h
      refine y_S1i (v := v22) (S1 := S) d_43_88 ml_4_48 (Nat.le_of_ble_eq_true rfl) (Nat.le_of_ble_eq_true rfl) (c_27 (by omega) q21) ?_
      refine x_if_eq (tgt := 98) d_43_91 rfl (fun c23 => ?_) (fun c23 => ?_)
      · replace h := ite_t c23 h
        refine x_iconst d_43_98 ic_3 ?_
        obtain ⟨S24, e25, h⟩ := lt_inv h
        refine y_putI e25 d_43_99 fl_4_45 rfl rfl kd_16 rfl rfl ?_
        obtain rfl := Option.some.inj h
        exact x_ret (r := none) d_43_102 rfl
      · replace h := ite_f c23 h
        refine x_iconst d_43_94 ic_5 ?_
        refine x_goto (tgt := 99) d_43_95 rfl ?_
        obtain ⟨S26, e27, h⟩ := lt_inv h
        refine y_putI e27 d_43_99 fl_4_45 rfl rfl kd_16 rfl rfl ?_
        obtain rfl := Option.some.inj h
        exact x_ret (r := none) d_43_102 rfl
  refine x_aload_n d_43_0 rfl 0 rfl ?_
  refine x_iconst d_43_1 ic_0 ?_
  obtain ⟨S1, e2, h⟩ := lt_inv h
  refine y_putI e2 d_43_2 fl_4_67 rfl rfl kd_16 rfl rfl ?_
  refine T_43_5 (by omega)  ?_ F S1 _ h
  · intro S15 res h
    exact J66 S15  _ h
/-! java/lang/StringLatin1.canEncode -/
def fJ_canEncode (F G : Nat) (S : St) (p1 : Int32) : Option (Int32) :=
  if p1 < 0 then some (0 : Int32) else if (255 : Int32) < p1 then some (0 : Int32) else some (1 : Int32)
set_option maxRecDepth 100000 in
set_option maxHeartbeats 4000000 in
theorem c_47 {X : Nat × (Nat → Int32)} {D F G : Nat} (hD : 0 ≤ D) {S : St} {p1 : Int32} {res : Int32} (h : fJ_canEncode F G S p1 = some res) : Ek X (D) m47 0 [(0, .int p1)] [] S (some (.int res)) S := by
  unfold fJ_canEncode at h
  refine x_iload_n d_47_0 rfl 0 rfl ?_
  refine x_if_lt (tgt := 15) d_47_1 rfl (fun c1 => ?_) (fun c1 => ?_)
  · replace h := ite_t c1 h
    refine x_iconst d_47_15 ic_0 ?_
    obtain rfl := Option.some.inj h
    exact x_ret (r := some (.int (0 : Int32))) d_47_16 ⟨_, rfl, rfl⟩
  · replace h := ite_f c1 h
    refine x_iload_n d_47_4 rfl 0 rfl ?_
    refine x_sipush d_47_5 sp_255 ?_
    refine x_icmp_gt (tgt := 15) d_47_8 rfl (fun c2 => ?_) (fun c2 => ?_)
    · replace h := ite_t c2 h
      refine x_iconst d_47_15 ic_0 ?_
      obtain rfl := Option.some.inj h
      exact x_ret (r := some (.int (0 : Int32))) d_47_16 ⟨_, rfl, rfl⟩
    · replace h := ite_f c2 h
      refine x_iconst d_47_11 ic_1 ?_
      refine x_goto (tgt := 16) d_47_12 rfl ?_
      obtain rfl := Option.some.inj h
      exact x_ret (r := some (.int (1 : Int32))) d_47_16 ⟨_, rfl, rfl⟩
/-! java/lang/StringLatin1.indexOfChar -/
def b_48_7 (F G : Nat) (S : St) (z0 : Nat) (z3 : Int32) (z4 : Int32) (rec : Int32 → Option (Int32)) (w5 : Int32) : Option (Int32) :=
  if z3 ≤ w5 then some (-1 : Int32) else gd (inB w5 (lenS.getD z0 0)) (if ((bytS.getD z0 []).getD (w5).toNatClampNeg 0) = z4 then some w5 else lt (w5 + 1) fun v6 => rec v6)
def fJ_indexOfChar (F G : Nat) (S : St) (p1 : Nat) (p2 : Int32) (p3 : Int32) (p4 : Int32) : Option (Int32) :=
  gd (decide (p1 < 2)) (lt p2.toInt8.toInt32 fun v1 => fx1 (b_48_7 F G S p1 p4 v1) F p3)
set_option maxRecDepth 100000 in
set_option maxHeartbeats 4000000 in
theorem T_48_7 {X : Nat × (Nat → Int32)} {D F G : Nat} (hD : 0 ≤ D) {S : St} {z0 : Nat} {z3 : Int32} {z4 : Int32} (hz0 : decide (z0 < 2) = true) : ∀ (f : Nat) (w5 : Int32) (res : Int32), fx1 (b_48_7 F G S z0 z3 z4 ) f w5 = some res → Ek X (D) m48 7 [(0, .ref (1001 + 2 * z0)), (3, .int z3), (4, .int z4), (5, .int w5)] [] S (some (.int res)) S := by
  refine fx1_ind ?_
  intro rec ih w5 res h
  unfold b_48_7 at h
  refine x_iload d_48_7 3 rfl ?_
  refine x_iload_n d_48_9 rfl 1 rfl ?_
  refine x_icmp_ge (tgt := 31) d_48_10 rfl (fun c3 => ?_) (fun c3 => ?_)
  · replace h := ite_t c3 h
    refine x_iconst d_48_31 ic_m1 ?_
    obtain rfl := Option.some.inj h
    exact x_ret (r := some (.int (-1 : Int32))) d_48_32 ⟨_, rfl, rfl⟩
  · replace h := ite_f c3 h
    refine x_aload_n d_48_13 rfl 0 rfl ?_
    refine x_iload d_48_14 3 rfl ?_
    obtain ⟨g4, h⟩ := gd_inv h
    refine x_baldS d_48_16 (of_decide_eq_true hz0) (inB_in g4) ?_
    refine x_iload d_48_17 2 rfl ?_
    refine x_icmp_ne (tgt := 25) d_48_19 rfl (fun c5 => ?_) (fun c5 => ?_)
    · replace h := ite_f c5 h
      obtain ⟨v6, e7, h⟩ := lt_inv h
      refine y_iinc (L1 := [(0, .ref (1001 + 2 * z0)), (3, .int z3), (4, .int z4), (5, .int v6)]) e7 ic_1 d_48_25 3 rfl (Nat.le_of_ble_eq_true rfl) rfl rfl ?_
      refine x_goto (tgt := 7) d_48_28 rfl ?_
      exact ih v6 _ h
    · replace h := ite_t c5 h
      refine x_iload d_48_22 3 rfl ?_
      obtain rfl := Option.some.inj h
      exact x_ret (r := some (.int w5)) d_48_24 ⟨_, rfl, rfl⟩
set_option maxRecDepth 100000 in
set_option maxHeartbeats 4000000 in
theorem c_48 {X : Nat × (Nat → Int32)} {D F G : Nat} (hD : 0 ≤ D) {S : St} {p1 : Nat} {p2 : Int32} {p3 : Int32} {p4 : Int32} {res : Int32} (h : fJ_indexOfChar F G S p1 p2 p3 p4 = some res) : Ek X (D) m48 0 [(0, .ref (1001 + 2 * p1)), (1, .int p2), (2, .int p3), (3, .int p4)] [] S (some (.int res)) S := by
  unfold fJ_indexOfChar at h
  obtain ⟨gg0, h⟩ := gd_inv h
  refine x_iload_n d_48_0 rfl 1 rfl ?_
  refine x_i2b d_48_1 ?_
  obtain ⟨v1, e2, h⟩ := lt_inv h
  refine y_istore (L1 := [(0, .ref (1001 + 2 * p1)), (1, .int p2), (2, .int p3), (3, .int p4), (4, .int v1)]) e2 d_48_2 (Nat.le_of_ble_eq_true rfl) rfl rfl ?_
  refine x_iload_n d_48_4 rfl 2 rfl ?_
  refine x_istore (L1 := [(0, .ref (1001 + 2 * p1)), (1, .int p2), (2, .int p3), (3, .int p4), (4, .int v1), (5, .int p3)]) d_48_5 (Nat.le_of_ble_eq_true rfl) rfl rfl ?_
  refine y_pick (L1 := [(0, .ref (1001 + 2 * p1)), (3, .int p4), (4, .int v1), (5, .int p3)]) [0, 3, 4, 5] rfl ?_
  refine T_48_7 (by omega) gg0  F p3 _ h
/-! java/lang/StringLatin1.indexOf -/
def fJ_indexOf_46 (F G : Nat) (S : St) (p1 : Nat) (p2 : Int32) (p3 : Int32) (p4 : Int32) : Option (Int32) :=
  gd (decide (p1 < 2)) (bd (fJ_canEncode F G S p2) fun v2 => if v2 = 0 then some (-1 : Int32) else lt (if p3 < (0 : Int32) then (0 : Int32) else p3) fun v4 => lt (if (Int32.ofNat (lenS.getD p1 0)) < p4 then (Int32.ofNat (lenS.getD p1 0)) else p4) fun v6 => if v4 < v6 then bd (fJ_indexOfChar F G S p1 p2 v4 v6) fun v10 => some v10 else some (-1 : Int32))
set_option maxRecDepth 100000 in
set_option maxHeartbeats 4000000 in
theorem c_46 {X : Nat × (Nat → Int32)} {D F G : Nat} (hD : 1 ≤ D) {S : St} {p1 : Nat} {p2 : Int32} {p3 : Int32} {p4 : Int32} {res : Int32} (h : fJ_indexOf_46 F G S p1 p2 p3 p4 = some res) : Ek X (D) m46 0 [(0, .ref (1001 + 2 * p1)), (1, .int p2), (2, .int p3), (3, .int p4)] [] S (some (.int res)) S := by
  obtain ⟨D, rfl⟩ : ∃ E, D = E + 1 := ⟨D - 1, by omega⟩
  unfold fJ_indexOf_46 at h
  obtain ⟨gg0, h⟩ := gd_inv h
  refine x_iload_n d_46_0 rfl 1 rfl ?_
  obtain ⟨v2, q1, h⟩ := bd_inv h
  refine y_S1i (v := v2) (S1 := S) d_46_1 ml_17_88 (Nat.le_of_ble_eq_true rfl) (Nat.le_of_ble_eq_true rfl) (c_47 (by omega) q1) ?_
  refine x_if_ne (tgt := 9) d_46_4 rfl (fun c3 => ?_) (fun c3 => ?_)
  · replace h := ite_f c3 h
    refine x_iload_n d_46_9 rfl 2 rfl ?_
    refine x_iconst d_46_10 ic_0 ?_
    refine y_mmax d_46_11 ml_17_92 (Nat.le_of_ble_eq_true rfl) ?_
    obtain ⟨v4, e5, h⟩ := lt_inv h
    refine y_istore_n (L1 := [(0, .ref (1001 + 2 * p1)), (1, .int p2), (2, .int v4), (3, .int p4)]) e5 d_46_14 rfl (Nat.le_of_ble_eq_true rfl) rfl rfl ?_
    refine x_iload_n d_46_15 rfl 3 rfl ?_
    refine x_aload_n d_46_16 rfl 0 rfl ?_
    refine x_alenS d_46_17 (of_decide_eq_true gg0) ?_
    refine y_mmin d_46_18 ml_17_38 (Nat.le_of_ble_eq_true rfl) ?_
    obtain ⟨v6, e7, h⟩ := lt_inv h
    refine y_istore_n (L1 := [(0, .ref (1001 + 2 * p1)), (1, .int p2), (2, .int v4), (3, .int v6)]) e7 d_46_21 rfl (Nat.le_of_ble_eq_true rfl) rfl rfl ?_
    refine x_iload_n d_46_22 rfl 2 rfl ?_
    refine x_iload_n d_46_23 rfl 3 rfl ?_
    refine x_icmp_lt (tgt := 29) d_46_24 rfl (fun c8 => ?_) (fun c8 => ?_)
    · replace h := ite_t c8 h
      refine x_aload_n d_46_29 rfl 0 rfl ?_
      refine x_iload_n d_46_30 rfl 1 rfl ?_
      refine x_iload_n d_46_31 rfl 2 rfl ?_
      refine x_iload_n d_46_32 rfl 3 rfl ?_
      obtain ⟨v10, q9, h⟩ := bd_inv h
      refine y_S4i (v := v10) (S1 := S) d_46_33 ml_17_95 (Nat.le_of_ble_eq_true rfl) (Nat.le_of_ble_eq_true rfl) (c_48 (by omega) q9) ?_
      obtain rfl := Option.some.inj h
      exact x_ret (r := some (.int v10)) d_46_36 ⟨_, rfl, rfl⟩
    · replace h := ite_f c8 h
      refine x_iconst d_46_27 ic_m1 ?_
      obtain rfl := Option.some.inj h
      exact x_ret (r := some (.int (-1 : Int32))) d_46_28 ⟨_, rfl, rfl⟩
  · replace h := ite_t c3 h
    refine x_iconst d_46_7 ic_m1 ?_
    obtain rfl := Option.some.inj h
    exact x_ret (r := some (.int (-1 : Int32))) d_46_8 ⟨_, rfl, rfl⟩
/-! java/lang/String.indexOf -/
def fJ_indexOf_45 (F G : Nat) (S : St) (o : Nat) (p1 : Int32) (p2 : Int32) : Option (Int32) :=
  gd (decide (o < 2)) (bd (fJ_isLatin1 F G S o) fun v2 => if v2 = 0 then bd (fJ_length F G S o) fun v5 => none else bd (fJ_length F G S o) fun v7 => bd (fJ_indexOf_46 F G S o p1 p2 v7) fun v9 => some v9)
set_option maxRecDepth 100000 in
set_option maxHeartbeats 4000000 in
theorem c_45 {X : Nat × (Nat → Int32)} {D F G : Nat} (hD : 2 ≤ D) {S : St} {o : Nat} {p1 : Int32} {p2 : Int32} {res : Int32} (h : fJ_indexOf_45 F G S o p1 p2 = some res) : Ek X (D) m45 0 [(0, .ref (1000 + 2 * o)), (1, .int p1), (2, .int p2)] [] S (some (.int res)) S := by
  obtain ⟨D, rfl⟩ : ∃ E, D = E + 1 := ⟨D - 1, by omega⟩
  unfold fJ_indexOf_45 at h
  obtain ⟨gg0, h⟩ := gd_inv h
  refine x_aload_n d_45_0 rfl 0 rfl ?_
  obtain ⟨v2, q1, h⟩ := bd_inv h
  refine y_T0i (i := o) (v := v2) (S1 := S) d_45_1 ml_16_492 gg0 rfl (Nat.le_of_ble_eq_true rfl) (Nat.le_of_ble_eq_true rfl) (c_34 (by omega) q1) ?_
  refine x_if_eq (tgt := 23) d_45_4 rfl (fun c3 => ?_) (fun c3 => ?_)
  · replace h := ite_t c3 h
    refine x_aload_n d_45_23 rfl 0 rfl ?_
    refine x_getSV d_45_24 (of_decide_eq_true gg0) fl_16_9 ?_
    refine x_iload_n d_45_27 rfl 1 rfl ?_
    refine x_iload_n d_45_28 rfl 2 rfl ?_
    refine x_aload_n d_45_29 rfl 0 rfl ?_
    obtain ⟨v5, q4, h⟩ := bd_inv h
    refine y_T0i (i := o) (v := v5) (S1 := S) d_45_30 ml_16_505 gg0 rfl (Nat.le_of_ble_eq_true rfl) (Nat.le_of_ble_eq_true rfl) (c_31 (by omega) q4) ?_
    cases h
  · replace h := ite_f c3 h
    refine x_aload_n d_45_7 rfl 0 rfl ?_
    refine x_getSV d_45_8 (of_decide_eq_true gg0) fl_16_9 ?_
    refine x_iload_n d_45_11 rfl 1 rfl ?_
    refine x_iload_n d_45_12 rfl 2 rfl ?_
    refine x_aload_n d_45_13 rfl 0 rfl ?_
    obtain ⟨v7, q6, h⟩ := bd_inv h
    refine y_T0i (i := o) (v := v7) (S1 := S) d_45_14 ml_16_505 gg0 rfl (Nat.le_of_ble_eq_true rfl) (Nat.le_of_ble_eq_true rfl) (c_31 (by omega) q6) ?_
    obtain ⟨v9, q8, h⟩ := bd_inv h
    refine y_S4i (v := v9) (S1 := S) d_45_17 ml_16_637 (Nat.le_of_ble_eq_true rfl) (Nat.le_of_ble_eq_true rfl) (c_46 (by omega) q8) ?_
    refine x_goto (tgt := 36) d_45_20 rfl ?_
    obtain rfl := Option.some.inj h
    exact x_ret (r := some (.int v9)) d_45_36 ⟨_, rfl, rfl⟩
/-! java/lang/String.indexOf -/
def fJ_indexOf (F G : Nat) (S : St) (o : Nat) (p1 : Int32) : Option (Int32) :=
  gd (decide (o < 2)) (bd (fJ_indexOf_45 F G S o p1 (0 : Int32)) fun v2 => some v2)
set_option maxRecDepth 100000 in
set_option maxHeartbeats 4000000 in
theorem c_44 {X : Nat × (Nat → Int32)} {D F G : Nat} (hD : 3 ≤ D) {S : St} {o : Nat} {p1 : Int32} {res : Int32} (h : fJ_indexOf F G S o p1 = some res) : Ek X (D) m44 0 [(0, .ref (1000 + 2 * o)), (1, .int p1)] [] S (some (.int res)) S := by
  obtain ⟨D, rfl⟩ : ∃ E, D = E + 1 := ⟨D - 1, by omega⟩
  unfold fJ_indexOf at h
  obtain ⟨gg0, h⟩ := gd_inv h
  refine x_aload_n d_44_0 rfl 0 rfl ?_
  refine x_iload_n d_44_1 rfl 1 rfl ?_
  refine x_iconst d_44_2 ic_0 ?_
  obtain ⟨v2, q1, h⟩ := bd_inv h
  refine y_T2i (i := o) (v := v2) (S1 := S) d_44_3 ml_16_633 gg0 rfl (Nat.le_of_ble_eq_true rfl) (Nat.le_of_ble_eq_true rfl) (c_45 (by omega) q1) ?_
  obtain rfl := Option.some.inj h
  exact x_ret (r := some (.int v2)) d_44_6 ⟨_, rfl, rfl⟩
/-! NinetyPlayers$Tokens.step -/
def b_24_0 (F G : Nat) (k38 : St → Option (St)) (rec : St → Option (St)) (S : St) : Option (St) :=
  if (S.1 16 1) ≤ (S.1 16 2) then k38 S else bd (fT_at F G S (S.1 16 2)) fun v3 => bd (fT_isBlank F G S v3) fun v5 => if v5 = 0 then k38 S else lt (sI S 16 2 ((S.1 16 2) + (1 : Int32))) fun S7 => rec S7
def j_24_112 (F G : Nat) (S : St) (y1 : Int32) (s1 : Int32) : Option (St) :=
  lt (sI S 16 4 s1) fun S30 => lt (sI S30 16 5 y1) fun S32 => lt (sI S32 16 2 ((S32.1 16 2) + (1 : Int32))) fun S34 => some S34
def j_24_38 (F G : Nat) (S : St) : Option (St) :=
  lt (sI S 16 3 (S.1 16 2)) fun S10 => bd (fT_at F G S10 (S10.1 16 2)) fun v13 => if v13 = (-1 : Int32) then lt (sI S10 16 4 (0 : Int32)) fun S28 => some S28 else bd (fT_isLetter F G S10 v13) fun v16 => if v16 = 0 then bd (fT_isDigit F G S10 v13) fun v19 => if v19 = 0 then bd (fJ_indexOf F G S10 1 ((v13.toUInt32 % 65536).toInt32)) fun v22 => if v22 < 0 then j_24_112 F G  S10 v13 (5 : Int32) else j_24_112 F G  S10 v13 (4 : Int32) else bd (fT_takeNumber F G S10 ) fun S25 => some S25 else bd (fT_takeWord F G S10 ) fun S27 => some S27
def fT_step (F G : Nat) (S : St) : Option (St) :=
  fx1 (b_24_0 F G  (fun S9 => j_24_38 F G  S9 )) F S
set_option maxRecDepth 100000 in
set_option maxHeartbeats 4000000 in
theorem T_24_0 {X : Nat × (Nat → Int32)} {D F G : Nat} (hD : 7 ≤ D + 1) {k38 : St → Option (St)} (hk38 : ∀ (S1 : St) (res : St), k38 S1 = some res → Ek X (D + 1) m24 38 [(0, .ref 16)] [] S1 none res) : ∀ (f : Nat) (S : St) (res : St), fx1 (b_24_0 F G k38 ) f S = some res → Ek X (D + 1) m24 0 [(0, .ref 16)] [] S none res := by
  refine fx1_ind ?_
  intro rec ih S res h
  unfold b_24_0 at h
  refine x_aload_n d_24_0 rfl 0 rfl ?_
  refine y_getI d_24_1 fl_4_28 rfl kd_16 ?_
  refine x_aload_n d_24_4 rfl 0 rfl ?_
  refine y_getI d_24_5 fl_4_24 rfl kd_16 ?_
  refine x_icmp_ge (tgt := 38) d_24_8 rfl (fun c1 => ?_) (fun c1 => ?_)
  · replace h := ite_t c1 h
    exact hk38 S _ h
  · replace h := ite_f c1 h
    refine x_aload_n d_24_11 rfl 0 rfl ?_
    refine x_aload_n d_24_12 rfl 0 rfl ?_
    refine y_getI d_24_13 fl_4_28 rfl kd_16 ?_
    obtain ⟨v3, q2, h⟩ := bd_inv h
    refine y_V1i (v := v3) (S1 := S) d_24_16 ml_4_34 kd_16 rfl (Nat.le_of_ble_eq_true rfl) (Nat.le_of_ble_eq_true rfl) (c_25 (by omega) q2) ?_
    obtain ⟨v5, q4, h⟩ := bd_inv h
    refine y_S1i (v := v5) (S1 := S) d_24_19 ml_4_38 (Nat.le_of_ble_eq_true rfl) (Nat.le_of_ble_eq_true rfl) (c_26 (by omega) q4) ?_
    refine x_if_eq (tgt := 38) d_24_22 rfl (fun c6 => ?_) (fun c6 => ?_)
    · replace h := ite_t c6 h
      exact hk38 S _ h
    · replace h := ite_f c6 h
      refine x_aload_n d_24_25 rfl 0 rfl ?_
      refine x_dup d_24_26 rfl ?_
      refine y_getI d_24_27 fl_4_28 rfl kd_16 ?_
      refine x_iconst d_24_30 ic_1 ?_
      refine x_iadd d_24_31 ?_
      obtain ⟨S7, e8, h⟩ := lt_inv h
      refine y_putI e8 d_24_32 fl_4_28 rfl rfl kd_16 rfl rfl ?_
      refine x_goto (tgt := 0) d_24_35 rfl ?_
      exact ih S7 _ h
set_option maxRecDepth 100000 in
set_option maxHeartbeats 4000000 in
theorem c_24 {X : Nat × (Nat → Int32)} {D F G : Nat} (hD : 7 ≤ D) {S : St} {res : St} (h : fT_step F G S  = some res) : Ek X (D) m24 0 [(0, .ref 16)] [] S none res := by
  obtain ⟨D, rfl⟩ : ∃ E, D = E + 1 := ⟨D - 1, by omega⟩
  unfold fT_step at h
  have J112 : ∀ (S : St) (y1 : Int32) (s1 : Int32) (res : St), j_24_112 F G S y1 s1 = some res → Ek X (D + 1) m24 112 [(0, .ref 16), (1, .int y1)] [.int s1, .ref 16] S none res := by
    intro S y1 s1 res h
    unfold j_24_112 at h
    obtain ⟨S30, e31, h⟩ := lt_inv h
    refine y_putI e31 d_24_112 fl_4_45 rfl rfl kd_16 rfl rfl ?_
    refine x_aload_n d_24_115 rfl 0 rfl ?_
    refine x_iload_n d_24_116 rfl 1 rfl ?_
    obtain ⟨S32, e33, h⟩ := lt_inv h
    refine y_putI e33 d_24_117 fl_4_67 rfl rfl kd_16 rfl rfl ?_
    refine x_aload_n d_24_120 rfl 0 rfl ?_
    refine x_dup d_24_121 rfl ?_
    refine y_getI d_24_122 fl_4_28 rfl kd_16 ?_
    refine x_iconst d_24_125 ic_1 ?_
    refine x_iadd d_24_126 ?_
    obtain ⟨S34, e35, h⟩ := lt_inv h
    refine y_putI e35 d_24_127 fl_4_28 rfl rfl kd_16 rfl rfl ?_
    obtain rfl := Option.some.inj h
    exact x_ret (r := none) d_24_130 rfl
  have J38 : ∀ (S : St) (res : St), j_24_38 F G S  = some res → Ek X (D + 1) m24 38 [(0, .ref 16)] [] S none res := by
    intro S  res h
    unfold j_24_38 at h
    refine x_aload_n d_24_38 rfl 0 rfl ?_
    refine x_aload_n d_24_39 rfl 0 rfl ?_
    refine y_getI d_24_40 fl_4_28 rfl kd_16 ?_
    obtain ⟨S10, e11, h⟩ := lt_inv h
    refine y_putI e11 d_24_43 fl_4_42 rfl rfl kd_16 rfl rfl ?_
    refine x_aload_n d_24_46 rfl 0 rfl ?_
    refine x_aload_n d_24_47 rfl 0 rfl ?_
    refine y_getI d_24_48 fl_4_28 rfl kd_16 ?_
    obtain ⟨v13, q12, h⟩ := bd_inv h
    refine y_V1i (v := v13) (S1 := S10) d_24_51 ml_4_34 kd_16 rfl (Nat.le_of_ble_eq_true rfl) (Nat.le_of_ble_eq_true rfl) (c_25 (by omega) q12) ?_
    refine x_istore_n (L1 := [(0, .ref 16), (1, .int v13)]) d_24_54 rfl (Nat.le_of_ble_eq_true rfl) rfl rfl ?_
    refine x_iload_n d_24_55 rfl 1 rfl ?_
    refine x_iconst d_24_56 ic_m1 ?_
    refine x_icmp_ne (tgt := 68) d_24_57 rfl (fun c14 => ?_) (fun c14 => ?_)
    · replace h := ite_f c14 h
      refine x_iload_n d_24_68 rfl 1 rfl ?_
      obtain ⟨v16, q15, h⟩ := bd_inv h
      refine y_S1i (v := v16) (S1 := S10) d_24_69 ml_4_48 (Nat.le_of_ble_eq_true rfl) (Nat.le_of_ble_eq_true rfl) (c_27 (by omega) q15) ?_
      refine x_if_eq (tgt := 82) d_24_72 rfl (fun c17 => ?_) (fun c17 => ?_)
      · replace h := ite_t c17 h
        refine x_iload_n d_24_82 rfl 1 rfl ?_
        obtain ⟨v19, q18, h⟩ := bd_inv h
        refine y_S1i (v := v19) (S1 := S10) d_24_83 ml_4_54 (Nat.le_of_ble_eq_true rfl) (Nat.le_of_ble_eq_true rfl) (c_42 (by omega) q18) ?_
        refine x_if_eq (tgt := 96) d_24_86 rfl (fun c20 => ?_) (fun c20 => ?_)
        · replace h := ite_t c20 h
          refine x_aload_n d_24_96 rfl 0 rfl ?_
          refine x_ldcT d_24_97 rfl ?_
          refine x_iload_n d_24_99 rfl 1 rfl ?_
          refine x_i2c d_24_100 ?_
          obtain ⟨v22, q21, h⟩ := bd_inv h
          refine y_T1i (i := 1) (v := v22) (S1 := S10) d_24_101 ml_4_62 (by decide) rfl (Nat.le_of_ble_eq_true rfl) (Nat.le_of_ble_eq_true rfl) (c_44 (by omega) q21) ?_
          refine x_if_lt (tgt := 111) d_24_104 rfl (fun c23 => ?_) (fun c23 => ?_)
          · replace h := ite_t c23 h
            refine x_iconst d_24_111 ic_5 ?_
            exact J112 S10 v13 (5 : Int32) _ h
          · replace h := ite_f c23 h
            refine x_iconst d_24_107 ic_4 ?_
            refine x_goto (tgt := 112) d_24_108 rfl ?_
            exact J112 S10 v13 (4 : Int32) _ h
        · replace h := ite_f c20 h
          refine x_aload_n d_24_89 rfl 0 rfl ?_
          obtain ⟨S25, q24, h⟩ := bd_inv h
          refine y_V0v (S1 := S25) d_24_90 ml_4_57 kd_16 rfl (Nat.le_of_ble_eq_true rfl) (Nat.le_of_ble_eq_true rfl) (c_43 (by omega) q24) ?_
          refine x_goto (tgt := 130) d_24_93 rfl ?_
          obtain rfl := Option.some.inj h
          exact x_ret (r := none) d_24_130 rfl
      · replace h := ite_f c17 h
        refine x_aload_n d_24_75 rfl 0 rfl ?_
        obtain ⟨S27, q26, h⟩ := bd_inv h
        refine y_V0v (S1 := S27) d_24_76 ml_4_51 kd_16 rfl (Nat.le_of_ble_eq_true rfl) (Nat.le_of_ble_eq_true rfl) (c_28 (by omega) q26) ?_
        refine x_goto (tgt := 130) d_24_79 rfl ?_
        obtain rfl := Option.some.inj h
        exact x_ret (r := none) d_24_130 rfl
    · replace h := ite_t c14 h
      refine x_aload_n d_24_60 rfl 0 rfl ?_
      refine x_iconst d_24_61 ic_0 ?_
      obtain ⟨S28, e29, h⟩ := lt_inv h
      refine y_putI e29 d_24_62 fl_4_45 rfl rfl kd_16 rfl rfl ?_
      refine x_goto (tgt := 130) d_24_65 rfl ?_
      obtain rfl := Option.some.inj h
      exact x_ret (r := none) d_24_130 rfl
  refine T_24_0 (by omega)  ?_ F S _ h
  · intro S9 res h
    exact J38 S9  _ h
/-! NinetyPlayers$Tokens.begin -/
def fT_begin (F G : Nat) (S : St) (p1 : Int32) : Option (St) :=
  lt (sI S 16 1 (if (0 : Int32) < (if (Int32.ofNat 1600) < p1 then (Int32.ofNat 1600) else p1) then (if (Int32.ofNat 1600) < p1 then (Int32.ofNat 1600) else p1) else (0 : Int32))) fun S1 => lt (sI S1 16 2 (0 : Int32)) fun S3 => bd (fT_step F G S3 ) fun S6 => some S6
set_option maxRecDepth 100000 in
set_option maxHeartbeats 4000000 in
theorem c_21 {X : Nat × (Nat → Int32)} {D F G : Nat} (hD : 8 ≤ D) {S : St} {p1 : Int32} {res : St} (h : fT_begin F G S p1 = some res) : Ek X (D) m21 0 [(0, .ref 16), (1, .int p1)] [] S none res := by
  obtain ⟨D, rfl⟩ : ∃ E, D = E + 1 := ⟨D - 1, by omega⟩
  unfold fT_begin at h
  refine x_aload_n d_21_0 rfl 0 rfl ?_
  refine x_iconst d_21_1 ic_0 ?_
  refine x_iload_n d_21_2 rfl 1 rfl ?_
  refine x_aload_n d_21_3 rfl 0 rfl ?_
  refine y_getR d_21_4 fl_4_9 rfl kd_16 rr_16_0 ?_
  refine x_alen3 d_21_7 kd_1 ?_
  refine y_mmin d_21_8 ml_4_15 (Nat.le_of_ble_eq_true rfl) ?_
  refine y_mmax d_21_11 ml_4_21 (Nat.le_of_ble_eq_true rfl) ?_
  obtain ⟨S1, e2, h⟩ := lt_inv h
  refine y_putI e2 d_21_14 fl_4_24 rfl rfl kd_16 rfl rfl ?_
  refine x_aload_n d_21_17 rfl 0 rfl ?_
  refine x_iconst d_21_18 ic_0 ?_
  obtain ⟨S3, e4, h⟩ := lt_inv h
  refine y_putI e4 d_21_19 fl_4_28 rfl rfl kd_16 rfl rfl ?_
  refine x_aload_n d_21_22 rfl 0 rfl ?_
  obtain ⟨S6, q5, h⟩ := bd_inv h
  refine y_V0v (S1 := S6) d_21_23 ml_4_31 kd_16 rfl (Nat.le_of_ble_eq_true rfl) (Nat.le_of_ble_eq_true rfl) (c_24 (by omega) q5) ?_
  obtain rfl := Option.some.inj h
  exact x_ret (r := none) d_21_26 rfl
/-! NinetyPlayers$Reader.mayBegin -/
def fR_mayBegin (F G : Nat) (S : St) (p1 : Int32) : Option (Int32) :=
  if p1 = 0 then if (S.1 2 4) = 0 then some (1 : Int32) else some (0 : Int32) else if p1 = 1 then gd (isSc S.2.2.2) (if (4 : Int32) ≤ (S.1 S.2.2.2 5) then some (0 : Int32) else some (1 : Int32)) else if p1 = 2 then gd (isSc S.2.2.2) (if (10 : Int32) ≤ (S.1 S.2.2.2 6) then some (0 : Int32) else some (1 : Int32)) else if p1 < (3 : Int32) then some (0 : Int32) else if (7 : Int32) < p1 then some (0 : Int32) else if (((S.1 2 4) >>> (p1 &&& 31)) &&& (1 : Int32)) = 0 then some (1 : Int32) else some (0 : Int32)
set_option maxRecDepth 100000 in
set_option maxHeartbeats 4000000 in
theorem c_60 {X : Nat × (Nat → Int32)} {D F G : Nat} (hD : 0 ≤ D) {S : St} {p1 : Int32} {res : Int32} (h : fR_mayBegin F G S p1 = some res) : Ek X (D) m60 0 [(0, .ref 2), (1, .int p1)] [] S (some (.int res)) S := by
  unfold fR_mayBegin at h
  refine x_iload_n d_60_0 rfl 1 rfl ?_
  by_cases c1 : p1 = 0
  · replace h := ite_t c1 h
    refine x_tabC (tgt := 28) 0 d_60_1 (by rw [c1]; rfl) (by decide) rfl rfl ?_
    refine x_aload_n d_60_28 rfl 0 rfl ?_
    refine y_getI d_60_29 fl_1_34 rfl kd_2 ?_
    refine x_if_ne (tgt := 39) d_60_32 rfl (fun c2 => ?_) (fun c2 => ?_)
    · replace h := ite_f c2 h
      refine x_iconst d_60_39 ic_0 ?_
      obtain rfl := Option.some.inj h
      exact x_ret (r := some (.int (0 : Int32))) d_60_40 ⟨_, rfl, rfl⟩
    · replace h := ite_t c2 h
      refine x_iconst d_60_35 ic_1 ?_
      refine x_goto (tgt := 40) d_60_36 rfl ?_
      obtain rfl := Option.some.inj h
      exact x_ret (r := some (.int (1 : Int32))) d_60_40 ⟨_, rfl, rfl⟩
  replace h := ite_f c1 h
  by_cases c3 : p1 = 1
  · replace h := ite_t c3 h
    refine x_tabC (tgt := 41) 1 d_60_1 (by rw [c3]; rfl) (by decide) rfl rfl ?_
    refine x_aload_n d_60_41 rfl 0 rfl ?_
    refine y_getR d_60_42 fl_1_18 rfl kd_2 rr_draft ?_
    obtain ⟨g4, h⟩ := gd_inv h
    refine y_getI d_60_45 fl_1_95 rfl (ksSc g4) ?_
    refine x_iconst d_60_48 ic_4 ?_
    refine x_icmp_ge (tgt := 56) d_60_49 rfl (fun c5 => ?_) (fun c5 => ?_)
    · replace h := ite_t c5 h
      refine x_iconst d_60_56 ic_0 ?_
      obtain rfl := Option.some.inj h
      exact x_ret (r := some (.int (0 : Int32))) d_60_57 ⟨_, rfl, rfl⟩
    · replace h := ite_f c5 h
      refine x_iconst d_60_52 ic_1 ?_
      refine x_goto (tgt := 57) d_60_53 rfl ?_
      obtain rfl := Option.some.inj h
      exact x_ret (r := some (.int (1 : Int32))) d_60_57 ⟨_, rfl, rfl⟩
  replace h := ite_f c3 h
  by_cases c6 : p1 = 2
  · replace h := ite_t c6 h
    refine x_tabC (tgt := 58) 2 d_60_1 (by rw [c6]; rfl) (by decide) rfl rfl ?_
    refine x_aload_n d_60_58 rfl 0 rfl ?_
    refine y_getR d_60_59 fl_1_18 rfl kd_2 rr_draft ?_
    obtain ⟨g7, h⟩ := gd_inv h
    refine y_getI d_60_62 fl_1_98 rfl (ksSc g7) ?_
    refine x_bipush d_60_65 bp_10 ?_
    refine x_icmp_ge (tgt := 74) d_60_67 rfl (fun c8 => ?_) (fun c8 => ?_)
    · replace h := ite_t c8 h
      refine x_iconst d_60_74 ic_0 ?_
      obtain rfl := Option.some.inj h
      exact x_ret (r := some (.int (0 : Int32))) d_60_75 ⟨_, rfl, rfl⟩
    · replace h := ite_f c8 h
      refine x_iconst d_60_70 ic_1 ?_
      refine x_goto (tgt := 75) d_60_71 rfl ?_
      obtain rfl := Option.some.inj h
      exact x_ret (r := some (.int (1 : Int32))) d_60_75 ⟨_, rfl, rfl⟩
  replace h := ite_f c6 h
  refine x_tabD (tgt := 76) d_60_1 (by have := lv_neT c1 (show (0 : Int32).toInt = 0 from rfl); have := lv_neT c3 (show (1 : Int32).toInt = 1 from rfl); have := lv_neT c6 (show (2 : Int32).toInt = 2 from rfl); omega) rfl ?_
  refine x_iload_n d_60_76 rfl 1 rfl ?_
  refine x_iconst d_60_77 ic_3 ?_
  refine x_icmp_lt (tgt := 102) d_60_78 rfl (fun c9 => ?_) (fun c9 => ?_)
  · replace h := ite_t c9 h
    refine x_iconst d_60_102 ic_0 ?_
    obtain rfl := Option.some.inj h
    exact x_ret (r := some (.int (0 : Int32))) d_60_103 ⟨_, rfl, rfl⟩
  · replace h := ite_f c9 h
    refine x_iload_n d_60_81 rfl 1 rfl ?_
    refine x_bipush d_60_82 bp_7 ?_
    refine x_icmp_gt (tgt := 102) d_60_84 rfl (fun c10 => ?_) (fun c10 => ?_)
    · replace h := ite_t c10 h
      refine x_iconst d_60_102 ic_0 ?_
      obtain rfl := Option.some.inj h
      exact x_ret (r := some (.int (0 : Int32))) d_60_103 ⟨_, rfl, rfl⟩
    · replace h := ite_f c10 h
      refine x_aload_n d_60_87 rfl 0 rfl ?_
      refine y_getI d_60_88 fl_1_34 rfl kd_2 ?_
      refine x_iload_n d_60_91 rfl 1 rfl ?_
      refine x_ishr d_60_92 ?_
      refine x_iconst d_60_93 ic_1 ?_
      refine x_iand d_60_94 ?_
      refine x_if_ne (tgt := 102) d_60_95 rfl (fun c11 => ?_) (fun c11 => ?_)
      · replace h := ite_f c11 h
        refine x_iconst d_60_102 ic_0 ?_
        obtain rfl := Option.some.inj h
        exact x_ret (r := some (.int (0 : Int32))) d_60_103 ⟨_, rfl, rfl⟩
      · replace h := ite_t c11 h
        refine x_iconst d_60_98 ic_1 ?_
        refine x_goto (tgt := 103) d_60_99 rfl ?_
        obtain rfl := Option.some.inj h
        exact x_ret (r := some (.int (1 : Int32))) d_60_103 ⟨_, rfl, rfl⟩
/-! NinetyPlayers$Reader.refuse -/
def j_61_24 (F G : Nat) (S : St) (s1 : Int32) : Option (St) :=
  lt (sI S 2 0 s1) fun S3 => lt (sI S3 2 1 (S3.1 16 3)) fun S5 => some S5
def fR_refuse (F G : Nat) (S : St) (p1 : Int32) : Option (St) :=
  if (S.1 2 0) = 0 then if (S.1 16 4) = (5 : Int32) then j_61_24 F G  S (1 : Int32) else j_61_24 F G  S p1 else some S
set_option maxRecDepth 100000 in
set_option maxHeartbeats 4000000 in
theorem c_61 {X : Nat × (Nat → Int32)} {D F G : Nat} (hD : 0 ≤ D) {S : St} {p1 : Int32} {res : St} (h : fR_refuse F G S p1 = some res) : Ek X (D) m61 0 [(0, .ref 2), (1, .int p1)] [] S none res := by
  unfold fR_refuse at h
  have J24 : ∀ (S : St) (s1 : Int32) (res : St), j_61_24 F G S s1 = some res → Ek X (D) m61 24 [(0, .ref 2)] [.int s1, .ref 2] S none res := by
    intro S s1 res h
    unfold j_61_24 at h
    obtain ⟨S3, e4, h⟩ := lt_inv h
    refine y_putI e4 d_61_24 fl_1_31 rfl rfl kd_2 rfl rfl ?_
    refine x_aload_n d_61_27 rfl 0 rfl ?_
    refine x_aload_n d_61_28 rfl 0 rfl ?_
    refine y_getR d_61_29 fl_1_27 rfl kd_2 rr_2_2 ?_
    refine y_getI d_61_32 fl_1_141 rfl kd_16 ?_
    obtain ⟨S5, e6, h⟩ := lt_inv h
    refine y_putI e6 d_61_35 fl_1_9 rfl rfl kd_2 rfl rfl ?_
    obtain rfl := Option.some.inj h
    exact x_ret (r := none) d_61_38 rfl
  refine x_aload_n d_61_0 rfl 0 rfl ?_
  refine y_getI d_61_1 fl_1_31 rfl kd_2 ?_
  refine x_if_ne (tgt := 38) d_61_4 rfl (fun c1 => ?_) (fun c1 => ?_)
  · replace h := ite_f c1 h
    obtain rfl := Option.some.inj h
    exact x_ret (r := none) d_61_38 rfl
  · replace h := ite_t c1 h
    refine x_aload_n d_61_7 rfl 0 rfl ?_
    refine x_aload_n d_61_8 rfl 0 rfl ?_
    refine y_getR d_61_9 fl_1_27 rfl kd_2 rr_2_2 ?_
    refine y_getI d_61_12 fl_1_44 rfl kd_16 ?_
    refine x_iconst d_61_15 ic_5 ?_
    refine x_icmp_ne (tgt := 23) d_61_16 rfl (fun c2 => ?_) (fun c2 => ?_)
    · replace h := ite_f c2 h
      refine x_iload_n d_61_23 rfl 1 rfl ?_
      refine y_pick (L1 := [(0, .ref 2)]) [0] rfl ?_
      exact J24 S p1 _ h
    · replace h := ite_t c2 h
      refine x_iconst d_61_19 ic_1 ?_
      refine x_goto (tgt := 24) d_61_20 rfl ?_
      refine y_pick (L1 := [(0, .ref 2)]) [0] rfl ?_
      exact J24 S (1 : Int32) _ h
/-! NinetyPlayers$Reader.number -/
def j_62_53 (F G : Nat) (S : St) (y3 : Int32) : Option (Int32 × St) :=
  if (S.1 2 0) = 0 then bd (fT_step F G S ) fun S14 => some (y3, S14) else some (y3, S)
def j_62_48 (F G : Nat) (S : St) (y3 : Int32) : Option (Int32 × St) :=
  bd (fR_refuse F G S (4 : Int32)) fun S11 => j_62_53 F G  S11 y3
def j_62_23 (F G : Nat) (S : St) (y1 : Int32) (y2 : Int32) : Option (Int32 × St) :=
  lt (S.1 16 5) fun v5 => if (S.1 2 0) = 0 then if v5 < y1 then j_62_48 F G  S v5 else if v5 ≤ y2 then j_62_53 F G  S v5 else j_62_48 F G  S v5 else j_62_53 F G  S v5
def fR_number (F G : Nat) (S : St) (p1 : Int32) (p2 : Int32) : Option (Int32 × St) :=
  if (S.1 2 0) = 0 then if (S.1 16 4) = (3 : Int32) then j_62_23 F G  S p1 p2 else bd (fR_refuse F G S (2 : Int32)) fun S4 => j_62_23 F G  S4 p1 p2 else j_62_23 F G  S p1 p2
set_option maxRecDepth 100000 in
set_option maxHeartbeats 4000000 in
theorem c_62 {X : Nat × (Nat → Int32)} {D F G : Nat} (hD : 8 ≤ D) {S : St} {p1 : Int32} {p2 : Int32} {res : Int32 × St} (h : fR_number F G S p1 p2 = some res) : Ek X (D) m62 0 [(0, .ref 2), (1, .int p1), (2, .int p2)] [] S (some (.int res.1)) res.2 := by
  obtain ⟨D, rfl⟩ : ∃ E, D = E + 1 := ⟨D - 1, by omega⟩
  unfold fR_number at h
  have J53 : ∀ (S : St) (y3 : Int32) (res : Int32 × St), j_62_53 F G S y3 = some res → Ek X (D + 1) m62 53 [(0, .ref 2), (3, .int y3)] [] S (some (.int res.1)) res.2 := by
    intro S y3 res h
    unfold j_62_53 at h
    refine x_aload_n d_62_53 rfl 0 rfl ?_
    refine y_getI d_62_54 fl_1_31 rfl kd_2 ?_
    refine x_if_ne (tgt := 67) d_62_57 rfl (fun c12 => ?_) (fun c12 => ?_)
    · replace h := ite_f c12 h
      refine x_iload_n d_62_67 rfl 1 rfl ?_
      obtain rfl := Option.some.inj h
      exact x_ret (r := some (.int y3)) d_62_68 ⟨_, rfl, rfl⟩
    · replace h := ite_t c12 h
      refine x_aload_n d_62_60 rfl 0 rfl ?_
      refine y_getR d_62_61 fl_1_27 rfl kd_2 rr_2_2 ?_
      obtain ⟨S14, q13, h⟩ := bd_inv h
      refine y_V0v (S1 := S14) d_62_64 ml_1_60 kd_16 rfl (Nat.le_of_ble_eq_true rfl) (Nat.le_of_ble_eq_true rfl) (c_24 (by omega) q13) ?_
      refine x_iload_n d_62_67 rfl 1 rfl ?_
      obtain rfl := Option.some.inj h
      exact x_ret (r := some (.int y3)) d_62_68 ⟨_, rfl, rfl⟩
  have J48 : ∀ (S : St) (y3 : Int32) (res : Int32 × St), j_62_48 F G S y3 = some res → Ek X (D + 1) m62 48 [(0, .ref 2), (3, .int y3)] [] S (some (.int res.1)) res.2 := by
    intro S y3 res h
    unfold j_62_48 at h
    refine x_aload_n d_62_48 rfl 0 rfl ?_
    refine x_iconst d_62_49 ic_4 ?_
    obtain ⟨S11, q10, h⟩ := bd_inv h
    refine y_V1v (S1 := S11) d_62_50 ml_1_57 kd_2 rfl (Nat.le_of_ble_eq_true rfl) (Nat.le_of_ble_eq_true rfl) (c_61 (by omega) q10) ?_
    exact J53 S11 y3 _ h
  have J23 : ∀ (S : St) (y1 : Int32) (y2 : Int32) (res : Int32 × St), j_62_23 F G S y1 y2 = some res → Ek X (D + 1) m62 23 [(0, .ref 2), (1, .int y1), (2, .int y2)] [] S (some (.int res.1)) res.2 := by
    intro S y1 y2 res h
    unfold j_62_23 at h
    refine x_aload_n d_62_23 rfl 0 rfl ?_
    refine y_getR d_62_24 fl_1_27 rfl kd_2 rr_2_2 ?_
    refine y_getI d_62_27 fl_1_50 rfl kd_16 ?_
    obtain ⟨v5, e6, h⟩ := lt_inv h
    refine y_istore_n (L1 := [(0, .ref 2), (1, .int y1), (2, .int y2), (3, .int v5)]) e6 d_62_30 rfl (Nat.le_of_ble_eq_true rfl) rfl rfl ?_
    refine x_aload_n d_62_31 rfl 0 rfl ?_
    refine y_getI d_62_32 fl_1_31 rfl kd_2 ?_
    refine x_if_ne (tgt := 53) d_62_35 rfl (fun c7 => ?_) (fun c7 => ?_)
    · replace h := ite_f c7 h
      refine y_pick (L1 := [(0, .ref 2), (3, .int v5)]) [0, 3] rfl ?_
      exact J53 S v5 _ h
    · replace h := ite_t c7 h
      refine x_iload_n d_62_38 rfl 3 rfl ?_
      refine x_iload_n d_62_39 rfl 1 rfl ?_
      refine x_icmp_lt (tgt := 48) d_62_40 rfl (fun c8 => ?_) (fun c8 => ?_)
      · replace h := ite_t c8 h
        refine y_pick (L1 := [(0, .ref 2), (3, .int v5)]) [0, 3] rfl ?_
        exact J48 S v5 _ h
      · replace h := ite_f c8 h
        refine x_iload_n d_62_43 rfl 3 rfl ?_
        refine x_iload_n d_62_44 rfl 2 rfl ?_
        refine x_icmp_le (tgt := 53) d_62_45 rfl (fun c9 => ?_) (fun c9 => ?_)
        · replace h := ite_t c9 h
          refine y_pick (L1 := [(0, .ref 2), (3, .int v5)]) [0, 3] rfl ?_
          exact J53 S v5 _ h
        · replace h := ite_f c9 h
          refine y_pick (L1 := [(0, .ref 2), (3, .int v5)]) [0, 3] rfl ?_
          exact J48 S v5 _ h
  refine x_aload_n d_62_0 rfl 0 rfl ?_
  refine y_getI d_62_1 fl_1_31 rfl kd_2 ?_
  refine x_if_ne (tgt := 23) d_62_4 rfl (fun c1 => ?_) (fun c1 => ?_)
  · replace h := ite_f c1 h
    exact J23 S p1 p2 _ h
  · replace h := ite_t c1 h
    refine x_aload_n d_62_7 rfl 0 rfl ?_
    refine y_getR d_62_8 fl_1_27 rfl kd_2 rr_2_2 ?_
    refine y_getI d_62_11 fl_1_44 rfl kd_16 ?_
    refine x_iconst d_62_14 ic_3 ?_
    refine x_icmp_eq (tgt := 23) d_62_15 rfl (fun c2 => ?_) (fun c2 => ?_)
    · replace h := ite_t c2 h
      exact J23 S p1 p2 _ h
    · replace h := ite_f c2 h
      refine x_aload_n d_62_18 rfl 0 rfl ?_
      refine x_iconst d_62_19 ic_2 ?_
      obtain ⟨S4, q3, h⟩ := bd_inv h
      refine y_V1v (S1 := S4) d_62_20 ml_1_57 kd_2 rfl (Nat.le_of_ble_eq_true rfl) (Nat.le_of_ble_eq_true rfl) (c_61 (by omega) q3) ?_
      exact J23 S4 p1 p2 _ h
/-! NinetyPlayers$Score.partNamed -/
def b_64_2 (F G : Nat) (S : St) (z0 : Nat) (z1 : Int64) (rec : Int32 → Option (Int32)) (w3 : Int32) : Option (Int32) :=
  if (S.1 z0 5) ≤ w3 then some (-1 : Int32) else gd (inB w3 4) (if (lg_cmp (S.2.1 (z0 + 1) w3.toNatClampNeg) z1) = 0 then some w3 else lt (w3 + 1) fun v4 => rec v4)
def fS_partNamed (F G : Nat) (S : St) (o : Nat) (p1 : Int64) : Option (Int32) :=
  gd (isSc o) (fx1 (b_64_2 F G S o p1) F (0 : Int32))
set_option maxRecDepth 100000 in
set_option maxHeartbeats 4000000 in
theorem T_64_2 {X : Nat × (Nat → Int32)} {D F G : Nat} (hD : 0 ≤ D) {S : St} {z0 : Nat} {z1 : Int64} (hz0 : isSc z0 = true) : ∀ (f : Nat) (w3 : Int32) (res : Int32), fx1 (b_64_2 F G S z0 z1 ) f w3 = some res → Ek X (D) m64 2 [(0, .ref z0), (1, .long z1), (3, .int w3)] [] S (some (.int res)) S := by
  refine fx1_ind ?_
  intro rec ih w3 res h
  unfold b_64_2 at h
  refine x_iload_n d_64_2 rfl 2 rfl ?_
  refine x_aload_n d_64_3 rfl 0 rfl ?_
  refine y_getI d_64_4 fl_2_63 rfl (ksSc hz0) ?_
  refine x_icmp_ge (tgt := 29) d_64_7 rfl (fun c1 => ?_) (fun c1 => ?_)
  · replace h := ite_t c1 h
    refine x_iconst d_64_29 ic_m1 ?_
    obtain rfl := Option.some.inj h
    exact x_ret (r := some (.int (-1 : Int32))) d_64_30 ⟨_, rfl, rfl⟩
  · replace h := ite_f c1 h
    refine x_aload_n d_64_10 rfl 0 rfl ?_
    refine y_getR d_64_11 fl_2_9 rfl (ksSc hz0) (rrSc_7 hz0) ?_
    refine x_iload_n d_64_14 rfl 2 rfl ?_
    obtain ⟨g2, h⟩ := gd_inv h
    refine y_lald d_64_15 (ksSc_1 hz0) g2 ?_
    refine x_lload_n d_64_16 rfl 1 rfl ?_
    refine x_lcmp d_64_17 ?_
    refine x_if_ne (tgt := 23) d_64_18 rfl (fun c3 => ?_) (fun c3 => ?_)
    · replace h := ite_f c3 h
      obtain ⟨v4, e5, h⟩ := lt_inv h
      refine y_iinc (L1 := [(0, .ref z0), (1, .long z1), (3, .int v4)]) e5 ic_1 d_64_23 2 rfl (Nat.le_of_ble_eq_true rfl) rfl rfl ?_
      refine x_goto (tgt := 2) d_64_26 rfl ?_
      exact ih v4 _ h
    · replace h := ite_t c3 h
      refine x_iload_n d_64_21 rfl 2 rfl ?_
      obtain rfl := Option.some.inj h
      exact x_ret (r := some (.int w3)) d_64_22 ⟨_, rfl, rfl⟩
set_option maxRecDepth 100000 in
set_option maxHeartbeats 4000000 in
theorem c_64 {X : Nat × (Nat → Int32)} {D F G : Nat} (hD : 0 ≤ D) {S : St} {o : Nat} {p1 : Int64} {res : Int32} (h : fS_partNamed F G S o p1 = some res) : Ek X (D) m64 0 [(0, .ref o), (1, .long p1)] [] S (some (.int res)) S := by
  unfold fS_partNamed at h
  obtain ⟨gg0, h⟩ := gd_inv h
  refine x_iconst d_64_0 ic_0 ?_
  refine x_istore_n (L1 := [(0, .ref o), (1, .long p1), (3, .int (0 : Int32))]) d_64_1 rfl (Nat.le_of_ble_eq_true rfl) rfl rfl ?_
  refine T_64_2 (by omega) gg0  F (0 : Int32) _ h
/-! NinetyPlayers$Reader.newName -/
def j_65_35 (F G : Nat) (S : St) : Option (Int64 × St) :=
  lt (S.2.1 16 6) fun v7 => if (S.1 2 0) = 0 then bd (fT_step F G S ) fun S11 => some (v7, S11) else some (v7, S)
def j_65_32 (F G : Nat) (S : St) (s1 : Int32) : Option (Int64 × St) :=
  bd (fR_refuse F G S s1) fun S6 => j_65_35 F G  S6 
def j_65_22 (F G : Nat) (S : St) (y1 : Int32) : Option (Int64 × St) :=
  if y1 = 0 then j_65_32 F G  S (2 : Int32) else j_65_32 F G  S (3 : Int32)
def fR_newName (F G : Nat) (S : St) (p1 : Int32) : Option (Int64 × St) :=
  if (S.1 2 0) = 0 then if (S.1 16 4) = (2 : Int32) then if p1 = 0 then j_65_35 F G  S  else j_65_22 F G  S p1 else j_65_22 F G  S p1 else j_65_35 F G  S 
set_option maxRecDepth 100000 in
set_option maxHeartbeats 4000000 in
theorem c_65 {X : Nat × (Nat → Int32)} {D F G : Nat} (hD : 8 ≤ D) {S : St} {p1 : Int32} {res : Int64 × St} (h : fR_newName F G S p1 = some res) : Ek X (D) m65 0 [(0, .ref 2), (1, .int p1)] [] S (some (.long res.1)) res.2 := by
  obtain ⟨D, rfl⟩ : ∃ E, D = E + 1 := ⟨D - 1, by omega⟩
  unfold fR_newName at h
  have J35 : ∀ (S : St) (res : Int64 × St), j_65_35 F G S  = some res → Ek X (D + 1) m65 35 [(0, .ref 2)] [] S (some (.long res.1)) res.2 := by
    intro S  res h
    unfold j_65_35 at h
    refine x_aload_n d_65_35 rfl 0 rfl ?_
    refine y_getR d_65_36 fl_1_27 rfl kd_2 rr_2_2 ?_
    refine y_getL d_65_39 fl_1_103 rfl kd_16 ?_
    obtain ⟨v7, e8, h⟩ := lt_inv h
    refine y_lstore_n (L1 := [(0, .ref 2), (2, .long v7)]) e8 d_65_42 rfl (Nat.le_of_ble_eq_true rfl) rfl rfl ?_
    refine x_aload_n d_65_43 rfl 0 rfl ?_
    refine y_getI d_65_44 fl_1_31 rfl kd_2 ?_
    refine x_if_ne (tgt := 57) d_65_47 rfl (fun c9 => ?_) (fun c9 => ?_)
    · replace h := ite_f c9 h
      refine x_lload_n d_65_57 rfl 1 rfl ?_
      obtain rfl := Option.some.inj h
      exact x_ret (r := some (.long v7)) d_65_58 ⟨_, rfl⟩
    · replace h := ite_t c9 h
      refine x_aload_n d_65_50 rfl 0 rfl ?_
      refine y_getR d_65_51 fl_1_27 rfl kd_2 rr_2_2 ?_
      obtain ⟨S11, q10, h⟩ := bd_inv h
      refine y_V0v (S1 := S11) d_65_54 ml_1_60 kd_16 rfl (Nat.le_of_ble_eq_true rfl) (Nat.le_of_ble_eq_true rfl) (c_24 (by omega) q10) ?_
      refine x_lload_n d_65_57 rfl 1 rfl ?_
      obtain rfl := Option.some.inj h
      exact x_ret (r := some (.long v7)) d_65_58 ⟨_, rfl⟩
  have J32 : ∀ (S : St) (s1 : Int32) (res : Int64 × St), j_65_32 F G S s1 = some res → Ek X (D + 1) m65 32 [(0, .ref 2)] [.int s1, .ref 2] S (some (.long res.1)) res.2 := by
    intro S s1 res h
    unfold j_65_32 at h
    obtain ⟨S6, q5, h⟩ := bd_inv h
    refine y_V1v (S1 := S6) d_65_32 ml_1_57 kd_2 rfl (Nat.le_of_ble_eq_true rfl) (Nat.le_of_ble_eq_true rfl) (c_61 (by omega) q5) ?_
    exact J35 S6  _ h
  have J22 : ∀ (S : St) (y1 : Int32) (res : Int64 × St), j_65_22 F G S y1 = some res → Ek X (D + 1) m65 22 [(0, .ref 2), (1, .int y1)] [] S (some (.long res.1)) res.2 := by
    intro S y1 res h
    unfold j_65_22 at h
    refine x_aload_n d_65_22 rfl 0 rfl ?_
    refine x_iload_n d_65_23 rfl 1 rfl ?_
    refine x_if_eq (tgt := 31) d_65_24 rfl (fun c4 => ?_) (fun c4 => ?_)
    · replace h := ite_t c4 h
      refine x_iconst d_65_31 ic_2 ?_
      refine y_pick (L1 := [(0, .ref 2)]) [0] rfl ?_
      exact J32 S (2 : Int32) _ h
    · replace h := ite_f c4 h
      refine x_iconst d_65_27 ic_3 ?_
      refine x_goto (tgt := 32) d_65_28 rfl ?_
      refine y_pick (L1 := [(0, .ref 2)]) [0] rfl ?_
      exact J32 S (3 : Int32) _ h
  refine x_aload_n d_65_0 rfl 0 rfl ?_
  refine y_getI d_65_1 fl_1_31 rfl kd_2 ?_
  refine x_if_ne (tgt := 35) d_65_4 rfl (fun c1 => ?_) (fun c1 => ?_)
  · replace h := ite_f c1 h
    refine y_pick (L1 := [(0, .ref 2)]) [0] rfl ?_
    exact J35 S  _ h
  · replace h := ite_t c1 h
    refine x_aload_n d_65_7 rfl 0 rfl ?_
    refine y_getR d_65_8 fl_1_27 rfl kd_2 rr_2_2 ?_
    refine y_getI d_65_11 fl_1_44 rfl kd_16 ?_
    refine x_iconst d_65_14 ic_2 ?_
    refine x_icmp_ne (tgt := 22) d_65_15 rfl (fun c2 => ?_) (fun c2 => ?_)
    · replace h := ite_f c2 h
      exact J22 S p1 _ h
    · replace h := ite_t c2 h
      refine x_iload_n d_65_18 rfl 1 rfl ?_
      refine x_if_eq (tgt := 35) d_65_19 rfl (fun c3 => ?_) (fun c3 => ?_)
      · replace h := ite_t c3 h
        refine y_pick (L1 := [(0, .ref 2)]) [0] rfl ?_
        exact J35 S  _ h
      · replace h := ite_f c3 h
        exact J22 S p1 _ h
/-! NinetyPlayers$Reader.isWord -/
def fR_isWord (F G : Nat) (S : St) (p1 : Int32) : Option (Int32) :=
  if (S.1 2 0) = 0 then if (S.1 16 4) = (1 : Int32) then if (S.1 16 5) = p1 then some (1 : Int32) else some (0 : Int32) else some (0 : Int32) else some (0 : Int32)
set_option maxRecDepth 100000 in
set_option maxHeartbeats 4000000 in
theorem c_66 {X : Nat × (Nat → Int32)} {D F G : Nat} (hD : 0 ≤ D) {S : St} {p1 : Int32} {res : Int32} (h : fR_isWord F G S p1 = some res) : Ek X (D) m66 0 [(0, .ref 2), (1, .int p1)] [] S (some (.int res)) S := by
  unfold fR_isWord at h
  refine x_aload_n d_66_0 rfl 0 rfl ?_
  refine y_getI d_66_1 fl_1_31 rfl kd_2 ?_
  refine x_if_ne (tgt := 33) d_66_4 rfl (fun c1 => ?_) (fun c1 => ?_)
  · replace h := ite_f c1 h
    refine x_iconst d_66_33 ic_0 ?_
    obtain rfl := Option.some.inj h
    exact x_ret (r := some (.int (0 : Int32))) d_66_34 ⟨_, rfl, rfl⟩
  · replace h := ite_t c1 h
    refine x_aload_n d_66_7 rfl 0 rfl ?_
    refine y_getR d_66_8 fl_1_27 rfl kd_2 rr_2_2 ?_
    refine y_getI d_66_11 fl_1_44 rfl kd_16 ?_
    refine x_iconst d_66_14 ic_1 ?_
    refine x_icmp_ne (tgt := 33) d_66_15 rfl (fun c2 => ?_) (fun c2 => ?_)
    · replace h := ite_f c2 h
      refine x_iconst d_66_33 ic_0 ?_
      obtain rfl := Option.some.inj h
      exact x_ret (r := some (.int (0 : Int32))) d_66_34 ⟨_, rfl, rfl⟩
    · replace h := ite_t c2 h
      refine x_aload_n d_66_18 rfl 0 rfl ?_
      refine y_getR d_66_19 fl_1_27 rfl kd_2 rr_2_2 ?_
      refine y_getI d_66_22 fl_1_50 rfl kd_16 ?_
      refine x_iload_n d_66_25 rfl 1 rfl ?_
      refine x_icmp_ne (tgt := 33) d_66_26 rfl (fun c3 => ?_) (fun c3 => ?_)
      · replace h := ite_f c3 h
        refine x_iconst d_66_33 ic_0 ?_
        obtain rfl := Option.some.inj h
        exact x_ret (r := some (.int (0 : Int32))) d_66_34 ⟨_, rfl, rfl⟩
      · replace h := ite_t c3 h
        refine x_iconst d_66_29 ic_1 ?_
        refine x_goto (tgt := 34) d_66_30 rfl ?_
        obtain rfl := Option.some.inj h
        exact x_ret (r := some (.int (1 : Int32))) d_66_34 ⟨_, rfl, rfl⟩
/-! NinetyPlayers$Score.addPart -/
def fS_addPart (F G : Nat) (S : St) (o : Nat) (p1 : Int64) (p2 : Int32) : Option (St) :=
  gd (isSc o) (if (4 : Int32) ≤ (S.1 o 5) then some S else gd (inB (S.1 o 5) 4) (lt (sL S (o + 1) (S.1 o 5).toNatClampNeg p1) fun S3 => gd (inB (S3.1 o 5) 4) (lt (sI S3 (o + 2) (S3.1 o 5).toNatClampNeg p2) fun S6 => lt (sI S6 o 5 ((S6.1 o 5) + (1 : Int32))) fun S8 => some S8)))
set_option maxRecDepth 100000 in
set_option maxHeartbeats 4000000 in
theorem c_67 {X : Nat × (Nat → Int32)} {D F G : Nat} (hD : 0 ≤ D) {S : St} {o : Nat} {p1 : Int64} {p2 : Int32} {res : St} (h : fS_addPart F G S o p1 p2 = some res) : Ek X (D) m67 0 [(0, .ref o), (1, .long p1), (3, .int p2)] [] S none res := by
  unfold fS_addPart at h
  obtain ⟨gg0, h⟩ := gd_inv h
  refine x_aload_n d_67_0 rfl 0 rfl ?_
  refine y_getI d_67_1 fl_2_63 rfl (ksSc gg0) ?_
  refine x_iconst d_67_4 ic_4 ?_
  refine x_icmp_ge (tgt := 38) d_67_5 rfl (fun c1 => ?_) (fun c1 => ?_)
  · replace h := ite_t c1 h
    obtain rfl := Option.some.inj h
    exact x_ret (r := none) d_67_38 rfl
  · replace h := ite_f c1 h
    refine x_aload_n d_67_8 rfl 0 rfl ?_
    refine y_getR d_67_9 fl_2_9 rfl (ksSc gg0) (rrSc_7 gg0) ?_
    refine x_aload_n d_67_12 rfl 0 rfl ?_
    refine y_getI d_67_13 fl_2_63 rfl (ksSc gg0) ?_
    refine x_lload_n d_67_16 rfl 1 rfl ?_
    obtain ⟨g2, h⟩ := gd_inv h
    obtain ⟨S3, e4, h⟩ := lt_inv h
    refine y_last e4 d_67_17 (ksSc_1 gg0) g2 ?_
    refine x_aload_n d_67_18 rfl 0 rfl ?_
    refine y_getR d_67_19 fl_2_15 rfl (ksSc gg0) (rrSc_8 gg0) ?_
    refine x_aload_n d_67_22 rfl 0 rfl ?_
    refine y_getI d_67_23 fl_2_63 rfl (ksSc gg0) ?_
    refine x_iload_n d_67_26 rfl 2 rfl ?_
    obtain ⟨g5, h⟩ := gd_inv h
    obtain ⟨S6, e7, h⟩ := lt_inv h
    refine y_iast e7 d_67_27 (ksSc_2 gg0) g5 ?_
    refine x_aload_n d_67_28 rfl 0 rfl ?_
    refine x_dup d_67_29 rfl ?_
    refine y_getI d_67_30 fl_2_63 rfl (ksSc gg0) ?_
    refine x_iconst d_67_33 ic_1 ?_
    refine x_iadd d_67_34 ?_
    obtain ⟨S8, e9, h⟩ := lt_inv h
    refine y_putI e9 d_67_35 fl_2_63 rfl rfl (ksSc gg0) rfl rfl ?_
    obtain rfl := Option.some.inj h
    exact x_ret (r := none) d_67_38 rfl
/-! NinetyPlayers$Reader.partLine -/
def j_63_80 (F G : Nat) (S : St) (y1 : Int64) (y3 : Int32) : Option (St) :=
  if (S.1 2 0) = 0 then gd (isSc S.2.2.2) (bd (fS_addPart F G S S.2.2.2 y1 y3) fun S22 => some S22) else some S
def j_63_35 (F G : Nat) (S : St) (s1 : Int32) : Option (St) :=
  bd2 (fR_newName F G S s1) fun v7 S8 => bd (fR_isWord F G S8 (8 : Int32)) fun v10 => if v10 = 0 then bd (fR_isWord F G S8 (9 : Int32)) fun v13 => if v13 = 0 then j_63_80 F G  S8 v7 (0 : Int32) else bd (fT_step F G S8 ) fun S16 => j_63_80 F G  S16 v7 (1 : Int32) else bd (fT_step F G S8 ) fun S18 => j_63_80 F G  S18 v7 (2 : Int32)
def j_63_34 (F G : Nat) (S : St) : Option (St) :=
  j_63_35 F G  S (0 : Int32)
def fR_partLine (F G : Nat) (S : St) : Option (St) :=
  if (S.1 16 4) = (2 : Int32) then gd (isSc S.2.2.2) (bd (fS_partNamed F G S S.2.2.2 (S.2.1 16 6)) fun v4 => if v4 = (-1 : Int32) then j_63_34 F G  S  else j_63_35 F G  S (1 : Int32)) else j_63_34 F G  S 
set_option maxRecDepth 100000 in
set_option maxHeartbeats 4000000 in
theorem c_63 {X : Nat × (Nat → Int32)} {D F G : Nat} (hD : 9 ≤ D) {S : St} {res : St} (h : fR_partLine F G S  = some res) : Ek X (D) m63 0 [(0, .ref 2)] [] S none res := by
  obtain ⟨D, rfl⟩ : ∃ E, D = E + 1 := ⟨D - 1, by omega⟩
  unfold fR_partLine at h
  have J80 : ∀ (S : St) (y1 : Int64) (y3 : Int32) (res : St), j_63_80 F G S y1 y3 = some res → Ek X (D + 1) m63 80 [(0, .ref 2), (1, .long y1), (3, .int y3)] [] S none res := by
    intro S y1 y3 res h
    unfold j_63_80 at h
    refine x_aload_n d_63_80 rfl 0 rfl ?_
    refine y_getI d_63_81 fl_1_31 rfl kd_2 ?_
    refine x_if_ne (tgt := 96) d_63_84 rfl (fun c19 => ?_) (fun c19 => ?_)
    · replace h := ite_f c19 h
      obtain rfl := Option.some.inj h
      exact x_ret (r := none) d_63_96 rfl
    · replace h := ite_t c19 h
      refine x_aload_n d_63_87 rfl 0 rfl ?_
      refine y_getR d_63_88 fl_1_18 rfl kd_2 rr_draft ?_
      obtain ⟨g20, h⟩ := gd_inv h
      refine x_lload_n d_63_91 rfl 1 rfl ?_
      refine x_iload_n d_63_92 rfl 2 rfl ?_
      obtain ⟨S22, q21, h⟩ := bd_inv h
      refine y_V2v (S1 := S22) d_63_93 ml_1_118 (ksSc g20) rfl (Nat.le_of_ble_eq_true rfl) (Nat.le_of_ble_eq_true rfl) (c_67 (by omega) q21) ?_
      obtain rfl := Option.some.inj h
      exact x_ret (r := none) d_63_96 rfl
  have J35 : ∀ (S : St) (s1 : Int32) (res : St), j_63_35 F G S s1 = some res → Ek X (D + 1) m63 35 [(0, .ref 2)] [.int s1, .ref 2] S none res := by
    intro S s1 res h
    unfold j_63_35 at h
    obtain ⟨v7, S8, q6, h⟩ := bd2_inv h
    refine y_V1l (v := v7) (S1 := S8) d_63_35 ml_1_111 kd_2 rfl (Nat.le_of_ble_eq_true rfl) (Nat.le_of_ble_eq_true rfl) (c_65 (by omega) q6) ?_
    refine x_lstore_n (L1 := [(0, .ref 2), (1, .long v7)]) d_63_38 rfl (Nat.le_of_ble_eq_true rfl) rfl rfl ?_
    refine x_iconst d_63_39 ic_0 ?_
    refine x_istore_n (L1 := [(0, .ref 2), (1, .long v7), (3, .int (0 : Int32))]) d_63_40 rfl (Nat.le_of_ble_eq_true rfl) rfl rfl ?_
    refine x_aload_n d_63_41 rfl 0 rfl ?_
    refine x_bipush d_63_42 bp_8 ?_
    obtain ⟨v10, q9, h⟩ := bd_inv h
    refine y_V1i (v := v10) (S1 := S8) d_63_44 ml_1_115 kd_2 rfl (Nat.le_of_ble_eq_true rfl) (Nat.le_of_ble_eq_true rfl) (c_66 (by omega) q9) ?_
    refine x_if_eq (tgt := 62) d_63_47 rfl (fun c11 => ?_) (fun c11 => ?_)
    · replace h := ite_t c11 h
      refine x_aload_n d_63_62 rfl 0 rfl ?_
      refine x_bipush d_63_63 bp_9 ?_
      obtain ⟨v13, q12, h⟩ := bd_inv h
      refine y_V1i (v := v13) (S1 := S8) d_63_65 ml_1_115 kd_2 rfl (Nat.le_of_ble_eq_true rfl) (Nat.le_of_ble_eq_true rfl) (c_66 (by omega) q12) ?_
      refine x_if_eq (tgt := 80) d_63_68 rfl (fun c14 => ?_) (fun c14 => ?_)
      · replace h := ite_t c14 h
        exact J80 S8 v7 (0 : Int32) _ h
      · replace h := ite_f c14 h
        refine x_iconst d_63_71 ic_1 ?_
        refine x_istore_n (L1 := [(0, .ref 2), (1, .long v7), (3, .int (1 : Int32))]) d_63_72 rfl (Nat.le_of_ble_eq_true rfl) rfl rfl ?_
        refine x_aload_n d_63_73 rfl 0 rfl ?_
        refine y_getR d_63_74 fl_1_27 rfl kd_2 rr_2_2 ?_
        obtain ⟨S16, q15, h⟩ := bd_inv h
        refine y_V0v (S1 := S16) d_63_77 ml_1_60 kd_16 rfl (Nat.le_of_ble_eq_true rfl) (Nat.le_of_ble_eq_true rfl) (c_24 (by omega) q15) ?_
        exact J80 S16 v7 (1 : Int32) _ h
    · replace h := ite_f c11 h
      refine x_iconst d_63_50 ic_2 ?_
      refine x_istore_n (L1 := [(0, .ref 2), (1, .long v7), (3, .int (2 : Int32))]) d_63_51 rfl (Nat.le_of_ble_eq_true rfl) rfl rfl ?_
      refine x_aload_n d_63_52 rfl 0 rfl ?_
      refine y_getR d_63_53 fl_1_27 rfl kd_2 rr_2_2 ?_
      obtain ⟨S18, q17, h⟩ := bd_inv h
      refine y_V0v (S1 := S18) d_63_56 ml_1_60 kd_16 rfl (Nat.le_of_ble_eq_true rfl) (Nat.le_of_ble_eq_true rfl) (c_24 (by omega) q17) ?_
      refine x_goto (tgt := 80) d_63_59 rfl ?_
      exact J80 S18 v7 (2 : Int32) _ h
  have J34 : ∀ (S : St) (res : St), j_63_34 F G S  = some res → Ek X (D + 1) m63 34 [(0, .ref 2)] [.ref 2] S none res := by
    intro S  res h
    unfold j_63_34 at h
    refine x_iconst d_63_34 ic_0 ?_
    exact J35 S (0 : Int32) _ h
  refine x_aload_n d_63_0 rfl 0 rfl ?_
  refine x_aload_n d_63_1 rfl 0 rfl ?_
  refine y_getR d_63_2 fl_1_27 rfl kd_2 rr_2_2 ?_
  refine y_getI d_63_5 fl_1_44 rfl kd_16 ?_
  refine x_iconst d_63_8 ic_2 ?_
  refine x_icmp_ne (tgt := 34) d_63_9 rfl (fun c1 => ?_) (fun c1 => ?_)
  · replace h := ite_f c1 h
    exact J34 S  _ h
  · replace h := ite_t c1 h
    refine x_aload_n d_63_12 rfl 0 rfl ?_
    refine y_getR d_63_13 fl_1_18 rfl kd_2 rr_draft ?_
    obtain ⟨g2, h⟩ := gd_inv h
    refine x_aload_n d_63_16 rfl 0 rfl ?_
    refine y_getR d_63_17 fl_1_27 rfl kd_2 rr_2_2 ?_
    refine y_getL d_63_20 fl_1_103 rfl kd_16 ?_
    obtain ⟨v4, q3, h⟩ := bd_inv h
    refine y_V1i (v := v4) (S1 := S) d_63_23 ml_1_107 (ksSc g2) rfl (Nat.le_of_ble_eq_true rfl) (Nat.le_of_ble_eq_true rfl) (c_64 (by omega) q3) ?_
    refine x_iconst d_63_26 ic_m1 ?_
    refine x_icmp_eq (tgt := 34) d_63_27 rfl (fun c5 => ?_) (fun c5 => ?_)
    · replace h := ite_t c5 h
      exact J34 S  _ h
    · replace h := ite_f c5 h
      refine x_iconst d_63_30 ic_1 ?_
      refine x_goto (tgt := 35) d_63_31 rfl ?_
      exact J35 S (1 : Int32) _ h
/-! NinetyPlayers$Score.hasNoteNamed -/
def b_69_2 (F G : Nat) (S : St) (z0 : Nat) (z1 : Int64) (rec : Int32 → Option (Int32)) (w3 : Int32) : Option (Int32) :=
  if (S.1 z0 6) ≤ w3 then some (0 : Int32) else gd (inB w3 10) (if (lg_cmp (S.2.1 (z0 + 3) w3.toNatClampNeg) z1) = 0 then some (1 : Int32) else lt (w3 + 1) fun v4 => rec v4)
def fS_hasNoteNamed (F G : Nat) (S : St) (o : Nat) (p1 : Int64) : Option (Int32) :=
  gd (isSc o) (fx1 (b_69_2 F G S o p1) F (0 : Int32))
set_option maxRecDepth 100000 in
set_option maxHeartbeats 4000000 in
theorem T_69_2 {X : Nat × (Nat → Int32)} {D F G : Nat} (hD : 0 ≤ D) {S : St} {z0 : Nat} {z1 : Int64} (hz0 : isSc z0 = true) : ∀ (f : Nat) (w3 : Int32) (res : Int32), fx1 (b_69_2 F G S z0 z1 ) f w3 = some res → Ek X (D) m69 2 [(0, .ref z0), (1, .long z1), (3, .int w3)] [] S (some (.int res)) S := by
  refine fx1_ind ?_
  intro rec ih w3 res h
  unfold b_69_2 at h
  refine x_iload_n d_69_2 rfl 2 rfl ?_
  refine x_aload_n d_69_3 rfl 0 rfl ?_
  refine y_getI d_69_4 fl_2_66 rfl (ksSc hz0) ?_
  refine x_icmp_ge (tgt := 29) d_69_7 rfl (fun c1 => ?_) (fun c1 => ?_)
  · replace h := ite_t c1 h
    refine x_iconst d_69_29 ic_0 ?_
    obtain rfl := Option.some.inj h
    exact x_ret (r := some (.int (0 : Int32))) d_69_30 ⟨_, rfl, rfl⟩
  · replace h := ite_f c1 h
    refine x_aload_n d_69_10 rfl 0 rfl ?_
    refine y_getR d_69_11 fl_2_19 rfl (ksSc hz0) (rrSc_9 hz0) ?_
    refine x_iload_n d_69_14 rfl 2 rfl ?_
    obtain ⟨g2, h⟩ := gd_inv h
    refine y_lald d_69_15 (ksSc_3 hz0) g2 ?_
    refine x_lload_n d_69_16 rfl 1 rfl ?_
    refine x_lcmp d_69_17 ?_
    refine x_if_ne (tgt := 23) d_69_18 rfl (fun c3 => ?_) (fun c3 => ?_)
    · replace h := ite_f c3 h
      obtain ⟨v4, e5, h⟩ := lt_inv h
      refine y_iinc (L1 := [(0, .ref z0), (1, .long z1), (3, .int v4)]) e5 ic_1 d_69_23 2 rfl (Nat.le_of_ble_eq_true rfl) rfl rfl ?_
      refine x_goto (tgt := 2) d_69_26 rfl ?_
      exact ih v4 _ h
    · replace h := ite_t c3 h
      refine x_iconst d_69_21 ic_1 ?_
      obtain rfl := Option.some.inj h
      exact x_ret (r := some (.int (1 : Int32))) d_69_22 ⟨_, rfl, rfl⟩
set_option maxRecDepth 100000 in
set_option maxHeartbeats 4000000 in
theorem c_69 {X : Nat × (Nat → Int32)} {D F G : Nat} (hD : 0 ≤ D) {S : St} {o : Nat} {p1 : Int64} {res : Int32} (h : fS_hasNoteNamed F G S o p1 = some res) : Ek X (D) m69 0 [(0, .ref o), (1, .long p1)] [] S (some (.int res)) S := by
  unfold fS_hasNoteNamed at h
  obtain ⟨gg0, h⟩ := gd_inv h
  refine x_iconst d_69_0 ic_0 ?_
  refine x_istore_n (L1 := [(0, .ref o), (1, .long p1), (3, .int (0 : Int32))]) d_69_1 rfl (Nat.le_of_ble_eq_true rfl) rfl rfl ?_
  refine T_69_2 (by omega) gg0  F (0 : Int32) _ h
/-! NinetyPlayers$Reader.takeWord -/
def fR_takeWord (F G : Nat) (S : St) (p1 : Int32) : Option (St) :=
  bd (fR_isWord F G S p1) fun v2 => if v2 = 0 then bd (fR_refuse F G S (2 : Int32)) fun S5 => some S5 else bd (fT_step F G S ) fun S7 => some S7
set_option maxRecDepth 100000 in
set_option maxHeartbeats 4000000 in
theorem c_70 {X : Nat × (Nat → Int32)} {D F G : Nat} (hD : 8 ≤ D) {S : St} {p1 : Int32} {res : St} (h : fR_takeWord F G S p1 = some res) : Ek X (D) m70 0 [(0, .ref 2), (1, .int p1)] [] S none res := by
  obtain ⟨D, rfl⟩ : ∃ E, D = E + 1 := ⟨D - 1, by omega⟩
  unfold fR_takeWord at h
  refine x_aload_n d_70_0 rfl 0 rfl ?_
  refine x_iload_n d_70_1 rfl 1 rfl ?_
  obtain ⟨v2, q1, h⟩ := bd_inv h
  refine y_V1i (v := v2) (S1 := S) d_70_2 ml_1_115 kd_2 rfl (Nat.le_of_ble_eq_true rfl) (Nat.le_of_ble_eq_true rfl) (c_66 (by omega) q1) ?_
  refine x_if_eq (tgt := 18) d_70_5 rfl (fun c3 => ?_) (fun c3 => ?_)
  · replace h := ite_t c3 h
    refine x_aload_n d_70_18 rfl 0 rfl ?_
    refine x_iconst d_70_19 ic_2 ?_
    obtain ⟨S5, q4, h⟩ := bd_inv h
    refine y_V1v (S1 := S5) d_70_20 ml_1_57 kd_2 rfl (Nat.le_of_ble_eq_true rfl) (Nat.le_of_ble_eq_true rfl) (c_61 (by omega) q4) ?_
    obtain rfl := Option.some.inj h
    exact x_ret (r := none) d_70_23 rfl
  · replace h := ite_f c3 h
    refine x_aload_n d_70_8 rfl 0 rfl ?_
    refine y_getR d_70_9 fl_1_27 rfl kd_2 rr_2_2 ?_
    obtain ⟨S7, q6, h⟩ := bd_inv h
    refine y_V0v (S1 := S7) d_70_12 ml_1_60 kd_16 rfl (Nat.le_of_ble_eq_true rfl) (Nat.le_of_ble_eq_true rfl) (c_24 (by omega) q6) ?_
    refine x_goto (tgt := 23) d_70_15 rfl ?_
    obtain rfl := Option.some.inj h
    exact x_ret (r := none) d_70_23 rfl
/-! NinetyPlayers$Reader.knownPart -/
def j_71_62 (F G : Nat) (S : St) (y1 : Int32) : Option (Int32 × St) :=
  if (S.1 2 0) = 0 then bd (fT_step F G S ) fun S12 => some (y1, S12) else some (y1, S)
def j_71_59 (F G : Nat) (S : St) (y1 : Int32) (s1 : Int32) : Option (Int32 × St) :=
  bd (fR_refuse F G S s1) fun S9 => j_71_62 F G  S9 y1
def j_71_29 (F G : Nat) (S : St) (s0 : Int32) : Option (Int32 × St) :=
  if (S.1 2 0) = 0 then if s0 = (-1 : Int32) then if (S.1 16 4) = (2 : Int32) then j_71_59 F G  S s0 (5 : Int32) else j_71_59 F G  S s0 (2 : Int32) else j_71_62 F G  S s0 else j_71_62 F G  S s0
def fR_knownPart (F G : Nat) (S : St) : Option (Int32 × St) :=
  if (S.1 16 4) = (2 : Int32) then gd (isSc S.2.2.2) (bd (fS_partNamed F G S S.2.2.2 (S.2.1 16 6)) fun v4 => j_71_29 F G  S v4) else j_71_29 F G  S (-1 : Int32)
set_option maxRecDepth 100000 in
set_option maxHeartbeats 4000000 in
theorem c_71 {X : Nat × (Nat → Int32)} {D F G : Nat} (hD : 8 ≤ D) {S : St} {res : Int32 × St} (h : fR_knownPart F G S  = some res) : Ek X (D) m71 0 [(0, .ref 2)] [] S (some (.int res.1)) res.2 := by
  obtain ⟨D, rfl⟩ : ∃ E, D = E + 1 := ⟨D - 1, by omega⟩
  unfold fR_knownPart at h
  have J62 : ∀ (S : St) (y1 : Int32) (res : Int32 × St), j_71_62 F G S y1 = some res → Ek X (D + 1) m71 62 [(0, .ref 2), (1, .int y1)] [] S (some (.int res.1)) res.2 := by
    intro S y1 res h
    unfold j_71_62 at h
    refine x_aload_n d_71_62 rfl 0 rfl ?_
    refine y_getI d_71_63 fl_1_31 rfl kd_2 ?_
    refine x_if_ne (tgt := 76) d_71_66 rfl (fun c10 => ?_) (fun c10 => ?_)
    · replace h := ite_f c10 h
      refine x_iload_n d_71_76 rfl 1 rfl ?_
      obtain rfl := Option.some.inj h
      exact x_ret (r := some (.int y1)) d_71_77 ⟨_, rfl, rfl⟩
    · replace h := ite_t c10 h
      refine x_aload_n d_71_69 rfl 0 rfl ?_
      refine y_getR d_71_70 fl_1_27 rfl kd_2 rr_2_2 ?_
      obtain ⟨S12, q11, h⟩ := bd_inv h
      refine y_V0v (S1 := S12) d_71_73 ml_1_60 kd_16 rfl (Nat.le_of_ble_eq_true rfl) (Nat.le_of_ble_eq_true rfl) (c_24 (by omega) q11) ?_
      refine x_iload_n d_71_76 rfl 1 rfl ?_
      obtain rfl := Option.some.inj h
      exact x_ret (r := some (.int y1)) d_71_77 ⟨_, rfl, rfl⟩
  have J59 : ∀ (S : St) (y1 : Int32) (s1 : Int32) (res : Int32 × St), j_71_59 F G S y1 s1 = some res → Ek X (D + 1) m71 59 [(0, .ref 2), (1, .int y1)] [.int s1, .ref 2] S (some (.int res.1)) res.2 := by
    intro S y1 s1 res h
    unfold j_71_59 at h
    obtain ⟨S9, q8, h⟩ := bd_inv h
    refine y_V1v (S1 := S9) d_71_59 ml_1_57 kd_2 rfl (Nat.le_of_ble_eq_true rfl) (Nat.le_of_ble_eq_true rfl) (c_61 (by omega) q8) ?_
    exact J62 S9 y1 _ h
  have J29 : ∀ (S : St) (s0 : Int32) (res : Int32 × St), j_71_29 F G S s0 = some res → Ek X (D + 1) m71 29 [(0, .ref 2)] [.int s0] S (some (.int res.1)) res.2 := by
    intro S s0 res h
    unfold j_71_29 at h
    refine x_istore_n (L1 := [(0, .ref 2), (1, .int s0)]) d_71_29 rfl (Nat.le_of_ble_eq_true rfl) rfl rfl ?_
    refine x_aload_n d_71_30 rfl 0 rfl ?_
    refine y_getI d_71_31 fl_1_31 rfl kd_2 ?_
    refine x_if_ne (tgt := 62) d_71_34 rfl (fun c5 => ?_) (fun c5 => ?_)
    · replace h := ite_f c5 h
      exact J62 S s0 _ h
    · replace h := ite_t c5 h
      refine x_iload_n d_71_37 rfl 1 rfl ?_
      refine x_iconst d_71_38 ic_m1 ?_
      refine x_icmp_ne (tgt := 62) d_71_39 rfl (fun c6 => ?_) (fun c6 => ?_)
      · replace h := ite_f c6 h
        exact J62 S s0 _ h
      · replace h := ite_t c6 h
        refine x_aload_n d_71_42 rfl 0 rfl ?_
        refine x_aload_n d_71_43 rfl 0 rfl ?_
        refine y_getR d_71_44 fl_1_27 rfl kd_2 rr_2_2 ?_
        refine y_getI d_71_47 fl_1_44 rfl kd_16 ?_
        refine x_iconst d_71_50 ic_2 ?_
        refine x_icmp_ne (tgt := 58) d_71_51 rfl (fun c7 => ?_) (fun c7 => ?_)
        · replace h := ite_f c7 h
          refine x_iconst d_71_58 ic_2 ?_
          exact J59 S s0 (2 : Int32) _ h
        · replace h := ite_t c7 h
          refine x_iconst d_71_54 ic_5 ?_
          refine x_goto (tgt := 59) d_71_55 rfl ?_
          exact J59 S s0 (5 : Int32) _ h
  refine x_aload_n d_71_0 rfl 0 rfl ?_
  refine y_getR d_71_1 fl_1_27 rfl kd_2 rr_2_2 ?_
  refine y_getI d_71_4 fl_1_44 rfl kd_16 ?_
  refine x_iconst d_71_7 ic_2 ?_
  refine x_icmp_ne (tgt := 28) d_71_8 rfl (fun c1 => ?_) (fun c1 => ?_)
  · replace h := ite_f c1 h
    refine x_iconst d_71_28 ic_m1 ?_
    exact J29 S (-1 : Int32) _ h
  · replace h := ite_t c1 h
    refine x_aload_n d_71_11 rfl 0 rfl ?_
    refine y_getR d_71_12 fl_1_18 rfl kd_2 rr_draft ?_
    obtain ⟨g2, h⟩ := gd_inv h
    refine x_aload_n d_71_15 rfl 0 rfl ?_
    refine y_getR d_71_16 fl_1_27 rfl kd_2 rr_2_2 ?_
    refine y_getL d_71_19 fl_1_103 rfl kd_16 ?_
    obtain ⟨v4, q3, h⟩ := bd_inv h
    refine y_V1i (v := v4) (S1 := S) d_71_22 ml_1_107 (ksSc g2) rfl (Nat.le_of_ble_eq_true rfl) (Nat.le_of_ble_eq_true rfl) (c_64 (by omega) q3) ?_
    refine x_goto (tgt := 29) d_71_25 rfl ?_
    exact J29 S v4 _ h
/-! NinetyPlayers$Score.addNote -/
def fS_addNote (F G : Nat) (S : St) (o : Nat) (p1 : Int64) (p2 : Int32) (p3 : Int32) (p4 : Int32) (p5 : Int32) (p6 : Int32) : Option (St) :=
  gd (isSc o) (if (10 : Int32) ≤ (S.1 o 6) then some S else gd (inB (S.1 o 6) 10) (lt (sL S (o + 3) (S.1 o 6).toNatClampNeg p1) fun S3 => gd (inB (S3.1 o 6) 10) (lt (sI S3 (o + 4) (S3.1 o 6).toNatClampNeg p2) fun S6 => gd (inB (S6.1 o 6) 10) (lt (sI S6 (o + 5) (S6.1 o 6).toNatClampNeg p3) fun S9 => gd (inB (S9.1 o 6) 10) (lt (sI S9 (o + 6) (S9.1 o 6).toNatClampNeg p4) fun S12 => gd (inB (S12.1 o 6) 10) (lt (sI S12 (o + 7) (S12.1 o 6).toNatClampNeg p5) fun S15 => gd (inB (S15.1 o 6) 10) (lt (sI S15 (o + 8) (S15.1 o 6).toNatClampNeg p6) fun S18 => lt (sI S18 o 6 ((S18.1 o 6) + (1 : Int32))) fun S20 => some S20)))))))
set_option maxRecDepth 100000 in
set_option maxHeartbeats 4000000 in
theorem c_72 {X : Nat × (Nat → Int32)} {D F G : Nat} (hD : 0 ≤ D) {S : St} {o : Nat} {p1 : Int64} {p2 : Int32} {p3 : Int32} {p4 : Int32} {p5 : Int32} {p6 : Int32} {res : St} (h : fS_addNote F G S o p1 p2 p3 p4 p5 p6 = some res) : Ek X (D) m72 0 [(0, .ref o), (1, .long p1), (3, .int p2), (4, .int p3), (5, .int p4), (6, .int p5), (7, .int p6)] [] S none res := by
  unfold fS_addNote at h
  obtain ⟨gg0, h⟩ := gd_inv h
  refine x_aload_n d_72_0 rfl 0 rfl ?_
  refine y_getI d_72_1 fl_2_66 rfl (ksSc gg0) ?_
  refine x_bipush d_72_4 bp_10 ?_
  refine x_icmp_ge (tgt := 83) d_72_6 rfl (fun c1 => ?_) (fun c1 => ?_)
  · replace h := ite_t c1 h
    obtain rfl := Option.some.inj h
    exact x_ret (r := none) d_72_83 rfl
  · replace h := ite_f c1 h
    refine x_aload_n d_72_9 rfl 0 rfl ?_
    refine y_getR d_72_10 fl_2_19 rfl (ksSc gg0) (rrSc_9 gg0) ?_
    refine x_aload_n d_72_13 rfl 0 rfl ?_
    refine y_getI d_72_14 fl_2_66 rfl (ksSc gg0) ?_
    refine x_lload_n d_72_17 rfl 1 rfl ?_
    obtain ⟨g2, h⟩ := gd_inv h
    obtain ⟨S3, e4, h⟩ := lt_inv h
    refine y_last e4 d_72_18 (ksSc_3 gg0) g2 ?_
    refine x_aload_n d_72_19 rfl 0 rfl ?_
    refine y_getR d_72_20 fl_2_22 rfl (ksSc gg0) (rrSc_10 gg0) ?_
    refine x_aload_n d_72_23 rfl 0 rfl ?_
    refine y_getI d_72_24 fl_2_66 rfl (ksSc gg0) ?_
    refine x_iload_n d_72_27 rfl 2 rfl ?_
    obtain ⟨g5, h⟩ := gd_inv h
    obtain ⟨S6, e7, h⟩ := lt_inv h
    refine y_iast e7 d_72_28 (ksSc_4 gg0) g5 ?_
    refine x_aload_n d_72_29 rfl 0 rfl ?_
    refine y_getR d_72_30 fl_2_25 rfl (ksSc gg0) (rrSc_11 gg0) ?_
    refine x_aload_n d_72_33 rfl 0 rfl ?_
    refine y_getI d_72_34 fl_2_66 rfl (ksSc gg0) ?_
    refine x_iload d_72_37 3 rfl ?_
    obtain ⟨g8, h⟩ := gd_inv h
    obtain ⟨S9, e10, h⟩ := lt_inv h
    refine y_iast e10 d_72_39 (ksSc_5 gg0) g8 ?_
    refine x_aload_n d_72_40 rfl 0 rfl ?_
    refine y_getR d_72_41 fl_2_28 rfl (ksSc gg0) (rrSc_12 gg0) ?_
    refine x_aload_n d_72_44 rfl 0 rfl ?_
    refine y_getI d_72_45 fl_2_66 rfl (ksSc gg0) ?_
    refine x_iload d_72_48 4 rfl ?_
    obtain ⟨g11, h⟩ := gd_inv h
    obtain ⟨S12, e13, h⟩ := lt_inv h
    refine y_iast e13 d_72_50 (ksSc_6 gg0) g11 ?_
    refine x_aload_n d_72_51 rfl 0 rfl ?_
    refine y_getR d_72_52 fl_2_31 rfl (ksSc gg0) (rrSc_13 gg0) ?_
    refine x_aload_n d_72_55 rfl 0 rfl ?_
    refine y_getI d_72_56 fl_2_66 rfl (ksSc gg0) ?_
    refine x_iload d_72_59 5 rfl ?_
    obtain ⟨g14, h⟩ := gd_inv h
    obtain ⟨S15, e16, h⟩ := lt_inv h
    refine y_iast e16 d_72_61 (ksSc_7 gg0) g14 ?_
    refine x_aload_n d_72_62 rfl 0 rfl ?_
    refine y_getR d_72_63 fl_2_34 rfl (ksSc gg0) (rrSc_14 gg0) ?_
    refine x_aload_n d_72_66 rfl 0 rfl ?_
    refine y_getI d_72_67 fl_2_66 rfl (ksSc gg0) ?_
    refine x_iload d_72_70 6 rfl ?_
    obtain ⟨g17, h⟩ := gd_inv h
    obtain ⟨S18, e19, h⟩ := lt_inv h
    refine y_iast e19 d_72_72 (ksSc_8 gg0) g17 ?_
    refine x_aload_n d_72_73 rfl 0 rfl ?_
    refine x_dup d_72_74 rfl ?_
    refine y_getI d_72_75 fl_2_66 rfl (ksSc gg0) ?_
    refine x_iconst d_72_78 ic_1 ?_
    refine x_iadd d_72_79 ?_
    obtain ⟨S20, e21, h⟩ := lt_inv h
    refine y_putI e21 d_72_80 fl_2_66 rfl rfl (ksSc gg0) rfl rfl ?_
    obtain rfl := Option.some.inj h
    exact x_ret (r := none) d_72_83 rfl
/-! NinetyPlayers$Reader.noteLine -/
def j_68_129 (F G : Nat) (S : St) (y1 : Int64) (y3 : Int32) (y4 : Int32) (y5 : Int32) (y6 : Int32) (y7 : Int32) : Option (St) :=
  if (S.1 2 0) = 0 then gd (isSc S.2.2.2) (bd (fS_addNote F G S S.2.2.2 y1 y3 y4 y5 y6 y7) fun S41 => some S41) else some S
def j_68_34 (F G : Nat) (S : St) (s1 : Int32) : Option (St) :=
  bd2 (fR_newName F G S s1) fun v7 S8 => bd (fR_takeWord F G S8 (10 : Int32)) fun S10 => bd2 (fR_knownPart F G S10) fun v12 S13 => bd (fR_takeWord F G S13 (11 : Int32)) fun S15 => gd (isSc S15.2.2.2) (bd2 (fR_number F G S15 (0 : Int32) ((S15.1 S15.2.2.2 0) - (1 : Int32))) fun v18 S19 => bd (fR_takeWord F G S19 (16 : Int32)) fun S21 => bd2 (fR_number F G S21 (0 : Int32) (87 : Int32)) fun v23 S24 => bd (fR_takeWord F G S24 (17 : Int32)) fun S26 => bd2 (fR_number F G S26 (1 : Int32) (12 : Int32)) fun v28 S29 => bd (fR_isWord F G S29 (18 : Int32)) fun v31 => if v31 = 0 then j_68_129 F G  S29 v7 v12 v18 v23 v28 (5 : Int32) else bd (fT_step F G S29 ) fun S34 => bd2 (fR_number F G S34 (1 : Int32) (9 : Int32)) fun v36 S37 => j_68_129 F G  S37 v7 v12 v18 v23 v28 v36)
def j_68_33 (F G : Nat) (S : St) : Option (St) :=
  j_68_34 F G  S (0 : Int32)
def fR_noteLine (F G : Nat) (S : St) : Option (St) :=
  if (S.1 16 4) = (2 : Int32) then gd (isSc S.2.2.2) (bd (fS_hasNoteNamed F G S S.2.2.2 (S.2.1 16 6)) fun v4 => if v4 = 0 then j_68_33 F G  S  else j_68_34 F G  S (1 : Int32)) else j_68_33 F G  S 
set_option maxRecDepth 100000 in
set_option maxHeartbeats 4000000 in
theorem c_68 {X : Nat × (Nat → Int32)} {D F G : Nat} (hD : 9 ≤ D) {S : St} {res : St} (h : fR_noteLine F G S  = some res) : Ek X (D) m68 0 [(0, .ref 2)] [] S none res := by
  obtain ⟨D, rfl⟩ : ∃ E, D = E + 1 := ⟨D - 1, by omega⟩
  unfold fR_noteLine at h
  have J129 : ∀ (S : St) (y1 : Int64) (y3 : Int32) (y4 : Int32) (y5 : Int32) (y6 : Int32) (y7 : Int32) (res : St), j_68_129 F G S y1 y3 y4 y5 y6 y7 = some res → Ek X (D + 1) m68 129 [(0, .ref 2), (1, .long y1), (3, .int y3), (4, .int y4), (5, .int y5), (6, .int y6), (7, .int y7)] [] S none res := by
    intro S y1 y3 y4 y5 y6 y7 res h
    unfold j_68_129 at h
    refine x_aload_n d_68_129 rfl 0 rfl ?_
    refine y_getI d_68_130 fl_1_31 rfl kd_2 ?_
    refine x_if_ne (tgt := 153) d_68_133 rfl (fun c38 => ?_) (fun c38 => ?_)
    · replace h := ite_f c38 h
      obtain rfl := Option.some.inj h
      exact x_ret (r := none) d_68_153 rfl
    · replace h := ite_t c38 h
      refine x_aload_n d_68_136 rfl 0 rfl ?_
      refine y_getR d_68_137 fl_1_18 rfl kd_2 rr_draft ?_
      obtain ⟨g39, h⟩ := gd_inv h
      refine x_lload_n d_68_140 rfl 1 rfl ?_
      refine x_iload_n d_68_141 rfl 2 rfl ?_
      refine x_iload d_68_142 3 rfl ?_
      refine x_iload d_68_144 4 rfl ?_
      refine x_iload d_68_146 5 rfl ?_
      refine x_iload d_68_148 6 rfl ?_
      obtain ⟨S41, q40, h⟩ := bd_inv h
      refine y_V6v (S1 := S41) d_68_150 ml_1_133 (ksSc g39) rfl (Nat.le_of_ble_eq_true rfl) (Nat.le_of_ble_eq_true rfl) (c_72 (by omega) q40) ?_
      obtain rfl := Option.some.inj h
      exact x_ret (r := none) d_68_153 rfl
  have J34 : ∀ (S : St) (s1 : Int32) (res : St), j_68_34 F G S s1 = some res → Ek X (D + 1) m68 34 [(0, .ref 2)] [.int s1, .ref 2] S none res := by
    intro S s1 res h
    unfold j_68_34 at h
    obtain ⟨v7, S8, q6, h⟩ := bd2_inv h
    refine y_V1l (v := v7) (S1 := S8) d_68_34 ml_1_111 kd_2 rfl (Nat.le_of_ble_eq_true rfl) (Nat.le_of_ble_eq_true rfl) (c_65 (by omega) q6) ?_
    refine x_lstore_n (L1 := [(0, .ref 2), (1, .long v7)]) d_68_37 rfl (Nat.le_of_ble_eq_true rfl) rfl rfl ?_
    refine x_aload_n d_68_38 rfl 0 rfl ?_
    refine x_bipush d_68_39 bp_10 ?_
    obtain ⟨S10, q9, h⟩ := bd_inv h
    refine y_V1v (S1 := S10) d_68_41 ml_1_126 kd_2 rfl (Nat.le_of_ble_eq_true rfl) (Nat.le_of_ble_eq_true rfl) (c_70 (by omega) q9) ?_
    refine x_aload_n d_68_44 rfl 0 rfl ?_
    obtain ⟨v12, S13, q11, h⟩ := bd2_inv h
    refine y_V0i (v := v12) (S1 := S13) d_68_45 ml_1_129 kd_2 rfl (Nat.le_of_ble_eq_true rfl) (Nat.le_of_ble_eq_true rfl) (c_71 (by omega) q11) ?_
    refine x_istore_n (L1 := [(0, .ref 2), (1, .long v7), (3, .int v12)]) d_68_48 rfl (Nat.le_of_ble_eq_true rfl) rfl rfl ?_
    refine x_aload_n d_68_49 rfl 0 rfl ?_
    refine x_bipush d_68_50 bp_11 ?_
    obtain ⟨S15, q14, h⟩ := bd_inv h
    refine y_V1v (S1 := S15) d_68_52 ml_1_126 kd_2 rfl (Nat.le_of_ble_eq_true rfl) (Nat.le_of_ble_eq_true rfl) (c_70 (by omega) q14) ?_
    refine x_aload_n d_68_55 rfl 0 rfl ?_
    refine x_iconst d_68_56 ic_0 ?_
    refine x_aload_n d_68_57 rfl 0 rfl ?_
    refine y_getR d_68_58 fl_1_18 rfl kd_2 rr_draft ?_
    obtain ⟨g16, h⟩ := gd_inv h
    refine y_getI d_68_61 fl_1_67 rfl (ksSc g16) ?_
    refine x_iconst d_68_64 ic_1 ?_
    refine x_isub d_68_65 ?_
    obtain ⟨v18, S19, q17, h⟩ := bd2_inv h
    refine y_V2i (v := v18) (S1 := S19) d_68_66 ml_1_63 kd_2 rfl (Nat.le_of_ble_eq_true rfl) (Nat.le_of_ble_eq_true rfl) (c_62 (by omega) q17) ?_
    refine x_istore (L1 := [(0, .ref 2), (1, .long v7), (3, .int v12), (4, .int v18)]) d_68_69 (Nat.le_of_ble_eq_true rfl) rfl rfl ?_
    refine x_aload_n d_68_71 rfl 0 rfl ?_
    refine x_bipush d_68_72 bp_16 ?_
    obtain ⟨S21, q20, h⟩ := bd_inv h
    refine y_V1v (S1 := S21) d_68_74 ml_1_126 kd_2 rfl (Nat.le_of_ble_eq_true rfl) (Nat.le_of_ble_eq_true rfl) (c_70 (by omega) q20) ?_
    refine x_aload_n d_68_77 rfl 0 rfl ?_
    refine x_iconst d_68_78 ic_0 ?_
    refine x_bipush d_68_79 bp_87 ?_
    obtain ⟨v23, S24, q22, h⟩ := bd2_inv h
    refine y_V2i (v := v23) (S1 := S24) d_68_81 ml_1_63 kd_2 rfl (Nat.le_of_ble_eq_true rfl) (Nat.le_of_ble_eq_true rfl) (c_62 (by omega) q22) ?_
    refine x_istore (L1 := [(0, .ref 2), (1, .long v7), (3, .int v12), (4, .int v18), (5, .int v23)]) d_68_84 (Nat.le_of_ble_eq_true rfl) rfl rfl ?_
    refine x_aload_n d_68_86 rfl 0 rfl ?_
    refine x_bipush d_68_87 bp_17 ?_
    obtain ⟨S26, q25, h⟩ := bd_inv h
    refine y_V1v (S1 := S26) d_68_89 ml_1_126 kd_2 rfl (Nat.le_of_ble_eq_true rfl) (Nat.le_of_ble_eq_true rfl) (c_70 (by omega) q25) ?_
    refine x_aload_n d_68_92 rfl 0 rfl ?_
    refine x_iconst d_68_93 ic_1 ?_
    refine x_bipush d_68_94 bp_12 ?_
    obtain ⟨v28, S29, q27, h⟩ := bd2_inv h
    refine y_V2i (v := v28) (S1 := S29) d_68_96 ml_1_63 kd_2 rfl (Nat.le_of_ble_eq_true rfl) (Nat.le_of_ble_eq_true rfl) (c_62 (by omega) q27) ?_
    refine x_istore (L1 := [(0, .ref 2), (1, .long v7), (3, .int v12), (4, .int v18), (5, .int v23), (6, .int v28)]) d_68_99 (Nat.le_of_ble_eq_true rfl) rfl rfl ?_
    refine x_iconst d_68_101 ic_5 ?_
    refine x_istore (L1 := [(0, .ref 2), (1, .long v7), (3, .int v12), (4, .int v18), (5, .int v23), (6, .int v28), (7, .int (5 : Int32))]) d_68_102 (Nat.le_of_ble_eq_true rfl) rfl rfl ?_
    refine x_aload_n d_68_104 rfl 0 rfl ?_
    refine x_bipush d_68_105 bp_18 ?_
    obtain ⟨v31, q30, h⟩ := bd_inv h
    refine y_V1i (v := v31) (S1 := S29) d_68_107 ml_1_115 kd_2 rfl (Nat.le_of_ble_eq_true rfl) (Nat.le_of_ble_eq_true rfl) (c_66 (by omega) q30) ?_
    refine x_if_eq (tgt := 129) d_68_110 rfl (fun c32 => ?_) (fun c32 => ?_)
    · replace h := ite_t c32 h
      exact J129 S29 v7 v12 v18 v23 v28 (5 : Int32) _ h
    · replace h := ite_f c32 h
      refine x_aload_n d_68_113 rfl 0 rfl ?_
      refine y_getR d_68_114 fl_1_27 rfl kd_2 rr_2_2 ?_
      obtain ⟨S34, q33, h⟩ := bd_inv h
      refine y_V0v (S1 := S34) d_68_117 ml_1_60 kd_16 rfl (Nat.le_of_ble_eq_true rfl) (Nat.le_of_ble_eq_true rfl) (c_24 (by omega) q33) ?_
      refine x_aload_n d_68_120 rfl 0 rfl ?_
      refine x_iconst d_68_121 ic_1 ?_
      refine x_bipush d_68_122 bp_9 ?_
      obtain ⟨v36, S37, q35, h⟩ := bd2_inv h
      refine y_V2i (v := v36) (S1 := S37) d_68_124 ml_1_63 kd_2 rfl (Nat.le_of_ble_eq_true rfl) (Nat.le_of_ble_eq_true rfl) (c_62 (by omega) q35) ?_
      refine x_istore (L1 := [(0, .ref 2), (1, .long v7), (3, .int v12), (4, .int v18), (5, .int v23), (6, .int v28), (7, .int v36)]) d_68_127 (Nat.le_of_ble_eq_true rfl) rfl rfl ?_
      exact J129 S37 v7 v12 v18 v23 v28 v36 _ h
  have J33 : ∀ (S : St) (res : St), j_68_33 F G S  = some res → Ek X (D + 1) m68 33 [(0, .ref 2)] [.ref 2] S none res := by
    intro S  res h
    unfold j_68_33 at h
    refine x_iconst d_68_33 ic_0 ?_
    exact J34 S (0 : Int32) _ h
  refine x_aload_n d_68_0 rfl 0 rfl ?_
  refine x_aload_n d_68_1 rfl 0 rfl ?_
  refine y_getR d_68_2 fl_1_27 rfl kd_2 rr_2_2 ?_
  refine y_getI d_68_5 fl_1_44 rfl kd_16 ?_
  refine x_iconst d_68_8 ic_2 ?_
  refine x_icmp_ne (tgt := 33) d_68_9 rfl (fun c1 => ?_) (fun c1 => ?_)
  · replace h := ite_f c1 h
    exact J33 S  _ h
  · replace h := ite_t c1 h
    refine x_aload_n d_68_12 rfl 0 rfl ?_
    refine y_getR d_68_13 fl_1_18 rfl kd_2 rr_draft ?_
    obtain ⟨g2, h⟩ := gd_inv h
    refine x_aload_n d_68_16 rfl 0 rfl ?_
    refine y_getR d_68_17 fl_1_27 rfl kd_2 rr_2_2 ?_
    refine y_getL d_68_20 fl_1_103 rfl kd_16 ?_
    obtain ⟨v4, q3, h⟩ := bd_inv h
    refine y_V1i (v := v4) (S1 := S) d_68_23 ml_1_122 (ksSc g2) rfl (Nat.le_of_ble_eq_true rfl) (Nat.le_of_ble_eq_true rfl) (c_69 (by omega) q3) ?_
    refine x_if_eq (tgt := 33) d_68_26 rfl (fun c5 => ?_) (fun c5 => ?_)
    · replace h := ite_t c5 h
      exact J33 S  _ h
    · replace h := ite_f c5 h
      refine x_iconst d_68_29 ic_1 ?_
      refine x_goto (tgt := 34) d_68_30 rfl ?_
      exact J34 S (1 : Int32) _ h
/-! NinetyPlayers$Formula.put -/
def fF_put (F G : Nat) (S : St) (o : Nat) (p1 : Int32) : Option (St) :=
  gd (isFo o) (if (270 : Int32) ≤ (S.1 o 1) then some S else gd (inB (S.1 o 1) 270) (lt (sI S (o + 1) (S.1 o 1).toNatClampNeg p1) fun S3 => lt (sI S3 o 1 ((S3.1 o 1) + (1 : Int32))) fun S5 => some S5))
set_option maxRecDepth 100000 in
set_option maxHeartbeats 4000000 in
theorem c_76 {X : Nat × (Nat → Int32)} {D F G : Nat} (hD : 0 ≤ D) {S : St} {o : Nat} {p1 : Int32} {res : St} (h : fF_put F G S o p1 = some res) : Ek X (D) m76 0 [(0, .ref o), (1, .int p1)] [] S none res := by
  unfold fF_put at h
  obtain ⟨gg0, h⟩ := gd_inv h
  refine x_aload_n d_76_0 rfl 0 rfl ?_
  refine y_getI d_76_1 fl_3_25 rfl (ksFo gg0) ?_
  refine x_sipush d_76_4 sp_270 ?_
  refine x_icmp_ge (tgt := 30) d_76_7 rfl (fun c1 => ?_) (fun c1 => ?_)
  · replace h := ite_t c1 h
    obtain rfl := Option.some.inj h
    exact x_ret (r := none) d_76_30 rfl
  · replace h := ite_f c1 h
    refine x_aload_n d_76_10 rfl 0 rfl ?_
    refine y_getR d_76_11 fl_3_9 rfl (ksFo gg0) (rrFo_2 gg0) ?_
    refine x_aload_n d_76_14 rfl 0 rfl ?_
    refine y_getI d_76_15 fl_3_25 rfl (ksFo gg0) ?_
    refine x_iload_n d_76_18 rfl 1 rfl ?_
    obtain ⟨g2, h⟩ := gd_inv h
    obtain ⟨S3, e4, h⟩ := lt_inv h
    refine y_iast e4 d_76_19 (ksFo_1 gg0) g2 ?_
    refine x_aload_n d_76_20 rfl 0 rfl ?_
    refine x_dup d_76_21 rfl ?_
    refine y_getI d_76_22 fl_3_25 rfl (ksFo gg0) ?_
    refine x_iconst d_76_25 ic_1 ?_
    refine x_iadd d_76_26 ?_
    obtain ⟨S5, e6, h⟩ := lt_inv h
    refine y_putI e6 d_76_27 fl_3_25 rfl rfl (ksFo gg0) rfl rfl ?_
    obtain rfl := Option.some.inj h
    exact x_ret (r := none) d_76_30 rfl
/-! NinetyPlayers$Reader.isSign -/
def fR_isSign (F G : Nat) (S : St) (p1 : Int32) : Option (Int32) :=
  if (S.1 2 0) = 0 then if (S.1 16 4) = (4 : Int32) then if (S.1 16 5) = p1 then some (1 : Int32) else some (0 : Int32) else some (0 : Int32) else some (0 : Int32)
set_option maxRecDepth 100000 in
set_option maxHeartbeats 4000000 in
theorem c_80 {X : Nat × (Nat → Int32)} {D F G : Nat} (hD : 0 ≤ D) {S : St} {p1 : Int32} {res : Int32} (h : fR_isSign F G S p1 = some res) : Ek X (D) m80 0 [(0, .ref 2), (1, .int p1)] [] S (some (.int res)) S := by
  unfold fR_isSign at h
  refine x_aload_n d_80_0 rfl 0 rfl ?_
  refine y_getI d_80_1 fl_1_31 rfl kd_2 ?_
  refine x_if_ne (tgt := 33) d_80_4 rfl (fun c1 => ?_) (fun c1 => ?_)
  · replace h := ite_f c1 h
    refine x_iconst d_80_33 ic_0 ?_
    obtain rfl := Option.some.inj h
    exact x_ret (r := some (.int (0 : Int32))) d_80_34 ⟨_, rfl, rfl⟩
  · replace h := ite_t c1 h
    refine x_aload_n d_80_7 rfl 0 rfl ?_
    refine y_getR d_80_8 fl_1_27 rfl kd_2 rr_2_2 ?_
    refine y_getI d_80_11 fl_1_44 rfl kd_16 ?_
    refine x_iconst d_80_14 ic_4 ?_
    refine x_icmp_ne (tgt := 33) d_80_15 rfl (fun c2 => ?_) (fun c2 => ?_)
    · replace h := ite_f c2 h
      refine x_iconst d_80_33 ic_0 ?_
      obtain rfl := Option.some.inj h
      exact x_ret (r := some (.int (0 : Int32))) d_80_34 ⟨_, rfl, rfl⟩
    · replace h := ite_t c2 h
      refine x_aload_n d_80_18 rfl 0 rfl ?_
      refine y_getR d_80_19 fl_1_27 rfl kd_2 rr_2_2 ?_
      refine y_getI d_80_22 fl_1_50 rfl kd_16 ?_
      refine x_iload_n d_80_25 rfl 1 rfl ?_
      refine x_icmp_ne (tgt := 33) d_80_26 rfl (fun c3 => ?_) (fun c3 => ?_)
      · replace h := ite_f c3 h
        refine x_iconst d_80_33 ic_0 ?_
        obtain rfl := Option.some.inj h
        exact x_ret (r := some (.int (0 : Int32))) d_80_34 ⟨_, rfl, rfl⟩
      · replace h := ite_t c3 h
        refine x_iconst d_80_29 ic_1 ?_
        refine x_goto (tgt := 34) d_80_30 rfl ?_
        obtain rfl := Option.some.inj h
        exact x_ret (r := some (.int (1 : Int32))) d_80_34 ⟨_, rfl, rfl⟩
/-! NinetyPlayers$Reader.takeSign -/
def fR_takeSign (F G : Nat) (S : St) (p1 : Int32) : Option (St) :=
  bd (fR_isSign F G S p1) fun v2 => if v2 = 0 then bd (fR_refuse F G S (2 : Int32)) fun S5 => some S5 else bd (fT_step F G S ) fun S7 => some S7
set_option maxRecDepth 100000 in
set_option maxHeartbeats 4000000 in
theorem c_81 {X : Nat × (Nat → Int32)} {D F G : Nat} (hD : 8 ≤ D) {S : St} {p1 : Int32} {res : St} (h : fR_takeSign F G S p1 = some res) : Ek X (D) m81 0 [(0, .ref 2), (1, .int p1)] [] S none res := by
  obtain ⟨D, rfl⟩ : ∃ E, D = E + 1 := ⟨D - 1, by omega⟩
  unfold fR_takeSign at h
  refine x_aload_n d_81_0 rfl 0 rfl ?_
  refine x_iload_n d_81_1 rfl 1 rfl ?_
  obtain ⟨v2, q1, h⟩ := bd_inv h
  refine y_V1i (v := v2) (S1 := S) d_81_2 ml_1_137 kd_2 rfl (Nat.le_of_ble_eq_true rfl) (Nat.le_of_ble_eq_true rfl) (c_80 (by omega) q1) ?_
  refine x_if_eq (tgt := 18) d_81_5 rfl (fun c3 => ?_) (fun c3 => ?_)
  · replace h := ite_t c3 h
    refine x_aload_n d_81_18 rfl 0 rfl ?_
    refine x_iconst d_81_19 ic_2 ?_
    obtain ⟨S5, q4, h⟩ := bd_inv h
    refine y_V1v (S1 := S5) d_81_20 ml_1_57 kd_2 rfl (Nat.le_of_ble_eq_true rfl) (Nat.le_of_ble_eq_true rfl) (c_61 (by omega) q4) ?_
    obtain rfl := Option.some.inj h
    exact x_ret (r := none) d_81_23 rfl
  · replace h := ite_f c3 h
    refine x_aload_n d_81_8 rfl 0 rfl ?_
    refine y_getR d_81_9 fl_1_27 rfl kd_2 rr_2_2 ?_
    obtain ⟨S7, q6, h⟩ := bd_inv h
    refine y_V0v (S1 := S7) d_81_12 ml_1_60 kd_16 rfl (Nat.le_of_ble_eq_true rfl) (Nat.le_of_ble_eq_true rfl) (c_24 (by omega) q6) ?_
    refine x_goto (tgt := 23) d_81_15 rfl ?_
    obtain rfl := Option.some.inj h
    exact x_ret (r := none) d_81_23 rfl
/-! NinetyPlayers$Reader.either, NinetyPlayers$Reader.both, NinetyPlayers$Reader.one, NinetyPlayers$Reader.sum, NinetyPlayers$Reader.term, NinetyPlayers$Reader.unit -/
def b_73_7 (F G : Nat) (P : Nat → Int32 → St → Option St) (z1 : Int32) (rec : Int32 → St → Option (St)) (w2 : Int32) (S : St) : Option (St) :=
  if (1600 : Int32) ≤ w2 then some S else bd (fR_isWord F G S (12 : Int32)) fun v5 => if v5 = 0 then some S else bd (fT_step F G S ) fun S8 => bd (P 1 z1 S8) fun S10 => gd (isSc S10.2.2.2) (bd (fF_put F G S10 (S10.2.2.2 + 9) (-12 : Int32)) fun S13 => lt (w2 + 1) fun v14 => rec v14 S13)
def fR_either (F G : Nat) (P : Nat → Int32 → St → Option St) (p1 : Int32) (S : St) : Option (St) :=
  bd (P 1 p1 S) fun S2 => fx2 (b_73_7 F G P p1) F (0 : Int32) S2
def b_74_7 (F G : Nat) (P : Nat → Int32 → St → Option St) (z1 : Int32) (rec : Int32 → St → Option (St)) (w2 : Int32) (S : St) : Option (St) :=
  if (1600 : Int32) ≤ w2 then some S else bd (fR_isWord F G S (13 : Int32)) fun v5 => if v5 = 0 then some S else bd (fT_step F G S ) fun S8 => bd (P 2 z1 S8) fun S10 => gd (isSc S10.2.2.2) (bd (fF_put F G S10 (S10.2.2.2 + 9) (-13 : Int32)) fun S13 => lt (w2 + 1) fun v14 => rec v14 S13)
def fR_both (F G : Nat) (P : Nat → Int32 → St → Option St) (p1 : Int32) (S : St) : Option (St) :=
  bd (P 2 p1 S) fun S2 => fx2 (b_74_7 F G P p1) F (0 : Int32) S2
def j_75_80 (F G : Nat) (P : Nat → Int32 → St → Option St) (S : St) (y1 : Int32) : Option (St) :=
  lt (S.1 16 5) fun v25 => bd (fT_step F G S ) fun S28 => bd (P 3 y1 S28) fun S30 => gd (isSc S30.2.2.2) (bd (fF_put F G S30 (S30.2.2.2 + 9) (-v25)) fun S33 => some S33)
def fR_one (F G : Nat) (P : Nat → Int32 → St → Option St) (p1 : Int32) (S : St) : Option (St) :=
  bd (fR_isWord F G S (14 : Int32)) fun v2 => if v2 = 0 then bd (P 3 p1 S) fun S5 => bd (fR_isSign F G S5 (60 : Int32)) fun v7 => if v7 = 0 then bd (fR_isSign F G S5 (62 : Int32)) fun v10 => if v10 = 0 then bd (fR_isSign F G S5 (61 : Int32)) fun v13 => if v13 = 0 then some S5 else j_75_80 F G P  S5 p1 else j_75_80 F G P  S5 p1 else j_75_80 F G P  S5 p1 else if p1 < (7 : Int32) then bd (fT_step F G S ) fun S17 => bd (P 2 (p1 + (1 : Int32)) S17) fun S19 => gd (isSc S19.2.2.2) (bd (fF_put F G S19 (S19.2.2.2 + 9) (-14 : Int32)) fun S22 => some S22) else bd (fR_refuse F G S (2 : Int32)) fun S24 => some S24
def j_77_32 (F G : Nat) (P : Nat → Int32 → St → Option St) (z1 : Int32) (rec : Int32 → St → Option (St)) (S : St) (y2 : Int32) : Option (St) :=
  lt (S.1 16 5) fun v10 => bd (fT_step F G S ) fun S13 => bd (P 4 z1 S13) fun S15 => gd (isSc S15.2.2.2) (bd (fF_put F G S15 (S15.2.2.2 + 9) (-v10)) fun S18 => lt (y2 + 1) fun v19 => rec v19 S18)
def b_77_7 (F G : Nat) (P : Nat → Int32 → St → Option St) (z1 : Int32) (rec : Int32 → St → Option (St)) (w2 : Int32) (S : St) : Option (St) :=
  if (1600 : Int32) ≤ w2 then some S else bd (fR_isSign F G S (43 : Int32)) fun v5 => if v5 = 0 then bd (fR_isSign F G S (45 : Int32)) fun v8 => if v8 = 0 then some S else j_77_32 F G P z1 rec  S w2 else j_77_32 F G P z1 rec  S w2
def fR_sum (F G : Nat) (P : Nat → Int32 → St → Option St) (p1 : Int32) (S : St) : Option (St) :=
  bd (P 4 p1 S) fun S2 => fx2 (b_77_7 F G P p1) F (0 : Int32) S2
def j_78_41 (F G : Nat) (P : Nat → Int32 → St → Option St) (z1 : Int32) (rec : Int32 → St → Option (St)) (S : St) (y2 : Int32) : Option (St) :=
  lt (S.1 16 5) fun v13 => bd (fT_step F G S ) fun S16 => bd (P 5 z1 S16) fun S18 => gd (isSc S18.2.2.2) (bd (fF_put F G S18 (S18.2.2.2 + 9) (-v13)) fun S21 => lt (y2 + 1) fun v22 => rec v22 S21)
def b_78_7 (F G : Nat) (P : Nat → Int32 → St → Option St) (z1 : Int32) (rec : Int32 → St → Option (St)) (w2 : Int32) (S : St) : Option (St) :=
  if (1600 : Int32) ≤ w2 then some S else bd (fR_isSign F G S (42 : Int32)) fun v5 => if v5 = 0 then bd (fR_isSign F G S (47 : Int32)) fun v8 => if v8 = 0 then bd (fR_isSign F G S (37 : Int32)) fun v11 => if v11 = 0 then some S else j_78_41 F G P z1 rec  S w2 else j_78_41 F G P z1 rec  S w2 else j_78_41 F G P z1 rec  S w2
def fR_term (F G : Nat) (P : Nat → Int32 → St → Option St) (p1 : Int32) (S : St) : Option (St) :=
  bd (P 5 p1 S) fun S2 => fx2 (b_78_7 F G P p1) F (0 : Int32) S2
def j_79_118 (F G : Nat) (P : Nat → Int32 → St → Option St) (S : St) (y1 : Int32) (y2 : Int32) (y3 : Int32) : Option (St) :=
  gd (isSc S.2.2.2) (lt (sI S (S.2.2.2 + 9) 0 ((S.1 (S.2.2.2 + 9) 0) + (1 : Int32))) fun S20 => lt (S20.1 16 5) fun v22 => bd (fT_step F G S20 ) fun S25 => if y2 = 0 then gd (isSc S25.2.2.2) (if y3 = 0 then bd (fF_put F G S25 (S25.2.2.2 + 9) v22) fun S30 => some S30 else bd (fF_put F G S25 (S25.2.2.2 + 9) (-v22)) fun S32 => some S32) else bd (P 0 (y1 + (1 : Int32)) S25) fun S34 => bd (fR_takeSign F G S34 (41 : Int32)) fun S36 => some S36)
def j_79_86 (F G : Nat) (P : Nat → Int32 → St → Option St) (S : St) (y1 : Int32) (y2 : Int32) (y3 : Int32) (s0 : Int32) : Option (St) :=
  if s0 = 0 then bd (fR_refuse F G S (2 : Int32)) fun S13 => some S13 else if y2 = 0 then if y3 = 0 then if (S.1 16 4) = (3 : Int32) then j_79_118 F G P  S y1 y2 y3 else bd (fR_refuse F G S (2 : Int32)) fun S18 => some S18 else j_79_118 F G P  S y1 y2 y3 else j_79_118 F G P  S y1 y2 y3
def j_79_85 (F G : Nat) (P : Nat → Int32 → St → Option St) (S : St) (y1 : Int32) (y2 : Int32) (y3 : Int32) : Option (St) :=
  j_79_86 F G P  S y1 y2 y3 (0 : Int32)
def j_79_81 (F G : Nat) (P : Nat → Int32 → St → Option St) (S : St) (y1 : Int32) (y2 : Int32) (y3 : Int32) : Option (St) :=
  j_79_86 F G P  S y1 y2 y3 (1 : Int32)
def j_79_55 (F G : Nat) (P : Nat → Int32 → St → Option St) (S : St) (y1 : Int32) (y2 : Int32) (s0 : Int32) : Option (St) :=
  gd (isSc S.2.2.2) (if (30 : Int32) ≤ (S.1 (S.2.2.2 + 9) 0) then j_79_85 F G P  S y1 y2 s0 else if y2 = 0 then j_79_81 F G P  S y1 y2 s0 else if (7 : Int32) ≤ y1 then j_79_85 F G P  S y1 y2 s0 else j_79_81 F G P  S y1 y2 s0)
def j_79_54 (F G : Nat) (P : Nat → Int32 → St → Option St) (S : St) (y1 : Int32) (y2 : Int32) : Option (St) :=
  j_79_55 F G P  S y1 y2 (0 : Int32)
def fR_unit (F G : Nat) (P : Nat → Int32 → St → Option St) (p1 : Int32) (S : St) : Option (St) :=
  if (S.1 2 0) = 0 then bd (fR_isSign F G S (40 : Int32)) fun v3 => if (S.1 16 4) = (1 : Int32) then if (S.1 16 5) < (15 : Int32) then j_79_54 F G P  S p1 v3 else if (20 : Int32) < (S.1 16 5) then j_79_54 F G P  S p1 v3 else j_79_55 F G P  S p1 v3 (1 : Int32) else j_79_54 F G P  S p1 v3 else some S
def fR_parse (F G : Nat) : Nat → Nat → Int32 → St → Option St
  | 0, _, _, _ => none
  | n + 1, l, p1, S => if l = 0 then fR_either F G (fR_parse F G n) p1 S else if l = 1 then fR_both F G (fR_parse F G n) p1 S else if l = 2 then fR_one F G (fR_parse F G n) p1 S else if l = 3 then fR_sum F G (fR_parse F G n) p1 S else if l = 4 then fR_term F G (fR_parse F G n) p1 S else if l = 5 then fR_unit F G (fR_parse F G n) p1 S else none
set_option maxRecDepth 100000 in
set_option maxHeartbeats 4000000 in
theorem T_73_7 {X : Nat × (Nat → Int32)} {D F G : Nat} (hD : 9 ≤ D) {P : Nat → Int32 → St → Option St} (hP0 : ∀ (a1 : Int32) (S S1 : St), P 0 a1 S = some S1 → Ek X D m73 0 [(0, .ref 2), (1, .int a1)] [] S none S1) (hP1 : ∀ (a1 : Int32) (S S1 : St), P 1 a1 S = some S1 → Ek X D m74 0 [(0, .ref 2), (1, .int a1)] [] S none S1) (hP2 : ∀ (a1 : Int32) (S S1 : St), P 2 a1 S = some S1 → Ek X D m75 0 [(0, .ref 2), (1, .int a1)] [] S none S1) (hP3 : ∀ (a1 : Int32) (S S1 : St), P 3 a1 S = some S1 → Ek X D m77 0 [(0, .ref 2), (1, .int a1)] [] S none S1) (hP4 : ∀ (a1 : Int32) (S S1 : St), P 4 a1 S = some S1 → Ek X D m78 0 [(0, .ref 2), (1, .int a1)] [] S none S1) (hP5 : ∀ (a1 : Int32) (S S1 : St), P 5 a1 S = some S1 → Ek X D m79 0 [(0, .ref 2), (1, .int a1)] [] S none S1) {z1 : Int32} : ∀ (f : Nat) (w2 : Int32) (S : St) (res : St), fx2 (b_73_7 F G P z1 ) f w2 S = some res → Ek X (D + 1) m73 7 [(0, .ref 2), (1, .int z1), (2, .int w2)] [] S none res := by
  refine fx2_ind ?_
  intro rec ih w2 S res h
  unfold b_73_7 at h
  refine x_iload_n d_73_7 rfl 2 rfl ?_
  refine x_sipush d_73_8 sp_1600 ?_
  refine x_icmp_ge (tgt := 53) d_73_11 rfl (fun c3 => ?_) (fun c3 => ?_)
  · replace h := ite_t c3 h
    obtain rfl := Option.some.inj h
    exact x_ret (r := none) d_73_53 rfl
  · replace h := ite_f c3 h
    refine x_aload_n d_73_14 rfl 0 rfl ?_
    refine x_bipush d_73_15 bp_12 ?_
    obtain ⟨v5, q4, h⟩ := bd_inv h
    refine y_V1i (v := v5) (S1 := S) d_73_17 ml_1_115 kd_2 rfl (Nat.le_of_ble_eq_true rfl) (Nat.le_of_ble_eq_true rfl) (c_66 (by omega) q4) ?_
    refine x_if_eq (tgt := 53) d_73_20 rfl (fun c6 => ?_) (fun c6 => ?_)
    · replace h := ite_t c6 h
      obtain rfl := Option.some.inj h
      exact x_ret (r := none) d_73_53 rfl
    · replace h := ite_f c6 h
      refine x_aload_n d_73_23 rfl 0 rfl ?_
      refine y_getR d_73_24 fl_1_27 rfl kd_2 rr_2_2 ?_
      obtain ⟨S8, q7, h⟩ := bd_inv h
      refine y_V0v (S1 := S8) d_73_27 ml_1_60 kd_16 rfl (Nat.le_of_ble_eq_true rfl) (Nat.le_of_ble_eq_true rfl) (c_24 (by omega) q7) ?_
      refine x_aload_n d_73_30 rfl 0 rfl ?_
      refine x_iload_n d_73_31 rfl 1 rfl ?_
      obtain ⟨S10, q9, h⟩ := bd_inv h
      refine y_V1v (S1 := S10) d_73_32 ml_1_142 kd_2 rfl (Nat.le_of_ble_eq_true rfl) (Nat.le_of_ble_eq_true rfl) (hP1 _ _ _ q9) ?_
      refine x_aload_n d_73_35 rfl 0 rfl ?_
      refine y_getR d_73_36 fl_1_18 rfl kd_2 rr_draft ?_
      obtain ⟨g11, h⟩ := gd_inv h
      refine y_getR d_73_39 fl_1_145 rfl (ksSc g11) (rrSc_15 g11) ?_
      refine x_bipush d_73_42 bp_m12 ?_
      obtain ⟨S13, q12, h⟩ := bd_inv h
      refine y_V1v (S1 := S13) d_73_44 ml_1_149 (ksFo (isFo_of g11)) rfl (Nat.le_of_ble_eq_true rfl) (Nat.le_of_ble_eq_true rfl) (c_76 (by omega) q12) ?_
      obtain ⟨v14, e15, h⟩ := lt_inv h
      refine y_iinc (L1 := [(0, .ref 2), (1, .int z1), (2, .int v14)]) e15 ic_1 d_73_47 2 rfl (Nat.le_of_ble_eq_true rfl) rfl rfl ?_
      refine x_goto (tgt := 7) d_73_50 rfl ?_
      exact ih v14 S13 _ h
set_option maxRecDepth 100000 in
set_option maxHeartbeats 4000000 in
theorem cb_73 {X : Nat × (Nat → Int32)} {D F G : Nat} (hD : 9 ≤ D) {P : Nat → Int32 → St → Option St} (hP0 : ∀ (a1 : Int32) (S S1 : St), P 0 a1 S = some S1 → Ek X D m73 0 [(0, .ref 2), (1, .int a1)] [] S none S1) (hP1 : ∀ (a1 : Int32) (S S1 : St), P 1 a1 S = some S1 → Ek X D m74 0 [(0, .ref 2), (1, .int a1)] [] S none S1) (hP2 : ∀ (a1 : Int32) (S S1 : St), P 2 a1 S = some S1 → Ek X D m75 0 [(0, .ref 2), (1, .int a1)] [] S none S1) (hP3 : ∀ (a1 : Int32) (S S1 : St), P 3 a1 S = some S1 → Ek X D m77 0 [(0, .ref 2), (1, .int a1)] [] S none S1) (hP4 : ∀ (a1 : Int32) (S S1 : St), P 4 a1 S = some S1 → Ek X D m78 0 [(0, .ref 2), (1, .int a1)] [] S none S1) (hP5 : ∀ (a1 : Int32) (S S1 : St), P 5 a1 S = some S1 → Ek X D m79 0 [(0, .ref 2), (1, .int a1)] [] S none S1) {S : St} {p1 : Int32} {res : St} (h : fR_either F G P p1 S = some res) : Ek X (D + 1) m73 0 [(0, .ref 2), (1, .int p1)] [] S none res := by
  unfold fR_either at h
  refine x_aload_n d_73_0 rfl 0 rfl ?_
  refine x_iload_n d_73_1 rfl 1 rfl ?_
  obtain ⟨S2, q1, h⟩ := bd_inv h
  refine y_V1v (S1 := S2) d_73_2 ml_1_142 kd_2 rfl (Nat.le_of_ble_eq_true rfl) (Nat.le_of_ble_eq_true rfl) (hP1 _ _ _ q1) ?_
  refine x_iconst d_73_5 ic_0 ?_
  refine x_istore_n (L1 := [(0, .ref 2), (1, .int p1), (2, .int (0 : Int32))]) d_73_6 rfl (Nat.le_of_ble_eq_true rfl) rfl rfl ?_
  refine T_73_7 hD hP0 hP1 hP2 hP3 hP4 hP5   F (0 : Int32) S2 _ h
set_option maxRecDepth 100000 in
set_option maxHeartbeats 4000000 in
theorem T_74_7 {X : Nat × (Nat → Int32)} {D F G : Nat} (hD : 9 ≤ D) {P : Nat → Int32 → St → Option St} (hP0 : ∀ (a1 : Int32) (S S1 : St), P 0 a1 S = some S1 → Ek X D m73 0 [(0, .ref 2), (1, .int a1)] [] S none S1) (hP1 : ∀ (a1 : Int32) (S S1 : St), P 1 a1 S = some S1 → Ek X D m74 0 [(0, .ref 2), (1, .int a1)] [] S none S1) (hP2 : ∀ (a1 : Int32) (S S1 : St), P 2 a1 S = some S1 → Ek X D m75 0 [(0, .ref 2), (1, .int a1)] [] S none S1) (hP3 : ∀ (a1 : Int32) (S S1 : St), P 3 a1 S = some S1 → Ek X D m77 0 [(0, .ref 2), (1, .int a1)] [] S none S1) (hP4 : ∀ (a1 : Int32) (S S1 : St), P 4 a1 S = some S1 → Ek X D m78 0 [(0, .ref 2), (1, .int a1)] [] S none S1) (hP5 : ∀ (a1 : Int32) (S S1 : St), P 5 a1 S = some S1 → Ek X D m79 0 [(0, .ref 2), (1, .int a1)] [] S none S1) {z1 : Int32} : ∀ (f : Nat) (w2 : Int32) (S : St) (res : St), fx2 (b_74_7 F G P z1 ) f w2 S = some res → Ek X (D + 1) m74 7 [(0, .ref 2), (1, .int z1), (2, .int w2)] [] S none res := by
  refine fx2_ind ?_
  intro rec ih w2 S res h
  unfold b_74_7 at h
  refine x_iload_n d_74_7 rfl 2 rfl ?_
  refine x_sipush d_74_8 sp_1600 ?_
  refine x_icmp_ge (tgt := 53) d_74_11 rfl (fun c3 => ?_) (fun c3 => ?_)
  · replace h := ite_t c3 h
    obtain rfl := Option.some.inj h
    exact x_ret (r := none) d_74_53 rfl
  · replace h := ite_f c3 h
    refine x_aload_n d_74_14 rfl 0 rfl ?_
    refine x_bipush d_74_15 bp_13 ?_
    obtain ⟨v5, q4, h⟩ := bd_inv h
    refine y_V1i (v := v5) (S1 := S) d_74_17 ml_1_115 kd_2 rfl (Nat.le_of_ble_eq_true rfl) (Nat.le_of_ble_eq_true rfl) (c_66 (by omega) q4) ?_
    refine x_if_eq (tgt := 53) d_74_20 rfl (fun c6 => ?_) (fun c6 => ?_)
    · replace h := ite_t c6 h
      obtain rfl := Option.some.inj h
      exact x_ret (r := none) d_74_53 rfl
    · replace h := ite_f c6 h
      refine x_aload_n d_74_23 rfl 0 rfl ?_
      refine y_getR d_74_24 fl_1_27 rfl kd_2 rr_2_2 ?_
      obtain ⟨S8, q7, h⟩ := bd_inv h
      refine y_V0v (S1 := S8) d_74_27 ml_1_60 kd_16 rfl (Nat.le_of_ble_eq_true rfl) (Nat.le_of_ble_eq_true rfl) (c_24 (by omega) q7) ?_
      refine x_aload_n d_74_30 rfl 0 rfl ?_
      refine x_iload_n d_74_31 rfl 1 rfl ?_
      obtain ⟨S10, q9, h⟩ := bd_inv h
      refine y_V1v (S1 := S10) d_74_32 ml_1_154 kd_2 rfl (Nat.le_of_ble_eq_true rfl) (Nat.le_of_ble_eq_true rfl) (hP2 _ _ _ q9) ?_
      refine x_aload_n d_74_35 rfl 0 rfl ?_
      refine y_getR d_74_36 fl_1_18 rfl kd_2 rr_draft ?_
      obtain ⟨g11, h⟩ := gd_inv h
      refine y_getR d_74_39 fl_1_145 rfl (ksSc g11) (rrSc_15 g11) ?_
      refine x_bipush d_74_42 bp_m13 ?_
      obtain ⟨S13, q12, h⟩ := bd_inv h
      refine y_V1v (S1 := S13) d_74_44 ml_1_149 (ksFo (isFo_of g11)) rfl (Nat.le_of_ble_eq_true rfl) (Nat.le_of_ble_eq_true rfl) (c_76 (by omega) q12) ?_
      obtain ⟨v14, e15, h⟩ := lt_inv h
      refine y_iinc (L1 := [(0, .ref 2), (1, .int z1), (2, .int v14)]) e15 ic_1 d_74_47 2 rfl (Nat.le_of_ble_eq_true rfl) rfl rfl ?_
      refine x_goto (tgt := 7) d_74_50 rfl ?_
      exact ih v14 S13 _ h
set_option maxRecDepth 100000 in
set_option maxHeartbeats 4000000 in
theorem cb_74 {X : Nat × (Nat → Int32)} {D F G : Nat} (hD : 9 ≤ D) {P : Nat → Int32 → St → Option St} (hP0 : ∀ (a1 : Int32) (S S1 : St), P 0 a1 S = some S1 → Ek X D m73 0 [(0, .ref 2), (1, .int a1)] [] S none S1) (hP1 : ∀ (a1 : Int32) (S S1 : St), P 1 a1 S = some S1 → Ek X D m74 0 [(0, .ref 2), (1, .int a1)] [] S none S1) (hP2 : ∀ (a1 : Int32) (S S1 : St), P 2 a1 S = some S1 → Ek X D m75 0 [(0, .ref 2), (1, .int a1)] [] S none S1) (hP3 : ∀ (a1 : Int32) (S S1 : St), P 3 a1 S = some S1 → Ek X D m77 0 [(0, .ref 2), (1, .int a1)] [] S none S1) (hP4 : ∀ (a1 : Int32) (S S1 : St), P 4 a1 S = some S1 → Ek X D m78 0 [(0, .ref 2), (1, .int a1)] [] S none S1) (hP5 : ∀ (a1 : Int32) (S S1 : St), P 5 a1 S = some S1 → Ek X D m79 0 [(0, .ref 2), (1, .int a1)] [] S none S1) {S : St} {p1 : Int32} {res : St} (h : fR_both F G P p1 S = some res) : Ek X (D + 1) m74 0 [(0, .ref 2), (1, .int p1)] [] S none res := by
  unfold fR_both at h
  refine x_aload_n d_74_0 rfl 0 rfl ?_
  refine x_iload_n d_74_1 rfl 1 rfl ?_
  obtain ⟨S2, q1, h⟩ := bd_inv h
  refine y_V1v (S1 := S2) d_74_2 ml_1_154 kd_2 rfl (Nat.le_of_ble_eq_true rfl) (Nat.le_of_ble_eq_true rfl) (hP2 _ _ _ q1) ?_
  refine x_iconst d_74_5 ic_0 ?_
  refine x_istore_n (L1 := [(0, .ref 2), (1, .int p1), (2, .int (0 : Int32))]) d_74_6 rfl (Nat.le_of_ble_eq_true rfl) rfl rfl ?_
  refine T_74_7 hD hP0 hP1 hP2 hP3 hP4 hP5   F (0 : Int32) S2 _ h
set_option maxRecDepth 100000 in
set_option maxHeartbeats 4000000 in
theorem cb_75 {X : Nat × (Nat → Int32)} {D F G : Nat} (hD : 9 ≤ D) {P : Nat → Int32 → St → Option St} (hP0 : ∀ (a1 : Int32) (S S1 : St), P 0 a1 S = some S1 → Ek X D m73 0 [(0, .ref 2), (1, .int a1)] [] S none S1) (hP1 : ∀ (a1 : Int32) (S S1 : St), P 1 a1 S = some S1 → Ek X D m74 0 [(0, .ref 2), (1, .int a1)] [] S none S1) (hP2 : ∀ (a1 : Int32) (S S1 : St), P 2 a1 S = some S1 → Ek X D m75 0 [(0, .ref 2), (1, .int a1)] [] S none S1) (hP3 : ∀ (a1 : Int32) (S S1 : St), P 3 a1 S = some S1 → Ek X D m77 0 [(0, .ref 2), (1, .int a1)] [] S none S1) (hP4 : ∀ (a1 : Int32) (S S1 : St), P 4 a1 S = some S1 → Ek X D m78 0 [(0, .ref 2), (1, .int a1)] [] S none S1) (hP5 : ∀ (a1 : Int32) (S S1 : St), P 5 a1 S = some S1 → Ek X D m79 0 [(0, .ref 2), (1, .int a1)] [] S none S1) {S : St} {p1 : Int32} {res : St} (h : fR_one F G P p1 S = some res) : Ek X (D + 1) m75 0 [(0, .ref 2), (1, .int p1)] [] S none res := by
  unfold fR_one at h
  have J80 : ∀ (S : St) (y1 : Int32) (res : St), j_75_80 F G P S y1 = some res → Ek X (D + 1) m75 80 [(0, .ref 2), (1, .int y1)] [] S none res := by
    intro S y1 res h
    unfold j_75_80 at h
    refine x_aload_n d_75_80 rfl 0 rfl ?_
    refine y_getR d_75_81 fl_1_27 rfl kd_2 rr_2_2 ?_
    refine y_getI d_75_84 fl_1_50 rfl kd_16 ?_
    obtain ⟨v25, e26, h⟩ := lt_inv h
    refine y_istore_n (L1 := [(0, .ref 2), (1, .int y1), (2, .int v25)]) e26 d_75_87 rfl (Nat.le_of_ble_eq_true rfl) rfl rfl ?_
    refine x_aload_n d_75_88 rfl 0 rfl ?_
    refine y_getR d_75_89 fl_1_27 rfl kd_2 rr_2_2 ?_
    obtain ⟨S28, q27, h⟩ := bd_inv h
    refine y_V0v (S1 := S28) d_75_92 ml_1_60 kd_16 rfl (Nat.le_of_ble_eq_true rfl) (Nat.le_of_ble_eq_true rfl) (c_24 (by omega) q27) ?_
    refine x_aload_n d_75_95 rfl 0 rfl ?_
    refine x_iload_n d_75_96 rfl 1 rfl ?_
    obtain ⟨S30, q29, h⟩ := bd_inv h
    refine y_V1v (S1 := S30) d_75_97 ml_1_157 kd_2 rfl (Nat.le_of_ble_eq_true rfl) (Nat.le_of_ble_eq_true rfl) (hP3 _ _ _ q29) ?_
    refine x_aload_n d_75_100 rfl 0 rfl ?_
    refine y_getR d_75_101 fl_1_18 rfl kd_2 rr_draft ?_
    obtain ⟨g31, h⟩ := gd_inv h
    refine y_getR d_75_104 fl_1_145 rfl (ksSc g31) (rrSc_15 g31) ?_
    refine x_iload_n d_75_107 rfl 2 rfl ?_
    refine x_ineg d_75_108 ?_
    obtain ⟨S33, q32, h⟩ := bd_inv h
    refine y_V1v (S1 := S33) d_75_109 ml_1_149 (ksFo (isFo_of g31)) rfl (Nat.le_of_ble_eq_true rfl) (Nat.le_of_ble_eq_true rfl) (c_76 (by omega) q32) ?_
    obtain rfl := Option.some.inj h
    exact x_ret (r := none) d_75_112 rfl
  refine x_aload_n d_75_0 rfl 0 rfl ?_
  refine x_bipush d_75_1 bp_14 ?_
  obtain ⟨v2, q1, h⟩ := bd_inv h
  refine y_V1i (v := v2) (S1 := S) d_75_3 ml_1_115 kd_2 rfl (Nat.le_of_ble_eq_true rfl) (Nat.le_of_ble_eq_true rfl) (c_66 (by omega) q1) ?_
  refine x_if_eq (tgt := 48) d_75_6 rfl (fun c3 => ?_) (fun c3 => ?_)
  · replace h := ite_t c3 h
    refine x_aload_n d_75_48 rfl 0 rfl ?_
    refine x_iload_n d_75_49 rfl 1 rfl ?_
    obtain ⟨S5, q4, h⟩ := bd_inv h
    refine y_V1v (S1 := S5) d_75_50 ml_1_157 kd_2 rfl (Nat.le_of_ble_eq_true rfl) (Nat.le_of_ble_eq_true rfl) (hP3 _ _ _ q4) ?_
    refine x_aload_n d_75_53 rfl 0 rfl ?_
    refine x_bipush d_75_54 bp_60 ?_
    obtain ⟨v7, q6, h⟩ := bd_inv h
    refine y_V1i (v := v7) (S1 := S5) d_75_56 ml_1_137 kd_2 rfl (Nat.le_of_ble_eq_true rfl) (Nat.le_of_ble_eq_true rfl) (c_80 (by omega) q6) ?_
    refine x_if_ne (tgt := 80) d_75_59 rfl (fun c8 => ?_) (fun c8 => ?_)
    · replace h := ite_f c8 h
      exact J80 S5 p1 _ h
    · replace h := ite_t c8 h
      refine x_aload_n d_75_62 rfl 0 rfl ?_
      refine x_bipush d_75_63 bp_62 ?_
      obtain ⟨v10, q9, h⟩ := bd_inv h
      refine y_V1i (v := v10) (S1 := S5) d_75_65 ml_1_137 kd_2 rfl (Nat.le_of_ble_eq_true rfl) (Nat.le_of_ble_eq_true rfl) (c_80 (by omega) q9) ?_
      refine x_if_ne (tgt := 80) d_75_68 rfl (fun c11 => ?_) (fun c11 => ?_)
      · replace h := ite_f c11 h
        exact J80 S5 p1 _ h
      · replace h := ite_t c11 h
        refine x_aload_n d_75_71 rfl 0 rfl ?_
        refine x_bipush d_75_72 bp_61 ?_
        obtain ⟨v13, q12, h⟩ := bd_inv h
        refine y_V1i (v := v13) (S1 := S5) d_75_74 ml_1_137 kd_2 rfl (Nat.le_of_ble_eq_true rfl) (Nat.le_of_ble_eq_true rfl) (c_80 (by omega) q12) ?_
        refine x_if_eq (tgt := 112) d_75_77 rfl (fun c14 => ?_) (fun c14 => ?_)
        · replace h := ite_t c14 h
          obtain rfl := Option.some.inj h
          exact x_ret (r := none) d_75_112 rfl
        · replace h := ite_f c14 h
          exact J80 S5 p1 _ h
  · replace h := ite_f c3 h
    refine x_iload_n d_75_9 rfl 1 rfl ?_
    refine x_bipush d_75_10 bp_7 ?_
    refine x_icmp_lt (tgt := 21) d_75_12 rfl (fun c15 => ?_) (fun c15 => ?_)
    · replace h := ite_t c15 h
      refine x_aload_n d_75_21 rfl 0 rfl ?_
      refine y_getR d_75_22 fl_1_27 rfl kd_2 rr_2_2 ?_
      obtain ⟨S17, q16, h⟩ := bd_inv h
      refine y_V0v (S1 := S17) d_75_25 ml_1_60 kd_16 rfl (Nat.le_of_ble_eq_true rfl) (Nat.le_of_ble_eq_true rfl) (c_24 (by omega) q16) ?_
      refine x_aload_n d_75_28 rfl 0 rfl ?_
      refine x_iload_n d_75_29 rfl 1 rfl ?_
      refine x_iconst d_75_30 ic_1 ?_
      refine x_iadd d_75_31 ?_
      obtain ⟨S19, q18, h⟩ := bd_inv h
      refine y_V1v (S1 := S19) d_75_32 ml_1_154 kd_2 rfl (Nat.le_of_ble_eq_true rfl) (Nat.le_of_ble_eq_true rfl) (hP2 _ _ _ q18) ?_
      refine x_aload_n d_75_35 rfl 0 rfl ?_
      refine y_getR d_75_36 fl_1_18 rfl kd_2 rr_draft ?_
      obtain ⟨g20, h⟩ := gd_inv h
      refine y_getR d_75_39 fl_1_145 rfl (ksSc g20) (rrSc_15 g20) ?_
      refine x_bipush d_75_42 bp_m14 ?_
      obtain ⟨S22, q21, h⟩ := bd_inv h
      refine y_V1v (S1 := S22) d_75_44 ml_1_149 (ksFo (isFo_of g20)) rfl (Nat.le_of_ble_eq_true rfl) (Nat.le_of_ble_eq_true rfl) (c_76 (by omega) q21) ?_
      obtain rfl := Option.some.inj h
      exact x_ret (r := none) d_75_47 rfl
    · replace h := ite_f c15 h
      refine x_aload_n d_75_15 rfl 0 rfl ?_
      refine x_iconst d_75_16 ic_2 ?_
      obtain ⟨S24, q23, h⟩ := bd_inv h
      refine y_V1v (S1 := S24) d_75_17 ml_1_57 kd_2 rfl (Nat.le_of_ble_eq_true rfl) (Nat.le_of_ble_eq_true rfl) (c_61 (by omega) q23) ?_
      obtain rfl := Option.some.inj h
      exact x_ret (r := none) d_75_20 rfl
set_option maxRecDepth 100000 in
set_option maxHeartbeats 4000000 in
theorem T_77_7 {X : Nat × (Nat → Int32)} {D F G : Nat} (hD : 9 ≤ D) {P : Nat → Int32 → St → Option St} (hP0 : ∀ (a1 : Int32) (S S1 : St), P 0 a1 S = some S1 → Ek X D m73 0 [(0, .ref 2), (1, .int a1)] [] S none S1) (hP1 : ∀ (a1 : Int32) (S S1 : St), P 1 a1 S = some S1 → Ek X D m74 0 [(0, .ref 2), (1, .int a1)] [] S none S1) (hP2 : ∀ (a1 : Int32) (S S1 : St), P 2 a1 S = some S1 → Ek X D m75 0 [(0, .ref 2), (1, .int a1)] [] S none S1) (hP3 : ∀ (a1 : Int32) (S S1 : St), P 3 a1 S = some S1 → Ek X D m77 0 [(0, .ref 2), (1, .int a1)] [] S none S1) (hP4 : ∀ (a1 : Int32) (S S1 : St), P 4 a1 S = some S1 → Ek X D m78 0 [(0, .ref 2), (1, .int a1)] [] S none S1) (hP5 : ∀ (a1 : Int32) (S S1 : St), P 5 a1 S = some S1 → Ek X D m79 0 [(0, .ref 2), (1, .int a1)] [] S none S1) {z1 : Int32} : ∀ (f : Nat) (w2 : Int32) (S : St) (res : St), fx2 (b_77_7 F G P z1 ) f w2 S = some res → Ek X (D + 1) m77 7 [(0, .ref 2), (1, .int z1), (2, .int w2)] [] S none res := by
  refine fx2_ind ?_
  intro rec ih w2 S res h
  unfold b_77_7 at h
  have J32 : ∀ (S : St) (y2 : Int32) (res : St), j_77_32 F G P z1 rec S y2 = some res → Ek X (D + 1) m77 32 [(0, .ref 2), (1, .int z1), (2, .int y2)] [] S none res := by
    intro S y2 res h
    unfold j_77_32 at h
    refine x_aload_n d_77_32 rfl 0 rfl ?_
    refine y_getR d_77_33 fl_1_27 rfl kd_2 rr_2_2 ?_
    refine y_getI d_77_36 fl_1_50 rfl kd_16 ?_
    obtain ⟨v10, e11, h⟩ := lt_inv h
    refine y_istore_n (L1 := [(0, .ref 2), (1, .int z1), (2, .int y2), (3, .int v10)]) e11 d_77_39 rfl (Nat.le_of_ble_eq_true rfl) rfl rfl ?_
    refine x_aload_n d_77_40 rfl 0 rfl ?_
    refine y_getR d_77_41 fl_1_27 rfl kd_2 rr_2_2 ?_
    obtain ⟨S13, q12, h⟩ := bd_inv h
    refine y_V0v (S1 := S13) d_77_44 ml_1_60 kd_16 rfl (Nat.le_of_ble_eq_true rfl) (Nat.le_of_ble_eq_true rfl) (c_24 (by omega) q12) ?_
    refine x_aload_n d_77_47 rfl 0 rfl ?_
    refine x_iload_n d_77_48 rfl 1 rfl ?_
    obtain ⟨S15, q14, h⟩ := bd_inv h
    refine y_V1v (S1 := S15) d_77_49 ml_1_160 kd_2 rfl (Nat.le_of_ble_eq_true rfl) (Nat.le_of_ble_eq_true rfl) (hP4 _ _ _ q14) ?_
    refine x_aload_n d_77_52 rfl 0 rfl ?_
    refine y_getR d_77_53 fl_1_18 rfl kd_2 rr_draft ?_
    obtain ⟨g16, h⟩ := gd_inv h
    refine y_getR d_77_56 fl_1_145 rfl (ksSc g16) (rrSc_15 g16) ?_
    refine x_iload_n d_77_59 rfl 3 rfl ?_
    refine x_ineg d_77_60 ?_
    obtain ⟨S18, q17, h⟩ := bd_inv h
    refine y_V1v (S1 := S18) d_77_61 ml_1_149 (ksFo (isFo_of g16)) rfl (Nat.le_of_ble_eq_true rfl) (Nat.le_of_ble_eq_true rfl) (c_76 (by omega) q17) ?_
    obtain ⟨v19, e20, h⟩ := lt_inv h
    refine y_iinc (L1 := [(0, .ref 2), (1, .int z1), (2, .int v19), (3, .int v10)]) e20 ic_1 d_77_64 2 rfl (Nat.le_of_ble_eq_true rfl) rfl rfl ?_
    refine x_goto (tgt := 7) d_77_67 rfl ?_
    refine y_pick (L1 := [(0, .ref 2), (1, .int z1), (2, .int v19)]) [0, 1, 2] rfl ?_
    exact ih v19 S18 _ h
  refine x_iload_n d_77_7 rfl 2 rfl ?_
  refine x_sipush d_77_8 sp_1600 ?_
  refine x_icmp_ge (tgt := 70) d_77_11 rfl (fun c3 => ?_) (fun c3 => ?_)
  · replace h := ite_t c3 h
    obtain rfl := Option.some.inj h
    exact x_ret (r := none) d_77_70 rfl
  · replace h := ite_f c3 h
    refine x_aload_n d_77_14 rfl 0 rfl ?_
    refine x_bipush d_77_15 bp_43 ?_
    obtain ⟨v5, q4, h⟩ := bd_inv h
    refine y_V1i (v := v5) (S1 := S) d_77_17 ml_1_137 kd_2 rfl (Nat.le_of_ble_eq_true rfl) (Nat.le_of_ble_eq_true rfl) (c_80 (by omega) q4) ?_
    refine x_if_ne (tgt := 32) d_77_20 rfl (fun c6 => ?_) (fun c6 => ?_)
    · replace h := ite_f c6 h
      exact J32 S w2 _ h
    · replace h := ite_t c6 h
      refine x_aload_n d_77_23 rfl 0 rfl ?_
      refine x_bipush d_77_24 bp_45 ?_
      obtain ⟨v8, q7, h⟩ := bd_inv h
      refine y_V1i (v := v8) (S1 := S) d_77_26 ml_1_137 kd_2 rfl (Nat.le_of_ble_eq_true rfl) (Nat.le_of_ble_eq_true rfl) (c_80 (by omega) q7) ?_
      refine x_if_eq (tgt := 70) d_77_29 rfl (fun c9 => ?_) (fun c9 => ?_)
      · replace h := ite_t c9 h
        obtain rfl := Option.some.inj h
        exact x_ret (r := none) d_77_70 rfl
      · replace h := ite_f c9 h
        exact J32 S w2 _ h
set_option maxRecDepth 100000 in
set_option maxHeartbeats 4000000 in
theorem cb_77 {X : Nat × (Nat → Int32)} {D F G : Nat} (hD : 9 ≤ D) {P : Nat → Int32 → St → Option St} (hP0 : ∀ (a1 : Int32) (S S1 : St), P 0 a1 S = some S1 → Ek X D m73 0 [(0, .ref 2), (1, .int a1)] [] S none S1) (hP1 : ∀ (a1 : Int32) (S S1 : St), P 1 a1 S = some S1 → Ek X D m74 0 [(0, .ref 2), (1, .int a1)] [] S none S1) (hP2 : ∀ (a1 : Int32) (S S1 : St), P 2 a1 S = some S1 → Ek X D m75 0 [(0, .ref 2), (1, .int a1)] [] S none S1) (hP3 : ∀ (a1 : Int32) (S S1 : St), P 3 a1 S = some S1 → Ek X D m77 0 [(0, .ref 2), (1, .int a1)] [] S none S1) (hP4 : ∀ (a1 : Int32) (S S1 : St), P 4 a1 S = some S1 → Ek X D m78 0 [(0, .ref 2), (1, .int a1)] [] S none S1) (hP5 : ∀ (a1 : Int32) (S S1 : St), P 5 a1 S = some S1 → Ek X D m79 0 [(0, .ref 2), (1, .int a1)] [] S none S1) {S : St} {p1 : Int32} {res : St} (h : fR_sum F G P p1 S = some res) : Ek X (D + 1) m77 0 [(0, .ref 2), (1, .int p1)] [] S none res := by
  unfold fR_sum at h
  refine x_aload_n d_77_0 rfl 0 rfl ?_
  refine x_iload_n d_77_1 rfl 1 rfl ?_
  obtain ⟨S2, q1, h⟩ := bd_inv h
  refine y_V1v (S1 := S2) d_77_2 ml_1_160 kd_2 rfl (Nat.le_of_ble_eq_true rfl) (Nat.le_of_ble_eq_true rfl) (hP4 _ _ _ q1) ?_
  refine x_iconst d_77_5 ic_0 ?_
  refine x_istore_n (L1 := [(0, .ref 2), (1, .int p1), (2, .int (0 : Int32))]) d_77_6 rfl (Nat.le_of_ble_eq_true rfl) rfl rfl ?_
  refine T_77_7 hD hP0 hP1 hP2 hP3 hP4 hP5   F (0 : Int32) S2 _ h
set_option maxRecDepth 100000 in
set_option maxHeartbeats 4000000 in
theorem T_78_7 {X : Nat × (Nat → Int32)} {D F G : Nat} (hD : 9 ≤ D) {P : Nat → Int32 → St → Option St} (hP0 : ∀ (a1 : Int32) (S S1 : St), P 0 a1 S = some S1 → Ek X D m73 0 [(0, .ref 2), (1, .int a1)] [] S none S1) (hP1 : ∀ (a1 : Int32) (S S1 : St), P 1 a1 S = some S1 → Ek X D m74 0 [(0, .ref 2), (1, .int a1)] [] S none S1) (hP2 : ∀ (a1 : Int32) (S S1 : St), P 2 a1 S = some S1 → Ek X D m75 0 [(0, .ref 2), (1, .int a1)] [] S none S1) (hP3 : ∀ (a1 : Int32) (S S1 : St), P 3 a1 S = some S1 → Ek X D m77 0 [(0, .ref 2), (1, .int a1)] [] S none S1) (hP4 : ∀ (a1 : Int32) (S S1 : St), P 4 a1 S = some S1 → Ek X D m78 0 [(0, .ref 2), (1, .int a1)] [] S none S1) (hP5 : ∀ (a1 : Int32) (S S1 : St), P 5 a1 S = some S1 → Ek X D m79 0 [(0, .ref 2), (1, .int a1)] [] S none S1) {z1 : Int32} : ∀ (f : Nat) (w2 : Int32) (S : St) (res : St), fx2 (b_78_7 F G P z1 ) f w2 S = some res → Ek X (D + 1) m78 7 [(0, .ref 2), (1, .int z1), (2, .int w2)] [] S none res := by
  refine fx2_ind ?_
  intro rec ih w2 S res h
  unfold b_78_7 at h
  have J41 : ∀ (S : St) (y2 : Int32) (res : St), j_78_41 F G P z1 rec S y2 = some res → Ek X (D + 1) m78 41 [(0, .ref 2), (1, .int z1), (2, .int y2)] [] S none res := by
    intro S y2 res h
    unfold j_78_41 at h
    refine x_aload_n d_78_41 rfl 0 rfl ?_
    refine y_getR d_78_42 fl_1_27 rfl kd_2 rr_2_2 ?_
    refine y_getI d_78_45 fl_1_50 rfl kd_16 ?_
    obtain ⟨v13, e14, h⟩ := lt_inv h
    refine y_istore_n (L1 := [(0, .ref 2), (1, .int z1), (2, .int y2), (3, .int v13)]) e14 d_78_48 rfl (Nat.le_of_ble_eq_true rfl) rfl rfl ?_
    refine x_aload_n d_78_49 rfl 0 rfl ?_
    refine y_getR d_78_50 fl_1_27 rfl kd_2 rr_2_2 ?_
    obtain ⟨S16, q15, h⟩ := bd_inv h
    refine y_V0v (S1 := S16) d_78_53 ml_1_60 kd_16 rfl (Nat.le_of_ble_eq_true rfl) (Nat.le_of_ble_eq_true rfl) (c_24 (by omega) q15) ?_
    refine x_aload_n d_78_56 rfl 0 rfl ?_
    refine x_iload_n d_78_57 rfl 1 rfl ?_
    obtain ⟨S18, q17, h⟩ := bd_inv h
    refine y_V1v (S1 := S18) d_78_58 ml_1_163 kd_2 rfl (Nat.le_of_ble_eq_true rfl) (Nat.le_of_ble_eq_true rfl) (hP5 _ _ _ q17) ?_
    refine x_aload_n d_78_61 rfl 0 rfl ?_
    refine y_getR d_78_62 fl_1_18 rfl kd_2 rr_draft ?_
    obtain ⟨g19, h⟩ := gd_inv h
    refine y_getR d_78_65 fl_1_145 rfl (ksSc g19) (rrSc_15 g19) ?_
    refine x_iload_n d_78_68 rfl 3 rfl ?_
    refine x_ineg d_78_69 ?_
    obtain ⟨S21, q20, h⟩ := bd_inv h
    refine y_V1v (S1 := S21) d_78_70 ml_1_149 (ksFo (isFo_of g19)) rfl (Nat.le_of_ble_eq_true rfl) (Nat.le_of_ble_eq_true rfl) (c_76 (by omega) q20) ?_
    obtain ⟨v22, e23, h⟩ := lt_inv h
    refine y_iinc (L1 := [(0, .ref 2), (1, .int z1), (2, .int v22), (3, .int v13)]) e23 ic_1 d_78_73 2 rfl (Nat.le_of_ble_eq_true rfl) rfl rfl ?_
    refine x_goto (tgt := 7) d_78_76 rfl ?_
    refine y_pick (L1 := [(0, .ref 2), (1, .int z1), (2, .int v22)]) [0, 1, 2] rfl ?_
    exact ih v22 S21 _ h
  refine x_iload_n d_78_7 rfl 2 rfl ?_
  refine x_sipush d_78_8 sp_1600 ?_
  refine x_icmp_ge (tgt := 79) d_78_11 rfl (fun c3 => ?_) (fun c3 => ?_)
  · replace h := ite_t c3 h
    obtain rfl := Option.some.inj h
    exact x_ret (r := none) d_78_79 rfl
  · replace h := ite_f c3 h
    refine x_aload_n d_78_14 rfl 0 rfl ?_
    refine x_bipush d_78_15 bp_42 ?_
    obtain ⟨v5, q4, h⟩ := bd_inv h
    refine y_V1i (v := v5) (S1 := S) d_78_17 ml_1_137 kd_2 rfl (Nat.le_of_ble_eq_true rfl) (Nat.le_of_ble_eq_true rfl) (c_80 (by omega) q4) ?_
    refine x_if_ne (tgt := 41) d_78_20 rfl (fun c6 => ?_) (fun c6 => ?_)
    · replace h := ite_f c6 h
      exact J41 S w2 _ h
    · replace h := ite_t c6 h
      refine x_aload_n d_78_23 rfl 0 rfl ?_
      refine x_bipush d_78_24 bp_47 ?_
      obtain ⟨v8, q7, h⟩ := bd_inv h
      refine y_V1i (v := v8) (S1 := S) d_78_26 ml_1_137 kd_2 rfl (Nat.le_of_ble_eq_true rfl) (Nat.le_of_ble_eq_true rfl) (c_80 (by omega) q7) ?_
      refine x_if_ne (tgt := 41) d_78_29 rfl (fun c9 => ?_) (fun c9 => ?_)
      · replace h := ite_f c9 h
        exact J41 S w2 _ h
      · replace h := ite_t c9 h
        refine x_aload_n d_78_32 rfl 0 rfl ?_
        refine x_bipush d_78_33 bp_37 ?_
        obtain ⟨v11, q10, h⟩ := bd_inv h
        refine y_V1i (v := v11) (S1 := S) d_78_35 ml_1_137 kd_2 rfl (Nat.le_of_ble_eq_true rfl) (Nat.le_of_ble_eq_true rfl) (c_80 (by omega) q10) ?_
        refine x_if_eq (tgt := 79) d_78_38 rfl (fun c12 => ?_) (fun c12 => ?_)
        · replace h := ite_t c12 h
          obtain rfl := Option.some.inj h
          exact x_ret (r := none) d_78_79 rfl
        · replace h := ite_f c12 h
          exact J41 S w2 _ h
set_option maxRecDepth 100000 in
set_option maxHeartbeats 4000000 in
theorem cb_78 {X : Nat × (Nat → Int32)} {D F G : Nat} (hD : 9 ≤ D) {P : Nat → Int32 → St → Option St} (hP0 : ∀ (a1 : Int32) (S S1 : St), P 0 a1 S = some S1 → Ek X D m73 0 [(0, .ref 2), (1, .int a1)] [] S none S1) (hP1 : ∀ (a1 : Int32) (S S1 : St), P 1 a1 S = some S1 → Ek X D m74 0 [(0, .ref 2), (1, .int a1)] [] S none S1) (hP2 : ∀ (a1 : Int32) (S S1 : St), P 2 a1 S = some S1 → Ek X D m75 0 [(0, .ref 2), (1, .int a1)] [] S none S1) (hP3 : ∀ (a1 : Int32) (S S1 : St), P 3 a1 S = some S1 → Ek X D m77 0 [(0, .ref 2), (1, .int a1)] [] S none S1) (hP4 : ∀ (a1 : Int32) (S S1 : St), P 4 a1 S = some S1 → Ek X D m78 0 [(0, .ref 2), (1, .int a1)] [] S none S1) (hP5 : ∀ (a1 : Int32) (S S1 : St), P 5 a1 S = some S1 → Ek X D m79 0 [(0, .ref 2), (1, .int a1)] [] S none S1) {S : St} {p1 : Int32} {res : St} (h : fR_term F G P p1 S = some res) : Ek X (D + 1) m78 0 [(0, .ref 2), (1, .int p1)] [] S none res := by
  unfold fR_term at h
  refine x_aload_n d_78_0 rfl 0 rfl ?_
  refine x_iload_n d_78_1 rfl 1 rfl ?_
  obtain ⟨S2, q1, h⟩ := bd_inv h
  refine y_V1v (S1 := S2) d_78_2 ml_1_163 kd_2 rfl (Nat.le_of_ble_eq_true rfl) (Nat.le_of_ble_eq_true rfl) (hP5 _ _ _ q1) ?_
  refine x_iconst d_78_5 ic_0 ?_
  refine x_istore_n (L1 := [(0, .ref 2), (1, .int p1), (2, .int (0 : Int32))]) d_78_6 rfl (Nat.le_of_ble_eq_true rfl) rfl rfl ?_
  refine T_78_7 hD hP0 hP1 hP2 hP3 hP4 hP5   F (0 : Int32) S2 _ h
set_option maxRecDepth 100000 in
set_option maxHeartbeats 4000000 in
theorem cb_79 {X : Nat × (Nat → Int32)} {D F G : Nat} (hD : 9 ≤ D) {P : Nat → Int32 → St → Option St} (hP0 : ∀ (a1 : Int32) (S S1 : St), P 0 a1 S = some S1 → Ek X D m73 0 [(0, .ref 2), (1, .int a1)] [] S none S1) (hP1 : ∀ (a1 : Int32) (S S1 : St), P 1 a1 S = some S1 → Ek X D m74 0 [(0, .ref 2), (1, .int a1)] [] S none S1) (hP2 : ∀ (a1 : Int32) (S S1 : St), P 2 a1 S = some S1 → Ek X D m75 0 [(0, .ref 2), (1, .int a1)] [] S none S1) (hP3 : ∀ (a1 : Int32) (S S1 : St), P 3 a1 S = some S1 → Ek X D m77 0 [(0, .ref 2), (1, .int a1)] [] S none S1) (hP4 : ∀ (a1 : Int32) (S S1 : St), P 4 a1 S = some S1 → Ek X D m78 0 [(0, .ref 2), (1, .int a1)] [] S none S1) (hP5 : ∀ (a1 : Int32) (S S1 : St), P 5 a1 S = some S1 → Ek X D m79 0 [(0, .ref 2), (1, .int a1)] [] S none S1) {S : St} {p1 : Int32} {res : St} (h : fR_unit F G P p1 S = some res) : Ek X (D + 1) m79 0 [(0, .ref 2), (1, .int p1)] [] S none res := by
  unfold fR_unit at h
  have J118 : ∀ (S : St) (y1 : Int32) (y2 : Int32) (y3 : Int32) (res : St), j_79_118 F G P S y1 y2 y3 = some res → Ek X (D + 1) m79 118 [(0, .ref 2), (1, .int y1), (2, .int y2), (3, .int y3)] [] S none res := by
    intro S y1 y2 y3 res h
    unfold j_79_118 at h
    refine x_aload_n d_79_118 rfl 0 rfl ?_
    refine y_getR d_79_119 fl_1_18 rfl kd_2 rr_draft ?_
    obtain ⟨g19, h⟩ := gd_inv h
    refine y_getR d_79_122 fl_1_145 rfl (ksSc g19) (rrSc_15 g19) ?_
    refine x_dup d_79_125 rfl ?_
    refine y_getI d_79_126 fl_1_166 rfl (ksFo (isFo_of g19)) ?_
    refine x_iconst d_79_129 ic_1 ?_
    refine x_iadd d_79_130 ?_
    obtain ⟨S20, e21, h⟩ := lt_inv h
    refine y_putI e21 d_79_131 fl_1_166 rfl rfl (ksFo (isFo_of g19)) rfl rfl ?_
    refine x_aload_n d_79_134 rfl 0 rfl ?_
    refine y_getR d_79_135 fl_1_27 rfl kd_2 rr_2_2 ?_
    refine y_getI d_79_138 fl_1_50 rfl kd_16 ?_
    obtain ⟨v22, e23, h⟩ := lt_inv h
    refine y_istore (L1 := [(0, .ref 2), (1, .int y1), (2, .int y2), (3, .int y3), (5, .int v22)]) e23 d_79_141 (Nat.le_of_ble_eq_true rfl) rfl rfl ?_
    refine x_aload_n d_79_143 rfl 0 rfl ?_
    refine y_getR d_79_144 fl_1_27 rfl kd_2 rr_2_2 ?_
    obtain ⟨S25, q24, h⟩ := bd_inv h
    refine y_V0v (S1 := S25) d_79_147 ml_1_60 kd_16 rfl (Nat.le_of_ble_eq_true rfl) (Nat.le_of_ble_eq_true rfl) (c_24 (by omega) q24) ?_
    refine x_iload_n d_79_150 rfl 2 rfl ?_
    refine x_if_eq (tgt := 170) d_79_151 rfl (fun c26 => ?_) (fun c26 => ?_)
    · replace h := ite_t c26 h
      refine x_aload_n d_79_170 rfl 0 rfl ?_
      refine y_getR d_79_171 fl_1_18 rfl kd_2 rr_draft ?_
      obtain ⟨g27, h⟩ := gd_inv h
      refine y_getR d_79_174 fl_1_145 rfl (ksSc g27) (rrSc_15 g27) ?_
      refine x_iload_n d_79_177 rfl 3 rfl ?_
      refine x_if_eq (tgt := 187) d_79_178 rfl (fun c28 => ?_) (fun c28 => ?_)
      · replace h := ite_t c28 h
        refine x_iload d_79_187 4 rfl ?_
        obtain ⟨S30, q29, h⟩ := bd_inv h
        refine y_V1v (S1 := S30) d_79_189 ml_1_149 (ksFo (isFo_of g27)) rfl (Nat.le_of_ble_eq_true rfl) (Nat.le_of_ble_eq_true rfl) (c_76 (by omega) q29) ?_
        obtain rfl := Option.some.inj h
        exact x_ret (r := none) d_79_192 rfl
      · replace h := ite_f c28 h
        refine x_iload d_79_181 4 rfl ?_
        refine x_ineg d_79_183 ?_
        refine x_goto (tgt := 189) d_79_184 rfl ?_
        obtain ⟨S32, q31, h⟩ := bd_inv h
        refine y_V1v (S1 := S32) d_79_189 ml_1_149 (ksFo (isFo_of g27)) rfl (Nat.le_of_ble_eq_true rfl) (Nat.le_of_ble_eq_true rfl) (c_76 (by omega) q31) ?_
        obtain rfl := Option.some.inj h
        exact x_ret (r := none) d_79_192 rfl
    · replace h := ite_f c26 h
      refine x_aload_n d_79_154 rfl 0 rfl ?_
      refine x_iload_n d_79_155 rfl 1 rfl ?_
      refine x_iconst d_79_156 ic_1 ?_
      refine x_iadd d_79_157 ?_
      obtain ⟨S34, q33, h⟩ := bd_inv h
      refine y_V1v (S1 := S34) d_79_158 ml_1_76 kd_2 rfl (Nat.le_of_ble_eq_true rfl) (Nat.le_of_ble_eq_true rfl) (hP0 _ _ _ q33) ?_
      refine x_aload_n d_79_161 rfl 0 rfl ?_
      refine x_bipush d_79_162 bp_41 ?_
      obtain ⟨S36, q35, h⟩ := bd_inv h
      refine y_V1v (S1 := S36) d_79_164 ml_1_91 kd_2 rfl (Nat.le_of_ble_eq_true rfl) (Nat.le_of_ble_eq_true rfl) (c_81 (by omega) q35) ?_
      refine x_goto (tgt := 192) d_79_167 rfl ?_
      obtain rfl := Option.some.inj h
      exact x_ret (r := none) d_79_192 rfl
  have J86 : ∀ (S : St) (y1 : Int32) (y2 : Int32) (y3 : Int32) (s0 : Int32) (res : St), j_79_86 F G P S y1 y2 y3 s0 = some res → Ek X (D + 1) m79 86 [(0, .ref 2), (1, .int y1), (2, .int y2), (3, .int y3)] [.int s0] S none res := by
    intro S y1 y2 y3 s0 res h
    unfold j_79_86 at h
    refine x_istore (L1 := [(0, .ref 2), (1, .int y1), (2, .int y2), (3, .int y3), (4, .int s0)]) d_79_86 (Nat.le_of_ble_eq_true rfl) rfl rfl ?_
    refine x_iload d_79_88 4 rfl ?_
    refine x_if_eq (tgt := 112) d_79_90 rfl (fun c11 => ?_) (fun c11 => ?_)
    · replace h := ite_t c11 h
      refine x_aload_n d_79_112 rfl 0 rfl ?_
      refine x_iconst d_79_113 ic_2 ?_
      obtain ⟨S13, q12, h⟩ := bd_inv h
      refine y_V1v (S1 := S13) d_79_114 ml_1_57 kd_2 rfl (Nat.le_of_ble_eq_true rfl) (Nat.le_of_ble_eq_true rfl) (c_61 (by omega) q12) ?_
      obtain rfl := Option.some.inj h
      exact x_ret (r := none) d_79_117 rfl
    · replace h := ite_f c11 h
      refine x_iload_n d_79_93 rfl 2 rfl ?_
      refine x_if_ne (tgt := 118) d_79_94 rfl (fun c14 => ?_) (fun c14 => ?_)
      · replace h := ite_f c14 h
        refine y_pick (L1 := [(0, .ref 2), (1, .int y1), (2, .int y2), (3, .int y3)]) [0, 1, 2, 3] rfl ?_
        exact J118 S y1 y2 y3 _ h
      · replace h := ite_t c14 h
        refine x_iload_n d_79_97 rfl 3 rfl ?_
        refine x_if_ne (tgt := 118) d_79_98 rfl (fun c15 => ?_) (fun c15 => ?_)
        · replace h := ite_f c15 h
          refine y_pick (L1 := [(0, .ref 2), (1, .int y1), (2, .int y2), (3, .int y3)]) [0, 1, 2, 3] rfl ?_
          exact J118 S y1 y2 y3 _ h
        · replace h := ite_t c15 h
          refine x_aload_n d_79_101 rfl 0 rfl ?_
          refine y_getR d_79_102 fl_1_27 rfl kd_2 rr_2_2 ?_
          refine y_getI d_79_105 fl_1_44 rfl kd_16 ?_
          refine x_iconst d_79_108 ic_3 ?_
          refine x_icmp_eq (tgt := 118) d_79_109 rfl (fun c16 => ?_) (fun c16 => ?_)
          · replace h := ite_t c16 h
            refine y_pick (L1 := [(0, .ref 2), (1, .int y1), (2, .int y2), (3, .int y3)]) [0, 1, 2, 3] rfl ?_
            exact J118 S y1 y2 y3 _ h
          · replace h := ite_f c16 h
            refine x_aload_n d_79_112 rfl 0 rfl ?_
            refine x_iconst d_79_113 ic_2 ?_
            obtain ⟨S18, q17, h⟩ := bd_inv h
            refine y_V1v (S1 := S18) d_79_114 ml_1_57 kd_2 rfl (Nat.le_of_ble_eq_true rfl) (Nat.le_of_ble_eq_true rfl) (c_61 (by omega) q17) ?_
            obtain rfl := Option.some.inj h
            exact x_ret (r := none) d_79_117 rfl
  have J85 : ∀ (S : St) (y1 : Int32) (y2 : Int32) (y3 : Int32) (res : St), j_79_85 F G P S y1 y2 y3 = some res → Ek X (D + 1) m79 85 [(0, .ref 2), (1, .int y1), (2, .int y2), (3, .int y3)] [] S none res := by
    intro S y1 y2 y3 res h
    unfold j_79_85 at h
    refine x_iconst d_79_85 ic_0 ?_
    exact J86 S y1 y2 y3 (0 : Int32) _ h
  have J81 : ∀ (S : St) (y1 : Int32) (y2 : Int32) (y3 : Int32) (res : St), j_79_81 F G P S y1 y2 y3 = some res → Ek X (D + 1) m79 81 [(0, .ref 2), (1, .int y1), (2, .int y2), (3, .int y3)] [] S none res := by
    intro S y1 y2 y3 res h
    unfold j_79_81 at h
    refine x_iconst d_79_81 ic_1 ?_
    refine x_goto (tgt := 86) d_79_82 rfl ?_
    exact J86 S y1 y2 y3 (1 : Int32) _ h
  have J55 : ∀ (S : St) (y1 : Int32) (y2 : Int32) (s0 : Int32) (res : St), j_79_55 F G P S y1 y2 s0 = some res → Ek X (D + 1) m79 55 [(0, .ref 2), (1, .int y1), (2, .int y2)] [.int s0] S none res := by
    intro S y1 y2 s0 res h
    unfold j_79_55 at h
    refine x_istore_n (L1 := [(0, .ref 2), (1, .int y1), (2, .int y2), (3, .int s0)]) d_79_55 rfl (Nat.le_of_ble_eq_true rfl) rfl rfl ?_
    refine x_aload_n d_79_56 rfl 0 rfl ?_
    refine y_getR d_79_57 fl_1_18 rfl kd_2 rr_draft ?_
    obtain ⟨g7, h⟩ := gd_inv h
    refine y_getR d_79_60 fl_1_145 rfl (ksSc g7) (rrSc_15 g7) ?_
    refine y_getI d_79_63 fl_1_166 rfl (ksFo (isFo_of g7)) ?_
    refine x_bipush d_79_66 bp_30 ?_
    refine x_icmp_ge (tgt := 85) d_79_68 rfl (fun c8 => ?_) (fun c8 => ?_)
    · replace h := ite_t c8 h
      exact J85 S y1 y2 s0 _ h
    · replace h := ite_f c8 h
      refine x_iload_n d_79_71 rfl 2 rfl ?_
      refine x_if_eq (tgt := 81) d_79_72 rfl (fun c9 => ?_) (fun c9 => ?_)
      · replace h := ite_t c9 h
        exact J81 S y1 y2 s0 _ h
      · replace h := ite_f c9 h
        refine x_iload_n d_79_75 rfl 1 rfl ?_
        refine x_bipush d_79_76 bp_7 ?_
        refine x_icmp_ge (tgt := 85) d_79_78 rfl (fun c10 => ?_) (fun c10 => ?_)
        · replace h := ite_t c10 h
          exact J85 S y1 y2 s0 _ h
        · replace h := ite_f c10 h
          exact J81 S y1 y2 s0 _ h
  have J54 : ∀ (S : St) (y1 : Int32) (y2 : Int32) (res : St), j_79_54 F G P S y1 y2 = some res → Ek X (D + 1) m79 54 [(0, .ref 2), (1, .int y1), (2, .int y2)] [] S none res := by
    intro S y1 y2 res h
    unfold j_79_54 at h
    refine x_iconst d_79_54 ic_0 ?_
    exact J55 S y1 y2 (0 : Int32) _ h
  refine x_aload_n d_79_0 rfl 0 rfl ?_
  refine y_getI d_79_1 fl_1_31 rfl kd_2 ?_
  refine x_if_eq (tgt := 8) d_79_4 rfl (fun c1 => ?_) (fun c1 => ?_)
  · replace h := ite_t c1 h
    refine x_aload_n d_79_8 rfl 0 rfl ?_
    refine x_bipush d_79_9 bp_40 ?_
    obtain ⟨v3, q2, h⟩ := bd_inv h
    refine y_V1i (v := v3) (S1 := S) d_79_11 ml_1_137 kd_2 rfl (Nat.le_of_ble_eq_true rfl) (Nat.le_of_ble_eq_true rfl) (c_80 (by omega) q2) ?_
    refine x_istore_n (L1 := [(0, .ref 2), (1, .int p1), (2, .int v3)]) d_79_14 rfl (Nat.le_of_ble_eq_true rfl) rfl rfl ?_
    refine x_aload_n d_79_15 rfl 0 rfl ?_
    refine y_getR d_79_16 fl_1_27 rfl kd_2 rr_2_2 ?_
    refine y_getI d_79_19 fl_1_44 rfl kd_16 ?_
    refine x_iconst d_79_22 ic_1 ?_
    refine x_icmp_ne (tgt := 54) d_79_23 rfl (fun c4 => ?_) (fun c4 => ?_)
    · replace h := ite_f c4 h
      exact J54 S p1 v3 _ h
    · replace h := ite_t c4 h
      refine x_aload_n d_79_26 rfl 0 rfl ?_
      refine y_getR d_79_27 fl_1_27 rfl kd_2 rr_2_2 ?_
      refine y_getI d_79_30 fl_1_50 rfl kd_16 ?_
      refine x_bipush d_79_33 bp_15 ?_
      refine x_icmp_lt (tgt := 54) d_79_35 rfl (fun c5 => ?_) (fun c5 => ?_)
      · replace h := ite_t c5 h
        exact J54 S p1 v3 _ h
      · replace h := ite_f c5 h
        refine x_aload_n d_79_38 rfl 0 rfl ?_
        refine y_getR d_79_39 fl_1_27 rfl kd_2 rr_2_2 ?_
        refine y_getI d_79_42 fl_1_50 rfl kd_16 ?_
        refine x_bipush d_79_45 bp_20 ?_
        refine x_icmp_gt (tgt := 54) d_79_47 rfl (fun c6 => ?_) (fun c6 => ?_)
        · replace h := ite_t c6 h
          exact J54 S p1 v3 _ h
        · replace h := ite_f c6 h
          refine x_iconst d_79_50 ic_1 ?_
          refine x_goto (tgt := 55) d_79_51 rfl ?_
          exact J55 S p1 v3 (1 : Int32) _ h
  · replace h := ite_f c1 h
    obtain rfl := Option.some.inj h
    exact x_ret (r := none) d_79_7 rfl
theorem cg_0 {X : Nat × (Nat → Int32)} {F G : Nat} (n : Nat) : (∀ (D : Nat), 9 + n ≤ D → ∀ (p1 : Int32) (S S1 : St), fR_parse F G n 0 p1 S = some S1 → Ek X D m73 0 [(0, .ref 2), (1, .int p1)] [] S none S1) ∧ (∀ (D : Nat), 9 + n ≤ D → ∀ (p1 : Int32) (S S1 : St), fR_parse F G n 1 p1 S = some S1 → Ek X D m74 0 [(0, .ref 2), (1, .int p1)] [] S none S1) ∧ (∀ (D : Nat), 9 + n ≤ D → ∀ (p1 : Int32) (S S1 : St), fR_parse F G n 2 p1 S = some S1 → Ek X D m75 0 [(0, .ref 2), (1, .int p1)] [] S none S1) ∧ (∀ (D : Nat), 9 + n ≤ D → ∀ (p1 : Int32) (S S1 : St), fR_parse F G n 3 p1 S = some S1 → Ek X D m77 0 [(0, .ref 2), (1, .int p1)] [] S none S1) ∧ (∀ (D : Nat), 9 + n ≤ D → ∀ (p1 : Int32) (S S1 : St), fR_parse F G n 4 p1 S = some S1 → Ek X D m78 0 [(0, .ref 2), (1, .int p1)] [] S none S1) ∧ (∀ (D : Nat), 9 + n ≤ D → ∀ (p1 : Int32) (S S1 : St), fR_parse F G n 5 p1 S = some S1 → Ek X D m79 0 [(0, .ref 2), (1, .int p1)] [] S none S1) := by
  induction n with
  | zero => exact ⟨fun _ _ _ _ _ h => (by cases h), fun _ _ _ _ _ h => (by cases h), fun _ _ _ _ _ h => (by cases h), fun _ _ _ _ _ h => (by cases h), fun _ _ _ _ _ h => (by cases h), fun _ _ _ _ _ h => (by cases h)⟩
  | succ n ih =>
    obtain ⟨i0, i1, i2, i3, i4, i5⟩ := ih
    refine ⟨?_, ?_, ?_, ?_, ?_, ?_⟩
    · intro D hD p1 S S1 h
      obtain ⟨D, rfl⟩ : ∃ E, D = E + 1 := ⟨D - 1, by omega⟩
      have h : fR_either F G (fR_parse F G n) p1 S = some S1 := h
      exact cb_73 (by omega) (i0 D (by omega)) (i1 D (by omega)) (i2 D (by omega)) (i3 D (by omega)) (i4 D (by omega)) (i5 D (by omega)) h
    · intro D hD p1 S S1 h
      obtain ⟨D, rfl⟩ : ∃ E, D = E + 1 := ⟨D - 1, by omega⟩
      have h : fR_both F G (fR_parse F G n) p1 S = some S1 := h
      exact cb_74 (by omega) (i0 D (by omega)) (i1 D (by omega)) (i2 D (by omega)) (i3 D (by omega)) (i4 D (by omega)) (i5 D (by omega)) h
    · intro D hD p1 S S1 h
      obtain ⟨D, rfl⟩ : ∃ E, D = E + 1 := ⟨D - 1, by omega⟩
      have h : fR_one F G (fR_parse F G n) p1 S = some S1 := h
      exact cb_75 (by omega) (i0 D (by omega)) (i1 D (by omega)) (i2 D (by omega)) (i3 D (by omega)) (i4 D (by omega)) (i5 D (by omega)) h
    · intro D hD p1 S S1 h
      obtain ⟨D, rfl⟩ : ∃ E, D = E + 1 := ⟨D - 1, by omega⟩
      have h : fR_sum F G (fR_parse F G n) p1 S = some S1 := h
      exact cb_77 (by omega) (i0 D (by omega)) (i1 D (by omega)) (i2 D (by omega)) (i3 D (by omega)) (i4 D (by omega)) (i5 D (by omega)) h
    · intro D hD p1 S S1 h
      obtain ⟨D, rfl⟩ : ∃ E, D = E + 1 := ⟨D - 1, by omega⟩
      have h : fR_term F G (fR_parse F G n) p1 S = some S1 := h
      exact cb_78 (by omega) (i0 D (by omega)) (i1 D (by omega)) (i2 D (by omega)) (i3 D (by omega)) (i4 D (by omega)) (i5 D (by omega)) h
    · intro D hD p1 S S1 h
      obtain ⟨D, rfl⟩ : ∃ E, D = E + 1 := ⟨D - 1, by omega⟩
      have h : fR_unit F G (fR_parse F G n) p1 S = some S1 := h
      exact cb_79 (by omega) (i0 D (by omega)) (i1 D (by omega)) (i2 D (by omega)) (i3 D (by omega)) (i4 D (by omega)) (i5 D (by omega)) h
theorem c_73 {X : Nat × (Nat → Int32)} {D F G : Nat} (hD : 9 + G ≤ D) {S : St} {p1 : Int32} {res : St} (h : fR_parse F G G 0 p1 S = some res) : Ek X D m73 0 [(0, .ref 2), (1, .int p1)] [] S none res := (cg_0 G).1 D hD p1 S res h
theorem c_74 {X : Nat × (Nat → Int32)} {D F G : Nat} (hD : 9 + G ≤ D) {S : St} {p1 : Int32} {res : St} (h : fR_parse F G G 1 p1 S = some res) : Ek X D m74 0 [(0, .ref 2), (1, .int p1)] [] S none res := (cg_0 G).2.1 D hD p1 S res h
theorem c_75 {X : Nat × (Nat → Int32)} {D F G : Nat} (hD : 9 + G ≤ D) {S : St} {p1 : Int32} {res : St} (h : fR_parse F G G 2 p1 S = some res) : Ek X D m75 0 [(0, .ref 2), (1, .int p1)] [] S none res := (cg_0 G).2.2.1 D hD p1 S res h
theorem c_77 {X : Nat × (Nat → Int32)} {D F G : Nat} (hD : 9 + G ≤ D) {S : St} {p1 : Int32} {res : St} (h : fR_parse F G G 3 p1 S = some res) : Ek X D m77 0 [(0, .ref 2), (1, .int p1)] [] S none res := (cg_0 G).2.2.2.1 D hD p1 S res h
theorem c_78 {X : Nat × (Nat → Int32)} {D F G : Nat} (hD : 9 + G ≤ D) {S : St} {p1 : Int32} {res : St} (h : fR_parse F G G 4 p1 S = some res) : Ek X D m78 0 [(0, .ref 2), (1, .int p1)] [] S none res := (cg_0 G).2.2.2.2.1 D hD p1 S res h
theorem c_79 {X : Nat × (Nat → Int32)} {D F G : Nat} (hD : 9 + G ≤ D) {S : St} {p1 : Int32} {res : St} (h : fR_parse F G G 5 p1 S = some res) : Ek X D m79 0 [(0, .ref 2), (1, .int p1)] [] S none res := (cg_0 G).2.2.2.2.2 D hD p1 S res h
