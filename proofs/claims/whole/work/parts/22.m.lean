/-! NinetyPlayersModel.sign -/
def fM_sign (F G : Nat) (S : St) : Option (Int32) :=
  bd (fM_isWord F G S (6385252 : Int64)) fun v2 => if v2 = 0 then bd (fM_isWord F G S (28530 : Int64)) fun v5 => if v5 = 0 then if (S.1 78 6) = (60 : Int32) then some (S.1 78 6) else if (S.1 78 6) = (62 : Int32) then some (S.1 78 6) else if (S.1 78 6) = (61 : Int32) then some (S.1 78 6) else if (S.1 78 6) = (43 : Int32) then some (S.1 78 6) else if (S.1 78 6) = (45 : Int32) then some (S.1 78 6) else if (S.1 78 6) = (42 : Int32) then some (S.1 78 6) else if (S.1 78 6) = (47 : Int32) then some (S.1 78 6) else if (S.1 78 6) = (37 : Int32) then some (S.1 78 6) else some (0 : Int32) else some (124 : Int32) else some (38 : Int32)
set_option maxRecDepth 100000 in
set_option maxHeartbeats 4000000 in
theorem c_M_sign {X : Nat × (Nat → Int32)} {D F G : Nat} (hD : 1 ≤ D) {S : St} {res : Int32} (h : fM_sign F G S  = some res) : Ek X (D) mM_sign 0 [(0, .ref 78)] [] S (some (.int res)) S := by
  obtain ⟨D, rfl⟩ : ∃ E, D = E + 1 := ⟨D - 1, by omega⟩
  unfold fM_sign at h
  refine x_aload_n d_M_sign_0 rfl 0 rfl ?_
  refine x_ldc2 d_M_sign_1 kc_11_224 ?_
  obtain ⟨v2, q1, h⟩ := bd_inv h
  refine y_V1i (v := v2) (S1 := S) d_M_sign_4 ml_11_234 kd_78 rfl (Nat.le_of_ble_eq_true rfl) (Nat.le_of_ble_eq_true rfl) (c_M_isWord (by omega) q1) ?_
  refine x_if_eq (tgt := 13) d_M_sign_7 rfl (fun c3 => ?_) (fun c3 => ?_)
  · replace h := ite_t c3 h
    refine x_aload_n d_M_sign_13 rfl 0 rfl ?_
    refine x_ldc2 d_M_sign_14 kc_11_226 ?_
    obtain ⟨v5, q4, h⟩ := bd_inv h
    refine y_V1i (v := v5) (S1 := S) d_M_sign_17 ml_11_234 kd_78 rfl (Nat.le_of_ble_eq_true rfl) (Nat.le_of_ble_eq_true rfl) (c_M_isWord (by omega) q4) ?_
    refine x_if_eq (tgt := 26) d_M_sign_20 rfl (fun c6 => ?_) (fun c6 => ?_)
    · replace h := ite_t c6 h
      refine x_aload_n d_M_sign_26 rfl 0 rfl ?_
      refine y_getI d_M_sign_27 fl_11_172 rfl kd_78 ?_
      refine x_bipush d_M_sign_30 bp_60 ?_
      refine x_icmp_eq (tgt := 98) d_M_sign_32 rfl (fun c7 => ?_) (fun c7 => ?_)
      · replace h := ite_t c7 h
        refine x_aload_n d_M_sign_98 rfl 0 rfl ?_
        refine y_getI d_M_sign_99 fl_11_172 rfl kd_78 ?_
        refine x_goto (tgt := 106) d_M_sign_102 rfl ?_
        obtain rfl := Option.some.inj h
        exact x_ret (r := some (.int (S.1 78 6))) d_M_sign_106 ⟨_, rfl, rfl⟩
      · replace h := ite_f c7 h
        refine x_aload_n d_M_sign_35 rfl 0 rfl ?_
        refine y_getI d_M_sign_36 fl_11_172 rfl kd_78 ?_
        refine x_bipush d_M_sign_39 bp_62 ?_
        refine x_icmp_eq (tgt := 98) d_M_sign_41 rfl (fun c8 => ?_) (fun c8 => ?_)
        · replace h := ite_t c8 h
          refine x_aload_n d_M_sign_98 rfl 0 rfl ?_
          refine y_getI d_M_sign_99 fl_11_172 rfl kd_78 ?_
          refine x_goto (tgt := 106) d_M_sign_102 rfl ?_
          obtain rfl := Option.some.inj h
          exact x_ret (r := some (.int (S.1 78 6))) d_M_sign_106 ⟨_, rfl, rfl⟩
        · replace h := ite_f c8 h
          refine x_aload_n d_M_sign_44 rfl 0 rfl ?_
          refine y_getI d_M_sign_45 fl_11_172 rfl kd_78 ?_
          refine x_bipush d_M_sign_48 bp_61 ?_
          refine x_icmp_eq (tgt := 98) d_M_sign_50 rfl (fun c9 => ?_) (fun c9 => ?_)
          · replace h := ite_t c9 h
            refine x_aload_n d_M_sign_98 rfl 0 rfl ?_
            refine y_getI d_M_sign_99 fl_11_172 rfl kd_78 ?_
            refine x_goto (tgt := 106) d_M_sign_102 rfl ?_
            obtain rfl := Option.some.inj h
            exact x_ret (r := some (.int (S.1 78 6))) d_M_sign_106 ⟨_, rfl, rfl⟩
          · replace h := ite_f c9 h
            refine x_aload_n d_M_sign_53 rfl 0 rfl ?_
            refine y_getI d_M_sign_54 fl_11_172 rfl kd_78 ?_
            refine x_bipush d_M_sign_57 bp_43 ?_
            refine x_icmp_eq (tgt := 98) d_M_sign_59 rfl (fun c10 => ?_) (fun c10 => ?_)
            · replace h := ite_t c10 h
              refine x_aload_n d_M_sign_98 rfl 0 rfl ?_
              refine y_getI d_M_sign_99 fl_11_172 rfl kd_78 ?_
              refine x_goto (tgt := 106) d_M_sign_102 rfl ?_
              obtain rfl := Option.some.inj h
              exact x_ret (r := some (.int (S.1 78 6))) d_M_sign_106 ⟨_, rfl, rfl⟩
            · replace h := ite_f c10 h
              refine x_aload_n d_M_sign_62 rfl 0 rfl ?_
              refine y_getI d_M_sign_63 fl_11_172 rfl kd_78 ?_
              refine x_bipush d_M_sign_66 bp_45 ?_
              refine x_icmp_eq (tgt := 98) d_M_sign_68 rfl (fun c11 => ?_) (fun c11 => ?_)
              · replace h := ite_t c11 h
                refine x_aload_n d_M_sign_98 rfl 0 rfl ?_
                refine y_getI d_M_sign_99 fl_11_172 rfl kd_78 ?_
                refine x_goto (tgt := 106) d_M_sign_102 rfl ?_
                obtain rfl := Option.some.inj h
                exact x_ret (r := some (.int (S.1 78 6))) d_M_sign_106 ⟨_, rfl, rfl⟩
              · replace h := ite_f c11 h
                refine x_aload_n d_M_sign_71 rfl 0 rfl ?_
                refine y_getI d_M_sign_72 fl_11_172 rfl kd_78 ?_
                refine x_bipush d_M_sign_75 bp_42 ?_
                refine x_icmp_eq (tgt := 98) d_M_sign_77 rfl (fun c12 => ?_) (fun c12 => ?_)
                · replace h := ite_t c12 h
                  refine x_aload_n d_M_sign_98 rfl 0 rfl ?_
                  refine y_getI d_M_sign_99 fl_11_172 rfl kd_78 ?_
                  refine x_goto (tgt := 106) d_M_sign_102 rfl ?_
                  obtain rfl := Option.some.inj h
                  exact x_ret (r := some (.int (S.1 78 6))) d_M_sign_106 ⟨_, rfl, rfl⟩
                · replace h := ite_f c12 h
                  refine x_aload_n d_M_sign_80 rfl 0 rfl ?_
                  refine y_getI d_M_sign_81 fl_11_172 rfl kd_78 ?_
                  refine x_bipush d_M_sign_84 bp_47 ?_
                  refine x_icmp_eq (tgt := 98) d_M_sign_86 rfl (fun c13 => ?_) (fun c13 => ?_)
                  · replace h := ite_t c13 h
                    refine x_aload_n d_M_sign_98 rfl 0 rfl ?_
                    refine y_getI d_M_sign_99 fl_11_172 rfl kd_78 ?_
                    refine x_goto (tgt := 106) d_M_sign_102 rfl ?_
                    obtain rfl := Option.some.inj h
                    exact x_ret (r := some (.int (S.1 78 6))) d_M_sign_106 ⟨_, rfl, rfl⟩
                  · replace h := ite_f c13 h
                    refine x_aload_n d_M_sign_89 rfl 0 rfl ?_
                    refine y_getI d_M_sign_90 fl_11_172 rfl kd_78 ?_
                    refine x_bipush d_M_sign_93 bp_37 ?_
                    refine x_icmp_ne (tgt := 105) d_M_sign_95 rfl (fun c14 => ?_) (fun c14 => ?_)
                    · replace h := ite_f c14 h
                      refine x_iconst d_M_sign_105 ic_0 ?_
                      obtain rfl := Option.some.inj h
                      exact x_ret (r := some (.int (0 : Int32))) d_M_sign_106 ⟨_, rfl, rfl⟩
                    · replace h := ite_t c14 h
                      refine x_aload_n d_M_sign_98 rfl 0 rfl ?_
                      refine y_getI d_M_sign_99 fl_11_172 rfl kd_78 ?_
                      refine x_goto (tgt := 106) d_M_sign_102 rfl ?_
                      obtain rfl := Option.some.inj h
                      exact x_ret (r := some (.int (S.1 78 6))) d_M_sign_106 ⟨_, rfl, rfl⟩
    · replace h := ite_f c6 h
      refine x_bipush d_M_sign_23 bp_124 ?_
      obtain rfl := Option.some.inj h
      exact x_ret (r := some (.int (124 : Int32))) d_M_sign_25 ⟨_, rfl, rfl⟩
  · replace h := ite_f c3 h
    refine x_bipush d_M_sign_10 bp_38 ?_
    obtain rfl := Option.some.inj h
    exact x_ret (r := some (.int (38 : Int32))) d_M_sign_12 ⟨_, rfl, rfl⟩
/-! NinetyPlayersModel.hasBracket -/
def b_M_hasBracket_4 (F G : Nat) (S : St) (rec : Int32 → Int32 → Option (Int32)) (w1 : Int32) (w2 : Int32) : Option (Int32) :=
  if (S.1 78 19) ≤ w2 then gd (isB w1) (some w1) else if w1 = 0 then gd (inB w2 160) (if (S.1 85 w2.toNatClampNeg) = (20 : Int32) then lt (w2 + 1) fun v10 => rec (1 : Int32) v10 else lt (w2 + 1) fun v8 => rec (0 : Int32) v8) else lt (w2 + 1) fun v4 => rec (1 : Int32) v4
def fM_hasBracket (F G : Nat) (S : St) : Option (Int32) :=
  fx2 (b_M_hasBracket_4 F G S) F (0 : Int32) (0 : Int32)
set_option maxRecDepth 100000 in
set_option maxHeartbeats 4000000 in
theorem T_M_hasBracket_4 {X : Nat × (Nat → Int32)} {D F G : Nat} (hD : 0 ≤ D) {S : St} : ∀ (f : Nat) (w1 : Int32) (w2 : Int32) (res : Int32), fx2 (b_M_hasBracket_4 F G S ) f w1 w2 = some res → Ek X (D) mM_hasBracket 4 [(0, .ref 78), (1, .int w1), (2, .int w2)] [] S (some (.int res)) S := by
  refine fx2_ind ?_
  intro rec ih w1 w2 res h
  unfold b_M_hasBracket_4 at h
  refine x_iload_n d_M_hasBracket_4 rfl 2 rfl ?_
  refine x_aload_n d_M_hasBracket_5 rfl 0 rfl ?_
  refine y_getI d_M_hasBracket_6 fl_11_264 rfl kd_78 ?_
  refine x_icmp_ge (tgt := 39) d_M_hasBracket_9 rfl (fun c1 => ?_) (fun c1 => ?_)
  · replace h := ite_t c1 h
    refine x_iload_n d_M_hasBracket_39 rfl 1 rfl ?_
    obtain ⟨g2, h⟩ := gd_inv h
    obtain rfl := Option.some.inj h
    exact x_ret (r := some (.int w1)) d_M_hasBracket_40 ⟨_, rfl, isB_nar g2⟩
  · replace h := ite_f c1 h
    refine x_iload_n d_M_hasBracket_12 rfl 1 rfl ?_
    refine x_if_ne (tgt := 27) d_M_hasBracket_13 rfl (fun c3 => ?_) (fun c3 => ?_)
    · replace h := ite_f c3 h
      refine x_iconst d_M_hasBracket_27 ic_1 ?_
      refine x_goto (tgt := 32) d_M_hasBracket_28 rfl ?_
      refine x_istore_n (L1 := [(0, .ref 78), (1, .int (1 : Int32)), (2, .int w2)]) d_M_hasBracket_32 rfl (Nat.le_of_ble_eq_true rfl) rfl rfl ?_
      obtain ⟨v4, e5, h⟩ := lt_inv h
      refine y_iinc (L1 := [(0, .ref 78), (1, .int (1 : Int32)), (2, .int v4)]) e5 ic_1 d_M_hasBracket_33 2 rfl (Nat.le_of_ble_eq_true rfl) rfl rfl ?_
      refine x_goto (tgt := 4) d_M_hasBracket_36 rfl ?_
      exact ih (1 : Int32) v4 _ h
    · replace h := ite_t c3 h
      refine x_aload_n d_M_hasBracket_16 rfl 0 rfl ?_
      refine y_getR d_M_hasBracket_17 fl_11_33 rfl kd_78 rr_78_15 ?_
      refine x_iload_n d_M_hasBracket_20 rfl 2 rfl ?_
      obtain ⟨g6, h⟩ := gd_inv h
      refine y_iald d_M_hasBracket_21 kd_85 g6 ?_
      refine x_bipush d_M_hasBracket_22 bp_20 ?_
      refine x_icmp_ne (tgt := 31) d_M_hasBracket_24 rfl (fun c7 => ?_) (fun c7 => ?_)
      · replace h := ite_f c7 h
        refine x_iconst d_M_hasBracket_31 ic_0 ?_
        refine x_istore_n (L1 := [(0, .ref 78), (1, .int (0 : Int32)), (2, .int w2)]) d_M_hasBracket_32 rfl (Nat.le_of_ble_eq_true rfl) rfl rfl ?_
        obtain ⟨v8, e9, h⟩ := lt_inv h
        refine y_iinc (L1 := [(0, .ref 78), (1, .int (0 : Int32)), (2, .int v8)]) e9 ic_1 d_M_hasBracket_33 2 rfl (Nat.le_of_ble_eq_true rfl) rfl rfl ?_
        refine x_goto (tgt := 4) d_M_hasBracket_36 rfl ?_
        exact ih (0 : Int32) v8 _ h
      · replace h := ite_t c7 h
        refine x_iconst d_M_hasBracket_27 ic_1 ?_
        refine x_goto (tgt := 32) d_M_hasBracket_28 rfl ?_
        refine x_istore_n (L1 := [(0, .ref 78), (1, .int (1 : Int32)), (2, .int w2)]) d_M_hasBracket_32 rfl (Nat.le_of_ble_eq_true rfl) rfl rfl ?_
        obtain ⟨v10, e11, h⟩ := lt_inv h
        refine y_iinc (L1 := [(0, .ref 78), (1, .int (1 : Int32)), (2, .int v10)]) e11 ic_1 d_M_hasBracket_33 2 rfl (Nat.le_of_ble_eq_true rfl) rfl rfl ?_
        refine x_goto (tgt := 4) d_M_hasBracket_36 rfl ?_
        exact ih (1 : Int32) v10 _ h
set_option maxRecDepth 100000 in
set_option maxHeartbeats 4000000 in
theorem c_M_hasBracket {X : Nat × (Nat → Int32)} {D F G : Nat} (hD : 0 ≤ D) {S : St} {res : Int32} (h : fM_hasBracket F G S  = some res) : Ek X (D) mM_hasBracket 0 [(0, .ref 78)] [] S (some (.int res)) S := by
  unfold fM_hasBracket at h
  refine x_iconst d_M_hasBracket_0 ic_0 ?_
  refine x_istore_n (L1 := [(0, .ref 78), (1, .int (0 : Int32))]) d_M_hasBracket_1 rfl (Nat.le_of_ble_eq_true rfl) rfl rfl ?_
  refine x_iconst d_M_hasBracket_2 ic_0 ?_
  refine x_istore_n (L1 := [(0, .ref 78), (1, .int (0 : Int32)), (2, .int (0 : Int32))]) d_M_hasBracket_3 rfl (Nat.le_of_ble_eq_true rfl) rfl rfl ?_
  refine T_M_hasBracket_4 (by omega)   F (0 : Int32) (0 : Int32) _ h
/-! NinetyPlayersModel.close -/
def b_M_close_0 (F G : Nat) (z1 : Int32) (rec : St → Option (St)) (S : St) : Option (St) :=
  if (S.1 78 19) ≤ 0 then some S else gd (inB ((S.1 78 19) - (1 : Int32)) 160) (if (S.1 85 ((S.1 78 19) - (1 : Int32)).toNatClampNeg) = (20 : Int32) then some S else gd (inB ((S.1 78 19) - (1 : Int32)) 160) (bd (fM_tight F G S (S.1 85 ((S.1 78 19) - (1 : Int32)).toNatClampNeg)) fun v6 => if v6 < z1 then some S else lt (sI S 78 19 ((S.1 78 19) - (1 : Int32))) fun S8 => gd (inB (S8.1 78 19) 160) (if (S8.1 85 (S8.1 78 19).toNatClampNeg) = (21 : Int32) then bd (fM_add F G S8 (2 : Int32) (0 : Int32)) fun S16 => lt (sI S16 78 23 ((S16.1 78 23) - (1 : Int32))) fun S17 => rec S17 else gd (inB (S8.1 78 19) 160) (bd (fM_add F G S8 (3 : Int32) (S8.1 85 (S8.1 78 19).toNatClampNeg)) fun S14 => rec S14))))
def fM_close (F G : Nat) (S : St) (p1 : Int32) : Option (St) :=
  fx1 (b_M_close_0 F G p1) F S
set_option maxRecDepth 100000 in
set_option maxHeartbeats 4000000 in
theorem T_M_close_0 {X : Nat × (Nat → Int32)} {D F G : Nat} (hD : 1 ≤ D + 1) {z1 : Int32} : ∀ (f : Nat) (S : St) (res : St), fx1 (b_M_close_0 F G z1 ) f S = some res → Ek X (D + 1) mM_close 0 [(0, .ref 78), (1, .int z1)] [] S none res := by
  refine fx1_ind ?_
  intro rec ih S res h
  unfold b_M_close_0 at h
  refine x_aload_n d_M_close_0 rfl 0 rfl ?_
  refine y_getI d_M_close_1 fl_11_264 rfl kd_78 ?_
  refine x_if_le (tgt := 101) d_M_close_4 rfl (fun c1 => ?_) (fun c1 => ?_)
  · replace h := ite_t c1 h
    obtain rfl := Option.some.inj h
    exact x_ret (r := none) d_M_close_101 rfl
  · replace h := ite_f c1 h
    refine x_aload_n d_M_close_7 rfl 0 rfl ?_
    refine y_getR d_M_close_8 fl_11_33 rfl kd_78 rr_78_15 ?_
    refine x_aload_n d_M_close_11 rfl 0 rfl ?_
    refine y_getI d_M_close_12 fl_11_264 rfl kd_78 ?_
    refine x_iconst d_M_close_15 ic_1 ?_
    refine x_isub d_M_close_16 ?_
    obtain ⟨g2, h⟩ := gd_inv h
    refine y_iald d_M_close_17 kd_85 g2 ?_
    refine x_bipush d_M_close_18 bp_20 ?_
    refine x_icmp_eq (tgt := 101) d_M_close_20 rfl (fun c3 => ?_) (fun c3 => ?_)
    · replace h := ite_t c3 h
      obtain rfl := Option.some.inj h
      exact x_ret (r := none) d_M_close_101 rfl
    · replace h := ite_f c3 h
      refine x_aload_n d_M_close_23 rfl 0 rfl ?_
      refine y_getR d_M_close_24 fl_11_33 rfl kd_78 rr_78_15 ?_
      refine x_aload_n d_M_close_27 rfl 0 rfl ?_
      refine y_getI d_M_close_28 fl_11_264 rfl kd_78 ?_
      refine x_iconst d_M_close_31 ic_1 ?_
      refine x_isub d_M_close_32 ?_
      obtain ⟨g4, h⟩ := gd_inv h
      refine y_iald d_M_close_33 kd_85 g4 ?_
      obtain ⟨v6, q5, h⟩ := bd_inv h
      refine y_S1i (v := v6) (S1 := S) d_M_close_34 ml_11_267 (Nat.le_of_ble_eq_true rfl) (Nat.le_of_ble_eq_true rfl) (c_M_tight (by omega) q5) ?_
      refine x_iload_n d_M_close_37 rfl 1 rfl ?_
      refine x_icmp_lt (tgt := 101) d_M_close_38 rfl (fun c7 => ?_) (fun c7 => ?_)
      · replace h := ite_t c7 h
        obtain rfl := Option.some.inj h
        exact x_ret (r := none) d_M_close_101 rfl
      · replace h := ite_f c7 h
        refine x_aload_n d_M_close_41 rfl 0 rfl ?_
        refine x_dup d_M_close_42 rfl ?_
        refine y_getI d_M_close_43 fl_11_264 rfl kd_78 ?_
        refine x_iconst d_M_close_46 ic_1 ?_
        refine x_isub d_M_close_47 ?_
        obtain ⟨S8, e9, h⟩ := lt_inv h
        refine y_putI e9 d_M_close_48 fl_11_264 rfl rfl kd_78 rfl rfl ?_
        refine x_aload_n d_M_close_51 rfl 0 rfl ?_
        refine y_getR d_M_close_52 fl_11_33 rfl kd_78 rr_78_15 ?_
        refine x_aload_n d_M_close_55 rfl 0 rfl ?_
        refine y_getI d_M_close_56 fl_11_264 rfl kd_78 ?_
        obtain ⟨g10, h⟩ := gd_inv h
        refine y_iald d_M_close_59 kd_85 g10 ?_
        refine x_bipush d_M_close_60 bp_21 ?_
        refine x_icmp_ne (tgt := 84) d_M_close_62 rfl (fun c11 => ?_) (fun c11 => ?_)
        · replace h := ite_f c11 h
          refine x_aload_n d_M_close_84 rfl 0 rfl ?_
          refine x_iconst d_M_close_85 ic_3 ?_
          refine x_aload_n d_M_close_86 rfl 0 rfl ?_
          refine y_getR d_M_close_87 fl_11_33 rfl kd_78 rr_78_15 ?_
          refine x_aload_n d_M_close_90 rfl 0 rfl ?_
          refine y_getI d_M_close_91 fl_11_264 rfl kd_78 ?_
          obtain ⟨g12, h⟩ := gd_inv h
          refine y_iald d_M_close_94 kd_85 g12 ?_
          obtain ⟨S14, q13, h⟩ := bd_inv h
          refine y_V2v (S1 := S14) d_M_close_95 ml_11_270 kd_78 rfl (Nat.le_of_ble_eq_true rfl) (Nat.le_of_ble_eq_true rfl) (c_M_add (by omega) q13) ?_
          refine x_goto (tgt := 0) d_M_close_98 rfl ?_
          exact ih S14 _ h
        · replace h := ite_t c11 h
          refine x_aload_n d_M_close_65 rfl 0 rfl ?_
          refine x_iconst d_M_close_66 ic_2 ?_
          refine x_iconst d_M_close_67 ic_0 ?_
          obtain ⟨S16, q15, h⟩ := bd_inv h
          refine y_V2v (S1 := S16) d_M_close_68 ml_11_270 kd_78 rfl (Nat.le_of_ble_eq_true rfl) (Nat.le_of_ble_eq_true rfl) (c_M_add (by omega) q15) ?_
          refine x_aload_n d_M_close_71 rfl 0 rfl ?_
          refine x_dup d_M_close_72 rfl ?_
          refine y_getI d_M_close_73 fl_11_274 rfl kd_78 ?_
          refine x_iconst d_M_close_76 ic_1 ?_
          refine x_isub d_M_close_77 ?_
          obtain ⟨S17, e18, h⟩ := lt_inv h
          refine y_putI e18 d_M_close_78 fl_11_274 rfl rfl kd_78 rfl rfl ?_
          refine x_goto (tgt := 0) d_M_close_81 rfl ?_
          exact ih S17 _ h
set_option maxRecDepth 100000 in
set_option maxHeartbeats 4000000 in
theorem c_M_close {X : Nat × (Nat → Int32)} {D F G : Nat} (hD : 1 ≤ D) {S : St} {p1 : Int32} {res : St} (h : fM_close F G S p1 = some res) : Ek X (D) mM_close 0 [(0, .ref 78), (1, .int p1)] [] S none res := by
  obtain ⟨D, rfl⟩ : ∃ E, D = E + 1 := ⟨D - 1, by omega⟩
  unfold fM_close at h
  refine T_M_close_0 (by omega)   F S _ h
/-! NinetyPlayersModel.hasRelation -/
def b_M_hasRelation_7 (F G : Nat) (S : St) (k41 : Int32 → Option (Int32)) (rec : Int32 → Option (Int32)) (w1 : Int32) : Option (Int32) :=
  if w1 < 0 then k41 w1 else gd (inB w1 160) (if (S.1 85 w1.toNatClampNeg) = (20 : Int32) then k41 w1 else gd (inB w1 160) (bd (fM_tight F G S (S.1 85 w1.toNatClampNeg)) fun v8 => if v8 ≤ (4 : Int32) then k41 w1 else lt (w1 + (-1)) fun v10 => rec v10))
def j_M_hasRelation_41 (F G : Nat) (S : St) (y1 : Int32) : Option (Int32) :=
  if y1 < 0 then some (0 : Int32) else gd (inB y1 160) (if (S.1 85 y1.toNatClampNeg) = (20 : Int32) then some (0 : Int32) else gd (inB y1 160) (bd (fM_tight F G S (S.1 85 y1.toNatClampNeg)) fun v18 => if v18 = (4 : Int32) then some (1 : Int32) else some (0 : Int32)))
def fM_hasRelation (F G : Nat) (S : St) : Option (Int32) :=
  lt ((S.1 78 19) - (1 : Int32)) fun v1 => fx1 (b_M_hasRelation_7 F G S (fun v12 => j_M_hasRelation_41 F G  S v12)) F v1
set_option maxRecDepth 100000 in
set_option maxHeartbeats 4000000 in
theorem T_M_hasRelation_7 {X : Nat × (Nat → Int32)} {D F G : Nat} (hD : 1 ≤ D + 1) {S : St} {k41 : Int32 → Option (Int32)} (hk41 : ∀ (u1 : Int32) (res : Int32), k41 u1 = some res → Ek X (D + 1) mM_hasRelation 41 [(0, .ref 78), (1, .int u1)] [] S (some (.int res)) S) : ∀ (f : Nat) (w1 : Int32) (res : Int32), fx1 (b_M_hasRelation_7 F G S k41 ) f w1 = some res → Ek X (D + 1) mM_hasRelation 7 [(0, .ref 78), (1, .int w1)] [] S (some (.int res)) S := by
  refine fx1_ind ?_
  intro rec ih w1 res h
  unfold b_M_hasRelation_7 at h
  refine x_iload_n d_M_hasRelation_7 rfl 1 rfl ?_
  refine x_if_lt (tgt := 41) d_M_hasRelation_8 rfl (fun c3 => ?_) (fun c3 => ?_)
  · replace h := ite_t c3 h
    exact hk41 w1 _ h
  · replace h := ite_f c3 h
    refine x_aload_n d_M_hasRelation_11 rfl 0 rfl ?_
    refine y_getR d_M_hasRelation_12 fl_11_33 rfl kd_78 rr_78_15 ?_
    refine x_iload_n d_M_hasRelation_15 rfl 1 rfl ?_
    obtain ⟨g4, h⟩ := gd_inv h
    refine y_iald d_M_hasRelation_16 kd_85 g4 ?_
    refine x_bipush d_M_hasRelation_17 bp_20 ?_
    refine x_icmp_eq (tgt := 41) d_M_hasRelation_19 rfl (fun c5 => ?_) (fun c5 => ?_)
    · replace h := ite_t c5 h
      exact hk41 w1 _ h
    · replace h := ite_f c5 h
      refine x_aload_n d_M_hasRelation_22 rfl 0 rfl ?_
      refine y_getR d_M_hasRelation_23 fl_11_33 rfl kd_78 rr_78_15 ?_
      refine x_iload_n d_M_hasRelation_26 rfl 1 rfl ?_
      obtain ⟨g6, h⟩ := gd_inv h
      refine y_iald d_M_hasRelation_27 kd_85 g6 ?_
      obtain ⟨v8, q7, h⟩ := bd_inv h
      refine y_S1i (v := v8) (S1 := S) d_M_hasRelation_28 ml_11_267 (Nat.le_of_ble_eq_true rfl) (Nat.le_of_ble_eq_true rfl) (c_M_tight (by omega) q7) ?_
      refine x_iconst d_M_hasRelation_31 ic_4 ?_
      refine x_icmp_le (tgt := 41) d_M_hasRelation_32 rfl (fun c9 => ?_) (fun c9 => ?_)
      · replace h := ite_t c9 h
        exact hk41 w1 _ h
      · replace h := ite_f c9 h
        obtain ⟨v10, e11, h⟩ := lt_inv h
        refine y_iinc (L1 := [(0, .ref 78), (1, .int v10)]) e11 ic_m1 d_M_hasRelation_35 1 rfl (Nat.le_of_ble_eq_true rfl) rfl rfl ?_
        refine x_goto (tgt := 7) d_M_hasRelation_38 rfl ?_
        exact ih v10 _ h
set_option maxRecDepth 100000 in
set_option maxHeartbeats 4000000 in
theorem c_M_hasRelation {X : Nat × (Nat → Int32)} {D F G : Nat} (hD : 1 ≤ D) {S : St} {res : Int32} (h : fM_hasRelation F G S  = some res) : Ek X (D) mM_hasRelation 0 [(0, .ref 78)] [] S (some (.int res)) S := by
  obtain ⟨D, rfl⟩ : ∃ E, D = E + 1 := ⟨D - 1, by omega⟩
  unfold fM_hasRelation at h
  have J41 : ∀ (y1 : Int32) (res : Int32), j_M_hasRelation_41 F G S y1 = some res → Ek X (D + 1) mM_hasRelation 41 [(0, .ref 78), (1, .int y1)] [] S (some (.int res)) S := by
    intro y1 res h
    unfold j_M_hasRelation_41 at h
    refine x_iload_n d_M_hasRelation_41 rfl 1 rfl ?_
    refine x_if_lt (tgt := 73) d_M_hasRelation_42 rfl (fun c13 => ?_) (fun c13 => ?_)
    · replace h := ite_t c13 h
      refine x_iconst d_M_hasRelation_73 ic_0 ?_
      obtain rfl := Option.some.inj h
      exact x_ret (r := some (.int (0 : Int32))) d_M_hasRelation_74 ⟨_, rfl, rfl⟩
    · replace h := ite_f c13 h
      refine x_aload_n d_M_hasRelation_45 rfl 0 rfl ?_
      refine y_getR d_M_hasRelation_46 fl_11_33 rfl kd_78 rr_78_15 ?_
      refine x_iload_n d_M_hasRelation_49 rfl 1 rfl ?_
      obtain ⟨g14, h⟩ := gd_inv h
      refine y_iald d_M_hasRelation_50 kd_85 g14 ?_
      refine x_bipush d_M_hasRelation_51 bp_20 ?_
      refine x_icmp_eq (tgt := 73) d_M_hasRelation_53 rfl (fun c15 => ?_) (fun c15 => ?_)
      · replace h := ite_t c15 h
        refine x_iconst d_M_hasRelation_73 ic_0 ?_
        obtain rfl := Option.some.inj h
        exact x_ret (r := some (.int (0 : Int32))) d_M_hasRelation_74 ⟨_, rfl, rfl⟩
      · replace h := ite_f c15 h
        refine x_aload_n d_M_hasRelation_56 rfl 0 rfl ?_
        refine y_getR d_M_hasRelation_57 fl_11_33 rfl kd_78 rr_78_15 ?_
        refine x_iload_n d_M_hasRelation_60 rfl 1 rfl ?_
        obtain ⟨g16, h⟩ := gd_inv h
        refine y_iald d_M_hasRelation_61 kd_85 g16 ?_
        obtain ⟨v18, q17, h⟩ := bd_inv h
        refine y_S1i (v := v18) (S1 := S) d_M_hasRelation_62 ml_11_267 (Nat.le_of_ble_eq_true rfl) (Nat.le_of_ble_eq_true rfl) (c_M_tight (by omega) q17) ?_
        refine x_iconst d_M_hasRelation_65 ic_4 ?_
        refine x_icmp_ne (tgt := 73) d_M_hasRelation_66 rfl (fun c19 => ?_) (fun c19 => ?_)
        · replace h := ite_f c19 h
          refine x_iconst d_M_hasRelation_73 ic_0 ?_
          obtain rfl := Option.some.inj h
          exact x_ret (r := some (.int (0 : Int32))) d_M_hasRelation_74 ⟨_, rfl, rfl⟩
        · replace h := ite_t c19 h
          refine x_iconst d_M_hasRelation_69 ic_1 ?_
          refine x_goto (tgt := 74) d_M_hasRelation_70 rfl ?_
          obtain rfl := Option.some.inj h
          exact x_ret (r := some (.int (1 : Int32))) d_M_hasRelation_74 ⟨_, rfl, rfl⟩
  refine x_aload_n d_M_hasRelation_0 rfl 0 rfl ?_
  refine y_getI d_M_hasRelation_1 fl_11_264 rfl kd_78 ?_
  refine x_iconst d_M_hasRelation_4 ic_1 ?_
  refine x_isub d_M_hasRelation_5 ?_
  obtain ⟨v1, e2, h⟩ := lt_inv h
  refine y_istore_n (L1 := [(0, .ref 78), (1, .int v1)]) e2 d_M_hasRelation_6 rfl (Nat.le_of_ble_eq_true rfl) rfl rfl ?_
  refine T_M_hasRelation_7 (by omega)  ?_ F v1 _ h
  · intro v12 res h
    exact J41 v12 _ h
/-! NinetyPlayersModel.formula -/
def j_M_formula_118 (F G : Nat) (k162 : St → Option (St)) (rec : Int32 → St → Option (St)) (S : St) (y1 : Int32) (y2 : Int32) : Option (St) :=
  bd (fM_tight F G S y2) fun v39 => bd (fM_close F G S v39) fun S41 => gd (inB (S41.1 78 19) 160) (lt (sI S41 85 (S41.1 78 19).toNatClampNeg y2) fun S43 => lt (sI S43 78 19 ((S43.1 78 19) + (1 : Int32))) fun S45 => bd (fM_token F G S45 ) fun S48 => bd (fM_unit F G S48 ) fun S50 => rec y1 S50)
def j_M_formula_99 (F G : Nat) (k162 : St → Option (St)) (rec : Int32 → St → Option (St)) (S : St) (y1 : Int32) (y2 : Int32) : Option (St) :=
  if y2 = 0 then rec (0 : Int32) S else bd (fM_tight F G S y2) fun v33 => if v33 = (4 : Int32) then bd (fM_hasRelation F G S) fun v36 => if v36 = 0 then j_M_formula_118 F G k162 rec  S y1 y2 else rec (0 : Int32) S else j_M_formula_118 F G k162 rec  S y1 y2
def b_M_formula_35 (F G : Nat) (k162 : St → Option (St)) (rec : Int32 → St → Option (St)) (w1 : Int32) (S : St) : Option (St) :=
  if w1 = 0 then k162 S else if (S.1 78 2) = 0 then bd (fM_sign F G S) fun v18 => if (S.1 78 6) = (41 : Int32) then bd (fM_hasBracket F G S) fun v21 => if v21 = 0 then j_M_formula_99 F G k162 rec  S w1 v18 else bd (fM_close F G S (0 : Int32)) fun S24 => lt (sI S24 78 19 ((S24.1 78 19) - (1 : Int32))) fun S25 => lt (sI S25 78 23 ((S25.1 78 23) - (1 : Int32))) fun S27 => bd (fM_token F G S27 ) fun S30 => rec w1 S30 else j_M_formula_99 F G k162 rec  S w1 v18 else k162 S
def j_M_formula_181 (F G : Nat) (S : St) : Option (St) :=
  if (S.1 78 2) = 0 then bd (fM_close F G S (0 : Int32)) fun S60 => some S60 else some S
def j_M_formula_162 (F G : Nat) (S : St) : Option (St) :=
  if (S.1 78 2) = 0 then bd (fM_hasBracket F G S) fun v54 => if v54 = 0 then j_M_formula_181 F G  S  else bd (fM_wrong F G S (2 : Int32)) fun S57 => j_M_formula_181 F G  S57  else j_M_formula_181 F G  S 
def fM_formula (F G : Nat) (S : St) : Option (St) :=
  bd (fM_token F G S ) fun S2 => lt (sI S2 78 24 (1 : Int32)) fun S3 => lt (sI S3 78 17 (0 : Int32)) fun S5 => lt (sI S5 78 19 (0 : Int32)) fun S7 => lt (sI S7 78 23 (0 : Int32)) fun S9 => lt (sI S9 78 22 (0 : Int32)) fun S11 => bd (fM_unit F G S11 ) fun S14 => fx2 (b_M_formula_35 F G  (fun S51 => j_M_formula_162 F G  S51 )) F (1 : Int32) S14
set_option maxRecDepth 100000 in
set_option maxHeartbeats 4000000 in
theorem T_M_formula_35 {X : Nat × (Nat → Int32)} {D F G : Nat} (hD : 4 ≤ D + 1) {k162 : St → Option (St)} (hk162 : ∀ (S1 : St) (res : St), k162 S1 = some res → Ek X (D + 1) mM_formula 162 [(0, .ref 78)] [] S1 none res) : ∀ (f : Nat) (w1 : Int32) (S : St) (res : St), fx2 (b_M_formula_35 F G k162 ) f w1 S = some res → Ek X (D + 1) mM_formula 35 [(0, .ref 78), (1, .int w1)] [] S none res := by
  refine fx2_ind ?_
  intro rec ih w1 S res h
  unfold b_M_formula_35 at h
  have J118 : ∀ (S : St) (y1 : Int32) (y2 : Int32) (res : St), j_M_formula_118 F G k162 rec S y1 y2 = some res → Ek X (D + 1) mM_formula 118 [(0, .ref 78), (1, .int y1), (2, .int y2)] [] S none res := by
    intro S y1 y2 res h
    unfold j_M_formula_118 at h
    refine x_aload_n d_M_formula_118 rfl 0 rfl ?_
    refine x_iload_n d_M_formula_119 rfl 2 rfl ?_
    obtain ⟨v39, q38, h⟩ := bd_inv h
    refine y_S1i (v := v39) (S1 := S) d_M_formula_120 ml_11_267 (Nat.le_of_ble_eq_true rfl) (Nat.le_of_ble_eq_true rfl) (c_M_tight (by omega) q38) ?_
    obtain ⟨S41, q40, h⟩ := bd_inv h
    refine y_V1v (S1 := S41) d_M_formula_123 ml_11_312 kd_78 rfl (Nat.le_of_ble_eq_true rfl) (Nat.le_of_ble_eq_true rfl) (c_M_close (by omega) q40) ?_
    refine x_aload_n d_M_formula_126 rfl 0 rfl ?_
    refine y_getR d_M_formula_127 fl_11_33 rfl kd_78 rr_78_15 ?_
    refine x_aload_n d_M_formula_130 rfl 0 rfl ?_
    refine y_getI d_M_formula_131 fl_11_264 rfl kd_78 ?_
    refine x_iload_n d_M_formula_134 rfl 2 rfl ?_
    obtain ⟨g42, h⟩ := gd_inv h
    obtain ⟨S43, e44, h⟩ := lt_inv h
    refine y_iast e44 d_M_formula_135 kd_85 g42 ?_
    refine x_aload_n d_M_formula_136 rfl 0 rfl ?_
    refine x_dup d_M_formula_137 rfl ?_
    refine y_getI d_M_formula_138 fl_11_264 rfl kd_78 ?_
    refine x_iconst d_M_formula_141 ic_1 ?_
    refine x_iadd d_M_formula_142 ?_
    obtain ⟨S45, e46, h⟩ := lt_inv h
    refine y_putI e46 d_M_formula_143 fl_11_264 rfl rfl kd_78 rfl rfl ?_
    refine x_aload_n d_M_formula_146 rfl 0 rfl ?_
    obtain ⟨S48, q47, h⟩ := bd_inv h
    refine y_V0v (S1 := S48) d_M_formula_147 ml_11_241 kd_78 rfl (Nat.le_of_ble_eq_true rfl) (Nat.le_of_ble_eq_true rfl) (c_M_token (by omega) q47) ?_
    refine x_aload_n d_M_formula_150 rfl 0 rfl ?_
    obtain ⟨S50, q49, h⟩ := bd_inv h
    refine y_V0v (S1 := S50) d_M_formula_151 ml_11_303 kd_78 rfl (Nat.le_of_ble_eq_true rfl) (Nat.le_of_ble_eq_true rfl) (c_M_unit (by omega) q49) ?_
    refine x_goto (tgt := 159) d_M_formula_154 rfl ?_
    refine x_goto (tgt := 35) d_M_formula_159 rfl ?_
    refine y_pick (L1 := [(0, .ref 78), (1, .int y1)]) [0, 1] rfl ?_
    exact ih y1 S50 _ h
  have J99 : ∀ (S : St) (y1 : Int32) (y2 : Int32) (res : St), j_M_formula_99 F G k162 rec S y1 y2 = some res → Ek X (D + 1) mM_formula 99 [(0, .ref 78), (1, .int y1), (2, .int y2)] [] S none res := by
    intro S y1 y2 res h
    unfold j_M_formula_99 at h
    refine x_iload_n d_M_formula_99 rfl 2 rfl ?_
    refine x_if_eq (tgt := 157) d_M_formula_100 rfl (fun c31 => ?_) (fun c31 => ?_)
    · replace h := ite_t c31 h
      refine x_iconst d_M_formula_157 ic_0 ?_
      refine x_istore_n (L1 := [(0, .ref 78), (1, .int (0 : Int32)), (2, .int y2)]) d_M_formula_158 rfl (Nat.le_of_ble_eq_true rfl) rfl rfl ?_
      refine x_goto (tgt := 35) d_M_formula_159 rfl ?_
      refine y_pick (L1 := [(0, .ref 78), (1, .int (0 : Int32))]) [0, 1] rfl ?_
      exact ih (0 : Int32) S _ h
    · replace h := ite_f c31 h
      refine x_iload_n d_M_formula_103 rfl 2 rfl ?_
      obtain ⟨v33, q32, h⟩ := bd_inv h
      refine y_S1i (v := v33) (S1 := S) d_M_formula_104 ml_11_267 (Nat.le_of_ble_eq_true rfl) (Nat.le_of_ble_eq_true rfl) (c_M_tight (by omega) q32) ?_
      refine x_iconst d_M_formula_107 ic_4 ?_
      refine x_icmp_ne (tgt := 118) d_M_formula_108 rfl (fun c34 => ?_) (fun c34 => ?_)
      · replace h := ite_f c34 h
        exact J118 S y1 y2 _ h
      · replace h := ite_t c34 h
        refine x_aload_n d_M_formula_111 rfl 0 rfl ?_
        obtain ⟨v36, q35, h⟩ := bd_inv h
        refine y_V0i (v := v36) (S1 := S) d_M_formula_112 ml_11_315 kd_78 rfl (Nat.le_of_ble_eq_true rfl) (Nat.le_of_ble_eq_true rfl) (c_M_hasRelation (by omega) q35) ?_
        refine x_if_ne (tgt := 157) d_M_formula_115 rfl (fun c37 => ?_) (fun c37 => ?_)
        · replace h := ite_f c37 h
          refine x_iconst d_M_formula_157 ic_0 ?_
          refine x_istore_n (L1 := [(0, .ref 78), (1, .int (0 : Int32)), (2, .int y2)]) d_M_formula_158 rfl (Nat.le_of_ble_eq_true rfl) rfl rfl ?_
          refine x_goto (tgt := 35) d_M_formula_159 rfl ?_
          refine y_pick (L1 := [(0, .ref 78), (1, .int (0 : Int32))]) [0, 1] rfl ?_
          exact ih (0 : Int32) S _ h
        · replace h := ite_t c37 h
          exact J118 S y1 y2 _ h
  refine x_iload_n d_M_formula_35 rfl 1 rfl ?_
  refine x_if_eq (tgt := 162) d_M_formula_36 rfl (fun c15 => ?_) (fun c15 => ?_)
  · replace h := ite_t c15 h
    refine y_pick (L1 := [(0, .ref 78)]) [0] rfl ?_
    exact hk162 S _ h
  · replace h := ite_f c15 h
    refine x_aload_n d_M_formula_39 rfl 0 rfl ?_
    refine y_getI d_M_formula_40 fl_11_185 rfl kd_78 ?_
    refine x_if_ne (tgt := 162) d_M_formula_43 rfl (fun c16 => ?_) (fun c16 => ?_)
    · replace h := ite_f c16 h
      refine y_pick (L1 := [(0, .ref 78)]) [0] rfl ?_
      exact hk162 S _ h
    · replace h := ite_t c16 h
      refine x_aload_n d_M_formula_46 rfl 0 rfl ?_
      obtain ⟨v18, q17, h⟩ := bd_inv h
      refine y_V0i (v := v18) (S1 := S) d_M_formula_47 ml_11_306 kd_78 rfl (Nat.le_of_ble_eq_true rfl) (Nat.le_of_ble_eq_true rfl) (c_M_sign (by omega) q17) ?_
      refine x_istore_n (L1 := [(0, .ref 78), (1, .int w1), (2, .int v18)]) d_M_formula_50 rfl (Nat.le_of_ble_eq_true rfl) rfl rfl ?_
      refine x_aload_n d_M_formula_51 rfl 0 rfl ?_
      refine y_getI d_M_formula_52 fl_11_172 rfl kd_78 ?_
      refine x_bipush d_M_formula_55 bp_41 ?_
      refine x_icmp_ne (tgt := 99) d_M_formula_57 rfl (fun c19 => ?_) (fun c19 => ?_)
      · replace h := ite_f c19 h
        exact J99 S w1 v18 _ h
      · replace h := ite_t c19 h
        refine x_aload_n d_M_formula_60 rfl 0 rfl ?_
        obtain ⟨v21, q20, h⟩ := bd_inv h
        refine y_V0i (v := v21) (S1 := S) d_M_formula_61 ml_11_309 kd_78 rfl (Nat.le_of_ble_eq_true rfl) (Nat.le_of_ble_eq_true rfl) (c_M_hasBracket (by omega) q20) ?_
        refine x_if_eq (tgt := 99) d_M_formula_64 rfl (fun c22 => ?_) (fun c22 => ?_)
        · replace h := ite_t c22 h
          exact J99 S w1 v18 _ h
        · replace h := ite_f c22 h
          refine x_aload_n d_M_formula_67 rfl 0 rfl ?_
          refine x_iconst d_M_formula_68 ic_0 ?_
          obtain ⟨S24, q23, h⟩ := bd_inv h
          refine y_V1v (S1 := S24) d_M_formula_69 ml_11_312 kd_78 rfl (Nat.le_of_ble_eq_true rfl) (Nat.le_of_ble_eq_true rfl) (c_M_close (by omega) q23) ?_
          refine x_aload_n d_M_formula_72 rfl 0 rfl ?_
          refine x_dup d_M_formula_73 rfl ?_
          refine y_getI d_M_formula_74 fl_11_264 rfl kd_78 ?_
          refine x_iconst d_M_formula_77 ic_1 ?_
          refine x_isub d_M_formula_78 ?_
          obtain ⟨S25, e26, h⟩ := lt_inv h
          refine y_putI e26 d_M_formula_79 fl_11_264 rfl rfl kd_78 rfl rfl ?_
          refine x_aload_n d_M_formula_82 rfl 0 rfl ?_
          refine x_dup d_M_formula_83 rfl ?_
          refine y_getI d_M_formula_84 fl_11_274 rfl kd_78 ?_
          refine x_iconst d_M_formula_87 ic_1 ?_
          refine x_isub d_M_formula_88 ?_
          obtain ⟨S27, e28, h⟩ := lt_inv h
          refine y_putI e28 d_M_formula_89 fl_11_274 rfl rfl kd_78 rfl rfl ?_
          refine x_aload_n d_M_formula_92 rfl 0 rfl ?_
          obtain ⟨S30, q29, h⟩ := bd_inv h
          refine y_V0v (S1 := S30) d_M_formula_93 ml_11_241 kd_78 rfl (Nat.le_of_ble_eq_true rfl) (Nat.le_of_ble_eq_true rfl) (c_M_token (by omega) q29) ?_
          refine x_goto (tgt := 159) d_M_formula_96 rfl ?_
          refine x_goto (tgt := 35) d_M_formula_159 rfl ?_
          refine y_pick (L1 := [(0, .ref 78), (1, .int w1)]) [0, 1] rfl ?_
          exact ih w1 S30 _ h
set_option maxRecDepth 100000 in
set_option maxHeartbeats 4000000 in
theorem c_M_formula {X : Nat × (Nat → Int32)} {D F G : Nat} (hD : 4 ≤ D) {S : St} {res : St} (h : fM_formula F G S  = some res) : Ek X (D) mM_formula 0 [(0, .ref 78)] [] S none res := by
  obtain ⟨D, rfl⟩ : ∃ E, D = E + 1 := ⟨D - 1, by omega⟩
  unfold fM_formula at h
  have J181 : ∀ (S : St) (res : St), j_M_formula_181 F G S  = some res → Ek X (D + 1) mM_formula 181 [(0, .ref 78)] [] S none res := by
    intro S  res h
    unfold j_M_formula_181 at h
    refine x_aload_n d_M_formula_181 rfl 0 rfl ?_
    refine y_getI d_M_formula_182 fl_11_185 rfl kd_78 ?_
    refine x_if_ne (tgt := 193) d_M_formula_185 rfl (fun c58 => ?_) (fun c58 => ?_)
    · replace h := ite_f c58 h
      obtain rfl := Option.some.inj h
      exact x_ret (r := none) d_M_formula_193 rfl
    · replace h := ite_t c58 h
      refine x_aload_n d_M_formula_188 rfl 0 rfl ?_
      refine x_iconst d_M_formula_189 ic_0 ?_
      obtain ⟨S60, q59, h⟩ := bd_inv h
      refine y_V1v (S1 := S60) d_M_formula_190 ml_11_312 kd_78 rfl (Nat.le_of_ble_eq_true rfl) (Nat.le_of_ble_eq_true rfl) (c_M_close (by omega) q59) ?_
      obtain rfl := Option.some.inj h
      exact x_ret (r := none) d_M_formula_193 rfl
  have J162 : ∀ (S : St) (res : St), j_M_formula_162 F G S  = some res → Ek X (D + 1) mM_formula 162 [(0, .ref 78)] [] S none res := by
    intro S  res h
    unfold j_M_formula_162 at h
    refine x_aload_n d_M_formula_162 rfl 0 rfl ?_
    refine y_getI d_M_formula_163 fl_11_185 rfl kd_78 ?_
    refine x_if_ne (tgt := 181) d_M_formula_166 rfl (fun c52 => ?_) (fun c52 => ?_)
    · replace h := ite_f c52 h
      exact J181 S  _ h
    · replace h := ite_t c52 h
      refine x_aload_n d_M_formula_169 rfl 0 rfl ?_
      obtain ⟨v54, q53, h⟩ := bd_inv h
      refine y_V0i (v := v54) (S1 := S) d_M_formula_170 ml_11_309 kd_78 rfl (Nat.le_of_ble_eq_true rfl) (Nat.le_of_ble_eq_true rfl) (c_M_hasBracket (by omega) q53) ?_
      refine x_if_eq (tgt := 181) d_M_formula_173 rfl (fun c55 => ?_) (fun c55 => ?_)
      · replace h := ite_t c55 h
        exact J181 S  _ h
      · replace h := ite_f c55 h
        refine x_aload_n d_M_formula_176 rfl 0 rfl ?_
        refine x_iconst d_M_formula_177 ic_2 ?_
        obtain ⟨S57, q56, h⟩ := bd_inv h
        refine y_V1v (S1 := S57) d_M_formula_178 ml_11_238 kd_78 rfl (Nat.le_of_ble_eq_true rfl) (Nat.le_of_ble_eq_true rfl) (c_M_wrong (by omega) q56) ?_
        exact J181 S57  _ h
  refine x_aload_n d_M_formula_0 rfl 0 rfl ?_
  obtain ⟨S2, q1, h⟩ := bd_inv h
  refine y_V0v (S1 := S2) d_M_formula_1 ml_11_241 kd_78 rfl (Nat.le_of_ble_eq_true rfl) (Nat.le_of_ble_eq_true rfl) (c_M_token (by omega) q1) ?_
  refine x_aload_n d_M_formula_4 rfl 0 rfl ?_
  refine x_iconst d_M_formula_5 ic_1 ?_
  obtain ⟨S3, e4, h⟩ := lt_inv h
  refine y_putI e4 d_M_formula_6 fl_11_299 rfl rfl kd_78 rfl rfl ?_
  refine x_aload_n d_M_formula_9 rfl 0 rfl ?_
  refine x_iconst d_M_formula_10 ic_0 ?_
  obtain ⟨S5, e6, h⟩ := lt_inv h
  refine y_putI e6 d_M_formula_11 fl_11_261 rfl rfl kd_78 rfl rfl ?_
  refine x_aload_n d_M_formula_14 rfl 0 rfl ?_
  refine x_iconst d_M_formula_15 ic_0 ?_
  obtain ⟨S7, e8, h⟩ := lt_inv h
  refine y_putI e8 d_M_formula_16 fl_11_264 rfl rfl kd_78 rfl rfl ?_
  refine x_aload_n d_M_formula_19 rfl 0 rfl ?_
  refine x_iconst d_M_formula_20 ic_0 ?_
  obtain ⟨S9, e10, h⟩ := lt_inv h
  refine y_putI e10 d_M_formula_21 fl_11_274 rfl rfl kd_78 rfl rfl ?_
  refine x_aload_n d_M_formula_24 rfl 0 rfl ?_
  refine x_iconst d_M_formula_25 ic_0 ?_
  obtain ⟨S11, e12, h⟩ := lt_inv h
  refine y_putI e12 d_M_formula_26 fl_11_280 rfl rfl kd_78 rfl rfl ?_
  refine x_aload_n d_M_formula_29 rfl 0 rfl ?_
  obtain ⟨S14, q13, h⟩ := bd_inv h
  refine y_V0v (S1 := S14) d_M_formula_30 ml_11_303 kd_78 rfl (Nat.le_of_ble_eq_true rfl) (Nat.le_of_ble_eq_true rfl) (c_M_unit (by omega) q13) ?_
  refine x_iconst d_M_formula_33 ic_1 ?_
  refine x_istore_n (L1 := [(0, .ref 78), (1, .int (1 : Int32))]) d_M_formula_34 rfl (Nat.le_of_ble_eq_true rfl) rfl rfl ?_
  refine T_M_formula_35 (by omega)  ?_ F (1 : Int32) S14 _ h
  · intro S51 res h
    exact J162 S51  _ h
/-! NinetyPlayersModel.readLine -/
def j_M_readLine_295 (F G : Nat) (S : St) : Option (St) :=
  if (S.1 78 2) = 0 then bd (fM_token F G S ) fun S82 => some S82 else some S
def j_M_readLine_269 (F G : Nat) (S : St) : Option (St) :=
  lt (sI S 78 53 (1 : Int32)) fun S74 => if (S74.1 78 2) = 0 then if (S74.1 78 6) = (59 : Int32) then j_M_readLine_295 F G  S74  else bd (fM_wrong F G S74 (2 : Int32)) fun S79 => j_M_readLine_295 F G  S79  else j_M_readLine_295 F G  S74 
def j_M_readLine_264 (F G : Nat) (S : St) : Option (St) :=
  bd (fM_wrong F G S (2 : Int32)) fun S73 => j_M_readLine_269 F G  S73 
def j_M_readLine_225 (F G : Nat) (S : St) : Option (St) :=
  bd (fM_isWord F G S (6644082 : Int64)) fun v62 => if v62 = 0 then j_M_readLine_264 F G  S  else if (S.1 78 57) = 0 then lt (sI S 78 57 (1 : Int32)) fun S65 => bd2 (fM_told F G S65 (6644082 : Int64) (0 : Int32) (9 : Int32)) fun v68 S69 => lt (sI S69 78 45 v68) fun S70 => j_M_readLine_269 F G  S70  else j_M_readLine_264 F G  S 
def j_M_readLine_186 (F G : Nat) (S : St) : Option (St) :=
  bd (fM_isWord F G S (1818583408 : Int64)) fun v51 => if v51 = 0 then j_M_readLine_225 F G  S  else if (S.1 78 56) = 0 then lt (sI S 78 56 (1 : Int32)) fun S54 => bd2 (fM_told F G S54 (1818583408 : Int64) (0 : Int32) (87 : Int32)) fun v57 S58 => lt (sI S58 78 44 v57) fun S59 => j_M_readLine_269 F G  S59  else j_M_readLine_225 F G  S 
def j_M_readLine_148 (F G : Nat) (S : St) : Option (St) :=
  bd (fM_isWord F G S (28826370526507635 : Int64)) fun v40 => if v40 = 0 then j_M_readLine_186 F G  S  else if (S.1 78 55) = 0 then lt (sI S 78 55 (1 : Int32)) fun S43 => bd2 (fM_told F G S43 (28826370526507635 : Int64) (1 : Int32) (5 : Int32)) fun v46 S47 => lt (sI S47 78 43 v46) fun S48 => j_M_readLine_269 F G  S48  else j_M_readLine_186 F G  S 
def j_M_readLine_109 (F G : Nat) (S : St) : Option (St) :=
  bd (fM_isWord F G S (1936744814 : Int64)) fun v29 => if v29 = 0 then j_M_readLine_148 F G  S  else if (S.1 78 54) = 0 then lt (sI S 78 54 (1 : Int32)) fun S32 => bd2 (fM_told F G S32 (1936744814 : Int64) (0 : Int32) (87 : Int32)) fun v35 S36 => lt (sI S36 78 42 v35) fun S37 => j_M_readLine_269 F G  S37  else j_M_readLine_148 F G  S 
def j_M_readLine_85 (F G : Nat) (S : St) : Option (St) :=
  bd (fM_isWord F G S (120299675936100 : Int64)) fun v23 => if v23 = 0 then j_M_readLine_109 F G  S  else if (S.1 78 24) = 0 then bd (fM_formula F G S ) fun S27 => j_M_readLine_269 F G  S27  else j_M_readLine_109 F G  S 
def j_M_readLine_59 (F G : Nat) (S : St) : Option (St) :=
  bd (fM_isWord F G S (1852798053 : Int64)) fun v17 => if v17 = 0 then j_M_readLine_85 F G  S  else if (10 : Int32) ≤ (S.1 78 41) then j_M_readLine_85 F G  S  else bd (fM_readNote F G S ) fun S21 => j_M_readLine_269 F G  S21 
def j_M_readLine_34 (F G : Nat) (S : St) : Option (St) :=
  bd (fM_isWord F G S (1885434484 : Int64)) fun v11 => if v11 = 0 then j_M_readLine_59 F G  S  else if (4 : Int32) ≤ (S.1 78 40) then j_M_readLine_59 F G  S  else bd (fM_readPart F G S ) fun S15 => j_M_readLine_269 F G  S15 
def fM_readLine (F G : Nat) (S : St) : Option (St) :=
  bd (fM_isWord F G S (422607680627 : Int64)) fun v2 => if v2 = 0 then j_M_readLine_34 F G  S  else if (S.1 78 53) = 0 then bd2 (fM_told F G S (422607680627 : Int64) (1 : Int32) (12 : Int32)) fun v6 S7 => lt (sI S7 78 39 v6) fun S8 => j_M_readLine_269 F G  S8  else j_M_readLine_34 F G  S 
set_option maxRecDepth 100000 in
set_option maxHeartbeats 4000000 in
theorem c_M_readLine {X : Nat × (Nat → Int32)} {D F G : Nat} (hD : 5 ≤ D) {S : St} {res : St} (h : fM_readLine F G S  = some res) : Ek X (D) mM_readLine 0 [(0, .ref 78)] [] S none res := by
  obtain ⟨D, rfl⟩ : ∃ E, D = E + 1 := ⟨D - 1, by omega⟩
  unfold fM_readLine at h
  have J295 : ∀ (S : St) (res : St), j_M_readLine_295 F G S  = some res → Ek X (D + 1) mM_readLine 295 [(0, .ref 78)] [] S none res := by
    intro S  res h
    unfold j_M_readLine_295 at h
    refine x_aload_n d_M_readLine_295 rfl 0 rfl ?_
    refine y_getI d_M_readLine_296 fl_11_185 rfl kd_78 ?_
    refine x_if_ne (tgt := 306) d_M_readLine_299 rfl (fun c80 => ?_) (fun c80 => ?_)
    · replace h := ite_f c80 h
      obtain rfl := Option.some.inj h
      exact x_ret (r := none) d_M_readLine_306 rfl
    · replace h := ite_t c80 h
      refine x_aload_n d_M_readLine_302 rfl 0 rfl ?_
      obtain ⟨S82, q81, h⟩ := bd_inv h
      refine y_V0v (S1 := S82) d_M_readLine_303 ml_11_241 kd_78 rfl (Nat.le_of_ble_eq_true rfl) (Nat.le_of_ble_eq_true rfl) (c_M_token (by omega) q81) ?_
      obtain rfl := Option.some.inj h
      exact x_ret (r := none) d_M_readLine_306 rfl
  have J269 : ∀ (S : St) (res : St), j_M_readLine_269 F G S  = some res → Ek X (D + 1) mM_readLine 269 [(0, .ref 78)] [] S none res := by
    intro S  res h
    unfold j_M_readLine_269 at h
    refine x_aload_n d_M_readLine_269 rfl 0 rfl ?_
    refine x_iconst d_M_readLine_270 ic_1 ?_
    obtain ⟨S74, e75, h⟩ := lt_inv h
    refine y_putI e75 d_M_readLine_271 fl_11_363 rfl rfl kd_78 rfl rfl ?_
    refine x_aload_n d_M_readLine_274 rfl 0 rfl ?_
    refine y_getI d_M_readLine_275 fl_11_185 rfl kd_78 ?_
    refine x_if_ne (tgt := 295) d_M_readLine_278 rfl (fun c76 => ?_) (fun c76 => ?_)
    · replace h := ite_f c76 h
      exact J295 S74  _ h
    · replace h := ite_t c76 h
      refine x_aload_n d_M_readLine_281 rfl 0 rfl ?_
      refine y_getI d_M_readLine_282 fl_11_172 rfl kd_78 ?_
      refine x_bipush d_M_readLine_285 bp_59 ?_
      refine x_icmp_eq (tgt := 295) d_M_readLine_287 rfl (fun c77 => ?_) (fun c77 => ?_)
      · replace h := ite_t c77 h
        exact J295 S74  _ h
      · replace h := ite_f c77 h
        refine x_aload_n d_M_readLine_290 rfl 0 rfl ?_
        refine x_iconst d_M_readLine_291 ic_2 ?_
        obtain ⟨S79, q78, h⟩ := bd_inv h
        refine y_V1v (S1 := S79) d_M_readLine_292 ml_11_238 kd_78 rfl (Nat.le_of_ble_eq_true rfl) (Nat.le_of_ble_eq_true rfl) (c_M_wrong (by omega) q78) ?_
        exact J295 S79  _ h
  have J264 : ∀ (S : St) (res : St), j_M_readLine_264 F G S  = some res → Ek X (D + 1) mM_readLine 264 [(0, .ref 78)] [] S none res := by
    intro S  res h
    unfold j_M_readLine_264 at h
    refine x_aload_n d_M_readLine_264 rfl 0 rfl ?_
    refine x_iconst d_M_readLine_265 ic_2 ?_
    obtain ⟨S73, q72, h⟩ := bd_inv h
    refine y_V1v (S1 := S73) d_M_readLine_266 ml_11_238 kd_78 rfl (Nat.le_of_ble_eq_true rfl) (Nat.le_of_ble_eq_true rfl) (c_M_wrong (by omega) q72) ?_
    exact J269 S73  _ h
  have J225 : ∀ (S : St) (res : St), j_M_readLine_225 F G S  = some res → Ek X (D + 1) mM_readLine 225 [(0, .ref 78)] [] S none res := by
    intro S  res h
    unfold j_M_readLine_225 at h
    refine x_aload_n d_M_readLine_225 rfl 0 rfl ?_
    refine x_ldc2 d_M_readLine_226 kc_11_216 ?_
    obtain ⟨v62, q61, h⟩ := bd_inv h
    refine y_V1i (v := v62) (S1 := S) d_M_readLine_229 ml_11_234 kd_78 rfl (Nat.le_of_ble_eq_true rfl) (Nat.le_of_ble_eq_true rfl) (c_M_isWord (by omega) q61) ?_
    refine x_if_eq (tgt := 264) d_M_readLine_232 rfl (fun c63 => ?_) (fun c63 => ?_)
    · replace h := ite_t c63 h
      exact J264 S  _ h
    · replace h := ite_f c63 h
      refine x_aload_n d_M_readLine_235 rfl 0 rfl ?_
      refine y_getI d_M_readLine_236 fl_11_393 rfl kd_78 ?_
      refine x_if_ne (tgt := 264) d_M_readLine_239 rfl (fun c64 => ?_) (fun c64 => ?_)
      · replace h := ite_f c64 h
        exact J264 S  _ h
      · replace h := ite_t c64 h
        refine x_aload_n d_M_readLine_242 rfl 0 rfl ?_
        refine x_iconst d_M_readLine_243 ic_1 ?_
        obtain ⟨S65, e66, h⟩ := lt_inv h
        refine y_putI e66 d_M_readLine_244 fl_11_393 rfl rfl kd_78 rfl rfl ?_
        refine x_aload_n d_M_readLine_247 rfl 0 rfl ?_
        refine x_aload_n d_M_readLine_248 rfl 0 rfl ?_
        refine x_ldc2 d_M_readLine_249 kc_11_216 ?_
        refine x_iconst d_M_readLine_252 ic_0 ?_
        refine x_bipush d_M_readLine_253 bp_9 ?_
        obtain ⟨v68, S69, q67, h⟩ := bd2_inv h
        refine y_V3i (v := v68) (S1 := S69) d_M_readLine_255 ml_11_359 kd_78 rfl (Nat.le_of_ble_eq_true rfl) (Nat.le_of_ble_eq_true rfl) (c_M_told (by omega) q67) ?_
        obtain ⟨S70, e71, h⟩ := lt_inv h
        refine y_putI e71 d_M_readLine_258 fl_11_396 rfl rfl kd_78 rfl rfl ?_
        refine x_goto (tgt := 269) d_M_readLine_261 rfl ?_
        exact J269 S70  _ h
  have J186 : ∀ (S : St) (res : St), j_M_readLine_186 F G S  = some res → Ek X (D + 1) mM_readLine 186 [(0, .ref 78)] [] S none res := by
    intro S  res h
    unfold j_M_readLine_186 at h
    refine x_aload_n d_M_readLine_186 rfl 0 rfl ?_
    refine x_ldc2 d_M_readLine_187 kc_11_214 ?_
    obtain ⟨v51, q50, h⟩ := bd_inv h
    refine y_V1i (v := v51) (S1 := S) d_M_readLine_190 ml_11_234 kd_78 rfl (Nat.le_of_ble_eq_true rfl) (Nat.le_of_ble_eq_true rfl) (c_M_isWord (by omega) q50) ?_
    refine x_if_eq (tgt := 225) d_M_readLine_193 rfl (fun c52 => ?_) (fun c52 => ?_)
    · replace h := ite_t c52 h
      exact J225 S  _ h
    · replace h := ite_f c52 h
      refine x_aload_n d_M_readLine_196 rfl 0 rfl ?_
      refine y_getI d_M_readLine_197 fl_11_387 rfl kd_78 ?_
      refine x_if_ne (tgt := 225) d_M_readLine_200 rfl (fun c53 => ?_) (fun c53 => ?_)
      · replace h := ite_f c53 h
        exact J225 S  _ h
      · replace h := ite_t c53 h
        refine x_aload_n d_M_readLine_203 rfl 0 rfl ?_
        refine x_iconst d_M_readLine_204 ic_1 ?_
        obtain ⟨S54, e55, h⟩ := lt_inv h
        refine y_putI e55 d_M_readLine_205 fl_11_387 rfl rfl kd_78 rfl rfl ?_
        refine x_aload_n d_M_readLine_208 rfl 0 rfl ?_
        refine x_aload_n d_M_readLine_209 rfl 0 rfl ?_
        refine x_ldc2 d_M_readLine_210 kc_11_214 ?_
        refine x_iconst d_M_readLine_213 ic_0 ?_
        refine x_bipush d_M_readLine_214 bp_87 ?_
        obtain ⟨v57, S58, q56, h⟩ := bd2_inv h
        refine y_V3i (v := v57) (S1 := S58) d_M_readLine_216 ml_11_359 kd_78 rfl (Nat.le_of_ble_eq_true rfl) (Nat.le_of_ble_eq_true rfl) (c_M_told (by omega) q56) ?_
        obtain ⟨S59, e60, h⟩ := lt_inv h
        refine y_putI e60 d_M_readLine_219 fl_11_390 rfl rfl kd_78 rfl rfl ?_
        refine x_goto (tgt := 269) d_M_readLine_222 rfl ?_
        exact J269 S59  _ h
  have J148 : ∀ (S : St) (res : St), j_M_readLine_148 F G S  = some res → Ek X (D + 1) mM_readLine 148 [(0, .ref 78)] [] S none res := by
    intro S  res h
    unfold j_M_readLine_148 at h
    refine x_aload_n d_M_readLine_148 rfl 0 rfl ?_
    refine x_ldc2 d_M_readLine_149 kc_11_212 ?_
    obtain ⟨v40, q39, h⟩ := bd_inv h
    refine y_V1i (v := v40) (S1 := S) d_M_readLine_152 ml_11_234 kd_78 rfl (Nat.le_of_ble_eq_true rfl) (Nat.le_of_ble_eq_true rfl) (c_M_isWord (by omega) q39) ?_
    refine x_if_eq (tgt := 186) d_M_readLine_155 rfl (fun c41 => ?_) (fun c41 => ?_)
    · replace h := ite_t c41 h
      exact J186 S  _ h
    · replace h := ite_f c41 h
      refine x_aload_n d_M_readLine_158 rfl 0 rfl ?_
      refine y_getI d_M_readLine_159 fl_11_381 rfl kd_78 ?_
      refine x_if_ne (tgt := 186) d_M_readLine_162 rfl (fun c42 => ?_) (fun c42 => ?_)
      · replace h := ite_f c42 h
        exact J186 S  _ h
      · replace h := ite_t c42 h
        refine x_aload_n d_M_readLine_165 rfl 0 rfl ?_
        refine x_iconst d_M_readLine_166 ic_1 ?_
        obtain ⟨S43, e44, h⟩ := lt_inv h
        refine y_putI e44 d_M_readLine_167 fl_11_381 rfl rfl kd_78 rfl rfl ?_
        refine x_aload_n d_M_readLine_170 rfl 0 rfl ?_
        refine x_aload_n d_M_readLine_171 rfl 0 rfl ?_
        refine x_ldc2 d_M_readLine_172 kc_11_212 ?_
        refine x_iconst d_M_readLine_175 ic_1 ?_
        refine x_iconst d_M_readLine_176 ic_5 ?_
        obtain ⟨v46, S47, q45, h⟩ := bd2_inv h
        refine y_V3i (v := v46) (S1 := S47) d_M_readLine_177 ml_11_359 kd_78 rfl (Nat.le_of_ble_eq_true rfl) (Nat.le_of_ble_eq_true rfl) (c_M_told (by omega) q45) ?_
        obtain ⟨S48, e49, h⟩ := lt_inv h
        refine y_putI e49 d_M_readLine_180 fl_11_384 rfl rfl kd_78 rfl rfl ?_
        refine x_goto (tgt := 269) d_M_readLine_183 rfl ?_
        exact J269 S48  _ h
  have J109 : ∀ (S : St) (res : St), j_M_readLine_109 F G S  = some res → Ek X (D + 1) mM_readLine 109 [(0, .ref 78)] [] S none res := by
    intro S  res h
    unfold j_M_readLine_109 at h
    refine x_aload_n d_M_readLine_109 rfl 0 rfl ?_
    refine x_ldc2 d_M_readLine_110 kc_11_210 ?_
    obtain ⟨v29, q28, h⟩ := bd_inv h
    refine y_V1i (v := v29) (S1 := S) d_M_readLine_113 ml_11_234 kd_78 rfl (Nat.le_of_ble_eq_true rfl) (Nat.le_of_ble_eq_true rfl) (c_M_isWord (by omega) q28) ?_
    refine x_if_eq (tgt := 148) d_M_readLine_116 rfl (fun c30 => ?_) (fun c30 => ?_)
    · replace h := ite_t c30 h
      exact J148 S  _ h
    · replace h := ite_f c30 h
      refine x_aload_n d_M_readLine_119 rfl 0 rfl ?_
      refine y_getI d_M_readLine_120 fl_11_375 rfl kd_78 ?_
      refine x_if_ne (tgt := 148) d_M_readLine_123 rfl (fun c31 => ?_) (fun c31 => ?_)
      · replace h := ite_f c31 h
        exact J148 S  _ h
      · replace h := ite_t c31 h
        refine x_aload_n d_M_readLine_126 rfl 0 rfl ?_
        refine x_iconst d_M_readLine_127 ic_1 ?_
        obtain ⟨S32, e33, h⟩ := lt_inv h
        refine y_putI e33 d_M_readLine_128 fl_11_375 rfl rfl kd_78 rfl rfl ?_
        refine x_aload_n d_M_readLine_131 rfl 0 rfl ?_
        refine x_aload_n d_M_readLine_132 rfl 0 rfl ?_
        refine x_ldc2 d_M_readLine_133 kc_11_210 ?_
        refine x_iconst d_M_readLine_136 ic_0 ?_
        refine x_bipush d_M_readLine_137 bp_87 ?_
        obtain ⟨v35, S36, q34, h⟩ := bd2_inv h
        refine y_V3i (v := v35) (S1 := S36) d_M_readLine_139 ml_11_359 kd_78 rfl (Nat.le_of_ble_eq_true rfl) (Nat.le_of_ble_eq_true rfl) (c_M_told (by omega) q34) ?_
        obtain ⟨S37, e38, h⟩ := lt_inv h
        refine y_putI e38 d_M_readLine_142 fl_11_378 rfl rfl kd_78 rfl rfl ?_
        refine x_goto (tgt := 269) d_M_readLine_145 rfl ?_
        exact J269 S37  _ h
  have J85 : ∀ (S : St) (res : St), j_M_readLine_85 F G S  = some res → Ek X (D + 1) mM_readLine 85 [(0, .ref 78)] [] S none res := by
    intro S  res h
    unfold j_M_readLine_85 at h
    refine x_aload_n d_M_readLine_85 rfl 0 rfl ?_
    refine x_ldc2 d_M_readLine_86 kc_11_208 ?_
    obtain ⟨v23, q22, h⟩ := bd_inv h
    refine y_V1i (v := v23) (S1 := S) d_M_readLine_89 ml_11_234 kd_78 rfl (Nat.le_of_ble_eq_true rfl) (Nat.le_of_ble_eq_true rfl) (c_M_isWord (by omega) q22) ?_
    refine x_if_eq (tgt := 109) d_M_readLine_92 rfl (fun c24 => ?_) (fun c24 => ?_)
    · replace h := ite_t c24 h
      exact J109 S  _ h
    · replace h := ite_f c24 h
      refine x_aload_n d_M_readLine_95 rfl 0 rfl ?_
      refine y_getI d_M_readLine_96 fl_11_299 rfl kd_78 ?_
      refine x_if_ne (tgt := 109) d_M_readLine_99 rfl (fun c25 => ?_) (fun c25 => ?_)
      · replace h := ite_f c25 h
        exact J109 S  _ h
      · replace h := ite_t c25 h
        refine x_aload_n d_M_readLine_102 rfl 0 rfl ?_
        obtain ⟨S27, q26, h⟩ := bd_inv h
        refine y_V0v (S1 := S27) d_M_readLine_103 ml_11_372 kd_78 rfl (Nat.le_of_ble_eq_true rfl) (Nat.le_of_ble_eq_true rfl) (c_M_formula (by omega) q26) ?_
        refine x_goto (tgt := 269) d_M_readLine_106 rfl ?_
        exact J269 S27  _ h
  have J59 : ∀ (S : St) (res : St), j_M_readLine_59 F G S  = some res → Ek X (D + 1) mM_readLine 59 [(0, .ref 78)] [] S none res := by
    intro S  res h
    unfold j_M_readLine_59 at h
    refine x_aload_n d_M_readLine_59 rfl 0 rfl ?_
    refine x_ldc2 d_M_readLine_60 kc_11_196 ?_
    obtain ⟨v17, q16, h⟩ := bd_inv h
    refine y_V1i (v := v17) (S1 := S) d_M_readLine_63 ml_11_234 kd_78 rfl (Nat.le_of_ble_eq_true rfl) (Nat.le_of_ble_eq_true rfl) (c_M_isWord (by omega) q16) ?_
    refine x_if_eq (tgt := 85) d_M_readLine_66 rfl (fun c18 => ?_) (fun c18 => ?_)
    · replace h := ite_t c18 h
      exact J85 S  _ h
    · replace h := ite_f c18 h
      refine x_aload_n d_M_readLine_69 rfl 0 rfl ?_
      refine y_getI d_M_readLine_70 fl_11_350 rfl kd_78 ?_
      refine x_bipush d_M_readLine_73 bp_10 ?_
      refine x_icmp_ge (tgt := 85) d_M_readLine_75 rfl (fun c19 => ?_) (fun c19 => ?_)
      · replace h := ite_t c19 h
        exact J85 S  _ h
      · replace h := ite_f c19 h
        refine x_aload_n d_M_readLine_78 rfl 0 rfl ?_
        obtain ⟨S21, q20, h⟩ := bd_inv h
        refine y_V0v (S1 := S21) d_M_readLine_79 ml_11_369 kd_78 rfl (Nat.le_of_ble_eq_true rfl) (Nat.le_of_ble_eq_true rfl) (c_M_readNote (by omega) q20) ?_
        refine x_goto (tgt := 269) d_M_readLine_82 rfl ?_
        exact J269 S21  _ h
  have J34 : ∀ (S : St) (res : St), j_M_readLine_34 F G S  = some res → Ek X (D + 1) mM_readLine 34 [(0, .ref 78)] [] S none res := by
    intro S  res h
    unfold j_M_readLine_34 at h
    refine x_aload_n d_M_readLine_34 rfl 0 rfl ?_
    refine x_ldc2 d_M_readLine_35 kc_11_190 ?_
    obtain ⟨v11, q10, h⟩ := bd_inv h
    refine y_V1i (v := v11) (S1 := S) d_M_readLine_38 ml_11_234 kd_78 rfl (Nat.le_of_ble_eq_true rfl) (Nat.le_of_ble_eq_true rfl) (c_M_isWord (by omega) q10) ?_
    refine x_if_eq (tgt := 59) d_M_readLine_41 rfl (fun c12 => ?_) (fun c12 => ?_)
    · replace h := ite_t c12 h
      exact J59 S  _ h
    · replace h := ite_f c12 h
      refine x_aload_n d_M_readLine_44 rfl 0 rfl ?_
      refine y_getI d_M_readLine_45 fl_11_258 rfl kd_78 ?_
      refine x_iconst d_M_readLine_48 ic_4 ?_
      refine x_icmp_ge (tgt := 59) d_M_readLine_49 rfl (fun c13 => ?_) (fun c13 => ?_)
      · replace h := ite_t c13 h
        exact J59 S  _ h
      · replace h := ite_f c13 h
        refine x_aload_n d_M_readLine_52 rfl 0 rfl ?_
        obtain ⟨S15, q14, h⟩ := bd_inv h
        refine y_V0v (S1 := S15) d_M_readLine_53 ml_11_366 kd_78 rfl (Nat.le_of_ble_eq_true rfl) (Nat.le_of_ble_eq_true rfl) (c_M_readPart (by omega) q14) ?_
        refine x_goto (tgt := 269) d_M_readLine_56 rfl ?_
        exact J269 S15  _ h
  refine x_aload_n d_M_readLine_0 rfl 0 rfl ?_
  refine x_ldc2 d_M_readLine_1 kc_11_188 ?_
  obtain ⟨v2, q1, h⟩ := bd_inv h
  refine y_V1i (v := v2) (S1 := S) d_M_readLine_4 ml_11_234 kd_78 rfl (Nat.le_of_ble_eq_true rfl) (Nat.le_of_ble_eq_true rfl) (c_M_isWord (by omega) q1) ?_
  refine x_if_eq (tgt := 34) d_M_readLine_7 rfl (fun c3 => ?_) (fun c3 => ?_)
  · replace h := ite_t c3 h
    exact J34 S  _ h
  · replace h := ite_f c3 h
    refine x_aload_n d_M_readLine_10 rfl 0 rfl ?_
    refine y_getI d_M_readLine_11 fl_11_363 rfl kd_78 ?_
    refine x_if_ne (tgt := 34) d_M_readLine_14 rfl (fun c4 => ?_) (fun c4 => ?_)
    · replace h := ite_f c4 h
      exact J34 S  _ h
    · replace h := ite_t c4 h
      refine x_aload_n d_M_readLine_17 rfl 0 rfl ?_
      refine x_aload_n d_M_readLine_18 rfl 0 rfl ?_
      refine x_ldc2 d_M_readLine_19 kc_11_188 ?_
      refine x_iconst d_M_readLine_22 ic_1 ?_
      refine x_bipush d_M_readLine_23 bp_12 ?_
      obtain ⟨v6, S7, q5, h⟩ := bd2_inv h
      refine y_V3i (v := v6) (S1 := S7) d_M_readLine_25 ml_11_359 kd_78 rfl (Nat.le_of_ble_eq_true rfl) (Nat.le_of_ble_eq_true rfl) (c_M_told (by omega) q5) ?_
      obtain ⟨S8, e9, h⟩ := lt_inv h
      refine y_putI e9 d_M_readLine_28 fl_11_356 rfl rfl kd_78 rfl rfl ?_
      refine x_goto (tgt := 269) d_M_readLine_31 rfl ?_
      exact J269 S8  _ h
/-! NinetyPlayersModel.readAll -/
def b_M_readAll_105 (F G : Nat) (rec : St → Option (St)) (S : St) : Option (St) :=
  if (S.1 78 2) = 0 then if (S.1 78 6) = 0 then some S else bd (fM_readLine F G S ) fun S44 => rec S44 else some S
def fM_readAll (F G : Nat) (S : St) : Option (St) :=
  lt (sI S 78 5 (S.1 78 1)) fun S1 => lt (sI S1 78 1 (0 : Int32)) fun S3 => lt (sI S3 78 4 (0 : Int32)) fun S5 => lt (sI S5 78 2 (0 : Int32)) fun S7 => lt (sI S7 78 3 (-1 : Int32)) fun S9 => lt (sI S9 78 39 (12 : Int32)) fun S11 => lt (sI S11 78 40 (0 : Int32)) fun S13 => lt (sI S13 78 41 (0 : Int32)) fun S15 => lt (sI S15 78 42 (12 : Int32)) fun S17 => lt (sI S17 78 43 (5 : Int32)) fun S19 => lt (sI S19 78 44 (20 : Int32)) fun S21 => lt (sI S21 78 45 (2 : Int32)) fun S23 => lt (sI S23 78 53 (0 : Int32)) fun S25 => lt (sI S25 78 54 (0 : Int32)) fun S27 => lt (sI S27 78 55 (0 : Int32)) fun S29 => lt (sI S29 78 56 (0 : Int32)) fun S31 => lt (sI S31 78 57 (0 : Int32)) fun S33 => lt (sI S33 78 24 (0 : Int32)) fun S35 => lt (sI S35 78 20 (0 : Int32)) fun S37 => bd (fM_token F G S37 ) fun S40 => fx1 (b_M_readAll_105 F G ) F S40
set_option maxRecDepth 100000 in
set_option maxHeartbeats 4000000 in
theorem T_M_readAll_105 {X : Nat × (Nat → Int32)} {D F G : Nat} (hD : 6 ≤ D + 1) : ∀ (f : Nat) (S : St) (res : St), fx1 (b_M_readAll_105 F G ) f S = some res → Ek X (D + 1) mM_readAll 105 [(0, .ref 78)] [] S none res := by
  refine fx1_ind ?_
  intro rec ih S res h
  unfold b_M_readAll_105 at h
  refine x_aload_n d_M_readAll_105 rfl 0 rfl ?_
  refine y_getI d_M_readAll_106 fl_11_185 rfl kd_78 ?_
  refine x_if_ne (tgt := 126) d_M_readAll_109 rfl (fun c41 => ?_) (fun c41 => ?_)
  · replace h := ite_f c41 h
    obtain rfl := Option.some.inj h
    exact x_ret (r := none) d_M_readAll_126 rfl
  · replace h := ite_t c41 h
    refine x_aload_n d_M_readAll_112 rfl 0 rfl ?_
    refine y_getI d_M_readAll_113 fl_11_172 rfl kd_78 ?_
    refine x_if_eq (tgt := 126) d_M_readAll_116 rfl (fun c42 => ?_) (fun c42 => ?_)
    · replace h := ite_t c42 h
      obtain rfl := Option.some.inj h
      exact x_ret (r := none) d_M_readAll_126 rfl
    · replace h := ite_f c42 h
      refine x_aload_n d_M_readAll_119 rfl 0 rfl ?_
      obtain ⟨S44, q43, h⟩ := bd_inv h
      refine y_V0v (S1 := S44) d_M_readAll_120 ml_11_399 kd_78 rfl (Nat.le_of_ble_eq_true rfl) (Nat.le_of_ble_eq_true rfl) (c_M_readLine (by omega) q43) ?_
      refine x_goto (tgt := 105) d_M_readAll_123 rfl ?_
      exact ih S44 _ h
set_option maxRecDepth 100000 in
set_option maxHeartbeats 4000000 in
theorem c_M_readAll {X : Nat × (Nat → Int32)} {D F G : Nat} (hD : 6 ≤ D) {S : St} {res : St} (h : fM_readAll F G S  = some res) : Ek X (D) mM_readAll 0 [(0, .ref 78)] [] S none res := by
  obtain ⟨D, rfl⟩ : ∃ E, D = E + 1 := ⟨D - 1, by omega⟩
  unfold fM_readAll at h
  refine x_aload_n d_M_readAll_0 rfl 0 rfl ?_
  refine x_aload_n d_M_readAll_1 rfl 0 rfl ?_
  refine y_getI d_M_readAll_2 fl_11_145 rfl kd_78 ?_
  obtain ⟨S1, e2, h⟩ := lt_inv h
  refine y_putI e2 d_M_readAll_5 fl_11_155 rfl rfl kd_78 rfl rfl ?_
  refine x_aload_n d_M_readAll_8 rfl 0 rfl ?_
  refine x_iconst d_M_readAll_9 ic_0 ?_
  obtain ⟨S3, e4, h⟩ := lt_inv h
  refine y_putI e4 d_M_readAll_10 fl_11_145 rfl rfl kd_78 rfl rfl ?_
  refine x_aload_n d_M_readAll_13 rfl 0 rfl ?_
  refine x_iconst d_M_readAll_14 ic_0 ?_
  obtain ⟨S5, e6, h⟩ := lt_inv h
  refine y_putI e6 d_M_readAll_15 fl_11_152 rfl rfl kd_78 rfl rfl ?_
  refine x_aload_n d_M_readAll_18 rfl 0 rfl ?_
  refine x_iconst d_M_readAll_19 ic_0 ?_
  obtain ⟨S7, e8, h⟩ := lt_inv h
  refine y_putI e8 d_M_readAll_20 fl_11_185 rfl rfl kd_78 rfl rfl ?_
  refine x_aload_n d_M_readAll_23 rfl 0 rfl ?_
  refine x_iconst d_M_readAll_24 ic_m1 ?_
  obtain ⟨S9, e10, h⟩ := lt_inv h
  refine y_putI e10 d_M_readAll_25 fl_11_13 rfl rfl kd_78 rfl rfl ?_
  refine x_aload_n d_M_readAll_28 rfl 0 rfl ?_
  refine x_bipush d_M_readAll_29 bp_12 ?_
  obtain ⟨S11, e12, h⟩ := lt_inv h
  refine y_putI e12 d_M_readAll_31 fl_11_356 rfl rfl kd_78 rfl rfl ?_
  refine x_aload_n d_M_readAll_34 rfl 0 rfl ?_
  refine x_iconst d_M_readAll_35 ic_0 ?_
  obtain ⟨S13, e14, h⟩ := lt_inv h
  refine y_putI e14 d_M_readAll_36 fl_11_258 rfl rfl kd_78 rfl rfl ?_
  refine x_aload_n d_M_readAll_39 rfl 0 rfl ?_
  refine x_iconst d_M_readAll_40 ic_0 ?_
  obtain ⟨S15, e16, h⟩ := lt_inv h
  refine y_putI e16 d_M_readAll_41 fl_11_350 rfl rfl kd_78 rfl rfl ?_
  refine x_aload_n d_M_readAll_44 rfl 0 rfl ?_
  refine x_bipush d_M_readAll_45 bp_12 ?_
  obtain ⟨S17, e18, h⟩ := lt_inv h
  refine y_putI e18 d_M_readAll_47 fl_11_378 rfl rfl kd_78 rfl rfl ?_
  refine x_aload_n d_M_readAll_50 rfl 0 rfl ?_
  refine x_iconst d_M_readAll_51 ic_5 ?_
  obtain ⟨S19, e20, h⟩ := lt_inv h
  refine y_putI e20 d_M_readAll_52 fl_11_384 rfl rfl kd_78 rfl rfl ?_
  refine x_aload_n d_M_readAll_55 rfl 0 rfl ?_
  refine x_bipush d_M_readAll_56 bp_20 ?_
  obtain ⟨S21, e22, h⟩ := lt_inv h
  refine y_putI e22 d_M_readAll_58 fl_11_390 rfl rfl kd_78 rfl rfl ?_
  refine x_aload_n d_M_readAll_61 rfl 0 rfl ?_
  refine x_iconst d_M_readAll_62 ic_2 ?_
  obtain ⟨S23, e24, h⟩ := lt_inv h
  refine y_putI e24 d_M_readAll_63 fl_11_396 rfl rfl kd_78 rfl rfl ?_
  refine x_aload_n d_M_readAll_66 rfl 0 rfl ?_
  refine x_iconst d_M_readAll_67 ic_0 ?_
  obtain ⟨S25, e26, h⟩ := lt_inv h
  refine y_putI e26 d_M_readAll_68 fl_11_363 rfl rfl kd_78 rfl rfl ?_
  refine x_aload_n d_M_readAll_71 rfl 0 rfl ?_
  refine x_iconst d_M_readAll_72 ic_0 ?_
  obtain ⟨S27, e28, h⟩ := lt_inv h
  refine y_putI e28 d_M_readAll_73 fl_11_375 rfl rfl kd_78 rfl rfl ?_
  refine x_aload_n d_M_readAll_76 rfl 0 rfl ?_
  refine x_iconst d_M_readAll_77 ic_0 ?_
  obtain ⟨S29, e30, h⟩ := lt_inv h
  refine y_putI e30 d_M_readAll_78 fl_11_381 rfl rfl kd_78 rfl rfl ?_
  refine x_aload_n d_M_readAll_81 rfl 0 rfl ?_
  refine x_iconst d_M_readAll_82 ic_0 ?_
  obtain ⟨S31, e32, h⟩ := lt_inv h
  refine y_putI e32 d_M_readAll_83 fl_11_387 rfl rfl kd_78 rfl rfl ?_
  refine x_aload_n d_M_readAll_86 rfl 0 rfl ?_
  refine x_iconst d_M_readAll_87 ic_0 ?_
  obtain ⟨S33, e34, h⟩ := lt_inv h
  refine y_putI e34 d_M_readAll_88 fl_11_393 rfl rfl kd_78 rfl rfl ?_
  refine x_aload_n d_M_readAll_91 rfl 0 rfl ?_
  refine x_iconst d_M_readAll_92 ic_0 ?_
  obtain ⟨S35, e36, h⟩ := lt_inv h
  refine y_putI e36 d_M_readAll_93 fl_11_299 rfl rfl kd_78 rfl rfl ?_
  refine x_aload_n d_M_readAll_96 rfl 0 rfl ?_
  refine x_iconst d_M_readAll_97 ic_0 ?_
  obtain ⟨S37, e38, h⟩ := lt_inv h
  refine y_putI e38 d_M_readAll_98 fl_11_277 rfl rfl kd_78 rfl rfl ?_
  refine x_aload_n d_M_readAll_101 rfl 0 rfl ?_
  obtain ⟨S40, q39, h⟩ := bd_inv h
  refine y_V0v (S1 := S40) d_M_readAll_102 ml_11_241 kd_78 rfl (Nat.le_of_ble_eq_true rfl) (Nat.le_of_ble_eq_true rfl) (c_M_token (by omega) q39) ?_
  refine T_M_readAll_105 (by omega)   F S40 _ h
/-! NinetyPlayersModel.begin -/
def b_M_begin_2 (F G : Nat) (k21 : St → Option (St)) (rec : Int32 → St → Option (St)) (w1 : Int32) (S : St) : Option (St) :=
  if (41 : Int32) ≤ w1 then k21 S else gd (inB w1 41) (lt (sI S 101 w1.toNatClampNeg (0 : Int32)) fun S3 => lt (w1 + 1) fun v5 => rec v5 S3)
def b_M_begin_23 (F G : Nat) (rec : Int32 → St → Option (St)) (w1 : Int32) (S : St) : Option (St) :=
  if (S.1 78 48) ≤ w1 then some S else gd (inB w1 10) (gd (inB ((10 : Int32) + w1) 41) (lt (sI S 101 ((10 : Int32) + w1).toNatClampNeg (S.1 97 w1.toNatClampNeg)) fun S11 => gd (inB w1 10) (gd (inB ((20 : Int32) + w1) 41) (lt (sI S11 101 ((20 : Int32) + w1).toNatClampNeg (S11.1 98 w1.toNatClampNeg)) fun S15 => gd (inB w1 10) (gd (inB ((30 : Int32) + w1) 41) (lt (sI S15 101 ((30 : Int32) + w1).toNatClampNeg (S15.1 99 w1.toNatClampNeg)) fun S19 => lt (w1 + 1) fun v21 => rec v21 S19))))))
def fM_begin (F G : Nat) (S : St) : Option (St) :=
  fx2 (b_M_begin_2 F G  (fun S7 => fx2 (b_M_begin_23 F G ) F (0 : Int32) S7)) F (0 : Int32) S
set_option maxRecDepth 100000 in
set_option maxHeartbeats 4000000 in
theorem T_M_begin_2 {X : Nat × (Nat → Int32)} {D F G : Nat} (hD : 0 ≤ D) {k21 : St → Option (St)} (hk21 : ∀ (S1 : St) (res : St), k21 S1 = some res → Ek X (D) mM_begin 21 [(0, .ref 78)] [] S1 none res) : ∀ (f : Nat) (w1 : Int32) (S : St) (res : St), fx2 (b_M_begin_2 F G k21 ) f w1 S = some res → Ek X (D) mM_begin 2 [(0, .ref 78), (1, .int w1)] [] S none res := by
  refine fx2_ind ?_
  intro rec ih w1 S res h
  unfold b_M_begin_2 at h
  refine x_iload_n d_M_begin_2 rfl 1 rfl ?_
  refine x_bipush d_M_begin_3 bp_41 ?_
  refine x_icmp_ge (tgt := 21) d_M_begin_5 rfl (fun c1 => ?_) (fun c1 => ?_)
  · replace h := ite_t c1 h
    refine y_pick (L1 := [(0, .ref 78)]) [0] rfl ?_
    exact hk21 S _ h
  · replace h := ite_f c1 h
    refine x_aload_n d_M_begin_8 rfl 0 rfl ?_
    refine y_getR d_M_begin_9 fl_11_96 rfl kd_78 rr_78_59 ?_
    refine x_iload_n d_M_begin_12 rfl 1 rfl ?_
    refine x_iconst d_M_begin_13 ic_0 ?_
    obtain ⟨g2, h⟩ := gd_inv h
    obtain ⟨S3, e4, h⟩ := lt_inv h
    refine y_iast e4 d_M_begin_14 kd_101 g2 ?_
    obtain ⟨v5, e6, h⟩ := lt_inv h
    refine y_iinc (L1 := [(0, .ref 78), (1, .int v5)]) e6 ic_1 d_M_begin_15 1 rfl (Nat.le_of_ble_eq_true rfl) rfl rfl ?_
    refine x_goto (tgt := 2) d_M_begin_18 rfl ?_
    exact ih v5 S3 _ h
set_option maxRecDepth 100000 in
set_option maxHeartbeats 4000000 in
theorem T_M_begin_23 {X : Nat × (Nat → Int32)} {D F G : Nat} (hD : 0 ≤ D) : ∀ (f : Nat) (w1 : Int32) (S : St) (res : St), fx2 (b_M_begin_23 F G ) f w1 S = some res → Ek X (D) mM_begin 23 [(0, .ref 78), (1, .int w1)] [] S none res := by
  refine fx2_ind ?_
  intro rec ih w1 S res h
  unfold b_M_begin_23 at h
  refine x_iload_n d_M_begin_23 rfl 1 rfl ?_
  refine x_aload_n d_M_begin_24 rfl 0 rfl ?_
  refine y_getI d_M_begin_25 fl_11_322 rfl kd_78 ?_
  refine x_icmp_ge (tgt := 82) d_M_begin_28 rfl (fun c8 => ?_) (fun c8 => ?_)
  · replace h := ite_t c8 h
    obtain rfl := Option.some.inj h
    exact x_ret (r := none) d_M_begin_82 rfl
  · replace h := ite_f c8 h
    refine x_aload_n d_M_begin_31 rfl 0 rfl ?_
    refine y_getR d_M_begin_32 fl_11_96 rfl kd_78 rr_78_59 ?_
    refine x_bipush d_M_begin_35 bp_10 ?_
    refine x_iload_n d_M_begin_37 rfl 1 rfl ?_
    refine x_iadd d_M_begin_38 ?_
    refine x_aload_n d_M_begin_39 rfl 0 rfl ?_
    refine y_getR d_M_begin_40 fl_11_69 rfl kd_78 rr_78_36 ?_
    refine x_iload_n d_M_begin_43 rfl 1 rfl ?_
    obtain ⟨g9, h⟩ := gd_inv h
    refine y_iald d_M_begin_44 kd_97 g9 ?_
    obtain ⟨g10, h⟩ := gd_inv h
    obtain ⟨S11, e12, h⟩ := lt_inv h
    refine y_iast e12 d_M_begin_45 kd_101 g10 ?_
    refine x_aload_n d_M_begin_46 rfl 0 rfl ?_
    refine y_getR d_M_begin_47 fl_11_96 rfl kd_78 rr_78_59 ?_
    refine x_bipush d_M_begin_50 bp_20 ?_
    refine x_iload_n d_M_begin_52 rfl 1 rfl ?_
    refine x_iadd d_M_begin_53 ?_
    refine x_aload_n d_M_begin_54 rfl 0 rfl ?_
    refine y_getR d_M_begin_55 fl_11_72 rfl kd_78 rr_78_37 ?_
    refine x_iload_n d_M_begin_58 rfl 1 rfl ?_
    obtain ⟨g13, h⟩ := gd_inv h
    refine y_iald d_M_begin_59 kd_98 g13 ?_
    obtain ⟨g14, h⟩ := gd_inv h
    obtain ⟨S15, e16, h⟩ := lt_inv h
    refine y_iast e16 d_M_begin_60 kd_101 g14 ?_
    refine x_aload_n d_M_begin_61 rfl 0 rfl ?_
    refine y_getR d_M_begin_62 fl_11_96 rfl kd_78 rr_78_59 ?_
    refine x_bipush d_M_begin_65 bp_30 ?_
    refine x_iload_n d_M_begin_67 rfl 1 rfl ?_
    refine x_iadd d_M_begin_68 ?_
    refine x_aload_n d_M_begin_69 rfl 0 rfl ?_
    refine y_getR d_M_begin_70 fl_11_75 rfl kd_78 rr_78_38 ?_
    refine x_iload_n d_M_begin_73 rfl 1 rfl ?_
    obtain ⟨g17, h⟩ := gd_inv h
    refine y_iald d_M_begin_74 kd_99 g17 ?_
    obtain ⟨g18, h⟩ := gd_inv h
    obtain ⟨S19, e20, h⟩ := lt_inv h
    refine y_iast e20 d_M_begin_75 kd_101 g18 ?_
    obtain ⟨v21, e22, h⟩ := lt_inv h
    refine y_iinc (L1 := [(0, .ref 78), (1, .int v21)]) e22 ic_1 d_M_begin_76 1 rfl (Nat.le_of_ble_eq_true rfl) rfl rfl ?_
    refine x_goto (tgt := 23) d_M_begin_79 rfl ?_
    exact ih v21 S19 _ h
set_option maxRecDepth 100000 in
set_option maxHeartbeats 4000000 in
theorem c_M_begin {X : Nat × (Nat → Int32)} {D F G : Nat} (hD : 0 ≤ D) {S : St} {res : St} (h : fM_begin F G S  = some res) : Ek X (D) mM_begin 0 [(0, .ref 78)] [] S none res := by
  unfold fM_begin at h
  refine x_iconst d_M_begin_0 ic_0 ?_
  refine x_istore_n (L1 := [(0, .ref 78), (1, .int (0 : Int32))]) d_M_begin_1 rfl (Nat.le_of_ble_eq_true rfl) rfl rfl ?_
  refine T_M_begin_2 (by omega)  ?_ F (0 : Int32) S _ h
  · intro S7 res h
    refine x_iconst d_M_begin_21 ic_0 ?_
    refine x_istore_n (L1 := [(0, .ref 78), (1, .int (0 : Int32))]) d_M_begin_22 rfl (Nat.le_of_ble_eq_true rfl) rfl rfl ?_
    refine T_M_begin_23 (by omega)   F (0 : Int32) S7 _ h
/-! NinetyPlayersModel.keepAir -/
def b_M_keepAir_2 (F G : Nat) (rec : Int32 → St → Option (St)) (w1 : Int32) (S : St) : Option (St) :=
  if (41 : Int32) ≤ w1 then some S else gd (inB w1 41) (gd (inB w1 41) (lt (sI S 100 w1.toNatClampNeg (S.1 101 w1.toNatClampNeg)) fun S4 => lt (w1 + 1) fun v6 => rec v6 S4))
def fM_keepAir (F G : Nat) (S : St) : Option (St) :=
  fx2 (b_M_keepAir_2 F G ) F (0 : Int32) S
set_option maxRecDepth 100000 in
set_option maxHeartbeats 4000000 in
theorem T_M_keepAir_2 {X : Nat × (Nat → Int32)} {D F G : Nat} (hD : 0 ≤ D) : ∀ (f : Nat) (w1 : Int32) (S : St) (res : St), fx2 (b_M_keepAir_2 F G ) f w1 S = some res → Ek X (D) mM_keepAir 2 [(0, .ref 78), (1, .int w1)] [] S none res := by
  refine fx2_ind ?_
  intro rec ih w1 S res h
  unfold b_M_keepAir_2 at h
  refine x_iload_n d_M_keepAir_2 rfl 1 rfl ?_
  refine x_bipush d_M_keepAir_3 bp_41 ?_
  refine x_icmp_ge (tgt := 26) d_M_keepAir_5 rfl (fun c1 => ?_) (fun c1 => ?_)
  · replace h := ite_t c1 h
    obtain rfl := Option.some.inj h
    exact x_ret (r := none) d_M_keepAir_26 rfl
  · replace h := ite_f c1 h
    refine x_aload_n d_M_keepAir_8 rfl 0 rfl ?_
    refine y_getR d_M_keepAir_9 fl_11_93 rfl kd_78 rr_78_58 ?_
    refine x_iload_n d_M_keepAir_12 rfl 1 rfl ?_
    refine x_aload_n d_M_keepAir_13 rfl 0 rfl ?_
    refine y_getR d_M_keepAir_14 fl_11_96 rfl kd_78 rr_78_59 ?_
    refine x_iload_n d_M_keepAir_17 rfl 1 rfl ?_
    obtain ⟨g2, h⟩ := gd_inv h
    refine y_iald d_M_keepAir_18 kd_101 g2 ?_
    obtain ⟨g3, h⟩ := gd_inv h
    obtain ⟨S4, e5, h⟩ := lt_inv h
    refine y_iast e5 d_M_keepAir_19 kd_100 g3 ?_
    obtain ⟨v6, e7, h⟩ := lt_inv h
    refine y_iinc (L1 := [(0, .ref 78), (1, .int v6)]) e7 ic_1 d_M_keepAir_20 1 rfl (Nat.le_of_ble_eq_true rfl) rfl rfl ?_
    refine x_goto (tgt := 2) d_M_keepAir_23 rfl ?_
    exact ih v6 S4 _ h
set_option maxRecDepth 100000 in
set_option maxHeartbeats 4000000 in
theorem c_M_keepAir {X : Nat × (Nat → Int32)} {D F G : Nat} (hD : 0 ≤ D) {S : St} {res : St} (h : fM_keepAir F G S  = some res) : Ek X (D) mM_keepAir 0 [(0, .ref 78)] [] S none res := by
  unfold fM_keepAir at h
  refine x_iconst d_M_keepAir_0 ic_0 ?_
  refine x_istore_n (L1 := [(0, .ref 78), (1, .int (0 : Int32))]) d_M_keepAir_1 rfl (Nat.le_of_ble_eq_true rfl) rfl rfl ?_
  refine T_M_keepAir_2 (by omega)   F (0 : Int32) S _ h
/-! NinetyPlayersModel.score -/
def b_M_score_106 (F G : Nat) (k144 : St → Option (Int32 × St)) (rec : Int32 → St → Option (Int32 × St)) (w1 : Int32) (S : St) : Option (Int32 × St) :=
  if (S.1 78 18) ≤ w1 then k144 S else gd (inB w1 320) (gd (inB w1 320) (lt (sI S 83 w1.toNatClampNeg (S.1 81 w1.toNatClampNeg)) fun S29 => gd (inB w1 320) (gd (inB w1 320) (lt (sI S29 84 w1.toNatClampNeg (S29.1 82 w1.toNatClampNeg)) fun S33 => lt (w1 + 1) fun v35 => rec v35 S33))))
def b_M_score_146 (F G : Nat) (k172 : St → Option (Int32 × St)) (rec : Int32 → St → Option (Int32 × St)) (w1 : Int32) (S : St) : Option (Int32 × St) :=
  if (S.1 78 47) ≤ w1 then k172 S else gd (inB w1 4) (gd (inB w1 4) (lt (sI S 94 w1.toNatClampNeg (S.1 88 w1.toNatClampNeg)) fun S41 => lt (w1 + 1) fun v43 => rec v43 S41))
def b_M_score_174 (F G : Nat) (k248 : St → Option (Int32 × St)) (rec : Int32 → St → Option (Int32 × St)) (w1 : Int32) (S : St) : Option (Int32 × St) :=
  if (S.1 78 48) ≤ w1 then k248 S else gd (inB w1 10) (gd (inB w1 10) (lt (sI S 95 w1.toNatClampNeg (S.1 89 w1.toNatClampNeg)) fun S49 => gd (inB w1 10) (gd (inB w1 10) (lt (sI S49 96 w1.toNatClampNeg (S49.1 90 w1.toNatClampNeg)) fun S53 => gd (inB w1 10) (gd (inB w1 10) (lt (sI S53 97 w1.toNatClampNeg (S53.1 91 w1.toNatClampNeg)) fun S57 => gd (inB w1 10) (gd (inB w1 10) (lt (sI S57 98 w1.toNatClampNeg (S57.1 92 w1.toNatClampNeg)) fun S61 => gd (inB w1 10) (gd (inB w1 10) (lt (sI S61 99 w1.toNatClampNeg (S61.1 93 w1.toNatClampNeg)) fun S65 => lt (w1 + 1) fun v67 => rec v67 S65))))))))))
def b_M_score_278 (F G : Nat) (rec : Int32 → St → Option (Int32 × St)) (w1 : Int32) (S : St) : Option (Int32 × St) :=
  if (3 : Int32) ≤ w1 then some (S.1 78 48, S) else gd (inB w1 3) (lt (sI S 115 w1.toNatClampNeg (vp_nar .boolean (0 : Int32))) fun S84 => lt (w1 + 1) fun v86 => rec v86 S84)
def fM_score (F G : Nat) (S : St) : Option (Int32 × St) :=
  bd (fM_readAll F G S ) fun S2 => if (S2.1 78 2) ≤ 0 then lt (sI S2 78 46 (S2.1 78 39)) fun S4 => lt (sI S4 78 47 (S4.1 78 40)) fun S6 => lt (sI S6 78 48 (S6.1 78 41)) fun S8 => lt (sI S8 78 49 (S8.1 78 42)) fun S10 => lt (sI S10 78 50 (S10.1 78 43)) fun S12 => lt (sI S12 78 51 (S12.1 78 44)) fun S14 => lt (sI S14 78 52 (S14.1 78 45)) fun S16 => lt (sI S16 78 21 (S16.1 78 20)) fun S18 => gd (isB (S18.1 78 24)) (lt (sI S18 78 25 (S18.1 78 24)) fun S21 => if (S21.1 78 24) = 0 then lt (sI S21 78 18 (0 : Int32)) fun S24 => fx2 (b_M_score_106 F G  (fun S37 => fx2 (b_M_score_146 F G  (fun S45 => fx2 (b_M_score_174 F G  (fun S69 => bd (fM_begin F G S69 ) fun S71 => bd (fM_keepAir F G S71 ) fun S73 => lt (sI S73 78 63 (0 : Int32)) fun S74 => lt (sI S74 78 64 (0 : Int32)) fun S76 => lt (sI S76 78 74 (0 : Int32)) fun S78 => lt (sI S78 78 68 (0 : Int32)) fun S80 => fx2 (b_M_score_278 F G ) F (0 : Int32) S80)) F (0 : Int32) S45)) F (0 : Int32) S37)) F (0 : Int32) S24 else lt (sI S21 78 18 (S21.1 78 17)) fun S88 => fx2 (b_M_score_106 F G  (fun S90 => fx2 (b_M_score_146 F G  (fun S91 => fx2 (b_M_score_174 F G  (fun S92 => bd (fM_begin F G S92 ) fun S94 => bd (fM_keepAir F G S94 ) fun S96 => lt (sI S96 78 63 (0 : Int32)) fun S97 => lt (sI S97 78 64 (0 : Int32)) fun S99 => lt (sI S99 78 74 (0 : Int32)) fun S101 => lt (sI S101 78 68 (0 : Int32)) fun S103 => fx2 (b_M_score_278 F G ) F (0 : Int32) S103)) F (0 : Int32) S91)) F (0 : Int32) S90)) F (0 : Int32) S88) else some ((-1 : Int32), S2)
set_option maxRecDepth 100000 in
set_option maxHeartbeats 4000000 in
theorem T_M_score_106 {X : Nat × (Nat → Int32)} {D F G : Nat} (hD : 7 ≤ D + 1) {k144 : St → Option (Int32 × St)} (hk144 : ∀ (S1 : St) (res : Int32 × St), k144 S1 = some res → Ek X (D + 1) mM_score 144 [(0, .ref 78)] [] S1 (some (.int res.1)) res.2) : ∀ (f : Nat) (w1 : Int32) (S : St) (res : Int32 × St), fx2 (b_M_score_106 F G k144 ) f w1 S = some res → Ek X (D + 1) mM_score 106 [(0, .ref 78), (1, .int w1)] [] S (some (.int res.1)) res.2 := by
  refine fx2_ind ?_
  intro rec ih w1 S res h
  unfold b_M_score_106 at h
  refine x_iload_n d_M_score_106 rfl 1 rfl ?_
  refine x_aload_n d_M_score_107 rfl 0 rfl ?_
  refine y_getI d_M_score_108 fl_11_340 rfl kd_78 ?_
  refine x_icmp_ge (tgt := 144) d_M_score_111 rfl (fun c26 => ?_) (fun c26 => ?_)
  · replace h := ite_t c26 h
    refine y_pick (L1 := [(0, .ref 78)]) [0] rfl ?_
    exact hk144 S _ h
  · replace h := ite_f c26 h
    refine x_aload_n d_M_score_114 rfl 0 rfl ?_
    refine y_getR d_M_score_115 fl_11_27 rfl kd_78 rr_78_13 ?_
    refine x_iload_n d_M_score_118 rfl 1 rfl ?_
    refine x_aload_n d_M_score_119 rfl 0 rfl ?_
    refine y_getR d_M_score_120 fl_11_21 rfl kd_78 rr_78_11 ?_
    refine x_iload_n d_M_score_123 rfl 1 rfl ?_
    obtain ⟨g27, h⟩ := gd_inv h
    refine y_iald d_M_score_124 kd_81 g27 ?_
    obtain ⟨g28, h⟩ := gd_inv h
    obtain ⟨S29, e30, h⟩ := lt_inv h
    refine y_iast e30 d_M_score_125 kd_83 g28 ?_
    refine x_aload_n d_M_score_126 rfl 0 rfl ?_
    refine y_getR d_M_score_127 fl_11_30 rfl kd_78 rr_78_14 ?_
    refine x_iload_n d_M_score_130 rfl 1 rfl ?_
    refine x_aload_n d_M_score_131 rfl 0 rfl ?_
    refine y_getR d_M_score_132 fl_11_24 rfl kd_78 rr_78_12 ?_
    refine x_iload_n d_M_score_135 rfl 1 rfl ?_
    obtain ⟨g31, h⟩ := gd_inv h
    refine y_iald d_M_score_136 kd_82 g31 ?_
    obtain ⟨g32, h⟩ := gd_inv h
    obtain ⟨S33, e34, h⟩ := lt_inv h
    refine y_iast e34 d_M_score_137 kd_84 g32 ?_
    obtain ⟨v35, e36, h⟩ := lt_inv h
    refine y_iinc (L1 := [(0, .ref 78), (1, .int v35)]) e36 ic_1 d_M_score_138 1 rfl (Nat.le_of_ble_eq_true rfl) rfl rfl ?_
    refine x_goto (tgt := 106) d_M_score_141 rfl ?_
    exact ih v35 S33 _ h
set_option maxRecDepth 100000 in
set_option maxHeartbeats 4000000 in
theorem T_M_score_146 {X : Nat × (Nat → Int32)} {D F G : Nat} (hD : 7 ≤ D + 1) {k172 : St → Option (Int32 × St)} (hk172 : ∀ (S1 : St) (res : Int32 × St), k172 S1 = some res → Ek X (D + 1) mM_score 172 [(0, .ref 78)] [] S1 (some (.int res.1)) res.2) : ∀ (f : Nat) (w1 : Int32) (S : St) (res : Int32 × St), fx2 (b_M_score_146 F G k172 ) f w1 S = some res → Ek X (D + 1) mM_score 146 [(0, .ref 78), (1, .int w1)] [] S (some (.int res.1)) res.2 := by
  refine fx2_ind ?_
  intro rec ih w1 S res h
  unfold b_M_score_146 at h
  refine x_iload_n d_M_score_146 rfl 1 rfl ?_
  refine x_aload_n d_M_score_147 rfl 0 rfl ?_
  refine y_getI d_M_score_148 fl_11_405 rfl kd_78 ?_
  refine x_icmp_ge (tgt := 172) d_M_score_151 rfl (fun c38 => ?_) (fun c38 => ?_)
  · replace h := ite_t c38 h
    refine y_pick (L1 := [(0, .ref 78)]) [0] rfl ?_
    exact hk172 S _ h
  · replace h := ite_f c38 h
    refine x_aload_n d_M_score_154 rfl 0 rfl ?_
    refine y_getR d_M_score_155 fl_11_60 rfl kd_78 rr_78_33 ?_
    refine x_iload_n d_M_score_158 rfl 1 rfl ?_
    refine x_aload_n d_M_score_159 rfl 0 rfl ?_
    refine y_getR d_M_score_160 fl_11_42 rfl kd_78 rr_78_27 ?_
    refine x_iload_n d_M_score_163 rfl 1 rfl ?_
    obtain ⟨g39, h⟩ := gd_inv h
    refine y_iald d_M_score_164 kd_88 g39 ?_
    obtain ⟨g40, h⟩ := gd_inv h
    obtain ⟨S41, e42, h⟩ := lt_inv h
    refine y_iast e42 d_M_score_165 kd_94 g40 ?_
    obtain ⟨v43, e44, h⟩ := lt_inv h
    refine y_iinc (L1 := [(0, .ref 78), (1, .int v43)]) e44 ic_1 d_M_score_166 1 rfl (Nat.le_of_ble_eq_true rfl) rfl rfl ?_
    refine x_goto (tgt := 146) d_M_score_169 rfl ?_
    exact ih v43 S41 _ h
set_option maxRecDepth 100000 in
set_option maxHeartbeats 4000000 in
theorem T_M_score_174 {X : Nat × (Nat → Int32)} {D F G : Nat} (hD : 7 ≤ D + 1) {k248 : St → Option (Int32 × St)} (hk248 : ∀ (S1 : St) (res : Int32 × St), k248 S1 = some res → Ek X (D + 1) mM_score 248 [(0, .ref 78)] [] S1 (some (.int res.1)) res.2) : ∀ (f : Nat) (w1 : Int32) (S : St) (res : Int32 × St), fx2 (b_M_score_174 F G k248 ) f w1 S = some res → Ek X (D + 1) mM_score 174 [(0, .ref 78), (1, .int w1)] [] S (some (.int res.1)) res.2 := by
  refine fx2_ind ?_
  intro rec ih w1 S res h
  unfold b_M_score_174 at h
  refine x_iload_n d_M_score_174 rfl 1 rfl ?_
  refine x_aload_n d_M_score_175 rfl 0 rfl ?_
  refine y_getI d_M_score_176 fl_11_322 rfl kd_78 ?_
  refine x_icmp_ge (tgt := 248) d_M_score_179 rfl (fun c46 => ?_) (fun c46 => ?_)
  · replace h := ite_t c46 h
    refine y_pick (L1 := [(0, .ref 78)]) [0] rfl ?_
    exact hk248 S _ h
  · replace h := ite_f c46 h
    refine x_aload_n d_M_score_182 rfl 0 rfl ?_
    refine y_getR d_M_score_183 fl_11_63 rfl kd_78 rr_78_34 ?_
    refine x_iload_n d_M_score_186 rfl 1 rfl ?_
    refine x_aload_n d_M_score_187 rfl 0 rfl ?_
    refine y_getR d_M_score_188 fl_11_45 rfl kd_78 rr_78_28 ?_
    refine x_iload_n d_M_score_191 rfl 1 rfl ?_
    obtain ⟨g47, h⟩ := gd_inv h
    refine y_iald d_M_score_192 kd_89 g47 ?_
    obtain ⟨g48, h⟩ := gd_inv h
    obtain ⟨S49, e50, h⟩ := lt_inv h
    refine y_iast e50 d_M_score_193 kd_95 g48 ?_
    refine x_aload_n d_M_score_194 rfl 0 rfl ?_
    refine y_getR d_M_score_195 fl_11_66 rfl kd_78 rr_78_35 ?_
    refine x_iload_n d_M_score_198 rfl 1 rfl ?_
    refine x_aload_n d_M_score_199 rfl 0 rfl ?_
    refine y_getR d_M_score_200 fl_11_48 rfl kd_78 rr_78_29 ?_
    refine x_iload_n d_M_score_203 rfl 1 rfl ?_
    obtain ⟨g51, h⟩ := gd_inv h
    refine y_iald d_M_score_204 kd_90 g51 ?_
    obtain ⟨g52, h⟩ := gd_inv h
    obtain ⟨S53, e54, h⟩ := lt_inv h
    refine y_iast e54 d_M_score_205 kd_96 g52 ?_
    refine x_aload_n d_M_score_206 rfl 0 rfl ?_
    refine y_getR d_M_score_207 fl_11_69 rfl kd_78 rr_78_36 ?_
    refine x_iload_n d_M_score_210 rfl 1 rfl ?_
    refine x_aload_n d_M_score_211 rfl 0 rfl ?_
    refine y_getR d_M_score_212 fl_11_51 rfl kd_78 rr_78_30 ?_
    refine x_iload_n d_M_score_215 rfl 1 rfl ?_
    obtain ⟨g55, h⟩ := gd_inv h
    refine y_iald d_M_score_216 kd_91 g55 ?_
    obtain ⟨g56, h⟩ := gd_inv h
    obtain ⟨S57, e58, h⟩ := lt_inv h
    refine y_iast e58 d_M_score_217 kd_97 g56 ?_
    refine x_aload_n d_M_score_218 rfl 0 rfl ?_
    refine y_getR d_M_score_219 fl_11_72 rfl kd_78 rr_78_37 ?_
    refine x_iload_n d_M_score_222 rfl 1 rfl ?_
    refine x_aload_n d_M_score_223 rfl 0 rfl ?_
    refine y_getR d_M_score_224 fl_11_54 rfl kd_78 rr_78_31 ?_
    refine x_iload_n d_M_score_227 rfl 1 rfl ?_
    obtain ⟨g59, h⟩ := gd_inv h
    refine y_iald d_M_score_228 kd_92 g59 ?_
    obtain ⟨g60, h⟩ := gd_inv h
    obtain ⟨S61, e62, h⟩ := lt_inv h
    refine y_iast e62 d_M_score_229 kd_98 g60 ?_
    refine x_aload_n d_M_score_230 rfl 0 rfl ?_
    refine y_getR d_M_score_231 fl_11_75 rfl kd_78 rr_78_38 ?_
    refine x_iload_n d_M_score_234 rfl 1 rfl ?_
    refine x_aload_n d_M_score_235 rfl 0 rfl ?_
    refine y_getR d_M_score_236 fl_11_57 rfl kd_78 rr_78_32 ?_
    refine x_iload_n d_M_score_239 rfl 1 rfl ?_
    obtain ⟨g63, h⟩ := gd_inv h
    refine y_iald d_M_score_240 kd_93 g63 ?_
    obtain ⟨g64, h⟩ := gd_inv h
    obtain ⟨S65, e66, h⟩ := lt_inv h
    refine y_iast e66 d_M_score_241 kd_99 g64 ?_
    obtain ⟨v67, e68, h⟩ := lt_inv h
    refine y_iinc (L1 := [(0, .ref 78), (1, .int v67)]) e68 ic_1 d_M_score_242 1 rfl (Nat.le_of_ble_eq_true rfl) rfl rfl ?_
    refine x_goto (tgt := 174) d_M_score_245 rfl ?_
    exact ih v67 S65 _ h
set_option maxRecDepth 100000 in
set_option maxHeartbeats 4000000 in
theorem T_M_score_278 {X : Nat × (Nat → Int32)} {D F G : Nat} (hD : 7 ≤ D + 1) : ∀ (f : Nat) (w1 : Int32) (S : St) (res : Int32 × St), fx2 (b_M_score_278 F G ) f w1 S = some res → Ek X (D + 1) mM_score 278 [(0, .ref 78), (1, .int w1)] [] S (some (.int res.1)) res.2 := by
  refine fx2_ind ?_
  intro rec ih w1 S res h
  unfold b_M_score_278 at h
  refine x_iload_n d_M_score_278 rfl 1 rfl ?_
  refine x_iconst d_M_score_279 ic_3 ?_
  refine x_icmp_ge (tgt := 296) d_M_score_280 rfl (fun c82 => ?_) (fun c82 => ?_)
  · replace h := ite_t c82 h
    refine x_aload_n d_M_score_296 rfl 0 rfl ?_
    refine y_getI d_M_score_297 fl_11_322 rfl kd_78 ?_
    obtain rfl := Option.some.inj h
    exact x_ret (r := some (.int (S.1 78 48))) d_M_score_300 ⟨_, rfl, rfl⟩
  · replace h := ite_f c82 h
    refine x_aload_n d_M_score_283 rfl 0 rfl ?_
    refine y_getR d_M_score_284 fl_11_139 rfl kd_78 rr_78_78 ?_
    refine x_iload_n d_M_score_287 rfl 1 rfl ?_
    refine x_iconst d_M_score_288 ic_0 ?_
    obtain ⟨g83, h⟩ := gd_inv h
    obtain ⟨S84, e85, h⟩ := lt_inv h
    refine y_zast e85 d_M_score_289 kd_115 g83 ?_
    obtain ⟨v86, e87, h⟩ := lt_inv h
    refine y_iinc (L1 := [(0, .ref 78), (1, .int v86)]) e87 ic_1 d_M_score_290 1 rfl (Nat.le_of_ble_eq_true rfl) rfl rfl ?_
    refine x_goto (tgt := 278) d_M_score_293 rfl ?_
    exact ih v86 S84 _ h
set_option maxRecDepth 100000 in
set_option maxHeartbeats 4000000 in
theorem c_M_score {X : Nat × (Nat → Int32)} {D F G : Nat} (hD : 7 ≤ D) {S : St} {res : Int32 × St} (h : fM_score F G S  = some res) : Ek X (D) mM_score 0 [(0, .ref 78)] [] S (some (.int res.1)) res.2 := by
  obtain ⟨D, rfl⟩ : ∃ E, D = E + 1 := ⟨D - 1, by omega⟩
  unfold fM_score at h
  refine x_aload_n d_M_score_0 rfl 0 rfl ?_
  obtain ⟨S2, q1, h⟩ := bd_inv h
  refine y_V0v (S1 := S2) d_M_score_1 ml_11_402 kd_78 rfl (Nat.le_of_ble_eq_true rfl) (Nat.le_of_ble_eq_true rfl) (c_M_readAll (by omega) q1) ?_
  refine x_aload_n d_M_score_4 rfl 0 rfl ?_
  refine y_getI d_M_score_5 fl_11_185 rfl kd_78 ?_
  refine x_if_le (tgt := 13) d_M_score_8 rfl (fun c3 => ?_) (fun c3 => ?_)
  · replace h := ite_t c3 h
    refine x_aload_n d_M_score_13 rfl 0 rfl ?_
    refine x_aload_n d_M_score_14 rfl 0 rfl ?_
    refine y_getI d_M_score_15 fl_11_356 rfl kd_78 ?_
    obtain ⟨S4, e5, h⟩ := lt_inv h
    refine y_putI e5 d_M_score_18 fl_11_78 rfl rfl kd_78 rfl rfl ?_
    refine x_aload_n d_M_score_21 rfl 0 rfl ?_
    refine x_aload_n d_M_score_22 rfl 0 rfl ?_
    refine y_getI d_M_score_23 fl_11_258 rfl kd_78 ?_
    obtain ⟨S6, e7, h⟩ := lt_inv h
    refine y_putI e7 d_M_score_26 fl_11_405 rfl rfl kd_78 rfl rfl ?_
    refine x_aload_n d_M_score_29 rfl 0 rfl ?_
    refine x_aload_n d_M_score_30 rfl 0 rfl ?_
    refine y_getI d_M_score_31 fl_11_350 rfl kd_78 ?_
    obtain ⟨S8, e9, h⟩ := lt_inv h
    refine y_putI e9 d_M_score_34 fl_11_322 rfl rfl kd_78 rfl rfl ?_
    refine x_aload_n d_M_score_37 rfl 0 rfl ?_
    refine x_aload_n d_M_score_38 rfl 0 rfl ?_
    refine y_getI d_M_score_39 fl_11_378 rfl kd_78 ?_
    obtain ⟨S10, e11, h⟩ := lt_inv h
    refine y_putI e11 d_M_score_42 fl_11_81 rfl rfl kd_78 rfl rfl ?_
    refine x_aload_n d_M_score_45 rfl 0 rfl ?_
    refine x_aload_n d_M_score_46 rfl 0 rfl ?_
    refine y_getI d_M_score_47 fl_11_384 rfl kd_78 ?_
    obtain ⟨S12, e13, h⟩ := lt_inv h
    refine y_putI e13 d_M_score_50 fl_11_84 rfl rfl kd_78 rfl rfl ?_
    refine x_aload_n d_M_score_53 rfl 0 rfl ?_
    refine x_aload_n d_M_score_54 rfl 0 rfl ?_
    refine y_getI d_M_score_55 fl_11_390 rfl kd_78 ?_
    obtain ⟨S14, e15, h⟩ := lt_inv h
    refine y_putI e15 d_M_score_58 fl_11_87 rfl rfl kd_78 rfl rfl ?_
    refine x_aload_n d_M_score_61 rfl 0 rfl ?_
    refine x_aload_n d_M_score_62 rfl 0 rfl ?_
    refine y_getI d_M_score_63 fl_11_396 rfl kd_78 ?_
    obtain ⟨S16, e17, h⟩ := lt_inv h
    refine y_putI e17 d_M_score_66 fl_11_90 rfl rfl kd_78 rfl rfl ?_
    refine x_aload_n d_M_score_69 rfl 0 rfl ?_
    refine x_aload_n d_M_score_70 rfl 0 rfl ?_
    refine y_getI d_M_score_71 fl_11_277 rfl kd_78 ?_
    obtain ⟨S18, e19, h⟩ := lt_inv h
    refine y_putI e19 d_M_score_74 fl_11_408 rfl rfl kd_78 rfl rfl ?_
    refine x_aload_n d_M_score_77 rfl 0 rfl ?_
    refine x_aload_n d_M_score_78 rfl 0 rfl ?_
    refine y_getI d_M_score_79 fl_11_299 rfl kd_78 ?_
    obtain ⟨g20, h⟩ := gd_inv h
    obtain ⟨S21, e22, h⟩ := lt_inv h
    refine y_putI e22 d_M_score_82 fl_11_334 rfl rfl kd_78 (isB_nar g20) (isB_fit g20) ?_
    refine x_aload_n d_M_score_85 rfl 0 rfl ?_
    refine x_aload_n d_M_score_86 rfl 0 rfl ?_
    refine y_getI d_M_score_87 fl_11_299 rfl kd_78 ?_
    refine x_if_eq (tgt := 100) d_M_score_90 rfl (fun c23 => ?_) (fun c23 => ?_)
    · replace h := ite_t c23 h
      refine x_iconst d_M_score_100 ic_0 ?_
      obtain ⟨S24, e25, h⟩ := lt_inv h
      refine y_putI e25 d_M_score_101 fl_11_340 rfl rfl kd_78 rfl rfl ?_
      refine x_iconst d_M_score_104 ic_0 ?_
      refine x_istore_n (L1 := [(0, .ref 78), (1, .int (0 : Int32))]) d_M_score_105 rfl (Nat.le_of_ble_eq_true rfl) rfl rfl ?_
      refine T_M_score_106 (by omega)  ?_ F (0 : Int32) S24 _ h
      · intro S37 res h
        refine x_iconst d_M_score_144 ic_0 ?_
        refine x_istore_n (L1 := [(0, .ref 78), (1, .int (0 : Int32))]) d_M_score_145 rfl (Nat.le_of_ble_eq_true rfl) rfl rfl ?_
        refine T_M_score_146 (by omega)  ?_ F (0 : Int32) S37 _ h
        · intro S45 res h
          refine x_iconst d_M_score_172 ic_0 ?_
          refine x_istore_n (L1 := [(0, .ref 78), (1, .int (0 : Int32))]) d_M_score_173 rfl (Nat.le_of_ble_eq_true rfl) rfl rfl ?_
          refine T_M_score_174 (by omega)  ?_ F (0 : Int32) S45 _ h
          · intro S69 res h
            refine x_aload_n d_M_score_248 rfl 0 rfl ?_
            obtain ⟨S71, q70, h⟩ := bd_inv h
            refine y_V0v (S1 := S71) d_M_score_249 ml_11_411 kd_78 rfl (Nat.le_of_ble_eq_true rfl) (Nat.le_of_ble_eq_true rfl) (c_M_begin (by omega) q70) ?_
            refine x_aload_n d_M_score_252 rfl 0 rfl ?_
            obtain ⟨S73, q72, h⟩ := bd_inv h
            refine y_V0v (S1 := S73) d_M_score_253 ml_11_414 kd_78 rfl (Nat.le_of_ble_eq_true rfl) (Nat.le_of_ble_eq_true rfl) (c_M_keepAir (by omega) q72) ?_
            refine x_aload_n d_M_score_256 rfl 0 rfl ?_
            refine x_iconst d_M_score_257 ic_0 ?_
            obtain ⟨S74, e75, h⟩ := lt_inv h
            refine y_putI e75 d_M_score_258 fl_11_417 rfl rfl kd_78 rfl rfl ?_
            refine x_aload_n d_M_score_261 rfl 0 rfl ?_
            refine x_iconst d_M_score_262 ic_0 ?_
            obtain ⟨S76, e77, h⟩ := lt_inv h
            refine y_putI e77 d_M_score_263 fl_11_420 rfl rfl kd_78 rfl rfl ?_
            refine x_aload_n d_M_score_266 rfl 0 rfl ?_
            refine x_iconst d_M_score_267 ic_0 ?_
            obtain ⟨S78, e79, h⟩ := lt_inv h
            refine y_putI e79 d_M_score_268 fl_11_423 rfl rfl kd_78 rfl rfl ?_
            refine x_aload_n d_M_score_271 rfl 0 rfl ?_
            refine x_iconst d_M_score_272 ic_0 ?_
            obtain ⟨S80, e81, h⟩ := lt_inv h
            refine y_putI e81 d_M_score_273 fl_11_426 rfl rfl kd_78 rfl rfl ?_
            refine x_iconst d_M_score_276 ic_0 ?_
            refine x_istore_n (L1 := [(0, .ref 78), (1, .int (0 : Int32))]) d_M_score_277 rfl (Nat.le_of_ble_eq_true rfl) rfl rfl ?_
            refine T_M_score_278 (by omega)   F (0 : Int32) S80 _ h
    · replace h := ite_f c23 h
      refine x_aload_n d_M_score_93 rfl 0 rfl ?_
      refine y_getI d_M_score_94 fl_11_261 rfl kd_78 ?_
      refine x_goto (tgt := 101) d_M_score_97 rfl ?_
      obtain ⟨S88, e89, h⟩ := lt_inv h
      refine y_putI e89 d_M_score_101 fl_11_340 rfl rfl kd_78 rfl rfl ?_
      refine x_iconst d_M_score_104 ic_0 ?_
      refine x_istore_n (L1 := [(0, .ref 78), (1, .int (0 : Int32))]) d_M_score_105 rfl (Nat.le_of_ble_eq_true rfl) rfl rfl ?_
      refine T_M_score_106 (by omega)  ?_ F (0 : Int32) S88 _ h
      · intro S90 res h
        refine x_iconst d_M_score_144 ic_0 ?_
        refine x_istore_n (L1 := [(0, .ref 78), (1, .int (0 : Int32))]) d_M_score_145 rfl (Nat.le_of_ble_eq_true rfl) rfl rfl ?_
        refine T_M_score_146 (by omega)  ?_ F (0 : Int32) S90 _ h
        · intro S91 res h
          refine x_iconst d_M_score_172 ic_0 ?_
          refine x_istore_n (L1 := [(0, .ref 78), (1, .int (0 : Int32))]) d_M_score_173 rfl (Nat.le_of_ble_eq_true rfl) rfl rfl ?_
          refine T_M_score_174 (by omega)  ?_ F (0 : Int32) S91 _ h
          · intro S92 res h
            refine x_aload_n d_M_score_248 rfl 0 rfl ?_
            obtain ⟨S94, q93, h⟩ := bd_inv h
            refine y_V0v (S1 := S94) d_M_score_249 ml_11_411 kd_78 rfl (Nat.le_of_ble_eq_true rfl) (Nat.le_of_ble_eq_true rfl) (c_M_begin (by omega) q93) ?_
            refine x_aload_n d_M_score_252 rfl 0 rfl ?_
            obtain ⟨S96, q95, h⟩ := bd_inv h
            refine y_V0v (S1 := S96) d_M_score_253 ml_11_414 kd_78 rfl (Nat.le_of_ble_eq_true rfl) (Nat.le_of_ble_eq_true rfl) (c_M_keepAir (by omega) q95) ?_
            refine x_aload_n d_M_score_256 rfl 0 rfl ?_
            refine x_iconst d_M_score_257 ic_0 ?_
            obtain ⟨S97, e98, h⟩ := lt_inv h
            refine y_putI e98 d_M_score_258 fl_11_417 rfl rfl kd_78 rfl rfl ?_
            refine x_aload_n d_M_score_261 rfl 0 rfl ?_
            refine x_iconst d_M_score_262 ic_0 ?_
            obtain ⟨S99, e100, h⟩ := lt_inv h
            refine y_putI e100 d_M_score_263 fl_11_420 rfl rfl kd_78 rfl rfl ?_
            refine x_aload_n d_M_score_266 rfl 0 rfl ?_
            refine x_iconst d_M_score_267 ic_0 ?_
            obtain ⟨S101, e102, h⟩ := lt_inv h
            refine y_putI e102 d_M_score_268 fl_11_423 rfl rfl kd_78 rfl rfl ?_
            refine x_aload_n d_M_score_271 rfl 0 rfl ?_
            refine x_iconst d_M_score_272 ic_0 ?_
            obtain ⟨S103, e104, h⟩ := lt_inv h
            refine y_putI e104 d_M_score_273 fl_11_426 rfl rfl kd_78 rfl rfl ?_
            refine x_iconst d_M_score_276 ic_0 ?_
            refine x_istore_n (L1 := [(0, .ref 78), (1, .int (0 : Int32))]) d_M_score_277 rfl (Nat.le_of_ble_eq_true rfl) rfl rfl ?_
            refine T_M_score_278 (by omega)   F (0 : Int32) S103 _ h
  · replace h := ite_f c3 h
    refine x_iconst d_M_score_11 ic_m1 ?_
    obtain rfl := Option.some.inj h
    exact x_ret (r := some (.int (-1 : Int32))) d_M_score_12 ⟨_, rfl, rfl⟩
/-! NinetyPlayers.fault -/
def fN_fault (F G : Nat) (S : St) (p1 : Int32) : Option (Int32) :=
  if p1 = 0 then some (S.1 2 0) else if p1 = 1 then some (S.1 2 1) else some (-1 : Int32)
set_option maxRecDepth 100000 in
set_option maxHeartbeats 4000000 in
theorem c_N_fault {X : Nat × (Nat → Int32)} {D F G : Nat} (hD : 0 ≤ D) {S : St} {p1 : Int32} {res : Int32} (h : fN_fault F G S p1 = some res) : Ek X (D) mN_fault 0 [(0, .ref 0), (1, .int p1)] [] S (some (.int res)) S := by
  unfold fN_fault at h
  refine x_iload_n d_N_fault_0 rfl 1 rfl ?_
  by_cases c1 : p1 = 0
  · replace h := ite_t c1 h
    refine x_look (tgt := 28) d_N_fault_1 (by decide +kernel) (by rw [c1] <;> rfl) rfl ?_
    refine x_aload_n d_N_fault_28 rfl 0 rfl ?_
    refine y_getR d_N_fault_29 fl_0_18 rfl kd_0 rr_0_2 ?_
    refine y_getI d_N_fault_32 fl_0_120 rfl kd_2 ?_
    obtain rfl := Option.some.inj h
    exact x_ret (r := some (.int (S.1 2 0))) d_N_fault_35 ⟨_, rfl, rfl⟩
  replace h := ite_f c1 h
  by_cases c2 : p1 = 1
  · replace h := ite_t c2 h
    refine x_look (tgt := 36) d_N_fault_1 (by decide +kernel) (by rw [c2] <;> rfl) rfl ?_
    refine x_aload_n d_N_fault_36 rfl 0 rfl ?_
    refine y_getR d_N_fault_37 fl_0_18 rfl kd_0 rr_0_2 ?_
    refine y_getI d_N_fault_40 fl_0_123 rfl kd_2 ?_
    obtain rfl := Option.some.inj h
    exact x_ret (r := some (.int (S.1 2 1))) d_N_fault_43 ⟨_, rfl, rfl⟩
  replace h := ite_f c2 h
  refine x_look (off := 43) (tgt := 44) d_N_fault_1 (by decide +kernel) (by show Op.lookupswitch.offset [(0, 27), (1, 35)] 43 _ = _; rw [lv_osw (a := 0) c1 (by decide), lv_osw (a := 1) c2 (by decide)]; rfl) rfl ?_
  refine x_iconst d_N_fault_44 ic_m1 ?_
  obtain rfl := Option.some.inj h
  exact x_ret (r := some (.int (-1 : Int32))) d_N_fault_45 ⟨_, rfl, rfl⟩
/-! NinetyPlayersModel.fault -/
def fM_fault (F G : Nat) (S : St) (p1 : Int32) : Option (Int32) :=
  if p1 = 0 then some (S.1 78 2) else if p1 = (1 : Int32) then some (S.1 78 3) else some (-1 : Int32)
set_option maxRecDepth 100000 in
set_option maxHeartbeats 4000000 in
theorem c_M_fault {X : Nat × (Nat → Int32)} {D F G : Nat} (hD : 0 ≤ D) {S : St} {p1 : Int32} {res : Int32} (h : fM_fault F G S p1 = some res) : Ek X (D) mM_fault 0 [(0, .ref 78), (1, .int p1)] [] S (some (.int res)) S := by
  unfold fM_fault at h
  refine x_iload_n d_M_fault_0 rfl 1 rfl ?_
  refine x_if_ne (tgt := 11) d_M_fault_1 rfl (fun c1 => ?_) (fun c1 => ?_)
  · replace h := ite_f c1 h
    refine x_iload_n d_M_fault_11 rfl 1 rfl ?_
    refine x_iconst d_M_fault_12 ic_1 ?_
    refine x_icmp_ne (tgt := 23) d_M_fault_13 rfl (fun c2 => ?_) (fun c2 => ?_)
    · replace h := ite_f c2 h
      refine x_iconst d_M_fault_23 ic_m1 ?_
      obtain rfl := Option.some.inj h
      exact x_ret (r := some (.int (-1 : Int32))) d_M_fault_24 ⟨_, rfl, rfl⟩
    · replace h := ite_t c2 h
      refine x_aload_n d_M_fault_16 rfl 0 rfl ?_
      refine y_getI d_M_fault_17 fl_11_13 rfl kd_78 ?_
      refine x_goto (tgt := 24) d_M_fault_20 rfl ?_
      obtain rfl := Option.some.inj h
      exact x_ret (r := some (.int (S.1 78 3))) d_M_fault_24 ⟨_, rfl, rfl⟩
  · replace h := ite_t c1 h
    refine x_aload_n d_M_fault_4 rfl 0 rfl ?_
    refine y_getI d_M_fault_5 fl_11_185 rfl kd_78 ?_
    refine x_goto (tgt := 24) d_M_fault_8 rfl ?_
    obtain rfl := Option.some.inj h
    exact x_ret (r := some (.int (S.1 78 2))) d_M_fault_24 ⟨_, rfl, rfl⟩
/-! NinetyPlayers.isNote -/
def fN_isNote (F G : Nat) (S : St) (p1 : Int32) : Option (Int32) :=
  if p1 < 0 then some (0 : Int32) else gd (isSc S.2.2.1) (if (S.1 S.2.2.1 6) ≤ p1 then some (0 : Int32) else some (1 : Int32))
set_option maxRecDepth 100000 in
set_option maxHeartbeats 4000000 in
theorem c_N_isNote {X : Nat × (Nat → Int32)} {D F G : Nat} (hD : 0 ≤ D) {S : St} {p1 : Int32} {res : Int32} (h : fN_isNote F G S p1 = some res) : Ek X (D) mN_isNote 0 [(0, .ref 0), (1, .int p1)] [] S (some (.int res)) S := by
  unfold fN_isNote at h
  refine x_iload_n d_N_isNote_0 rfl 1 rfl ?_
  refine x_if_lt (tgt := 19) d_N_isNote_1 rfl (fun c1 => ?_) (fun c1 => ?_)
  · replace h := ite_t c1 h
    refine x_iconst d_N_isNote_19 ic_0 ?_
    obtain rfl := Option.some.inj h
    exact x_ret (r := some (.int (0 : Int32))) d_N_isNote_20 ⟨_, rfl, rfl⟩
  · replace h := ite_f c1 h
    refine x_iload_n d_N_isNote_4 rfl 1 rfl ?_
    refine x_aload_n d_N_isNote_5 rfl 0 rfl ?_
    refine y_getR d_N_isNote_6 fl_0_25 rfl kd_0 rr_told ?_
    obtain ⟨g2, h⟩ := gd_inv h
    refine y_getI d_N_isNote_9 fl_0_117 rfl (ksSc g2) ?_
    refine x_icmp_ge (tgt := 19) d_N_isNote_12 rfl (fun c3 => ?_) (fun c3 => ?_)
    · replace h := ite_t c3 h
      refine x_iconst d_N_isNote_19 ic_0 ?_
      obtain rfl := Option.some.inj h
      exact x_ret (r := some (.int (0 : Int32))) d_N_isNote_20 ⟨_, rfl, rfl⟩
    · replace h := ite_f c3 h
      refine x_iconst d_N_isNote_15 ic_1 ?_
      refine x_goto (tgt := 20) d_N_isNote_16 rfl ?_
      obtain rfl := Option.some.inj h
      exact x_ret (r := some (.int (1 : Int32))) d_N_isNote_20 ⟨_, rfl, rfl⟩
/-! NinetyPlayers$Score.roleOf -/
def j_S_roleOf_22 (F G : Nat) (o : Nat) (S : St) (s0 : Int32) : Option (Int32) :=
  if s0 < 0 then some (0 : Int32) else if (S.1 o 5) ≤ s0 then some (0 : Int32) else gd (inB s0 4) (some (S.1 (o + 2) s0.toNatClampNeg))
def j_S_roleOf_21 (F G : Nat) (o : Nat) (S : St) : Option (Int32) :=
  j_S_roleOf_22 F G o  S (-1 : Int32)
def fS_roleOf (F G : Nat) (S : St) (o : Nat) (p1 : Int32) : Option (Int32) :=
  gd (isSc o) (if p1 < 0 then j_S_roleOf_21 F G o  S  else if (S.1 o 6) ≤ p1 then j_S_roleOf_21 F G o  S  else gd (inB p1 10) (j_S_roleOf_22 F G o  S (S.1 (o + 4) p1.toNatClampNeg)))
set_option maxRecDepth 100000 in
set_option maxHeartbeats 4000000 in
theorem c_S_roleOf {X : Nat × (Nat → Int32)} {D F G : Nat} (hD : 0 ≤ D) {S : St} {o : Nat} {p1 : Int32} {res : Int32} (h : fS_roleOf F G S o p1 = some res) : Ek X (D) mS_roleOf 0 [(0, .ref o), (1, .int p1)] [] S (some (.int res)) S := by
  unfold fS_roleOf at h
  obtain ⟨gg0, h⟩ := gd_inv h
  have J22 : ∀ (s0 : Int32) (res : Int32), j_S_roleOf_22 F G o S s0 = some res → Ek X (D) mS_roleOf 22 [(0, .ref o)] [.int s0] S (some (.int res)) S := by
    intro s0 res h
    unfold j_S_roleOf_22 at h
    refine x_istore_n (L1 := [(0, .ref o), (2, .int s0)]) d_S_roleOf_22 rfl (Nat.le_of_ble_eq_true rfl) rfl rfl ?_
    refine x_iload_n d_S_roleOf_23 rfl 1 rfl ?_
    refine x_if_lt (tgt := 44) d_S_roleOf_24 rfl (fun c4 => ?_) (fun c4 => ?_)
    · replace h := ite_t c4 h
      refine x_iconst d_S_roleOf_44 ic_0 ?_
      obtain rfl := Option.some.inj h
      exact x_ret (r := some (.int (0 : Int32))) d_S_roleOf_45 ⟨_, rfl, rfl⟩
    · replace h := ite_f c4 h
      refine x_iload_n d_S_roleOf_27 rfl 1 rfl ?_
      refine x_aload_n d_S_roleOf_28 rfl 0 rfl ?_
      refine y_getI d_S_roleOf_29 fl_2_63 rfl (ksSc gg0) ?_
      refine x_icmp_ge (tgt := 44) d_S_roleOf_32 rfl (fun c5 => ?_) (fun c5 => ?_)
      · replace h := ite_t c5 h
        refine x_iconst d_S_roleOf_44 ic_0 ?_
        obtain rfl := Option.some.inj h
        exact x_ret (r := some (.int (0 : Int32))) d_S_roleOf_45 ⟨_, rfl, rfl⟩
      · replace h := ite_f c5 h
        refine x_aload_n d_S_roleOf_35 rfl 0 rfl ?_
        refine y_getR d_S_roleOf_36 fl_2_15 rfl (ksSc gg0) (rrSc_8 gg0) ?_
        refine x_iload_n d_S_roleOf_39 rfl 1 rfl ?_
        obtain ⟨g6, h⟩ := gd_inv h
        refine y_iald d_S_roleOf_40 (ksSc_2 gg0) g6 ?_
        refine x_goto (tgt := 45) d_S_roleOf_41 rfl ?_
        obtain rfl := Option.some.inj h
        exact x_ret (r := some (.int (S.1 (o + 2) s0.toNatClampNeg))) d_S_roleOf_45 ⟨_, rfl, rfl⟩
  have J21 : ∀ (res : Int32), j_S_roleOf_21 F G o S  = some res → Ek X (D) mS_roleOf 21 [(0, .ref o)] [] S (some (.int res)) S := by
    intro  res h
    unfold j_S_roleOf_21 at h
    refine x_iconst d_S_roleOf_21 ic_m1 ?_
    exact J22 (-1 : Int32) _ h
  refine x_iload_n d_S_roleOf_0 rfl 1 rfl ?_
  refine x_if_lt (tgt := 21) d_S_roleOf_1 rfl (fun c1 => ?_) (fun c1 => ?_)
  · replace h := ite_t c1 h
    refine y_pick (L1 := [(0, .ref o)]) [0] rfl ?_
    exact J21  _ h
  · replace h := ite_f c1 h
    refine x_iload_n d_S_roleOf_4 rfl 1 rfl ?_
    refine x_aload_n d_S_roleOf_5 rfl 0 rfl ?_
    refine y_getI d_S_roleOf_6 fl_2_66 rfl (ksSc gg0) ?_
    refine x_icmp_ge (tgt := 21) d_S_roleOf_9 rfl (fun c2 => ?_) (fun c2 => ?_)
    · replace h := ite_t c2 h
      refine y_pick (L1 := [(0, .ref o)]) [0] rfl ?_
      exact J21  _ h
    · replace h := ite_f c2 h
      refine x_aload_n d_S_roleOf_12 rfl 0 rfl ?_
      refine y_getR d_S_roleOf_13 fl_2_22 rfl (ksSc gg0) (rrSc_10 gg0) ?_
      refine x_iload_n d_S_roleOf_16 rfl 1 rfl ?_
      obtain ⟨g3, h⟩ := gd_inv h
      refine y_iald d_S_roleOf_17 (ksSc_4 gg0) g3 ?_
      refine x_goto (tgt := 22) d_S_roleOf_18 rfl ?_
      refine y_pick (L1 := [(0, .ref o)]) [0] rfl ?_
      exact J22 (S.1 (o + 4) p1.toNatClampNeg) _ h
/-! NinetyPlayers.doublesOf -/
def j_N_doublesOf_41 (F G : Nat) (S : St) (z1 : Int32) (rec : Int32 → Int32 → Option (Int32)) (_ : St) (y2 : Int32) (y3 : Int32) (s0 : Int32) : Option (Int32) :=
  if y3 = z1 then lt (y3 + 1) fun v7 => rec y2 v7 else if s0 = 0 then lt (y3 + 1) fun v10 => rec y2 v10 else gd (inB y3 10) (gd (inB z1 10) (if (((S.1 32 y3.toNatClampNeg) - (S.1 32 z1.toNatClampNeg)) - ((S.1 32 y3.toNatClampNeg) - (S.1 32 z1.toNatClampNeg)) / (12 : Int32) * (12 : Int32)) = 0 then lt (y2 ||| ((1 : Int32) <<< (y3 &&& 31))) fun v17 => lt (y3 + 1) fun v19 => rec v17 v19 else lt (y3 + 1) fun v15 => rec y2 v15))
def b_N_doublesOf_4 (F G : Nat) (S : St) (z1 : Int32) (rec : Int32 → Int32 → Option (Int32)) (w2 : Int32) (w3 : Int32) : Option (Int32) :=
  gd (isSc S.2.2.1) (if (S.1 S.2.2.1 6) ≤ w3 then some w2 else gd (inB w3 10) (gd (inB z1 10) (if (S.1 (S.2.2.1 + 5) w3.toNatClampNeg) = (S.1 (S.2.2.1 + 5) z1.toNatClampNeg) then j_N_doublesOf_41 F G S z1 rec  S w2 w3 (1 : Int32) else j_N_doublesOf_41 F G S z1 rec  S w2 w3 (0 : Int32))))
def fN_doublesOf (F G : Nat) (S : St) (p1 : Int32) : Option (Int32) :=
  fx2 (b_N_doublesOf_4 F G S p1) F (0 : Int32) (0 : Int32)
set_option maxRecDepth 100000 in
set_option maxHeartbeats 4000000 in
theorem T_N_doublesOf_4 {X : Nat × (Nat → Int32)} {D F G : Nat} (hD : 0 ≤ D) {S : St} {z1 : Int32} : ∀ (f : Nat) (w2 : Int32) (w3 : Int32) (res : Int32), fx2 (b_N_doublesOf_4 F G S z1 ) f w2 w3 = some res → Ek X (D) mN_doublesOf 4 [(0, .ref 0), (1, .int z1), (2, .int w2), (3, .int w3)] [] S (some (.int res)) S := by
  refine fx2_ind ?_
  intro rec ih w2 w3 res h
  unfold b_N_doublesOf_4 at h
  have J41 : ∀ (y2 : Int32) (y3 : Int32) (s0 : Int32) (res : Int32), j_N_doublesOf_41 F G S z1 rec S y2 y3 s0 = some res → Ek X (D) mN_doublesOf 41 [(0, .ref 0), (1, .int z1), (2, .int y2), (3, .int y3)] [.int s0] S (some (.int res)) S := by
    intro y2 y3 s0 res h
    unfold j_N_doublesOf_41 at h
    refine x_istore (L1 := [(0, .ref 0), (1, .int z1), (2, .int y2), (3, .int y3), (4, .int s0)]) d_N_doublesOf_41 (Nat.le_of_ble_eq_true rfl) rfl rfl ?_
    refine x_iload_n d_N_doublesOf_43 rfl 3 rfl ?_
    refine x_iload_n d_N_doublesOf_44 rfl 1 rfl ?_
    refine x_icmp_eq (tgt := 84) d_N_doublesOf_45 rfl (fun c6 => ?_) (fun c6 => ?_)
    · replace h := ite_t c6 h
      obtain ⟨v7, e8, h⟩ := lt_inv h
      refine y_iinc (L1 := [(0, .ref 0), (1, .int z1), (2, .int y2), (3, .int v7), (4, .int s0)]) e8 ic_1 d_N_doublesOf_84 3 rfl (Nat.le_of_ble_eq_true rfl) rfl rfl ?_
      refine x_goto (tgt := 4) d_N_doublesOf_87 rfl ?_
      refine y_pick (L1 := [(0, .ref 0), (1, .int z1), (2, .int y2), (3, .int v7)]) [0, 1, 2, 3] rfl ?_
      exact ih y2 v7 _ h
    · replace h := ite_f c6 h
      refine x_iload d_N_doublesOf_48 4 rfl ?_
      refine x_if_eq (tgt := 84) d_N_doublesOf_50 rfl (fun c9 => ?_) (fun c9 => ?_)
      · replace h := ite_t c9 h
        obtain ⟨v10, e11, h⟩ := lt_inv h
        refine y_iinc (L1 := [(0, .ref 0), (1, .int z1), (2, .int y2), (3, .int v10), (4, .int s0)]) e11 ic_1 d_N_doublesOf_84 3 rfl (Nat.le_of_ble_eq_true rfl) rfl rfl ?_
        refine x_goto (tgt := 4) d_N_doublesOf_87 rfl ?_
        refine y_pick (L1 := [(0, .ref 0), (1, .int z1), (2, .int y2), (3, .int v10)]) [0, 1, 2, 3] rfl ?_
        exact ih y2 v10 _ h
      · replace h := ite_f c9 h
        refine x_aload_n d_N_doublesOf_53 rfl 0 rfl ?_
        refine y_getR d_N_doublesOf_54 fl_0_32 rfl kd_0 rr_0_4 ?_
        refine y_getR d_N_doublesOf_57 fl_0_135 rfl kd_30 rr_30_3 ?_
        refine x_iload_n d_N_doublesOf_60 rfl 3 rfl ?_
        obtain ⟨g12, h⟩ := gd_inv h
        refine y_iald d_N_doublesOf_61 kd_32 g12 ?_
        refine x_aload_n d_N_doublesOf_62 rfl 0 rfl ?_
        refine y_getR d_N_doublesOf_63 fl_0_32 rfl kd_0 rr_0_4 ?_
        refine y_getR d_N_doublesOf_66 fl_0_135 rfl kd_30 rr_30_3 ?_
        refine x_iload_n d_N_doublesOf_69 rfl 1 rfl ?_
        obtain ⟨g13, h⟩ := gd_inv h
        refine y_iald d_N_doublesOf_70 kd_32 g13 ?_
        refine x_isub d_N_doublesOf_71 ?_
        refine x_bipush d_N_doublesOf_72 bp_12 ?_
        refine x_irem d_N_doublesOf_74 (by decide) ?_
        refine x_if_ne (tgt := 84) d_N_doublesOf_75 rfl (fun c14 => ?_) (fun c14 => ?_)
        · replace h := ite_f c14 h
          obtain ⟨v15, e16, h⟩ := lt_inv h
          refine y_iinc (L1 := [(0, .ref 0), (1, .int z1), (2, .int y2), (3, .int v15), (4, .int s0)]) e16 ic_1 d_N_doublesOf_84 3 rfl (Nat.le_of_ble_eq_true rfl) rfl rfl ?_
          refine x_goto (tgt := 4) d_N_doublesOf_87 rfl ?_
          refine y_pick (L1 := [(0, .ref 0), (1, .int z1), (2, .int y2), (3, .int v15)]) [0, 1, 2, 3] rfl ?_
          exact ih y2 v15 _ h
        · replace h := ite_t c14 h
          refine x_iload_n d_N_doublesOf_78 rfl 2 rfl ?_
          refine x_iconst d_N_doublesOf_79 ic_1 ?_
          refine x_iload_n d_N_doublesOf_80 rfl 3 rfl ?_
          refine x_ishl d_N_doublesOf_81 ?_
          refine x_ior d_N_doublesOf_82 ?_
          obtain ⟨v17, e18, h⟩ := lt_inv h
          refine y_istore_n (L1 := [(0, .ref 0), (1, .int z1), (2, .int v17), (3, .int y3), (4, .int s0)]) e18 d_N_doublesOf_83 rfl (Nat.le_of_ble_eq_true rfl) rfl rfl ?_
          obtain ⟨v19, e20, h⟩ := lt_inv h
          refine y_iinc (L1 := [(0, .ref 0), (1, .int z1), (2, .int v17), (3, .int v19), (4, .int s0)]) e20 ic_1 d_N_doublesOf_84 3 rfl (Nat.le_of_ble_eq_true rfl) rfl rfl ?_
          refine x_goto (tgt := 4) d_N_doublesOf_87 rfl ?_
          refine y_pick (L1 := [(0, .ref 0), (1, .int z1), (2, .int v17), (3, .int v19)]) [0, 1, 2, 3] rfl ?_
          exact ih v17 v19 _ h
  refine x_iload_n d_N_doublesOf_4 rfl 3 rfl ?_
  refine x_aload_n d_N_doublesOf_5 rfl 0 rfl ?_
  refine y_getR d_N_doublesOf_6 fl_0_25 rfl kd_0 rr_told ?_
  obtain ⟨g1, h⟩ := gd_inv h
  refine y_getI d_N_doublesOf_9 fl_0_117 rfl (ksSc g1) ?_
  refine x_icmp_ge (tgt := 90) d_N_doublesOf_12 rfl (fun c2 => ?_) (fun c2 => ?_)
  · replace h := ite_t c2 h
    refine x_iload_n d_N_doublesOf_90 rfl 2 rfl ?_
    obtain rfl := Option.some.inj h
    exact x_ret (r := some (.int w2)) d_N_doublesOf_91 ⟨_, rfl, rfl⟩
  · replace h := ite_f c2 h
    refine x_aload_n d_N_doublesOf_15 rfl 0 rfl ?_
    refine y_getR d_N_doublesOf_16 fl_0_25 rfl kd_0 rr_told ?_
    refine y_getR d_N_doublesOf_19 fl_0_132 rfl (ksSc g1) (rrSc_11 g1) ?_
    refine x_iload_n d_N_doublesOf_22 rfl 3 rfl ?_
    obtain ⟨g3, h⟩ := gd_inv h
    refine y_iald d_N_doublesOf_23 (ksSc_5 g1) g3 ?_
    refine x_aload_n d_N_doublesOf_24 rfl 0 rfl ?_
    refine y_getR d_N_doublesOf_25 fl_0_25 rfl kd_0 rr_told ?_
    refine y_getR d_N_doublesOf_28 fl_0_132 rfl (ksSc g1) (rrSc_11 g1) ?_
    refine x_iload_n d_N_doublesOf_31 rfl 1 rfl ?_
    obtain ⟨g4, h⟩ := gd_inv h
    refine y_iald d_N_doublesOf_32 (ksSc_5 g1) g4 ?_
    refine x_icmp_ne (tgt := 40) d_N_doublesOf_33 rfl (fun c5 => ?_) (fun c5 => ?_)
    · replace h := ite_f c5 h
      refine x_iconst d_N_doublesOf_40 ic_0 ?_
      exact J41 w2 w3 (0 : Int32) _ h
    · replace h := ite_t c5 h
      refine x_iconst d_N_doublesOf_36 ic_1 ?_
      refine x_goto (tgt := 41) d_N_doublesOf_37 rfl ?_
      exact J41 w2 w3 (1 : Int32) _ h
set_option maxRecDepth 100000 in
set_option maxHeartbeats 4000000 in
theorem c_N_doublesOf {X : Nat × (Nat → Int32)} {D F G : Nat} (hD : 0 ≤ D) {S : St} {p1 : Int32} {res : Int32} (h : fN_doublesOf F G S p1 = some res) : Ek X (D) mN_doublesOf 0 [(0, .ref 0), (1, .int p1)] [] S (some (.int res)) S := by
  unfold fN_doublesOf at h
  refine x_iconst d_N_doublesOf_0 ic_0 ?_
  refine x_istore_n (L1 := [(0, .ref 0), (1, .int p1), (2, .int (0 : Int32))]) d_N_doublesOf_1 rfl (Nat.le_of_ble_eq_true rfl) rfl rfl ?_
  refine x_iconst d_N_doublesOf_2 ic_0 ?_
  refine x_istore_n (L1 := [(0, .ref 0), (1, .int p1), (2, .int (0 : Int32)), (3, .int (0 : Int32))]) d_N_doublesOf_3 rfl (Nat.le_of_ble_eq_true rfl) rfl rfl ?_
  refine T_N_doublesOf_4 (by omega)   F (0 : Int32) (0 : Int32) _ h
/-! java/lang/Integer.bitCount -/
def fJ_bitCount (F G : Nat) (S : St) (p1 : Int32) : Option (Int32) :=
  lt (p1 - (((p1.toUInt32 >>> ((1 : Int32).toUInt32 &&& Int32.toUInt32 31)).toInt32) &&& (1431655765 : Int32))) fun v1 => lt ((v1 &&& (858993459 : Int32)) + (((v1.toUInt32 >>> ((2 : Int32).toUInt32 &&& Int32.toUInt32 31)).toInt32) &&& (858993459 : Int32))) fun v3 => lt ((v3 + ((v3.toUInt32 >>> ((4 : Int32).toUInt32 &&& Int32.toUInt32 31)).toInt32)) &&& (252645135 : Int32)) fun v5 => lt (v5 + ((v5.toUInt32 >>> ((8 : Int32).toUInt32 &&& Int32.toUInt32 31)).toInt32)) fun v7 => lt (v7 + ((v7.toUInt32 >>> ((16 : Int32).toUInt32 &&& Int32.toUInt32 31)).toInt32)) fun v9 => some (v9 &&& (63 : Int32))
set_option maxRecDepth 100000 in
set_option maxHeartbeats 4000000 in
theorem c_J_bitCount {X : Nat × (Nat → Int32)} {D F G : Nat} (hD : 0 ≤ D) {S : St} {p1 : Int32} {res : Int32} (h : fJ_bitCount F G S p1 = some res) : Ek X (D) mJ_bitCount 0 [(0, .int p1)] [] S (some (.int res)) S := by
  unfold fJ_bitCount at h
  refine x_iload_n d_J_bitCount_0 rfl 0 rfl ?_
  refine x_iload_n d_J_bitCount_1 rfl 0 rfl ?_
  refine x_iconst d_J_bitCount_2 ic_1 ?_
  refine x_iushr d_J_bitCount_3 ?_
  refine x_ldcw d_J_bitCount_4 kc_15_265 ?_
  refine x_iand d_J_bitCount_7 ?_
  refine x_isub d_J_bitCount_8 ?_
  obtain ⟨v1, e2, h⟩ := lt_inv h
  refine y_istore_n (L1 := [(0, .int v1)]) e2 d_J_bitCount_9 rfl (Nat.le_of_ble_eq_true rfl) rfl rfl ?_
  refine x_iload_n d_J_bitCount_10 rfl 0 rfl ?_
  refine x_ldcw d_J_bitCount_11 kc_15_266 ?_
  refine x_iand d_J_bitCount_14 ?_
  refine x_iload_n d_J_bitCount_15 rfl 0 rfl ?_
  refine x_iconst d_J_bitCount_16 ic_2 ?_
  refine x_iushr d_J_bitCount_17 ?_
  refine x_ldcw d_J_bitCount_18 kc_15_266 ?_
  refine x_iand d_J_bitCount_21 ?_
  refine x_iadd d_J_bitCount_22 ?_
  obtain ⟨v3, e4, h⟩ := lt_inv h
  refine y_istore_n (L1 := [(0, .int v3)]) e4 d_J_bitCount_23 rfl (Nat.le_of_ble_eq_true rfl) rfl rfl ?_
  refine x_iload_n d_J_bitCount_24 rfl 0 rfl ?_
  refine x_iload_n d_J_bitCount_25 rfl 0 rfl ?_
  refine x_iconst d_J_bitCount_26 ic_4 ?_
  refine x_iushr d_J_bitCount_27 ?_
  refine x_iadd d_J_bitCount_28 ?_
  refine x_ldcw d_J_bitCount_29 kc_15_267 ?_
  refine x_iand d_J_bitCount_32 ?_
  obtain ⟨v5, e6, h⟩ := lt_inv h
  refine y_istore_n (L1 := [(0, .int v5)]) e6 d_J_bitCount_33 rfl (Nat.le_of_ble_eq_true rfl) rfl rfl ?_
  refine x_iload_n d_J_bitCount_34 rfl 0 rfl ?_
  refine x_iload_n d_J_bitCount_35 rfl 0 rfl ?_
  refine x_bipush d_J_bitCount_36 bp_8 ?_
  refine x_iushr d_J_bitCount_38 ?_
  refine x_iadd d_J_bitCount_39 ?_
  obtain ⟨v7, e8, h⟩ := lt_inv h
  refine y_istore_n (L1 := [(0, .int v7)]) e8 d_J_bitCount_40 rfl (Nat.le_of_ble_eq_true rfl) rfl rfl ?_
  refine x_iload_n d_J_bitCount_41 rfl 0 rfl ?_
  refine x_iload_n d_J_bitCount_42 rfl 0 rfl ?_
  refine x_bipush d_J_bitCount_43 bp_16 ?_
  refine x_iushr d_J_bitCount_45 ?_
  refine x_iadd d_J_bitCount_46 ?_
  obtain ⟨v9, e10, h⟩ := lt_inv h
  refine y_istore_n (L1 := [(0, .int v9)]) e10 d_J_bitCount_47 rfl (Nat.le_of_ble_eq_true rfl) rfl rfl ?_
  refine x_iload_n d_J_bitCount_48 rfl 0 rfl ?_
  refine x_bipush d_J_bitCount_49 bp_63 ?_
  refine x_iand d_J_bitCount_51 ?_
  obtain rfl := Option.some.inj h
  exact x_ret (r := some (.int (v9 &&& (63 : Int32)))) d_J_bitCount_52 ⟨_, rfl, rfl⟩
/-! NinetyPlayers$Formula.isTold -/
def fF_isTold (F G : Nat) (S : St) (o : Nat) : Option (Int32) :=
  gd (isFo o) (if (S.1 o 1) ≤ 0 then some (0 : Int32) else some (1 : Int32))
set_option maxRecDepth 100000 in
set_option maxHeartbeats 4000000 in
theorem c_F_isTold {X : Nat × (Nat → Int32)} {D F G : Nat} (hD : 0 ≤ D) {S : St} {o : Nat} {res : Int32} (h : fF_isTold F G S o = some res) : Ek X (D) mF_isTold 0 [(0, .ref o)] [] S (some (.int res)) S := by
  unfold fF_isTold at h
  obtain ⟨gg0, h⟩ := gd_inv h
  refine x_aload_n d_F_isTold_0 rfl 0 rfl ?_
  refine y_getI d_F_isTold_1 fl_3_25 rfl (ksFo gg0) ?_
  refine x_if_le (tgt := 11) d_F_isTold_4 rfl (fun c1 => ?_) (fun c1 => ?_)
  · replace h := ite_t c1 h
    refine x_iconst d_F_isTold_11 ic_0 ?_
    obtain rfl := Option.some.inj h
    exact x_ret (r := some (.int (0 : Int32))) d_F_isTold_12 ⟨_, rfl, rfl⟩
  · replace h := ite_f c1 h
    refine x_iconst d_F_isTold_7 ic_1 ?_
    refine x_goto (tgt := 12) d_F_isTold_8 rfl ?_
    obtain rfl := Option.some.inj h
    exact x_ret (r := some (.int (1 : Int32))) d_F_isTold_12 ⟨_, rfl, rfl⟩
/-! NinetyPlayers$Formula.push -/
def fF_push (F G : Nat) (S : St) (o : Nat) (p1 : Int32) : Option (St) :=
  gd (isFo o) (if (Int32.ofNat 31) ≤ (S.1 o 5) then some S else gd (inB (S.1 o 5) 31) (lt (sI S (o + 2) (S.1 o 5).toNatClampNeg p1) fun S3 => lt (sI S3 o 5 ((S3.1 o 5) + (1 : Int32))) fun S5 => some S5))
set_option maxRecDepth 100000 in
set_option maxHeartbeats 4000000 in
theorem c_F_push {X : Nat × (Nat → Int32)} {D F G : Nat} (hD : 0 ≤ D) {S : St} {o : Nat} {p1 : Int32} {res : St} (h : fF_push F G S o p1 = some res) : Ek X (D) mF_push 0 [(0, .ref o), (1, .int p1)] [] S none res := by
  unfold fF_push at h
  obtain ⟨gg0, h⟩ := gd_inv h
  refine x_aload_n d_F_push_0 rfl 0 rfl ?_
  refine y_getI d_F_push_1 fl_3_28 rfl (ksFo gg0) ?_
  refine x_aload_n d_F_push_4 rfl 0 rfl ?_
  refine y_getR d_F_push_5 fl_3_13 rfl (ksFo gg0) (rrFo_3 gg0) ?_
  refine x_alen1 d_F_push_8 (ksFo_2 gg0) ?_
  refine x_icmp_ge (tgt := 32) d_F_push_9 rfl (fun c1 => ?_) (fun c1 => ?_)
  · replace h := ite_t c1 h
    obtain rfl := Option.some.inj h
    exact x_ret (r := none) d_F_push_32 rfl
  · replace h := ite_f c1 h
    refine x_aload_n d_F_push_12 rfl 0 rfl ?_
    refine y_getR d_F_push_13 fl_3_13 rfl (ksFo gg0) (rrFo_3 gg0) ?_
    refine x_aload_n d_F_push_16 rfl 0 rfl ?_
    refine y_getI d_F_push_17 fl_3_28 rfl (ksFo gg0) ?_
    refine x_iload_n d_F_push_20 rfl 1 rfl ?_
    obtain ⟨g2, h⟩ := gd_inv h
    obtain ⟨S3, e4, h⟩ := lt_inv h
    refine y_iast e4 d_F_push_21 (ksFo_2 gg0) g2 ?_
    refine x_aload_n d_F_push_22 rfl 0 rfl ?_
    refine x_dup d_F_push_23 rfl ?_
    refine y_getI d_F_push_24 fl_3_28 rfl (ksFo gg0) ?_
    refine x_iconst d_F_push_27 ic_1 ?_
    refine x_iadd d_F_push_28 ?_
    obtain ⟨S5, e6, h⟩ := lt_inv h
    refine y_putI e6 d_F_push_29 fl_3_28 rfl rfl (ksFo gg0) rfl rfl ?_
    obtain rfl := Option.some.inj h
    exact x_ret (r := none) d_F_push_32 rfl
/-! NinetyPlayers$Formula.joined -/
def fF_joined (F G : Nat) (S : St) (p1 : Int32) (p2 : Int32) (p3 : Int32) : Option (Int32) :=
  if p1 = 12 then if p2 = 0 then if p3 = 0 then some (0 : Int32) else some (1 : Int32) else some (1 : Int32) else if p1 = 13 then if p2 = 0 then some (0 : Int32) else if p3 = 0 then some (0 : Int32) else some (1 : Int32) else if p1 = 37 then if p3 = 0 then some (0 : Int32) else gd (nz p3) (some (p2 - p2 / p3 * p3)) else if p1 = 42 then some (p2 * p3) else if p1 = 43 then some (p2 + p3) else if p1 = 45 then some (p2 - p3) else if p1 = 47 then if p3 = 0 then some (0 : Int32) else gd (nz p3) (some (p2 / p3)) else if p1 = 60 then if p3 ≤ p2 then some (0 : Int32) else some (1 : Int32) else if p1 = 61 then if p2 = p3 then some (1 : Int32) else some (0 : Int32) else if p1 = 62 then if p2 ≤ p3 then some (0 : Int32) else some (1 : Int32) else some (0 : Int32)
set_option maxRecDepth 100000 in
set_option maxHeartbeats 4000000 in
theorem c_F_joined {X : Nat × (Nat → Int32)} {D F G : Nat} (hD : 0 ≤ D) {S : St} {p1 : Int32} {p2 : Int32} {p3 : Int32} {res : Int32} (h : fF_joined F G S p1 p2 p3 = some res) : Ek X (D) mF_joined 0 [(0, .int p1), (1, .int p2), (2, .int p3)] [] S (some (.int res)) S := by
  unfold fF_joined at h
  refine x_iload_n d_F_joined_0 rfl 0 rfl ?_
  by_cases c1 : p1 = 12
  · replace h := ite_t c1 h
    refine x_look (tgt := 175) d_F_joined_1 (by decide +kernel) (by rw [c1] <;> rfl) rfl ?_
    refine x_iload_n d_F_joined_175 rfl 1 rfl ?_
    refine x_if_ne (tgt := 183) d_F_joined_176 rfl (fun c2 => ?_) (fun c2 => ?_)
    · replace h := ite_f c2 h
      refine x_iconst d_F_joined_183 ic_1 ?_
      refine x_goto (tgt := 188) d_F_joined_184 rfl ?_
      obtain rfl := Option.some.inj h
      exact x_ret (r := some (.int (1 : Int32))) d_F_joined_188 ⟨_, rfl, rfl⟩
    · replace h := ite_t c2 h
      refine x_iload_n d_F_joined_179 rfl 2 rfl ?_
      refine x_if_eq (tgt := 187) d_F_joined_180 rfl (fun c3 => ?_) (fun c3 => ?_)
      · replace h := ite_t c3 h
        refine x_iconst d_F_joined_187 ic_0 ?_
        obtain rfl := Option.some.inj h
        exact x_ret (r := some (.int (0 : Int32))) d_F_joined_188 ⟨_, rfl, rfl⟩
      · replace h := ite_f c3 h
        refine x_iconst d_F_joined_183 ic_1 ?_
        refine x_goto (tgt := 188) d_F_joined_184 rfl ?_
        obtain rfl := Option.some.inj h
        exact x_ret (r := some (.int (1 : Int32))) d_F_joined_188 ⟨_, rfl, rfl⟩
  replace h := ite_f c1 h
  by_cases c4 : p1 = 13
  · replace h := ite_t c4 h
    refine x_look (tgt := 161) d_F_joined_1 (by decide +kernel) (by rw [c4] <;> rfl) rfl ?_
    refine x_iload_n d_F_joined_161 rfl 1 rfl ?_
    refine x_if_eq (tgt := 173) d_F_joined_162 rfl (fun c5 => ?_) (fun c5 => ?_)
    · replace h := ite_t c5 h
      refine x_iconst d_F_joined_173 ic_0 ?_
      obtain rfl := Option.some.inj h
      exact x_ret (r := some (.int (0 : Int32))) d_F_joined_174 ⟨_, rfl, rfl⟩
    · replace h := ite_f c5 h
      refine x_iload_n d_F_joined_165 rfl 2 rfl ?_
      refine x_if_eq (tgt := 173) d_F_joined_166 rfl (fun c6 => ?_) (fun c6 => ?_)
      · replace h := ite_t c6 h
        refine x_iconst d_F_joined_173 ic_0 ?_
        obtain rfl := Option.some.inj h
        exact x_ret (r := some (.int (0 : Int32))) d_F_joined_174 ⟨_, rfl, rfl⟩
      · replace h := ite_f c6 h
        refine x_iconst d_F_joined_169 ic_1 ?_
        refine x_goto (tgt := 174) d_F_joined_170 rfl ?_
        obtain rfl := Option.some.inj h
        exact x_ret (r := some (.int (1 : Int32))) d_F_joined_174 ⟨_, rfl, rfl⟩
  replace h := ite_f c4 h
  by_cases c7 : p1 = 37
  · replace h := ite_t c7 h
    refine x_look (tgt := 116) d_F_joined_1 (by decide +kernel) (by rw [c7] <;> rfl) rfl ?_
    refine x_iload_n d_F_joined_116 rfl 2 rfl ?_
    refine x_if_ne (tgt := 124) d_F_joined_117 rfl (fun c8 => ?_) (fun c8 => ?_)
    · replace h := ite_f c8 h
      refine x_iload_n d_F_joined_124 rfl 1 rfl ?_
      refine x_iload_n d_F_joined_125 rfl 2 rfl ?_
      obtain ⟨g9, h⟩ := gd_inv h
      refine x_irem d_F_joined_126 (nz_ne g9) ?_
      obtain rfl := Option.some.inj h
      exact x_ret (r := some (.int (p2 - p2 / p3 * p3))) d_F_joined_127 ⟨_, rfl, rfl⟩
    · replace h := ite_t c8 h
      refine x_iconst d_F_joined_120 ic_0 ?_
      refine x_goto (tgt := 127) d_F_joined_121 rfl ?_
      obtain rfl := Option.some.inj h
      exact x_ret (r := some (.int (0 : Int32))) d_F_joined_127 ⟨_, rfl, rfl⟩
  replace h := ite_f c7 h
  by_cases c10 : p1 = 42
  · replace h := ite_t c10 h
    refine x_look (tgt := 100) d_F_joined_1 (by decide +kernel) (by rw [c10] <;> rfl) rfl ?_
    refine x_iload_n d_F_joined_100 rfl 1 rfl ?_
    refine x_iload_n d_F_joined_101 rfl 2 rfl ?_
    refine x_imul d_F_joined_102 ?_
    obtain rfl := Option.some.inj h
    exact x_ret (r := some (.int (p2 * p3))) d_F_joined_103 ⟨_, rfl, rfl⟩
  replace h := ite_f c10 h
  by_cases c11 : p1 = 43
  · replace h := ite_t c11 h
    refine x_look (tgt := 92) d_F_joined_1 (by decide +kernel) (by rw [c11] <;> rfl) rfl ?_
    refine x_iload_n d_F_joined_92 rfl 1 rfl ?_
    refine x_iload_n d_F_joined_93 rfl 2 rfl ?_
    refine x_iadd d_F_joined_94 ?_
    obtain rfl := Option.some.inj h
    exact x_ret (r := some (.int (p2 + p3))) d_F_joined_95 ⟨_, rfl, rfl⟩
  replace h := ite_f c11 h
  by_cases c12 : p1 = 45
  · replace h := ite_t c12 h
    refine x_look (tgt := 96) d_F_joined_1 (by decide +kernel) (by rw [c12] <;> rfl) rfl ?_
    refine x_iload_n d_F_joined_96 rfl 1 rfl ?_
    refine x_iload_n d_F_joined_97 rfl 2 rfl ?_
    refine x_isub d_F_joined_98 ?_
    obtain rfl := Option.some.inj h
    exact x_ret (r := some (.int (p2 - p3))) d_F_joined_99 ⟨_, rfl, rfl⟩
  replace h := ite_f c12 h
  by_cases c13 : p1 = 47
  · replace h := ite_t c13 h
    refine x_look (tgt := 104) d_F_joined_1 (by decide +kernel) (by rw [c13] <;> rfl) rfl ?_
    refine x_iload_n d_F_joined_104 rfl 2 rfl ?_
    refine x_if_ne (tgt := 112) d_F_joined_105 rfl (fun c14 => ?_) (fun c14 => ?_)
    · replace h := ite_f c14 h
      refine x_iload_n d_F_joined_112 rfl 1 rfl ?_
      refine x_iload_n d_F_joined_113 rfl 2 rfl ?_
      obtain ⟨g15, h⟩ := gd_inv h
      refine x_idiv d_F_joined_114 (nz_ne g15) ?_
      obtain rfl := Option.some.inj h
      exact x_ret (r := some (.int (p2 / p3))) d_F_joined_115 ⟨_, rfl, rfl⟩
    · replace h := ite_t c14 h
      refine x_iconst d_F_joined_108 ic_0 ?_
      refine x_goto (tgt := 115) d_F_joined_109 rfl ?_
      obtain rfl := Option.some.inj h
      exact x_ret (r := some (.int (0 : Int32))) d_F_joined_115 ⟨_, rfl, rfl⟩
  replace h := ite_f c13 h
  by_cases c16 : p1 = 60
  · replace h := ite_t c16 h
    refine x_look (tgt := 128) d_F_joined_1 (by decide +kernel) (by rw [c16] <;> rfl) rfl ?_
    refine x_iload_n d_F_joined_128 rfl 1 rfl ?_
    refine x_iload_n d_F_joined_129 rfl 2 rfl ?_
    refine x_icmp_ge (tgt := 137) d_F_joined_130 rfl (fun c17 => ?_) (fun c17 => ?_)
    · replace h := ite_t c17 h
      refine x_iconst d_F_joined_137 ic_0 ?_
      obtain rfl := Option.some.inj h
      exact x_ret (r := some (.int (0 : Int32))) d_F_joined_138 ⟨_, rfl, rfl⟩
    · replace h := ite_f c17 h
      refine x_iconst d_F_joined_133 ic_1 ?_
      refine x_goto (tgt := 138) d_F_joined_134 rfl ?_
      obtain rfl := Option.some.inj h
      exact x_ret (r := some (.int (1 : Int32))) d_F_joined_138 ⟨_, rfl, rfl⟩
  replace h := ite_f c16 h
  by_cases c18 : p1 = 61
  · replace h := ite_t c18 h
    refine x_look (tgt := 150) d_F_joined_1 (by decide +kernel) (by rw [c18] <;> rfl) rfl ?_
    refine x_iload_n d_F_joined_150 rfl 1 rfl ?_
    refine x_iload_n d_F_joined_151 rfl 2 rfl ?_
    refine x_icmp_ne (tgt := 159) d_F_joined_152 rfl (fun c19 => ?_) (fun c19 => ?_)
    · replace h := ite_f c19 h
      refine x_iconst d_F_joined_159 ic_0 ?_
      obtain rfl := Option.some.inj h
      exact x_ret (r := some (.int (0 : Int32))) d_F_joined_160 ⟨_, rfl, rfl⟩
    · replace h := ite_t c19 h
      refine x_iconst d_F_joined_155 ic_1 ?_
      refine x_goto (tgt := 160) d_F_joined_156 rfl ?_
      obtain rfl := Option.some.inj h
      exact x_ret (r := some (.int (1 : Int32))) d_F_joined_160 ⟨_, rfl, rfl⟩
  replace h := ite_f c18 h
  by_cases c20 : p1 = 62
  · replace h := ite_t c20 h
    refine x_look (tgt := 139) d_F_joined_1 (by decide +kernel) (by rw [c20] <;> rfl) rfl ?_
    refine x_iload_n d_F_joined_139 rfl 1 rfl ?_
    refine x_iload_n d_F_joined_140 rfl 2 rfl ?_
    refine x_icmp_le (tgt := 148) d_F_joined_141 rfl (fun c21 => ?_) (fun c21 => ?_)
    · replace h := ite_t c21 h
      refine x_iconst d_F_joined_148 ic_0 ?_
      obtain rfl := Option.some.inj h
      exact x_ret (r := some (.int (0 : Int32))) d_F_joined_149 ⟨_, rfl, rfl⟩
    · replace h := ite_f c21 h
      refine x_iconst d_F_joined_144 ic_1 ?_
      refine x_goto (tgt := 149) d_F_joined_145 rfl ?_
      obtain rfl := Option.some.inj h
      exact x_ret (r := some (.int (1 : Int32))) d_F_joined_149 ⟨_, rfl, rfl⟩
  replace h := ite_f c20 h
  refine x_look (off := 188) (tgt := 189) d_F_joined_1 (by decide +kernel) (by show Op.lookupswitch.offset [(12, 174), (13, 160), (37, 115), (42, 99), (43, 91), (45, 95), (47, 103), (60, 127), (61, 149), (62, 138)] 188 _ = _; rw [lv_osw (a := 12) c1 (by decide), lv_osw (a := 13) c4 (by decide), lv_osw (a := 37) c7 (by decide), lv_osw (a := 42) c10 (by decide), lv_osw (a := 43) c11 (by decide), lv_osw (a := 45) c12 (by decide), lv_osw (a := 47) c13 (by decide), lv_osw (a := 60) c16 (by decide), lv_osw (a := 61) c18 (by decide), lv_osw (a := 62) c20 (by decide)]; rfl) rfl ?_
  refine x_iconst d_F_joined_189 ic_0 ?_
  obtain rfl := Option.some.inj h
  exact x_ret (r := some (.int (0 : Int32))) d_F_joined_190 ⟨_, rfl, rfl⟩
/-! NinetyPlayers$Formula.step -/
def j_F_step_89 (F G : Nat) (o : Nat) (S : St) (y2 : Int32) : Option (St) :=
  if (S.1 o 5) ≤ (1 : Int32) then some S else lt (sI S o 5 ((S.1 o 5) - (1 : Int32))) fun S22 => gd (inB ((S22.1 o 5) - (1 : Int32)) 31) (gd (inB (S22.1 o 5) 31) (bd (fF_joined F G S22 y2 (S22.1 (o + 2) ((S22.1 o 5) - (1 : Int32)).toNatClampNeg) (S22.1 (o + 2) (S22.1 o 5).toNatClampNeg)) fun v27 => gd (inB ((S22.1 o 5) - (1 : Int32)) 31) (lt (sI S22 (o + 2) ((S22.1 o 5) - (1 : Int32)).toNatClampNeg v27) fun S29 => some S29)))
def j_F_step_43 (F G : Nat) (o : Nat) (S : St) (y2 : Int32) : Option (St) :=
  if y2 = (14 : Int32) then if (S.1 o 5) ≤ 0 then j_F_step_89 F G o  S y2 else gd (inB ((S.1 o 5) - (1 : Int32)) 31) (if (S.1 (o + 2) ((S.1 o 5) - (1 : Int32)).toNatClampNeg) = 0 then gd (inB ((S.1 o 5) - (1 : Int32)) 31) (lt (sI S (o + 2) ((S.1 o 5) - (1 : Int32)).toNatClampNeg (1 : Int32)) fun S19 => some S19) else gd (inB ((S.1 o 5) - (1 : Int32)) 31) (lt (sI S (o + 2) ((S.1 o 5) - (1 : Int32)).toNatClampNeg (0 : Int32)) fun S16 => some S16)) else j_F_step_89 F G o  S y2
def fF_step (F G : Nat) (S : St) (o : Nat) (p1 : Int32) : Option (St) :=
  gd (isFo o) (lt (-p1) fun v1 => if p1 < 0 then if v1 < (15 : Int32) then j_F_step_43 F G o  S v1 else if (20 : Int32) < v1 then j_F_step_43 F G o  S v1 else gd (inB (v1 - (15 : Int32)) 6) (bd (fF_push F G S o (S.1 (o + 3) (v1 - (15 : Int32)).toNatClampNeg)) fun S8 => some S8) else bd (fF_push F G S o p1) fun S10 => some S10)
set_option maxRecDepth 100000 in
set_option maxHeartbeats 4000000 in
theorem c_F_step {X : Nat × (Nat → Int32)} {D F G : Nat} (hD : 1 ≤ D) {S : St} {o : Nat} {p1 : Int32} {res : St} (h : fF_step F G S o p1 = some res) : Ek X (D) mF_step 0 [(0, .ref o), (1, .int p1)] [] S none res := by
  obtain ⟨D, rfl⟩ : ∃ E, D = E + 1 := ⟨D - 1, by omega⟩
  unfold fF_step at h
  obtain ⟨gg0, h⟩ := gd_inv h
  have J89 : ∀ (S : St) (y2 : Int32) (res : St), j_F_step_89 F G o S y2 = some res → Ek X (D + 1) mF_step 89 [(0, .ref o), (2, .int y2)] [] S none res := by
    intro S y2 res h
    unfold j_F_step_89 at h
    refine x_aload_n d_F_step_89 rfl 0 rfl ?_
    refine y_getI d_F_step_90 fl_3_28 rfl (ksFo gg0) ?_
    refine x_iconst d_F_step_93 ic_1 ?_
    refine x_icmp_le (tgt := 142) d_F_step_94 rfl (fun c21 => ?_) (fun c21 => ?_)
    · replace h := ite_t c21 h
      obtain rfl := Option.some.inj h
      exact x_ret (r := none) d_F_step_142 rfl
    · replace h := ite_f c21 h
      refine x_aload_n d_F_step_97 rfl 0 rfl ?_
      refine x_dup d_F_step_98 rfl ?_
      refine y_getI d_F_step_99 fl_3_28 rfl (ksFo gg0) ?_
      refine x_iconst d_F_step_102 ic_1 ?_
      refine x_isub d_F_step_103 ?_
      obtain ⟨S22, e23, h⟩ := lt_inv h
      refine y_putI e23 d_F_step_104 fl_3_28 rfl rfl (ksFo gg0) rfl rfl ?_
      refine x_aload_n d_F_step_107 rfl 0 rfl ?_
      refine y_getR d_F_step_108 fl_3_13 rfl (ksFo gg0) (rrFo_3 gg0) ?_
      refine x_aload_n d_F_step_111 rfl 0 rfl ?_
      refine y_getI d_F_step_112 fl_3_28 rfl (ksFo gg0) ?_
      refine x_iconst d_F_step_115 ic_1 ?_
      refine x_isub d_F_step_116 ?_
      refine x_iload_n d_F_step_117 rfl 1 rfl ?_
      refine x_aload_n d_F_step_118 rfl 0 rfl ?_
      refine y_getR d_F_step_119 fl_3_13 rfl (ksFo gg0) (rrFo_3 gg0) ?_
      refine x_aload_n d_F_step_122 rfl 0 rfl ?_
      refine y_getI d_F_step_123 fl_3_28 rfl (ksFo gg0) ?_
      refine x_iconst d_F_step_126 ic_1 ?_
      refine x_isub d_F_step_127 ?_
      obtain ⟨g24, h⟩ := gd_inv h
      refine y_iald d_F_step_128 (ksFo_2 gg0) g24 ?_
      refine x_aload_n d_F_step_129 rfl 0 rfl ?_
      refine y_getR d_F_step_130 fl_3_13 rfl (ksFo gg0) (rrFo_3 gg0) ?_
      refine x_aload_n d_F_step_133 rfl 0 rfl ?_
      refine y_getI d_F_step_134 fl_3_28 rfl (ksFo gg0) ?_
      obtain ⟨g25, h⟩ := gd_inv h
      refine y_iald d_F_step_137 (ksFo_2 gg0) g25 ?_
      obtain ⟨v27, q26, h⟩ := bd_inv h
      refine y_S3i (v := v27) (S1 := S22) d_F_step_138 ml_3_38 (Nat.le_of_ble_eq_true rfl) (Nat.le_of_ble_eq_true rfl) (c_F_joined (by omega) q26) ?_
      obtain ⟨g28, h⟩ := gd_inv h
      obtain ⟨S29, e30, h⟩ := lt_inv h
      refine y_iast e30 d_F_step_141 (ksFo_2 gg0) g28 ?_
      obtain rfl := Option.some.inj h
      exact x_ret (r := none) d_F_step_142 rfl
  have J43 : ∀ (S : St) (y2 : Int32) (res : St), j_F_step_43 F G o S y2 = some res → Ek X (D + 1) mF_step 43 [(0, .ref o), (2, .int y2)] [] S none res := by
    intro S y2 res h
    unfold j_F_step_43 at h
    refine x_iload_n d_F_step_43 rfl 1 rfl ?_
    refine x_bipush d_F_step_44 bp_14 ?_
    refine x_icmp_ne (tgt := 89) d_F_step_46 rfl (fun c11 => ?_) (fun c11 => ?_)
    · replace h := ite_f c11 h
      exact J89 S y2 _ h
    · replace h := ite_t c11 h
      refine x_aload_n d_F_step_49 rfl 0 rfl ?_
      refine y_getI d_F_step_50 fl_3_28 rfl (ksFo gg0) ?_
      refine x_if_le (tgt := 89) d_F_step_53 rfl (fun c12 => ?_) (fun c12 => ?_)
      · replace h := ite_t c12 h
        exact J89 S y2 _ h
      · replace h := ite_f c12 h
        refine x_aload_n d_F_step_56 rfl 0 rfl ?_
        refine y_getR d_F_step_57 fl_3_13 rfl (ksFo gg0) (rrFo_3 gg0) ?_
        refine x_aload_n d_F_step_60 rfl 0 rfl ?_
        refine y_getI d_F_step_61 fl_3_28 rfl (ksFo gg0) ?_
        refine x_iconst d_F_step_64 ic_1 ?_
        refine x_isub d_F_step_65 ?_
        refine x_aload_n d_F_step_66 rfl 0 rfl ?_
        refine y_getR d_F_step_67 fl_3_13 rfl (ksFo gg0) (rrFo_3 gg0) ?_
        refine x_aload_n d_F_step_70 rfl 0 rfl ?_
        refine y_getI d_F_step_71 fl_3_28 rfl (ksFo gg0) ?_
        refine x_iconst d_F_step_74 ic_1 ?_
        refine x_isub d_F_step_75 ?_
        obtain ⟨g13, h⟩ := gd_inv h
        refine y_iald d_F_step_76 (ksFo_2 gg0) g13 ?_
        refine x_if_ne (tgt := 84) d_F_step_77 rfl (fun c14 => ?_) (fun c14 => ?_)
        · replace h := ite_f c14 h
          refine x_iconst d_F_step_84 ic_0 ?_
          obtain ⟨g15, h⟩ := gd_inv h
          obtain ⟨S16, e17, h⟩ := lt_inv h
          refine y_iast e17 d_F_step_85 (ksFo_2 gg0) g15 ?_
          refine x_goto (tgt := 142) d_F_step_86 rfl ?_
          obtain rfl := Option.some.inj h
          exact x_ret (r := none) d_F_step_142 rfl
        · replace h := ite_t c14 h
          refine x_iconst d_F_step_80 ic_1 ?_
          refine x_goto (tgt := 85) d_F_step_81 rfl ?_
          obtain ⟨g18, h⟩ := gd_inv h
          obtain ⟨S19, e20, h⟩ := lt_inv h
          refine y_iast e20 d_F_step_85 (ksFo_2 gg0) g18 ?_
          refine x_goto (tgt := 142) d_F_step_86 rfl ?_
          obtain rfl := Option.some.inj h
          exact x_ret (r := none) d_F_step_142 rfl
  refine x_iload_n d_F_step_0 rfl 1 rfl ?_
  refine x_ineg d_F_step_1 ?_
  obtain ⟨v1, e2, h⟩ := lt_inv h
  refine y_istore_n (L1 := [(0, .ref o), (1, .int p1), (2, .int v1)]) e2 d_F_step_2 rfl (Nat.le_of_ble_eq_true rfl) rfl rfl ?_
  refine x_iload_n d_F_step_3 rfl 1 rfl ?_
  refine x_if_lt (tgt := 15) d_F_step_4 rfl (fun c3 => ?_) (fun c3 => ?_)
  · replace h := ite_t c3 h
    refine x_iload_n d_F_step_15 rfl 2 rfl ?_
    refine x_bipush d_F_step_16 bp_15 ?_
    refine x_icmp_lt (tgt := 43) d_F_step_18 rfl (fun c4 => ?_) (fun c4 => ?_)
    · replace h := ite_t c4 h
      refine y_pick (L1 := [(0, .ref o), (2, .int v1)]) [0, 2] rfl ?_
      exact J43 S v1 _ h
    · replace h := ite_f c4 h
      refine x_iload_n d_F_step_21 rfl 2 rfl ?_
      refine x_bipush d_F_step_22 bp_20 ?_
      refine x_icmp_gt (tgt := 43) d_F_step_24 rfl (fun c5 => ?_) (fun c5 => ?_)
      · replace h := ite_t c5 h
        refine y_pick (L1 := [(0, .ref o), (2, .int v1)]) [0, 2] rfl ?_
        exact J43 S v1 _ h
      · replace h := ite_f c5 h
        refine x_aload_n d_F_step_27 rfl 0 rfl ?_
        refine x_aload_n d_F_step_28 rfl 0 rfl ?_
        refine y_getR d_F_step_29 fl_3_18 rfl (ksFo gg0) (rrFo_4 gg0) ?_
        refine x_iload_n d_F_step_32 rfl 2 rfl ?_
        refine x_bipush d_F_step_33 bp_15 ?_
        refine x_isub d_F_step_35 ?_
        obtain ⟨g6, h⟩ := gd_inv h
        refine y_iald d_F_step_36 (ksFo_3 gg0) g6 ?_
        obtain ⟨S8, q7, h⟩ := bd_inv h
        refine y_V1v (S1 := S8) d_F_step_37 ml_3_35 (ksFo gg0) rfl (Nat.le_of_ble_eq_true rfl) (Nat.le_of_ble_eq_true rfl) (c_F_push (by omega) q7) ?_
        refine x_goto (tgt := 142) d_F_step_40 rfl ?_
        obtain rfl := Option.some.inj h
        exact x_ret (r := none) d_F_step_142 rfl
  · replace h := ite_f c3 h
    refine x_aload_n d_F_step_7 rfl 0 rfl ?_
    refine x_iload_n d_F_step_8 rfl 1 rfl ?_
    obtain ⟨S10, q9, h⟩ := bd_inv h
    refine y_V1v (S1 := S10) d_F_step_9 ml_3_35 (ksFo gg0) rfl (Nat.le_of_ble_eq_true rfl) (Nat.le_of_ble_eq_true rfl) (c_F_push (by omega) q9) ?_
    refine x_goto (tgt := 142) d_F_step_12 rfl ?_
    obtain rfl := Option.some.inj h
    exact x_ret (r := none) d_F_step_142 rfl
/-! NinetyPlayers$Formula.valueOf -/
def b_F_valueOf_53 (F G : Nat) (z0 : Nat) (rec : Int32 → St → Option (Int32 × St)) (w7 : Int32) (S : St) : Option (Int32 × St) :=
  if (S.1 z0 1) ≤ w7 then if (S.1 z0 5) ≤ 0 then some ((0 : Int32), S) else gd (inB (0 : Int32) 31) (some (S.1 (z0 + 2) (0 : Int32).toNatClampNeg, S)) else gd (inB w7 270) (bd (fF_step F G S z0 (S.1 (z0 + 1) w7.toNatClampNeg)) fun S26 => lt (w7 + 1) fun v27 => rec v27 S26)
def fF_valueOf (F G : Nat) (S : St) (o : Nat) (p1 : Int32) (p2 : Int32) (p3 : Int32) (p4 : Int32) (p5 : Int32) (p6 : Int32) : Option (Int32 × St) :=
  gd (isFo o) (gd (inB (0 : Int32) 6) (lt (sI S (o + 3) (0 : Int32).toNatClampNeg p1) fun S2 => gd (inB (1 : Int32) 6) (lt (sI S2 (o + 3) (1 : Int32).toNatClampNeg p2) fun S5 => gd (inB (2 : Int32) 6) (lt (sI S5 (o + 3) (2 : Int32).toNatClampNeg p3) fun S8 => gd (inB (3 : Int32) 6) (lt (sI S8 (o + 3) (3 : Int32).toNatClampNeg p4) fun S11 => gd (inB (4 : Int32) 6) (lt (sI S11 (o + 3) (4 : Int32).toNatClampNeg p5) fun S14 => gd (inB (5 : Int32) 6) (lt (sI S14 (o + 3) (5 : Int32).toNatClampNeg p6) fun S17 => lt (sI S17 o 5 (0 : Int32)) fun S19 => fx2 (b_F_valueOf_53 F G o) F (0 : Int32) S19)))))))
set_option maxRecDepth 100000 in
set_option maxHeartbeats 4000000 in
theorem T_F_valueOf_53 {X : Nat × (Nat → Int32)} {D F G : Nat} (hD : 2 ≤ D + 1) {z0 : Nat} (hz0 : isFo z0 = true) : ∀ (f : Nat) (w7 : Int32) (S : St) (res : Int32 × St), fx2 (b_F_valueOf_53 F G z0 ) f w7 S = some res → Ek X (D + 1) mF_valueOf 53 [(0, .ref z0), (7, .int w7)] [] S (some (.int res.1)) res.2 := by
  refine fx2_ind ?_
  intro rec ih w7 S res h
  unfold b_F_valueOf_53 at h
  refine x_iload d_F_valueOf_53 1 rfl ?_
  refine x_aload_n d_F_valueOf_55 rfl 0 rfl ?_
  refine y_getI d_F_valueOf_56 fl_3_25 rfl (ksFo hz0) ?_
  refine x_icmp_ge (tgt := 79) d_F_valueOf_59 rfl (fun c21 => ?_) (fun c21 => ?_)
  · replace h := ite_t c21 h
    refine x_aload_n d_F_valueOf_79 rfl 0 rfl ?_
    refine y_getI d_F_valueOf_80 fl_3_28 rfl (ksFo hz0) ?_
    refine x_if_le (tgt := 95) d_F_valueOf_83 rfl (fun c22 => ?_) (fun c22 => ?_)
    · replace h := ite_t c22 h
      refine x_iconst d_F_valueOf_95 ic_0 ?_
      obtain rfl := Option.some.inj h
      exact x_ret (r := some (.int (0 : Int32))) d_F_valueOf_96 ⟨_, rfl, rfl⟩
    · replace h := ite_f c22 h
      refine x_aload_n d_F_valueOf_86 rfl 0 rfl ?_
      refine y_getR d_F_valueOf_87 fl_3_13 rfl (ksFo hz0) (rrFo_3 hz0) ?_
      refine x_iconst d_F_valueOf_90 ic_0 ?_
      obtain ⟨g23, h⟩ := gd_inv h
      refine y_iald d_F_valueOf_91 (ksFo_2 hz0) g23 ?_
      refine x_goto (tgt := 96) d_F_valueOf_92 rfl ?_
      obtain rfl := Option.some.inj h
      exact x_ret (r := some (.int (S.1 (z0 + 2) (0 : Int32).toNatClampNeg))) d_F_valueOf_96 ⟨_, rfl, rfl⟩
  · replace h := ite_f c21 h
    refine x_aload_n d_F_valueOf_62 rfl 0 rfl ?_
    refine x_aload_n d_F_valueOf_63 rfl 0 rfl ?_
    refine y_getR d_F_valueOf_64 fl_3_9 rfl (ksFo hz0) (rrFo_2 hz0) ?_
    refine x_iload d_F_valueOf_67 1 rfl ?_
    obtain ⟨g24, h⟩ := gd_inv h
    refine y_iald d_F_valueOf_69 (ksFo_1 hz0) g24 ?_
    obtain ⟨S26, q25, h⟩ := bd_inv h
    refine y_V1v (S1 := S26) d_F_valueOf_70 ml_3_31 (ksFo hz0) rfl (Nat.le_of_ble_eq_true rfl) (Nat.le_of_ble_eq_true rfl) (c_F_step (by omega) q25) ?_
    obtain ⟨v27, e28, h⟩ := lt_inv h
    refine y_iinc (L1 := [(0, .ref z0), (7, .int v27)]) e28 ic_1 d_F_valueOf_73 1 rfl (Nat.le_of_ble_eq_true rfl) rfl rfl ?_
    refine x_goto (tgt := 53) d_F_valueOf_76 rfl ?_
    exact ih v27 S26 _ h
set_option maxRecDepth 100000 in
set_option maxHeartbeats 4000000 in
theorem c_F_valueOf {X : Nat × (Nat → Int32)} {D F G : Nat} (hD : 2 ≤ D) {S : St} {o : Nat} {p1 : Int32} {p2 : Int32} {p3 : Int32} {p4 : Int32} {p5 : Int32} {p6 : Int32} {res : Int32 × St} (h : fF_valueOf F G S o p1 p2 p3 p4 p5 p6 = some res) : Ek X (D) mF_valueOf 0 [(0, .ref o), (1, .int p1), (2, .int p2), (3, .int p3), (4, .int p4), (5, .int p5), (6, .int p6)] [] S (some (.int res.1)) res.2 := by
  obtain ⟨D, rfl⟩ : ∃ E, D = E + 1 := ⟨D - 1, by omega⟩
  unfold fF_valueOf at h
  obtain ⟨gg0, h⟩ := gd_inv h
  refine x_aload_n d_F_valueOf_0 rfl 0 rfl ?_
  refine y_getR d_F_valueOf_1 fl_3_18 rfl (ksFo gg0) (rrFo_4 gg0) ?_
  refine x_iconst d_F_valueOf_4 ic_0 ?_
  refine x_iload_n d_F_valueOf_5 rfl 1 rfl ?_
  obtain ⟨g1, h⟩ := gd_inv h
  obtain ⟨S2, e3, h⟩ := lt_inv h
  refine y_iast e3 d_F_valueOf_6 (ksFo_3 gg0) g1 ?_
  refine x_aload_n d_F_valueOf_7 rfl 0 rfl ?_
  refine y_getR d_F_valueOf_8 fl_3_18 rfl (ksFo gg0) (rrFo_4 gg0) ?_
  refine x_iconst d_F_valueOf_11 ic_1 ?_
  refine x_iload_n d_F_valueOf_12 rfl 2 rfl ?_
  obtain ⟨g4, h⟩ := gd_inv h
  obtain ⟨S5, e6, h⟩ := lt_inv h
  refine y_iast e6 d_F_valueOf_13 (ksFo_3 gg0) g4 ?_
  refine x_aload_n d_F_valueOf_14 rfl 0 rfl ?_
  refine y_getR d_F_valueOf_15 fl_3_18 rfl (ksFo gg0) (rrFo_4 gg0) ?_
  refine x_iconst d_F_valueOf_18 ic_2 ?_
  refine x_iload_n d_F_valueOf_19 rfl 3 rfl ?_
  obtain ⟨g7, h⟩ := gd_inv h
  obtain ⟨S8, e9, h⟩ := lt_inv h
  refine y_iast e9 d_F_valueOf_20 (ksFo_3 gg0) g7 ?_
  refine x_aload_n d_F_valueOf_21 rfl 0 rfl ?_
  refine y_getR d_F_valueOf_22 fl_3_18 rfl (ksFo gg0) (rrFo_4 gg0) ?_
  refine x_iconst d_F_valueOf_25 ic_3 ?_
  refine x_iload d_F_valueOf_26 4 rfl ?_
  obtain ⟨g10, h⟩ := gd_inv h
  obtain ⟨S11, e12, h⟩ := lt_inv h
  refine y_iast e12 d_F_valueOf_28 (ksFo_3 gg0) g10 ?_
  refine x_aload_n d_F_valueOf_29 rfl 0 rfl ?_
  refine y_getR d_F_valueOf_30 fl_3_18 rfl (ksFo gg0) (rrFo_4 gg0) ?_
  refine x_iconst d_F_valueOf_33 ic_4 ?_
  refine x_iload d_F_valueOf_34 5 rfl ?_
  obtain ⟨g13, h⟩ := gd_inv h
  obtain ⟨S14, e15, h⟩ := lt_inv h
  refine y_iast e15 d_F_valueOf_36 (ksFo_3 gg0) g13 ?_
  refine x_aload_n d_F_valueOf_37 rfl 0 rfl ?_
  refine y_getR d_F_valueOf_38 fl_3_18 rfl (ksFo gg0) (rrFo_4 gg0) ?_
  refine x_iconst d_F_valueOf_41 ic_5 ?_
  refine x_iload d_F_valueOf_42 6 rfl ?_
  obtain ⟨g16, h⟩ := gd_inv h
  obtain ⟨S17, e18, h⟩ := lt_inv h
  refine y_iast e18 d_F_valueOf_44 (ksFo_3 gg0) g16 ?_
  refine x_aload_n d_F_valueOf_45 rfl 0 rfl ?_
  refine x_iconst d_F_valueOf_46 ic_0 ?_
  obtain ⟨S19, e20, h⟩ := lt_inv h
  refine y_putI e20 d_F_valueOf_47 fl_3_28 rfl rfl (ksFo gg0) rfl rfl ?_
  refine x_iconst d_F_valueOf_50 ic_0 ?_
  refine x_istore (L1 := [(0, .ref o), (1, .int p1), (2, .int p2), (3, .int p3), (4, .int p4), (5, .int p5), (6, .int p6), (7, .int (0 : Int32))]) d_F_valueOf_51 (Nat.le_of_ble_eq_true rfl) rfl rfl ?_
  refine y_pick (L1 := [(0, .ref o), (7, .int (0 : Int32))]) [0, 7] rfl ?_
  refine T_F_valueOf_53 (by omega) gg0  F (0 : Int32) S19 _ h
/-! NinetyPlayers.missedOf -/
def j_N_missedOf_95 (F G : Nat) (S : St) (y5 : Int32) : Option (Int32 × St) :=
  some (if (0 : Int32) < (if y5 < (999 : Int32) then y5 else (999 : Int32)) then (if y5 < (999 : Int32) then y5 else (999 : Int32)) else (0 : Int32), S)
def fN_missedOf (F G : Nat) (S : St) (p1 : Int32) : Option (Int32 × St) :=
  gd (isSc S.2.2.1) (bd (fS_roleOf F G S S.2.2.1 p1) fun v3 => gd (inB p1 10) (lt (S.1 34 p1.toNatClampNeg) fun v5 => bd (fN_doublesOf F G S p1) fun v8 => bd (fJ_bitCount F G S v8) fun v10 => lt ((v5 + (v3 * (5 : Int32))) - v10) fun v11 => bd (fF_isTold F G S (S.2.2.1 + 9)) fun v14 => if v14 = 0 then j_N_missedOf_95 F G  S v11 else gd (inB p1 10) (gd (inB p1 10) (gd (inB p1 10) (bd2 (fF_valueOf F G S (S.2.2.1 + 9) v3 (S.1 32 p1.toNatClampNeg) (S.1 33 p1.toNatClampNeg) v5 v10 (S.1 (S.2.2.1 + 5) p1.toNatClampNeg)) fun v20 S21 => j_N_missedOf_95 F G  S21 v20)))))
set_option maxRecDepth 100000 in
set_option maxHeartbeats 4000000 in
theorem c_N_missedOf {X : Nat × (Nat → Int32)} {D F G : Nat} (hD : 3 ≤ D) {S : St} {p1 : Int32} {res : Int32 × St} (h : fN_missedOf F G S p1 = some res) : Ek X (D) mN_missedOf 0 [(0, .ref 0), (1, .int p1)] [] S (some (.int res.1)) res.2 := by
  obtain ⟨D, rfl⟩ : ∃ E, D = E + 1 := ⟨D - 1, by omega⟩
  unfold fN_missedOf at h
  have J95 : ∀ (S : St) (y5 : Int32) (res : Int32 × St), j_N_missedOf_95 F G S y5 = some res → Ek X (D + 1) mN_missedOf 95 [(5, .int y5)] [] S (some (.int res.1)) res.2 := by
    intro S y5 res h
    unfold j_N_missedOf_95 at h
    refine x_iconst d_N_missedOf_95 ic_0 ?_
    refine x_sipush d_N_missedOf_96 sp_999 ?_
    refine x_iload d_N_missedOf_99 0 rfl ?_
    refine y_mmin d_N_missedOf_101 ml_0_225 (Nat.le_of_ble_eq_true rfl) ?_
    refine y_mmax d_N_missedOf_104 ml_0_230 (Nat.le_of_ble_eq_true rfl) ?_
    obtain rfl := Option.some.inj h
    exact x_ret (r := some (.int (if (0 : Int32) < (if y5 < (999 : Int32) then y5 else (999 : Int32)) then (if y5 < (999 : Int32) then y5 else (999 : Int32)) else (0 : Int32)))) d_N_missedOf_107 ⟨_, rfl, rfl⟩
  refine x_aload_n d_N_missedOf_0 rfl 0 rfl ?_
  refine y_getR d_N_missedOf_1 fl_0_25 rfl kd_0 rr_told ?_
  obtain ⟨g1, h⟩ := gd_inv h
  refine x_iload_n d_N_missedOf_4 rfl 1 rfl ?_
  obtain ⟨v3, q2, h⟩ := bd_inv h
  refine y_V1i (v := v3) (S1 := S) d_N_missedOf_5 ml_0_203 (ksSc g1) rfl (Nat.le_of_ble_eq_true rfl) (Nat.le_of_ble_eq_true rfl) (c_S_roleOf (by omega) q2) ?_
  refine x_istore_n (L1 := [(0, .ref 0), (1, .int p1), (2, .int v3)]) d_N_missedOf_8 rfl (Nat.le_of_ble_eq_true rfl) rfl rfl ?_
  refine x_aload_n d_N_missedOf_9 rfl 0 rfl ?_
  refine y_getR d_N_missedOf_10 fl_0_32 rfl kd_0 rr_0_4 ?_
  refine y_getR d_N_missedOf_13 fl_0_141 rfl kd_30 rr_30_5 ?_
  refine x_iload_n d_N_missedOf_16 rfl 1 rfl ?_
  obtain ⟨g4, h⟩ := gd_inv h
  refine y_iald d_N_missedOf_17 kd_34 g4 ?_
  obtain ⟨v5, e6, h⟩ := lt_inv h
  refine y_istore_n (L1 := [(0, .ref 0), (1, .int p1), (2, .int v3), (3, .int v5)]) e6 d_N_missedOf_18 rfl (Nat.le_of_ble_eq_true rfl) rfl rfl ?_
  refine x_aload_n d_N_missedOf_19 rfl 0 rfl ?_
  refine x_iload_n d_N_missedOf_20 rfl 1 rfl ?_
  obtain ⟨v8, q7, h⟩ := bd_inv h
  refine y_V1i (v := v8) (S1 := S) d_N_missedOf_21 ml_0_151 kd_0 rfl (Nat.le_of_ble_eq_true rfl) (Nat.le_of_ble_eq_true rfl) (c_N_doublesOf (by omega) q7) ?_
  obtain ⟨v10, q9, h⟩ := bd_inv h
  refine y_S1i (v := v10) (S1 := S) d_N_missedOf_24 ml_0_206 (Nat.le_of_ble_eq_true rfl) (Nat.le_of_ble_eq_true rfl) (c_J_bitCount (by omega) q9) ?_
  refine x_istore (L1 := [(0, .ref 0), (1, .int p1), (2, .int v3), (3, .int v5), (4, .int v10)]) d_N_missedOf_27 (Nat.le_of_ble_eq_true rfl) rfl rfl ?_
  refine x_iload_n d_N_missedOf_29 rfl 3 rfl ?_
  refine x_iload_n d_N_missedOf_30 rfl 2 rfl ?_
  refine x_iconst d_N_missedOf_31 ic_5 ?_
  refine x_imul d_N_missedOf_32 ?_
  refine x_iadd d_N_missedOf_33 ?_
  refine x_iload d_N_missedOf_34 4 rfl ?_
  refine x_isub d_N_missedOf_36 ?_
  obtain ⟨v11, e12, h⟩ := lt_inv h
  refine y_istore (L1 := [(0, .ref 0), (1, .int p1), (2, .int v3), (3, .int v5), (4, .int v10), (5, .int v11)]) e12 d_N_missedOf_37 (Nat.le_of_ble_eq_true rfl) rfl rfl ?_
  refine x_aload_n d_N_missedOf_39 rfl 0 rfl ?_
  refine y_getR d_N_missedOf_40 fl_0_25 rfl kd_0 rr_told ?_
  refine y_getR d_N_missedOf_43 fl_0_211 rfl (ksSc g1) (rrSc_15 g1) ?_
  obtain ⟨v14, q13, h⟩ := bd_inv h
  refine y_V0i (v := v14) (S1 := S) d_N_missedOf_46 ml_0_215 (ksFo (isFo_of g1)) rfl (Nat.le_of_ble_eq_true rfl) (Nat.le_of_ble_eq_true rfl) (c_F_isTold (by omega) q13) ?_
  refine x_if_eq (tgt := 95) d_N_missedOf_49 rfl (fun c15 => ?_) (fun c15 => ?_)
  · replace h := ite_t c15 h
    refine y_pick (L1 := [(5, .int v11)]) [5] rfl ?_
    exact J95 S v11 _ h
  · replace h := ite_f c15 h
    refine x_aload_n d_N_missedOf_52 rfl 0 rfl ?_
    refine y_getR d_N_missedOf_53 fl_0_25 rfl kd_0 rr_told ?_
    refine y_getR d_N_missedOf_56 fl_0_211 rfl (ksSc g1) (rrSc_15 g1) ?_
    refine x_iload_n d_N_missedOf_59 rfl 2 rfl ?_
    refine x_aload_n d_N_missedOf_60 rfl 0 rfl ?_
    refine y_getR d_N_missedOf_61 fl_0_32 rfl kd_0 rr_0_4 ?_
    refine y_getR d_N_missedOf_64 fl_0_135 rfl kd_30 rr_30_3 ?_
    refine x_iload_n d_N_missedOf_67 rfl 1 rfl ?_
    obtain ⟨g16, h⟩ := gd_inv h
    refine y_iald d_N_missedOf_68 kd_32 g16 ?_
    refine x_aload_n d_N_missedOf_69 rfl 0 rfl ?_
    refine y_getR d_N_missedOf_70 fl_0_32 rfl kd_0 rr_0_4 ?_
    refine y_getR d_N_missedOf_73 fl_0_138 rfl kd_30 rr_30_4 ?_
    refine x_iload_n d_N_missedOf_76 rfl 1 rfl ?_
    obtain ⟨g17, h⟩ := gd_inv h
    refine y_iald d_N_missedOf_77 kd_33 g17 ?_
    refine x_iload_n d_N_missedOf_78 rfl 3 rfl ?_
    refine x_iload d_N_missedOf_79 4 rfl ?_
    refine x_aload_n d_N_missedOf_81 rfl 0 rfl ?_
    refine y_getR d_N_missedOf_82 fl_0_25 rfl kd_0 rr_told ?_
    refine y_getR d_N_missedOf_85 fl_0_132 rfl (ksSc g1) (rrSc_11 g1) ?_
    refine x_iload_n d_N_missedOf_88 rfl 1 rfl ?_
    obtain ⟨g18, h⟩ := gd_inv h
    refine y_iald d_N_missedOf_89 (ksSc_5 g1) g18 ?_
    obtain ⟨v20, S21, q19, h⟩ := bd2_inv h
    refine y_V6i (v := v20) (S1 := S21) d_N_missedOf_90 ml_0_221 (ksFo (isFo_of g1)) rfl (Nat.le_of_ble_eq_true rfl) (Nat.le_of_ble_eq_true rfl) (c_F_valueOf (by omega) q19) ?_
    refine x_istore (L1 := [(0, .ref 0), (1, .int p1), (2, .int v3), (3, .int v5), (4, .int v10), (5, .int v20)]) d_N_missedOf_93 (Nat.le_of_ble_eq_true rfl) rfl rfl ?_
    refine y_pick (L1 := [(5, .int v20)]) [5] rfl ?_
    exact J95 S21 v20 _ h
/-! NinetyPlayers.note -/
def fN_note (F G : Nat) (S : St) (p1 : Int32) (p2 : Int32) : Option (Int32 × St) :=
  bd (fN_isNote F G S p1) fun v2 => if v2 = 0 then some ((-1 : Int32), S) else if p2 = 0 then gd (isSc S.2.2.1) (gd (inB p1 10) (some (S.1 (S.2.2.1 + 4) p1.toNatClampNeg, S))) else if p2 = 1 then gd (isSc S.2.2.1) (gd (inB p1 10) (some (S.1 (S.2.2.1 + 5) p1.toNatClampNeg, S))) else if p2 = 2 then gd (inB p1 10) (some (S.1 32 p1.toNatClampNeg, S)) else if p2 = 3 then gd (inB p1 10) (some (S.1 33 p1.toNatClampNeg, S)) else if p2 = 4 then gd (inB p1 10) (some (S.1 34 p1.toNatClampNeg, S)) else if p2 = 5 then gd (inB p1 10) (some (S.1 31 p1.toNatClampNeg, S)) else if p2 = 6 then bd2 (fN_missedOf F G S p1) fun v20 S21 => some (v20, S21) else if p2 = 7 then bd (fN_doublesOf F G S p1) fun v24 => some (v24, S) else some ((-1 : Int32), S)
set_option maxRecDepth 100000 in
set_option maxHeartbeats 4000000 in
theorem c_N_note {X : Nat × (Nat → Int32)} {D F G : Nat} (hD : 4 ≤ D) {S : St} {p1 : Int32} {p2 : Int32} {res : Int32 × St} (h : fN_note F G S p1 p2 = some res) : Ek X (D) mN_note 0 [(0, .ref 0), (1, .int p1), (2, .int p2)] [] S (some (.int res.1)) res.2 := by
  obtain ⟨D, rfl⟩ : ∃ E, D = E + 1 := ⟨D - 1, by omega⟩
  unfold fN_note at h
  refine x_aload_n d_N_note_0 rfl 0 rfl ?_
  refine x_iload_n d_N_note_1 rfl 1 rfl ?_
  obtain ⟨v2, q1, h⟩ := bd_inv h
  refine y_V1i (v := v2) (S1 := S) d_N_note_2 ml_0_126 kd_0 rfl (Nat.le_of_ble_eq_true rfl) (Nat.le_of_ble_eq_true rfl) (c_N_isNote (by omega) q1) ?_
  refine x_if_ne (tgt := 10) d_N_note_5 rfl (fun c3 => ?_) (fun c3 => ?_)
  · replace h := ite_f c3 h
    refine x_iload_n d_N_note_10 rfl 2 rfl ?_
    by_cases c4 : p2 = 0
    · replace h := ite_t c4 h
      refine x_tabC (tgt := 56) 0 d_N_note_11 (by rw [c4]; rfl) (by decide) rfl rfl ?_
      refine x_aload_n d_N_note_56 rfl 0 rfl ?_
      refine y_getR d_N_note_57 fl_0_25 rfl kd_0 rr_told ?_
      obtain ⟨g5, h⟩ := gd_inv h
      refine y_getR d_N_note_60 fl_0_129 rfl (ksSc g5) (rrSc_10 g5) ?_
      refine x_iload_n d_N_note_63 rfl 1 rfl ?_
      obtain ⟨g6, h⟩ := gd_inv h
      refine y_iald d_N_note_64 (ksSc_4 g5) g6 ?_
      obtain rfl := Option.some.inj h
      exact x_ret (r := some (.int (S.1 (S.2.2.1 + 4) p1.toNatClampNeg))) d_N_note_65 ⟨_, rfl, rfl⟩
    replace h := ite_f c4 h
    by_cases c7 : p2 = 1
    · replace h := ite_t c7 h
      refine x_tabC (tgt := 66) 1 d_N_note_11 (by rw [c7]; rfl) (by decide) rfl rfl ?_
      refine x_aload_n d_N_note_66 rfl 0 rfl ?_
      refine y_getR d_N_note_67 fl_0_25 rfl kd_0 rr_told ?_
      obtain ⟨g8, h⟩ := gd_inv h
      refine y_getR d_N_note_70 fl_0_132 rfl (ksSc g8) (rrSc_11 g8) ?_
      refine x_iload_n d_N_note_73 rfl 1 rfl ?_
      obtain ⟨g9, h⟩ := gd_inv h
      refine y_iald d_N_note_74 (ksSc_5 g8) g9 ?_
      obtain rfl := Option.some.inj h
      exact x_ret (r := some (.int (S.1 (S.2.2.1 + 5) p1.toNatClampNeg))) d_N_note_75 ⟨_, rfl, rfl⟩
    replace h := ite_f c7 h
    by_cases c10 : p2 = 2
    · replace h := ite_t c10 h
      refine x_tabC (tgt := 76) 2 d_N_note_11 (by rw [c10]; rfl) (by decide) rfl rfl ?_
      refine x_aload_n d_N_note_76 rfl 0 rfl ?_
      refine y_getR d_N_note_77 fl_0_32 rfl kd_0 rr_0_4 ?_
      refine y_getR d_N_note_80 fl_0_135 rfl kd_30 rr_30_3 ?_
      refine x_iload_n d_N_note_83 rfl 1 rfl ?_
      obtain ⟨g11, h⟩ := gd_inv h
      refine y_iald d_N_note_84 kd_32 g11 ?_
      obtain rfl := Option.some.inj h
      exact x_ret (r := some (.int (S.1 32 p1.toNatClampNeg))) d_N_note_85 ⟨_, rfl, rfl⟩
    replace h := ite_f c10 h
    by_cases c12 : p2 = 3
    · replace h := ite_t c12 h
      refine x_tabC (tgt := 86) 3 d_N_note_11 (by rw [c12]; rfl) (by decide) rfl rfl ?_
      refine x_aload_n d_N_note_86 rfl 0 rfl ?_
      refine y_getR d_N_note_87 fl_0_32 rfl kd_0 rr_0_4 ?_
      refine y_getR d_N_note_90 fl_0_138 rfl kd_30 rr_30_4 ?_
      refine x_iload_n d_N_note_93 rfl 1 rfl ?_
      obtain ⟨g13, h⟩ := gd_inv h
      refine y_iald d_N_note_94 kd_33 g13 ?_
      obtain rfl := Option.some.inj h
      exact x_ret (r := some (.int (S.1 33 p1.toNatClampNeg))) d_N_note_95 ⟨_, rfl, rfl⟩
    replace h := ite_f c12 h
    by_cases c14 : p2 = 4
    · replace h := ite_t c14 h
      refine x_tabC (tgt := 96) 4 d_N_note_11 (by rw [c14]; rfl) (by decide) rfl rfl ?_
      refine x_aload_n d_N_note_96 rfl 0 rfl ?_
      refine y_getR d_N_note_97 fl_0_32 rfl kd_0 rr_0_4 ?_
      refine y_getR d_N_note_100 fl_0_141 rfl kd_30 rr_30_5 ?_
      refine x_iload_n d_N_note_103 rfl 1 rfl ?_
      obtain ⟨g15, h⟩ := gd_inv h
      refine y_iald d_N_note_104 kd_34 g15 ?_
      obtain rfl := Option.some.inj h
      exact x_ret (r := some (.int (S.1 34 p1.toNatClampNeg))) d_N_note_105 ⟨_, rfl, rfl⟩
    replace h := ite_f c14 h
    by_cases c16 : p2 = 5
    · replace h := ite_t c16 h
      refine x_tabC (tgt := 106) 5 d_N_note_11 (by rw [c16]; rfl) (by decide) rfl rfl ?_
      refine x_aload_n d_N_note_106 rfl 0 rfl ?_
      refine y_getR d_N_note_107 fl_0_32 rfl kd_0 rr_0_4 ?_
      refine y_getR d_N_note_110 fl_0_144 rfl kd_30 rr_30_2 ?_
      refine x_iload_n d_N_note_113 rfl 1 rfl ?_
      obtain ⟨g17, h⟩ := gd_inv h
      refine y_iald d_N_note_114 kd_31 g17 ?_
      obtain rfl := Option.some.inj h
      exact x_ret (r := some (.int (S.1 31 p1.toNatClampNeg))) d_N_note_115 ⟨_, rfl, rfl⟩
    replace h := ite_f c16 h
    by_cases c18 : p2 = 6
    · replace h := ite_t c18 h
      refine x_tabC (tgt := 116) 6 d_N_note_11 (by rw [c18]; rfl) (by decide) rfl rfl ?_
      refine x_aload_n d_N_note_116 rfl 0 rfl ?_
      refine x_iload_n d_N_note_117 rfl 1 rfl ?_
      obtain ⟨v20, S21, q19, h⟩ := bd2_inv h
      refine y_V1i (v := v20) (S1 := S21) d_N_note_118 ml_0_147 kd_0 rfl (Nat.le_of_ble_eq_true rfl) (Nat.le_of_ble_eq_true rfl) (c_N_missedOf (by omega) q19) ?_
      obtain rfl := Option.some.inj h
      exact x_ret (r := some (.int v20)) d_N_note_121 ⟨_, rfl, rfl⟩
    replace h := ite_f c18 h
    by_cases c22 : p2 = 7
    · replace h := ite_t c22 h
      refine x_tabC (tgt := 122) 7 d_N_note_11 (by rw [c22]; rfl) (by decide) rfl rfl ?_
      refine x_aload_n d_N_note_122 rfl 0 rfl ?_
      refine x_iload_n d_N_note_123 rfl 1 rfl ?_
      obtain ⟨v24, q23, h⟩ := bd_inv h
      refine y_V1i (v := v24) (S1 := S) d_N_note_124 ml_0_151 kd_0 rfl (Nat.le_of_ble_eq_true rfl) (Nat.le_of_ble_eq_true rfl) (c_N_doublesOf (by omega) q23) ?_
      obtain rfl := Option.some.inj h
      exact x_ret (r := some (.int v24)) d_N_note_127 ⟨_, rfl, rfl⟩
    replace h := ite_f c22 h
    refine x_tabD (tgt := 128) d_N_note_11 (by have := lv_neT c4 (show (0 : Int32).toInt = 0 from rfl); have := lv_neT c7 (show (1 : Int32).toInt = 1 from rfl); have := lv_neT c10 (show (2 : Int32).toInt = 2 from rfl); have := lv_neT c12 (show (3 : Int32).toInt = 3 from rfl); have := lv_neT c14 (show (4 : Int32).toInt = 4 from rfl); have := lv_neT c16 (show (5 : Int32).toInt = 5 from rfl); have := lv_neT c18 (show (6 : Int32).toInt = 6 from rfl); have := lv_neT c22 (show (7 : Int32).toInt = 7 from rfl); omega) rfl ?_
    refine x_iconst d_N_note_128 ic_m1 ?_
    obtain rfl := Option.some.inj h
    exact x_ret (r := some (.int (-1 : Int32))) d_N_note_129 ⟨_, rfl, rfl⟩
  · replace h := ite_t c3 h
    refine x_iconst d_N_note_8 ic_m1 ?_
    obtain rfl := Option.some.inj h
    exact x_ret (r := some (.int (-1 : Int32))) d_N_note_9 ⟨_, rfl, rfl⟩
