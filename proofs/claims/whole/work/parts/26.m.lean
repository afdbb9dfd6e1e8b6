/-! NinetyPlayersModel.members -/
def b_256_4 (F G : Nat) (S : St) (z0 : Int32) (rec : Int32 → Int32 → Option (Int32)) (w1 : Int32) (w2 : Int32) : Option (Int32) :=
  if (12 : Int32) ≤ w2 then some w1 else lt (w1 + ((z0 >>> (w2 &&& 31)) &&& (1 : Int32))) fun v2 => lt (w2 + 1) fun v4 => rec v2 v4
def fM_members (F G : Nat) (S : St) (p1 : Int32) : Option (Int32) :=
  fx2 (b_256_4 F G S p1) F (0 : Int32) (0 : Int32)
set_option maxRecDepth 100000 in
set_option maxHeartbeats 4000000 in
theorem T_256_4 {X : Nat × (Nat → Int32)} {D F G : Nat} (hD : 0 ≤ D) {S : St} {z0 : Int32} : ∀ (f : Nat) (w1 : Int32) (w2 : Int32) (res : Int32), fx2 (b_256_4 F G S z0 ) f w1 w2 = some res → Ek X (D) m256 4 [(0, .int z0), (1, .int w1), (2, .int w2)] [] S (some (.int res)) S := by
  refine fx2_ind ?_
  intro rec ih w1 w2 res h
  unfold b_256_4 at h
  refine x_iload_n d_256_4 rfl 2 rfl ?_
  refine x_bipush d_256_5 bp_12 ?_
  refine x_icmp_ge (tgt := 24) d_256_7 rfl (fun c1 => ?_) (fun c1 => ?_)
  · replace h := ite_t c1 h
    refine x_iload_n d_256_24 rfl 1 rfl ?_
    obtain rfl := Option.some.inj h
    exact x_ret (r := some (.int w1)) d_256_25 ⟨_, rfl, rfl⟩
  · replace h := ite_f c1 h
    refine x_iload_n d_256_10 rfl 1 rfl ?_
    refine x_iload_n d_256_11 rfl 0 rfl ?_
    refine x_iload_n d_256_12 rfl 2 rfl ?_
    refine x_ishr d_256_13 ?_
    refine x_iconst d_256_14 ic_1 ?_
    refine x_iand d_256_15 ?_
    refine x_iadd d_256_16 ?_
    obtain ⟨v2, e3, h⟩ := lt_inv h
    refine y_istore_n (L1 := [(0, .int z0), (1, .int v2), (2, .int w2)]) e3 d_256_17 rfl (Nat.le_of_ble_eq_true rfl) rfl rfl ?_
    obtain ⟨v4, e5, h⟩ := lt_inv h
    refine y_iinc (L1 := [(0, .int z0), (1, .int v2), (2, .int v4)]) e5 ic_1 d_256_18 2 rfl (Nat.le_of_ble_eq_true rfl) rfl rfl ?_
    refine x_goto (tgt := 4) d_256_21 rfl ?_
    exact ih v2 v4 _ h
set_option maxRecDepth 100000 in
set_option maxHeartbeats 4000000 in
theorem c_256 {X : Nat × (Nat → Int32)} {D F G : Nat} (hD : 0 ≤ D) {S : St} {p1 : Int32} {res : Int32} (h : fM_members F G S p1 = some res) : Ek X (D) m256 0 [(0, .int p1)] [] S (some (.int res)) S := by
  unfold fM_members at h
  refine x_iconst d_256_0 ic_0 ?_
  refine x_istore_n (L1 := [(0, .int p1), (1, .int (0 : Int32))]) d_256_1 rfl (Nat.le_of_ble_eq_true rfl) rfl rfl ?_
  refine x_iconst d_256_2 ic_0 ?_
  refine x_istore_n (L1 := [(0, .int p1), (1, .int (0 : Int32)), (2, .int (0 : Int32))]) d_256_3 rfl (Nat.le_of_ble_eq_true rfl) rfl rfl ?_
  refine T_256_4 (by omega)   F (0 : Int32) (0 : Int32) _ h
/-! NinetyPlayersModel.within -/
def fM_within (F G : Nat) (S : St) (p1 : Int32) (p2 : Int32) : Option (Int32) :=
  if 0 ≤ p1 then if p1 ≤ p2 then some p1 else some p2 else some (0 : Int32)
set_option maxRecDepth 100000 in
set_option maxHeartbeats 4000000 in
theorem c_257 {X : Nat × (Nat → Int32)} {D F G : Nat} (hD : 0 ≤ D) {S : St} {p1 : Int32} {p2 : Int32} {res : Int32} (h : fM_within F G S p1 p2 = some res) : Ek X (D) m257 0 [(0, .int p1), (1, .int p2)] [] S (some (.int res)) S := by
  unfold fM_within at h
  refine x_iload_n d_257_0 rfl 0 rfl ?_
  refine x_if_ge (tgt := 8) d_257_1 rfl (fun c1 => ?_) (fun c1 => ?_)
  · replace h := ite_t c1 h
    refine x_iload_n d_257_8 rfl 0 rfl ?_
    refine x_iload_n d_257_9 rfl 1 rfl ?_
    refine x_icmp_le (tgt := 17) d_257_10 rfl (fun c2 => ?_) (fun c2 => ?_)
    · replace h := ite_t c2 h
      refine x_iload_n d_257_17 rfl 0 rfl ?_
      obtain rfl := Option.some.inj h
      exact x_ret (r := some (.int p1)) d_257_18 ⟨_, rfl, rfl⟩
    · replace h := ite_f c2 h
      refine x_iload_n d_257_13 rfl 1 rfl ?_
      refine x_goto (tgt := 18) d_257_14 rfl ?_
      obtain rfl := Option.some.inj h
      exact x_ret (r := some (.int p2)) d_257_18 ⟨_, rfl, rfl⟩
  · replace h := ite_f c1 h
    refine x_iconst d_257_4 ic_0 ?_
    refine x_goto (tgt := 18) d_257_5 rfl ?_
    obtain rfl := Option.some.inj h
    exact x_ret (r := some (.int (0 : Int32))) d_257_18 ⟨_, rfl, rfl⟩
/-! NinetyPlayersModel.done -/
def fM_done (F G : Nat) (S : St) (p1 : Int32) (p2 : Int32) (p3 : Int32) : Option (Int32) :=
  if p1 = 37 then if p3 = 0 then some (0 : Int32) else gd (nz p3) (some (p2 - p2 / p3 * p3)) else if p1 = 38 then if p2 = 0 then bd (fM_truth F G S (0 : Int32)) fun v7 => some v7 else if p3 = 0 then bd (fM_truth F G S (0 : Int32)) fun v10 => some v10 else bd (fM_truth F G S (1 : Int32)) fun v12 => some v12 else if p1 = 42 then some (p2 * p3) else if p1 = 43 then some (p2 + p3) else if p1 = 45 then some (p2 - p3) else if p1 = 47 then if p3 = 0 then some (0 : Int32) else gd (nz p3) (some (p2 / p3)) else if p1 = 60 then if p3 ≤ p2 then bd (fM_truth F G S (0 : Int32)) fun v22 => some v22 else bd (fM_truth F G S (1 : Int32)) fun v24 => some v24 else if p1 = 61 then if p2 = p3 then bd (fM_truth F G S (1 : Int32)) fun v30 => some v30 else bd (fM_truth F G S (0 : Int32)) fun v28 => some v28 else if p1 = 62 then if p2 ≤ p3 then bd (fM_truth F G S (0 : Int32)) fun v34 => some v34 else bd (fM_truth F G S (1 : Int32)) fun v36 => some v36 else if p2 = 0 then if p3 = 0 then bd (fM_truth F G S (0 : Int32)) fun v42 => some v42 else bd (fM_truth F G S (1 : Int32)) fun v44 => some v44 else bd (fM_truth F G S (1 : Int32)) fun v39 => some v39
set_option maxRecDepth 100000 in
set_option maxHeartbeats 4000000 in
theorem c_258 {X : Nat × (Nat → Int32)} {D F G : Nat} (hD : 1 ≤ D) {S : St} {p1 : Int32} {p2 : Int32} {p3 : Int32} {res : Int32} (h : fM_done F G S p1 p2 p3 = some res) : Ek X (D) m258 0 [(0, .int p1), (1, .int p2), (2, .int p3)] [] S (some (.int res)) S := by
  obtain ⟨D, rfl⟩ : ∃ E, D = E + 1 := ⟨D - 1, by omega⟩
  unfold fM_done at h
  refine x_iload_n d_258_0 rfl 0 rfl ?_
  by_cases c1 : p1 = 37
  · replace h := ite_t c1 h
    refine x_tabC (tgt := 144) 37 d_258_1 (by rw [c1]; rfl) (by decide) rfl rfl ?_
    refine x_iload_n d_258_144 rfl 2 rfl ?_
    refine x_if_ne (tgt := 152) d_258_145 rfl (fun c2 => ?_) (fun c2 => ?_)
    · replace h := ite_f c2 h
      refine x_iload_n d_258_152 rfl 1 rfl ?_
      refine x_iload_n d_258_153 rfl 2 rfl ?_
      obtain ⟨g3, h⟩ := gd_inv h
      refine x_irem d_258_154 (nz_ne g3) ?_
      obtain rfl := Option.some.inj h
      exact x_ret (r := some (.int (p2 - p2 / p3 * p3))) d_258_155 ⟨_, rfl, rfl⟩
    · replace h := ite_t c2 h
      refine x_iconst d_258_148 ic_0 ?_
      refine x_goto (tgt := 155) d_258_149 rfl ?_
      obtain rfl := Option.some.inj h
      exact x_ret (r := some (.int (0 : Int32))) d_258_155 ⟨_, rfl, rfl⟩
  replace h := ite_f c1 h
  by_cases c4 : p1 = 38
  · replace h := ite_t c4 h
    refine x_tabC (tgt := 198) 38 d_258_1 (by rw [c4]; rfl) (by decide) rfl rfl ?_
    refine x_iload_n d_258_198 rfl 1 rfl ?_
    refine x_if_eq (tgt := 210) d_258_199 rfl (fun c5 => ?_) (fun c5 => ?_)
    · replace h := ite_t c5 h
      refine x_iconst d_258_210 ic_0 ?_
      obtain ⟨v7, q6, h⟩ := bd_inv h
      refine y_S1i (v := v7) (S1 := S) d_258_211 ml_11_318 (Nat.le_of_ble_eq_true rfl) (Nat.le_of_ble_eq_true rfl) (c_229 (by omega) q6) ?_
      obtain rfl := Option.some.inj h
      exact x_ret (r := some (.int v7)) d_258_214 ⟨_, rfl, rfl⟩
    · replace h := ite_f c5 h
      refine x_iload_n d_258_202 rfl 2 rfl ?_
      refine x_if_eq (tgt := 210) d_258_203 rfl (fun c8 => ?_) (fun c8 => ?_)
      · replace h := ite_t c8 h
        refine x_iconst d_258_210 ic_0 ?_
        obtain ⟨v10, q9, h⟩ := bd_inv h
        refine y_S1i (v := v10) (S1 := S) d_258_211 ml_11_318 (Nat.le_of_ble_eq_true rfl) (Nat.le_of_ble_eq_true rfl) (c_229 (by omega) q9) ?_
        obtain rfl := Option.some.inj h
        exact x_ret (r := some (.int v10)) d_258_214 ⟨_, rfl, rfl⟩
      · replace h := ite_f c8 h
        refine x_iconst d_258_206 ic_1 ?_
        refine x_goto (tgt := 211) d_258_207 rfl ?_
        obtain ⟨v12, q11, h⟩ := bd_inv h
        refine y_S1i (v := v12) (S1 := S) d_258_211 ml_11_318 (Nat.le_of_ble_eq_true rfl) (Nat.le_of_ble_eq_true rfl) (c_229 (by omega) q11) ?_
        obtain rfl := Option.some.inj h
        exact x_ret (r := some (.int v12)) d_258_214 ⟨_, rfl, rfl⟩
  replace h := ite_f c4 h
  by_cases c13 : p1 = 42
  · replace h := ite_t c13 h
    refine x_tabC (tgt := 128) 42 d_258_1 (by rw [c13]; rfl) (by decide) rfl rfl ?_
    refine x_iload_n d_258_128 rfl 1 rfl ?_
    refine x_iload_n d_258_129 rfl 2 rfl ?_
    refine x_imul d_258_130 ?_
    obtain rfl := Option.some.inj h
    exact x_ret (r := some (.int (p2 * p3))) d_258_131 ⟨_, rfl, rfl⟩
  replace h := ite_f c13 h
  by_cases c14 : p1 = 43
  · replace h := ite_t c14 h
    refine x_tabC (tgt := 120) 43 d_258_1 (by rw [c14]; rfl) (by decide) rfl rfl ?_
    refine x_iload_n d_258_120 rfl 1 rfl ?_
    refine x_iload_n d_258_121 rfl 2 rfl ?_
    refine x_iadd d_258_122 ?_
    obtain rfl := Option.some.inj h
    exact x_ret (r := some (.int (p2 + p3))) d_258_123 ⟨_, rfl, rfl⟩
  replace h := ite_f c14 h
  by_cases c15 : p1 = 45
  · replace h := ite_t c15 h
    refine x_tabC (tgt := 124) 45 d_258_1 (by rw [c15]; rfl) (by decide) rfl rfl ?_
    refine x_iload_n d_258_124 rfl 1 rfl ?_
    refine x_iload_n d_258_125 rfl 2 rfl ?_
    refine x_isub d_258_126 ?_
    obtain rfl := Option.some.inj h
    exact x_ret (r := some (.int (p2 - p3))) d_258_127 ⟨_, rfl, rfl⟩
  replace h := ite_f c15 h
  by_cases c16 : p1 = 47
  · replace h := ite_t c16 h
    refine x_tabC (tgt := 132) 47 d_258_1 (by rw [c16]; rfl) (by decide) rfl rfl ?_
    refine x_iload_n d_258_132 rfl 2 rfl ?_
    refine x_if_ne (tgt := 140) d_258_133 rfl (fun c17 => ?_) (fun c17 => ?_)
    · replace h := ite_f c17 h
      refine x_iload_n d_258_140 rfl 1 rfl ?_
      refine x_iload_n d_258_141 rfl 2 rfl ?_
      obtain ⟨g18, h⟩ := gd_inv h
      refine x_idiv d_258_142 (nz_ne g18) ?_
      obtain rfl := Option.some.inj h
      exact x_ret (r := some (.int (p2 / p3))) d_258_143 ⟨_, rfl, rfl⟩
    · replace h := ite_t c17 h
      refine x_iconst d_258_136 ic_0 ?_
      refine x_goto (tgt := 143) d_258_137 rfl ?_
      obtain rfl := Option.some.inj h
      exact x_ret (r := some (.int (0 : Int32))) d_258_143 ⟨_, rfl, rfl⟩
  replace h := ite_f c16 h
  by_cases c19 : p1 = 60
  · replace h := ite_t c19 h
    refine x_tabC (tgt := 156) 60 d_258_1 (by rw [c19]; rfl) (by decide) rfl rfl ?_
    refine x_iload_n d_258_156 rfl 1 rfl ?_
    refine x_iload_n d_258_157 rfl 2 rfl ?_
    refine x_icmp_ge (tgt := 165) d_258_158 rfl (fun c20 => ?_) (fun c20 => ?_)
    · replace h := ite_t c20 h
      refine x_iconst d_258_165 ic_0 ?_
      obtain ⟨v22, q21, h⟩ := bd_inv h
      refine y_S1i (v := v22) (S1 := S) d_258_166 ml_11_318 (Nat.le_of_ble_eq_true rfl) (Nat.le_of_ble_eq_true rfl) (c_229 (by omega) q21) ?_
      obtain rfl := Option.some.inj h
      exact x_ret (r := some (.int v22)) d_258_169 ⟨_, rfl, rfl⟩
    · replace h := ite_f c20 h
      refine x_iconst d_258_161 ic_1 ?_
      refine x_goto (tgt := 166) d_258_162 rfl ?_
      obtain ⟨v24, q23, h⟩ := bd_inv h
      refine y_S1i (v := v24) (S1 := S) d_258_166 ml_11_318 (Nat.le_of_ble_eq_true rfl) (Nat.le_of_ble_eq_true rfl) (c_229 (by omega) q23) ?_
      obtain rfl := Option.some.inj h
      exact x_ret (r := some (.int v24)) d_258_169 ⟨_, rfl, rfl⟩
  replace h := ite_f c19 h
  by_cases c25 : p1 = 61
  · replace h := ite_t c25 h
    refine x_tabC (tgt := 184) 61 d_258_1 (by rw [c25]; rfl) (by decide) rfl rfl ?_
    refine x_iload_n d_258_184 rfl 1 rfl ?_
    refine x_iload_n d_258_185 rfl 2 rfl ?_
    refine x_icmp_ne (tgt := 193) d_258_186 rfl (fun c26 => ?_) (fun c26 => ?_)
    · replace h := ite_f c26 h
      refine x_iconst d_258_193 ic_0 ?_
      obtain ⟨v28, q27, h⟩ := bd_inv h
      refine y_S1i (v := v28) (S1 := S) d_258_194 ml_11_318 (Nat.le_of_ble_eq_true rfl) (Nat.le_of_ble_eq_true rfl) (c_229 (by omega) q27) ?_
      obtain rfl := Option.some.inj h
      exact x_ret (r := some (.int v28)) d_258_197 ⟨_, rfl, rfl⟩
    · replace h := ite_t c26 h
      refine x_iconst d_258_189 ic_1 ?_
      refine x_goto (tgt := 194) d_258_190 rfl ?_
      obtain ⟨v30, q29, h⟩ := bd_inv h
      refine y_S1i (v := v30) (S1 := S) d_258_194 ml_11_318 (Nat.le_of_ble_eq_true rfl) (Nat.le_of_ble_eq_true rfl) (c_229 (by omega) q29) ?_
      obtain rfl := Option.some.inj h
      exact x_ret (r := some (.int v30)) d_258_197 ⟨_, rfl, rfl⟩
  replace h := ite_f c25 h
  by_cases c31 : p1 = 62
  · replace h := ite_t c31 h
    refine x_tabC (tgt := 170) 62 d_258_1 (by rw [c31]; rfl) (by decide) rfl rfl ?_
    refine x_iload_n d_258_170 rfl 1 rfl ?_
    refine x_iload_n d_258_171 rfl 2 rfl ?_
    refine x_icmp_le (tgt := 179) d_258_172 rfl (fun c32 => ?_) (fun c32 => ?_)
    · replace h := ite_t c32 h
      refine x_iconst d_258_179 ic_0 ?_
      obtain ⟨v34, q33, h⟩ := bd_inv h
      refine y_S1i (v := v34) (S1 := S) d_258_180 ml_11_318 (Nat.le_of_ble_eq_true rfl) (Nat.le_of_ble_eq_true rfl) (c_229 (by omega) q33) ?_
      obtain rfl := Option.some.inj h
      exact x_ret (r := some (.int v34)) d_258_183 ⟨_, rfl, rfl⟩
    · replace h := ite_f c32 h
      refine x_iconst d_258_175 ic_1 ?_
      refine x_goto (tgt := 180) d_258_176 rfl ?_
      obtain ⟨v36, q35, h⟩ := bd_inv h
      refine y_S1i (v := v36) (S1 := S) d_258_180 ml_11_318 (Nat.le_of_ble_eq_true rfl) (Nat.le_of_ble_eq_true rfl) (c_229 (by omega) q35) ?_
      obtain rfl := Option.some.inj h
      exact x_ret (r := some (.int v36)) d_258_183 ⟨_, rfl, rfl⟩
  replace h := ite_f c31 h
  have K : Ek X (D + 1) m258 215 [(0, .int p1), (1, .int p2), (2, .int p3)] [] S (some (.int res)) S := by
    refine x_iload_n d_258_215 rfl 1 rfl ?_
    refine x_if_ne (tgt := 223) d_258_216 rfl (fun c37 => ?_) (fun c37 => ?_)
    · replace h := ite_f c37 h
      refine x_iconst d_258_223 ic_1 ?_
      refine x_goto (tgt := 228) d_258_224 rfl ?_
      obtain ⟨v39, q38, h⟩ := bd_inv h
      refine y_S1i (v := v39) (S1 := S) d_258_228 ml_11_318 (Nat.le_of_ble_eq_true rfl) (Nat.le_of_ble_eq_true rfl) (c_229 (by omega) q38) ?_
      obtain rfl := Option.some.inj h
      exact x_ret (r := some (.int v39)) d_258_231 ⟨_, rfl, rfl⟩
    · replace h := ite_t c37 h
      refine x_iload_n d_258_219 rfl 2 rfl ?_
      refine x_if_eq (tgt := 227) d_258_220 rfl (fun c40 => ?_) (fun c40 => ?_)
      · replace h := ite_t c40 h
        refine x_iconst d_258_227 ic_0 ?_
        obtain ⟨v42, q41, h⟩ := bd_inv h
        refine y_S1i (v := v42) (S1 := S) d_258_228 ml_11_318 (Nat.le_of_ble_eq_true rfl) (Nat.le_of_ble_eq_true rfl) (c_229 (by omega) q41) ?_
        obtain rfl := Option.some.inj h
        exact x_ret (r := some (.int v42)) d_258_231 ⟨_, rfl, rfl⟩
      · replace h := ite_f c40 h
        refine x_iconst d_258_223 ic_1 ?_
        refine x_goto (tgt := 228) d_258_224 rfl ?_
        obtain ⟨v44, q43, h⟩ := bd_inv h
        refine y_S1i (v := v44) (S1 := S) d_258_228 ml_11_318 (Nat.le_of_ble_eq_true rfl) (Nat.le_of_ble_eq_true rfl) (c_229 (by omega) q43) ?_
        obtain rfl := Option.some.inj h
        exact x_ret (r := some (.int v44)) d_258_231 ⟨_, rfl, rfl⟩
  by_cases c45 : p1 = 39
  · exact x_tabC (tgt := 215) 39 d_258_1 (by rw [c45]; rfl) (by decide) rfl rfl K
  by_cases c46 : p1 = 40
  · exact x_tabC (tgt := 215) 40 d_258_1 (by rw [c46]; rfl) (by decide) rfl rfl K
  by_cases c47 : p1 = 41
  · exact x_tabC (tgt := 215) 41 d_258_1 (by rw [c47]; rfl) (by decide) rfl rfl K
  by_cases c48 : p1 = 44
  · exact x_tabC (tgt := 215) 44 d_258_1 (by rw [c48]; rfl) (by decide) rfl rfl K
  by_cases c49 : p1 = 46
  · exact x_tabC (tgt := 215) 46 d_258_1 (by rw [c49]; rfl) (by decide) rfl rfl K
  by_cases c50 : p1 = 48
  · exact x_tabC (tgt := 215) 48 d_258_1 (by rw [c50]; rfl) (by decide) rfl rfl K
  by_cases c51 : p1 = 49
  · exact x_tabC (tgt := 215) 49 d_258_1 (by rw [c51]; rfl) (by decide) rfl rfl K
  by_cases c52 : p1 = 50
  · exact x_tabC (tgt := 215) 50 d_258_1 (by rw [c52]; rfl) (by decide) rfl rfl K
  by_cases c53 : p1 = 51
  · exact x_tabC (tgt := 215) 51 d_258_1 (by rw [c53]; rfl) (by decide) rfl rfl K
  by_cases c54 : p1 = 52
  · exact x_tabC (tgt := 215) 52 d_258_1 (by rw [c54]; rfl) (by decide) rfl rfl K
  by_cases c55 : p1 = 53
  · exact x_tabC (tgt := 215) 53 d_258_1 (by rw [c55]; rfl) (by decide) rfl rfl K
  by_cases c56 : p1 = 54
  · exact x_tabC (tgt := 215) 54 d_258_1 (by rw [c56]; rfl) (by decide) rfl rfl K
  by_cases c57 : p1 = 55
  · exact x_tabC (tgt := 215) 55 d_258_1 (by rw [c57]; rfl) (by decide) rfl rfl K
  by_cases c58 : p1 = 56
  · exact x_tabC (tgt := 215) 56 d_258_1 (by rw [c58]; rfl) (by decide) rfl rfl K
  by_cases c59 : p1 = 57
  · exact x_tabC (tgt := 215) 57 d_258_1 (by rw [c59]; rfl) (by decide) rfl rfl K
  by_cases c60 : p1 = 58
  · exact x_tabC (tgt := 215) 58 d_258_1 (by rw [c60]; rfl) (by decide) rfl rfl K
  by_cases c61 : p1 = 59
  · exact x_tabC (tgt := 215) 59 d_258_1 (by rw [c61]; rfl) (by decide) rfl rfl K
  refine x_tabD (tgt := 215) d_258_1 (by have := lv_neT c1 (show (37 : Int32).toInt = 37 from rfl); have := lv_neT c4 (show (38 : Int32).toInt = 38 from rfl); have := lv_neT c13 (show (42 : Int32).toInt = 42 from rfl); have := lv_neT c14 (show (43 : Int32).toInt = 43 from rfl); have := lv_neT c15 (show (45 : Int32).toInt = 45 from rfl); have := lv_neT c16 (show (47 : Int32).toInt = 47 from rfl); have := lv_neT c19 (show (60 : Int32).toInt = 60 from rfl); have := lv_neT c25 (show (61 : Int32).toInt = 61 from rfl); have := lv_neT c31 (show (62 : Int32).toInt = 62 from rfl); have := lv_neT c45 (show (39 : Int32).toInt = 39 from rfl); have := lv_neT c46 (show (40 : Int32).toInt = 40 from rfl); have := lv_neT c47 (show (41 : Int32).toInt = 41 from rfl); have := lv_neT c48 (show (44 : Int32).toInt = 44 from rfl); have := lv_neT c49 (show (46 : Int32).toInt = 46 from rfl); have := lv_neT c50 (show (48 : Int32).toInt = 48 from rfl); have := lv_neT c51 (show (49 : Int32).toInt = 49 from rfl); have := lv_neT c52 (show (50 : Int32).toInt = 50 from rfl); have := lv_neT c53 (show (51 : Int32).toInt = 51 from rfl); have := lv_neT c54 (show (52 : Int32).toInt = 52 from rfl); have := lv_neT c55 (show (53 : Int32).toInt = 53 from rfl); have := lv_neT c56 (show (54 : Int32).toInt = 54 from rfl); have := lv_neT c57 (show (55 : Int32).toInt = 55 from rfl); have := lv_neT c58 (show (56 : Int32).toInt = 56 from rfl); have := lv_neT c59 (show (57 : Int32).toInt = 57 from rfl); have := lv_neT c60 (show (58 : Int32).toInt = 58 from rfl); have := lv_neT c61 (show (59 : Int32).toInt = 59 from rfl); omega) rfl ?_
  exact K
/-! NinetyPlayersModel.missedOf -/
def j_253_155 (F G : Nat) (k276 : St → Option (Int32 × St)) (rec : Int32 → Int32 → St → Option (Int32 × St)) (S : St) (y2 : Int32) (y3 : Int32) : Option (Int32 × St) :=
  gd (inB y3 320) (if (S.1 83 y3.toNatClampNeg) = 0 then gd (inB y3 320) (gd (inB y2 64) (lt (sI S 86 y2.toNatClampNeg (S.1 84 y3.toNatClampNeg)) fun S78 => lt (y2 + 1) fun v80 => lt (y3 + 1) fun v82 => rec v80 v82 S78)) else gd (inB y3 320) (gd (inB (S.1 84 y3.toNatClampNeg) 6) (gd (inB y2 64) (lt (sI S 86 y2.toNatClampNeg (S.1 87 (S.1 84 y3.toNatClampNeg).toNatClampNeg)) fun S70 => lt (y2 + 1) fun v72 => lt (y3 + 1) fun v74 => rec v72 v74 S70))))
def b_253_128 (F G : Nat) (k276 : St → Option (Int32 × St)) (rec : Int32 → Int32 → St → Option (Int32 × St)) (w2 : Int32) (w3 : Int32) (S : St) : Option (Int32 × St) :=
  if (S.1 78 18) ≤ w3 then k276 S else gd (inB w3 320) (if (S.1 83 w3.toNatClampNeg) = 0 then j_253_155 F G k276 rec  S w2 w3 else gd (inB w3 320) (if (S.1 83 w3.toNatClampNeg) = (1 : Int32) then j_253_155 F G k276 rec  S w2 w3 else gd (inB w3 320) (if (S.1 83 w3.toNatClampNeg) = (2 : Int32) then gd (inB (w2 - (1 : Int32)) 64) (if (S.1 86 (w2 - (1 : Int32)).toNatClampNeg) = 0 then bd (fM_truth F G S (1 : Int32)) fun v59 => gd (inB (w2 - (1 : Int32)) 64) (lt (sI S 86 (w2 - (1 : Int32)).toNatClampNeg v59) fun S61 => lt (w3 + 1) fun v63 => rec w2 v63 S61) else bd (fM_truth F G S (0 : Int32)) fun v52 => gd (inB (w2 - (1 : Int32)) 64) (lt (sI S 86 (w2 - (1 : Int32)).toNatClampNeg v52) fun S54 => lt (w3 + 1) fun v56 => rec w2 v56 S54)) else lt (w2 + (-1)) fun v37 => gd (inB w3 320) (gd (inB (v37 - (1 : Int32)) 64) (gd (inB v37 64) (bd (fM_done F G S (S.1 84 w3.toNatClampNeg) (S.1 86 (v37 - (1 : Int32)).toNatClampNeg) (S.1 86 v37.toNatClampNeg)) fun v43 => gd (inB (v37 - (1 : Int32)) 64) (lt (sI S 86 (v37 - (1 : Int32)).toNatClampNeg v43) fun S45 => lt (w3 + 1) fun v47 => rec v37 v47 S45)))))))
def fM_missedOf (F G : Nat) (S : St) (p1 : Int32) : Option (Int32 × St) :=
  gd (inB p1 10) (gd (inB (S.1 95 p1.toNatClampNeg) 4) (gd (inB (0 : Int32) 6) (lt (sI S 87 (0 : Int32).toNatClampNeg (S.1 94 (S.1 95 p1.toNatClampNeg).toNatClampNeg)) fun S4 => gd (inB ((10 : Int32) + p1) 41) (gd (inB (1 : Int32) 6) (lt (sI S4 87 (1 : Int32).toNatClampNeg (S4.1 101 ((10 : Int32) + p1).toNatClampNeg)) fun S8 => gd (inB ((20 : Int32) + p1) 41) (gd (inB (2 : Int32) 6) (lt (sI S8 87 (2 : Int32).toNatClampNeg (S8.1 101 ((20 : Int32) + p1).toNatClampNeg)) fun S12 => gd (inB ((30 : Int32) + p1) 41) (gd (inB (3 : Int32) 6) (lt (sI S12 87 (3 : Int32).toNatClampNeg (S12.1 101 ((30 : Int32) + p1).toNatClampNeg)) fun S16 => bd (fM_doubles F G S16 p1) fun v19 => bd (fM_members F G S16 v19) fun v21 => gd (inB (4 : Int32) 6) (lt (sI S16 87 (4 : Int32).toNatClampNeg v21) fun S23 => gd (inB p1 10) (gd (inB (5 : Int32) 6) (lt (sI S23 87 (5 : Int32).toNatClampNeg (S23.1 96 p1.toNatClampNeg)) fun S27 => if (S27.1 78 25) = 0 then gd (inB (3 : Int32) 6) (gd (inB (0 : Int32) 6) (gd (inB (4 : Int32) 6) (bd (fM_within F G S27 (((S27.1 87 (3 : Int32).toNatClampNeg) + ((5 : Int32) * (S27.1 87 (0 : Int32).toNatClampNeg))) - (S27.1 87 (4 : Int32).toNatClampNeg)) (999 : Int32)) fun v92 => some (v92, S27)))) else fx3 (b_253_128 F G  (fun S84 => gd (inB (0 : Int32) 64) (bd (fM_within F G S84 (S84.1 86 (0 : Int32).toNatClampNeg) (999 : Int32)) fun v87 => some (v87, S84)))) F (0 : Int32) (0 : Int32) S27))))))))))))
set_option maxRecDepth 100000 in
set_option maxHeartbeats 4000000 in
theorem T_253_128 {X : Nat × (Nat → Int32)} {D F G : Nat} (hD : 2 ≤ D + 1) {k276 : St → Option (Int32 × St)} (hk276 : ∀ (S1 : St) (res : Int32 × St), k276 S1 = some res → Ek X (D + 1) m253 276 [(0, .ref 78)] [] S1 (some (.int res.1)) res.2) : ∀ (f : Nat) (w2 : Int32) (w3 : Int32) (S : St) (res : Int32 × St), fx3 (b_253_128 F G k276 ) f w2 w3 S = some res → Ek X (D + 1) m253 128 [(0, .ref 78), (2, .int w2), (3, .int w3)] [] S (some (.int res.1)) res.2 := by
  refine fx3_ind ?_
  intro rec ih w2 w3 S res h
  unfold b_253_128 at h
  have J155 : ∀ (S : St) (y2 : Int32) (y3 : Int32) (res : Int32 × St), j_253_155 F G k276 rec S y2 y3 = some res → Ek X (D + 1) m253 155 [(0, .ref 78), (2, .int y2), (3, .int y3)] [] S (some (.int res.1)) res.2 := by
    intro S y2 y3 res h
    unfold j_253_155 at h
    refine x_aload_n d_253_155 rfl 0 rfl ?_
    refine y_getR d_253_156 fl_11_36 rfl kd_78 rr_78_16 ?_
    refine x_iload_n d_253_159 rfl 1 rfl ?_
    refine x_aload_n d_253_160 rfl 0 rfl ?_
    refine y_getR d_253_161 fl_11_27 rfl kd_78 rr_78_13 ?_
    refine x_iload_n d_253_164 rfl 2 rfl ?_
    obtain ⟨g65, h⟩ := gd_inv h
    refine y_iald d_253_165 kd_83 g65 ?_
    refine x_if_ne (tgt := 178) d_253_166 rfl (fun c66 => ?_) (fun c66 => ?_)
    · replace h := ite_f c66 h
      refine x_aload_n d_253_178 rfl 0 rfl ?_
      refine y_getR d_253_179 fl_11_39 rfl kd_78 rr_78_26 ?_
      refine x_aload_n d_253_182 rfl 0 rfl ?_
      refine y_getR d_253_183 fl_11_30 rfl kd_78 rr_78_14 ?_
      refine x_iload_n d_253_186 rfl 2 rfl ?_
      obtain ⟨g67, h⟩ := gd_inv h
      refine y_iald d_253_187 kd_84 g67 ?_
      obtain ⟨g68, h⟩ := gd_inv h
      refine y_iald d_253_188 kd_87 g68 ?_
      obtain ⟨g69, h⟩ := gd_inv h
      obtain ⟨S70, e71, h⟩ := lt_inv h
      refine y_iast e71 d_253_189 kd_86 g69 ?_
      obtain ⟨v72, e73, h⟩ := lt_inv h
      refine y_iinc (L1 := [(0, .ref 78), (2, .int v72), (3, .int y3)]) e73 ic_1 d_253_190 1 rfl (Nat.le_of_ble_eq_true rfl) rfl rfl ?_
      refine x_goto (tgt := 270) d_253_193 rfl ?_
      obtain ⟨v74, e75, h⟩ := lt_inv h
      refine y_iinc (L1 := [(0, .ref 78), (2, .int v72), (3, .int v74)]) e75 ic_1 d_253_270 2 rfl (Nat.le_of_ble_eq_true rfl) rfl rfl ?_
      refine x_goto (tgt := 128) d_253_273 rfl ?_
      exact ih v72 v74 S70 _ h
    · replace h := ite_t c66 h
      refine x_aload_n d_253_169 rfl 0 rfl ?_
      refine y_getR d_253_170 fl_11_30 rfl kd_78 rr_78_14 ?_
      refine x_iload_n d_253_173 rfl 2 rfl ?_
      obtain ⟨g76, h⟩ := gd_inv h
      refine y_iald d_253_174 kd_84 g76 ?_
      refine x_goto (tgt := 189) d_253_175 rfl ?_
      obtain ⟨g77, h⟩ := gd_inv h
      obtain ⟨S78, e79, h⟩ := lt_inv h
      refine y_iast e79 d_253_189 kd_86 g77 ?_
      obtain ⟨v80, e81, h⟩ := lt_inv h
      refine y_iinc (L1 := [(0, .ref 78), (2, .int v80), (3, .int y3)]) e81 ic_1 d_253_190 1 rfl (Nat.le_of_ble_eq_true rfl) rfl rfl ?_
      refine x_goto (tgt := 270) d_253_193 rfl ?_
      obtain ⟨v82, e83, h⟩ := lt_inv h
      refine y_iinc (L1 := [(0, .ref 78), (2, .int v80), (3, .int v82)]) e83 ic_1 d_253_270 2 rfl (Nat.le_of_ble_eq_true rfl) rfl rfl ?_
      refine x_goto (tgt := 128) d_253_273 rfl ?_
      exact ih v80 v82 S78 _ h
  refine x_iload_n d_253_128 rfl 2 rfl ?_
  refine x_aload_n d_253_129 rfl 0 rfl ?_
  refine y_getI d_253_130 fl_11_340 rfl kd_78 ?_
  refine x_icmp_ge (tgt := 276) d_253_133 rfl (fun c30 => ?_) (fun c30 => ?_)
  · replace h := ite_t c30 h
    refine y_pick (L1 := [(0, .ref 78)]) [0] rfl ?_
    exact hk276 S _ h
  · replace h := ite_f c30 h
    refine x_aload_n d_253_136 rfl 0 rfl ?_
    refine y_getR d_253_137 fl_11_27 rfl kd_78 rr_78_13 ?_
    refine x_iload_n d_253_140 rfl 2 rfl ?_
    obtain ⟨g31, h⟩ := gd_inv h
    refine y_iald d_253_141 kd_83 g31 ?_
    refine x_if_eq (tgt := 155) d_253_142 rfl (fun c32 => ?_) (fun c32 => ?_)
    · replace h := ite_t c32 h
      exact J155 S w2 w3 _ h
    · replace h := ite_f c32 h
      refine x_aload_n d_253_145 rfl 0 rfl ?_
      refine y_getR d_253_146 fl_11_27 rfl kd_78 rr_78_13 ?_
      refine x_iload_n d_253_149 rfl 2 rfl ?_
      obtain ⟨g33, h⟩ := gd_inv h
      refine y_iald d_253_150 kd_83 g33 ?_
      refine x_iconst d_253_151 ic_1 ?_
      refine x_icmp_ne (tgt := 196) d_253_152 rfl (fun c34 => ?_) (fun c34 => ?_)
      · replace h := ite_f c34 h
        refine x_aload_n d_253_196 rfl 0 rfl ?_
        refine y_getR d_253_197 fl_11_27 rfl kd_78 rr_78_13 ?_
        refine x_iload_n d_253_200 rfl 2 rfl ?_
        obtain ⟨g35, h⟩ := gd_inv h
        refine y_iald d_253_201 kd_83 g35 ?_
        refine x_iconst d_253_202 ic_2 ?_
        refine x_icmp_ne (tgt := 236) d_253_203 rfl (fun c36 => ?_) (fun c36 => ?_)
        · replace h := ite_f c36 h
          obtain ⟨v37, e38, h⟩ := lt_inv h
          refine y_iinc (L1 := [(0, .ref 78), (2, .int v37), (3, .int w3)]) e38 ic_m1 d_253_236 1 rfl (Nat.le_of_ble_eq_true rfl) rfl rfl ?_
          refine x_aload_n d_253_239 rfl 0 rfl ?_
          refine y_getR d_253_240 fl_11_36 rfl kd_78 rr_78_16 ?_
          refine x_iload_n d_253_243 rfl 1 rfl ?_
          refine x_iconst d_253_244 ic_1 ?_
          refine x_isub d_253_245 ?_
          refine x_aload_n d_253_246 rfl 0 rfl ?_
          refine y_getR d_253_247 fl_11_30 rfl kd_78 rr_78_14 ?_
          refine x_iload_n d_253_250 rfl 2 rfl ?_
          obtain ⟨g39, h⟩ := gd_inv h
          refine y_iald d_253_251 kd_84 g39 ?_
          refine x_aload_n d_253_252 rfl 0 rfl ?_
          refine y_getR d_253_253 fl_11_36 rfl kd_78 rr_78_16 ?_
          refine x_iload_n d_253_256 rfl 1 rfl ?_
          refine x_iconst d_253_257 ic_1 ?_
          refine x_isub d_253_258 ?_
          obtain ⟨g40, h⟩ := gd_inv h
          refine y_iald d_253_259 kd_86 g40 ?_
          refine x_aload_n d_253_260 rfl 0 rfl ?_
          refine y_getR d_253_261 fl_11_36 rfl kd_78 rr_78_16 ?_
          refine x_iload_n d_253_264 rfl 1 rfl ?_
          obtain ⟨g41, h⟩ := gd_inv h
          refine y_iald d_253_265 kd_86 g41 ?_
          obtain ⟨v43, q42, h⟩ := bd_inv h
          refine y_S3i (v := v43) (S1 := S) d_253_266 ml_11_343 (Nat.le_of_ble_eq_true rfl) (Nat.le_of_ble_eq_true rfl) (c_258 (by omega) q42) ?_
          obtain ⟨g44, h⟩ := gd_inv h
          obtain ⟨S45, e46, h⟩ := lt_inv h
          refine y_iast e46 d_253_269 kd_86 g44 ?_
          obtain ⟨v47, e48, h⟩ := lt_inv h
          refine y_iinc (L1 := [(0, .ref 78), (2, .int v37), (3, .int v47)]) e48 ic_1 d_253_270 2 rfl (Nat.le_of_ble_eq_true rfl) rfl rfl ?_
          refine x_goto (tgt := 128) d_253_273 rfl ?_
          exact ih v37 v47 S45 _ h
        · replace h := ite_t c36 h
          refine x_aload_n d_253_206 rfl 0 rfl ?_
          refine y_getR d_253_207 fl_11_36 rfl kd_78 rr_78_16 ?_
          refine x_iload_n d_253_210 rfl 1 rfl ?_
          refine x_iconst d_253_211 ic_1 ?_
          refine x_isub d_253_212 ?_
          refine x_aload_n d_253_213 rfl 0 rfl ?_
          refine y_getR d_253_214 fl_11_36 rfl kd_78 rr_78_16 ?_
          refine x_iload_n d_253_217 rfl 1 rfl ?_
          refine x_iconst d_253_218 ic_1 ?_
          refine x_isub d_253_219 ?_
          obtain ⟨g49, h⟩ := gd_inv h
          refine y_iald d_253_220 kd_86 g49 ?_
          refine x_if_ne (tgt := 228) d_253_221 rfl (fun c50 => ?_) (fun c50 => ?_)
          · replace h := ite_f c50 h
            refine x_iconst d_253_228 ic_0 ?_
            obtain ⟨v52, q51, h⟩ := bd_inv h
            refine y_S1i (v := v52) (S1 := S) d_253_229 ml_11_318 (Nat.le_of_ble_eq_true rfl) (Nat.le_of_ble_eq_true rfl) (c_229 (by omega) q51) ?_
            obtain ⟨g53, h⟩ := gd_inv h
            obtain ⟨S54, e55, h⟩ := lt_inv h
            refine y_iast e55 d_253_232 kd_86 g53 ?_
            refine x_goto (tgt := 270) d_253_233 rfl ?_
            obtain ⟨v56, e57, h⟩ := lt_inv h
            refine y_iinc (L1 := [(0, .ref 78), (2, .int w2), (3, .int v56)]) e57 ic_1 d_253_270 2 rfl (Nat.le_of_ble_eq_true rfl) rfl rfl ?_
            refine x_goto (tgt := 128) d_253_273 rfl ?_
            exact ih w2 v56 S54 _ h
          · replace h := ite_t c50 h
            refine x_iconst d_253_224 ic_1 ?_
            refine x_goto (tgt := 229) d_253_225 rfl ?_
            obtain ⟨v59, q58, h⟩ := bd_inv h
            refine y_S1i (v := v59) (S1 := S) d_253_229 ml_11_318 (Nat.le_of_ble_eq_true rfl) (Nat.le_of_ble_eq_true rfl) (c_229 (by omega) q58) ?_
            obtain ⟨g60, h⟩ := gd_inv h
            obtain ⟨S61, e62, h⟩ := lt_inv h
            refine y_iast e62 d_253_232 kd_86 g60 ?_
            refine x_goto (tgt := 270) d_253_233 rfl ?_
            obtain ⟨v63, e64, h⟩ := lt_inv h
            refine y_iinc (L1 := [(0, .ref 78), (2, .int w2), (3, .int v63)]) e64 ic_1 d_253_270 2 rfl (Nat.le_of_ble_eq_true rfl) rfl rfl ?_
            refine x_goto (tgt := 128) d_253_273 rfl ?_
            exact ih w2 v63 S61 _ h
      · replace h := ite_t c34 h
        exact J155 S w2 w3 _ h
set_option maxRecDepth 100000 in
set_option maxHeartbeats 4000000 in
theorem c_253 {X : Nat × (Nat → Int32)} {D F G : Nat} (hD : 2 ≤ D) {S : St} {p1 : Int32} {res : Int32 × St} (h : fM_missedOf F G S p1 = some res) : Ek X (D) m253 0 [(0, .ref 78), (1, .int p1)] [] S (some (.int res.1)) res.2 := by
  obtain ⟨D, rfl⟩ : ∃ E, D = E + 1 := ⟨D - 1, by omega⟩
  unfold fM_missedOf at h
  refine x_aload_n d_253_0 rfl 0 rfl ?_
  refine y_getR d_253_1 fl_11_39 rfl kd_78 rr_78_26 ?_
  refine x_iconst d_253_4 ic_0 ?_
  refine x_aload_n d_253_5 rfl 0 rfl ?_
  refine y_getR d_253_6 fl_11_60 rfl kd_78 rr_78_33 ?_
  refine x_aload_n d_253_9 rfl 0 rfl ?_
  refine y_getR d_253_10 fl_11_63 rfl kd_78 rr_78_34 ?_
  refine x_iload_n d_253_13 rfl 1 rfl ?_
  obtain ⟨g1, h⟩ := gd_inv h
  refine y_iald d_253_14 kd_95 g1 ?_
  obtain ⟨g2, h⟩ := gd_inv h
  refine y_iald d_253_15 kd_94 g2 ?_
  obtain ⟨g3, h⟩ := gd_inv h
  obtain ⟨S4, e5, h⟩ := lt_inv h
  refine y_iast e5 d_253_16 kd_87 g3 ?_
  refine x_aload_n d_253_17 rfl 0 rfl ?_
  refine y_getR d_253_18 fl_11_39 rfl kd_78 rr_78_26 ?_
  refine x_iconst d_253_21 ic_1 ?_
  refine x_aload_n d_253_22 rfl 0 rfl ?_
  refine y_getR d_253_23 fl_11_96 rfl kd_78 rr_78_59 ?_
  refine x_bipush d_253_26 bp_10 ?_
  refine x_iload_n d_253_28 rfl 1 rfl ?_
  refine x_iadd d_253_29 ?_
  obtain ⟨g6, h⟩ := gd_inv h
  refine y_iald d_253_30 kd_101 g6 ?_
  obtain ⟨g7, h⟩ := gd_inv h
  obtain ⟨S8, e9, h⟩ := lt_inv h
  refine y_iast e9 d_253_31 kd_87 g7 ?_
  refine x_aload_n d_253_32 rfl 0 rfl ?_
  refine y_getR d_253_33 fl_11_39 rfl kd_78 rr_78_26 ?_
  refine x_iconst d_253_36 ic_2 ?_
  refine x_aload_n d_253_37 rfl 0 rfl ?_
  refine y_getR d_253_38 fl_11_96 rfl kd_78 rr_78_59 ?_
  refine x_bipush d_253_41 bp_20 ?_
  refine x_iload_n d_253_43 rfl 1 rfl ?_
  refine x_iadd d_253_44 ?_
  obtain ⟨g10, h⟩ := gd_inv h
  refine y_iald d_253_45 kd_101 g10 ?_
  obtain ⟨g11, h⟩ := gd_inv h
  obtain ⟨S12, e13, h⟩ := lt_inv h
  refine y_iast e13 d_253_46 kd_87 g11 ?_
  refine x_aload_n d_253_47 rfl 0 rfl ?_
  refine y_getR d_253_48 fl_11_39 rfl kd_78 rr_78_26 ?_
  refine x_iconst d_253_51 ic_3 ?_
  refine x_aload_n d_253_52 rfl 0 rfl ?_
  refine y_getR d_253_53 fl_11_96 rfl kd_78 rr_78_59 ?_
  refine x_bipush d_253_56 bp_30 ?_
  refine x_iload_n d_253_58 rfl 1 rfl ?_
  refine x_iadd d_253_59 ?_
  obtain ⟨g14, h⟩ := gd_inv h
  refine y_iald d_253_60 kd_101 g14 ?_
  obtain ⟨g15, h⟩ := gd_inv h
  obtain ⟨S16, e17, h⟩ := lt_inv h
  refine y_iast e17 d_253_61 kd_87 g15 ?_
  refine x_aload_n d_253_62 rfl 0 rfl ?_
  refine y_getR d_253_63 fl_11_39 rfl kd_78 rr_78_26 ?_
  refine x_iconst d_253_66 ic_4 ?_
  refine x_aload_n d_253_67 rfl 0 rfl ?_
  refine x_iload_n d_253_68 rfl 1 rfl ?_
  obtain ⟨v19, q18, h⟩ := bd_inv h
  refine y_V1i (v := v19) (S1 := S16) d_253_69 ml_11_328 kd_78 rfl (Nat.le_of_ble_eq_true rfl) (Nat.le_of_ble_eq_true rfl) (c_254 (by omega) q18) ?_
  obtain ⟨v21, q20, h⟩ := bd_inv h
  refine y_S1i (v := v21) (S1 := S16) d_253_72 ml_11_331 (Nat.le_of_ble_eq_true rfl) (Nat.le_of_ble_eq_true rfl) (c_256 (by omega) q20) ?_
  obtain ⟨g22, h⟩ := gd_inv h
  obtain ⟨S23, e24, h⟩ := lt_inv h
  refine y_iast e24 d_253_75 kd_87 g22 ?_
  refine x_aload_n d_253_76 rfl 0 rfl ?_
  refine y_getR d_253_77 fl_11_39 rfl kd_78 rr_78_26 ?_
  refine x_iconst d_253_80 ic_5 ?_
  refine x_aload_n d_253_81 rfl 0 rfl ?_
  refine y_getR d_253_82 fl_11_66 rfl kd_78 rr_78_35 ?_
  refine x_iload_n d_253_85 rfl 1 rfl ?_
  obtain ⟨g25, h⟩ := gd_inv h
  refine y_iald d_253_86 kd_96 g25 ?_
  obtain ⟨g26, h⟩ := gd_inv h
  obtain ⟨S27, e28, h⟩ := lt_inv h
  refine y_iast e28 d_253_87 kd_87 g26 ?_
  refine x_aload_n d_253_88 rfl 0 rfl ?_
  refine y_getI d_253_89 fl_11_334 rfl kd_78 ?_
  refine x_if_ne (tgt := 124) d_253_92 rfl (fun c29 => ?_) (fun c29 => ?_)
  · replace h := ite_f c29 h
    refine x_iconst d_253_124 ic_0 ?_
    refine x_istore_n (L1 := [(0, .ref 78), (1, .int p1), (2, .int (0 : Int32))]) d_253_125 rfl (Nat.le_of_ble_eq_true rfl) rfl rfl ?_
    refine x_iconst d_253_126 ic_0 ?_
    refine x_istore_n (L1 := [(0, .ref 78), (1, .int p1), (2, .int (0 : Int32)), (3, .int (0 : Int32))]) d_253_127 rfl (Nat.le_of_ble_eq_true rfl) rfl rfl ?_
    refine y_pick (L1 := [(0, .ref 78), (2, .int (0 : Int32)), (3, .int (0 : Int32))]) [0, 2, 3] rfl ?_
    refine T_253_128 (by omega)  ?_ F (0 : Int32) (0 : Int32) S27 _ h
    · intro S84 res h
      refine x_aload_n d_253_276 rfl 0 rfl ?_
      refine y_getR d_253_277 fl_11_36 rfl kd_78 rr_78_16 ?_
      refine x_iconst d_253_280 ic_0 ?_
      obtain ⟨g85, h⟩ := gd_inv h
      refine y_iald d_253_281 kd_86 g85 ?_
      refine x_sipush d_253_282 sp_999 ?_
      obtain ⟨v87, q86, h⟩ := bd_inv h
      refine y_S2i (v := v87) (S1 := S84) d_253_285 ml_11_337 (Nat.le_of_ble_eq_true rfl) (Nat.le_of_ble_eq_true rfl) (c_257 (by omega) q86) ?_
      obtain rfl := Option.some.inj h
      exact x_ret (r := some (.int v87)) d_253_288 ⟨_, rfl, rfl⟩
  · replace h := ite_t c29 h
    refine x_aload_n d_253_95 rfl 0 rfl ?_
    refine y_getR d_253_96 fl_11_39 rfl kd_78 rr_78_26 ?_
    refine x_iconst d_253_99 ic_3 ?_
    obtain ⟨g88, h⟩ := gd_inv h
    refine y_iald d_253_100 kd_87 g88 ?_
    refine x_iconst d_253_101 ic_5 ?_
    refine x_aload_n d_253_102 rfl 0 rfl ?_
    refine y_getR d_253_103 fl_11_39 rfl kd_78 rr_78_26 ?_
    refine x_iconst d_253_106 ic_0 ?_
    obtain ⟨g89, h⟩ := gd_inv h
    refine y_iald d_253_107 kd_87 g89 ?_
    refine x_imul d_253_108 ?_
    refine x_iadd d_253_109 ?_
    refine x_aload_n d_253_110 rfl 0 rfl ?_
    refine y_getR d_253_111 fl_11_39 rfl kd_78 rr_78_26 ?_
    refine x_iconst d_253_114 ic_4 ?_
    obtain ⟨g90, h⟩ := gd_inv h
    refine y_iald d_253_115 kd_87 g90 ?_
    refine x_isub d_253_116 ?_
    refine x_sipush d_253_117 sp_999 ?_
    obtain ⟨v92, q91, h⟩ := bd_inv h
    refine y_S2i (v := v92) (S1 := S27) d_253_120 ml_11_337 (Nat.le_of_ble_eq_true rfl) (Nat.le_of_ble_eq_true rfl) (c_257 (by omega) q91) ?_
    obtain rfl := Option.some.inj h
    exact x_ret (r := some (.int v92)) d_253_123 ⟨_, rfl, rfl⟩
/-! NinetyPlayersModel.note -/
def fM_note (F G : Nat) (S : St) (p1 : Int32) (p2 : Int32) : Option (Int32 × St) :=
  bd (fM_isNote F G S p1) fun v2 => if v2 = 0 then some ((-1 : Int32), S) else bd (fM_fill F G S ) fun S5 => if p2 = 0 then gd (inB p1 10) (some (S5.1 95 p1.toNatClampNeg, S5)) else if p2 = 1 then gd (inB p1 10) (some (S5.1 96 p1.toNatClampNeg, S5)) else if p2 = 2 then gd (inB ((10 : Int32) + p1) 41) (some (S5.1 101 ((10 : Int32) + p1).toNatClampNeg, S5)) else if p2 = 3 then gd (inB ((20 : Int32) + p1) 41) (some (S5.1 101 ((20 : Int32) + p1).toNatClampNeg, S5)) else if p2 = 4 then gd (inB ((30 : Int32) + p1) 41) (some (S5.1 101 ((30 : Int32) + p1).toNatClampNeg, S5)) else if p2 = 5 then gd (inB p1 41) (some (S5.1 101 p1.toNatClampNeg, S5)) else if p2 = 6 then bd2 (fM_missedOf F G S5 p1) fun v20 S21 => some (v20, S21) else if p2 = 7 then bd (fM_doubles F G S5 p1) fun v24 => some (v24, S5) else some ((-1 : Int32), S5)
set_option maxRecDepth 100000 in
set_option maxHeartbeats 4000000 in
theorem c_248 {X : Nat × (Nat → Int32)} {D F G : Nat} (hD : 3 ≤ D) {S : St} {p1 : Int32} {p2 : Int32} {res : Int32 × St} (h : fM_note F G S p1 p2 = some res) : Ek X (D) m248 0 [(0, .ref 78), (1, .int p1), (2, .int p2)] [] S (some (.int res.1)) res.2 := by
  obtain ⟨D, rfl⟩ : ∃ E, D = E + 1 := ⟨D - 1, by omega⟩
  unfold fM_note at h
  refine x_aload_n d_248_0 rfl 0 rfl ?_
  refine x_iload_n d_248_1 rfl 1 rfl ?_
  obtain ⟨v2, q1, h⟩ := bd_inv h
  refine y_V1i (v := v2) (S1 := S) d_248_2 ml_11_461 kd_78 rfl (Nat.le_of_ble_eq_true rfl) (Nat.le_of_ble_eq_true rfl) (c_249 (by omega) q1) ?_
  refine x_if_ne (tgt := 10) d_248_5 rfl (fun c3 => ?_) (fun c3 => ?_)
  · replace h := ite_f c3 h
    refine x_aload_n d_248_10 rfl 0 rfl ?_
    obtain ⟨S5, q4, h⟩ := bd_inv h
    refine y_V0v (S1 := S5) d_248_11 ml_11_464 kd_78 rfl (Nat.le_of_ble_eq_true rfl) (Nat.le_of_ble_eq_true rfl) (c_251 (by omega) q4) ?_
    refine x_iload_n d_248_14 rfl 2 rfl ?_
    by_cases c6 : p2 = 0
    · replace h := ite_t c6 h
      refine x_tabC (tgt := 60) 0 d_248_15 (by rw [c6]; rfl) (by decide) rfl rfl ?_
      refine x_aload_n d_248_60 rfl 0 rfl ?_
      refine y_getR d_248_61 fl_11_63 rfl kd_78 rr_78_34 ?_
      refine x_iload_n d_248_64 rfl 1 rfl ?_
      obtain ⟨g7, h⟩ := gd_inv h
      refine y_iald d_248_65 kd_95 g7 ?_
      obtain rfl := Option.some.inj h
      exact x_ret (r := some (.int (S5.1 95 p1.toNatClampNeg))) d_248_66 ⟨_, rfl, rfl⟩
    replace h := ite_f c6 h
    by_cases c8 : p2 = 1
    · replace h := ite_t c8 h
      refine x_tabC (tgt := 67) 1 d_248_15 (by rw [c8]; rfl) (by decide) rfl rfl ?_
      refine x_aload_n d_248_67 rfl 0 rfl ?_
      refine y_getR d_248_68 fl_11_66 rfl kd_78 rr_78_35 ?_
      refine x_iload_n d_248_71 rfl 1 rfl ?_
      obtain ⟨g9, h⟩ := gd_inv h
      refine y_iald d_248_72 kd_96 g9 ?_
      obtain rfl := Option.some.inj h
      exact x_ret (r := some (.int (S5.1 96 p1.toNatClampNeg))) d_248_73 ⟨_, rfl, rfl⟩
    replace h := ite_f c8 h
    by_cases c10 : p2 = 2
    · replace h := ite_t c10 h
      refine x_tabC (tgt := 74) 2 d_248_15 (by rw [c10]; rfl) (by decide) rfl rfl ?_
      refine x_aload_n d_248_74 rfl 0 rfl ?_
      refine y_getR d_248_75 fl_11_96 rfl kd_78 rr_78_59 ?_
      refine x_bipush d_248_78 bp_10 ?_
      refine x_iload_n d_248_80 rfl 1 rfl ?_
      refine x_iadd d_248_81 ?_
      obtain ⟨g11, h⟩ := gd_inv h
      refine y_iald d_248_82 kd_101 g11 ?_
      obtain rfl := Option.some.inj h
      exact x_ret (r := some (.int (S5.1 101 ((10 : Int32) + p1).toNatClampNeg))) d_248_83 ⟨_, rfl, rfl⟩
    replace h := ite_f c10 h
    by_cases c12 : p2 = 3
    · replace h := ite_t c12 h
      refine x_tabC (tgt := 84) 3 d_248_15 (by rw [c12]; rfl) (by decide) rfl rfl ?_
      refine x_aload_n d_248_84 rfl 0 rfl ?_
      refine y_getR d_248_85 fl_11_96 rfl kd_78 rr_78_59 ?_
      refine x_bipush d_248_88 bp_20 ?_
      refine x_iload_n d_248_90 rfl 1 rfl ?_
      refine x_iadd d_248_91 ?_
      obtain ⟨g13, h⟩ := gd_inv h
      refine y_iald d_248_92 kd_101 g13 ?_
      obtain rfl := Option.some.inj h
      exact x_ret (r := some (.int (S5.1 101 ((20 : Int32) + p1).toNatClampNeg))) d_248_93 ⟨_, rfl, rfl⟩
    replace h := ite_f c12 h
    by_cases c14 : p2 = 4
    · replace h := ite_t c14 h
      refine x_tabC (tgt := 94) 4 d_248_15 (by rw [c14]; rfl) (by decide) rfl rfl ?_
      refine x_aload_n d_248_94 rfl 0 rfl ?_
      refine y_getR d_248_95 fl_11_96 rfl kd_78 rr_78_59 ?_
      refine x_bipush d_248_98 bp_30 ?_
      refine x_iload_n d_248_100 rfl 1 rfl ?_
      refine x_iadd d_248_101 ?_
      obtain ⟨g15, h⟩ := gd_inv h
      refine y_iald d_248_102 kd_101 g15 ?_
      obtain rfl := Option.some.inj h
      exact x_ret (r := some (.int (S5.1 101 ((30 : Int32) + p1).toNatClampNeg))) d_248_103 ⟨_, rfl, rfl⟩
    replace h := ite_f c14 h
    by_cases c16 : p2 = 5
    · replace h := ite_t c16 h
      refine x_tabC (tgt := 104) 5 d_248_15 (by rw [c16]; rfl) (by decide) rfl rfl ?_
      refine x_aload_n d_248_104 rfl 0 rfl ?_
      refine y_getR d_248_105 fl_11_96 rfl kd_78 rr_78_59 ?_
      refine x_iload_n d_248_108 rfl 1 rfl ?_
      obtain ⟨g17, h⟩ := gd_inv h
      refine y_iald d_248_109 kd_101 g17 ?_
      obtain rfl := Option.some.inj h
      exact x_ret (r := some (.int (S5.1 101 p1.toNatClampNeg))) d_248_110 ⟨_, rfl, rfl⟩
    replace h := ite_f c16 h
    by_cases c18 : p2 = 6
    · replace h := ite_t c18 h
      refine x_tabC (tgt := 111) 6 d_248_15 (by rw [c18]; rfl) (by decide) rfl rfl ?_
      refine x_aload_n d_248_111 rfl 0 rfl ?_
      refine x_iload_n d_248_112 rfl 1 rfl ?_
      obtain ⟨v20, S21, q19, h⟩ := bd2_inv h
      refine y_V1i (v := v20) (S1 := S21) d_248_113 ml_11_467 kd_78 rfl (Nat.le_of_ble_eq_true rfl) (Nat.le_of_ble_eq_true rfl) (c_253 (by omega) q19) ?_
      obtain rfl := Option.some.inj h
      exact x_ret (r := some (.int v20)) d_248_116 ⟨_, rfl, rfl⟩
    replace h := ite_f c18 h
    by_cases c22 : p2 = 7
    · replace h := ite_t c22 h
      refine x_tabC (tgt := 117) 7 d_248_15 (by rw [c22]; rfl) (by decide) rfl rfl ?_
      refine x_aload_n d_248_117 rfl 0 rfl ?_
      refine x_iload_n d_248_118 rfl 1 rfl ?_
      obtain ⟨v24, q23, h⟩ := bd_inv h
      refine y_V1i (v := v24) (S1 := S5) d_248_119 ml_11_328 kd_78 rfl (Nat.le_of_ble_eq_true rfl) (Nat.le_of_ble_eq_true rfl) (c_254 (by omega) q23) ?_
      obtain rfl := Option.some.inj h
      exact x_ret (r := some (.int v24)) d_248_122 ⟨_, rfl, rfl⟩
    replace h := ite_f c22 h
    refine x_tabD (tgt := 123) d_248_15 (by have := lv_neT c6 (show (0 : Int32).toInt = 0 from rfl); have := lv_neT c8 (show (1 : Int32).toInt = 1 from rfl); have := lv_neT c10 (show (2 : Int32).toInt = 2 from rfl); have := lv_neT c12 (show (3 : Int32).toInt = 3 from rfl); have := lv_neT c14 (show (4 : Int32).toInt = 4 from rfl); have := lv_neT c16 (show (5 : Int32).toInt = 5 from rfl); have := lv_neT c18 (show (6 : Int32).toInt = 6 from rfl); have := lv_neT c22 (show (7 : Int32).toInt = 7 from rfl); omega) rfl ?_
    refine x_iconst d_248_123 ic_m1 ?_
    obtain rfl := Option.some.inj h
    exact x_ret (r := some (.int (-1 : Int32))) d_248_124 ⟨_, rfl, rfl⟩
  · replace h := ite_t c3 h
    refine x_iconst d_248_8 ic_m1 ?_
    obtain rfl := Option.some.inj h
    exact x_ret (r := some (.int (-1 : Int32))) d_248_9 ⟨_, rfl, rfl⟩
/-! NinetyPlayersModel.notesOf -/
def j_260_28 (F G : Nat) (S : St) (z1 : Int32) (rec : Int32 → Int32 → Option (Int32)) (_ : St) (y3 : Int32) (s0 : Int32) (s1 : Int32) : Option (Int32) :=
  bd (fM_truth F G S s1) fun v5 => lt (s0 ||| (v5 <<< (y3 &&& 31))) fun v6 => lt (y3 + 1) fun v8 => rec v6 v8
def b_260_4 (F G : Nat) (S : St) (z1 : Int32) (rec : Int32 → Int32 → Option (Int32)) (w2 : Int32) (w3 : Int32) : Option (Int32) :=
  if (S.1 78 48) ≤ w3 then some w2 else gd (inB w3 10) (if (S.1 95 w3.toNatClampNeg) = z1 then j_260_28 F G S z1 rec  S w3 w2 (1 : Int32) else j_260_28 F G S z1 rec  S w3 w2 (0 : Int32))
def fM_notesOf (F G : Nat) (S : St) (p1 : Int32) : Option (Int32) :=
  fx2 (b_260_4 F G S p1) F (0 : Int32) (0 : Int32)
set_option maxRecDepth 100000 in
set_option maxHeartbeats 4000000 in
theorem T_260_4 {X : Nat × (Nat → Int32)} {D F G : Nat} (hD : 1 ≤ D + 1) {S : St} {z1 : Int32} : ∀ (f : Nat) (w2 : Int32) (w3 : Int32) (res : Int32), fx2 (b_260_4 F G S z1 ) f w2 w3 = some res → Ek X (D + 1) m260 4 [(0, .ref 78), (1, .int z1), (2, .int w2), (3, .int w3)] [] S (some (.int res)) S := by
  refine fx2_ind ?_
  intro rec ih w2 w3 res h
  unfold b_260_4 at h
  have J28 : ∀ (y3 : Int32) (s0 : Int32) (s1 : Int32) (res : Int32), j_260_28 F G S z1 rec S y3 s0 s1 = some res → Ek X (D + 1) m260 28 [(0, .ref 78), (1, .int z1), (3, .int y3)] [.int s1, .int s0] S (some (.int res)) S := by
    intro y3 s0 s1 res h
    unfold j_260_28 at h
    obtain ⟨v5, q4, h⟩ := bd_inv h
    refine y_S1i (v := v5) (S1 := S) d_260_28 ml_11_318 (Nat.le_of_ble_eq_true rfl) (Nat.le_of_ble_eq_true rfl) (c_229 (by omega) q4) ?_
    refine x_iload_n d_260_31 rfl 2 rfl ?_
    refine x_ishl d_260_32 ?_
    refine x_ior d_260_33 ?_
    obtain ⟨v6, e7, h⟩ := lt_inv h
    refine y_istore_n (L1 := [(0, .ref 78), (1, .int z1), (2, .int v6), (3, .int y3)]) e7 d_260_34 rfl (Nat.le_of_ble_eq_true rfl) rfl rfl ?_
    obtain ⟨v8, e9, h⟩ := lt_inv h
    refine y_iinc (L1 := [(0, .ref 78), (1, .int z1), (2, .int v6), (3, .int v8)]) e9 ic_1 d_260_35 3 rfl (Nat.le_of_ble_eq_true rfl) rfl rfl ?_
    refine x_goto (tgt := 4) d_260_38 rfl ?_
    exact ih v6 v8 _ h
  refine x_iload_n d_260_4 rfl 3 rfl ?_
  refine x_aload_n d_260_5 rfl 0 rfl ?_
  refine y_getI d_260_6 fl_11_322 rfl kd_78 ?_
  refine x_icmp_ge (tgt := 41) d_260_9 rfl (fun c1 => ?_) (fun c1 => ?_)
  · replace h := ite_t c1 h
    refine x_iload_n d_260_41 rfl 2 rfl ?_
    obtain rfl := Option.some.inj h
    exact x_ret (r := some (.int w2)) d_260_42 ⟨_, rfl, rfl⟩
  · replace h := ite_f c1 h
    refine x_iload_n d_260_12 rfl 2 rfl ?_
    refine x_aload_n d_260_13 rfl 0 rfl ?_
    refine y_getR d_260_14 fl_11_63 rfl kd_78 rr_78_34 ?_
    refine x_iload_n d_260_17 rfl 3 rfl ?_
    obtain ⟨g2, h⟩ := gd_inv h
    refine y_iald d_260_18 kd_95 g2 ?_
    refine x_iload_n d_260_19 rfl 1 rfl ?_
    refine x_icmp_ne (tgt := 27) d_260_20 rfl (fun c3 => ?_) (fun c3 => ?_)
    · replace h := ite_f c3 h
      refine x_iconst d_260_27 ic_0 ?_
      refine y_pick (L1 := [(0, .ref 78), (1, .int z1), (3, .int w3)]) [0, 1, 3] rfl ?_
      exact J28 w3 w2 (0 : Int32) _ h
    · replace h := ite_t c3 h
      refine x_iconst d_260_23 ic_1 ?_
      refine x_goto (tgt := 28) d_260_24 rfl ?_
      refine y_pick (L1 := [(0, .ref 78), (1, .int z1), (3, .int w3)]) [0, 1, 3] rfl ?_
      exact J28 w3 w2 (1 : Int32) _ h
set_option maxRecDepth 100000 in
set_option maxHeartbeats 4000000 in
theorem c_260 {X : Nat × (Nat → Int32)} {D F G : Nat} (hD : 1 ≤ D) {S : St} {p1 : Int32} {res : Int32} (h : fM_notesOf F G S p1 = some res) : Ek X (D) m260 0 [(0, .ref 78), (1, .int p1)] [] S (some (.int res)) S := by
  obtain ⟨D, rfl⟩ : ∃ E, D = E + 1 := ⟨D - 1, by omega⟩
  unfold fM_notesOf at h
  refine x_iconst d_260_0 ic_0 ?_
  refine x_istore_n (L1 := [(0, .ref 78), (1, .int p1), (2, .int (0 : Int32))]) d_260_1 rfl (Nat.le_of_ble_eq_true rfl) rfl rfl ?_
  refine x_iconst d_260_2 ic_0 ?_
  refine x_istore_n (L1 := [(0, .ref 78), (1, .int p1), (2, .int (0 : Int32)), (3, .int (0 : Int32))]) d_260_3 rfl (Nat.le_of_ble_eq_true rfl) rfl rfl ?_
  refine T_260_4 (by omega)   F (0 : Int32) (0 : Int32) _ h
/-! NinetyPlayersModel.given -/
def j_261_28 (F G : Nat) (S : St) (z1 : Int32) (rec : Int32 → Int32 → Option (Int32)) (_ : St) (y3 : Int32) (s0 : Int32) (s1 : Int32) : Option (Int32) :=
  bd (fM_truth F G S s1) fun v5 => lt (s0 ||| (v5 <<< (y3 &&& 31))) fun v6 => lt (y3 + 1) fun v8 => rec v6 v8
def b_261_4 (F G : Nat) (S : St) (z1 : Int32) (rec : Int32 → Int32 → Option (Int32)) (w2 : Int32) (w3 : Int32) : Option (Int32) :=
  if (S.1 78 48) ≤ w3 then some w2 else gd (inB w3 41) (if (S.1 101 w3.toNatClampNeg) = z1 then j_261_28 F G S z1 rec  S w3 w2 (1 : Int32) else j_261_28 F G S z1 rec  S w3 w2 (0 : Int32))
def fM_given (F G : Nat) (S : St) (p1 : Int32) : Option (Int32) :=
  fx2 (b_261_4 F G S p1) F (0 : Int32) (0 : Int32)
set_option maxRecDepth 100000 in
set_option maxHeartbeats 4000000 in
theorem T_261_4 {X : Nat × (Nat → Int32)} {D F G : Nat} (hD : 1 ≤ D + 1) {S : St} {z1 : Int32} : ∀ (f : Nat) (w2 : Int32) (w3 : Int32) (res : Int32), fx2 (b_261_4 F G S z1 ) f w2 w3 = some res → Ek X (D + 1) m261 4 [(0, .ref 78), (1, .int z1), (2, .int w2), (3, .int w3)] [] S (some (.int res)) S := by
  refine fx2_ind ?_
  intro rec ih w2 w3 res h
  unfold b_261_4 at h
  have J28 : ∀ (y3 : Int32) (s0 : Int32) (s1 : Int32) (res : Int32), j_261_28 F G S z1 rec S y3 s0 s1 = some res → Ek X (D + 1) m261 28 [(0, .ref 78), (1, .int z1), (3, .int y3)] [.int s1, .int s0] S (some (.int res)) S := by
    intro y3 s0 s1 res h
    unfold j_261_28 at h
    obtain ⟨v5, q4, h⟩ := bd_inv h
    refine y_S1i (v := v5) (S1 := S) d_261_28 ml_11_318 (Nat.le_of_ble_eq_true rfl) (Nat.le_of_ble_eq_true rfl) (c_229 (by omega) q4) ?_
    refine x_iload_n d_261_31 rfl 2 rfl ?_
    refine x_ishl d_261_32 ?_
    refine x_ior d_261_33 ?_
    obtain ⟨v6, e7, h⟩ := lt_inv h
    refine y_istore_n (L1 := [(0, .ref 78), (1, .int z1), (2, .int v6), (3, .int y3)]) e7 d_261_34 rfl (Nat.le_of_ble_eq_true rfl) rfl rfl ?_
    obtain ⟨v8, e9, h⟩ := lt_inv h
    refine y_iinc (L1 := [(0, .ref 78), (1, .int z1), (2, .int v6), (3, .int v8)]) e9 ic_1 d_261_35 3 rfl (Nat.le_of_ble_eq_true rfl) rfl rfl ?_
    refine x_goto (tgt := 4) d_261_38 rfl ?_
    exact ih v6 v8 _ h
  refine x_iload_n d_261_4 rfl 3 rfl ?_
  refine x_aload_n d_261_5 rfl 0 rfl ?_
  refine y_getI d_261_6 fl_11_322 rfl kd_78 ?_
  refine x_icmp_ge (tgt := 41) d_261_9 rfl (fun c1 => ?_) (fun c1 => ?_)
  · replace h := ite_t c1 h
    refine x_iload_n d_261_41 rfl 2 rfl ?_
    obtain rfl := Option.some.inj h
    exact x_ret (r := some (.int w2)) d_261_42 ⟨_, rfl, rfl⟩
  · replace h := ite_f c1 h
    refine x_iload_n d_261_12 rfl 2 rfl ?_
    refine x_aload_n d_261_13 rfl 0 rfl ?_
    refine y_getR d_261_14 fl_11_96 rfl kd_78 rr_78_59 ?_
    refine x_iload_n d_261_17 rfl 3 rfl ?_
    obtain ⟨g2, h⟩ := gd_inv h
    refine y_iald d_261_18 kd_101 g2 ?_
    refine x_iload_n d_261_19 rfl 1 rfl ?_
    refine x_icmp_ne (tgt := 27) d_261_20 rfl (fun c3 => ?_) (fun c3 => ?_)
    · replace h := ite_f c3 h
      refine x_iconst d_261_27 ic_0 ?_
      refine y_pick (L1 := [(0, .ref 78), (1, .int z1), (3, .int w3)]) [0, 1, 3] rfl ?_
      exact J28 w3 w2 (0 : Int32) _ h
    · replace h := ite_t c3 h
      refine x_iconst d_261_23 ic_1 ?_
      refine x_goto (tgt := 28) d_261_24 rfl ?_
      refine y_pick (L1 := [(0, .ref 78), (1, .int z1), (3, .int w3)]) [0, 1, 3] rfl ?_
      exact J28 w3 w2 (1 : Int32) _ h
set_option maxRecDepth 100000 in
set_option maxHeartbeats 4000000 in
theorem c_261 {X : Nat × (Nat → Int32)} {D F G : Nat} (hD : 1 ≤ D) {S : St} {p1 : Int32} {res : Int32} (h : fM_given F G S p1 = some res) : Ek X (D) m261 0 [(0, .ref 78), (1, .int p1)] [] S (some (.int res)) S := by
  obtain ⟨D, rfl⟩ : ∃ E, D = E + 1 := ⟨D - 1, by omega⟩
  unfold fM_given at h
  refine x_iconst d_261_0 ic_0 ?_
  refine x_istore_n (L1 := [(0, .ref 78), (1, .int p1), (2, .int (0 : Int32))]) d_261_1 rfl (Nat.le_of_ble_eq_true rfl) rfl rfl ?_
  refine x_iconst d_261_2 ic_0 ?_
  refine x_istore_n (L1 := [(0, .ref 78), (1, .int p1), (2, .int (0 : Int32)), (3, .int (0 : Int32))]) d_261_3 rfl (Nat.le_of_ble_eq_true rfl) rfl rfl ?_
  refine T_261_4 (by omega)   F (0 : Int32) (0 : Int32) _ h
/-! NinetyPlayersModel.part -/
def fM_part (F G : Nat) (S : St) (p1 : Int32) (p2 : Int32) : Option (Int32 × St) :=
  bd (fM_isIn F G S p1 (0 : Int32) ((S.1 78 47) - (1 : Int32))) fun v2 => if v2 = 0 then some ((-1 : Int32), S) else bd (fM_fill F G S ) fun S5 => if p2 = 0 then gd (inB p1 4) (some (S5.1 94 p1.toNatClampNeg, S5)) else if p2 = (1 : Int32) then bd (fM_notesOf F G S5 p1) fun v14 => some (v14, S5) else if p2 = (2 : Int32) then bd (fM_notesOf F G S5 p1) fun v10 => bd (fM_given F G S5 (0 : Int32)) fun v12 => some (v10 &&& (v12 ^^^ (-1 : Int32)), S5) else some ((-1 : Int32), S5)
set_option maxRecDepth 100000 in
set_option maxHeartbeats 4000000 in
theorem c_259 {X : Nat × (Nat → Int32)} {D F G : Nat} (hD : 2 ≤ D) {S : St} {p1 : Int32} {p2 : Int32} {res : Int32 × St} (h : fM_part F G S p1 p2 = some res) : Ek X (D) m259 0 [(0, .ref 78), (1, .int p1), (2, .int p2)] [] S (some (.int res.1)) res.2 := by
  obtain ⟨D, rfl⟩ : ∃ E, D = E + 1 := ⟨D - 1, by omega⟩
  unfold fM_part at h
  refine x_iload_n d_259_0 rfl 1 rfl ?_
  refine x_iconst d_259_1 ic_0 ?_
  refine x_aload_n d_259_2 rfl 0 rfl ?_
  refine y_getI d_259_3 fl_11_405 rfl kd_78 ?_
  refine x_iconst d_259_6 ic_1 ?_
  refine x_isub d_259_7 ?_
  obtain ⟨v2, q1, h⟩ := bd_inv h
  refine y_S3i (v := v2) (S1 := S) d_259_8 ml_11_429 (Nat.le_of_ble_eq_true rfl) (Nat.le_of_ble_eq_true rfl) (c_250 (by omega) q1) ?_
  refine x_if_ne (tgt := 16) d_259_11 rfl (fun c3 => ?_) (fun c3 => ?_)
  · replace h := ite_f c3 h
    refine x_aload_n d_259_16 rfl 0 rfl ?_
    obtain ⟨S5, q4, h⟩ := bd_inv h
    refine y_V0v (S1 := S5) d_259_17 ml_11_464 kd_78 rfl (Nat.le_of_ble_eq_true rfl) (Nat.le_of_ble_eq_true rfl) (c_251 (by omega) q4) ?_
    refine x_iload_n d_259_20 rfl 2 rfl ?_
    refine x_if_ne (tgt := 33) d_259_21 rfl (fun c6 => ?_) (fun c6 => ?_)
    · replace h := ite_f c6 h
      refine x_iload_n d_259_33 rfl 2 rfl ?_
      refine x_iconst d_259_34 ic_1 ?_
      refine x_icmp_ne (tgt := 46) d_259_35 rfl (fun c7 => ?_) (fun c7 => ?_)
      · replace h := ite_f c7 h
        refine x_iload_n d_259_46 rfl 2 rfl ?_
        refine x_iconst d_259_47 ic_2 ?_
        refine x_icmp_ne (tgt := 67) d_259_48 rfl (fun c8 => ?_) (fun c8 => ?_)
        · replace h := ite_f c8 h
          refine x_iconst d_259_67 ic_m1 ?_
          obtain rfl := Option.some.inj h
          exact x_ret (r := some (.int (-1 : Int32))) d_259_68 ⟨_, rfl, rfl⟩
        · replace h := ite_t c8 h
          refine x_aload_n d_259_51 rfl 0 rfl ?_
          refine x_iload_n d_259_52 rfl 1 rfl ?_
          obtain ⟨v10, q9, h⟩ := bd_inv h
          refine y_V1i (v := v10) (S1 := S5) d_259_53 ml_11_470 kd_78 rfl (Nat.le_of_ble_eq_true rfl) (Nat.le_of_ble_eq_true rfl) (c_260 (by omega) q9) ?_
          refine x_aload_n d_259_56 rfl 0 rfl ?_
          refine x_iconst d_259_57 ic_0 ?_
          obtain ⟨v12, q11, h⟩ := bd_inv h
          refine y_V1i (v := v12) (S1 := S5) d_259_58 ml_11_454 kd_78 rfl (Nat.le_of_ble_eq_true rfl) (Nat.le_of_ble_eq_true rfl) (c_261 (by omega) q11) ?_
          refine x_iconst d_259_61 ic_m1 ?_
          refine x_ixor d_259_62 ?_
          refine x_iand d_259_63 ?_
          refine x_goto (tgt := 68) d_259_64 rfl ?_
          obtain rfl := Option.some.inj h
          exact x_ret (r := some (.int (v10 &&& (v12 ^^^ (-1 : Int32))))) d_259_68 ⟨_, rfl, rfl⟩
      · replace h := ite_t c7 h
        refine x_aload_n d_259_38 rfl 0 rfl ?_
        refine x_iload_n d_259_39 rfl 1 rfl ?_
        obtain ⟨v14, q13, h⟩ := bd_inv h
        refine y_V1i (v := v14) (S1 := S5) d_259_40 ml_11_470 kd_78 rfl (Nat.le_of_ble_eq_true rfl) (Nat.le_of_ble_eq_true rfl) (c_260 (by omega) q13) ?_
        refine x_goto (tgt := 68) d_259_43 rfl ?_
        obtain rfl := Option.some.inj h
        exact x_ret (r := some (.int v14)) d_259_68 ⟨_, rfl, rfl⟩
    · replace h := ite_t c6 h
      refine x_aload_n d_259_24 rfl 0 rfl ?_
      refine y_getR d_259_25 fl_11_60 rfl kd_78 rr_78_33 ?_
      refine x_iload_n d_259_28 rfl 1 rfl ?_
      obtain ⟨g15, h⟩ := gd_inv h
      refine y_iald d_259_29 kd_94 g15 ?_
      refine x_goto (tgt := 68) d_259_30 rfl ?_
      obtain rfl := Option.some.inj h
      exact x_ret (r := some (.int (S5.1 94 p1.toNatClampNeg))) d_259_68 ⟨_, rfl, rfl⟩
  · replace h := ite_t c3 h
    refine x_iconst d_259_14 ic_m1 ?_
    obtain rfl := Option.some.inj h
    exact x_ret (r := some (.int (-1 : Int32))) d_259_15 ⟨_, rfl, rfl⟩
/-! NinetyPlayersModel.isBeat -/
def fM_isBeat (F G : Nat) (S : St) (p1 : Int32) : Option (Int32) :=
  bd (fM_isIn F G S p1 (0 : Int32) ((S.1 78 46) - (1 : Int32))) fun v2 => gd (isB v2) (some v2)
set_option maxRecDepth 100000 in
set_option maxHeartbeats 4000000 in
theorem c_263 {X : Nat × (Nat → Int32)} {D F G : Nat} (hD : 1 ≤ D) {S : St} {p1 : Int32} {res : Int32} (h : fM_isBeat F G S p1 = some res) : Ek X (D) m263 0 [(0, .ref 78), (1, .int p1)] [] S (some (.int res)) S := by
  obtain ⟨D, rfl⟩ : ∃ E, D = E + 1 := ⟨D - 1, by omega⟩
  unfold fM_isBeat at h
  refine x_iload_n d_263_0 rfl 1 rfl ?_
  refine x_iconst d_263_1 ic_0 ?_
  refine x_aload_n d_263_2 rfl 0 rfl ?_
  refine y_getI d_263_3 fl_11_78 rfl kd_78 ?_
  refine x_iconst d_263_6 ic_1 ?_
  refine x_isub d_263_7 ?_
  obtain ⟨v2, q1, h⟩ := bd_inv h
  refine y_S3i (v := v2) (S1 := S) d_263_8 ml_11_429 (Nat.le_of_ble_eq_true rfl) (Nat.le_of_ble_eq_true rfl) (c_250 (by omega) q1) ?_
  obtain ⟨g3, h⟩ := gd_inv h
  obtain rfl := Option.some.inj h
  exact x_ret (r := some (.int v2)) d_263_11 ⟨_, rfl, isB_nar g3⟩
/-! NinetyPlayersModel.isHand -/
def fM_isHand (F G : Nat) (S : St) (p1 : Int32) : Option (Int32) :=
  if p1 = (1 : Int32) then some (1 : Int32) else if p1 = (2 : Int32) then some (1 : Int32) else some (0 : Int32)
set_option maxRecDepth 100000 in
set_option maxHeartbeats 4000000 in
theorem c_264 {X : Nat × (Nat → Int32)} {D F G : Nat} (hD : 0 ≤ D) {S : St} {p1 : Int32} {res : Int32} (h : fM_isHand F G S p1 = some res) : Ek X (D) m264 0 [(0, .int p1)] [] S (some (.int res)) S := by
  unfold fM_isHand at h
  refine x_iload_n d_264_0 rfl 0 rfl ?_
  refine x_iconst d_264_1 ic_1 ?_
  refine x_icmp_eq (tgt := 10) d_264_2 rfl (fun c1 => ?_) (fun c1 => ?_)
  · replace h := ite_t c1 h
    refine x_iconst d_264_10 ic_1 ?_
    refine x_goto (tgt := 15) d_264_11 rfl ?_
    obtain rfl := Option.some.inj h
    exact x_ret (r := some (.int (1 : Int32))) d_264_15 ⟨_, rfl, rfl⟩
  · replace h := ite_f c1 h
    refine x_iload_n d_264_5 rfl 0 rfl ?_
    refine x_iconst d_264_6 ic_2 ?_
    refine x_icmp_ne (tgt := 14) d_264_7 rfl (fun c2 => ?_) (fun c2 => ?_)
    · replace h := ite_f c2 h
      refine x_iconst d_264_14 ic_0 ?_
      obtain rfl := Option.some.inj h
      exact x_ret (r := some (.int (0 : Int32))) d_264_15 ⟨_, rfl, rfl⟩
    · replace h := ite_t c2 h
      refine x_iconst d_264_10 ic_1 ?_
      refine x_goto (tgt := 15) d_264_11 rfl ?_
      obtain rfl := Option.some.inj h
      exact x_ret (r := some (.int (1 : Int32))) d_264_15 ⟨_, rfl, rfl⟩
/-! NinetyPlayersModel.held -/
def fM_held (F G : Nat) (S : St) (p1 : Int32) (p2 : Int32) : Option (Int32 × St) :=
  bd (fM_fill F G S ) fun S2 => bd (fM_isBeat F G S2 p1) fun v4 => if v4 = 0 then some ((-1 : Int32), S2) else bd (fM_isHand F G S2 p2) fun v7 => if v7 = 0 then some ((-1 : Int32), S2) else bd (fM_given F G S2 p2) fun v10 => gd (inB p1 12) (some (v10 &&& (S2.1 102 p1.toNatClampNeg), S2))
set_option maxRecDepth 100000 in
set_option maxHeartbeats 4000000 in
theorem c_262 {X : Nat × (Nat → Int32)} {D F G : Nat} (hD : 2 ≤ D) {S : St} {p1 : Int32} {p2 : Int32} {res : Int32 × St} (h : fM_held F G S p1 p2 = some res) : Ek X (D) m262 0 [(0, .ref 78), (1, .int p1), (2, .int p2)] [] S (some (.int res.1)) res.2 := by
  obtain ⟨D, rfl⟩ : ∃ E, D = E + 1 := ⟨D - 1, by omega⟩
  unfold fM_held at h
  refine x_aload_n d_262_0 rfl 0 rfl ?_
  obtain ⟨S2, q1, h⟩ := bd_inv h
  refine y_V0v (S1 := S2) d_262_1 ml_11_464 kd_78 rfl (Nat.le_of_ble_eq_true rfl) (Nat.le_of_ble_eq_true rfl) (c_251 (by omega) q1) ?_
  refine x_aload_n d_262_4 rfl 0 rfl ?_
  refine x_iload_n d_262_5 rfl 1 rfl ?_
  obtain ⟨v4, q3, h⟩ := bd_inv h
  refine y_V1i (v := v4) (S1 := S2) d_262_6 ml_11_473 kd_78 rfl (Nat.le_of_ble_eq_true rfl) (Nat.le_of_ble_eq_true rfl) (c_263 (by omega) q3) ?_
  refine x_if_eq (tgt := 34) d_262_9 rfl (fun c5 => ?_) (fun c5 => ?_)
  · replace h := ite_t c5 h
    refine x_iconst d_262_34 ic_m1 ?_
    obtain rfl := Option.some.inj h
    exact x_ret (r := some (.int (-1 : Int32))) d_262_35 ⟨_, rfl, rfl⟩
  · replace h := ite_f c5 h
    refine x_iload_n d_262_12 rfl 2 rfl ?_
    obtain ⟨v7, q6, h⟩ := bd_inv h
    refine y_S1i (v := v7) (S1 := S2) d_262_13 ml_11_476 (Nat.le_of_ble_eq_true rfl) (Nat.le_of_ble_eq_true rfl) (c_264 (by omega) q6) ?_
    refine x_if_eq (tgt := 34) d_262_16 rfl (fun c8 => ?_) (fun c8 => ?_)
    · replace h := ite_t c8 h
      refine x_iconst d_262_34 ic_m1 ?_
      obtain rfl := Option.some.inj h
      exact x_ret (r := some (.int (-1 : Int32))) d_262_35 ⟨_, rfl, rfl⟩
    · replace h := ite_f c8 h
      refine x_aload_n d_262_19 rfl 0 rfl ?_
      refine x_iload_n d_262_20 rfl 2 rfl ?_
      obtain ⟨v10, q9, h⟩ := bd_inv h
      refine y_V1i (v := v10) (S1 := S2) d_262_21 ml_11_454 kd_78 rfl (Nat.le_of_ble_eq_true rfl) (Nat.le_of_ble_eq_true rfl) (c_261 (by omega) q9) ?_
      refine x_aload_n d_262_24 rfl 0 rfl ?_
      refine y_getR d_262_25 fl_11_99 rfl kd_78 rr_78_60 ?_
      refine x_iload_n d_262_28 rfl 1 rfl ?_
      obtain ⟨g11, h⟩ := gd_inv h
      refine y_iald d_262_29 kd_102 g11 ?_
      refine x_iand d_262_30 ?_
      refine x_goto (tgt := 35) d_262_31 rfl ?_
      obtain rfl := Option.some.inj h
      exact x_ret (r := some (.int (v10 &&& (S2.1 102 p1.toNatClampNeg)))) d_262_35 ⟨_, rfl, rfl⟩
/-! NinetyPlayersModel.laySound -/
def b_266_14 (F G : Nat) (z1 : Int32) (rec : Int32 → St → Option (St)) (w2 : Int32) (S : St) : Option (St) :=
  if (S.1 78 46) ≤ w2 then some S else gd (inB w2 12) (gd (inB w2 12) (lt (sI S 103 w2.toNatClampNeg ((S.1 102 w2.toNatClampNeg) &&& z1)) fun S10 => if w2 ≤ 0 then lt (w2 + 1) fun v13 => rec v13 S10 else gd (inB (40 : Int32) 41) (if (((S10.1 101 (40 : Int32).toNatClampNeg) >>> (w2 &&& 31)) &&& (1 : Int32)) = (1 : Int32) then gd (inB w2 12) (gd (inB (w2 - (1 : Int32)) 12) (gd (inB w2 12) (lt (sI S10 103 w2.toNatClampNeg ((S10.1 103 w2.toNatClampNeg) ||| (S10.1 103 (w2 - (1 : Int32)).toNatClampNeg))) fun S22 => lt (w2 + 1) fun v24 => rec v24 S22))) else lt (w2 + 1) fun v17 => rec v17 S10)))
def fM_laySound (F G : Nat) (S : St) : Option (St) :=
  bd (fM_given F G S (1 : Int32)) fun v2 => bd (fM_given F G S (2 : Int32)) fun v4 => lt (v2 ||| v4) fun v5 => fx2 (b_266_14 F G v5) F (0 : Int32) S
set_option maxRecDepth 100000 in
set_option maxHeartbeats 4000000 in
theorem T_266_14 {X : Nat × (Nat → Int32)} {D F G : Nat} (hD : 2 ≤ D + 1) {z1 : Int32} : ∀ (f : Nat) (w2 : Int32) (S : St) (res : St), fx2 (b_266_14 F G z1 ) f w2 S = some res → Ek X (D + 1) m266 14 [(0, .ref 78), (1, .int z1), (2, .int w2)] [] S none res := by
  refine fx2_ind ?_
  intro rec ih w2 S res h
  unfold b_266_14 at h
  refine x_iload_n d_266_14 rfl 2 rfl ?_
  refine x_aload_n d_266_15 rfl 0 rfl ?_
  refine y_getI d_266_16 fl_11_78 rfl kd_78 ?_
  refine x_icmp_ge (tgt := 78) d_266_19 rfl (fun c7 => ?_) (fun c7 => ?_)
  · replace h := ite_t c7 h
    obtain rfl := Option.some.inj h
    exact x_ret (r := none) d_266_78 rfl
  · replace h := ite_f c7 h
    refine x_aload_n d_266_22 rfl 0 rfl ?_
    refine y_getR d_266_23 fl_11_102 rfl kd_78 rr_78_61 ?_
    refine x_iload_n d_266_26 rfl 2 rfl ?_
    refine x_aload_n d_266_27 rfl 0 rfl ?_
    refine y_getR d_266_28 fl_11_99 rfl kd_78 rr_78_60 ?_
    refine x_iload_n d_266_31 rfl 2 rfl ?_
    obtain ⟨g8, h⟩ := gd_inv h
    refine y_iald d_266_32 kd_102 g8 ?_
    refine x_iload_n d_266_33 rfl 1 rfl ?_
    refine x_iand d_266_34 ?_
    obtain ⟨g9, h⟩ := gd_inv h
    obtain ⟨S10, e11, h⟩ := lt_inv h
    refine y_iast e11 d_266_35 kd_103 g9 ?_
    refine x_iload_n d_266_36 rfl 2 rfl ?_
    refine x_if_le (tgt := 72) d_266_37 rfl (fun c12 => ?_) (fun c12 => ?_)
    · replace h := ite_t c12 h
      obtain ⟨v13, e14, h⟩ := lt_inv h
      refine y_iinc (L1 := [(0, .ref 78), (1, .int z1), (2, .int v13)]) e14 ic_1 d_266_72 2 rfl (Nat.le_of_ble_eq_true rfl) rfl rfl ?_
      refine x_goto (tgt := 14) d_266_75 rfl ?_
      exact ih v13 S10 _ h
    · replace h := ite_f c12 h
      refine x_aload_n d_266_40 rfl 0 rfl ?_
      refine y_getR d_266_41 fl_11_96 rfl kd_78 rr_78_59 ?_
      refine x_bipush d_266_44 bp_40 ?_
      obtain ⟨g15, h⟩ := gd_inv h
      refine y_iald d_266_46 kd_101 g15 ?_
      refine x_iload_n d_266_47 rfl 2 rfl ?_
      refine x_ishr d_266_48 ?_
      refine x_iconst d_266_49 ic_1 ?_
      refine x_iand d_266_50 ?_
      refine x_iconst d_266_51 ic_1 ?_
      refine x_icmp_ne (tgt := 72) d_266_52 rfl (fun c16 => ?_) (fun c16 => ?_)
      · replace h := ite_f c16 h
        obtain ⟨v17, e18, h⟩ := lt_inv h
        refine y_iinc (L1 := [(0, .ref 78), (1, .int z1), (2, .int v17)]) e18 ic_1 d_266_72 2 rfl (Nat.le_of_ble_eq_true rfl) rfl rfl ?_
        refine x_goto (tgt := 14) d_266_75 rfl ?_
        exact ih v17 S10 _ h
      · replace h := ite_t c16 h
        refine x_aload_n d_266_55 rfl 0 rfl ?_
        refine y_getR d_266_56 fl_11_102 rfl kd_78 rr_78_61 ?_
        refine x_iload_n d_266_59 rfl 2 rfl ?_
        refine x_dup2 d_266_60 rfl rfl ?_
        obtain ⟨g19, h⟩ := gd_inv h
        refine y_iald d_266_61 kd_103 g19 ?_
        refine x_aload_n d_266_62 rfl 0 rfl ?_
        refine y_getR d_266_63 fl_11_102 rfl kd_78 rr_78_61 ?_
        refine x_iload_n d_266_66 rfl 2 rfl ?_
        refine x_iconst d_266_67 ic_1 ?_
        refine x_isub d_266_68 ?_
        obtain ⟨g20, h⟩ := gd_inv h
        refine y_iald d_266_69 kd_103 g20 ?_
        refine x_ior d_266_70 ?_
        obtain ⟨g21, h⟩ := gd_inv h
        obtain ⟨S22, e23, h⟩ := lt_inv h
        refine y_iast e23 d_266_71 kd_103 g21 ?_
        obtain ⟨v24, e25, h⟩ := lt_inv h
        refine y_iinc (L1 := [(0, .ref 78), (1, .int z1), (2, .int v24)]) e25 ic_1 d_266_72 2 rfl (Nat.le_of_ble_eq_true rfl) rfl rfl ?_
        refine x_goto (tgt := 14) d_266_75 rfl ?_
        exact ih v24 S22 _ h
set_option maxRecDepth 100000 in
set_option maxHeartbeats 4000000 in
theorem c_266 {X : Nat × (Nat → Int32)} {D F G : Nat} (hD : 2 ≤ D) {S : St} {res : St} (h : fM_laySound F G S  = some res) : Ek X (D) m266 0 [(0, .ref 78)] [] S none res := by
  obtain ⟨D, rfl⟩ : ∃ E, D = E + 1 := ⟨D - 1, by omega⟩
  unfold fM_laySound at h
  refine x_aload_n d_266_0 rfl 0 rfl ?_
  refine x_iconst d_266_1 ic_1 ?_
  obtain ⟨v2, q1, h⟩ := bd_inv h
  refine y_V1i (v := v2) (S1 := S) d_266_2 ml_11_454 kd_78 rfl (Nat.le_of_ble_eq_true rfl) (Nat.le_of_ble_eq_true rfl) (c_261 (by omega) q1) ?_
  refine x_aload_n d_266_5 rfl 0 rfl ?_
  refine x_iconst d_266_6 ic_2 ?_
  obtain ⟨v4, q3, h⟩ := bd_inv h
  refine y_V1i (v := v4) (S1 := S) d_266_7 ml_11_454 kd_78 rfl (Nat.le_of_ble_eq_true rfl) (Nat.le_of_ble_eq_true rfl) (c_261 (by omega) q3) ?_
  refine x_ior d_266_10 ?_
  obtain ⟨v5, e6, h⟩ := lt_inv h
  refine y_istore_n (L1 := [(0, .ref 78), (1, .int v5)]) e6 d_266_11 rfl (Nat.le_of_ble_eq_true rfl) rfl rfl ?_
  refine x_iconst d_266_12 ic_0 ?_
  refine x_istore_n (L1 := [(0, .ref 78), (1, .int v5), (2, .int (0 : Int32))]) d_266_13 rfl (Nat.le_of_ble_eq_true rfl) rfl rfl ?_
  refine T_266_14 (by omega)   F (0 : Int32) S _ h
/-! NinetyPlayersModel.sounds -/
def fM_sounds (F G : Nat) (S : St) (p1 : Int32) : Option (Int32 × St) :=
  bd (fM_isBeat F G S p1) fun v2 => if v2 = 0 then some ((-1 : Int32), S) else bd (fM_fill F G S ) fun S5 => bd (fM_laySound F G S5 ) fun S7 => gd (inB p1 12) (some (S7.1 103 p1.toNatClampNeg, S7))
set_option maxRecDepth 100000 in
set_option maxHeartbeats 4000000 in
theorem c_265 {X : Nat × (Nat → Int32)} {D F G : Nat} (hD : 3 ≤ D) {S : St} {p1 : Int32} {res : Int32 × St} (h : fM_sounds F G S p1 = some res) : Ek X (D) m265 0 [(0, .ref 78), (1, .int p1)] [] S (some (.int res.1)) res.2 := by
  obtain ⟨D, rfl⟩ : ∃ E, D = E + 1 := ⟨D - 1, by omega⟩
  unfold fM_sounds at h
  refine x_aload_n d_265_0 rfl 0 rfl ?_
  refine x_iload_n d_265_1 rfl 1 rfl ?_
  obtain ⟨v2, q1, h⟩ := bd_inv h
  refine y_V1i (v := v2) (S1 := S) d_265_2 ml_11_473 kd_78 rfl (Nat.le_of_ble_eq_true rfl) (Nat.le_of_ble_eq_true rfl) (c_263 (by omega) q1) ?_
  refine x_if_ne (tgt := 10) d_265_5 rfl (fun c3 => ?_) (fun c3 => ?_)
  · replace h := ite_f c3 h
    refine x_aload_n d_265_10 rfl 0 rfl ?_
    obtain ⟨S5, q4, h⟩ := bd_inv h
    refine y_V0v (S1 := S5) d_265_11 ml_11_464 kd_78 rfl (Nat.le_of_ble_eq_true rfl) (Nat.le_of_ble_eq_true rfl) (c_251 (by omega) q4) ?_
    refine x_aload_n d_265_14 rfl 0 rfl ?_
    obtain ⟨S7, q6, h⟩ := bd_inv h
    refine y_V0v (S1 := S7) d_265_15 ml_11_479 kd_78 rfl (Nat.le_of_ble_eq_true rfl) (Nat.le_of_ble_eq_true rfl) (c_266 (by omega) q6) ?_
    refine x_aload_n d_265_18 rfl 0 rfl ?_
    refine y_getR d_265_19 fl_11_102 rfl kd_78 rr_78_61 ?_
    refine x_iload_n d_265_22 rfl 1 rfl ?_
    obtain ⟨g8, h⟩ := gd_inv h
    refine y_iald d_265_23 kd_103 g8 ?_
    obtain rfl := Option.some.inj h
    exact x_ret (r := some (.int (S7.1 103 p1.toNatClampNeg))) d_265_24 ⟨_, rfl, rfl⟩
  · replace h := ite_t c3 h
    refine x_iconst d_265_8 ic_m1 ?_
    obtain rfl := Option.some.inj h
    exact x_ret (r := some (.int (-1 : Int32))) d_265_9 ⟨_, rfl, rfl⟩
/-! NinetyPlayersModel.lowest -/
def b_270_6 (F G : Nat) (S : St) (z1 : Int32) (rec : Int32 → Int32 → Option (Int32)) (w2 : Int32) (w3 : Int32) : Option (Int32) :=
  if (S.1 78 48) ≤ w3 then some w2 else if ((z1 >>> (w3 &&& 31)) &&& (1 : Int32)) = (1 : Int32) then gd (inB ((10 : Int32) + w3) 41) (if w2 ≤ (S.1 101 ((10 : Int32) + w3).toNatClampNeg) then lt (w3 + 1) fun v7 => rec w2 v7 else gd (inB ((10 : Int32) + w3) 41) (lt (S.1 101 ((10 : Int32) + w3).toNatClampNeg) fun v10 => lt (w3 + 1) fun v12 => rec v10 v12)) else lt (w3 + 1) fun v3 => rec w2 v3
def fM_lowest (F G : Nat) (S : St) (p1 : Int32) : Option (Int32) :=
  fx2 (b_270_6 F G S p1) F (1000000 : Int32) (0 : Int32)
set_option maxRecDepth 100000 in
set_option maxHeartbeats 4000000 in
theorem T_270_6 {X : Nat × (Nat → Int32)} {D F G : Nat} (hD : 0 ≤ D) {S : St} {z1 : Int32} : ∀ (f : Nat) (w2 : Int32) (w3 : Int32) (res : Int32), fx2 (b_270_6 F G S z1 ) f w2 w3 = some res → Ek X (D) m270 6 [(0, .ref 78), (1, .int z1), (2, .int w2), (3, .int w3)] [] S (some (.int res)) S := by
  refine fx2_ind ?_
  intro rec ih w2 w3 res h
  unfold b_270_6 at h
  refine x_iload_n d_270_6 rfl 3 rfl ?_
  refine x_aload_n d_270_7 rfl 0 rfl ?_
  refine y_getI d_270_8 fl_11_322 rfl kd_78 ?_
  refine x_icmp_ge (tgt := 52) d_270_11 rfl (fun c1 => ?_) (fun c1 => ?_)
  · replace h := ite_t c1 h
    refine x_iload_n d_270_52 rfl 2 rfl ?_
    obtain rfl := Option.some.inj h
    exact x_ret (r := some (.int w2)) d_270_53 ⟨_, rfl, rfl⟩
  · replace h := ite_f c1 h
    refine x_iload_n d_270_14 rfl 1 rfl ?_
    refine x_iload_n d_270_15 rfl 3 rfl ?_
    refine x_ishr d_270_16 ?_
    refine x_iconst d_270_17 ic_1 ?_
    refine x_iand d_270_18 ?_
    refine x_iconst d_270_19 ic_1 ?_
    refine x_icmp_ne (tgt := 46) d_270_20 rfl (fun c2 => ?_) (fun c2 => ?_)
    · replace h := ite_f c2 h
      obtain ⟨v3, e4, h⟩ := lt_inv h
      refine y_iinc (L1 := [(0, .ref 78), (1, .int z1), (2, .int w2), (3, .int v3)]) e4 ic_1 d_270_46 3 rfl (Nat.le_of_ble_eq_true rfl) rfl rfl ?_
      refine x_goto (tgt := 6) d_270_49 rfl ?_
      exact ih w2 v3 _ h
    · replace h := ite_t c2 h
      refine x_aload_n d_270_23 rfl 0 rfl ?_
      refine y_getR d_270_24 fl_11_96 rfl kd_78 rr_78_59 ?_
      refine x_bipush d_270_27 bp_10 ?_
      refine x_iload_n d_270_29 rfl 3 rfl ?_
      refine x_iadd d_270_30 ?_
      obtain ⟨g5, h⟩ := gd_inv h
      refine y_iald d_270_31 kd_101 g5 ?_
      refine x_iload_n d_270_32 rfl 2 rfl ?_
      refine x_icmp_ge (tgt := 46) d_270_33 rfl (fun c6 => ?_) (fun c6 => ?_)
      · replace h := ite_t c6 h
        obtain ⟨v7, e8, h⟩ := lt_inv h
        refine y_iinc (L1 := [(0, .ref 78), (1, .int z1), (2, .int w2), (3, .int v7)]) e8 ic_1 d_270_46 3 rfl (Nat.le_of_ble_eq_true rfl) rfl rfl ?_
        refine x_goto (tgt := 6) d_270_49 rfl ?_
        exact ih w2 v7 _ h
      · replace h := ite_f c6 h
        refine x_aload_n d_270_36 rfl 0 rfl ?_
        refine y_getR d_270_37 fl_11_96 rfl kd_78 rr_78_59 ?_
        refine x_bipush d_270_40 bp_10 ?_
        refine x_iload_n d_270_42 rfl 3 rfl ?_
        refine x_iadd d_270_43 ?_
        obtain ⟨g9, h⟩ := gd_inv h
        refine y_iald d_270_44 kd_101 g9 ?_
        obtain ⟨v10, e11, h⟩ := lt_inv h
        refine y_istore_n (L1 := [(0, .ref 78), (1, .int z1), (2, .int v10), (3, .int w3)]) e11 d_270_45 rfl (Nat.le_of_ble_eq_true rfl) rfl rfl ?_
        obtain ⟨v12, e13, h⟩ := lt_inv h
        refine y_iinc (L1 := [(0, .ref 78), (1, .int z1), (2, .int v10), (3, .int v12)]) e13 ic_1 d_270_46 3 rfl (Nat.le_of_ble_eq_true rfl) rfl rfl ?_
        refine x_goto (tgt := 6) d_270_49 rfl ?_
        exact ih v10 v12 _ h
set_option maxRecDepth 100000 in
set_option maxHeartbeats 4000000 in
theorem c_270 {X : Nat × (Nat → Int32)} {D F G : Nat} (hD : 0 ≤ D) {S : St} {p1 : Int32} {res : Int32} (h : fM_lowest F G S p1 = some res) : Ek X (D) m270 0 [(0, .ref 78), (1, .int p1)] [] S (some (.int res)) S := by
  unfold fM_lowest at h
  refine x_ldcw d_270_0 kc_11_436 ?_
  refine x_istore_n (L1 := [(0, .ref 78), (1, .int p1), (2, .int (1000000 : Int32))]) d_270_3 rfl (Nat.le_of_ble_eq_true rfl) rfl rfl ?_
  refine x_iconst d_270_4 ic_0 ?_
  refine x_istore_n (L1 := [(0, .ref 78), (1, .int p1), (2, .int (1000000 : Int32)), (3, .int (0 : Int32))]) d_270_5 rfl (Nat.le_of_ble_eq_true rfl) rfl rfl ?_
  refine T_270_6 (by omega)   F (1000000 : Int32) (0 : Int32) _ h
/-! NinetyPlayersModel.highest -/
def b_271_4 (F G : Nat) (S : St) (z1 : Int32) (rec : Int32 → Int32 → Option (Int32)) (w2 : Int32) (w3 : Int32) : Option (Int32) :=
  if (S.1 78 48) ≤ w3 then some w2 else if ((z1 >>> (w3 &&& 31)) &&& (1 : Int32)) = (1 : Int32) then gd (inB ((10 : Int32) + w3) 41) (if (S.1 101 ((10 : Int32) + w3).toNatClampNeg) ≤ w2 then lt (w3 + 1) fun v7 => rec w2 v7 else gd (inB ((10 : Int32) + w3) 41) (lt (S.1 101 ((10 : Int32) + w3).toNatClampNeg) fun v10 => lt (w3 + 1) fun v12 => rec v10 v12)) else lt (w3 + 1) fun v3 => rec w2 v3
def fM_highest (F G : Nat) (S : St) (p1 : Int32) : Option (Int32) :=
  fx2 (b_271_4 F G S p1) F (-1 : Int32) (0 : Int32)
set_option maxRecDepth 100000 in
set_option maxHeartbeats 4000000 in
theorem T_271_4 {X : Nat × (Nat → Int32)} {D F G : Nat} (hD : 0 ≤ D) {S : St} {z1 : Int32} : ∀ (f : Nat) (w2 : Int32) (w3 : Int32) (res : Int32), fx2 (b_271_4 F G S z1 ) f w2 w3 = some res → Ek X (D) m271 4 [(0, .ref 78), (1, .int z1), (2, .int w2), (3, .int w3)] [] S (some (.int res)) S := by
  refine fx2_ind ?_
  intro rec ih w2 w3 res h
  unfold b_271_4 at h
  refine x_iload_n d_271_4 rfl 3 rfl ?_
  refine x_aload_n d_271_5 rfl 0 rfl ?_
  refine y_getI d_271_6 fl_11_322 rfl kd_78 ?_
  refine x_icmp_ge (tgt := 50) d_271_9 rfl (fun c1 => ?_) (fun c1 => ?_)
  · replace h := ite_t c1 h
    refine x_iload_n d_271_50 rfl 2 rfl ?_
    obtain rfl := Option.some.inj h
    exact x_ret (r := some (.int w2)) d_271_51 ⟨_, rfl, rfl⟩
  · replace h := ite_f c1 h
    refine x_iload_n d_271_12 rfl 1 rfl ?_
    refine x_iload_n d_271_13 rfl 3 rfl ?_
    refine x_ishr d_271_14 ?_
    refine x_iconst d_271_15 ic_1 ?_
    refine x_iand d_271_16 ?_
    refine x_iconst d_271_17 ic_1 ?_
    refine x_icmp_ne (tgt := 44) d_271_18 rfl (fun c2 => ?_) (fun c2 => ?_)
    · replace h := ite_f c2 h
      obtain ⟨v3, e4, h⟩ := lt_inv h
      refine y_iinc (L1 := [(0, .ref 78), (1, .int z1), (2, .int w2), (3, .int v3)]) e4 ic_1 d_271_44 3 rfl (Nat.le_of_ble_eq_true rfl) rfl rfl ?_
      refine x_goto (tgt := 4) d_271_47 rfl ?_
      exact ih w2 v3 _ h
    · replace h := ite_t c2 h
      refine x_aload_n d_271_21 rfl 0 rfl ?_
      refine y_getR d_271_22 fl_11_96 rfl kd_78 rr_78_59 ?_
      refine x_bipush d_271_25 bp_10 ?_
      refine x_iload_n d_271_27 rfl 3 rfl ?_
      refine x_iadd d_271_28 ?_
      obtain ⟨g5, h⟩ := gd_inv h
      refine y_iald d_271_29 kd_101 g5 ?_
      refine x_iload_n d_271_30 rfl 2 rfl ?_
      refine x_icmp_le (tgt := 44) d_271_31 rfl (fun c6 => ?_) (fun c6 => ?_)
      · replace h := ite_t c6 h
        obtain ⟨v7, e8, h⟩ := lt_inv h
        refine y_iinc (L1 := [(0, .ref 78), (1, .int z1), (2, .int w2), (3, .int v7)]) e8 ic_1 d_271_44 3 rfl (Nat.le_of_ble_eq_true rfl) rfl rfl ?_
        refine x_goto (tgt := 4) d_271_47 rfl ?_
        exact ih w2 v7 _ h
      · replace h := ite_f c6 h
        refine x_aload_n d_271_34 rfl 0 rfl ?_
        refine y_getR d_271_35 fl_11_96 rfl kd_78 rr_78_59 ?_
        refine x_bipush d_271_38 bp_10 ?_
        refine x_iload_n d_271_40 rfl 3 rfl ?_
        refine x_iadd d_271_41 ?_
        obtain ⟨g9, h⟩ := gd_inv h
        refine y_iald d_271_42 kd_101 g9 ?_
        obtain ⟨v10, e11, h⟩ := lt_inv h
        refine y_istore_n (L1 := [(0, .ref 78), (1, .int z1), (2, .int v10), (3, .int w3)]) e11 d_271_43 rfl (Nat.le_of_ble_eq_true rfl) rfl rfl ?_
        obtain ⟨v12, e13, h⟩ := lt_inv h
        refine y_iinc (L1 := [(0, .ref 78), (1, .int z1), (2, .int v10), (3, .int v12)]) e13 ic_1 d_271_44 3 rfl (Nat.le_of_ble_eq_true rfl) rfl rfl ?_
        refine x_goto (tgt := 4) d_271_47 rfl ?_
        exact ih v10 v12 _ h
set_option maxRecDepth 100000 in
set_option maxHeartbeats 4000000 in
theorem c_271 {X : Nat × (Nat → Int32)} {D F G : Nat} (hD : 0 ≤ D) {S : St} {p1 : Int32} {res : Int32} (h : fM_highest F G S p1 = some res) : Ek X (D) m271 0 [(0, .ref 78), (1, .int p1)] [] S (some (.int res)) S := by
  unfold fM_highest at h
  refine x_iconst d_271_0 ic_m1 ?_
  refine x_istore_n (L1 := [(0, .ref 78), (1, .int p1), (2, .int (-1 : Int32))]) d_271_1 rfl (Nat.le_of_ble_eq_true rfl) rfl rfl ?_
  refine x_iconst d_271_2 ic_0 ?_
  refine x_istore_n (L1 := [(0, .ref 78), (1, .int p1), (2, .int (-1 : Int32)), (3, .int (0 : Int32))]) d_271_3 rfl (Nat.le_of_ble_eq_true rfl) rfl rfl ?_
  refine T_271_4 (by omega)   F (-1 : Int32) (0 : Int32) _ h
/-! NinetyPlayersModel.ownClash -/
def j_269_47 (F G : Nat) (S : St) (y2 : Int32) (y5 : Int32) (y6 : Int32) : Option (Int32) :=
  if y2 = 0 then some y5 else bd (fM_lowest F G S y2) fun v14 => bd (fM_plain F G S (y6 - v14)) fun v16 => if v16 ≤ (S.1 78 51) then some y5 else lt (y5 ||| (16 : Int32)) fun v18 => some v18
def j_269_19 (F G : Nat) (S : St) (y1 : Int32) (y2 : Int32) (y4 : Int32) (s0 : Int32) : Option (Int32) :=
  bd (fM_lowest F G S y1) fun v6 => bd (fM_highest F G S y1) fun v8 => if (v8 - v6) ≤ y4 then j_269_47 F G  S y2 s0 v6 else lt (s0 ||| (2 : Int32)) fun v10 => j_269_47 F G  S y2 v10 v6
def fM_ownClash (F G : Nat) (S : St) (p1 : Int32) (p2 : Int32) (p3 : Int32) (p4 : Int32) : Option (Int32) :=
  if p1 = 0 then some (0 : Int32) else bd (fM_members F G S p1) fun v3 => if v3 ≤ p3 then j_269_19 F G  S p1 p2 p4 (0 : Int32) else j_269_19 F G  S p1 p2 p4 (1 : Int32)
set_option maxRecDepth 100000 in
set_option maxHeartbeats 4000000 in
theorem c_269 {X : Nat × (Nat → Int32)} {D F G : Nat} (hD : 1 ≤ D) {S : St} {p1 : Int32} {p2 : Int32} {p3 : Int32} {p4 : Int32} {res : Int32} (h : fM_ownClash F G S p1 p2 p3 p4 = some res) : Ek X (D) m269 0 [(0, .ref 78), (1, .int p1), (2, .int p2), (3, .int p3), (4, .int p4)] [] S (some (.int res)) S := by
  obtain ⟨D, rfl⟩ : ∃ E, D = E + 1 := ⟨D - 1, by omega⟩
  unfold fM_ownClash at h
  have J47 : ∀ (y2 : Int32) (y5 : Int32) (y6 : Int32) (res : Int32), j_269_47 F G S y2 y5 y6 = some res → Ek X (D + 1) m269 47 [(0, .ref 78), (2, .int y2), (5, .int y5), (6, .int y6)] [] S (some (.int res)) S := by
    intro y2 y5 y6 res h
    unfold j_269_47 at h
    refine x_iload_n d_269_47 rfl 1 rfl ?_
    refine x_if_eq (tgt := 76) d_269_48 rfl (fun c12 => ?_) (fun c12 => ?_)
    · replace h := ite_t c12 h
      refine x_iload d_269_76 2 rfl ?_
      obtain rfl := Option.some.inj h
      exact x_ret (r := some (.int y5)) d_269_78 ⟨_, rfl, rfl⟩
    · replace h := ite_f c12 h
      refine x_iload d_269_51 3 rfl ?_
      refine x_aload_n d_269_53 rfl 0 rfl ?_
      refine x_iload_n d_269_54 rfl 1 rfl ?_
      obtain ⟨v14, q13, h⟩ := bd_inv h
      refine y_V1i (v := v14) (S1 := S) d_269_55 ml_11_437 kd_78 rfl (Nat.le_of_ble_eq_true rfl) (Nat.le_of_ble_eq_true rfl) (c_270 (by omega) q13) ?_
      refine x_isub d_269_58 ?_
      obtain ⟨v16, q15, h⟩ := bd_inv h
      refine y_S1i (v := v16) (S1 := S) d_269_59 ml_11_325 (Nat.le_of_ble_eq_true rfl) (Nat.le_of_ble_eq_true rfl) (c_255 (by omega) q15) ?_
      refine x_aload_n d_269_62 rfl 0 rfl ?_
      refine y_getI d_269_63 fl_11_87 rfl kd_78 ?_
      refine x_icmp_le (tgt := 76) d_269_66 rfl (fun c17 => ?_) (fun c17 => ?_)
      · replace h := ite_t c17 h
        refine x_iload d_269_76 2 rfl ?_
        obtain rfl := Option.some.inj h
        exact x_ret (r := some (.int y5)) d_269_78 ⟨_, rfl, rfl⟩
      · replace h := ite_f c17 h
        refine x_iload d_269_69 2 rfl ?_
        refine x_bipush d_269_71 bp_16 ?_
        refine x_ior d_269_73 ?_
        obtain ⟨v18, e19, h⟩ := lt_inv h
        refine y_istore (L1 := [(0, .ref 78), (2, .int y2), (5, .int v18), (6, .int y6)]) e19 d_269_74 (Nat.le_of_ble_eq_true rfl) rfl rfl ?_
        refine x_iload d_269_76 2 rfl ?_
        obtain rfl := Option.some.inj h
        exact x_ret (r := some (.int v18)) d_269_78 ⟨_, rfl, rfl⟩
  have J19 : ∀ (y1 : Int32) (y2 : Int32) (y4 : Int32) (s0 : Int32) (res : Int32), j_269_19 F G S y1 y2 y4 s0 = some res → Ek X (D + 1) m269 19 [(0, .ref 78), (1, .int y1), (2, .int y2), (4, .int y4)] [.int s0] S (some (.int res)) S := by
    intro y1 y2 y4 s0 res h
    unfold j_269_19 at h
    refine x_istore (L1 := [(0, .ref 78), (1, .int y1), (2, .int y2), (4, .int y4), (5, .int s0)]) d_269_19 (Nat.le_of_ble_eq_true rfl) rfl rfl ?_
    refine x_aload_n d_269_21 rfl 0 rfl ?_
    refine x_iload_n d_269_22 rfl 1 rfl ?_
    obtain ⟨v6, q5, h⟩ := bd_inv h
    refine y_V1i (v := v6) (S1 := S) d_269_23 ml_11_437 kd_78 rfl (Nat.le_of_ble_eq_true rfl) (Nat.le_of_ble_eq_true rfl) (c_270 (by omega) q5) ?_
    refine x_istore (L1 := [(0, .ref 78), (1, .int y1), (2, .int y2), (4, .int y4), (5, .int s0), (6, .int v6)]) d_269_26 (Nat.le_of_ble_eq_true rfl) rfl rfl ?_
    refine x_aload_n d_269_28 rfl 0 rfl ?_
    refine x_iload_n d_269_29 rfl 1 rfl ?_
    obtain ⟨v8, q7, h⟩ := bd_inv h
    refine y_V1i (v := v8) (S1 := S) d_269_30 ml_11_440 kd_78 rfl (Nat.le_of_ble_eq_true rfl) (Nat.le_of_ble_eq_true rfl) (c_271 (by omega) q7) ?_
    refine x_iload d_269_33 5 rfl ?_
    refine x_isub d_269_35 ?_
    refine x_iload d_269_36 3 rfl ?_
    refine x_icmp_le (tgt := 47) d_269_38 rfl (fun c9 => ?_) (fun c9 => ?_)
    · replace h := ite_t c9 h
      refine y_pick (L1 := [(0, .ref 78), (2, .int y2), (5, .int s0), (6, .int v6)]) [0, 2, 4, 5] rfl ?_
      exact J47 y2 s0 v6 _ h
    · replace h := ite_f c9 h
      refine x_iload d_269_41 4 rfl ?_
      refine x_iconst d_269_43 ic_2 ?_
      refine x_ior d_269_44 ?_
      obtain ⟨v10, e11, h⟩ := lt_inv h
      refine y_istore (L1 := [(0, .ref 78), (1, .int y1), (2, .int y2), (4, .int y4), (5, .int v10), (6, .int v6)]) e11 d_269_45 (Nat.le_of_ble_eq_true rfl) rfl rfl ?_
      refine y_pick (L1 := [(0, .ref 78), (2, .int y2), (5, .int v10), (6, .int v6)]) [0, 2, 4, 5] rfl ?_
      exact J47 y2 v10 v6 _ h
  refine x_iload_n d_269_0 rfl 1 rfl ?_
  refine x_if_ne (tgt := 6) d_269_1 rfl (fun c1 => ?_) (fun c1 => ?_)
  · replace h := ite_f c1 h
    refine x_iload_n d_269_6 rfl 1 rfl ?_
    obtain ⟨v3, q2, h⟩ := bd_inv h
    refine y_S1i (v := v3) (S1 := S) d_269_7 ml_11_331 (Nat.le_of_ble_eq_true rfl) (Nat.le_of_ble_eq_true rfl) (c_256 (by omega) q2) ?_
    refine x_iload_n d_269_10 rfl 3 rfl ?_
    refine x_icmp_le (tgt := 18) d_269_11 rfl (fun c4 => ?_) (fun c4 => ?_)
    · replace h := ite_t c4 h
      refine x_iconst d_269_18 ic_0 ?_
      refine y_pick (L1 := [(0, .ref 78), (1, .int p1), (2, .int p2), (4, .int p4)]) [0, 1, 2, 4] rfl ?_
      exact J19 p1 p2 p4 (0 : Int32) _ h
    · replace h := ite_f c4 h
      refine x_iconst d_269_14 ic_1 ?_
      refine x_goto (tgt := 19) d_269_15 rfl ?_
      refine y_pick (L1 := [(0, .ref 78), (1, .int p1), (2, .int p2), (4, .int p4)]) [0, 1, 2, 4] rfl ?_
      exact J19 p1 p2 p4 (1 : Int32) _ h
  · replace h := ite_t c1 h
    refine x_iconst d_269_4 ic_0 ?_
    obtain rfl := Option.some.inj h
    exact x_ret (r := some (.int (0 : Int32))) d_269_5 ⟨_, rfl, rfl⟩
/-! NinetyPlayersModel.hasTwins -/
def b_272_30 (F G : Nat) (S : St) (z1 : Int32) (z3 : Int32) (k84 : Int32 → Option (Int32)) (rec : Int32 → Int32 → Option (Int32)) (w2 : Int32) (w4 : Int32) : Option (Int32) :=
  if z3 ≤ w4 then k84 w2 else if w2 = 0 then if ((z1 >>> (w4 &&& 31)) &&& (1 : Int32)) = (1 : Int32) then gd (inB ((10 : Int32) + z3) 41) (gd (inB ((10 : Int32) + w4) 41) (if (S.1 101 ((10 : Int32) + z3).toNatClampNeg) = (S.1 101 ((10 : Int32) + w4).toNatClampNeg) then lt (w4 + 1) fun v18 => rec (1 : Int32) v18 else lt (w4 + 1) fun v16 => rec (0 : Int32) v16)) else lt (w4 + 1) fun v11 => rec (0 : Int32) v11 else lt (w4 + 1) fun v8 => rec (1 : Int32) v8
def b_272_4 (F G : Nat) (S : St) (z1 : Int32) (rec : Int32 → Int32 → Option (Int32)) (w2 : Int32) (w3 : Int32) : Option (Int32) :=
  if (S.1 78 48) ≤ w3 then gd (isB w2) (some w2) else if w2 = 0 then if ((z1 >>> (w3 &&& 31)) &&& (1 : Int32)) = 0 then lt (w3 + 1) fun v23 => rec w2 v23 else fx2 (b_272_30 F G S z1 w3 (fun v20 => lt (w3 + 1) fun v21 => rec v20 v21)) F w2 (0 : Int32) else gd (isB w2) (some w2)
def fM_hasTwins (F G : Nat) (S : St) (p1 : Int32) : Option (Int32) :=
  fx2 (b_272_4 F G S p1) F (0 : Int32) (0 : Int32)
set_option maxRecDepth 100000 in
set_option maxHeartbeats 4000000 in
theorem T_272_30 {X : Nat × (Nat → Int32)} {D F G : Nat} (hD : 0 ≤ D) {S : St} {z1 : Int32} {z3 : Int32} {k84 : Int32 → Option (Int32)} (hk84 : ∀ (u2 : Int32) (res : Int32), k84 u2 = some res → Ek X (D) m272 84 [(0, .ref 78), (1, .int z1), (2, .int u2), (3, .int z3)] [] S (some (.int res)) S) : ∀ (f : Nat) (w2 : Int32) (w4 : Int32) (res : Int32), fx2 (b_272_30 F G S z1 z3 k84 ) f w2 w4 = some res → Ek X (D) m272 30 [(0, .ref 78), (1, .int z1), (2, .int w2), (3, .int z3), (4, .int w4)] [] S (some (.int res)) S := by
  refine fx2_ind ?_
  intro rec ih w2 w4 res h
  unfold b_272_30 at h
  refine x_iload d_272_30 4 rfl ?_
  refine x_iload_n d_272_32 rfl 3 rfl ?_
  refine x_icmp_ge (tgt := 84) d_272_33 rfl (fun c6 => ?_) (fun c6 => ?_)
  · replace h := ite_t c6 h
    refine y_pick (L1 := [(0, .ref 78), (1, .int z1), (2, .int w2), (3, .int z3)]) [0, 1, 2, 3] rfl ?_
    exact hk84 w2 _ h
  · replace h := ite_f c6 h
    refine x_iload_n d_272_36 rfl 2 rfl ?_
    refine x_if_ne (tgt := 72) d_272_37 rfl (fun c7 => ?_) (fun c7 => ?_)
    · replace h := ite_f c7 h
      refine x_iconst d_272_72 ic_1 ?_
      refine x_goto (tgt := 77) d_272_73 rfl ?_
      refine x_istore_n (L1 := [(0, .ref 78), (1, .int z1), (2, .int (1 : Int32)), (3, .int z3), (4, .int w4)]) d_272_77 rfl (Nat.le_of_ble_eq_true rfl) rfl rfl ?_
      obtain ⟨v8, e9, h⟩ := lt_inv h
      refine y_iinc (L1 := [(0, .ref 78), (1, .int z1), (2, .int (1 : Int32)), (3, .int z3), (4, .int v8)]) e9 ic_1 d_272_78 4 rfl (Nat.le_of_ble_eq_true rfl) rfl rfl ?_
      refine x_goto (tgt := 30) d_272_81 rfl ?_
      exact ih (1 : Int32) v8 _ h
    · replace h := ite_t c7 h
      refine x_iload_n d_272_40 rfl 1 rfl ?_
      refine x_iload d_272_41 4 rfl ?_
      refine x_ishr d_272_43 ?_
      refine x_iconst d_272_44 ic_1 ?_
      refine x_iand d_272_45 ?_
      refine x_iconst d_272_46 ic_1 ?_
      refine x_icmp_ne (tgt := 76) d_272_47 rfl (fun c10 => ?_) (fun c10 => ?_)
      · replace h := ite_f c10 h
        refine x_iconst d_272_76 ic_0 ?_
        refine x_istore_n (L1 := [(0, .ref 78), (1, .int z1), (2, .int (0 : Int32)), (3, .int z3), (4, .int w4)]) d_272_77 rfl (Nat.le_of_ble_eq_true rfl) rfl rfl ?_
        obtain ⟨v11, e12, h⟩ := lt_inv h
        refine y_iinc (L1 := [(0, .ref 78), (1, .int z1), (2, .int (0 : Int32)), (3, .int z3), (4, .int v11)]) e12 ic_1 d_272_78 4 rfl (Nat.le_of_ble_eq_true rfl) rfl rfl ?_
        refine x_goto (tgt := 30) d_272_81 rfl ?_
        exact ih (0 : Int32) v11 _ h
      · replace h := ite_t c10 h
        refine x_aload_n d_272_50 rfl 0 rfl ?_
        refine y_getR d_272_51 fl_11_96 rfl kd_78 rr_78_59 ?_
        refine x_bipush d_272_54 bp_10 ?_
        refine x_iload_n d_272_56 rfl 3 rfl ?_
        refine x_iadd d_272_57 ?_
        obtain ⟨g13, h⟩ := gd_inv h
        refine y_iald d_272_58 kd_101 g13 ?_
        refine x_aload_n d_272_59 rfl 0 rfl ?_
        refine y_getR d_272_60 fl_11_96 rfl kd_78 rr_78_59 ?_
        refine x_bipush d_272_63 bp_10 ?_
        refine x_iload d_272_65 4 rfl ?_
        refine x_iadd d_272_67 ?_
        obtain ⟨g14, h⟩ := gd_inv h
        refine y_iald d_272_68 kd_101 g14 ?_
        refine x_icmp_ne (tgt := 76) d_272_69 rfl (fun c15 => ?_) (fun c15 => ?_)
        · replace h := ite_f c15 h
          refine x_iconst d_272_76 ic_0 ?_
          refine x_istore_n (L1 := [(0, .ref 78), (1, .int z1), (2, .int (0 : Int32)), (3, .int z3), (4, .int w4)]) d_272_77 rfl (Nat.le_of_ble_eq_true rfl) rfl rfl ?_
          obtain ⟨v16, e17, h⟩ := lt_inv h
          refine y_iinc (L1 := [(0, .ref 78), (1, .int z1), (2, .int (0 : Int32)), (3, .int z3), (4, .int v16)]) e17 ic_1 d_272_78 4 rfl (Nat.le_of_ble_eq_true rfl) rfl rfl ?_
          refine x_goto (tgt := 30) d_272_81 rfl ?_
          exact ih (0 : Int32) v16 _ h
        · replace h := ite_t c15 h
          refine x_iconst d_272_72 ic_1 ?_
          refine x_goto (tgt := 77) d_272_73 rfl ?_
          refine x_istore_n (L1 := [(0, .ref 78), (1, .int z1), (2, .int (1 : Int32)), (3, .int z3), (4, .int w4)]) d_272_77 rfl (Nat.le_of_ble_eq_true rfl) rfl rfl ?_
          obtain ⟨v18, e19, h⟩ := lt_inv h
          refine y_iinc (L1 := [(0, .ref 78), (1, .int z1), (2, .int (1 : Int32)), (3, .int z3), (4, .int v18)]) e19 ic_1 d_272_78 4 rfl (Nat.le_of_ble_eq_true rfl) rfl rfl ?_
          refine x_goto (tgt := 30) d_272_81 rfl ?_
          exact ih (1 : Int32) v18 _ h
set_option maxRecDepth 100000 in
set_option maxHeartbeats 4000000 in
theorem T_272_4 {X : Nat × (Nat → Int32)} {D F G : Nat} (hD : 0 ≤ D) {S : St} {z1 : Int32} : ∀ (f : Nat) (w2 : Int32) (w3 : Int32) (res : Int32), fx2 (b_272_4 F G S z1 ) f w2 w3 = some res → Ek X (D) m272 4 [(0, .ref 78), (1, .int z1), (2, .int w2), (3, .int w3)] [] S (some (.int res)) S := by
  refine fx2_ind ?_
  intro rec ih w2 w3 res h
  unfold b_272_4 at h
  refine x_iload_n d_272_4 rfl 3 rfl ?_
  refine x_aload_n d_272_5 rfl 0 rfl ?_
  refine y_getI d_272_6 fl_11_322 rfl kd_78 ?_
  refine x_icmp_ge (tgt := 90) d_272_9 rfl (fun c1 => ?_) (fun c1 => ?_)
  · replace h := ite_t c1 h
    refine x_iload_n d_272_90 rfl 2 rfl ?_
    obtain ⟨g2, h⟩ := gd_inv h
    obtain rfl := Option.some.inj h
    exact x_ret (r := some (.int w2)) d_272_91 ⟨_, rfl, isB_nar g2⟩
  · replace h := ite_f c1 h
    refine x_iload_n d_272_12 rfl 2 rfl ?_
    refine x_if_ne (tgt := 90) d_272_13 rfl (fun c3 => ?_) (fun c3 => ?_)
    · replace h := ite_f c3 h
      refine x_iload_n d_272_90 rfl 2 rfl ?_
      obtain ⟨g4, h⟩ := gd_inv h
      obtain rfl := Option.some.inj h
      exact x_ret (r := some (.int w2)) d_272_91 ⟨_, rfl, isB_nar g4⟩
    · replace h := ite_t c3 h
      refine x_iload_n d_272_16 rfl 1 rfl ?_
      refine x_iload_n d_272_17 rfl 3 rfl ?_
      refine x_ishr d_272_18 ?_
      refine x_iconst d_272_19 ic_1 ?_
      refine x_iand d_272_20 ?_
      refine x_if_ne (tgt := 27) d_272_21 rfl (fun c5 => ?_) (fun c5 => ?_)
      · replace h := ite_f c5 h
        refine x_iconst d_272_27 ic_0 ?_
        refine x_istore (L1 := [(0, .ref 78), (1, .int z1), (2, .int w2), (3, .int w3), (4, .int (0 : Int32))]) d_272_28 (Nat.le_of_ble_eq_true rfl) rfl rfl ?_
        refine T_272_30 (by omega)  ?_ F w2 (0 : Int32) _ h
        · intro v20 res h
          obtain ⟨v21, e22, h⟩ := lt_inv h
          refine y_iinc (L1 := [(0, .ref 78), (1, .int z1), (2, .int v20), (3, .int v21)]) e22 ic_1 d_272_84 3 rfl (Nat.le_of_ble_eq_true rfl) rfl rfl ?_
          refine x_goto (tgt := 4) d_272_87 rfl ?_
          exact ih v20 v21 _ h
      · replace h := ite_t c5 h
        refine x_goto (tgt := 84) d_272_24 rfl ?_
        obtain ⟨v23, e24, h⟩ := lt_inv h
        refine y_iinc (L1 := [(0, .ref 78), (1, .int z1), (2, .int w2), (3, .int v23)]) e24 ic_1 d_272_84 3 rfl (Nat.le_of_ble_eq_true rfl) rfl rfl ?_
        refine x_goto (tgt := 4) d_272_87 rfl ?_
        exact ih w2 v23 _ h
set_option maxRecDepth 100000 in
set_option maxHeartbeats 4000000 in
theorem c_272 {X : Nat × (Nat → Int32)} {D F G : Nat} (hD : 0 ≤ D) {S : St} {p1 : Int32} {res : Int32} (h : fM_hasTwins F G S p1 = some res) : Ek X (D) m272 0 [(0, .ref 78), (1, .int p1)] [] S (some (.int res)) S := by
  unfold fM_hasTwins at h
  refine x_iconst d_272_0 ic_0 ?_
  refine x_istore_n (L1 := [(0, .ref 78), (1, .int p1), (2, .int (0 : Int32))]) d_272_1 rfl (Nat.le_of_ble_eq_true rfl) rfl rfl ?_
  refine x_iconst d_272_2 ic_0 ?_
  refine x_istore_n (L1 := [(0, .ref 78), (1, .int p1), (2, .int (0 : Int32)), (3, .int (0 : Int32))]) d_272_3 rfl (Nat.le_of_ble_eq_true rfl) rfl rfl ?_
  refine T_272_4 (by omega)   F (0 : Int32) (0 : Int32) _ h
/-! NinetyPlayersModel.clashBy -/
def j_268_100 (F G : Nat) (S : St) (y6 : Int32) (y7 : Int32) (y9 : Int32) : Option (Int32) :=
  bd (fM_hasTwins F G S (y6 ||| y7)) fun v25 => if v25 = 0 then some y9 else some (y9 ||| (8 : Int32))
def j_268_36 (F G : Nat) (S : St) (y2 : Int32) (y3 : Int32) (y4 : Int32) (y5 : Int32) (y6 : Int32) (y7 : Int32) (s0 : Int32) : Option (Int32) :=
  bd (fM_ownClash F G S y6 (y2 &&& s0) y4 y5) fun v10 => bd (fM_ownClash F G S y7 (y3 &&& s0) y4 y5) fun v12 => lt (v10 ||| v12) fun v13 => if y6 = 0 then j_268_100 F G  S y6 y7 v13 else if y7 = 0 then j_268_100 F G  S y6 y7 v13 else bd (fM_highest F G S y6) fun v18 => bd (fM_lowest F G S y7) fun v20 => if v18 < v20 then j_268_100 F G  S y6 y7 v13 else lt (v13 ||| (4 : Int32)) fun v22 => j_268_100 F G  S y6 y7 v22
def fM_clashBy (F G : Nat) (S : St) (p1 : Int32) (p2 : Int32) (p3 : Int32) (p4 : Int32) (p5 : Int32) : Option (Int32) :=
  gd (inB p1 12) (lt (p2 &&& (S.1 102 p1.toNatClampNeg)) fun v2 => gd (inB p1 12) (lt (p3 &&& (S.1 102 p1.toNatClampNeg)) fun v5 => if p1 = 0 then j_268_36 F G  S p2 p3 p4 p5 v2 v5 (0 : Int32) else gd (inB (p1 - (1 : Int32)) 12) (j_268_36 F G  S p2 p3 p4 p5 v2 v5 (S.1 102 (p1 - (1 : Int32)).toNatClampNeg))))
set_option maxRecDepth 100000 in
set_option maxHeartbeats 4000000 in
theorem c_268 {X : Nat × (Nat → Int32)} {D F G : Nat} (hD : 2 ≤ D) {S : St} {p1 : Int32} {p2 : Int32} {p3 : Int32} {p4 : Int32} {p5 : Int32} {res : Int32} (h : fM_clashBy F G S p1 p2 p3 p4 p5 = some res) : Ek X (D) m268 0 [(0, .ref 78), (1, .int p1), (2, .int p2), (3, .int p3), (4, .int p4), (5, .int p5)] [] S (some (.int res)) S := by
  obtain ⟨D, rfl⟩ : ∃ E, D = E + 1 := ⟨D - 1, by omega⟩
  unfold fM_clashBy at h
  have J100 : ∀ (y6 : Int32) (y7 : Int32) (y9 : Int32) (res : Int32), j_268_100 F G S y6 y7 y9 = some res → Ek X (D + 1) m268 100 [(0, .ref 78), (6, .int y6), (7, .int y7), (9, .int y9)] [] S (some (.int res)) S := by
    intro y6 y7 y9 res h
    unfold j_268_100 at h
    refine x_aload_n d_268_100 rfl 0 rfl ?_
    refine x_iload d_268_101 1 rfl ?_
    refine x_iload d_268_103 2 rfl ?_
    refine x_ior d_268_105 ?_
    obtain ⟨v25, q24, h⟩ := bd_inv h
    refine y_V1i (v := v25) (S1 := S) d_268_106 ml_11_447 kd_78 rfl (Nat.le_of_ble_eq_true rfl) (Nat.le_of_ble_eq_true rfl) (c_272 (by omega) q24) ?_
    refine x_if_eq (tgt := 120) d_268_109 rfl (fun c26 => ?_) (fun c26 => ?_)
    · replace h := ite_t c26 h
      refine x_iload d_268_120 3 rfl ?_
      obtain rfl := Option.some.inj h
      exact x_ret (r := some (.int y9)) d_268_122 ⟨_, rfl, rfl⟩
    · replace h := ite_f c26 h
      refine x_iload d_268_112 3 rfl ?_
      refine x_bipush d_268_114 bp_8 ?_
      refine x_ior d_268_116 ?_
      refine x_goto (tgt := 122) d_268_117 rfl ?_
      obtain rfl := Option.some.inj h
      exact x_ret (r := some (.int (y9 ||| (8 : Int32)))) d_268_122 ⟨_, rfl, rfl⟩
  have J36 : ∀ (y2 : Int32) (y3 : Int32) (y4 : Int32) (y5 : Int32) (y6 : Int32) (y7 : Int32) (s0 : Int32) (res : Int32), j_268_36 F G S y2 y3 y4 y5 y6 y7 s0 = some res → Ek X (D + 1) m268 36 [(0, .ref 78), (2, .int y2), (3, .int y3), (4, .int y4), (5, .int y5), (6, .int y6), (7, .int y7)] [.int s0] S (some (.int res)) S := by
    intro y2 y3 y4 y5 y6 y7 s0 res h
    unfold j_268_36 at h
    refine x_istore (L1 := [(0, .ref 78), (2, .int y2), (3, .int y3), (4, .int y4), (5, .int y5), (6, .int y6), (7, .int y7), (8, .int s0)]) d_268_36 (Nat.le_of_ble_eq_true rfl) rfl rfl ?_
    refine x_aload_n d_268_38 rfl 0 rfl ?_
    refine x_iload d_268_39 5 rfl ?_
    refine x_iload_n d_268_41 rfl 1 rfl ?_
    refine x_iload d_268_42 7 rfl ?_
    refine x_iand d_268_44 ?_
    refine x_iload d_268_45 3 rfl ?_
    refine x_iload d_268_47 4 rfl ?_
    obtain ⟨v10, q9, h⟩ := bd_inv h
    refine y_V4i (v := v10) (S1 := S) d_268_49 ml_11_443 kd_78 rfl (Nat.le_of_ble_eq_true rfl) (Nat.le_of_ble_eq_true rfl) (c_269 (by omega) q9) ?_
    refine x_aload_n d_268_52 rfl 0 rfl ?_
    refine x_iload d_268_53 6 rfl ?_
    refine x_iload_n d_268_55 rfl 2 rfl ?_
    refine x_iload d_268_56 7 rfl ?_
    refine x_iand d_268_58 ?_
    refine x_iload d_268_59 3 rfl ?_
    refine x_iload d_268_61 4 rfl ?_
    obtain ⟨v12, q11, h⟩ := bd_inv h
    refine y_V4i (v := v12) (S1 := S) d_268_63 ml_11_443 kd_78 rfl (Nat.le_of_ble_eq_true rfl) (Nat.le_of_ble_eq_true rfl) (c_269 (by omega) q11) ?_
    refine x_ior d_268_66 ?_
    obtain ⟨v13, e14, h⟩ := lt_inv h
    refine y_istore (L1 := [(0, .ref 78), (2, .int y2), (3, .int y3), (4, .int y4), (5, .int y5), (6, .int y6), (7, .int y7), (8, .int s0), (9, .int v13)]) e14 d_268_67 (Nat.le_of_ble_eq_true rfl) rfl rfl ?_
    refine x_iload d_268_69 5 rfl ?_
    refine x_if_eq (tgt := 100) d_268_71 rfl (fun c15 => ?_) (fun c15 => ?_)
    · replace h := ite_t c15 h
      refine y_pick (L1 := [(0, .ref 78), (6, .int y6), (7, .int y7), (9, .int v13)]) [0, 5, 6, 8] rfl ?_
      exact J100 y6 y7 v13 _ h
    · replace h := ite_f c15 h
      refine x_iload d_268_74 6 rfl ?_
      refine x_if_eq (tgt := 100) d_268_76 rfl (fun c16 => ?_) (fun c16 => ?_)
      · replace h := ite_t c16 h
        refine y_pick (L1 := [(0, .ref 78), (6, .int y6), (7, .int y7), (9, .int v13)]) [0, 5, 6, 8] rfl ?_
        exact J100 y6 y7 v13 _ h
      · replace h := ite_f c16 h
        refine x_aload_n d_268_79 rfl 0 rfl ?_
        refine x_iload d_268_80 5 rfl ?_
        obtain ⟨v18, q17, h⟩ := bd_inv h
        refine y_V1i (v := v18) (S1 := S) d_268_82 ml_11_440 kd_78 rfl (Nat.le_of_ble_eq_true rfl) (Nat.le_of_ble_eq_true rfl) (c_271 (by omega) q17) ?_
        refine x_aload_n d_268_85 rfl 0 rfl ?_
        refine x_iload d_268_86 6 rfl ?_
        obtain ⟨v20, q19, h⟩ := bd_inv h
        refine y_V1i (v := v20) (S1 := S) d_268_88 ml_11_437 kd_78 rfl (Nat.le_of_ble_eq_true rfl) (Nat.le_of_ble_eq_true rfl) (c_270 (by omega) q19) ?_
        refine x_icmp_lt (tgt := 100) d_268_91 rfl (fun c21 => ?_) (fun c21 => ?_)
        · replace h := ite_t c21 h
          refine y_pick (L1 := [(0, .ref 78), (6, .int y6), (7, .int y7), (9, .int v13)]) [0, 5, 6, 8] rfl ?_
          exact J100 y6 y7 v13 _ h
        · replace h := ite_f c21 h
          refine x_iload d_268_94 8 rfl ?_
          refine x_iconst d_268_96 ic_4 ?_
          refine x_ior d_268_97 ?_
          obtain ⟨v22, e23, h⟩ := lt_inv h
          refine y_istore (L1 := [(0, .ref 78), (2, .int y2), (3, .int y3), (4, .int y4), (5, .int y5), (6, .int y6), (7, .int y7), (8, .int s0), (9, .int v22)]) e23 d_268_98 (Nat.le_of_ble_eq_true rfl) rfl rfl ?_
          refine y_pick (L1 := [(0, .ref 78), (6, .int y6), (7, .int y7), (9, .int v22)]) [0, 5, 6, 8] rfl ?_
          exact J100 y6 y7 v22 _ h
  refine x_iload_n d_268_0 rfl 2 rfl ?_
  refine x_aload_n d_268_1 rfl 0 rfl ?_
  refine y_getR d_268_2 fl_11_99 rfl kd_78 rr_78_60 ?_
  refine x_iload_n d_268_5 rfl 1 rfl ?_
  obtain ⟨g1, h⟩ := gd_inv h
  refine y_iald d_268_6 kd_102 g1 ?_
  refine x_iand d_268_7 ?_
  obtain ⟨v2, e3, h⟩ := lt_inv h
  refine y_istore (L1 := [(0, .ref 78), (1, .int p1), (2, .int p2), (3, .int p3), (4, .int p4), (5, .int p5), (6, .int v2)]) e3 d_268_8 (Nat.le_of_ble_eq_true rfl) rfl rfl ?_
  refine x_iload_n d_268_10 rfl 3 rfl ?_
  refine x_aload_n d_268_11 rfl 0 rfl ?_
  refine y_getR d_268_12 fl_11_99 rfl kd_78 rr_78_60 ?_
  refine x_iload_n d_268_15 rfl 1 rfl ?_
  obtain ⟨g4, h⟩ := gd_inv h
  refine y_iald d_268_16 kd_102 g4 ?_
  refine x_iand d_268_17 ?_
  obtain ⟨v5, e6, h⟩ := lt_inv h
  refine y_istore (L1 := [(0, .ref 78), (1, .int p1), (2, .int p2), (3, .int p3), (4, .int p4), (5, .int p5), (6, .int v2), (7, .int v5)]) e6 d_268_18 (Nat.le_of_ble_eq_true rfl) rfl rfl ?_
  refine x_iload_n d_268_20 rfl 1 rfl ?_
  refine x_if_ne (tgt := 28) d_268_21 rfl (fun c7 => ?_) (fun c7 => ?_)
  · replace h := ite_f c7 h
    refine x_aload_n d_268_28 rfl 0 rfl ?_
    refine y_getR d_268_29 fl_11_99 rfl kd_78 rr_78_60 ?_
    refine x_iload_n d_268_32 rfl 1 rfl ?_
    refine x_iconst d_268_33 ic_1 ?_
    refine x_isub d_268_34 ?_
    obtain ⟨g8, h⟩ := gd_inv h
    refine y_iald d_268_35 kd_102 g8 ?_
    refine y_pick (L1 := [(0, .ref 78), (2, .int p2), (3, .int p3), (4, .int p4), (5, .int p5), (6, .int v2), (7, .int v5)]) [0, 2, 3, 4, 5, 6, 7] rfl ?_
    exact J36 p2 p3 p4 p5 v2 v5 (S.1 102 (p1 - (1 : Int32)).toNatClampNeg) _ h
  · replace h := ite_t c7 h
    refine x_iconst d_268_24 ic_0 ?_
    refine x_goto (tgt := 36) d_268_25 rfl ?_
    refine y_pick (L1 := [(0, .ref 78), (2, .int p2), (3, .int p3), (4, .int p4), (5, .int p5), (6, .int v2), (7, .int v5)]) [0, 2, 3, 4, 5, 6, 7] rfl ?_
    exact J36 p2 p3 p4 p5 v2 v5 (0 : Int32) _ h
/-! NinetyPlayersModel.clash -/
def fM_clash (F G : Nat) (S : St) (p1 : Int32) : Option (Int32 × St) :=
  bd (fM_fill F G S ) fun S2 => bd (fM_isBeat F G S2 p1) fun v4 => if v4 = 0 then some ((-1 : Int32), S2) else bd (fM_given F G S2 (1 : Int32)) fun v7 => bd (fM_given F G S2 (2 : Int32)) fun v9 => bd (fM_clashBy F G S2 p1 v7 v9 (S2.1 78 50) (S2.1 78 49)) fun v11 => some (v11, S2)
set_option maxRecDepth 100000 in
set_option maxHeartbeats 4000000 in
theorem c_267 {X : Nat × (Nat → Int32)} {D F G : Nat} (hD : 3 ≤ D) {S : St} {p1 : Int32} {res : Int32 × St} (h : fM_clash F G S p1 = some res) : Ek X (D) m267 0 [(0, .ref 78), (1, .int p1)] [] S (some (.int res.1)) res.2 := by
  obtain ⟨D, rfl⟩ : ∃ E, D = E + 1 := ⟨D - 1, by omega⟩
  unfold fM_clash at h
  refine x_aload_n d_267_0 rfl 0 rfl ?_
  obtain ⟨S2, q1, h⟩ := bd_inv h
  refine y_V0v (S1 := S2) d_267_1 ml_11_464 kd_78 rfl (Nat.le_of_ble_eq_true rfl) (Nat.le_of_ble_eq_true rfl) (c_251 (by omega) q1) ?_
  refine x_aload_n d_267_4 rfl 0 rfl ?_
  refine x_iload_n d_267_5 rfl 1 rfl ?_
  obtain ⟨v4, q3, h⟩ := bd_inv h
  refine y_V1i (v := v4) (S1 := S2) d_267_6 ml_11_473 kd_78 rfl (Nat.le_of_ble_eq_true rfl) (Nat.le_of_ble_eq_true rfl) (c_263 (by omega) q3) ?_
  refine x_if_eq (tgt := 38) d_267_9 rfl (fun c5 => ?_) (fun c5 => ?_)
  · replace h := ite_t c5 h
    refine x_iconst d_267_38 ic_m1 ?_
    obtain rfl := Option.some.inj h
    exact x_ret (r := some (.int (-1 : Int32))) d_267_39 ⟨_, rfl, rfl⟩
  · replace h := ite_f c5 h
    refine x_aload_n d_267_12 rfl 0 rfl ?_
    refine x_iload_n d_267_13 rfl 1 rfl ?_
    refine x_aload_n d_267_14 rfl 0 rfl ?_
    refine x_iconst d_267_15 ic_1 ?_
    obtain ⟨v7, q6, h⟩ := bd_inv h
    refine y_V1i (v := v7) (S1 := S2) d_267_16 ml_11_454 kd_78 rfl (Nat.le_of_ble_eq_true rfl) (Nat.le_of_ble_eq_true rfl) (c_261 (by omega) q6) ?_
    refine x_aload_n d_267_19 rfl 0 rfl ?_
    refine x_iconst d_267_20 ic_2 ?_
    obtain ⟨v9, q8, h⟩ := bd_inv h
    refine y_V1i (v := v9) (S1 := S2) d_267_21 ml_11_454 kd_78 rfl (Nat.le_of_ble_eq_true rfl) (Nat.le_of_ble_eq_true rfl) (c_261 (by omega) q8) ?_
    refine x_aload_n d_267_24 rfl 0 rfl ?_
    refine y_getI d_267_25 fl_11_84 rfl kd_78 ?_
    refine x_aload_n d_267_28 rfl 0 rfl ?_
    refine y_getI d_267_29 fl_11_81 rfl kd_78 ?_
    obtain ⟨v11, q10, h⟩ := bd_inv h
    refine y_V5i (v := v11) (S1 := S2) d_267_32 ml_11_450 kd_78 rfl (Nat.le_of_ble_eq_true rfl) (Nat.le_of_ble_eq_true rfl) (c_268 (by omega) q10) ?_
    refine x_goto (tgt := 39) d_267_35 rfl ?_
    obtain rfl := Option.some.inj h
    exact x_ret (r := some (.int v11)) d_267_39 ⟨_, rfl, rfl⟩
/-! NinetyPlayersModel.clashBeats -/
def j_274_41 (F G : Nat) (S : St) (z1 : Int32) (rec : Int32 → Int32 → Option (Int32)) (_ : St) (y3 : Int32) (s0 : Int32) (s1 : Int32) : Option (Int32) :=
  bd (fM_truth F G S s1) fun v10 => lt (s0 ||| (v10 <<< (y3 &&& 31))) fun v11 => lt (y3 + 1) fun v13 => rec v11 v13
def b_274_4 (F G : Nat) (S : St) (z1 : Int32) (rec : Int32 → Int32 → Option (Int32)) (w2 : Int32) (w3 : Int32) : Option (Int32) :=
  if (S.1 78 46) ≤ w3 then some w2 else bd (fM_given F G S (1 : Int32)) fun v3 => bd (fM_given F G S (2 : Int32)) fun v5 => bd (fM_clashBy F G S w3 v3 v5 (S.1 78 50) z1) fun v7 => if v7 = 0 then j_274_41 F G S z1 rec  S w3 w2 (0 : Int32) else j_274_41 F G S z1 rec  S w3 w2 (1 : Int32)
def fM_clashBeats (F G : Nat) (S : St) (p1 : Int32) : Option (Int32) :=
  fx2 (b_274_4 F G S p1) F (0 : Int32) (0 : Int32)
set_option maxRecDepth 100000 in
set_option maxHeartbeats 4000000 in
theorem T_274_4 {X : Nat × (Nat → Int32)} {D F G : Nat} (hD : 3 ≤ D + 1) {S : St} {z1 : Int32} : ∀ (f : Nat) (w2 : Int32) (w3 : Int32) (res : Int32), fx2 (b_274_4 F G S z1 ) f w2 w3 = some res → Ek X (D + 1) m274 4 [(0, .ref 78), (1, .int z1), (2, .int w2), (3, .int w3)] [] S (some (.int res)) S := by
  refine fx2_ind ?_
  intro rec ih w2 w3 res h
  unfold b_274_4 at h
  have J41 : ∀ (y3 : Int32) (s0 : Int32) (s1 : Int32) (res : Int32), j_274_41 F G S z1 rec S y3 s0 s1 = some res → Ek X (D + 1) m274 41 [(0, .ref 78), (1, .int z1), (3, .int y3)] [.int s1, .int s0] S (some (.int res)) S := by
    intro y3 s0 s1 res h
    unfold j_274_41 at h
    obtain ⟨v10, q9, h⟩ := bd_inv h
    refine y_S1i (v := v10) (S1 := S) d_274_41 ml_11_318 (Nat.le_of_ble_eq_true rfl) (Nat.le_of_ble_eq_true rfl) (c_229 (by omega) q9) ?_
    refine x_iload_n d_274_44 rfl 2 rfl ?_
    refine x_ishl d_274_45 ?_
    refine x_ior d_274_46 ?_
    obtain ⟨v11, e12, h⟩ := lt_inv h
    refine y_istore_n (L1 := [(0, .ref 78), (1, .int z1), (2, .int v11), (3, .int y3)]) e12 d_274_47 rfl (Nat.le_of_ble_eq_true rfl) rfl rfl ?_
    obtain ⟨v13, e14, h⟩ := lt_inv h
    refine y_iinc (L1 := [(0, .ref 78), (1, .int z1), (2, .int v11), (3, .int v13)]) e14 ic_1 d_274_48 3 rfl (Nat.le_of_ble_eq_true rfl) rfl rfl ?_
    refine x_goto (tgt := 4) d_274_51 rfl ?_
    exact ih v11 v13 _ h
  refine x_iload_n d_274_4 rfl 3 rfl ?_
  refine x_aload_n d_274_5 rfl 0 rfl ?_
  refine y_getI d_274_6 fl_11_78 rfl kd_78 ?_
  refine x_icmp_ge (tgt := 54) d_274_9 rfl (fun c1 => ?_) (fun c1 => ?_)
  · replace h := ite_t c1 h
    refine x_iload_n d_274_54 rfl 2 rfl ?_
    obtain rfl := Option.some.inj h
    exact x_ret (r := some (.int w2)) d_274_55 ⟨_, rfl, rfl⟩
  · replace h := ite_f c1 h
    refine x_iload_n d_274_12 rfl 2 rfl ?_
    refine x_aload_n d_274_13 rfl 0 rfl ?_
    refine x_iload_n d_274_14 rfl 3 rfl ?_
    refine x_aload_n d_274_15 rfl 0 rfl ?_
    refine x_iconst d_274_16 ic_1 ?_
    obtain ⟨v3, q2, h⟩ := bd_inv h
    refine y_V1i (v := v3) (S1 := S) d_274_17 ml_11_454 kd_78 rfl (Nat.le_of_ble_eq_true rfl) (Nat.le_of_ble_eq_true rfl) (c_261 (by omega) q2) ?_
    refine x_aload_n d_274_20 rfl 0 rfl ?_
    refine x_iconst d_274_21 ic_2 ?_
    obtain ⟨v5, q4, h⟩ := bd_inv h
    refine y_V1i (v := v5) (S1 := S) d_274_22 ml_11_454 kd_78 rfl (Nat.le_of_ble_eq_true rfl) (Nat.le_of_ble_eq_true rfl) (c_261 (by omega) q4) ?_
    refine x_aload_n d_274_25 rfl 0 rfl ?_
    refine y_getI d_274_26 fl_11_84 rfl kd_78 ?_
    refine x_iload_n d_274_29 rfl 1 rfl ?_
    obtain ⟨v7, q6, h⟩ := bd_inv h
    refine y_V5i (v := v7) (S1 := S) d_274_30 ml_11_450 kd_78 rfl (Nat.le_of_ble_eq_true rfl) (Nat.le_of_ble_eq_true rfl) (c_268 (by omega) q6) ?_
    refine x_if_eq (tgt := 40) d_274_33 rfl (fun c8 => ?_) (fun c8 => ?_)
    · replace h := ite_t c8 h
      refine x_iconst d_274_40 ic_0 ?_
      refine y_pick (L1 := [(0, .ref 78), (1, .int z1), (3, .int w3)]) [0, 1, 3] rfl ?_
      exact J41 w3 w2 (0 : Int32) _ h
    · replace h := ite_f c8 h
      refine x_iconst d_274_36 ic_1 ?_
      refine x_goto (tgt := 41) d_274_37 rfl ?_
      refine y_pick (L1 := [(0, .ref 78), (1, .int z1), (3, .int w3)]) [0, 1, 3] rfl ?_
      exact J41 w3 w2 (1 : Int32) _ h
set_option maxRecDepth 100000 in
set_option maxHeartbeats 4000000 in
theorem c_274 {X : Nat × (Nat → Int32)} {D F G : Nat} (hD : 3 ≤ D) {S : St} {p1 : Int32} {res : Int32} (h : fM_clashBeats F G S p1 = some res) : Ek X (D) m274 0 [(0, .ref 78), (1, .int p1)] [] S (some (.int res)) S := by
  obtain ⟨D, rfl⟩ : ∃ E, D = E + 1 := ⟨D - 1, by omega⟩
  unfold fM_clashBeats at h
  refine x_iconst d_274_0 ic_0 ?_
  refine x_istore_n (L1 := [(0, .ref 78), (1, .int p1), (2, .int (0 : Int32))]) d_274_1 rfl (Nat.le_of_ble_eq_true rfl) rfl rfl ?_
  refine x_iconst d_274_2 ic_0 ?_
  refine x_istore_n (L1 := [(0, .ref 78), (1, .int p1), (2, .int (0 : Int32)), (3, .int (0 : Int32))]) d_274_3 rfl (Nat.le_of_ble_eq_true rfl) rfl rfl ?_
  refine T_274_4 (by omega)   F (0 : Int32) (0 : Int32) _ h
/-! NinetyPlayersModel.clashes -/
def fM_clashes (F G : Nat) (S : St) : Option (Int32 × St) :=
  bd (fM_fill F G S ) fun S2 => bd (fM_clashBeats F G S2 (S2.1 78 49)) fun v4 => some (v4, S2)
set_option maxRecDepth 100000 in
set_option maxHeartbeats 4000000 in
theorem c_273 {X : Nat × (Nat → Int32)} {D F G : Nat} (hD : 4 ≤ D) {S : St} {res : Int32 × St} (h : fM_clashes F G S  = some res) : Ek X (D) m273 0 [(0, .ref 78)] [] S (some (.int res.1)) res.2 := by
  obtain ⟨D, rfl⟩ : ∃ E, D = E + 1 := ⟨D - 1, by omega⟩
  unfold fM_clashes at h
  refine x_aload_n d_273_0 rfl 0 rfl ?_
  obtain ⟨S2, q1, h⟩ := bd_inv h
  refine y_V0v (S1 := S2) d_273_1 ml_11_464 kd_78 rfl (Nat.le_of_ble_eq_true rfl) (Nat.le_of_ble_eq_true rfl) (c_251 (by omega) q1) ?_
  refine x_aload_n d_273_4 rfl 0 rfl ?_
  refine x_aload_n d_273_5 rfl 0 rfl ?_
  refine y_getI d_273_6 fl_11_81 rfl kd_78 ?_
  obtain ⟨v4, q3, h⟩ := bd_inv h
  refine y_V1i (v := v4) (S1 := S2) d_273_9 ml_11_482 kd_78 rfl (Nat.le_of_ble_eq_true rfl) (Nat.le_of_ble_eq_true rfl) (c_274 (by omega) q3) ?_
  obtain rfl := Option.some.inj h
  exact x_ret (r := some (.int v4)) d_273_12 ⟨_, rfl, rfl⟩
/-! NinetyPlayersModel.act -/
def b_276_51 (F G : Nat) (rec : Int32 → St → Option (St)) (w1 : Int32) (S : St) : Option (St) :=
  if (41 : Int32) ≤ w1 then lt (sI S 78 63 ((S.1 78 63) + (1 : Int32))) fun S3 => lt (sI S3 78 64 (0 : Int32)) fun S5 => some S5 else gd (inB w1 41) (gd (inB (((41 : Int32) * (S.1 78 63)) + w1) 1640) (lt (sI S 104 (((41 : Int32) * (S.1 78 63)) + w1).toNatClampNeg (S.1 100 w1.toNatClampNeg)) fun S9 => lt (w1 + 1) fun v11 => rec v11 S9))
def b_276_11 (F G : Nat) (k39 : St → Option (St)) (rec : Int32 → St → Option (St)) (w1 : Int32) (S : St) : Option (St) :=
  if (1599 : Int32) ≤ w1 then k39 S else gd (inB ((41 : Int32) + w1) 1640) (gd (inB w1 1640) (lt (sI S 104 w1.toNatClampNeg (S.1 104 ((41 : Int32) + w1).toNatClampNeg)) fun S16 => lt (w1 + 1) fun v18 => rec v18 S16))
def fM_act (F G : Nat) (S : St) : Option (St) :=
  if (S.1 78 63) = (40 : Int32) then fx2 (b_276_11 F G  (fun S20 => lt (sI S20 78 63 ((S20.1 78 63) - (1 : Int32))) fun S21 => fx2 (b_276_51 F G ) F (0 : Int32) S21)) F (0 : Int32) S else fx2 (b_276_51 F G ) F (0 : Int32) S
set_option maxRecDepth 100000 in
set_option maxHeartbeats 4000000 in
theorem T_276_51 {X : Nat × (Nat → Int32)} {D F G : Nat} (hD : 0 ≤ D) : ∀ (f : Nat) (w1 : Int32) (S : St) (res : St), fx2 (b_276_51 F G ) f w1 S = some res → Ek X (D) m276 51 [(0, .ref 78), (1, .int w1)] [] S none res := by
  refine fx2_ind ?_
  intro rec ih w1 S res h
  unfold b_276_51 at h
  refine x_iload_n d_276_51 rfl 1 rfl ?_
  refine x_bipush d_276_52 bp_41 ?_
  refine x_icmp_ge (tgt := 83) d_276_54 rfl (fun c2 => ?_) (fun c2 => ?_)
  · replace h := ite_t c2 h
    refine x_aload_n d_276_83 rfl 0 rfl ?_
    refine x_dup d_276_84 rfl ?_
    refine y_getI d_276_85 fl_11_417 rfl kd_78 ?_
    refine x_iconst d_276_88 ic_1 ?_
    refine x_iadd d_276_89 ?_
    obtain ⟨S3, e4, h⟩ := lt_inv h
    refine y_putI e4 d_276_90 fl_11_417 rfl rfl kd_78 rfl rfl ?_
    refine x_aload_n d_276_93 rfl 0 rfl ?_
    refine x_iconst d_276_94 ic_0 ?_
    obtain ⟨S5, e6, h⟩ := lt_inv h
    refine y_putI e6 d_276_95 fl_11_420 rfl rfl kd_78 rfl rfl ?_
    obtain rfl := Option.some.inj h
    exact x_ret (r := none) d_276_98 rfl
  · replace h := ite_f c2 h
    refine x_aload_n d_276_57 rfl 0 rfl ?_
    refine y_getR d_276_58 fl_11_105 rfl kd_78 rr_78_62 ?_
    refine x_bipush d_276_61 bp_41 ?_
    refine x_aload_n d_276_63 rfl 0 rfl ?_
    refine y_getI d_276_64 fl_11_417 rfl kd_78 ?_
    refine x_imul d_276_67 ?_
    refine x_iload_n d_276_68 rfl 1 rfl ?_
    refine x_iadd d_276_69 ?_
    refine x_aload_n d_276_70 rfl 0 rfl ?_
    refine y_getR d_276_71 fl_11_93 rfl kd_78 rr_78_58 ?_
    refine x_iload_n d_276_74 rfl 1 rfl ?_
    obtain ⟨g7, h⟩ := gd_inv h
    refine y_iald d_276_75 kd_100 g7 ?_
    obtain ⟨g8, h⟩ := gd_inv h
    obtain ⟨S9, e10, h⟩ := lt_inv h
    refine y_iast e10 d_276_76 kd_104 g8 ?_
    obtain ⟨v11, e12, h⟩ := lt_inv h
    refine y_iinc (L1 := [(0, .ref 78), (1, .int v11)]) e12 ic_1 d_276_77 1 rfl (Nat.le_of_ble_eq_true rfl) rfl rfl ?_
    refine x_goto (tgt := 51) d_276_80 rfl ?_
    exact ih v11 S9 _ h
set_option maxRecDepth 100000 in
set_option maxHeartbeats 4000000 in
theorem T_276_11 {X : Nat × (Nat → Int32)} {D F G : Nat} (hD : 0 ≤ D) {k39 : St → Option (St)} (hk39 : ∀ (S1 : St) (res : St), k39 S1 = some res → Ek X (D) m276 39 [(0, .ref 78)] [] S1 none res) : ∀ (f : Nat) (w1 : Int32) (S : St) (res : St), fx2 (b_276_11 F G k39 ) f w1 S = some res → Ek X (D) m276 11 [(0, .ref 78), (1, .int w1)] [] S none res := by
  refine fx2_ind ?_
  intro rec ih w1 S res h
  unfold b_276_11 at h
  refine x_iload_n d_276_11 rfl 1 rfl ?_
  refine x_sipush d_276_12 sp_1599 ?_
  refine x_icmp_ge (tgt := 39) d_276_15 rfl (fun c13 => ?_) (fun c13 => ?_)
  · replace h := ite_t c13 h
    refine y_pick (L1 := [(0, .ref 78)]) [0] rfl ?_
    exact hk39 S _ h
  · replace h := ite_f c13 h
    refine x_aload_n d_276_18 rfl 0 rfl ?_
    refine y_getR d_276_19 fl_11_105 rfl kd_78 rr_78_62 ?_
    refine x_iload_n d_276_22 rfl 1 rfl ?_
    refine x_aload_n d_276_23 rfl 0 rfl ?_
    refine y_getR d_276_24 fl_11_105 rfl kd_78 rr_78_62 ?_
    refine x_bipush d_276_27 bp_41 ?_
    refine x_iload_n d_276_29 rfl 1 rfl ?_
    refine x_iadd d_276_30 ?_
    obtain ⟨g14, h⟩ := gd_inv h
    refine y_iald d_276_31 kd_104 g14 ?_
    obtain ⟨g15, h⟩ := gd_inv h
    obtain ⟨S16, e17, h⟩ := lt_inv h
    refine y_iast e17 d_276_32 kd_104 g15 ?_
    obtain ⟨v18, e19, h⟩ := lt_inv h
    refine y_iinc (L1 := [(0, .ref 78), (1, .int v18)]) e19 ic_1 d_276_33 1 rfl (Nat.le_of_ble_eq_true rfl) rfl rfl ?_
    refine x_goto (tgt := 11) d_276_36 rfl ?_
    exact ih v18 S16 _ h
set_option maxRecDepth 100000 in
set_option maxHeartbeats 4000000 in
theorem c_276 {X : Nat × (Nat → Int32)} {D F G : Nat} (hD : 0 ≤ D) {S : St} {res : St} (h : fM_act F G S  = some res) : Ek X (D) m276 0 [(0, .ref 78)] [] S none res := by
  unfold fM_act at h
  refine x_aload_n d_276_0 rfl 0 rfl ?_
  refine y_getI d_276_1 fl_11_417 rfl kd_78 ?_
  refine x_bipush d_276_4 bp_40 ?_
  refine x_icmp_ne (tgt := 49) d_276_6 rfl (fun c1 => ?_) (fun c1 => ?_)
  · replace h := ite_f c1 h
    refine x_iconst d_276_49 ic_0 ?_
    refine x_istore_n (L1 := [(0, .ref 78), (1, .int (0 : Int32))]) d_276_50 rfl (Nat.le_of_ble_eq_true rfl) rfl rfl ?_
    refine T_276_51 (by omega)   F (0 : Int32) S _ h
  · replace h := ite_t c1 h
    refine x_iconst d_276_9 ic_0 ?_
    refine x_istore_n (L1 := [(0, .ref 78), (1, .int (0 : Int32))]) d_276_10 rfl (Nat.le_of_ble_eq_true rfl) rfl rfl ?_
    refine T_276_11 (by omega)  ?_ F (0 : Int32) S _ h
    · intro S20 res h
      refine x_aload_n d_276_39 rfl 0 rfl ?_
      refine x_dup d_276_40 rfl ?_
      refine y_getI d_276_41 fl_11_417 rfl kd_78 ?_
      refine x_iconst d_276_44 ic_1 ?_
      refine x_isub d_276_45 ?_
      obtain ⟨S21, e22, h⟩ := lt_inv h
      refine y_putI e22 d_276_46 fl_11_417 rfl rfl kd_78 rfl rfl ?_
      refine x_iconst d_276_49 ic_0 ?_
      refine x_istore_n (L1 := [(0, .ref 78), (1, .int (0 : Int32))]) d_276_50 rfl (Nat.le_of_ble_eq_true rfl) rfl rfl ?_
      refine T_276_51 (by omega)   F (0 : Int32) S21 _ h
/-! NinetyPlayersModel.give -/
def fM_give (F G : Nat) (S : St) (p1 : Int32) (p2 : Int32) : Option (Int32 × St) :=
  bd (fM_isNote F G S p1) fun v2 => if v2 = 0 then some ((-1 : Int32), S) else bd (fM_isIn F G S p2 (0 : Int32) (2 : Int32)) fun v5 => if v5 = 0 then some ((-1 : Int32), S) else gd (inB p1 41) (if (S.1 100 p1.toNatClampNeg) = p2 then some ((-1 : Int32), S) else bd (fM_act F G S ) fun S10 => gd (inB p1 41) (lt (sI S10 100 p1.toNatClampNeg p2) fun S12 => bd2 (fM_clashes F G S12) fun v15 S16 => some (v15, S16)))
set_option maxRecDepth 100000 in
set_option maxHeartbeats 4000000 in
theorem c_275 {X : Nat × (Nat → Int32)} {D F G : Nat} (hD : 5 ≤ D) {S : St} {p1 : Int32} {p2 : Int32} {res : Int32 × St} (h : fM_give F G S p1 p2 = some res) : Ek X (D) m275 0 [(0, .ref 78), (1, .int p1), (2, .int p2)] [] S (some (.int res.1)) res.2 := by
  obtain ⟨D, rfl⟩ : ∃ E, D = E + 1 := ⟨D - 1, by omega⟩
  unfold fM_give at h
  refine x_aload_n d_275_0 rfl 0 rfl ?_
  refine x_iload_n d_275_1 rfl 1 rfl ?_
  obtain ⟨v2, q1, h⟩ := bd_inv h
  refine y_V1i (v := v2) (S1 := S) d_275_2 ml_11_461 kd_78 rfl (Nat.le_of_ble_eq_true rfl) (Nat.le_of_ble_eq_true rfl) (c_249 (by omega) q1) ?_
  refine x_if_eq (tgt := 27) d_275_5 rfl (fun c3 => ?_) (fun c3 => ?_)
  · replace h := ite_t c3 h
    refine x_iconst d_275_27 ic_m1 ?_
    obtain rfl := Option.some.inj h
    exact x_ret (r := some (.int (-1 : Int32))) d_275_28 ⟨_, rfl, rfl⟩
  · replace h := ite_f c3 h
    refine x_iload_n d_275_8 rfl 2 rfl ?_
    refine x_iconst d_275_9 ic_0 ?_
    refine x_iconst d_275_10 ic_2 ?_
    obtain ⟨v5, q4, h⟩ := bd_inv h
    refine y_S3i (v := v5) (S1 := S) d_275_11 ml_11_429 (Nat.le_of_ble_eq_true rfl) (Nat.le_of_ble_eq_true rfl) (c_250 (by omega) q4) ?_
    refine x_if_eq (tgt := 27) d_275_14 rfl (fun c6 => ?_) (fun c6 => ?_)
    · replace h := ite_t c6 h
      refine x_iconst d_275_27 ic_m1 ?_
      obtain rfl := Option.some.inj h
      exact x_ret (r := some (.int (-1 : Int32))) d_275_28 ⟨_, rfl, rfl⟩
    · replace h := ite_f c6 h
      refine x_aload_n d_275_17 rfl 0 rfl ?_
      refine y_getR d_275_18 fl_11_93 rfl kd_78 rr_78_58 ?_
      refine x_iload_n d_275_21 rfl 1 rfl ?_
      obtain ⟨g7, h⟩ := gd_inv h
      refine y_iald d_275_22 kd_100 g7 ?_
      refine x_iload_n d_275_23 rfl 2 rfl ?_
      refine x_icmp_ne (tgt := 29) d_275_24 rfl (fun c8 => ?_) (fun c8 => ?_)
      · replace h := ite_f c8 h
        refine x_aload_n d_275_29 rfl 0 rfl ?_
        obtain ⟨S10, q9, h⟩ := bd_inv h
        refine y_V0v (S1 := S10) d_275_30 ml_11_485 kd_78 rfl (Nat.le_of_ble_eq_true rfl) (Nat.le_of_ble_eq_true rfl) (c_276 (by omega) q9) ?_
        refine x_aload_n d_275_33 rfl 0 rfl ?_
        refine y_getR d_275_34 fl_11_93 rfl kd_78 rr_78_58 ?_
        refine x_iload_n d_275_37 rfl 1 rfl ?_
        refine x_iload_n d_275_38 rfl 2 rfl ?_
        obtain ⟨g11, h⟩ := gd_inv h
        obtain ⟨S12, e13, h⟩ := lt_inv h
        refine y_iast e13 d_275_39 kd_100 g11 ?_
        refine x_aload_n d_275_40 rfl 0 rfl ?_
        obtain ⟨v15, S16, q14, h⟩ := bd2_inv h
        refine y_V0i (v := v15) (S1 := S16) d_275_41 ml_11_488 kd_78 rfl (Nat.le_of_ble_eq_true rfl) (Nat.le_of_ble_eq_true rfl) (c_273 (by omega) q14) ?_
        obtain rfl := Option.some.inj h
        exact x_ret (r := some (.int v15)) d_275_44 ⟨_, rfl, rfl⟩
      · replace h := ite_t c8 h
        refine x_iconst d_275_27 ic_m1 ?_
        obtain rfl := Option.some.inj h
        exact x_ret (r := some (.int (-1 : Int32))) d_275_28 ⟨_, rfl, rfl⟩
/-! NinetyPlayersModel.shift -/
def fM_shift (F G : Nat) (S : St) (p1 : Int32) (p2 : Int32) : Option (Int32 × St) :=
  bd (fM_isNote F G S p1) fun v2 => if v2 = 0 then some ((-1 : Int32), S) else if p2 = 0 then some ((-1 : Int32), S) else bd (fM_isIn F G S p2 (-7 : Int32) (7 : Int32)) fun v6 => if v6 = 0 then some ((-1 : Int32), S) else gd (inB ((10 : Int32) + p1) 41) (bd (fM_isIn F G S ((S.1 100 ((10 : Int32) + p1).toNatClampNeg) + ((12 : Int32) * p2)) (0 : Int32) (87 : Int32)) fun v10 => if v10 = 0 then some ((-1 : Int32), S) else bd (fM_act F G S ) fun S13 => gd (inB ((10 : Int32) + p1) 41) (gd (inB ((10 : Int32) + p1) 41) (lt (sI S13 100 ((10 : Int32) + p1).toNatClampNeg ((S13.1 100 ((10 : Int32) + p1).toNatClampNeg) + ((12 : Int32) * p2))) fun S16 => gd (inB ((10 : Int32) + p1) 41) (some (S16.1 100 ((10 : Int32) + p1).toNatClampNeg, S16)))))
set_option maxRecDepth 100000 in
set_option maxHeartbeats 4000000 in
theorem c_277 {X : Nat × (Nat → Int32)} {D F G : Nat} (hD : 2 ≤ D) {S : St} {p1 : Int32} {p2 : Int32} {res : Int32 × St} (h : fM_shift F G S p1 p2 = some res) : Ek X (D) m277 0 [(0, .ref 78), (1, .int p1), (2, .int p2)] [] S (some (.int res.1)) res.2 := by
  obtain ⟨D, rfl⟩ : ∃ E, D = E + 1 := ⟨D - 1, by omega⟩
  unfold fM_shift at h
  refine x_aload_n d_277_0 rfl 0 rfl ?_
  refine x_iload_n d_277_1 rfl 1 rfl ?_
  obtain ⟨v2, q1, h⟩ := bd_inv h
  refine y_V1i (v := v2) (S1 := S) d_277_2 ml_11_461 kd_78 rfl (Nat.le_of_ble_eq_true rfl) (Nat.le_of_ble_eq_true rfl) (c_249 (by omega) q1) ?_
  refine x_if_eq (tgt := 46) d_277_5 rfl (fun c3 => ?_) (fun c3 => ?_)
  · replace h := ite_t c3 h
    refine x_iconst d_277_46 ic_m1 ?_
    obtain rfl := Option.some.inj h
    exact x_ret (r := some (.int (-1 : Int32))) d_277_47 ⟨_, rfl, rfl⟩
  · replace h := ite_f c3 h
    refine x_iload_n d_277_8 rfl 2 rfl ?_
    refine x_if_eq (tgt := 46) d_277_9 rfl (fun c4 => ?_) (fun c4 => ?_)
    · replace h := ite_t c4 h
      refine x_iconst d_277_46 ic_m1 ?_
      obtain rfl := Option.some.inj h
      exact x_ret (r := some (.int (-1 : Int32))) d_277_47 ⟨_, rfl, rfl⟩
    · replace h := ite_f c4 h
      refine x_iload_n d_277_12 rfl 2 rfl ?_
      refine x_bipush d_277_13 bp_m7 ?_
      refine x_bipush d_277_15 bp_7 ?_
      obtain ⟨v6, q5, h⟩ := bd_inv h
      refine y_S3i (v := v6) (S1 := S) d_277_17 ml_11_429 (Nat.le_of_ble_eq_true rfl) (Nat.le_of_ble_eq_true rfl) (c_250 (by omega) q5) ?_
      refine x_if_eq (tgt := 46) d_277_20 rfl (fun c7 => ?_) (fun c7 => ?_)
      · replace h := ite_t c7 h
        refine x_iconst d_277_46 ic_m1 ?_
        obtain rfl := Option.some.inj h
        exact x_ret (r := some (.int (-1 : Int32))) d_277_47 ⟨_, rfl, rfl⟩
      · replace h := ite_f c7 h
        refine x_aload_n d_277_23 rfl 0 rfl ?_
        refine y_getR d_277_24 fl_11_93 rfl kd_78 rr_78_58 ?_
        refine x_bipush d_277_27 bp_10 ?_
        refine x_iload_n d_277_29 rfl 1 rfl ?_
        refine x_iadd d_277_30 ?_
        obtain ⟨g8, h⟩ := gd_inv h
        refine y_iald d_277_31 kd_100 g8 ?_
        refine x_bipush d_277_32 bp_12 ?_
        refine x_iload_n d_277_34 rfl 2 rfl ?_
        refine x_imul d_277_35 ?_
        refine x_iadd d_277_36 ?_
        refine x_iconst d_277_37 ic_0 ?_
        refine x_bipush d_277_38 bp_87 ?_
        obtain ⟨v10, q9, h⟩ := bd_inv h
        refine y_S3i (v := v10) (S1 := S) d_277_40 ml_11_429 (Nat.le_of_ble_eq_true rfl) (Nat.le_of_ble_eq_true rfl) (c_250 (by omega) q9) ?_
        refine x_if_ne (tgt := 48) d_277_43 rfl (fun c11 => ?_) (fun c11 => ?_)
        · replace h := ite_f c11 h
          refine x_aload_n d_277_48 rfl 0 rfl ?_
          obtain ⟨S13, q12, h⟩ := bd_inv h
          refine y_V0v (S1 := S13) d_277_49 ml_11_485 kd_78 rfl (Nat.le_of_ble_eq_true rfl) (Nat.le_of_ble_eq_true rfl) (c_276 (by omega) q12) ?_
          refine x_aload_n d_277_52 rfl 0 rfl ?_
          refine y_getR d_277_53 fl_11_93 rfl kd_78 rr_78_58 ?_
          refine x_bipush d_277_56 bp_10 ?_
          refine x_iload_n d_277_58 rfl 1 rfl ?_
          refine x_iadd d_277_59 ?_
          refine x_dup2 d_277_60 rfl rfl ?_
          obtain ⟨g14, h⟩ := gd_inv h
          refine y_iald d_277_61 kd_100 g14 ?_
          refine x_bipush d_277_62 bp_12 ?_
          refine x_iload_n d_277_64 rfl 2 rfl ?_
          refine x_imul d_277_65 ?_
          refine x_iadd d_277_66 ?_
          obtain ⟨g15, h⟩ := gd_inv h
          obtain ⟨S16, e17, h⟩ := lt_inv h
          refine y_iast e17 d_277_67 kd_100 g15 ?_
          refine x_aload_n d_277_68 rfl 0 rfl ?_
          refine y_getR d_277_69 fl_11_93 rfl kd_78 rr_78_58 ?_
          refine x_bipush d_277_72 bp_10 ?_
          refine x_iload_n d_277_74 rfl 1 rfl ?_
          refine x_iadd d_277_75 ?_
          obtain ⟨g18, h⟩ := gd_inv h
          refine y_iald d_277_76 kd_100 g18 ?_
          obtain rfl := Option.some.inj h
          exact x_ret (r := some (.int (S16.1 100 ((10 : Int32) + p1).toNatClampNeg))) d_277_77 ⟨_, rfl, rfl⟩
        · replace h := ite_t c11 h
          refine x_iconst d_277_46 ic_m1 ?_
          obtain rfl := Option.some.inj h
          exact x_ret (r := some (.int (-1 : Int32))) d_277_47 ⟨_, rfl, rfl⟩
/-! NinetyPlayersModel.change -/
def fM_change (F G : Nat) (S : St) (p1 : Int32) (p2 : Int32) : Option (Int32 × St) :=
  bd (fM_act F G S ) fun S2 => gd (inB p1 41) (lt (S2.1 100 p1.toNatClampNeg) fun v4 => gd (inB p1 41) (lt (sI S2 100 p1.toNatClampNeg p2) fun S7 => some (v4, S7)))
set_option maxRecDepth 100000 in
set_option maxHeartbeats 4000000 in
theorem c_279 {X : Nat × (Nat → Int32)} {D F G : Nat} (hD : 1 ≤ D) {S : St} {p1 : Int32} {p2 : Int32} {res : Int32 × St} (h : fM_change F G S p1 p2 = some res) : Ek X (D) m279 0 [(0, .ref 78), (1, .int p1), (2, .int p2)] [] S (some (.int res.1)) res.2 := by
  obtain ⟨D, rfl⟩ : ∃ E, D = E + 1 := ⟨D - 1, by omega⟩
  unfold fM_change at h
  refine x_aload_n d_279_0 rfl 0 rfl ?_
  obtain ⟨S2, q1, h⟩ := bd_inv h
  refine y_V0v (S1 := S2) d_279_1 ml_11_485 kd_78 rfl (Nat.le_of_ble_eq_true rfl) (Nat.le_of_ble_eq_true rfl) (c_276 (by omega) q1) ?_
  refine x_aload_n d_279_4 rfl 0 rfl ?_
  refine y_getR d_279_5 fl_11_93 rfl kd_78 rr_78_58 ?_
  refine x_iload_n d_279_8 rfl 1 rfl ?_
  obtain ⟨g3, h⟩ := gd_inv h
  refine y_iald d_279_9 kd_100 g3 ?_
  obtain ⟨v4, e5, h⟩ := lt_inv h
  refine y_istore_n (L1 := [(0, .ref 78), (1, .int p1), (2, .int p2), (3, .int v4)]) e5 d_279_10 rfl (Nat.le_of_ble_eq_true rfl) rfl rfl ?_
  refine x_aload_n d_279_11 rfl 0 rfl ?_
  refine y_getR d_279_12 fl_11_93 rfl kd_78 rr_78_58 ?_
  refine x_iload_n d_279_15 rfl 1 rfl ?_
  refine x_iload_n d_279_16 rfl 2 rfl ?_
  obtain ⟨g6, h⟩ := gd_inv h
  obtain ⟨S7, e8, h⟩ := lt_inv h
  refine y_iast e8 d_279_17 kd_100 g6 ?_
  refine x_iload_n d_279_18 rfl 3 rfl ?_
  obtain rfl := Option.some.inj h
  exact x_ret (r := some (.int v4)) d_279_19 ⟨_, rfl, rfl⟩
/-! NinetyPlayersModel.louder -/
def fM_louder (F G : Nat) (S : St) (p1 : Int32) (p2 : Int32) : Option (Int32 × St) :=
  bd (fM_isNote F G S p1) fun v2 => if v2 = 0 then some ((-1 : Int32), S) else bd (fM_isIn F G S p2 (1 : Int32) (9 : Int32)) fun v5 => if v5 = 0 then some ((-1 : Int32), S) else gd (inB ((30 : Int32) + p1) 41) (if (S.1 100 ((30 : Int32) + p1).toNatClampNeg) = p2 then some ((-1 : Int32), S) else bd2 (fM_change F G S ((30 : Int32) + p1) p2) fun v10 S11 => some (v10, S11))
set_option maxRecDepth 100000 in
set_option maxHeartbeats 4000000 in
theorem c_278 {X : Nat × (Nat → Int32)} {D F G : Nat} (hD : 2 ≤ D) {S : St} {p1 : Int32} {p2 : Int32} {res : Int32 × St} (h : fM_louder F G S p1 p2 = some res) : Ek X (D) m278 0 [(0, .ref 78), (1, .int p1), (2, .int p2)] [] S (some (.int res.1)) res.2 := by
  obtain ⟨D, rfl⟩ : ∃ E, D = E + 1 := ⟨D - 1, by omega⟩
  unfold fM_louder at h
  refine x_aload_n d_278_0 rfl 0 rfl ?_
  refine x_iload_n d_278_1 rfl 1 rfl ?_
  obtain ⟨v2, q1, h⟩ := bd_inv h
  refine y_V1i (v := v2) (S1 := S) d_278_2 ml_11_461 kd_78 rfl (Nat.le_of_ble_eq_true rfl) (Nat.le_of_ble_eq_true rfl) (c_249 (by omega) q1) ?_
  refine x_if_eq (tgt := 43) d_278_5 rfl (fun c3 => ?_) (fun c3 => ?_)
  · replace h := ite_t c3 h
    refine x_iconst d_278_43 ic_m1 ?_
    obtain rfl := Option.some.inj h
    exact x_ret (r := some (.int (-1 : Int32))) d_278_44 ⟨_, rfl, rfl⟩
  · replace h := ite_f c3 h
    refine x_iload_n d_278_8 rfl 2 rfl ?_
    refine x_iconst d_278_9 ic_1 ?_
    refine x_bipush d_278_10 bp_9 ?_
    obtain ⟨v5, q4, h⟩ := bd_inv h
    refine y_S3i (v := v5) (S1 := S) d_278_12 ml_11_429 (Nat.le_of_ble_eq_true rfl) (Nat.le_of_ble_eq_true rfl) (c_250 (by omega) q4) ?_
    refine x_if_eq (tgt := 43) d_278_15 rfl (fun c6 => ?_) (fun c6 => ?_)
    · replace h := ite_t c6 h
      refine x_iconst d_278_43 ic_m1 ?_
      obtain rfl := Option.some.inj h
      exact x_ret (r := some (.int (-1 : Int32))) d_278_44 ⟨_, rfl, rfl⟩
    · replace h := ite_f c6 h
      refine x_aload_n d_278_18 rfl 0 rfl ?_
      refine y_getR d_278_19 fl_11_93 rfl kd_78 rr_78_58 ?_
      refine x_bipush d_278_22 bp_30 ?_
      refine x_iload_n d_278_24 rfl 1 rfl ?_
      refine x_iadd d_278_25 ?_
      obtain ⟨g7, h⟩ := gd_inv h
      refine y_iald d_278_26 kd_100 g7 ?_
      refine x_iload_n d_278_27 rfl 2 rfl ?_
      refine x_icmp_eq (tgt := 43) d_278_28 rfl (fun c8 => ?_) (fun c8 => ?_)
      · replace h := ite_t c8 h
        refine x_iconst d_278_43 ic_m1 ?_
        obtain rfl := Option.some.inj h
        exact x_ret (r := some (.int (-1 : Int32))) d_278_44 ⟨_, rfl, rfl⟩
      · replace h := ite_f c8 h
        refine x_aload_n d_278_31 rfl 0 rfl ?_
        refine x_bipush d_278_32 bp_30 ?_
        refine x_iload_n d_278_34 rfl 1 rfl ?_
        refine x_iadd d_278_35 ?_
        refine x_iload_n d_278_36 rfl 2 rfl ?_
        obtain ⟨v10, S11, q9, h⟩ := bd2_inv h
        refine y_V2i (v := v10) (S1 := S11) d_278_37 ml_11_491 kd_78 rfl (Nat.le_of_ble_eq_true rfl) (Nat.le_of_ble_eq_true rfl) (c_279 (by omega) q9) ?_
        refine x_goto (tgt := 44) d_278_40 rfl ?_
        obtain rfl := Option.some.inj h
        exact x_ret (r := some (.int v10)) d_278_44 ⟨_, rfl, rfl⟩
/-! NinetyPlayersModel.last -/
def fM_last (F G : Nat) (S : St) (p1 : Int32) (p2 : Int32) : Option (Int32 × St) :=
  bd (fM_isNote F G S p1) fun v2 => if v2 = 0 then some ((-1 : Int32), S) else bd (fM_isIn F G S p2 (1 : Int32) (12 : Int32)) fun v5 => if v5 = 0 then some ((-1 : Int32), S) else gd (inB ((20 : Int32) + p1) 41) (if (S.1 100 ((20 : Int32) + p1).toNatClampNeg) = p2 then some ((-1 : Int32), S) else bd2 (fM_change F G S ((20 : Int32) + p1) p2) fun v10 S11 => some (v10, S11))
set_option maxRecDepth 100000 in
set_option maxHeartbeats 4000000 in
theorem c_280 {X : Nat × (Nat → Int32)} {D F G : Nat} (hD : 2 ≤ D) {S : St} {p1 : Int32} {p2 : Int32} {res : Int32 × St} (h : fM_last F G S p1 p2 = some res) : Ek X (D) m280 0 [(0, .ref 78), (1, .int p1), (2, .int p2)] [] S (some (.int res.1)) res.2 := by
  obtain ⟨D, rfl⟩ : ∃ E, D = E + 1 := ⟨D - 1, by omega⟩
  unfold fM_last at h
  refine x_aload_n d_280_0 rfl 0 rfl ?_
  refine x_iload_n d_280_1 rfl 1 rfl ?_
  obtain ⟨v2, q1, h⟩ := bd_inv h
  refine y_V1i (v := v2) (S1 := S) d_280_2 ml_11_461 kd_78 rfl (Nat.le_of_ble_eq_true rfl) (Nat.le_of_ble_eq_true rfl) (c_249 (by omega) q1) ?_
  refine x_if_eq (tgt := 43) d_280_5 rfl (fun c3 => ?_) (fun c3 => ?_)
  · replace h := ite_t c3 h
    refine x_iconst d_280_43 ic_m1 ?_
    obtain rfl := Option.some.inj h
    exact x_ret (r := some (.int (-1 : Int32))) d_280_44 ⟨_, rfl, rfl⟩
  · replace h := ite_f c3 h
    refine x_iload_n d_280_8 rfl 2 rfl ?_
    refine x_iconst d_280_9 ic_1 ?_
    refine x_bipush d_280_10 bp_12 ?_
    obtain ⟨v5, q4, h⟩ := bd_inv h
    refine y_S3i (v := v5) (S1 := S) d_280_12 ml_11_429 (Nat.le_of_ble_eq_true rfl) (Nat.le_of_ble_eq_true rfl) (c_250 (by omega) q4) ?_
    refine x_if_eq (tgt := 43) d_280_15 rfl (fun c6 => ?_) (fun c6 => ?_)
    · replace h := ite_t c6 h
      refine x_iconst d_280_43 ic_m1 ?_
      obtain rfl := Option.some.inj h
      exact x_ret (r := some (.int (-1 : Int32))) d_280_44 ⟨_, rfl, rfl⟩
    · replace h := ite_f c6 h
      refine x_aload_n d_280_18 rfl 0 rfl ?_
      refine y_getR d_280_19 fl_11_93 rfl kd_78 rr_78_58 ?_
      refine x_bipush d_280_22 bp_20 ?_
      refine x_iload_n d_280_24 rfl 1 rfl ?_
      refine x_iadd d_280_25 ?_
      obtain ⟨g7, h⟩ := gd_inv h
      refine y_iald d_280_26 kd_100 g7 ?_
      refine x_iload_n d_280_27 rfl 2 rfl ?_
      refine x_icmp_eq (tgt := 43) d_280_28 rfl (fun c8 => ?_) (fun c8 => ?_)
      · replace h := ite_t c8 h
        refine x_iconst d_280_43 ic_m1 ?_
        obtain rfl := Option.some.inj h
        exact x_ret (r := some (.int (-1 : Int32))) d_280_44 ⟨_, rfl, rfl⟩
      · replace h := ite_f c8 h
        refine x_aload_n d_280_31 rfl 0 rfl ?_
        refine x_bipush d_280_32 bp_20 ?_
        refine x_iload_n d_280_34 rfl 1 rfl ?_
        refine x_iadd d_280_35 ?_
        refine x_iload_n d_280_36 rfl 2 rfl ?_
        obtain ⟨v10, S11, q9, h⟩ := bd2_inv h
        refine y_V2i (v := v10) (S1 := S11) d_280_37 ml_11_491 kd_78 rfl (Nat.le_of_ble_eq_true rfl) (Nat.le_of_ble_eq_true rfl) (c_279 (by omega) q9) ?_
        refine x_goto (tgt := 44) d_280_40 rfl ?_
        obtain rfl := Option.some.inj h
        exact x_ret (r := some (.int v10)) d_280_44 ⟨_, rfl, rfl⟩
/-! NinetyPlayersModel.pedal -/
def fM_pedal (F G : Nat) (S : St) (p1 : Int32) : Option (Int32 × St) :=
  bd (fM_isBeat F G S p1) fun v2 => if v2 = 0 then some ((-1 : Int32), S) else bd (fM_act F G S ) fun S5 => gd (inB (40 : Int32) 41) (gd (inB (40 : Int32) 41) (lt (sI S5 100 (40 : Int32).toNatClampNeg ((S5.1 100 (40 : Int32).toNatClampNeg) ^^^ ((1 : Int32) <<< (p1 &&& 31)))) fun S8 => gd (inB (40 : Int32) 41) (some (S8.1 100 (40 : Int32).toNatClampNeg, S8))))
set_option maxRecDepth 100000 in
set_option maxHeartbeats 4000000 in
theorem c_281 {X : Nat × (Nat → Int32)} {D F G : Nat} (hD : 2 ≤ D) {S : St} {p1 : Int32} {res : Int32 × St} (h : fM_pedal F G S p1 = some res) : Ek X (D) m281 0 [(0, .ref 78), (1, .int p1)] [] S (some (.int res.1)) res.2 := by
  obtain ⟨D, rfl⟩ : ∃ E, D = E + 1 := ⟨D - 1, by omega⟩
  unfold fM_pedal at h
  refine x_aload_n d_281_0 rfl 0 rfl ?_
  refine x_iload_n d_281_1 rfl 1 rfl ?_
  obtain ⟨v2, q1, h⟩ := bd_inv h
  refine y_V1i (v := v2) (S1 := S) d_281_2 ml_11_473 kd_78 rfl (Nat.le_of_ble_eq_true rfl) (Nat.le_of_ble_eq_true rfl) (c_263 (by omega) q1) ?_
  refine x_if_ne (tgt := 10) d_281_5 rfl (fun c3 => ?_) (fun c3 => ?_)
  · replace h := ite_f c3 h
    refine x_aload_n d_281_10 rfl 0 rfl ?_
    obtain ⟨S5, q4, h⟩ := bd_inv h
    refine y_V0v (S1 := S5) d_281_11 ml_11_485 kd_78 rfl (Nat.le_of_ble_eq_true rfl) (Nat.le_of_ble_eq_true rfl) (c_276 (by omega) q4) ?_
    refine x_aload_n d_281_14 rfl 0 rfl ?_
    refine y_getR d_281_15 fl_11_93 rfl kd_78 rr_78_58 ?_
    refine x_bipush d_281_18 bp_40 ?_
    refine x_dup2 d_281_20 rfl rfl ?_
    obtain ⟨g6, h⟩ := gd_inv h
    refine y_iald d_281_21 kd_100 g6 ?_
    refine x_iconst d_281_22 ic_1 ?_
    refine x_iload_n d_281_23 rfl 1 rfl ?_
    refine x_ishl d_281_24 ?_
    refine x_ixor d_281_25 ?_
    obtain ⟨g7, h⟩ := gd_inv h
    obtain ⟨S8, e9, h⟩ := lt_inv h
    refine y_iast e9 d_281_26 kd_100 g7 ?_
    refine x_aload_n d_281_27 rfl 0 rfl ?_
    refine y_getR d_281_28 fl_11_93 rfl kd_78 rr_78_58 ?_
    refine x_bipush d_281_31 bp_40 ?_
    obtain ⟨g10, h⟩ := gd_inv h
    refine y_iald d_281_33 kd_100 g10 ?_
    obtain rfl := Option.some.inj h
    exact x_ret (r := some (.int (S8.1 100 (40 : Int32).toNatClampNeg))) d_281_34 ⟨_, rfl, rfl⟩
  · replace h := ite_t c3 h
    refine x_iconst d_281_8 ic_m1 ?_
    obtain rfl := Option.some.inj h
    exact x_ret (r := some (.int (-1 : Int32))) d_281_9 ⟨_, rfl, rfl⟩
/-! NinetyPlayersModel.exchange -/
def b_283_2 (F G : Nat) (z1 : Int32) (rec : Int32 → St → Option (St)) (w2 : Int32) (S : St) : Option (St) :=
  if (41 : Int32) ≤ w2 then some S else gd (inB (z1 + w2) 1640) (lt (S.1 104 (z1 + w2).toNatClampNeg) fun v3 => gd (inB w2 41) (gd (inB (z1 + w2) 1640) (lt (sI S 104 (z1 + w2).toNatClampNeg (S.1 100 w2.toNatClampNeg)) fun S7 => gd (inB w2 41) (lt (sI S7 100 w2.toNatClampNeg v3) fun S10 => lt (w2 + 1) fun v12 => rec v12 S10))))
def fM_exchange (F G : Nat) (S : St) (p1 : Int32) : Option (St) :=
  fx2 (b_283_2 F G p1) F (0 : Int32) S
set_option maxRecDepth 100000 in
set_option maxHeartbeats 4000000 in
theorem T_283_2 {X : Nat × (Nat → Int32)} {D F G : Nat} (hD : 0 ≤ D) {z1 : Int32} : ∀ (f : Nat) (w2 : Int32) (S : St) (res : St), fx2 (b_283_2 F G z1 ) f w2 S = some res → Ek X (D) m283 2 [(0, .ref 78), (1, .int z1), (2, .int w2)] [] S none res := by
  refine fx2_ind ?_
  intro rec ih w2 S res h
  unfold b_283_2 at h
  refine x_iload_n d_283_2 rfl 2 rfl ?_
  refine x_bipush d_283_3 bp_41 ?_
  refine x_icmp_ge (tgt := 44) d_283_5 rfl (fun c1 => ?_) (fun c1 => ?_)
  · replace h := ite_t c1 h
    obtain rfl := Option.some.inj h
    exact x_ret (r := none) d_283_44 rfl
  · replace h := ite_f c1 h
    refine x_aload_n d_283_8 rfl 0 rfl ?_
    refine y_getR d_283_9 fl_11_105 rfl kd_78 rr_78_62 ?_
    refine x_iload_n d_283_12 rfl 1 rfl ?_
    refine x_iload_n d_283_13 rfl 2 rfl ?_
    refine x_iadd d_283_14 ?_
    obtain ⟨g2, h⟩ := gd_inv h
    refine y_iald d_283_15 kd_104 g2 ?_
    obtain ⟨v3, e4, h⟩ := lt_inv h
    refine y_istore_n (L1 := [(0, .ref 78), (1, .int z1), (2, .int w2), (3, .int v3)]) e4 d_283_16 rfl (Nat.le_of_ble_eq_true rfl) rfl rfl ?_
    refine x_aload_n d_283_17 rfl 0 rfl ?_
    refine y_getR d_283_18 fl_11_105 rfl kd_78 rr_78_62 ?_
    refine x_iload_n d_283_21 rfl 1 rfl ?_
    refine x_iload_n d_283_22 rfl 2 rfl ?_
    refine x_iadd d_283_23 ?_
    refine x_aload_n d_283_24 rfl 0 rfl ?_
    refine y_getR d_283_25 fl_11_93 rfl kd_78 rr_78_58 ?_
    refine x_iload_n d_283_28 rfl 2 rfl ?_
    obtain ⟨g5, h⟩ := gd_inv h
    refine y_iald d_283_29 kd_100 g5 ?_
    obtain ⟨g6, h⟩ := gd_inv h
    obtain ⟨S7, e8, h⟩ := lt_inv h
    refine y_iast e8 d_283_30 kd_104 g6 ?_
    refine x_aload_n d_283_31 rfl 0 rfl ?_
    refine y_getR d_283_32 fl_11_93 rfl kd_78 rr_78_58 ?_
    refine x_iload_n d_283_35 rfl 2 rfl ?_
    refine x_iload_n d_283_36 rfl 3 rfl ?_
    obtain ⟨g9, h⟩ := gd_inv h
    obtain ⟨S10, e11, h⟩ := lt_inv h
    refine y_iast e11 d_283_37 kd_100 g9 ?_
    obtain ⟨v12, e13, h⟩ := lt_inv h
    refine y_iinc (L1 := [(0, .ref 78), (1, .int z1), (2, .int v12), (3, .int v3)]) e13 ic_1 d_283_38 2 rfl (Nat.le_of_ble_eq_true rfl) rfl rfl ?_
    refine x_goto (tgt := 2) d_283_41 rfl ?_
    refine y_pick (L1 := [(0, .ref 78), (1, .int z1), (2, .int v12)]) [0, 1, 2] rfl ?_
    exact ih v12 S10 _ h
set_option maxRecDepth 100000 in
set_option maxHeartbeats 4000000 in
theorem c_283 {X : Nat × (Nat → Int32)} {D F G : Nat} (hD : 0 ≤ D) {S : St} {p1 : Int32} {res : St} (h : fM_exchange F G S p1 = some res) : Ek X (D) m283 0 [(0, .ref 78), (1, .int p1)] [] S none res := by
  unfold fM_exchange at h
  refine x_iconst d_283_0 ic_0 ?_
  refine x_istore_n (L1 := [(0, .ref 78), (1, .int p1), (2, .int (0 : Int32))]) d_283_1 rfl (Nat.le_of_ble_eq_true rfl) rfl rfl ?_
  refine T_283_2 (by omega)   F (0 : Int32) S _ h
/-! NinetyPlayersModel.undo -/
def fM_undo (F G : Nat) (S : St) : Option (Int32 × St) :=
  if (S.1 78 63) = 0 then some ((0 : Int32), S) else lt (sI S 78 63 ((S.1 78 63) - (1 : Int32))) fun S2 => lt (sI S2 78 64 ((S2.1 78 64) + (1 : Int32))) fun S4 => bd (fM_exchange F G S4 ((41 : Int32) * (S4.1 78 63))) fun S7 => some ((1 : Int32), S7)
set_option maxRecDepth 100000 in
set_option maxHeartbeats 4000000 in
theorem c_282 {X : Nat × (Nat → Int32)} {D F G : Nat} (hD : 1 ≤ D) {S : St} {res : Int32 × St} (h : fM_undo F G S  = some res) : Ek X (D) m282 0 [(0, .ref 78)] [] S (some (.int res.1)) res.2 := by
  obtain ⟨D, rfl⟩ : ∃ E, D = E + 1 := ⟨D - 1, by omega⟩
  unfold fM_undo at h
  refine x_aload_n d_282_0 rfl 0 rfl ?_
  refine y_getI d_282_1 fl_11_417 rfl kd_78 ?_
  refine x_if_ne (tgt := 9) d_282_4 rfl (fun c1 => ?_) (fun c1 => ?_)
  · replace h := ite_f c1 h
    refine x_aload_n d_282_9 rfl 0 rfl ?_
    refine x_dup d_282_10 rfl ?_
    refine y_getI d_282_11 fl_11_417 rfl kd_78 ?_
    refine x_iconst d_282_14 ic_1 ?_
    refine x_isub d_282_15 ?_
    obtain ⟨S2, e3, h⟩ := lt_inv h
    refine y_putI e3 d_282_16 fl_11_417 rfl rfl kd_78 rfl rfl ?_
    refine x_aload_n d_282_19 rfl 0 rfl ?_
    refine x_dup d_282_20 rfl ?_
    refine y_getI d_282_21 fl_11_420 rfl kd_78 ?_
    refine x_iconst d_282_24 ic_1 ?_
    refine x_iadd d_282_25 ?_
    obtain ⟨S4, e5, h⟩ := lt_inv h
    refine y_putI e5 d_282_26 fl_11_420 rfl rfl kd_78 rfl rfl ?_
    refine x_aload_n d_282_29 rfl 0 rfl ?_
    refine x_bipush d_282_30 bp_41 ?_
    refine x_aload_n d_282_32 rfl 0 rfl ?_
    refine y_getI d_282_33 fl_11_417 rfl kd_78 ?_
    refine x_imul d_282_36 ?_
    obtain ⟨S7, q6, h⟩ := bd_inv h
    refine y_V1v (S1 := S7) d_282_37 ml_11_494 kd_78 rfl (Nat.le_of_ble_eq_true rfl) (Nat.le_of_ble_eq_true rfl) (c_283 (by omega) q6) ?_
    refine x_iconst d_282_40 ic_1 ?_
    obtain rfl := Option.some.inj h
    exact x_ret (r := some (.int (1 : Int32))) d_282_41 ⟨_, rfl, rfl⟩
  · replace h := ite_t c1 h
    refine x_iconst d_282_7 ic_0 ?_
    obtain rfl := Option.some.inj h
    exact x_ret (r := some (.int (0 : Int32))) d_282_8 ⟨_, rfl, rfl⟩
/-! NinetyPlayersModel.redo -/
def fM_redo (F G : Nat) (S : St) : Option (Int32 × St) :=
  if (S.1 78 64) = 0 then some ((0 : Int32), S) else bd (fM_exchange F G S ((41 : Int32) * (S.1 78 63))) fun S3 => lt (sI S3 78 63 ((S3.1 78 63) + (1 : Int32))) fun S4 => lt (sI S4 78 64 ((S4.1 78 64) - (1 : Int32))) fun S6 => some ((1 : Int32), S6)
set_option maxRecDepth 100000 in
set_option maxHeartbeats 4000000 in
theorem c_284 {X : Nat × (Nat → Int32)} {D F G : Nat} (hD : 1 ≤ D) {S : St} {res : Int32 × St} (h : fM_redo F G S  = some res) : Ek X (D) m284 0 [(0, .ref 78)] [] S (some (.int res.1)) res.2 := by
  obtain ⟨D, rfl⟩ : ∃ E, D = E + 1 := ⟨D - 1, by omega⟩
  unfold fM_redo at h
  refine x_aload_n d_284_0 rfl 0 rfl ?_
  refine y_getI d_284_1 fl_11_420 rfl kd_78 ?_
  refine x_if_ne (tgt := 9) d_284_4 rfl (fun c1 => ?_) (fun c1 => ?_)
  · replace h := ite_f c1 h
    refine x_aload_n d_284_9 rfl 0 rfl ?_
    refine x_bipush d_284_10 bp_41 ?_
    refine x_aload_n d_284_12 rfl 0 rfl ?_
    refine y_getI d_284_13 fl_11_417 rfl kd_78 ?_
    refine x_imul d_284_16 ?_
    obtain ⟨S3, q2, h⟩ := bd_inv h
    refine y_V1v (S1 := S3) d_284_17 ml_11_494 kd_78 rfl (Nat.le_of_ble_eq_true rfl) (Nat.le_of_ble_eq_true rfl) (c_283 (by omega) q2) ?_
    refine x_aload_n d_284_20 rfl 0 rfl ?_
    refine x_dup d_284_21 rfl ?_
    refine y_getI d_284_22 fl_11_417 rfl kd_78 ?_
    refine x_iconst d_284_25 ic_1 ?_
    refine x_iadd d_284_26 ?_
    obtain ⟨S4, e5, h⟩ := lt_inv h
    refine y_putI e5 d_284_27 fl_11_417 rfl rfl kd_78 rfl rfl ?_
    refine x_aload_n d_284_30 rfl 0 rfl ?_
    refine x_dup d_284_31 rfl ?_
    refine y_getI d_284_32 fl_11_420 rfl kd_78 ?_
    refine x_iconst d_284_35 ic_1 ?_
    refine x_isub d_284_36 ?_
    obtain ⟨S6, e7, h⟩ := lt_inv h
    refine y_putI e7 d_284_37 fl_11_420 rfl rfl kd_78 rfl rfl ?_
    refine x_iconst d_284_40 ic_1 ?_
    obtain rfl := Option.some.inj h
    exact x_ret (r := some (.int (1 : Int32))) d_284_41 ⟨_, rfl, rfl⟩
  · replace h := ite_t c1 h
    refine x_iconst d_284_7 ic_0 ?_
    obtain rfl := Option.some.inj h
    exact x_ret (r := some (.int (0 : Int32))) d_284_8 ⟨_, rfl, rfl⟩
/-! NinetyPlayersModel.layMissed -/
def b_286_2 (F G : Nat) (rec : Int32 → St → Option (St)) (w1 : Int32) (S : St) : Option (St) :=
  if (S.1 78 48) ≤ w1 then some S else bd2 (fM_missedOf F G S w1) fun v3 S4 => gd (inB w1 10) (lt (sI S4 107 w1.toNatClampNeg v3) fun S6 => lt (w1 + 1) fun v8 => rec v8 S6)
def fM_layMissed (F G : Nat) (S : St) : Option (St) :=
  fx2 (b_286_2 F G ) F (0 : Int32) S
set_option maxRecDepth 100000 in
set_option maxHeartbeats 4000000 in
theorem T_286_2 {X : Nat × (Nat → Int32)} {D F G : Nat} (hD : 3 ≤ D + 1) : ∀ (f : Nat) (w1 : Int32) (S : St) (res : St), fx2 (b_286_2 F G ) f w1 S = some res → Ek X (D + 1) m286 2 [(0, .ref 78), (1, .int w1)] [] S none res := by
  refine fx2_ind ?_
  intro rec ih w1 S res h
  unfold b_286_2 at h
  refine x_iload_n d_286_2 rfl 1 rfl ?_
  refine x_aload_n d_286_3 rfl 0 rfl ?_
  refine y_getI d_286_4 fl_11_322 rfl kd_78 ?_
  refine x_icmp_ge (tgt := 27) d_286_7 rfl (fun c1 => ?_) (fun c1 => ?_)
  · replace h := ite_t c1 h
    obtain rfl := Option.some.inj h
    exact x_ret (r := none) d_286_27 rfl
  · replace h := ite_f c1 h
    refine x_aload_n d_286_10 rfl 0 rfl ?_
    refine y_getR d_286_11 fl_11_114 rfl kd_78 rr_78_67 ?_
    refine x_iload_n d_286_14 rfl 1 rfl ?_
    refine x_aload_n d_286_15 rfl 0 rfl ?_
    refine x_iload_n d_286_16 rfl 1 rfl ?_
    obtain ⟨v3, S4, q2, h⟩ := bd2_inv h
    refine y_V1i (v := v3) (S1 := S4) d_286_17 ml_11_467 kd_78 rfl (Nat.le_of_ble_eq_true rfl) (Nat.le_of_ble_eq_true rfl) (c_253 (by omega) q2) ?_
    obtain ⟨g5, h⟩ := gd_inv h
    obtain ⟨S6, e7, h⟩ := lt_inv h
    refine y_iast e7 d_286_20 kd_107 g5 ?_
    obtain ⟨v8, e9, h⟩ := lt_inv h
    refine y_iinc (L1 := [(0, .ref 78), (1, .int v8)]) e9 ic_1 d_286_21 1 rfl (Nat.le_of_ble_eq_true rfl) rfl rfl ?_
    refine x_goto (tgt := 2) d_286_24 rfl ?_
    exact ih v8 S6 _ h
set_option maxRecDepth 100000 in
set_option maxHeartbeats 4000000 in
theorem c_286 {X : Nat × (Nat → Int32)} {D F G : Nat} (hD : 3 ≤ D) {S : St} {res : St} (h : fM_layMissed F G S  = some res) : Ek X (D) m286 0 [(0, .ref 78)] [] S none res := by
  obtain ⟨D, rfl⟩ : ∃ E, D = E + 1 := ⟨D - 1, by omega⟩
  unfold fM_layMissed at h
  refine x_iconst d_286_0 ic_0 ?_
  refine x_istore_n (L1 := [(0, .ref 78), (1, .int (0 : Int32))]) d_286_1 rfl (Nat.le_of_ble_eq_true rfl) rfl rfl ?_
  refine T_286_2 (by omega)   F (0 : Int32) S _ h
/-! NinetyPlayersModel.missedBy -/
def b_287_4 (F G : Nat) (S : St) (z1 : Int32) (rec : Int32 → Int32 → Option (Int32)) (w2 : Int32) (w3 : Int32) : Option (Int32) :=
  if (S.1 78 48) ≤ w3 then some w2 else if ((z1 >>> (w3 &&& 31)) &&& (1 : Int32)) = (1 : Int32) then gd (inB w3 10) (lt (w2 + (S.1 107 w3.toNatClampNeg)) fun v8 => lt (w3 + 1) fun v10 => rec v8 v10) else lt (w2 + (0 : Int32)) fun v3 => lt (w3 + 1) fun v5 => rec v3 v5
def fM_missedBy (F G : Nat) (S : St) (p1 : Int32) : Option (Int32) :=
  fx2 (b_287_4 F G S p1) F (0 : Int32) (0 : Int32)
set_option maxRecDepth 100000 in
set_option maxHeartbeats 4000000 in
theorem T_287_4 {X : Nat × (Nat → Int32)} {D F G : Nat} (hD : 0 ≤ D) {S : St} {z1 : Int32} : ∀ (f : Nat) (w2 : Int32) (w3 : Int32) (res : Int32), fx2 (b_287_4 F G S z1 ) f w2 w3 = some res → Ek X (D) m287 4 [(0, .ref 78), (1, .int z1), (2, .int w2), (3, .int w3)] [] S (some (.int res)) S := by
  refine fx2_ind ?_
  intro rec ih w2 w3 res h
  unfold b_287_4 at h
  refine x_iload_n d_287_4 rfl 3 rfl ?_
  refine x_aload_n d_287_5 rfl 0 rfl ?_
  refine y_getI d_287_6 fl_11_322 rfl kd_78 ?_
  refine x_icmp_ge (tgt := 40) d_287_9 rfl (fun c1 => ?_) (fun c1 => ?_)
  · replace h := ite_t c1 h
    refine x_iload_n d_287_40 rfl 2 rfl ?_
    obtain rfl := Option.some.inj h
    exact x_ret (r := some (.int w2)) d_287_41 ⟨_, rfl, rfl⟩
  · replace h := ite_f c1 h
    refine x_iload_n d_287_12 rfl 2 rfl ?_
    refine x_iload_n d_287_13 rfl 1 rfl ?_
    refine x_iload_n d_287_14 rfl 3 rfl ?_
    refine x_ishr d_287_15 ?_
    refine x_iconst d_287_16 ic_1 ?_
    refine x_iand d_287_17 ?_
    refine x_iconst d_287_18 ic_1 ?_
    refine x_icmp_ne (tgt := 31) d_287_19 rfl (fun c2 => ?_) (fun c2 => ?_)
    · replace h := ite_f c2 h
      refine x_iconst d_287_31 ic_0 ?_
      refine x_iadd d_287_32 ?_
      obtain ⟨v3, e4, h⟩ := lt_inv h
      refine y_istore_n (L1 := [(0, .ref 78), (1, .int z1), (2, .int v3), (3, .int w3)]) e4 d_287_33 rfl (Nat.le_of_ble_eq_true rfl) rfl rfl ?_
      obtain ⟨v5, e6, h⟩ := lt_inv h
      refine y_iinc (L1 := [(0, .ref 78), (1, .int z1), (2, .int v3), (3, .int v5)]) e6 ic_1 d_287_34 3 rfl (Nat.le_of_ble_eq_true rfl) rfl rfl ?_
      refine x_goto (tgt := 4) d_287_37 rfl ?_
      exact ih v3 v5 _ h
    · replace h := ite_t c2 h
      refine x_aload_n d_287_22 rfl 0 rfl ?_
      refine y_getR d_287_23 fl_11_114 rfl kd_78 rr_78_67 ?_
      refine x_iload_n d_287_26 rfl 3 rfl ?_
      obtain ⟨g7, h⟩ := gd_inv h
      refine y_iald d_287_27 kd_107 g7 ?_
      refine x_goto (tgt := 32) d_287_28 rfl ?_
      refine x_iadd d_287_32 ?_
      obtain ⟨v8, e9, h⟩ := lt_inv h
      refine y_istore_n (L1 := [(0, .ref 78), (1, .int z1), (2, .int v8), (3, .int w3)]) e9 d_287_33 rfl (Nat.le_of_ble_eq_true rfl) rfl rfl ?_
      obtain ⟨v10, e11, h⟩ := lt_inv h
      refine y_iinc (L1 := [(0, .ref 78), (1, .int z1), (2, .int v8), (3, .int v10)]) e11 ic_1 d_287_34 3 rfl (Nat.le_of_ble_eq_true rfl) rfl rfl ?_
      refine x_goto (tgt := 4) d_287_37 rfl ?_
      exact ih v8 v10 _ h
set_option maxRecDepth 100000 in
set_option maxHeartbeats 4000000 in
theorem c_287 {X : Nat × (Nat → Int32)} {D F G : Nat} (hD : 0 ≤ D) {S : St} {p1 : Int32} {res : Int32} (h : fM_missedBy F G S p1 = some res) : Ek X (D) m287 0 [(0, .ref 78), (1, .int p1)] [] S (some (.int res)) S := by
  unfold fM_missedBy at h
  refine x_iconst d_287_0 ic_0 ?_
  refine x_istore_n (L1 := [(0, .ref 78), (1, .int p1), (2, .int (0 : Int32))]) d_287_1 rfl (Nat.le_of_ble_eq_true rfl) rfl rfl ?_
  refine x_iconst d_287_2 ic_0 ?_
  refine x_istore_n (L1 := [(0, .ref 78), (1, .int p1), (2, .int (0 : Int32)), (3, .int (0 : Int32))]) d_287_3 rfl (Nat.le_of_ble_eq_true rfl) rfl rfl ?_
  refine T_287_4 (by omega)   F (0 : Int32) (0 : Int32) _ h
