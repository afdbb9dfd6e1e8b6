/-! the class's bars and settled leaps -/
/-- the keyboard for a search: fingers and span given -/
def AK (C T : St) (nn bs fg sp : Nat) : Prop := KB T nn bs ∧ T.1 57 2 = nI sp ∧ T.1 57 3 = nI fg ∧ T.1 57 4 = C.1 78 51 ∧ (∀ i, i < nn → T.1 58 i = kyC C i ∧ iv (kyC C i) 0 87) ∧ (∀ b, b < bs → T.1 61 b = hdl C nn b) ∧ ∀ j, j < nn → T.1 62 j = misF C nn j
theorem AK.fr {C T T' : St} {nn bs fg sp : Nat} (k : AK C T nn bs fg sp) (r : ∀ h, 57 ≤ h → h ≤ 62 → T'.1 h = T.1 h) : AK C T' nn bs fg sp := by
  have r57 := r 57 (by omega) (by omega)
  have r58 := r 58 (by omega) (by omega)
  have r61 := r 61 (by omega) (by omega)
  have r62 := r 62 (by omega) (by omega)
  unfold AK KB at k ⊢
  rw [r57, r58, r61, r62]
  exact k
def tgF (C : St) (nn bs n : Nat) : Int32 := orI (fun b => if bt (hdl C nn b) n = true then hdl C nn b else 0) bs
theorem bt_orI {f : Nat → Int32} {i : Nat} : ∀ n, bt (orI f n) i = true ↔ ∃ b, b < n ∧ bt (f b) i = true
  | 0 => by rw [orI, bt_0]; exact ⟨fun z => absurd z (by decide), fun ⟨b, hb, _⟩ => by omega⟩
  | n + 1 => by
    rw [orI, bt_or, Bool.or_eq_true, bt_orI n]
    refine ⟨fun z => ?_, fun ⟨b, b1, b2⟩ => ?_⟩
    · rcases z with ⟨b, b1, b2⟩ | z
      · exact ⟨b, by omega, b2⟩
      · exact ⟨n, by omega, z⟩
    · by_cases e : b = n
      · rw [e] at b2; exact Or.inr b2
      · exact Or.inl ⟨b, by omega, b2⟩
theorem bt_tg {C : St} {nn bs n j : Nat} : bt (tgF C nn bs n) j = true ↔ tgP (hdl C nn) bs n j := by
  unfold tgF tgP
  rw [bt_orI]
  refine ⟨fun ⟨b, b1, b2⟩ => ?_, fun ⟨b, b1, b2, b3⟩ => ⟨b, b1, by rw [if_pos b2]; exact b3⟩⟩
  by_cases c : bt (hdl C nn b) n = true
  · rw [if_pos c] at b2; exact ⟨b, b1, c, b2⟩
  · rw [if_neg c, bt_0] at b2; exact absurd b2 (by decide)
def dfK (C : St) (n o : Nat) : Int32 := kyC C o - kyC C n
def bS (C : St) (nn bs sp n o : Nat) : Bool := (!decide (o = n) && bt (tgF C nn bs n) o) && (decide (dfK C n o = 0) || !decide (absI (dfK C n o) ≤ nI sp))
def bR (C : St) (nn bs n o : Nat) : Bool := (!decide (o = n) && bt (tgF C nn bs n) o) && !decide (0 < dfK C n o)
def bL (C : St) (nn bs n o : Nat) : Bool := (!decide (o = n) && bt (tgF C nn bs n) o) && !decide (dfK C n o < 0)
def stB (C : St) (nn n : Nat) : Nat → Bool
  | 0 => false
  | b + 1 => decide ((hdl C nn b ||| hdl C nn (b + 1)) >>> (nI n &&& 31) = 1)
section BA
variable {F G : Nat} {C T : St} {nn bs fg sp n : Nat}
theorem AK.at (k : AK C T nn bs fg sp) {b : Nat} (hb : b < bs) : fK_timelyAt F G T (nI b) = some (hdl C nn b) := by
  rw [K_timelyAt k.1 hb, k.2.2.2.2.2.1 b hb]
theorem A_bars (hF : 100000 ≤ F) (k : AK C T nn bs fg sp) (hn : n < nn) : ∃ T', fA_findBars F G T (nI n) = some T' ∧ T'.1 63 n = mset (bS C nn bs sp n) nn ∧ T'.1 64 n = mset (bR C nn bs n) nn ∧ T'.1 65 n = mset (bL C nn bs n) nn ∧ ∀ h k, ¬ ((h = 63 ∨ h = 64 ∨ h = 65) ∧ k = n) → T'.1 h k = T.1 h k := by
  have n10 := k.1.1
  have bs12 := k.1.2.1
  have gn : inB (nI n) 10 = true := inB_nI (by omega) (by decide)
  unfold fA_findBars
  have first : ∀ kk : Int32 → Option St, fx2 (b_A_findBars_4 F G T (nI n) kk) F 0 0 = kk (tgF C nn bs n) := fun kk =>
    for_acc (N := bs) (k := kk) (by omega) (orI (fun b => if bt (hdl C nn b) n = true then hdl C nn b else 0)) (fun b a => a ||| (if bt (hdl C nn b) n = true then hdl C nn b else 0)) (fun i _ => rfl) (fun rec a => by unfold b_A_findBars_4; rw [k.1.2.2.1, if_pos (nI_le (Nat.le_refl bs) (by omega))]) (fun rec a b hb => by
      unfold b_A_findBars_4
      rw [k.1.2.2.1, if_neg (nI_ge hb (by omega)), k.at hb, bd_some]
      simp only [lt_eq, nI_1]
      cases e : bt (hdl C nn b) n
      · rw [if_pos ((bit_0 _ (by omega)).mpr e), if_neg (show ¬ false = true by decide)]
      · rw [if_neg (bit_n0 (by omega) e), if_pos rfl]) (by omega)
  suffices q : ∃ T', gd (inB (nI n) 10) (lt (sI T 63 (nI n).toNatClampNeg (0 : Int32)) fun S15 => gd (inB (nI n) 10) (lt (sI S15 64 (nI n).toNatClampNeg (0 : Int32)) fun S18 => gd (inB (nI n) 10) (lt (sI S18 65 (nI n).toNatClampNeg (0 : Int32)) fun S21 => fx2 (b_A_findBars_72 F G (nI n) (tgF C nn bs n)) F (0 : Int32) S21))) = some T' ∧ T'.1 63 n = mset (bS C nn bs sp n) nn ∧ T'.1 64 n = mset (bR C nn bs n) nn ∧ T'.1 65 n = mset (bL C nn bs n) nn ∧ ∀ h k, ¬ ((h = 63 ∨ h = 64 ∨ h = 65) ∧ k = n) → T'.1 h k = T.1 h k by
    obtain ⟨T', t⟩ := q
    exact ⟨T', (first _).trans t.1, t.2⟩
  rw [gd_t gn, lt_eq, gd_t gn, lt_eq, gd_t gn, lt_eq, nI_clamp (n := n) (by omega)]
  refine cp2 (bod := b_A_findBars_72 F G (nI n) (tgF C nn bs n)) (k := fun S => some S) (N := nn) (fun o W => W.1 63 n = mset (bS C nn bs sp n) o ∧ W.1 64 n = mset (bR C nn bs n) o ∧ W.1 65 n = mset (bL C nn bs n) o ∧ ∀ h k, ¬ ((h = 63 ∨ h = 64 ∨ h = 65) ∧ k = n) → W.1 h k = T.1 h k) (fun rec W hP => ?_) (fun rec o W ho hP => ?_) nn 0 F _ rfl (by omega) (by omega) ⟨?_, ?_, ?_, fun h k q => ?_⟩
  · unfold b_A_findBars_72
    rw [hP.2.2.2 57 1 (by omega), k.1.2.2.2.1, if_pos (nI_le (Nat.le_refl nn) (by omega))]
  · obtain ⟨p1, p2, p3, p4⟩ := hP
    have go : inB (nI o) 10 = true := inB_nI (by omega) (by decide)
    have skip : (!decide (o = n) && bt (tgF C nn bs n) o) = false → W.1 63 n = mset (bS C nn bs sp n) (o + 1) ∧ W.1 64 n = mset (bR C nn bs n) (o + 1) ∧ W.1 65 n = mset (bL C nn bs n) (o + 1) ∧ ∀ h k, ¬ ((h = 63 ∨ h = 64 ∨ h = 65) ∧ k = n) → W.1 h k = T.1 h k := fun z => by
      refine ⟨?_, ?_, ?_, p4⟩
      · rw [mset, p1]; unfold bS; rw [z, Bool.false_and, if_neg (show ¬ false = true by decide), Int32.or_zero]
      · rw [mset, p2]; unfold bR; rw [z, Bool.false_and, if_neg (show ¬ false = true by decide), Int32.or_zero]
      · rw [mset, p3]; unfold bL; rw [z, Bool.false_and, if_neg (show ¬ false = true by decide), Int32.or_zero]
    unfold b_A_findBars_72
    rw [p4 57 1 (by omega), k.1.2.2.2.1, if_neg (nI_ge ho (by omega)), lt_eq, nI_1]
    by_cases c0 : o = n
    · rw [if_pos (show nI o = nI n by rw [c0])]
      exact ⟨W, rfl, skip (by rw [decide_eq_true c0]; rfl)⟩
    rw [if_neg (fun z => c0 ((nI_eq (by omega) (by omega)).mp z))]
    cases ct : bt (tgF C nn bs n) o
    · rw [if_pos ((bit_0 _ (by omega)).mpr ct)]
      exact ⟨W, rfl, skip (by rw [ct, Bool.and_false])⟩
    rw [if_neg (bit_n0 (by omega) ct), gd_t go, gd_t gn, nI_clamp (n := o) (by omega), nI_clamp (n := n) (by omega), p4 58 o (by omega), p4 58 n (by omega), (k.2.2.2.2.1 o ho).1, (k.2.2.2.2.1 n hn).1, lt_eq, gd_t gn, p4 57 2 (by omega), k.2.1, abs_z]
    show ∃ S', (if dfK C n o = 0 then j_A_findBars_144 F G (nI n) (tgF C nn bs n) rec W (nI o) (dfK C n o) (nI n) (W.1 63 n) else if absI (dfK C n o) ≤ nI sp then j_A_findBars_151 F G (nI n) (tgF C nn bs n) rec W (nI o) (dfK C n o) (nI n) (W.1 63 n) 0 else j_A_findBars_144 F G (nI n) (tgF C nn bs n) rec W (nI o) (dfK C n o) (nI n) (W.1 63 n)) = _ ∧ _
    have on : (!decide (o = n) && bt (tgF C nn bs n) o) = true := by rw [decide_eq_false c0, ct]; rfl
    -- the second and the third
    have third : ∀ (X : St) (x y : Int32), X.1 63 n = x → X.1 64 n = mset (bR C nn bs n) o → X.1 65 n = mset (bL C nn bs n) o → (∀ h k, ¬ ((h = 63 ∨ h = 64 ∨ h = 65) ∧ k = n) → X.1 h k = T.1 h k) → y = (if bR C nn bs n o then 1 <<< (nI o &&& 31) else 0) → ∃ S', j_A_findBars_172 F G (nI n) (tgF C nn bs n) rec X (nI o) (dfK C n o) (nI n) (X.1 64 n) y = rec (nI (o + 1)) S' ∧ S'.1 63 n = x ∧ S'.1 64 n = mset (bR C nn bs n) (o + 1) ∧ S'.1 65 n = mset (bL C nn bs n) (o + 1) ∧ ∀ h k, ¬ ((h = 63 ∨ h = 64 ∨ h = 65) ∧ k = n) → S'.1 h k = T.1 h k := fun X x y e1 e2 e3 e4 e5 => by
      unfold j_A_findBars_172
      have r65 : (sI X 64 n (X.1 64 n ||| y)).1 65 n = mset (bL C nn bs n) o := by rw [sI_row (by omega)]; exact e3
      rw [gd_t gn, lt_eq, nI_clamp (n := n) (by omega), gd_t gn, gd_t gn, gd_t gn, r65]
      simp only [lt_eq, nI_1]
      have fin : ∀ w : Int32, w = (if bL C nn bs n o then 1 <<< (nI o &&& 31) else 0) → (sI (sI X 64 n (X.1 64 n ||| y)) 65 n (mset (bL C nn bs n) o ||| w)).1 63 n = x ∧ (sI (sI X 64 n (X.1 64 n ||| y)) 65 n (mset (bL C nn bs n) o ||| w)).1 64 n = mset (bR C nn bs n) (o + 1) ∧ (sI (sI X 64 n (X.1 64 n ||| y)) 65 n (mset (bL C nn bs n) o ||| w)).1 65 n = mset (bL C nn bs n) (o + 1) ∧ ∀ h k, ¬ ((h = 63 ∨ h = 64 ∨ h = 65) ∧ k = n) → (sI (sI X 64 n (X.1 64 n ||| y)) 65 n (mset (bL C nn bs n) o ||| w)).1 h k = T.1 h k := fun w hw => by
        refine ⟨by rw [sI_row (by omega), sI_row (by omega)]; exact e1, by rw [sI_row (by omega), sI_self, e2, e5]; rfl, by rw [sI_self, hw]; rfl, fun h k q => ?_⟩
        rw [sI_at, if_neg (fun z => q ⟨Or.inr (Or.inr z.1), z.2⟩), sI_at, if_neg (fun z => q ⟨Or.inr (Or.inl z.1), z.2⟩)]; exact e4 h k q
      by_cases d : dfK C n o < 0
      · rw [if_pos d]
        exact ⟨_, rfl, fin 0 (by unfold bL; rw [on, decide_eq_true d]; rfl)⟩
      · rw [if_neg d]
        exact ⟨_, rfl, fin _ (by unfold bL; rw [on, decide_eq_false d]; rfl)⟩
    have second : ∀ y : Int32, y = (if bS C nn bs sp n o then 1 <<< (nI o &&& 31) else 0) → ∃ S', j_A_findBars_151 F G (nI n) (tgF C nn bs n) rec W (nI o) (dfK C n o) (nI n) (W.1 63 n) y = rec (nI (o + 1)) S' ∧ S'.1 63 n = mset (bS C nn bs sp n) (o + 1) ∧ S'.1 64 n = mset (bR C nn bs n) (o + 1) ∧ S'.1 65 n = mset (bL C nn bs n) (o + 1) ∧ ∀ h k, ¬ ((h = 63 ∨ h = 64 ∨ h = 65) ∧ k = n) → S'.1 h k = T.1 h k := fun y hy => by
      unfold j_A_findBars_151
      rw [gd_t gn, lt_eq, nI_clamp (n := n) (by omega), gd_t gn]
      have e1 : (sI W 63 n (W.1 63 n ||| y)).1 63 n = mset (bS C nn bs sp n) (o + 1) := by rw [sI_self, p1, hy]; rfl
      have e4 : ∀ h k, ¬ ((h = 63 ∨ h = 64 ∨ h = 65) ∧ k = n) → (sI W 63 n (W.1 63 n ||| y)).1 h k = T.1 h k := fun h k q => by
        rw [sI_at, if_neg (fun z => q ⟨Or.inl z.1, z.2⟩)]; exact p4 h k q
      by_cases d : 0 < dfK C n o
      · rw [if_pos d]
        exact third _ _ _ e1 (by rw [sI_row (by omega)]; exact p2) (by rw [sI_row (by omega)]; exact p3) e4 (by unfold bR; rw [on, decide_eq_true d]; rfl)
      · rw [if_neg d]
        exact third _ _ _ e1 (by rw [sI_row (by omega)]; exact p2) (by rw [sI_row (by omega)]; exact p3) e4 (by unfold bR; rw [on, decide_eq_false d]; rfl)
    unfold j_A_findBars_144
    by_cases d : dfK C n o = 0
    · rw [if_pos d]
      exact second _ (by unfold bS; rw [on, decide_eq_true d]; rfl)
    · rw [if_neg d]
      by_cases d2 : absI (dfK C n o) ≤ nI sp
      · rw [if_pos d2]
        exact second _ (by unfold bS; rw [on, decide_eq_false d, decide_eq_true d2]; rfl)
      · rw [if_neg d2]
        exact second _ (by unfold bS; rw [on, decide_eq_false d, decide_eq_false d2]; rfl)
  · rw [sI_row (by omega), sI_row (by omega), sI_self]; rfl
  · rw [sI_row (by omega), sI_self]; rfl
  · rw [sI_self]; rfl
  · rw [sI_at, if_neg (fun z => q ⟨Or.inr (Or.inr z.1), z.2⟩), sI_at, if_neg (fun z => q ⟨Or.inr (Or.inl z.1), z.2⟩), sI_at, if_neg (fun z => q ⟨Or.inl z.1, z.2⟩)]
theorem A_settle (hF : 100000 ≤ F) (b0 : 1 ≤ bs) (k : AK C T nn bs fg sp) (hn : n < nn) : ∃ T', fA_findSettledLeaps F G T (nI n) = some T' ∧ T'.1 66 n = mset (stB C nn n) bs ∧ ∀ h k, ¬ (h = 66 ∧ k = n) → T'.1 h k = T.1 h k := by
  have n10 := k.1.1
  have bs12 := k.1.2.1
  have gn : inB (nI n) 10 = true := inB_nI (by omega) (by decide)
  unfold fA_findSettledLeaps
  rw [gd_t gn, lt_eq, nI_clamp (n := n) (by omega)]
  refine cp2 (bod := b_A_findSettledLeaps_9 F G (nI n)) (k := fun S => some S) (N := bs) (fun b W => 1 ≤ b ∧ W.1 66 n = mset (stB C nn n) b ∧ ∀ h k, ¬ (h = 66 ∧ k = n) → W.1 h k = T.1 h k) (fun rec W hP => ?_) (fun rec b W hb hP => ?_) (bs - 1) 1 F _ rfl (by omega) (by omega) ⟨by omega, ?_, fun h k q => ?_⟩ |> fun ⟨T', t1, t2⟩ => ⟨T', t1, t2.2⟩
  · unfold b_A_findSettledLeaps_9
    rw [hP.2.2 57 0 (by omega), k.1.2.2.1, if_pos (nI_le (Nat.le_refl bs) (by omega))]
  · obtain ⟨p0, p1, p2⟩ := hP
    obtain ⟨d, rfl⟩ : ∃ d, b = d + 1 := ⟨b - 1, by omega⟩
    have kW : AK C W nn bs fg sp := k.fr fun h q1 q2 => funext fun c => p2 h c (by omega)
    unfold b_A_findSettledLeaps_9
    rw [p2 57 0 (by omega), k.1.2.2.1, if_neg (nI_ge hb (by omega)), show nI (d + 1) - 1 = nI d from nI_pred d, kW.at (by omega), bd_some, kW.at hb, bd_some, lt_eq, gd_t gn, gd_t gn, gd_t gn, nI_clamp (n := n) (by omega), p1]
    simp only [lt_eq, nI_1]
    have fin : ∀ w : Int32, w = (if stB C nn n (d + 1) then 1 <<< (nI (d + 1) &&& 31) else 0) → 1 ≤ d + 1 + 1 ∧ (sI W 66 n (mset (stB C nn n) (d + 1) ||| w)).1 66 n = mset (stB C nn n) (d + 1 + 1) ∧ ∀ h k, ¬ (h = 66 ∧ k = n) → (sI W 66 n (mset (stB C nn n) (d + 1) ||| w)).1 h k = T.1 h k := fun w hw => ⟨by omega, by rw [sI_self, hw]; rfl, fun h k q => by rw [sI_at, if_neg q]; exact p2 h k q⟩
    by_cases c : (hdl C nn d ||| hdl C nn (d + 1)) >>> (nI n &&& 31) = 1
    · rw [if_pos c]
      exact ⟨_, rfl, fin _ (by show _ = if decide ((hdl C nn d ||| hdl C nn (d + 1)) >>> (nI n &&& 31) = 1) = true then _ else _; rw [decide_eq_true c]; rfl)⟩
    · rw [if_neg c]
      exact ⟨_, rfl, fin 0 (by show _ = if decide ((hdl C nn d ||| hdl C nn (d + 1)) >>> (nI n &&& 31) = 1) = true then _ else _; rw [decide_eq_false c]; rfl)⟩
  · rw [sI_self]
    show (0 : Int32) = mset (stB C nn n) 0 ||| (if stB C nn n 0 then _ else 0)
    rw [show stB C nn n 0 = false from rfl, if_neg (by decide), Int32.or_zero]; rfl
  · rw [sI_at, if_neg q]
/-- bits shifted down -/
theorem bt_sr {x : Int32} {m i : Nat} (hm : m < 32) (hi : i < 32) : bt (x >>> (nI m &&& 31)) i = if m + i < 32 then bt x (m + i) else bt x 31 := by
  rw [nI_31 hm]
  have hs : (nI m).toBitVec.smod 32 = BitVec.ofNat 32 m := (by decide +kernel : ∀ j, j < 32 → (nI j).toBitVec.smod 32 = BitVec.ofNat 32 j) m hm
  have hj2 : (BitVec.ofNat 32 m).toNat = m := by
    rw [BitVec.toNat_ofNat]
    exact Nat.mod_eq_of_lt (by omega)
  unfold bt
  rw [Int32.toBitVec_shiftRight, hs, BitVec.sshiftRight', BitVec.getLsbD_sshiftRight, hj2, decide_eq_false (show ¬ 32 ≤ i by omega)]
  by_cases c : m + i < 32
  · rw [if_pos c, if_pos c]; rfl
  · rw [if_neg c, if_neg c, BitVec.msb_eq_getLsbD_last]; rfl
theorem bt_1 {i : Nat} (hi : i < 32) : bt 1 i = decide (i = 0) := (by decide +kernel : ∀ i, i < 32 → bt 1 i = decide (i = 0)) i hi
theorem shr_1 {x : Int32} {m : Nat} (hx : Sub x 12) (hm : m < 12) : x >>> (nI m &&& 31) = 1 ↔ bt x m = true ∧ ∀ i, m < i → i < 32 → bt x i = false := by
  constructor
  · intro e
    have at_ : ∀ i, m + i < 32 → bt x (m + i) = decide (i = 0) := fun i hi => by
      have t := congrArg (fun v => bt v i) e
      simp only [bt_sr (x := x) (m := m) (i := i) (by omega) (by omega), if_pos hi, bt_1 (i := i) (by omega)] at t
      exact t
    refine ⟨by have := at_ 0 (by omega); simpa using this, fun i h1 h2 => ?_⟩
    have := at_ (i - m) (by omega)
    rw [show m + (i - m) = i by omega, decide_eq_false (by omega)] at this
    exact this
  · intro ⟨h1, h2⟩
    apply bt_ext
    intro i hi
    rw [bt_sr (by omega) hi, bt_1 hi]
    by_cases c : m + i < 32
    · rw [if_pos c]
      by_cases z : i = 0
      · rw [decide_eq_true z, z]; exact h1
      · rw [decide_eq_false z]; exact h2 (m + i) (by omega) c
    · rw [if_neg c, decide_eq_false (by omega)]; exact hx 31 (by omega) (by omega)
/-- a leap is settled by the note -/
theorem st_iff (hn : n < nn) (n10 : nn ≤ 10) {b : Nat} : stB C nn n (b + 1) = true ↔ (tpP (hdl C nn) nn (n + 1) b ∧ ¬ tpP (hdl C nn) nn n b) := by
  have s1 : Sub (hdl C nn b ||| hdl C nn (b + 1)) nn := (hdl_sub n10).or (hdl_sub n10)
  show decide ((hdl C nn b ||| hdl C nn (b + 1)) >>> (nI n &&& 31) = 1) = true ↔ _
  rw [decide_eq_true_eq, shr_1 (s1.up (by omega)) (by omega)]
  constructor
  · intro ⟨h1, h2⟩
    refine ⟨fun i i1 i2 => ?_, fun z => ?_⟩
    · have := h2 i (by omega) (by omega)
      rw [bt_or, Bool.or_eq_false_iff] at this; exact this
    · have := z n (Nat.le_refl _) hn
      rw [bt_or, this.1, this.2] at h1; exact absurd h1 (by decide)
  · intro ⟨h1, h2⟩
    have up : ∀ i, n < i → i < 32 → bt (hdl C nn b ||| hdl C nn (b + 1)) i = false := fun i i1 i2 => by
      by_cases c : i < nn
      · rw [bt_or, (h1 i (by omega) c).1, (h1 i (by omega) c).2]; rfl
      · exact s1 i (by omega) i2
    refine ⟨?_, up⟩
    apply Classical.byContradiction
    intro z
    refine h2 fun i i1 i2 => ?_
    by_cases c : i = n
    · rw [c]
      have z : bt (hdl C nn b ||| hdl C nn (b + 1)) n = false := by simpa using z
      rw [bt_or, Bool.or_eq_false_iff] at z; exact z
    · exact h1 i (by omega) i2
end BA
