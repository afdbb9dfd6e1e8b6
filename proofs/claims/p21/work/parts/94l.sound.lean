/-! WHAT SOUNDS; forbids, could, easier -/
def sdl (hd : Nat → Int32) (pd : Int32) : Nat → Int32
  | 0 => hd 0
  | b + 1 => hd (b + 1) ||| (if bt pd (b + 1) = true then sdl hd pd b else 0)
theorem sdl_c {hd hd' : Nat → Int32} {pd : Int32} : ∀ b, (∀ c, c ≤ b → hd c = hd' c) → sdl hd pd b = sdl hd' pd b
  | 0, h => h 0 (Nat.le_refl _)
  | b + 1, h => by rw [sdl, sdl, h (b + 1) (Nat.le_refl _), sdl_c b (fun c hc => h c (by omega))]
def lsd (hd : Nat → Int32) (pd all : Int32) : Nat → Int32
  | 0 => hd 0 &&& all
  | b + 1 => if bt pd (b + 1) = true then (hd (b + 1) &&& all) ||| lsd hd pd all b else hd (b + 1) &&& all
theorem lsd_eq {hd : Nat → Int32} {pd all : Int32} : ∀ b, lsd hd pd all b = sdl hd pd b &&& all
  | 0 => rfl
  | b + 1 => by
    rw [lsd, sdl, lsd_eq b]
    by_cases c : bt pd (b + 1) = true
    · rw [if_pos c, if_pos c]
      apply bt_ext
      intro i hi
      rw [bt_or, bt_and, bt_and, bt_and, bt_or]
      cases bt (hd (b + 1)) i <;> cases bt all i <;> cases bt (sdl hd pd b) i <;> rfl
    · rw [if_neg c, if_neg c, Int32.or_zero]
def snd (C : St) (nn b : Nat) : Int32 := sdl (hdl C nn) (C.1 100 40) b &&& (giv C nn 1 ||| giv C nn 2)
section SD
variable {F G : Nat} {C S : St}
theorem K_sounding (hF : 100000 ≤ F) {T : St} {nn bs b : Nat} (k : KD C T nn bs) (hb : b < bs) : fK_soundingAt F G T (nI b) = some (snd C nn b) := by
  have bs12 := k.1.2.1
  have h0 := k.1.2.2.1
  have main : ∀ r c f w, b + 1 - c = r → c ≤ b + 1 → r < f → (c = 0 → w = 0) → (∀ d, c = d + 1 → w = sdl (T.1 61) (T.1 57 7) d) → fx2 (b_K_soundingAt_4 F G T (nI b)) f w (nI c) = some (sdl (T.1 61) (T.1 57 7) b &&& (T.1 57 5 ||| T.1 57 6)) := by
    intro r
    induction r with
    | zero =>
      intro c f w hr hc hf w0 w1
      obtain ⟨g, rfl⟩ : ∃ g, f = g + 1 := ⟨f - 1, by omega⟩
      rw [fx2_s]
      unfold b_K_soundingAt_4
      rw [if_pos ((nI_lt_i (by omega) (by omega)).mpr (by omega)), w1 b (by omega)]
    | succ r ih =>
      intro c f w hr hc hf w0 w1
      obtain ⟨g, rfl⟩ : ∃ g, f = g + 1 := ⟨f - 1, by omega⟩
      rw [fx2_s]
      have ih' := fun w' => ih (c + 1) g w' (by omega) (by omega) (by omega) (fun z => by omega)
      generalize fx2 (b_K_soundingAt_4 F G T (nI b)) g = rec at ih' ⊢
      unfold b_K_soundingAt_4 fK_hasPedal
      rw [if_neg (fun z => by have := (nI_lt_i (by omega) (by omega)).mp z; omega), h0, if_neg (nI_ge (show c < bs by omega) (by omega)), K_timelyAt k.1 (show c < bs by omega), bd_some]
      by_cases p : bt (T.1 57 7) c = true
      · rw [if_neg (show ¬ ((T.1 57 7 >>> (nI c &&& 31)) &&& 1 = 0) from fun z => by rw [(bit_0 _ (by omega)).mp z] at p; exact absurd p (by decide)), bd_some, if_neg (show ¬ (1 : Int32) = 0 by decide), lt_eq, lt_eq, nI_1]
        refine ih' _ fun d hd => ?_
        have e : d = c := by omega
        subst e
        cases d with
        | zero => rw [w0 rfl, Int32.or_zero]; rfl
        | succ d => rw [w1 d rfl, sdl, if_pos p]
      · rw [if_pos ((bit_0 _ (by omega)).mpr (by simpa using p)), bd_some, if_pos rfl, lt_eq, lt_eq, nI_1]
        refine ih' _ fun d hd => ?_
        have e : d = c := by omega
        subst e
        cases d with
        | zero => rw [Int32.or_zero]; rfl
        | succ d => rw [sdl, if_neg p]
  unfold fK_soundingAt
  have := main (b + 1) 0 F 0 rfl (by omega) (by omega) (fun _ => rfl) (fun d hd => by omega)
  refine Eq.trans this ?_
  unfold snd
  rw [k.2.2.2.2.1, k.2.2.2.2.2.1, k.2.2.2.2.2.2.1, sdl_c b (fun c hc => k.2.2.2.2.2.2.2.2 c (by omega))]
/-- the reference lays what sounds -/
theorem sound_I (hF : 100000 ≤ F) (hG : 20 ≤ G) {U : St} {nn bs : Nat} (m : MD C U nn bs) (i : Inv C U) : ∃ V, fM_laySound F G U = some V ∧ (∀ b, b < bs → V.1 103 b = snd C nn b) ∧ MD C V nn bs ∧ Inv C V := by
  obtain ⟨n1, b2, n48, b46, a, hd, fr⟩ := id m
  obtain ⟨V, f1, f2, f3, f4⟩ := cp2 (bod := b_M_laySound_14 F G (giv C nn 1 ||| giv C nn 2)) (k := fun S => some S) (N := bs) (fun c V => (∀ d, d < c → V.1 103 d = lsd (hdl C nn) (C.1 100 40) (giv C nn 1 ||| giv C nn 2) d) ∧ (∀ h, h ≠ 103 → V.1 h = U.1 h) ∧ V.2 = U.2)
    (fun rec V hP => by
      unfold b_M_laySound_14
      rw [hP.2.1 78 (by omega), b46, if_pos (nI_le (Nat.le_refl bs) (by omega))])
    (fun rec c V hc hP => by
      obtain ⟨p1, p2, p3⟩ := hP
      have g : inB (nI c) 12 = true := inB_nI (by omega) (by decide)
      have g40 : inB (40 : Int32) 41 = true := by decide
      have e40 : (40 : Int32).toNatClampNeg = 40 := by decide
      unfold b_M_laySound_14
      rw [p2 78 (by omega), b46, if_neg (nI_ge hc (by omega)), gd_t g, gd_t g, nI_clamp (by omega), lt_eq, p2 102 (by omega), m.at hc]
      have v101 : (sI V 103 c (hdl C nn c &&& (giv C nn 1 ||| giv C nn 2))).1 101 40 = C.1 100 40 := by rw [sI_row (by omega), p2 101 (by omega), a 40 (by omega)]
      have old : ∀ d, d < c → (sI V 103 c (hdl C nn c &&& (giv C nn 1 ||| giv C nn 2))).1 103 d = lsd (hdl C nn) (C.1 100 40) (giv C nn 1 ||| giv C nn 2) d := fun d hd => by rw [sI_at, if_neg (fun z => by omega)]; exact p1 d hd
      cases c with
      | zero =>
        rw [if_pos (show nI 0 ≤ 0 by decide), lt_eq, nI_1]
        refine ⟨_, rfl, fun d hd => ?_, fun h q => by rw [sI_row q]; exact p2 h q, p3⟩
        have e : d = 0 := by omega
        subst e
        rw [sI_self]; rfl
      | succ c =>
        rw [if_neg (show ¬ nI (c + 1) ≤ 0 from fun z => by have := (nI_le_i (a := c + 1) (b := 0) (by omega) (by omega)).mp z; omega), gd_t g40, e40, v101]
        by_cases p : bt (C.1 100 40) (c + 1) = true
        · rw [if_pos ((bit_1 _ (by omega)).mpr p), gd_t g, show nI (c + 1) - 1 = nI c from nI_pred c, gd_t (inB_nI (show c < 12 by omega) (by decide)), gd_t g, lt_eq, lt_eq, nI_1, nI_clamp (by omega), sI_self, old c (by omega)]
          refine ⟨_, rfl, fun d hd => ?_, fun h q => by rw [sI_row q, sI_row q]; exact p2 h q, p3⟩
          by_cases e : d = c + 1
          · subst e
            rw [sI_self, lsd, if_pos p]
          · rw [sI_at, if_neg (fun z => e z.2)]; exact old d (by omega)
        · rw [if_neg (fun z => p ((bit_1 _ (by omega)).mp z)), lt_eq, nI_1]
          refine ⟨_, rfl, fun d hd => ?_, fun h q => by rw [sI_row q]; exact p2 h q, p3⟩
          by_cases e : d = c + 1
          · subst e
            rw [sI_self, lsd, if_neg p]
          · exact old d (by omega))
    bs 0 F U rfl (by omega) (by omega) ⟨fun d hd => by omega, fun _ _ => rfl, rfl⟩
  have v1 : fM_laySound F G U = some V := by
    unfold fM_laySound
    rw [m.given hF, bd_some, m.given hF, bd_some, lt_eq]; exact f1
  obtain ⟨V', w1, w2⟩ := s_fM_laySound hF hG i
  rw [← Option.some.inj (v1.symm.trans w1)] at w2
  refine ⟨V, v1, fun b hb => by rw [f2 b hb, lsd_eq]; rfl, ⟨n1, b2, ?_, ?_, fun k hk => ?_, fun b hb => ?_, fun h k q => w2.2.2.2 h k q⟩, w2⟩
  · rw [f3 78 (by omega)]; exact n48
  · rw [f3 78 (by omega)]; exact b46
  · rw [f3 101 (by omega)]; exact a k hk
  · rw [f3 102 (by omega)]; exact hd b hb
theorem sounds_ok (hF : 100000 ≤ F) (hG : 20 ≤ G) (h : J2 S) (p : Int32) : ∃ v S1 S2, fN_sounds F G S p = some (v, S1) ∧ fM_sounds F G S1 p = some (v, S2) ∧ J2 S2 := by
  obtain ⟨nn, bs, nb⟩ := h.nb
  obtain ⟨w, a1, a2, -⟩ := beat_x (F := F) (G := G) (T := S) h.1 h.2.1 rfl p
  by_cases c1 : w = 0
  · refine ⟨-1, S, S, ?_, ?_, h⟩
    · unfold fN_sounds; rw [a1, bd_some, if_pos c1]
    · unfold fM_sounds; rw [a2, bd_some, if_pos c1]
  obtain ⟨b, rfl, hb⟩ := beat_b h nb a1 c1
  obtain ⟨T, t1, t2, t3⟩ := look_I (F := F) (G := G) hF hG h nb
  obtain ⟨U, u1, u2, u3⟩ := fill_I (F := F) (G := G) hF hG nb t3
  obtain ⟨V, v1, v2, v3, v4⟩ := sound_I (F := F) (G := G) hF hG u2 u3
  obtain ⟨w', a1', a2', -⟩ := beat_x (F := F) (G := G) (T := T) h.1 h.2.1 (t3.2.2.2 78 46 rfl) (nI b)
  rw [← Option.some.inj (a1.symm.trans a1')] at a2'
  refine ⟨snd S nn b, T, V, ?_, ?_, h.q v4⟩
  · unfold fN_sounds
    rw [a1, bd_some, if_neg c1, t1, bd_some, K_sounding hF t2 hb, bd_some]
  · unfold fM_sounds
    have := u2.2.1
    rw [a2', bd_some, if_neg c1, u1, bd_some, v1, bd_some, gd_t (inB_nI (by omega) (by decide)), nI_clamp (by omega), v2 b hb]
end SD
/-! forbids and could -/
section FB
variable {F G : Nat} {C S : St}
/-- both sets, with a note more in a hand -/
def mvL (C : St) (nn : Nat) (n : Nat) (q : Int32) : Int32 := if q = 1 then giv C nn 1 ||| 1 <<< (nI n &&& 31) else giv C nn 1
def mvR (C : St) (nn : Nat) (n : Nat) (q : Int32) : Int32 := if q = 2 then giv C nn 2 ||| 1 <<< (nI n &&& 31) else giv C nn 2
def nwk (T : St) (C : St) (nn bs n : Nat) (q : Int32) : Int32 := orI (fun b => clK T nn (mvL C nn n q) (mvR C nn n q) b &&& (clK T nn (giv C nn 1) (giv C nn 2) b ^^^ (-1))) bs
theorem K_new (hF : 100000 ≤ F) {T : St} {nn bs n : Nat} {q : Int32} (k : KD C T nn bs) : fK_newClashesWith F G T (nI n) q = some (nwk T C nn bs n q) := by
  have bs12 := k.1.2.1
  have h0 := k.1.2.2.1
  have lp : ∀ l r : Int32, fx2 (b_K_newClashesWith_49 F G T l r) F 0 0 = some (orI (fun b => clK T nn l r b &&& (clK T nn (giv C nn 1) (giv C nn 2) b ^^^ (-1))) bs) := fun l r =>
    for_acc (N := bs) (k := some) (by omega) (orI (fun b => clK T nn l r b &&& (clK T nn (giv C nn 1) (giv C nn 2) b ^^^ (-1)))) (fun b a => a ||| (clK T nn l r b &&& (clK T nn (giv C nn 1) (giv C nn 2) b ^^^ (-1)))) (fun i _ => rfl) (fun rec a => by unfold b_K_newClashesWith_49; rw [h0, if_pos (nI_le (Nat.le_refl bs) (by omega))]) (fun rec a b hb => by
      unfold b_K_newClashesWith_49
      rw [h0, if_neg (nI_ge hb (by omega)), K_clashesAt hF k.1 hb, bd_some, K_clashesAt hF k.1 hb, bd_some, lt_eq, lt_eq, nI_1, k.2.2.2.2.1, k.2.2.2.2.2.1]) (by omega)
  unfold fK_newClashesWith j_K_newClashesWith_20 nwk mvL mvR
  rw [k.2.2.2.2.1, k.2.2.2.2.2.1]
  by_cases c1 : q = 1
  · have c2 : ¬ q = 2 := by rw [c1]; decide
    rw [if_pos c1, if_neg c2, lt_eq, lp, if_pos c1, if_neg c2]
  · rw [if_neg c1]
    by_cases c2 : q = 2
    · rw [if_pos c2, lt_eq, lp, if_neg c1, if_pos c2]
    · rw [if_neg c2, lt_eq, lp, if_neg c1, if_neg c2]
theorem M_forb (hF : 100000 ≤ F) (hG : 20 ≤ G) {T : St} {nn bs n : Nat} {q : Int32} (nb : NB C nn bs) (k : KD C T nn bs) (hq : q = 1 ∨ q = 2) (i : Inv C S) : ∃ U, fM_forbidden F G S (nI n) q = some (nwk T C nn bs n q, U) ∧ Inv C U := by
  obtain ⟨U, u1, u2, u3⟩ := fill_I (F := F) (G := G) hF hG nb i
  refine ⟨U, ?_, u3⟩
  have bs12 := u2.2.1
  unfold fM_forbidden
  rw [u1, bd_some, u2.given hF, bd_some, u2.given hF, bd_some, lt_eq]
  have cb : ∀ l r b, b < bs → fM_clashBy F G U (nI b) l r (U.1 78 50) (U.1 78 49) = some (clK T nn l r b) := fun l r b hb => by
    rw [M_clashBy u2.2.2.1 u2.1 (by omega) (by omega), u2.2.2.2.2.2.2 78 50 rfl, u2.2.2.2.2.2.2 78 49 rfl, ← cl_eq k u2 k.2.1 hb]
    rfl
  refine for_acc (N := bs) (k := fun x => some (x, U)) (by omega) (orI (fun b => clK T nn (mvL C nn n q) (mvR C nn n q) b &&& (clK T nn (giv C nn 1) (giv C nn 2) b ^^^ (-1)))) (fun b a => a ||| (clK T nn (mvL C nn n q) (mvR C nn n q) b &&& (clK T nn (giv C nn 1) (giv C nn 2) b ^^^ (-1)))) (fun i _ => rfl) (fun rec a => by unfold b_M_forbidden_28; rw [u2.2.2.2.1, if_pos (nI_le (Nat.le_refl bs) (by omega))]) (fun rec a b hb => ?_) (by omega)
  unfold b_M_forbidden_28 j_M_forbidden_104 mvL mvR
  rw [u2.2.2.2.1, if_neg (nI_ge hb (by omega)), cb _ _ b hb, bd_some, cb _ _ b hb, cb _ _ b hb, bd_some, bd_some, lt_eq, lt_eq, lt_eq, nI_1]
  rcases hq with c | c
  · rw [if_pos c, if_pos c, if_neg (show ¬ q = 2 by rw [c]; decide)]
  · rw [if_neg (show ¬ q = 1 by rw [c]; decide), if_neg (show ¬ q = 1 by rw [c]; decide), if_pos c, lt_eq]
theorem out_x (h : J2 C) (hS : S.2.2 = C.2.2) (f : ∀ h k, scr h k = false → S.1 h k = C.1 h k) (p : Int32) : ∃ v, fN_isLeftOut F G C p = some v ∧ fM_isOut F G S p = some v ∧ (¬ v = 0 → ∃ n, p = nI n ∧ (n : Int) < (C.1 78 48).toInt ∧ n < 10) := by
  obtain ⟨w, a1, a2, a3, a4⟩ := note_x (F := F) (G := G) (T := S) h.1 h.2.1 (f 78 48 rfl) p
  unfold fN_isLeftOut fM_isOut
  rw [a1, a2, bd_some, bd_some]
  by_cases c1 : w = 0
  · rw [if_pos c1, if_pos c1]; exact ⟨0, rfl, rfl, fun z => absurd rfl z⟩
  obtain ⟨n, rfl, hn, hn10⟩ := a4 c1
  rw [if_neg c1, if_neg c1, gd_t (inB_nI hn10 (by decide)), gd_t (inB_nI (show n < 41 by omega) (by decide)), nI_clamp (by omega), f 100 n rfl, (h.c4.2 n hn).1]
  by_cases c2 : C.1 100 n = 0
  · rw [if_pos c2]; exact ⟨1, rfl, rfl, fun _ => ⟨n, rfl, hn, hn10⟩⟩
  · rw [if_neg c2]; exact ⟨0, rfl, rfl, fun z => absurd rfl z⟩
theorem hand_x (q : Int32) : ∃ v, fN_isHand F G C q = some v ∧ fM_isHand F G S q = some v ∧ (¬ v = 0 → q = 1 ∨ q = 2) := by
  unfold fN_isHand fM_isHand
  by_cases c1 : q = 1
  · rw [if_pos c1]; exact ⟨1, rfl, rfl, fun _ => Or.inl c1⟩
  · rw [if_neg c1]
    by_cases c2 : q = 2
    · rw [if_pos c2]; exact ⟨1, rfl, rfl, fun _ => Or.inr c2⟩
    · rw [if_neg c2]; exact ⟨0, rfl, rfl, fun z => absurd rfl z⟩
theorem forbids_ok (hF : 100000 ≤ F) (hG : 20 ≤ G) (h : J2 S) (p q : Int32) : ∃ v S1 S2, fN_forbids F G S p q = some (v, S1) ∧ fM_forbids F G S1 p q = some (v, S2) ∧ J2 S2 := by
  obtain ⟨nn, bs, nb⟩ := h.nb
  obtain ⟨w, a1, a2, a3⟩ := out_x (F := F) (G := G) (S := S) h rfl (fun _ _ _ => rfl) p
  obtain ⟨y, b1, b2, b3⟩ := hand_x (F := F) (G := G) (C := S) (S := S) q
  by_cases c1 : w = 0
  · refine ⟨-1, S, S, ?_, ?_, h⟩
    · unfold fN_forbids; rw [a1, bd_some, if_pos c1]
    · unfold fM_forbids; rw [a2, bd_some, if_pos c1]
  by_cases c2 : y = 0
  · refine ⟨-1, S, S, ?_, ?_, h⟩
    · unfold fN_forbids; rw [a1, bd_some, if_neg c1, b1, bd_some, if_pos c2]
    · unfold fM_forbids; rw [a2, bd_some, if_neg c1, b2, bd_some, if_pos c2]
  obtain ⟨n, rfl, hn, hn10⟩ := a3 c1
  obtain ⟨T, t1, t2, t3⟩ := look_I (F := F) (G := G) hF hG h nb
  obtain ⟨U, u1, u2⟩ := M_forb (F := F) (G := G) (n := n) hF hG nb t2 (b3 c2) t3
  obtain ⟨w', a1', a2', -⟩ := out_x (F := F) (G := G) (S := T) h (by rw [t3.2.2.1]) t3.2.2.2 (nI n)
  rw [← Option.some.inj (a1.symm.trans a1')] at a2'
  have b2' : fM_isHand F G T q = some y := b2
  refine ⟨nwk T S nn bs n q, T, U, ?_, ?_, h.q u2⟩
  · unfold fN_forbids
    rw [a1, bd_some, if_neg c1, b1, bd_some, if_neg c2, t1, bd_some, K_new hF t2, bd_some]
  · unfold fM_forbids
    rw [a2', bd_some, if_neg c1, b2', bd_some, if_neg c2, u1, bd2_some]
theorem could_ok (hF : 100000 ≤ F) (hG : 20 ≤ G) (h : J2 S) (q : Int32) : ∃ v S1 S2, fN_could F G S q = some (v, S1) ∧ fM_could F G S1 q = some (v, S2) ∧ J2 S2 := by
  obtain ⟨nn, bs, nb⟩ := h.nb
  obtain ⟨n1, b0, bb2, n48, b46, d6, d0, dr, xl⟩ := id nb
  obtain ⟨y, b1, b2, b3⟩ := hand_x (F := F) (G := G) (C := S) (S := S) q
  by_cases c2 : y = 0
  · refine ⟨-1, S, S, ?_, ?_, h⟩
    · unfold fN_could; rw [b1, bd_some, if_pos c2]
    · unfold fM_could; rw [b2, bd_some, if_pos c2]
  obtain ⟨T, t1, t2, t3⟩ := look_I (F := F) (G := G) hF hG h nb
  have b2' : fM_isHand F G T q = some y := b2
  have sc := h.1.1.2.1.1
  have oo := isSc_or sc
  have tt : T.2.2.1 = S.2.2.1 := by rw [t3.2.2.1]
  have t6 : T.1 S.2.2.1 6 = nI nn := by
    rw [t3.2.2.2 S.2.2.1 6 (by rcases oo with e | e <;> rw [e] <;> rfl)]; exact d6
  have c31 : ∀ i, i < nn → T.1 31 i = S.1 100 i := fun i hi => by
    rw [t3.2.2.2 31 i rfl]
    have := xl.2.1 i (by omega) (by omega)
    rw [lo_0 (by omega)] at this; exact this
  have hN : fN_could F G S q = some (mset (fun i => decide (S.1 100 i = 0) && decide (nwk T S nn bs i q = 0)) nn, T) := by
    unfold fN_could
    rw [b1, bd_some, if_neg c2, t1, bd_some]
    refine for_or (N := nn) (k := fun x => some (x, T)) (by omega) _ (fun rec a => by unfold b_N_could_17; rw [tt, gd_t sc, t6, if_pos (nI_le (Nat.le_refl nn) (by omega))]) (fun rec a i hi => ?_) (by omega)
    unfold b_N_could_17
    rw [tt, gd_t sc, t6, if_neg (nI_ge hi (by omega)), gd_t (inB_nI (by omega) (by decide)), nI_clamp (by omega), c31 i hi, K_new hF t2, bd_some]
    simp only [lt_eq, nI_1]
    by_cases e1 : S.1 100 i = 0
    · rw [if_pos e1, decide_eq_true e1, Bool.true_and]
      by_cases e2 : nwk T S nn bs i q = 0
      · rw [if_pos e2, decide_eq_true e2, if_pos rfl]
      · rw [if_neg e2, decide_eq_false e2, if_neg (show ¬ false = true by decide), Int32.or_zero]
    · rw [if_neg e1, decide_eq_false e1, Bool.false_and, if_neg (show ¬ false = true by decide), Int32.or_zero]
  have main : ∀ r c f (V : St), nn - c = r → c ≤ nn → r < f → Inv S V → ∃ U, fx3 (b_M_could_13 F G q) f (mset (fun i => decide (S.1 100 i = 0) && decide (nwk T S nn bs i q = 0)) c) (nI c) V = some (mset (fun i => decide (S.1 100 i = 0) && decide (nwk T S nn bs i q = 0)) nn, U) ∧ Inv S U := by
    intro r
    induction r with
    | zero =>
      intro c f V hr hc hf hV
      obtain ⟨g, rfl⟩ : ∃ g, f = g + 1 := ⟨f - 1, by omega⟩
      have e : c = nn := by omega
      subst e
      refine ⟨V, ?_, hV⟩
      rw [fx3_s]
      unfold b_M_could_13
      rw [hV.2.2.2 78 48 rfl, n48, if_pos (nI_le (Nat.le_refl c) (by omega))]
    | succ r ih =>
      intro c f V hr hc hf hV
      obtain ⟨g, rfl⟩ : ∃ g, f = g + 1 := ⟨f - 1, by omega⟩
      rw [fx3_s]
      have ih' := fun V hV => ih (c + 1) g V (by omega) (by omega) (by omega) hV
      generalize fx3 (b_M_could_13 F G q) g = rec at ih' ⊢
      unfold b_M_could_13
      obtain ⟨U, u1, u2⟩ := M_forb (F := F) (G := G) (n := c) hF hG nb t2 (b3 c2) hV
      obtain ⟨w, a1, a2, a3⟩ := out_x (F := F) (G := G) (S := V) h (by rw [hV.2.2.1]) hV.2.2.2 (nI c)
      have wv : w = if S.1 100 c = 0 then 1 else 0 := by
        have a1' := a1
        obtain ⟨x, x1, -, -, -⟩ := note_x (F := F) (G := G) (T := S) h.1 h.2.1 rfl (nI c)
        unfold fN_isLeftOut at a1'
        rw [x1, bd_some] at a1'
        have xn : ¬ x = 0 := by
          intro z
          unfold fN_isNote at x1
          rw [if_neg (nI_nn (by omega)), gd_t sc, d6, if_neg (nI_ge (show c < nn by omega) (by omega))] at x1
          rw [z] at x1
          exact absurd (Option.some.inj x1) (by decide)
        rw [if_neg xn, gd_t (inB_nI (show c < 10 by omega) (by decide)), nI_clamp (by omega), (h.c4.2 c (by rw [n48, nI_toInt (by omega)]; omega)).1] at a1'
        by_cases e : S.1 100 c = 0
        · rw [if_pos e] at a1' ⊢; exact (Option.some.inj a1').symm
        · rw [if_neg e] at a1' ⊢; exact (Option.some.inj a1').symm
      rw [hV.2.2.2 78 48 rfl, n48, if_neg (nI_ge (show c < nn by omega) (by omega)), a2, bd_some, u1, bd2_some]
      simp only [lt_eq, nI_1]
      by_cases e1 : S.1 100 c = 0
      · rw [if_neg (show ¬ w = 0 by rw [wv, if_pos e1]; decide)]
        by_cases e2 : nwk T S nn bs c q = 0
        · rw [if_pos e2]
          have := ih' U u2
          rw [mset, decide_eq_true e1, decide_eq_true e2, if_pos (show (true && true) = true from rfl)] at this
          exact this
        · rw [if_neg e2]
          have := ih' U u2
          rw [mset, decide_eq_true e1, decide_eq_false e2, if_neg (show ¬ (true && false) = true by decide), Int32.or_zero] at this
          exact this
      · rw [if_pos (show w = 0 by rw [wv, if_neg e1])]
        have := ih' V hV
        rw [mset, decide_eq_false e1, Bool.false_and, if_neg (show ¬ false = true by decide), Int32.or_zero] at this
        exact this
  obtain ⟨U, u1, u2⟩ := main nn 0 F T rfl (by omega) (by omega) t3
  refine ⟨mset (fun i => decide (S.1 100 i = 0) && decide (nwk T S nn bs i q = 0)) nn, T, U, hN, ?_, h.q u2⟩
  unfold fM_could
  rw [b2', bd_some, if_neg c2]; exact u1
end FB
