/-! SCORE: the reference's end, whole -/
def mes (nn h k : Nat) : Bool := (h == 78 && ((Nat.ble 46 k && Nat.ble k 52) || k == 21 || k == 25 || k == 18 || k == 63 || k == 64 || k == 74 || k == 68)) || h == 83 || h == 84 || h == 94 || ((h == 95 || h == 96 || h == 97 || h == 98 || h == 99) && Nat.blt k nn) || h == 101 || (h == 100 && Nat.ble k 40) || (h == 115 && Nat.blt k 3)
def msc (B : St) (m : Int32) : St := sI (sI (sI (sI (sI (sI (sI (sI (sI (sI B 78 46 (B.1 78 39)) 78 47 (B.1 78 40)) 78 48 (B.1 78 41)) 78 49 (B.1 78 42)) 78 50 (B.1 78 43)) 78 51 (B.1 78 44)) 78 52 (B.1 78 45)) 78 21 (B.1 78 20)) 78 25 (B.1 78 24)) 78 18 m
section ES
variable {F G : Nat} {B : St}
theorem msc_at {m : Int32} {h k : Nat} (q : ¬ (h = 78 ∧ ((46 ≤ k ∧ k ≤ 52) ∨ k = 21 ∨ k = 25 ∨ k = 18))) : (msc B m).1 h k = B.1 h k := by
  unfold msc
  rw [sI_at, if_neg (by omega), sI_at, if_neg (by omega), sI_at, if_neg (by omega), sI_at, if_neg (by omega), sI_at, if_neg (by omega), sI_at, if_neg (by omega), sI_at, if_neg (by omega), sI_at, if_neg (by omega), sI_at, if_neg (by omega), sI_at, if_neg (by omega)]
theorem mes_sub {nn : Nat} {s : Nat → Nat → Bool} (hs : ∀ h k, s h k = true → mes nn h k = true) {h k : Nat} (e : mes nn h k = false) : s h k = false := by
  cases c : s h k
  · rfl
  · rw [hs h k c] at e; cases e
/-- the reference's end of a good text: m steps, np parts, nn notes -/
theorem M_endOK (hF : 100000 ≤ F) {m np nn : Nat} (hf : ¬ 0 < B.1 78 2) (h40 : B.1 78 40 = nI np) (hp : np ≤ 4) (h41 : B.1 78 41 = nI nn) (hn : nn ≤ 10) (h24 : (B.1 78 24 = 0 ∧ m = 0) ∨ (B.1 78 24 = 1 ∧ B.1 78 17 = nI m ∧ m ≤ 320)) {B0 : St} (hr : fM_readAll F G B0 = some B) : ∃ S, fM_score F G B0 = some (nI nn, S) ∧ Ag (mes nn) n0 B S ∧ S.1 78 46 = B.1 78 39 ∧ S.1 78 47 = nI np ∧ S.1 78 48 = nI nn ∧ S.1 78 49 = B.1 78 42 ∧ S.1 78 50 = B.1 78 43 ∧ S.1 78 51 = B.1 78 44 ∧ S.1 78 52 = B.1 78 45 ∧ S.1 78 21 = B.1 78 20 ∧ S.1 78 25 = B.1 78 24 ∧ S.1 78 18 = nI m ∧ (∀ j, j < m → S.1 83 j = B.1 81 j ∧ S.1 84 j = B.1 82 j) ∧ (∀ j, j < np → S.1 94 j = B.1 88 j) ∧ (∀ j, j < nn → S.1 95 j = B.1 89 j ∧ S.1 96 j = B.1 90 j ∧ S.1 97 j = B.1 91 j ∧ S.1 98 j = B.1 92 j ∧ S.1 99 j = B.1 93 j) ∧ (∀ k, k < 41 → S.1 100 k = lay0 nn S k) ∧ S.1 78 63 = 0 ∧ S.1 78 64 = 0 ∧ S.1 78 74 = 0 ∧ S.1 78 68 = 0 ∧ (∀ k, k < 3 → S.1 115 k = 0) := by
  have hm : m ≤ 320 := by rcases h24 with q | q <;> omega
  have fX : Ag (mes nn) n0 B (msc B (nI m)) := by
    unfold msc
    exact (((((((((Ag.rf.sI _ (by simp [mes])).sI _ (by simp [mes])).sI _ (by simp [mes])).sI _ (by simp [mes])).sI _ (by simp [mes])).sI _ (by simp [mes])).sI _ (by simp [mes])).sI _ (by simp [mes])).sI _ (by simp [mes])).sI _ (by simp [mes])
  have x18 : (msc B (nI m)).1 78 18 = nI m := rfl
  have x47 : (msc B (nI m)).1 78 47 = nI np := h40
  have x48 : (msc B (nI m)).1 78 48 = nI nn := h41
  -- the loops, one behind another
  obtain ⟨S3, a1, a2, a3⟩ := M_106 (F := F) (G := G) (S := msc B (nI m)) (k := fun S37 => fx2 (b_M_score_146 F G (fun S45 => fx2 (b_M_score_174 F G (fun S69 => bd (fM_begin F G S69) fun S71 => bd (fM_keepAir F G S71) fun S73 => lt (sI S73 78 63 (0 : Int32)) fun S74 => lt (sI S74 78 64 (0 : Int32)) fun S76 => lt (sI S76 78 74 (0 : Int32)) fun S78 => lt (sI S78 78 68 (0 : Int32)) fun S80 => fx2 (b_M_score_278 F G) F (0 : Int32) S80)) F (0 : Int32) S45)) F (0 : Int32) S37) hF x18 hm
  obtain ⟨S4, b1, b2, b3⟩ := M_146 (F := F) (G := G) (S := S3) (k := fun S45 => fx2 (b_M_score_174 F G (fun S69 => bd (fM_begin F G S69) fun S71 => bd (fM_keepAir F G S71) fun S73 => lt (sI S73 78 63 (0 : Int32)) fun S74 => lt (sI S74 78 64 (0 : Int32)) fun S76 => lt (sI S76 78 74 (0 : Int32)) fun S78 => lt (sI S78 78 68 (0 : Int32)) fun S80 => fx2 (b_M_score_278 F G) F (0 : Int32) S80)) F (0 : Int32) S45) (m := np) hF ((a2.2.1 78 47 rfl).trans x47) hp
  obtain ⟨S5, c1, c2, c3⟩ := M_174 (F := F) (G := G) (S := S4) (k := fun S69 => bd (fM_begin F G S69) fun S71 => bd (fM_keepAir F G S71) fun S73 => lt (sI S73 78 63 (0 : Int32)) fun S74 => lt (sI S74 78 64 (0 : Int32)) fun S76 => lt (sI S76 78 74 (0 : Int32)) fun S78 => lt (sI S78 78 68 (0 : Int32)) fun S80 => fx2 (b_M_score_278 F G) F (0 : Int32) S80) (m := nn) hF ((b2.2.1 78 48 rfl).trans ((a2.2.1 78 48 rfl).trans x48)) hn
  obtain ⟨S6, d1, d2, d3⟩ := M_begin (F := F) (G := G) (S := S5) (nn := nn) hF ((c2.2.1 78 48 rfl).trans ((b2.2.1 78 48 rfl).trans ((a2.2.1 78 48 rfl).trans x48))) hn
  obtain ⟨S7, e1, e2, e3⟩ := M_keepAir (F := F) (G := G) (S := S6) hF
  obtain ⟨S8, f1, f2, f3⟩ := M_278 (F := F) (G := G) (S := sI (sI (sI (sI S7 78 63 0) 78 64 0) 78 74 0) 78 68 0) hF
  have g8 : ∀ h k, h ≠ 115 → ¬ (h = 78 ∧ (k = 63 ∨ k = 64 ∨ k = 74 ∨ k = 68)) → S8.1 h k = S7.1 h k := fun h k q1 q2 => by
    rw [f2.2.1 h k (by show (h == 115 && Nat.blt k 3) = false; rw [show (h == 115) = false by simpa using q1]; rfl), sI_at, if_neg (by omega), sI_at, if_neg (by omega), sI_at, if_neg (by omega), sI_at, if_neg (by omega)]
  have g78 : ∀ k, ¬ (k = 63 ∨ k = 64 ∨ k = 74 ∨ k = 68) → S8.1 78 k = (msc B (nI m)).1 78 k := fun k q => by
    rw [g8 78 k (by omega) (by omega), e2.2.1 78 k rfl, d2.2.1 78 k rfl, c2.2.1 78 k rfl, b2.2.1 78 k rfl, a2.2.1 78 k rfl]
  have grow : ∀ h k, 81 ≤ h → h ≤ 93 → h ≠ 83 → h ≠ 84 → S4.1 h k = B.1 h k := fun h k q1 q2 q3 q4 => by
    rw [b2.2.1 h k (by simp; omega), a2.2.1 h k (by simp; omega), msc_at (by omega)]
  have g9 : ∀ h k, 95 ≤ h → h ≤ 99 → S8.1 h k = S5.1 h k := fun h k q1 q2 => by
    rw [g8 h k (by omega) (by omega), e2.2.1 h k (by simp; omega), d2.2.1 h k (by simp; omega)]
  have tot : Ag (mes nn) n0 B S8 := by
    refine fX.tr ((a2.mono (fun h k e => mes_sub (s := fun h k => (h == 83 || h == 84)) (fun h k q => ?_) e) (fun _ _ _ => rfl)).tr ((b2.mono (fun h k e => mes_sub (s := fun h k => h == 94) (fun h k q => ?_) e) (fun _ _ _ => rfl)).tr ((c2.mono (fun h k e => mes_sub (s := fun h k => (h == 95 || h == 96 || h == 97 || h == 98 || h == 99) && Nat.blt k nn) (fun h k q => ?_) e) (fun _ _ _ => rfl)).tr ((d2.mono (fun h k e => mes_sub (s := fun h k => h == 101) (fun h k q => ?_) e) (fun _ _ _ => rfl)).tr ((e2.mono (fun h k e => mes_sub (s := fun h k => h == 100 && Nat.ble k 40) (fun h k q => ?_) e) (fun _ _ _ => rfl)).tr (((((Ag.rf.sI _ (by simp [mes])).sI _ (by simp [mes])).sI _ (by simp [mes])).sI _ (by simp [mes])).tr (f2.mono (fun h k e => mes_sub (s := fun h k => h == 115 && Nat.blt k 3) (fun h k q => ?_) e) (fun _ _ _ => rfl))))))))
    · simp only [Bool.or_eq_true, beq_iff_eq] at q
      rcases q with rfl | rfl <;> simp [mes]
    · simp only [beq_iff_eq] at q; subst q; simp [mes]
    · simp only [mes, q, Bool.or_true, Bool.true_or]
    · simp only [beq_iff_eq] at q; subst q; simp [mes]
    · simp only [mes, q, Bool.or_true, Bool.true_or]
    · simp only [mes, q, Bool.or_true, Bool.true_or]
  refine ⟨S8, ?_, tot, g78 46 (by omega), (g78 47 (by omega)).trans x47, (g78 48 (by omega)).trans x48, g78 49 (by omega), g78 50 (by omega), g78 51 (by omega), g78 52 (by omega), g78 21 (by omega), g78 25 (by omega), (g78 18 (by omega)).trans x18, fun j hj => ?_, fun j hj => ?_, fun j hj => ?_, fun k hk => ?_, f2.2.1 78 63 rfl, f2.2.1 78 64 rfl, f2.2.1 78 74 rfl, f2.2.1 78 68 rfl, f3⟩
  · have h48 : S8.1 78 48 = nI nn := (g78 48 (by omega)).trans x48
    have loops : ∀ X, X = msc B (nI m) → fx2 (b_M_score_106 F G (fun S37 => fx2 (b_M_score_146 F G (fun S45 => fx2 (b_M_score_174 F G (fun S69 => bd (fM_begin F G S69) fun S71 => bd (fM_keepAir F G S71) fun S73 => lt (sI S73 78 63 (0 : Int32)) fun S74 => lt (sI S74 78 64 (0 : Int32)) fun S76 => lt (sI S76 78 74 (0 : Int32)) fun S78 => lt (sI S78 78 68 (0 : Int32)) fun S80 => fx2 (b_M_score_278 F G) F (0 : Int32) S80)) F (0 : Int32) S45)) F (0 : Int32) S37)) F 0 X = some (nI nn, S8) := by
      intro X hX
      rw [hX, a1]
      show fx2 (b_M_score_146 F G _) F 0 S3 = _
      rw [b1]
      show fx2 (b_M_score_174 F G _) F 0 S4 = _
      rw [c1]
      show bd (fM_begin F G S5) _ = _
      rw [d1, bd_some, e1, bd_some]
      simp only [lt_eq]
      rw [f1, h48]
    unfold fM_score
    rw [hr, bd_some, if_pos (Int32.not_lt.mp hf)]
    show gd (isB (B.1 78 24)) (if (B.1 78 24) = 0 then fx2 (b_M_score_106 F G (fun S37 => fx2 (b_M_score_146 F G (fun S45 => fx2 (b_M_score_174 F G (fun S69 => bd (fM_begin F G S69) fun S71 => bd (fM_keepAir F G S71) fun S73 => lt (sI S73 78 63 (0 : Int32)) fun S74 => lt (sI S74 78 64 (0 : Int32)) fun S76 => lt (sI S76 78 74 (0 : Int32)) fun S78 => lt (sI S78 78 68 (0 : Int32)) fun S80 => fx2 (b_M_score_278 F G) F (0 : Int32) S80)) F (0 : Int32) S45)) F (0 : Int32) S37)) F (0 : Int32) (msc B 0) else fx2 (b_M_score_106 F G (fun S37 => fx2 (b_M_score_146 F G (fun S45 => fx2 (b_M_score_174 F G (fun S69 => bd (fM_begin F G S69) fun S71 => bd (fM_keepAir F G S71) fun S73 => lt (sI S73 78 63 (0 : Int32)) fun S74 => lt (sI S74 78 64 (0 : Int32)) fun S76 => lt (sI S76 78 74 (0 : Int32)) fun S78 => lt (sI S78 78 68 (0 : Int32)) fun S80 => fx2 (b_M_score_278 F G) F (0 : Int32) S80)) F (0 : Int32) S45)) F (0 : Int32) S37)) F (0 : Int32) (msc B (B.1 78 17))) = some (nI nn, S8)
    rcases h24 with ⟨q1, q2⟩ | ⟨q1, q2, -⟩
    · rw [q1, gd_t (by decide), if_pos rfl]
      exact loops _ (by rw [q2]; rfl)
    · rw [q1, gd_t (by decide), if_neg (by decide), q2]
      exact loops _ rfl
  · rw [g8 83 j (by omega) (by omega), g8 84 j (by omega) (by omega), e2.2.1 83 j rfl, e2.2.1 84 j rfl, d2.2.1 83 j rfl, d2.2.1 84 j rfl, c2.2.1 83 j rfl, c2.2.1 84 j rfl, b2.2.1 83 j rfl, b2.2.1 84 j rfl]
    exact a3 j hj
  · rw [g8 94 j (by omega) (by omega), e2.2.1 94 j rfl, d2.2.1 94 j rfl, c2.2.1 94 j rfl, b3 j hj, a2.2.1 88 j rfl]; rfl
  · rw [g9 95 j (by omega) (by omega), g9 96 j (by omega) (by omega), g9 97 j (by omega) (by omega), g9 98 j (by omega) (by omega), g9 99 j (by omega) (by omega), ← grow 89 j (by omega) (by omega) (by omega) (by omega), ← grow 90 j (by omega) (by omega) (by omega) (by omega), ← grow 91 j (by omega) (by omega) (by omega) (by omega), ← grow 92 j (by omega) (by omega) (by omega) (by omega), ← grow 93 j (by omega) (by omega) (by omega) (by omega)]
    exact c3 j hj
  · rw [g8 100 k (by omega) (by omega), e3 k hk, d3 k hk]
    unfold lay0
    rw [g9 97 _ (by omega) (by omega), g9 98 _ (by omega) (by omega), g9 99 _ (by omega) (by omega)]
theorem M_endB (hf : 0 < B.1 78 2) {B0 : St} (hr : fM_readAll F G B0 = some B) : fM_score F G B0 = some (-1, B) := by
  unfold fM_score
  rw [hr, bd_some, if_neg (Int32.not_le.mpr hf)]
end ES
