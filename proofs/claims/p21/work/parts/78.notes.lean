/-! LINES: a note, to its end -/
def nA (d nn : Nat) (w : Int64) (a e k l o : Int32) (A : St) : St := sI (sI (sI (sI (sI (sI (sL A (d + 3) nn w) (d + 4) nn a) (d + 5) nn e) (d + 6) nn k) (d + 7) nn l) (d + 8) nn o) d 6 (nI (nn + 1))
def nB (nn : Nat) (w : Int64) (a e k l o : Int32) (B : St) : St := sI (sI (sI (sI (sI (sI (sL B 80 (4 + nn) w) 89 nn a) 90 nn e) 91 nn k) 92 nn l) 93 nn o) 78 41 (nI (nn + 1))
section LS
variable {F G d np nn : Nat} {PN NN : Nat → List Nat} {A0 B0 A1 B1 A B : St} {b : Nat → Nat} {n : Nat} {t : Tk} {p : Nat}
theorem nA_at {w : Int64} {a e k l o : Int32} {h j : Nat} (h1 : ¬ (h = d ∧ j = 6)) (h2 : ¬ (d + 4 ≤ h ∧ h ≤ d + 8 ∧ j = nn)) : (nA d nn w a e k l o A).1 h j = A.1 h j := by
  unfold nA
  rw [sI_at, if_neg h1, sI_at, if_neg (by omega), sI_at, if_neg (by omega), sI_at, if_neg (by omega), sI_at, if_neg (by omega), sI_at, if_neg (by omega)]
  rfl
theorem nB_at {w : Int64} {a e k l o : Int32} {h j : Nat} (h1 : ¬ (h = 78 ∧ j = 41)) (h2 : ¬ (89 ≤ h ∧ h ≤ 93 ∧ j = nn)) : (nB nn w a e k l o B).1 h j = B.1 h j := by
  unfold nB
  rw [sI_at, if_neg h1, sI_at, if_neg (by omega), sI_at, if_neg (by omega), sI_at, if_neg (by omega), sI_at, if_neg (by omega), sI_at, if_neg (by omega)]
  rfl
theorem nA_new {w : Int64} {a e k l o : Int32} : (nA d nn w a e k l o A).1 (d + 4) nn = a ∧ (nA d nn w a e k l o A).1 (d + 5) nn = e ∧ (nA d nn w a e k l o A).1 (d + 6) nn = k ∧ (nA d nn w a e k l o A).1 (d + 7) nn = l ∧ (nA d nn w a e k l o A).1 (d + 8) nn = o := by
  unfold nA
  refine ⟨?_, ?_, ?_, ?_, ?_⟩
  · rw [sI_at, if_neg (by omega), sI_at, if_neg (by omega), sI_at, if_neg (by omega), sI_at, if_neg (by omega), sI_at, if_neg (by omega), sI_self]
  · rw [sI_at, if_neg (by omega), sI_at, if_neg (by omega), sI_at, if_neg (by omega), sI_at, if_neg (by omega), sI_self]
  · rw [sI_at, if_neg (by omega), sI_at, if_neg (by omega), sI_at, if_neg (by omega), sI_self]
  · rw [sI_at, if_neg (by omega), sI_at, if_neg (by omega), sI_self]
  · rw [sI_at, if_neg (by omega), sI_self]
theorem nB_new {w : Int64} {a e k l o : Int32} : (nB nn w a e k l o B).1 89 nn = a ∧ (nB nn w a e k l o B).1 90 nn = e ∧ (nB nn w a e k l o B).1 91 nn = k ∧ (nB nn w a e k l o B).1 92 nn = l ∧ (nB nn w a e k l o B).1 93 nn = o := by
  unfold nB
  refine ⟨?_, ?_, ?_, ?_, ?_⟩
  · rw [sI_at, if_neg (by omega), sI_at, if_neg (by omega), sI_at, if_neg (by omega), sI_at, if_neg (by omega), sI_at, if_neg (by omega), sI_self]
  · rw [sI_at, if_neg (by omega), sI_at, if_neg (by omega), sI_at, if_neg (by omega), sI_at, if_neg (by omega), sI_self]
  · rw [sI_at, if_neg (by omega), sI_at, if_neg (by omega), sI_at, if_neg (by omega), sI_self]
  · rw [sI_at, if_neg (by omega), sI_at, if_neg (by omega), sI_self]
  · rw [sI_at, if_neg (by omega), sI_self]
theorem iv_nI {x l u : Nat} (h1 : l ≤ x) (h2 : x ≤ u) (h3 : u < 2 ^ 31) : iv (nI x) l u := by
  unfold iv
  rw [tn_nI (by omega)]; omega
theorem Dr.addNote {L : List Nat} {a e k l o : Nat} (hL : okL L) (h10 : nn < 10) (hne : ∀ i, i < nn → NN i ≠ L) (ha : a < np) (he : ∀ x, x ≤ 12 → A.1 d 0 = nI x → e + 1 ≤ x) (hk : k ≤ 87) (hl : 1 ≤ l ∧ l ≤ 12) (ho : 1 ≤ o ∧ o ≤ 9) (h : Dr d np nn PN NN A B) : Dr d np (nn + 1) PN (fun i => if i = nn then L else NN i) (nA d nn (lN (p5 L)) (nI a) (nI e) (nI k) (nI l) (nI o) A) (nB nn (lN (p8 L)) (nI a) (nI e) (nI k) (nI l) (nI o) B) := by
  obtain ⟨k1, k2, k3, k4, k5, k6, ⟨x0, a0, b0, c0, d0, e0⟩, ⟨x1, a1, b1, c1⟩, ⟨x2, a2, b2, c2, d2⟩, ⟨x3, a3, b3, c3⟩, ⟨x4, a4, b4, c4⟩, k7, k8, k9⟩ := h
  obtain ⟨w4, w5, w6, w7, w8⟩ := nA_new (d := d) (nn := nn) (A := A) (w := lN (p5 L)) (a := nI a) (e := nI e) (k := nI k) (l := nI l) (o := nI o)
  obtain ⟨v4, v5, v6, v7, v8⟩ := nB_new (nn := nn) (B := B) (w := lN (p8 L)) (a := nI a) (e := nI e) (k := nI k) (l := nI l) (o := nI o)
  have hex := he x0 b0 c0
  have eAL : ∀ h j, ¬ (h = d + 3 ∧ j = nn) → (nA d nn (lN (p5 L)) (nI a) (nI e) (nI k) (nI l) (nI o) A).2.1 h j = A.2.1 h j := fun h j q => by
    show (sL A (d + 3) nn (lN (p5 L))).2.1 h j = _
    rw [sL_at, if_neg q]
  have eBL : ∀ j, j ≠ 4 + nn → (nB nn (lN (p8 L)) (nI a) (nI e) (nI k) (nI l) (nI o) B).2.1 80 j = B.2.1 80 j := fun j q => by
    show (sL B 80 (4 + nn) (lN (p8 L))).2.1 80 j = _
    rw [sL_at, if_neg (fun z => q z.2)]
  refine ⟨k1, by omega, (nA_at (by omega) (by omega)).trans k3, (nB_at (by omega) (by omega)).trans k4, by unfold nA; rw [sI_self], by unfold nB; rw [sI_self], ⟨x0, a0, b0, (nA_at (by omega) (by omega)).trans c0, (nB_at (by omega) (by omega)).trans d0, fun i hi => ?_⟩, ⟨x1, a1, (nA_at (by omega) (by omega)).trans b1, (nB_at (by omega) (by omega)).trans c1⟩, ⟨x2, a2, b2, (nA_at (by omega) (by omega)).trans c2, (nB_at (by omega) (by omega)).trans d2⟩, ⟨x3, a3, (nA_at (by omega) (by omega)).trans b3, (nB_at (by omega) (by omega)).trans c3⟩, ⟨x4, a4, (nA_at (by omega) (by omega)).trans b4, (nB_at (by omega) (by omega)).trans c4⟩, fun i hi => ?_, k8, fun i hi => ?_⟩
  · by_cases c : i = nn
    · rw [c, v5]
      unfold iv
      rw [tn_nI (by omega)]; omega
    · rw [nB_at (by omega) (by omega)]; exact e0 i (by omega)
  · obtain ⟨q1, q2, q3, q4, q5⟩ := k7 i hi
    rw [eAL _ _ (by omega), eBL _ (by omega), nA_at (by omega) (by omega), nB_at (by omega) (by omega)]
    exact ⟨q1, q2, q3, q4, q5⟩
  · dsimp only
    by_cases c : i = nn
    · subst c
      rw [if_pos rfl, w4, w5, w6, w7, w8, v4, v5, v6, v7, v8]
      refine ⟨hL, ?_, ?_, rfl, ?_, rfl, rfl, iv_nI (l := 0) (Nat.zero_le _) hk (by decide), rfl, iv_nI hl.1 hl.2 (by decide), rfl, iv_nI ho.1 ho.2 (by decide)⟩
      · show (sL A (d + 3) i (lN (p5 L))).2.1 (d + 3) i = _
        rw [sL_at, if_pos ⟨rfl, rfl⟩]
      · show (sL B 80 (4 + i) (lN (p8 L))).2.1 80 (4 + i) = _
        rw [sL_at, if_pos ⟨rfl, rfl⟩]
      · unfold iv
        rw [tn_nI (by omega)]; omega
    · have := k9 i (by omega)
      rw [if_neg c, eAL _ _ (by omega), eBL _ (by omega), nA_at (by omega) (by omega), nA_at (by omega) (by omega), nA_at (by omega) (by omega), nA_at (by omega) (by omega), nA_at (by omega) (by omega), nB_at (by omega) (by omega), nB_at (by omega) (by omega), nB_at (by omega) (by omega), nB_at (by omega) (by omega), nB_at (by omega) (by omega)]
      exact this
theorem S_addNote (hd : isSc d = true) (h6 : A.1 d 6 = nI nn) (h10 : nn < 10) (v : Int64) (a e k l o : Int32) : fS_addNote F G A d v a e k l o = some (nA d nn v a e k l o A) := by
  unfold fS_addNote
  have hin : inB (nI nn) 10 = true := inB_nI h10 (by decide)
  have g : ∀ (S : St) h x, d < h → (sI S h nn x).1 d 6 = S.1 d 6 := fun S h x q => by rw [sI_at, if_neg (by omega)]
  have e3 : (sL A (d + 3) nn v).1 d 6 = nI nn := h6
  rw [gd_t hd, h6, show (10 : Int32) = nI 10 from rfl, if_neg (nI_ge h10 (by decide)), gd_t hin, nI_clamp (by omega), lt_eq, e3, gd_t hin, nI_clamp (by omega), lt_eq, g _ _ _ (by omega), e3, gd_t hin, nI_clamp (by omega), lt_eq, g _ _ _ (by omega), g _ _ _ (by omega), e3, gd_t hin, nI_clamp (by omega), lt_eq, g _ _ _ (by omega), g _ _ _ (by omega), g _ _ _ (by omega), e3, gd_t hin, nI_clamp (by omega), lt_eq, g _ _ _ (by omega), g _ _ _ (by omega), g _ _ _ (by omega), g _ _ _ (by omega), e3, gd_t hin, nI_clamp (by omega), lt_eq, lt_eq, g _ _ _ (by omega), g _ _ _ (by omega), g _ _ _ (by omega), g _ _ _ (by omega), g _ _ _ (by omega), e3, nI_1]
  rfl
/-- which flag the class has for a name of a note -/
theorem R_noteJ (hF : 100000 ≤ F) (hd : isSc d = true) (hdr : A.2.2.2 = d) (h : TkC A t) (hk : TkOk t) (h5 : A.1 d 6 = nI nn) (h4 : nn ≤ 10) (hN : ∀ i, i < nn → okL (NN i) ∧ A.2.1 (d + 3) i = lN (p5 (NN i))) : ∃ kn : Int32, fR_noteLine F G A = j_R_noteLine_34 F G A kn ∧ (nm t = true → (kn = 0 ↔ ∀ i, i < nn → NN i ≠ t.2.2)) ∧ (¬ nm t = true → kn = 0) := by
  unfold fR_noteLine j_R_noteLine_33
  rw [h.1]
  by_cases c : nm t = true
  · obtain ⟨c1, c2⟩ := nm_iff.mp c
    obtain ⟨v, f1, f2⟩ := S_hasNote (F := F) (G := G) (A := A) hF hd (hk.2.1 c1) h5 h4 hN
    rw [if_pos (kind_nm.mpr c), hdr, gd_t hd, (h.2.1 c1).1, f1, bd_some]
    rcases f2 with ⟨q1, q2⟩ | ⟨q1, i, q2, q3⟩
    · rw [q1, if_pos rfl]
      exact ⟨0, rfl, fun _ => ⟨fun _ => q2, fun _ => rfl⟩, fun z => absurd c z⟩
    · rw [q1, if_neg (by decide)]
      exact ⟨1, rfl, fun _ => ⟨fun z => absurd z (by decide), fun z => absurd q3 (z i q2)⟩, fun z => absurd c z⟩
  · rw [if_neg (fun q => c (kind_nm.mp q))]
    exact ⟨0, rfl, fun z => absurd z c, fun _ => rfl⟩
/-- the line of a note -/
theorem Note_line (hF : 100000 ≤ F) (hd : isSc d = true) (hdr : A.2.2.2 = d) (h1 : Lx b n A B t p) (h2 : A.1 1 0 = 0) (h3 : B.1 78 2 = 0) (h4 : A.1 1 1 = -1) (h5 : B.1 78 3 = -1) (h6 : Dr d np nn PN NN A B) (h7 : Fm d A B) (h8 : Bq A B) (h9 : Ag (pcs d) (pcl d) A0 A) (h10 : Ag pms pml B0 B) (hwd : wd t 2 = true) (hnn : nn < 10) : ∃ A2 A3 B3, fT_step F G A = some A2 ∧ fR_noteLine F G A2 = some A3 ∧ fM_readNote F G B = some B3 ∧ ((∃ t' p', Md d A0 B0 b n A3 B3 t' p' ∧ rem n t' p' < rem n t p) ∨ LB d A0 B0 A3 B3) := by
  have h4d := sc4 hd
  have o1 : OkX b n A B A B t p := ⟨h1, h2, h3, rfl, rfl, Ag.rf, Ag.rf⟩
  obtain ⟨A2, B2, t2, p2, s1, s2, s3, s4⟩ := P_step (G := G) hF o1 (wd_no hwd).1 (wd_no hwd).2
  have d2 := h6.x hd s3.2.2.2.2.2.1 s3.2.2.2.2.2.2
  have hd2 : A2.2.2.2 = d := by rw [s3.2.2.2.2.2.1.1]; exact hdr
  obtain ⟨kn, j1, j2, j3⟩ := R_noteJ (F := F) (G := G) hF hd hd2 s3.1.2.2.1 s3.1.2.2.2.2.1 d2.2.2.2.2.1 d2.2.1 (fun i hi => ⟨(d2.2.2.2.2.2.2.2.2.2.2.2.2.2 i hi).1, (d2.2.2.2.2.2.2.2.2.2.2.2.2.2 i hi).2.1⟩)
  obtain ⟨v, A3, B3, n1, n2, n3⟩ := P_new (F := F) (G := G) hF (fr := 4) (m := nn) (PN := NN) (by omega) s3 (fun i hi => ⟨(d2.2.2.2.2.2.2.2.2.2.2.2.2.2 i hi).1, (d2.2.2.2.2.2.2.2.2.2.2.2.2.2 i hi).2.2.1⟩) j2 j3
  have h41 : B.1 78 41 = nI nn := h6.2.2.2.2.2.1
  have eN : fM_newName F G B 4 (nI nn) = some B3 := by
    unfold fM_newName
    rw [s2, bd_some]
    exact n2
  have lbof : ∀ {A' B' Bx : St}, Ag pms pml B0 Bx → BdX A Bx A' B' → LB d A0 B0 A' B' := fun fb hb => LB.of hd h9 fb (Db.of h6 h7.sz) hb
  obtain ⟨x0, a0, b0, c0, d0, e0⟩ := h6.2.2.2.2.2.2.1
  refine ⟨A2, ?_⟩
  rw [j1, cN_eq, n1, bd2_some, mN_eq, h41, eN, bd_some]
  rcases n3 with ⟨t3, p3, m1, m2, m3, m4, m5⟩ | n3
  · have hL : okL t2.2.2 := s3.1.2.2.2.2.1.2.1 (nm_iff.mp m1).1
    subst m2
    have fb1 : Ag pms pml B0 (sL B 80 (4 + nn) (lN (p8 t2.2.2))) := h10.sL _ rfl
    have e41 : B3.1 78 41 = nI nn := by rw [m4.2.2.2.2.2.2.2.1 78 41 rfl]; exact h41
    rw [e41]
    -- of
    unfold cN1 mN1
    obtain ⟨A4, B4, x1, x2, x3⟩ := P_want (F := F) (G := G) hF (w := 10) (K := 28518) (by decide) rfl m4
    have x1' : fR_takeWord F G A3 10 = some A4 := x1
    rw [x1', x2, bd_some, bd_some]
    rcases x3 with ⟨t4, p4, o4, r4⟩ | x3
    · have aA4 := o4.2.2.2.2.2.1
      have aB4 := o4.2.2.2.2.2.2
      have hd4 : A4.2.2.2 = d := by rw [aA4.1]; exact hdr
      -- the part
      obtain ⟨pv, pv', A5, B5, y1, y2, y3⟩ := P_part (F := F) (G := G) (np := np) (PN := PN) hF hd hd4 o4 (by rw [aA4.2.1 d 5 (xs_hi (by omega))]; exact h6.2.2.1) (by rw [aB4.2.1 78 40 rfl]; exact h6.2.2.2.1) h6.1 (fun i hi => ⟨(h6.2.2.2.2.2.2.2.2.2.2.2.1 i hi).1, by rw [aA4.2.2 (d + 1) i (lxl_hi (by omega))]; exact (h6.2.2.2.2.2.2.2.2.2.2.2.1 i hi).2.1, by
        rw [aB4.2.2 80 i (lyl_hi (by omega)), sL_at, if_neg (by have := h6.1; omega)]; exact (h6.2.2.2.2.2.2.2.2.2.2.2.1 i hi).2.2.1⟩) h6.2.2.2.2.2.2.2.2.2.2.2.2.1
      rw [y1, y2, bd2_some, bd2_some, gd_t (inB_nI hnn (by decide)), nI_clamp (by omega), lt_eq]
      rcases y3 with ⟨pa, t5, p5', q1, q2, q3, o5, r5⟩ | y3
      · subst q2 q3
        have o5' := o5.cB (h := 89) (k := nn) (x := nI pa) (by omega)
        have fb2 := fb1.sI (h := 89) (k := nn) (nI pa) rfl
        -- at
        unfold cN2 mN2
        have ebt : (sI B5 89 nn (nI pa)).1 78 39 - 1 = nI (x0 - 1) := by
          rw [o5'.2.2.2.2.2.2.2.1 78 39 rfl]
          show B.1 78 39 - 1 = _
          rw [d0, show (1 : Int32) = nI 1 from rfl, nI_subN a0 (by omega)]
        obtain ⟨A6, ev, ev', A7, B7, z1, z2, z3, z4⟩ := P_told (F := F) (G := G) hF (w := 11) (l := 0) (u := x0 - 1) (K := 24948) (by decide) rfl (by decide) (by omega) o5'
        have z1' : fR_takeWord F G A5 11 = some A6 := z1
        have hd6 : A6.2.2.2 = d := by
          have o6 := P_want (F := F) (G := G) hF (w := 11) (K := 24948) (by decide) rfl o5'
          obtain ⟨A6', B6', g1, g2, g3⟩ := o6
          rw [z1] at g1
          obtain rfl := Option.some.inj g1
          rcases g3 with ⟨t6, p6, g3, -⟩ | g3
          · rw [g3.2.2.2.2.2.1.1]; exact hdr
          · rw [g3.2.2.1.1]; exact hdr
        have eb6 : A6.1 d 0 - 1 = nI (x0 - 1) := by
          have o6 := P_want (F := F) (G := G) hF (w := 11) (K := 24948) (by decide) rfl o5'
          obtain ⟨A6', B6', g1, g2, g3⟩ := o6
          rw [z1] at g1
          obtain rfl := Option.some.inj g1
          have : A6.1 d 0 = A.1 d 0 := by
            rcases g3 with ⟨t6, p6, g3, -⟩ | g3
            · exact g3.2.2.2.2.2.1.2.1 d 0 (xs_hi (by omega))
            · exact g3.2.2.1.2.1 d 0 (xs_hi (by omega))
          rw [this, c0, show (1 : Int32) = nI 1 from rfl, nI_subN a0 (by omega)]
        have z2' : fR_number F G A6 0 (nI (x0 - 1)) = some (ev, A7) := z2
        have z3' : fM_told F G (sI B5 89 nn (nI pa)) 24948 0 (nI (x0 - 1)) = some (ev', B7) := z3
        rw [z1', bd_some, hd6, gd_t hd, eb6, z2', bd2_some, ebt, z3', bd2_some, gd_t (inB_nI hnn (by decide)), nI_clamp (by omega), lt_eq]
        rcases z4 with ⟨be, t7, p7, q2, q3, q4, q5, o7, r7⟩ | z4
        · subst q2 q3
          have o7' := o7.cB (h := 90) (k := nn) (x := nI be) (by omega)
          have fb3 := fb2.sI (h := 90) (k := nn) (nI be) rfl
          -- key
          unfold cN3 mN3
          obtain ⟨A8, kv, kv', A9, B9, z1, z2, z3, z4⟩ := P_told (F := F) (G := G) hF (w := 16) (l := 0) (u := 87) (K := 7038329) (by decide) rfl (by decide) (by decide) o7'
          have z1' : fR_takeWord F G A7 16 = some A8 := z1
          have z2' : fR_number F G A8 0 87 = some (kv, A9) := z2
          have z3' : fM_told F G (sI B7 90 nn (nI be)) 7038329 0 87 = some (kv', B9) := z3
          rw [z1', bd_some, z2', bd2_some, z3', bd2_some, gd_t (inB_nI hnn (by decide)), nI_clamp (by omega), lt_eq]
          rcases z4 with ⟨ke, t9, p9, q2, q3, -, q5', o9, r9⟩ | z4
          · subst q2 q3
            have o9' := o9.cB (h := 91) (k := nn) (x := nI ke) (by omega)
            have fb4 := fb3.sI (h := 91) (k := nn) (nI ke) rfl
            -- long
            unfold cN4 mN4
            obtain ⟨A10, lv, lv', A11, B11, z1, z2, z3, z4⟩ := P_told (F := F) (G := G) hF (w := 17) (l := 1) (u := 12) (K := 1819242087) (by decide) rfl (by decide) (by decide) o9'
            have z1' : fR_takeWord F G A9 17 = some A10 := z1
            have z2' : fR_number F G A10 1 12 = some (lv, A11) := z2
            have z3' : fM_told F G (sI B9 91 nn (nI ke)) 1819242087 1 12 = some (lv', B11) := z3
            rw [z1', bd_some, z2', bd2_some, z3', bd2_some, gd_t (inB_nI hnn (by decide)), nI_clamp (by omega), lt_eq]
            rcases z4 with ⟨lg, t11, p11, q2, q3, q6, q7, o11, r11⟩ | z4
            · subst q2 q3
              have o11' := o11.cB (h := 92) (k := nn) (x := nI lg) (by omega)
              have fb5 := fb4.sI (h := 92) (k := nn) (nI lg) rfl
              -- the end, once its loudness is known
              have fin : ∀ (lo : Nat) (A13 B13 : St) (t13 : Tk) (p13 : Nat), 1 ≤ lo → lo ≤ 9 → OkX b n A (sI (sI (sI (sI (sL B 80 (4 + nn) (lN (p8 t2.2.2))) 89 nn (nI pa)) 90 nn (nI be)) 91 nn (nI ke)) 92 nn (nI lg)) A13 B13 t13 p13 → rem n t13 p13 ≤ rem n t11 p11 → ∃ A14 B14, j_R_noteLine_129 F G A13 (lN (p5 t2.2.2)) (nI pa) (nI be) (nI ke) (nI lg) (nI lo) = some A14 ∧ j_M_readNote_119 F G B13 (nI nn) (nI lo) = some B14 ∧ ((∃ t' p', Md d A0 B0 b n A14 B14 t' p' ∧ rem n t' p' < rem n t p) ∨ LB d A0 B0 A14 B14) := by
                intro lo A13 B13 t13 p13 l1 l9 o13 hrem
                have e6 : A13.1 d 6 = nI nn := by rw [o13.2.2.2.2.2.1.2.1 d 6 (xs_hi (by omega))]; exact h6.2.2.2.2.1
                have ed : A13.2.2.2 = d := by rw [o13.2.2.2.2.2.1.1]; exact hdr
                have e41 : (sI B13 93 nn (nI lo)).1 78 41 = nI nn := by
                  show B13.1 78 41 = _
                  rw [o13.2.2.2.2.2.2.2.1 78 41 rfl]; exact h41
                unfold j_R_noteLine_129 j_M_readNote_119
                rw [if_pos o13.2.1, ed, gd_t hd, S_addNote hd e6 hnn, bd_some, gd_t (inB_nI hnn (by decide)), nI_clamp (by omega), lt_eq, if_pos (show (sI B13 93 nn (nI lo)).1 78 2 = 0 from o13.2.2.1), lt_eq, e41, nI_1]
                have o14 := (((((((o13.cAL (h := d + 3) (k := nn) (x := lN (p5 t2.2.2)) (by omega)).cA (h := d + 4) (k := nn) (x := nI pa) (by omega)).cA (h := d + 5) (k := nn) (x := nI be) (by omega)).cA (h := d + 6) (k := nn) (x := nI ke) (by omega)).cA (h := d + 7) (k := nn) (x := nI lg) (by omega)).cA (h := d + 8) (k := nn) (x := nI lo) (by omega)).cA (h := d) (k := 6) (x := nI (nn + 1)) h4d).cB (h := 93) (k := nn) (x := nI lo) (by omega) |>.cB (h := 78) (k := 41) (x := nI (nn + 1)) (by omega)
                have o14' : OkX b n (nA d nn (lN (p5 t2.2.2)) (nI pa) (nI be) (nI ke) (nI lg) (nI lo) A) (nB nn (lN (p8 t2.2.2)) (nI pa) (nI be) (nI ke) (nI lg) (nI lo) B) (nA d nn (lN (p5 t2.2.2)) (nI pa) (nI be) (nI ke) (nI lg) (nI lo) A13) (sI (sI B13 93 nn (nI lo)) 78 41 (nI (nn + 1))) t13 p13 := o14
                obtain ⟨k1, k2, k3, k4, k5, k6, k7⟩ := o14'
                have fA : Ag (pcs d) (pcl d) A0 (nA d nn (lN (p5 t2.2.2)) (nI pa) (nI be) (nI ke) (nI lg) (nI lo) A) := by
                  unfold nA
                  exact ((((((h9.sL _ (by simp [pcl])).sI _ (by simp [pcs])).sI _ (by simp [pcs])).sI _ (by simp [pcs])).sI _ (by simp [pcs])).sI _ (by simp [pcs])).sI _ (by simp [pcs])
                have fB : Ag pms pml B0 (nB nn (lN (p8 t2.2.2)) (nI pa) (nI be) (nI ke) (nI lg) (nI lo) B) := by
                  unfold nB
                  exact (fb5.sI _ rfl).sI _ rfl
                have dN : Dr d np (nn + 1) PN (fun i => if i = nn then t2.2.2 else NN i) (nA d nn (lN (p5 t2.2.2)) (nI pa) (nI be) (nI ke) (nI lg) (nI lo) A) (nB nn (lN (p8 t2.2.2)) (nI pa) (nI be) (nI ke) (nI lg) (nI lo) B) := Dr.addNote hL hnn m3 q1 (fun x hx hxe => by
                  rw [c0] at hxe
                  have := (nI_eq (by omega) (by omega)).mp hxe
                  omega) (by omega) ⟨q6, q7⟩ ⟨l1, l9⟩ h6
                refine ⟨_, _, rfl, rfl, Or.inl ⟨t13, p13, ⟨np, nn + 1, PN, _, k1, k2, k3, ?_, ?_, dN.x hd k6 k7, (Fm.cong h7 (fun h k q1 q2 => nA_at (by omega) (by omega)) (fun h k q => nB_at (by omega) (by omega))).x hd k6 k7, (Bq.cong h8 (nA_at (by omega) (by omega)) (nB_at (by omega) (by omega)) (fun k q1 q2 => nB_at (by omega) (by omega))).x k6 k7, fA.tr (k6.mono (fun _ _ e => pcs_x e) (fun _ _ e => pcl_x e)), fB.tr (k7.mono (fun _ _ e => pms_y e) (fun _ _ e => pml_y e))⟩, by omega⟩⟩
                · rw [k4, nA_at (by omega) (by omega)]; exact h4
                · rw [k5, nB_at (by omega) (by omega)]; exact h5
              -- loud
              unfold cN5 mN5
              have w18 : fR_isWord F G A11 18 = some (if wd t11 18 = true then 1 else 0) := R_isWord (w := 18) (by decide) o11'.2.1 o11'.1.2.2.1
              rw [w18, bd_some, if_pos o11'.2.2.1, M_isWord (w := 18) (K := 1819243876) (by decide) o11'.1.2.2.2.1 o11'.1.2.2.2.2.1 rfl, bd_some]
              by_cases c18 : wd t11 18 = true
              · rw [if_pos c18, if_neg (by decide), if_neg (by decide)]
                obtain ⟨A12, ov, ov', A13, B13, z1, z2, z3, z4, -⟩ := P_first (F := F) (G := G) hF (w := 18) (l := 1) (u := 9) (K := 1819243876) (by decide) rfl (by decide) (by decide) o11' c18
                have z2' : fR_number F G A12 1 9 = some (ov, A13) := z2
                have z3' : fM_told F G (sI B11 92 nn (nI lg)) 1819243876 1 9 = some (ov', B13) := z3
                rw [z1, bd_some, z2', bd2_some, z3', bd2_some]
                rcases z4 with ⟨lo, t13, p13, q2, q3, q8, q9, o13, r13⟩ | z4
                · subst q2 q3
                  obtain ⟨A14, B14, g1, g2, g3⟩ := fin lo A13 B13 t13 p13 q8 q9 o13 (by omega)
                  rw [g1, g2]
                  exact ⟨A14, B14, s1, rfl, rfl, g3⟩
                · have lb := lbof fb5 z4
                  unfold j_R_noteLine_129 j_M_readNote_119
                  rw [if_neg z4.fc, gd_t (inB_nI hnn (by decide)), nI_clamp (by omega), lt_eq, if_neg (show ¬ (sI B13 93 nn ov').1 78 2 = 0 from z4.fm.1)]
                  exact ⟨A13, _, s1, rfl, rfl, Or.inr (lb.cB rfl (by omega))⟩
              · rw [if_neg c18, if_pos rfl, if_pos rfl]
                unfold j_M_readNote_118
                obtain ⟨A14, B14, g1, g2, g3⟩ := fin 5 A11 _ t11 p11 (by omega) (by omega) o11' (Nat.le_refl _)
                have g1' : j_R_noteLine_129 F G A11 (lN (p5 t2.2.2)) (nI pa) (nI be) (nI ke) (nI lg) 5 = some A14 := g1
                have g2' : j_M_readNote_119 F G (sI B11 92 nn (nI lg)) (nI nn) 5 = some B14 := g2
                rw [g1', g2']
                exact ⟨A14, B14, s1, rfl, rfl, g3⟩
            · obtain ⟨B', g1, g2⟩ := mB5 (F := F) (G := G) hnn ((lbof fb4 z4).cB (h := 92) (k := nn) (x := lv') rfl (by omega))
              rw [cB5 z4.fc, g1]
              exact ⟨_, B', s1, rfl, rfl, Or.inr g2⟩
          · obtain ⟨B', g1, g2⟩ := mB4 (F := F) (G := G) hnn ((lbof fb3 z4).cB (h := 91) (k := nn) (x := kv') rfl (by omega))
            rw [cB4 z4.fc, g1]
            exact ⟨_, B', s1, rfl, rfl, Or.inr g2⟩
        · obtain ⟨B', g1, g2⟩ := mB3 (F := F) (G := G) hnn ((lbof fb2 z4).cB (h := 90) (k := nn) (x := ev') rfl (by omega))
          rw [cB3 z4.fc, g1]
          exact ⟨_, B', s1, rfl, rfl, Or.inr g2⟩
      · obtain ⟨B', g1, g2⟩ := mB2 (F := F) (G := G) hnn ((lbof fb1 y3).cB (h := 89) (k := nn) (x := pv') rfl (by omega))
        rw [cB2 hd (by rw [y3.2.2.1.1]; exact hdr) y3.fc, g1]
        exact ⟨_, B', s1, rfl, rfl, Or.inr g2⟩
    · have lb := lbof fb1 x3
      obtain ⟨pv, e1⟩ := R_knownPartF (F := F) (G := G) hF hd (by rw [x3.2.2.1.1]; exact hdr) x3.fc lb.2.2.1
      have e2 : fM_oldPart F G B4 = some (0, B4) := by
        unfold fM_oldPart
        rw [if_neg x3.fm.2]
      obtain ⟨B', g1, g2⟩ := mB2 (F := F) (G := G) hnn (lb.cB (h := 89) (k := nn) (x := 0) rfl (by omega))
      rw [e1, e2, bd2_some, bd2_some, gd_t (inB_nI hnn (by decide)), nI_clamp (by omega), lt_eq, cB2 hd (by rw [x3.2.2.1.1]; exact hdr) x3.fc, g1]
      exact ⟨_, B', s1, rfl, rfl, Or.inr g2⟩
  · have lb := lbof h10 n3
    have e41 : B3.1 78 41 = nI nn := by rw [n3.2.2.2.2.1 78 41 rfl]; exact h41
    obtain ⟨B', g1, g2⟩ := mB1 (F := F) (G := G) hnn lb
    rw [cB1 hF hd (by rw [n3.2.2.1.1]; exact hdr) n3.fc lb.2.2.1, e41, g1]
    exact ⟨_, B', s1, rfl, rfl, Or.inr g2⟩
end LS
