/-! LINES: both read one alike -/
section LV
variable {d : Nat}
theorem fys_pms_39 {k : Nat} (h1 : 39 ≤ k) (h2 : k ≤ 45) : fys 78 k = false := by
  have e1 : (k == 17) = false := by simp; omega
  have e2 : (k == 19) = false := by simp; omega
  have e3 : (k == 20) = false := by simp; omega
  have e4 : (k == 22) = false := by simp; omega
  have e5 : (k == 23) = false := by simp; omega
  simp only [fys, ys_78 (show 9 ≤ k by omega), e1, e2, e3, e4, e5]; rfl
theorem fys_54 {k : Nat} (h1 : 54 ≤ k) (h2 : k ≤ 57) : fys 78 k = false := by
  have e1 : (k == 17) = false := by simp; omega
  have e2 : (k == 19) = false := by simp; omega
  have e3 : (k == 20) = false := by simp; omega
  have e4 : (k == 22) = false := by simp; omega
  have e5 : (k == 23) = false := by simp; omega
  simp only [fys, ys_78 (show 9 ≤ k by omega), e1, e2, e3, e4, e5]; rfl
theorem fys_88 {h k : Nat} (h1 : 88 ≤ h) (h2 : h ≤ 93) : fys h k = false := by
  have e1 : (h == 78) = false := by simp; omega
  have e2 : (h == 81) = false := by simp; omega
  have e3 : (h == 82) = false := by simp; omega
  have e4 : (h == 85) = false := by simp; omega
  simp only [fys, ys_hi (show 79 ≤ h by omega), e1, e2, e3, e4]; rfl
theorem fxs_14 (hd : isSc d = true) : fxs d 1 4 = false := by
  have := sc4 hd
  have e9 : (1 == d + 9) = false := by simp
  have e10 : (1 == d + 10) = false := by simp
  have ex : xs 1 4 = false := rfl
  simp only [fxs, ex, e9, e10]; rfl
end LV
section LU
variable {F G d : Nat} {A0 B0 A B : St} {b : Nat → Nat} {n : Nat} {t : Tk} {p : Nat}
theorem line_ok (hF : 100000 ≤ F) (hG : 60 ≤ G) (hd : isSc d = true) (hdr : A0.2.2.2 = d) (h : Ln d A0 B0 b n A B t p) (h0 : t.1 ≠ 0) : ∃ A' B', fR_readLine F G A = some A' ∧ fM_readLine F G B = some B' ∧ ((∃ t' p', Ln d A0 B0 b n A' B' t' p' ∧ rem n t' p' < rem n t p) ∨ LB d A0 B0 A' B') := by
  obtain ⟨np, nn, PN, NN, k1, k2, k3, k4, k5, k6, k7, k8, k9, k10, k11⟩ := id h
  have tc := k1.2.2.1
  have tm := k1.2.2.2.1
  have hk := k1.2.2.2.2.1
  have h4d := sc4 hd
  have hdA : A.2.2.2 = d := by rw [k10.1]; exact hdr
  have h40 : B.1 78 40 = nI np := k6.2.2.2.1
  have h41 : B.1 78 41 = nI nn := k6.2.2.2.2.2.1
  have hp5 : A.1 d 5 = nI np := k6.2.2.1
  have hp6 : A.1 d 6 = nI nn := k6.2.2.2.2.1
  have np4 := k6.1
  have nn10 := k6.2.1
  obtain ⟨g53, g24, g54, g55, g56, g57⟩ := id k8
  -- a line's beginning in the class
  have dr5 : ∀ x, Dr d np nn PN NN (sI A 1 4 x) B := fun x => k6.cong (fun h k q1 q2 => by rw [sI_at, if_neg (by omega)]) (fun _ _ _ _ => rfl) (fun _ _ _ => rfl) (fun _ _ _ _ => rfl) (fun _ => rfl)
  have fm5 : ∀ x, Fm d (sI A 1 4 x) B := fun x => k7.cong (fun h k q1 q2 => by rw [sI_at, if_neg (by omega)]) (fun _ _ _ => rfl)
  have ag5 : ∀ x, Ag (pcs d) (pcl d) A0 (sI A 1 4 x) := fun x => k10.sI _ (by simp [pcs])
  have lx5 : ∀ x, Lx b n (sI A 1 4 x) B t p := fun x => k1.cA (Or.inr rfl)
  by_cases w0 : wd t 0 = true
  · by_cases f : B.1 78 53 = 0
    · have hb := g53.mpr f
      have hn0 := k9 hb
      obtain ⟨A2, v, A3, v', B3, x1, x2, x3, x4, x5⟩ := N_line0 (F := F) (G := G) hF hd (A := sI A 1 4 ((A.1 1 4) ||| (1 <<< (nI 0 &&& 31)))) hdA hn0 (lx5 _) k2 k3 k4 k5 (dr5 _) (fm5 _) (Bq_lo (by omega) k8 rfl) (ag5 _) k11 w0
      obtain ⟨A', B', y1, y2, y3⟩ := E_any (F := F) (G := G) hF hd x5
      rw [R_lineW tc w0 (by decide), m_0 tm hk w0 f]
      unfold j_R_readLine_22
      rw [mb_0, bd_some, if_pos hb, if_neg (show ¬ (1 : Int32) = 0 by decide), lt_eq, x1, bd_some, if_pos (show nI 0 = (0 : Int32) from rfl), x2, gd_t hd, x3, bd2_some, lt_eq, x4, bd2_some, lt_eq, y1, y2]
      exact ⟨A', B', rfl, rfl, y3⟩
    · exact L_no hd h (R_lineW tc w0 (by decide)) (by rw [mb_0, if_neg (fun q => f (g53.mp q))]) (m_no tm hk (fun q => f q.2) (fun q => absurd q.1 (wd_one w0 (by decide))) (fun q => absurd q.1 (wd_one w0 (by decide))) (fun q => absurd q.1 (wd_one w0 (by decide))) (fun q => absurd q.1 (wd_one w0 (by decide))) (fun q => absurd q.1 (wd_one w0 (by decide))) (fun q => absurd q.1 (wd_one w0 (by decide))) (fun q => absurd q.1 (wd_one w0 (by decide))))
  by_cases w1 : wd t 1 = true
  · by_cases f : (4 : Int32) ≤ B.1 78 40
    · exact L_no hd h (R_lineW tc w1 (by decide)) (by rw [mb_1 hd hdA, hp5, if_pos (by rw [← h40]; exact f)]) (m_no tm hk (fun q => absurd q.1 (wd_one w1 (by decide))) (fun q => q.2 f) (fun q => absurd q.1 (wd_one w1 (by decide))) (fun q => absurd q.1 (wd_one w1 (by decide))) (fun q => absurd q.1 (wd_one w1 (by decide))) (fun q => absurd q.1 (wd_one w1 (by decide))) (fun q => absurd q.1 (wd_one w1 (by decide))) (fun q => absurd q.1 (wd_one w1 (by decide))))
    · have hlt : np < 4 := by
        rw [h40] at f
        by_cases q : np < 4
        · exact q
        · exact absurd (nI_le (a := 4) (b := np) (by omega) (by omega)) f
      obtain ⟨A2, A3, B3, x1, x2, x3, x4⟩ := Part_line (F := F) (G := G) hF hd (A := sI A 1 4 ((A.1 1 4) ||| (1 <<< (nI 1 &&& 31)))) hdA (lx5 _) k2 k3 k4 k5 (dr5 _) (fm5 _) (Bq_lo (by omega) k8 rfl) (ag5 _) k11 w1 hlt
      obtain ⟨A', B', y1, y2, y3⟩ := E_any (F := F) (G := G) hF hd x4
      rw [R_lineW tc w1 (by decide), m_1 tm hk w1 f]
      unfold j_R_readLine_22
      rw [mb_1 hd hdA, bd_some, if_neg (show ¬ (4 : Int32) ≤ A.1 d 5 by rw [hp5, ← h40]; exact f), if_neg (show ¬ (1 : Int32) = 0 by decide), lt_eq, x1, bd_some, if_neg (show ¬ nI 1 = (0 : Int32) by decide), if_pos (show nI 1 = (1 : Int32) from rfl), x2, bd_some, y1, x3, bd_some, y2]
      exact ⟨A', B', rfl, rfl, y3⟩
  by_cases w2 : wd t 2 = true
  · by_cases f : (10 : Int32) ≤ B.1 78 41
    · exact L_no hd h (R_lineW tc w2 (by decide)) (by rw [mb_2 hd hdA, hp6, if_pos (by rw [← h41]; exact f)]) (m_no tm hk (fun q => absurd q.1 (wd_one w2 (by decide))) (fun q => absurd q.1 (wd_one w2 (by decide))) (fun q => q.2 f) (fun q => absurd q.1 (wd_one w2 (by decide))) (fun q => absurd q.1 (wd_one w2 (by decide))) (fun q => absurd q.1 (wd_one w2 (by decide))) (fun q => absurd q.1 (wd_one w2 (by decide))) (fun q => absurd q.1 (wd_one w2 (by decide))))
    · have hlt : nn < 10 := by
        rw [h41] at f
        by_cases q : nn < 10
        · exact q
        · exact absurd (nI_le (a := 10) (b := nn) (by omega) (by omega)) f
      obtain ⟨A2, A3, B3, x1, x2, x3, x4⟩ := Note_line (F := F) (G := G) hF hd (A := sI A 1 4 ((A.1 1 4) ||| (1 <<< (nI 2 &&& 31)))) hdA (lx5 _) k2 k3 k4 k5 (dr5 _) (fm5 _) (Bq_lo (by omega) k8 rfl) (ag5 _) k11 w2 hlt
      obtain ⟨A', B', y1, y2, y3⟩ := E_any (F := F) (G := G) hF hd x4
      rw [R_lineW tc w2 (by decide), m_2 tm hk w2 f]
      unfold j_R_readLine_22
      rw [mb_2 hd hdA, bd_some, if_neg (show ¬ (10 : Int32) ≤ A.1 d 6 by rw [hp6, ← h41]; exact f), if_neg (show ¬ (1 : Int32) = 0 by decide), lt_eq, x1, bd_some, if_neg (show ¬ nI 2 = (0 : Int32) by decide), if_neg (show ¬ nI 2 = (1 : Int32) by decide), if_pos (show nI 2 = (2 : Int32) from rfl), x2, bd_some, y1, x3, bd_some, y2]
      exact ⟨A', B', rfl, rfl, y3⟩
  by_cases w3 : wd t 3 = true
  · by_cases f : B.1 78 24 = 0
    · have hb := g24.mpr f
      have lxA := lx5 ((A.1 1 4) ||| (1 <<< (nI 3 &&& 31)))
      have hc : A.1 (d + 9) 1 = 0 ∧ A.1 (d + 9) 0 = 0 := by
        rcases k7.2 with ⟨q1, q2, q3⟩ | ⟨q1, -⟩
        · exact ⟨q2, q3⟩
        · rw [f] at q1; exact absurd q1 (by decide)
      have h20 : B.1 78 20 = 0 := by
        obtain ⟨u, u1, u2, u3⟩ := k7.1
        rw [hc.2] at u2
        rw [u3, ← u2]
      have o1 : OkX b n (sI A 1 4 ((A.1 1 4) ||| (1 <<< (nI 3 &&& 31)))) B (sI A 1 4 ((A.1 1 4) ||| (1 <<< (nI 3 &&& 31)))) B t p := ⟨lxA, k2, k3, rfl, rfl, Ag.rf, Ag.rf⟩
      obtain ⟨A2, B2, t2, p2, s1, s2, s3, s4⟩ := P_step (G := G) hF o1 (wd_no w3).1 (wd_no w3).2
      have aA := s3.2.2.2.2.2.1
      have aB := s3.2.2.2.2.2.2
      have dr2 := (dr5 ((A.1 1 4) ||| (1 <<< (nI 3 &&& 31)))).x hd aA aB
      have hd2 : A2.2.2.2 = d := by rw [aA.1]; exact hdA
      have bq1 : Bq (sI A 1 4 ((A.1 1 4) ||| (1 <<< (nI 3 &&& 31)))) (sI B 78 24 1) := Bq_3 k8 rfl
      obtain ⟨A3, B3, x1, x2, x3⟩ := F_line (F := F) (G := G) hF hG hd hd2 s3.1 s3.2.1 s3.2.2.1 (by rw [aA.2.1 _ _ (xs_hi (by omega)), sI_at, if_neg (by omega)]; exact hc.2) (by rw [aA.2.1 _ _ (xs_hi (by omega)), sI_at, if_neg (by omega)]; exact hc.1) (by rw [aB.2.1 78 20 rfl]; exact h20)
      have eF : fM_formula F G B = some B3 := by
        unfold fM_formula
        rw [s2, bd_some]
        exact x2
      have fA2 : Ag (pcs d) (pcl d) A0 A2 := (ag5 _).tr (aA.mono (fun _ _ e => pcs_x e) (fun _ _ e => pcl_x e))
      have fB2 : Ag pms pml B0 (sI (sI (sI (sI (sI B2 78 24 1) 78 17 0) 78 19 0) 78 23 0) 78 22 0) := (((((k11.tr (aB.mono (fun _ _ e => pms_y e) (fun _ _ e => pml_y e))).sI _ rfl).sI _ rfl).sI _ rfl).sI _ rfl).sI _ rfl
      have eC : ∀ h k, ¬ (h = 78 ∧ (k = 24 ∨ k = 17 ∨ k = 19 ∨ k = 23 ∨ k = 22)) → (sI (sI (sI (sI (sI B2 78 24 1) 78 17 0) 78 19 0) 78 23 0) 78 22 0).1 h k = B2.1 h k := fun h k q => by rw [sI_at, if_neg (by omega), sI_at, if_neg (by omega), sI_at, if_neg (by omega), sI_at, if_neg (by omega), sI_at, if_neg (by omega)]
      have hmd : (∃ t' p', Md d A0 B0 b n A3 B3 t' p' ∧ rem n t' p' < rem n t p) ∨ LB d A0 B0 A3 B3 := by
        rcases x3 with ⟨t3, p3, u, q1, q2, q3⟩ | ⟨q1, q2⟩
        · obtain ⟨m1, m2, m3, m4, m5, m6, m7⟩ := q1
          have h24 : B3.1 78 24 = 1 := m7.2.1 78 24 rfl
          refine Or.inl ⟨t3, p3, ⟨np, nn, PN, NN, m1, m2, m3, ?_, ?_, dr2.cong (fun h k z1 z2 => m6.2.1 h k (fxs_dr hd z1 z2)) (fun h k z1 z2 => m6.2.2 h k (lxl_hi (by omega))) (fun k z1 z2 => (m7.2.1 78 k (fys_pms_39 z1 z2)).trans (eC 78 k (by omega))) (fun h k z1 z2 => (m7.2.1 h k (fys_88 z1 z2)).trans (eC h k (by omega))) (fun k => m7.2.2 80 k (lyl_hi (by omega))), q2.fm h24, bq1.cong ?_ ?_ (fun k z1 z2 => ?_), fA2.tr (m6.mono (fun _ _ e => fxs_pcs e) (fun _ _ e => pcl_x e)), fB2.tr (m7.mono (fun _ _ e => fys_pms e) (fun _ _ e => pml_y e))⟩, by omega⟩
          · rw [m4, s3.2.2.2.1]; exact k4
          · rw [m5, eC 78 3 (by omega), s3.2.2.2.2.1]; exact k5
          · rw [m6.2.1 1 4 (fxs_14 hd), aA.2.1 1 4 rfl]
          · rw [h24, sI_self]
          · rw [m7.2.1 78 k (fys_54 z1 z2), eC 78 k (by omega), aB.2.1 78 k (ys_78 (by omega)), sI_at, if_neg (by omega)]
        · obtain ⟨y1, y2, y3, y4⟩ := q1
          exact Or.inr ⟨y1, y2, ⟨⟨np, np4, by rw [y3.2.1 d 5 (fxs_dr hd (by omega) (by omega))]; exact dr2.2.2.1⟩, ⟨nn, nn10, by rw [y3.2.1 d 6 (fxs_dr hd (by omega) (by omega))]; exact dr2.2.2.2.2.1⟩, q2⟩, fA2.tr (y3.mono (fun _ _ e => fxs_pcs e) (fun _ _ e => pcl_x e)), fB2.tr (y4.mono (fun _ _ e => fys_pms e) (fun _ _ e => pml_y e))⟩
      obtain ⟨A', B', y1, y2, y3⟩ := E_any (F := F) (G := G) hF hd hmd
      rw [R_lineW tc w3 (by decide), m_3 tm hk w3 f]
      unfold j_R_readLine_22
      rw [mb_bit (by omega) (by omega), bd_some, if_pos hb, if_neg (show ¬ (1 : Int32) = 0 by decide), lt_eq, s1, bd_some, if_neg (show ¬ nI 3 = (0 : Int32) by decide), if_neg (show ¬ nI 3 = (1 : Int32) by decide), if_neg (show ¬ nI 3 = (2 : Int32) by decide), if_pos (show nI 3 = (3 : Int32) from rfl), x1, bd_some, y1, eF, bd_some, y2]
      exact ⟨A', B', rfl, rfl, y3⟩
    · exact L_no hd h (R_lineW tc w3 (by decide)) (by rw [mb_bit (by omega) (by omega), if_neg (fun q => f (g24.mp q))]) (m_no tm hk (fun q => absurd q.1 (wd_one w3 (by decide))) (fun q => absurd q.1 (wd_one w3 (by decide))) (fun q => absurd q.1 (wd_one w3 (by decide))) (fun q => f q.2) (fun q => absurd q.1 (wd_one w3 (by decide))) (fun q => absurd q.1 (wd_one w3 (by decide))) (fun q => absurd q.1 (wd_one w3 (by decide))) (fun q => absurd q.1 (wd_one w3 (by decide))))
  by_cases w4 : wd t 4 = true
  · by_cases f : B.1 78 54 = 0
    · have hb := g54.mpr f
      obtain ⟨A2, v, A3, v', B3, x1, x2, x3, x4, x5⟩ := N_line1 (F := F) (G := G) hF hd (A := sI A 1 4 ((A.1 1 4) ||| (1 <<< (nI 4 &&& 31)))) (B := sI B 78 54 1) hdA ((lx5 _).cB (by omega)) k2 k3 k4 k5 ((dr5 _).cong (fun _ _ _ _ => rfl) (fun _ _ _ _ => rfl) (fun k q1 q2 => by rw [sI_at, if_neg (by omega)]) (fun h k q1 q2 => by rw [sI_at, if_neg (by omega)]) (fun _ => rfl)) ((fm5 _).cong (fun _ _ _ _ => rfl) (fun h k q => by rw [sI_at, if_neg (by omega)])) (Bq_4 k8 rfl) (ag5 _) (k11.sI _ rfl) w4
      obtain ⟨A', B', y1, y2, y3⟩ := E_any (F := F) (G := G) hF hd x5
      rw [R_lineW tc w4 (by decide), m_4 tm hk w4 f]
      unfold j_R_readLine_22
      rw [mb_bit (by omega) (by omega), bd_some, if_pos hb, if_neg (show ¬ (1 : Int32) = 0 by decide), lt_eq, x1, bd_some, if_neg (show ¬ nI 4 = (0 : Int32) by decide), if_neg (show ¬ nI 4 = (1 : Int32) by decide), if_neg (show ¬ nI 4 = (2 : Int32) by decide), if_neg (show ¬ nI 4 = (3 : Int32) by decide), if_pos (show nI 4 = (4 : Int32) from rfl), x2, gd_t hd, x3, bd2_some, lt_eq, lt_eq, x4, bd2_some, lt_eq, y1, y2]
      exact ⟨A', B', rfl, rfl, y3⟩
    · exact L_no hd h (R_lineW tc w4 (by decide)) (by rw [mb_bit (by omega) (by omega), if_neg (fun q => f (g54.mp q))]) (m_no tm hk (fun q => absurd q.1 (wd_one w4 (by decide))) (fun q => absurd q.1 (wd_one w4 (by decide))) (fun q => absurd q.1 (wd_one w4 (by decide))) (fun q => absurd q.1 (wd_one w4 (by decide))) (fun q => f q.2) (fun q => absurd q.1 (wd_one w4 (by decide))) (fun q => absurd q.1 (wd_one w4 (by decide))) (fun q => absurd q.1 (wd_one w4 (by decide))))
  by_cases w5 : wd t 5 = true
  · by_cases f : B.1 78 55 = 0
    · have hb := g55.mpr f
      obtain ⟨A2, v, A3, v', B3, x1, x2, x3, x4, x5⟩ := N_line2 (F := F) (G := G) hF hd (A := sI A 1 4 ((A.1 1 4) ||| (1 <<< (nI 5 &&& 31)))) (B := sI B 78 55 1) hdA ((lx5 _).cB (by omega)) k2 k3 k4 k5 ((dr5 _).cong (fun _ _ _ _ => rfl) (fun _ _ _ _ => rfl) (fun k q1 q2 => by rw [sI_at, if_neg (by omega)]) (fun h k q1 q2 => by rw [sI_at, if_neg (by omega)]) (fun _ => rfl)) ((fm5 _).cong (fun _ _ _ _ => rfl) (fun h k q => by rw [sI_at, if_neg (by omega)])) (Bq_5 k8 rfl) (ag5 _) (k11.sI _ rfl) w5
      obtain ⟨A', B', y1, y2, y3⟩ := E_any (F := F) (G := G) hF hd x5
      rw [R_lineW tc w5 (by decide), m_5 tm hk w5 f]
      unfold j_R_readLine_22
      rw [mb_bit (by omega) (by omega), bd_some, if_pos hb, if_neg (show ¬ (1 : Int32) = 0 by decide), lt_eq, x1, bd_some, if_neg (show ¬ nI 5 = (0 : Int32) by decide), if_neg (show ¬ nI 5 = (1 : Int32) by decide), if_neg (show ¬ nI 5 = (2 : Int32) by decide), if_neg (show ¬ nI 5 = (3 : Int32) by decide), if_neg (show ¬ nI 5 = (4 : Int32) by decide), if_pos (show nI 5 = (5 : Int32) from rfl), x2, gd_t hd, x3, bd2_some, lt_eq, lt_eq, x4, bd2_some, lt_eq, y1, y2]
      exact ⟨A', B', rfl, rfl, y3⟩
    · exact L_no hd h (R_lineW tc w5 (by decide)) (by rw [mb_bit (by omega) (by omega), if_neg (fun q => f (g55.mp q))]) (m_no tm hk (fun q => absurd q.1 (wd_one w5 (by decide))) (fun q => absurd q.1 (wd_one w5 (by decide))) (fun q => absurd q.1 (wd_one w5 (by decide))) (fun q => absurd q.1 (wd_one w5 (by decide))) (fun q => absurd q.1 (wd_one w5 (by decide))) (fun q => f q.2) (fun q => absurd q.1 (wd_one w5 (by decide))) (fun q => absurd q.1 (wd_one w5 (by decide))))
  by_cases w6 : wd t 6 = true
  · by_cases f : B.1 78 56 = 0
    · have hb := g56.mpr f
      obtain ⟨A2, v, A3, v', B3, x1, x2, x3, x4, x5⟩ := N_line3 (F := F) (G := G) hF hd (A := sI A 1 4 ((A.1 1 4) ||| (1 <<< (nI 6 &&& 31)))) (B := sI B 78 56 1) hdA ((lx5 _).cB (by omega)) k2 k3 k4 k5 ((dr5 _).cong (fun _ _ _ _ => rfl) (fun _ _ _ _ => rfl) (fun k q1 q2 => by rw [sI_at, if_neg (by omega)]) (fun h k q1 q2 => by rw [sI_at, if_neg (by omega)]) (fun _ => rfl)) ((fm5 _).cong (fun _ _ _ _ => rfl) (fun h k q => by rw [sI_at, if_neg (by omega)])) (Bq_6 k8 rfl) (ag5 _) (k11.sI _ rfl) w6
      obtain ⟨A', B', y1, y2, y3⟩ := E_any (F := F) (G := G) hF hd x5
      rw [R_lineW tc w6 (by decide), m_6 tm hk w6 f]
      unfold j_R_readLine_22
      rw [mb_bit (by omega) (by omega), bd_some, if_pos hb, if_neg (show ¬ (1 : Int32) = 0 by decide), lt_eq, x1, bd_some, if_neg (show ¬ nI 6 = (0 : Int32) by decide), if_neg (show ¬ nI 6 = (1 : Int32) by decide), if_neg (show ¬ nI 6 = (2 : Int32) by decide), if_neg (show ¬ nI 6 = (3 : Int32) by decide), if_neg (show ¬ nI 6 = (4 : Int32) by decide), if_neg (show ¬ nI 6 = (5 : Int32) by decide), if_pos (show nI 6 = (6 : Int32) from rfl), x2, gd_t hd, x3, bd2_some, lt_eq, lt_eq, x4, bd2_some, lt_eq, y1, y2]
      exact ⟨A', B', rfl, rfl, y3⟩
    · exact L_no hd h (R_lineW tc w6 (by decide)) (by rw [mb_bit (by omega) (by omega), if_neg (fun q => f (g56.mp q))]) (m_no tm hk (fun q => absurd q.1 (wd_one w6 (by decide))) (fun q => absurd q.1 (wd_one w6 (by decide))) (fun q => absurd q.1 (wd_one w6 (by decide))) (fun q => absurd q.1 (wd_one w6 (by decide))) (fun q => absurd q.1 (wd_one w6 (by decide))) (fun q => absurd q.1 (wd_one w6 (by decide))) (fun q => f q.2) (fun q => absurd q.1 (wd_one w6 (by decide))))
  by_cases w7 : wd t 7 = true
  · by_cases f : B.1 78 57 = 0
    · have hb := g57.mpr f
      obtain ⟨A2, v, A3, v', B3, x1, x2, x3, x4, x5⟩ := N_line4 (F := F) (G := G) hF hd (A := sI A 1 4 ((A.1 1 4) ||| (1 <<< (nI 7 &&& 31)))) (B := sI B 78 57 1) hdA ((lx5 _).cB (by omega)) k2 k3 k4 k5 ((dr5 _).cong (fun _ _ _ _ => rfl) (fun _ _ _ _ => rfl) (fun k q1 q2 => by rw [sI_at, if_neg (by omega)]) (fun h k q1 q2 => by rw [sI_at, if_neg (by omega)]) (fun _ => rfl)) ((fm5 _).cong (fun _ _ _ _ => rfl) (fun h k q => by rw [sI_at, if_neg (by omega)])) (Bq_7 k8 rfl) (ag5 _) (k11.sI _ rfl) w7
      obtain ⟨A', B', y1, y2, y3⟩ := E_any (F := F) (G := G) hF hd x5
      rw [R_lineW tc w7 (by decide), m_7 tm hk w7 f]
      unfold j_R_readLine_22
      rw [mb_bit (by omega) (by omega), bd_some, if_pos hb, if_neg (show ¬ (1 : Int32) = 0 by decide), lt_eq, x1, bd_some, if_neg (show ¬ nI 7 = (0 : Int32) by decide), if_neg (show ¬ nI 7 = (1 : Int32) by decide), if_neg (show ¬ nI 7 = (2 : Int32) by decide), if_neg (show ¬ nI 7 = (3 : Int32) by decide), if_neg (show ¬ nI 7 = (4 : Int32) by decide), if_neg (show ¬ nI 7 = (5 : Int32) by decide), if_neg (show ¬ nI 7 = (6 : Int32) by decide), x2, gd_t hd, x3, bd2_some, lt_eq, lt_eq, x4, bd2_some, lt_eq, y1, y2]
      exact ⟨A', B', rfl, rfl, y3⟩
    · exact L_no hd h (R_lineW tc w7 (by decide)) (by rw [mb_bit (by omega) (by omega), if_neg (fun q => f (g57.mp q))]) (m_no tm hk (fun q => absurd q.1 (wd_one w7 (by decide))) (fun q => absurd q.1 (wd_one w7 (by decide))) (fun q => absurd q.1 (wd_one w7 (by decide))) (fun q => absurd q.1 (wd_one w7 (by decide))) (fun q => absurd q.1 (wd_one w7 (by decide))) (fun q => absurd q.1 (wd_one w7 (by decide))) (fun q => absurd q.1 (wd_one w7 (by decide))) (fun q => f q.2))
  -- no word that a line begins with
  have hno := m_no (F := F) (G := G) tm hk (fun q => w0 q.1) (fun q => w1 q.1) (fun q => w2 q.1) (fun q => w3 q.1) (fun q => w4 q.1) (fun q => w5 q.1) (fun q => w6 q.1) (fun q => w7 q.1)
  by_cases c : t.1 = 1 ∧ kwi t.2.2 < 21
  · have hw : wd t (kwi t.2.2) = true := by simp [wd, c.1]
    have h8 : 8 ≤ kwi t.2.2 := by
      rcases (by omega : 8 ≤ kwi t.2.2 ∨ kwi t.2.2 = 0 ∨ kwi t.2.2 = 1 ∨ kwi t.2.2 = 2 ∨ kwi t.2.2 = 3 ∨ kwi t.2.2 = 4 ∨ kwi t.2.2 = 5 ∨ kwi t.2.2 = 6 ∨ kwi t.2.2 = 7) with q | q | q | q | q | q | q | q | q
      · exact q
      · rw [q] at hw; exact absurd hw w0
      · rw [q] at hw; exact absurd hw w1
      · rw [q] at hw; exact absurd hw w2
      · rw [q] at hw; exact absurd hw w3
      · rw [q] at hw; exact absurd hw w4
      · rw [q] at hw; exact absurd hw w5
      · rw [q] at hw; exact absurd hw w6
      · rw [q] at hw; exact absurd hw w7
    exact L_no hd h (R_lineW tc hw c.2) (mb_hi h8 (by omega)) hno
  · have hr : fR_readLine F G A = j_R_readLine_22 F G A (-1) := by
      unfold fR_readLine
      rw [tc.1, if_neg (fun q => c (kind_w.mp q))]
    exact L_no hd h hr mb_m hno
end LU
